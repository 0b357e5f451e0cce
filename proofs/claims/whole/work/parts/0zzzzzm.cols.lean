/-! checking columns: items and orders, both -/
theorem settle_ok {F col m y : Nat} {T : Int32} {cs : CS} (h : CLM col m cs) (hy : y < m) : c_X2_settleType F cs col (nI y) T = some (sA cs 100 col y (if T = 2 then 2 else 1)) := by
  have m8 := h.m8
  obtain ⟨j, p⟩ := h.p100
  unfold c_X2_settleType c_X2_settleType_b23 c_X2_settleType_b24
  rw [ckE_ok h.e, ob_s, clm_has h hy, ob_s, if_neg (by decide), gA_ok h.e, p, ob_s]
  by_cases w : T = 2
  · rw [if_pos w, if_pos w, wA_n h.e100 p (by rw [h.l100]; omega) (by rw [h.l100]; omega), ob_s]
  · rw [if_neg w, if_neg w, wA_n h.e100 p (by rw [h.l100]; omega) (by rw [h.l100]; omega), ob_s]
theorem ty_set {y r : Int32} (h : TYR y r) : TYR (if y = 2 then 2 else 1) (if r = 0 then 1 else r) := by
  rcases h with ⟨h1, h2⟩ | ⟨h1, h2⟩ | ⟨h1, h2⟩
  · rw [h1, h2]; exact Or.inl ⟨by decide, by decide⟩
  · rw [h1, h2]; exact Or.inr (Or.inl ⟨by decide, by decide⟩)
  · rw [h1, h2]; exact Or.inl ⟨by decide, by decide⟩
def jC (q : Nat) : Prop := jR q ∨ q = 46 ∨ q = 80
/-- what checking the columns col of the SELECT e writes -/
def JC (t c col e : Nat) (cs : CS) (rs : RS) (cs' : CS) (rs' : RS) : Prop := (cs'.1 = cs.1) ∧ (∀ x j, ¬ (j = c ∧ (x = 72 ∨ x = 73)) → ¬ (j = t ∧ (x = 320 ∨ x = 321)) → ¬ (j = col ∧ x = 100) → AT cs cs' x j) ∧ (∀ x j, 64 ≤ x → x < 128 → kP cs' x j = kP cs x j ∧ kL cs' x j = kL cs x j) ∧ (FR jC rs rs') ∧ (∀ q j, (q = 46 ∨ q = 80) → ¬ (8 * e ≤ j ∧ j < 8 * (e + 1)) → rs'.2.2.1 q j = rs.2.2.1 q j) ∧ (∀ y, kA cs 65 c y ≠ 39 → kA cs' 72 c y = kA cs 72 c y)
theorem JC.c1 {t c col e : Nat} {cs : CS} {rs : RS} {cs' : CS} {rs' : RS} (h : JC t c col e cs rs cs' rs') : cs'.1 = cs.1 := h.1
theorem JC.a0 {t c col e : Nat} {cs : CS} {rs : RS} {cs' : CS} {rs' : RS} (h : JC t c col e cs rs cs' rs') : ∀ x j, ¬ (j = c ∧ (x = 72 ∨ x = 73)) → ¬ (j = t ∧ (x = 320 ∨ x = 321)) → ¬ (j = col ∧ x = 100) → AT cs cs' x j := h.2.1
theorem JC.pl {t c col e : Nat} {cs : CS} {rs : RS} {cs' : CS} {rs' : RS} (h : JC t c col e cs rs cs' rs') : ∀ x j, 64 ≤ x → x < 128 → kP cs' x j = kP cs x j ∧ kL cs' x j = kL cs x j := h.2.2.1
theorem JC.fr {t c col e : Nat} {cs : CS} {rs : RS} {cs' : CS} {rs' : RS} (h : JC t c col e cs rs cs' rs') : FR jC rs rs' := h.2.2.2.1
theorem JC.r8 {t c col e : Nat} {cs : CS} {rs : RS} {cs' : CS} {rs' : RS} (h : JC t c col e cs rs cs' rs') : ∀ q j, (q = 46 ∨ q = 80) → ¬ (8 * e ≤ j ∧ j < 8 * (e + 1)) → rs'.2.2.1 q j = rs.2.2.1 q j := h.2.2.2.2.1
theorem JC.s72 {t c col e : Nat} {cs : CS} {rs : RS} {cs' : CS} {rs' : RS} (h : JC t c col e cs rs cs' rs') : ∀ y, kA cs 65 c y ≠ 39 → kA cs' 72 c y = kA cs 72 c y := h.2.2.2.2.2
theorem JC.refl {t c col e : Nat} {cs : CS} {rs : RS} : JC t c col e cs rs cs rs := ⟨rfl, fun _ _ _ _ _ => AT.refl, fun _ _ _ _ => ⟨rfl, rfl⟩, FR.refl rs, fun _ _ _ _ => rfl, fun _ _ => rfl⟩
theorem JC.trans {t c col e : Nat} {a b d : CS} {x y w : RS} (h : JC t c col e a x b y) (g : JC t c col e b y d w) : JC t c col e a x d w := ⟨g.c1.trans h.c1, fun x j h1 h2 h3 => (h.a0 x j h1 h2 h3).trans (g.a0 x j h1 h2 h3), fun x j h1 h2 => ⟨(g.pl x j h1 h2).1.trans (h.pl x j h1 h2).1, (g.pl x j h1 h2).2.trans (h.pl x j h1 h2).2⟩, h.fr.trans g.fr, fun q j h1 h2 => (g.r8 q j h1 h2).trans (h.r8 q j h1 h2), fun v hv => (g.s72 v (by rw [(h.a0 65 c (by omega) (by omega) (by omega)).a]; exact hv)).trans (h.s72 v hv)⟩
theorem JC.jk {t c k col e lo hi Sl Sh : Nat} {cs cs' : CS} {rs rs' : RS} (h : JC t c col e cs rs cs' rs') (h1 : lo ≤ col) (h2 : col < hi) (h3 : Sl ≤ e) (h4 : e < Sh) : JK t c k lo hi Sl Sh cs rs cs' rs' := ⟨h.c1, fun x j hx => h.a0 x j (fun w => hx (Or.inl w)) (fun w => hx (Or.inr (Or.inl w))) (fun w => hx (by unfold kX; omega)), h.pl, h.fr.mono (fun q hq => by unfold jC jR at hq; unfold jK; omega), fun q j a1 a2 => h.r8 q j a1 (by omega), fun j _ => by rw [h.fr.a (k := 79) (by unfold jC jR; omega)], fun y hy _ => h.s72 y hy⟩
theorem JC.jf {t c col e : Nat} {cs cs' : CS} {rs rs' : RS} (j : JF t c cs rs cs' rs') : JC t c col e cs rs cs' rs' := by
  have w := JK.jf (k := 0) (lo := 0) (hi := 0) (Sl := 0) (Sh := 0) j
  exact ⟨j.c1, fun x y h1 h2 _ => j.a0 x y h1 h2, w.pl, j.fr.mono (fun q hq => Or.inl hq), fun q y h1 _ => w.r8 q y h1 (by omega), j.s72⟩
theorem JC.set {t c col e y : Nat} {v : Int32} {cs : CS} {rs : RS} : JC t c col e cs rs (sA cs 100 col y v) rs := ⟨rfl, fun x j _ _ h => AT.sA (by omega), fun _ _ _ _ => ⟨rfl, rfl⟩, FR.refl rs, fun _ _ _ _ => rfl, fun y _ => congrFun (AT.sA (by omega)).a y⟩
theorem JC.rI {t c col e q y : Nat} {v : Int32} {cs : CS} {rs : RS} (hq : q = 46 ∨ q = 80) (hy : y < 8) : JC t c col e cs rs cs (setI rs q (8 * e + y) v) := ⟨rfl, fun _ _ _ _ _ => AT.refl, fun _ _ _ _ => ⟨rfl, rfl⟩, FR.setI (Or.inr hq), fun q' j h1 h2 => sIa_n (by omega), fun _ _ => rfl⟩
/-- the roots of columns, in both -/
def CRT (n : Nat) (f : Nat → Int32) (M s : Nat) (V : VT) (w col m A b : Nat) (cs : CS) (rs : RS) : Prop := CLM col m cs ∧ ∀ y, y < m → ∃ r a, kA cs 97 col y = nI r ∧ rs.2.2.1 A (b + y) = nI r ∧ EXR n f M s V a r cs rs ∧ (2 ≤ w → ∀ z, a ≤ z → z ≤ r → ¬ AGC (vk V z))
theorem JC.tkf {t c col e : Nat} {cs cs' : CS} {rs rs' : RS} (j : JC t c col e cs rs cs' rs') : TKF cs rs cs' rs' := (j.jk (k := 0) (lo := 0) (hi := col + 1) (Sl := 0) (Sh := e + 1) (Nat.zero_le _) (by omega) (Nat.zero_le _) (by omega)).tkf
theorem CRT.jc {n : Nat} {f : Nat → Int32} {M s t c w col m A b e : Nat} {V : VT} {cs cs' : CS} {rs rs' : RS} (h : CRT n f M s V w col m A b cs rs) (j : JC t c col e cs rs cs' rs') (hA : A = 44 ∨ A = 47 ∨ A = 66) : CRT n f M s V w col m A b cs' rs' := by
  have a : ∀ x, 96 ≤ x → x ≤ 99 → AT cs cs' x col := fun x _ _ => j.a0 x col (by omega) (by omega) (by omega)
  refine ⟨h.1.kept (EM.of (congrArg (fun z => z.2.2) j.c1)) a (j.pl 100 col (by omega) (by omega)), fun y hy => ?_⟩
  obtain ⟨r, a', r1, r2, r3, r4⟩ := h.2 y hy
  exact ⟨r, a', by rw [(a 97 (by omega) (by omega)).a]; exact r1, by rw [j.fr.a (k := A) (by unfold jC jR; omega)]; exact r2, r3.f' j.tkf, r4⟩
/-- one column of the class -/
theorem col_st {n : Nat} {f : Nat → Int32} {M t c cap s k : Nat} {V : VT} {F u y col m r : Nat} {D : Nat → Prop} {cs c1 : CS} {r1 : RS} (ck : CK t c cap s k cs) (cm : CLM col m cs) (hy : y < m) (hr : r < s) (h97 : kA cs 97 col y = nI r) (e1 : c_X0_checkExpr F cs k (nI r) = some c1) (h1 : JH n f M t c cap s k V D c1 r1) (cm1 : CLM col m c1) (h97' : kA c1 97 col y = nI r) : c_X0_checkColumns_L2 F (u + 1) cs k col (nI y) = c_X0_checkColumns_L2 F u (sA c1 100 col y (if kA c1 73 c r = 2 then 2 else 1)) k col (nI (y + 1)) := by
  have m8 := cm.m8
  obtain ⟨j97, p97⟩ := cm.p97
  obtain ⟨j97', p97'⟩ := cm1.p97
  rw [c_X0_checkColumns_L2, gI_ok cm.e, ob_s, cm.sz, if_neg (nI_ge (by omega) (by omega)), ckE_ok cm.e, ob_s, clm_has cm hy, ob_s, if_neg (by decide), gA_ok cm.e, p97, ob_s, rA_n cm.e97 p97 (by rw [cm.l97]; omega) (by rw [cm.l97]; omega), ob_s, h97, ckE_ok ck.o, ob_s, e1, ob_s, gA_ok cm1.e, p97', ob_s, rA_n cm1.e97 p97' (by rw [cm1.l97]; omega) (by rw [cm1.l97]; omega), ob_s, h97', ckE_ok h1.ck.o, ob_s, ty_of h1 hr, ob_s, ckE_ok cm1.e, ob_s, settle_ok cm1 hy, ob_s, nI_1]
theorem col_end {F u y col m k : Nat} {cs : CS} (cm : CLM col m cs) (hy : m ≤ y) (h8 : y ≤ 8) : c_X0_checkColumns_L2 F (u + 1) cs k col (nI y) = some cs := by
  rw [c_X0_checkColumns_L2, gI_ok cm.e, ob_s, cm.sz, if_pos (nI_le hy (by omega))]
  rfl
/-- a type settled: nothing else moves -/
theorem JH.set {n : Nat} {f : Nat → Int32} {M t c cap s k : Nat} {V : VT} {D : Nat → Prop} {col e y : Nat} {v : Int32} {cs : CS} {rs : RS} (h : JH n f M t c cap s k V D cs rs) : JH n f M t c cap s k V D (sA cs 100 col y v) rs := h.mv0 (JC.jk (JC.set (e := e)) (lo := 0) (hi := col + 1) (Sl := 0) (Sh := e + 1) (Nat.zero_le _) (by omega) (Nat.zero_le _) (by omega)) rfl rfl rfl rfl rfl (fun z _ _ => congrFun (AT.sA (by omega)).a z) rfl
theorem JH.rI {n : Nat} {f : Nat → Int32} {M t c cap s k : Nat} {V : VT} {D : Nat → Prop} {q y : Nat} {v : Int32} {cs : CS} {rs : RS} (h : JH n f M t c cap s k V D cs rs) (hq : q = 46 ∨ q = 80) : JH n f M t c cap s k V D cs (setI rs q y v) := by
  have j : JC t c 0 (y / 8) cs rs cs (setI rs q (8 * (y / 8) + y % 8) v) := JC.rI hq (by omega)
  rw [show 8 * (y / 8) + y % 8 = y by omega] at j
  exact h.mv0 (j.jk (lo := 0) (hi := 1) (Sl := 0) (Sh := y / 8 + 1) (Nat.zero_le _) (by omega) (Nat.zero_le _) (by omega)) rfl rfl rfl rfl rfl (fun z _ _ => rfl) (funext (fun z => sIa_n (by omega)))
/-- behind a fault the class settles what it has -/
theorem cols_F {n : Nat} {f : Nat → Int32} {M t c cap s k : Nat} {V : VT} {F col m A b e0 w : Nat} (hF : 10000 ≤ F) (sk : SKV V s) (hs : s ≤ 120) (hA : A = 44 ∨ A = 47 ∨ A = 66) : ∀ (d y u : Nat) (D : Nat → Prop) (cs : CS) (rs : RS), m - y ≤ d → d < u → y ≤ m → JH n f M t c cap s k V D cs rs → rs.1 21 = 0 → CRT n f M s V w col m A b cs rs → ∃ cs', c_X0_checkColumns_L2 F u cs k col (nI y) = some cs' ∧ JH n f M t c cap s k V D cs' rs ∧ JC t c col e0 cs rs cs' rs := by
  intro d
  induction d with
  | zero =>
    intro y u D cs rs h1 h2 h3 h g0 cr
    have m8 := cr.1.m8
    obtain ⟨u, rfl⟩ : ∃ z, u = z + 1 := ⟨u - 1, by omega⟩
    exact ⟨cs, col_end cr.1 (by omega) (by omega), h, JC.refl⟩
  | succ d ih =>
    intro y u D cs rs h1 h2 h3 h g0 cr
    have m8 := cr.1.m8
    obtain ⟨u, rfl⟩ : ∃ z, u = z + 1 := ⟨u - 1, by omega⟩
    by_cases hy : m ≤ y
    · exact ⟨cs, col_end cr.1 hy (by omega), h, JC.refl⟩
    · obtain ⟨r, a, r1, r2, r3, r4⟩ := cr.2 y (by omega)
      have hr := r3.rs'
      obtain ⟨c1, r1', e1, e2, e3, e4, -⟩ := expr_H (so := 0) (e := 0) (ns := 0) (nm := 0) (mg := 0) (w := w) hF sk hs r3 r4 h (fun g => absurd (g0.symm.trans g) (by decide))
      have er : r1' = rs := by
        have q : m_judge F 300 rs (nI r) = some rs := tj_f (n := 299) g0
        exact Option.some.inj (e2.symm.trans q)
      rw [er] at e3 e4
      have e4' : JH n f M t c cap s k V D c1 rs := ⟨e4.ck, e4.x, e4.v, e4.u, e4.st.imp (fun q => ⟨q.1, q.2.1, fun z hz => q.2.2 z (Or.inl hz)⟩) id, fun z hz => e4.dl z (Or.inl hz)⟩
      have j1 : JC t c col e0 cs rs c1 rs := JC.jf e3
      have cr1 := cr.jc j1 hA
      obtain ⟨rr, a', q1, q2, q3, q4⟩ := cr1.2 y (by omega)
      have er' : rr = r := (nI_eq (by have := q3.rs'; omega) (by omega)).mp (q2.symm.trans r2)
      rw [er'] at q1
      have h2 : JH n f M t c cap s k V D (sA c1 100 col y (if kA c1 73 c r = 2 then 2 else 1)) rs := e4'.set (e := e0)
      have j2 : JC t c col e0 c1 rs (sA c1 100 col y (if kA c1 73 c r = 2 then 2 else 1)) rs := JC.set
      obtain ⟨cs', t1, t2, t3⟩ := ih (y + 1) u D _ rs (by omega) (by omega) (by omega) h2 g0 (cr1.jc j2 hA)
      refine ⟨cs', ?_, t2, (j1.trans j2).trans t3⟩
      rw [col_st h.ck cr.1 (by omega) hr r1 e1 e4' cr1.1 q1]
      exact t1
/-- the nodes of the columns' roots -/
def COV (V : VT) (col m : Nat) (cs : CS) (D : Nat → Prop) : Prop := ∀ y r a, y < m → kA cs 97 col y = nI r → r < 1000 → a ≤ r → vf V r = nI a → ∀ z, a ≤ z → z ≤ r → D z
theorem EXR.vf {n : Nat} {f : Nat → Int32} {M s a r : Nat} {V : VT} {cs : CS} {rs : RS} (h : EXR n f M s V a r cs rs) : a ≤ r ∧ vf V r = nI a := by
  have ar := (TR.rng _ _ _ _ h.tr).1
  have tr := h.tr
  obtain ⟨d, hd⟩ : ∃ d, r + 1 - a = d + 1 := ⟨r - a, by omega⟩
  rw [hd] at tr
  exact ⟨ar, tr.2.1⟩
/-- the items of a SELECT -/
theorem items_L {n : Nat} {f : Nat → Int32} {M t c cap s k : Nat} {V : VT} {F so e ns nm mg w it m : Nat} {T : TG_judgeQuery} {u3 : Int32} (hF : 10000 ≤ F) (sk : SKV V s) (hs : s ≤ 120) (he : e < 60) {I : CS → RS → Prop} (hI1 : ∀ cs rs, I cs rs → MD n f M k so e ns nm mg V w cs rs) (hI2 : ∀ cs rs cs' rs', I cs rs → JF t c cs rs cs' rs' → I cs' rs') (hw : ∀ (cs1 : CS) (rs1 : RS) (z : Nat) (v v' : Int32), z < 8 → I cs1 rs1 → I (sA cs1 100 it z v) (setI rs1 46 (8 * e + z) v')) : ∀ (d y u u' : Nat) (D : Nat → Prop) (cs : CS) (rs : RS), m - y ≤ d → d < u → d < u' → y ≤ m → JH n f M t c cap s k V D cs rs → rs.1 21 = 1 → I cs rs → CRT n f M s V w it m 44 (8 * e) cs rs → rs.2.2.1 36 e = nI m → (∀ z, z < y → TYR (kA cs 100 it z) (rs.2.2.1 46 (8 * e + z))) → ∃ cs' rs' D', c_X0_checkColumns_L2 F u cs k it (nI y) = some cs' ∧ m_judgeSelect_L627 F T u' rs (nI e) u3 (nI y) = m_judgeSelect_b704 F T rs' (nI e) u3 ∧ JH n f M t c cap s k V D' cs' rs' ∧ JC t c it e cs rs cs' rs' ∧ (rs'.1 21 = 1 → I cs' rs' ∧ (∀ z, D z → D' z) ∧ (∀ z r a, y ≤ z → z < m → kA cs 97 it z = nI r → r < s → a ≤ r → vf V r = nI a → ∀ x, a ≤ x → x ≤ r → D' x) ∧ ∀ z, z < m → TYR (kA cs' 100 it z) (rs'.2.2.1 46 (8 * e + z))) := by
  intro d
  induction d with
  | zero =>
    intro y u u' D cs rs h1 h2 h3 h4 h g1 md cr r36 ty
    have m8 := cr.1.m8
    obtain ⟨u, rfl⟩ : ∃ z, u = z + 1 := ⟨u - 1, by omega⟩
    obtain ⟨u', rfl⟩ : ∃ z, u' = z + 1 := ⟨u' - 1, by omega⟩
    refine ⟨cs, rs, D, col_end cr.1 (by omega) (by omega), ?_, h, JC.refl, fun _ => ⟨md, fun _ hz => hz, fun z r a z1 z2 => absurd z2 (by omega), fun z hz => ty z (by omega)⟩⟩
    rw [m_judgeSelect_L627, rdI_n he (by decide), ob_s, r36, if_pos (nI_le (by omega) (by omega))]
  | succ d ih =>
    intro y u u' D cs rs h1 h2 h3 h4 h g1 md cr r36 ty
    have m8 := cr.1.m8
    obtain ⟨u, rfl⟩ : ∃ z, u = z + 1 := ⟨u - 1, by omega⟩
    obtain ⟨u', rfl⟩ : ∃ z, u' = z + 1 := ⟨u' - 1, by omega⟩
    by_cases hy : m ≤ y
    · refine ⟨cs, rs, D, col_end cr.1 hy (by omega), ?_, h, JC.refl, fun _ => ⟨md, fun _ hz => hz, fun z r a z1 z2 => absurd z2 (by omega), fun z hz => ty z (by omega)⟩⟩
      rw [m_judgeSelect_L627, rdI_n he (by decide), ob_s, r36, if_pos (nI_le hy (by omega))]
    · obtain ⟨r, a, q1, q2, q3, q4⟩ := cr.2 y (by omega)
      have hr := q3.rs'
      obtain ⟨c1, r1, e1, e2, e3, e4, e5, -⟩ := expr_H hF sk hs q3 q4 h (fun _ => hI1 _ _ md)
      have j1 : JC t c it e cs rs c1 r1 := JC.jf e3
      have cr1 := cr.jc j1 (Or.inl rfl)
      obtain ⟨rr, a', p1, p2, p3, p4⟩ := cr1.2 y (by omega)
      have r44 : r1.2.2.1 44 = rs.2.2.1 44 := e3.fr.a (by unfold jR; omega)
      have er' : rr = r := (nI_eq (by have := p3.rs'; omega) (by omega)).mp (p2.symm.trans (by rw [r44]; exact q2))
      rw [er'] at p1
      obtain ⟨v1, hv1⟩ : ∃ v, v = (if kA c1 73 c r = 2 then (2 : Int32) else 1) := ⟨_, rfl⟩
      obtain ⟨v2, hv2⟩ : ∃ v, v = (if r1.2.2.1 31 r = 0 then (1 : Int32) else r1.2.2.1 31 r) := ⟨_, rfl⟩
      have cst := col_st (u := u) h.ck cr.1 (by omega) hr q1 e1 e4 cr1.1 p1
      rw [← hv1] at cst
      have rst : m_judgeSelect_L627 F T (u' + 1) rs (nI e) u3 (nI y) = m_judgeSelect_L627 F T u' (setI r1 46 (8 * e + y) v2) (nI e) u3 (nI (y + 1)) := by
        rw [m_judgeSelect_L627, rdI_n he (by decide), ob_s, r36, if_neg (nI_ge (by omega) (by omega)), if_neg (by rw [g1]; decide), nI_8, nI_add, rdI_n (by omega) (by decide), ob_s, q2, e2, ob_s, rdI_n (by omega) (by decide), ob_s]
        unfold m_judgeSelect_b697
        by_cases z : r1.2.2.1 31 r = 0
        · rw [if_pos z, wrI_n (by omega) (by decide), ob_s, nI_1, hv2, if_pos z]
        · rw [if_neg z, ob_s, wrI_n (by omega) (by decide), ob_s, nI_1, hv2, if_neg z]
      have j2 : JC t c it e c1 r1 (sA c1 100 it y v1) (setI r1 46 (8 * e + y) v2) := JC.set.trans (JC.rI (Or.inl rfl) (by omega))
      have h2 : JH n f M t c cap s k V (fun z => D z ∨ (a ≤ z ∧ z ≤ r)) (sA c1 100 it y v1) (setI r1 46 (8 * e + y) v2) := (e4.set (e := e)).rI (Or.inl rfl)
      have cr2 := cr1.jc j2 (Or.inl rfl)
      have jj := j1.trans j2
      have c100 : ∀ z, kA (sA c1 100 it y v1) 100 it z = if z = y then v1 else kA cs 100 it z := fun z => by
        rw [kA_s, ← (e3.a0 100 it (by omega) (by omega)).a]
        by_cases w1 : z = y
        · rw [w1, pk_us, if_pos rfl]
        · rw [pk_un w1, if_neg w1]
      have r46 : ∀ z, z ≠ y → (setI r1 46 (8 * e + y) v2).2.2.1 46 (8 * e + z) = rs.2.2.1 46 (8 * e + z) := fun z hz => (sIa_n (by omega)).trans (congrFun (e3.fr.a (by unfold jR; omega)) _)
      have r46y : (setI r1 46 (8 * e + y) v2).2.2.1 46 (8 * e + y) = v2 := pk_us
      have r36' : (setI r1 46 (8 * e + y) v2).2.2.1 36 e = nI m := by
        rw [sIa_n (by omega), e3.fr.a (k := 36) (by unfold jR; omega)]
        exact r36
      rcases e4.st with ⟨s1, s2, s3⟩ | ⟨s1, s2, s3, s4⟩
      · have md2 := hw c1 r1 y v1 v2 (by omega) (hI2 _ _ _ _ md e3)
        obtain ⟨cs', rs', D', t1, t2, t3, t4, t5⟩ := ih (y + 1) u u' (fun z => D z ∨ (a ≤ z ∧ z ≤ r)) _ _ (by omega) (by omega) (by omega) (by omega) h2 s2 md2 cr2 r36' (fun z hz => by
          rw [c100 z]
          by_cases w1 : z = y
          · rw [w1, if_pos rfl, r46y, hv1, hv2]
            exact ty_set (e5 s2)
          · rw [if_neg w1, r46 z w1]
            exact ty z (by omega))
        refine ⟨cs', rs', D', cst.trans t1, rst.trans t2, t3, jj.trans t4, fun g => ?_⟩
        obtain ⟨b1, b2, b3, b4⟩ := t5 g
        refine ⟨b1, fun z hz => b2 z (Or.inl hz), fun z r' a' z1 z2 z3 zr za z4 x x1 x2 => ?_, b4⟩
        by_cases w1 : z = y
        · rw [w1, q1] at z3
          have e1' : r = r' := (nI_eq (by omega) (by omega)).mp z3
          rw [← e1', q3.vf.2] at z4
          have e2' : a = a' := (nI_eq (by have := q3.vf.1; omega) (by omega)).mp z4
          exact b2 x (Or.inr ⟨by omega, by omega⟩)
        · exact b3 z r' a' (by omega) z2 (by rw [(jj.a0 97 it (by omega) (by omega) (by omega)).a]; exact z3) zr za z4 x x1 x2
      · have g0 : (setI r1 46 (8 * e + y) v2).1 21 = 0 := s2
        obtain ⟨cs', t1, t2, t3⟩ := cols_F (col := it) (m := m) (A := 44) (b := 8 * e) (e0 := e) (w := w) hF sk hs (Or.inl rfl) d (y + 1) u _ _ _ (by omega) (by omega) (by omega) h2 g0 cr2
        refine ⟨cs', _, _, cst.trans t1, rst.trans ?_, t2, jj.trans t3, fun g => absurd (g0.symm.trans g) (by decide)⟩
        obtain ⟨u', rfl⟩ : ∃ z, u' = z + 1 := ⟨u' - 1, by omega⟩
        rw [m_judgeSelect_L627, rdI_n he (by decide), ob_s, r36']
        by_cases z : nI m ≤ nI (y + 1)
        · rw [if_pos z]
        · rw [if_neg z, if_pos g0]

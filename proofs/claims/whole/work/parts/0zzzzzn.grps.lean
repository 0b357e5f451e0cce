/-! checking the groups of a SELECT, both -/
/-- the names of the groups -/
def GNM (n : Nat) (f : Nat → Int32) (M gr m e : Nat) (cs : CS) (rs : RS) : Prop := ∀ z, z < m → ∃ q, q ≤ M ∧ rs.2.2.1 48 (8 * e + z) = nI q ∧ NM9 n f q (kB cs 98 gr z) cs rs ∧ kA cs 99 gr z = kA cs 353 9 q
theorem GNM.f' {n : Nat} {f : Nat → Int32} {M gr m e : Nat} {cs cs' : CS} {rs rs' : RS} (h : GNM n f M gr m e cs rs) (x : TKF cs rs cs' rs') (a8 : kB cs' 98 gr = kB cs 98 gr) (a9 : kA cs' 99 gr = kA cs 99 gr) (r : rs'.2.2.1 48 = rs.2.2.1 48) : GNM n f M gr m e cs' rs' := fun z hz => by
  obtain ⟨q, q1, q2, q3, q4⟩ := h z hz
  exact ⟨q, q1, by rw [r]; exact q2, by rw [a8]; exact q3.f x, by rw [a9, x.2.1]; exact q4⟩
theorem tell_f {F : Nat} {a b : Int32} {rs : RS} (g : rs.1 21 = 0) : m_tell F rs a b = some rs := by
  unfold m_tell m_tell_b22
  rw [if_pos g]
theorem l452_st {F gr m e y j u : Nat} {n : Nat} {f : Nat → Int32} {M : Nat} {T : TG_judgeQuery} {u3 : Int32} {rc : RS → Int32 → Int32 → Int32 → Option RS} {cs : CS} {rs : RS} (hF : 10000 ≤ F) (he : e < 60) (hm : m ≤ 8) (hy : y < m) (tx : TX n f M cs rs) (gn : GNM n f M gr m e cs rs) (hj : j < y) : ∃ pl, (∀ q, rs.2.2.1 48 (8 * e + y) = nI q → q ≤ M → pl = rs.2.2.1 15 q) ∧ m_judgeSelect_L452 F T rc (u + 1) rs (nI e) u3 (nI y) (nI j) = if kB cs 98 gr y = kB cs 98 gr j then Option.bind (m_tell F rs 2 pl) fun r => m_judgeSelect_L452 F T rc u r (nI e) u3 (nI y) (nI (j + 1)) else m_judgeSelect_L452 F T rc u rs (nI e) u3 (nI y) (nI (j + 1)) := by
  have n2 := tx.n2
  have mn := tx.mn
  obtain ⟨q, q1, q2, q3, q4⟩ := gn y hy
  obtain ⟨p, p1, p2, p3, p4⟩ := gn j (by omega)
  obtain ⟨b, e1, o⟩ := nm_same hF tx q1 p1 q3.nm p3.nm
  refine ⟨rs.2.2.1 15 q, fun q' w1 w2 => by rw [(nI_eq (by omega) (by omega)).mp (w1.symm.trans q2)], ?_⟩
  rw [m_judgeSelect_L452, if_neg (nI_ge (by omega) (by omega)), nI_8, nI_add, nI_add, rdI_n (by omega) (by decide), ob_s, rdI_n (by omega) (by decide), ob_s, q2, p2, e1, ob_s]
  unfold m_judgeSelect_b512
  rcases o with ⟨o1, o2⟩ | ⟨o1, o2⟩
  · rw [o1, if_neg (by decide), if_pos o2, ob_s, rdI_n (by omega) (by decide), ob_s, nI_1]
  · rw [o1, if_pos rfl, if_neg o2, nI_1]
theorem l452_end {F e y j u : Nat} {T : TG_judgeQuery} {u3 : Int32} {rc : RS → Int32 → Int32 → Int32 → Option RS} {rs : RS} (hj : y ≤ j) (h8 : j ≤ 8) : m_judgeSelect_L452 F T rc (u + 1) rs (nI e) u3 (nI y) (nI j) = rc rs (nI e) u3 (nI (y + 1)) := by
  rw [m_judgeSelect_L452, if_pos (nI_le hj (by omega)), nI_1]
/-- behind a fault -/
theorem l452_f {F gr m e y : Nat} {n : Nat} {f : Nat → Int32} {M : Nat} {T : TG_judgeQuery} {u3 : Int32} {rc : RS → Int32 → Int32 → Int32 → Option RS} {cs : CS} {rs : RS} (hF : 10000 ≤ F) (he : e < 60) (hm : m ≤ 8) (hy : y < m) (tx : TX n f M cs rs) (gn : GNM n f M gr m e cs rs) (g : rs.1 21 = 0) : ∀ (d j u : Nat), y - j ≤ d → d < u → j ≤ y → m_judgeSelect_L452 F T rc u rs (nI e) u3 (nI y) (nI j) = rc rs (nI e) u3 (nI (y + 1)) := by
  intro d
  induction d with
  | zero =>
    intro j u h1 h2 h3
    obtain ⟨u, rfl⟩ : ∃ z, u = z + 1 := ⟨u - 1, by omega⟩
    exact l452_end (by omega) (by omega)
  | succ d ih =>
    intro j u h1 h2 h3
    obtain ⟨u, rfl⟩ : ∃ z, u = z + 1 := ⟨u - 1, by omega⟩
    by_cases w : y ≤ j
    · exact l452_end w (by omega)
    · obtain ⟨pl, -, st⟩ := l452_st (F := F) (u := u) (T := T) (u3 := u3) (rc := rc) hF he hm hy tx gn (show j < y by omega)
      have r := ih (j + 1) u (by omega) (by omega) (by omega)
      rw [st, tell_f g, ob_s]
      by_cases z : kB cs 98 gr y = kB cs 98 gr j
      · rw [if_pos z, r]
      · rw [if_neg z, r]
/-- one group against those before it -/
theorem l452_ok {n : Nat} {f : Nat → Int32} {M t c cap s k : Nat} {V : VT} {D : Nat → Prop} {F gr m e y : Nat} {T : TG_judgeQuery} {u3 : Int32} {rc : RS → Int32 → Int32 → Int32 → Option RS} {cs : CS} {rs : RS} (hF : 10000 ≤ F) (he : e < 60) (hm : m ≤ 8) (hy : y < m) (h : JH n f M t c cap s k V D cs rs) (gn : GNM n f M gr m e cs rs) : ∀ (d j u : Nat), y - j ≤ d → d < u → j ≤ y → ((∀ z, j ≤ z → z < y → kB cs 98 gr y ≠ kB cs 98 gr z) ∧ m_judgeSelect_L452 F T rc u rs (nI e) u3 (nI y) (nI j) = rc rs (nI e) u3 (nI (y + 1))) ∨ ((∃ z, j ≤ z ∧ z < y ∧ kB cs 98 gr y = kB cs 98 gr z) ∧ ∃ cs' rs', c_X9_refuse F cs t 2 (kA cs 99 gr y) = some cs' ∧ JF t c cs rs cs' rs' ∧ JH n f M t c cap s k V D cs' rs' ∧ rs'.1 21 = 0 ∧ m_judgeSelect_L452 F T rc u rs (nI e) u3 (nI y) (nI j) = rc rs' (nI e) u3 (nI (y + 1))) := by
  intro d
  induction d with
  | zero =>
    intro j u h1 h2 h3
    obtain ⟨u, rfl⟩ : ∃ z, u = z + 1 := ⟨u - 1, by omega⟩
    exact Or.inl ⟨fun z z1 z2 => absurd z2 (by omega), l452_end (by omega) (by omega)⟩
  | succ d ih =>
    intro j u h1 h2 h3
    obtain ⟨u, rfl⟩ : ∃ z, u = z + 1 := ⟨u - 1, by omega⟩
    by_cases w : y ≤ j
    · exact Or.inl ⟨fun z z1 z2 => absurd z2 (by omega), l452_end w (by omega)⟩
    · obtain ⟨pl, hpl, st⟩ := l452_st (F := F) (u := u) (T := T) (u3 := u3) (rc := rc) hF he hm hy h.x gn (show j < y by omega)
      by_cases z : kB cs 98 gr y = kB cs 98 gr j
      · refine Or.inr ⟨⟨j, Nat.le_refl _, by omega, z⟩, ?_⟩
        obtain ⟨q, q1, q2, q3, q4⟩ := gn y hy
        have ep : pl = kA cs 99 gr y := by
          obtain ⟨p, κ, tk, -⟩ := h.x.tk q q1
          rw [hpl q q2 q1, q4, tk.pc, tk.pr]
        obtain ⟨cs', rs', t1, t2, t3, t4, t5, t6, t7, t8⟩ := h.tell (F := F) (a := 2) (b := kA cs 99 gr y) (by decide)
        have gn' : GNM n f M gr m e cs' rs' := gn.f' t3.tkf (t8 98 gr (by omega)).b (t8 99 gr (by omega)).a (by rw [t7])
        refine ⟨cs', rs', t1, t3, t4, t5, ?_⟩
        rw [st, if_pos z, ep, t2, ob_s]
        exact l452_f hF he hm hy t4.x gn' t5 d (j + 1) u (by omega) (by omega) (by omega)
      · rw [st, if_neg z]
        rcases ih (j + 1) u (by omega) (by omega) (by omega) with ⟨a1, a2⟩ | ⟨⟨z', a1, a2, a3⟩, a4⟩
        · refine Or.inl ⟨fun z' z1 z2 => ?_, a2⟩
          by_cases w1 : z' = j
          · rw [w1]; exact z
          · exact a1 z' (by omega) z2
        · exact Or.inr ⟨⟨z', by omega, a2, a3⟩, a4⟩
/-- one group of the class -/
theorem grp_st {n : Nat} {f : Nat → Int32} {M t c cap s k : Nat} {V : VT} {F u y gr m r so : Nat} {D : Nat → Prop} {v : Int32} {cs c1 c2 : CS} {r1 : RS} (hF : 10000 ≤ F) (ck : CK t c cap s k cs) (cm : CLM gr m cs) (hy : y < m) (hr : r < s) (h97 : kA cs 97 gr y = nI r) (e1 : c_X0_checkExpr F cs k (nI r) = some c1) (h1 : JH n f M t c cap s k V D c1 r1) (cm1 : CLM gr m c1) (h97' : kA c1 97 gr y = nI r) (hv : v = if kA c1 73 c r = 2 then 2 else 1) (e2 : c2 = sA c1 100 gr y v) : ((∃ z, z < y ∧ kB c1 98 gr y = kB c1 98 gr z) ∧ c_X0_checkGroups_L74 F (u + 1) cs k so (some gr) (nI y) = Option.bind (c_X9_refuse F c2 t 2 (kA c1 99 gr y)) fun c3 => c_X0_checkGroups_L74 F u c3 k so (some gr) (nI (y + 1))) ∨ ((∀ z, z < y → kB c1 98 gr y ≠ kB c1 98 gr z) ∧ c_X0_checkGroups_L74 F (u + 1) cs k so (some gr) (nI y) = c_X0_checkGroups_L74 F u c2 k so (some gr) (nI (y + 1))) := by
  have m8 := cm.m8
  obtain ⟨j97, p97⟩ := cm.p97
  obtain ⟨j97', p97'⟩ := cm1.p97
  have cm2 : CLM gr m c2 := by
    rw [e2]
    exact cm1.kept (EM.of rfl) (fun x x1 x2 => AT.sA (by omega)) ⟨rfl, rfl⟩
  have ck2 : CK t c cap s k c2 := by rw [e2]; exact h1.ck.sA
  obtain ⟨j98, p98⟩ := cm2.p98
  obtain ⟨j99, p99⟩ := cm2.p99
  have b98 : kB c2 98 gr = kB c1 98 gr := by rw [e2]; rfl
  have b99 : kA c2 99 gr = kA c1 99 gr := by rw [e2]; exact (AT.sA (by omega)).a
  have pre : c_X0_checkGroups_L74 F (u + 1) cs k so (some gr) (nI y) = Option.bind (c_X2_find F c2 gr (kB c1 98 gr y) 0) fun v_38 => if nI y ≤ v_38 then c_X0_checkGroups_L74 F u c2 k so (some gr) (nI (y + 1)) else Option.bind (c_X9_refuse F c2 t 2 (kA c1 99 gr y)) fun c3 => c_X0_checkGroups_L74 F u c3 k so (some gr) (nI (y + 1)) := by
    rw [c_X0_checkGroups_L74, ob_s, gI_ok cm.e, ob_s, cm.sz, if_neg (nI_ge (by omega) (by omega)), ckE_ok cm.e, ob_s, clm_has cm hy, ob_s, if_neg (by decide), gA_ok cm.e, p97, ob_s, rA_n cm.e97 p97 (by rw [cm.l97]; omega) (by rw [cm.l97]; omega), ob_s, h97, ckE_ok ck.o, ob_s, e1, ob_s, gA_ok cm1.e, p97', ob_s, rA_n cm1.e97 p97' (by rw [cm1.l97]; omega) (by rw [cm1.l97]; omega), ob_s, h97', ckE_ok h1.ck.o, ob_s, ty_of h1 hr, ob_s, ckE_ok cm1.e, ob_s, settle_ok cm1 hy, ob_s, ← hv, ← e2, gA_ok cm2.e, p98, ob_s, rB_n cm2.e98 p98 (by rw [cm2.l98]; omega) (by rw [cm2.l98]; omega), ob_s, b98, ckE_ok cm2.e, ob_s]
    unfold c_X0_checkGroups_b144
    congr 1
    funext v_38
    by_cases w : nI y ≤ v_38
    · rw [if_pos w, if_pos w, nI_1]
    · rw [if_neg w, if_neg w, gR_ok ck2.o, ob_s, gA_ok cm2.e, p99, ob_s, rA_n cm2.e99 p99 (by rw [cm2.l99]; omega) (by rw [cm2.l99]; omega), ob_s, b99, ck2.r32, ob_s, ckE_ok ck2.ot, ob_s, nI_1]
  rw [pre, find_0]
  rcases find_L (F := F) (v := kB c1 98 gr y) cm2 m 0 F (by omega) (by omega) (by omega) with ⟨y0, a1, a2, a3, a4, a5⟩ | ⟨a1, -⟩
  · rw [b98] at a3 a4
    rw [a5, ob_s]
    by_cases w : y0 = y
    · refine Or.inr ⟨fun z z1 z2 => a4 z (by omega) (by omega) z2.symm, ?_⟩
      rw [w, if_pos (Int32.le_refl _)]
    · have lt : y0 < y := by
        by_cases w2 : y0 < y
        · exact w2
        · exact absurd rfl (a4 y (by omega) (by omega))
      refine Or.inl ⟨⟨y0, lt, a3.symm⟩, ?_⟩
      rw [if_neg (nI_ge lt (by omega))]
  · rw [b98] at a1
    exact absurd rfl (a1 y (by omega) hy)
theorem grp_end {F u y gr m k so : Nat} {cs : CS} (cm : CLM gr m cs) (hy : m ≤ y) (h8 : y ≤ 8) : c_X0_checkGroups_L74 F (u + 1) cs k so (some gr) (nI y) = c_X0_checkGroups_L152 F F cs k so gr 0 := by
  rw [c_X0_checkGroups_L74, ob_s, gI_ok cm.e, ob_s, cm.sz, if_pos (nI_le hy (by omega))]
  rfl
theorem CRT.mv {n : Nat} {f : Nat → Int32} {M s w col m A b : Nat} {V : VT} {cs cs' : CS} {rs rs' : RS} (h : CRT n f M s V w col m A b cs rs) (em : EM cs cs') (a : ∀ x, 96 ≤ x → x ≤ 100 → AT cs cs' x col) (r : rs'.2.2.1 A = rs.2.2.1 A) (x : TKF cs rs cs' rs') : CRT n f M s V w col m A b cs' rs' := by
  refine ⟨h.1.keep em a, fun y hy => ?_⟩
  obtain ⟨q, a', r1, r2, r3, r4⟩ := h.2 y hy
  exact ⟨q, a', by rw [(a 97 (by omega) (by omega)).a]; exact r1, by rw [r]; exact r2, r3.f' x, r4⟩
/-- behind a fault the class goes on with its groups -/
theorem grps_F {n : Nat} {f : Nat → Int32} {M t c cap s k : Nat} {V : VT} {F gr m e so : Nat} (hF : 10000 ≤ F) (sk : SKV V s) (hs : s ≤ 120) : ∀ (d y u : Nat) (D : Nat → Prop) (cs : CS) (rs : RS), m - y ≤ d → d < u → y ≤ m → JH n f M t c cap s k V D cs rs → rs.1 21 = 0 → CRT n f M s V 0 gr m 47 (8 * e) cs rs → ∃ cs', c_X0_checkGroups_L74 F u cs k so (some gr) (nI y) = c_X0_checkGroups_L152 F F cs' k so gr 0 ∧ JH n f M t c cap s k V D cs' rs ∧ JC t c gr e cs rs cs' rs := by
  intro d
  induction d with
  | zero =>
    intro y u D cs rs h1 h2 h3 h g0 cr
    have m8 := cr.1.m8
    obtain ⟨u, rfl⟩ : ∃ z, u = z + 1 := ⟨u - 1, by omega⟩
    exact ⟨cs, grp_end cr.1 (by omega) (by omega), h, JC.refl⟩
  | succ d ih =>
    intro y u D cs rs h1 h2 h3 h g0 cr
    have m8 := cr.1.m8
    obtain ⟨u, rfl⟩ : ∃ z, u = z + 1 := ⟨u - 1, by omega⟩
    by_cases hy : m ≤ y
    · exact ⟨cs, grp_end cr.1 hy (by omega), h, JC.refl⟩
    · obtain ⟨r, a, r1, r2, r3, r4⟩ := cr.2 y (by omega)
      have hr := r3.rs'
      obtain ⟨c1, r1', e1, e2, e3, e4, -⟩ := expr_H (so := 0) (e := 0) (ns := 0) (nm := 0) (mg := 0) (w := 0) hF sk hs r3 r4 h (fun g => absurd (g0.symm.trans g) (by decide))
      have er : r1' = rs := by
        have q : m_judge F 300 rs (nI r) = some rs := tj_f (n := 299) g0
        exact Option.some.inj (e2.symm.trans q)
      rw [er] at e3 e4
      have e4' : JH n f M t c cap s k V D c1 rs := ⟨e4.ck, e4.x, e4.v, e4.u, e4.st.imp (fun q => ⟨q.1, q.2.1, fun z hz => q.2.2 z (Or.inl hz)⟩) id, fun z hz => e4.dl z (Or.inl hz)⟩
      have j1 : JC t c gr e cs rs c1 rs := JC.jf e3
      have cr1 := cr.jc j1 (Or.inr (Or.inl rfl))
      obtain ⟨rr, a', q1, q2, q3, q4⟩ := cr1.2 y (by omega)
      have er' : rr = r := (nI_eq (by have := q3.rs'; omega) (by omega)).mp (q2.symm.trans r2)
      rw [er'] at q1
      obtain ⟨v, hv⟩ : ∃ v, v = (if kA c1 73 c r = 2 then (2 : Int32) else 1) := ⟨_, rfl⟩
      obtain ⟨c2, hc2⟩ : ∃ x, x = sA c1 100 gr y v := ⟨_, rfl⟩
      have h2 : JH n f M t c cap s k V D c2 rs := by rw [hc2]; exact e4'.set (e := e)
      have j2 : JC t c gr e c1 rs c2 rs := by rw [hc2]; exact JC.set
      have f2 : kI c2 320 t ≠ 0 := by
        rcases h2.st with ⟨q, q', -⟩ | ⟨q, -⟩
        · exact absurd (g0.symm.trans q') (by decide)
        · exact q
      obtain ⟨cs', t1, t2, t3⟩ := ih (y + 1) u D c2 rs (by omega) (by omega) (by omega) h2 g0 (cr1.jc j2 (Or.inr (Or.inl rfl)))
      refine ⟨cs', ?_, t2, (j1.trans j2).trans t3⟩
      rcases grp_st (u := u) (so := so) hF h.ck cr.1 (show y < m by omega) hr r1 e1 e4' cr1.1 q1 hv hc2 with ⟨-, w⟩ | ⟨-, w⟩
      · rw [w, ref_ckf h2.ck f2, ob_s]; exact t1
      · rw [w]; exact t1
/-- all groups: good before -/
theorem grps_L {n : Nat} {f : Nat → Int32} {M t c cap s k : Nat} {V : VT} {F so e ns gr m : Nat} {T : TG_judgeQuery} {u3 : Int32} (hF : 10000 ≤ F) (sk : SKV V s) (hs : s ≤ 120) (he : e < 60) {I : CS → RS → Prop} (hI1 : ∀ cs rs, I cs rs → MD n f M k so e ns 0 0 V 0 cs rs) (hI2 : ∀ cs rs cs' rs', I cs rs → JF t c cs rs cs' rs' → I cs' rs') (hw : ∀ (cs1 : CS) (rs1 : RS) (z : Nat) (v v' : Int32), z < 8 → I cs1 rs1 → I (sA cs1 100 gr z v) (setI rs1 80 (8 * e + z) v')) : ∀ (d y u u' : Nat) (D : Nat → Prop) (cs : CS) (rs : RS), m - y ≤ d → d < u → d < u' → y ≤ m → JH n f M t c cap s k V D cs rs → rs.1 21 = 1 → I cs rs → CRT n f M s V 0 gr m 47 (8 * e) cs rs → GNM n f M gr m e cs rs → rs.2.2.1 39 e = nI m → (∀ z, z < y → TYR (kA cs 100 gr z) (rs.2.2.1 80 (8 * e + z))) → ∃ cs' rs' D', c_X0_checkGroups_L74 F u cs k so (some gr) (nI y) = c_X0_checkGroups_L152 F F cs' k so gr 0 ∧ m_judgeSelect_L378 F T u' rs (nI e) u3 (nI y) = m_judgeSelect_b524 F T rs' (nI e) u3 ∧ JH n f M t c cap s k V D' cs' rs' ∧ JC t c gr e cs rs cs' rs' ∧ (rs'.1 21 = 1 → I cs' rs' ∧ (∀ z, D z → D' z) ∧ (∀ z r a, y ≤ z → z < m → kA cs 97 gr z = nI r → r < s → a ≤ r → vf V r = nI a → ∀ x, a ≤ x → x ≤ r → D' x) ∧ ∀ z, z < m → TYR (kA cs' 100 gr z) (rs'.2.2.1 80 (8 * e + z))) := by
  have r_end : ∀ y u' rs, m ≤ y → y ≤ 8 → m ≤ 8 → rs.2.2.1 39 e = nI m → m_judgeSelect_L378 F T (u' + 1) rs (nI e) u3 (nI y) = m_judgeSelect_b524 F T rs (nI e) u3 := fun y u' rs h1 h2 h3 h4 => by
    rw [m_judgeSelect_L378, rdI_n he (by decide), ob_s, h4, if_pos (nI_le h1 (by omega))]
  have r_f : ∀ y u' (rs : RS), y ≤ 8 → m ≤ 8 → rs.2.2.1 39 e = nI m → rs.1 21 = 0 → m_judgeSelect_L378 F T (u' + 1) rs (nI e) u3 (nI y) = m_judgeSelect_b524 F T rs (nI e) u3 := fun y u' rs h1 h2 h4 g => by
    rw [m_judgeSelect_L378, rdI_n he (by decide), ob_s, h4]
    by_cases z : nI m ≤ nI y
    · rw [if_pos z]
    · rw [if_neg z, if_pos g]
  intro d
  induction d with
  | zero =>
    intro y u u' D cs rs h1 h2 h3 h4 h g1 md cr gn r39 ty
    have m8 := cr.1.m8
    obtain ⟨u, rfl⟩ : ∃ z, u = z + 1 := ⟨u - 1, by omega⟩
    obtain ⟨u', rfl⟩ : ∃ z, u' = z + 1 := ⟨u' - 1, by omega⟩
    exact ⟨cs, rs, D, grp_end cr.1 (by omega) (by omega), r_end y u' rs (by omega) (by omega) m8 r39, h, JC.refl, fun _ => ⟨md, fun _ hz => hz, fun z r a z1 z2 => absurd z2 (by omega), fun z hz => ty z (by omega)⟩⟩
  | succ d ih =>
    intro y u u' D cs rs h1 h2 h3 h4 h g1 md cr gn r39 ty
    have m8 := cr.1.m8
    obtain ⟨u, rfl⟩ : ∃ z, u = z + 1 := ⟨u - 1, by omega⟩
    obtain ⟨u', rfl⟩ : ∃ z, u' = z + 1 := ⟨u' - 1, by omega⟩
    by_cases hy : m ≤ y
    · exact ⟨cs, rs, D, grp_end cr.1 hy (by omega), r_end y u' rs hy (by omega) m8 r39, h, JC.refl, fun _ => ⟨md, fun _ hz => hz, fun z r a z1 z2 => absurd z2 (by omega), fun z hz => ty z (by omega)⟩⟩
    · obtain ⟨r, a, q1, q2, q3, q4⟩ := cr.2 y (by omega)
      have hr := q3.rs'
      obtain ⟨c1, r1, e1, e2, e3, e4, e5, -⟩ := expr_H hF sk hs q3 q4 h (fun _ => hI1 _ _ md)
      have j1 : JC t c gr e cs rs c1 r1 := JC.jf e3
      have cr1 := cr.jc j1 (Or.inr (Or.inl rfl))
      obtain ⟨rr, a', p1, p2, p3, p4⟩ := cr1.2 y (by omega)
      have r47 : r1.2.2.1 47 = rs.2.2.1 47 := e3.fr.a (by unfold jR; omega)
      have er' : rr = r := (nI_eq (by have := p3.rs'; omega) (by omega)).mp (p2.symm.trans (by rw [r47]; exact q2))
      rw [er'] at p1
      obtain ⟨v1, hv1⟩ : ∃ v, v = (if kA c1 73 c r = 2 then (2 : Int32) else 1) := ⟨_, rfl⟩
      obtain ⟨v2, hv2⟩ : ∃ v, v = (if r1.2.2.1 31 r = 0 then (1 : Int32) else r1.2.2.1 31 r) := ⟨_, rfl⟩
      obtain ⟨c2, hc2⟩ : ∃ x, x = sA c1 100 gr y v1 := ⟨_, rfl⟩
      obtain ⟨r2, hr2⟩ : ∃ x, x = setI r1 80 (8 * e + y) v2 := ⟨_, rfl⟩
      have rst : m_judgeSelect_L378 F T (u' + 1) rs (nI e) u3 (nI y) = m_judgeSelect_L452 F T (m_judgeSelect_L378 F T u') F r2 (nI e) u3 (nI y) (nI 0) := by
        rw [m_judgeSelect_L378, rdI_n he (by decide), ob_s, r39, if_neg (nI_ge (by omega) (by omega)), if_neg (by rw [g1]; decide), nI_8, nI_add, rdI_n (by omega) (by decide), ob_s, q2, e2, ob_s, rdI_n (by omega) (by decide), ob_s]
        unfold m_judgeSelect_b448
        by_cases z : r1.2.2.1 31 r = 0
        · rw [if_pos z, wrI_n (by omega) (by decide), ob_s, hr2, hv2, if_pos z]
          rfl
        · rw [if_neg z, ob_s, wrI_n (by omega) (by decide), ob_s, hr2, hv2, if_neg z]
          rfl
      have j2 : JC t c gr e c1 r1 c2 r2 := by rw [hc2, hr2]; exact JC.set.trans (JC.rI (Or.inr rfl) (by omega))
      have h2 : JH n f M t c cap s k V (fun z => D z ∨ (a ≤ z ∧ z ≤ r)) c2 r2 := by rw [hc2, hr2]; exact (e4.set (e := e)).rI (Or.inr rfl)
      have cr2 := cr1.jc j2 (Or.inr (Or.inl rfl))
      have jj := j1.trans j2
      have b98 : kB c2 98 gr = kB cs 98 gr := (jj.a0 98 gr (by omega) (by omega) (by omega)).b
      have b98' : kB c1 98 gr = kB cs 98 gr := (j1.a0 98 gr (by omega) (by omega) (by omega)).b
      have b99 : kA c2 99 gr = kA cs 99 gr := (jj.a0 99 gr (by omega) (by omega) (by omega)).a
      have b99' : kA c1 99 gr = kA cs 99 gr := (j1.a0 99 gr (by omega) (by omega) (by omega)).a
      have gn2 : GNM n f M gr m e c2 r2 := gn.f' jj.tkf b98 b99 (jj.fr.a (by unfold jC jR; omega))
      have c100 : ∀ z, kA c2 100 gr z = if z = y then v1 else kA cs 100 gr z := fun z => by
        rw [hc2, kA_s, ← (e3.a0 100 gr (by omega) (by omega)).a]
        by_cases w1 : z = y
        · rw [w1, pk_us, if_pos rfl]
        · rw [pk_un w1, if_neg w1]
      have r80 : ∀ z, z ≠ y → r2.2.2.1 80 (8 * e + z) = rs.2.2.1 80 (8 * e + z) := fun z hz => by
        rw [hr2]
        exact (sIa_n (by omega)).trans (congrFun (e3.fr.a (by unfold jR; omega)) _)
      have r80y : r2.2.2.1 80 (8 * e + y) = v2 := by rw [hr2]; exact pk_us
      have r39' : r2.2.2.1 39 e = nI m := by
        rw [jj.fr.a (k := 39) (by unfold jC jR; omega)]
        exact r39
      have cst := grp_st (u := u) (so := so) hF h.ck cr.1 (show y < m by omega) hr q1 e1 e4 cr1.1 p1 hv1 hc2
      rw [b98', b99'] at cst
      have lo := l452_ok (F := F) (T := T) (u3 := u3) (rc := m_judgeSelect_L378 F T u') hF he m8 (show y < m by omega) h2 gn2 y 0 F (by omega) (by omega) (by omega)
      rw [b98, b99] at lo
      -- behind a fault in this round
      have bad : ∀ (c3 : CS) (r3 : RS) (D3 : Nat → Prop), JC t c gr e cs rs c3 r3 → JH n f M t c cap s k V D3 c3 r3 → CRT n f M s V 0 gr m 47 (8 * e) c3 r3 → r3.1 21 = 0 → r3.2.2.1 39 e = nI m → c_X0_checkGroups_L74 F (u + 1) cs k so (some gr) (nI y) = c_X0_checkGroups_L74 F u c3 k so (some gr) (nI (y + 1)) → m_judgeSelect_L378 F T (u' + 1) rs (nI e) u3 (nI y) = m_judgeSelect_L378 F T u' r3 (nI e) u3 (nI (y + 1)) → ∃ cs' rs' D', c_X0_checkGroups_L74 F (u + 1) cs k so (some gr) (nI y) = c_X0_checkGroups_L152 F F cs' k so gr 0 ∧ m_judgeSelect_L378 F T (u' + 1) rs (nI e) u3 (nI y) = m_judgeSelect_b524 F T rs' (nI e) u3 ∧ JH n f M t c cap s k V D' cs' rs' ∧ JC t c gr e cs rs cs' rs' ∧ (rs'.1 21 = 1 → I cs' rs' ∧ (∀ z, D z → D' z) ∧ (∀ z r a, y ≤ z → z < m → kA cs 97 gr z = nI r → r < s → a ≤ r → vf V r = nI a → ∀ x, a ≤ x → x ≤ r → D' x) ∧ ∀ z, z < m → TYR (kA cs' 100 gr z) (rs'.2.2.1 80 (8 * e + z))) := fun c3 r3 D3 w1 w2 w3 w4 w5 w6 w7 => by
        obtain ⟨cs', t1, t2, t3⟩ := grps_F (gr := gr) (m := m) (e := e) (so := so) hF sk hs d (y + 1) u D3 c3 r3 (by omega) (by omega) (by omega) w2 w4 w3
        obtain ⟨u', rfl⟩ : ∃ z, u' = z + 1 := ⟨u' - 1, by omega⟩
        exact ⟨cs', r3, D3, w6.trans t1, w7.trans (r_f (y + 1) u' r3 (by omega) m8 w5 w4), t2, w1.trans t3, fun g => absurd (w4.symm.trans g) (by decide)⟩
      rcases lo with ⟨l1, l2⟩ | ⟨⟨z, l1, l2, l3⟩, c3, r3, l4, l5, l6, l7, l8⟩
      · have cst' : c_X0_checkGroups_L74 F (u + 1) cs k so (some gr) (nI y) = c_X0_checkGroups_L74 F u c2 k so (some gr) (nI (y + 1)) := by
          rcases cst with ⟨⟨z, z1, z2⟩, -⟩ | ⟨-, w⟩
          · exact absurd z2 (l1 z (by omega) z1)
          · exact w
        rcases h2.st with ⟨s1, s2, s3⟩ | ⟨s1, s2, s3, s4⟩
        · have s2' : r1.1 21 = 1 := by rw [hr2] at s2; exact s2
          have md2 : I c2 r2 := by rw [hc2, hr2]; exact hw c1 r1 y v1 v2 (by omega) (hI2 _ _ _ _ md e3)
          obtain ⟨cs', rs', D', t1, t2, t3, t4, t5⟩ := ih (y + 1) u u' (fun z => D z ∨ (a ≤ z ∧ z ≤ r)) c2 r2 (by omega) (by omega) (by omega) (by omega) h2 s2 md2 cr2 gn2 r39' (fun z hz => by
            rw [c100 z]
            by_cases w1 : z = y
            · rw [w1, if_pos rfl, r80y, hv1, hv2]
              exact ty_set (e5 s2')
            · rw [if_neg w1, r80 z w1]
              exact ty z (by omega))
          refine ⟨cs', rs', D', cst'.trans t1, (rst.trans l2).trans t2, t3, jj.trans t4, fun g => ?_⟩
          obtain ⟨b1, b2, b3, b4⟩ := t5 g
          refine ⟨b1, fun z hz => b2 z (Or.inl hz), fun z r' a' z1 z2 z3 zr za z4 x x1 x2 => ?_, b4⟩
          by_cases w1 : z = y
          · rw [w1, q1] at z3
            have e1' : r = r' := (nI_eq (by omega) (by omega)).mp z3
            rw [← e1', q3.vf.2] at z4
            have e2' : a = a' := (nI_eq (by have := q3.vf.1; omega) (by omega)).mp z4
            exact b2 x (Or.inr ⟨by omega, by omega⟩)
          · exact b3 z r' a' (by omega) z2 (by rw [(jj.a0 97 gr (by omega) (by omega) (by omega)).a]; exact z3) zr za z4 x x1 x2
        · exact bad c2 r2 _ jj h2 cr2 s2 r39' cst' (rst.trans l2)
      · have cst' : c_X0_checkGroups_L74 F (u + 1) cs k so (some gr) (nI y) = c_X0_checkGroups_L74 F u c3 k so (some gr) (nI (y + 1)) := by
          rcases cst with ⟨-, w⟩ | ⟨w, -⟩
          · rw [w, l4, ob_s]
          · exact absurd l3 (w z l2)
        have j3 : JC t c gr e c2 r2 c3 r3 := JC.jf l5
        exact bad c3 r3 _ (jj.trans j3) l6 (cr2.jc j3 (Or.inr (Or.inl rfl))) l7 (by rw [l5.fr.a (k := 39) (by unfold jR; omega)]; exact r39') cst' (rst.trans l8)

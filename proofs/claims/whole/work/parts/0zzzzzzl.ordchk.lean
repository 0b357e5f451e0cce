/-! kept or not is told of every QUERY that was read; a QUERY's order by, checked -/
theorem SEL.kept {X : Nat → CS → Prop} {n : Nat} {f : Nat → Int32} {M c s B S Q d lo hi ql so e : Nat} {cs : CS} {rs : RS} (ih : ∀ Su Sl Ql lo hi oq q, QR X n f M c s S Q cs rs d Su Sl Ql lo hi oq q → ∃ b, KQ d q b rs) (h : SEL (QB B (QR X n f M c s S Q cs rs d)) X n f M c s lo hi ql so e cs rs) : ∃ b ns, ns ≤ 3 ∧ rs.2.2.1 37 e = nI ns ∧ e < 60 ∧ KSr d e ns b rs := by
  obtain ⟨it, gr, mi, ns, mg, os, -⟩ := h
  obtain ⟨b, u, v, b0, b1, b2, u0, u1, b3⟩ := os.so
  have n3 := os.n3
  have e60 := os.e60
  have go : ∀ m, m ≤ ns → ∃ b', KSr d e m b' rs := by
    intro m
    induction m with
    | zero => exact fun _ => ⟨1, Or.inl ⟨rfl, fun j hj => absurd hj (by omega)⟩⟩
    | succ m ihm =>
      intro hm
      obtain ⟨b', w⟩ := ihm (by omega)
      obtain ⟨oo, o1, o2⟩ := b3 m (by omega)
      rcases o2.b.kd with ⟨dd, h9, -, w1, -, -, -, w2⟩ | ⟨-, y2, -, -, oi, qi, lo', -, -, y7, -, y9⟩
      · have hl : rs.2.2.1 49 (3 * e + m) ≠ -1 := by rw [w1]; exact nI_nm1 (by omega)
        rcases w2 with ⟨-, w3⟩ | ⟨w3, -⟩
        · exact ⟨_, w.add (KO.leaf (b := 0) (by omega) hl w3 (Or.inl rfl))⟩
        · exact ⟨_, w.add (KO.leaf (b := 1) (by omega) hl w3 (Or.inr rfl))⟩
      · obtain ⟨bq, w3⟩ := ih _ _ _ _ _ _ _ y9.2
        exact ⟨_, w.add (KO.inner (by omega) y2 y7 w3)⟩
  obtain ⟨b', w⟩ := go ns (Nat.le_refl _)
  exact ⟨b', ns, n3, os.rn, e60, w⟩
theorem QR.kept {X : Nat → CS → Prop} {n : Nat} {f : Nat → Int32} {M c s S Q : Nat} {cs : CS} {rs : RS} : ∀ (d Su Sl Ql lo hi oq q : Nat), QR X n f M c s S Q cs rs d Su Sl Ql lo hi oq q → ∃ b, KQ d q b rs
  | 0, _, _, _, _, _, _, _, h => h.elim
  | d + 1, Su, Sl, Ql, lo, hi, oq, q, h => by
    obtain ⟨L, m, lb, ub, wb, l1, l2, l3, l4, l5, l6, l7, l8, l9, l10, l11, l12, l13, lw, l14, l15⟩ := h.2.ls
    have go : ∀ j, j ≤ m → ∃ b', KQr d q j b' rs := by
      intro j
      induction j with
      | zero => exact fun _ => ⟨1, Or.inl ⟨rfl, fun i hi' => absurd hi' (by omega)⟩⟩
      | succ j ihj =>
        intro hj
        obtain ⟨b', w⟩ := ihj (by omega)
        obtain ⟨so, e, k1, k2, k0, k3, k4, k5⟩ := l14 j (by omega)
        obtain ⟨b2, ns, n1, n2, n3, n4⟩ := SEL.kept (fun Su Sl Ql lo hi oq q w => QR.kept d Su Sl Ql lo hi oq q w) k4
        exact ⟨_, w.add n4.b ⟨e, ns, n3, n1, k2, n2, n4⟩⟩
    obtain ⟨b', w⟩ := go m (Nat.le_refl _)
    exact ⟨b', w.run h.2.qb.2.2 l11 l9⟩
def jP (q : Nat) : Prop := jR q ∨ q = 76 ∨ q = 77
/-- what checking the order by with the columns oc writes -/
def JQ (t c k oc : Nat) (cs : CS) (rs : RS) (cs' : CS) (rs' : RS) : Prop := (cs'.1 = cs.1) ∧ (∀ x j, ¬ (j = c ∧ (x = 72 ∨ x = 73)) → ¬ (j = t ∧ (x = 320 ∨ x = 321)) → ¬ (j = oc ∧ x = 100) → ¬ (j = k ∧ x = 37) → AT cs cs' x j) ∧ (∀ x j, 64 ≤ x → x < 128 → kP cs' x j = kP cs x j ∧ kL cs' x j = kL cs x j) ∧ (FR jP rs rs') ∧ (∀ y, kA cs 65 c y ≠ 39 → kA cs' 72 c y = kA cs 72 c y)
theorem JQ.c1 {t c k oc : Nat} {cs : CS} {rs : RS} {cs' : CS} {rs' : RS} (h : JQ t c k oc cs rs cs' rs') : cs'.1 = cs.1 := h.1
theorem JQ.a0 {t c k oc : Nat} {cs : CS} {rs : RS} {cs' : CS} {rs' : RS} (h : JQ t c k oc cs rs cs' rs') : ∀ x j, ¬ (j = c ∧ (x = 72 ∨ x = 73)) → ¬ (j = t ∧ (x = 320 ∨ x = 321)) → ¬ (j = oc ∧ x = 100) → ¬ (j = k ∧ x = 37) → AT cs cs' x j := h.2.1
theorem JQ.pl {t c k oc : Nat} {cs : CS} {rs : RS} {cs' : CS} {rs' : RS} (h : JQ t c k oc cs rs cs' rs') : ∀ x j, 64 ≤ x → x < 128 → kP cs' x j = kP cs x j ∧ kL cs' x j = kL cs x j := h.2.2.1
theorem JQ.fr {t c k oc : Nat} {cs : CS} {rs : RS} {cs' : CS} {rs' : RS} (h : JQ t c k oc cs rs cs' rs') : FR jP rs rs' := h.2.2.2.1
theorem JQ.s72 {t c k oc : Nat} {cs : CS} {rs : RS} {cs' : CS} {rs' : RS} (h : JQ t c k oc cs rs cs' rs') : ∀ y, kA cs 65 c y ≠ 39 → kA cs' 72 c y = kA cs 72 c y := h.2.2.2.2
theorem JQ.refl {t c k oc : Nat} {cs : CS} {rs : RS} : JQ t c k oc cs rs cs rs := ⟨rfl, fun _ _ _ _ _ _ => AT.refl, fun _ _ _ _ => ⟨rfl, rfl⟩, FR.refl rs, fun _ _ => rfl⟩
theorem JQ.trans {t c k oc : Nat} {a b d : CS} {x y w : RS} (h : JQ t c k oc a x b y) (g : JQ t c k oc b y d w) : JQ t c k oc a x d w := ⟨g.c1.trans h.c1, fun x j h1 h2 h3 h4 => (h.a0 x j h1 h2 h3 h4).trans (g.a0 x j h1 h2 h3 h4), fun x j h1 h2 => ⟨(g.pl x j h1 h2).1.trans (h.pl x j h1 h2).1, (g.pl x j h1 h2).2.trans (h.pl x j h1 h2).2⟩, h.fr.trans g.fr, fun v hv => (g.s72 v (by rw [(h.a0 65 c (by omega) (by omega) (by omega) (by omega)).a]; exact hv)).trans (h.s72 v hv)⟩
theorem JQ.jf {t c k oc : Nat} {cs cs' : CS} {rs rs' : RS} (j : JF t c cs rs cs' rs') : JQ t c k oc cs rs cs' rs' := ⟨j.c1, fun x y h1 h2 _ _ => j.a0 x y h1 h2, (JK.jf (k := 0) (lo := 0) (hi := 0) (Sl := 0) (Sh := 0) j).pl, j.fr.mono (fun q hq => Or.inl hq), j.s72⟩
theorem JQ.cls {t c k oc e : Nat} {cs cs' : CS} {rs : RS} (j : JC t c oc e cs rs cs' rs) : JQ t c k oc cs rs cs' rs := ⟨j.c1, fun x y h1 h2 h3 _ => j.a0 x y h1 h2 h3, j.pl, FR.refl rs, j.s72⟩
theorem JQ.sf {t c k oc : Nat} {v w : Int32} {cs : CS} {rs : RS} : JQ t c k oc cs rs cs (setF (setF rs 76 v) 77 w) := ⟨rfl, fun _ _ _ _ _ _ => AT.refl, fun _ _ _ _ => ⟨rfl, rfl⟩, (FR.setF (Or.inr (Or.inl rfl))).trans (FR.setF (Or.inr (Or.inr rfl))), fun _ _ => rfl⟩
theorem JQ.jk {t c k oc lo hi Sl Sh : Nat} {cs cs' : CS} {rs rs' : RS} (j : JQ t c k oc cs rs cs' rs') (h1 : lo ≤ oc) (h2 : oc < hi) : JK t c k lo hi Sl Sh cs rs cs' rs' := ⟨j.c1, fun x y hx => j.a0 x y (fun w => hx (Or.inl w)) (fun w => hx (Or.inr (Or.inl w))) (fun w => hx (by unfold kX; omega)) (fun w => hx (by unfold kX; omega)), j.pl, j.fr.mono (fun q hq => by unfold jP jR at hq; unfold jK; omega), fun q y h1 _ => by rw [j.fr.a (k := q) (by unfold jP jR; omega)], fun y _ => by rw [j.fr.a (k := 79) (by unfold jP jR; omega)], fun y hy _ => j.s72 y hy⟩
theorem JQ.tkf {t c k oc : Nat} {cs cs' : CS} {rs rs' : RS} (j : JQ t c k oc cs rs cs' rs') : TKF cs rs cs' rs' := (j.jk (lo := 0) (hi := oc + 1) (Sl := 0) (Sh := 0) (Nat.zero_le _) (by omega)).tkf
theorem TKF.sf {v w : Int32} {cs : CS} {rs : RS} : TKF cs rs cs (setF (setF rs 76 v) 77 w) := ⟨rfl, rfl, rfl, rfl, rfl, rfl, rfl, rfl⟩
theorem JH.sf {n : Nat} {f : Nat → Int32} {M t c cap s k : Nat} {V : VT} {D : Nat → Prop} {v w : Int32} {cs : CS} {rs : RS} (h : JH n f M t c cap s k V D cs rs) : JH n f M t c cap s k V D cs (setF (setF rs 76 v) 77 w) := h.mv0 (JQ.jk (JQ.sf (oc := 0)) (lo := 0) (hi := 1) (Sl := 0) (Sh := 0) (Nat.zero_le _) (by omega)) rfl rfl rfl rfl rfl (fun _ _ _ => rfl) rfl
theorem oby_L {n : Nat} {f : Nat → Int32} {M t c cap s k : Nat} {V : VT} {F nm mg e0 oc m q : Nat} {T : TG_judgeQuery} (hF : 10000 ≤ F) (sk : SKV V s) (hs : s ≤ 120) (hq : q < 60) (hne : oc ≠ nm) : ∀ (d y u u' : Nat) (D : Nat → Prop) (cs : CS) (rs : RS), m - y ≤ d → d < u → d < u' → y ≤ m → JH n f M t c cap s k V D cs rs → (rs.1 21 = 1 → NMS n f M k nm mg e0 2 45 46 36 0 0 V cs (setF (setF rs 76 2) 77 (nI e0))) → CRT n f M s V 2 oc m 66 (8 * q) cs rs → rs.2.2.1 64 q = nI m → ∃ cs' rs' D', c_X0_checkColumns_L2 F u cs k oc (nI y) = some cs' ∧ m_judgeQuery_L258 F T u' rs (nI q) (nI e0) (nI y) = some rs' ∧ JH n f M t c cap s k V D' cs' rs' ∧ JQ t c k oc cs rs cs' rs' ∧ (rs'.1 21 = 1 → rs.1 21 = 1 ∧ (∀ z, D z → D' z) ∧ ∀ z, y ≤ z → z < m → CVR V s (kA cs 97 oc z) D') := by
  intro d
  induction d with
  | zero =>
    intro y u u' D cs rs h1 h2 h3 h4 h md cr r64
    have m8 := cr.1.m8
    obtain ⟨u, rfl⟩ : ∃ z, u = z + 1 := ⟨u - 1, by omega⟩
    obtain ⟨u', rfl⟩ : ∃ z, u' = z + 1 := ⟨u' - 1, by omega⟩
    refine ⟨cs, rs, D, col_end cr.1 (by omega) (by omega), ?_, h, JQ.refl, fun g => ⟨g, fun _ hz => hz, fun z z1 z2 => absurd z2 (by omega)⟩⟩
    rw [m_judgeQuery_L258, rdI_n hq (by decide), ob_s, r64, if_pos (nI_le (by omega) (by omega))]
    rfl
  | succ d ih =>
    intro y u u' D cs rs h1 h2 h3 h4 h md cr r64
    have m8 := cr.1.m8
    rcases h.st with ⟨s1, s2, s3⟩ | ⟨s1, s2, s3, s4⟩
    · obtain ⟨u, rfl⟩ : ∃ z, u = z + 1 := ⟨u - 1, by omega⟩
      obtain ⟨u', rfl⟩ : ∃ z, u' = z + 1 := ⟨u' - 1, by omega⟩
      by_cases hy : m ≤ y
      · refine ⟨cs, rs, D, col_end cr.1 hy (by omega), ?_, h, JQ.refl, fun g => ⟨g, fun _ hz => hz, fun z z1 z2 => absurd z2 (by omega)⟩⟩
        rw [m_judgeQuery_L258, rdI_n hq (by decide), ob_s, r64, if_pos (nI_le hy (by omega))]
        rfl
      · obtain ⟨r, a, q1, q2, q3, q4⟩ := cr.2 y (by omega)
        have hr := q3.rs'
        have md0 := md s2
        obtain ⟨c1, r1, e1, e2, e3, e4, -, e6⟩ := expr_H (so := 0) (e := e0) (ns := 0) (nm := nm) (mg := mg) (w := 0 + 2) (cs := cs) (rs := setF (setF rs 76 2) 77 (nI e0)) hF sk hs (q3.f' TKF.sf) (fun _ => q4 (Nat.le_refl _)) h.sf (fun _ => ⟨md0, rfl⟩)
        have j1 : JC t c oc e0 cs (setF (setF rs 76 2) 77 (nI e0)) c1 r1 := JC.jf e3
        have cr0 : CRT n f M s V 2 oc m 66 (8 * q) cs (setF (setF rs 76 2) 77 (nI e0)) := ⟨cr.1, fun z hz => by
          obtain ⟨r', a', w1, w2, w3, w4⟩ := cr.2 z hz
          exact ⟨r', a', w1, w2, w3.f' TKF.sf, w4⟩⟩
        have cr1 := cr0.jc j1 (Or.inr (Or.inr rfl))
        obtain ⟨rr, a', p1, p2, p3, p4⟩ := cr1.2 y (by omega)
        have r66 : r1.2.2.1 66 = rs.2.2.1 66 := e3.fr.a (by unfold jR; omega)
        have er' : rr = r := (nI_eq (by have := p3.rs'; omega) (by omega)).mp (p2.symm.trans (by rw [r66]; exact q2))
        rw [er'] at p1
        obtain ⟨v1, hv1⟩ : ∃ v, v = (if kA c1 73 c r = 2 then (2 : Int32) else 1) := ⟨_, rfl⟩
        have cst := col_st (u := u) h.ck cr.1 (by omega) hr q1 e1 e4 cr1.1 p1
        rw [← hv1] at cst
        have rst : m_judgeQuery_L258 F T (u' + 1) rs (nI q) (nI e0) (nI y) = m_judgeQuery_L258 F T u' r1 (nI q) (nI e0) (nI (y + 1)) := by
          rw [m_judgeQuery_L258, rdI_n hq (by decide), ob_s, r64, if_neg (nI_ge (by omega) (by omega)), if_neg (by rw [s2]; decide), nI_8, nI_add, rdI_n (by omega) (by decide), ob_s, show (setF (setF rs 76 2) 77 (nI e0)).2.2.1 66 (8 * q + y) = nI r from q2, e2, ob_s, nI_1]
        have j2 : JC t c oc e0 c1 r1 (sA c1 100 oc y v1) r1 := JC.set
        have h2' : JH n f M t c cap s k V (fun z => D z ∨ (a ≤ z ∧ z ≤ r)) (sA c1 100 oc y v1) r1 := e4.set (e := e0)
        have cr2 := cr1.jc j2 (Or.inr (Or.inr rfl))
        have jq : JQ t c k oc cs rs (sA c1 100 oc y v1) r1 := (JQ.sf.trans (JQ.jf e3)).trans (JQ.cls j2)
        obtain ⟨cs', rs', D', t1, t2, t3, t4, t5⟩ := ih (y + 1) u u' (fun z => D z ∨ (a ≤ z ∧ z ≤ r)) (sA c1 100 oc y v1) r1 (by omega) (by omega) (by omega) (by omega) h2' (fun g => by
          have w := (e6 s2).1
          exact w.mv (EM.of rfl) (AT.sA (by omega)) (fun x _ _ => AT.sA (by omega)) ⟨(AT.sA (by omega)).a, (AT.sA (by omega)).a, (AT.sA (by omega)).b, rfl, rfl, rfl, rfl, rfl⟩ w.f77.symm ⟨rfl, rfl⟩ (fun _ _ => rfl)) cr2 (by rw [e3.fr.a (k := 64) (by unfold jR; omega)]; exact r64)
        refine ⟨cs', rs', D', cst.trans t1, rst.trans t2, t3, jq.trans t4, fun g => ?_⟩
        obtain ⟨b1, b2, b3⟩ := t5 g
        refine ⟨s2, fun z hz => b2 z (Or.inl hz), fun z z1 z2 => ?_⟩
        by_cases w1 : z = y
        · rw [w1, q1]
          exact (CVR.of hs q3 (fun x x1 x2 => Or.inr ⟨x1, x2⟩)).up b2
        · have w2 := b3 z (by omega) z2
          rw [(jq.a0 97 oc (by omega) (by omega) (by omega) (by omega)).a] at w2
          exact w2
    · obtain ⟨cs', t1, t2, t3⟩ := cols_F (col := oc) (m := m) (A := 66) (b := 8 * q) (e0 := e0) (w := 2) hF sk hs (Or.inr (Or.inr rfl)) (d + 1) y u D cs rs (by omega) (by omega) (by omega) h s2 cr
      refine ⟨cs', rs, D, t1, ?_, t2, JQ.cls t3, fun g => absurd (s2.symm.trans g) (by decide)⟩
      obtain ⟨u', rfl⟩ : ∃ z, u' = z + 1 := ⟨u' - 1, by omega⟩
      rw [m_judgeQuery_L258, rdI_n hq (by decide), ob_s, r64]
      by_cases z : nI m ≤ nI y
      · rw [if_pos z]; rfl
      · rw [if_neg z, if_pos s2]; rfl
theorem isf_ok {n : Nat} {f : Nat → Int32} {M t c cap s k : Nat} {V : VT} {D : Nat → Prop} {F : Nat} {cs : CS} {rs : RS} (h : JH n f M t c cap s k V D cs rs) : c_X0_isFaulty F cs k = some (if kI cs 320 t = 0 then 0 else 1) := by
  unfold c_X0_isFaulty c_X0_isFaulty_b15
  rw [ck_t h.ck, gI_ok h.ck.ot, ob_s]
  by_cases y : kI cs 320 t = 0
  · rw [if_pos y, if_pos y]; rfl
  · rw [if_neg y, if_neg y]; rfl
/-- behind the SELECTS of a QUERY -/
theorem oby_H {n : Nat} {f : Nat → Int32} {M t c cap s k : Nat} {V : VT} {F oq q e0 it mg : Nat} {D : Nat → Prop} {b : Int32} {T : TC_X0_checkQuery} {T' : TG_judgeQuery} {cs : CS} {rs : RS} (hF : 10000 ≤ F) (sk : SKV V s) (hs : s ≤ 120) (hq : q < 60) (h : JH n f M t c cap s k V D cs rs) (e4 : (4, oq) ∈ kE cs) (hok : oq ≠ k ∧ oq ≠ t ∧ oq ≠ c) (or' : (kR cs 130 oq = none ∧ rs.2.2.1 65 q = -1) ∨ (∃ oc m, kR cs 130 oq = some oc ∧ oc ≠ it ∧ oc ≠ k ∧ kI cs 131 oq = rs.2.2.1 65 q ∧ rs.2.2.1 65 q ≠ -1 ∧ rs.2.2.1 64 q = nI m ∧ CRT n f M s V 2 oc m 66 (8 * q) cs rs)) (kp : rs.1 21 = 1 → (kI cs 133 oq = 0 ∧ b = 1) ∨ (kI cs 133 oq ≠ 0 ∧ b = 0)) (r129 : kR cs 129 oq = some it) (fi : rs.1 21 = 1 → e0 < 60 ∧ rs.2.2.1 36 e0 = nI mg ∧ CLM it mg cs ∧ (∀ y, y < mg → NMR n f M (kB cs 98 it y) (rs.2.2.1 45 (8 * e0 + y)) cs rs) ∧ (∀ y, y < mg → TYR (kA cs 100 it y) (rs.2.2.1 46 (8 * e0 + y)))) : ∃ cs' rs' D', c_X0_checkQuery_b76 F T cs k oq = some cs' ∧ m_judgeQuery_b227 F T' rs (nI q) (nI e0) b = some rs' ∧ JH n f M t c cap s k V D' cs' rs' ∧ ((cs' = cs ∧ rs' = rs) ∨ ∃ oc, kR cs 130 oq = some oc ∧ JQ t c k oc cs rs cs' rs') ∧ (rs'.1 21 = 1 → rs.1 21 = 1 ∧ (∀ z, D z → D' z) ∧ ∀ oc m, kR cs 130 oq = some oc → rs.2.2.1 64 q = nI m → m ≤ 8 → ∀ z, z < m → CVR V s (kA cs 97 oc z) D') := by
  unfold c_X0_checkQuery_b76 m_judgeQuery_b227
  rw [gR_ok e4, ob_s]
  rcases or' with ⟨o1, o2⟩ | ⟨oc, m, o1, o2, o2', o3, o4, o5, o6⟩
  · refine ⟨cs, rs, D, by rw [o1]; rfl, ?_, h, Or.inl ⟨rfl, rfl⟩, fun g => ⟨g, fun _ hz => hz, fun oc m w => absurd (o1.symm.trans w) (by intro z; cases z)⟩⟩
    by_cases z : rs.1 21 = 0
    · rw [if_pos z]; rfl
    · rw [if_neg z, rdI_n hq (by decide), ob_s, o2, if_pos rfl]; rfl
  · rw [o1, oc_s, ckE_ok h.ck.o, ob_s, isf_ok h, ob_s]
    rcases h.st with ⟨s1, s2, s3⟩ | ⟨s1, s2, s3, s4⟩
    · obtain ⟨f1, f2, f3, f4, f5⟩ := fi s2
      obtain ⟨c1, r1, b1, b2, b3, b4, b5, b6, b7⟩ := bound_H (F := F) (u := kI cs 133 oq) (b := b) (p := rs.2.2.1 65 q) h kp
      have em1 : EM cs c1 := EM.of (congrArg (fun z => z.2.2) b3.c1)
      have at1 : ∀ x j, x < 320 → AT cs c1 x j := fun x j hj => b7 x j (by omega)
      obtain ⟨c2, hc2⟩ : ∃ x, x = sR c1 37 k (some it) := ⟨_, rfl⟩
      have at2 : ∀ x j, ¬ (j = k ∧ x = 37) → AT c1 c2 x j := fun x j hx => by rw [hc2]; exact AT.sR (by omega)
      have q0 : JQ t c k oc c1 r1 c2 r1 := ⟨by rw [hc2]; rfl, fun x j _ _ _ w => at2 x j w, fun x j _ _ => by rw [hc2]; exact ⟨rfl, rfl⟩, FR.refl _, fun y _ => by rw [(at2 72 c (by omega)).a]⟩
      have em2 : EM c1 c2 := by rw [hc2]; exact EM.of rfl
      have j02 : JQ t c k oc cs rs c2 r1 := (JQ.jf b3).trans q0
      have h2 : JH n f M t c cap s k V D c2 r1 := b4.mv0 (q0.jk (lo := 0) (hi := oc + 1) (Sl := 0) (Sh := 0) (Nat.zero_le _) (by omega)) (at2 320 t (by omega)).i (at2 321 t (by omega)).i rfl rfl rfl (fun y _ _ => by rw [(at2 72 c (by omega)).a]) rfl
      have tk := j02.tkf
      have cr2 : CRT n f M s V 2 oc m 66 (8 * q) c2 r1 := ⟨o6.1.keep (fun x hx => em2 x (em1 x hx)) (fun x _ _ => (at1 x oc (by omega)).trans (at2 x oc (by omega))), fun y hy => by
        obtain ⟨r', a', w1, w2, w3, w4⟩ := o6.2 y hy
        exact ⟨r', a', by rw [(at2 97 oc (by omega)).a, (at1 97 oc (by omega)).a]; exact w1, by rw [b6]; exact w2, w3.f' tk, w4⟩⟩
      have ait : ∀ x, 96 ≤ x → x ≤ 100 → AT cs c2 x it := fun x _ _ => (at1 x it (by omega)).trans (at2 x it (by omega))
      have ra : ∀ q, (setF (setF r1 76 2) 77 (nI e0)).2.2.1 q = rs.2.2.1 q := fun q => by rw [setF_2, setF_2, b6]
      have nms : r1.1 21 = 1 → NMS n f M k it mg e0 2 45 46 36 0 0 V c2 (setF (setF r1 76 2) 77 (nI e0)) := fun _ => by
        refine ⟨h2.x.f' TKF.refl, by rw [hc2]; exact u2_s, f3.keep (fun x hx => em2 x (em1 x hx)) ait, f1, rfl, Or.inr ⟨rfl, rfl, rfl, rfl⟩, by rw [ra 36]; exact f2, fun y hy => ?_, fun y hy => ?_, fun x _ x2 => absurd x2 (by omega)⟩
        · rw [ra 45, (ait 98 (by omega) (by omega)).b]
          exact (f4 y hy).f ⟨tk.1, tk.2.1, tk.2.2.1, tk.2.2.2.1, tk.2.2.2.2.1, tk.2.2.2.2.2.1, tk.2.2.2.2.2.2.1, tk.2.2.2.2.2.2.2⟩
        · rw [ra 46, (ait 100 (by omega) (by omega)).a]
          exact f5 y hy
      obtain ⟨c3, r3, D3, l1, l2, l3, l4, l5⟩ := oby_L (T := T') (nm := it) (mg := mg) (e0 := e0) hF sk hs hq o2 8 0 F F D c2 r1 (by have := o6.1.m8; omega) (by omega) (by omega) (Nat.zero_le _) h2 nms cr2 (by rw [b6]; exact o5)
      refine ⟨c3, r3, D3, ?_, ?_, l3, Or.inr ⟨oc, rfl, j02.trans l4⟩, fun g => ?_⟩
      · rw [if_pos s1, if_pos rfl, ob_s, ob_s, ob_s]
        unfold c_X0_checkOrder
        rw [gI_ok e4, ob_s, gI_ok e4, ob_s, o3, ckE_ok h.ck.o, ob_s, b1, ob_s, gR_ok (em1 _ e4), ob_s, (at1 129 oq (by omega)).r, r129, pR_ok b4.ck.o, ob_s, ← hc2, ckE_ok h2.ck.o, ob_s]
        unfold c_X0_checkColumns
        rw [show c_X0_checkColumns_L2 F F c2 k oc 0 = some c3 from l1, ob_s, ob_s]
        rfl
      · rw [if_neg (by rw [s2]; decide), rdI_n hq (by decide), ob_s, if_neg o4, ob_s, b2, ob_s]
        exact l2
      · obtain ⟨g1, g2, g3⟩ := l5 g
        refine ⟨s2, g2, fun oc' m' w1 w2 w3 z hz => ?_⟩
        have eo : oc = oc' := Option.some.inj w1
        have emm : m = m' := (nI_eq (by have := o6.1.m8; omega) (by omega)).mp (o5.symm.trans w2)
        have w := g3 z (Nat.zero_le _) (by omega)
        rw [← eo, ← (at1 97 oc (by omega)).a, ← (at2 97 oc (by omega)).a]
        exact w
    · refine ⟨cs, rs, D, by rw [if_neg s1, if_neg (by decide)]; rfl, by rw [if_pos s2]; rfl, h, Or.inl ⟨rfl, rfl⟩, fun g => absurd (s2.symm.trans g) (by decide)⟩

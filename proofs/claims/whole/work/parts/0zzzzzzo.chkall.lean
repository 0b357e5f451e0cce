/-! QUERIES are checked alike, however deep -/
theorem qli_L {n : Nat} {f : Nat → Int32} {M t c cap s k : Nat} {V : VT} {ss S Q K d oq q L m it lo hi Sl Su : Nat} {lb ub wb : Nat → Nat} {F e0 : Nat} {T T1 T2 T2' : TC_X0_checkQuery} {T' T1' : TG_judgeQuery} (hF : 10000 ≤ F) (sk : SKV V s) (hs : s ≤ 120) (hd : d ≤ 90) (bv : BUQ t c K k S oq q L m lo hi Sl Su lb ub wb) (hJ : JQS n f M t c cap s k V ss S Q K d T2.1 T1'.1) (hT0 : T.2.1 = cb_X0_checkSelect F T1) (hT2 : T1.2.2.1 = cb_X0_checkSource F T2') (hT : T2'.2.2.2 = cb_X0_checkInner F T2) (hT' : T'.2 = b_judgeSelect F T1') (he0 : e0 < 60) : ∀ (w i x x' : Nat) (b : Int32) (D : Nat → Prop) (cs : CS) (rs : RS), m - i ≤ w → w < x → w < x' → i ≤ m → rs.2.2.1 61 (5 * q) = nI e0 → QLI n f M t c cap s k V ss S Q K d oq q L m it lb ub wb i D b cs rs → ∃ cs' rs' D' b', c_X0_checkQuery_L2 F T x cs k oq (nI i) = c_X0_checkQuery_b76 F T cs' k oq ∧ m_judgeQuery_L14 F T' x' rs (nI q) (nI e0) b (nI i) = m_judgeQuery_b227 F T' rs' (nI q) (nI e0) b' ∧ JK t c k lo hi Sl Su cs rs cs' rs' ∧ (∀ y j, lo ≤ j → j < hi → (∀ i', i' < m → ¬ (lb i' ≤ j ∧ j < ub i')) → j ≠ oq → AT cs cs' y j) ∧ (∃ i', QLI n f M t c cap s k V ss S Q K d oq q L m it lb ub wb i' D' b' cs' rs' ∧ (rs'.1 21 = 1 → i' = m)) ∧ (rs'.1 21 = 1 → rs.1 21 = 1 ∧ ∀ z, D z → D' z) := by
  intro w
  induction w with
  | zero =>
    intro i x x' b D cs rs h1 h2 h3 h4 r61 h
    have m3 := bv.m3
    obtain ⟨x, rfl⟩ : ∃ z, x = z + 1 := ⟨x - 1, by omega⟩
    obtain ⟨x', rfl⟩ : ∃ z, x' = z + 1 := ⟨x' - 1, by omega⟩
    refine ⟨cs, rs, D, b, ?_, ?_, JK.refl, fun _ _ _ _ _ _ => AT.refl, ⟨i, h, fun _ => by omega⟩, fun g => ⟨g, fun _ hz => hz⟩⟩
    · rw [c_X0_checkQuery_L2, gR_ok h.e4, ob_s, h.r128, ob_s, ckE_ok h.e0, ob_s, list_size h.e0 h.i2, ob_s, if_pos (nI_le (by omega) (by omega))]
    · rw [m_judgeQuery_L14, rdI_n bv.q6 (by decide), ob_s, h.r60, if_pos (nI_le (by omega) (by omega))]
  | succ w ih =>
    intro i x x' b D cs rs h1 h2 h3 h4 r61 h
    have m3 := bv.m3
    by_cases hi' : i = m
    · obtain ⟨x, rfl⟩ : ∃ z, x = z + 1 := ⟨x - 1, by omega⟩
      obtain ⟨x', rfl⟩ : ∃ z, x' = z + 1 := ⟨x' - 1, by omega⟩
      refine ⟨cs, rs, D, b, ?_, ?_, JK.refl, fun _ _ _ _ _ _ => AT.refl, ⟨i, h, fun _ => hi'⟩, fun g => ⟨g, fun _ hz => hz⟩⟩
      · rw [c_X0_checkQuery_L2, gR_ok h.e4, ob_s, h.r128, ob_s, ckE_ok h.e0, ob_s, list_size h.e0 h.i2, ob_s, if_pos (nI_le (by omega) (by omega))]
      · rw [m_judgeQuery_L14, rdI_n bv.q6 (by decide), ob_s, h.r60, if_pos (nI_le (by omega) (by omega))]
    · have hin : i < m := by omega
      rcases h.h.st with ⟨s1, s2, s3⟩ | ⟨s1, s2, s3, s4⟩
      · obtain ⟨x, rfl⟩ : ∃ z, x = z + 1 := ⟨x - 1, by omega⟩
        obtain ⟨x', rfl⟩ : ∃ z, x' = z + 1 := ⟨x' - 1, by omega⟩
        obtain ⟨c1, r1, D1, b1, a1, a2, a3, a9, a4, a5⟩ := qli_step (x := x) (x' := x') hF sk hs hd bv hJ hT0 hT2 hT hT' hin r61 he0 h s2
        obtain ⟨c2, r2, D2, b2, b3, b4, b5, b9, b6, b7⟩ := ih (i + 1) x x' b1 D1 c1 r1 (by omega) (by omega) (by omega) (by omega) (by rw [a3.fr.a (k := 61) (by unfold jK; omega)]; exact r61) a5
        exact ⟨c2, r2, D2, b2, a1.trans b3, a2.trans b4, a3.trans b5, fun y j z1 z2 z3 z4 => (a9 y j z1 z2 z3 z4).trans (b9 y j z1 z2 z3 z4), b6, fun g => ⟨s2, fun z hz => (b7 g).2 z (a4 (b7 g).1 z hz)⟩⟩
      · obtain ⟨x, rfl⟩ : ∃ z, x = z + 1 := ⟨x - 1, by omega⟩
        obtain ⟨x', rfl⟩ : ∃ z, x' = z + 1 := ⟨x' - 1, by omega⟩
        refine ⟨cs, rs, D, b, ?_, ?_, JK.refl, fun _ _ _ _ _ _ => AT.refl, ⟨i, h, fun g => absurd (s2.symm.trans g) (by decide)⟩, fun g => ⟨g, fun _ hz => hz⟩⟩
        · rw [c_X0_checkQuery_L2, gR_ok h.e4, ob_s, h.r128, ob_s, ckE_ok h.e0, ob_s, list_size h.e0 h.i2, ob_s, if_neg (nI_ge hin (by omega)), ckE_ok h.h.ck.o, ob_s, isf_ok h.h, ob_s, if_neg s1, if_neg (by decide)]
        · rw [m_judgeQuery_L14, rdI_n bv.q6 (by decide), ob_s, h.r60, if_neg (nI_ge hin (by omega)), if_pos s2]
theorem CLM.same {o m m' : Nat} {cs : CS} (h : CLM o m cs) (g : CLM o m' cs) : m = m' := (nI_eq (by have := h.m8; omega) (by have := g.m8; omega)).mp (h.sz.symm.trans g.sz)
theorem jqs_succ {n : Nat} {f : Nat → Int32} {M t c cap s k : Nat} {V : VT} {ss S Q K d F : Nat} {T T1 T2 T2' : TC_X0_checkQuery} {T' T1' : TG_judgeQuery} (hF : 10000 ≤ F) (sk : SKV V s) (hs : s ≤ 120) (hd : d ≤ 90) (hK : t < K ∧ c < K) (hJ : JQS n f M t c cap s k V ss S Q K d T2.1 T1'.1) (hT0 : T.2.1 = cb_X0_checkSelect F T1) (hT2 : T1.2.2.1 = cb_X0_checkSource F T2') (hT : T2'.2.2.2 = cb_X0_checkInner F T2) (hT' : T'.2 = b_judgeSelect F T1') : JQS n f M t c cap s k V ss S Q K (d + 1) (cb_X0_checkQuery F T) (b_judgeQuery F T') := by
  intro Su Sl Ql lo hi oq q D cs rs h g1 st uq hlo hhi qr z0
  obtain ⟨w0, w⟩ : Su ≤ S ∧ QRY (QR X0 n f M c s S Q cs rs d) X0 n f M c s Sl Su Ql Q lo hi oq q cs rs := qr
  obtain ⟨d1, d2⟩ := w.od
  obtain ⟨q0, q1, q2⟩ := w.qb
  obtain ⟨L, m, lb, ub, wb, l1, l2, l3, l4, l5, l6, l7, l8, l9, l10, l11, l12, l13, lw, l14, so0, l15, l16⟩ := w.ls
  obtain ⟨k1, k2⟩ := hK
  have bv : BUQ t c K k S oq q L m lo hi Sl Su lb ub wb := ⟨⟨k1, k2, hlo, hhi⟩, ⟨d1, l2, l3⟩, fun j hj => ⟨(l12 j hj).1, (l12 j hj).2.1, (l12 j hj).2.2.1⟩, l13, fun j hj => by
    obtain ⟨so, e, x1, x2, x0, x3, ⟨it, gr, mi, ns, mg, o1, -⟩, -⟩ := l14 j hj
    have := o1.od
    omega, lw, w0, q2, l10, l11⟩
  obtain ⟨so1, e0, y1, y2, y0, y3, ⟨it, gr, mi, ns, mg, o1, -⟩, -⟩ := l14 0 (by omega)
  have es : so1 = so0 := Option.some.inj (y1.symm.trans l15)
  have e60 := o1.e60
  have r129 : kR cs 129 oq = some it := by rw [l16, ← es]; exact o1.r194
  have od1 := o1.od
  have lu0 := bv.lu 0 (by omega)
  have qli : QLI n f M t c cap s k V ss S Q K d oq q L m it lb ub wb 0 D 1 cs rs := ⟨h, st, uq, w.e4, l1, l4, l5, l6, l7, l8, l9, r129, ⟨so1, y1, o1.r194⟩, ⟨mi, o1.ci⟩, fun j hj => by
    obtain ⟨so, e, x1, x2, x0, x3, x4, x5⟩ := l14 j hj
    obtain ⟨v1, v2, v3⟩ := bv.lu j hj
    have x4' := x4
    obtain ⟨it', gr', mi', ns', mg', o2, -⟩ := x4'
    exact ⟨so, e, x1, x2, x0, x3, o2.e60, o2.e6, x5, fun _ => ⟨x4, z0.sub (by omega) v2⟩, fun _ hj0 => absurd hj0 (by omega)⟩, fun _ => ⟨Or.inl ⟨rfl, fun j hj => absurd hj (by omega)⟩, Or.inl ⟨(z0 oq d1 d2).1, rfl⟩⟩⟩
  obtain ⟨c1, r1, D1, b1, a1, a2, a3, a9, ⟨i', a4, a5⟩, a6⟩ := qli_L (T := T) (T' := T') hF sk hs hd bv hJ hT0 hT2 hT hT' e60 3 0 F F 1 D cs rs (by omega) (by omega) (by omega) (Nat.zero_le _) y2 qli
  have em1 : EM cs c1 := EM.of (congrArg (fun z => z.2.2) a3.c1)
  have ra1 : ∀ q, ¬ jK q → r1.2.2.1 q = rs.2.2.1 q := fun q hq => a3.fr.a hq
  have aq : ∀ x, x = 128 ∨ x = 129 ∨ x = 130 ∨ x = 131 ∨ x = 132 → ∀ j, AT cs c1 x j := fun x hx j => a3.a0 x j (by unfold kX; omega)
  have hV1 : ∀ y, y < s → VW c c1 r1 y = VW c cs rs y := fun y hy => (a4.h.v y hy).trans (h.v y hy).symm
  -- the order by, still as it was read
  obtain ⟨m1, cm1⟩ := a4.cm
  have bA : ∀ j oc, j < m → kR cs 130 oq = some oc → ub j ≤ oc := fun j oc hj ho => (l12 j hj).2.2.2 oc ho
  have outO : ∀ oc, kR cs 130 oq = some oc → oq < oc → oc < hi → ∀ y, AT cs c1 y oc := fun oc ho h1 h2 y => a9 y oc (by omega) h2 (fun j hj w => by
    have := bA j oc hj ho
    omega) (by omega)
  have or1 : (kR c1 130 oq = none ∧ r1.2.2.1 65 q = -1) ∨ (∃ oc m, kR c1 130 oq = some oc ∧ oc ≠ it ∧ oc ≠ k ∧ kI c1 131 oq = r1.2.2.1 65 q ∧ r1.2.2.1 65 q ≠ -1 ∧ r1.2.2.1 64 q = nI m ∧ CRT n f M s V 2 oc m 66 (8 * q) c1 r1) := by
    rw [(aq 130 (by omega) oq).r, (aq 131 (by omega) oq).i, ra1 65 (by unfold jK; omega), ra1 64 (by unfold jK; omega)]
    rcases w.or' with ⟨y1, y2, -⟩ | ⟨oc, mo, y1, y2, y3, y4, y5, y6, y7, y8, y9, y10⟩
    · exact Or.inl ⟨y1, y2⟩
    · have b0 := bA 0 oc (by omega) y1
      have ao := outO oc y1 y2 y3
      refine Or.inr ⟨oc, mo, y1, by omega, by omega, y7, y8, y6, y4.keep em1 (fun x _ _ => ao x), fun z hz => ?_⟩
      obtain ⟨r, z1, z2, z3, -⟩ := y10 z hz
      obtain ⟨a, ex, na⟩ := z3.noag h.v
      exact ⟨r, a, by rw [(ao 97).a]; exact z1, by rw [ra1 66 (by unfold jK; omega)]; exact z2, ex.f' a3.tkf, fun _ => na⟩
  have first : r1.1 21 = 1 → ∃ so, kQ c1 1 L 0 = some so ∧ kR c1 194 so = some it ∧ SCP n f M c s V S Q d (lb 0) (ub 0) (q + 1) (wb (0 + 1)) so e0 D1 c1 r1 := fun g => by
    obtain ⟨sj, ej, z1, z2, z3, z4, z5, z6, z7, z8, z9⟩ := a4.sq 0 (by omega)
    have ee : ej = e0 := (nI_eq (by omega) (by omega)).mp (z2.symm.trans ((congrFun (ra1 61 (by unfold jK; omega)) _).trans y2))
    obtain ⟨so', w1, w2⟩ := a4.s0
    have es' : sj = so' := Option.some.inj (z1.symm.trans w1)
    have i'm := a5 g
    rw [ee] at z9
    exact ⟨sj, z1, by rw [es']; exact w2, z9 g (by omega)⟩
  have fi : r1.1 21 = 1 → e0 < 60 ∧ r1.2.2.1 36 e0 = nI m1 ∧ CLM it m1 c1 ∧ (∀ y, y < m1 → NMR n f M (kB c1 98 it y) (r1.2.2.1 45 (8 * e0 + y)) c1 r1) ∧ (∀ y, y < m1 → TYR (kA c1 100 it y) (r1.2.2.1 46 (8 * e0 + y))) := fun g => by
    obtain ⟨sj, z1, z2, -, -, -, it', mi', v1, v2, v3, v4, v5, v6, v7⟩ := first g
    have ei : it = it' := Option.some.inj (z2.symm.trans v1)
    rw [← ei] at v5 v6 v7
    have emi := v5.same cm1
    rw [emi] at v4 v6 v7
    exact ⟨e60, v4, cm1, v6, v7⟩
  obtain ⟨c2, r2, D2, x1, x2, x3, x4, x5⟩ := oby_H (T := T) (T' := T') (e0 := e0) (it := it) (mg := m1) (b := b1) hF sk hs q2 a4.h a4.e4 ⟨by omega, by omega, by omega⟩ or1 (fun g => (a4.kp g).2) a4.r129 fi
  have cls : cb_X0_checkQuery F T cs k oq = some c2 := (show c_X0_checkQuery_L2 F T F cs k oq (nI 0) = some c2 from a1.trans x1)
  have ref : b_judgeQuery F T' rs (nI q) = some r2 := by
    unfold b_judgeQuery
    rw [nI_5, rdI_n (by omega) (by decide), ob_s, show rs.2.2.1 61 (5 * q) = nI e0 from y2]
    exact a2.trans x2
  have jk2 : JK t c k lo hi Sl Su c1 r1 c2 r2 := by
    rcases x4 with ⟨w1, w2⟩ | ⟨oc, w1, w2⟩
    · rw [w1, w2]; exact JK.refl
    · rw [(aq 130 (by omega) oq).r] at w1
      rcases w.or' with ⟨z1, -⟩ | ⟨oc', mo, z1, z2, z3, -⟩
      · rw [z1] at w1; cases w1
      · have eo : oc' = oc := Option.some.inj (z1.symm.trans w1)
        exact w2.jk (by omega) (by omega)
  have jq : ∃ oc, (∀ j, j < m → ub j ≤ oc) ∧ oq < oc ∧ JQ t c k oc c1 r1 c2 r2 := by
    rcases x4 with ⟨w1, w2⟩ | ⟨oc, w1, w2⟩
    · refine ⟨hi + k + 1, fun j hj => by have := (l12 j hj).2.1; omega, by omega, ?_⟩
      rw [w1, w2]; exact JQ.refl
    · rw [(aq 130 (by omega) oq).r] at w1
      rcases w.or' with ⟨z1, -⟩ | ⟨oc', mo, z1, z2, z3, -⟩
      · rw [z1] at w1; cases w1
      · have eo : oc' = oc := Option.some.inj (z1.symm.trans w1)
        exact ⟨oc, fun j hj => bA j oc hj w1, by omega, w2⟩
  refine ⟨c2, r2, D2, cls, ref, x3, a3.trans jk2, fun g => ?_⟩
  obtain ⟨g2, p1, p2⟩ := x5 g
  obtain ⟨g3, p3⟩ := a6 g2
  have i'm := a5 g2
  obtain ⟨oj, jo1, jo2, jq⟩ := jq
  have em2 : EM c1 c2 := EM.of (congrArg (fun z => z.2.2) jq.c1)
  have ra2 : ∀ q, ¬ jP q → r2.2.2.1 q = r1.2.2.1 q := fun q hq => jq.fr.a hq
  have hV2 : ∀ y, y < s → VW c c2 r2 y = VW c c1 r1 y := fun y hy => (x3.v y hy).trans (a4.h.v y hy).symm
  have at2 : ∀ x j, lo ≤ j → j < hi → x ≠ 100 → AT c1 c2 x j := fun x j j1 j2 hx => jq.a0 x j (by omega) (by omega) (by omega) (by omega)
  have jk' : JK t c k oj (oj + 1) 0 0 c1 r1 c2 r2 := jq.jk (Nat.le_refl _) (by omega)
  have aq2 : ∀ x, 128 ≤ x → x ≤ 132 → AT cs c2 x oq := fun x h1 h2 => (a3.a0 x oq (by unfold kX; omega)).trans (at2 x oq d1 d2 (by omega))
  have raf : ∀ q, ¬ jK q → r2.2.2.1 q = rs.2.2.1 q := fun q hq => (ra2 q (by unfold jP jR; unfold jK at hq; omega)).trans (ra1 q hq)
  have em : EM cs c2 := fun z hz => em2 z (em1 z hz)
  have sel2 : ∀ j, j < m → ∃ so e, kQ c2 1 L j = some so ∧ r2.2.2.1 61 (5 * q + j) = nI e ∧ wb j ≤ e ∧ e < wb (j + 1) ∧ (0 < j → SETR (kI c2 204 so) (r2.2.2.1 62 (5 * q + j)) ∧ kI c2 205 so = r2.2.2.1 63 (5 * q + j)) ∧ SCP n f M c s V S Q d (lb j) (ub j) (q + 1) (wb (j + 1)) so e D2 c2 r2 := fun j hj => by
    obtain ⟨sj, ej, z1, z2, z3, z4, z5, z6, z7, z8, z9⟩ := a4.sq j hj
    have sc := z9 g2 (by omega)
    obtain ⟨v1, v2, v3⟩ := bv.lu j hj
    have wj := bv.wl (i := j + 1) (j := m) (by omega) (Nat.le_refl _)
    have hw := bv.wb
    have so1 : lb j ≤ sj ∧ sj < ub j := ⟨sc.2.1.1, sc.2.1.2.1⟩
    refine ⟨sj, ej, by rw [(at2 1 L (by omega) l3 (by decide)).q]; exact z1, by rw [ra2 61 (by unfold jP jR; omega)]; exact z2, z3, z4, fun hp => ?_, sc.jk (K := K) hs jk' (Or.inl (jo1 j hj)) (Or.inr (Nat.zero_le _)) ⟨k1, k2, by omega, by omega, by omega⟩ a4.uq hV2 p1 (by omega)⟩
    rw [(at2 204 sj (by omega) (by omega) (by decide)).i, (at2 205 sj (by omega) (by omega) (by decide)).i, ra2 62 (by unfold jP jR; omega), ra2 63 (by unfold jP jR; omega)]
    exact z7 hp
  have aoc : ∀ oc, kR cs 130 oq = some oc → oq < oc → oc < hi → ∀ x, x ≠ 100 → AT cs c2 x oc := fun oc h1 h2 h3 x hx => (outO oc h1 h2 h3 x).trans (at2 x oc (by omega) h3 hx)
  have tk := (a3.trans jk2).tkf
  have hV : ∀ y, y < s → VW c c2 r2 y = VW c cs rs y := fun y hy => (x3.v y hy).trans (h.v y hy).symm
  refine ⟨fun z hz => p1 z (p3 z hz), ⟨w0, em _ w.e4, ⟨d1, d2⟩, ⟨q0, q1, q2⟩, ⟨L, m, lb, ub, wb, by rw [(aq2 128 (by omega) (by omega)).r]; exact l1, l2, l3, em _ l4, em _ l5, by rw [(at2 1 L (by omega) l3 (by decide)).p]; exact a4.p1, by rw [(at2 1 L (by omega) l3 (by decide)).l]; exact a4.l1, by rw [(at2 2 L (by omega) l3 (by decide)).i]; exact a4.i2, by rw [raf 60 (by unfold jK; omega)]; exact l9, l10, l11, fun j hj => ⟨(l12 j hj).1, (l12 j hj).2.1, (l12 j hj).2.2.1, fun oc ho => (l12 j hj).2.2.2 oc (by rw [← (aq2 130 (by omega) (by omega)).r]; exact ho)⟩, l13, lw, fun j hj => ?_, ?_⟩, ?_⟩, ⟨d1, d2, L, m, by omega, l3, by rw [(aq2 128 (by omega) (by omega)).r]; exact l1, by rw [(at2 2 L (by omega) l3 (by decide)).i]; exact a4.i2, l11, fun j hj => ?_, fun oc ho => ?_⟩, ⟨b1, ?_, ?_⟩, ?_⟩
  · obtain ⟨sj, ej, z1, z2, z3, z4, z5, z6⟩ := sel2 j hj
    exact ⟨sj, ej, z1, z2, z3, z4, z6.1, z5⟩
  · obtain ⟨sj, z1, z2, -⟩ := first g2
    obtain ⟨sj', ej', y1', -, -, -, -, sc'⟩ := sel2 0 (by omega)
    have e9 : sj = sj' := Option.some.inj (z1.symm.trans (by rw [← (at2 1 L (by omega) l3 (by decide)).q]; exact y1'))
    have so1 : lb 0 ≤ sj' ∧ sj' < ub 0 := ⟨sc'.2.1.1, sc'.2.1.2.1⟩
    refine ⟨sj', y1', ?_⟩
    rw [(aq2 129 (by omega) (by omega)).r, r129, ← e9, (at2 194 sj (by omega) (by omega) (by decide)).r, z2]
  · rw [(aq2 130 (by omega) (by omega)).r, (aq2 131 (by omega) (by omega)).i, (aq2 132 (by omega) (by omega)).i, raf 65 (by unfold jK; omega), raf 64 (by unfold jK; omega), raf 68 (by unfold jK; omega)]
    rcases w.or' with y | ⟨oc, mo, y1, y2, y3, y4, y5, y6, y7, y8, y9, y10⟩
    · exact Or.inl y
    · have ao := aoc oc y1 y2 y3
      refine Or.inr ⟨oc, mo, y1, y2, y3, y4.kept em (fun x x1 x2 => ao x (by omega)) ?_, y5, y6, y7, y8, y9, fun z hz => ?_⟩
      · have v1 := outO oc y1 y2 y3 100
        have v2 := jq.pl 100 oc (by omega) (by omega)
        exact ⟨v2.1.trans v1.p, v2.2.trans v1.l⟩
      · obtain ⟨r, z1, z2, z3, z4, z5⟩ := y10 z hz
        exact ⟨r, by rw [(ao 97 (by decide)).a]; exact z1, by rw [raf 66 (by unfold jK; omega)]; exact z2, z3.kf (Nat.le_refl _) hV tk, by rw [(ao 99 (by decide)).a, raf 67 (by unfold jK; omega)]; exact z4, by rw [(ao 99 (by decide)).a]; exact z5⟩
  · obtain ⟨sj, ej, z1, z2, z3, z4, z5, z6⟩ := sel2 j hj
    have v := (l12 j hj)
    exact ⟨sj, ej, z1, z2, z6.2.1.keep (by omega) v.2.1 (fun _ _ _ _ _ _ _ => AT.refl) (fun _ _ _ _ _ _ => rfl) (fun _ hz => hz) (fun _ _ => rfl) (fun oi qi w => JDN.keep (by omega) v.2.1 (fun _ _ _ _ _ _ _ => AT.refl) (fun _ _ _ _ _ _ => rfl) (fun _ hz => hz) (fun _ _ => rfl) d oi qi w)⟩
  · rw [(aq2 130 (by omega) (by omega)).r] at ho
    rcases w.or' with ⟨y1, -⟩ | ⟨oc', mo, y1, y2, y3, y4, y5, y6, y7, y8, y9, y10⟩
    · rw [y1] at ho; cases ho
    · have eo : oc' = oc := Option.some.inj (y1.symm.trans ho)
      rw [eo] at y1 y2 y3 y4
      have ao := aoc oc y1 y2 y3
      refine ⟨by omega, y3, mo, y4.m8, by rw [(ao 96 (by decide)).i]; exact y4.sz, fun z hz => ?_⟩
      have v := p2 oc mo (by rw [(aq 130 (by omega) oq).r]; exact y1) (by rw [ra1 64 (by unfold jK; omega)]; exact y6) y4.m8 z hz
      rw [(ao 97 (by decide)).a, ← (outO oc y1 y2 y3 97).a]
      exact v
  · have v := (a4.kp g2).1
    rw [i'm] at v
    exact (v.fr jk2.fr).run q2 l11 (by rw [raf 60 (by unfold jK; omega)]; exact l9)
  · rw [(at2 133 oq d1 d2 (by decide)).i]
    exact (a4.kp g2).2
  · obtain ⟨f1, f2, f3, f4, f5⟩ := fi g2
    have a100 : AT c1 c2 100 it := jq.a0 100 it (by omega) (by omega) (by have := jo1 0 (by omega); omega) (by omega)
    have tk2 := jq.tkf
    have hw := bv.wb
    have w1m := bv.wl (i := 1) (j := m) (by omega) (Nat.le_refl _)
    have y3' : e0 < wb 1 := y3
    refine ⟨e0, it, m1, by rw [(aq2 129 (by omega) (by omega)).r]; exact r129, by omega, by omega, by omega, by omega, e60, by rw [raf 61 (by unfold jK; omega)]; exact y2, by rw [ra2 36 (by unfold jP jR; omega)]; exact f2, f3.keep em2 (fun x x1 x2 => ?_), fun y hy => ?_, fun y hy => ?_⟩
    · by_cases w9 : x = 100
      · rw [w9]; exact a100
      · exact at2 x it (by omega) (by omega) w9
    · rw [(at2 98 it (by omega) (by omega) (by decide)).b, ra2 45 (by unfold jP jR; omega)]
      exact (f4 y hy).f tk2
    · rw [a100.a, ra2 46 (by unfold jP jR; omega)]
      exact f5 y hy
theorem jqs_all {n : Nat} {f : Nat → Int32} {M t c cap s k : Nat} {V : VT} {ss S Q K F : Nat} (hF : 10000 ≤ F) (sk : SKV V s) (hs : s ≤ 120) (hK : t < K ∧ c < K) : ∀ (d n1 n2 : Nat), d ≤ 91 → 4 * d ≤ n1 → 2 * d ≤ n2 → JQS n f M t c cap s k V ss S Q K d (tabc_X0_checkQuery F n1).1 (tab_judgeQuery F n2).1
  | 0, _, _, _, _, _ => fun Su Sl Ql lo hi oq q D cs rs _ _ _ _ _ _ qr _ => qr.elim
  | d + 1, n1, n2, h0, h1, h2 => by
    obtain ⟨a, rfl⟩ : ∃ z, n1 = z + 4 := ⟨n1 - 4, by omega⟩
    obtain ⟨b, rfl⟩ : ∃ z, n2 = z + 2 := ⟨n2 - 2, by omega⟩
    have ih := jqs_all (n := n) (f := f) (M := M) (t := t) (c := c) (cap := cap) (s := s) (k := k) (V := V) (ss := ss) (S := S) (Q := Q) (K := K) (F := F) hF sk hs hK d a b (by omega) (by omega) (by omega)
    exact jqs_succ (T := tabc_X0_checkQuery F (a + 3)) (T1 := tabc_X0_checkQuery F (a + 2)) (T2' := tabc_X0_checkQuery F (a + 1)) (T2 := tabc_X0_checkQuery F a) (T' := tab_judgeQuery F (b + 1)) (T1' := tab_judgeQuery F b) hF sk hs (by omega) hK ih rfl rfl rfl rfl

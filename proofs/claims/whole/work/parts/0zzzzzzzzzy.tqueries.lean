/-! QUERIES within QUERIES that were checked, the class alone -/
/-- in the middle of the SELECTS -/
def QSX (V : VT) (t c cap s k lo hi L m it0 oq j : Nat) (lb ub : Nat → Nat) (cs0 : CS) (cs : CS) : Prop := (CK t c cap s k cs) ∧ (EM cs0 cs) ∧ (STA cs0 cs) ∧ (∀ x, AT cs0 cs x c ∨ x = 72 ∨ x = 73) ∧ (∀ x j' i, j ≤ j' → j' < m → lb j' ≤ i → i < ub j' → AT cs0 cs x i) ∧ (∀ x, AT cs0 cs x L) ∧ (∀ x, x ≠ 133 → 38 ≤ x → AT cs0 cs x oq) ∧ (∀ oc x, kR cs0 130 oq = some oc → 38 ≤ x → AT cs0 cs x oc) ∧ (∀ x, 0 < j → 38 ≤ x → x ≠ 100 → x ≠ 206 → AT cs0 cs x it0) ∧ (∀ x i, 64 ≤ x → x < 128 → lo ≤ i → i < hi → kP cs x i = kP cs0 x i ∧ kL cs x i = kL cs0 x i) ∧ (0 < j → ∃ so ns, kQ cs0 1 L (j - 1) = some so ∧ kI cs0 196 so = nI ns ∧ kR cs 35 k = some so ∧ kI cs 36 k = nI ns)
theorem QSX.ck {V : VT} {t c cap s k lo hi L m it0 oq j : Nat} {lb ub : Nat → Nat} {cs0 : CS} {cs : CS} (h : QSX V t c cap s k lo hi L m it0 oq j lb ub cs0 cs) : CK t c cap s k cs := h.1
theorem QSX.em {V : VT} {t c cap s k lo hi L m it0 oq j : Nat} {lb ub : Nat → Nat} {cs0 : CS} {cs : CS} (h : QSX V t c cap s k lo hi L m it0 oq j lb ub cs0 cs) : EM cs0 cs := h.2.1
theorem QSX.sta {V : VT} {t c cap s k lo hi L m it0 oq j : Nat} {lb ub : Nat → Nat} {cs0 : CS} {cs : CS} (h : QSX V t c cap s k lo hi L m it0 oq j lb ub cs0 cs) : STA cs0 cs := h.2.2.1
theorem QSX.ac {V : VT} {t c cap s k lo hi L m it0 oq j : Nat} {lb ub : Nat → Nat} {cs0 : CS} {cs : CS} (h : QSX V t c cap s k lo hi L m it0 oq j lb ub cs0 cs) : ∀ x, AT cs0 cs x c ∨ x = 72 ∨ x = 73 := h.2.2.2.1
theorem QSX.a1 {V : VT} {t c cap s k lo hi L m it0 oq j : Nat} {lb ub : Nat → Nat} {cs0 : CS} {cs : CS} (h : QSX V t c cap s k lo hi L m it0 oq j lb ub cs0 cs) : ∀ x j' i, j ≤ j' → j' < m → lb j' ≤ i → i < ub j' → AT cs0 cs x i := h.2.2.2.2.1
theorem QSX.aL {V : VT} {t c cap s k lo hi L m it0 oq j : Nat} {lb ub : Nat → Nat} {cs0 : CS} {cs : CS} (h : QSX V t c cap s k lo hi L m it0 oq j lb ub cs0 cs) : ∀ x, AT cs0 cs x L := h.2.2.2.2.2.1
theorem QSX.aq {V : VT} {t c cap s k lo hi L m it0 oq j : Nat} {lb ub : Nat → Nat} {cs0 : CS} {cs : CS} (h : QSX V t c cap s k lo hi L m it0 oq j lb ub cs0 cs) : ∀ x, x ≠ 133 → 38 ≤ x → AT cs0 cs x oq := h.2.2.2.2.2.2.1
theorem QSX.ao {V : VT} {t c cap s k lo hi L m it0 oq j : Nat} {lb ub : Nat → Nat} {cs0 : CS} {cs : CS} (h : QSX V t c cap s k lo hi L m it0 oq j lb ub cs0 cs) : ∀ oc x, kR cs0 130 oq = some oc → 38 ≤ x → AT cs0 cs x oc := h.2.2.2.2.2.2.2.1
theorem QSX.ai {V : VT} {t c cap s k lo hi L m it0 oq j : Nat} {lb ub : Nat → Nat} {cs0 : CS} {cs : CS} (h : QSX V t c cap s k lo hi L m it0 oq j lb ub cs0 cs) : ∀ x, 0 < j → 38 ≤ x → x ≠ 100 → x ≠ 206 → AT cs0 cs x it0 := h.2.2.2.2.2.2.2.2.1
theorem QSX.pl {V : VT} {t c cap s k lo hi L m it0 oq j : Nat} {lb ub : Nat → Nat} {cs0 : CS} {cs : CS} (h : QSX V t c cap s k lo hi L m it0 oq j lb ub cs0 cs) : ∀ x i, 64 ≤ x → x < 128 → lo ≤ i → i < hi → kP cs x i = kP cs0 x i ∧ kL cs x i = kL cs0 x i := h.2.2.2.2.2.2.2.2.2.1
theorem QSX.k5 {V : VT} {t c cap s k lo hi L m it0 oq j : Nat} {lb ub : Nat → Nat} {cs0 : CS} {cs : CS} (h : QSX V t c cap s k lo hi L m it0 oq j lb ub cs0 cs) : 0 < j → ∃ so ns, kQ cs0 1 L (j - 1) = some so ∧ kI cs0 196 so = nI ns ∧ kR cs 35 k = some so ∧ kI cs 36 k = nI ns := h.2.2.2.2.2.2.2.2.2.2
theorem qry_A {t c cap s k : Nat} {F K d lo hi oq : Nat} {V : VT} {T T1 T2 T3 : TC_X0_checkQuery} {cs0 : CS} (hF : 10000 ≤ F) (hFF : F < 1000000) (sk : SKV V s) (sx : SCX V t c s k K cs0) (hK : K ≤ lo) (kh : hi ≤ k) (qs : QST V c s cs0 (d + 1) lo hi oq) (hT0 : T.2.1 = cb_X0_checkSelect F T1) (hT : T1.2.2.1 = cb_X0_checkSource F T2) (hT1 : T2.2.2.2 = cb_X0_checkInner F T3) (ih : ∀ lo' hi' oi, lo ≤ lo' → hi' ≤ hi → QST V c s cs0 d lo' hi' oi → QCH V t c cap s k cs0 T3.1 d lo' hi' oi) : QCH V t c cap s k cs0 (cb_X0_checkQuery F T) (d + 1) lo hi oq := by
  intro cs cs9 h e0 sta A ac g
  have qst := qs
  obtain ⟨L, m, it0, lb, ub, q1, q2, q3, q4, q5, q6, q7, q8, q9, q10, q11, q12, q13, q14, q15, q16, q17⟩ := qs
  obtain ⟨tK, cK, tc, tk, ck'⟩ := sx.tc
  have s1 := sx.s1
  obtain ⟨i1, i2⟩ := QST.it (d + 1) lo hi oq it0 qst q13
  have ubl : ∀ dd j, j + dd + 1 < m → ub j ≤ lb (j + dd + 1) := fun dd => by
    induction dd with
    | zero => intro j hj; exact q15 j (by omega)
    | succ dd ihd =>
      intro j hj
      have w1 := ihd j (by omega)
      have w2 := (q14 (j + dd + 1) (by omega)).2.1
      have w3 := q15 (j + dd + 1) (by omega)
      rw [show j + (dd + 1) + 1 = j + dd + 1 + 1 by omega]
      omega
  have sep : ∀ j j', j < j' → j' < m → ub j ≤ lb j' := fun j j' h1 h2 => by
    have w := ubl (j' - j - 1) j (by omega)
    rw [show j + (j' - j - 1) + 1 = j' by omega] at w
    exact w
  obtain ⟨so0, z1, z2, z3⟩ := q16 0 (by omega)
  obtain ⟨mi0, cm0⟩ : ∃ mi0, CLM it0 mi0 cs0 := by
    obtain ⟨it', gr, mi, ns, mg, b, sl, -⟩ := z2
    have e2 : it' = it0 := Option.some.inj (sl.r194.symm.trans (z3 rfl))
    rw [← e2]
    exact ⟨mi, sl.ci⟩
  have it0r : lb 0 ≤ it0 ∧ it0 < ub 0 := by
    obtain ⟨it', gr, mi, ns, mg, b, sl, -⟩ := z2
    have e2 : it' = it0 := Option.some.inj (sl.r194.symm.trans (z3 rfl))
    have od := sl.od
    omega
  have itr : ∀ j so it, j < m → kQ cs0 1 L j = some so → kR cs0 194 so = some it → (lb j ≤ it ∧ it < ub j) ∧ (lb j ≤ so ∧ so < ub j) ∧ SST (QST V c s cs0 d) V c s (lb j) (ub j) so cs0 ∧ ∃ mi, CLM it mi cs0 := fun j so it hj hq h194 => by
    obtain ⟨so', u1, u2, u3⟩ := q16 j hj
    have eo : so' = so := Option.some.inj (u1.symm.trans hq)
    rw [eo] at u2
    have u2' := u2
    obtain ⟨it', gr, mi, ns, mg, b, sl, -⟩ := u2
    have e2 : it' = it := Option.some.inj (sl.r194.symm.trans h194)
    have od := sl.od
    have ci := sl.ci
    rw [e2] at ci
    exact ⟨by omega, by omega, u2', mi, ci⟩
  -- a SELECT behind a later check
  have kp : ∀ (j so it : Nat) (Ob Nd : Nat → Prop) (a d' : CS), j < m → kQ cs0 1 L j = some so → kR cs0 194 so = some it → STA cs0 a → CFN t c k Ob Nd a d' → (∀ i, lb j ≤ i → i < ub j → ¬ Ob i) → (∀ i, lb 0 ≤ i → i < ub 0 → ¬ Ob i) → (∀ z, NDO V s (lb j) (ub j) cs0 z → ¬ Nd z) → (CLM it mi0 cs0 ∧ (∀ y, y < mi0 → kA a 100 it y = kA a 100 it0 y) ∧ TSE (TQY V s c cs0 d) V s c cs0 so a) → CLM it mi0 cs0 ∧ (∀ y, y < mi0 → kA d' 100 it y = kA d' 100 it0 y) ∧ TSE (TQY V s c cs0 d) V s c cs0 so d' := fun j so it Ob Nd a d' hj hq h194 sa cf hO hO0 hN w => by
    obtain ⟨r1, r2, r3, -⟩ := itr j so it hj hq h194
    obtain ⟨b1, b2, b3, b4⟩ := q14 j hj
    refine ⟨w.1, fun y hy => ?_, w.2.2.keep sx (by omega) r3 sa cf hO hN (fun lo' hi' oi x1 x2 x3 x4 => ⟨TQY.keep sx sa cf d lo' hi' oi (by omega) x3 (fun i i1 i2 => hO i (by omega) (by omega)) (fun z hz => hN z (hz.mono (by omega) (by omega))) x4, fun it' hit' => by
      have := QST.it d lo' hi' oi it' x3 hit'
      omega⟩)⟩
    rw [(cf.2.2.1 100 it (by omega) (by omega) (by omega) (fun q => hO it r1.1 r1.2 q.1)).a, (cf.2.2.1 100 it0 (by omega) (by omega) (by omega) (fun q => hO0 it0 it0r.1 it0r.2 q.1)).a]
    exact w.2.1 y hy
  -- behind the SELECTS
  have tl : ∀ (j : Nat) (cs1 : CS), j ≤ m → QSX V t c cap s k lo hi L m it0 oq j lb ub cs0 cs1 → (j < m → kI cs1 320 t ≠ 0) → c_X0_checkQuery_b76 F T cs1 k oq = some cs9 → CFN t c k (fun j => lo ≤ j ∧ j < hi) (NDO V s lo hi cs0) cs1 cs9 ∧ (kI cs9 320 t = 0 → (∀ j', j' < j → ∃ so it, kQ cs0 1 L j' = some so ∧ kR cs0 194 so = some it ∧ CLM it mi0 cs0 ∧ (∀ y, y < mi0 → kA cs1 100 it y = kA cs1 100 it0 y) ∧ TSE (TQY V s c cs0 d) V s c cs0 so cs1) → TQY V s c cs0 (d + 1) oq cs9) := fun j cs1 hj p hf g => by
    have r130 : kR cs1 130 oq = kR cs0 130 oq := (p.aq 130 (by decide) (by decide)).r
    unfold c_X0_checkQuery_b76 c_X0_checkQuery_b99 at g
    rw [gR_ok (p.em _ q4), ob_s, r130] at g
    cases ho : kR cs0 130 oq with
    | none =>
      rw [ho] at g
      replace g := oc_n.symm.trans g
      rw [← Option.some.inj g]
      refine ⟨CFN.refl, fun f9 ty => ?_⟩
      have jm : j = m := by
        by_cases w : j < m
        · exact absurd f9 (hf w)
        · omega
      rw [jm] at ty
      exact ⟨L, m, it0, mi0, q5, q10, q12, q13, cm0, ty, fun oc hoc => by rw [ho] at hoc; cases hoc⟩
    | some oc =>
      rw [ho] at g
      replace g := oc_s.symm.trans g
      obtain ⟨v1, v2, v4, mo, v5, v6, v7⟩ := q17 oc ho
      rw [ckE_ok p.ck.o, ob_s, fau_x p.ck, ob_s] at g
      by_cases f : kI cs1 320 t = 0
      · rw [if_pos f, if_pos rfl] at g
        have jm : j = m := by
          by_cases w : j < m
          · exact absurd f (hf w)
          · omega
        replace g := ob g; obtain ⟨v8, g8, g⟩ := g
        replace g := ob g; obtain ⟨i9, g9, g⟩ := g
        replace g := ob g; obtain ⟨w10, g10, g⟩ := g
        replace g := ob g; obtain ⟨c11, g11, g⟩ := g
        have e9 : i9 = oc := by
          have w := Option.some.inj g8
          rw [g9] at w
          exact (Option.some.inj w).symm
        rw [e9] at g11
        obtain ⟨so, ns, y1, y2, y3, y4⟩ := p.k5 (by omega)
        obtain ⟨so', u1, u2, -⟩ := q16 (j - 1) (by omega)
        have eo : so' = so := Option.some.inj (u1.symm.trans y1)
        rw [eo] at u2
        have um := v4 (j - 1) (by omega)
        obtain ⟨fo, to⟩ := ord_A hF hFF sk sx hK kh ⟨by omega, v2⟩ ⟨i1, i2, by have := v4 0 (by omega); omega⟩ v5 v6 v7 p.ck p.em p.ac (fun x x1 => p.ao oc x ho x1) (by rw [(p.aq 129 (by decide) (by decide)).r]; exact q13) y3 y4 (fun i oo cl w1 w2 w3 w4 => by
          obtain ⟨it', gr, mi, ns', mg, b, sl, -, -, -, -, n1, b0, bm, bh, sr⟩ := u2
          have n3 := sl.n3
          rw [← y2, sl.i196] at w2
          have im := (nI_ltI (a := i) (b := ns') w1 (by omega)).mp w2
          rw [(p.sta 195 so (Or.inl rfl)).q] at w3
          rw [(p.sta 235 oo (Or.inr rfl)).r] at w4
          obtain ⟨oo', x1, x2⟩ := sr i im
          have ee : oo' = oo := Option.some.inj (x1.symm.trans w3)
          rw [ee] at x2
          rw [x2.r235] at w4
          have e4 := Option.some.inj w4
          have oh := x2.oh
          have bb : b (i + 1) ≤ b ns' := by
            have bl : ∀ dd, i + 1 + dd ≤ ns' → b (i + 1) ≤ b (i + 1 + dd) := fun dd => by
              induction dd with
              | zero => intro _; exact Nat.le_refl _
              | succ dd ihd => intro hh; exact Nat.le_trans (ihd (by omega)) (bm (i + 1 + dd) (by omega))
            have w := bl (ns' - (i + 1)) (by omega)
            rw [show i + 1 + (ns' - (i + 1)) = ns' by omega] at w
            exact w
          omega) g11
        rw [← Option.some.inj g]
        refine ⟨fo.mono (fun i w => by omega) (fun z w => w.mono (by omega) (by omega)), fun f9 ty => ⟨L, m, it0, mi0, q5, q10, q12, q13, cm0, fun j' hj' => ?_, fun oc' hoc' => ?_⟩⟩
        · obtain ⟨so1, it1, x1, x2, x3⟩ := ty j' (by omega)
          have u5 := v4 j' hj'
          have u6 := v4 0 (by omega)
          have b1 := (q14 j' hj').1
          exact ⟨so1, it1, x1, x2, kp j' so1 it1 _ _ cs1 c11 hj' x1 x2 p.sta fo (fun i i1 i2 w => by omega) (fun i i1 i2 w => by omega) (fun z hz w => sx.nd (by omega) (by omega) (Or.inl u5) hz w) x3⟩
        · rw [ho] at hoc'
          rw [← Option.some.inj hoc']
          exact ⟨mo, v5, to f9⟩
      · rw [if_neg f, if_neg (by decide)] at g
        rw [← Option.some.inj g]
        exact ⟨CFN.refl, fun f9 _ => absurd f9 f⟩
  have lp : ∀ (lf j : Nat) (cs1 : CS), j ≤ m → QSX V t c cap s k lo hi L m it0 oq j lb ub cs0 cs1 → c_X0_checkQuery_L2 F T lf cs1 k oq (nI j) = some cs9 → CFN t c k (fun j => lo ≤ j ∧ j < hi) (NDO V s lo hi cs0) cs1 cs9 ∧ (kI cs9 320 t = 0 → (∀ j', j' < j → ∃ so it, kQ cs0 1 L j' = some so ∧ kR cs0 194 so = some it ∧ CLM it mi0 cs0 ∧ (∀ y, y < mi0 → kA cs1 100 it y = kA cs1 100 it0 y) ∧ TSE (TQY V s c cs0 d) V s c cs0 so cs1) → TQY V s c cs0 (d + 1) oq cs9) := by
    intro lf
    induction lf with
    | zero => intro j cs1 _ _ g; cases (show (none : Option CS) = _ from g)
    | succ lf lih =>
      intro j cs1 hj p g
      have r128 : kR cs1 128 oq = some L := by rw [(p.aq 128 (by decide) (by decide)).r]; exact q5
      have l0 : (0, L) ∈ kE cs1 := p.em _ q6
      have l33 : (33, L) ∈ kE cs1 := p.em _ q7
      have lp1 : ∃ j, kP cs1 1 L = some j := by rw [(p.aL 1).p]; exact q8
      have ll1 : kL cs1 1 L = 10 := by rw [(p.aL 1).l]; exact q9
      have li2 : kI cs1 2 L = nI m := by rw [(p.aL 2).i]; exact q10
      rw [c_X0_checkQuery_L2, gR_ok (p.em _ q4), ob_s, r128, ob_s, ckE_ok l0, ob_s, list_size l0 li2, ob_s] at g
      by_cases q : j < m
      · rw [if_neg (nI_ge q (by omega)), ckE_ok p.ck.o, ob_s, fau_x p.ck, ob_s] at g
        by_cases f : kI cs1 320 t = 0
        · obtain ⟨so, kq, kst, kz⟩ := q16 j q
          have kq1 : kQ cs1 1 L j = some so := by rw [(p.aL 1).q]; exact kq
          rw [if_pos f, if_pos rfl, ob_s, ob_s, ckE_ok l0, ob_s, list_get l0 l33 lp1 ll1 li2 (by omega) q kq1, ob_s] at g
          replace g := ob g; obtain ⟨w1, g1, g⟩ := g
          replace g := ob g; obtain ⟨w2, g2, g⟩ := g
          replace g := ob g; obtain ⟨c2, g3, g⟩ := g
          rw [hT0] at g3
          obtain ⟨b1, b2, b3, b4⟩ := q14 j q
          obtain ⟨f2, ⟨it, ns, e194, e196, e35, e36, eit⟩, t2⟩ := sel_A hF hFF sx (show K ≤ lb j by omega) (show ub j ≤ k by omega) kst hT hT1 (fun lo' hi' oi x1 x2 x3 => ih lo' hi' oi (by omega) (by omega) x3) p.ck p.em p.sta (fun x i i1 i2 => p.a1 x j i (Nat.le_refl _) q i1 i2) p.ac g3
          obtain ⟨r1, r2, -, mi, cmi⟩ := itr j so it q kq e194
          have h2 := f2.ck p.ck
          -- what is kept, written
          have pst : ∀ (c3 : CS) (y : Int32), pI c2 4 133 oq y = some c3 → (if nI j ≤ 0 then (c_X0_checkQuery_b70 F T (c_X0_checkQuery_L2 F T lf) c3 k oq (nI j)) else (Option.bind (ckE c3 1 k) fun _ => Option.bind (c_X0_checkSet F c3 k oq so) fun cs_13 => c_X0_checkQuery_b70 F T (c_X0_checkQuery_L2 F T lf) cs_13 k oq (nI j))) = some cs9 → CFN t c k (fun j => lo ≤ j ∧ j < hi) (NDO V s lo hi cs0) cs1 cs9 ∧ (kI cs9 320 t = 0 → (∀ j', j' < j → ∃ so it, kQ cs0 1 L j' = some so ∧ kR cs0 194 so = some it ∧ CLM it mi0 cs0 ∧ (∀ y, y < mi0 → kA cs1 100 it y = kA cs1 100 it0 y) ∧ TSE (TQY V s c cs0 d) V s c cs0 so cs1) → TQY V s c cs0 (d + 1) oq cs9) := fun c3 y g4 g => by
            obtain ⟨-, e3⟩ := pI_some g4
            have f3 : CFN t c k (fun j => j = oq) (fun _ => False) c2 c3 := by
              rw [← e3]
              exact ⟨rfl, fun w => (kI_n (by omega)).symm.trans w, fun x j q1 q2 q3 q4 => AT.sI (by omega), fun _ _ _ _ => ⟨rfl, rfl⟩, fun _ _ => ⟨fun _ => rfl, rfl⟩⟩
            have a3 : ∀ x i, ¬ (x = 133 ∧ i = oq) → AT c2 c3 x i := fun x i hx => by rw [← e3]; exact AT.sI hx
            -- the last step
            have fin : ∀ c4, NFR t c (fun _ => False) c3 c4 → (kI c4 320 t = 0 → CLM it mi0 cs0 ∧ ∀ z, z < mi0 → kA c4 100 it z = kA c4 100 it0 z) → c_X0_checkQuery_L2 F T lf c4 k oq (nI (j + 1)) = some cs9 → CFN t c k (fun j => lo ≤ j ∧ j < hi) (NDO V s lo hi cs0) cs1 cs9 ∧ (kI cs9 320 t = 0 → (∀ j', j' < j → ∃ so it, kQ cs0 1 L j' = some so ∧ kR cs0 194 so = some it ∧ CLM it mi0 cs0 ∧ (∀ y, y < mi0 → kA cs1 100 it y = kA cs1 100 it0 y) ∧ TSE (TQY V s c cs0 d) V s c cs0 so cs1) → TQY V s c cs0 (d + 1) oq cs9) := fun c4 n4 ty4 g => by
              have f4 : CFN t c k (fun j => j = oq) (fun _ => False) c2 c4 := f3.trans n4.cf
              have f14 : CFN t c k (fun i => i = oq ∨ (lb j ≤ i ∧ i < ub j)) (NDO V s (lb j) (ub j) cs0) cs1 c4 := (f2.mono (fun i w => Or.inr w) (fun _ w => w)).trans (f4.mono (fun i w => Or.inl w) (fun _ w => w.elim))
              have a4 : ∀ x i, x ≠ 72 → x ≠ 73 → x ≠ 320 → x ≠ 321 → ¬ (x = 133 ∧ i = oq) → AT c2 c4 x i := fun x i x1 x2 x3 x4 x5 => (a3 x i x5).trans (n4.2.2.1 x i (by omega) (by omega))
              have aa : ∀ x i, ¬ (lb j ≤ i ∧ i < ub j) → i ≠ c → i ≠ t → i ≠ k → ¬ (x = 133 ∧ i = oq) → AT cs1 c4 x i := fun x i y1 y2 y3 y4 y5 => ((f2.2.2.1 x i (by omega) (by omega) (by omega) (by omega)).trans (a3 x i y5)).trans (n4.2.2.1 x i (by omega) (by omega))
              have p4 : QSX V t c cap s k lo hi L m it0 oq (j + 1) lb ub cs0 c4 := by
                refine ⟨f14.ck p.ck, p.em.trans f14.em, p.sta.cf f14, fun x => ?_, fun x j' i y1 y2 y3 y4 => ?_, fun x => ?_, fun x y1 y2 => ?_, fun oc x ho y1 => ?_, fun x _ y1 y2 y3 => ?_, fun x i y1 y2 y3 y4 => ?_, fun _ => ?_⟩
                · rcases p.ac x with w | w
                  · by_cases w2 : x = 72 ∨ x = 73
                    · exact Or.inr w2
                    · exact Or.inl (w.trans (f14.2.2.1 x c (by omega) (by omega) (by omega) (by omega)))
                  · exact Or.inr w
                · have sp := sep j j' (by omega) y2
                  have bj := q14 j' y2
                  exact (p.a1 x j' i (by omega) y2 y3 y4).trans (aa x i (by omega) (by omega) (by omega) (by omega) (by omega))
                · exact (p.aL x).trans (aa x L (by omega) (by omega) (by omega) (by omega) (by omega))
                · exact (p.aq x y1 y2).trans (aa x oq (by omega) (by omega) (by omega) (by omega) (by omega))
                · obtain ⟨v1, v2, v4, -⟩ := q17 oc ho
                  have vj := v4 j q
                  exact (p.ao oc x ho y1).trans (aa x oc (by omega) (by omega) (by omega) (by omega) (by omega))
                · by_cases j0 : j = 0
                  · have e0 : it = it0 := by
                      have w := kz j0
                      rw [e194] at w
                      exact Option.some.inj w
                    rw [← e0]
                    exact (eit x y1 y2 y3).trans ((a3 x it (by omega)).trans (n4.2.2.1 x it (by omega) (by omega)))
                  · have sp := sep 0 j (by omega) q
                    have b00 := q14 0 (by omega)
                    exact (p.ai x (by omega) y1 y2 y3).trans (aa x it0 (by omega) (by omega) (by omega) (by omega) (by omega))
                · have w1 := p.pl x i y1 y2 y3 y4
                  have w2 := f14.2.2.2.1 x i y1 y2
                  exact ⟨w2.1.trans w1.1, w2.2.trans w1.2⟩
                · refine ⟨so, ns, kq, e196, ?_, ?_⟩
                  · rw [(a4 35 k (by decide) (by decide) (by decide) (by decide) (by omega)).r]; exact e35
                  · rw [(a4 36 k (by decide) (by decide) (by decide) (by decide) (by omega)).i]; exact e36
              obtain ⟨u1, u2⟩ := lih (j + 1) c4 (by omega) p4 g
              refine ⟨(f14.mono (fun i w => by omega) (fun z w => w.mono (by omega) (by omega))).trans u1, fun f9 ty => u2 f9 (fun j' hj' => ?_)⟩
              have ff := u1.2.1 f9
              by_cases ej : j' = j
              · rw [ej]
                obtain ⟨x1, x2⟩ := ty4 ff
                have tt := t2 (f4.2.1 ff)
                refine ⟨so, it, kq, e194, x1, x2, tt.keep sx (by omega) kst (p.sta.cf f2) f4 (fun i i1 i2 w => by omega) (fun _ _ w => w) (fun lo' hi' oi x1 x2 x3 x4 => ⟨TQY.keep sx (p.sta.cf f2) f4 d lo' hi' oi (by omega) x3 (fun i i1 i2 w => by omega) (fun _ _ w => w) x4, fun it' hit' => by
                  have := QST.it d lo' hi' oi it' x3 hit'
                  omega⟩)⟩
              · obtain ⟨so1, it1, x1, x2, x3⟩ := ty j' (by omega)
                have sp := sep j' j (by omega) q
                have bj := q14 j' (by omega)
                have b0' := q14 0 (by omega)
                have s0 : ub 0 ≤ lb j := by
                  by_cases w : 0 < j
                  · exact sep 0 j w q
                  · omega
                exact ⟨so1, it1, x1, x2, kp j' so1 it1 _ _ cs1 c4 (by omega) x1 x2 p.sta f14 (fun i i1 i2 w => by omega) (fun i i1 i2 w => by omega) (fun z hz w => sx.nd (by omega) (by omega) (Or.inl sp) hz w) x3⟩
            unfold c_X0_checkQuery_b70 at g
            rw [nI_1] at g
            by_cases j0 : j = 0
            · replace g := (if_pos (by rw [j0]; exact Int32.le_refl _)).symm.trans g
              have e0 : it = it0 := by
                have w := kz j0
                rw [e194] at w
                exact Option.some.inj w
              refine fin c3 NFR.refl (fun _ => ⟨by rw [e0]; exact cm0, fun z _ => by rw [e0]⟩) g
            · replace g := (if_neg (nI_ge (a := 0) (b := j) (by omega) (by omega))).symm.trans g
              replace g := ob g; obtain ⟨w5, g5, g⟩ := g
              replace g := ob g; obtain ⟨c6, g6, g⟩ := g
              have sp := sep 0 j (by omega) q
              have em3 : EM cs0 c3 := p.em.trans (f2.em.trans f3.em)
              have pl3 : ∀ x i, 64 ≤ x → x < 128 → lo ≤ i → i < hi → kP c3 x i = kP cs0 x i ∧ kL c3 x i = kL cs0 x i := fun x i y1 y2 y3 y4 => by
                have w1 := p.pl x i y1 y2 y3 y4
                have w2 := f2.2.2.2.1 x i y1 y2
                have w3 := f3.2.2.2.1 x i y1 y2
                exact ⟨w3.1.trans (w2.1.trans w1.1), w3.2.trans (w2.2.trans w1.2)⟩
              have d0 : CLM it0 mi0 c3 := by
                refine cm0.fr em3 (fun x x1 x2 => pl3 x it0 (by omega) (by omega) i1 i2) ?_
                rw [(a3 96 it0 (by omega)).i, (f2.2.2.1 96 it0 (by omega) (by omega) (by omega) (by omega)).i, (p.ai 96 (by omega) (by decide) (by decide) (by decide)).i]
              have d1 : CLM it mi c3 := by
                refine cmi.fr em3 (fun x x1 x2 => pl3 x it (by omega) (by omega) (by omega) (by omega)) ?_
                rw [(a3 96 it (by omega)).i, (eit 96 (by decide) (by decide) (by decide)).i]
              have r129 : kR c3 129 oq = some it0 := by
                rw [(a3 129 oq (by omega)).r, (f2.2.2.1 129 oq (by omega) (by omega) (by omega) (by omega)).r, (p.aq 129 (by decide) (by decide)).r]
                exact q13
              have r194 : kR c3 194 so = some it := by
                rw [(a3 194 so (by omega)).r, (f2.2.2.1 194 so (by omega) (by omega) (by omega) (fun w => by have := w.2; omega)).r, (p.a1 194 j so (Nat.le_refl _) q r2.1 r2.2).r]
                exact e194
              obtain ⟨n6, t6⟩ := set_A hF (f3.ck h2) ⟨by omega, by omega⟩ d0 d1 r129 r194 g6
              refine fin c6 n6 (fun ff => ?_) g
              obtain ⟨x1, x2⟩ := t6 ff
              exact ⟨by rw [x1]; exact cmi, x2⟩
          replace g := ob g; obtain ⟨v5, g5, g⟩ := g
          unfold c_X0_checkQuery_b52 c_X0_checkQuery_b57 at g
          by_cases q5' : v5 = 0
          · replace g := (if_pos q5').symm.trans g
            replace g := ob g; obtain ⟨v6, g6, g⟩ := g
            by_cases q6' : v6 = 0
            · replace g := (if_pos q6').symm.trans g
              replace g := ob g; obtain ⟨v7, g7, g⟩ := g
              replace g := ob g; obtain ⟨c8, g8, g⟩ := g
              exact pst c8 _ g8 g
            · replace g := (if_neg q6').symm.trans g
              replace g := ob g; obtain ⟨v7, g7, g⟩ := g
              replace g := ob g; obtain ⟨c8, g8, g⟩ := g
              exact pst c8 _ g8 g
          · replace g := (if_neg q5').symm.trans g
            replace g := ob g; obtain ⟨v7, g7, g⟩ := g
            replace g := ob g; obtain ⟨c8, g8, g⟩ := g
            exact pst c8 _ g8 g
        · rw [if_neg f, if_neg (by decide)] at g
          exact tl j cs1 hj p (fun _ => f) g
      · have e : j = m := by omega
        rw [e, if_pos (Int32.le_refl _)] at g
        exact tl j cs1 hj p (fun w => absurd w q) g
  have p0 : QSX V t c cap s k lo hi L m it0 oq 0 lb ub cs0 cs := ⟨h, e0, sta, ac, fun x j' i y1 y2 y3 y4 => A x i (by have := q14 j' y2; omega) (by have := q14 j' y2; omega), fun x => A x L (by omega) q3, fun x _ _ => A x oq q1 (by omega), fun oc x ho _ => A x oc (by have := q17 oc ho; omega) (by have := q17 oc ho; omega), fun x w => absurd w (by omega), fun x i _ _ y3 y4 => ⟨(A x i y3 y4).p, (A x i y3 y4).l⟩, fun w => absurd w (by omega)⟩
  obtain ⟨u1, u2⟩ := lp F 0 cs (by omega) p0 g
  exact ⟨u1, fun f9 => u2 f9 (fun j' hj' => absurd hj' (by omega))⟩
/-- all QUERIES -/
theorem qry_all {t c cap s k : Nat} {F K : Nat} {V : VT} {cs0 : CS} (hF : 10000 ≤ F) (hFF : F < 1000000) (sk : SKV V s) (sx : SCX V t c s k K cs0) : ∀ (d n lo hi oq : Nat), 4 * d ≤ n → K ≤ lo → hi ≤ k → QST V c s cs0 d lo hi oq → QCH V t c cap s k cs0 (tabc_X0_checkQuery F n).1 d lo hi oq
  | 0, _, _, _, _, _, _, _, h => h.elim
  | d + 1, n, lo, hi, oq, hn, hK, kh, h => by
    obtain ⟨n, rfl⟩ : ∃ z, n = z + 4 := ⟨n - 4, by omega⟩
    exact qry_A (T := tabc_X0_checkQuery F (n + 3)) (T1 := tabc_X0_checkQuery F (n + 2)) (T2 := tabc_X0_checkQuery F (n + 1)) (T3 := tabc_X0_checkQuery F n) hF hFF sk sx hK kh h rfl rfl rfl (fun lo' hi' oi x1 x2 x3 => qry_all hF hFF sk sx d n lo' hi' oi (by omega) (by omega) (by omega) x3)

/-! rows seen by a text, in both -/
def isv (rs : RS) (d : Nat) (k : Int64) (p : Nat) : Bool := !(rs.2.2.1 6 (8 * d + p) == 0) && (decide (k < 0) || !decide (rs.2.2.2 7 (8 * d + p) < sinc rs.2.1 k))
theorem isv_of {rs : RS} {o d p : Nat} {k : Int64} (h : KPR rs o k) : isin rs o (8 * d + p) = isv rs d k p := by
  unfold isin isv
  rcases h with ⟨h1, h2⟩ | ⟨h1, h2, h3⟩
  · rw [h1, decide_eq_true h2, show ((0 : Int32) == 0) = true by decide, Bool.true_or, Bool.true_or]
  · rw [show (rs.2.2.1 51 o == 0) = false from beq_eq_false_iff_ne.mpr h1, decide_eq_false (Int64.not_lt.mpr h2), h3]
def ctf (g : Nat → Bool) : Nat → Nat → Nat
  | 0, _ => 0
  | d + 1, p => (if g p = true then 1 else 0) + ctf g d (p + 1)
theorem ctf_eq {g g' : Nat → Bool} (h : ∀ p, g p = g' p) : ∀ d p, ctf g d p = ctf g' d p
  | 0, _ => rfl
  | d + 1, p => by
    show (if g p = true then 1 else 0) + ctf g d (p + 1) = (if g' p = true then 1 else 0) + ctf g' d (p + 1)
    rw [h p, ctf_eq h d (p + 1)]
def wgv (rs : RS) (x : Int32) (k : Int64) : Nat := ctf (isv rs x.toNatClampNeg k) 8 0
theorem wgv_n {rs : RS} {d : Nat} {k : Int64} (h : d < 6) : wgv rs (nI d) k = ctf (isv rs d k) 8 0 := by
  unfold wgv
  rw [nI_clamp (by omega)]
theorem lsm_pos {w : Int32 → Int64 → Nat} {t j : Nat} {cs : CS} (h : lk1 w t cs j ≠ 0) : ∀ m, j < m → lsm w t cs m ≠ 0
  | 0, hj => by omega
  | m + 1, hj => by
    show lsm w t cs m + lk1 w t cs m ≠ 0
    by_cases e : j = m
    · rw [e] at h
      omega
    · have := lsm_pos h m (by omega)
      omega
theorem rsm_pos {w : Int32 → Int64 → Nat} {rs : RS} : ∀ m, rsm w rs m ≠ 0 → ∃ s i, s < m ∧ i < 3 ∧ rk1 w rs s i ≠ 0
  | 0, h => absurd (show rsm w rs 0 = 0 from rfl) h
  | m + 1, h => by
    have h' : rsm w rs m + (rk1 w rs m 0 + rk1 w rs m 1 + rk1 w rs m 2) ≠ 0 := h
    by_cases e : rsm w rs m = 0
    · by_cases e0 : rk1 w rs m 0 = 0
      · by_cases e1 : rk1 w rs m 1 = 0
        · exact ⟨m, 2, by omega, by omega, by omega⟩
        · exact ⟨m, 1, by omega, by omega, e1⟩
      · exact ⟨m, 0, by omega, by omega, e0⟩
    · obtain ⟨s, i, h1, h2, h3⟩ := rsm_pos m e
      exact ⟨s, i, by omega, h2, h3⟩
/-- a leaf of the class is a SOURCE of the reference -/
theorem leaf_src {t lf S nst j oo : Nat} {cs : CS} {rs : RS} (sm : ∀ w, lsm w t cs lf = rsm w rs S) (fv : ∀ e, e < S → FV7 nst rs e) (hj : j < lf) (q : kQ cs 326 t j = some oo) : ∃ d o, d < nst ∧ kI cs 224 oo = nI d ∧ KPR rs o (kJ cs 230 oo) := by
  obtain ⟨w, hw⟩ : ∃ w : Int32 → Int64 → Nat, w = fun x y => if x = kI cs 224 oo ∧ y = kJ cs 230 oo then 1 else 0 := ⟨_, rfl⟩
  have l1 : lk1 w t cs j ≠ 0 := by
    unfold lk1
    rw [q, hw]
    show (if kI cs 224 oo = kI cs 224 oo ∧ kJ cs 230 oo = kJ cs 230 oo then 1 else 0) ≠ 0
    have c : kI cs 224 oo = kI cs 224 oo ∧ kJ cs 230 oo = kJ cs 230 oo := ⟨rfl, rfl⟩
    rw [if_pos c]
    decide
  have l2 := lsm_pos l1 lf hj
  rw [sm w] at l2
  obtain ⟨s, i, s1, s2, s3⟩ := rsm_pos S l2
  obtain ⟨ns, n1, n2, n3⟩ := fv s s1
  unfold rk1 at s3
  by_cases z : i < (rs.2.2.1 37 s).toNatClampNeg ∧ rs.2.2.1 49 (3 * s + i) ≠ -1
  · rw [if_pos z, hw] at s3
    obtain ⟨z1, z2⟩ := z
    rw [n1, nI_clamp (by omega)] at z1
    have s4 : (if rs.2.2.1 49 (3 * s + i) = kI cs 224 oo ∧ (if rs.2.2.1 51 (3 * s + i) = 0 then (-1 : Int64) else rs.2.2.2 52 (3 * s + i)) = kJ cs 230 oo then (1 : Nat) else 0) ≠ 0 := s3
    obtain ⟨y1, y2⟩ : rs.2.2.1 49 (3 * s + i) = kI cs 224 oo ∧ (if rs.2.2.1 51 (3 * s + i) = 0 then (-1 : Int64) else rs.2.2.2 52 (3 * s + i)) = kJ cs 230 oo := by
      by_cases y : rs.2.2.1 49 (3 * s + i) = kI cs 224 oo ∧ (if rs.2.2.1 51 (3 * s + i) = 0 then (-1 : Int64) else rs.2.2.2 52 (3 * s + i)) = kJ cs 230 oo
      · exact y
      · rw [if_neg y] at s4
        exact absurd rfl s4
    rcases n3 i z1 with x | ⟨d, d1, d2, d3⟩
    · exact absurd x z2
    · refine ⟨d, 3 * s + i, d1, y1.symm.trans d2, ?_⟩
      rw [← y2]
      rcases d3 with d3 | ⟨d3, d4⟩
      · rw [if_pos d3]
        exact Or.inl ⟨d3, by decide +kernel⟩
      · have ne : rs.2.2.1 51 (3 * s + i) ≠ 0 := by rw [d3]; decide
        rw [if_neg ne]
        exact Or.inr ⟨ne, d4, rfl⟩
  · exact absurd (if_neg z) s3
/-! the class -/
theorem vis_8 {F t j oo d : Nat} {k : Int64} {cs : CS} {rs : RS} {rc : Nat → Nat → Int32 → Int32 → Option Int32} (o8 : (8, 2) ∈ kE cs) (o10 : (10, t) ∈ kE cs) (e6 : (358, t) ∈ kE cs) (p6 : ∃ j, kP cs 326 t = some j) (l6 : kL cs 326 t = 3) (hj : j < 3) (q : kQ cs 326 t j = some oo) (o7 : (7, oo) ∈ kE cs) (k4 : kI cs 224 oo = nI d) (k0 : kJ cs 230 oo = k) (sh : ∀ p, p < 8 → c_X7_shows F cs 2 (nI d) (nI p) k = some (if isv rs d k p = true then 1 else 0)) : ∀ (m p u a : Nat), 8 = p + m → m < u → c_X9_visibleRows_L24 F cs rc u t 2 (nI a) (nI j) (nI p) = rc t 2 (nI (a + ctf (isv rs d k) m p)) (nI (j + 1)) := by
  obtain ⟨i6, p6⟩ := p6
  intro m
  induction m with
  | zero =>
    intro p u a h1 h2
    obtain ⟨u, rfl⟩ : ∃ z, u = z + 1 := ⟨u - 1, by omega⟩
    have ep : p = 8 := by omega
    rw [c_X9_visibleRows_L24, ep, if_pos (show (8 : Int32) ≤ nI 8 by decide)]
    show rc t 2 (nI a) (nI j + 1) = rc t 2 (nI a) (nI (j + 1))
    rw [nI_1]
  | succ m ih =>
    intro p u a h1 h2
    obtain ⟨u, rfl⟩ : ∃ z, u = z + 1 := ⟨u - 1, by omega⟩
    have rq : rQ cs 326 t i6 (nI j) = some (some oo) := by
      rw [rQ_n e6 p6 (by omega) (by omega), q]
    rw [c_X9_visibleRows_L24, if_neg (show ¬ (8 : Int32) ≤ nI p from (nI_ge (show p < 8 by omega) (by omega) : ¬ nI 8 ≤ nI p)), gA_ok o10, p6, ob_s, rq, ob_s, oc_s, ob_s, rq, ob_s, ob_s, gI_ok o7, ob_s, ob_s, rq, ob_s, ob_s, gJ_ok o7, ob_s, ckE_ok o8, ob_s, k4, k0, sh p (by omega), ob_s]
    unfold c_X9_visibleRows_b73
    by_cases z : isv rs d k p = true
    · rw [if_pos z, if_neg (show ¬ (1 : Int32) = 0 by decide), nI_1, nI_1, ih (p + 1) u (a + 1) (by omega) (by omega)]
      show _ = rc t 2 (nI (a + ((if isv rs d k p = true then 1 else 0) + ctf (isv rs d k) m (p + 1)))) (nI (j + 1))
      rw [if_pos z, Nat.add_assoc]
    · rw [if_neg z, if_pos rfl, nI_1, Int32.add_zero, ih (p + 1) u a (by omega) (by omega)]
      show _ = rc t 2 (nI (a + ((if isv rs d k p = true then 1 else 0) + ctf (isv rs d k) m (p + 1)))) (nI (j + 1))
      rw [if_neg z, Nat.zero_add]
theorem vis_c {F t lf nst : Nat} {cs : CS} {rs : RS} (hF : 10000 ≤ F) (hB : Bas cs) (st : ST nst cs rs) (o10 : (10, t) ∈ kE cs) (e6 : (358, t) ∈ kE cs) (p6 : ∃ j, kP cs 326 t = some j) (l6 : kL cs 326 t = 3) (c5 : kI cs 325 t = nI lf) (l3 : lf ≤ 3) (lv : ∀ j, j < lf → ∃ oo d o, kQ cs 326 t j = some oo ∧ (7, oo) ∈ kE cs ∧ d < nst ∧ kI cs 224 oo = nI d ∧ KPR rs o (kJ cs 230 oo)) : ∀ (m j u : Nat), lf = j + m → m < u → c_X9_visibleRows_L4 F cs u t 2 (nI (lsm (wgv rs) t cs j)) (nI j) = some (nI (lsm (wgv rs) t cs lf)) := by
  intro m
  induction m with
  | zero =>
    intro j u h1 h2
    obtain ⟨u, rfl⟩ : ∃ z, u = z + 1 := ⟨u - 1, by omega⟩
    have ej : j = lf := by omega
    rw [c_X9_visibleRows_L4, gI_ok o10, ob_s, c5, ej, if_pos (nI_le (Nat.le_refl _) (by omega))]
    rfl
  | succ m ih =>
    intro j u h1 h2
    obtain ⟨u, rfl⟩ : ∃ z, u = z + 1 := ⟨u - 1, by omega⟩
    have le := st.le
    obtain ⟨i6, p6'⟩ := p6
    obtain ⟨oo, d, o, q1, q2, q3, q4, q5⟩ := lv j (by omega)
    have w := vis_8 (F := F) (t := t) (j := j) (oo := oo) (d := d) (k := kJ cs 230 oo) (cs := cs) (rs := rs) (rc := c_X9_visibleRows_L4 F cs u) hB.oS o10 e6 ⟨i6, p6'⟩ l6 (by omega) q1 q2 q4 rfl (fun p hp => by rw [← isv_of q5]; exact shows_ok hB st q3 hp q5) 8 0 F (lsm (wgv rs) t cs j) rfl (by omega)
    rw [c_X9_visibleRows_L4, gI_ok o10, ob_s, c5, if_neg (nI_ge (by omega) (by omega)), gA_ok o10, p6', ob_s, lnA_n e6 p6', ob_s, l6, if_neg (nI_ge (by omega) (by omega))]
    refine Eq.trans w ?_
    have el : lsm (wgv rs) t cs j + ctf (isv rs d (kJ cs 230 oo)) 8 0 = lsm (wgv rs) t cs (j + 1) := by
      show _ = lsm (wgv rs) t cs j + lk1 (wgv rs) t cs j
      unfold lk1
      rw [q1]
      show _ = lsm (wgv rs) t cs j + wgv rs (kI cs 224 oo) (kJ cs 230 oo)
      rw [q4, wgv_n (by omega)]
    rw [el]
    exact ih (j + 1) u (by omega) (by omega)
/-! the reference -/
theorem vir_8 {F o d : Nat} {rs : RS} {rc56 : Int32 → Int32 → Option Int32} {rc : Int32 → Int32 → Int32 → Option Int32} {u3 u4 : Int32} (ho : o < 180) (hd : d < 6) (r9 : rs.2.2.1 49 o = nI d) : ∀ (m p u a : Nat), 8 = p + m → m < u → m_told_L96 F rs rc56 rc u (nI a) u3 u4 (nI o) (nI p) = rc (nI (a + ctf (fun p => isin rs o (8 * d + p)) m p)) u3 (u4 + 1) := by
  intro m
  induction m with
  | zero =>
    intro p u a h1 h2
    obtain ⟨u, rfl⟩ : ∃ z, u = z + 1 := ⟨u - 1, by omega⟩
    have ep : p = 8 := by omega
    rw [m_told_L96, ep, if_pos (show (8 : Int32) ≤ nI 8 by decide)]
    rfl
  | succ m ih =>
    intro p u a h1 h2
    obtain ⟨u, rfl⟩ : ∃ z, u = z + 1 := ⟨u - 1, by omega⟩
    rw [m_told_L96, if_neg (show ¬ (8 : Int32) ≤ nI p from (nI_ge (show p < 8 by omega) (by omega) : ¬ nI 8 ≤ nI p)), rdI_n ho (by omega), ob_s, r9, if_neg (nI_nm1 (by omega)), ob_s, show (8 : Int32) * nI d + nI p = nI (8 * d + p) by rw [show (8 : Int32) = nI 8 from rfl, pk_mul, nI_add], isin_ok ho (by omega), ob_s]
    unfold m_told_b142
    by_cases z : isin rs o (8 * d + p) = true
    · rw [if_pos z, if_neg (show ¬ (1 : Int32) = 0 by decide), nI_1, nI_1, ih (p + 1) u (a + 1) (by omega) (by omega)]
      show _ = rc (nI (a + ((if isin rs o (8 * d + p) = true then 1 else 0) + ctf (fun p => isin rs o (8 * d + p)) m (p + 1)))) u3 (u4 + 1)
      rw [if_pos z, Nat.add_assoc]
    · rw [if_neg z, if_pos rfl, nI_1, Int32.add_zero, ih (p + 1) u a (by omega) (by omega)]
      show _ = rc (nI (a + ((if isin rs o (8 * d + p) = true then 1 else 0) + ctf (fun p => isin rs o (8 * d + p)) m (p + 1)))) u3 (u4 + 1)
      rw [if_neg z, Nat.zero_add]
def rpk (w : Int32 → Int64 → Nat) (rs : RS) (s : Nat) : Nat → Nat
  | 0 => 0
  | k + 1 => rpk w rs s k + rk1 w rs s k
theorem rpk_3 {w : Int32 → Int64 → Nat} {rs : RS} {s ns : Nat} (h : rs.2.2.1 37 s = nI ns) (h3 : ns ≤ 3) : rpk w rs s ns = rk1 w rs s 0 + rk1 w rs s 1 + rk1 w rs s 2 := by
  have z : ∀ i, ns ≤ i → rk1 w rs s i = 0 := fun i hi => by
    unfold rk1
    rw [h, nI_clamp (by omega)]
    exact if_neg (fun y => absurd y.1 (by omega))
  have c : ns = 0 ∨ ns = 1 ∨ ns = 2 ∨ ns = 3 := by omega
  rcases c with c | c | c | c
  · have z0 := z 0 (by omega)
    have z1 := z 1 (by omega)
    have z2 := z 2 (by omega)
    rw [c]
    show 0 = rk1 w rs s 0 + rk1 w rs s 1 + rk1 w rs s 2
    omega
  · have z1 := z 1 (by omega)
    have z2 := z 2 (by omega)
    rw [c]
    show 0 + rk1 w rs s 0 = rk1 w rs s 0 + rk1 w rs s 1 + rk1 w rs s 2
    omega
  · have z2 := z 2 (by omega)
    rw [c]
    show 0 + rk1 w rs s 0 + rk1 w rs s 1 = rk1 w rs s 0 + rk1 w rs s 1 + rk1 w rs s 2
    omega
  · rw [c]
    show 0 + rk1 w rs s 0 + rk1 w rs s 1 + rk1 w rs s 2 = rk1 w rs s 0 + rk1 w rs s 1 + rk1 w rs s 2
    omega
theorem vir_s {F s ns nst A : Nat} {rs : RS} {rc56 : Int32 → Int32 → Option Int32} (hF : 10000 ≤ F) (hs : s < 60) (n6 : nst ≤ 6) (h37 : rs.2.2.1 37 s = nI ns) (n3 : ns ≤ 3) (fv : ∀ i, i < ns → rs.2.2.1 49 (3 * s + i) = -1 ∨ ∃ d, d < nst ∧ rs.2.2.1 49 (3 * s + i) = nI d ∧ ((rs.2.2.1 51 (3 * s + i) = 0) ∨ (rs.2.2.1 51 (3 * s + i) = 1 ∧ 0 ≤ rs.2.2.2 52 (3 * s + i)))) : ∀ (m i u : Nat), ns = i + m → m < u → m_told_L74 F rs rc56 u (nI (A + rpk (wgv rs) rs s i)) (nI s) (nI i) = rc56 (nI (A + rpk (wgv rs) rs s ns)) (nI (s + 1)) := by
  intro m
  induction m with
  | zero =>
    intro i u h1 h2
    obtain ⟨u, rfl⟩ : ∃ z, u = z + 1 := ⟨u - 1, by omega⟩
    have ei : i = ns := by omega
    rw [m_told_L74, rdI_n hs (by omega), ob_s, h37, ei, if_pos (nI_le (Nat.le_refl _) (by omega)), nI_1]
  | succ m ih =>
    intro i u h1 h2
    obtain ⟨u, rfl⟩ : ∃ z, u = z + 1 := ⟨u - 1, by omega⟩
    have go : m_told_L96 F rs rc56 (m_told_L74 F rs rc56 u) F (nI (A + rpk (wgv rs) rs s i)) (nI s) (nI i) (nI (3 * s + i)) (nI 0) = m_told_L74 F rs rc56 u (nI (A + rpk (wgv rs) rs s (i + 1))) (nI s) (nI (i + 1)) := by
      have er : rpk (wgv rs) rs s (i + 1) = rpk (wgv rs) rs s i + rk1 (wgv rs) rs s i := rfl
      rcases fv i (by omega) with x | ⟨d, d1, d2, d3⟩
      · have z : rk1 (wgv rs) rs s i = 0 := by
          unfold rk1
          exact if_neg (fun y => y.2 x)
        rw [er, z, Nat.add_zero]
        have : ∀ v, v = F - 1 + 1 → m_told_L96 F rs rc56 (m_told_L74 F rs rc56 u) v (nI (A + rpk (wgv rs) rs s i)) (nI s) (nI i) (nI (3 * s + i)) (nI 0) = m_told_L74 F rs rc56 u (nI (A + rpk (wgv rs) rs s i)) (nI s) (nI (i + 1)) := fun v hv => by
          rw [hv, m_told_L96, if_neg (show ¬ (8 : Int32) ≤ nI 0 by decide), rdI_n (by omega) (by omega), ob_s, x, if_pos rfl]
          unfold m_told_b150
          rw [nI_1]
        exact this F (by omega)
      · have kp : KPR rs (3 * s + i) (if rs.2.2.1 51 (3 * s + i) = 0 then -1 else rs.2.2.2 52 (3 * s + i)) := by
          rcases d3 with d3 | ⟨d3, d4⟩
          · rw [if_pos d3]
            exact Or.inl ⟨d3, by decide +kernel⟩
          · have ne : rs.2.2.1 51 (3 * s + i) ≠ 0 := by rw [d3]; decide
            rw [if_neg ne]
            exact Or.inr ⟨ne, d4, rfl⟩
        have z : rk1 (wgv rs) rs s i = ctf (fun p => isin rs (3 * s + i) (8 * d + p)) 8 0 := by
          have cc : i < (rs.2.2.1 37 s).toNatClampNeg ∧ rs.2.2.1 49 (3 * s + i) ≠ -1 := by
            refine ⟨?_, ?_⟩
            · rw [h37, nI_clamp (by omega)]
              omega
            · rw [d2]
              exact nI_nm1 (by omega)
          unfold rk1
          rw [if_pos cc, d2, wgv_n (by omega)]
          exact ctf_eq (fun p => (isv_of kp).symm) 8 0
        rw [vir_8 (by omega) (by omega) d2 8 0 F _ rfl (by omega), er, z, nI_1, Nat.add_assoc]
    have e3 : (3 : Int32) * nI s + nI i = nI (3 * s + i) := by rw [show (3 : Int32) = nI 3 from rfl, pk_mul, nI_add]
    rw [m_told_L74, rdI_n hs (by omega), ob_s, h37, if_neg (nI_ge (by omega) (by omega)), e3]
    exact go.trans (ih (i + 1) u (by omega) (by omega))
theorem vir_c {F S nst : Nat} {rs : RS} (hF : 10000 ≤ F) (n6 : nst ≤ 6) (s60 : S ≤ 60) (h81 : rs.1 81 = 1) (h34 : rs.1 34 = nI S) (fv : ∀ e, e < S → FV7 nst rs e) : ∀ (m s u : Nat), S = s + m → m < u → m_told_L56 F rs u (nI (rsm (wgv rs) rs s)) (nI s) = some (nI (rsm (wgv rs) rs S)) := by
  have nz : ¬ rs.1 81 = 0 := by rw [h81]; decide
  intro m
  induction m with
  | zero =>
    intro s u h1 h2
    obtain ⟨u, rfl⟩ : ∃ z, u = z + 1 := ⟨u - 1, by omega⟩
    have es : s = S := by omega
    rw [m_told_L56, if_neg nz, h34, es, if_pos (nI_le (Nat.le_refl _) (by omega))]
    rfl
  | succ m ih =>
    intro s u h1 h2
    obtain ⟨u, rfl⟩ : ∃ z, u = z + 1 := ⟨u - 1, by omega⟩
    obtain ⟨ns, n1, n2, n3⟩ := fv s (by omega)
    rw [m_told_L56, if_neg nz, h34, if_neg (nI_ge (by omega) (by omega))]
    have w := vir_s (rc56 := m_told_L56 F rs u) (A := rsm (wgv rs) rs s) hF (by omega) n6 n1 n2 n3 ns 0 F (by omega) (by omega)
    rw [show rpk (wgv rs) rs s 0 = 0 from rfl, Nat.add_zero, rpk_3 n1 n2] at w
    refine Eq.trans w ?_
    exact ih (s + 1) u (by omega) (by omega)
/-- what the walk gives of the standing text, now -/
theorem fv_now {F n : Nat} {f : Nat → Int32} {M t c cap K k s lf S Q oq ar : Nat} {V : VT} {D : Nat → Prop} {csH cs : CS} {rsH rs : RS} {nst : Nat} (h : TXG F n f M t c cap K k s lf S Q oq ar V D csH rsH) (g : KPN c k csH rsH cs rs) (cv : COV7 rsH) (s5 : ∀ d, nst ≤ d → d ≤ 9 → rs.2.2.1 5 d = 0) : ∀ e, e < S → FV7 nst rs e := by
  obtain ⟨o1, o2, o3, o4, o5, o6⟩ := h.od
  have ek := g.vw o3 (by omega)
  have hv : ∀ y, y < s → VW c cs rs y = V y := fun y hy => by rw [ek]; exact h.vw y hy
  have ac : ∀ x, (x < 32 ∨ 63 < x ∧ x < 74 ∨ 76 < x ∧ x < 256 ∨ 320 ≤ x ∧ x < 352) ∧ ¬ (74 ≤ x ∧ x ≤ 76) → AT csH cs x c := fun x hx => g.at' x c o3 (by omega) hx.1 (fun w => hx.2 w.2)
  have ra : ∀ q, 22 ≤ q → q ≤ 80 → rs.2.2.1 q = rsH.2.2.1 q := fun q h1 h2 => (g.fr q (by omega) h2 (by omega)).2.1
  have rf : ∀ q, 22 ≤ q → q ≤ 80 → rs.1 q = rsH.1 q := fun q h1 h2 => (g.fr q (by omega) h2 (by omega)).1
  have at' : ∀ x j, K ≤ j → j < k → (x < 32 ∨ 63 < x ∧ x < 74 ∨ 76 < x ∧ x < 256 ∨ 320 ≤ x ∧ x < 352) → AT csH cs x j := fun x j h1 h2 hx => g.at' x j (by omega) h2 hx (by omega)
  have kx : KPX c s K k V csH rsH cs rs := ⟨g.em, at', h.vw, hv, fun q h1 h2 => ra q (by omega) (by omega), (g.fr 52 (by omega) (by omega) (by omega)).2.2⟩
  have qx := QR.x 13 S 0 0 K k oq 0 kx h.qr
  have jd : JDN c s V D K k cs rs 13 oq 0 := JDN.now at' (ac 72 (by omega)).a (fun q hq => ra q (by omega) (by omega)) g.r5 13 oq 0 h.jd
  have e7 : E7 rsH rs := ⟨⟨rf 34 (by omega) (by omega), rf 59 (by omega) (by omega), rf 69 (by omega) (by omega)⟩, ra 37 (by omega) (by omega), ra 49 (by omega) (by omega), ra 53 (by omega) (by omega), ra 60 (by omega) (by omega), ra 61 (by omega) (by omega)⟩
  obtain ⟨S', Q', c1, ⟨c2, c3⟩, c4⟩ := cv.e7 e7
  have es : S' = S := (nI_eq (by omega) (by omega)).mp (c1.symm.trans ((rf 34 (by omega) (by omega)).trans h.r34))
  intro e he
  exact cov_walk c2 c3 s5 300 13 S 0 0 K k oq 0 e qx jd (c4 e (by omega))
theorem vis_now {F n : Nat} {f : Nat → Int32} {M t c cap K k s lf S Q oq ar : Nat} {V : VT} {D : Nat → Prop} {csH cs : CS} {rsH rs : RS} {nst : Nat} (hF : 10000 ≤ F) (h : TXG F n f M t c cap K k s lf S Q oq ar V D csH rsH) (g : KPN c k csH rsH cs rs) (cv : COV7 rsH) (hB : Bas cs) (st : ST nst cs rs) (s5 : ∀ d, nst ≤ d → d ≤ 9 → rs.2.2.1 5 d = 0) (h81 : rs.1 81 = 1) : ∃ v, c_X9_visibleRows F cs t 2 = some v ∧ m_told_L56 F rs F 0 0 = some v := by
  obtain ⟨o1, o2, o3, o4, o5, o6⟩ := h.od
  have fv := fv_now h g cv s5
  have n6 := st.le
  have l3 := h.l3
  have at3 : ∀ x, 320 ≤ x → x < 352 → AT csH cs x t := fun x x1 x2 => g.at' x t o1 (by omega) (by omega) (by omega)
  have ra : ∀ q, 22 ≤ q → q ≤ 80 → rs.2.2.1 q = rsH.2.2.1 q := fun q h1 h2 => (g.fr q (by omega) h2 (by omega)).2.1
  have sm : ∀ w, lsm w t cs lf = rsm w rs S := fun w => by
    rw [rsm_rs (ra 37 (by omega) (by omega)) (ra 49 (by omega) (by omega)) (ra 51 (by omega) (by omega)) (g.fr 52 (by omega) (by omega) (by omega)).2.2 S, ← h.sm.2 w]
    refine lsm_eq lf (fun j hj => ?_)
    obtain ⟨oo, q1, q2⟩ := h.sm.1 j hj
    have := h.kb j hj oo q1
    unfold lk1
    rw [(at3 326 (by omega) (by omega)).q, q1]
    show w (kI cs 224 oo) (kJ cs 230 oo) = w (kI csH 224 oo) (kJ csH 230 oo)
    rw [(g.a7 224 oo (by omega) (by omega) this).i, (g.a7 230 oo (by omega) (by omega) this).j]
  have lv : ∀ j, j < lf → ∃ oo d o, kQ cs 326 t j = some oo ∧ (7, oo) ∈ kE cs ∧ d < nst ∧ kI cs 224 oo = nI d ∧ KPR rs o (kJ cs 230 oo) := fun j hj => by
    obtain ⟨oo, q1, q2⟩ := h.sm.1 j hj
    have q1' : kQ cs 326 t j = some oo := by rw [(at3 326 (by omega) (by omega)).q]; exact q1
    obtain ⟨d, o, z1, z2, z3⟩ := leaf_src sm fv hj q1'
    exact ⟨oo, d, o, q1', g.em _ q2, z1, z2, z3⟩
  have p6 : ∃ j, kP cs 326 t = some j := by rw [(at3 326 (by omega) (by omega)).p]; exact h.p326
  have w1 : c_X9_visibleRows_L4 F cs F t 2 (nI 0) (nI 0) = some (nI (lsm (wgv rs) t cs lf)) := vis_c hF hB st (g.em _ h.o10) (g.em _ h.e326) p6 (by rw [(at3 326 (by omega) (by omega)).l]; exact h.l326) (by rw [(at3 325 (by omega) (by omega)).i]; exact h.c325) l3 lv lf 0 F (by omega) (by omega)
  have w2 : m_told_L56 F rs F (nI 0) (nI 0) = some (nI (rsm (wgv rs) rs S)) := vir_c hF n6 (by omega) h81 ((g.fr 34 (by omega) (by omega) (by omega)).1.trans h.r34) fv S 0 F (by omega) (by omega)
  rw [← sm (wgv rs)] at w2
  exact ⟨_, w1, w2⟩
theorem vis_all {F : Nat} (hF : 10000 ≤ F) : ∀ i cs rs, SIM F i cs rs → VIS F cs rs := by
  intro i cs rs h t0 ht
  obtain ⟨nst, st, s5, q | ⟨n, ff, M, t, cap, s, lf, S', Q, oq, ss, r, il, w, V, D, cg, cS, c0, cR, c4, c5, csH, rsH, od, S0, RR, Sr, C, CH, q⟩⟩ := h.st
  · rw [q.s9] at ht
    exact absurd ht (by simp)
  · have et : t0 = t := Option.some.inj (ht.symm.trans q.an.st)
    rw [et]
    exact vis_now hF q.tx q.kp q.cv h.b st s5 q.h81

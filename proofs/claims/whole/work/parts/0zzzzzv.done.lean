/-! what having been checked leaves behind, for the runs to come -/
/-- the SOURCE oo, the i-th of the SELECT so / e -/
def SDO (PQ : Nat → Nat → Prop) (s : Nat) (V : VT) (D : Nat → Prop) (lo hi so e i : Nat) (cs : CS) (rs : RS) : Prop := ∃ oo m a, lo ≤ oo ∧ oo + 1 < hi ∧ kQ cs 195 so i = some oo ∧ kI cs 96 (oo + 1) = nI m ∧ kI cs 234 oo = nI a ∧ m ≤ 8 ∧ a ≤ 100 ∧ (i = 0 → a = 0) ∧ (0 < i → ∃ oo' m' a', lo ≤ oo' ∧ oo' + 1 < hi ∧ kQ cs 195 so (i - 1) = some oo' ∧ kI cs 96 (oo' + 1) = nI m' ∧ kI cs 234 oo' = nI a' ∧ a = a' + m') ∧ CVR V s (kI cs 233 oo) D ∧ (∀ d, d ≤ 9 → rs.2.2.1 49 (3 * e + i) = nI d → 2 ≤ m ∧ rs.2.2.1 5 d = nI (m - 1)) ∧ (∀ oi qi, qi < 60 → kR cs 225 oo = some oi → rs.2.2.1 53 (3 * e + i) = nI qi → PQ oi qi ∧ ∃ ei, ei < 60 ∧ rs.2.2.1 61 (5 * qi) = nI ei ∧ rs.2.2.1 36 ei = nI m)
/-- the SELECT so / e -/
def SDN (PQ : Nat → Nat → Prop) (c s : Nat) (V : VT) (D : Nat → Prop) (lo hi so e : Nat) (cs : CS) (rs : RS) : Prop := lo ≤ so ∧ so < hi ∧ ∃ it gr mi mg na ns, lo ≤ it ∧ it < hi ∧ lo ≤ gr ∧ gr < hi ∧ kR cs 194 so = some it ∧ kR cs 200 so = some gr ∧ kI cs 96 it = nI mi ∧ kI cs 96 gr = nI mg ∧ kI cs 203 so = nI na ∧ kI cs 196 so = nI ns ∧ mi ≤ 8 ∧ mg ≤ 8 ∧ na ≤ 12 ∧ (ns ≤ 3 ∧ e < 60) ∧ CVR V s (kI cs 197 so) D ∧ CVR V s (kI cs 201 so) D ∧ (∀ z, z < mg → CVR V s (kA cs 97 gr z) D) ∧ (∀ z, z < mi → CVR V s (kA cs 97 it z) D) ∧ (∀ j y, j < na → y < s → kA cs 202 so j = nI y → ∃ j', j' < na ∧ kA cs 202 so j' = nI y ∧ kA cs 72 c y = nI (mg + j')) ∧ ∀ i, i < ns → SDO PQ s V D lo hi so e i cs rs
/-- the QUERY oq / q, d deep -/
def JDN (c s : Nat) (V : VT) (D : Nat → Prop) (lo hi : Nat) (cs : CS) (rs : RS) : Nat → Nat → Nat → Prop
  | 0, _, _ => False
  | d + 1, oq, q => lo ≤ oq ∧ oq < hi ∧ ∃ L m, lo ≤ L ∧ L < hi ∧ kR cs 128 oq = some L ∧ kI cs 2 L = nI m ∧ m ≤ 3 ∧ (∀ i, i < m → ∃ so e, kQ cs 1 L i = some so ∧ rs.2.2.1 61 (5 * q + i) = nI e ∧ SDN (JDN c s V D lo hi cs rs d) c s V D lo hi so e cs rs) ∧ (∀ oc, kR cs 130 oq = some oc → lo ≤ oc ∧ oc < hi ∧ ∃ mo, mo ≤ 8 ∧ kI cs 96 oc = nI mo ∧ ∀ z, z < mo → CVR V s (kA cs 97 oc z) D)
theorem SDO.keep {PQ PQ' : Nat → Nat → Prop} {s lo hi lo' hi' so e i : Nat} {V : VT} {D D' : Nat → Prop} {cs cs' : CS} {rs rs' : RS} (h : SDO PQ s V D lo hi so e i cs rs) (hso : lo ≤ so ∧ so < hi) (hlo : lo' ≤ lo) (hhi : hi ≤ hi') (hA : ∀ x j, lo ≤ j → j < hi → x ≠ 133 → x ≠ 206 → x ≠ 100 → AT cs cs' x j) (hD : ∀ z, D z → D' z) (r : ∀ q, q = 5 ∨ q = 36 ∨ q = 49 ∨ q = 53 ∨ q = 61 → rs'.2.2.1 q = rs.2.2.1 q) (hP : ∀ oi qi, PQ oi qi → PQ' oi qi) : SDO PQ' s V D' lo' hi' so e i cs' rs' := by
  obtain ⟨oo, m, a, h1, h2, h3, h4, h5, h6, h7, h8, h9, h10, h11, h12⟩ := h
  refine ⟨oo, m, a, by omega, by omega, by rw [(hA 195 so hso.1 hso.2 (by decide) (by decide) (by decide)).q]; exact h3, by rw [(hA 96 (oo + 1) (by omega) (by omega) (by decide) (by decide) (by decide)).i]; exact h4, by rw [(hA 234 oo (by omega) (by omega) (by decide) (by decide) (by decide)).i]; exact h5, h6, h7, h8, fun hi0 => ?_, ?_, ?_, ?_⟩
  · obtain ⟨oo', m', a', q1, q2, q3, q4, q5, q6⟩ := h9 hi0
    exact ⟨oo', m', a', by omega, by omega, by rw [(hA 195 so hso.1 hso.2 (by decide) (by decide) (by decide)).q]; exact q3, by rw [(hA 96 (oo' + 1) (by omega) (by omega) (by decide) (by decide) (by decide)).i]; exact q4, by rw [(hA 234 oo' (by omega) (by omega) (by decide) (by decide) (by decide)).i]; exact q5, q6⟩
  · rw [(hA 233 oo (by omega) (by omega) (by decide) (by decide) (by decide)).i]
    exact h10.up hD
  · rw [r 49 (by omega), r 5 (by omega)]
    exact h11
  · rw [(hA 225 oo (by omega) (by omega) (by decide) (by decide) (by decide)).r, r 53 (by omega), r 61 (by omega), r 36 (by omega)]
    exact fun oi qi w0 w1 w2 => ⟨hP oi qi (h12 oi qi w0 w1 w2).1, (h12 oi qi w0 w1 w2).2⟩
theorem SDN.keep {PQ PQ' : Nat → Nat → Prop} {c s lo hi lo' hi' so e : Nat} {V : VT} {D D' : Nat → Prop} {cs cs' : CS} {rs rs' : RS} (h : SDN PQ c s V D lo hi so e cs rs) (hlo : lo' ≤ lo) (hhi : hi ≤ hi') (hA : ∀ x j, lo ≤ j → j < hi → x ≠ 133 → x ≠ 206 → x ≠ 100 → AT cs cs' x j) (h72 : ∀ y o, y < s → lo ≤ o → o < hi → AM o cs y → kA cs' 72 c y = kA cs 72 c y) (hD : ∀ z, D z → D' z) (r : ∀ q, q = 5 ∨ q = 36 ∨ q = 49 ∨ q = 53 ∨ q = 61 → rs'.2.2.1 q = rs.2.2.1 q) (hP : ∀ oi qi, PQ oi qi → PQ' oi qi) : SDN PQ' c s V D' lo' hi' so e cs' rs' := by
  obtain ⟨s1, s2, it, gr, mi, mg, na, ns, h1, h2, h3, h4, h5, h6, h7, h8, h9, h10, h11, h12, h13, h14, h15, h16, h17, h18, h19, h20⟩ := h
  have aso : ∀ x, x ≠ 133 → x ≠ 206 → x ≠ 100 → AT cs cs' x so := fun x w1 w2 w3 => hA x so s1 s2 w1 w2 w3
  have a202 := aso 202 (by decide) (by decide) (by decide)
  refine ⟨by omega, by omega, it, gr, mi, mg, na, ns, by omega, by omega, by omega, by omega, by rw [(aso 194 (by decide) (by decide) (by decide)).r]; exact h5, by rw [(aso 200 (by decide) (by decide) (by decide)).r]; exact h6, by rw [(hA 96 it h1 h2 (by decide) (by decide) (by decide)).i]; exact h7, by rw [(hA 96 gr h3 h4 (by decide) (by decide) (by decide)).i]; exact h8, by rw [(aso 203 (by decide) (by decide) (by decide)).i]; exact h9, by rw [(aso 196 (by decide) (by decide) (by decide)).i]; exact h10, h11, h12, h13, h14, by rw [(aso 197 (by decide) (by decide) (by decide)).i]; exact h15.up hD, by rw [(aso 201 (by decide) (by decide) (by decide)).i]; exact h16.up hD, fun z hz => by rw [(hA 97 gr h3 h4 (by decide) (by decide) (by decide)).a]; exact (h17 z hz).up hD, fun z hz => by rw [(hA 97 it h1 h2 (by decide) (by decide) (by decide)).a]; exact (h18 z hz).up hD, fun j y j1 y1 hj => ?_, fun i hi0 => (h20 i hi0).keep ⟨s1, s2⟩ hlo hhi hA hD r hP⟩
  rw [a202.a] at hj ⊢
  obtain ⟨j', q1, q2, q3⟩ := h19 j y j1 y1 hj
  exact ⟨j', q1, q2, by rw [h72 y so y1 s1 s2 ⟨j, na, h13, h9, j1, hj⟩]; exact q3⟩
theorem JDN.keep {c s lo hi lo' hi' : Nat} {V : VT} {D D' : Nat → Prop} {cs cs' : CS} {rs rs' : RS} (hlo : lo' ≤ lo) (hhi : hi ≤ hi') (hA : ∀ x j, lo ≤ j → j < hi → x ≠ 133 → x ≠ 206 → x ≠ 100 → AT cs cs' x j) (h72 : ∀ y o, y < s → lo ≤ o → o < hi → AM o cs y → kA cs' 72 c y = kA cs 72 c y) (hD : ∀ z, D z → D' z) (r : ∀ q, q = 5 ∨ q = 36 ∨ q = 49 ∨ q = 53 ∨ q = 61 → rs'.2.2.1 q = rs.2.2.1 q) : ∀ d oq q, JDN c s V D lo hi cs rs d oq q → JDN c s V D' lo' hi' cs' rs' d oq q
  | 0, _, _, h => h.elim
  | d + 1, oq, q, h => by
    obtain ⟨h1, h2, L, m, h3, h4, h5, h6, h7, h8, h9⟩ := h
    refine ⟨by omega, by omega, L, m, by omega, by omega, by rw [(hA 128 oq h1 h2 (by decide) (by decide) (by decide)).r]; exact h5, by rw [(hA 2 L h3 h4 (by decide) (by decide) (by decide)).i]; exact h6, h7, fun i hi0 => ?_, fun oc hoc => ?_⟩
    · obtain ⟨so, e, q1, q2, q3⟩ := h8 i hi0
      exact ⟨so, e, by rw [(hA 1 L h3 h4 (by decide) (by decide) (by decide)).q]; exact q1, by rw [r 61 (by omega)]; exact q2, q3.keep hlo hhi hA h72 hD r (fun oi qi w => JDN.keep hlo hhi hA h72 hD r d oi qi w)⟩
    · rw [(hA 130 oq h1 h2 (by decide) (by decide) (by decide)).r] at hoc
      obtain ⟨q1, q2, mo, q3, q4, q5⟩ := h9 oc hoc
      exact ⟨by omega, by omega, mo, q3, by rw [(hA 96 oc q1 q2 (by decide) (by decide) (by decide)).i]; exact q4, fun z hz => by rw [(hA 97 oc q1 q2 (by decide) (by decide) (by decide)).a]; exact (q5 z hz).up hD⟩

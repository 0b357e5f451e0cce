/-! kept or not, in the reference -/
theorem kept_fr {F : Nat} {rs rs' : RS} (h : FR jK rs rs') : ∀ n, (∀ j, (tab_isKept F n).1 rs' j = (tab_isKept F n).1 rs j) ∧ (∀ q, (tab_isKept F n).2.1 rs' q = (tab_isKept F n).2.1 rs q) ∧ (∀ e m, (tab_isKept F n).2.2 rs' e m = (tab_isKept F n).2.2 rs e m) := by
  have r : ∀ q, q = 37 ∨ q = 49 ∨ q = 51 ∨ q = 53 ∨ q = 60 ∨ q = 61 → rs'.2.2.1 q = rs.2.2.1 q := fun q hq => h.a (by unfold jK; omega)
  intro n
  induction n with
  | zero => exact ⟨fun _ => rfl, fun _ => rfl, fun _ _ => rfl⟩
  | succ n ih =>
    obtain ⟨i1, i2, i3⟩ := ih
    refine ⟨fun j => ?_, fun q => ?_, fun e m => ?_⟩
    · show b_isKept F (tab_isKept F n) rs' j = b_isKept F (tab_isKept F n) rs j
      unfold b_isKept m_isKept_b29
      rw [r 49 (by omega), r 53 (by omega), r 51 (by omega)]
      simp only [i2]
    · show b_isKeptQuery F (tab_isKept F n) rs' q = b_isKeptQuery F (tab_isKept F n) rs q
      unfold b_isKeptQuery
      have L : ∀ u q i, m_isKeptQuery_L2 F (tab_isKept F n) rs' u q i = m_isKeptQuery_L2 F (tab_isKept F n) rs u q i := by
        intro u
        induction u with
        | zero => intro q i; rfl
        | succ u ihu =>
          intro q i
          rw [m_isKeptQuery_L2, m_isKeptQuery_L2, r 60 (by omega), r 61 (by omega), r 37 (by omega)]
          simp only [i3, ihu]
      exact L _ _ _
    · show b_isKeptSelect F (tab_isKept F n) rs' e m = b_isKeptSelect F (tab_isKept F n) rs e m
      unfold b_isKeptSelect
      have L : ∀ u e m i, m_isKeptSelect_L2 F (tab_isKept F n) rs' u e m i = m_isKeptSelect_L2 F (tab_isKept F n) rs u e m i := by
        intro u
        induction u with
        | zero => intro e m i; rfl
        | succ u ihu =>
          intro e m i
          rw [m_isKeptSelect_L2, m_isKeptSelect_L2]
          simp only [i1, ihu]
      exact L _ _ _ _
/-- whether the QUERY q, the SOURCE j is kept: b, at depth d -/
def KQ (d q : Nat) (b : Int32) (rs : RS) : Prop := (b = 0 ∨ b = 1) ∧ ∀ F n, 10000 ≤ F → 3 * d ≤ n → (tab_isKept F n).2.1 rs (nI q) = some b
def KO (d j : Nat) (b : Int32) (rs : RS) : Prop := (b = 0 ∨ b = 1) ∧ ∀ F n, 10000 ≤ F → 3 * d + 1 ≤ n → (tab_isKept F n).1 rs (nI j) = some b
theorem KQ.fr {d q : Nat} {b : Int32} {rs rs' : RS} (h : KQ d q b rs) (f : FR jK rs rs') : KQ d q b rs' := ⟨h.1, fun F n h1 h2 => by rw [(kept_fr f n).2.1]; exact h.2 F n h1 h2⟩
theorem KO.fr {d j : Nat} {b : Int32} {rs rs' : RS} (h : KO d j b rs) (f : FR jK rs rs') : KO d j b rs' := ⟨h.1, fun F n h1 h2 => by rw [(kept_fr f n).1]; exact h.2 F n h1 h2⟩
theorem KO.leaf {d j : Nat} {b : Int32} {rs : RS} (hj : j < 180) (h49 : rs.2.2.1 49 j ≠ -1) (h51 : rs.2.2.1 51 j = b) (hb : b = 0 ∨ b = 1) : KO d j b rs := by
  refine ⟨hb, fun F n h1 h2 => ?_⟩
  obtain ⟨n, rfl⟩ : ∃ m, n = m + 1 := ⟨n - 1, by omega⟩
  show b_isKept F (tab_isKept F n) rs (nI j) = some b
  unfold b_isKept m_isKept_b29
  rw [rdI_n hj (by decide), ob_s, if_neg h49, rdI_n hj (by decide), ob_s, h51]
  rcases hb with y | y <;> (rw [y]; rfl)
theorem KO.inner {d j q : Nat} {b : Int32} {rs : RS} (hj : j < 180) (h49 : rs.2.2.1 49 j = -1) (h53 : rs.2.2.1 53 j = nI q) (h : KQ d q b rs) : KO d j b rs := by
  refine ⟨h.1, fun F n h1 h2 => ?_⟩
  obtain ⟨n, rfl⟩ : ∃ m, n = m + 1 := ⟨n - 1, by omega⟩
  show b_isKept F (tab_isKept F n) rs (nI j) = some b
  unfold b_isKept m_isKept_b29
  rw [rdI_n hj (by decide), ob_s, if_pos h49, rdI_n hj (by decide), ob_s, h53, h.2 F n h1 (by omega), ob_s]
  rcases h.1 with y | y <;> (rw [y]; rfl)
/-- the first m SOURCES of the SELECT e -/
def KSr (d e m : Nat) (b : Int32) (rs : RS) : Prop := (b = 1 ∧ ∀ j, j < m → KO d (3 * e + j) 1 rs) ∨ (b = 0 ∧ ∃ i, i < m ∧ KO d (3 * e + i) 0 rs ∧ ∀ j, j < i → KO d (3 * e + j) 1 rs)
theorem KSr.fr {d e m : Nat} {b : Int32} {rs rs' : RS} (h : KSr d e m b rs) (f : FR jK rs rs') : KSr d e m b rs' := by
  rcases h with ⟨h1, h2⟩ | ⟨h1, i, h2, h3, h4⟩
  · exact Or.inl ⟨h1, fun j hj => (h2 j hj).fr f⟩
  · exact Or.inr ⟨h1, i, h2, h3.fr f, fun j hj => (h4 j hj).fr f⟩
theorem KSr.add {d e m : Nat} {b bi : Int32} {rs : RS} (h : KSr d e m b rs) (hi : KO d (3 * e + m) bi rs) : KSr d e (m + 1) (if b = 0 then 0 else bi) rs := by
  rcases h with ⟨h1, h2⟩ | ⟨h1, i, h2, h3, h4⟩
  · rw [h1, if_neg (by decide)]
    rcases hi.1 with y | y
    · rw [y] at hi
      exact Or.inr ⟨y, m, by omega, hi, fun j hj => h2 j (by omega)⟩
    · refine Or.inl ⟨y, fun j hj => ?_⟩
      by_cases w : j = m
      · rw [w, ← y]; exact hi
      · exact h2 j (by omega)
  · rw [h1, if_pos rfl]
    exact Or.inr ⟨rfl, i, by omega, h3, h4⟩
theorem KSr.run {d e m F n : Nat} {b : Int32} {rs : RS} (h : KSr d e m b rs) (hF : 10000 ≤ F) (hn : 3 * d + 2 ≤ n) (hm : m ≤ 3) : (tab_isKept F n).2.2 rs (nI e) (nI m) = some b := by
  obtain ⟨n, rfl⟩ : ∃ z, n = z + 1 := ⟨n - 1, by omega⟩
  show b_isKeptSelect F (tab_isKept F n) rs (nI e) (nI m) = some b
  unfold b_isKeptSelect
  have L : ∀ d' i u, m - i ≤ d' → d' < u → i ≤ m → ((b = 1 ∧ ∀ j, i ≤ j → j < m → KO d (3 * e + j) 1 rs) ∨ (b = 0 ∧ ∃ i', i ≤ i' ∧ i' < m ∧ KO d (3 * e + i') 0 rs ∧ ∀ j, i ≤ j → j < i' → KO d (3 * e + j) 1 rs)) → m_isKeptSelect_L2 F (tab_isKept F n) rs u (nI e) (nI m) (nI i) = some b := by
    intro d'
    induction d' with
    | zero =>
      intro i u h1 h2 h3 h4
      obtain ⟨u, rfl⟩ : ∃ z, u = z + 1 := ⟨u - 1, by omega⟩
      rw [m_isKeptSelect_L2, if_pos (nI_le (by omega) (by omega))]
      rcases h4 with ⟨b1, -⟩ | ⟨-, i', b1, b2, -⟩
      · rw [b1]
      · omega
    | succ d' ih =>
      intro i u h1 h2 h3 h4
      obtain ⟨u, rfl⟩ : ∃ z, u = z + 1 := ⟨u - 1, by omega⟩
      by_cases w : m ≤ i
      · rw [m_isKeptSelect_L2, if_pos (nI_le w (by omega))]
        rcases h4 with ⟨b1, -⟩ | ⟨-, i', b1, b2, -⟩
        · rw [b1]
        · omega
      · have st : ∀ v, KO d (3 * e + i) v rs → m_isKeptSelect_L2 F (tab_isKept F n) rs (u + 1) (nI e) (nI m) (nI i) = if v = 0 then some 0 else m_isKeptSelect_L2 F (tab_isKept F n) rs u (nI e) (nI m) (nI (i + 1)) := fun v hv => by
          rw [m_isKeptSelect_L2, if_neg (nI_ge (by omega) (by omega)), nI_3, nI_add, hv.2 F n hF (by omega), ob_s, nI_1]
        rcases h4 with ⟨b1, b2⟩ | ⟨b1, i', b2, b3, b4, b5⟩
        · rw [st 1 (b2 i (Nat.le_refl _) (by omega)), if_neg (by decide)]
          exact ih (i + 1) u (by omega) (by omega) (by omega) (Or.inl ⟨b1, fun j j1 j2 => b2 j (by omega) j2⟩)
        · by_cases w2 : i' = i
          · rw [w2] at b4
            rw [st 0 b4, if_pos rfl, b1]
          · rw [st 1 (b5 i (Nat.le_refl _) (by omega)), if_neg (by decide)]
            exact ih (i + 1) u (by omega) (by omega) (by omega) (Or.inr ⟨b1, i', by omega, b3, b4, fun j j1 j2 => b5 j (by omega) j2⟩)
  refine L m 0 F (by omega) (by omega) (by omega) ?_
  rcases h with ⟨h1, h2⟩ | ⟨h1, i, h2, h3, h4⟩
  · exact Or.inl ⟨h1, fun j _ hj => h2 j hj⟩
  · exact Or.inr ⟨h1, i, by omega, h2, h3, fun j _ hj => h4 j hj⟩
/-- the i-th SELECT of the QUERY q -/
def KT (d q i : Nat) (b : Int32) (rs : RS) : Prop := ∃ e ns, e < 60 ∧ ns ≤ 3 ∧ rs.2.2.1 61 (5 * q + i) = nI e ∧ rs.2.2.1 37 e = nI ns ∧ KSr d e ns b rs
/-- its first m SELECTS -/
def KQr (d q m : Nat) (b : Int32) (rs : RS) : Prop := (b = 1 ∧ ∀ j, j < m → KT d q j 1 rs) ∨ (b = 0 ∧ ∃ i, i < m ∧ KT d q i 0 rs ∧ ∀ j, j < i → KT d q j 1 rs)
theorem KT.fr {d q i : Nat} {b : Int32} {rs rs' : RS} (h : KT d q i b rs) (f : FR jK rs rs') : KT d q i b rs' := by
  obtain ⟨e, ns, h1, h2, h3, h4, h5⟩ := h
  exact ⟨e, ns, h1, h2, by rw [f.a (k := 61) (by unfold jK; omega)]; exact h3, by rw [f.a (k := 37) (by unfold jK; omega)]; exact h4, h5.fr f⟩
theorem KQr.fr {d q m : Nat} {b : Int32} {rs rs' : RS} (h : KQr d q m b rs) (f : FR jK rs rs') : KQr d q m b rs' := by
  rcases h with ⟨h1, h2⟩ | ⟨h1, i, h2, h3, h4⟩
  · exact Or.inl ⟨h1, fun j hj => (h2 j hj).fr f⟩
  · exact Or.inr ⟨h1, i, h2, h3.fr f, fun j hj => (h4 j hj).fr f⟩
theorem KSr.b {d e m : Nat} {b : Int32} {rs : RS} (h : KSr d e m b rs) : b = 0 ∨ b = 1 := by
  rcases h with ⟨h1, -⟩ | ⟨h1, -⟩
  · exact Or.inr h1
  · exact Or.inl h1
theorem KQr.b {d q m : Nat} {b : Int32} {rs : RS} (h : KQr d q m b rs) : b = 0 ∨ b = 1 := by
  rcases h with ⟨h1, -⟩ | ⟨h1, -⟩
  · exact Or.inr h1
  · exact Or.inl h1
theorem KQr.add {d q m : Nat} {b bi : Int32} {rs : RS} (h : KQr d q m b rs) (hb : bi = 0 ∨ bi = 1) (hi : KT d q m bi rs) : KQr d q (m + 1) (if b = 0 then 0 else bi) rs := by
  rcases h with ⟨h1, h2⟩ | ⟨h1, i, h2, h3, h4⟩
  · rw [h1, if_neg (by decide)]
    rcases hb with y | y
    · rw [y] at hi
      exact Or.inr ⟨y, m, by omega, hi, fun j hj => h2 j (by omega)⟩
    · refine Or.inl ⟨y, fun j hj => ?_⟩
      by_cases w : j = m
      · rw [w, ← y]; exact hi
      · exact h2 j (by omega)
  · rw [h1, if_pos rfl]
    exact Or.inr ⟨rfl, i, by omega, h3, h4⟩
theorem KQr.run {d q m : Nat} {b : Int32} {rs : RS} (h : KQr d q m b rs) (hq : q < 60) (hm : m ≤ 3) (h60 : rs.2.2.1 60 q = nI m) : KQ (d + 1) q b rs := by
  refine ⟨h.b, fun F n hF hn => ?_⟩
  obtain ⟨n, rfl⟩ : ∃ z, n = z + 1 := ⟨n - 1, by omega⟩
  show b_isKeptQuery F (tab_isKept F n) rs (nI q) = some b
  unfold b_isKeptQuery
  have L : ∀ d' i u, m - i ≤ d' → d' < u → i ≤ m → ((b = 1 ∧ ∀ j, i ≤ j → j < m → KT d q j 1 rs) ∨ (b = 0 ∧ ∃ i', i ≤ i' ∧ i' < m ∧ KT d q i' 0 rs ∧ ∀ j, i ≤ j → j < i' → KT d q j 1 rs)) → m_isKeptQuery_L2 F (tab_isKept F n) rs u (nI q) (nI i) = some b := by
    intro d'
    induction d' with
    | zero =>
      intro i u h1 h2 h3 h4
      obtain ⟨u, rfl⟩ : ∃ z, u = z + 1 := ⟨u - 1, by omega⟩
      rw [m_isKeptQuery_L2, rdI_n hq (by decide), ob_s, h60, if_pos (nI_le (by omega) (by omega))]
      rcases h4 with ⟨b1, -⟩ | ⟨-, i', b1, b2, -⟩
      · rw [b1]
      · omega
    | succ d' ih =>
      intro i u h1 h2 h3 h4
      obtain ⟨u, rfl⟩ : ∃ z, u = z + 1 := ⟨u - 1, by omega⟩
      by_cases w : m ≤ i
      · rw [m_isKeptQuery_L2, rdI_n hq (by decide), ob_s, h60, if_pos (nI_le w (by omega))]
        rcases h4 with ⟨b1, -⟩ | ⟨-, i', b1, b2, -⟩
        · rw [b1]
        · omega
      · have st : ∀ v, KT d q i v rs → m_isKeptQuery_L2 F (tab_isKept F n) rs (u + 1) (nI q) (nI i) = if v = 0 then some 0 else m_isKeptQuery_L2 F (tab_isKept F n) rs u (nI q) (nI (i + 1)) := fun v hv => by
          obtain ⟨e, ns, k1, k2, k3, k4, k5⟩ := hv
          rw [m_isKeptQuery_L2, rdI_n hq (by decide), ob_s, h60, if_neg (nI_ge (by omega) (by omega)), nI_5, nI_add, rdI_n (by omega) (by decide), ob_s, k3, rdI_n k1 (by decide), ob_s, k4, k5.run hF (by omega) k2, ob_s, nI_1]
        rcases h4 with ⟨b1, b2⟩ | ⟨b1, i', b2, b3, b4, b5⟩
        · rw [st 1 (b2 i (Nat.le_refl _) (by omega)), if_neg (by decide)]
          exact ih (i + 1) u (by omega) (by omega) (by omega) (Or.inl ⟨b1, fun j j1 j2 => b2 j (by omega) j2⟩)
        · by_cases w2 : i' = i
          · rw [w2] at b4
            rw [st 0 b4, if_pos rfl, b1]
          · rw [st 1 (b5 i (Nat.le_refl _) (by omega)), if_neg (by decide)]
            exact ih (i + 1) u (by omega) (by omega) (by omega) (Or.inr ⟨b1, i', by omega, b3, b4, fun j j1 j2 => b5 j (by omega) j2⟩)
  refine L m 0 F (by omega) (by omega) (by omega) ?_
  rcases h with ⟨h1, h2⟩ | ⟨h1, i, h2, h3, h4⟩
  · exact Or.inl ⟨h1, fun j _ hj => h2 j hj⟩
  · exact Or.inr ⟨h1, i, by omega, h2, h3, fun j _ hj => h4 j hj⟩

/-! names: tokens of the reference against numbers of the class -/
theorem lN_in {a b : Nat} (ha : a < 9223372036854775808) (hb : b < 9223372036854775808) : lN a = lN b ↔ a = b := by
  constructor
  · intro h
    have e := congrArg Int64.toInt h
    rw [pk_lT (by omega), pk_lT (by omega)] at e
    omega
  · intro h
    rw [h]
theorem let_of : ∀ m, m < 256 → zwc (nI m - 128) → ∀ j, j < 4 → (zcN (nI m - 128) = j + 1 ↔ nI m - 128 = nI (97 + j)) := by
  unfold zwc zlt zdg zcN zlc
  decide +kernel
theorem WD.cn {n i p l : Nat} {f : Nat → Int32} {rs : RS} (h : WD n f i p l rs) : ∀ j, j < l → 1 ≤ zcN (f (p + j)) ∧ zcN (f (p + j)) ≤ 36 := fun j hj => (cN_k (h.by' _ (by have := h.pn; omega)) (h.wc j hj)).2
theorem WD.z1 {n i p l : Nat} {f : Nat → Int32} {rs : RS} (h : WD n f i p l rs) : 1 ≤ zwn f p l := by
  have l1 := h.l1
  obtain ⟨m, hm⟩ : ∃ m, l = m + 1 := ⟨l - 1, by omega⟩
  have c := (h.cn m (by omega)).1
  rw [hm]
  show 1 ≤ 37 * zwn f p m + zcN (f (p + m))
  omega
theorem WD.z63 {n i p l : Nat} {f : Nat → Int32} {rs : RS} (h : WD n f i p l rs) : zwn f p l < 9223372036854775808 := zwn_63 h.l2 (fun j hj => (h.cn j hj).2)
theorem nm_wd {n M k : Nat} {f : Nat → Int32} {v : Int64} {cs : CS} {rs : RS} (x : TX n f M cs rs) (hk : k ≤ M) (h : NM n f k v cs rs) : ∃ p l, WD n f k p l rs ∧ ((v = lN (zwn f p l) ∧ ∀ j, j < 39 → tn j ≠ zwn f p l) ∨ (v = 0 ∧ zwn f p l = tn 38)) := by
  obtain ⟨p, κ, tk, h⟩ := h
  have k39 : κ ≤ 39 := by rcases h with ⟨y, -⟩ | ⟨y, -⟩ <;> omega
  obtain ⟨l, wd, e, a1, a2⟩ := x.wd hk tk k39
  refine ⟨p, l, wd, ?_⟩
  rcases h with ⟨y1, y2⟩ | ⟨y1, y2⟩
  · exact Or.inl ⟨y2.trans e, a2 y1⟩
  · have a := a1 (by omega)
    rw [y1] at a
    exact Or.inr ⟨y2, a.symm⟩
theorem lN_0 : lN 0 = 0 := by decide +kernel
/-- two names: the same text, the same number -/
theorem nm_same {F n M k k' : Nat} {f : Nat → Int32} {v v' : Int64} {cs : CS} {rs : RS} (hF : 10000 ≤ F) (x : TX n f M cs rs) (hk : k ≤ M) (hk' : k' ≤ M) (h : NM n f k v cs rs) (h' : NM n f k' v' cs rs) : ∃ b : Int32, m_isSame F rs (nI k) (nI k') = some b ∧ (b = 1 ∧ v = v' ∨ b = 0 ∧ v ≠ v') := by
  obtain ⟨p, l, wd, o⟩ := nm_wd x hk h
  obtain ⟨p', l', wd', o'⟩ := nm_wd x hk' h'
  obtain ⟨b, e, q⟩ := is_ok hF wd wd'
  have z1 := wd.z1
  have z1' := wd'.z1
  have z6 := wd.z63
  have z6' := wd'.z63
  refine ⟨b, e, ?_⟩
  rcases o with ⟨o1, o2⟩ | ⟨o1, o2⟩ <;> rcases o' with ⟨u1, u2⟩ | ⟨u1, u2⟩
  · rcases q with ⟨q1, q2⟩ | ⟨q1, q2⟩
    · exact Or.inl ⟨q1, by rw [o1, u1, q2]⟩
    · exact Or.inr ⟨q1, fun w => q2 ((lN_in z6 z6').mp (by rw [← o1, ← u1]; exact w))⟩
  · rcases q with ⟨q1, q2⟩ | ⟨q1, q2⟩
    · exact absurd (u2.symm.trans q2.symm) (o2 38 (by decide))
    · exact Or.inr ⟨q1, fun w => by
        rw [o1, u1, ← lN_0] at w
        have := (lN_in z6 (by decide)).mp w
        omega⟩
  · rcases q with ⟨q1, q2⟩ | ⟨q1, q2⟩
    · exact absurd (o2.symm.trans q2) (u2 38 (by decide))
    · exact Or.inr ⟨q1, fun w => by
        rw [o1, u1, ← lN_0] at w
        have := (lN_in (by decide) z6').mp w
        omega⟩
  · rcases q with ⟨q1, q2⟩ | ⟨q1, q2⟩
    · exact Or.inl ⟨q1, by rw [o1, u1]⟩
    · exact absurd (o2.trans u2.symm) q2
/-- a name against what a column is called: by a token -/
theorem nmd_tok {F n M k k' : Nat} {f : Nat → Int32} {v v' : Int64} {cs : CS} {rs : RS} (hF : 10000 ≤ F) (x : TX n f M cs rs) (hk : k ≤ M) (hk' : k' ≤ M) (h : NM n f k v cs rs) (h' : NM n f k' v' cs rs) : ∃ b : Int32, m_isNamed F rs (nI k) (nI k') = some b ∧ (b = 1 ∧ v = v' ∨ b = 0 ∧ v ≠ v') := by
  obtain ⟨b, e, q⟩ := nm_same hF x hk hk' h h'
  have n2 := x.n2
  have mn := x.mn
  refine ⟨b, ?_, q⟩
  unfold m_isNamed
  rw [if_neg (nI_pos (by omega)), e, ob_s, show ckZ b = some b from if_pos (by rcases q with ⟨y, -⟩ | ⟨y, -⟩ <;> (rw [y]; decide)), ob_s]
/-- by the word time -/
theorem nmd_time {F n M k : Nat} {f : Nat → Int32} {v : Int64} {cs : CS} {rs : RS} (hF : 10000 ≤ F) (x : TX n f M cs rs) (hk : k ≤ M) (h : NM n f k v cs rs) : ∃ b : Int32, m_isNamed F rs (nI k) (-5) = some b ∧ (b = 1 ∧ v = 0 ∨ b = 0 ∧ v ≠ 0) := by
  obtain ⟨p, l, wd, o⟩ := nm_wd x hk h
  obtain ⟨b, e, q⟩ := it_ok (x := 14) hF wd (by decide) (by decide)
  rw [show swK 14 = 38 by decide] at q
  have z1 := wd.z1
  have z6 := wd.z63
  refine ⟨b, ?_, ?_⟩
  · unfold m_isNamed m_isNamed_b61
    rw [if_pos (by decide), if_pos rfl, e, ob_s, show ckZ b = some b from if_pos (by rcases q with ⟨y, -⟩ | ⟨y, -⟩ <;> (rw [y]; decide)), ob_s]
  · rcases o with ⟨o1, o2⟩ | ⟨o1, o2⟩
    · rcases q with ⟨q1, q2⟩ | ⟨q1, q2⟩
      · exact absurd q2.symm (o2 38 (by decide))
      · exact Or.inr ⟨q1, fun w => by
          rw [o1, ← lN_0] at w
          have := (lN_in z6 (by decide)).mp w
          omega⟩
    · rcases q with ⟨q1, q2⟩ | ⟨q1, q2⟩
      · exact Or.inl ⟨q1, o1⟩
      · exact absurd o2 q2
/-- by a letter: the column j of a stream -/
theorem nmd_let {F n M k j : Nat} {f : Nat → Int32} {v : Int64} {cs : CS} {rs : RS} (x : TX n f M cs rs) (hk : k ≤ M) (h : NM n f k v cs rs) (hj : j < 4) : ∃ b : Int32, m_isNamed F rs (nI k) (-1 - nI j) = some b ∧ (b = 1 ∧ v = lN (j + 1) ∨ b = 0 ∧ v ≠ lN (j + 1)) := by
  obtain ⟨p, l, wd, o⟩ := nm_wd x hk h
  have n2 := wd.n2
  have i2 := wd.i2
  have pn := wd.pn
  have l1 := wd.l1
  have l2 := wd.l2
  have z1 := wd.z1
  have z6 := wd.z63
  have j4 : j = 0 ∨ j = 1 ∨ j = 2 ∨ j = 3 := by omega
  have h1 : (-1 - nI j : Int32) < 0 := by rcases j4 with y | y | y | y <;> (rw [y]; decide)
  have h2 : ¬ (-1 - nI j : Int32) = -5 := by rcases j4 with y | y | y | y <;> (rw [y]; decide)
  have h3 : (96 : Int32) - (-1 - nI j) = nI (97 + j) := by rcases j4 with y | y | y | y <;> (rw [y]; decide)
  have c0 : m_isNamed_b60 F rs = some 0 := rfl
  have c1 : m_isNamed_b61 F rs 1 = some 1 := rfl
  -- the number is that of the letter just where the text is the letter
  have key : (l = 1 ∧ f p = nI (97 + j)) ↔ zwn f p l = j + 1 := by
    constructor
    · rintro ⟨y1, y2⟩
      rw [y1]
      show 37 * 0 + zcN (f (p + 0)) = j + 1
      obtain ⟨m, m1, m2⟩ := wd.by' p (by omega)
      have wc := wd.wc 0 (by omega)
      rw [Nat.add_zero] at wc ⊢
      rw [m2] at wc y2 ⊢
      have := (let_of m m1 wc j hj).mpr y2
      omega
    · intro y
      by_cases w : l = 1
      · refine ⟨w, ?_⟩
        rw [w] at y
        have y' : 37 * 0 + zcN (f (p + 0)) = j + 1 := y
        obtain ⟨m, m1, m2⟩ := wd.by' p (by omega)
        have wc := wd.wc 0 (by omega)
        rw [Nat.add_zero] at wc y'
        rw [m2] at wc y' ⊢
        exact (let_of m m1 wc j hj).mp (by omega)
      · obtain ⟨d, hd⟩ : ∃ d, l = d + 2 := ⟨l - 2, by omega⟩
        have := zwn_lo (f := f) (p := p) d (fun i hi => (wd.cn i (by omega)).1)
        rw [hd] at y
        omega
  have vk' : v = lN (j + 1) ↔ zwn f p l = j + 1 := by
    rcases o with ⟨o1, o2⟩ | ⟨o1, o2⟩
    · rw [o1]
      exact lN_in z6 (by omega)
    · constructor
      · intro w
        rw [o1, ← lN_0] at w
        have := (lN_in (by decide) (by omega)).mp w
        omega
      · intro w
        rw [o2] at w
        have : tn 38 = 328305 ∨ 40 < tn 38 := Or.inr (by decide +kernel)
        omega
  have tx : rs.2.2.1 2 p = f p := wd.tx p (by omega)
  by_cases y : l = 1
  · by_cases z : f p = nI (97 + j)
    · refine ⟨1, ?_, Or.inl ⟨rfl, vk'.mpr (key.mp ⟨y, z⟩)⟩⟩
      unfold m_isNamed
      rw [if_pos h1, if_neg h2, rdI_n i2 (by decide), ob_s, wd.ln, if_pos (show nI l = 1 by rw [y]; decide), rdI_n i2 (by decide), ob_s, wd.pl, rdI_n (by omega) (by decide), ob_s, tx, h3, if_pos z]
      exact c1
    · refine ⟨0, ?_, Or.inr ⟨rfl, fun w => z (key.mpr (vk'.mp w)).2⟩⟩
      unfold m_isNamed
      rw [if_pos h1, if_neg h2, rdI_n i2 (by decide), ob_s, wd.ln, if_pos (show nI l = 1 by rw [y]; decide), rdI_n i2 (by decide), ob_s, wd.pl, rdI_n (by omega) (by decide), ob_s, tx, h3, if_neg z]
      exact c0
  · refine ⟨0, ?_, Or.inr ⟨rfl, fun w => y (key.mpr (vk'.mp w)).1⟩⟩
    unfold m_isNamed
    rw [if_pos h1, if_neg h2, rdI_n i2 (by decide), ob_s, wd.ln, if_neg (show ¬ nI l = 1 from fun w => y ((nI_eq (b := 1) (by omega) (by decide)).mp w))]
    exact c0

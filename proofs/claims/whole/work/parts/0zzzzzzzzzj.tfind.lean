/-! a name that was found, the class alone -/
theorem x2_has {F cl : Nat} {cs : CS} {x v : Int32} (h : c_X2_has F cs cl x = some v) (hv : ¬ v = 0) : ∃ col, x = nI col ∧ col < 8 ∧ nI col < kI cs 96 cl := by
  unfold c_X2_has c_X2_has_b22 c_X2_has_b23 at h
  have z0 : ¬ (Option.bind (ckZ 0) fun _ => some (0 : Int32)) = some v := fun w => hv (Option.some.inj ((show (Option.bind (ckZ 0) fun _ => some (0 : Int32)) = some 0 from rfl).symm.trans w)).symm
  by_cases y : x < 0
  · exact absurd ((if_pos y).symm.trans h) z0
  · replace h := (if_neg y).symm.trans h
    replace h := ob h; obtain ⟨v3, h3, h⟩ := h
    by_cases y2 : v3 ≤ x
    · exact absurd ((if_pos y2).symm.trans h) z0
    · replace h := (if_neg y2).symm.trans h
      by_cases y3 : 8 ≤ x
      · exact absurd ((if_pos y3).symm.trans h) z0
      · obtain ⟨col, hc, ec⟩ := nI_of y
        refine ⟨col, ec, ?_, ?_⟩
        · rw [ec] at y3
          exact (nI_ltI (a := col) (b := 8) hc (by decide)).mp (Int32.not_le.mp y3)
        · rw [(gI_some h3).2, ← ec]
          exact Int32.not_le.mp y2
/-- in a SOURCE -/
def NTS (c k y : Nat) (cs : CS) : Prop := ∃ o s oo cl col : Nat, kR cs 35 k = some o ∧ s < 2147483648 ∧ nI s < kI cs 36 k ∧ kQ cs 195 o s = some oo ∧ kR cs 235 oo = some cl ∧ col < 8 ∧ nI col < kI cs 96 cl ∧ kA cs 72 c y = kI cs 234 oo + nI col ∧ kA cs 73 c y = kA cs 100 cl col
/-- in columns -/
def NTN (c nm y : Nat) (cs : CS) : Prop := ∃ col : Nat, col < 8 ∧ nI col < kI cs 96 nm ∧ kA cs 72 c y = nI col ∧ kA cs 73 c y = kA cs 100 nm col
theorem kA_w {cs : CS} {x i n : Nat} {v : Int32} : kA (sA cs x i n v) x i n = v := by
  rw [kA_s]
  exact pk_us
theorem b115_T {F k c y s o oo : Nat} {rc : CS → Nat → Int32 → Int32 → Int32 → Option CS} {cs1 cs9 : CS} {u2 u5 y0 : Int32} (hc : kR cs1 34 k = some c) (hc3 : c ≠ k) (hy : y < 2147483648) (ho : kR cs1 35 k = some o) (hs : s < 2147483648) (h36 : nI s < kI cs1 36 k) (hq : kQ cs1 195 o s = some oo) (h : c_X0_findInSources_b115 F rc cs1 k (nI y) u2 (nI s) (some oo) u5 y0 = some cs9) : rc cs1 k (nI y) u2 (nI (s + 1)) = some cs9 ∨ ∃ cs2, NTS c k y cs2 ∧ (∀ x j, ¬ (j = c ∧ (x = 72 ∨ x = 73)) → AT cs1 cs2 x j) ∧ rc cs2 k (nI y) (u2 + 1) (nI (s + 1)) = some cs9 := by
  unfold c_X0_findInSources_b115 c_X0_findInSources_b175 at h
  rw [nI_1] at h
  by_cases y5 : u5 = 0
  · exact Or.inl ((if_pos y5).symm.trans h)
  · replace h := (if_neg y5).symm.trans h
    replace h := ob h; obtain ⟨i4, g4, h⟩ := h
    replace h := ob h; obtain ⟨v5, g5, h⟩ := h
    replace h := ob h; obtain ⟨i7, g7, h⟩ := h
    replace h := ob h; obtain ⟨w7, gw, h⟩ := h
    replace h := ob h; obtain ⟨v6, g6, h⟩ := h
    by_cases y6 : v6 = 0
    · exact Or.inl ((if_pos y6).symm.trans h)
    · replace h := (if_neg y6).symm.trans h
      replace h := ob h; obtain ⟨v10, g10, h⟩ := h
      replace h := ob h; obtain ⟨i11, g11, h⟩ := h
      replace h := ob h; obtain ⟨v12, g12, h⟩ := h
      replace h := ob h; obtain ⟨v13, g13, h⟩ := h
      replace h := ob h; obtain ⟨c14, g14, h⟩ := h
      replace h := ob h; obtain ⟨v15, g15, h⟩ := h
      replace h := ob h; obtain ⟨i16, g16, h⟩ := h
      replace h := ob h; obtain ⟨v17, g17, h⟩ := h
      replace h := ob h; obtain ⟨v18, g18, h⟩ := h
      replace h := ob h; obtain ⟨i19, g19, h⟩ := h
      replace h := ob h; obtain ⟨v20, g20, h⟩ := h
      replace h := ob h; obtain ⟨v21, g21, h⟩ := h
      replace h := ob h; obtain ⟨c22, g22, h⟩ := h
      have e4 : i4 = oo := (Option.some.inj g4).symm
      rw [e4] at g5 g13 g18
      have r5 := (gR_some g5).2
      rw [g7] at r5
      have r10 := (gR_some g10).2
      rw [g11] at r10
      have e11 : i11 = c := Option.some.inj (r10.symm.trans hc)
      rw [e11] at g14
      obtain ⟨-, s14⟩ := wA_some g14
      rw [nI_clamp hy] at s14
      have r15 := (gR_some g15).2
      rw [g16] at r15
      have kr14 : kR c14 = kR cs1 := by rw [← s14]; rfl
      rw [kr14] at r15
      have e16 : i16 = c := Option.some.inj (r15.symm.trans hc)
      rw [e16] at g22
      obtain ⟨-, s22⟩ := wA_some g22
      rw [nI_clamp hy] at s22
      have r18 := (gR_some g18).2
      rw [g19, kr14, r5] at r18
      have e19 : i7 = i19 := Option.some.inj r18
      rw [← e19] at g20 g21
      obtain ⟨col, c1, c2, c3⟩ := x2_has g6 y6
      have r21 := (rA_some g21).2
      rw [c1, nI_clamp (by omega), ← s14, (AT.sA (by omega)).a] at r21
      have r13 := (gI_some g13).2
      have at2 : ∀ x j, ¬ (j = c ∧ (x = 72 ∨ x = 73)) → AT cs1 c22 x j := fun x j hx => by
        rw [← s22, ← s14]
        exact (AT.sA (by omega)).trans (AT.sA (by omega))
      refine Or.inr ⟨c22, ⟨o, s, oo, i7, col, ?_, hs, ?_, ?_, ?_, c2, ?_, ?_, ?_⟩, at2, h⟩
      · rw [(at2 35 k (by omega)).r]; exact ho
      · rw [(at2 36 k (by omega)).i]; exact h36
      · rw [(at2 195 o (by omega)).q]; exact hq
      · rw [(at2 235 oo (by omega)).r]; exact r5
      · rw [(at2 96 i7 (by omega)).i]; exact c3
      · rw [(at2 234 oo (by omega)).i, ← s22, (AT.sA (by omega)).a, ← s14, kA_w, r13, c1]
      · rw [(at2 100 i7 (by omega)).a, ← s22, kA_w, r21]
theorem b86_T {F k c y s o oo : Nat} {rc : CS → Nat → Int32 → Int32 → Int32 → Option CS} {cs1 cs9 : CS} {u2 y0 : Int32} (hc : kR cs1 34 k = some c) (hc3 : c ≠ k) (hy : y < 2147483648) (ho : kR cs1 35 k = some o) (hs : s < 2147483648) (h36 : nI s < kI cs1 36 k) (hq : kQ cs1 195 o s = some oo) (h : c_X0_findInSources_b86 F rc cs1 k (nI y) u2 (nI s) (some oo) y0 = some cs9) : rc cs1 k (nI y) u2 (nI (s + 1)) = some cs9 ∨ ∃ cs2, NTS c k y cs2 ∧ (∀ x j, ¬ (j = c ∧ (x = 72 ∨ x = 73)) → AT cs1 cs2 x j) ∧ rc cs2 k (nI y) (u2 + 1) (nI (s + 1)) = some cs9 := by
  unfold c_X0_findInSources_b86 at h
  by_cases w : y0 = 0
  · exact b115_T hc hc3 hy ho hs h36 hq ((if_pos w).symm.trans h)
  · replace h := (if_neg w).symm.trans h
    replace h := ob h; obtain ⟨i1, g1, h⟩ := h
    replace h := ob h; obtain ⟨v2, g2, h⟩ := h
    replace h := ob h; obtain ⟨v3, g3, h⟩ := h
    replace h := ob h; obtain ⟨i4, g4, h⟩ := h
    replace h := ob h; obtain ⟨v5, g5, h⟩ := h
    replace h := ob h; obtain ⟨v6, g6, h⟩ := h
    replace h := ob h; obtain ⟨i7, g7, h⟩ := h
    replace h := ob h; obtain ⟨w8, g8, h⟩ := h
    replace h := ob h; obtain ⟨v9, g9, h⟩ := h
    rw [← Option.some.inj g1] at h
    exact b115_T hc hc3 hy ho hs h36 hq h
theorem b85n_T {F k y s : Nat} {rc : CS → Nat → Int32 → Int32 → Int32 → Option CS} {cs1 cs9 : CS} {u2 : Int32} (h : c_X0_findInSources_b85 F rc cs1 k (nI y) u2 (nI s) none = some cs9) : rc cs1 k (nI y) u2 (nI (s + 1)) = some cs9 := by
  unfold c_X0_findInSources_b85 c_X0_findInSources_b86 at h
  replace h := (if_pos rfl).symm.trans h
  unfold c_X0_findInSources_b115 c_X0_findInSources_b175 at h
  rw [nI_1] at h
  exact (if_pos rfl).symm.trans h
/-- one step of the SOURCES -/
theorem L4_T {F lf k c y s : Nat} {cs1 cs9 : CS} {u2 : Int32} (hc : kR cs1 34 k = some c) (hc3 : c ≠ k) (hy : y < 2147483648) (hs : s < 2147483648) (h : c_X0_findInSources_L4 F (lf + 1) cs1 k (nI y) u2 (nI s) = some cs9) : c_X0_refuseUnlessOne F cs1 k u2 (nI y) = some cs9 ∨ c_X0_findInSources_L4 F lf cs1 k (nI y) u2 (nI (s + 1)) = some cs9 ∨ ∃ cs2, NTS c k y cs2 ∧ (∀ x j, ¬ (j = c ∧ (x = 72 ∨ x = 73)) → AT cs1 cs2 x j) ∧ c_X0_findInSources_L4 F lf cs2 k (nI y) (u2 + 1) (nI (s + 1)) = some cs9 := by
  have e181 : ∀ {cs : CS}, c_X0_findInSources_b181 F cs k (nI y) u2 = some cs9 → c_X0_refuseUnlessOne F cs k u2 (nI y) = some cs9 := fun {cs} g => by
    unfold c_X0_findInSources_b181 at g
    replace g := ob g; obtain ⟨w1, g1, g⟩ := g
    replace g := ob g; obtain ⟨c1, g2, g⟩ := g
    rw [← Option.some.inj g]
    exact g2
  rw [c_X0_findInSources_L4] at h
  replace h := ob h; obtain ⟨v1, g1, h⟩ := h
  cases v1 with
  | none =>
    replace h := oc_n.symm.trans h
    exact Or.inl (e181 h)
  | some o =>
    replace h := oc_s.symm.trans h
    have ro := (gR_some g1).2
    replace h := ob h; obtain ⟨v3, g3, h⟩ := h
    by_cases c4 : v3 ≤ nI s
    · replace h := (if_pos c4).symm.trans h
      exact Or.inl (e181 h)
    · replace h := (if_neg c4).symm.trans h
      have h36 : nI s < kI cs1 36 k := by rw [(gI_some g3).2]; exact Int32.not_le.mp c4
      replace h := ob h; obtain ⟨v5, g5, h⟩ := h
      replace h := ob h; obtain ⟨i6, g6, h⟩ := h
      replace h := ob h; obtain ⟨v7, g7, h⟩ := h
      replace h := ob h; obtain ⟨v8, g8, h⟩ := h
      by_cases c9 : v8 ≤ nI s
      · replace h := (if_pos c9).symm.trans h
        exact Or.inl (e181 h)
      · replace h := (if_neg c9).symm.trans h
        replace h := ob h; obtain ⟨v10, g10, h⟩ := h
        replace h := ob h; obtain ⟨i11, g11, h⟩ := h
        replace h := ob h; obtain ⟨v12, g12, h⟩ := h
        replace h := ob h; obtain ⟨v13, g13, h⟩ := h
        have r10 := (gR_some g10).2
        rw [ro, g11] at r10
        have e11 : o = i11 := Option.some.inj r10
        rw [← e11] at g13
        have r13 := (rQ_some g13).2
        rw [nI_clamp hs] at r13
        cases v13 with
        | none =>
          replace h := oc_n.symm.trans h
          exact Or.inr (Or.inl (b85n_T h))
        | some oo =>
          replace h := oc_s.symm.trans h
          replace h := ob h; obtain ⟨v15, g15, h⟩ := h
          replace h := ob h; obtain ⟨i16, g16, h⟩ := h
          replace h := ob h; obtain ⟨v17, g17, h⟩ := h
          replace h := ob h; obtain ⟨v18, g18, h⟩ := h
          by_cases c19 : v18 = (-1)
          · replace h := (if_pos c19).symm.trans h
            exact Or.inr (b86_T hc hc3 hy ro hs h36 r13 h)
          · replace h := (if_neg c19).symm.trans h
            replace h := ob h; obtain ⟨v20, g20, h⟩ := h
            replace h := ob h; obtain ⟨i21, g21, h⟩ := h
            replace h := ob h; obtain ⟨v22, g22, h⟩ := h
            replace h := ob h; obtain ⟨v23, g23, h⟩ := h
            replace h := ob h; obtain ⟨v24, g24, h⟩ := h
            by_cases c25 : v23 = v24
            · replace h := (if_pos c25).symm.trans h
              exact Or.inr (b86_T hc hc3 hy ro hs h36 r13 h)
            · replace h := (if_neg c25).symm.trans h
              exact Or.inr (b86_T hc hc3 hy ro hs h36 r13 h)
theorem fs_T {F k c t y : Nat} (hc3 : c ≠ k) (hy : y < 2147483648) : ∀ (lf s : Nat) (u2 : Int32) (cs1 cs9 : CS), s + lf < 2147483648 → kR cs1 34 k = some c → kR cs1 32 k = some t → (u2 = 0 ∨ NTS c k y cs1) → c_X0_findInSources_L4 F lf cs1 k (nI y) u2 (nI s) = some cs9 → kI cs9 320 t = 0 → NTS c k y cs9 := by
  intro lf
  induction lf with
  | zero => intro s u2 cs1 cs9 _ _ _ _ h _; cases (show (none : Option CS) = _ from h)
  | succ lf ih =>
    intro s u2 cs1 cs9 hs hc ht hu h f
    rcases L4_T hc hc3 hy (by omega) h with g | g | ⟨cs2, n2, a2, g⟩
    · obtain ⟨e1, e2⟩ := one_x hc ht g f
      rw [e2]
      rcases hu with w | w
      · rw [w] at e1
        exact absurd e1 (by decide)
      · exact w
    · exact ih (s + 1) u2 cs1 cs9 (by omega) hc ht hu g f
    · exact ih (s + 1) (u2 + 1) cs2 cs9 (by omega) (by rw [(a2 34 k (by omega)).r]; exact hc) (by rw [(a2 32 k (by omega)).r]; exact ht) (Or.inr n2) g f
theorem fn_T {F k c t y nm : Nat} {cs cs9 : CS} (hc : kR cs 34 k = some c) (ht : kR cs 32 k = some t) (hcn : c ≠ nm) (hy : y < 2147483648) (h : c_X0_findInNames F cs k (nI y) nm = some cs9) (f : kI cs9 320 t = 0) : NTN c nm y cs9 := by
  have go : ∀ (y0 : Int32), c_X0_findInNames_b34 F cs k (nI y) nm y0 = some cs9 → NTN c nm y cs9 := fun y0 h => by
    unfold c_X0_findInNames_b34 at h
    replace h := ob h; obtain ⟨w2, gw, h⟩ := h
    replace h := ob h; obtain ⟨v1, g1, h⟩ := h
    by_cases c3 : v1 = 0
    · replace h := (if_pos c3).symm.trans h
      replace h := ob h; obtain ⟨w5, g5, h⟩ := h
      replace h := ob h; obtain ⟨c4, g4, h⟩ := h
      rw [Option.some.inj h] at g4
      exact absurd (one_x hc ht g4 f).1 (by decide)
    · replace h := (if_neg c3).symm.trans h
      replace h := ob h; obtain ⟨v6, g6, h⟩ := h
      replace h := ob h; obtain ⟨i7, g7, h⟩ := h
      replace h := ob h; obtain ⟨v8, g8, h⟩ := h
      replace h := ob h; obtain ⟨c9, g9, h⟩ := h
      replace h := ob h; obtain ⟨v10, g10, h⟩ := h
      replace h := ob h; obtain ⟨i11, g11, h⟩ := h
      replace h := ob h; obtain ⟨v12, g12, h⟩ := h
      replace h := ob h; obtain ⟨v13, g13, h⟩ := h
      replace h := ob h; obtain ⟨v14, g14, h⟩ := h
      replace h := ob h; obtain ⟨c15, g15, h⟩ := h
      replace h := ob h; obtain ⟨v16, g16, h⟩ := h
      replace h := ob h; obtain ⟨i17, g17, h⟩ := h
      replace h := ob h; obtain ⟨v18, g18, h⟩ := h
      replace h := ob h; obtain ⟨v19, g19, h⟩ := h
      replace h := ob h; obtain ⟨w21, g21, h⟩ := h
      replace h := ob h; obtain ⟨v20, g20, h⟩ := h
      have r6 := (gR_some g6).2
      rw [g7] at r6
      rw [Option.some.inj (r6.symm.trans hc)] at g9
      obtain ⟨-, s9⟩ := wA_some g9
      rw [nI_clamp hy] at s9
      have kr9 : kR c9 = kR cs := by rw [← s9]; rfl
      have r10 := (gR_some g10).2
      rw [g11, kr9] at r10
      rw [Option.some.inj (r10.symm.trans hc)] at g15
      obtain ⟨-, s15⟩ := wA_some g15
      rw [nI_clamp hy] at s15
      obtain ⟨col, c1, c2, c3'⟩ := x2_has g1 c3
      have r14 := (rA_some g14).2
      rw [c1, nI_clamp (by omega), ← s9, (AT.sA (by omega)).a] at r14
      have at2 : ∀ x j, ¬ (j = c ∧ (x = 72 ∨ x = 73)) → AT cs c15 x j := fun x j hx => by
        rw [← s15, ← s9]
        exact (AT.sA (by omega)).trans (AT.sA (by omega))
      have key : NTN c nm y c15 := by
        refine ⟨col, c2, ?_, ?_, ?_⟩
        · rw [(at2 96 nm (by omega)).i]; exact c3'
        · rw [← s15, (AT.sA (by omega)).a, ← s9, kA_w, c1]
        · rw [(at2 100 nm (by omega)).a, ← s15, kA_w, r14]
      have hc15 : kR c15 34 k = some c := by rw [(at2 34 k (by omega)).r]; exact hc
      have ht15 : kR c15 32 k = some t := by rw [(at2 32 k (by omega)).r]; exact ht
      by_cases c22 : v20 = (-1)
      · replace h := (if_pos c22).symm.trans h
        unfold c_X0_findInNames_b101 at h
        replace h := ob h; obtain ⟨w23, g23, h⟩ := h
        replace h := ob h; obtain ⟨c24, g24, h⟩ := h
        rw [Option.some.inj h] at g24
        rw [(one_x hc15 ht15 g24 f).2]
        exact key
      · replace h := (if_neg c22).symm.trans h
        unfold c_X0_findInNames_b101 at h
        replace h := ob h; obtain ⟨w23, g23, h⟩ := h
        replace h := ob h; obtain ⟨c24, g24, h⟩ := h
        rw [Option.some.inj h] at g24
        exact absurd (one_x hc15 ht15 g24 f).1 (by decide)
  unfold c_X0_findInNames at h
  replace h := ob h; obtain ⟨v1, g1, h⟩ := h
  replace h := ob h; obtain ⟨i2, g2, h⟩ := h
  replace h := ob h; obtain ⟨v3, g3, h⟩ := h
  replace h := ob h; obtain ⟨v4, g4, h⟩ := h
  by_cases c5 : v4 = (-1)
  · replace h := (if_pos c5).symm.trans h
    replace h := ob h; obtain ⟨v6, g6, h⟩ := h
    replace h := ob h; obtain ⟨i7, g7, h⟩ := h
    replace h := ob h; obtain ⟨v8, g8, h⟩ := h
    replace h := ob h; obtain ⟨v9, g9, h⟩ := h
    replace h := ob h; obtain ⟨w11, g11, h⟩ := h
    replace h := ob h; obtain ⟨v10, g10, h⟩ := h
    exact go v10 h
  · replace h := (if_neg c5).symm.trans h
    exact go (-1) h

/-! the check with more streams -/
theorem sv_c_Jx4a65c_size_8abf5 {n9 : Int32} {a9 : Nat → Int32} {F : Nat} {cs : CS} {x0 : Nat} {r9 : Int32} (h : c_Jx4a65c_size_8abf5 F cs x0 = some r9) : c_Jx4a65c_size_8abf5 F (sgX n9 a9 cs) x0 = some r9 := by
  unfold c_Jx4a65c_size_8abf5 at h
  replace h := ob h
  obtain ⟨v_1, g1, h⟩ := h
  unfold c_Jx4a65c_size_8abf5
  refine (bd_s (sgI (by decide) g1)).trans ?_
  exact h
theorem sv_c_J3_checkIndex_8e157_b9 {n9 : Int32} {a9 : Nat → Int32} {F : Nat} {cs : CS} {u0 : Int32} {u1 : Int32} {r9 : Int32} (h : c_J3_checkIndex_8e157_b9 F cs u0 u1 = some r9) : c_J3_checkIndex_8e157_b9 F (sgX n9 a9 cs) u0 u1 = some r9 := by
  unfold c_J3_checkIndex_8e157_b9 at h
  cases h
theorem sv_c_J3_checkIndex_8e157 {n9 : Int32} {a9 : Nat → Int32} {F : Nat} {cs : CS} {x0 : Int32} {x1 : Int32} {r9 : Int32} (h : c_J3_checkIndex_8e157 F cs x0 x1 = some r9) : c_J3_checkIndex_8e157 F (sgX n9 a9 cs) x0 x1 = some r9 := by
  unfold c_J3_checkIndex_8e157 at h
  by_cases c1 : x0 < 0
  · replace h := (if_pos c1).symm.trans h
    unfold c_J3_checkIndex_8e157
    refine (if_pos c1).trans ?_
    exact sv_c_J3_checkIndex_8e157_b9 h
  · replace h := (if_neg c1).symm.trans h
    by_cases c2 : x0 < x1
    · replace h := (if_pos c2).symm.trans h
      unfold c_J3_checkIndex_8e157
      refine (if_neg c1).trans ?_
      refine (if_pos c2).trans ?_
      exact h
    · replace h := (if_neg c2).symm.trans h
      unfold c_J3_checkIndex_8e157
      refine (if_neg c1).trans ?_
      refine (if_neg c2).trans ?_
      exact sv_c_J3_checkIndex_8e157_b9 h
theorem sv_c_J15_checkIndex_7cf53 {n9 : Int32} {a9 : Nat → Int32} {F : Nat} {cs : CS} {x0 : Int32} {x1 : Int32} {r9 : Int32} (h : c_J15_checkIndex_7cf53 F cs x0 x1 = some r9) : c_J15_checkIndex_7cf53 F (sgX n9 a9 cs) x0 x1 = some r9 := by
  unfold c_J15_checkIndex_7cf53 at h
  replace h := ob h
  obtain ⟨v_1, g1, h⟩ := h
  unfold c_J15_checkIndex_7cf53
  refine (bd_s (sv_c_J3_checkIndex_8e157 g1)).trans ?_
  exact h
theorem sv_c_Jx4a65c_elementData_915e3 {n9 : Int32} {a9 : Nat → Int32} {F : Nat} {cs : CS} {x0 : Nat} {x1 : Int32} {r9 : Nat} (h : c_Jx4a65c_elementData_915e3 F cs x0 x1 = some r9) : c_Jx4a65c_elementData_915e3 F (sgX n9 a9 cs) x0 x1 = some r9 := by
  unfold c_Jx4a65c_elementData_915e3 at h
  replace h := ob h
  obtain ⟨v_1, g1, h⟩ := h
  replace h := ob h
  obtain ⟨v_2, g2, h⟩ := h
  replace h := ob h
  obtain ⟨i_3, g3, h⟩ := h
  unfold c_Jx4a65c_elementData_915e3
  refine (bd_s (sgA g1)).trans ?_
  refine (bd_s (sgrQ g2)).trans ?_
  refine (bd_s (g3)).trans ?_
  exact h
theorem sv_c_Jx4a65c_get_915e3 {n9 : Int32} {a9 : Nat → Int32} {F : Nat} {cs : CS} {x0 : Nat} {x1 : Int32} {r9 : Nat} (h : c_Jx4a65c_get_915e3 F cs x0 x1 = some r9) : c_Jx4a65c_get_915e3 F (sgX n9 a9 cs) x0 x1 = some r9 := by
  unfold c_Jx4a65c_get_915e3 at h
  replace h := ob h
  obtain ⟨v_1, g1, h⟩ := h
  replace h := ob h
  obtain ⟨v_2, g2, h⟩ := h
  replace h := ob h
  obtain ⟨w3, g4, h⟩ := h
  replace h := ob h
  obtain ⟨v_3, g5, h⟩ := h
  unfold c_Jx4a65c_get_915e3
  refine (bd_s (sgI (by decide) g1)).trans ?_
  refine (bd_s (sv_c_J15_checkIndex_7cf53 g2)).trans ?_
  refine (bd_s (sgck g4)).trans ?_
  refine (bd_s (sv_c_Jx4a65c_elementData_915e3 g5)).trans ?_
  exact h
theorem sv_c_X2_find_b44 {n9 : Int32} {a9 : Nat → Int32} {F : Nat} {cs : CS} {r9 : Int32} (h : c_X2_find_b44 F cs = some r9) : c_X2_find_b44 F (sgX n9 a9 cs) = some r9 := by
  unfold c_X2_find_b44 at h
  unfold c_X2_find_b44
  exact h
theorem sv_c_X2_find_L7 {n9 : Int32} {a9 : Nat → Int32} {F : Nat} {cs : CS} : ∀ (lf : Nat) (u0 : Nat) (u1 : Int64) (u4 : Int32) (r9 : Int32), c_X2_find_L7 F cs lf u0 u1 u4 = some r9 → c_X2_find_L7 F (sgX n9 a9 cs) lf u0 u1 u4 = some r9 := by
  intro lf
  induction lf with
  | zero => intro u0 u1 u4 r9 h; cases (show (none : Option Int32) = _ from h)
  | succ lf ih =>
    intro u0 u1 u4 r9 h
    rw [c_X2_find_L7] at h
    replace h := ob h
    obtain ⟨v_1, g1, h⟩ := h
    by_cases c2 : v_1 ≤ u4
    · replace h := (if_pos c2).symm.trans h
      rw [c_X2_find_L7]
      refine (bd_s (sgI (by decide) g1)).trans ?_
      refine (if_pos c2).trans ?_
      exact sv_c_X2_find_b44 h
    · replace h := (if_neg c2).symm.trans h
      by_cases c3 : 8 ≤ u4
      · replace h := (if_pos c3).symm.trans h
        rw [c_X2_find_L7]
        refine (bd_s (sgI (by decide) g1)).trans ?_
        refine (if_neg c2).trans ?_
        refine (if_pos c3).trans ?_
        exact sv_c_X2_find_b44 h
      · replace h := (if_neg c3).symm.trans h
        replace h := ob h
        obtain ⟨v_4, g4, h⟩ := h
        replace h := ob h
        obtain ⟨v_5, g5, h⟩ := h
        by_cases c6 : v_5 = u1
        · replace h := (if_pos c6).symm.trans h
          rw [c_X2_find_L7]
          refine (bd_s (sgI (by decide) g1)).trans ?_
          refine (if_neg c2).trans ?_
          refine (if_neg c3).trans ?_
          refine (bd_s (sgA g4)).trans ?_
          refine (bd_s (sgrB g5)).trans ?_
          refine (if_pos c6).trans ?_
          exact h
        · replace h := (if_neg c6).symm.trans h
          rw [c_X2_find_L7]
          refine (bd_s (sgI (by decide) g1)).trans ?_
          refine (if_neg c2).trans ?_
          refine (if_neg c3).trans ?_
          refine (bd_s (sgA g4)).trans ?_
          refine (bd_s (sgrB g5)).trans ?_
          refine (if_neg c6).trans ?_
          exact ih _ _ _ _ h
theorem sv_c_X2_find {n9 : Int32} {a9 : Nat → Int32} {F : Nat} {cs : CS} {x0 : Nat} {x1 : Int64} {x3 : Int32} {r9 : Int32} (h : c_X2_find F cs x0 x1 x3 = some r9) : c_X2_find F (sgX n9 a9 cs) x0 x1 x3 = some r9 := by
  unfold c_X2_find at h
  unfold c_X2_find
  exact sv_c_X2_find_L7 _ _ _ _ _ h
theorem sv_c_X2_allNamedApart_b46 {n9 : Int32} {a9 : Nat → Int32} {F : Nat} {cs : CS} {r9 : Int32} (h : c_X2_allNamedApart_b46 F cs = some r9) : c_X2_allNamedApart_b46 F (sgX n9 a9 cs) = some r9 := by
  unfold c_X2_allNamedApart_b46 at h
  unfold c_X2_allNamedApart_b46
  exact h
theorem sv_c_X2_allNamedApart_b54 {n9 : Int32} {a9 : Nat → Int32} {F : Nat} {cs : CS} {r9 : Int32} (h : c_X2_allNamedApart_b54 F cs = some r9) : c_X2_allNamedApart_b54 F (sgX n9 a9 cs) = some r9 := by
  unfold c_X2_allNamedApart_b54 at h
  unfold c_X2_allNamedApart_b54
  exact h
theorem sv_c_X2_allNamedApart_L2 {n9 : Int32} {a9 : Nat → Int32} {F : Nat} {cs : CS} : ∀ (lf : Nat) (u0 : Nat) (u1 : Int32) (r9 : Int32), c_X2_allNamedApart_L2 F cs lf u0 u1 = some r9 → c_X2_allNamedApart_L2 F (sgX n9 a9 cs) lf u0 u1 = some r9 := by
  intro lf
  induction lf with
  | zero => intro u0 u1 r9 h; cases (show (none : Option Int32) = _ from h)
  | succ lf ih =>
    intro u0 u1 r9 h
    rw [c_X2_allNamedApart_L2] at h
    replace h := ob h
    obtain ⟨v_1, g1, h⟩ := h
    by_cases c2 : v_1 ≤ u1
    · replace h := (if_pos c2).symm.trans h
      rw [c_X2_allNamedApart_L2]
      refine (bd_s (sgI (by decide) g1)).trans ?_
      refine (if_pos c2).trans ?_
      exact sv_c_X2_allNamedApart_b54 h
    · replace h := (if_neg c2).symm.trans h
      by_cases c3 : 8 ≤ u1
      · replace h := (if_pos c3).symm.trans h
        rw [c_X2_allNamedApart_L2]
        refine (bd_s (sgI (by decide) g1)).trans ?_
        refine (if_neg c2).trans ?_
        refine (if_pos c3).trans ?_
        exact sv_c_X2_allNamedApart_b54 h
      · replace h := (if_neg c3).symm.trans h
        replace h := ob h
        obtain ⟨v_4, g4, h⟩ := h
        replace h := ob h
        obtain ⟨v_5, g5, h⟩ := h
        by_cases c6 : v_5 = (-1)
        · replace h := (if_pos c6).symm.trans h
          rw [c_X2_allNamedApart_L2]
          refine (bd_s (sgI (by decide) g1)).trans ?_
          refine (if_neg c2).trans ?_
          refine (if_neg c3).trans ?_
          refine (bd_s (sgA g4)).trans ?_
          refine (bd_s (sgrB g5)).trans ?_
          refine (if_pos c6).trans ?_
          exact sv_c_X2_allNamedApart_b46 h
        · replace h := (if_neg c6).symm.trans h
          replace h := ob h
          obtain ⟨v_7, g7, h⟩ := h
          replace h := ob h
          obtain ⟨v_8, g8, h⟩ := h
          replace h := ob h
          obtain ⟨w9, g10, h⟩ := h
          replace h := ob h
          obtain ⟨v_9, g11, h⟩ := h
          by_cases c12 : v_9 = (-1)
          · replace h := (if_pos c12).symm.trans h
            rw [c_X2_allNamedApart_L2]
            refine (bd_s (sgI (by decide) g1)).trans ?_
            refine (if_neg c2).trans ?_
            refine (if_neg c3).trans ?_
            refine (bd_s (sgA g4)).trans ?_
            refine (bd_s (sgrB g5)).trans ?_
            refine (if_neg c6).trans ?_
            refine (bd_s (sgA g7)).trans ?_
            refine (bd_s (sgrB g8)).trans ?_
            refine (bd_s (sgck g10)).trans ?_
            refine (bd_s (sv_c_X2_find g11)).trans ?_
            refine (if_pos c12).trans ?_
            exact ih _ _ _ h
          · replace h := (if_neg c12).symm.trans h
            rw [c_X2_allNamedApart_L2]
            refine (bd_s (sgI (by decide) g1)).trans ?_
            refine (if_neg c2).trans ?_
            refine (if_neg c3).trans ?_
            refine (bd_s (sgA g4)).trans ?_
            refine (bd_s (sgrB g5)).trans ?_
            refine (if_neg c6).trans ?_
            refine (bd_s (sgA g7)).trans ?_
            refine (bd_s (sgrB g8)).trans ?_
            refine (bd_s (sgck g10)).trans ?_
            refine (bd_s (sv_c_X2_find g11)).trans ?_
            refine (if_neg c12).trans ?_
            exact sv_c_X2_allNamedApart_b46 h
theorem sv_c_X2_allNamedApart {n9 : Int32} {a9 : Nat → Int32} {F : Nat} {cs : CS} {x0 : Nat} {r9 : Int32} (h : c_X2_allNamedApart F cs x0 = some r9) : c_X2_allNamedApart F (sgX n9 a9 cs) x0 = some r9 := by
  unfold c_X2_allNamedApart at h
  unfold c_X2_allNamedApart
  exact sv_c_X2_allNamedApart_L2 _ _ _ _ h
theorem sv_c_X2_has_b23 {n9 : Int32} {a9 : Nat → Int32} {F : Nat} {cs : CS} {y0 : Int32} {r9 : Int32} (h : c_X2_has_b23 F cs y0 = some r9) : c_X2_has_b23 F (sgX n9 a9 cs) y0 = some r9 := by
  unfold c_X2_has_b23 at h
  replace h := ob h
  obtain ⟨w1, g2, h⟩ := h
  unfold c_X2_has_b23
  refine (bd_s (g2)).trans ?_
  exact h
theorem sv_c_X2_has_b22 {n9 : Int32} {a9 : Nat → Int32} {F : Nat} {cs : CS} {r9 : Int32} (h : c_X2_has_b22 F cs = some r9) : c_X2_has_b22 F (sgX n9 a9 cs) = some r9 := by
  unfold c_X2_has_b22 at h
  unfold c_X2_has_b22
  exact sv_c_X2_has_b23 h
theorem sv_c_X2_has {n9 : Int32} {a9 : Nat → Int32} {F : Nat} {cs : CS} {x0 : Nat} {x1 : Int32} {r9 : Int32} (h : c_X2_has F cs x0 x1 = some r9) : c_X2_has F (sgX n9 a9 cs) x0 x1 = some r9 := by
  unfold c_X2_has at h
  by_cases c1 : x1 < 0
  · replace h := (if_pos c1).symm.trans h
    unfold c_X2_has
    refine (if_pos c1).trans ?_
    exact sv_c_X2_has_b22 h
  · replace h := (if_neg c1).symm.trans h
    replace h := ob h
    obtain ⟨v_3, g2, h⟩ := h
    by_cases c3 : v_3 ≤ x1
    · replace h := (if_pos c3).symm.trans h
      unfold c_X2_has
      refine (if_neg c1).trans ?_
      refine (bd_s (sgI (by decide) g2)).trans ?_
      refine (if_pos c3).trans ?_
      exact sv_c_X2_has_b22 h
    · replace h := (if_neg c3).symm.trans h
      by_cases c4 : 8 ≤ x1
      · replace h := (if_pos c4).symm.trans h
        unfold c_X2_has
        refine (if_neg c1).trans ?_
        refine (bd_s (sgI (by decide) g2)).trans ?_
        refine (if_neg c3).trans ?_
        refine (if_pos c4).trans ?_
        exact sv_c_X2_has_b22 h
      · replace h := (if_neg c4).symm.trans h
        unfold c_X2_has
        refine (if_neg c1).trans ?_
        refine (bd_s (sgI (by decide) g2)).trans ?_
        refine (if_neg c3).trans ?_
        refine (if_neg c4).trans ?_
        exact sv_c_X2_has_b23 h
theorem sv_c_X2_isFull_b14 {n9 : Int32} {a9 : Nat → Int32} {F : Nat} {cs : CS} {y0 : Int32} {r9 : Int32} (h : c_X2_isFull_b14 F cs y0 = some r9) : c_X2_isFull_b14 F (sgX n9 a9 cs) y0 = some r9 := by
  unfold c_X2_isFull_b14 at h
  replace h := ob h
  obtain ⟨w1, g2, h⟩ := h
  unfold c_X2_isFull_b14
  refine (bd_s (g2)).trans ?_
  exact h
theorem sv_c_X2_isFull {n9 : Int32} {a9 : Nat → Int32} {F : Nat} {cs : CS} {x0 : Nat} {r9 : Int32} (h : c_X2_isFull F cs x0 = some r9) : c_X2_isFull F (sgX n9 a9 cs) x0 = some r9 := by
  unfold c_X2_isFull at h
  replace h := ob h
  obtain ⟨v_2, g1, h⟩ := h
  by_cases c2 : v_2 < 8
  · replace h := (if_pos c2).symm.trans h
    unfold c_X2_isFull
    refine (bd_s (sgI (by decide) g1)).trans ?_
    refine (if_pos c2).trans ?_
    exact sv_c_X2_isFull_b14 h
  · replace h := (if_neg c2).symm.trans h
    unfold c_X2_isFull
    refine (bd_s (sgI (by decide) g1)).trans ?_
    refine (if_neg c2).trans ?_
    exact sv_c_X2_isFull_b14 h
theorem hs_c_X2_add {n9 : Int32} {a9 : Nat → Int32} {s9 k9 t9 : Nat} {F : Nat} {cs : CS} {x0 : Nat} {x1 : Int32} {x2 : Int64} {x4 : Int32} {x5 : Int32} {cs9 : CS} (H : SGH n9 a9 s9 k9 t9 cs) (h : c_X2_add F cs x0 x1 x2 x4 x5 = some cs9) : HSG n9 a9 s9 k9 t9 cs cs9 (c_X2_add F (sgX n9 a9 cs) x0 x1 x2 x4 x5 = some (sgX n9 a9 cs9)) := by
  unfold c_X2_add at h
  replace h := ob h
  obtain ⟨w1, g2, h⟩ := h
  replace h := ob h
  obtain ⟨v_1, g3, h⟩ := h
  by_cases c4 : v_1 = 0
  · replace h := (if_pos c4).symm.trans h
    replace h := ob h
    obtain ⟨v_4, g5, h⟩ := h
    replace h := ob h
    obtain ⟨v_5, g6, h⟩ := h
    replace h := ob h
    obtain ⟨cs_6, g7, h⟩ := h
    have s8 := hs_wA (by decide) H g7
    replace h := ob h
    obtain ⟨v_7, g11, h⟩ := h
    replace h := ob h
    obtain ⟨v_8, g12, h⟩ := h
    replace h := ob h
    obtain ⟨cs_9, g13, h⟩ := h
    have s14 := hs_wB s8.1 g13
    replace h := ob h
    obtain ⟨v_10, g17, h⟩ := h
    replace h := ob h
    obtain ⟨v_11, g18, h⟩ := h
    replace h := ob h
    obtain ⟨cs_12, g19, h⟩ := h
    have s20 := hs_wA (by decide) s14.1 g19
    replace h := ob h
    obtain ⟨v_13, g23, h⟩ := h
    replace h := ob h
    obtain ⟨v_14, g24, h⟩ := h
    replace h := ob h
    obtain ⟨cs_15, g25, h⟩ := h
    have s26 := hs_wA (by decide) s20.1 g25
    replace h := ob h
    obtain ⟨v_16, g29, h⟩ := h
    replace h := ob h
    obtain ⟨cs_17, g30, h⟩ := h
    have s31 := hs_pI (by decide) s26.1 g30
    rw [← Option.some.inj h]
    refine ⟨s31.1, fun z => ?_⟩
    obtain ⟨z33, e32⟩ := s31.2 z
    obtain ⟨z28, e27⟩ := s26.2 z33
    obtain ⟨z22, e21⟩ := s20.2 z28
    obtain ⟨z16, e15⟩ := s14.2 z22
    obtain ⟨z10, e9⟩ := s8.2 z16
    refine ⟨z10, ?_⟩
    unfold c_X2_add
    refine (bd_s (sgck g2)).trans ?_
    refine (bd_s (sv_c_X2_isFull g3)).trans ?_
    refine (if_pos c4).trans ?_
    refine (bd_s (sgA g5)).trans ?_
    refine (bd_s (sgI (by decide) g6)).trans ?_
    refine (bd_s (e9)).trans ?_
    refine (bd_s (sgA g11)).trans ?_
    refine (bd_s (sgI (by decide) g12)).trans ?_
    refine (bd_s (e15)).trans ?_
    refine (bd_s (sgA g17)).trans ?_
    refine (bd_s (sgI (by decide) g18)).trans ?_
    refine (bd_s (e21)).trans ?_
    refine (bd_s (sgA g23)).trans ?_
    refine (bd_s (sgI (by decide) g24)).trans ?_
    refine (bd_s (e27)).trans ?_
    refine (bd_s (sgI (by decide) g29)).trans ?_
    refine (bd_s (e32)).trans ?_
    rfl
  · replace h := (if_neg c4).symm.trans h
    rw [← Option.some.inj h]
    refine ⟨H, fun z => ?_⟩
    refine ⟨z, ?_⟩
    unfold c_X2_add
    refine (bd_s (sgck g2)).trans ?_
    refine (bd_s (sv_c_X2_isFull g3)).trans ?_
    refine (if_neg c4).trans ?_
    rfl
theorem hs_c_X2_settleType_b24 {n9 : Int32} {a9 : Nat → Int32} {s9 k9 t9 : Nat} {F : Nat} {cs1 : CS} {cs9 : CS} (H : SGH n9 a9 s9 k9 t9 cs1) (h : c_X2_settleType_b24 F cs1 = some cs9) : HSG n9 a9 s9 k9 t9 cs1 cs9 (c_X2_settleType_b24 F (sgX n9 a9 cs1) = some (sgX n9 a9 cs9)) := by
  unfold c_X2_settleType_b24 at h
  rw [← Option.some.inj h]
  refine ⟨H, fun z => ?_⟩
  refine ⟨z, ?_⟩
  unfold c_X2_settleType_b24
  rfl
theorem hs_c_X2_settleType_b23 {n9 : Int32} {a9 : Nat → Int32} {s9 k9 t9 : Nat} {F : Nat} {cs1 : CS} {y0 : Int32} {y1 : Int32} {y2 : Nat} {wy2 : Nat} {cs9 : CS} (H : SGH n9 a9 s9 k9 t9 cs1) (h : c_X2_settleType_b23 F cs1 y0 y1 y2 wy2 = some cs9) : HSG n9 a9 s9 k9 t9 cs1 cs9 (c_X2_settleType_b23 F (sgX n9 a9 cs1) y0 y1 y2 wy2 = some (sgX n9 a9 cs9)) := by
  unfold c_X2_settleType_b23 at h
  replace h := ob h
  obtain ⟨cs_1, g1, h⟩ := h
  have s2 := hs_wA (by decide) H g1
  have s5 := hs_c_X2_settleType_b24 s2.1 h
  refine ⟨s5.1, fun z => ?_⟩
  obtain ⟨z9, e9⟩ := s5.2 z
  obtain ⟨z4, e3⟩ := s2.2 z9
  refine ⟨z4, ?_⟩
  unfold c_X2_settleType_b23
  refine (bd_s (e3)).trans ?_
  exact e9
theorem hs_c_X2_settleType {n9 : Int32} {a9 : Nat → Int32} {s9 k9 t9 : Nat} {F : Nat} {cs : CS} {x0 : Nat} {x1 : Int32} {x2 : Int32} {cs9 : CS} (H : SGH n9 a9 s9 k9 t9 cs) (h : c_X2_settleType F cs x0 x1 x2 = some cs9) : HSG n9 a9 s9 k9 t9 cs cs9 (c_X2_settleType F (sgX n9 a9 cs) x0 x1 x2 = some (sgX n9 a9 cs9)) := by
  unfold c_X2_settleType at h
  replace h := ob h
  obtain ⟨w1, g2, h⟩ := h
  replace h := ob h
  obtain ⟨v_2, g3, h⟩ := h
  by_cases c4 : v_2 = 0
  · replace h := (if_pos c4).symm.trans h
    have s5 := hs_c_X2_settleType_b24 H h
    refine ⟨s5.1, fun z => ?_⟩
    obtain ⟨z9, e9⟩ := s5.2 z
    refine ⟨z9, ?_⟩
    unfold c_X2_settleType
    refine (bd_s (sgck g2)).trans ?_
    refine (bd_s (sv_c_X2_has g3)).trans ?_
    refine (if_pos c4).trans ?_
    exact e9
  · replace h := (if_neg c4).symm.trans h
    replace h := ob h
    obtain ⟨v_5, g6, h⟩ := h
    by_cases c7 : x2 = 2
    · replace h := (if_pos c7).symm.trans h
      have s8 := hs_c_X2_settleType_b23 H h
      refine ⟨s8.1, fun z => ?_⟩
      obtain ⟨z9, e9⟩ := s8.2 z
      refine ⟨z9, ?_⟩
      unfold c_X2_settleType
      refine (bd_s (sgck g2)).trans ?_
      refine (bd_s (sv_c_X2_has g3)).trans ?_
      refine (if_neg c4).trans ?_
      refine (bd_s (sgA g6)).trans ?_
      refine (if_pos c7).trans ?_
      exact e9
    · replace h := (if_neg c7).symm.trans h
      have s9 := hs_c_X2_settleType_b23 H h
      refine ⟨s9.1, fun z => ?_⟩
      obtain ⟨z9, e9⟩ := s9.2 z
      refine ⟨z9, ?_⟩
      unfold c_X2_settleType
      refine (bd_s (sgck g2)).trans ?_
      refine (bd_s (sv_c_X2_has g3)).trans ?_
      refine (if_neg c4).trans ?_
      refine (bd_s (sgA g6)).trans ?_
      refine (if_neg c7).trans ?_
      exact e9
theorem sv_c_X5_isGrouped_b19 {n9 : Int32} {a9 : Nat → Int32} {F : Nat} {cs : CS} {y0 : Int32} {r9 : Int32} (h : c_X5_isGrouped_b19 F cs y0 = some r9) : c_X5_isGrouped_b19 F (sgX n9 a9 cs) y0 = some r9 := by
  unfold c_X5_isGrouped_b19 at h
  replace h := ob h
  obtain ⟨w1, g2, h⟩ := h
  unfold c_X5_isGrouped_b19
  refine (bd_s (g2)).trans ?_
  exact h
theorem sv_c_X5_isGrouped_b14 {n9 : Int32} {a9 : Nat → Int32} {F : Nat} {cs : CS} {r9 : Int32} (h : c_X5_isGrouped_b14 F cs = some r9) : c_X5_isGrouped_b14 F (sgX n9 a9 cs) = some r9 := by
  unfold c_X5_isGrouped_b14 at h
  unfold c_X5_isGrouped_b14
  exact sv_c_X5_isGrouped_b19 h
theorem sv_c_X5_isGrouped {n9 : Int32} {a9 : Nat → Int32} {F : Nat} {cs : CS} {x0 : Nat} {r9 : Int32} (h : c_X5_isGrouped F cs x0 = some r9) : c_X5_isGrouped F (sgX n9 a9 cs) x0 = some r9 := by
  unfold c_X5_isGrouped at h
  replace h := ob h
  obtain ⟨v_2, g1, h⟩ := h
  by_cases c2 : v_2 = 0
  · replace h := (if_pos c2).symm.trans h
    replace h := ob h
    obtain ⟨v_4, g3, h⟩ := h
    by_cases c4 : v_4 ≤ 0
    · replace h := (if_pos c4).symm.trans h
      unfold c_X5_isGrouped
      refine (bd_s (sgI (by decide) g1)).trans ?_
      refine (if_pos c2).trans ?_
      refine (bd_s (sgI (by decide) g3)).trans ?_
      refine (if_pos c4).trans ?_
      exact sv_c_X5_isGrouped_b19 h
    · replace h := (if_neg c4).symm.trans h
      unfold c_X5_isGrouped
      refine (bd_s (sgI (by decide) g1)).trans ?_
      refine (if_pos c2).trans ?_
      refine (bd_s (sgI (by decide) g3)).trans ?_
      refine (if_neg c4).trans ?_
      exact sv_c_X5_isGrouped_b14 h
  · replace h := (if_neg c2).symm.trans h
    unfold c_X5_isGrouped
    refine (bd_s (sgI (by decide) g1)).trans ?_
    refine (if_neg c2).trans ?_
    exact sv_c_X5_isGrouped_b14 h
theorem sv_c_X2_sameTypes_b52 {n9 : Int32} {a9 : Nat → Int32} {F : Nat} {cs : CS} {r9 : Int32} (h : c_X2_sameTypes_b52 F cs = some r9) : c_X2_sameTypes_b52 F (sgX n9 a9 cs) = some r9 := by
  unfold c_X2_sameTypes_b52 at h
  unfold c_X2_sameTypes_b52
  exact h
theorem sv_c_X2_sameTypes_L15 {n9 : Int32} {a9 : Nat → Int32} {F : Nat} {cs : CS} : ∀ (lf : Nat) (u0 : Nat) (u1 : Nat) (u2 : Int32) (r9 : Int32), c_X2_sameTypes_L15 F cs lf u0 u1 u2 = some r9 → c_X2_sameTypes_L15 F (sgX n9 a9 cs) lf u0 u1 u2 = some r9 := by
  intro lf
  induction lf with
  | zero => intro u0 u1 u2 r9 h; cases (show (none : Option Int32) = _ from h)
  | succ lf ih =>
    intro u0 u1 u2 r9 h
    rw [c_X2_sameTypes_L15] at h
    replace h := ob h
    obtain ⟨v_1, g1, h⟩ := h
    by_cases c2 : v_1 ≤ u2
    · replace h := (if_pos c2).symm.trans h
      rw [c_X2_sameTypes_L15]
      refine (bd_s (sgI (by decide) g1)).trans ?_
      refine (if_pos c2).trans ?_
      exact sv_c_X2_sameTypes_b52 h
    · replace h := (if_neg c2).symm.trans h
      by_cases c3 : 8 ≤ u2
      · replace h := (if_pos c3).symm.trans h
        rw [c_X2_sameTypes_L15]
        refine (bd_s (sgI (by decide) g1)).trans ?_
        refine (if_neg c2).trans ?_
        refine (if_pos c3).trans ?_
        exact sv_c_X2_sameTypes_b52 h
      · replace h := (if_neg c3).symm.trans h
        replace h := ob h
        obtain ⟨v_4, g4, h⟩ := h
        replace h := ob h
        obtain ⟨v_5, g5, h⟩ := h
        replace h := ob h
        obtain ⟨v_6, g6, h⟩ := h
        replace h := ob h
        obtain ⟨v_7, g7, h⟩ := h
        by_cases c8 : v_5 = v_7
        · replace h := (if_pos c8).symm.trans h
          rw [c_X2_sameTypes_L15]
          refine (bd_s (sgI (by decide) g1)).trans ?_
          refine (if_neg c2).trans ?_
          refine (if_neg c3).trans ?_
          refine (bd_s (sgA g4)).trans ?_
          refine (bd_s (sgrA (by decide) g5)).trans ?_
          refine (bd_s (sgA g6)).trans ?_
          refine (bd_s (sgrA (by decide) g7)).trans ?_
          refine (if_pos c8).trans ?_
          exact ih _ _ _ _ h
        · replace h := (if_neg c8).symm.trans h
          rw [c_X2_sameTypes_L15]
          refine (bd_s (sgI (by decide) g1)).trans ?_
          refine (if_neg c2).trans ?_
          refine (if_neg c3).trans ?_
          refine (bd_s (sgA g4)).trans ?_
          refine (bd_s (sgrA (by decide) g5)).trans ?_
          refine (bd_s (sgA g6)).trans ?_
          refine (bd_s (sgrA (by decide) g7)).trans ?_
          refine (if_neg c8).trans ?_
          exact h
theorem sv_c_X2_sameTypes {n9 : Int32} {a9 : Nat → Int32} {F : Nat} {cs : CS} {x0 : Nat} {x1 : Nat} {r9 : Int32} (h : c_X2_sameTypes F cs x0 x1 = some r9) : c_X2_sameTypes F (sgX n9 a9 cs) x0 x1 = some r9 := by
  unfold c_X2_sameTypes at h
  replace h := ob h
  obtain ⟨v_9, g1, h⟩ := h
  replace h := ob h
  obtain ⟨v_10, g2, h⟩ := h
  by_cases c3 : v_9 = v_10
  · replace h := (if_pos c3).symm.trans h
    unfold c_X2_sameTypes
    refine (bd_s (sgI (by decide) g1)).trans ?_
    refine (bd_s (sgI (by decide) g2)).trans ?_
    refine (if_pos c3).trans ?_
    exact sv_c_X2_sameTypes_L15 _ _ _ _ _ h
  · replace h := (if_neg c3).symm.trans h
    unfold c_X2_sameTypes
    refine (bd_s (sgI (by decide) g1)).trans ?_
    refine (bd_s (sgI (by decide) g2)).trans ?_
    refine (if_neg c3).trans ?_
    exact h
theorem sv_c_X1_has_b26 {n9 : Int32} {a9 : Nat → Int32} {F : Nat} {cs : CS} {y0 : Int32} {r9 : Int32} (h : c_X1_has_b26 F cs y0 = some r9) : c_X1_has_b26 F (sgX n9 a9 cs) y0 = some r9 := by
  unfold c_X1_has_b26 at h
  replace h := ob h
  obtain ⟨w1, g2, h⟩ := h
  unfold c_X1_has_b26
  refine (bd_s (g2)).trans ?_
  exact h
theorem sv_c_X1_has_b25 {n9 : Int32} {a9 : Nat → Int32} {F : Nat} {cs : CS} {r9 : Int32} (h : c_X1_has_b25 F cs = some r9) : c_X1_has_b25 F (sgX n9 a9 cs) = some r9 := by
  unfold c_X1_has_b25 at h
  unfold c_X1_has_b25
  exact sv_c_X1_has_b26 h
theorem sv_c_X1_has {n9 : Int32} {a9 : Nat → Int32} {F : Nat} {cs : CS} {x0 : Nat} {x1 : Int32} {r9 : Int32} (h : c_X1_has F cs x0 x1 = some r9) : c_X1_has F (sgX n9 a9 cs) x0 x1 = some r9 := by
  unfold c_X1_has at h
  by_cases c1 : x1 < 0
  · replace h := (if_pos c1).symm.trans h
    unfold c_X1_has
    refine (if_pos c1).trans ?_
    exact sv_c_X1_has_b25 h
  · replace h := (if_neg c1).symm.trans h
    replace h := ob h
    obtain ⟨v_3, g2, h⟩ := h
    by_cases c3 : v_3 ≤ x1
    · replace h := (if_pos c3).symm.trans h
      unfold c_X1_has
      refine (if_neg c1).trans ?_
      refine (bd_s (sgI (by decide) g2)).trans ?_
      refine (if_pos c3).trans ?_
      exact sv_c_X1_has_b25 h
    · replace h := (if_neg c3).symm.trans h
      replace h := ob h
      obtain ⟨v_5, g4, h⟩ := h
      replace h := ob h
      obtain ⟨v_6, g5, h⟩ := h
      by_cases c6 : v_6 ≤ x1
      · replace h := (if_pos c6).symm.trans h
        unfold c_X1_has
        refine (if_neg c1).trans ?_
        refine (bd_s (sgI (by decide) g2)).trans ?_
        refine (if_neg c3).trans ?_
        refine (bd_s (sgA g4)).trans ?_
        refine (bd_s (sgLn g5)).trans ?_
        refine (if_pos c6).trans ?_
        exact sv_c_X1_has_b25 h
      · replace h := (if_neg c6).symm.trans h
        unfold c_X1_has
        refine (if_neg c1).trans ?_
        refine (bd_s (sgI (by decide) g2)).trans ?_
        refine (if_neg c3).trans ?_
        refine (bd_s (sgA g4)).trans ?_
        refine (bd_s (sgLn g5)).trans ?_
        refine (if_neg c6).trans ?_
        exact sv_c_X1_has_b26 h
theorem sv_c_X0_isFaulty_b15 {n9 : Int32} {a9 : Nat → Int32} {F : Nat} {cs : CS} {y0 : Int32} {r9 : Int32} (h : c_X0_isFaulty_b15 F cs y0 = some r9) : c_X0_isFaulty_b15 F (sgX n9 a9 cs) y0 = some r9 := by
  unfold c_X0_isFaulty_b15 at h
  replace h := ob h
  obtain ⟨w1, g2, h⟩ := h
  unfold c_X0_isFaulty_b15
  refine (bd_s (g2)).trans ?_
  exact h
theorem sv_c_X0_isFaulty {n9 : Int32} {a9 : Nat → Int32} {F : Nat} {cs : CS} {k9 : Nat} {r9 : Int32} (h : c_X0_isFaulty F cs k9 = some r9) : c_X0_isFaulty F (sgX n9 a9 cs) k9 = some r9 := by
  unfold c_X0_isFaulty at h
  replace h := ob h
  obtain ⟨v_2, g1, h⟩ := h
  replace h := ob h
  obtain ⟨i_3, g2, h⟩ := h
  replace h := ob h
  obtain ⟨v_4, g3, h⟩ := h
  by_cases c4 : v_4 = 0
  · replace h := (if_pos c4).symm.trans h
    unfold c_X0_isFaulty
    refine (bd_s (sgR g1)).trans ?_
    refine (bd_s (g2)).trans ?_
    refine (bd_s (sgI (by decide) g3)).trans ?_
    refine (if_pos c4).trans ?_
    exact sv_c_X0_isFaulty_b15 h
  · replace h := (if_neg c4).symm.trans h
    unfold c_X0_isFaulty
    refine (bd_s (sgR g1)).trans ?_
    refine (bd_s (g2)).trans ?_
    refine (bd_s (sgI (by decide) g3)).trans ?_
    refine (if_neg c4).trans ?_
    exact sv_c_X0_isFaulty_b15 h

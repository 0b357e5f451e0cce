/-! no method writes beyond what was made -/
theorem nb_c_X9_refuse_b17 (F : Nat) (cs1 : CS) (cs9 : CS) (h : c_X9_refuse_b17 F cs1 = some cs9) : NB cs1 cs9 := by
  unfold c_X9_refuse_b17 at h
  have hq : NB cs1 cs1 := NB.refl
  have h9 := Option.some.inj h
  exact hq.to h9
theorem nb_c_X9_refuse (F : Nat) (cs : CS) (x0 : Nat) (x1 : Int32) (x2 : Int32) (cs9 : CS) (h : c_X9_refuse F cs x0 x1 x2 = some cs9) : NB cs cs9 := by
  unfold c_X9_refuse at h
  have hq : NB cs cs := NB.refl
  replace h := ob h; obtain ⟨v_1, hv_1, h⟩ := h
  by_cases c_2 : v_1 = 0
  · skip
    replace h := (if_pos c_2).symm.trans h
    replace h := ob h; obtain ⟨cs_3, hv_3, h⟩ := h
    replace hq := hq.trans (NB.pI hv_3)
    replace h := ob h; obtain ⟨cs_4, hv_4, h⟩ := h
    replace hq := hq.trans (NB.pI hv_4)
    have k9 := nb_c_X9_refuse_b17 F cs_4 cs9 h
    exact hq.trans k9
  · skip
    replace h := (if_neg c_2).symm.trans h
    have k9 := nb_c_X9_refuse_b17 F cs cs9 h
    exact hq.trans k9
theorem nb_c_X2_add (F : Nat) (cs : CS) (x0 : Nat) (x1 : Int32) (x2 : Int64) (x4 : Int32) (x5 : Int32) (cs9 : CS) (h : c_X2_add F cs x0 x1 x2 x4 x5 = some cs9) : NB cs cs9 := by
  unfold c_X2_add at h
  have hq : NB cs cs := NB.refl
  replace h := ob h; obtain ⟨w_2, hw_2, h⟩ := h
  replace h := ob h; obtain ⟨v_1, hv_1, h⟩ := h
  by_cases c_3 : v_1 = 0
  · skip
    replace h := (if_pos c_3).symm.trans h
    replace h := ob h; obtain ⟨v_4, hv_4, h⟩ := h
    replace h := ob h; obtain ⟨v_5, hv_5, h⟩ := h
    replace h := ob h; obtain ⟨cs_6, hv_6, h⟩ := h
    replace hq := hq.trans (NB.wA hv_6)
    replace h := ob h; obtain ⟨v_7, hv_7, h⟩ := h
    replace h := ob h; obtain ⟨v_8, hv_8, h⟩ := h
    replace h := ob h; obtain ⟨cs_9, hv_9, h⟩ := h
    replace hq := hq.trans (NB.wB hv_9)
    replace h := ob h; obtain ⟨v_10, hv_10, h⟩ := h
    replace h := ob h; obtain ⟨v_11, hv_11, h⟩ := h
    replace h := ob h; obtain ⟨cs_12, hv_12, h⟩ := h
    replace hq := hq.trans (NB.wA hv_12)
    replace h := ob h; obtain ⟨v_13, hv_13, h⟩ := h
    replace h := ob h; obtain ⟨v_14, hv_14, h⟩ := h
    replace h := ob h; obtain ⟨cs_15, hv_15, h⟩ := h
    replace hq := hq.trans (NB.wA hv_15)
    replace h := ob h; obtain ⟨v_16, hv_16, h⟩ := h
    replace h := ob h; obtain ⟨cs_17, hv_17, h⟩ := h
    replace hq := hq.trans (NB.pI hv_17)
    have h9 := Option.some.inj h
    exact hq.to h9
  · skip
    replace h := (if_neg c_3).symm.trans h
    have h9 := Option.some.inj h
    exact hq.to h9
theorem nb_c_X1_add_b68 (F : Nat) (cs1 : CS) (u0 : Nat) (u4 : Int32) (u5 : Int32) (y0 : Int32) (y1 : Int32) (y2 : Nat) (wy2 : Nat) (cs9 : CS) (r9 : Int32) (h : c_X1_add_b68 F cs1 u0 u4 u5 y0 y1 y2 wy2 = some (cs9, r9)) : NB cs1 cs9 := by
  unfold c_X1_add_b68 at h
  have hq : NB cs1 cs1 := NB.refl
  replace h := ob h; obtain ⟨cs_1, hv_1, h⟩ := h
  replace hq := hq.trans (NB.wA hv_1)
  replace h := ob h; obtain ⟨v_2, hv_2, h⟩ := h
  replace h := ob h; obtain ⟨cs_3, hv_3, h⟩ := h
  replace hq := hq.trans (NB.wA hv_3)
  replace h := ob h; obtain ⟨v_4, hv_4, h⟩ := h
  replace h := ob h; obtain ⟨cs_5, hv_5, h⟩ := h
  replace hq := hq.trans (NB.wB hv_5)
  replace h := ob h; obtain ⟨v_6, hv_6, h⟩ := h
  replace h := ob h; obtain ⟨cs_7, hv_7, h⟩ := h
  replace hq := hq.trans (NB.wA hv_7)
  have h9 := (Prod.mk.inj (Option.some.inj h)).1
  exact hq.to h9
theorem nb_c_X1_add_b66 (F : Nat) (cs1 : CS) (u0 : Nat) (u4 : Int32) (u5 : Int32) (y0 : Int32) (y1 : Nat) (wy1 : Nat) (cs9 : CS) (r9 : Int32) (h : c_X1_add_b66 F cs1 u0 u4 u5 y0 y1 wy1 = some (cs9, r9)) : NB cs1 cs9 := by
  unfold c_X1_add_b66 at h
  have hq : NB cs1 cs1 := NB.refl
  have k9 := nb_c_X1_add_b68 F cs1 u0 u4 u5 u5 y0 y1 wy1 cs9 r9 h
  exact hq.trans k9
theorem nb_c_X1_add (F : Nat) (cs : CS) (x0 : Nat) (x1 : Int32) (x2 : Int32) (x3 : Int32) (x4 : Int32) (cs9 : CS) (r9 : Int32) (h : c_X1_add F cs x0 x1 x2 x3 x4 = some (cs9, r9)) : NB cs cs9 := by
  unfold c_X1_add at h
  have hq : NB cs cs := NB.refl
  replace h := ob h; obtain ⟨v_1, hv_1, h⟩ := h
  replace h := ob h; obtain ⟨v_2, hv_2, h⟩ := h
  replace h := ob h; obtain ⟨v_3, hv_3, h⟩ := h
  by_cases c_4 : v_1 < v_3
  · skip
    replace h := (if_pos c_4).symm.trans h
    replace h := ob h; obtain ⟨v_5, hv_5, h⟩ := h
    replace h := ob h; obtain ⟨v_6, hv_6, h⟩ := h
    replace h := ob h; obtain ⟨cs_7, hv_7, h⟩ := h
    replace hq := hq.trans (NB.pI hv_7)
    replace h := ob h; obtain ⟨v_8, hv_8, h⟩ := h
    replace h := ob h; obtain ⟨cs_9, hv_9, h⟩ := h
    replace hq := hq.trans (NB.wA hv_9)
    replace h := ob h; obtain ⟨v_10, hv_10, h⟩ := h
    replace h := ob h; obtain ⟨cs_11, hv_11, h⟩ := h
    replace hq := hq.trans (NB.wA hv_11)
    replace h := ob h; obtain ⟨v_12, hv_12, h⟩ := h
    by_cases c_13 : x2 < 0
    · skip
      replace h := (if_pos c_13).symm.trans h
      have k9 := nb_c_X1_add_b66 F cs_11 x0 x4 v_5 v_5 x0 v_12 cs9 r9 h
      exact hq.trans k9
    · skip
      replace h := (if_neg c_13).symm.trans h
      by_cases c_14 : v_5 < x2
      · skip
        replace h := (if_pos c_14).symm.trans h
        have k9 := nb_c_X1_add_b66 F cs_11 x0 x4 v_5 v_5 x0 v_12 cs9 r9 h
        exact hq.trans k9
      · skip
        replace h := (if_neg c_14).symm.trans h
        have k9 := nb_c_X1_add_b68 F cs_11 x0 x4 v_5 x2 v_5 x0 v_12 cs9 r9 h
        exact hq.trans k9
  · skip
    replace h := (if_neg c_4).symm.trans h
    have h9 := (Prod.mk.inj (Option.some.inj h)).1
    exact hq.to h9
theorem nb_c_X1_push_b63 (F : Nat) (cs1 : CS) (cs9 : CS) (h : c_X1_push_b63 F cs1 = some cs9) : NB cs1 cs9 := by
  unfold c_X1_push_b63 at h
  have hq : NB cs1 cs1 := NB.refl
  have h9 := Option.some.inj h
  exact hq.to h9
theorem nb_c_X1_push_b41 (F : Nat) (cs1 : CS) (u0 : Nat) (u3 : Int32) (y0 : Int64) (y1 : Int32) (y2 : Nat) (wy2 : Nat) (cs9 : CS) (h : c_X1_push_b41 F cs1 u0 u3 y0 y1 y2 wy2 = some cs9) : NB cs1 cs9 := by
  unfold c_X1_push_b41 at h
  have hq : NB cs1 cs1 := NB.refl
  replace h := ob h; obtain ⟨cs_1, hv_1, h⟩ := h
  replace hq := hq.trans (NB.wB hv_1)
  replace h := ob h; obtain ⟨v_2, hv_2, h⟩ := h
  replace h := ob h; obtain ⟨v_3, hv_3, h⟩ := h
  replace h := ob h; obtain ⟨cs_4, hv_4, h⟩ := h
  replace hq := hq.trans (NB.wA hv_4)
  replace h := ob h; obtain ⟨v_5, hv_5, h⟩ := h
  replace h := ob h; obtain ⟨cs_6, hv_6, h⟩ := h
  replace hq := hq.trans (NB.pI hv_6)
  have k9 := nb_c_X1_push_b63 F cs_6 cs9 h
  exact hq.trans k9
theorem nb_c_X1_push (F : Nat) (cs : CS) (x0 : Nat) (x1 : Int64) (x3 : Int32) (cs9 : CS) (h : c_X1_push F cs x0 x1 x3 = some cs9) : NB cs cs9 := by
  unfold c_X1_push at h
  have hq : NB cs cs := NB.refl
  replace h := ob h; obtain ⟨v_1, hv_1, h⟩ := h
  replace h := ob h; obtain ⟨v_2, hv_2, h⟩ := h
  replace h := ob h; obtain ⟨v_3, hv_3, h⟩ := h
  by_cases c_4 : v_3 ≤ v_1
  · skip
    replace h := (if_pos c_4).symm.trans h
    have k9 := nb_c_X1_push_b63 F cs cs9 h
    exact hq.trans k9
  · skip
    replace h := (if_neg c_4).symm.trans h
    replace h := ob h; obtain ⟨v_5, hv_5, h⟩ := h
    replace h := ob h; obtain ⟨v_6, hv_6, h⟩ := h
    replace h := ob h; obtain ⟨v_7, hv_7, h⟩ := h
    by_cases c_8 : v_7 ≤ v_5
    · skip
      replace h := (if_pos c_8).symm.trans h
      have k9 := nb_c_X1_push_b63 F cs cs9 h
      exact hq.trans k9
    · skip
      replace h := (if_neg c_8).symm.trans h
      replace h := ob h; obtain ⟨v_9, hv_9, h⟩ := h
      replace h := ob h; obtain ⟨v_10, hv_10, h⟩ := h
      by_cases c_11 : x3 = 0
      · skip
        replace h := (if_pos c_11).symm.trans h
        have k9 := nb_c_X1_push_b41 F cs x0 x3 x1 v_10 x0 v_9 cs9 h
        exact hq.trans k9
      · skip
        replace h := (if_neg c_11).symm.trans h
        have k9 := nb_c_X1_push_b41 F cs x0 x3 0 v_10 x0 v_9 cs9 h
        exact hq.trans k9
theorem nb_c_X1_one_b120 (F : Nat) (cs1 : CS) (cs9 : CS) (h : c_X1_one_b120 F cs1 = some cs9) : NB cs1 cs9 := by
  unfold c_X1_one_b120 at h
  have hq : NB cs1 cs1 := NB.refl
  have h9 := Option.some.inj h
  exact hq.to h9
theorem nb_c_X1_one (F : Nat) (cs : CS) (x0 : Nat) (x1 : Int32) (cs9 : CS) (h : c_X1_one F cs x0 x1 = some cs9) : NB cs cs9 := by
  unfold c_X1_one at h
  have hq : NB cs cs := NB.refl
  replace h := ob h; obtain ⟨v_1, hv_1, h⟩ := h
  by_cases c_2 : 1 ≤ v_1
  · skip
    replace h := (if_pos c_2).symm.trans h
    replace h := ob h; obtain ⟨v_3, hv_3, h⟩ := h
    replace h := ob h; obtain ⟨cs_4, hv_4, h⟩ := h
    replace hq := hq.trans (NB.pI hv_4)
    replace h := ob h; obtain ⟨v_5, hv_5, h⟩ := h
    replace h := ob h; obtain ⟨v_6, hv_6, h⟩ := h
    replace h := ob h; obtain ⟨v_7, hv_7, h⟩ := h
    replace h := ob h; obtain ⟨v_8, hv_8, h⟩ := h
    replace h := ob h; obtain ⟨v_9, hv_9, h⟩ := h
    replace h := ob h; obtain ⟨v_10, hv_10, h⟩ := h
    by_cases c_11 : x1 = 24
    · skip
      replace h := (if_pos c_11).symm.trans h
      replace h := ob h; obtain ⟨w_13, hw_13, h⟩ := h
      replace h := ob h; obtain ⟨cs_12, hv_12, h⟩ := h
      replace hq := hq.trans (nb_c_X1_push F cs_4 x0 ((v_10 : Int32).toInt64) 0 cs_12 hv_12)
      have k9 := nb_c_X1_one_b120 F cs_12 cs9 h
      exact hq.trans k9
    replace h := (if_neg c_11).symm.trans h
    by_cases c_14 : x1 = 25
    · skip
      replace h := (if_pos c_14).symm.trans h
      replace h := ob h; obtain ⟨w_16, hw_16, h⟩ := h
      replace h := ob h; obtain ⟨cs_15, hv_15, h⟩ := h
      replace hq := hq.trans (nb_c_X1_push F cs_4 x0 (1 - v_7) v_10 cs_15 hv_15)
      have k9 := nb_c_X1_one_b120 F cs_15 cs9 h
      exact hq.trans k9
    replace h := (if_neg c_14).symm.trans h
    by_cases c_17 : x1 = 58
    · skip
      replace h := (if_pos c_17).symm.trans h
      replace h := ob h; obtain ⟨w_19, hw_19, h⟩ := h
      replace h := ob h; obtain ⟨cs_18, hv_18, h⟩ := h
      replace hq := hq.trans (nb_c_X1_push F cs_4 x0 (-v_7) v_10 cs_18 hv_18)
      have k9 := nb_c_X1_one_b120 F cs_18 cs9 h
      exact hq.trans k9
    replace h := (if_neg c_17).symm.trans h
    replace h := ob h; obtain ⟨w_21, hw_21, h⟩ := h
    replace h := ob h; obtain ⟨cs_20, hv_20, h⟩ := h
    replace hq := hq.trans (nb_c_X1_push F cs_4 x0 ((1 - v_10 : Int32).toInt64) 0 cs_20 hv_20)
    have k9 := nb_c_X1_one_b120 F cs_20 cs9 h
    exact hq.trans k9
  · skip
    replace h := (if_neg c_2).symm.trans h
    have h9 := Option.some.inj h
    exact hq.to h9
theorem nb_c_X1_choose_b60 (F : Nat) (cs1 : CS) (u0 : Nat) (y0 : Int32) (cs9 : CS) (h : c_X1_choose_b60 F cs1 u0 y0 = some cs9) : NB cs1 cs9 := by
  unfold c_X1_choose_b60 at h
  have hq : NB cs1 cs1 := NB.refl
  replace h := ob h; obtain ⟨v_1, hv_1, h⟩ := h
  replace h := ob h; obtain ⟨v_2, hv_2, h⟩ := h
  replace h := ob h; obtain ⟨v_3, hv_3, h⟩ := h
  replace h := ob h; obtain ⟨v_4, hv_4, h⟩ := h
  replace h := ob h; obtain ⟨w_6, hw_6, h⟩ := h
  replace h := ob h; obtain ⟨cs_5, hv_5, h⟩ := h
  replace hq := hq.trans (nb_c_X1_push F cs1 u0 v_2 v_4 cs_5 hv_5)
  have h9 := Option.some.inj h
  exact hq.to h9
theorem nb_c_X1_choose_b54 (F : Nat) (cs1 : CS) (u0 : Nat) (cs9 : CS) (h : c_X1_choose_b54 F cs1 u0 = some cs9) : NB cs1 cs9 := by
  unfold c_X1_choose_b54 at h
  have hq : NB cs1 cs1 := NB.refl
  replace h := ob h; obtain ⟨v_1, hv_1, h⟩ := h
  have k9 := nb_c_X1_choose_b60 F cs1 u0 (v_1 + 2) cs9 h
  exact hq.trans k9
theorem nb_c_X1_choose (F : Nat) (cs : CS) (x0 : Nat) (cs9 : CS) (h : c_X1_choose F cs x0 = some cs9) : NB cs cs9 := by
  unfold c_X1_choose at h
  have hq : NB cs cs := NB.refl
  replace h := ob h; obtain ⟨v_1, hv_1, h⟩ := h
  by_cases c_2 : 3 ≤ v_1
  · skip
    replace h := (if_pos c_2).symm.trans h
    replace h := ob h; obtain ⟨v_3, hv_3, h⟩ := h
    replace h := ob h; obtain ⟨cs_4, hv_4, h⟩ := h
    replace hq := hq.trans (NB.pI hv_4)
    replace h := ob h; obtain ⟨v_5, hv_5, h⟩ := h
    replace h := ob h; obtain ⟨v_6, hv_6, h⟩ := h
    replace h := ob h; obtain ⟨v_7, hv_7, h⟩ := h
    by_cases c_8 : v_7 = 0
    · skip
      replace h := (if_pos c_8).symm.trans h
      replace h := ob h; obtain ⟨v_9, hv_9, h⟩ := h
      replace h := ob h; obtain ⟨v_10, hv_10, h⟩ := h
      replace h := ob h; obtain ⟨v_11, hv_11, h⟩ := h
      by_cases c_12 : v_11 = 0
      · skip
        replace h := (if_pos c_12).symm.trans h
        have k9 := nb_c_X1_choose_b54 F cs_4 x0 cs9 h
        exact hq.trans k9
      · skip
        replace h := (if_neg c_12).symm.trans h
        replace h := ob h; obtain ⟨v_13, hv_13, h⟩ := h
        have k9 := nb_c_X1_choose_b60 F cs_4 x0 (v_13 + 1) cs9 h
        exact hq.trans k9
    · skip
      replace h := (if_neg c_8).symm.trans h
      have k9 := nb_c_X1_choose_b54 F cs_4 x0 cs9 h
      exact hq.trans k9
  · skip
    replace h := (if_neg c_2).symm.trans h
    have h9 := Option.some.inj h
    exact hq.to h9
theorem nb_c_X1_search_b14 (F : Nat) (cs1 : CS) (cs9 : CS) (h : c_X1_search_b14 F cs1 = some cs9) : NB cs1 cs9 := by
  unfold c_X1_search_b14 at h
  have hq : NB cs1 cs1 := NB.refl
  have h9 := Option.some.inj h
  exact hq.to h9
theorem nb_c_X1_search_b176 (F : Nat) (cs1 : CS) (y0 : Int32) (y1 : Int64) (y2 : Nat) (cs9 : CS) (h : c_X1_search_b176 F cs1 y0 y1 y2 = some cs9) : NB cs1 cs9 := by
  unfold c_X1_search_b176 at h
  have hq : NB cs1 cs1 := NB.refl
  replace h := ob h; obtain ⟨w_2, hw_2, h⟩ := h
  replace h := ob h; obtain ⟨cs_1, hv_1, h⟩ := h
  replace hq := hq.trans (nb_c_X1_push F cs1 y2 y1 y0 cs_1 hv_1)
  have h9 := Option.some.inj h
  exact hq.to h9
theorem nb_c_X1_search_b175 (F : Nat) (cs1 : CS) (y0 : Int64) (y1 : Nat) (cs9 : CS) (h : c_X1_search_b175 F cs1 y0 y1 = some cs9) : NB cs1 cs9 := by
  unfold c_X1_search_b175 at h
  have hq : NB cs1 cs1 := NB.refl
  have k9 := nb_c_X1_search_b176 F cs1 0 y0 y1 cs9 h
  exact hq.trans k9
theorem nb_c_X1_search_b162 (F : Nat) (cs1 : CS) (u3 : Int32) (u4 : Int32) (y0 : Int64) (y1 : Nat) (cs9 : CS) (h : c_X1_search_b162 F cs1 u3 u4 y0 y1 = some cs9) : NB cs1 cs9 := by
  unfold c_X1_search_b162 at h
  have hq : NB cs1 cs1 := NB.refl
  by_cases c_1 : u4 = 0
  · skip
    replace h := (if_pos c_1).symm.trans h
    by_cases c_2 : u3 = 0
    · skip
      replace h := (if_pos c_2).symm.trans h
      have k9 := nb_c_X1_search_b175 F cs1 y0 y1 cs9 h
      exact hq.trans k9
    · skip
      replace h := (if_neg c_2).symm.trans h
      have k9 := nb_c_X1_search_b176 F cs1 1 y0 y1 cs9 h
      exact hq.trans k9
  · skip
    replace h := (if_neg c_1).symm.trans h
    have k9 := nb_c_X1_search_b175 F cs1 y0 y1 cs9 h
    exact hq.trans k9
theorem nb_c_X1_search_b139 (F : Nat) (rc56 : CS → Nat → Int32 → Int32 → Int32 → Int32 → Int32 → Option CS) (hrc56 : ∀ (cs1 : CS) (u0 : Nat) (u1 : Int32) (u2 : Int32) (u3 : Int32) (u4 : Int32) (u5 : Int32) (cs9 : CS), rc56 cs1 u0 u1 u2 u3 u4 u5 = some cs9 → NB cs1 cs9) (cs1 : CS) (u0 : Nat) (u1 : Int32) (u2 : Int32) (u3 : Int32) (u5 : Int32) (y0 : Int32) (cs9 : CS) (h : c_X1_search_b139 F rc56 cs1 u0 u1 u2 u3 u5 y0 = some cs9) : NB cs1 cs9 := by
  unfold c_X1_search_b139 at h
  have hq : NB cs1 cs1 := NB.refl
  have k9 := hrc56 cs1 u0 u1 u2 u3 y0 (u5 + 1) cs9 h
  exact hq.trans k9
theorem nb_c_X1_search_b134 (F : Nat) (rc56 : CS → Nat → Int32 → Int32 → Int32 → Int32 → Int32 → Option CS) (hrc56 : ∀ (cs1 : CS) (u0 : Nat) (u1 : Int32) (u2 : Int32) (u3 : Int32) (u4 : Int32) (u5 : Int32) (cs9 : CS), rc56 cs1 u0 u1 u2 u3 u4 u5 = some cs9 → NB cs1 cs9) (cs1 : CS) (u0 : Nat) (u1 : Int32) (u2 : Int32) (u3 : Int32) (u5 : Int32) (cs9 : CS) (h : c_X1_search_b134 F rc56 cs1 u0 u1 u2 u3 u5 = some cs9) : NB cs1 cs9 := by
  unfold c_X1_search_b134 at h
  have hq : NB cs1 cs1 := NB.refl
  have k9 := nb_c_X1_search_b139 F rc56 hrc56 cs1 u0 u1 u2 u3 u5 1 cs9 h
  exact hq.trans k9
theorem nb_c_X1_search_b138 (F : Nat) (rc56 : CS → Nat → Int32 → Int32 → Int32 → Int32 → Int32 → Option CS) (hrc56 : ∀ (cs1 : CS) (u0 : Nat) (u1 : Int32) (u2 : Int32) (u3 : Int32) (u4 : Int32) (u5 : Int32) (cs9 : CS), rc56 cs1 u0 u1 u2 u3 u4 u5 = some cs9 → NB cs1 cs9) (cs1 : CS) (u0 : Nat) (u1 : Int32) (u2 : Int32) (u3 : Int32) (u5 : Int32) (cs9 : CS) (h : c_X1_search_b138 F rc56 cs1 u0 u1 u2 u3 u5 = some cs9) : NB cs1 cs9 := by
  unfold c_X1_search_b138 at h
  have hq : NB cs1 cs1 := NB.refl
  have k9 := nb_c_X1_search_b139 F rc56 hrc56 cs1 u0 u1 u2 u3 u5 0 cs9 h
  exact hq.trans k9
theorem nb_c_X1_search_b86 (F : Nat) (rc56 : CS → Nat → Int32 → Int32 → Int32 → Int32 → Int32 → Option CS) (hrc56 : ∀ (cs1 : CS) (u0 : Nat) (u1 : Int32) (u2 : Int32) (u3 : Int32) (u4 : Int32) (u5 : Int32) (cs9 : CS), rc56 cs1 u0 u1 u2 u3 u4 u5 = some cs9 → NB cs1 cs9) (cs1 : CS) (u0 : Nat) (u1 : Int32) (u2 : Int32) (u4 : Int32) (u5 : Int32) (y0 : Int32) (cs9 : CS) (h : c_X1_search_b86 F rc56 cs1 u0 u1 u2 u4 u5 y0 = some cs9) : NB cs1 cs9 := by
  unfold c_X1_search_b86 at h
  have hq : NB cs1 cs1 := NB.refl
  by_cases c_1 : u4 = 0
  · skip
    replace h := (if_pos c_1).symm.trans h
    replace h := ob h; obtain ⟨v_2, hv_2, h⟩ := h
    replace h := ob h; obtain ⟨v_3, hv_3, h⟩ := h
    replace h := ob h; obtain ⟨v_4, hv_4, h⟩ := h
    by_cases c_5 : v_4 = 0
    · skip
      replace h := (if_pos c_5).symm.trans h
      replace h := ob h; obtain ⟨v_6, hv_6, h⟩ := h
      replace h := ob h; obtain ⟨v_7, hv_7, h⟩ := h
      by_cases c_8 : v_7 = 0
      · skip
        replace h := (if_pos c_8).symm.trans h
        replace h := ob h; obtain ⟨v_9, hv_9, h⟩ := h
        replace h := ob h; obtain ⟨v_10, hv_10, h⟩ := h
        replace h := ob h; obtain ⟨v_11, hv_11, h⟩ := h
        replace h := ob h; obtain ⟨v_12, hv_12, h⟩ := h
        replace h := ob h; obtain ⟨v_13, hv_13, h⟩ := h
        by_cases c_14 : v_10 = v_13
        · skip
          replace h := (if_pos c_14).symm.trans h
          have k9 := nb_c_X1_search_b134 F rc56 hrc56 cs1 u0 u1 u2 y0 u5 cs9 h
          exact hq.trans k9
        · skip
          replace h := (if_neg c_14).symm.trans h
          have k9 := nb_c_X1_search_b138 F rc56 hrc56 cs1 u0 u1 u2 y0 u5 cs9 h
          exact hq.trans k9
      · skip
        replace h := (if_neg c_8).symm.trans h
        have k9 := nb_c_X1_search_b138 F rc56 hrc56 cs1 u0 u1 u2 y0 u5 cs9 h
        exact hq.trans k9
    · skip
      replace h := (if_neg c_5).symm.trans h
      have k9 := nb_c_X1_search_b138 F rc56 hrc56 cs1 u0 u1 u2 y0 u5 cs9 h
      exact hq.trans k9
  · skip
    replace h := (if_neg c_1).symm.trans h
    have k9 := nb_c_X1_search_b134 F rc56 hrc56 cs1 u0 u1 u2 y0 u5 cs9 h
    exact hq.trans k9
theorem nb_c_X1_search_b81 (F : Nat) (rc56 : CS → Nat → Int32 → Int32 → Int32 → Int32 → Int32 → Option CS) (hrc56 : ∀ (cs1 : CS) (u0 : Nat) (u1 : Int32) (u2 : Int32) (u3 : Int32) (u4 : Int32) (u5 : Int32) (cs9 : CS), rc56 cs1 u0 u1 u2 u3 u4 u5 = some cs9 → NB cs1 cs9) (cs1 : CS) (u0 : Nat) (u1 : Int32) (u2 : Int32) (u4 : Int32) (u5 : Int32) (cs9 : CS) (h : c_X1_search_b81 F rc56 cs1 u0 u1 u2 u4 u5 = some cs9) : NB cs1 cs9 := by
  unfold c_X1_search_b81 at h
  have hq : NB cs1 cs1 := NB.refl
  have k9 := nb_c_X1_search_b86 F rc56 hrc56 cs1 u0 u1 u2 u4 u5 1 cs9 h
  exact hq.trans k9
theorem nb_c_X1_search_L56 (F : Nat) : ∀ (lf_56 : Nat) (cs1 : CS) (u0 : Nat) (u1 : Int32) (u2 : Int32) (u3 : Int32) (u4 : Int32) (u5 : Int32) (cs9 : CS), c_X1_search_L56 F lf_56 cs1 u0 u1 u2 u3 u4 u5 = some cs9 → NB cs1 cs9 := by
  intro lf_56
  induction lf_56 with
  | zero => intro cs1 u0 u1 u2 u3 u4 u5 cs9 h; cases (show (none : Option CS) = _ from h)
  | succ lf_56 ih_56 =>
    intro cs1 u0 u1 u2 u3 u4 u5 cs9 h
    rw [c_X1_search_L56] at h
    have hq : NB cs1 cs1 := NB.refl
    replace h := ob h; obtain ⟨v_1, hv_1, h⟩ := h
    by_cases c_2 : (v_1 + u1) < u5
    · skip
      replace h := (if_pos c_2).symm.trans h
      by_cases c_3 : u4 = 0
      · skip
        replace h := (if_pos c_3).symm.trans h
        have k9 := nb_c_X1_search_b162 F cs1 u3 u4 ((1 - u2 : Int32).toInt64) u0 cs9 h
        exact hq.trans k9
      · skip
        replace h := (if_neg c_3).symm.trans h
        have k9 := nb_c_X1_search_b162 F cs1 u3 u4 ((u2 : Int32).toInt64) u0 cs9 h
        exact hq.trans k9
    · skip
      replace h := (if_neg c_2).symm.trans h
      by_cases c_4 : u3 = 0
      · skip
        replace h := (if_pos c_4).symm.trans h
        replace h := ob h; obtain ⟨v_5, hv_5, h⟩ := h
        replace h := ob h; obtain ⟨v_6, hv_6, h⟩ := h
        by_cases c_7 : v_6 = 0
        · skip
          replace h := (if_pos c_7).symm.trans h
          have k9 := nb_c_X1_search_b86 F (c_X1_search_L56 F lf_56) ih_56 cs1 u0 u1 u2 u4 u5 0 cs9 h
          exact hq.trans k9
        · skip
          replace h := (if_neg c_7).symm.trans h
          have k9 := nb_c_X1_search_b81 F (c_X1_search_L56 F lf_56) ih_56 cs1 u0 u1 u2 u4 u5 cs9 h
          exact hq.trans k9
      · skip
        replace h := (if_neg c_4).symm.trans h
        have k9 := nb_c_X1_search_b81 F (c_X1_search_L56 F lf_56) ih_56 cs1 u0 u1 u2 u4 u5 cs9 h
        exact hq.trans k9
theorem nb_c_X1_search_b44 (F : Nat) (cs1 : CS) (u0 : Nat) (u1 : Int32) (u2 : Int32) (y0 : Int32) (cs9 : CS) (h : c_X1_search_b44 F cs1 u0 u1 u2 y0 = some cs9) : NB cs1 cs9 := by
  unfold c_X1_search_b44 at h
  have hq : NB cs1 cs1 := NB.refl
  replace h := ob h; obtain ⟨v_1, hv_1, h⟩ := h
  have k9 := nb_c_X1_search_L56 F F cs1 u0 u1 u2 y0 0 (v_1 + 1) cs9 h
  exact hq.trans k9
theorem nb_c_X1_search (F : Nat) (cs : CS) (x0 : Nat) (x1 : Int32) (x2 : Int32) (cs9 : CS) (h : c_X1_search F cs x0 x1 x2 = some cs9) : NB cs cs9 := by
  unfold c_X1_search at h
  have hq : NB cs cs := NB.refl
  by_cases c_1 : x1 < 0
  · skip
    replace h := (if_pos c_1).symm.trans h
    have k9 := nb_c_X1_search_b14 F cs cs9 h
    exact hq.trans k9
  · skip
    replace h := (if_neg c_1).symm.trans h
    replace h := ob h; obtain ⟨v_2, hv_2, h⟩ := h
    by_cases c_3 : (x1 + 1) ≤ v_2
    · skip
      replace h := (if_pos c_3).symm.trans h
      replace h := ob h; obtain ⟨v_4, hv_4, h⟩ := h
      replace h := ob h; obtain ⟨cs_5, hv_5, h⟩ := h
      replace hq := hq.trans (NB.pI hv_5)
      replace h := ob h; obtain ⟨v_6, hv_6, h⟩ := h
      replace h := ob h; obtain ⟨v_7, hv_7, h⟩ := h
      replace h := ob h; obtain ⟨v_8, hv_8, h⟩ := h
      by_cases c_9 : v_8 = 0
      · skip
        replace h := (if_pos c_9).symm.trans h
        have k9 := nb_c_X1_search_b44 F cs_5 x0 x1 x2 0 cs9 h
        exact hq.trans k9
      · skip
        replace h := (if_neg c_9).symm.trans h
        have k9 := nb_c_X1_search_b44 F cs_5 x0 x1 x2 1 cs9 h
        exact hq.trans k9
    · skip
      replace h := (if_neg c_3).symm.trans h
      have k9 := nb_c_X1_search_b14 F cs cs9 h
      exact hq.trans k9
theorem nb_c_X1_two_b178 (F : Nat) (cs1 : CS) (y0 : Int32) (y1 : Int64) (y2 : Nat) (cs9 : CS) (h : c_X1_two_b178 F cs1 y0 y1 y2 = some cs9) : NB cs1 cs9 := by
  unfold c_X1_two_b178 at h
  have hq : NB cs1 cs1 := NB.refl
  replace h := ob h; obtain ⟨w_2, hw_2, h⟩ := h
  replace h := ob h; obtain ⟨cs_1, hv_1, h⟩ := h
  replace hq := hq.trans (nb_c_X1_push F cs1 y2 y1 y0 cs_1 hv_1)
  have h9 := Option.some.inj h
  exact hq.to h9
theorem nb_c_X1_two_b173 (F : Nat) (cs1 : CS) (y0 : Int64) (y1 : Nat) (cs9 : CS) (h : c_X1_two_b173 F cs1 y0 y1 = some cs9) : NB cs1 cs9 := by
  unfold c_X1_two_b173 at h
  have hq : NB cs1 cs1 := NB.refl
  have k9 := nb_c_X1_two_b178 F cs1 0 y0 y1 cs9 h
  exact hq.trans k9
theorem nb_c_X1_two_b177 (F : Nat) (cs1 : CS) (y0 : Int64) (y1 : Nat) (cs9 : CS) (h : c_X1_two_b177 F cs1 y0 y1 = some cs9) : NB cs1 cs9 := by
  unfold c_X1_two_b177 at h
  have hq : NB cs1 cs1 := NB.refl
  have k9 := nb_c_X1_two_b178 F cs1 1 y0 y1 cs9 h
  exact hq.trans k9
theorem nb_c_X1_two_b158 (F : Nat) (cs1 : CS) (u6 : Int32) (u7 : Int32) (u9 : Int32) (y0 : Int64) (y1 : Nat) (cs9 : CS) (h : c_X1_two_b158 F cs1 u6 u7 u9 y0 y1 = some cs9) : NB cs1 cs9 := by
  unfold c_X1_two_b158 at h
  have hq : NB cs1 cs1 := NB.refl
  by_cases c_1 : u9 = 0
  · skip
    replace h := (if_pos c_1).symm.trans h
    by_cases c_2 : u6 = 0
    · skip
      replace h := (if_pos c_2).symm.trans h
      have k9 := nb_c_X1_two_b177 F cs1 y0 y1 cs9 h
      exact hq.trans k9
    · skip
      replace h := (if_neg c_2).symm.trans h
      by_cases c_3 : u7 = 0
      · skip
        replace h := (if_pos c_3).symm.trans h
        have k9 := nb_c_X1_two_b177 F cs1 y0 y1 cs9 h
        exact hq.trans k9
      · skip
        replace h := (if_neg c_3).symm.trans h
        have k9 := nb_c_X1_two_b173 F cs1 y0 y1 cs9 h
        exact hq.trans k9
  · skip
    replace h := (if_neg c_1).symm.trans h
    have k9 := nb_c_X1_two_b173 F cs1 y0 y1 cs9 h
    exact hq.trans k9
theorem nb_c_X1_two_b139 (F : Nat) (cs1 : CS) (u0 : Nat) (u6 : Int32) (u7 : Int32) (u8 : Int32) (y0 : Int32) (cs9 : CS) (h : c_X1_two_b139 F cs1 u0 u6 u7 u8 y0 = some cs9) : NB cs1 cs9 := by
  unfold c_X1_two_b139 at h
  have hq : NB cs1 cs1 := NB.refl
  by_cases c_1 : y0 = 0
  · skip
    replace h := (if_pos c_1).symm.trans h
    have k9 := nb_c_X1_two_b158 F cs1 u6 u7 y0 ((1 - u8 : Int32).toInt64) u0 cs9 h
    exact hq.trans k9
  · skip
    replace h := (if_neg c_1).symm.trans h
    have k9 := nb_c_X1_two_b158 F cs1 u6 u7 y0 ((u8 : Int32).toInt64) u0 cs9 h
    exact hq.trans k9
theorem nb_c_X1_two_b134 (F : Nat) (cs1 : CS) (u0 : Nat) (u6 : Int32) (u7 : Int32) (u8 : Int32) (cs9 : CS) (h : c_X1_two_b134 F cs1 u0 u6 u7 u8 = some cs9) : NB cs1 cs9 := by
  unfold c_X1_two_b134 at h
  have hq : NB cs1 cs1 := NB.refl
  have k9 := nb_c_X1_two_b139 F cs1 u0 u6 u7 u8 1 cs9 h
  exact hq.trans k9
theorem nb_c_X1_two_b138 (F : Nat) (cs1 : CS) (u0 : Nat) (u6 : Int32) (u7 : Int32) (u8 : Int32) (cs9 : CS) (h : c_X1_two_b138 F cs1 u0 u6 u7 u8 = some cs9) : NB cs1 cs9 := by
  unfold c_X1_two_b138 at h
  have hq : NB cs1 cs1 := NB.refl
  have k9 := nb_c_X1_two_b139 F cs1 u0 u6 u7 u8 0 cs9 h
  exact hq.trans k9
theorem nb_c_X1_two_b120 (F : Nat) (cs1 : CS) (u0 : Nat) (u4 : Int64) (u6 : Int32) (u7 : Int32) (u8 : Int32) (cs9 : CS) (h : c_X1_two_b120 F cs1 u0 u4 u6 u7 u8 = some cs9) : NB cs1 cs9 := by
  unfold c_X1_two_b120 at h
  have hq : NB cs1 cs1 := NB.refl
  by_cases c_1 : u7 = 0
  · skip
    replace h := (if_pos c_1).symm.trans h
    have k9 := nb_c_X1_two_b138 F cs1 u0 u6 u7 u8 cs9 h
    exact hq.trans k9
  · skip
    replace h := (if_neg c_1).symm.trans h
    by_cases c_2 : u4 = ((u8 : Int32).toInt64)
    · skip
      replace h := (if_pos c_2).symm.trans h
      have k9 := nb_c_X1_two_b134 F cs1 u0 u6 u7 u8 cs9 h
      exact hq.trans k9
    · skip
      replace h := (if_neg c_2).symm.trans h
      have k9 := nb_c_X1_two_b138 F cs1 u0 u6 u7 u8 cs9 h
      exact hq.trans k9
theorem nb_c_X1_two_b105 (F : Nat) (cs1 : CS) (u0 : Nat) (u2 : Int64) (u4 : Int64) (u6 : Int32) (u7 : Int32) (y0 : Int32) (cs9 : CS) (h : c_X1_two_b105 F cs1 u0 u2 u4 u6 u7 y0 = some cs9) : NB cs1 cs9 := by
  unfold c_X1_two_b105 at h
  have hq : NB cs1 cs1 := NB.refl
  by_cases c_1 : u6 = 0
  · skip
    replace h := (if_pos c_1).symm.trans h
    have k9 := nb_c_X1_two_b120 F cs1 u0 u4 u6 u7 y0 cs9 h
    exact hq.trans k9
  · skip
    replace h := (if_neg c_1).symm.trans h
    by_cases c_2 : u2 = ((y0 : Int32).toInt64)
    · skip
      replace h := (if_pos c_2).symm.trans h
      have k9 := nb_c_X1_two_b134 F cs1 u0 u6 u7 y0 cs9 h
      exact hq.trans k9
    · skip
      replace h := (if_neg c_2).symm.trans h
      have k9 := nb_c_X1_two_b120 F cs1 u0 u4 u6 u7 y0 cs9 h
      exact hq.trans k9
theorem nb_c_X1_two_b94 (F : Nat) (cs1 : CS) (u0 : Nat) (u1 : Int32) (u2 : Int64) (u4 : Int64) (u6 : Int32) (u7 : Int32) (cs9 : CS) (h : c_X1_two_b94 F cs1 u0 u1 u2 u4 u6 u7 = some cs9) : NB cs1 cs9 := by
  unfold c_X1_two_b94 at h
  have hq : NB cs1 cs1 := NB.refl
  by_cases c_1 : u1 = 28
  · skip
    replace h := (if_pos c_1).symm.trans h
    have k9 := nb_c_X1_two_b105 F cs1 u0 u2 u4 u6 u7 0 cs9 h
    exact hq.trans k9
  · skip
    replace h := (if_neg c_1).symm.trans h
    have k9 := nb_c_X1_two_b105 F cs1 u0 u2 u4 u6 u7 1 cs9 h
    exact hq.trans k9
theorem nb_c_X1_two_b235 (F : Nat) (cs1 : CS) (y0 : Int32) (y1 : Int64) (y2 : Nat) (cs9 : CS) (h : c_X1_two_b235 F cs1 y0 y1 y2 = some cs9) : NB cs1 cs9 := by
  unfold c_X1_two_b235 at h
  have hq : NB cs1 cs1 := NB.refl
  replace h := ob h; obtain ⟨w_2, hw_2, h⟩ := h
  replace h := ob h; obtain ⟨cs_1, hv_1, h⟩ := h
  replace hq := hq.trans (nb_c_X1_push F cs1 y2 y1 y0 cs_1 hv_1)
  have h9 := Option.some.inj h
  exact hq.to h9
theorem nb_c_X1_two_b225 (F : Nat) (cs1 : CS) (u8 : Int32) (y0 : Int64) (y1 : Nat) (cs9 : CS) (h : c_X1_two_b225 F cs1 u8 y0 y1 = some cs9) : NB cs1 cs9 := by
  unfold c_X1_two_b225 at h
  have hq : NB cs1 cs1 := NB.refl
  by_cases c_1 : u8 = 0
  · skip
    replace h := (if_pos c_1).symm.trans h
    have k9 := nb_c_X1_two_b235 F cs1 1 y0 y1 cs9 h
    exact hq.trans k9
  · skip
    replace h := (if_neg c_1).symm.trans h
    have k9 := nb_c_X1_two_b235 F cs1 0 y0 y1 cs9 h
    exact hq.trans k9
theorem nb_c_X1_two_b206 (F : Nat) (cs1 : CS) (u0 : Nat) (u1 : Int32) (u2 : Int64) (u4 : Int64) (y0 : Int32) (cs9 : CS) (h : c_X1_two_b206 F cs1 u0 u1 u2 u4 y0 = some cs9) : NB cs1 cs9 := by
  unfold c_X1_two_b206 at h
  have hq : NB cs1 cs1 := NB.refl
  by_cases c_1 : y0 = 0
  · skip
    replace h := (if_pos c_1).symm.trans h
    have k9 := nb_c_X1_two_b225 F cs1 y0 0 u0 cs9 h
    exact hq.trans k9
  · skip
    replace h := (if_neg c_1).symm.trans h
    replace h := ob h; obtain ⟨v_2, hv_2, h⟩ := h
    have k9 := nb_c_X1_two_b225 F cs1 y0 v_2 u0 cs9 h
    exact hq.trans k9
theorem nb_c_X1_two_b205 (F : Nat) (cs1 : CS) (u0 : Nat) (u1 : Int32) (u2 : Int64) (u4 : Int64) (cs9 : CS) (h : c_X1_two_b205 F cs1 u0 u1 u2 u4 = some cs9) : NB cs1 cs9 := by
  unfold c_X1_two_b205 at h
  have hq : NB cs1 cs1 := NB.refl
  have k9 := nb_c_X1_two_b206 F cs1 u0 u1 u2 u4 0 cs9 h
  exact hq.trans k9
theorem nb_c_X1_two_b80 (F : Nat) (cs1 : CS) (u0 : Nat) (u1 : Int32) (u2 : Int64) (u4 : Int64) (u6 : Int32) (y0 : Int32) (cs9 : CS) (h : c_X1_two_b80 F cs1 u0 u1 u2 u4 u6 y0 = some cs9) : NB cs1 cs9 := by
  unfold c_X1_two_b80 at h
  have hq : NB cs1 cs1 := NB.refl
  by_cases c_1 : u1 = 28
  · skip
    replace h := (if_pos c_1).symm.trans h
    have k9 := nb_c_X1_two_b94 F cs1 u0 u1 u2 u4 u6 y0 cs9 h
    exact hq.trans k9
  · skip
    replace h := (if_neg c_1).symm.trans h
    by_cases c_2 : u1 = 29
    · skip
      replace h := (if_pos c_2).symm.trans h
      have k9 := nb_c_X1_two_b94 F cs1 u0 u1 u2 u4 u6 y0 cs9 h
      exact hq.trans k9
    · skip
      replace h := (if_neg c_2).symm.trans h
      by_cases c_3 : u6 = 0
      · skip
        replace h := (if_pos c_3).symm.trans h
        have k9 := nb_c_X1_two_b205 F cs1 u0 u1 u2 u4 cs9 h
        exact hq.trans k9
      · skip
        replace h := (if_neg c_3).symm.trans h
        by_cases c_4 : y0 = 0
        · skip
          replace h := (if_pos c_4).symm.trans h
          have k9 := nb_c_X1_two_b205 F cs1 u0 u1 u2 u4 cs9 h
          exact hq.trans k9
        · skip
          replace h := (if_neg c_4).symm.trans h
          replace h := ob h; obtain ⟨v_5, hv_5, h⟩ := h
          by_cases c_6 : v_5 = 0
          · skip
            replace h := (if_pos c_6).symm.trans h
            have k9 := nb_c_X1_two_b205 F cs1 u0 u1 u2 u4 cs9 h
            exact hq.trans k9
          · skip
            replace h := (if_neg c_6).symm.trans h
            have k9 := nb_c_X1_two_b206 F cs1 u0 u1 u2 u4 1 cs9 h
            exact hq.trans k9
theorem nb_c_X1_two_b59 (F : Nat) (cs1 : CS) (u0 : Nat) (u1 : Int32) (u2 : Int64) (u4 : Int64) (y0 : Int32) (cs9 : CS) (h : c_X1_two_b59 F cs1 u0 u1 u2 u4 y0 = some cs9) : NB cs1 cs9 := by
  unfold c_X1_two_b59 at h
  have hq : NB cs1 cs1 := NB.refl
  replace h := ob h; obtain ⟨v_1, hv_1, h⟩ := h
  replace h := ob h; obtain ⟨v_2, hv_2, h⟩ := h
  replace h := ob h; obtain ⟨v_3, hv_3, h⟩ := h
  by_cases c_4 : v_3 = 0
  · skip
    replace h := (if_pos c_4).symm.trans h
    have k9 := nb_c_X1_two_b80 F cs1 u0 u1 u2 u4 y0 1 cs9 h
    exact hq.trans k9
  · skip
    replace h := (if_neg c_4).symm.trans h
    have k9 := nb_c_X1_two_b80 F cs1 u0 u1 u2 u4 y0 0 cs9 h
    exact hq.trans k9
theorem nb_c_X1_two (F : Nat) (cs : CS) (x0 : Nat) (x1 : Int32) (cs9 : CS) (h : c_X1_two F cs x0 x1 = some cs9) : NB cs cs9 := by
  unfold c_X1_two at h
  have hq : NB cs cs := NB.refl
  replace h := ob h; obtain ⟨v_1, hv_1, h⟩ := h
  by_cases c_2 : 2 ≤ v_1
  · skip
    replace h := (if_pos c_2).symm.trans h
    replace h := ob h; obtain ⟨v_3, hv_3, h⟩ := h
    replace h := ob h; obtain ⟨cs_4, hv_4, h⟩ := h
    replace hq := hq.trans (NB.pI hv_4)
    replace h := ob h; obtain ⟨v_5, hv_5, h⟩ := h
    replace h := ob h; obtain ⟨v_6, hv_6, h⟩ := h
    replace h := ob h; obtain ⟨v_7, hv_7, h⟩ := h
    replace h := ob h; obtain ⟨v_8, hv_8, h⟩ := h
    replace h := ob h; obtain ⟨v_9, hv_9, h⟩ := h
    replace h := ob h; obtain ⟨v_10, hv_10, h⟩ := h
    replace h := ob h; obtain ⟨v_11, hv_11, h⟩ := h
    replace h := ob h; obtain ⟨v_12, hv_12, h⟩ := h
    replace h := ob h; obtain ⟨v_13, hv_13, h⟩ := h
    by_cases c_14 : v_13 = 0
    · skip
      replace h := (if_pos c_14).symm.trans h
      have k9 := nb_c_X1_two_b59 F cs_4 x0 x1 v_7 v_10 1 cs9 h
      exact hq.trans k9
    · skip
      replace h := (if_neg c_14).symm.trans h
      have k9 := nb_c_X1_two_b59 F cs_4 x0 x1 v_7 v_10 0 cs9 h
      exact hq.trans k9
  · skip
    replace h := (if_neg c_2).symm.trans h
    have h9 := Option.some.inj h
    exact hq.to h9
theorem nb_c_X1_compute_b443 (F : Nat) (cs1 : CS) (y0 : Int32) (cs9 : CS) (r9 : Int32) (h : c_X1_compute_b443 F cs1 y0 = some (cs9, r9)) : NB cs1 cs9 := by
  unfold c_X1_compute_b443 at h
  have hq : NB cs1 cs1 := NB.refl
  replace h := ob h; obtain ⟨w_1, hw_1, h⟩ := h
  have h9 := (Prod.mk.inj (Option.some.inj h)).1
  exact hq.to h9
theorem nb_c_X1_compute_b442 (F : Nat) (cs1 : CS) (cs9 : CS) (r9 : Int32) (h : c_X1_compute_b442 F cs1 = some (cs9, r9)) : NB cs1 cs9 := by
  unfold c_X1_compute_b442 at h
  have hq : NB cs1 cs1 := NB.refl
  have k9 := nb_c_X1_compute_b443 F cs1 0 cs9 r9 h
  exact hq.trans k9
theorem nb_c_X1_compute_b404 (F : Nat) (rc23 : CS → Nat → Int32 → Nat → Int32 → Int32 → Option (CS × Int32)) (hrc23 : ∀ (cs1 : CS) (u0 : Nat) (u1 : Int32) (u2 : Nat) (u3 : Int32) (u4 : Int32) (cs9 : CS) (r9 : Int32), rc23 cs1 u0 u1 u2 u3 u4 = some (cs9, r9) → NB cs1 cs9) (cs1 : CS) (u0 : Nat) (u1 : Int32) (u2 : Nat) (u3 : Int32) (u4 : Int32) (cs9 : CS) (r9 : Int32) (h : c_X1_compute_b404 F rc23 cs1 u0 u1 u2 u3 u4 = some (cs9, r9)) : NB cs1 cs9 := by
  unfold c_X1_compute_b404 at h
  have hq : NB cs1 cs1 := NB.refl
  have k9 := hrc23 cs1 u0 u1 u2 u3 (u4 + 1) cs9 r9 h
  exact hq.trans k9
theorem nb_c_X1_compute_b333 (F : Nat) (rc23 : CS → Nat → Int32 → Nat → Int32 → Int32 → Option (CS × Int32)) (hrc23 : ∀ (cs1 : CS) (u0 : Nat) (u1 : Int32) (u2 : Nat) (u3 : Int32) (u4 : Int32) (cs9 : CS) (r9 : Int32), rc23 cs1 u0 u1 u2 u3 u4 = some (cs9, r9) → NB cs1 cs9) (cs1 : CS) (u0 : Nat) (u1 : Int32) (u2 : Nat) (u3 : Int32) (u4 : Int32) (y0 : Int32) (y1 : Int64) (y2 : Nat) (cs9 : CS) (r9 : Int32) (h : c_X1_compute_b333 F rc23 cs1 u0 u1 u2 u3 u4 y0 y1 y2 = some (cs9, r9)) : NB cs1 cs9 := by
  unfold c_X1_compute_b333 at h
  have hq : NB cs1 cs1 := NB.refl
  replace h := ob h; obtain ⟨w_2, hw_2, h⟩ := h
  replace h := ob h; obtain ⟨cs_1, hv_1, h⟩ := h
  replace hq := hq.trans (nb_c_X1_push F cs1 y2 y1 y0 cs_1 hv_1)
  have k9 := nb_c_X1_compute_b404 F rc23 hrc23 cs_1 u0 u1 u2 u3 u4 cs9 r9 h
  exact hq.trans k9
theorem nb_c_X1_compute_b298 (F : Nat) (rc23 : CS → Nat → Int32 → Nat → Int32 → Int32 → Option (CS × Int32)) (hrc23 : ∀ (cs1 : CS) (u0 : Nat) (u1 : Int32) (u2 : Nat) (u3 : Int32) (u4 : Int32) (cs9 : CS) (r9 : Int32), rc23 cs1 u0 u1 u2 u3 u4 = some (cs9, r9) → NB cs1 cs9) (cs1 : CS) (u0 : Nat) (u1 : Int32) (u2 : Nat) (u3 : Int32) (u4 : Int32) (cs9 : CS) (r9 : Int32) (h : c_X1_compute_b298 F rc23 cs1 u0 u1 u2 u3 u4 = some (cs9, r9)) : NB cs1 cs9 := by
  unfold c_X1_compute_b298 at h
  have hq : NB cs1 cs1 := NB.refl
  replace h := ob h; obtain ⟨v_1, hv_1, h⟩ := h
  replace h := ob h; obtain ⟨v_2, hv_2, h⟩ := h
  replace h := ob h; obtain ⟨w_4, hw_4, h⟩ := h
  replace h := ob h; obtain ⟨v_3, hv_3, h⟩ := h
  replace h := ob h; obtain ⟨v_5, hv_5, h⟩ := h
  replace h := ob h; obtain ⟨v_6, hv_6, h⟩ := h
  replace h := ob h; obtain ⟨w_8, hw_8, h⟩ := h
  replace h := ob h; obtain ⟨v_7, hv_7, h⟩ := h
  by_cases c_9 : v_7 = 0
  · skip
    replace h := (if_pos c_9).symm.trans h
    have k9 := nb_c_X1_compute_b333 F rc23 hrc23 cs1 u0 u1 u2 u3 u4 0 v_3 u0 cs9 r9 h
    exact hq.trans k9
  · skip
    replace h := (if_neg c_9).symm.trans h
    have k9 := nb_c_X1_compute_b333 F rc23 hrc23 cs1 u0 u1 u2 u3 u4 1 v_3 u0 cs9 r9 h
    exact hq.trans k9
theorem nb_c_X1_compute_b387 (F : Nat) (rc23 : CS → Nat → Int32 → Nat → Int32 → Int32 → Option (CS × Int32)) (hrc23 : ∀ (cs1 : CS) (u0 : Nat) (u1 : Int32) (u2 : Nat) (u3 : Int32) (u4 : Int32) (cs9 : CS) (r9 : Int32), rc23 cs1 u0 u1 u2 u3 u4 = some (cs9, r9) → NB cs1 cs9) (cs1 : CS) (u0 : Nat) (u1 : Int32) (u2 : Nat) (u3 : Int32) (u4 : Int32) (y0 : Int32) (y1 : Int32) (y2 : Nat) (cs9 : CS) (r9 : Int32) (h : c_X1_compute_b387 F rc23 cs1 u0 u1 u2 u3 u4 y0 y1 y2 = some (cs9, r9)) : NB cs1 cs9 := by
  unfold c_X1_compute_b387 at h
  have hq : NB cs1 cs1 := NB.refl
  replace h := ob h; obtain ⟨w_2, hw_2, h⟩ := h
  replace h := ob h; obtain ⟨cs_1, hv_1, h⟩ := h
  replace hq := hq.trans (nb_c_X1_search F cs1 y2 y1 y0 cs_1 hv_1)
  have k9 := nb_c_X1_compute_b404 F rc23 hrc23 cs_1 u0 u1 u2 u3 u4 cs9 r9 h
  exact hq.trans k9
theorem nb_c_X1_compute_b360 (F : Nat) (rc23 : CS → Nat → Int32 → Nat → Int32 → Int32 → Option (CS × Int32)) (hrc23 : ∀ (cs1 : CS) (u0 : Nat) (u1 : Int32) (u2 : Nat) (u3 : Int32) (u4 : Int32) (cs9 : CS) (r9 : Int32), rc23 cs1 u0 u1 u2 u3 u4 = some (cs9, r9) → NB cs1 cs9) (cs1 : CS) (u0 : Nat) (u1 : Int32) (u2 : Nat) (u3 : Int32) (u4 : Int32) (cs9 : CS) (r9 : Int32) (h : c_X1_compute_b360 F rc23 cs1 u0 u1 u2 u3 u4 = some (cs9, r9)) : NB cs1 cs9 := by
  unfold c_X1_compute_b360 at h
  have hq : NB cs1 cs1 := NB.refl
  replace h := ob h; obtain ⟨v_1, hv_1, h⟩ := h
  replace h := ob h; obtain ⟨v_2, hv_2, h⟩ := h
  replace h := ob h; obtain ⟨v_3, hv_3, h⟩ := h
  replace h := ob h; obtain ⟨v_4, hv_4, h⟩ := h
  by_cases c_5 : v_4 = 27
  · skip
    replace h := (if_pos c_5).symm.trans h
    have k9 := nb_c_X1_compute_b387 F rc23 hrc23 cs1 u0 u1 u2 u3 u4 1 (v_2 - 1) u0 cs9 r9 h
    exact hq.trans k9
  · skip
    replace h := (if_neg c_5).symm.trans h
    have k9 := nb_c_X1_compute_b387 F rc23 hrc23 cs1 u0 u1 u2 u3 u4 0 (v_2 - 1) u0 cs9 r9 h
    exact hq.trans k9
theorem nb_c_X1_compute_b339 (F : Nat) (rc23 : CS → Nat → Int32 → Nat → Int32 → Int32 → Option (CS × Int32)) (hrc23 : ∀ (cs1 : CS) (u0 : Nat) (u1 : Int32) (u2 : Nat) (u3 : Int32) (u4 : Int32) (cs9 : CS) (r9 : Int32), rc23 cs1 u0 u1 u2 u3 u4 = some (cs9, r9) → NB cs1 cs9) (cs1 : CS) (u0 : Nat) (u1 : Int32) (u2 : Nat) (u3 : Int32) (u4 : Int32) (cs9 : CS) (r9 : Int32) (h : c_X1_compute_b339 F rc23 cs1 u0 u1 u2 u3 u4 = some (cs9, r9)) : NB cs1 cs9 := by
  unfold c_X1_compute_b339 at h
  have hq : NB cs1 cs1 := NB.refl
  replace h := ob h; obtain ⟨v_1, hv_1, h⟩ := h
  replace h := ob h; obtain ⟨v_2, hv_2, h⟩ := h
  replace h := ob h; obtain ⟨w_4, hw_4, h⟩ := h
  replace h := ob h; obtain ⟨cs_3, hv_3, h⟩ := h
  replace hq := hq.trans (nb_c_X1_one F cs1 u0 v_2 cs_3 hv_3)
  have k9 := nb_c_X1_compute_b404 F rc23 hrc23 cs_3 u0 u1 u2 u3 u4 cs9 r9 h
  exact hq.trans k9
theorem nb_c_X1_compute_b393 (F : Nat) (rc23 : CS → Nat → Int32 → Nat → Int32 → Int32 → Option (CS × Int32)) (hrc23 : ∀ (cs1 : CS) (u0 : Nat) (u1 : Int32) (u2 : Nat) (u3 : Int32) (u4 : Int32) (cs9 : CS) (r9 : Int32), rc23 cs1 u0 u1 u2 u3 u4 = some (cs9, r9) → NB cs1 cs9) (cs1 : CS) (u0 : Nat) (u1 : Int32) (u2 : Nat) (u3 : Int32) (u4 : Int32) (cs9 : CS) (r9 : Int32) (h : c_X1_compute_b393 F rc23 cs1 u0 u1 u2 u3 u4 = some (cs9, r9)) : NB cs1 cs9 := by
  unfold c_X1_compute_b393 at h
  have hq : NB cs1 cs1 := NB.refl
  replace h := ob h; obtain ⟨v_1, hv_1, h⟩ := h
  replace h := ob h; obtain ⟨v_2, hv_2, h⟩ := h
  replace h := ob h; obtain ⟨w_4, hw_4, h⟩ := h
  replace h := ob h; obtain ⟨cs_3, hv_3, h⟩ := h
  replace hq := hq.trans (nb_c_X1_two F cs1 u0 v_2 cs_3 hv_3)
  have k9 := nb_c_X1_compute_b404 F rc23 hrc23 cs_3 u0 u1 u2 u3 u4 cs9 r9 h
  exact hq.trans k9
theorem nb_c_X1_compute_b61 (F : Nat) (rc23 : CS → Nat → Int32 → Nat → Int32 → Int32 → Option (CS × Int32)) (hrc23 : ∀ (cs1 : CS) (u0 : Nat) (u1 : Int32) (u2 : Nat) (u3 : Int32) (u4 : Int32) (cs9 : CS) (r9 : Int32), rc23 cs1 u0 u1 u2 u3 u4 = some (cs9, r9) → NB cs1 cs9) (cs1 : CS) (u0 : Nat) (u1 : Int32) (u2 : Nat) (u3 : Int32) (u4 : Int32) (cs9 : CS) (r9 : Int32) (h : c_X1_compute_b61 F rc23 cs1 u0 u1 u2 u3 u4 = some (cs9, r9)) : NB cs1 cs9 := by
  unfold c_X1_compute_b61 at h
  have hq : NB cs1 cs1 := NB.refl
  replace h := ob h; obtain ⟨v_1, hv_1, h⟩ := h
  replace h := ob h; obtain ⟨v_2, hv_2, h⟩ := h
  by_cases c_3 : v_2 = 19
  · skip
    replace h := (if_pos c_3).symm.trans h
    replace h := ob h; obtain ⟨w_5, hw_5, h⟩ := h
    replace h := ob h; obtain ⟨cs_4, hv_4, h⟩ := h
    replace hq := hq.trans (nb_c_X1_choose F cs1 u0 cs_4 hv_4)
    have k9 := nb_c_X1_compute_b404 F rc23 hrc23 cs_4 u0 u1 u2 u3 u4 cs9 r9 h
    exact hq.trans k9
  replace h := (if_neg c_3).symm.trans h
  by_cases c_6 : v_2 = 24
  · skip
    replace h := (if_pos c_6).symm.trans h
    have k9 := nb_c_X1_compute_b339 F rc23 hrc23 cs1 u0 u1 u2 u3 u4 cs9 r9 h
    exact hq.trans k9
  replace h := (if_neg c_6).symm.trans h
  by_cases c_7 : v_2 = 25
  · skip
    replace h := (if_pos c_7).symm.trans h
    have k9 := nb_c_X1_compute_b339 F rc23 hrc23 cs1 u0 u1 u2 u3 u4 cs9 r9 h
    exact hq.trans k9
  replace h := (if_neg c_7).symm.trans h
  by_cases c_8 : v_2 = 26
  · skip
    replace h := (if_pos c_8).symm.trans h
    replace h := ob h; obtain ⟨w_10, hw_10, h⟩ := h
    replace h := ob h; obtain ⟨cs_9, hv_9, h⟩ := h
    replace hq := hq.trans (nb_c_X1_push F cs1 u0 0 1 cs_9 hv_9)
    have k9 := nb_c_X1_compute_b404 F rc23 hrc23 cs_9 u0 u1 u2 u3 u4 cs9 r9 h
    exact hq.trans k9
  replace h := (if_neg c_8).symm.trans h
  by_cases c_11 : v_2 = 27
  · skip
    replace h := (if_pos c_11).symm.trans h
    have k9 := nb_c_X1_compute_b360 F rc23 hrc23 cs1 u0 u1 u2 u3 u4 cs9 r9 h
    exact hq.trans k9
  replace h := (if_neg c_11).symm.trans h
  by_cases c_12 : v_2 = 30
  · skip
    replace h := (if_pos c_12).symm.trans h
    replace h := ob h; obtain ⟨w_14, hw_14, h⟩ := h
    replace h := ob h; obtain ⟨cs_13, hv_13, h⟩ := h
    replace hq := hq.trans (nb_c_X1_push F cs1 u0 1 0 cs_13 hv_13)
    have k9 := nb_c_X1_compute_b404 F rc23 hrc23 cs_13 u0 u1 u2 u3 u4 cs9 r9 h
    exact hq.trans k9
  replace h := (if_neg c_12).symm.trans h
  by_cases c_15 : v_2 = 31
  · skip
    replace h := (if_pos c_15).symm.trans h
    replace h := ob h; obtain ⟨w_17, hw_17, h⟩ := h
    replace h := ob h; obtain ⟨cs_16, hv_16, h⟩ := h
    replace hq := hq.trans (nb_c_X1_push F cs1 u0 0 0 cs_16 hv_16)
    have k9 := nb_c_X1_compute_b404 F rc23 hrc23 cs_16 u0 u1 u2 u3 u4 cs9 r9 h
    exact hq.trans k9
  replace h := (if_neg c_15).symm.trans h
  by_cases c_18 : v_2 = 32
  · skip
    replace h := (if_pos c_18).symm.trans h
    have k9 := nb_c_X1_compute_b298 F rc23 hrc23 cs1 u0 u1 u2 u3 u4 cs9 r9 h
    exact hq.trans k9
  replace h := (if_neg c_18).symm.trans h
  by_cases c_19 : v_2 = 33
  · skip
    replace h := (if_pos c_19).symm.trans h
    have k9 := nb_c_X1_compute_b298 F rc23 hrc23 cs1 u0 u1 u2 u3 u4 cs9 r9 h
    exact hq.trans k9
  replace h := (if_neg c_19).symm.trans h
  by_cases c_20 : v_2 = 34
  · skip
    replace h := (if_pos c_20).symm.trans h
    have k9 := nb_c_X1_compute_b298 F rc23 hrc23 cs1 u0 u1 u2 u3 u4 cs9 r9 h
    exact hq.trans k9
  replace h := (if_neg c_20).symm.trans h
  by_cases c_21 : v_2 = 35
  · skip
    replace h := (if_pos c_21).symm.trans h
    have k9 := nb_c_X1_compute_b298 F rc23 hrc23 cs1 u0 u1 u2 u3 u4 cs9 r9 h
    exact hq.trans k9
  replace h := (if_neg c_21).symm.trans h
  by_cases c_22 : v_2 = 39
  · skip
    replace h := (if_pos c_22).symm.trans h
    have k9 := nb_c_X1_compute_b298 F rc23 hrc23 cs1 u0 u1 u2 u3 u4 cs9 r9 h
    exact hq.trans k9
  replace h := (if_neg c_22).symm.trans h
  by_cases c_23 : v_2 = 40
  · skip
    replace h := (if_pos c_23).symm.trans h
    replace h := ob h; obtain ⟨v_24, hv_24, h⟩ := h
    replace h := ob h; obtain ⟨v_25, hv_25, h⟩ := h
    replace h := ob h; obtain ⟨w_27, hw_27, h⟩ := h
    replace h := ob h; obtain ⟨cs_26, hv_26, h⟩ := h
    replace hq := hq.trans (nb_c_X1_push F cs1 u0 v_25 0 cs_26 hv_26)
    have k9 := nb_c_X1_compute_b404 F rc23 hrc23 cs_26 u0 u1 u2 u3 u4 cs9 r9 h
    exact hq.trans k9
  replace h := (if_neg c_23).symm.trans h
  by_cases c_28 : v_2 = 58
  · skip
    replace h := (if_pos c_28).symm.trans h
    have k9 := nb_c_X1_compute_b339 F rc23 hrc23 cs1 u0 u1 u2 u3 u4 cs9 r9 h
    exact hq.trans k9
  replace h := (if_neg c_28).symm.trans h
  by_cases c_29 : v_2 = 59
  · skip
    replace h := (if_pos c_29).symm.trans h
    have k9 := nb_c_X1_compute_b339 F rc23 hrc23 cs1 u0 u1 u2 u3 u4 cs9 r9 h
    exact hq.trans k9
  replace h := (if_neg c_29).symm.trans h
  by_cases c_30 : v_2 = 60
  · skip
    replace h := (if_pos c_30).symm.trans h
    have k9 := nb_c_X1_compute_b360 F rc23 hrc23 cs1 u0 u1 u2 u3 u4 cs9 r9 h
    exact hq.trans k9
  replace h := (if_neg c_30).symm.trans h
  by_cases c_31 : v_2 = 61
  · skip
    replace h := (if_pos c_31).symm.trans h
    have k9 := nb_c_X1_compute_b298 F rc23 hrc23 cs1 u0 u1 u2 u3 u4 cs9 r9 h
    exact hq.trans k9
  replace h := (if_neg c_31).symm.trans h
  have k9 := nb_c_X1_compute_b393 F rc23 hrc23 cs1 u0 u1 u2 u3 u4 cs9 r9 h
  exact hq.trans k9
theorem nb_c_X1_compute_L23 (F : Nat) : ∀ (lf_23 : Nat) (cs1 : CS) (u0 : Nat) (u1 : Int32) (u2 : Nat) (u3 : Int32) (u4 : Int32) (cs9 : CS) (r9 : Int32), c_X1_compute_L23 F lf_23 cs1 u0 u1 u2 u3 u4 = some (cs9, r9) → NB cs1 cs9 := by
  intro lf_23
  induction lf_23 with
  | zero => intro cs1 u0 u1 u2 u3 u4 cs9 r9 h; cases (show (none : Option (CS × Int32)) = _ from h)
  | succ lf_23 ih_23 =>
    intro cs1 u0 u1 u2 u3 u4 cs9 r9 h
    rw [c_X1_compute_L23] at h
    have hq : NB cs1 cs1 := NB.refl
    by_cases c_1 : u1 < u4
    · skip
      replace h := (if_pos c_1).symm.trans h
      replace h := ob h; obtain ⟨v_2, hv_2, h⟩ := h
      by_cases c_3 : v_2 = 1
      · skip
        replace h := (if_pos c_3).symm.trans h
        replace h := ob h; obtain ⟨v_4, hv_4, h⟩ := h
        replace h := ob h; obtain ⟨v_5, hv_5, h⟩ := h
        by_cases c_6 : v_5 = 0
        · skip
          replace h := (if_pos c_6).symm.trans h
          replace h := ob h; obtain ⟨v_7, hv_7, h⟩ := h
          replace h := ob h; obtain ⟨v_8, hv_8, h⟩ := h
          by_cases c_9 : v_8 = 0
          · skip
            replace h := (if_pos c_9).symm.trans h
            have k9 := nb_c_X1_compute_b442 F cs1 cs9 r9 h
            exact hq.trans k9
          · skip
            replace h := (if_neg c_9).symm.trans h
            have k9 := nb_c_X1_compute_b443 F cs1 1 cs9 r9 h
            exact hq.trans k9
        · skip
          replace h := (if_neg c_6).symm.trans h
          have k9 := nb_c_X1_compute_b442 F cs1 cs9 r9 h
          exact hq.trans k9
      · skip
        replace h := (if_neg c_3).symm.trans h
        have k9 := nb_c_X1_compute_b442 F cs1 cs9 r9 h
        exact hq.trans k9
    · skip
      replace h := (if_neg c_1).symm.trans h
      replace h := ob h; obtain ⟨v_10, hv_10, h⟩ := h
      replace h := ob h; obtain ⟨v_11, hv_11, h⟩ := h
      by_cases c_12 : v_11 ≤ u4
      · skip
        replace h := (if_pos c_12).symm.trans h
        have k9 := nb_c_X1_compute_b61 F (c_X1_compute_L23 F lf_23) ih_23 cs1 u0 u1 u2 u3 u4 cs9 r9 h
        exact hq.trans k9
      · skip
        replace h := (if_neg c_12).symm.trans h
        replace h := ob h; obtain ⟨v_13, hv_13, h⟩ := h
        replace h := ob h; obtain ⟨v_14, hv_14, h⟩ := h
        by_cases c_15 : u1 < v_14
        · skip
          replace h := (if_pos c_15).symm.trans h
          have k9 := nb_c_X1_compute_b61 F (c_X1_compute_L23 F lf_23) ih_23 cs1 u0 u1 u2 u3 u4 cs9 r9 h
          exact hq.trans k9
        · skip
          replace h := (if_neg c_15).symm.trans h
          replace h := ob h; obtain ⟨v_16, hv_16, h⟩ := h
          replace h := ob h; obtain ⟨v_17, hv_17, h⟩ := h
          have k9 := nb_c_X1_compute_b61 F (c_X1_compute_L23 F lf_23) ih_23 cs1 u0 u1 u2 u3 v_17 cs9 r9 h
          exact hq.trans k9
theorem nb_c_X1_compute (F : Nat) (cs : CS) (x0 : Nat) (x1 : Int32) (x2 : Nat) (x3 : Int32) (cs9 : CS) (r9 : Int32) (h : c_X1_compute F cs x0 x1 x2 x3 = some (cs9, r9)) : NB cs cs9 := by
  unfold c_X1_compute at h
  have hq : NB cs cs := NB.refl
  replace h := ob h; obtain ⟨cs_1, hv_1, h⟩ := h
  replace hq := hq.trans (NB.pI hv_1)
  replace h := ob h; obtain ⟨w_3, hw_3, h⟩ := h
  replace h := ob h; obtain ⟨v_2, hv_2, h⟩ := h
  by_cases c_4 : v_2 = 0
  · skip
    replace h := (if_pos c_4).symm.trans h
    have h9 := (Prod.mk.inj (Option.some.inj h)).1
    exact hq.to h9
  · skip
    replace h := (if_neg c_4).symm.trans h
    replace h := ob h; obtain ⟨v_5, hv_5, h⟩ := h
    replace h := ob h; obtain ⟨v_6, hv_6, h⟩ := h
    have k9 := nb_c_X1_compute_L23 F F cs_1 x0 x1 x2 x3 v_6 cs9 r9 h
    exact hq.trans k9
theorem nb_c_X4_init (F : Nat) (cs : CS) (x0 : Nat) (x1 : Nat) (x2 : Nat) (x3 : Nat) (cs9 : CS) (h : c_X4_init F cs x0 x1 x2 x3 = some cs9) : NB cs cs9 := by
  unfold c_X4_init at h
  have hq : NB cs cs := NB.refl
  replace h := ob h; obtain ⟨cs_1, hv_1, h⟩ := h
  replace hq := hq.trans (NB.pR hv_1)
  replace h := ob h; obtain ⟨cs_2, hv_2, h⟩ := h
  replace hq := hq.trans (NB.pR hv_2)
  replace h := ob h; obtain ⟨cs_3, hv_3, h⟩ := h
  replace hq := hq.trans (NB.pR hv_3)
  have h9 := Option.some.inj h
  exact hq.to h9
theorem nb_c_X8_set_b33 (F : Nat) (cs1 : CS) (cs9 : CS) (h : c_X8_set_b33 F cs1 = some cs9) : NB cs1 cs9 := by
  unfold c_X8_set_b33 at h
  have hq : NB cs1 cs1 := NB.refl
  have h9 := Option.some.inj h
  exact hq.to h9
theorem nb_c_X8_set_b23 (F : Nat) (cs1 : CS) (u0 : Nat) (u1 : Int32) (u4 : Int32) (y0 : Int64) (y1 : Int32) (y2 : Nat) (wy2 : Nat) (cs9 : CS) (h : c_X8_set_b23 F cs1 u0 u1 u4 y0 y1 y2 wy2 = some cs9) : NB cs1 cs9 := by
  unfold c_X8_set_b23 at h
  have hq : NB cs1 cs1 := NB.refl
  replace h := ob h; obtain ⟨cs_1, hv_1, h⟩ := h
  replace hq := hq.trans (NB.wB hv_1)
  replace h := ob h; obtain ⟨v_2, hv_2, h⟩ := h
  replace h := ob h; obtain ⟨cs_3, hv_3, h⟩ := h
  replace hq := hq.trans (NB.wA hv_3)
  have k9 := nb_c_X8_set_b33 F cs_3 cs9 h
  exact hq.trans k9
theorem nb_c_X8_set (F : Nat) (cs : CS) (x0 : Nat) (x1 : Int32) (x2 : Int64) (x4 : Int32) (cs9 : CS) (h : c_X8_set F cs x0 x1 x2 x4 = some cs9) : NB cs cs9 := by
  unfold c_X8_set at h
  have hq : NB cs cs := NB.refl
  replace h := ob h; obtain ⟨w_2, hw_2, h⟩ := h
  replace h := ob h; obtain ⟨v_1, hv_1, h⟩ := h
  by_cases c_3 : v_1 = 0
  · skip
    replace h := (if_pos c_3).symm.trans h
    have k9 := nb_c_X8_set_b33 F cs cs9 h
    exact hq.trans k9
  · skip
    replace h := (if_neg c_3).symm.trans h
    replace h := ob h; obtain ⟨v_4, hv_4, h⟩ := h
    by_cases c_5 : x4 = 0
    · skip
      replace h := (if_pos c_5).symm.trans h
      have k9 := nb_c_X8_set_b23 F cs x0 x1 x4 x2 x1 x0 v_4 cs9 h
      exact hq.trans k9
    · skip
      replace h := (if_neg c_5).symm.trans h
      have k9 := nb_c_X8_set_b23 F cs x0 x1 x4 0 x1 x0 v_4 cs9 h
      exact hq.trans k9
theorem nb_c_X4_foldOne_b171 (F : Nat) (cs1 : CS) (cs9 : CS) (h : c_X4_foldOne_b171 F cs1 = some cs9) : NB cs1 cs9 := by
  unfold c_X4_foldOne_b171 at h
  have hq : NB cs1 cs1 := NB.refl
  have h9 := Option.some.inj h
  exact hq.to h9
theorem nb_c_X4_foldOne_b107 (F : Nat) (cs1 : CS) (u0 : Nat) (u5 : Int32) (u6 : Int64) (cs9 : CS) (h : c_X4_foldOne_b107 F cs1 u0 u5 u6 = some cs9) : NB cs1 cs9 := by
  unfold c_X4_foldOne_b107 at h
  have hq : NB cs1 cs1 := NB.refl
  replace h := ob h; obtain ⟨v_1, hv_1, h⟩ := h
  replace h := ob h; obtain ⟨i_3, hi_3, h⟩ := h
  subst hi_3
  replace h := ob h; obtain ⟨w_4, hw_4, h⟩ := h
  replace h := ob h; obtain ⟨cs_2, hv_2, h⟩ := h
  replace hq := hq.trans (nb_c_X8_set F cs1 i_3 u5 u6 0 cs_2 hv_2)
  have k9 := nb_c_X4_foldOne_b171 F cs_2 cs9 h
  exact hq.trans k9
theorem nb_c_X4_foldOne_b168 (F : Nat) (cs1 : CS) (y0 : Int32) (y1 : Int64) (y2 : Int32) (y3 : Option Nat) (cs9 : CS) (h : c_X4_foldOne_b168 F cs1 y0 y1 y2 y3 = some cs9) : NB cs1 cs9 := by
  unfold c_X4_foldOne_b168 at h
  have hq : NB cs1 cs1 := NB.refl
  replace h := ob h; obtain ⟨i_2, hi_2, h⟩ := h
  subst hi_2
  replace h := ob h; obtain ⟨w_3, hw_3, h⟩ := h
  replace h := ob h; obtain ⟨cs_1, hv_1, h⟩ := h
  replace hq := hq.trans (nb_c_X8_set F cs1 i_2 y2 y1 y0 cs_1 hv_1)
  have k9 := nb_c_X4_foldOne_b171 F cs_1 cs9 h
  exact hq.trans k9
theorem nb_c_X4_foldOne_b146 (F : Nat) (cs1 : CS) (u0 : Nat) (u5 : Int32) (u6 : Int64) (y0 : Int64) (cs9 : CS) (h : c_X4_foldOne_b146 F cs1 u0 u5 u6 y0 = some cs9) : NB cs1 cs9 := by
  unfold c_X4_foldOne_b146 at h
  have hq : NB cs1 cs1 := NB.refl
  replace h := ob h; obtain ⟨v_1, hv_1, h⟩ := h
  by_cases c_2 : u6 = 0
  · skip
    replace h := (if_pos c_2).symm.trans h
    have k9 := nb_c_X4_foldOne_b168 F cs1 1 y0 u5 v_1 cs9 h
    exact hq.trans k9
  · skip
    replace h := (if_neg c_2).symm.trans h
    have k9 := nb_c_X4_foldOne_b168 F cs1 0 y0 u5 v_1 cs9 h
    exact hq.trans k9
theorem nb_c_X4_foldOne_b89 (F : Nat) (rc19 : CS → Nat → Int32 → Int32 → Int32 → Int32 → Int32 → Int64 → Int64 → Int64 → Int64 → Int32 → Option CS) (hrc19 : ∀ (cs1 : CS) (u0 : Nat) (u1 : Int32) (u2 : Int32) (u3 : Int32) (u4 : Int32) (u5 : Int32) (u6 : Int64) (u8 : Int64) (u10 : Int64) (u12 : Int64) (u14 : Int32) (cs9 : CS), rc19 cs1 u0 u1 u2 u3 u4 u5 u6 u8 u10 u12 u14 = some cs9 → NB cs1 cs9) (cs1 : CS) (u0 : Nat) (u1 : Int32) (u2 : Int32) (u3 : Int32) (u4 : Int32) (u5 : Int32) (u6 : Int64) (u8 : Int64) (u10 : Int64) (u12 : Int64) (u14 : Int32) (cs9 : CS) (h : c_X4_foldOne_b89 F rc19 cs1 u0 u1 u2 u3 u4 u5 u6 u8 u10 u12 u14 = some cs9) : NB cs1 cs9 := by
  unfold c_X4_foldOne_b89 at h
  have hq : NB cs1 cs1 := NB.refl
  have k9 := hrc19 cs1 u0 u1 u2 u3 u4 u5 u6 u8 u10 u12 (u14 + 1) cs9 h
  exact hq.trans k9
theorem nb_c_X4_foldOne_L19 (F : Nat) : ∀ (lf_19 : Nat) (cs1 : CS) (u0 : Nat) (u1 : Int32) (u2 : Int32) (u3 : Int32) (u4 : Int32) (u5 : Int32) (u6 : Int64) (u8 : Int64) (u10 : Int64) (u12 : Int64) (u14 : Int32) (cs9 : CS), c_X4_foldOne_L19 F lf_19 cs1 u0 u1 u2 u3 u4 u5 u6 u8 u10 u12 u14 = some cs9 → NB cs1 cs9 := by
  intro lf_19
  induction lf_19 with
  | zero => intro cs1 u0 u1 u2 u3 u4 u5 u6 u8 u10 u12 u14 cs9 h; cases (show (none : Option CS) = _ from h)
  | succ lf_19 ih_19 =>
    intro cs1 u0 u1 u2 u3 u4 u5 u6 u8 u10 u12 u14 cs9 h
    rw [c_X4_foldOne_L19] at h
    have hq : NB cs1 cs1 := NB.refl
    by_cases c_1 : u3 ≤ u14
    · skip
      replace h := (if_pos c_1).symm.trans h
      by_cases c_2 : u1 = 32
      · skip
        replace h := (if_pos c_2).symm.trans h
        have k9 := nb_c_X4_foldOne_b107 F cs1 u0 u5 u6 cs9 h
        exact hq.trans k9
      · skip
        replace h := (if_neg c_2).symm.trans h
        by_cases c_3 : u1 = 61
        · skip
          replace h := (if_pos c_3).symm.trans h
          have k9 := nb_c_X4_foldOne_b107 F cs1 u0 u5 u6 cs9 h
          exact hq.trans k9
        · skip
          replace h := (if_neg c_3).symm.trans h
          by_cases c_4 : u1 = 33
          · skip
            replace h := (if_pos c_4).symm.trans h
            have k9 := nb_c_X4_foldOne_b146 F cs1 u0 u5 u6 u8 cs9 h
            exact hq.trans k9
          · skip
            replace h := (if_neg c_4).symm.trans h
            by_cases c_5 : u1 = 34
            · skip
              replace h := (if_pos c_5).symm.trans h
              have k9 := nb_c_X4_foldOne_b146 F cs1 u0 u5 u6 u10 cs9 h
              exact hq.trans k9
            · skip
              replace h := (if_neg c_5).symm.trans h
              have k9 := nb_c_X4_foldOne_b146 F cs1 u0 u5 u6 u12 cs9 h
              exact hq.trans k9
    · skip
      replace h := (if_neg c_1).symm.trans h
      replace h := ob h; obtain ⟨v_6, hv_6, h⟩ := h
      replace h := ob h; obtain ⟨i_8, hi_8, h⟩ := h
      subst hi_8
      replace h := ob h; obtain ⟨w_9, hw_9, h⟩ := h
      replace h := ob h; obtain ⟨v_7, hv_7, h⟩ := h
      by_cases c_10 : v_7 = 0
      · skip
        replace h := (if_pos c_10).symm.trans h
        replace h := ob h; obtain ⟨v_11, hv_11, h⟩ := h
        replace h := ob h; obtain ⟨i_13, hi_13, h⟩ := h
        subst hi_13
        replace h := ob h; obtain ⟨w_14, hw_14, h⟩ := h
        replace h := ob h; obtain ⟨v_12, hv_12, h⟩ := h
        replace h := ob h; obtain ⟨v_15, hv_15, h⟩ := h
        replace h := ob h; obtain ⟨v_16, hv_16, h⟩ := h
        have k9 := nb_c_X4_foldOne_b89 F (c_X4_foldOne_L19 F lf_19) ih_19 cs1 u0 u1 u2 u3 u4 u5 (u6 + 1) (u8 + v_12) v_15 v_16 u14 cs9 h
        exact hq.trans k9
      · skip
        replace h := (if_neg c_10).symm.trans h
        have k9 := nb_c_X4_foldOne_b89 F (c_X4_foldOne_L19 F lf_19) ih_19 cs1 u0 u1 u2 u3 u4 u5 u6 u8 u10 u12 u14 cs9 h
        exact hq.trans k9
theorem nb_c_X4_foldOne (F : Nat) (cs : CS) (x0 : Nat) (x1 : Int32) (x2 : Int32) (x3 : Int32) (x4 : Int32) (x5 : Int32) (cs9 : CS) (h : c_X4_foldOne F cs x0 x1 x2 x3 x4 x5 = some cs9) : NB cs cs9 := by
  unfold c_X4_foldOne at h
  have hq : NB cs cs := NB.refl
  have k9 := nb_c_X4_foldOne_L19 F F cs x0 x1 x2 x3 x4 x5 0 0 (9223372036854775807) (-9223372036854775808) 0 cs9 h
  exact hq.trans k9
theorem nb_c_X9_accept_b28 (F : Nat) (cs1 : CS) (u2 : Int32) (y0 : Int32) (y1 : Int32) (y2 : Nat) (cs9 : CS) (r9 : Int32) (h : c_X9_accept_b28 F cs1 u2 y0 y1 y2 = some (cs9, r9)) : NB cs1 cs9 := by
  unfold c_X9_accept_b28 at h
  have hq : NB cs1 cs1 := NB.refl
  replace h := ob h; obtain ⟨cs_1, hv_1, h⟩ := h
  replace hq := hq.trans (NB.pI hv_1)
  replace h := ob h; obtain ⟨w_2, hw_2, h⟩ := h
  have h9 := (Prod.mk.inj (Option.some.inj h)).1
  exact hq.to h9
theorem nb_c_X9_accept_b13 (F : Nat) (cs1 : CS) (u0 : Nat) (y0 : Int32) (cs9 : CS) (r9 : Int32) (h : c_X9_accept_b13 F cs1 u0 y0 = some (cs9, r9)) : NB cs1 cs9 := by
  unfold c_X9_accept_b13 at h
  have hq : NB cs1 cs1 := NB.refl
  replace h := ob h; obtain ⟨v_1, hv_1, h⟩ := h
  by_cases c_2 : y0 = 0
  · skip
    replace h := (if_pos c_2).symm.trans h
    have k9 := nb_c_X9_accept_b28 F cs1 y0 0 v_1 u0 cs9 r9 h
    exact hq.trans k9
  · skip
    replace h := (if_neg c_2).symm.trans h
    have k9 := nb_c_X9_accept_b28 F cs1 y0 1 v_1 u0 cs9 r9 h
    exact hq.trans k9
theorem nb_c_X9_accept (F : Nat) (cs : CS) (x0 : Nat) (x1 : Int32) (cs9 : CS) (r9 : Int32) (h : c_X9_accept F cs x0 x1 = some (cs9, r9)) : NB cs cs9 := by
  unfold c_X9_accept at h
  have hq : NB cs cs := NB.refl
  replace h := ob h; obtain ⟨w_2, hw_2, h⟩ := h
  replace h := ob h; obtain ⟨v_1, hv_1, h⟩ := h
  by_cases c_3 : v_1 = x1
  · skip
    replace h := (if_pos c_3).symm.trans h
    have k9 := nb_c_X9_accept_b13 F cs x0 1 cs9 r9 h
    exact hq.trans k9
  · skip
    replace h := (if_neg c_3).symm.trans h
    have k9 := nb_c_X9_accept_b13 F cs x0 0 cs9 r9 h
    exact hq.trans k9
theorem nb_c_X9_expect_b30 (F : Nat) (cs1 : CS) (cs9 : CS) (h : c_X9_expect_b30 F cs1 = some cs9) : NB cs1 cs9 := by
  unfold c_X9_expect_b30 at h
  have hq : NB cs1 cs1 := NB.refl
  have h9 := Option.some.inj h
  exact hq.to h9
theorem nb_c_X9_expect (F : Nat) (cs : CS) (x0 : Nat) (x1 : Int32) (cs9 : CS) (h : c_X9_expect F cs x0 x1 = some cs9) : NB cs cs9 := by
  unfold c_X9_expect at h
  have hq : NB cs cs := NB.refl
  replace h := ob h; obtain ⟨w_2, hw_2, h⟩ := h
  replace h := ob h; obtain ⟨v_1, hv_1, h⟩ := h
  by_cases c_3 : v_1 = x1
  · skip
    replace h := (if_pos c_3).symm.trans h
    replace h := ob h; obtain ⟨v_4, hv_4, h⟩ := h
    replace h := ob h; obtain ⟨cs_5, hv_5, h⟩ := h
    replace hq := hq.trans (NB.pI hv_5)
    have k9 := nb_c_X9_expect_b30 F cs_5 cs9 h
    exact hq.trans k9
  · skip
    replace h := (if_neg c_3).symm.trans h
    replace h := ob h; obtain ⟨w_7, hw_7, h⟩ := h
    replace h := ob h; obtain ⟨v_6, hv_6, h⟩ := h
    replace h := ob h; obtain ⟨w_9, hw_9, h⟩ := h
    replace h := ob h; obtain ⟨cs_8, hv_8, h⟩ := h
    replace hq := hq.trans (nb_c_X9_refuse F cs x0 1 v_6 cs_8 hv_8)
    have k9 := nb_c_X9_expect_b30 F cs_8 cs9 h
    exact hq.trans k9
theorem nb_c_X9_refuseNinth_b30 (F : Nat) (cs1 : CS) (cs9 : CS) (h : c_X9_refuseNinth_b30 F cs1 = some cs9) : NB cs1 cs9 := by
  unfold c_X9_refuseNinth_b30 at h
  have hq : NB cs1 cs1 := NB.refl
  have h9 := Option.some.inj h
  exact hq.to h9
theorem nb_c_X9_refuseNinth_b23 (F : Nat) (cs1 : CS) (u0 : Nat) (y0 : Int32) (y1 : Nat) (cs9 : CS) (h : c_X9_refuseNinth_b23 F cs1 u0 y0 y1 = some cs9) : NB cs1 cs9 := by
  unfold c_X9_refuseNinth_b23 at h
  have hq : NB cs1 cs1 := NB.refl
  replace h := ob h; obtain ⟨w_2, hw_2, h⟩ := h
  replace h := ob h; obtain ⟨v_1, hv_1, h⟩ := h
  replace h := ob h; obtain ⟨w_4, hw_4, h⟩ := h
  replace h := ob h; obtain ⟨cs_3, hv_3, h⟩ := h
  replace hq := hq.trans (nb_c_X9_refuse F cs1 y1 y0 v_1 cs_3 hv_3)
  have k9 := nb_c_X9_refuseNinth_b30 F cs_3 cs9 h
  exact hq.trans k9
theorem nb_c_X9_refuseNinth (F : Nat) (cs : CS) (x0 : Nat) (x1 : Int32) (x2 : Int32) (cs9 : CS) (h : c_X9_refuseNinth F cs x0 x1 x2 = some cs9) : NB cs cs9 := by
  unfold c_X9_refuseNinth at h
  have hq : NB cs cs := NB.refl
  by_cases c_1 : x1 = 0
  · skip
    replace h := (if_pos c_1).symm.trans h
    have k9 := nb_c_X9_refuseNinth_b30 F cs cs9 h
    exact hq.trans k9
  · skip
    replace h := (if_neg c_1).symm.trans h
    replace h := ob h; obtain ⟨w_3, hw_3, h⟩ := h
    replace h := ob h; obtain ⟨v_2, hv_2, h⟩ := h
    replace h := ob h; obtain ⟨w_5, hw_5, h⟩ := h
    replace h := ob h; obtain ⟨v_4, hv_4, h⟩ := h
    by_cases c_6 : v_4 = 0
    · skip
      replace h := (if_pos c_6).symm.trans h
      have k9 := nb_c_X9_refuseNinth_b23 F cs x0 1 x0 cs9 h
      exact hq.trans k9
    · skip
      replace h := (if_neg c_6).symm.trans h
      have k9 := nb_c_X9_refuseNinth_b23 F cs x0 7 x0 cs9 h
      exact hq.trans k9
theorem nb_c_X9_complete_b50 (F : Nat) (cs1 : CS) (y0 : Int32) (cs9 : CS) (r9 : Int32) (h : c_X9_complete_b50 F cs1 y0 = some (cs9, r9)) : NB cs1 cs9 := by
  unfold c_X9_complete_b50 at h
  have hq : NB cs1 cs1 := NB.refl
  have h9 := (Prod.mk.inj (Option.some.inj h)).1
  exact hq.to h9
theorem nb_c_X9_complete_b27 (F : Nat) (cs1 : CS) (u0 : Nat) (u1 : Int32) (u2 : Int32) (u3 : Int32) (u5 : Int32) (cs9 : CS) (r9 : Int32) (h : c_X9_complete_b27 F cs1 u0 u1 u2 u3 u5 = some (cs9, r9)) : NB cs1 cs9 := by
  unfold c_X9_complete_b27 at h
  have hq : NB cs1 cs1 := NB.refl
  replace h := ob h; obtain ⟨v_1, hv_1, h⟩ := h
  by_cases c_2 : v_1 = 0
  · skip
    replace h := (if_pos c_2).symm.trans h
    replace h := ob h; obtain ⟨v_3, hv_3, h⟩ := h
    replace h := ob h; obtain ⟨i_5, hi_5, h⟩ := h
    subst hi_5
    replace h := ob h; obtain ⟨w_6, hw_6, h⟩ := h
    replace h := ob h; obtain ⟨z_4, hv_4, h⟩ := h
    replace hq := hq.trans (nb_c_X1_add F cs1 i_5 u1 u2 u3 u5 z_4.1 z_4.2 hv_4)
    have k9 := nb_c_X9_complete_b50 F z_4.1 z_4.2 cs9 r9 h
    exact hq.trans k9
  · skip
    replace h := (if_neg c_2).symm.trans h
    have k9 := nb_c_X9_complete_b50 F cs1 (-1) cs9 r9 h
    exact hq.trans k9
theorem nb_c_X9_complete (F : Nat) (cs : CS) (x0 : Nat) (x1 : Int32) (x2 : Int32) (x3 : Int32) (x4 : Int32) (x5 : Int32) (cs9 : CS) (r9 : Int32) (h : c_X9_complete F cs x0 x1 x2 x3 x4 x5 = some (cs9, r9)) : NB cs cs9 := by
  unfold c_X9_complete at h
  have hq : NB cs cs := NB.refl
  replace h := ob h; obtain ⟨v_1, hv_1, h⟩ := h
  by_cases c_2 : v_1 = 0
  · skip
    replace h := (if_pos c_2).symm.trans h
    replace h := ob h; obtain ⟨v_3, hv_3, h⟩ := h
    replace h := ob h; obtain ⟨i_4, hi_4, h⟩ := h
    subst hi_4
    replace h := ob h; obtain ⟨v_5, hv_5, h⟩ := h
    by_cases c_6 : v_5 < 120
    · skip
      replace h := (if_pos c_6).symm.trans h
      have k9 := nb_c_X9_complete_b27 F cs x0 x1 x2 x3 x5 cs9 r9 h
      exact hq.trans k9
    · skip
      replace h := (if_neg c_6).symm.trans h
      replace h := ob h; obtain ⟨w_8, hw_8, h⟩ := h
      replace h := ob h; obtain ⟨cs_7, hv_7, h⟩ := h
      replace hq := hq.trans (nb_c_X9_refuse F cs x0 7 x4 cs_7 hv_7)
      have k9 := nb_c_X9_complete_b27 F cs_7 x0 x1 x2 x3 x5 cs9 r9 h
      exact hq.trans k9
  · skip
    replace h := (if_neg c_2).symm.trans h
    have k9 := nb_c_X9_complete_b27 F cs x0 x1 x2 x3 x5 cs9 r9 h
    exact hq.trans k9
theorem nb_c_X9_readLiteral_b65 (F : Nat) (cs1 : CS) (cs9 : CS) (h : c_X9_readLiteral_b65 F cs1 = some cs9) : NB cs1 cs9 := by
  unfold c_X9_readLiteral_b65 at h
  have hq : NB cs1 cs1 := NB.refl
  have h9 := Option.some.inj h
  exact hq.to h9
theorem nb_c_X9_readLiteral (F : Nat) (cs : CS) (x0 : Nat) (cs9 : CS) (h : c_X9_readLiteral F cs x0 = some cs9) : NB cs cs9 := by
  unfold c_X9_readLiteral at h
  have hq : NB cs cs := NB.refl
  replace h := ob h; obtain ⟨w_2, hw_2, h⟩ := h
  replace h := ob h; obtain ⟨v_1, hv_1, h⟩ := h
  replace h := ob h; obtain ⟨w_4, hw_4, h⟩ := h
  replace h := ob h; obtain ⟨v_3, hv_3, h⟩ := h
  replace h := ob h; obtain ⟨w_6, hw_6, h⟩ := h
  replace h := ob h; obtain ⟨v_5, hv_5, h⟩ := h
  replace h := ob h; obtain ⟨v_7, hv_7, h⟩ := h
  replace h := ob h; obtain ⟨cs_8, hv_8, h⟩ := h
  replace hq := hq.trans (NB.pI hv_8)
  replace h := ob h; obtain ⟨v_9, hv_9, h⟩ := h
  replace h := ob h; obtain ⟨i_10, hi_10, h⟩ := h
  subst hi_10
  replace h := ob h; obtain ⟨v_11, hv_11, h⟩ := h
  replace h := ob h; obtain ⟨w_13, hw_13, h⟩ := h
  replace h := ob h; obtain ⟨z_12, hv_12, h⟩ := h
  replace hq := hq.trans (nb_c_X9_complete F cs_8 x0 v_1 v_11 v_3 v_3 0 z_12.1 z_12.2 hv_12)
  replace h := ob h; obtain ⟨v_14, hv_14, h⟩ := h
  replace h := ob h; obtain ⟨i_16, hi_16, h⟩ := h
  subst hi_16
  replace h := ob h; obtain ⟨w_17, hw_17, h⟩ := h
  replace h := ob h; obtain ⟨v_15, hv_15, h⟩ := h
  by_cases c_18 : v_15 = 0
  · skip
    replace h := (if_pos c_18).symm.trans h
    have k9 := nb_c_X9_readLiteral_b65 F z_12.1 cs9 h
    exact hq.trans k9
  · skip
    replace h := (if_neg c_18).symm.trans h
    replace h := ob h; obtain ⟨v_19, hv_19, h⟩ := h
    replace h := ob h; obtain ⟨i_20, hi_20, h⟩ := h
    subst hi_20
    replace h := ob h; obtain ⟨v_21, hv_21, h⟩ := h
    replace h := ob h; obtain ⟨cs_22, hv_22, h⟩ := h
    replace hq := hq.trans (NB.wB hv_22)
    have k9 := nb_c_X9_readLiteral_b65 F cs_22 cs9 h
    exact hq.trans k9
theorem nb_c_X9_readColumn_b150 (F : Nat) (cs1 : CS) (cs9 : CS) (h : c_X9_readColumn_b150 F cs1 = some cs9) : NB cs1 cs9 := by
  unfold c_X9_readColumn_b150 at h
  have hq : NB cs1 cs1 := NB.refl
  have h9 := Option.some.inj h
  exact hq.to h9
theorem nb_c_X9_readColumn_b97 (F : Nat) (cs1 : CS) (u0 : Nat) (u1 : Int32) (u3 : Int64) (u5 : Int64) (cs9 : CS) (h : c_X9_readColumn_b97 F cs1 u0 u1 u3 u5 = some cs9) : NB cs1 cs9 := by
  unfold c_X9_readColumn_b97 at h
  have hq : NB cs1 cs1 := NB.refl
  replace h := ob h; obtain ⟨v_1, hv_1, h⟩ := h
  replace h := ob h; obtain ⟨i_2, hi_2, h⟩ := h
  subst hi_2
  replace h := ob h; obtain ⟨v_3, hv_3, h⟩ := h
  replace h := ob h; obtain ⟨w_5, hw_5, h⟩ := h
  replace h := ob h; obtain ⟨z_4, hv_4, h⟩ := h
  replace hq := hq.trans (nb_c_X9_complete F cs1 u0 39 v_3 u1 u1 0 z_4.1 z_4.2 hv_4)
  replace h := ob h; obtain ⟨v_6, hv_6, h⟩ := h
  replace h := ob h; obtain ⟨i_8, hi_8, h⟩ := h
  subst hi_8
  replace h := ob h; obtain ⟨w_9, hw_9, h⟩ := h
  replace h := ob h; obtain ⟨v_7, hv_7, h⟩ := h
  by_cases c_10 : v_7 = 0
  · skip
    replace h := (if_pos c_10).symm.trans h
    have k9 := nb_c_X9_readColumn_b150 F z_4.1 cs9 h
    exact hq.trans k9
  · skip
    replace h := (if_neg c_10).symm.trans h
    replace h := ob h; obtain ⟨v_11, hv_11, h⟩ := h
    replace h := ob h; obtain ⟨i_12, hi_12, h⟩ := h
    subst hi_12
    replace h := ob h; obtain ⟨v_13, hv_13, h⟩ := h
    replace h := ob h; obtain ⟨cs_14, hv_14, h⟩ := h
    replace hq := hq.trans (NB.wB hv_14)
    replace h := ob h; obtain ⟨v_15, hv_15, h⟩ := h
    replace h := ob h; obtain ⟨i_16, hi_16, h⟩ := h
    subst hi_16
    replace h := ob h; obtain ⟨v_17, hv_17, h⟩ := h
    replace h := ob h; obtain ⟨cs_18, hv_18, h⟩ := h
    replace hq := hq.trans (NB.wB hv_18)
    have k9 := nb_c_X9_readColumn_b150 F cs_18 cs9 h
    exact hq.trans k9
theorem nb_c_X9_readColumn_b81 (F : Nat) (cs1 : CS) (u0 : Nat) (u1 : Int32) (u5 : Int64) (y0 : Int64) (cs9 : CS) (h : c_X9_readColumn_b81 F cs1 u0 u1 u5 y0 = some cs9) : NB cs1 cs9 := by
  unfold c_X9_readColumn_b81 at h
  have hq : NB cs1 cs1 := NB.refl
  replace h := ob h; obtain ⟨w_2, hw_2, h⟩ := h
  replace h := ob h; obtain ⟨z_1, hv_1, h⟩ := h
  replace hq := hq.trans (nb_c_X9_accept F cs1 u0 38 z_1.1 z_1.2 hv_1)
  by_cases c_3 : z_1.2 = 0
  · skip
    replace h := (if_pos c_3).symm.trans h
    replace h := ob h; obtain ⟨w_5, hw_5, h⟩ := h
    replace h := ob h; obtain ⟨cs_4, hv_4, h⟩ := h
    replace hq := hq.trans (nb_c_X9_expect F z_1.1 u0 39 cs_4 hv_4)
    have k9 := nb_c_X9_readColumn_b97 F cs_4 u0 u1 y0 u5 cs9 h
    exact hq.trans k9
  · skip
    replace h := (if_neg c_3).symm.trans h
    have k9 := nb_c_X9_readColumn_b97 F z_1.1 u0 u1 y0 u5 cs9 h
    exact hq.trans k9
theorem nb_c_X9_readColumn_b32 (F : Nat) (cs1 : CS) (u0 : Nat) (u1 : Int32) (u2 : Int32) (y0 : Int64) (cs9 : CS) (h : c_X9_readColumn_b32 F cs1 u0 u1 u2 y0 = some cs9) : NB cs1 cs9 := by
  unfold c_X9_readColumn_b32 at h
  have hq : NB cs1 cs1 := NB.refl
  replace h := ob h; obtain ⟨v_1, hv_1, h⟩ := h
  replace h := ob h; obtain ⟨cs_2, hv_2, h⟩ := h
  replace hq := hq.trans (NB.pI hv_2)
  by_cases c_3 : u2 = 0
  · skip
    replace h := (if_pos c_3).symm.trans h
    replace h := ob h; obtain ⟨w_5, hw_5, h⟩ := h
    replace h := ob h; obtain ⟨z_4, hv_4, h⟩ := h
    replace hq := hq.trans (nb_c_X9_accept F cs_2 u0 44 z_4.1 z_4.2 hv_4)
    by_cases c_6 : z_4.2 = 0
    · skip
      replace h := (if_pos c_6).symm.trans h
      have k9 := nb_c_X9_readColumn_b97 F z_4.1 u0 u1 y0 (-1) cs9 h
      exact hq.trans k9
    · skip
      replace h := (if_neg c_6).symm.trans h
      replace h := ob h; obtain ⟨w_8, hw_8, h⟩ := h
      replace h := ob h; obtain ⟨v_7, hv_7, h⟩ := h
      by_cases c_9 : v_7 = 38
      · skip
        replace h := (if_pos c_9).symm.trans h
        have k9 := nb_c_X9_readColumn_b81 F z_4.1 u0 u1 y0 0 cs9 h
        exact hq.trans k9
      · skip
        replace h := (if_neg c_9).symm.trans h
        replace h := ob h; obtain ⟨w_11, hw_11, h⟩ := h
        replace h := ob h; obtain ⟨v_10, hv_10, h⟩ := h
        have k9 := nb_c_X9_readColumn_b81 F z_4.1 u0 u1 y0 v_10 cs9 h
        exact hq.trans k9
  · skip
    replace h := (if_neg c_3).symm.trans h
    have k9 := nb_c_X9_readColumn_b97 F cs_2 u0 u1 y0 (-1) cs9 h
    exact hq.trans k9
theorem nb_c_X9_readColumn_b19 (F : Nat) (cs1 : CS) (u0 : Nat) (u1 : Int32) (y0 : Int32) (cs9 : CS) (h : c_X9_readColumn_b19 F cs1 u0 u1 y0 = some cs9) : NB cs1 cs9 := by
  unfold c_X9_readColumn_b19 at h
  have hq : NB cs1 cs1 := NB.refl
  by_cases c_1 : y0 = 0
  · skip
    replace h := (if_pos c_1).symm.trans h
    replace h := ob h; obtain ⟨w_3, hw_3, h⟩ := h
    replace h := ob h; obtain ⟨v_2, hv_2, h⟩ := h
    have k9 := nb_c_X9_readColumn_b32 F cs1 u0 u1 y0 v_2 cs9 h
    exact hq.trans k9
  · skip
    replace h := (if_neg c_1).symm.trans h
    have k9 := nb_c_X9_readColumn_b32 F cs1 u0 u1 y0 0 cs9 h
    exact hq.trans k9
theorem nb_c_X9_readColumn (F : Nat) (cs : CS) (x0 : Nat) (cs9 : CS) (h : c_X9_readColumn F cs x0 = some cs9) : NB cs cs9 := by
  unfold c_X9_readColumn at h
  have hq : NB cs cs := NB.refl
  replace h := ob h; obtain ⟨w_2, hw_2, h⟩ := h
  replace h := ob h; obtain ⟨v_1, hv_1, h⟩ := h
  replace h := ob h; obtain ⟨w_4, hw_4, h⟩ := h
  replace h := ob h; obtain ⟨v_3, hv_3, h⟩ := h
  by_cases c_5 : v_3 = 38
  · skip
    replace h := (if_pos c_5).symm.trans h
    have k9 := nb_c_X9_readColumn_b19 F cs x0 v_1 1 cs9 h
    exact hq.trans k9
  · skip
    replace h := (if_neg c_5).symm.trans h
    have k9 := nb_c_X9_readColumn_b19 F cs x0 v_1 0 cs9 h
    exact hq.trans k9
theorem nb_c_X9_deepen_b19 (F : Nat) (cs1 : CS) (u0 : Nat) (cs9 : CS) (h : c_X9_deepen_b19 F cs1 u0 = some cs9) : NB cs1 cs9 := by
  unfold c_X9_deepen_b19 at h
  have hq : NB cs1 cs1 := NB.refl
  replace h := ob h; obtain ⟨v_1, hv_1, h⟩ := h
  replace h := ob h; obtain ⟨cs_2, hv_2, h⟩ := h
  replace hq := hq.trans (NB.pI hv_2)
  have h9 := Option.some.inj h
  exact hq.to h9
theorem nb_c_X9_deepen (F : Nat) (cs : CS) (x0 : Nat) (cs9 : CS) (h : c_X9_deepen F cs x0 = some cs9) : NB cs cs9 := by
  unfold c_X9_deepen at h
  have hq : NB cs cs := NB.refl
  replace h := ob h; obtain ⟨v_1, hv_1, h⟩ := h
  by_cases c_2 : v_1 < 12
  · skip
    replace h := (if_pos c_2).symm.trans h
    have k9 := nb_c_X9_deepen_b19 F cs x0 cs9 h
    exact hq.trans k9
  · skip
    replace h := (if_neg c_2).symm.trans h
    replace h := ob h; obtain ⟨w_4, hw_4, h⟩ := h
    replace h := ob h; obtain ⟨v_3, hv_3, h⟩ := h
    replace h := ob h; obtain ⟨w_6, hw_6, h⟩ := h
    replace h := ob h; obtain ⟨cs_5, hv_5, h⟩ := h
    replace hq := hq.trans (nb_c_X9_refuse F cs x0 7 v_3 cs_5 hv_5)
    have k9 := nb_c_X9_deepen_b19 F cs_5 x0 cs9 h
    exact hq.trans k9
theorem nb_c_X9_noteAggregate_b23 (F : Nat) (cs1 : CS) (cs9 : CS) (h : c_X9_noteAggregate_b23 F cs1 = some cs9) : NB cs1 cs9 := by
  unfold c_X9_noteAggregate_b23 at h
  have hq : NB cs1 cs1 := NB.refl
  have h9 := Option.some.inj h
  exact hq.to h9
theorem nb_c_X9_noteAggregate_b70 (F : Nat) (cs1 : CS) (cs9 : CS) (h : c_X9_noteAggregate_b70 F cs1 = some cs9) : NB cs1 cs9 := by
  unfold c_X9_noteAggregate_b70 at h
  have hq : NB cs1 cs1 := NB.refl
  have h9 := Option.some.inj h
  exact hq.to h9
theorem nb_c_X9_noteAggregate (F : Nat) (cs : CS) (x0 : Nat) (x1 : Nat) (x2 : Int32) (x3 : Int32) (cs9 : CS) (h : c_X9_noteAggregate F cs x0 x1 x2 x3 = some cs9) : NB cs cs9 := by
  unfold c_X9_noteAggregate at h
  have hq : NB cs cs := NB.refl
  replace h := ob h; obtain ⟨v_1, hv_1, h⟩ := h
  replace h := ob h; obtain ⟨i_3, hi_3, h⟩ := h
  subst hi_3
  replace h := ob h; obtain ⟨w_4, hw_4, h⟩ := h
  replace h := ob h; obtain ⟨v_2, hv_2, h⟩ := h
  by_cases c_5 : v_2 = 0
  · skip
    replace h := (if_pos c_5).symm.trans h
    have k9 := nb_c_X9_noteAggregate_b23 F cs cs9 h
    exact hq.trans k9
  · skip
    replace h := (if_neg c_5).symm.trans h
    replace h := ob h; obtain ⟨v_6, hv_6, h⟩ := h
    replace h := ob h; obtain ⟨v_7, hv_7, h⟩ := h
    replace h := ob h; obtain ⟨v_8, hv_8, h⟩ := h
    by_cases c_9 : v_6 < v_8
    · skip
      replace h := (if_pos c_9).symm.trans h
      replace h := ob h; obtain ⟨v_10, hv_10, h⟩ := h
      replace h := ob h; obtain ⟨v_11, hv_11, h⟩ := h
      replace h := ob h; obtain ⟨cs_12, hv_12, h⟩ := h
      replace hq := hq.trans (NB.wA hv_12)
      replace h := ob h; obtain ⟨v_13, hv_13, h⟩ := h
      replace h := ob h; obtain ⟨cs_14, hv_14, h⟩ := h
      replace hq := hq.trans (NB.pI hv_14)
      replace h := ob h; obtain ⟨v_15, hv_15, h⟩ := h
      replace h := ob h; obtain ⟨i_17, hi_17, h⟩ := h
      subst hi_17
      replace h := ob h; obtain ⟨w_18, hw_18, h⟩ := h
      replace h := ob h; obtain ⟨v_16, hv_16, h⟩ := h
      by_cases c_19 : v_16 = 0
      · skip
        replace h := (if_pos c_19).symm.trans h
        have k9 := nb_c_X9_noteAggregate_b70 F cs_14 cs9 h
        exact hq.trans k9
      · skip
        replace h := (if_neg c_19).symm.trans h
        by_cases c_20 : x2 ≤ x3
        · skip
          replace h := (if_pos c_20).symm.trans h
          have k9 := nb_c_X9_noteAggregate_b70 F cs_14 cs9 h
          exact hq.trans k9
        · skip
          replace h := (if_neg c_20).symm.trans h
          replace h := ob h; obtain ⟨v_21, hv_21, h⟩ := h
          replace h := ob h; obtain ⟨i_22, hi_22, h⟩ := h
          subst hi_22
          replace h := ob h; obtain ⟨v_23, hv_23, h⟩ := h
          replace h := ob h; obtain ⟨cs_24, hv_24, h⟩ := h
          replace hq := hq.trans (NB.wA hv_24)
          have k9 := nb_c_X9_noteAggregate_b70 F cs_24 cs9 h
          exact hq.trans k9
    · skip
      replace h := (if_neg c_9).symm.trans h
      have k9 := nb_c_X9_noteAggregate_b23 F cs cs9 h
      exact hq.trans k9
theorem nb_c_X9_readExpr_b73 (F : Nat) (T : TC_X9_readExpr) (hM_X9_readExpr : ∀ (cs : CS) (x0 : Nat) (cs9 : CS) (r9 : Int32), T.1 cs x0 = some (cs9, r9) → NB cs cs9) (hM_X9_readConjunction : ∀ (cs : CS) (x0 : Nat) (cs9 : CS), T.2.1 cs x0 = some cs9 → NB cs cs9) (hM_X9_readNegation : ∀ (cs : CS) (x0 : Nat) (cs9 : CS), T.2.2.1 cs x0 = some cs9 → NB cs cs9) (hM_X9_readTest : ∀ (cs : CS) (x0 : Nat) (cs9 : CS), T.2.2.2.1 cs x0 = some cs9 → NB cs cs9) (hM_X9_readSum : ∀ (cs : CS) (x0 : Nat) (cs9 : CS), T.2.2.2.2.1 cs x0 = some cs9 → NB cs cs9) (hM_X9_readPart : ∀ (cs : CS) (x0 : Nat) (cs9 : CS), T.2.2.2.2.2.1 cs x0 = some cs9 → NB cs cs9) (hM_X9_readSign : ∀ (cs : CS) (x0 : Nat) (cs9 : CS), T.2.2.2.2.2.2.1 cs x0 = some cs9 → NB cs cs9) (hM_X9_readOne : ∀ (cs : CS) (x0 : Nat) (cs9 : CS), T.2.2.2.2.2.2.2.1 cs x0 = some cs9 → NB cs cs9) (hM_X9_readCase : ∀ (cs : CS) (x0 : Nat) (cs9 : CS), T.2.2.2.2.2.2.2.2.1 cs x0 = some cs9 → NB cs cs9) (hM_X9_readSpan : ∀ (cs : CS) (x0 : Nat) (cs9 : CS), T.2.2.2.2.2.2.2.2.2.1 cs x0 = some cs9 → NB cs cs9) (hM_X9_readAggregate : ∀ (cs : CS) (x0 : Nat) (cs9 : CS), T.2.2.2.2.2.2.2.2.2.2.1 cs x0 = some cs9 → NB cs cs9) (hM_X9_readList : ∀ (cs : CS) (x0 : Nat) (x1 : Int32) (x2 : Int32) (x3 : Int32) (x4 : Int32) (cs9 : CS), T.2.2.2.2.2.2.2.2.2.2.2 cs x0 x1 x2 x3 x4 = some cs9 → NB cs cs9) (cs1 : CS) (u0 : Nat) (cs9 : CS) (r9 : Int32) (h : c_X9_readExpr_b73 F T cs1 u0 = some (cs9, r9)) : NB cs1 cs9 := by
  unfold c_X9_readExpr_b73 at h
  have hq : NB cs1 cs1 := NB.refl
  replace h := ob h; obtain ⟨v_1, hv_1, h⟩ := h
  replace h := ob h; obtain ⟨i_2, hi_2, h⟩ := h
  subst hi_2
  replace h := ob h; obtain ⟨v_3, hv_3, h⟩ := h
  have h9 := (Prod.mk.inj (Option.some.inj h)).1
  exact hq.to h9
theorem nb_c_X9_readExpr_L19 (F : Nat) (T : TC_X9_readExpr) (hM_X9_readExpr : ∀ (cs : CS) (x0 : Nat) (cs9 : CS) (r9 : Int32), T.1 cs x0 = some (cs9, r9) → NB cs cs9) (hM_X9_readConjunction : ∀ (cs : CS) (x0 : Nat) (cs9 : CS), T.2.1 cs x0 = some cs9 → NB cs cs9) (hM_X9_readNegation : ∀ (cs : CS) (x0 : Nat) (cs9 : CS), T.2.2.1 cs x0 = some cs9 → NB cs cs9) (hM_X9_readTest : ∀ (cs : CS) (x0 : Nat) (cs9 : CS), T.2.2.2.1 cs x0 = some cs9 → NB cs cs9) (hM_X9_readSum : ∀ (cs : CS) (x0 : Nat) (cs9 : CS), T.2.2.2.2.1 cs x0 = some cs9 → NB cs cs9) (hM_X9_readPart : ∀ (cs : CS) (x0 : Nat) (cs9 : CS), T.2.2.2.2.2.1 cs x0 = some cs9 → NB cs cs9) (hM_X9_readSign : ∀ (cs : CS) (x0 : Nat) (cs9 : CS), T.2.2.2.2.2.2.1 cs x0 = some cs9 → NB cs cs9) (hM_X9_readOne : ∀ (cs : CS) (x0 : Nat) (cs9 : CS), T.2.2.2.2.2.2.2.1 cs x0 = some cs9 → NB cs cs9) (hM_X9_readCase : ∀ (cs : CS) (x0 : Nat) (cs9 : CS), T.2.2.2.2.2.2.2.2.1 cs x0 = some cs9 → NB cs cs9) (hM_X9_readSpan : ∀ (cs : CS) (x0 : Nat) (cs9 : CS), T.2.2.2.2.2.2.2.2.2.1 cs x0 = some cs9 → NB cs cs9) (hM_X9_readAggregate : ∀ (cs : CS) (x0 : Nat) (cs9 : CS), T.2.2.2.2.2.2.2.2.2.2.1 cs x0 = some cs9 → NB cs cs9) (hM_X9_readList : ∀ (cs : CS) (x0 : Nat) (x1 : Int32) (x2 : Int32) (x3 : Int32) (x4 : Int32) (cs9 : CS), T.2.2.2.2.2.2.2.2.2.2.2 cs x0 x1 x2 x3 x4 = some cs9 → NB cs cs9) : ∀ (lf_19 : Nat) (cs1 : CS) (u0 : Nat) (u1 : Int32) (u2 : Int32) (u3 : Int32) (cs9 : CS) (r9 : Int32), c_X9_readExpr_L19 F T lf_19 cs1 u0 u1 u2 u3 = some (cs9, r9) → NB cs1 cs9 := by
  intro lf_19
  induction lf_19 with
  | zero => intro cs1 u0 u1 u2 u3 cs9 r9 h; cases (show (none : Option (CS × Int32)) = _ from h)
  | succ lf_19 ih_19 =>
    intro cs1 u0 u1 u2 u3 cs9 r9 h
    rw [c_X9_readExpr_L19] at h
    have hq : NB cs1 cs1 := NB.refl
    by_cases c_1 : 2000 ≤ u3
    · skip
      replace h := (if_pos c_1).symm.trans h
      have k9 := nb_c_X9_readExpr_b73 F T hM_X9_readExpr hM_X9_readConjunction hM_X9_readNegation hM_X9_readTest hM_X9_readSum hM_X9_readPart hM_X9_readSign hM_X9_readOne hM_X9_readCase hM_X9_readSpan hM_X9_readAggregate hM_X9_readList cs1 u0 cs9 r9 h
      exact hq.trans k9
    · skip
      replace h := (if_neg c_1).symm.trans h
      replace h := ob h; obtain ⟨w_3, hw_3, h⟩ := h
      replace h := ob h; obtain ⟨v_2, hv_2, h⟩ := h
      by_cases c_4 : v_2 = 29
      · skip
        replace h := (if_pos c_4).symm.trans h
        replace h := ob h; obtain ⟨w_6, hw_6, h⟩ := h
        replace h := ob h; obtain ⟨v_5, hv_5, h⟩ := h
        replace h := ob h; obtain ⟨v_7, hv_7, h⟩ := h
        replace h := ob h; obtain ⟨cs_8, hv_8, h⟩ := h
        replace hq := hq.trans (NB.pI hv_8)
        replace h := ob h; obtain ⟨w_10, hw_10, h⟩ := h
        replace h := ob h; obtain ⟨cs_9, hv_9, h⟩ := h
        replace hq := hq.trans (hM_X9_readConjunction cs_8 u0 cs_9 hv_9)
        replace h := ob h; obtain ⟨w_12, hw_12, h⟩ := h
        replace h := ob h; obtain ⟨z_11, hv_11, h⟩ := h
        replace hq := hq.trans (nb_c_X9_complete F cs_9 u0 29 u1 u2 v_5 2 z_11.1 z_11.2 hv_11)
        have k9 := ih_19 z_11.1 u0 u1 u2 (u3 + 1) cs9 r9 h
        exact hq.trans k9
      · skip
        replace h := (if_neg c_4).symm.trans h
        have k9 := nb_c_X9_readExpr_b73 F T hM_X9_readExpr hM_X9_readConjunction hM_X9_readNegation hM_X9_readTest hM_X9_readSum hM_X9_readPart hM_X9_readSign hM_X9_readOne hM_X9_readCase hM_X9_readSpan hM_X9_readAggregate hM_X9_readList cs1 u0 cs9 r9 h
        exact hq.trans k9
theorem nb_cb_X9_readExpr (F : Nat) (T : TC_X9_readExpr) (hM_X9_readExpr : ∀ (cs : CS) (x0 : Nat) (cs9 : CS) (r9 : Int32), T.1 cs x0 = some (cs9, r9) → NB cs cs9) (hM_X9_readConjunction : ∀ (cs : CS) (x0 : Nat) (cs9 : CS), T.2.1 cs x0 = some cs9 → NB cs cs9) (hM_X9_readNegation : ∀ (cs : CS) (x0 : Nat) (cs9 : CS), T.2.2.1 cs x0 = some cs9 → NB cs cs9) (hM_X9_readTest : ∀ (cs : CS) (x0 : Nat) (cs9 : CS), T.2.2.2.1 cs x0 = some cs9 → NB cs cs9) (hM_X9_readSum : ∀ (cs : CS) (x0 : Nat) (cs9 : CS), T.2.2.2.2.1 cs x0 = some cs9 → NB cs cs9) (hM_X9_readPart : ∀ (cs : CS) (x0 : Nat) (cs9 : CS), T.2.2.2.2.2.1 cs x0 = some cs9 → NB cs cs9) (hM_X9_readSign : ∀ (cs : CS) (x0 : Nat) (cs9 : CS), T.2.2.2.2.2.2.1 cs x0 = some cs9 → NB cs cs9) (hM_X9_readOne : ∀ (cs : CS) (x0 : Nat) (cs9 : CS), T.2.2.2.2.2.2.2.1 cs x0 = some cs9 → NB cs cs9) (hM_X9_readCase : ∀ (cs : CS) (x0 : Nat) (cs9 : CS), T.2.2.2.2.2.2.2.2.1 cs x0 = some cs9 → NB cs cs9) (hM_X9_readSpan : ∀ (cs : CS) (x0 : Nat) (cs9 : CS), T.2.2.2.2.2.2.2.2.2.1 cs x0 = some cs9 → NB cs cs9) (hM_X9_readAggregate : ∀ (cs : CS) (x0 : Nat) (cs9 : CS), T.2.2.2.2.2.2.2.2.2.2.1 cs x0 = some cs9 → NB cs cs9) (hM_X9_readList : ∀ (cs : CS) (x0 : Nat) (x1 : Int32) (x2 : Int32) (x3 : Int32) (x4 : Int32) (cs9 : CS), T.2.2.2.2.2.2.2.2.2.2.2 cs x0 x1 x2 x3 x4 = some cs9 → NB cs cs9) (cs : CS) (x0 : Nat) (cs9 : CS) (r9 : Int32) (h : cb_X9_readExpr F T cs x0 = some (cs9, r9)) : NB cs cs9 := by
  unfold cb_X9_readExpr at h
  have hq : NB cs cs := NB.refl
  replace h := ob h; obtain ⟨v_1, hv_1, h⟩ := h
  replace h := ob h; obtain ⟨i_2, hi_2, h⟩ := h
  subst hi_2
  replace h := ob h; obtain ⟨v_3, hv_3, h⟩ := h
  replace h := ob h; obtain ⟨w_5, hw_5, h⟩ := h
  replace h := ob h; obtain ⟨v_4, hv_4, h⟩ := h
  replace h := ob h; obtain ⟨w_7, hw_7, h⟩ := h
  replace h := ob h; obtain ⟨cs_6, hv_6, h⟩ := h
  replace hq := hq.trans (hM_X9_readConjunction cs x0 cs_6 hv_6)
  have k9 := nb_c_X9_readExpr_L19 F T hM_X9_readExpr hM_X9_readConjunction hM_X9_readNegation hM_X9_readTest hM_X9_readSum hM_X9_readPart hM_X9_readSign hM_X9_readOne hM_X9_readCase hM_X9_readSpan hM_X9_readAggregate hM_X9_readList F cs_6 x0 v_3 v_4 0 cs9 r9 h
  exact hq.trans k9
theorem nb_c_X9_readConjunction_b73 (F : Nat) (T : TC_X9_readExpr) (hM_X9_readExpr : ∀ (cs : CS) (x0 : Nat) (cs9 : CS) (r9 : Int32), T.1 cs x0 = some (cs9, r9) → NB cs cs9) (hM_X9_readConjunction : ∀ (cs : CS) (x0 : Nat) (cs9 : CS), T.2.1 cs x0 = some cs9 → NB cs cs9) (hM_X9_readNegation : ∀ (cs : CS) (x0 : Nat) (cs9 : CS), T.2.2.1 cs x0 = some cs9 → NB cs cs9) (hM_X9_readTest : ∀ (cs : CS) (x0 : Nat) (cs9 : CS), T.2.2.2.1 cs x0 = some cs9 → NB cs cs9) (hM_X9_readSum : ∀ (cs : CS) (x0 : Nat) (cs9 : CS), T.2.2.2.2.1 cs x0 = some cs9 → NB cs cs9) (hM_X9_readPart : ∀ (cs : CS) (x0 : Nat) (cs9 : CS), T.2.2.2.2.2.1 cs x0 = some cs9 → NB cs cs9) (hM_X9_readSign : ∀ (cs : CS) (x0 : Nat) (cs9 : CS), T.2.2.2.2.2.2.1 cs x0 = some cs9 → NB cs cs9) (hM_X9_readOne : ∀ (cs : CS) (x0 : Nat) (cs9 : CS), T.2.2.2.2.2.2.2.1 cs x0 = some cs9 → NB cs cs9) (hM_X9_readCase : ∀ (cs : CS) (x0 : Nat) (cs9 : CS), T.2.2.2.2.2.2.2.2.1 cs x0 = some cs9 → NB cs cs9) (hM_X9_readSpan : ∀ (cs : CS) (x0 : Nat) (cs9 : CS), T.2.2.2.2.2.2.2.2.2.1 cs x0 = some cs9 → NB cs cs9) (hM_X9_readAggregate : ∀ (cs : CS) (x0 : Nat) (cs9 : CS), T.2.2.2.2.2.2.2.2.2.2.1 cs x0 = some cs9 → NB cs cs9) (hM_X9_readList : ∀ (cs : CS) (x0 : Nat) (x1 : Int32) (x2 : Int32) (x3 : Int32) (x4 : Int32) (cs9 : CS), T.2.2.2.2.2.2.2.2.2.2.2 cs x0 x1 x2 x3 x4 = some cs9 → NB cs cs9) (cs1 : CS) (cs9 : CS) (h : c_X9_readConjunction_b73 F T cs1 = some cs9) : NB cs1 cs9 := by
  unfold c_X9_readConjunction_b73 at h
  have hq : NB cs1 cs1 := NB.refl
  have h9 := Option.some.inj h
  exact hq.to h9
theorem nb_c_X9_readConjunction_L19 (F : Nat) (T : TC_X9_readExpr) (hM_X9_readExpr : ∀ (cs : CS) (x0 : Nat) (cs9 : CS) (r9 : Int32), T.1 cs x0 = some (cs9, r9) → NB cs cs9) (hM_X9_readConjunction : ∀ (cs : CS) (x0 : Nat) (cs9 : CS), T.2.1 cs x0 = some cs9 → NB cs cs9) (hM_X9_readNegation : ∀ (cs : CS) (x0 : Nat) (cs9 : CS), T.2.2.1 cs x0 = some cs9 → NB cs cs9) (hM_X9_readTest : ∀ (cs : CS) (x0 : Nat) (cs9 : CS), T.2.2.2.1 cs x0 = some cs9 → NB cs cs9) (hM_X9_readSum : ∀ (cs : CS) (x0 : Nat) (cs9 : CS), T.2.2.2.2.1 cs x0 = some cs9 → NB cs cs9) (hM_X9_readPart : ∀ (cs : CS) (x0 : Nat) (cs9 : CS), T.2.2.2.2.2.1 cs x0 = some cs9 → NB cs cs9) (hM_X9_readSign : ∀ (cs : CS) (x0 : Nat) (cs9 : CS), T.2.2.2.2.2.2.1 cs x0 = some cs9 → NB cs cs9) (hM_X9_readOne : ∀ (cs : CS) (x0 : Nat) (cs9 : CS), T.2.2.2.2.2.2.2.1 cs x0 = some cs9 → NB cs cs9) (hM_X9_readCase : ∀ (cs : CS) (x0 : Nat) (cs9 : CS), T.2.2.2.2.2.2.2.2.1 cs x0 = some cs9 → NB cs cs9) (hM_X9_readSpan : ∀ (cs : CS) (x0 : Nat) (cs9 : CS), T.2.2.2.2.2.2.2.2.2.1 cs x0 = some cs9 → NB cs cs9) (hM_X9_readAggregate : ∀ (cs : CS) (x0 : Nat) (cs9 : CS), T.2.2.2.2.2.2.2.2.2.2.1 cs x0 = some cs9 → NB cs cs9) (hM_X9_readList : ∀ (cs : CS) (x0 : Nat) (x1 : Int32) (x2 : Int32) (x3 : Int32) (x4 : Int32) (cs9 : CS), T.2.2.2.2.2.2.2.2.2.2.2 cs x0 x1 x2 x3 x4 = some cs9 → NB cs cs9) : ∀ (lf_19 : Nat) (cs1 : CS) (u0 : Nat) (u1 : Int32) (u2 : Int32) (u3 : Int32) (cs9 : CS), c_X9_readConjunction_L19 F T lf_19 cs1 u0 u1 u2 u3 = some cs9 → NB cs1 cs9 := by
  intro lf_19
  induction lf_19 with
  | zero => intro cs1 u0 u1 u2 u3 cs9 h; cases (show (none : Option CS) = _ from h)
  | succ lf_19 ih_19 =>
    intro cs1 u0 u1 u2 u3 cs9 h
    rw [c_X9_readConjunction_L19] at h
    have hq : NB cs1 cs1 := NB.refl
    by_cases c_1 : 2000 ≤ u3
    · skip
      replace h := (if_pos c_1).symm.trans h
      have k9 := nb_c_X9_readConjunction_b73 F T hM_X9_readExpr hM_X9_readConjunction hM_X9_readNegation hM_X9_readTest hM_X9_readSum hM_X9_readPart hM_X9_readSign hM_X9_readOne hM_X9_readCase hM_X9_readSpan hM_X9_readAggregate hM_X9_readList cs1 cs9 h
      exact hq.trans k9
    · skip
      replace h := (if_neg c_1).symm.trans h
      replace h := ob h; obtain ⟨w_3, hw_3, h⟩ := h
      replace h := ob h; obtain ⟨v_2, hv_2, h⟩ := h
      by_cases c_4 : v_2 = 28
      · skip
        replace h := (if_pos c_4).symm.trans h
        replace h := ob h; obtain ⟨w_6, hw_6, h⟩ := h
        replace h := ob h; obtain ⟨v_5, hv_5, h⟩ := h
        replace h := ob h; obtain ⟨v_7, hv_7, h⟩ := h
        replace h := ob h; obtain ⟨cs_8, hv_8, h⟩ := h
        replace hq := hq.trans (NB.pI hv_8)
        replace h := ob h; obtain ⟨w_10, hw_10, h⟩ := h
        replace h := ob h; obtain ⟨cs_9, hv_9, h⟩ := h
        replace hq := hq.trans (hM_X9_readNegation cs_8 u0 cs_9 hv_9)
        replace h := ob h; obtain ⟨w_12, hw_12, h⟩ := h
        replace h := ob h; obtain ⟨z_11, hv_11, h⟩ := h
        replace hq := hq.trans (nb_c_X9_complete F cs_9 u0 28 u1 u2 v_5 2 z_11.1 z_11.2 hv_11)
        have k9 := ih_19 z_11.1 u0 u1 u2 (u3 + 1) cs9 h
        exact hq.trans k9
      · skip
        replace h := (if_neg c_4).symm.trans h
        have k9 := nb_c_X9_readConjunction_b73 F T hM_X9_readExpr hM_X9_readConjunction hM_X9_readNegation hM_X9_readTest hM_X9_readSum hM_X9_readPart hM_X9_readSign hM_X9_readOne hM_X9_readCase hM_X9_readSpan hM_X9_readAggregate hM_X9_readList cs1 cs9 h
        exact hq.trans k9
theorem nb_cb_X9_readConjunction (F : Nat) (T : TC_X9_readExpr) (hM_X9_readExpr : ∀ (cs : CS) (x0 : Nat) (cs9 : CS) (r9 : Int32), T.1 cs x0 = some (cs9, r9) → NB cs cs9) (hM_X9_readConjunction : ∀ (cs : CS) (x0 : Nat) (cs9 : CS), T.2.1 cs x0 = some cs9 → NB cs cs9) (hM_X9_readNegation : ∀ (cs : CS) (x0 : Nat) (cs9 : CS), T.2.2.1 cs x0 = some cs9 → NB cs cs9) (hM_X9_readTest : ∀ (cs : CS) (x0 : Nat) (cs9 : CS), T.2.2.2.1 cs x0 = some cs9 → NB cs cs9) (hM_X9_readSum : ∀ (cs : CS) (x0 : Nat) (cs9 : CS), T.2.2.2.2.1 cs x0 = some cs9 → NB cs cs9) (hM_X9_readPart : ∀ (cs : CS) (x0 : Nat) (cs9 : CS), T.2.2.2.2.2.1 cs x0 = some cs9 → NB cs cs9) (hM_X9_readSign : ∀ (cs : CS) (x0 : Nat) (cs9 : CS), T.2.2.2.2.2.2.1 cs x0 = some cs9 → NB cs cs9) (hM_X9_readOne : ∀ (cs : CS) (x0 : Nat) (cs9 : CS), T.2.2.2.2.2.2.2.1 cs x0 = some cs9 → NB cs cs9) (hM_X9_readCase : ∀ (cs : CS) (x0 : Nat) (cs9 : CS), T.2.2.2.2.2.2.2.2.1 cs x0 = some cs9 → NB cs cs9) (hM_X9_readSpan : ∀ (cs : CS) (x0 : Nat) (cs9 : CS), T.2.2.2.2.2.2.2.2.2.1 cs x0 = some cs9 → NB cs cs9) (hM_X9_readAggregate : ∀ (cs : CS) (x0 : Nat) (cs9 : CS), T.2.2.2.2.2.2.2.2.2.2.1 cs x0 = some cs9 → NB cs cs9) (hM_X9_readList : ∀ (cs : CS) (x0 : Nat) (x1 : Int32) (x2 : Int32) (x3 : Int32) (x4 : Int32) (cs9 : CS), T.2.2.2.2.2.2.2.2.2.2.2 cs x0 x1 x2 x3 x4 = some cs9 → NB cs cs9) (cs : CS) (x0 : Nat) (cs9 : CS) (h : cb_X9_readConjunction F T cs x0 = some cs9) : NB cs cs9 := by
  unfold cb_X9_readConjunction at h
  have hq : NB cs cs := NB.refl
  replace h := ob h; obtain ⟨v_1, hv_1, h⟩ := h
  replace h := ob h; obtain ⟨i_2, hi_2, h⟩ := h
  subst hi_2
  replace h := ob h; obtain ⟨v_3, hv_3, h⟩ := h
  replace h := ob h; obtain ⟨w_5, hw_5, h⟩ := h
  replace h := ob h; obtain ⟨v_4, hv_4, h⟩ := h
  replace h := ob h; obtain ⟨w_7, hw_7, h⟩ := h
  replace h := ob h; obtain ⟨cs_6, hv_6, h⟩ := h
  replace hq := hq.trans (hM_X9_readNegation cs x0 cs_6 hv_6)
  have k9 := nb_c_X9_readConjunction_L19 F T hM_X9_readExpr hM_X9_readConjunction hM_X9_readNegation hM_X9_readTest hM_X9_readSum hM_X9_readPart hM_X9_readSign hM_X9_readOne hM_X9_readCase hM_X9_readSpan hM_X9_readAggregate hM_X9_readList F cs_6 x0 v_3 v_4 0 cs9 h
  exact hq.trans k9
theorem nb_c_X9_readNegation_b49 (F : Nat) (T : TC_X9_readExpr) (hM_X9_readExpr : ∀ (cs : CS) (x0 : Nat) (cs9 : CS) (r9 : Int32), T.1 cs x0 = some (cs9, r9) → NB cs cs9) (hM_X9_readConjunction : ∀ (cs : CS) (x0 : Nat) (cs9 : CS), T.2.1 cs x0 = some cs9 → NB cs cs9) (hM_X9_readNegation : ∀ (cs : CS) (x0 : Nat) (cs9 : CS), T.2.2.1 cs x0 = some cs9 → NB cs cs9) (hM_X9_readTest : ∀ (cs : CS) (x0 : Nat) (cs9 : CS), T.2.2.2.1 cs x0 = some cs9 → NB cs cs9) (hM_X9_readSum : ∀ (cs : CS) (x0 : Nat) (cs9 : CS), T.2.2.2.2.1 cs x0 = some cs9 → NB cs cs9) (hM_X9_readPart : ∀ (cs : CS) (x0 : Nat) (cs9 : CS), T.2.2.2.2.2.1 cs x0 = some cs9 → NB cs cs9) (hM_X9_readSign : ∀ (cs : CS) (x0 : Nat) (cs9 : CS), T.2.2.2.2.2.2.1 cs x0 = some cs9 → NB cs cs9) (hM_X9_readOne : ∀ (cs : CS) (x0 : Nat) (cs9 : CS), T.2.2.2.2.2.2.2.1 cs x0 = some cs9 → NB cs cs9) (hM_X9_readCase : ∀ (cs : CS) (x0 : Nat) (cs9 : CS), T.2.2.2.2.2.2.2.2.1 cs x0 = some cs9 → NB cs cs9) (hM_X9_readSpan : ∀ (cs : CS) (x0 : Nat) (cs9 : CS), T.2.2.2.2.2.2.2.2.2.1 cs x0 = some cs9 → NB cs cs9) (hM_X9_readAggregate : ∀ (cs : CS) (x0 : Nat) (cs9 : CS), T.2.2.2.2.2.2.2.2.2.2.1 cs x0 = some cs9 → NB cs cs9) (hM_X9_readList : ∀ (cs : CS) (x0 : Nat) (x1 : Int32) (x2 : Int32) (x3 : Int32) (x4 : Int32) (cs9 : CS), T.2.2.2.2.2.2.2.2.2.2.2 cs x0 x1 x2 x3 x4 = some cs9 → NB cs cs9) (cs1 : CS) (u0 : Nat) (u1 : Int32) (u2 : Int32) (cs9 : CS) (h : c_X9_readNegation_b49 F T cs1 u0 u1 u2 = some cs9) : NB cs1 cs9 := by
  unfold c_X9_readNegation_b49 at h
  have hq : NB cs1 cs1 := NB.refl
  replace h := ob h; obtain ⟨v_1, hv_1, h⟩ := h
  replace h := ob h; obtain ⟨cs_2, hv_2, h⟩ := h
  replace hq := hq.trans (NB.pI hv_2)
  replace h := ob h; obtain ⟨w_4, hw_4, h⟩ := h
  replace h := ob h; obtain ⟨z_3, hv_3, h⟩ := h
  replace hq := hq.trans (nb_c_X9_complete F cs_2 u0 25 u1 u2 u2 1 z_3.1 z_3.2 hv_3)
  have h9 := Option.some.inj h
  exact hq.to h9
theorem nb_cb_X9_readNegation (F : Nat) (T : TC_X9_readExpr) (hM_X9_readExpr : ∀ (cs : CS) (x0 : Nat) (cs9 : CS) (r9 : Int32), T.1 cs x0 = some (cs9, r9) → NB cs cs9) (hM_X9_readConjunction : ∀ (cs : CS) (x0 : Nat) (cs9 : CS), T.2.1 cs x0 = some cs9 → NB cs cs9) (hM_X9_readNegation : ∀ (cs : CS) (x0 : Nat) (cs9 : CS), T.2.2.1 cs x0 = some cs9 → NB cs cs9) (hM_X9_readTest : ∀ (cs : CS) (x0 : Nat) (cs9 : CS), T.2.2.2.1 cs x0 = some cs9 → NB cs cs9) (hM_X9_readSum : ∀ (cs : CS) (x0 : Nat) (cs9 : CS), T.2.2.2.2.1 cs x0 = some cs9 → NB cs cs9) (hM_X9_readPart : ∀ (cs : CS) (x0 : Nat) (cs9 : CS), T.2.2.2.2.2.1 cs x0 = some cs9 → NB cs cs9) (hM_X9_readSign : ∀ (cs : CS) (x0 : Nat) (cs9 : CS), T.2.2.2.2.2.2.1 cs x0 = some cs9 → NB cs cs9) (hM_X9_readOne : ∀ (cs : CS) (x0 : Nat) (cs9 : CS), T.2.2.2.2.2.2.2.1 cs x0 = some cs9 → NB cs cs9) (hM_X9_readCase : ∀ (cs : CS) (x0 : Nat) (cs9 : CS), T.2.2.2.2.2.2.2.2.1 cs x0 = some cs9 → NB cs cs9) (hM_X9_readSpan : ∀ (cs : CS) (x0 : Nat) (cs9 : CS), T.2.2.2.2.2.2.2.2.2.1 cs x0 = some cs9 → NB cs cs9) (hM_X9_readAggregate : ∀ (cs : CS) (x0 : Nat) (cs9 : CS), T.2.2.2.2.2.2.2.2.2.2.1 cs x0 = some cs9 → NB cs cs9) (hM_X9_readList : ∀ (cs : CS) (x0 : Nat) (x1 : Int32) (x2 : Int32) (x3 : Int32) (x4 : Int32) (cs9 : CS), T.2.2.2.2.2.2.2.2.2.2.2 cs x0 x1 x2 x3 x4 = some cs9 → NB cs cs9) (cs : CS) (x0 : Nat) (cs9 : CS) (h : cb_X9_readNegation F T cs x0 = some cs9) : NB cs cs9 := by
  unfold cb_X9_readNegation at h
  have hq : NB cs cs := NB.refl
  replace h := ob h; obtain ⟨w_2, hw_2, h⟩ := h
  replace h := ob h; obtain ⟨v_1, hv_1, h⟩ := h
  by_cases c_3 : v_1 = 25
  · skip
    replace h := (if_pos c_3).symm.trans h
    replace h := ob h; obtain ⟨v_4, hv_4, h⟩ := h
    replace h := ob h; obtain ⟨i_5, hi_5, h⟩ := h
    subst hi_5
    replace h := ob h; obtain ⟨v_6, hv_6, h⟩ := h
    replace h := ob h; obtain ⟨w_8, hw_8, h⟩ := h
    replace h := ob h; obtain ⟨v_7, hv_7, h⟩ := h
    replace h := ob h; obtain ⟨w_10, hw_10, h⟩ := h
    replace h := ob h; obtain ⟨cs_9, hv_9, h⟩ := h
    replace hq := hq.trans (nb_c_X9_deepen F cs x0 cs_9 hv_9)
    replace h := ob h; obtain ⟨w_12, hw_12, h⟩ := h
    replace h := ob h; obtain ⟨z_11, hv_11, h⟩ := h
    replace hq := hq.trans (nb_c_X9_accept F cs_9 x0 25 z_11.1 z_11.2 hv_11)
    replace h := ob h; obtain ⟨v_13, hv_13, h⟩ := h
    by_cases c_14 : v_13 = 0
    · skip
      replace h := (if_pos c_14).symm.trans h
      replace h := ob h; obtain ⟨w_16, hw_16, h⟩ := h
      replace h := ob h; obtain ⟨cs_15, hv_15, h⟩ := h
      replace hq := hq.trans (hM_X9_readNegation z_11.1 x0 cs_15 hv_15)
      have k9 := nb_c_X9_readNegation_b49 F T hM_X9_readExpr hM_X9_readConjunction hM_X9_readNegation hM_X9_readTest hM_X9_readSum hM_X9_readPart hM_X9_readSign hM_X9_readOne hM_X9_readCase hM_X9_readSpan hM_X9_readAggregate hM_X9_readList cs_15 x0 v_6 v_7 cs9 h
      exact hq.trans k9
    · skip
      replace h := (if_neg c_14).symm.trans h
      have k9 := nb_c_X9_readNegation_b49 F T hM_X9_readExpr hM_X9_readConjunction hM_X9_readNegation hM_X9_readTest hM_X9_readSum hM_X9_readPart hM_X9_readSign hM_X9_readOne hM_X9_readCase hM_X9_readSpan hM_X9_readAggregate hM_X9_readList z_11.1 x0 v_6 v_7 cs9 h
      exact hq.trans k9
  · skip
    replace h := (if_neg c_3).symm.trans h
    replace h := ob h; obtain ⟨w_18, hw_18, h⟩ := h
    replace h := ob h; obtain ⟨cs_17, hv_17, h⟩ := h
    replace hq := hq.trans (hM_X9_readTest cs x0 cs_17 hv_17)
    have h9 := Option.some.inj h
    exact hq.to h9
theorem nb_c_X9_readTest_b282 (F : Nat) (T : TC_X9_readExpr) (hM_X9_readExpr : ∀ (cs : CS) (x0 : Nat) (cs9 : CS) (r9 : Int32), T.1 cs x0 = some (cs9, r9) → NB cs cs9) (hM_X9_readConjunction : ∀ (cs : CS) (x0 : Nat) (cs9 : CS), T.2.1 cs x0 = some cs9 → NB cs cs9) (hM_X9_readNegation : ∀ (cs : CS) (x0 : Nat) (cs9 : CS), T.2.2.1 cs x0 = some cs9 → NB cs cs9) (hM_X9_readTest : ∀ (cs : CS) (x0 : Nat) (cs9 : CS), T.2.2.2.1 cs x0 = some cs9 → NB cs cs9) (hM_X9_readSum : ∀ (cs : CS) (x0 : Nat) (cs9 : CS), T.2.2.2.2.1 cs x0 = some cs9 → NB cs cs9) (hM_X9_readPart : ∀ (cs : CS) (x0 : Nat) (cs9 : CS), T.2.2.2.2.2.1 cs x0 = some cs9 → NB cs cs9) (hM_X9_readSign : ∀ (cs : CS) (x0 : Nat) (cs9 : CS), T.2.2.2.2.2.2.1 cs x0 = some cs9 → NB cs cs9) (hM_X9_readOne : ∀ (cs : CS) (x0 : Nat) (cs9 : CS), T.2.2.2.2.2.2.2.1 cs x0 = some cs9 → NB cs cs9) (hM_X9_readCase : ∀ (cs : CS) (x0 : Nat) (cs9 : CS), T.2.2.2.2.2.2.2.2.1 cs x0 = some cs9 → NB cs cs9) (hM_X9_readSpan : ∀ (cs : CS) (x0 : Nat) (cs9 : CS), T.2.2.2.2.2.2.2.2.2.1 cs x0 = some cs9 → NB cs cs9) (hM_X9_readAggregate : ∀ (cs : CS) (x0 : Nat) (cs9 : CS), T.2.2.2.2.2.2.2.2.2.2.1 cs x0 = some cs9 → NB cs cs9) (hM_X9_readList : ∀ (cs : CS) (x0 : Nat) (x1 : Int32) (x2 : Int32) (x3 : Int32) (x4 : Int32) (cs9 : CS), T.2.2.2.2.2.2.2.2.2.2.2 cs x0 x1 x2 x3 x4 = some cs9 → NB cs cs9) (cs1 : CS) (cs9 : CS) (h : c_X9_readTest_b282 F T cs1 = some cs9) : NB cs1 cs9 := by
  unfold c_X9_readTest_b282 at h
  have hq : NB cs1 cs1 := NB.refl
  have h9 := Option.some.inj h
  exact hq.to h9
theorem nb_c_X9_readTest_b172 (F : Nat) (T : TC_X9_readExpr) (hM_X9_readExpr : ∀ (cs : CS) (x0 : Nat) (cs9 : CS) (r9 : Int32), T.1 cs x0 = some (cs9, r9) → NB cs cs9) (hM_X9_readConjunction : ∀ (cs : CS) (x0 : Nat) (cs9 : CS), T.2.1 cs x0 = some cs9 → NB cs cs9) (hM_X9_readNegation : ∀ (cs : CS) (x0 : Nat) (cs9 : CS), T.2.2.1 cs x0 = some cs9 → NB cs cs9) (hM_X9_readTest : ∀ (cs : CS) (x0 : Nat) (cs9 : CS), T.2.2.2.1 cs x0 = some cs9 → NB cs cs9) (hM_X9_readSum : ∀ (cs : CS) (x0 : Nat) (cs9 : CS), T.2.2.2.2.1 cs x0 = some cs9 → NB cs cs9) (hM_X9_readPart : ∀ (cs : CS) (x0 : Nat) (cs9 : CS), T.2.2.2.2.2.1 cs x0 = some cs9 → NB cs cs9) (hM_X9_readSign : ∀ (cs : CS) (x0 : Nat) (cs9 : CS), T.2.2.2.2.2.2.1 cs x0 = some cs9 → NB cs cs9) (hM_X9_readOne : ∀ (cs : CS) (x0 : Nat) (cs9 : CS), T.2.2.2.2.2.2.2.1 cs x0 = some cs9 → NB cs cs9) (hM_X9_readCase : ∀ (cs : CS) (x0 : Nat) (cs9 : CS), T.2.2.2.2.2.2.2.2.1 cs x0 = some cs9 → NB cs cs9) (hM_X9_readSpan : ∀ (cs : CS) (x0 : Nat) (cs9 : CS), T.2.2.2.2.2.2.2.2.2.1 cs x0 = some cs9 → NB cs cs9) (hM_X9_readAggregate : ∀ (cs : CS) (x0 : Nat) (cs9 : CS), T.2.2.2.2.2.2.2.2.2.2.1 cs x0 = some cs9 → NB cs cs9) (hM_X9_readList : ∀ (cs : CS) (x0 : Nat) (x1 : Int32) (x2 : Int32) (x3 : Int32) (x4 : Int32) (cs9 : CS), T.2.2.2.2.2.2.2.2.2.2.2 cs x0 x1 x2 x3 x4 = some cs9 → NB cs cs9) (cs1 : CS) (u0 : Nat) (u1 : Int32) (u2 : Int32) (u3 : Int32) (u4 : Int32) (cs9 : CS) (h : c_X9_readTest_b172 F T cs1 u0 u1 u2 u3 u4 = some cs9) : NB cs1 cs9 := by
  unfold c_X9_readTest_b172 at h
  have hq : NB cs1 cs1 := NB.refl
  replace h := ob h; obtain ⟨v_1, hv_1, h⟩ := h
  replace h := ob h; obtain ⟨cs_2, hv_2, h⟩ := h
  replace hq := hq.trans (NB.pI hv_2)
  replace h := ob h; obtain ⟨w_4, hw_4, h⟩ := h
  replace h := ob h; obtain ⟨cs_3, hv_3, h⟩ := h
  replace hq := hq.trans (hM_X9_readSum cs_2 u0 cs_3 hv_3)
  replace h := ob h; obtain ⟨w_6, hw_6, h⟩ := h
  replace h := ob h; obtain ⟨z_5, hv_5, h⟩ := h
  replace hq := hq.trans (nb_c_X9_complete F cs_3 u0 u4 u1 u2 u3 2 z_5.1 z_5.2 hv_5)
  have k9 := nb_c_X9_readTest_b282 F T hM_X9_readExpr hM_X9_readConjunction hM_X9_readNegation hM_X9_readTest hM_X9_readSum hM_X9_readPart hM_X9_readSign hM_X9_readOne hM_X9_readCase hM_X9_readSpan hM_X9_readAggregate hM_X9_readList z_5.1 cs9 h
  exact hq.trans k9
theorem nb_c_X9_readTest_b226 (F : Nat) (T : TC_X9_readExpr) (hM_X9_readExpr : ∀ (cs : CS) (x0 : Nat) (cs9 : CS) (r9 : Int32), T.1 cs x0 = some (cs9, r9) → NB cs cs9) (hM_X9_readConjunction : ∀ (cs : CS) (x0 : Nat) (cs9 : CS), T.2.1 cs x0 = some cs9 → NB cs cs9) (hM_X9_readNegation : ∀ (cs : CS) (x0 : Nat) (cs9 : CS), T.2.2.1 cs x0 = some cs9 → NB cs cs9) (hM_X9_readTest : ∀ (cs : CS) (x0 : Nat) (cs9 : CS), T.2.2.2.1 cs x0 = some cs9 → NB cs cs9) (hM_X9_readSum : ∀ (cs : CS) (x0 : Nat) (cs9 : CS), T.2.2.2.2.1 cs x0 = some cs9 → NB cs cs9) (hM_X9_readPart : ∀ (cs : CS) (x0 : Nat) (cs9 : CS), T.2.2.2.2.2.1 cs x0 = some cs9 → NB cs cs9) (hM_X9_readSign : ∀ (cs : CS) (x0 : Nat) (cs9 : CS), T.2.2.2.2.2.2.1 cs x0 = some cs9 → NB cs cs9) (hM_X9_readOne : ∀ (cs : CS) (x0 : Nat) (cs9 : CS), T.2.2.2.2.2.2.2.1 cs x0 = some cs9 → NB cs cs9) (hM_X9_readCase : ∀ (cs : CS) (x0 : Nat) (cs9 : CS), T.2.2.2.2.2.2.2.2.1 cs x0 = some cs9 → NB cs cs9) (hM_X9_readSpan : ∀ (cs : CS) (x0 : Nat) (cs9 : CS), T.2.2.2.2.2.2.2.2.2.1 cs x0 = some cs9 → NB cs cs9) (hM_X9_readAggregate : ∀ (cs : CS) (x0 : Nat) (cs9 : CS), T.2.2.2.2.2.2.2.2.2.2.1 cs x0 = some cs9 → NB cs cs9) (hM_X9_readList : ∀ (cs : CS) (x0 : Nat) (x1 : Int32) (x2 : Int32) (x3 : Int32) (x4 : Int32) (cs9 : CS), T.2.2.2.2.2.2.2.2.2.2.2 cs x0 x1 x2 x3 x4 = some cs9 → NB cs cs9) (cs1 : CS) (u0 : Nat) (u1 : Int32) (u2 : Int32) (u3 : Int32) (y0 : Int32) (cs9 : CS) (h : c_X9_readTest_b226 F T cs1 u0 u1 u2 u3 y0 = some cs9) : NB cs1 cs9 := by
  unfold c_X9_readTest_b226 at h
  have hq : NB cs1 cs1 := NB.refl
  replace h := ob h; obtain ⟨w_2, hw_2, h⟩ := h
  replace h := ob h; obtain ⟨cs_1, hv_1, h⟩ := h
  replace hq := hq.trans (nb_c_X9_expect F cs1 u0 26 cs_1 hv_1)
  replace h := ob h; obtain ⟨w_4, hw_4, h⟩ := h
  replace h := ob h; obtain ⟨z_3, hv_3, h⟩ := h
  replace hq := hq.trans (nb_c_X9_complete F cs_1 u0 y0 u1 u2 u3 1 z_3.1 z_3.2 hv_3)
  have k9 := nb_c_X9_readTest_b282 F T hM_X9_readExpr hM_X9_readConjunction hM_X9_readNegation hM_X9_readTest hM_X9_readSum hM_X9_readPart hM_X9_readSign hM_X9_readOne hM_X9_readCase hM_X9_readSpan hM_X9_readAggregate hM_X9_readList z_3.1 cs9 h
  exact hq.trans k9
theorem nb_cb_X9_readTest (F : Nat) (T : TC_X9_readExpr) (hM_X9_readExpr : ∀ (cs : CS) (x0 : Nat) (cs9 : CS) (r9 : Int32), T.1 cs x0 = some (cs9, r9) → NB cs cs9) (hM_X9_readConjunction : ∀ (cs : CS) (x0 : Nat) (cs9 : CS), T.2.1 cs x0 = some cs9 → NB cs cs9) (hM_X9_readNegation : ∀ (cs : CS) (x0 : Nat) (cs9 : CS), T.2.2.1 cs x0 = some cs9 → NB cs cs9) (hM_X9_readTest : ∀ (cs : CS) (x0 : Nat) (cs9 : CS), T.2.2.2.1 cs x0 = some cs9 → NB cs cs9) (hM_X9_readSum : ∀ (cs : CS) (x0 : Nat) (cs9 : CS), T.2.2.2.2.1 cs x0 = some cs9 → NB cs cs9) (hM_X9_readPart : ∀ (cs : CS) (x0 : Nat) (cs9 : CS), T.2.2.2.2.2.1 cs x0 = some cs9 → NB cs cs9) (hM_X9_readSign : ∀ (cs : CS) (x0 : Nat) (cs9 : CS), T.2.2.2.2.2.2.1 cs x0 = some cs9 → NB cs cs9) (hM_X9_readOne : ∀ (cs : CS) (x0 : Nat) (cs9 : CS), T.2.2.2.2.2.2.2.1 cs x0 = some cs9 → NB cs cs9) (hM_X9_readCase : ∀ (cs : CS) (x0 : Nat) (cs9 : CS), T.2.2.2.2.2.2.2.2.1 cs x0 = some cs9 → NB cs cs9) (hM_X9_readSpan : ∀ (cs : CS) (x0 : Nat) (cs9 : CS), T.2.2.2.2.2.2.2.2.2.1 cs x0 = some cs9 → NB cs cs9) (hM_X9_readAggregate : ∀ (cs : CS) (x0 : Nat) (cs9 : CS), T.2.2.2.2.2.2.2.2.2.2.1 cs x0 = some cs9 → NB cs cs9) (hM_X9_readList : ∀ (cs : CS) (x0 : Nat) (x1 : Int32) (x2 : Int32) (x3 : Int32) (x4 : Int32) (cs9 : CS), T.2.2.2.2.2.2.2.2.2.2.2 cs x0 x1 x2 x3 x4 = some cs9 → NB cs cs9) (cs : CS) (x0 : Nat) (cs9 : CS) (h : cb_X9_readTest F T cs x0 = some cs9) : NB cs cs9 := by
  unfold cb_X9_readTest at h
  have hq : NB cs cs := NB.refl
  replace h := ob h; obtain ⟨v_1, hv_1, h⟩ := h
  replace h := ob h; obtain ⟨i_2, hi_2, h⟩ := h
  subst hi_2
  replace h := ob h; obtain ⟨v_3, hv_3, h⟩ := h
  replace h := ob h; obtain ⟨w_5, hw_5, h⟩ := h
  replace h := ob h; obtain ⟨v_4, hv_4, h⟩ := h
  replace h := ob h; obtain ⟨w_7, hw_7, h⟩ := h
  replace h := ob h; obtain ⟨cs_6, hv_6, h⟩ := h
  replace hq := hq.trans (hM_X9_readSum cs x0 cs_6 hv_6)
  replace h := ob h; obtain ⟨w_9, hw_9, h⟩ := h
  replace h := ob h; obtain ⟨v_8, hv_8, h⟩ := h
  replace h := ob h; obtain ⟨w_11, hw_11, h⟩ := h
  replace h := ob h; obtain ⟨v_10, hv_10, h⟩ := h
  by_cases c_12 : v_10 = 24
  · skip
    replace h := (if_pos c_12).symm.trans h
    replace h := ob h; obtain ⟨v_13, hv_13, h⟩ := h
    replace h := ob h; obtain ⟨cs_14, hv_14, h⟩ := h
    replace hq := hq.trans (NB.pI hv_14)
    replace h := ob h; obtain ⟨w_16, hw_16, h⟩ := h
    replace h := ob h; obtain ⟨z_15, hv_15, h⟩ := h
    replace hq := hq.trans (nb_c_X9_accept F cs_14 x0 25 z_15.1 z_15.2 hv_15)
    by_cases c_17 : z_15.2 = 0
    · skip
      replace h := (if_pos c_17).symm.trans h
      have k9 := nb_c_X9_readTest_b226 F T hM_X9_readExpr hM_X9_readConjunction hM_X9_readNegation hM_X9_readTest hM_X9_readSum hM_X9_readPart hM_X9_readSign hM_X9_readOne hM_X9_readCase hM_X9_readSpan hM_X9_readAggregate hM_X9_readList z_15.1 x0 v_3 v_4 v_8 24 cs9 h
      exact hq.trans k9
    · skip
      replace h := (if_neg c_17).symm.trans h
      have k9 := nb_c_X9_readTest_b226 F T hM_X9_readExpr hM_X9_readConjunction hM_X9_readNegation hM_X9_readTest hM_X9_readSum hM_X9_readPart hM_X9_readSign hM_X9_readOne hM_X9_readCase hM_X9_readSpan hM_X9_readAggregate hM_X9_readList z_15.1 x0 v_3 v_4 v_8 59 cs9 h
      exact hq.trans k9
  replace h := (if_neg c_12).symm.trans h
  by_cases c_18 : v_10 = 25
  · skip
    replace h := (if_pos c_18).symm.trans h
    replace h := ob h; obtain ⟨v_19, hv_19, h⟩ := h
    replace h := ob h; obtain ⟨cs_20, hv_20, h⟩ := h
    replace hq := hq.trans (NB.pI hv_20)
    replace h := ob h; obtain ⟨w_22, hw_22, h⟩ := h
    replace h := ob h; obtain ⟨cs_21, hv_21, h⟩ := h
    replace hq := hq.trans (hM_X9_readList cs_20 x0 60 v_3 v_4 v_8 cs_21 hv_21)
    have k9 := nb_c_X9_readTest_b282 F T hM_X9_readExpr hM_X9_readConjunction hM_X9_readNegation hM_X9_readTest hM_X9_readSum hM_X9_readPart hM_X9_readSign hM_X9_readOne hM_X9_readCase hM_X9_readSpan hM_X9_readAggregate hM_X9_readList cs_21 cs9 h
    exact hq.trans k9
  replace h := (if_neg c_18).symm.trans h
  by_cases c_23 : v_10 = 27
  · skip
    replace h := (if_pos c_23).symm.trans h
    replace h := ob h; obtain ⟨w_25, hw_25, h⟩ := h
    replace h := ob h; obtain ⟨cs_24, hv_24, h⟩ := h
    replace hq := hq.trans (hM_X9_readList cs_6 x0 27 v_3 v_4 v_8 cs_24 hv_24)
    have k9 := nb_c_X9_readTest_b282 F T hM_X9_readExpr hM_X9_readConjunction hM_X9_readNegation hM_X9_readTest hM_X9_readSum hM_X9_readPart hM_X9_readSign hM_X9_readOne hM_X9_readCase hM_X9_readSpan hM_X9_readAggregate hM_X9_readList cs_24 cs9 h
    exact hq.trans k9
  replace h := (if_neg c_23).symm.trans h
  by_cases c_26 : v_10 = 50
  · skip
    replace h := (if_pos c_26).symm.trans h
    have k9 := nb_c_X9_readTest_b172 F T hM_X9_readExpr hM_X9_readConjunction hM_X9_readNegation hM_X9_readTest hM_X9_readSum hM_X9_readPart hM_X9_readSign hM_X9_readOne hM_X9_readCase hM_X9_readSpan hM_X9_readAggregate hM_X9_readList cs_6 x0 v_3 v_4 v_8 v_10 cs9 h
    exact hq.trans k9
  replace h := (if_neg c_26).symm.trans h
  by_cases c_27 : v_10 = 51
  · skip
    replace h := (if_pos c_27).symm.trans h
    have k9 := nb_c_X9_readTest_b172 F T hM_X9_readExpr hM_X9_readConjunction hM_X9_readNegation hM_X9_readTest hM_X9_readSum hM_X9_readPart hM_X9_readSign hM_X9_readOne hM_X9_readCase hM_X9_readSpan hM_X9_readAggregate hM_X9_readList cs_6 x0 v_3 v_4 v_8 v_10 cs9 h
    exact hq.trans k9
  replace h := (if_neg c_27).symm.trans h
  by_cases c_28 : v_10 = 52
  · skip
    replace h := (if_pos c_28).symm.trans h
    have k9 := nb_c_X9_readTest_b172 F T hM_X9_readExpr hM_X9_readConjunction hM_X9_readNegation hM_X9_readTest hM_X9_readSum hM_X9_readPart hM_X9_readSign hM_X9_readOne hM_X9_readCase hM_X9_readSpan hM_X9_readAggregate hM_X9_readList cs_6 x0 v_3 v_4 v_8 v_10 cs9 h
    exact hq.trans k9
  replace h := (if_neg c_28).symm.trans h
  by_cases c_29 : v_10 = 53
  · skip
    replace h := (if_pos c_29).symm.trans h
    have k9 := nb_c_X9_readTest_b172 F T hM_X9_readExpr hM_X9_readConjunction hM_X9_readNegation hM_X9_readTest hM_X9_readSum hM_X9_readPart hM_X9_readSign hM_X9_readOne hM_X9_readCase hM_X9_readSpan hM_X9_readAggregate hM_X9_readList cs_6 x0 v_3 v_4 v_8 v_10 cs9 h
    exact hq.trans k9
  replace h := (if_neg c_29).symm.trans h
  by_cases c_30 : v_10 = 54
  · skip
    replace h := (if_pos c_30).symm.trans h
    have k9 := nb_c_X9_readTest_b172 F T hM_X9_readExpr hM_X9_readConjunction hM_X9_readNegation hM_X9_readTest hM_X9_readSum hM_X9_readPart hM_X9_readSign hM_X9_readOne hM_X9_readCase hM_X9_readSpan hM_X9_readAggregate hM_X9_readList cs_6 x0 v_3 v_4 v_8 v_10 cs9 h
    exact hq.trans k9
  replace h := (if_neg c_30).symm.trans h
  by_cases c_31 : v_10 = 55
  · skip
    replace h := (if_pos c_31).symm.trans h
    have k9 := nb_c_X9_readTest_b172 F T hM_X9_readExpr hM_X9_readConjunction hM_X9_readNegation hM_X9_readTest hM_X9_readSum hM_X9_readPart hM_X9_readSign hM_X9_readOne hM_X9_readCase hM_X9_readSpan hM_X9_readAggregate hM_X9_readList cs_6 x0 v_3 v_4 v_8 v_10 cs9 h
    exact hq.trans k9
  replace h := (if_neg c_31).symm.trans h
  have k9 := nb_c_X9_readTest_b282 F T hM_X9_readExpr hM_X9_readConjunction hM_X9_readNegation hM_X9_readTest hM_X9_readSum hM_X9_readPart hM_X9_readSign hM_X9_readOne hM_X9_readCase hM_X9_readSpan hM_X9_readAggregate hM_X9_readList cs_6 cs9 h
  exact hq.trans k9
theorem nb_c_X9_readSum_b88 (F : Nat) (T : TC_X9_readExpr) (hM_X9_readExpr : ∀ (cs : CS) (x0 : Nat) (cs9 : CS) (r9 : Int32), T.1 cs x0 = some (cs9, r9) → NB cs cs9) (hM_X9_readConjunction : ∀ (cs : CS) (x0 : Nat) (cs9 : CS), T.2.1 cs x0 = some cs9 → NB cs cs9) (hM_X9_readNegation : ∀ (cs : CS) (x0 : Nat) (cs9 : CS), T.2.2.1 cs x0 = some cs9 → NB cs cs9) (hM_X9_readTest : ∀ (cs : CS) (x0 : Nat) (cs9 : CS), T.2.2.2.1 cs x0 = some cs9 → NB cs cs9) (hM_X9_readSum : ∀ (cs : CS) (x0 : Nat) (cs9 : CS), T.2.2.2.2.1 cs x0 = some cs9 → NB cs cs9) (hM_X9_readPart : ∀ (cs : CS) (x0 : Nat) (cs9 : CS), T.2.2.2.2.2.1 cs x0 = some cs9 → NB cs cs9) (hM_X9_readSign : ∀ (cs : CS) (x0 : Nat) (cs9 : CS), T.2.2.2.2.2.2.1 cs x0 = some cs9 → NB cs cs9) (hM_X9_readOne : ∀ (cs : CS) (x0 : Nat) (cs9 : CS), T.2.2.2.2.2.2.2.1 cs x0 = some cs9 → NB cs cs9) (hM_X9_readCase : ∀ (cs : CS) (x0 : Nat) (cs9 : CS), T.2.2.2.2.2.2.2.2.1 cs x0 = some cs9 → NB cs cs9) (hM_X9_readSpan : ∀ (cs : CS) (x0 : Nat) (cs9 : CS), T.2.2.2.2.2.2.2.2.2.1 cs x0 = some cs9 → NB cs cs9) (hM_X9_readAggregate : ∀ (cs : CS) (x0 : Nat) (cs9 : CS), T.2.2.2.2.2.2.2.2.2.2.1 cs x0 = some cs9 → NB cs cs9) (hM_X9_readList : ∀ (cs : CS) (x0 : Nat) (x1 : Int32) (x2 : Int32) (x3 : Int32) (x4 : Int32) (cs9 : CS), T.2.2.2.2.2.2.2.2.2.2.2 cs x0 x1 x2 x3 x4 = some cs9 → NB cs cs9) (cs1 : CS) (cs9 : CS) (h : c_X9_readSum_b88 F T cs1 = some cs9) : NB cs1 cs9 := by
  unfold c_X9_readSum_b88 at h
  have hq : NB cs1 cs1 := NB.refl
  have h9 := Option.some.inj h
  exact hq.to h9
theorem nb_c_X9_readSum_b44 (F : Nat) (T : TC_X9_readExpr) (hM_X9_readExpr : ∀ (cs : CS) (x0 : Nat) (cs9 : CS) (r9 : Int32), T.1 cs x0 = some (cs9, r9) → NB cs cs9) (hM_X9_readConjunction : ∀ (cs : CS) (x0 : Nat) (cs9 : CS), T.2.1 cs x0 = some cs9 → NB cs cs9) (hM_X9_readNegation : ∀ (cs : CS) (x0 : Nat) (cs9 : CS), T.2.2.1 cs x0 = some cs9 → NB cs cs9) (hM_X9_readTest : ∀ (cs : CS) (x0 : Nat) (cs9 : CS), T.2.2.2.1 cs x0 = some cs9 → NB cs cs9) (hM_X9_readSum : ∀ (cs : CS) (x0 : Nat) (cs9 : CS), T.2.2.2.2.1 cs x0 = some cs9 → NB cs cs9) (hM_X9_readPart : ∀ (cs : CS) (x0 : Nat) (cs9 : CS), T.2.2.2.2.2.1 cs x0 = some cs9 → NB cs cs9) (hM_X9_readSign : ∀ (cs : CS) (x0 : Nat) (cs9 : CS), T.2.2.2.2.2.2.1 cs x0 = some cs9 → NB cs cs9) (hM_X9_readOne : ∀ (cs : CS) (x0 : Nat) (cs9 : CS), T.2.2.2.2.2.2.2.1 cs x0 = some cs9 → NB cs cs9) (hM_X9_readCase : ∀ (cs : CS) (x0 : Nat) (cs9 : CS), T.2.2.2.2.2.2.2.2.1 cs x0 = some cs9 → NB cs cs9) (hM_X9_readSpan : ∀ (cs : CS) (x0 : Nat) (cs9 : CS), T.2.2.2.2.2.2.2.2.2.1 cs x0 = some cs9 → NB cs cs9) (hM_X9_readAggregate : ∀ (cs : CS) (x0 : Nat) (cs9 : CS), T.2.2.2.2.2.2.2.2.2.2.1 cs x0 = some cs9 → NB cs cs9) (hM_X9_readList : ∀ (cs : CS) (x0 : Nat) (x1 : Int32) (x2 : Int32) (x3 : Int32) (x4 : Int32) (cs9 : CS), T.2.2.2.2.2.2.2.2.2.2.2 cs x0 x1 x2 x3 x4 = some cs9 → NB cs cs9) (rc19 : CS → Nat → Int32 → Int32 → Int32 → Option CS) (hrc19 : ∀ (cs1 : CS) (u0 : Nat) (u1 : Int32) (u2 : Int32) (u3 : Int32) (cs9 : CS), rc19 cs1 u0 u1 u2 u3 = some cs9 → NB cs1 cs9) (cs1 : CS) (u0 : Nat) (u1 : Int32) (u2 : Int32) (u3 : Int32) (cs9 : CS) (h : c_X9_readSum_b44 F T rc19 cs1 u0 u1 u2 u3 = some cs9) : NB cs1 cs9 := by
  unfold c_X9_readSum_b44 at h
  have hq : NB cs1 cs1 := NB.refl
  replace h := ob h; obtain ⟨w_2, hw_2, h⟩ := h
  replace h := ob h; obtain ⟨v_1, hv_1, h⟩ := h
  replace h := ob h; obtain ⟨w_4, hw_4, h⟩ := h
  replace h := ob h; obtain ⟨v_3, hv_3, h⟩ := h
  replace h := ob h; obtain ⟨v_5, hv_5, h⟩ := h
  replace h := ob h; obtain ⟨cs_6, hv_6, h⟩ := h
  replace hq := hq.trans (NB.pI hv_6)
  replace h := ob h; obtain ⟨w_8, hw_8, h⟩ := h
  replace h := ob h; obtain ⟨cs_7, hv_7, h⟩ := h
  replace hq := hq.trans (hM_X9_readPart cs_6 u0 cs_7 hv_7)
  replace h := ob h; obtain ⟨w_10, hw_10, h⟩ := h
  replace h := ob h; obtain ⟨z_9, hv_9, h⟩ := h
  replace hq := hq.trans (nb_c_X9_complete F cs_7 u0 v_1 u1 u2 v_3 2 z_9.1 z_9.2 hv_9)
  have k9 := hrc19 z_9.1 u0 u1 u2 (u3 + 1) cs9 h
  exact hq.trans k9
theorem nb_c_X9_readSum_L19 (F : Nat) (T : TC_X9_readExpr) (hM_X9_readExpr : ∀ (cs : CS) (x0 : Nat) (cs9 : CS) (r9 : Int32), T.1 cs x0 = some (cs9, r9) → NB cs cs9) (hM_X9_readConjunction : ∀ (cs : CS) (x0 : Nat) (cs9 : CS), T.2.1 cs x0 = some cs9 → NB cs cs9) (hM_X9_readNegation : ∀ (cs : CS) (x0 : Nat) (cs9 : CS), T.2.2.1 cs x0 = some cs9 → NB cs cs9) (hM_X9_readTest : ∀ (cs : CS) (x0 : Nat) (cs9 : CS), T.2.2.2.1 cs x0 = some cs9 → NB cs cs9) (hM_X9_readSum : ∀ (cs : CS) (x0 : Nat) (cs9 : CS), T.2.2.2.2.1 cs x0 = some cs9 → NB cs cs9) (hM_X9_readPart : ∀ (cs : CS) (x0 : Nat) (cs9 : CS), T.2.2.2.2.2.1 cs x0 = some cs9 → NB cs cs9) (hM_X9_readSign : ∀ (cs : CS) (x0 : Nat) (cs9 : CS), T.2.2.2.2.2.2.1 cs x0 = some cs9 → NB cs cs9) (hM_X9_readOne : ∀ (cs : CS) (x0 : Nat) (cs9 : CS), T.2.2.2.2.2.2.2.1 cs x0 = some cs9 → NB cs cs9) (hM_X9_readCase : ∀ (cs : CS) (x0 : Nat) (cs9 : CS), T.2.2.2.2.2.2.2.2.1 cs x0 = some cs9 → NB cs cs9) (hM_X9_readSpan : ∀ (cs : CS) (x0 : Nat) (cs9 : CS), T.2.2.2.2.2.2.2.2.2.1 cs x0 = some cs9 → NB cs cs9) (hM_X9_readAggregate : ∀ (cs : CS) (x0 : Nat) (cs9 : CS), T.2.2.2.2.2.2.2.2.2.2.1 cs x0 = some cs9 → NB cs cs9) (hM_X9_readList : ∀ (cs : CS) (x0 : Nat) (x1 : Int32) (x2 : Int32) (x3 : Int32) (x4 : Int32) (cs9 : CS), T.2.2.2.2.2.2.2.2.2.2.2 cs x0 x1 x2 x3 x4 = some cs9 → NB cs cs9) : ∀ (lf_19 : Nat) (cs1 : CS) (u0 : Nat) (u1 : Int32) (u2 : Int32) (u3 : Int32) (cs9 : CS), c_X9_readSum_L19 F T lf_19 cs1 u0 u1 u2 u3 = some cs9 → NB cs1 cs9 := by
  intro lf_19
  induction lf_19 with
  | zero => intro cs1 u0 u1 u2 u3 cs9 h; cases (show (none : Option CS) = _ from h)
  | succ lf_19 ih_19 =>
    intro cs1 u0 u1 u2 u3 cs9 h
    rw [c_X9_readSum_L19] at h
    have hq : NB cs1 cs1 := NB.refl
    by_cases c_1 : 2000 ≤ u3
    · skip
      replace h := (if_pos c_1).symm.trans h
      have k9 := nb_c_X9_readSum_b88 F T hM_X9_readExpr hM_X9_readConjunction hM_X9_readNegation hM_X9_readTest hM_X9_readSum hM_X9_readPart hM_X9_readSign hM_X9_readOne hM_X9_readCase hM_X9_readSpan hM_X9_readAggregate hM_X9_readList cs1 cs9 h
      exact hq.trans k9
    · skip
      replace h := (if_neg c_1).symm.trans h
      replace h := ob h; obtain ⟨w_3, hw_3, h⟩ := h
      replace h := ob h; obtain ⟨v_2, hv_2, h⟩ := h
      by_cases c_4 : v_2 = 45
      · skip
        replace h := (if_pos c_4).symm.trans h
        have k9 := nb_c_X9_readSum_b44 F T hM_X9_readExpr hM_X9_readConjunction hM_X9_readNegation hM_X9_readTest hM_X9_readSum hM_X9_readPart hM_X9_readSign hM_X9_readOne hM_X9_readCase hM_X9_readSpan hM_X9_readAggregate hM_X9_readList (c_X9_readSum_L19 F T lf_19) ih_19 cs1 u0 u1 u2 u3 cs9 h
        exact hq.trans k9
      · skip
        replace h := (if_neg c_4).symm.trans h
        replace h := ob h; obtain ⟨w_6, hw_6, h⟩ := h
        replace h := ob h; obtain ⟨v_5, hv_5, h⟩ := h
        by_cases c_7 : v_5 = 46
        · skip
          replace h := (if_pos c_7).symm.trans h
          have k9 := nb_c_X9_readSum_b44 F T hM_X9_readExpr hM_X9_readConjunction hM_X9_readNegation hM_X9_readTest hM_X9_readSum hM_X9_readPart hM_X9_readSign hM_X9_readOne hM_X9_readCase hM_X9_readSpan hM_X9_readAggregate hM_X9_readList (c_X9_readSum_L19 F T lf_19) ih_19 cs1 u0 u1 u2 u3 cs9 h
          exact hq.trans k9
        · skip
          replace h := (if_neg c_7).symm.trans h
          have k9 := nb_c_X9_readSum_b88 F T hM_X9_readExpr hM_X9_readConjunction hM_X9_readNegation hM_X9_readTest hM_X9_readSum hM_X9_readPart hM_X9_readSign hM_X9_readOne hM_X9_readCase hM_X9_readSpan hM_X9_readAggregate hM_X9_readList cs1 cs9 h
          exact hq.trans k9
theorem nb_cb_X9_readSum (F : Nat) (T : TC_X9_readExpr) (hM_X9_readExpr : ∀ (cs : CS) (x0 : Nat) (cs9 : CS) (r9 : Int32), T.1 cs x0 = some (cs9, r9) → NB cs cs9) (hM_X9_readConjunction : ∀ (cs : CS) (x0 : Nat) (cs9 : CS), T.2.1 cs x0 = some cs9 → NB cs cs9) (hM_X9_readNegation : ∀ (cs : CS) (x0 : Nat) (cs9 : CS), T.2.2.1 cs x0 = some cs9 → NB cs cs9) (hM_X9_readTest : ∀ (cs : CS) (x0 : Nat) (cs9 : CS), T.2.2.2.1 cs x0 = some cs9 → NB cs cs9) (hM_X9_readSum : ∀ (cs : CS) (x0 : Nat) (cs9 : CS), T.2.2.2.2.1 cs x0 = some cs9 → NB cs cs9) (hM_X9_readPart : ∀ (cs : CS) (x0 : Nat) (cs9 : CS), T.2.2.2.2.2.1 cs x0 = some cs9 → NB cs cs9) (hM_X9_readSign : ∀ (cs : CS) (x0 : Nat) (cs9 : CS), T.2.2.2.2.2.2.1 cs x0 = some cs9 → NB cs cs9) (hM_X9_readOne : ∀ (cs : CS) (x0 : Nat) (cs9 : CS), T.2.2.2.2.2.2.2.1 cs x0 = some cs9 → NB cs cs9) (hM_X9_readCase : ∀ (cs : CS) (x0 : Nat) (cs9 : CS), T.2.2.2.2.2.2.2.2.1 cs x0 = some cs9 → NB cs cs9) (hM_X9_readSpan : ∀ (cs : CS) (x0 : Nat) (cs9 : CS), T.2.2.2.2.2.2.2.2.2.1 cs x0 = some cs9 → NB cs cs9) (hM_X9_readAggregate : ∀ (cs : CS) (x0 : Nat) (cs9 : CS), T.2.2.2.2.2.2.2.2.2.2.1 cs x0 = some cs9 → NB cs cs9) (hM_X9_readList : ∀ (cs : CS) (x0 : Nat) (x1 : Int32) (x2 : Int32) (x3 : Int32) (x4 : Int32) (cs9 : CS), T.2.2.2.2.2.2.2.2.2.2.2 cs x0 x1 x2 x3 x4 = some cs9 → NB cs cs9) (cs : CS) (x0 : Nat) (cs9 : CS) (h : cb_X9_readSum F T cs x0 = some cs9) : NB cs cs9 := by
  unfold cb_X9_readSum at h
  have hq : NB cs cs := NB.refl
  replace h := ob h; obtain ⟨v_1, hv_1, h⟩ := h
  replace h := ob h; obtain ⟨i_2, hi_2, h⟩ := h
  subst hi_2
  replace h := ob h; obtain ⟨v_3, hv_3, h⟩ := h
  replace h := ob h; obtain ⟨w_5, hw_5, h⟩ := h
  replace h := ob h; obtain ⟨v_4, hv_4, h⟩ := h
  replace h := ob h; obtain ⟨w_7, hw_7, h⟩ := h
  replace h := ob h; obtain ⟨cs_6, hv_6, h⟩ := h
  replace hq := hq.trans (hM_X9_readPart cs x0 cs_6 hv_6)
  have k9 := nb_c_X9_readSum_L19 F T hM_X9_readExpr hM_X9_readConjunction hM_X9_readNegation hM_X9_readTest hM_X9_readSum hM_X9_readPart hM_X9_readSign hM_X9_readOne hM_X9_readCase hM_X9_readSpan hM_X9_readAggregate hM_X9_readList F cs_6 x0 v_3 v_4 0 cs9 h
  exact hq.trans k9
theorem nb_c_X9_readPart_b97 (F : Nat) (T : TC_X9_readExpr) (hM_X9_readExpr : ∀ (cs : CS) (x0 : Nat) (cs9 : CS) (r9 : Int32), T.1 cs x0 = some (cs9, r9) → NB cs cs9) (hM_X9_readConjunction : ∀ (cs : CS) (x0 : Nat) (cs9 : CS), T.2.1 cs x0 = some cs9 → NB cs cs9) (hM_X9_readNegation : ∀ (cs : CS) (x0 : Nat) (cs9 : CS), T.2.2.1 cs x0 = some cs9 → NB cs cs9) (hM_X9_readTest : ∀ (cs : CS) (x0 : Nat) (cs9 : CS), T.2.2.2.1 cs x0 = some cs9 → NB cs cs9) (hM_X9_readSum : ∀ (cs : CS) (x0 : Nat) (cs9 : CS), T.2.2.2.2.1 cs x0 = some cs9 → NB cs cs9) (hM_X9_readPart : ∀ (cs : CS) (x0 : Nat) (cs9 : CS), T.2.2.2.2.2.1 cs x0 = some cs9 → NB cs cs9) (hM_X9_readSign : ∀ (cs : CS) (x0 : Nat) (cs9 : CS), T.2.2.2.2.2.2.1 cs x0 = some cs9 → NB cs cs9) (hM_X9_readOne : ∀ (cs : CS) (x0 : Nat) (cs9 : CS), T.2.2.2.2.2.2.2.1 cs x0 = some cs9 → NB cs cs9) (hM_X9_readCase : ∀ (cs : CS) (x0 : Nat) (cs9 : CS), T.2.2.2.2.2.2.2.2.1 cs x0 = some cs9 → NB cs cs9) (hM_X9_readSpan : ∀ (cs : CS) (x0 : Nat) (cs9 : CS), T.2.2.2.2.2.2.2.2.2.1 cs x0 = some cs9 → NB cs cs9) (hM_X9_readAggregate : ∀ (cs : CS) (x0 : Nat) (cs9 : CS), T.2.2.2.2.2.2.2.2.2.2.1 cs x0 = some cs9 → NB cs cs9) (hM_X9_readList : ∀ (cs : CS) (x0 : Nat) (x1 : Int32) (x2 : Int32) (x3 : Int32) (x4 : Int32) (cs9 : CS), T.2.2.2.2.2.2.2.2.2.2.2 cs x0 x1 x2 x3 x4 = some cs9 → NB cs cs9) (cs1 : CS) (cs9 : CS) (h : c_X9_readPart_b97 F T cs1 = some cs9) : NB cs1 cs9 := by
  unfold c_X9_readPart_b97 at h
  have hq : NB cs1 cs1 := NB.refl
  have h9 := Option.some.inj h
  exact hq.to h9
theorem nb_c_X9_readPart_b53 (F : Nat) (T : TC_X9_readExpr) (hM_X9_readExpr : ∀ (cs : CS) (x0 : Nat) (cs9 : CS) (r9 : Int32), T.1 cs x0 = some (cs9, r9) → NB cs cs9) (hM_X9_readConjunction : ∀ (cs : CS) (x0 : Nat) (cs9 : CS), T.2.1 cs x0 = some cs9 → NB cs cs9) (hM_X9_readNegation : ∀ (cs : CS) (x0 : Nat) (cs9 : CS), T.2.2.1 cs x0 = some cs9 → NB cs cs9) (hM_X9_readTest : ∀ (cs : CS) (x0 : Nat) (cs9 : CS), T.2.2.2.1 cs x0 = some cs9 → NB cs cs9) (hM_X9_readSum : ∀ (cs : CS) (x0 : Nat) (cs9 : CS), T.2.2.2.2.1 cs x0 = some cs9 → NB cs cs9) (hM_X9_readPart : ∀ (cs : CS) (x0 : Nat) (cs9 : CS), T.2.2.2.2.2.1 cs x0 = some cs9 → NB cs cs9) (hM_X9_readSign : ∀ (cs : CS) (x0 : Nat) (cs9 : CS), T.2.2.2.2.2.2.1 cs x0 = some cs9 → NB cs cs9) (hM_X9_readOne : ∀ (cs : CS) (x0 : Nat) (cs9 : CS), T.2.2.2.2.2.2.2.1 cs x0 = some cs9 → NB cs cs9) (hM_X9_readCase : ∀ (cs : CS) (x0 : Nat) (cs9 : CS), T.2.2.2.2.2.2.2.2.1 cs x0 = some cs9 → NB cs cs9) (hM_X9_readSpan : ∀ (cs : CS) (x0 : Nat) (cs9 : CS), T.2.2.2.2.2.2.2.2.2.1 cs x0 = some cs9 → NB cs cs9) (hM_X9_readAggregate : ∀ (cs : CS) (x0 : Nat) (cs9 : CS), T.2.2.2.2.2.2.2.2.2.2.1 cs x0 = some cs9 → NB cs cs9) (hM_X9_readList : ∀ (cs : CS) (x0 : Nat) (x1 : Int32) (x2 : Int32) (x3 : Int32) (x4 : Int32) (cs9 : CS), T.2.2.2.2.2.2.2.2.2.2.2 cs x0 x1 x2 x3 x4 = some cs9 → NB cs cs9) (rc19 : CS → Nat → Int32 → Int32 → Int32 → Option CS) (hrc19 : ∀ (cs1 : CS) (u0 : Nat) (u1 : Int32) (u2 : Int32) (u3 : Int32) (cs9 : CS), rc19 cs1 u0 u1 u2 u3 = some cs9 → NB cs1 cs9) (cs1 : CS) (u0 : Nat) (u1 : Int32) (u2 : Int32) (u3 : Int32) (cs9 : CS) (h : c_X9_readPart_b53 F T rc19 cs1 u0 u1 u2 u3 = some cs9) : NB cs1 cs9 := by
  unfold c_X9_readPart_b53 at h
  have hq : NB cs1 cs1 := NB.refl
  replace h := ob h; obtain ⟨w_2, hw_2, h⟩ := h
  replace h := ob h; obtain ⟨v_1, hv_1, h⟩ := h
  replace h := ob h; obtain ⟨w_4, hw_4, h⟩ := h
  replace h := ob h; obtain ⟨v_3, hv_3, h⟩ := h
  replace h := ob h; obtain ⟨v_5, hv_5, h⟩ := h
  replace h := ob h; obtain ⟨cs_6, hv_6, h⟩ := h
  replace hq := hq.trans (NB.pI hv_6)
  replace h := ob h; obtain ⟨w_8, hw_8, h⟩ := h
  replace h := ob h; obtain ⟨cs_7, hv_7, h⟩ := h
  replace hq := hq.trans (hM_X9_readSign cs_6 u0 cs_7 hv_7)
  replace h := ob h; obtain ⟨w_10, hw_10, h⟩ := h
  replace h := ob h; obtain ⟨z_9, hv_9, h⟩ := h
  replace hq := hq.trans (nb_c_X9_complete F cs_7 u0 v_1 u1 u2 v_3 2 z_9.1 z_9.2 hv_9)
  have k9 := hrc19 z_9.1 u0 u1 u2 (u3 + 1) cs9 h
  exact hq.trans k9
theorem nb_c_X9_readPart_L19 (F : Nat) (T : TC_X9_readExpr) (hM_X9_readExpr : ∀ (cs : CS) (x0 : Nat) (cs9 : CS) (r9 : Int32), T.1 cs x0 = some (cs9, r9) → NB cs cs9) (hM_X9_readConjunction : ∀ (cs : CS) (x0 : Nat) (cs9 : CS), T.2.1 cs x0 = some cs9 → NB cs cs9) (hM_X9_readNegation : ∀ (cs : CS) (x0 : Nat) (cs9 : CS), T.2.2.1 cs x0 = some cs9 → NB cs cs9) (hM_X9_readTest : ∀ (cs : CS) (x0 : Nat) (cs9 : CS), T.2.2.2.1 cs x0 = some cs9 → NB cs cs9) (hM_X9_readSum : ∀ (cs : CS) (x0 : Nat) (cs9 : CS), T.2.2.2.2.1 cs x0 = some cs9 → NB cs cs9) (hM_X9_readPart : ∀ (cs : CS) (x0 : Nat) (cs9 : CS), T.2.2.2.2.2.1 cs x0 = some cs9 → NB cs cs9) (hM_X9_readSign : ∀ (cs : CS) (x0 : Nat) (cs9 : CS), T.2.2.2.2.2.2.1 cs x0 = some cs9 → NB cs cs9) (hM_X9_readOne : ∀ (cs : CS) (x0 : Nat) (cs9 : CS), T.2.2.2.2.2.2.2.1 cs x0 = some cs9 → NB cs cs9) (hM_X9_readCase : ∀ (cs : CS) (x0 : Nat) (cs9 : CS), T.2.2.2.2.2.2.2.2.1 cs x0 = some cs9 → NB cs cs9) (hM_X9_readSpan : ∀ (cs : CS) (x0 : Nat) (cs9 : CS), T.2.2.2.2.2.2.2.2.2.1 cs x0 = some cs9 → NB cs cs9) (hM_X9_readAggregate : ∀ (cs : CS) (x0 : Nat) (cs9 : CS), T.2.2.2.2.2.2.2.2.2.2.1 cs x0 = some cs9 → NB cs cs9) (hM_X9_readList : ∀ (cs : CS) (x0 : Nat) (x1 : Int32) (x2 : Int32) (x3 : Int32) (x4 : Int32) (cs9 : CS), T.2.2.2.2.2.2.2.2.2.2.2 cs x0 x1 x2 x3 x4 = some cs9 → NB cs cs9) : ∀ (lf_19 : Nat) (cs1 : CS) (u0 : Nat) (u1 : Int32) (u2 : Int32) (u3 : Int32) (cs9 : CS), c_X9_readPart_L19 F T lf_19 cs1 u0 u1 u2 u3 = some cs9 → NB cs1 cs9 := by
  intro lf_19
  induction lf_19 with
  | zero => intro cs1 u0 u1 u2 u3 cs9 h; cases (show (none : Option CS) = _ from h)
  | succ lf_19 ih_19 =>
    intro cs1 u0 u1 u2 u3 cs9 h
    rw [c_X9_readPart_L19] at h
    have hq : NB cs1 cs1 := NB.refl
    by_cases c_1 : 2000 ≤ u3
    · skip
      replace h := (if_pos c_1).symm.trans h
      have k9 := nb_c_X9_readPart_b97 F T hM_X9_readExpr hM_X9_readConjunction hM_X9_readNegation hM_X9_readTest hM_X9_readSum hM_X9_readPart hM_X9_readSign hM_X9_readOne hM_X9_readCase hM_X9_readSpan hM_X9_readAggregate hM_X9_readList cs1 cs9 h
      exact hq.trans k9
    · skip
      replace h := (if_neg c_1).symm.trans h
      replace h := ob h; obtain ⟨w_3, hw_3, h⟩ := h
      replace h := ob h; obtain ⟨v_2, hv_2, h⟩ := h
      by_cases c_4 : v_2 = 47
      · skip
        replace h := (if_pos c_4).symm.trans h
        have k9 := nb_c_X9_readPart_b53 F T hM_X9_readExpr hM_X9_readConjunction hM_X9_readNegation hM_X9_readTest hM_X9_readSum hM_X9_readPart hM_X9_readSign hM_X9_readOne hM_X9_readCase hM_X9_readSpan hM_X9_readAggregate hM_X9_readList (c_X9_readPart_L19 F T lf_19) ih_19 cs1 u0 u1 u2 u3 cs9 h
        exact hq.trans k9
      · skip
        replace h := (if_neg c_4).symm.trans h
        replace h := ob h; obtain ⟨w_6, hw_6, h⟩ := h
        replace h := ob h; obtain ⟨v_5, hv_5, h⟩ := h
        by_cases c_7 : v_5 = 48
        · skip
          replace h := (if_pos c_7).symm.trans h
          have k9 := nb_c_X9_readPart_b53 F T hM_X9_readExpr hM_X9_readConjunction hM_X9_readNegation hM_X9_readTest hM_X9_readSum hM_X9_readPart hM_X9_readSign hM_X9_readOne hM_X9_readCase hM_X9_readSpan hM_X9_readAggregate hM_X9_readList (c_X9_readPart_L19 F T lf_19) ih_19 cs1 u0 u1 u2 u3 cs9 h
          exact hq.trans k9
        · skip
          replace h := (if_neg c_7).symm.trans h
          replace h := ob h; obtain ⟨w_9, hw_9, h⟩ := h
          replace h := ob h; obtain ⟨v_8, hv_8, h⟩ := h
          by_cases c_10 : v_8 = 49
          · skip
            replace h := (if_pos c_10).symm.trans h
            have k9 := nb_c_X9_readPart_b53 F T hM_X9_readExpr hM_X9_readConjunction hM_X9_readNegation hM_X9_readTest hM_X9_readSum hM_X9_readPart hM_X9_readSign hM_X9_readOne hM_X9_readCase hM_X9_readSpan hM_X9_readAggregate hM_X9_readList (c_X9_readPart_L19 F T lf_19) ih_19 cs1 u0 u1 u2 u3 cs9 h
            exact hq.trans k9
          · skip
            replace h := (if_neg c_10).symm.trans h
            have k9 := nb_c_X9_readPart_b97 F T hM_X9_readExpr hM_X9_readConjunction hM_X9_readNegation hM_X9_readTest hM_X9_readSum hM_X9_readPart hM_X9_readSign hM_X9_readOne hM_X9_readCase hM_X9_readSpan hM_X9_readAggregate hM_X9_readList cs1 cs9 h
            exact hq.trans k9
theorem nb_cb_X9_readPart (F : Nat) (T : TC_X9_readExpr) (hM_X9_readExpr : ∀ (cs : CS) (x0 : Nat) (cs9 : CS) (r9 : Int32), T.1 cs x0 = some (cs9, r9) → NB cs cs9) (hM_X9_readConjunction : ∀ (cs : CS) (x0 : Nat) (cs9 : CS), T.2.1 cs x0 = some cs9 → NB cs cs9) (hM_X9_readNegation : ∀ (cs : CS) (x0 : Nat) (cs9 : CS), T.2.2.1 cs x0 = some cs9 → NB cs cs9) (hM_X9_readTest : ∀ (cs : CS) (x0 : Nat) (cs9 : CS), T.2.2.2.1 cs x0 = some cs9 → NB cs cs9) (hM_X9_readSum : ∀ (cs : CS) (x0 : Nat) (cs9 : CS), T.2.2.2.2.1 cs x0 = some cs9 → NB cs cs9) (hM_X9_readPart : ∀ (cs : CS) (x0 : Nat) (cs9 : CS), T.2.2.2.2.2.1 cs x0 = some cs9 → NB cs cs9) (hM_X9_readSign : ∀ (cs : CS) (x0 : Nat) (cs9 : CS), T.2.2.2.2.2.2.1 cs x0 = some cs9 → NB cs cs9) (hM_X9_readOne : ∀ (cs : CS) (x0 : Nat) (cs9 : CS), T.2.2.2.2.2.2.2.1 cs x0 = some cs9 → NB cs cs9) (hM_X9_readCase : ∀ (cs : CS) (x0 : Nat) (cs9 : CS), T.2.2.2.2.2.2.2.2.1 cs x0 = some cs9 → NB cs cs9) (hM_X9_readSpan : ∀ (cs : CS) (x0 : Nat) (cs9 : CS), T.2.2.2.2.2.2.2.2.2.1 cs x0 = some cs9 → NB cs cs9) (hM_X9_readAggregate : ∀ (cs : CS) (x0 : Nat) (cs9 : CS), T.2.2.2.2.2.2.2.2.2.2.1 cs x0 = some cs9 → NB cs cs9) (hM_X9_readList : ∀ (cs : CS) (x0 : Nat) (x1 : Int32) (x2 : Int32) (x3 : Int32) (x4 : Int32) (cs9 : CS), T.2.2.2.2.2.2.2.2.2.2.2 cs x0 x1 x2 x3 x4 = some cs9 → NB cs cs9) (cs : CS) (x0 : Nat) (cs9 : CS) (h : cb_X9_readPart F T cs x0 = some cs9) : NB cs cs9 := by
  unfold cb_X9_readPart at h
  have hq : NB cs cs := NB.refl
  replace h := ob h; obtain ⟨v_1, hv_1, h⟩ := h
  replace h := ob h; obtain ⟨i_2, hi_2, h⟩ := h
  subst hi_2
  replace h := ob h; obtain ⟨v_3, hv_3, h⟩ := h
  replace h := ob h; obtain ⟨w_5, hw_5, h⟩ := h
  replace h := ob h; obtain ⟨v_4, hv_4, h⟩ := h
  replace h := ob h; obtain ⟨w_7, hw_7, h⟩ := h
  replace h := ob h; obtain ⟨cs_6, hv_6, h⟩ := h
  replace hq := hq.trans (hM_X9_readSign cs x0 cs_6 hv_6)
  have k9 := nb_c_X9_readPart_L19 F T hM_X9_readExpr hM_X9_readConjunction hM_X9_readNegation hM_X9_readTest hM_X9_readSum hM_X9_readPart hM_X9_readSign hM_X9_readOne hM_X9_readCase hM_X9_readSpan hM_X9_readAggregate hM_X9_readList F cs_6 x0 v_3 v_4 0 cs9 h
  exact hq.trans k9
theorem nb_c_X9_readSign_b49 (F : Nat) (T : TC_X9_readExpr) (hM_X9_readExpr : ∀ (cs : CS) (x0 : Nat) (cs9 : CS) (r9 : Int32), T.1 cs x0 = some (cs9, r9) → NB cs cs9) (hM_X9_readConjunction : ∀ (cs : CS) (x0 : Nat) (cs9 : CS), T.2.1 cs x0 = some cs9 → NB cs cs9) (hM_X9_readNegation : ∀ (cs : CS) (x0 : Nat) (cs9 : CS), T.2.2.1 cs x0 = some cs9 → NB cs cs9) (hM_X9_readTest : ∀ (cs : CS) (x0 : Nat) (cs9 : CS), T.2.2.2.1 cs x0 = some cs9 → NB cs cs9) (hM_X9_readSum : ∀ (cs : CS) (x0 : Nat) (cs9 : CS), T.2.2.2.2.1 cs x0 = some cs9 → NB cs cs9) (hM_X9_readPart : ∀ (cs : CS) (x0 : Nat) (cs9 : CS), T.2.2.2.2.2.1 cs x0 = some cs9 → NB cs cs9) (hM_X9_readSign : ∀ (cs : CS) (x0 : Nat) (cs9 : CS), T.2.2.2.2.2.2.1 cs x0 = some cs9 → NB cs cs9) (hM_X9_readOne : ∀ (cs : CS) (x0 : Nat) (cs9 : CS), T.2.2.2.2.2.2.2.1 cs x0 = some cs9 → NB cs cs9) (hM_X9_readCase : ∀ (cs : CS) (x0 : Nat) (cs9 : CS), T.2.2.2.2.2.2.2.2.1 cs x0 = some cs9 → NB cs cs9) (hM_X9_readSpan : ∀ (cs : CS) (x0 : Nat) (cs9 : CS), T.2.2.2.2.2.2.2.2.2.1 cs x0 = some cs9 → NB cs cs9) (hM_X9_readAggregate : ∀ (cs : CS) (x0 : Nat) (cs9 : CS), T.2.2.2.2.2.2.2.2.2.2.1 cs x0 = some cs9 → NB cs cs9) (hM_X9_readList : ∀ (cs : CS) (x0 : Nat) (x1 : Int32) (x2 : Int32) (x3 : Int32) (x4 : Int32) (cs9 : CS), T.2.2.2.2.2.2.2.2.2.2.2 cs x0 x1 x2 x3 x4 = some cs9 → NB cs cs9) (cs1 : CS) (u0 : Nat) (u1 : Int32) (u2 : Int32) (cs9 : CS) (h : c_X9_readSign_b49 F T cs1 u0 u1 u2 = some cs9) : NB cs1 cs9 := by
  unfold c_X9_readSign_b49 at h
  have hq : NB cs1 cs1 := NB.refl
  replace h := ob h; obtain ⟨v_1, hv_1, h⟩ := h
  replace h := ob h; obtain ⟨cs_2, hv_2, h⟩ := h
  replace hq := hq.trans (NB.pI hv_2)
  replace h := ob h; obtain ⟨w_4, hw_4, h⟩ := h
  replace h := ob h; obtain ⟨z_3, hv_3, h⟩ := h
  replace hq := hq.trans (nb_c_X9_complete F cs_2 u0 58 u1 u2 u2 1 z_3.1 z_3.2 hv_3)
  have h9 := Option.some.inj h
  exact hq.to h9
theorem nb_cb_X9_readSign (F : Nat) (T : TC_X9_readExpr) (hM_X9_readExpr : ∀ (cs : CS) (x0 : Nat) (cs9 : CS) (r9 : Int32), T.1 cs x0 = some (cs9, r9) → NB cs cs9) (hM_X9_readConjunction : ∀ (cs : CS) (x0 : Nat) (cs9 : CS), T.2.1 cs x0 = some cs9 → NB cs cs9) (hM_X9_readNegation : ∀ (cs : CS) (x0 : Nat) (cs9 : CS), T.2.2.1 cs x0 = some cs9 → NB cs cs9) (hM_X9_readTest : ∀ (cs : CS) (x0 : Nat) (cs9 : CS), T.2.2.2.1 cs x0 = some cs9 → NB cs cs9) (hM_X9_readSum : ∀ (cs : CS) (x0 : Nat) (cs9 : CS), T.2.2.2.2.1 cs x0 = some cs9 → NB cs cs9) (hM_X9_readPart : ∀ (cs : CS) (x0 : Nat) (cs9 : CS), T.2.2.2.2.2.1 cs x0 = some cs9 → NB cs cs9) (hM_X9_readSign : ∀ (cs : CS) (x0 : Nat) (cs9 : CS), T.2.2.2.2.2.2.1 cs x0 = some cs9 → NB cs cs9) (hM_X9_readOne : ∀ (cs : CS) (x0 : Nat) (cs9 : CS), T.2.2.2.2.2.2.2.1 cs x0 = some cs9 → NB cs cs9) (hM_X9_readCase : ∀ (cs : CS) (x0 : Nat) (cs9 : CS), T.2.2.2.2.2.2.2.2.1 cs x0 = some cs9 → NB cs cs9) (hM_X9_readSpan : ∀ (cs : CS) (x0 : Nat) (cs9 : CS), T.2.2.2.2.2.2.2.2.2.1 cs x0 = some cs9 → NB cs cs9) (hM_X9_readAggregate : ∀ (cs : CS) (x0 : Nat) (cs9 : CS), T.2.2.2.2.2.2.2.2.2.2.1 cs x0 = some cs9 → NB cs cs9) (hM_X9_readList : ∀ (cs : CS) (x0 : Nat) (x1 : Int32) (x2 : Int32) (x3 : Int32) (x4 : Int32) (cs9 : CS), T.2.2.2.2.2.2.2.2.2.2.2 cs x0 x1 x2 x3 x4 = some cs9 → NB cs cs9) (cs : CS) (x0 : Nat) (cs9 : CS) (h : cb_X9_readSign F T cs x0 = some cs9) : NB cs cs9 := by
  unfold cb_X9_readSign at h
  have hq : NB cs cs := NB.refl
  replace h := ob h; obtain ⟨w_2, hw_2, h⟩ := h
  replace h := ob h; obtain ⟨v_1, hv_1, h⟩ := h
  by_cases c_3 : v_1 = 46
  · skip
    replace h := (if_pos c_3).symm.trans h
    replace h := ob h; obtain ⟨v_4, hv_4, h⟩ := h
    replace h := ob h; obtain ⟨i_5, hi_5, h⟩ := h
    subst hi_5
    replace h := ob h; obtain ⟨v_6, hv_6, h⟩ := h
    replace h := ob h; obtain ⟨w_8, hw_8, h⟩ := h
    replace h := ob h; obtain ⟨v_7, hv_7, h⟩ := h
    replace h := ob h; obtain ⟨w_10, hw_10, h⟩ := h
    replace h := ob h; obtain ⟨cs_9, hv_9, h⟩ := h
    replace hq := hq.trans (nb_c_X9_deepen F cs x0 cs_9 hv_9)
    replace h := ob h; obtain ⟨w_12, hw_12, h⟩ := h
    replace h := ob h; obtain ⟨z_11, hv_11, h⟩ := h
    replace hq := hq.trans (nb_c_X9_accept F cs_9 x0 46 z_11.1 z_11.2 hv_11)
    replace h := ob h; obtain ⟨v_13, hv_13, h⟩ := h
    by_cases c_14 : v_13 = 0
    · skip
      replace h := (if_pos c_14).symm.trans h
      replace h := ob h; obtain ⟨w_16, hw_16, h⟩ := h
      replace h := ob h; obtain ⟨cs_15, hv_15, h⟩ := h
      replace hq := hq.trans (hM_X9_readSign z_11.1 x0 cs_15 hv_15)
      have k9 := nb_c_X9_readSign_b49 F T hM_X9_readExpr hM_X9_readConjunction hM_X9_readNegation hM_X9_readTest hM_X9_readSum hM_X9_readPart hM_X9_readSign hM_X9_readOne hM_X9_readCase hM_X9_readSpan hM_X9_readAggregate hM_X9_readList cs_15 x0 v_6 v_7 cs9 h
      exact hq.trans k9
    · skip
      replace h := (if_neg c_14).symm.trans h
      have k9 := nb_c_X9_readSign_b49 F T hM_X9_readExpr hM_X9_readConjunction hM_X9_readNegation hM_X9_readTest hM_X9_readSum hM_X9_readPart hM_X9_readSign hM_X9_readOne hM_X9_readCase hM_X9_readSpan hM_X9_readAggregate hM_X9_readList z_11.1 x0 v_6 v_7 cs9 h
      exact hq.trans k9
  · skip
    replace h := (if_neg c_3).symm.trans h
    replace h := ob h; obtain ⟨w_18, hw_18, h⟩ := h
    replace h := ob h; obtain ⟨cs_17, hv_17, h⟩ := h
    replace hq := hq.trans (hM_X9_readOne cs x0 cs_17 hv_17)
    have h9 := Option.some.inj h
    exact hq.to h9
theorem nb_c_X9_readOne_b191 (F : Nat) (T : TC_X9_readExpr) (hM_X9_readExpr : ∀ (cs : CS) (x0 : Nat) (cs9 : CS) (r9 : Int32), T.1 cs x0 = some (cs9, r9) → NB cs cs9) (hM_X9_readConjunction : ∀ (cs : CS) (x0 : Nat) (cs9 : CS), T.2.1 cs x0 = some cs9 → NB cs cs9) (hM_X9_readNegation : ∀ (cs : CS) (x0 : Nat) (cs9 : CS), T.2.2.1 cs x0 = some cs9 → NB cs cs9) (hM_X9_readTest : ∀ (cs : CS) (x0 : Nat) (cs9 : CS), T.2.2.2.1 cs x0 = some cs9 → NB cs cs9) (hM_X9_readSum : ∀ (cs : CS) (x0 : Nat) (cs9 : CS), T.2.2.2.2.1 cs x0 = some cs9 → NB cs cs9) (hM_X9_readPart : ∀ (cs : CS) (x0 : Nat) (cs9 : CS), T.2.2.2.2.2.1 cs x0 = some cs9 → NB cs cs9) (hM_X9_readSign : ∀ (cs : CS) (x0 : Nat) (cs9 : CS), T.2.2.2.2.2.2.1 cs x0 = some cs9 → NB cs cs9) (hM_X9_readOne : ∀ (cs : CS) (x0 : Nat) (cs9 : CS), T.2.2.2.2.2.2.2.1 cs x0 = some cs9 → NB cs cs9) (hM_X9_readCase : ∀ (cs : CS) (x0 : Nat) (cs9 : CS), T.2.2.2.2.2.2.2.2.1 cs x0 = some cs9 → NB cs cs9) (hM_X9_readSpan : ∀ (cs : CS) (x0 : Nat) (cs9 : CS), T.2.2.2.2.2.2.2.2.2.1 cs x0 = some cs9 → NB cs cs9) (hM_X9_readAggregate : ∀ (cs : CS) (x0 : Nat) (cs9 : CS), T.2.2.2.2.2.2.2.2.2.2.1 cs x0 = some cs9 → NB cs cs9) (hM_X9_readList : ∀ (cs : CS) (x0 : Nat) (x1 : Int32) (x2 : Int32) (x3 : Int32) (x4 : Int32) (cs9 : CS), T.2.2.2.2.2.2.2.2.2.2.2 cs x0 x1 x2 x3 x4 = some cs9 → NB cs cs9) (cs1 : CS) (cs9 : CS) (h : c_X9_readOne_b191 F T cs1 = some cs9) : NB cs1 cs9 := by
  unfold c_X9_readOne_b191 at h
  have hq : NB cs1 cs1 := NB.refl
  have h9 := Option.some.inj h
  exact hq.to h9
theorem nb_c_X9_readOne_b112 (F : Nat) (T : TC_X9_readExpr) (hM_X9_readExpr : ∀ (cs : CS) (x0 : Nat) (cs9 : CS) (r9 : Int32), T.1 cs x0 = some (cs9, r9) → NB cs cs9) (hM_X9_readConjunction : ∀ (cs : CS) (x0 : Nat) (cs9 : CS), T.2.1 cs x0 = some cs9 → NB cs cs9) (hM_X9_readNegation : ∀ (cs : CS) (x0 : Nat) (cs9 : CS), T.2.2.1 cs x0 = some cs9 → NB cs cs9) (hM_X9_readTest : ∀ (cs : CS) (x0 : Nat) (cs9 : CS), T.2.2.2.1 cs x0 = some cs9 → NB cs cs9) (hM_X9_readSum : ∀ (cs : CS) (x0 : Nat) (cs9 : CS), T.2.2.2.2.1 cs x0 = some cs9 → NB cs cs9) (hM_X9_readPart : ∀ (cs : CS) (x0 : Nat) (cs9 : CS), T.2.2.2.2.2.1 cs x0 = some cs9 → NB cs cs9) (hM_X9_readSign : ∀ (cs : CS) (x0 : Nat) (cs9 : CS), T.2.2.2.2.2.2.1 cs x0 = some cs9 → NB cs cs9) (hM_X9_readOne : ∀ (cs : CS) (x0 : Nat) (cs9 : CS), T.2.2.2.2.2.2.2.1 cs x0 = some cs9 → NB cs cs9) (hM_X9_readCase : ∀ (cs : CS) (x0 : Nat) (cs9 : CS), T.2.2.2.2.2.2.2.2.1 cs x0 = some cs9 → NB cs cs9) (hM_X9_readSpan : ∀ (cs : CS) (x0 : Nat) (cs9 : CS), T.2.2.2.2.2.2.2.2.2.1 cs x0 = some cs9 → NB cs cs9) (hM_X9_readAggregate : ∀ (cs : CS) (x0 : Nat) (cs9 : CS), T.2.2.2.2.2.2.2.2.2.2.1 cs x0 = some cs9 → NB cs cs9) (hM_X9_readList : ∀ (cs : CS) (x0 : Nat) (x1 : Int32) (x2 : Int32) (x3 : Int32) (x4 : Int32) (cs9 : CS), T.2.2.2.2.2.2.2.2.2.2.2 cs x0 x1 x2 x3 x4 = some cs9 → NB cs cs9) (cs1 : CS) (u0 : Nat) (cs9 : CS) (h : c_X9_readOne_b112 F T cs1 u0 = some cs9) : NB cs1 cs9 := by
  unfold c_X9_readOne_b112 at h
  have hq : NB cs1 cs1 := NB.refl
  replace h := ob h; obtain ⟨w_2, hw_2, h⟩ := h
  replace h := ob h; obtain ⟨cs_1, hv_1, h⟩ := h
  replace hq := hq.trans (nb_c_X9_readLiteral F cs1 u0 cs_1 hv_1)
  have k9 := nb_c_X9_readOne_b191 F T hM_X9_readExpr hM_X9_readConjunction hM_X9_readNegation hM_X9_readTest hM_X9_readSum hM_X9_readPart hM_X9_readSign hM_X9_readOne hM_X9_readCase hM_X9_readSpan hM_X9_readAggregate hM_X9_readList cs_1 cs9 h
  exact hq.trans k9
theorem nb_c_X9_readOne_b119 (F : Nat) (T : TC_X9_readExpr) (hM_X9_readExpr : ∀ (cs : CS) (x0 : Nat) (cs9 : CS) (r9 : Int32), T.1 cs x0 = some (cs9, r9) → NB cs cs9) (hM_X9_readConjunction : ∀ (cs : CS) (x0 : Nat) (cs9 : CS), T.2.1 cs x0 = some cs9 → NB cs cs9) (hM_X9_readNegation : ∀ (cs : CS) (x0 : Nat) (cs9 : CS), T.2.2.1 cs x0 = some cs9 → NB cs cs9) (hM_X9_readTest : ∀ (cs : CS) (x0 : Nat) (cs9 : CS), T.2.2.2.1 cs x0 = some cs9 → NB cs cs9) (hM_X9_readSum : ∀ (cs : CS) (x0 : Nat) (cs9 : CS), T.2.2.2.2.1 cs x0 = some cs9 → NB cs cs9) (hM_X9_readPart : ∀ (cs : CS) (x0 : Nat) (cs9 : CS), T.2.2.2.2.2.1 cs x0 = some cs9 → NB cs cs9) (hM_X9_readSign : ∀ (cs : CS) (x0 : Nat) (cs9 : CS), T.2.2.2.2.2.2.1 cs x0 = some cs9 → NB cs cs9) (hM_X9_readOne : ∀ (cs : CS) (x0 : Nat) (cs9 : CS), T.2.2.2.2.2.2.2.1 cs x0 = some cs9 → NB cs cs9) (hM_X9_readCase : ∀ (cs : CS) (x0 : Nat) (cs9 : CS), T.2.2.2.2.2.2.2.2.1 cs x0 = some cs9 → NB cs cs9) (hM_X9_readSpan : ∀ (cs : CS) (x0 : Nat) (cs9 : CS), T.2.2.2.2.2.2.2.2.2.1 cs x0 = some cs9 → NB cs cs9) (hM_X9_readAggregate : ∀ (cs : CS) (x0 : Nat) (cs9 : CS), T.2.2.2.2.2.2.2.2.2.2.1 cs x0 = some cs9 → NB cs cs9) (hM_X9_readList : ∀ (cs : CS) (x0 : Nat) (x1 : Int32) (x2 : Int32) (x3 : Int32) (x4 : Int32) (cs9 : CS), T.2.2.2.2.2.2.2.2.2.2.2 cs x0 x1 x2 x3 x4 = some cs9 → NB cs cs9) (cs1 : CS) (u0 : Nat) (cs9 : CS) (h : c_X9_readOne_b119 F T cs1 u0 = some cs9) : NB cs1 cs9 := by
  unfold c_X9_readOne_b119 at h
  have hq : NB cs1 cs1 := NB.refl
  replace h := ob h; obtain ⟨w_2, hw_2, h⟩ := h
  replace h := ob h; obtain ⟨cs_1, hv_1, h⟩ := h
  replace hq := hq.trans (nb_c_X9_readColumn F cs1 u0 cs_1 hv_1)
  have k9 := nb_c_X9_readOne_b191 F T hM_X9_readExpr hM_X9_readConjunction hM_X9_readNegation hM_X9_readTest hM_X9_readSum hM_X9_readPart hM_X9_readSign hM_X9_readOne hM_X9_readCase hM_X9_readSpan hM_X9_readAggregate hM_X9_readList cs_1 cs9 h
  exact hq.trans k9
theorem nb_c_X9_readOne_b175 (F : Nat) (T : TC_X9_readExpr) (hM_X9_readExpr : ∀ (cs : CS) (x0 : Nat) (cs9 : CS) (r9 : Int32), T.1 cs x0 = some (cs9, r9) → NB cs cs9) (hM_X9_readConjunction : ∀ (cs : CS) (x0 : Nat) (cs9 : CS), T.2.1 cs x0 = some cs9 → NB cs cs9) (hM_X9_readNegation : ∀ (cs : CS) (x0 : Nat) (cs9 : CS), T.2.2.1 cs x0 = some cs9 → NB cs cs9) (hM_X9_readTest : ∀ (cs : CS) (x0 : Nat) (cs9 : CS), T.2.2.2.1 cs x0 = some cs9 → NB cs cs9) (hM_X9_readSum : ∀ (cs : CS) (x0 : Nat) (cs9 : CS), T.2.2.2.2.1 cs x0 = some cs9 → NB cs cs9) (hM_X9_readPart : ∀ (cs : CS) (x0 : Nat) (cs9 : CS), T.2.2.2.2.2.1 cs x0 = some cs9 → NB cs cs9) (hM_X9_readSign : ∀ (cs : CS) (x0 : Nat) (cs9 : CS), T.2.2.2.2.2.2.1 cs x0 = some cs9 → NB cs cs9) (hM_X9_readOne : ∀ (cs : CS) (x0 : Nat) (cs9 : CS), T.2.2.2.2.2.2.2.1 cs x0 = some cs9 → NB cs cs9) (hM_X9_readCase : ∀ (cs : CS) (x0 : Nat) (cs9 : CS), T.2.2.2.2.2.2.2.2.1 cs x0 = some cs9 → NB cs cs9) (hM_X9_readSpan : ∀ (cs : CS) (x0 : Nat) (cs9 : CS), T.2.2.2.2.2.2.2.2.2.1 cs x0 = some cs9 → NB cs cs9) (hM_X9_readAggregate : ∀ (cs : CS) (x0 : Nat) (cs9 : CS), T.2.2.2.2.2.2.2.2.2.2.1 cs x0 = some cs9 → NB cs cs9) (hM_X9_readList : ∀ (cs : CS) (x0 : Nat) (x1 : Int32) (x2 : Int32) (x3 : Int32) (x4 : Int32) (cs9 : CS), T.2.2.2.2.2.2.2.2.2.2.2 cs x0 x1 x2 x3 x4 = some cs9 → NB cs cs9) (cs1 : CS) (u0 : Nat) (cs9 : CS) (h : c_X9_readOne_b175 F T cs1 u0 = some cs9) : NB cs1 cs9 := by
  unfold c_X9_readOne_b175 at h
  have hq : NB cs1 cs1 := NB.refl
  replace h := ob h; obtain ⟨w_2, hw_2, h⟩ := h
  replace h := ob h; obtain ⟨cs_1, hv_1, h⟩ := h
  replace hq := hq.trans (hM_X9_readAggregate cs1 u0 cs_1 hv_1)
  have k9 := nb_c_X9_readOne_b191 F T hM_X9_readExpr hM_X9_readConjunction hM_X9_readNegation hM_X9_readTest hM_X9_readSum hM_X9_readPart hM_X9_readSign hM_X9_readOne hM_X9_readCase hM_X9_readSpan hM_X9_readAggregate hM_X9_readList cs_1 cs9 h
  exact hq.trans k9
theorem nb_c_X9_readOne_b182 (F : Nat) (T : TC_X9_readExpr) (hM_X9_readExpr : ∀ (cs : CS) (x0 : Nat) (cs9 : CS) (r9 : Int32), T.1 cs x0 = some (cs9, r9) → NB cs cs9) (hM_X9_readConjunction : ∀ (cs : CS) (x0 : Nat) (cs9 : CS), T.2.1 cs x0 = some cs9 → NB cs cs9) (hM_X9_readNegation : ∀ (cs : CS) (x0 : Nat) (cs9 : CS), T.2.2.1 cs x0 = some cs9 → NB cs cs9) (hM_X9_readTest : ∀ (cs : CS) (x0 : Nat) (cs9 : CS), T.2.2.2.1 cs x0 = some cs9 → NB cs cs9) (hM_X9_readSum : ∀ (cs : CS) (x0 : Nat) (cs9 : CS), T.2.2.2.2.1 cs x0 = some cs9 → NB cs cs9) (hM_X9_readPart : ∀ (cs : CS) (x0 : Nat) (cs9 : CS), T.2.2.2.2.2.1 cs x0 = some cs9 → NB cs cs9) (hM_X9_readSign : ∀ (cs : CS) (x0 : Nat) (cs9 : CS), T.2.2.2.2.2.2.1 cs x0 = some cs9 → NB cs cs9) (hM_X9_readOne : ∀ (cs : CS) (x0 : Nat) (cs9 : CS), T.2.2.2.2.2.2.2.1 cs x0 = some cs9 → NB cs cs9) (hM_X9_readCase : ∀ (cs : CS) (x0 : Nat) (cs9 : CS), T.2.2.2.2.2.2.2.2.1 cs x0 = some cs9 → NB cs cs9) (hM_X9_readSpan : ∀ (cs : CS) (x0 : Nat) (cs9 : CS), T.2.2.2.2.2.2.2.2.2.1 cs x0 = some cs9 → NB cs cs9) (hM_X9_readAggregate : ∀ (cs : CS) (x0 : Nat) (cs9 : CS), T.2.2.2.2.2.2.2.2.2.2.1 cs x0 = some cs9 → NB cs cs9) (hM_X9_readList : ∀ (cs : CS) (x0 : Nat) (x1 : Int32) (x2 : Int32) (x3 : Int32) (x4 : Int32) (cs9 : CS), T.2.2.2.2.2.2.2.2.2.2.2 cs x0 x1 x2 x3 x4 = some cs9 → NB cs cs9) (cs1 : CS) (u0 : Nat) (cs9 : CS) (h : c_X9_readOne_b182 F T cs1 u0 = some cs9) : NB cs1 cs9 := by
  unfold c_X9_readOne_b182 at h
  have hq : NB cs1 cs1 := NB.refl
  replace h := ob h; obtain ⟨w_2, hw_2, h⟩ := h
  replace h := ob h; obtain ⟨v_1, hv_1, h⟩ := h
  replace h := ob h; obtain ⟨w_4, hw_4, h⟩ := h
  replace h := ob h; obtain ⟨cs_3, hv_3, h⟩ := h
  replace hq := hq.trans (nb_c_X9_refuse F cs1 u0 1 v_1 cs_3 hv_3)
  have k9 := nb_c_X9_readOne_b191 F T hM_X9_readExpr hM_X9_readConjunction hM_X9_readNegation hM_X9_readTest hM_X9_readSum hM_X9_readPart hM_X9_readSign hM_X9_readOne hM_X9_readCase hM_X9_readSpan hM_X9_readAggregate hM_X9_readList cs_3 cs9 h
  exact hq.trans k9
theorem nb_cb_X9_readOne (F : Nat) (T : TC_X9_readExpr) (hM_X9_readExpr : ∀ (cs : CS) (x0 : Nat) (cs9 : CS) (r9 : Int32), T.1 cs x0 = some (cs9, r9) → NB cs cs9) (hM_X9_readConjunction : ∀ (cs : CS) (x0 : Nat) (cs9 : CS), T.2.1 cs x0 = some cs9 → NB cs cs9) (hM_X9_readNegation : ∀ (cs : CS) (x0 : Nat) (cs9 : CS), T.2.2.1 cs x0 = some cs9 → NB cs cs9) (hM_X9_readTest : ∀ (cs : CS) (x0 : Nat) (cs9 : CS), T.2.2.2.1 cs x0 = some cs9 → NB cs cs9) (hM_X9_readSum : ∀ (cs : CS) (x0 : Nat) (cs9 : CS), T.2.2.2.2.1 cs x0 = some cs9 → NB cs cs9) (hM_X9_readPart : ∀ (cs : CS) (x0 : Nat) (cs9 : CS), T.2.2.2.2.2.1 cs x0 = some cs9 → NB cs cs9) (hM_X9_readSign : ∀ (cs : CS) (x0 : Nat) (cs9 : CS), T.2.2.2.2.2.2.1 cs x0 = some cs9 → NB cs cs9) (hM_X9_readOne : ∀ (cs : CS) (x0 : Nat) (cs9 : CS), T.2.2.2.2.2.2.2.1 cs x0 = some cs9 → NB cs cs9) (hM_X9_readCase : ∀ (cs : CS) (x0 : Nat) (cs9 : CS), T.2.2.2.2.2.2.2.2.1 cs x0 = some cs9 → NB cs cs9) (hM_X9_readSpan : ∀ (cs : CS) (x0 : Nat) (cs9 : CS), T.2.2.2.2.2.2.2.2.2.1 cs x0 = some cs9 → NB cs cs9) (hM_X9_readAggregate : ∀ (cs : CS) (x0 : Nat) (cs9 : CS), T.2.2.2.2.2.2.2.2.2.2.1 cs x0 = some cs9 → NB cs cs9) (hM_X9_readList : ∀ (cs : CS) (x0 : Nat) (x1 : Int32) (x2 : Int32) (x3 : Int32) (x4 : Int32) (cs9 : CS), T.2.2.2.2.2.2.2.2.2.2.2 cs x0 x1 x2 x3 x4 = some cs9 → NB cs cs9) (cs : CS) (x0 : Nat) (cs9 : CS) (h : cb_X9_readOne F T cs x0 = some cs9) : NB cs cs9 := by
  unfold cb_X9_readOne at h
  have hq : NB cs cs := NB.refl
  replace h := ob h; obtain ⟨w_2, hw_2, h⟩ := h
  replace h := ob h; obtain ⟨v_1, hv_1, h⟩ := h
  by_cases c_3 : v_1 = 19
  · skip
    replace h := (if_pos c_3).symm.trans h
    replace h := ob h; obtain ⟨w_5, hw_5, h⟩ := h
    replace h := ob h; obtain ⟨cs_4, hv_4, h⟩ := h
    replace hq := hq.trans (hM_X9_readCase cs x0 cs_4 hv_4)
    have k9 := nb_c_X9_readOne_b191 F T hM_X9_readExpr hM_X9_readConjunction hM_X9_readNegation hM_X9_readTest hM_X9_readSum hM_X9_readPart hM_X9_readSign hM_X9_readOne hM_X9_readCase hM_X9_readSpan hM_X9_readAggregate hM_X9_readList cs_4 cs9 h
    exact hq.trans k9
  replace h := (if_neg c_3).symm.trans h
  by_cases c_6 : v_1 = 26
  · skip
    replace h := (if_pos c_6).symm.trans h
    have k9 := nb_c_X9_readOne_b112 F T hM_X9_readExpr hM_X9_readConjunction hM_X9_readNegation hM_X9_readTest hM_X9_readSum hM_X9_readPart hM_X9_readSign hM_X9_readOne hM_X9_readCase hM_X9_readSpan hM_X9_readAggregate hM_X9_readList cs x0 cs9 h
    exact hq.trans k9
  replace h := (if_neg c_6).symm.trans h
  by_cases c_7 : v_1 = 30
  · skip
    replace h := (if_pos c_7).symm.trans h
    have k9 := nb_c_X9_readOne_b112 F T hM_X9_readExpr hM_X9_readConjunction hM_X9_readNegation hM_X9_readTest hM_X9_readSum hM_X9_readPart hM_X9_readSign hM_X9_readOne hM_X9_readCase hM_X9_readSpan hM_X9_readAggregate hM_X9_readList cs x0 cs9 h
    exact hq.trans k9
  replace h := (if_neg c_7).symm.trans h
  by_cases c_8 : v_1 = 31
  · skip
    replace h := (if_pos c_8).symm.trans h
    have k9 := nb_c_X9_readOne_b112 F T hM_X9_readExpr hM_X9_readConjunction hM_X9_readNegation hM_X9_readTest hM_X9_readSum hM_X9_readPart hM_X9_readSign hM_X9_readOne hM_X9_readCase hM_X9_readSpan hM_X9_readAggregate hM_X9_readList cs x0 cs9 h
    exact hq.trans k9
  replace h := (if_neg c_8).symm.trans h
  by_cases c_9 : v_1 = 32
  · skip
    replace h := (if_pos c_9).symm.trans h
    have k9 := nb_c_X9_readOne_b175 F T hM_X9_readExpr hM_X9_readConjunction hM_X9_readNegation hM_X9_readTest hM_X9_readSum hM_X9_readPart hM_X9_readSign hM_X9_readOne hM_X9_readCase hM_X9_readSpan hM_X9_readAggregate hM_X9_readList cs x0 cs9 h
    exact hq.trans k9
  replace h := (if_neg c_9).symm.trans h
  by_cases c_10 : v_1 = 33
  · skip
    replace h := (if_pos c_10).symm.trans h
    have k9 := nb_c_X9_readOne_b175 F T hM_X9_readExpr hM_X9_readConjunction hM_X9_readNegation hM_X9_readTest hM_X9_readSum hM_X9_readPart hM_X9_readSign hM_X9_readOne hM_X9_readCase hM_X9_readSpan hM_X9_readAggregate hM_X9_readList cs x0 cs9 h
    exact hq.trans k9
  replace h := (if_neg c_10).symm.trans h
  by_cases c_11 : v_1 = 34
  · skip
    replace h := (if_pos c_11).symm.trans h
    have k9 := nb_c_X9_readOne_b175 F T hM_X9_readExpr hM_X9_readConjunction hM_X9_readNegation hM_X9_readTest hM_X9_readSum hM_X9_readPart hM_X9_readSign hM_X9_readOne hM_X9_readCase hM_X9_readSpan hM_X9_readAggregate hM_X9_readList cs x0 cs9 h
    exact hq.trans k9
  replace h := (if_neg c_11).symm.trans h
  by_cases c_12 : v_1 = 35
  · skip
    replace h := (if_pos c_12).symm.trans h
    have k9 := nb_c_X9_readOne_b175 F T hM_X9_readExpr hM_X9_readConjunction hM_X9_readNegation hM_X9_readTest hM_X9_readSum hM_X9_readPart hM_X9_readSign hM_X9_readOne hM_X9_readCase hM_X9_readSpan hM_X9_readAggregate hM_X9_readList cs x0 cs9 h
    exact hq.trans k9
  replace h := (if_neg c_12).symm.trans h
  by_cases c_13 : v_1 = 36
  · skip
    replace h := (if_pos c_13).symm.trans h
    replace h := ob h; obtain ⟨w_15, hw_15, h⟩ := h
    replace h := ob h; obtain ⟨cs_14, hv_14, h⟩ := h
    replace hq := hq.trans (hM_X9_readSpan cs x0 cs_14 hv_14)
    have k9 := nb_c_X9_readOne_b191 F T hM_X9_readExpr hM_X9_readConjunction hM_X9_readNegation hM_X9_readTest hM_X9_readSum hM_X9_readPart hM_X9_readSign hM_X9_readOne hM_X9_readCase hM_X9_readSpan hM_X9_readAggregate hM_X9_readList cs_14 cs9 h
    exact hq.trans k9
  replace h := (if_neg c_13).symm.trans h
  by_cases c_16 : v_1 = 38
  · skip
    replace h := (if_pos c_16).symm.trans h
    have k9 := nb_c_X9_readOne_b119 F T hM_X9_readExpr hM_X9_readConjunction hM_X9_readNegation hM_X9_readTest hM_X9_readSum hM_X9_readPart hM_X9_readSign hM_X9_readOne hM_X9_readCase hM_X9_readSpan hM_X9_readAggregate hM_X9_readList cs x0 cs9 h
    exact hq.trans k9
  replace h := (if_neg c_16).symm.trans h
  by_cases c_17 : v_1 = 39
  · skip
    replace h := (if_pos c_17).symm.trans h
    have k9 := nb_c_X9_readOne_b119 F T hM_X9_readExpr hM_X9_readConjunction hM_X9_readNegation hM_X9_readTest hM_X9_readSum hM_X9_readPart hM_X9_readSign hM_X9_readOne hM_X9_readCase hM_X9_readSpan hM_X9_readAggregate hM_X9_readList cs x0 cs9 h
    exact hq.trans k9
  replace h := (if_neg c_17).symm.trans h
  by_cases c_18 : v_1 = 40
  · skip
    replace h := (if_pos c_18).symm.trans h
    have k9 := nb_c_X9_readOne_b112 F T hM_X9_readExpr hM_X9_readConjunction hM_X9_readNegation hM_X9_readTest hM_X9_readSum hM_X9_readPart hM_X9_readSign hM_X9_readOne hM_X9_readCase hM_X9_readSpan hM_X9_readAggregate hM_X9_readList cs x0 cs9 h
    exact hq.trans k9
  replace h := (if_neg c_18).symm.trans h
  by_cases c_19 : v_1 = 41
  · skip
    replace h := (if_pos c_19).symm.trans h
    replace h := ob h; obtain ⟨w_21, hw_21, h⟩ := h
    replace h := ob h; obtain ⟨cs_20, hv_20, h⟩ := h
    replace hq := hq.trans (nb_c_X9_deepen F cs x0 cs_20 hv_20)
    replace h := ob h; obtain ⟨w_23, hw_23, h⟩ := h
    replace h := ob h; obtain ⟨z_22, hv_22, h⟩ := h
    replace hq := hq.trans (nb_c_X9_accept F cs_20 x0 41 z_22.1 z_22.2 hv_22)
    replace h := ob h; obtain ⟨w_25, hw_25, h⟩ := h
    replace h := ob h; obtain ⟨z_24, hv_24, h⟩ := h
    replace hq := hq.trans (hM_X9_readExpr z_22.1 x0 z_24.1 z_24.2 hv_24)
    replace h := ob h; obtain ⟨w_27, hw_27, h⟩ := h
    replace h := ob h; obtain ⟨cs_26, hv_26, h⟩ := h
    replace hq := hq.trans (nb_c_X9_expect F z_24.1 x0 42 cs_26 hv_26)
    replace h := ob h; obtain ⟨v_28, hv_28, h⟩ := h
    replace h := ob h; obtain ⟨cs_29, hv_29, h⟩ := h
    replace hq := hq.trans (NB.pI hv_29)
    have k9 := nb_c_X9_readOne_b191 F T hM_X9_readExpr hM_X9_readConjunction hM_X9_readNegation hM_X9_readTest hM_X9_readSum hM_X9_readPart hM_X9_readSign hM_X9_readOne hM_X9_readCase hM_X9_readSpan hM_X9_readAggregate hM_X9_readList cs_29 cs9 h
    exact hq.trans k9
  replace h := (if_neg c_19).symm.trans h
  have k9 := nb_c_X9_readOne_b182 F T hM_X9_readExpr hM_X9_readConjunction hM_X9_readNegation hM_X9_readTest hM_X9_readSum hM_X9_readPart hM_X9_readSign hM_X9_readOne hM_X9_readCase hM_X9_readSpan hM_X9_readAggregate hM_X9_readList cs x0 cs9 h
  exact hq.trans k9
theorem nb_cb_X9_readCase (F : Nat) (T : TC_X9_readExpr) (hM_X9_readExpr : ∀ (cs : CS) (x0 : Nat) (cs9 : CS) (r9 : Int32), T.1 cs x0 = some (cs9, r9) → NB cs cs9) (hM_X9_readConjunction : ∀ (cs : CS) (x0 : Nat) (cs9 : CS), T.2.1 cs x0 = some cs9 → NB cs cs9) (hM_X9_readNegation : ∀ (cs : CS) (x0 : Nat) (cs9 : CS), T.2.2.1 cs x0 = some cs9 → NB cs cs9) (hM_X9_readTest : ∀ (cs : CS) (x0 : Nat) (cs9 : CS), T.2.2.2.1 cs x0 = some cs9 → NB cs cs9) (hM_X9_readSum : ∀ (cs : CS) (x0 : Nat) (cs9 : CS), T.2.2.2.2.1 cs x0 = some cs9 → NB cs cs9) (hM_X9_readPart : ∀ (cs : CS) (x0 : Nat) (cs9 : CS), T.2.2.2.2.2.1 cs x0 = some cs9 → NB cs cs9) (hM_X9_readSign : ∀ (cs : CS) (x0 : Nat) (cs9 : CS), T.2.2.2.2.2.2.1 cs x0 = some cs9 → NB cs cs9) (hM_X9_readOne : ∀ (cs : CS) (x0 : Nat) (cs9 : CS), T.2.2.2.2.2.2.2.1 cs x0 = some cs9 → NB cs cs9) (hM_X9_readCase : ∀ (cs : CS) (x0 : Nat) (cs9 : CS), T.2.2.2.2.2.2.2.2.1 cs x0 = some cs9 → NB cs cs9) (hM_X9_readSpan : ∀ (cs : CS) (x0 : Nat) (cs9 : CS), T.2.2.2.2.2.2.2.2.2.1 cs x0 = some cs9 → NB cs cs9) (hM_X9_readAggregate : ∀ (cs : CS) (x0 : Nat) (cs9 : CS), T.2.2.2.2.2.2.2.2.2.2.1 cs x0 = some cs9 → NB cs cs9) (hM_X9_readList : ∀ (cs : CS) (x0 : Nat) (x1 : Int32) (x2 : Int32) (x3 : Int32) (x4 : Int32) (cs9 : CS), T.2.2.2.2.2.2.2.2.2.2.2 cs x0 x1 x2 x3 x4 = some cs9 → NB cs cs9) (cs : CS) (x0 : Nat) (cs9 : CS) (h : cb_X9_readCase F T cs x0 = some cs9) : NB cs cs9 := by
  unfold cb_X9_readCase at h
  have hq : NB cs cs := NB.refl
  replace h := ob h; obtain ⟨v_1, hv_1, h⟩ := h
  replace h := ob h; obtain ⟨i_2, hi_2, h⟩ := h
  subst hi_2
  replace h := ob h; obtain ⟨v_3, hv_3, h⟩ := h
  replace h := ob h; obtain ⟨w_5, hw_5, h⟩ := h
  replace h := ob h; obtain ⟨v_4, hv_4, h⟩ := h
  replace h := ob h; obtain ⟨w_7, hw_7, h⟩ := h
  replace h := ob h; obtain ⟨cs_6, hv_6, h⟩ := h
  replace hq := hq.trans (nb_c_X9_deepen F cs x0 cs_6 hv_6)
  replace h := ob h; obtain ⟨w_9, hw_9, h⟩ := h
  replace h := ob h; obtain ⟨z_8, hv_8, h⟩ := h
  replace hq := hq.trans (nb_c_X9_accept F cs_6 x0 19 z_8.1 z_8.2 hv_8)
  replace h := ob h; obtain ⟨w_11, hw_11, h⟩ := h
  replace h := ob h; obtain ⟨cs_10, hv_10, h⟩ := h
  replace hq := hq.trans (nb_c_X9_expect F z_8.1 x0 20 cs_10 hv_10)
  replace h := ob h; obtain ⟨w_13, hw_13, h⟩ := h
  replace h := ob h; obtain ⟨z_12, hv_12, h⟩ := h
  replace hq := hq.trans (hM_X9_readExpr cs_10 x0 z_12.1 z_12.2 hv_12)
  replace h := ob h; obtain ⟨w_15, hw_15, h⟩ := h
  replace h := ob h; obtain ⟨cs_14, hv_14, h⟩ := h
  replace hq := hq.trans (nb_c_X9_expect F z_12.1 x0 21 cs_14 hv_14)
  replace h := ob h; obtain ⟨w_17, hw_17, h⟩ := h
  replace h := ob h; obtain ⟨z_16, hv_16, h⟩ := h
  replace hq := hq.trans (hM_X9_readExpr cs_14 x0 z_16.1 z_16.2 hv_16)
  replace h := ob h; obtain ⟨w_19, hw_19, h⟩ := h
  replace h := ob h; obtain ⟨cs_18, hv_18, h⟩ := h
  replace hq := hq.trans (nb_c_X9_expect F z_16.1 x0 22 cs_18 hv_18)
  replace h := ob h; obtain ⟨w_21, hw_21, h⟩ := h
  replace h := ob h; obtain ⟨z_20, hv_20, h⟩ := h
  replace hq := hq.trans (hM_X9_readExpr cs_18 x0 z_20.1 z_20.2 hv_20)
  replace h := ob h; obtain ⟨w_23, hw_23, h⟩ := h
  replace h := ob h; obtain ⟨cs_22, hv_22, h⟩ := h
  replace hq := hq.trans (nb_c_X9_expect F z_20.1 x0 23 cs_22 hv_22)
  replace h := ob h; obtain ⟨v_24, hv_24, h⟩ := h
  replace h := ob h; obtain ⟨cs_25, hv_25, h⟩ := h
  replace hq := hq.trans (NB.pI hv_25)
  replace h := ob h; obtain ⟨w_27, hw_27, h⟩ := h
  replace h := ob h; obtain ⟨z_26, hv_26, h⟩ := h
  replace hq := hq.trans (nb_c_X9_complete F cs_25 x0 19 v_3 v_4 v_4 3 z_26.1 z_26.2 hv_26)
  have h9 := Option.some.inj h
  exact hq.to h9
theorem nb_cb_X9_readSpan (F : Nat) (T : TC_X9_readExpr) (hM_X9_readExpr : ∀ (cs : CS) (x0 : Nat) (cs9 : CS) (r9 : Int32), T.1 cs x0 = some (cs9, r9) → NB cs cs9) (hM_X9_readConjunction : ∀ (cs : CS) (x0 : Nat) (cs9 : CS), T.2.1 cs x0 = some cs9 → NB cs cs9) (hM_X9_readNegation : ∀ (cs : CS) (x0 : Nat) (cs9 : CS), T.2.2.1 cs x0 = some cs9 → NB cs cs9) (hM_X9_readTest : ∀ (cs : CS) (x0 : Nat) (cs9 : CS), T.2.2.2.1 cs x0 = some cs9 → NB cs cs9) (hM_X9_readSum : ∀ (cs : CS) (x0 : Nat) (cs9 : CS), T.2.2.2.2.1 cs x0 = some cs9 → NB cs cs9) (hM_X9_readPart : ∀ (cs : CS) (x0 : Nat) (cs9 : CS), T.2.2.2.2.2.1 cs x0 = some cs9 → NB cs cs9) (hM_X9_readSign : ∀ (cs : CS) (x0 : Nat) (cs9 : CS), T.2.2.2.2.2.2.1 cs x0 = some cs9 → NB cs cs9) (hM_X9_readOne : ∀ (cs : CS) (x0 : Nat) (cs9 : CS), T.2.2.2.2.2.2.2.1 cs x0 = some cs9 → NB cs cs9) (hM_X9_readCase : ∀ (cs : CS) (x0 : Nat) (cs9 : CS), T.2.2.2.2.2.2.2.2.1 cs x0 = some cs9 → NB cs cs9) (hM_X9_readSpan : ∀ (cs : CS) (x0 : Nat) (cs9 : CS), T.2.2.2.2.2.2.2.2.2.1 cs x0 = some cs9 → NB cs cs9) (hM_X9_readAggregate : ∀ (cs : CS) (x0 : Nat) (cs9 : CS), T.2.2.2.2.2.2.2.2.2.2.1 cs x0 = some cs9 → NB cs cs9) (hM_X9_readList : ∀ (cs : CS) (x0 : Nat) (x1 : Int32) (x2 : Int32) (x3 : Int32) (x4 : Int32) (cs9 : CS), T.2.2.2.2.2.2.2.2.2.2.2 cs x0 x1 x2 x3 x4 = some cs9 → NB cs cs9) (cs : CS) (x0 : Nat) (cs9 : CS) (h : cb_X9_readSpan F T cs x0 = some cs9) : NB cs cs9 := by
  unfold cb_X9_readSpan at h
  have hq : NB cs cs := NB.refl
  replace h := ob h; obtain ⟨v_1, hv_1, h⟩ := h
  replace h := ob h; obtain ⟨i_2, hi_2, h⟩ := h
  subst hi_2
  replace h := ob h; obtain ⟨v_3, hv_3, h⟩ := h
  replace h := ob h; obtain ⟨w_5, hw_5, h⟩ := h
  replace h := ob h; obtain ⟨v_4, hv_4, h⟩ := h
  replace h := ob h; obtain ⟨w_7, hw_7, h⟩ := h
  replace h := ob h; obtain ⟨cs_6, hv_6, h⟩ := h
  replace hq := hq.trans (nb_c_X9_deepen F cs x0 cs_6 hv_6)
  replace h := ob h; obtain ⟨w_9, hw_9, h⟩ := h
  replace h := ob h; obtain ⟨z_8, hv_8, h⟩ := h
  replace hq := hq.trans (nb_c_X9_accept F cs_6 x0 36 z_8.1 z_8.2 hv_8)
  replace h := ob h; obtain ⟨w_11, hw_11, h⟩ := h
  replace h := ob h; obtain ⟨cs_10, hv_10, h⟩ := h
  replace hq := hq.trans (nb_c_X9_expect F z_8.1 x0 41 cs_10 hv_10)
  replace h := ob h; obtain ⟨w_13, hw_13, h⟩ := h
  replace h := ob h; obtain ⟨z_12, hv_12, h⟩ := h
  replace hq := hq.trans (hM_X9_readExpr cs_10 x0 z_12.1 z_12.2 hv_12)
  replace h := ob h; obtain ⟨w_15, hw_15, h⟩ := h
  replace h := ob h; obtain ⟨cs_14, hv_14, h⟩ := h
  replace hq := hq.trans (nb_c_X9_expect F z_12.1 x0 43 cs_14 hv_14)
  replace h := ob h; obtain ⟨w_17, hw_17, h⟩ := h
  replace h := ob h; obtain ⟨z_16, hv_16, h⟩ := h
  replace hq := hq.trans (hM_X9_readExpr cs_14 x0 z_16.1 z_16.2 hv_16)
  replace h := ob h; obtain ⟨w_19, hw_19, h⟩ := h
  replace h := ob h; obtain ⟨cs_18, hv_18, h⟩ := h
  replace hq := hq.trans (nb_c_X9_expect F z_16.1 x0 42 cs_18 hv_18)
  replace h := ob h; obtain ⟨v_20, hv_20, h⟩ := h
  replace h := ob h; obtain ⟨cs_21, hv_21, h⟩ := h
  replace hq := hq.trans (NB.pI hv_21)
  replace h := ob h; obtain ⟨w_23, hw_23, h⟩ := h
  replace h := ob h; obtain ⟨z_22, hv_22, h⟩ := h
  replace hq := hq.trans (nb_c_X9_complete F cs_21 x0 36 v_3 v_4 v_4 2 z_22.1 z_22.2 hv_22)
  have h9 := Option.some.inj h
  exact hq.to h9
theorem nb_c_X9_readAggregate_b36 (F : Nat) (T : TC_X9_readExpr) (hM_X9_readExpr : ∀ (cs : CS) (x0 : Nat) (cs9 : CS) (r9 : Int32), T.1 cs x0 = some (cs9, r9) → NB cs cs9) (hM_X9_readConjunction : ∀ (cs : CS) (x0 : Nat) (cs9 : CS), T.2.1 cs x0 = some cs9 → NB cs cs9) (hM_X9_readNegation : ∀ (cs : CS) (x0 : Nat) (cs9 : CS), T.2.2.1 cs x0 = some cs9 → NB cs cs9) (hM_X9_readTest : ∀ (cs : CS) (x0 : Nat) (cs9 : CS), T.2.2.2.1 cs x0 = some cs9 → NB cs cs9) (hM_X9_readSum : ∀ (cs : CS) (x0 : Nat) (cs9 : CS), T.2.2.2.2.1 cs x0 = some cs9 → NB cs cs9) (hM_X9_readPart : ∀ (cs : CS) (x0 : Nat) (cs9 : CS), T.2.2.2.2.2.1 cs x0 = some cs9 → NB cs cs9) (hM_X9_readSign : ∀ (cs : CS) (x0 : Nat) (cs9 : CS), T.2.2.2.2.2.2.1 cs x0 = some cs9 → NB cs cs9) (hM_X9_readOne : ∀ (cs : CS) (x0 : Nat) (cs9 : CS), T.2.2.2.2.2.2.2.1 cs x0 = some cs9 → NB cs cs9) (hM_X9_readCase : ∀ (cs : CS) (x0 : Nat) (cs9 : CS), T.2.2.2.2.2.2.2.2.1 cs x0 = some cs9 → NB cs cs9) (hM_X9_readSpan : ∀ (cs : CS) (x0 : Nat) (cs9 : CS), T.2.2.2.2.2.2.2.2.2.1 cs x0 = some cs9 → NB cs cs9) (hM_X9_readAggregate : ∀ (cs : CS) (x0 : Nat) (cs9 : CS), T.2.2.2.2.2.2.2.2.2.2.1 cs x0 = some cs9 → NB cs cs9) (hM_X9_readList : ∀ (cs : CS) (x0 : Nat) (x1 : Int32) (x2 : Int32) (x3 : Int32) (x4 : Int32) (cs9 : CS), T.2.2.2.2.2.2.2.2.2.2.2 cs x0 x1 x2 x3 x4 = some cs9 → NB cs cs9) (cs1 : CS) (u0 : Nat) (u3 : Int32) (cs9 : CS) (h : c_X9_readAggregate_b36 F T cs1 u0 u3 = some cs9) : NB cs1 cs9 := by
  unfold c_X9_readAggregate_b36 at h
  have hq : NB cs1 cs1 := NB.refl
  replace h := ob h; obtain ⟨w_2, hw_2, h⟩ := h
  replace h := ob h; obtain ⟨cs_1, hv_1, h⟩ := h
  replace hq := hq.trans (nb_c_X9_refuse F cs1 u0 1 u3 cs_1 hv_1)
  have h9 := Option.some.inj h
  exact hq.to h9
theorem nb_c_X9_readAggregate_b159 (F : Nat) (T : TC_X9_readExpr) (hM_X9_readExpr : ∀ (cs : CS) (x0 : Nat) (cs9 : CS) (r9 : Int32), T.1 cs x0 = some (cs9, r9) → NB cs cs9) (hM_X9_readConjunction : ∀ (cs : CS) (x0 : Nat) (cs9 : CS), T.2.1 cs x0 = some cs9 → NB cs cs9) (hM_X9_readNegation : ∀ (cs : CS) (x0 : Nat) (cs9 : CS), T.2.2.1 cs x0 = some cs9 → NB cs cs9) (hM_X9_readTest : ∀ (cs : CS) (x0 : Nat) (cs9 : CS), T.2.2.2.1 cs x0 = some cs9 → NB cs cs9) (hM_X9_readSum : ∀ (cs : CS) (x0 : Nat) (cs9 : CS), T.2.2.2.2.1 cs x0 = some cs9 → NB cs cs9) (hM_X9_readPart : ∀ (cs : CS) (x0 : Nat) (cs9 : CS), T.2.2.2.2.2.1 cs x0 = some cs9 → NB cs cs9) (hM_X9_readSign : ∀ (cs : CS) (x0 : Nat) (cs9 : CS), T.2.2.2.2.2.2.1 cs x0 = some cs9 → NB cs cs9) (hM_X9_readOne : ∀ (cs : CS) (x0 : Nat) (cs9 : CS), T.2.2.2.2.2.2.2.1 cs x0 = some cs9 → NB cs cs9) (hM_X9_readCase : ∀ (cs : CS) (x0 : Nat) (cs9 : CS), T.2.2.2.2.2.2.2.2.1 cs x0 = some cs9 → NB cs cs9) (hM_X9_readSpan : ∀ (cs : CS) (x0 : Nat) (cs9 : CS), T.2.2.2.2.2.2.2.2.2.1 cs x0 = some cs9 → NB cs cs9) (hM_X9_readAggregate : ∀ (cs : CS) (x0 : Nat) (cs9 : CS), T.2.2.2.2.2.2.2.2.2.2.1 cs x0 = some cs9 → NB cs cs9) (hM_X9_readList : ∀ (cs : CS) (x0 : Nat) (x1 : Int32) (x2 : Int32) (x3 : Int32) (x4 : Int32) (cs9 : CS), T.2.2.2.2.2.2.2.2.2.2.2 cs x0 x1 x2 x3 x4 = some cs9 → NB cs cs9) (cs1 : CS) (u0 : Nat) (u2 : Int32) (u4 : Nat) (y0 : Int32) (y1 : Int32) (y2 : Int32) (y3 : Int32) (y4 : Int32) (y5 : Nat) (cs9 : CS) (h : c_X9_readAggregate_b159 F T cs1 u0 u2 u4 y0 y1 y2 y3 y4 y5 = some cs9) : NB cs1 cs9 := by
  unfold c_X9_readAggregate_b159 at h
  have hq : NB cs1 cs1 := NB.refl
  replace h := ob h; obtain ⟨w_2, hw_2, h⟩ := h
  replace h := ob h; obtain ⟨z_1, hv_1, h⟩ := h
  replace hq := hq.trans (nb_c_X9_complete F cs1 y5 y4 y3 y2 y1 y0 z_1.1 z_1.2 hv_1)
  replace h := ob h; obtain ⟨w_4, hw_4, h⟩ := h
  replace h := ob h; obtain ⟨cs_3, hv_3, h⟩ := h
  replace hq := hq.trans (nb_c_X9_noteAggregate F z_1.1 u0 u4 z_1.2 u2 cs_3 hv_3)
  have h9 := Option.some.inj h
  exact hq.to h9
theorem nb_c_X9_readAggregate_b146 (F : Nat) (T : TC_X9_readExpr) (hM_X9_readExpr : ∀ (cs : CS) (x0 : Nat) (cs9 : CS) (r9 : Int32), T.1 cs x0 = some (cs9, r9) → NB cs cs9) (hM_X9_readConjunction : ∀ (cs : CS) (x0 : Nat) (cs9 : CS), T.2.1 cs x0 = some cs9 → NB cs cs9) (hM_X9_readNegation : ∀ (cs : CS) (x0 : Nat) (cs9 : CS), T.2.2.1 cs x0 = some cs9 → NB cs cs9) (hM_X9_readTest : ∀ (cs : CS) (x0 : Nat) (cs9 : CS), T.2.2.2.1 cs x0 = some cs9 → NB cs cs9) (hM_X9_readSum : ∀ (cs : CS) (x0 : Nat) (cs9 : CS), T.2.2.2.2.1 cs x0 = some cs9 → NB cs cs9) (hM_X9_readPart : ∀ (cs : CS) (x0 : Nat) (cs9 : CS), T.2.2.2.2.2.1 cs x0 = some cs9 → NB cs cs9) (hM_X9_readSign : ∀ (cs : CS) (x0 : Nat) (cs9 : CS), T.2.2.2.2.2.2.1 cs x0 = some cs9 → NB cs cs9) (hM_X9_readOne : ∀ (cs : CS) (x0 : Nat) (cs9 : CS), T.2.2.2.2.2.2.2.1 cs x0 = some cs9 → NB cs cs9) (hM_X9_readCase : ∀ (cs : CS) (x0 : Nat) (cs9 : CS), T.2.2.2.2.2.2.2.2.1 cs x0 = some cs9 → NB cs cs9) (hM_X9_readSpan : ∀ (cs : CS) (x0 : Nat) (cs9 : CS), T.2.2.2.2.2.2.2.2.2.1 cs x0 = some cs9 → NB cs cs9) (hM_X9_readAggregate : ∀ (cs : CS) (x0 : Nat) (cs9 : CS), T.2.2.2.2.2.2.2.2.2.2.1 cs x0 = some cs9 → NB cs cs9) (hM_X9_readList : ∀ (cs : CS) (x0 : Nat) (x1 : Int32) (x2 : Int32) (x3 : Int32) (x4 : Int32) (cs9 : CS), T.2.2.2.2.2.2.2.2.2.2.2 cs x0 x1 x2 x3 x4 = some cs9 → NB cs cs9) (cs1 : CS) (u0 : Nat) (u2 : Int32) (u3 : Int32) (u4 : Nat) (u5 : Int32) (y0 : Int32) (y1 : Nat) (cs9 : CS) (h : c_X9_readAggregate_b146 F T cs1 u0 u2 u3 u4 u5 y0 y1 = some cs9) : NB cs1 cs9 := by
  unfold c_X9_readAggregate_b146 at h
  have hq : NB cs1 cs1 := NB.refl
  by_cases c_1 : u5 = 0
  · skip
    replace h := (if_pos c_1).symm.trans h
    have k9 := nb_c_X9_readAggregate_b159 F T hM_X9_readExpr hM_X9_readConjunction hM_X9_readNegation hM_X9_readTest hM_X9_readSum hM_X9_readPart hM_X9_readSign hM_X9_readOne hM_X9_readCase hM_X9_readSpan hM_X9_readAggregate hM_X9_readList cs1 u0 u2 u4 1 u3 u3 u2 y0 y1 cs9 h
    exact hq.trans k9
  · skip
    replace h := (if_neg c_1).symm.trans h
    have k9 := nb_c_X9_readAggregate_b159 F T hM_X9_readExpr hM_X9_readConjunction hM_X9_readNegation hM_X9_readTest hM_X9_readSum hM_X9_readPart hM_X9_readSign hM_X9_readOne hM_X9_readCase hM_X9_readSpan hM_X9_readAggregate hM_X9_readList cs1 u0 u2 u4 0 u3 u3 u2 y0 y1 cs9 h
    exact hq.trans k9
theorem nb_c_X9_readAggregate_b113 (F : Nat) (T : TC_X9_readExpr) (hM_X9_readExpr : ∀ (cs : CS) (x0 : Nat) (cs9 : CS) (r9 : Int32), T.1 cs x0 = some (cs9, r9) → NB cs cs9) (hM_X9_readConjunction : ∀ (cs : CS) (x0 : Nat) (cs9 : CS), T.2.1 cs x0 = some cs9 → NB cs cs9) (hM_X9_readNegation : ∀ (cs : CS) (x0 : Nat) (cs9 : CS), T.2.2.1 cs x0 = some cs9 → NB cs cs9) (hM_X9_readTest : ∀ (cs : CS) (x0 : Nat) (cs9 : CS), T.2.2.2.1 cs x0 = some cs9 → NB cs cs9) (hM_X9_readSum : ∀ (cs : CS) (x0 : Nat) (cs9 : CS), T.2.2.2.2.1 cs x0 = some cs9 → NB cs cs9) (hM_X9_readPart : ∀ (cs : CS) (x0 : Nat) (cs9 : CS), T.2.2.2.2.2.1 cs x0 = some cs9 → NB cs cs9) (hM_X9_readSign : ∀ (cs : CS) (x0 : Nat) (cs9 : CS), T.2.2.2.2.2.2.1 cs x0 = some cs9 → NB cs cs9) (hM_X9_readOne : ∀ (cs : CS) (x0 : Nat) (cs9 : CS), T.2.2.2.2.2.2.2.1 cs x0 = some cs9 → NB cs cs9) (hM_X9_readCase : ∀ (cs : CS) (x0 : Nat) (cs9 : CS), T.2.2.2.2.2.2.2.2.1 cs x0 = some cs9 → NB cs cs9) (hM_X9_readSpan : ∀ (cs : CS) (x0 : Nat) (cs9 : CS), T.2.2.2.2.2.2.2.2.2.1 cs x0 = some cs9 → NB cs cs9) (hM_X9_readAggregate : ∀ (cs : CS) (x0 : Nat) (cs9 : CS), T.2.2.2.2.2.2.2.2.2.2.1 cs x0 = some cs9 → NB cs cs9) (hM_X9_readList : ∀ (cs : CS) (x0 : Nat) (x1 : Int32) (x2 : Int32) (x3 : Int32) (x4 : Int32) (cs9 : CS), T.2.2.2.2.2.2.2.2.2.2.2 cs x0 x1 x2 x3 x4 = some cs9 → NB cs cs9) (cs1 : CS) (u0 : Nat) (u1 : Int32) (u2 : Int32) (u3 : Int32) (u4 : Nat) (u5 : Int32) (cs9 : CS) (h : c_X9_readAggregate_b113 F T cs1 u0 u1 u2 u3 u4 u5 = some cs9) : NB cs1 cs9 := by
  unfold c_X9_readAggregate_b113 at h
  have hq : NB cs1 cs1 := NB.refl
  replace h := ob h; obtain ⟨cs_1, hv_1, h⟩ := h
  replace hq := hq.trans (NB.pI hv_1)
  replace h := ob h; obtain ⟨w_3, hw_3, h⟩ := h
  replace h := ob h; obtain ⟨cs_2, hv_2, h⟩ := h
  replace hq := hq.trans (nb_c_X9_expect F cs_1 u0 42 cs_2 hv_2)
  replace h := ob h; obtain ⟨v_4, hv_4, h⟩ := h
  replace h := ob h; obtain ⟨cs_5, hv_5, h⟩ := h
  replace hq := hq.trans (NB.pI hv_5)
  by_cases c_6 : u5 = 0
  · skip
    replace h := (if_pos c_6).symm.trans h
    have k9 := nb_c_X9_readAggregate_b146 F T hM_X9_readExpr hM_X9_readConjunction hM_X9_readNegation hM_X9_readTest hM_X9_readSum hM_X9_readPart hM_X9_readSign hM_X9_readOne hM_X9_readCase hM_X9_readSpan hM_X9_readAggregate hM_X9_readList cs_5 u0 u2 u3 u4 u5 u1 u0 cs9 h
    exact hq.trans k9
  · skip
    replace h := (if_neg c_6).symm.trans h
    have k9 := nb_c_X9_readAggregate_b146 F T hM_X9_readExpr hM_X9_readConjunction hM_X9_readNegation hM_X9_readTest hM_X9_readSum hM_X9_readPart hM_X9_readSign hM_X9_readOne hM_X9_readCase hM_X9_readSpan hM_X9_readAggregate hM_X9_readList cs_5 u0 u2 u3 u4 u5 61 u0 cs9 h
    exact hq.trans k9
theorem nb_c_X9_readAggregate_b101 (F : Nat) (T : TC_X9_readExpr) (hM_X9_readExpr : ∀ (cs : CS) (x0 : Nat) (cs9 : CS) (r9 : Int32), T.1 cs x0 = some (cs9, r9) → NB cs cs9) (hM_X9_readConjunction : ∀ (cs : CS) (x0 : Nat) (cs9 : CS), T.2.1 cs x0 = some cs9 → NB cs cs9) (hM_X9_readNegation : ∀ (cs : CS) (x0 : Nat) (cs9 : CS), T.2.2.1 cs x0 = some cs9 → NB cs cs9) (hM_X9_readTest : ∀ (cs : CS) (x0 : Nat) (cs9 : CS), T.2.2.2.1 cs x0 = some cs9 → NB cs cs9) (hM_X9_readSum : ∀ (cs : CS) (x0 : Nat) (cs9 : CS), T.2.2.2.2.1 cs x0 = some cs9 → NB cs cs9) (hM_X9_readPart : ∀ (cs : CS) (x0 : Nat) (cs9 : CS), T.2.2.2.2.2.1 cs x0 = some cs9 → NB cs cs9) (hM_X9_readSign : ∀ (cs : CS) (x0 : Nat) (cs9 : CS), T.2.2.2.2.2.2.1 cs x0 = some cs9 → NB cs cs9) (hM_X9_readOne : ∀ (cs : CS) (x0 : Nat) (cs9 : CS), T.2.2.2.2.2.2.2.1 cs x0 = some cs9 → NB cs cs9) (hM_X9_readCase : ∀ (cs : CS) (x0 : Nat) (cs9 : CS), T.2.2.2.2.2.2.2.2.1 cs x0 = some cs9 → NB cs cs9) (hM_X9_readSpan : ∀ (cs : CS) (x0 : Nat) (cs9 : CS), T.2.2.2.2.2.2.2.2.2.1 cs x0 = some cs9 → NB cs cs9) (hM_X9_readAggregate : ∀ (cs : CS) (x0 : Nat) (cs9 : CS), T.2.2.2.2.2.2.2.2.2.2.1 cs x0 = some cs9 → NB cs cs9) (hM_X9_readList : ∀ (cs : CS) (x0 : Nat) (x1 : Int32) (x2 : Int32) (x3 : Int32) (x4 : Int32) (cs9 : CS), T.2.2.2.2.2.2.2.2.2.2.2 cs x0 x1 x2 x3 x4 = some cs9 → NB cs cs9) (cs1 : CS) (u0 : Nat) (u1 : Int32) (u2 : Int32) (u3 : Int32) (u4 : Nat) (y0 : Int32) (cs9 : CS) (h : c_X9_readAggregate_b101 F T cs1 u0 u1 u2 u3 u4 y0 = some cs9) : NB cs1 cs9 := by
  unfold c_X9_readAggregate_b101 at h
  have hq : NB cs1 cs1 := NB.refl
  by_cases c_1 : y0 = 0
  · skip
    replace h := (if_pos c_1).symm.trans h
    replace h := ob h; obtain ⟨w_3, hw_3, h⟩ := h
    replace h := ob h; obtain ⟨z_2, hv_2, h⟩ := h
    replace hq := hq.trans (hM_X9_readExpr cs1 u0 z_2.1 z_2.2 hv_2)
    have k9 := nb_c_X9_readAggregate_b113 F T hM_X9_readExpr hM_X9_readConjunction hM_X9_readNegation hM_X9_readTest hM_X9_readSum hM_X9_readPart hM_X9_readSign hM_X9_readOne hM_X9_readCase hM_X9_readSpan hM_X9_readAggregate hM_X9_readList z_2.1 u0 u1 u2 u3 u4 y0 cs9 h
    exact hq.trans k9
  · skip
    replace h := (if_neg c_1).symm.trans h
    have k9 := nb_c_X9_readAggregate_b113 F T hM_X9_readExpr hM_X9_readConjunction hM_X9_readNegation hM_X9_readTest hM_X9_readSum hM_X9_readPart hM_X9_readSign hM_X9_readOne hM_X9_readCase hM_X9_readSpan hM_X9_readAggregate hM_X9_readList cs1 u0 u1 u2 u3 u4 y0 cs9 h
    exact hq.trans k9
theorem nb_c_X9_readAggregate_b100 (F : Nat) (T : TC_X9_readExpr) (hM_X9_readExpr : ∀ (cs : CS) (x0 : Nat) (cs9 : CS) (r9 : Int32), T.1 cs x0 = some (cs9, r9) → NB cs cs9) (hM_X9_readConjunction : ∀ (cs : CS) (x0 : Nat) (cs9 : CS), T.2.1 cs x0 = some cs9 → NB cs cs9) (hM_X9_readNegation : ∀ (cs : CS) (x0 : Nat) (cs9 : CS), T.2.2.1 cs x0 = some cs9 → NB cs cs9) (hM_X9_readTest : ∀ (cs : CS) (x0 : Nat) (cs9 : CS), T.2.2.2.1 cs x0 = some cs9 → NB cs cs9) (hM_X9_readSum : ∀ (cs : CS) (x0 : Nat) (cs9 : CS), T.2.2.2.2.1 cs x0 = some cs9 → NB cs cs9) (hM_X9_readPart : ∀ (cs : CS) (x0 : Nat) (cs9 : CS), T.2.2.2.2.2.1 cs x0 = some cs9 → NB cs cs9) (hM_X9_readSign : ∀ (cs : CS) (x0 : Nat) (cs9 : CS), T.2.2.2.2.2.2.1 cs x0 = some cs9 → NB cs cs9) (hM_X9_readOne : ∀ (cs : CS) (x0 : Nat) (cs9 : CS), T.2.2.2.2.2.2.2.1 cs x0 = some cs9 → NB cs cs9) (hM_X9_readCase : ∀ (cs : CS) (x0 : Nat) (cs9 : CS), T.2.2.2.2.2.2.2.2.1 cs x0 = some cs9 → NB cs cs9) (hM_X9_readSpan : ∀ (cs : CS) (x0 : Nat) (cs9 : CS), T.2.2.2.2.2.2.2.2.2.1 cs x0 = some cs9 → NB cs cs9) (hM_X9_readAggregate : ∀ (cs : CS) (x0 : Nat) (cs9 : CS), T.2.2.2.2.2.2.2.2.2.2.1 cs x0 = some cs9 → NB cs cs9) (hM_X9_readList : ∀ (cs : CS) (x0 : Nat) (x1 : Int32) (x2 : Int32) (x3 : Int32) (x4 : Int32) (cs9 : CS), T.2.2.2.2.2.2.2.2.2.2.2 cs x0 x1 x2 x3 x4 = some cs9 → NB cs cs9) (cs1 : CS) (u0 : Nat) (u1 : Int32) (u2 : Int32) (u3 : Int32) (u4 : Nat) (cs9 : CS) (h : c_X9_readAggregate_b100 F T cs1 u0 u1 u2 u3 u4 = some cs9) : NB cs1 cs9 := by
  unfold c_X9_readAggregate_b100 at h
  have hq : NB cs1 cs1 := NB.refl
  have k9 := nb_c_X9_readAggregate_b101 F T hM_X9_readExpr hM_X9_readConjunction hM_X9_readNegation hM_X9_readTest hM_X9_readSum hM_X9_readPart hM_X9_readSign hM_X9_readOne hM_X9_readCase hM_X9_readSpan hM_X9_readAggregate hM_X9_readList cs1 u0 u1 u2 u3 u4 0 cs9 h
  exact hq.trans k9
theorem nb_c_X9_readAggregate_b60 (F : Nat) (T : TC_X9_readExpr) (hM_X9_readExpr : ∀ (cs : CS) (x0 : Nat) (cs9 : CS) (r9 : Int32), T.1 cs x0 = some (cs9, r9) → NB cs cs9) (hM_X9_readConjunction : ∀ (cs : CS) (x0 : Nat) (cs9 : CS), T.2.1 cs x0 = some cs9 → NB cs cs9) (hM_X9_readNegation : ∀ (cs : CS) (x0 : Nat) (cs9 : CS), T.2.2.1 cs x0 = some cs9 → NB cs cs9) (hM_X9_readTest : ∀ (cs : CS) (x0 : Nat) (cs9 : CS), T.2.2.2.1 cs x0 = some cs9 → NB cs cs9) (hM_X9_readSum : ∀ (cs : CS) (x0 : Nat) (cs9 : CS), T.2.2.2.2.1 cs x0 = some cs9 → NB cs cs9) (hM_X9_readPart : ∀ (cs : CS) (x0 : Nat) (cs9 : CS), T.2.2.2.2.2.1 cs x0 = some cs9 → NB cs cs9) (hM_X9_readSign : ∀ (cs : CS) (x0 : Nat) (cs9 : CS), T.2.2.2.2.2.2.1 cs x0 = some cs9 → NB cs cs9) (hM_X9_readOne : ∀ (cs : CS) (x0 : Nat) (cs9 : CS), T.2.2.2.2.2.2.2.1 cs x0 = some cs9 → NB cs cs9) (hM_X9_readCase : ∀ (cs : CS) (x0 : Nat) (cs9 : CS), T.2.2.2.2.2.2.2.2.1 cs x0 = some cs9 → NB cs cs9) (hM_X9_readSpan : ∀ (cs : CS) (x0 : Nat) (cs9 : CS), T.2.2.2.2.2.2.2.2.2.1 cs x0 = some cs9 → NB cs cs9) (hM_X9_readAggregate : ∀ (cs : CS) (x0 : Nat) (cs9 : CS), T.2.2.2.2.2.2.2.2.2.2.1 cs x0 = some cs9 → NB cs cs9) (hM_X9_readList : ∀ (cs : CS) (x0 : Nat) (x1 : Int32) (x2 : Int32) (x3 : Int32) (x4 : Int32) (cs9 : CS), T.2.2.2.2.2.2.2.2.2.2.2 cs x0 x1 x2 x3 x4 = some cs9 → NB cs cs9) (cs1 : CS) (u0 : Nat) (u1 : Int32) (u2 : Int32) (u3 : Int32) (u4 : Nat) (cs9 : CS) (h : c_X9_readAggregate_b60 F T cs1 u0 u1 u2 u3 u4 = some cs9) : NB cs1 cs9 := by
  unfold c_X9_readAggregate_b60 at h
  have hq : NB cs1 cs1 := NB.refl
  replace h := ob h; obtain ⟨w_2, hw_2, h⟩ := h
  replace h := ob h; obtain ⟨cs_1, hv_1, h⟩ := h
  replace hq := hq.trans (nb_c_X9_deepen F cs1 u0 cs_1 hv_1)
  replace h := ob h; obtain ⟨w_4, hw_4, h⟩ := h
  replace h := ob h; obtain ⟨z_3, hv_3, h⟩ := h
  replace hq := hq.trans (nb_c_X9_accept F cs_1 u0 u1 z_3.1 z_3.2 hv_3)
  replace h := ob h; obtain ⟨w_6, hw_6, h⟩ := h
  replace h := ob h; obtain ⟨cs_5, hv_5, h⟩ := h
  replace hq := hq.trans (nb_c_X9_expect F z_3.1 u0 41 cs_5 hv_5)
  replace h := ob h; obtain ⟨cs_7, hv_7, h⟩ := h
  replace hq := hq.trans (NB.pI hv_7)
  by_cases c_8 : u1 = 32
  · skip
    replace h := (if_pos c_8).symm.trans h
    replace h := ob h; obtain ⟨w_10, hw_10, h⟩ := h
    replace h := ob h; obtain ⟨z_9, hv_9, h⟩ := h
    replace hq := hq.trans (nb_c_X9_accept F cs_7 u0 47 z_9.1 z_9.2 hv_9)
    by_cases c_11 : z_9.2 = 0
    · skip
      replace h := (if_pos c_11).symm.trans h
      have k9 := nb_c_X9_readAggregate_b100 F T hM_X9_readExpr hM_X9_readConjunction hM_X9_readNegation hM_X9_readTest hM_X9_readSum hM_X9_readPart hM_X9_readSign hM_X9_readOne hM_X9_readCase hM_X9_readSpan hM_X9_readAggregate hM_X9_readList z_9.1 u0 u1 u2 u3 u4 cs9 h
      exact hq.trans k9
    · skip
      replace h := (if_neg c_11).symm.trans h
      have k9 := nb_c_X9_readAggregate_b101 F T hM_X9_readExpr hM_X9_readConjunction hM_X9_readNegation hM_X9_readTest hM_X9_readSum hM_X9_readPart hM_X9_readSign hM_X9_readOne hM_X9_readCase hM_X9_readSpan hM_X9_readAggregate hM_X9_readList z_9.1 u0 u1 u2 u3 u4 1 cs9 h
      exact hq.trans k9
  · skip
    replace h := (if_neg c_8).symm.trans h
    have k9 := nb_c_X9_readAggregate_b100 F T hM_X9_readExpr hM_X9_readConjunction hM_X9_readNegation hM_X9_readTest hM_X9_readSum hM_X9_readPart hM_X9_readSign hM_X9_readOne hM_X9_readCase hM_X9_readSpan hM_X9_readAggregate hM_X9_readList cs_7 u0 u1 u2 u3 u4 cs9 h
    exact hq.trans k9
theorem nb_cb_X9_readAggregate (F : Nat) (T : TC_X9_readExpr) (hM_X9_readExpr : ∀ (cs : CS) (x0 : Nat) (cs9 : CS) (r9 : Int32), T.1 cs x0 = some (cs9, r9) → NB cs cs9) (hM_X9_readConjunction : ∀ (cs : CS) (x0 : Nat) (cs9 : CS), T.2.1 cs x0 = some cs9 → NB cs cs9) (hM_X9_readNegation : ∀ (cs : CS) (x0 : Nat) (cs9 : CS), T.2.2.1 cs x0 = some cs9 → NB cs cs9) (hM_X9_readTest : ∀ (cs : CS) (x0 : Nat) (cs9 : CS), T.2.2.2.1 cs x0 = some cs9 → NB cs cs9) (hM_X9_readSum : ∀ (cs : CS) (x0 : Nat) (cs9 : CS), T.2.2.2.2.1 cs x0 = some cs9 → NB cs cs9) (hM_X9_readPart : ∀ (cs : CS) (x0 : Nat) (cs9 : CS), T.2.2.2.2.2.1 cs x0 = some cs9 → NB cs cs9) (hM_X9_readSign : ∀ (cs : CS) (x0 : Nat) (cs9 : CS), T.2.2.2.2.2.2.1 cs x0 = some cs9 → NB cs cs9) (hM_X9_readOne : ∀ (cs : CS) (x0 : Nat) (cs9 : CS), T.2.2.2.2.2.2.2.1 cs x0 = some cs9 → NB cs cs9) (hM_X9_readCase : ∀ (cs : CS) (x0 : Nat) (cs9 : CS), T.2.2.2.2.2.2.2.2.1 cs x0 = some cs9 → NB cs cs9) (hM_X9_readSpan : ∀ (cs : CS) (x0 : Nat) (cs9 : CS), T.2.2.2.2.2.2.2.2.2.1 cs x0 = some cs9 → NB cs cs9) (hM_X9_readAggregate : ∀ (cs : CS) (x0 : Nat) (cs9 : CS), T.2.2.2.2.2.2.2.2.2.2.1 cs x0 = some cs9 → NB cs cs9) (hM_X9_readList : ∀ (cs : CS) (x0 : Nat) (x1 : Int32) (x2 : Int32) (x3 : Int32) (x4 : Int32) (cs9 : CS), T.2.2.2.2.2.2.2.2.2.2.2 cs x0 x1 x2 x3 x4 = some cs9 → NB cs cs9) (cs : CS) (x0 : Nat) (cs9 : CS) (h : cb_X9_readAggregate F T cs x0 = some cs9) : NB cs cs9 := by
  unfold cb_X9_readAggregate at h
  have hq : NB cs cs := NB.refl
  replace h := ob h; obtain ⟨w_2, hw_2, h⟩ := h
  replace h := ob h; obtain ⟨v_1, hv_1, h⟩ := h
  replace h := ob h; obtain ⟨v_3, hv_3, h⟩ := h
  replace h := ob h; obtain ⟨i_4, hi_4, h⟩ := h
  subst hi_4
  replace h := ob h; obtain ⟨v_5, hv_5, h⟩ := h
  replace h := ob h; obtain ⟨w_7, hw_7, h⟩ := h
  replace h := ob h; obtain ⟨v_6, hv_6, h⟩ := h
  replace h := ob h; obtain ⟨v_8, hv_8, h⟩ := h
  replace h := ob h; obtain ⟨v_9, hv_9, h⟩ := h
  by_cases c_10 : v_9 = 0
  · skip
    replace h := (if_pos c_10).symm.trans h
    have k9 := nb_c_X9_readAggregate_b36 F T hM_X9_readExpr hM_X9_readConjunction hM_X9_readNegation hM_X9_readTest hM_X9_readSum hM_X9_readPart hM_X9_readSign hM_X9_readOne hM_X9_readCase hM_X9_readSpan hM_X9_readAggregate hM_X9_readList cs x0 v_6 cs9 h
    exact hq.trans k9
  · skip
    replace h := (if_neg c_10).symm.trans h
    cases v_8 with
    | none =>
      replace h := oc_n.symm.trans h
      have k9 := nb_c_X9_readAggregate_b36 F T hM_X9_readExpr hM_X9_readConjunction hM_X9_readNegation hM_X9_readTest hM_X9_readSum hM_X9_readPart hM_X9_readSign hM_X9_readOne hM_X9_readCase hM_X9_readSpan hM_X9_readAggregate hM_X9_readList cs x0 v_6 cs9 h
      exact hq.trans k9
    | some i_11 =>
      replace h := oc_s.symm.trans h
      replace h := ob h; obtain ⟨v_12, hv_12, h⟩ := h
      by_cases c_13 : v_12 < 12
      · skip
        replace h := (if_pos c_13).symm.trans h
        have k9 := nb_c_X9_readAggregate_b60 F T hM_X9_readExpr hM_X9_readConjunction hM_X9_readNegation hM_X9_readTest hM_X9_readSum hM_X9_readPart hM_X9_readSign hM_X9_readOne hM_X9_readCase hM_X9_readSpan hM_X9_readAggregate hM_X9_readList cs x0 v_1 v_5 v_6 i_11 cs9 h
        exact hq.trans k9
      · skip
        replace h := (if_neg c_13).symm.trans h
        replace h := ob h; obtain ⟨w_15, hw_15, h⟩ := h
        replace h := ob h; obtain ⟨cs_14, hv_14, h⟩ := h
        replace hq := hq.trans (nb_c_X9_refuse F cs x0 7 v_6 cs_14 hv_14)
        have k9 := nb_c_X9_readAggregate_b60 F T hM_X9_readExpr hM_X9_readConjunction hM_X9_readNegation hM_X9_readTest hM_X9_readSum hM_X9_readPart hM_X9_readSign hM_X9_readOne hM_X9_readCase hM_X9_readSpan hM_X9_readAggregate hM_X9_readList cs_14 x0 v_1 v_5 v_6 i_11 cs9 h
        exact hq.trans k9
theorem nb_c_X9_readList_b72 (F : Nat) (T : TC_X9_readExpr) (hM_X9_readExpr : ∀ (cs : CS) (x0 : Nat) (cs9 : CS) (r9 : Int32), T.1 cs x0 = some (cs9, r9) → NB cs cs9) (hM_X9_readConjunction : ∀ (cs : CS) (x0 : Nat) (cs9 : CS), T.2.1 cs x0 = some cs9 → NB cs cs9) (hM_X9_readNegation : ∀ (cs : CS) (x0 : Nat) (cs9 : CS), T.2.2.1 cs x0 = some cs9 → NB cs cs9) (hM_X9_readTest : ∀ (cs : CS) (x0 : Nat) (cs9 : CS), T.2.2.2.1 cs x0 = some cs9 → NB cs cs9) (hM_X9_readSum : ∀ (cs : CS) (x0 : Nat) (cs9 : CS), T.2.2.2.2.1 cs x0 = some cs9 → NB cs cs9) (hM_X9_readPart : ∀ (cs : CS) (x0 : Nat) (cs9 : CS), T.2.2.2.2.2.1 cs x0 = some cs9 → NB cs cs9) (hM_X9_readSign : ∀ (cs : CS) (x0 : Nat) (cs9 : CS), T.2.2.2.2.2.2.1 cs x0 = some cs9 → NB cs cs9) (hM_X9_readOne : ∀ (cs : CS) (x0 : Nat) (cs9 : CS), T.2.2.2.2.2.2.2.1 cs x0 = some cs9 → NB cs cs9) (hM_X9_readCase : ∀ (cs : CS) (x0 : Nat) (cs9 : CS), T.2.2.2.2.2.2.2.2.1 cs x0 = some cs9 → NB cs cs9) (hM_X9_readSpan : ∀ (cs : CS) (x0 : Nat) (cs9 : CS), T.2.2.2.2.2.2.2.2.2.1 cs x0 = some cs9 → NB cs cs9) (hM_X9_readAggregate : ∀ (cs : CS) (x0 : Nat) (cs9 : CS), T.2.2.2.2.2.2.2.2.2.2.1 cs x0 = some cs9 → NB cs cs9) (hM_X9_readList : ∀ (cs : CS) (x0 : Nat) (x1 : Int32) (x2 : Int32) (x3 : Int32) (x4 : Int32) (cs9 : CS), T.2.2.2.2.2.2.2.2.2.2.2 cs x0 x1 x2 x3 x4 = some cs9 → NB cs cs9) (cs1 : CS) (u0 : Nat) (u1 : Int32) (u2 : Int32) (u3 : Int32) (u4 : Int32) (u5 : Int32) (cs9 : CS) (h : c_X9_readList_b72 F T cs1 u0 u1 u2 u3 u4 u5 = some cs9) : NB cs1 cs9 := by
  unfold c_X9_readList_b72 at h
  have hq : NB cs1 cs1 := NB.refl
  replace h := ob h; obtain ⟨w_2, hw_2, h⟩ := h
  replace h := ob h; obtain ⟨cs_1, hv_1, h⟩ := h
  replace hq := hq.trans (nb_c_X9_expect F cs1 u0 42 cs_1 hv_1)
  replace h := ob h; obtain ⟨w_4, hw_4, h⟩ := h
  replace h := ob h; obtain ⟨z_3, hv_3, h⟩ := h
  replace hq := hq.trans (nb_c_X9_complete F cs_1 u0 u1 u2 u3 u4 (u5 + 1) z_3.1 z_3.2 hv_3)
  have h9 := Option.some.inj h
  exact hq.to h9
theorem nb_c_X9_readList_b47 (F : Nat) (T : TC_X9_readExpr) (hM_X9_readExpr : ∀ (cs : CS) (x0 : Nat) (cs9 : CS) (r9 : Int32), T.1 cs x0 = some (cs9, r9) → NB cs cs9) (hM_X9_readConjunction : ∀ (cs : CS) (x0 : Nat) (cs9 : CS), T.2.1 cs x0 = some cs9 → NB cs cs9) (hM_X9_readNegation : ∀ (cs : CS) (x0 : Nat) (cs9 : CS), T.2.2.1 cs x0 = some cs9 → NB cs cs9) (hM_X9_readTest : ∀ (cs : CS) (x0 : Nat) (cs9 : CS), T.2.2.2.1 cs x0 = some cs9 → NB cs cs9) (hM_X9_readSum : ∀ (cs : CS) (x0 : Nat) (cs9 : CS), T.2.2.2.2.1 cs x0 = some cs9 → NB cs cs9) (hM_X9_readPart : ∀ (cs : CS) (x0 : Nat) (cs9 : CS), T.2.2.2.2.2.1 cs x0 = some cs9 → NB cs cs9) (hM_X9_readSign : ∀ (cs : CS) (x0 : Nat) (cs9 : CS), T.2.2.2.2.2.2.1 cs x0 = some cs9 → NB cs cs9) (hM_X9_readOne : ∀ (cs : CS) (x0 : Nat) (cs9 : CS), T.2.2.2.2.2.2.2.1 cs x0 = some cs9 → NB cs cs9) (hM_X9_readCase : ∀ (cs : CS) (x0 : Nat) (cs9 : CS), T.2.2.2.2.2.2.2.2.1 cs x0 = some cs9 → NB cs cs9) (hM_X9_readSpan : ∀ (cs : CS) (x0 : Nat) (cs9 : CS), T.2.2.2.2.2.2.2.2.2.1 cs x0 = some cs9 → NB cs cs9) (hM_X9_readAggregate : ∀ (cs : CS) (x0 : Nat) (cs9 : CS), T.2.2.2.2.2.2.2.2.2.2.1 cs x0 = some cs9 → NB cs cs9) (hM_X9_readList : ∀ (cs : CS) (x0 : Nat) (x1 : Int32) (x2 : Int32) (x3 : Int32) (x4 : Int32) (cs9 : CS), T.2.2.2.2.2.2.2.2.2.2.2 cs x0 x1 x2 x3 x4 = some cs9 → NB cs cs9) (rc21 : CS → Nat → Int32 → Int32 → Int32 → Int32 → Int32 → Int32 → Int32 → Option CS) (hrc21 : ∀ (cs1 : CS) (u0 : Nat) (u1 : Int32) (u2 : Int32) (u3 : Int32) (u4 : Int32) (u5 : Int32) (u6 : Int32) (u7 : Int32) (cs9 : CS), rc21 cs1 u0 u1 u2 u3 u4 u5 u6 u7 = some cs9 → NB cs1 cs9) (cs1 : CS) (u0 : Nat) (u1 : Int32) (u2 : Int32) (u3 : Int32) (u4 : Int32) (u5 : Int32) (u7 : Int32) (y0 : Int32) (y1 : Nat) (cs9 : CS) (h : c_X9_readList_b47 F T rc21 cs1 u0 u1 u2 u3 u4 u5 u7 y0 y1 = some cs9) : NB cs1 cs9 := by
  unfold c_X9_readList_b47 at h
  have hq : NB cs1 cs1 := NB.refl
  replace h := ob h; obtain ⟨w_2, hw_2, h⟩ := h
  replace h := ob h; obtain ⟨cs_1, hv_1, h⟩ := h
  replace hq := hq.trans (nb_c_X9_refuseNinth F cs1 y1 y0 0 cs_1 hv_1)
  replace h := ob h; obtain ⟨w_4, hw_4, h⟩ := h
  replace h := ob h; obtain ⟨cs_3, hv_3, h⟩ := h
  replace hq := hq.trans (hM_X9_readSum cs_1 u0 cs_3 hv_3)
  replace h := ob h; obtain ⟨w_6, hw_6, h⟩ := h
  replace h := ob h; obtain ⟨z_5, hv_5, h⟩ := h
  replace hq := hq.trans (nb_c_X9_accept F cs_3 u0 43 z_5.1 z_5.2 hv_5)
  have k9 := hrc21 z_5.1 u0 u1 u2 u3 u4 (u5 + 1) z_5.2 (u7 + 1) cs9 h
  exact hq.trans k9
theorem nb_c_X9_readList_L21 (F : Nat) (T : TC_X9_readExpr) (hM_X9_readExpr : ∀ (cs : CS) (x0 : Nat) (cs9 : CS) (r9 : Int32), T.1 cs x0 = some (cs9, r9) → NB cs cs9) (hM_X9_readConjunction : ∀ (cs : CS) (x0 : Nat) (cs9 : CS), T.2.1 cs x0 = some cs9 → NB cs cs9) (hM_X9_readNegation : ∀ (cs : CS) (x0 : Nat) (cs9 : CS), T.2.2.1 cs x0 = some cs9 → NB cs cs9) (hM_X9_readTest : ∀ (cs : CS) (x0 : Nat) (cs9 : CS), T.2.2.2.1 cs x0 = some cs9 → NB cs cs9) (hM_X9_readSum : ∀ (cs : CS) (x0 : Nat) (cs9 : CS), T.2.2.2.2.1 cs x0 = some cs9 → NB cs cs9) (hM_X9_readPart : ∀ (cs : CS) (x0 : Nat) (cs9 : CS), T.2.2.2.2.2.1 cs x0 = some cs9 → NB cs cs9) (hM_X9_readSign : ∀ (cs : CS) (x0 : Nat) (cs9 : CS), T.2.2.2.2.2.2.1 cs x0 = some cs9 → NB cs cs9) (hM_X9_readOne : ∀ (cs : CS) (x0 : Nat) (cs9 : CS), T.2.2.2.2.2.2.2.1 cs x0 = some cs9 → NB cs cs9) (hM_X9_readCase : ∀ (cs : CS) (x0 : Nat) (cs9 : CS), T.2.2.2.2.2.2.2.2.1 cs x0 = some cs9 → NB cs cs9) (hM_X9_readSpan : ∀ (cs : CS) (x0 : Nat) (cs9 : CS), T.2.2.2.2.2.2.2.2.2.1 cs x0 = some cs9 → NB cs cs9) (hM_X9_readAggregate : ∀ (cs : CS) (x0 : Nat) (cs9 : CS), T.2.2.2.2.2.2.2.2.2.2.1 cs x0 = some cs9 → NB cs cs9) (hM_X9_readList : ∀ (cs : CS) (x0 : Nat) (x1 : Int32) (x2 : Int32) (x3 : Int32) (x4 : Int32) (cs9 : CS), T.2.2.2.2.2.2.2.2.2.2.2 cs x0 x1 x2 x3 x4 = some cs9 → NB cs cs9) : ∀ (lf_21 : Nat) (cs1 : CS) (u0 : Nat) (u1 : Int32) (u2 : Int32) (u3 : Int32) (u4 : Int32) (u5 : Int32) (u6 : Int32) (u7 : Int32) (cs9 : CS), c_X9_readList_L21 F T lf_21 cs1 u0 u1 u2 u3 u4 u5 u6 u7 = some cs9 → NB cs1 cs9 := by
  intro lf_21
  induction lf_21 with
  | zero => intro cs1 u0 u1 u2 u3 u4 u5 u6 u7 cs9 h; cases (show (none : Option CS) = _ from h)
  | succ lf_21 ih_21 =>
    intro cs1 u0 u1 u2 u3 u4 u5 u6 u7 cs9 h
    rw [c_X9_readList_L21] at h
    have hq : NB cs1 cs1 := NB.refl
    by_cases c_1 : 2000 ≤ u7
    · skip
      replace h := (if_pos c_1).symm.trans h
      have k9 := nb_c_X9_readList_b72 F T hM_X9_readExpr hM_X9_readConjunction hM_X9_readNegation hM_X9_readTest hM_X9_readSum hM_X9_readPart hM_X9_readSign hM_X9_readOne hM_X9_readCase hM_X9_readSpan hM_X9_readAggregate hM_X9_readList cs1 u0 u1 u2 u3 u4 u5 cs9 h
      exact hq.trans k9
    · skip
      replace h := (if_neg c_1).symm.trans h
      by_cases c_2 : u6 = 0
      · skip
        replace h := (if_pos c_2).symm.trans h
        have k9 := nb_c_X9_readList_b72 F T hM_X9_readExpr hM_X9_readConjunction hM_X9_readNegation hM_X9_readTest hM_X9_readSum hM_X9_readPart hM_X9_readSign hM_X9_readOne hM_X9_readCase hM_X9_readSpan hM_X9_readAggregate hM_X9_readList cs1 u0 u1 u2 u3 u4 u5 cs9 h
        exact hq.trans k9
      · skip
        replace h := (if_neg c_2).symm.trans h
        by_cases c_3 : u5 < 8
        · skip
          replace h := (if_pos c_3).symm.trans h
          have k9 := nb_c_X9_readList_b47 F T hM_X9_readExpr hM_X9_readConjunction hM_X9_readNegation hM_X9_readTest hM_X9_readSum hM_X9_readPart hM_X9_readSign hM_X9_readOne hM_X9_readCase hM_X9_readSpan hM_X9_readAggregate hM_X9_readList (c_X9_readList_L21 F T lf_21) ih_21 cs1 u0 u1 u2 u3 u4 u5 u7 0 u0 cs9 h
          exact hq.trans k9
        · skip
          replace h := (if_neg c_3).symm.trans h
          have k9 := nb_c_X9_readList_b47 F T hM_X9_readExpr hM_X9_readConjunction hM_X9_readNegation hM_X9_readTest hM_X9_readSum hM_X9_readPart hM_X9_readSign hM_X9_readOne hM_X9_readCase hM_X9_readSpan hM_X9_readAggregate hM_X9_readList (c_X9_readList_L21 F T lf_21) ih_21 cs1 u0 u1 u2 u3 u4 u5 u7 1 u0 cs9 h
          exact hq.trans k9
theorem nb_cb_X9_readList (F : Nat) (T : TC_X9_readExpr) (hM_X9_readExpr : ∀ (cs : CS) (x0 : Nat) (cs9 : CS) (r9 : Int32), T.1 cs x0 = some (cs9, r9) → NB cs cs9) (hM_X9_readConjunction : ∀ (cs : CS) (x0 : Nat) (cs9 : CS), T.2.1 cs x0 = some cs9 → NB cs cs9) (hM_X9_readNegation : ∀ (cs : CS) (x0 : Nat) (cs9 : CS), T.2.2.1 cs x0 = some cs9 → NB cs cs9) (hM_X9_readTest : ∀ (cs : CS) (x0 : Nat) (cs9 : CS), T.2.2.2.1 cs x0 = some cs9 → NB cs cs9) (hM_X9_readSum : ∀ (cs : CS) (x0 : Nat) (cs9 : CS), T.2.2.2.2.1 cs x0 = some cs9 → NB cs cs9) (hM_X9_readPart : ∀ (cs : CS) (x0 : Nat) (cs9 : CS), T.2.2.2.2.2.1 cs x0 = some cs9 → NB cs cs9) (hM_X9_readSign : ∀ (cs : CS) (x0 : Nat) (cs9 : CS), T.2.2.2.2.2.2.1 cs x0 = some cs9 → NB cs cs9) (hM_X9_readOne : ∀ (cs : CS) (x0 : Nat) (cs9 : CS), T.2.2.2.2.2.2.2.1 cs x0 = some cs9 → NB cs cs9) (hM_X9_readCase : ∀ (cs : CS) (x0 : Nat) (cs9 : CS), T.2.2.2.2.2.2.2.2.1 cs x0 = some cs9 → NB cs cs9) (hM_X9_readSpan : ∀ (cs : CS) (x0 : Nat) (cs9 : CS), T.2.2.2.2.2.2.2.2.2.1 cs x0 = some cs9 → NB cs cs9) (hM_X9_readAggregate : ∀ (cs : CS) (x0 : Nat) (cs9 : CS), T.2.2.2.2.2.2.2.2.2.2.1 cs x0 = some cs9 → NB cs cs9) (hM_X9_readList : ∀ (cs : CS) (x0 : Nat) (x1 : Int32) (x2 : Int32) (x3 : Int32) (x4 : Int32) (cs9 : CS), T.2.2.2.2.2.2.2.2.2.2.2 cs x0 x1 x2 x3 x4 = some cs9 → NB cs cs9) (cs : CS) (x0 : Nat) (x1 : Int32) (x2 : Int32) (x3 : Int32) (x4 : Int32) (cs9 : CS) (h : cb_X9_readList F T cs x0 x1 x2 x3 x4 = some cs9) : NB cs cs9 := by
  unfold cb_X9_readList at h
  have hq : NB cs cs := NB.refl
  replace h := ob h; obtain ⟨w_2, hw_2, h⟩ := h
  replace h := ob h; obtain ⟨cs_1, hv_1, h⟩ := h
  replace hq := hq.trans (nb_c_X9_expect F cs x0 27 cs_1 hv_1)
  replace h := ob h; obtain ⟨w_4, hw_4, h⟩ := h
  replace h := ob h; obtain ⟨cs_3, hv_3, h⟩ := h
  replace hq := hq.trans (nb_c_X9_expect F cs_1 x0 41 cs_3 hv_3)
  have k9 := nb_c_X9_readList_L21 F T hM_X9_readExpr hM_X9_readConjunction hM_X9_readNegation hM_X9_readTest hM_X9_readSum hM_X9_readPart hM_X9_readSign hM_X9_readOne hM_X9_readCase hM_X9_readSpan hM_X9_readAggregate hM_X9_readList F cs_3 x0 x1 x2 x3 x4 0 1 0 cs9 h
  exact hq.trans k9
theorem nbg_X9_readExpr (F : Nat) : ∀ n : Nat, (∀ (cs : CS) (x0 : Nat) (cs9 : CS) (r9 : Int32), (tabc_X9_readExpr F n).1 cs x0 = some (cs9, r9) → NB cs cs9) ∧ (∀ (cs : CS) (x0 : Nat) (cs9 : CS), (tabc_X9_readExpr F n).2.1 cs x0 = some cs9 → NB cs cs9) ∧ (∀ (cs : CS) (x0 : Nat) (cs9 : CS), (tabc_X9_readExpr F n).2.2.1 cs x0 = some cs9 → NB cs cs9) ∧ (∀ (cs : CS) (x0 : Nat) (cs9 : CS), (tabc_X9_readExpr F n).2.2.2.1 cs x0 = some cs9 → NB cs cs9) ∧ (∀ (cs : CS) (x0 : Nat) (cs9 : CS), (tabc_X9_readExpr F n).2.2.2.2.1 cs x0 = some cs9 → NB cs cs9) ∧ (∀ (cs : CS) (x0 : Nat) (cs9 : CS), (tabc_X9_readExpr F n).2.2.2.2.2.1 cs x0 = some cs9 → NB cs cs9) ∧ (∀ (cs : CS) (x0 : Nat) (cs9 : CS), (tabc_X9_readExpr F n).2.2.2.2.2.2.1 cs x0 = some cs9 → NB cs cs9) ∧ (∀ (cs : CS) (x0 : Nat) (cs9 : CS), (tabc_X9_readExpr F n).2.2.2.2.2.2.2.1 cs x0 = some cs9 → NB cs cs9) ∧ (∀ (cs : CS) (x0 : Nat) (cs9 : CS), (tabc_X9_readExpr F n).2.2.2.2.2.2.2.2.1 cs x0 = some cs9 → NB cs cs9) ∧ (∀ (cs : CS) (x0 : Nat) (cs9 : CS), (tabc_X9_readExpr F n).2.2.2.2.2.2.2.2.2.1 cs x0 = some cs9 → NB cs cs9) ∧ (∀ (cs : CS) (x0 : Nat) (cs9 : CS), (tabc_X9_readExpr F n).2.2.2.2.2.2.2.2.2.2.1 cs x0 = some cs9 → NB cs cs9) ∧ (∀ (cs : CS) (x0 : Nat) (x1 : Int32) (x2 : Int32) (x3 : Int32) (x4 : Int32) (cs9 : CS), (tabc_X9_readExpr F n).2.2.2.2.2.2.2.2.2.2.2 cs x0 x1 x2 x3 x4 = some cs9 → NB cs cs9) := by
  intro n
  induction n with
  | zero => exact ⟨fun _ _ _ _ h => (by cases (show (none : Option (CS × Int32)) = _ from h)), fun _ _ _ h => (by cases (show (none : Option CS) = _ from h)), fun _ _ _ h => (by cases (show (none : Option CS) = _ from h)), fun _ _ _ h => (by cases (show (none : Option CS) = _ from h)), fun _ _ _ h => (by cases (show (none : Option CS) = _ from h)), fun _ _ _ h => (by cases (show (none : Option CS) = _ from h)), fun _ _ _ h => (by cases (show (none : Option CS) = _ from h)), fun _ _ _ h => (by cases (show (none : Option CS) = _ from h)), fun _ _ _ h => (by cases (show (none : Option CS) = _ from h)), fun _ _ _ h => (by cases (show (none : Option CS) = _ from h)), fun _ _ _ h => (by cases (show (none : Option CS) = _ from h)), fun _ _ _ _ _ _ _ h => (by cases (show (none : Option CS) = _ from h))⟩
  | succ n ih =>
    obtain ⟨hh0, hh1, hh2, hh3, hh4, hh5, hh6, hh7, hh8, hh9, hh10, hh11⟩ := ih
    exact ⟨fun cs w0 w1 w2 h => nb_cb_X9_readExpr F (tabc_X9_readExpr F n) hh0 hh1 hh2 hh3 hh4 hh5 hh6 hh7 hh8 hh9 hh10 hh11 cs w0 w1 w2 h, fun cs w0 w1 h => nb_cb_X9_readConjunction F (tabc_X9_readExpr F n) hh0 hh1 hh2 hh3 hh4 hh5 hh6 hh7 hh8 hh9 hh10 hh11 cs w0 w1 h, fun cs w0 w1 h => nb_cb_X9_readNegation F (tabc_X9_readExpr F n) hh0 hh1 hh2 hh3 hh4 hh5 hh6 hh7 hh8 hh9 hh10 hh11 cs w0 w1 h, fun cs w0 w1 h => nb_cb_X9_readTest F (tabc_X9_readExpr F n) hh0 hh1 hh2 hh3 hh4 hh5 hh6 hh7 hh8 hh9 hh10 hh11 cs w0 w1 h, fun cs w0 w1 h => nb_cb_X9_readSum F (tabc_X9_readExpr F n) hh0 hh1 hh2 hh3 hh4 hh5 hh6 hh7 hh8 hh9 hh10 hh11 cs w0 w1 h, fun cs w0 w1 h => nb_cb_X9_readPart F (tabc_X9_readExpr F n) hh0 hh1 hh2 hh3 hh4 hh5 hh6 hh7 hh8 hh9 hh10 hh11 cs w0 w1 h, fun cs w0 w1 h => nb_cb_X9_readSign F (tabc_X9_readExpr F n) hh0 hh1 hh2 hh3 hh4 hh5 hh6 hh7 hh8 hh9 hh10 hh11 cs w0 w1 h, fun cs w0 w1 h => nb_cb_X9_readOne F (tabc_X9_readExpr F n) hh0 hh1 hh2 hh3 hh4 hh5 hh6 hh7 hh8 hh9 hh10 hh11 cs w0 w1 h, fun cs w0 w1 h => nb_cb_X9_readCase F (tabc_X9_readExpr F n) hh0 hh1 hh2 hh3 hh4 hh5 hh6 hh7 hh8 hh9 hh10 hh11 cs w0 w1 h, fun cs w0 w1 h => nb_cb_X9_readSpan F (tabc_X9_readExpr F n) hh0 hh1 hh2 hh3 hh4 hh5 hh6 hh7 hh8 hh9 hh10 hh11 cs w0 w1 h, fun cs w0 w1 h => nb_cb_X9_readAggregate F (tabc_X9_readExpr F n) hh0 hh1 hh2 hh3 hh4 hh5 hh6 hh7 hh8 hh9 hh10 hh11 cs w0 w1 h, fun cs w0 w1 w2 w3 w4 w5 h => nb_cb_X9_readList F (tabc_X9_readExpr F n) hh0 hh1 hh2 hh3 hh4 hh5 hh6 hh7 hh8 hh9 hh10 hh11 cs w0 w1 w2 w3 w4 w5 h⟩
theorem nb_c_X9_readExpr (F n : Nat) (cs : CS) (x0 : Nat) (cs9 : CS) (r9 : Int32) (h : c_X9_readExpr F n cs x0 = some (cs9, r9)) : NB cs cs9 := (nbg_X9_readExpr F n).1 cs x0 cs9 r9 h
theorem nb_c_X9_readName (F : Nat) (cs : CS) (x0 : Nat) (cs9 : CS) (r9 : Int64) (h : c_X9_readName F cs x0 = some (cs9, r9)) : NB cs cs9 := by
  unfold c_X9_readName at h
  have hq : NB cs cs := NB.refl
  replace h := ob h; obtain ⟨w_2, hw_2, h⟩ := h
  replace h := ob h; obtain ⟨v_1, hv_1, h⟩ := h
  replace h := ob h; obtain ⟨w_4, hw_4, h⟩ := h
  replace h := ob h; obtain ⟨cs_3, hv_3, h⟩ := h
  replace hq := hq.trans (nb_c_X9_expect F cs x0 39 cs_3 hv_3)
  have h9 := (Prod.mk.inj (Option.some.inj h)).1
  exact hq.to h9
theorem nb_c_X9_readItem_b91 (F : Nat) (cs1 : CS) (u1 : Nat) (u3 : Int32) (u4 : Int64) (cs9 : CS) (h : c_X9_readItem_b91 F cs1 u1 u3 u4 = some cs9) : NB cs1 cs9 := by
  unfold c_X9_readItem_b91 at h
  have hq : NB cs1 cs1 := NB.refl
  replace h := ob h; obtain ⟨w_2, hw_2, h⟩ := h
  replace h := ob h; obtain ⟨cs_1, hv_1, h⟩ := h
  replace hq := hq.trans (nb_c_X2_add F cs1 u1 u3 u4 0 1 cs_1 hv_1)
  have h9 := Option.some.inj h
  exact hq.to h9
theorem nb_c_X9_readItem (F : Nat) (cs : CS) (x0 : Nat) (x1 : Nat) (cs9 : CS) (h : c_X9_readItem F cs x0 x1 = some cs9) : NB cs cs9 := by
  unfold c_X9_readItem at h
  have hq : NB cs cs := NB.refl
  replace h := ob h; obtain ⟨w_2, hw_2, h⟩ := h
  replace h := ob h; obtain ⟨v_1, hv_1, h⟩ := h
  replace h := ob h; obtain ⟨w_4, hw_4, h⟩ := h
  replace h := ob h; obtain ⟨cs_3, hv_3, h⟩ := h
  replace hq := hq.trans (nb_c_X9_refuseNinth F cs x0 v_1 1 cs_3 hv_3)
  replace h := ob h; obtain ⟨w_6, hw_6, h⟩ := h
  replace h := ob h; obtain ⟨v_5, hv_5, h⟩ := h
  replace h := ob h; obtain ⟨w_8, hw_8, h⟩ := h
  replace h := ob h; obtain ⟨z_7, hv_7, h⟩ := h
  replace hq := hq.trans (nb_c_X9_readExpr F 300 cs_3 x0 z_7.1 z_7.2 hv_7)
  replace h := ob h; obtain ⟨w_10, hw_10, h⟩ := h
  replace h := ob h; obtain ⟨z_9, hv_9, h⟩ := h
  replace hq := hq.trans (nb_c_X9_accept F z_7.1 x0 17 z_9.1 z_9.2 hv_9)
  by_cases c_11 : z_9.2 = 0
  · skip
    replace h := (if_pos c_11).symm.trans h
    replace h := ob h; obtain ⟨v_12, hv_12, h⟩ := h
    replace h := ob h; obtain ⟨i_14, hi_14, h⟩ := h
    subst hi_14
    replace h := ob h; obtain ⟨w_15, hw_15, h⟩ := h
    replace h := ob h; obtain ⟨v_13, hv_13, h⟩ := h
    by_cases c_16 : v_13 = 0
    · skip
      replace h := (if_pos c_16).symm.trans h
      have k9 := nb_c_X9_readItem_b91 F z_9.1 x1 z_7.2 (-1) cs9 h
      exact hq.trans k9
    · skip
      replace h := (if_neg c_16).symm.trans h
      replace h := ob h; obtain ⟨v_17, hv_17, h⟩ := h
      replace h := ob h; obtain ⟨i_18, hi_18, h⟩ := h
      subst hi_18
      replace h := ob h; obtain ⟨v_19, hv_19, h⟩ := h
      replace h := ob h; obtain ⟨v_20, hv_20, h⟩ := h
      by_cases c_21 : v_20 = 39
      · skip
        replace h := (if_pos c_21).symm.trans h
        replace h := ob h; obtain ⟨v_22, hv_22, h⟩ := h
        replace h := ob h; obtain ⟨i_23, hi_23, h⟩ := h
        subst hi_23
        replace h := ob h; obtain ⟨v_24, hv_24, h⟩ := h
        replace h := ob h; obtain ⟨v_25, hv_25, h⟩ := h
        by_cases c_26 : v_25 = v_5
        · skip
          replace h := (if_pos c_26).symm.trans h
          replace h := ob h; obtain ⟨v_27, hv_27, h⟩ := h
          replace h := ob h; obtain ⟨i_28, hi_28, h⟩ := h
          subst hi_28
          replace h := ob h; obtain ⟨v_29, hv_29, h⟩ := h
          replace h := ob h; obtain ⟨v_30, hv_30, h⟩ := h
          have k9 := nb_c_X9_readItem_b91 F z_9.1 x1 z_7.2 v_30 cs9 h
          exact hq.trans k9
        · skip
          replace h := (if_neg c_26).symm.trans h
          have k9 := nb_c_X9_readItem_b91 F z_9.1 x1 z_7.2 (-1) cs9 h
          exact hq.trans k9
      · skip
        replace h := (if_neg c_21).symm.trans h
        have k9 := nb_c_X9_readItem_b91 F z_9.1 x1 z_7.2 (-1) cs9 h
        exact hq.trans k9
  · skip
    replace h := (if_neg c_11).symm.trans h
    replace h := ob h; obtain ⟨w_32, hw_32, h⟩ := h
    replace h := ob h; obtain ⟨z_31, hv_31, h⟩ := h
    replace hq := hq.trans (nb_c_X9_readName F z_9.1 x0 z_31.1 z_31.2 hv_31)
    have k9 := nb_c_X9_readItem_b91 F z_31.1 x1 z_7.2 z_31.2 cs9 h
    exact hq.trans k9
theorem nb_c_X9_readLeaf_b105 (F : Nat) (cs1 : CS) (cs9 : CS) (h : c_X9_readLeaf_b105 F cs1 = some cs9) : NB cs1 cs9 := by
  unfold c_X9_readLeaf_b105 at h
  have hq : NB cs1 cs1 := NB.refl
  have h9 := Option.some.inj h
  exact hq.to h9
theorem nb_c_X9_readLeaf_b32 (F : Nat) (cs1 : CS) (u0 : Nat) (cs9 : CS) (h : c_X9_readLeaf_b32 F cs1 u0 = some cs9) : NB cs1 cs9 := by
  unfold c_X9_readLeaf_b32 at h
  have hq : NB cs1 cs1 := NB.refl
  replace h := ob h; obtain ⟨w_2, hw_2, h⟩ := h
  replace h := ob h; obtain ⟨v_1, hv_1, h⟩ := h
  replace h := ob h; obtain ⟨w_4, hw_4, h⟩ := h
  replace h := ob h; obtain ⟨cs_3, hv_3, h⟩ := h
  replace hq := hq.trans (nb_c_X9_refuse F cs1 u0 1 v_1 cs_3 hv_3)
  have k9 := nb_c_X9_readLeaf_b105 F cs_3 cs9 h
  exact hq.trans k9
theorem nb_c_X9_readLeaf (F : Nat) (cs : CS) (x0 : Nat) (x1 : Nat) (cs9 : CS) (h : c_X9_readLeaf F cs x0 x1 = some cs9) : NB cs cs9 := by
  unfold c_X9_readLeaf at h
  have hq : NB cs cs := NB.refl
  replace h := ob h; obtain ⟨w_2, hw_2, h⟩ := h
  replace h := ob h; obtain ⟨v_1, hv_1, h⟩ := h
  replace h := ob h; obtain ⟨w_4, hw_4, h⟩ := h
  replace h := ob h; obtain ⟨v_3, hv_3, h⟩ := h
  by_cases c_5 : v_3 = 39
  · skip
    replace h := (if_pos c_5).symm.trans h
    by_cases c_6 : (v_1 - (730)) < 0
    · skip
      replace h := (if_pos c_6).symm.trans h
      have k9 := nb_c_X9_readLeaf_b32 F cs x0 cs9 h
      exact hq.trans k9
    · skip
      replace h := (if_neg c_6).symm.trans h
      by_cases c_7 : (v_1 - (730)) ≤ (9)
      · skip
        replace h := (if_pos c_7).symm.trans h
        replace h := ob h; obtain ⟨v_8, hv_8, h⟩ := h
        replace h := ob h; obtain ⟨v_9, hv_9, h⟩ := h
        replace h := ob h; obtain ⟨v_10, hv_10, h⟩ := h
        by_cases c_11 : v_8 < v_10
        · skip
          replace h := (if_pos c_11).symm.trans h
          replace h := ob h; obtain ⟨cs_12, hv_12, h⟩ := h
          replace hq := hq.trans (NB.pI hv_12)
          replace h := ob h; obtain ⟨v_13, hv_13, h⟩ := h
          replace h := ob h; obtain ⟨v_14, hv_14, h⟩ := h
          replace h := ob h; obtain ⟨w_15, hw_15, h⟩ := h
          replace h := ob h; obtain ⟨cs_15, hv_15, h⟩ := h
          replace hq := hq.trans (NB.wQ hv_15)
          replace h := ob h; obtain ⟨v_16, hv_16, h⟩ := h
          replace h := ob h; obtain ⟨cs_17, hv_17, h⟩ := h
          replace hq := hq.trans (NB.pI hv_17)
          replace h := ob h; obtain ⟨v_18, hv_18, h⟩ := h
          replace h := ob h; obtain ⟨cs_19, hv_19, h⟩ := h
          replace hq := hq.trans (NB.pI hv_19)
          have k9 := nb_c_X9_readLeaf_b105 F cs_19 cs9 h
          exact hq.trans k9
        · skip
          replace h := (if_neg c_11).symm.trans h
          replace h := ob h; obtain ⟨w_21, hw_21, h⟩ := h
          replace h := ob h; obtain ⟨v_20, hv_20, h⟩ := h
          replace h := ob h; obtain ⟨w_23, hw_23, h⟩ := h
          replace h := ob h; obtain ⟨cs_22, hv_22, h⟩ := h
          replace hq := hq.trans (nb_c_X9_refuse F cs x0 7 v_20 cs_22 hv_22)
          have k9 := nb_c_X9_readLeaf_b105 F cs_22 cs9 h
          exact hq.trans k9
      · skip
        replace h := (if_neg c_7).symm.trans h
        have k9 := nb_c_X9_readLeaf_b32 F cs x0 cs9 h
        exact hq.trans k9
  · skip
    replace h := (if_neg c_5).symm.trans h
    have k9 := nb_c_X9_readLeaf_b32 F cs x0 cs9 h
    exact hq.trans k9
theorem nb_c_X9_readNumber_b29 (F : Nat) (cs1 : CS) (u0 : Nat) (u3 : Int64) (cs9 : CS) (r9 : Int64) (h : c_X9_readNumber_b29 F cs1 u0 u3 = some (cs9, r9)) : NB cs1 cs9 := by
  unfold c_X9_readNumber_b29 at h
  have hq : NB cs1 cs1 := NB.refl
  replace h := ob h; obtain ⟨w_2, hw_2, h⟩ := h
  replace h := ob h; obtain ⟨cs_1, hv_1, h⟩ := h
  replace hq := hq.trans (nb_c_X9_expect F cs1 u0 40 cs_1 hv_1)
  have h9 := (Prod.mk.inj (Option.some.inj h)).1
  exact hq.to h9
theorem nb_c_X9_readNumber (F : Nat) (cs : CS) (x0 : Nat) (x1 : Int64) (cs9 : CS) (r9 : Int64) (h : c_X9_readNumber F cs x0 x1 = some (cs9, r9)) : NB cs cs9 := by
  unfold c_X9_readNumber at h
  have hq : NB cs cs := NB.refl
  replace h := ob h; obtain ⟨w_2, hw_2, h⟩ := h
  replace h := ob h; obtain ⟨v_1, hv_1, h⟩ := h
  replace h := ob h; obtain ⟨w_4, hw_4, h⟩ := h
  replace h := ob h; obtain ⟨v_3, hv_3, h⟩ := h
  by_cases c_5 : v_3 = 40
  · skip
    replace h := (if_pos c_5).symm.trans h
    by_cases c_6 : v_1 ≤ x1
    · skip
      replace h := (if_pos c_6).symm.trans h
      have k9 := nb_c_X9_readNumber_b29 F cs x0 v_1 cs9 r9 h
      exact hq.trans k9
    · skip
      replace h := (if_neg c_6).symm.trans h
      replace h := ob h; obtain ⟨w_8, hw_8, h⟩ := h
      replace h := ob h; obtain ⟨v_7, hv_7, h⟩ := h
      replace h := ob h; obtain ⟨w_10, hw_10, h⟩ := h
      replace h := ob h; obtain ⟨cs_9, hv_9, h⟩ := h
      replace hq := hq.trans (nb_c_X9_refuse F cs x0 1 v_7 cs_9 hv_9)
      have k9 := nb_c_X9_readNumber_b29 F cs_9 x0 v_1 cs9 r9 h
      exact hq.trans k9
  · skip
    replace h := (if_neg c_5).symm.trans h
    have k9 := nb_c_X9_readNumber_b29 F cs x0 v_1 cs9 r9 h
    exact hq.trans k9
theorem nb_c_X9_addSource_b32 (F : Nat) (cs1 : CS) (cs9 : CS) (h : c_X9_addSource_b32 F cs1 = some cs9) : NB cs1 cs9 := by
  unfold c_X9_addSource_b32 at h
  have hq : NB cs1 cs1 := NB.refl
  have h9 := Option.some.inj h
  exact hq.to h9
theorem nb_c_X9_addSource (F : Nat) (cs : CS) (x0 : Nat) (x1 : Nat) (cs9 : CS) (h : c_X9_addSource F cs x0 x1 = some cs9) : NB cs cs9 := by
  unfold c_X9_addSource at h
  have hq : NB cs cs := NB.refl
  replace h := ob h; obtain ⟨v_1, hv_1, h⟩ := h
  replace h := ob h; obtain ⟨v_2, hv_2, h⟩ := h
  replace h := ob h; obtain ⟨v_3, hv_3, h⟩ := h
  by_cases c_4 : v_3 ≤ v_1
  · skip
    replace h := (if_pos c_4).symm.trans h
    have k9 := nb_c_X9_addSource_b32 F cs cs9 h
    exact hq.trans k9
  · skip
    replace h := (if_neg c_4).symm.trans h
    replace h := ob h; obtain ⟨v_5, hv_5, h⟩ := h
    replace h := ob h; obtain ⟨v_6, hv_6, h⟩ := h
    replace h := ob h; obtain ⟨w_7, hw_7, h⟩ := h
    replace h := ob h; obtain ⟨cs_7, hv_7, h⟩ := h
    replace hq := hq.trans (NB.wQ hv_7)
    replace h := ob h; obtain ⟨v_8, hv_8, h⟩ := h
    replace h := ob h; obtain ⟨cs_9, hv_9, h⟩ := h
    replace hq := hq.trans (NB.pI hv_9)
    have k9 := nb_c_X9_addSource_b32 F cs_9 cs9 h
    exact hq.trans k9
theorem nb_c_X9_readGroups_b99 (F : Nat) (cs1 : CS) (cs9 : CS) (h : c_X9_readGroups_b99 F cs1 = some cs9) : NB cs1 cs9 := by
  unfold c_X9_readGroups_b99 at h
  have hq : NB cs1 cs1 := NB.refl
  have h9 := Option.some.inj h
  exact hq.to h9
theorem nb_c_X9_readGroups_L29 (F : Nat) : ∀ (lf_29 : Nat) (cs1 : CS) (u0 : Nat) (u1 : Nat) (u2 : Int32) (u3 : Int32) (cs9 : CS), c_X9_readGroups_L29 F lf_29 cs1 u0 u1 u2 u3 = some cs9 → NB cs1 cs9 := by
  intro lf_29
  induction lf_29 with
  | zero => intro cs1 u0 u1 u2 u3 cs9 h; cases (show (none : Option CS) = _ from h)
  | succ lf_29 ih_29 =>
    intro cs1 u0 u1 u2 u3 cs9 h
    rw [c_X9_readGroups_L29] at h
    have hq : NB cs1 cs1 := NB.refl
    by_cases c_1 : 2000 ≤ u3
    · skip
      replace h := (if_pos c_1).symm.trans h
      have k9 := nb_c_X9_readGroups_b99 F cs1 cs9 h
      exact hq.trans k9
    · skip
      replace h := (if_neg c_1).symm.trans h
      by_cases c_2 : u2 = 0
      · skip
        replace h := (if_pos c_2).symm.trans h
        have k9 := nb_c_X9_readGroups_b99 F cs1 cs9 h
        exact hq.trans k9
      · skip
        replace h := (if_neg c_2).symm.trans h
        replace h := ob h; obtain ⟨v_3, hv_3, h⟩ := h
        replace h := ob h; obtain ⟨i_5, hi_5, h⟩ := h
        subst hi_5
        replace h := ob h; obtain ⟨w_6, hw_6, h⟩ := h
        replace h := ob h; obtain ⟨v_4, hv_4, h⟩ := h
        replace h := ob h; obtain ⟨w_8, hw_8, h⟩ := h
        replace h := ob h; obtain ⟨cs_7, hv_7, h⟩ := h
        replace hq := hq.trans (nb_c_X9_refuseNinth F cs1 u0 v_4 1 cs_7 hv_7)
        replace h := ob h; obtain ⟨w_10, hw_10, h⟩ := h
        replace h := ob h; obtain ⟨z_9, hv_9, h⟩ := h
        replace hq := hq.trans (nb_c_X9_readExpr F 300 cs_7 u0 z_9.1 z_9.2 hv_9)
        replace h := ob h; obtain ⟨w_12, hw_12, h⟩ := h
        replace h := ob h; obtain ⟨cs_11, hv_11, h⟩ := h
        replace hq := hq.trans (nb_c_X9_expect F z_9.1 u0 17 cs_11 hv_11)
        replace h := ob h; obtain ⟨w_14, hw_14, h⟩ := h
        replace h := ob h; obtain ⟨v_13, hv_13, h⟩ := h
        replace h := ob h; obtain ⟨v_15, hv_15, h⟩ := h
        replace h := ob h; obtain ⟨w_17, hw_17, h⟩ := h
        replace h := ob h; obtain ⟨z_16, hv_16, h⟩ := h
        replace hq := hq.trans (nb_c_X9_readName F cs_11 u0 z_16.1 z_16.2 hv_16)
        replace h := ob h; obtain ⟨i_19, hi_19, h⟩ := h
        subst hi_19
        replace h := ob h; obtain ⟨w_20, hw_20, h⟩ := h
        replace h := ob h; obtain ⟨cs_18, hv_18, h⟩ := h
        replace hq := hq.trans (nb_c_X2_add F z_16.1 i_19 z_9.2 z_16.2 v_13 1 cs_18 hv_18)
        replace h := ob h; obtain ⟨w_22, hw_22, h⟩ := h
        replace h := ob h; obtain ⟨z_21, hv_21, h⟩ := h
        replace hq := hq.trans (nb_c_X9_accept F cs_18 u0 43 z_21.1 z_21.2 hv_21)
        have k9 := ih_29 z_21.1 u0 u1 z_21.2 (u3 + 1) cs9 h
        exact hq.trans k9
theorem nb_c_X9_readGroups (F : Nat) (cs : CS) (x0 : Nat) (x1 : Nat) (cs9 : CS) (h : c_X9_readGroups F cs x0 x1 = some cs9) : NB cs cs9 := by
  unfold c_X9_readGroups at h
  have hq : NB cs cs := NB.refl
  replace h := ob h; obtain ⟨cs_1, hv_1, h⟩ := h
  replace hq := hq.trans (NB.pI hv_1)
  replace h := ob h; obtain ⟨w_3, hw_3, h⟩ := h
  replace h := ob h; obtain ⟨v_2, hv_2, h⟩ := h
  replace h := ob h; obtain ⟨cs_4, hv_4, h⟩ := h
  replace hq := hq.trans (NB.pI hv_4)
  replace h := ob h; obtain ⟨w_6, hw_6, h⟩ := h
  replace h := ob h; obtain ⟨cs_5, hv_5, h⟩ := h
  replace hq := hq.trans (nb_c_X9_expect F cs_4 x0 7 cs_5 hv_5)
  replace h := ob h; obtain ⟨w_8, hw_8, h⟩ := h
  replace h := ob h; obtain ⟨cs_7, hv_7, h⟩ := h
  replace hq := hq.trans (nb_c_X9_expect F cs_5 x0 8 cs_7 hv_7)
  have k9 := nb_c_X9_readGroups_L29 F F cs_7 x0 x1 1 0 cs9 h
  exact hq.trans k9
theorem nb_c_X10_skipBlanks_b38 (F : Nat) (cs1 : CS) (cs9 : CS) (h : c_X10_skipBlanks_b38 F cs1 = some cs9) : NB cs1 cs9 := by
  unfold c_X10_skipBlanks_b38 at h
  have hq : NB cs1 cs1 := NB.refl
  have h9 := Option.some.inj h
  exact hq.to h9
theorem nb_c_X10_skipBlanks_L0 (F : Nat) : ∀ (lf_0 : Nat) (cs1 : CS) (u0 : Nat) (cs9 : CS), c_X10_skipBlanks_L0 F lf_0 cs1 u0 = some cs9 → NB cs1 cs9 := by
  intro lf_0
  induction lf_0 with
  | zero => intro cs1 u0 cs9 h; cases (show (none : Option CS) = _ from h)
  | succ lf_0 ih_0 =>
    intro cs1 u0 cs9 h
    rw [c_X10_skipBlanks_L0] at h
    have hq : NB cs1 cs1 := NB.refl
    replace h := ob h; obtain ⟨v_1, hv_1, h⟩ := h
    replace h := ob h; obtain ⟨v_2, hv_2, h⟩ := h
    by_cases c_3 : v_2 ≤ v_1
    · skip
      replace h := (if_pos c_3).symm.trans h
      have k9 := nb_c_X10_skipBlanks_b38 F cs1 cs9 h
      exact hq.trans k9
    · skip
      replace h := (if_neg c_3).symm.trans h
      replace h := ob h; obtain ⟨v_4, hv_4, h⟩ := h
      replace h := ob h; obtain ⟨w_6, hw_6, h⟩ := h
      replace h := ob h; obtain ⟨v_5, hv_5, h⟩ := h
      replace h := ob h; obtain ⟨v_7, hv_7, h⟩ := h
      by_cases c_8 : v_7 = 0
      · skip
        replace h := (if_pos c_8).symm.trans h
        have k9 := nb_c_X10_skipBlanks_b38 F cs1 cs9 h
        exact hq.trans k9
      · skip
        replace h := (if_neg c_8).symm.trans h
        replace h := ob h; obtain ⟨v_9, hv_9, h⟩ := h
        replace h := ob h; obtain ⟨cs_10, hv_10, h⟩ := h
        replace hq := hq.trans (NB.pI hv_10)
        have k9 := ih_0 cs_10 u0 cs9 h
        exact hq.trans k9
theorem nb_c_X10_skipBlanks (F : Nat) (cs : CS) (x0 : Nat) (cs9 : CS) (h : c_X10_skipBlanks F cs x0 = some cs9) : NB cs cs9 := by
  unfold c_X10_skipBlanks at h
  have hq : NB cs cs := NB.refl
  have k9 := nb_c_X10_skipBlanks_L0 F F cs x0 cs9 h
  exact hq.trans k9
theorem nb_c_X10_scanWord_b111 (F : Nat) (cs1 : CS) (y0 : Int32) (y1 : Int32) (y2 : Nat) (wy2 : Nat) (cs9 : CS) (h : c_X10_scanWord_b111 F cs1 y0 y1 y2 wy2 = some cs9) : NB cs1 cs9 := by
  unfold c_X10_scanWord_b111 at h
  have hq : NB cs1 cs1 := NB.refl
  replace h := ob h; obtain ⟨cs_1, hv_1, h⟩ := h
  replace hq := hq.trans (NB.wA hv_1)
  have h9 := Option.some.inj h
  exact hq.to h9
theorem nb_c_X10_scanWord_b78 (F : Nat) (cs1 : CS) (u0 : Nat) (u1 : Int32) (u2 : Int32) (u3 : Int64) (cs9 : CS) (h : c_X10_scanWord_b78 F cs1 u0 u1 u2 u3 = some cs9) : NB cs1 cs9 := by
  unfold c_X10_scanWord_b78 at h
  have hq : NB cs1 cs1 := NB.refl
  replace h := ob h; obtain ⟨v_1, hv_1, h⟩ := h
  replace h := ob h; obtain ⟨cs_2, hv_2, h⟩ := h
  replace hq := hq.trans (NB.wB hv_2)
  replace h := ob h; obtain ⟨v_3, hv_3, h⟩ := h
  replace h := ob h; obtain ⟨v_4, hv_4, h⟩ := h
  by_cases c_5 : (v_4 - u2) ≤ 12
  · skip
    replace h := (if_pos c_5).symm.trans h
    replace h := ob h; obtain ⟨w_7, hw_7, h⟩ := h
    replace h := ob h; obtain ⟨v_6, hv_6, h⟩ := h
    have k9 := nb_c_X10_scanWord_b111 F cs_2 v_6 u1 u0 v_3 cs9 h
    exact hq.trans k9
  · skip
    replace h := (if_neg c_5).symm.trans h
    have k9 := nb_c_X10_scanWord_b111 F cs_2 57 u1 u0 v_3 cs9 h
    exact hq.trans k9
theorem nb_c_X10_scanWord_b46 (F : Nat) (rc7 : CS → Nat → Int32 → Int32 → Int64 → Option CS) (hrc7 : ∀ (cs1 : CS) (u0 : Nat) (u1 : Int32) (u2 : Int32) (u3 : Int64) (cs9 : CS), rc7 cs1 u0 u1 u2 u3 = some cs9 → NB cs1 cs9) (cs1 : CS) (u0 : Nat) (u1 : Int32) (u2 : Int32) (u3 : Int64) (cs9 : CS) (h : c_X10_scanWord_b46 F rc7 cs1 u0 u1 u2 u3 = some cs9) : NB cs1 cs9 := by
  unfold c_X10_scanWord_b46 at h
  have hq : NB cs1 cs1 := NB.refl
  replace h := ob h; obtain ⟨v_1, hv_1, h⟩ := h
  replace h := ob h; obtain ⟨w_3, hw_3, h⟩ := h
  replace h := ob h; obtain ⟨v_2, hv_2, h⟩ := h
  replace h := ob h; obtain ⟨v_4, hv_4, h⟩ := h
  replace h := ob h; obtain ⟨v_5, hv_5, h⟩ := h
  replace h := ob h; obtain ⟨cs_6, hv_6, h⟩ := h
  replace hq := hq.trans (NB.pI hv_6)
  have k9 := hrc7 cs_6 u0 u1 u2 ((u3 * (37)) + ((v_4 : Int32).toInt64)) cs9 h
  exact hq.trans k9
theorem nb_c_X10_scanWord_L7 (F : Nat) : ∀ (lf_7 : Nat) (cs1 : CS) (u0 : Nat) (u1 : Int32) (u2 : Int32) (u3 : Int64) (cs9 : CS), c_X10_scanWord_L7 F lf_7 cs1 u0 u1 u2 u3 = some cs9 → NB cs1 cs9 := by
  intro lf_7
  induction lf_7 with
  | zero => intro cs1 u0 u1 u2 u3 cs9 h; cases (show (none : Option CS) = _ from h)
  | succ lf_7 ih_7 =>
    intro cs1 u0 u1 u2 u3 cs9 h
    rw [c_X10_scanWord_L7] at h
    have hq : NB cs1 cs1 := NB.refl
    replace h := ob h; obtain ⟨v_1, hv_1, h⟩ := h
    replace h := ob h; obtain ⟨v_2, hv_2, h⟩ := h
    by_cases c_3 : v_2 ≤ v_1
    · skip
      replace h := (if_pos c_3).symm.trans h
      have k9 := nb_c_X10_scanWord_b78 F cs1 u0 u1 u2 u3 cs9 h
      exact hq.trans k9
    · skip
      replace h := (if_neg c_3).symm.trans h
      replace h := ob h; obtain ⟨v_4, hv_4, h⟩ := h
      replace h := ob h; obtain ⟨w_6, hw_6, h⟩ := h
      replace h := ob h; obtain ⟨v_5, hv_5, h⟩ := h
      replace h := ob h; obtain ⟨v_7, hv_7, h⟩ := h
      by_cases c_8 : v_7 = 0
      · skip
        replace h := (if_pos c_8).symm.trans h
        replace h := ob h; obtain ⟨v_9, hv_9, h⟩ := h
        replace h := ob h; obtain ⟨w_11, hw_11, h⟩ := h
        replace h := ob h; obtain ⟨v_10, hv_10, h⟩ := h
        replace h := ob h; obtain ⟨v_12, hv_12, h⟩ := h
        by_cases c_13 : v_12 = 0
        · skip
          replace h := (if_pos c_13).symm.trans h
          have k9 := nb_c_X10_scanWord_b78 F cs1 u0 u1 u2 u3 cs9 h
          exact hq.trans k9
        · skip
          replace h := (if_neg c_13).symm.trans h
          have k9 := nb_c_X10_scanWord_b46 F (c_X10_scanWord_L7 F lf_7) ih_7 cs1 u0 u1 u2 u3 cs9 h
          exact hq.trans k9
      · skip
        replace h := (if_neg c_8).symm.trans h
        have k9 := nb_c_X10_scanWord_b46 F (c_X10_scanWord_L7 F lf_7) ih_7 cs1 u0 u1 u2 u3 cs9 h
        exact hq.trans k9
theorem nb_c_X10_scanWord (F : Nat) (cs : CS) (x0 : Nat) (x1 : Int32) (cs9 : CS) (h : c_X10_scanWord F cs x0 x1 = some cs9) : NB cs cs9 := by
  unfold c_X10_scanWord at h
  have hq : NB cs cs := NB.refl
  replace h := ob h; obtain ⟨v_1, hv_1, h⟩ := h
  have k9 := nb_c_X10_scanWord_L7 F F cs x0 x1 v_1 0 cs9 h
  exact hq.trans k9
theorem nb_c_X10_scanNumber_b127 (F : Nat) (cs1 : CS) (cs9 : CS) (h : c_X10_scanNumber_b127 F cs1 = some cs9) : NB cs1 cs9 := by
  unfold c_X10_scanNumber_b127 at h
  have hq : NB cs1 cs1 := NB.refl
  have h9 := Option.some.inj h
  exact hq.to h9
theorem nb_c_X10_scanNumber_b98 (F : Nat) (cs1 : CS) (u0 : Nat) (u1 : Int32) (u2 : Int64) (cs9 : CS) (h : c_X10_scanNumber_b98 F cs1 u0 u1 u2 = some cs9) : NB cs1 cs9 := by
  unfold c_X10_scanNumber_b98 at h
  have hq : NB cs1 cs1 := NB.refl
  replace h := ob h; obtain ⟨v_1, hv_1, h⟩ := h
  replace h := ob h; obtain ⟨cs_2, hv_2, h⟩ := h
  replace hq := hq.trans (NB.wB hv_2)
  replace h := ob h; obtain ⟨v_3, hv_3, h⟩ := h
  replace h := ob h; obtain ⟨w_5, hw_5, h⟩ := h
  replace h := ob h; obtain ⟨v_4, hv_4, h⟩ := h
  replace h := ob h; obtain ⟨v_6, hv_6, h⟩ := h
  by_cases c_7 : v_6 = 0
  · skip
    replace h := (if_pos c_7).symm.trans h
    have k9 := nb_c_X10_scanNumber_b127 F cs_2 cs9 h
    exact hq.trans k9
  · skip
    replace h := (if_neg c_7).symm.trans h
    replace h := ob h; obtain ⟨v_8, hv_8, h⟩ := h
    replace h := ob h; obtain ⟨cs_9, hv_9, h⟩ := h
    replace hq := hq.trans (NB.wA hv_9)
    have k9 := nb_c_X10_scanNumber_b127 F cs_9 cs9 h
    exact hq.trans k9
theorem nb_c_X10_scanNumber_b85 (F : Nat) (rc10 : CS → Nat → Int32 → Int64 → Option CS) (hrc10 : ∀ (cs1 : CS) (u0 : Nat) (u1 : Int32) (u2 : Int64) (cs9 : CS), rc10 cs1 u0 u1 u2 = some cs9 → NB cs1 cs9) (cs1 : CS) (u0 : Nat) (u1 : Int32) (u2 : Int64) (cs9 : CS) (h : c_X10_scanNumber_b85 F rc10 cs1 u0 u1 u2 = some cs9) : NB cs1 cs9 := by
  unfold c_X10_scanNumber_b85 at h
  have hq : NB cs1 cs1 := NB.refl
  replace h := ob h; obtain ⟨v_1, hv_1, h⟩ := h
  replace h := ob h; obtain ⟨cs_2, hv_2, h⟩ := h
  replace hq := hq.trans (NB.pI hv_2)
  have k9 := hrc10 cs_2 u0 u1 u2 cs9 h
  exact hq.trans k9
theorem nb_c_X10_scanNumber_L10 (F : Nat) : ∀ (lf_10 : Nat) (cs1 : CS) (u0 : Nat) (u1 : Int32) (u2 : Int64) (cs9 : CS), c_X10_scanNumber_L10 F lf_10 cs1 u0 u1 u2 = some cs9 → NB cs1 cs9 := by
  intro lf_10
  induction lf_10 with
  | zero => intro cs1 u0 u1 u2 cs9 h; cases (show (none : Option CS) = _ from h)
  | succ lf_10 ih_10 =>
    intro cs1 u0 u1 u2 cs9 h
    rw [c_X10_scanNumber_L10] at h
    have hq : NB cs1 cs1 := NB.refl
    replace h := ob h; obtain ⟨v_1, hv_1, h⟩ := h
    replace h := ob h; obtain ⟨v_2, hv_2, h⟩ := h
    by_cases c_3 : v_2 ≤ v_1
    · skip
      replace h := (if_pos c_3).symm.trans h
      have k9 := nb_c_X10_scanNumber_b98 F cs1 u0 u1 u2 cs9 h
      exact hq.trans k9
    · skip
      replace h := (if_neg c_3).symm.trans h
      replace h := ob h; obtain ⟨v_4, hv_4, h⟩ := h
      replace h := ob h; obtain ⟨w_6, hw_6, h⟩ := h
      replace h := ob h; obtain ⟨v_5, hv_5, h⟩ := h
      replace h := ob h; obtain ⟨v_7, hv_7, h⟩ := h
      by_cases c_8 : v_7 = 0
      · skip
        replace h := (if_pos c_8).symm.trans h
        have k9 := nb_c_X10_scanNumber_b98 F cs1 u0 u1 u2 cs9 h
        exact hq.trans k9
      · skip
        replace h := (if_neg c_8).symm.trans h
        replace h := ob h; obtain ⟨v_9, hv_9, h⟩ := h
        replace h := ob h; obtain ⟨w_11, hw_11, h⟩ := h
        replace h := ob h; obtain ⟨v_10, hv_10, h⟩ := h
        replace h := ob h; obtain ⟨w_12, hw_12, h⟩ := h
        by_cases c_13 : u2 ≤ (((9223372036854775807) - ((v_10 - 48 : Int32).toInt64)) / (10))
        · skip
          replace h := (if_pos c_13).symm.trans h
          have k9 := nb_c_X10_scanNumber_b85 F (c_X10_scanNumber_L10 F lf_10) ih_10 cs1 u0 u1 ((u2 * (10)) + ((v_10 - 48 : Int32).toInt64)) cs9 h
          exact hq.trans k9
        · skip
          replace h := (if_neg c_13).symm.trans h
          replace h := ob h; obtain ⟨v_14, hv_14, h⟩ := h
          replace h := ob h; obtain ⟨cs_15, hv_15, h⟩ := h
          replace hq := hq.trans (NB.wA hv_15)
          have k9 := nb_c_X10_scanNumber_b85 F (c_X10_scanNumber_L10 F lf_10) ih_10 cs_15 u0 u1 u2 cs9 h
          exact hq.trans k9
theorem nb_c_X10_scanNumber (F : Nat) (cs : CS) (x0 : Nat) (x1 : Int32) (cs9 : CS) (h : c_X10_scanNumber F cs x0 x1 = some cs9) : NB cs cs9 := by
  unfold c_X10_scanNumber at h
  have hq : NB cs cs := NB.refl
  replace h := ob h; obtain ⟨v_1, hv_1, h⟩ := h
  replace h := ob h; obtain ⟨cs_2, hv_2, h⟩ := h
  replace hq := hq.trans (NB.wA hv_2)
  have k9 := nb_c_X10_scanNumber_L10 F F cs_2 x0 x1 0 cs9 h
  exact hq.trans k9
theorem nb_c_X10_scanSign_b29 (F : Nat) (cs1 : CS) (u0 : Nat) (y0 : Int32) (cs9 : CS) (r9 : Int32) (h : c_X10_scanSign_b29 F cs1 u0 y0 = some (cs9, r9)) : NB cs1 cs9 := by
  unfold c_X10_scanSign_b29 at h
  have hq : NB cs1 cs1 := NB.refl
  replace h := ob h; obtain ⟨v_1, hv_1, h⟩ := h
  replace h := ob h; obtain ⟨cs_2, hv_2, h⟩ := h
  replace hq := hq.trans (NB.pI hv_2)
  replace h := ob h; obtain ⟨v_3, hv_3, h⟩ := h
  replace h := ob h; obtain ⟨w_5, hw_5, h⟩ := h
  replace h := ob h; obtain ⟨v_4, hv_4, h⟩ := h
  replace h := ob h; obtain ⟨v_6, hv_6, h⟩ := h
  by_cases c_7 : v_6 = y0
  · skip
    replace h := (if_pos c_7).symm.trans h
    have h9 := (Prod.mk.inj (Option.some.inj h)).1
    exact hq.to h9
  · skip
    replace h := (if_neg c_7).symm.trans h
    replace h := ob h; obtain ⟨v_8, hv_8, h⟩ := h
    replace h := ob h; obtain ⟨cs_9, hv_9, h⟩ := h
    replace hq := hq.trans (NB.pI hv_9)
    have h9 := (Prod.mk.inj (Option.some.inj h)).1
    exact hq.to h9
theorem nb_c_X10_scanSign_b15 (F : Nat) (cs1 : CS) (u0 : Nat) (y0 : Int32) (cs9 : CS) (r9 : Int32) (h : c_X10_scanSign_b15 F cs1 u0 y0 = some (cs9, r9)) : NB cs1 cs9 := by
  unfold c_X10_scanSign_b15 at h
  have hq : NB cs1 cs1 := NB.refl
  by_cases c_1 : 0 ≤ y0
  · skip
    replace h := (if_pos c_1).symm.trans h
    have k9 := nb_c_X10_scanSign_b29 F cs1 u0 (41 + y0) cs9 r9 h
    exact hq.trans k9
  · skip
    replace h := (if_neg c_1).symm.trans h
    have k9 := nb_c_X10_scanSign_b29 F cs1 u0 57 cs9 r9 h
    exact hq.trans k9
theorem nb_c_X10_scanSign (F : Nat) (cs : CS) (x0 : Nat) (x1 : Int32) (cs9 : CS) (r9 : Int32) (h : c_X10_scanSign F cs x0 x1 = some (cs9, r9)) : NB cs cs9 := by
  unfold c_X10_scanSign at h
  have hq : NB cs cs := NB.refl
  by_cases c_1 : 0 ≤ x1
  · skip
    replace h := (if_pos c_1).symm.trans h
    replace h := ob h; obtain ⟨v_2, hv_2, h⟩ := h
    have k9 := nb_c_X10_scanSign_b15 F cs x0 v_2 cs9 r9 h
    exact hq.trans k9
  · skip
    replace h := (if_neg c_1).symm.trans h
    have k9 := nb_c_X10_scanSign_b15 F cs x0 (-1) cs9 r9 h
    exact hq.trans k9
theorem nb_c_X10_scanToken_b79 (F : Nat) (cs1 : CS) (cs9 : CS) (h : c_X10_scanToken_b79 F cs1 = some cs9) : NB cs1 cs9 := by
  unfold c_X10_scanToken_b79 at h
  have hq : NB cs1 cs1 := NB.refl
  have h9 := Option.some.inj h
  exact hq.to h9
theorem nb_c_X10_scanToken (F : Nat) (cs : CS) (x0 : Nat) (x1 : Int32) (cs9 : CS) (h : c_X10_scanToken F cs x0 x1 = some cs9) : NB cs cs9 := by
  unfold c_X10_scanToken at h
  have hq : NB cs cs := NB.refl
  replace h := ob h; obtain ⟨v_1, hv_1, h⟩ := h
  replace h := ob h; obtain ⟨w_3, hw_3, h⟩ := h
  replace h := ob h; obtain ⟨v_2, hv_2, h⟩ := h
  replace h := ob h; obtain ⟨v_4, hv_4, h⟩ := h
  replace h := ob h; obtain ⟨cs_5, hv_5, h⟩ := h
  replace hq := hq.trans (NB.wB hv_5)
  replace h := ob h; obtain ⟨v_6, hv_6, h⟩ := h
  replace h := ob h; obtain ⟨v_7, hv_7, h⟩ := h
  by_cases c_8 : v_6 < v_7
  · skip
    replace h := (if_pos c_8).symm.trans h
    replace h := ob h; obtain ⟨v_9, hv_9, h⟩ := h
    by_cases c_10 : v_9 = 0
    · skip
      replace h := (if_pos c_10).symm.trans h
      replace h := ob h; obtain ⟨v_11, hv_11, h⟩ := h
      by_cases c_12 : v_11 = 0
      · skip
        replace h := (if_pos c_12).symm.trans h
        replace h := ob h; obtain ⟨v_13, hv_13, h⟩ := h
        replace h := ob h; obtain ⟨w_15, hw_15, h⟩ := h
        replace h := ob h; obtain ⟨z_14, hv_14, h⟩ := h
        replace hq := hq.trans (nb_c_X10_scanSign F cs_5 x0 v_2 z_14.1 z_14.2 hv_14)
        replace h := ob h; obtain ⟨cs_16, hv_16, h⟩ := h
        replace hq := hq.trans (NB.wA hv_16)
        have k9 := nb_c_X10_scanToken_b79 F cs_16 cs9 h
        exact hq.trans k9
      · skip
        replace h := (if_neg c_12).symm.trans h
        replace h := ob h; obtain ⟨w_18, hw_18, h⟩ := h
        replace h := ob h; obtain ⟨cs_17, hv_17, h⟩ := h
        replace hq := hq.trans (nb_c_X10_scanNumber F cs_5 x0 x1 cs_17 hv_17)
        have k9 := nb_c_X10_scanToken_b79 F cs_17 cs9 h
        exact hq.trans k9
    · skip
      replace h := (if_neg c_10).symm.trans h
      replace h := ob h; obtain ⟨w_20, hw_20, h⟩ := h
      replace h := ob h; obtain ⟨cs_19, hv_19, h⟩ := h
      replace hq := hq.trans (nb_c_X10_scanWord F cs_5 x0 x1 cs_19 hv_19)
      have k9 := nb_c_X10_scanToken_b79 F cs_19 cs9 h
      exact hq.trans k9
  · skip
    replace h := (if_neg c_8).symm.trans h
    replace h := ob h; obtain ⟨v_21, hv_21, h⟩ := h
    replace h := ob h; obtain ⟨cs_22, hv_22, h⟩ := h
    replace hq := hq.trans (NB.wA hv_22)
    have k9 := nb_c_X10_scanToken_b79 F cs_22 cs9 h
    exact hq.trans k9
theorem nb_c_X10_scan_b96 (F : Nat) (cs1 : CS) (cs9 : CS) (h : c_X10_scan_b96 F cs1 = some cs9) : NB cs1 cs9 := by
  unfold c_X10_scan_b96 at h
  have hq : NB cs1 cs1 := NB.refl
  have h9 := Option.some.inj h
  exact hq.to h9
theorem nb_c_X10_scan_b89 (F : Nat) (rc25 : CS → Nat → Int32 → Int32 → Option CS) (hrc25 : ∀ (cs1 : CS) (u0 : Nat) (u3 : Int32) (u4 : Int32) (cs9 : CS), rc25 cs1 u0 u3 u4 = some cs9 → NB cs1 cs9) (cs1 : CS) (u0 : Nat) (u4 : Int32) (y0 : Int32) (cs9 : CS) (h : c_X10_scan_b89 F rc25 cs1 u0 u4 y0 = some cs9) : NB cs1 cs9 := by
  unfold c_X10_scan_b89 at h
  have hq : NB cs1 cs1 := NB.refl
  have k9 := hrc25 cs1 u0 y0 (u4 + 1) cs9 h
  exact hq.trans k9
theorem nb_c_X10_scan_b88 (F : Nat) (rc25 : CS → Nat → Int32 → Int32 → Option CS) (hrc25 : ∀ (cs1 : CS) (u0 : Nat) (u3 : Int32) (u4 : Int32) (cs9 : CS), rc25 cs1 u0 u3 u4 = some cs9 → NB cs1 cs9) (cs1 : CS) (u0 : Nat) (u4 : Int32) (cs9 : CS) (h : c_X10_scan_b88 F rc25 cs1 u0 u4 = some cs9) : NB cs1 cs9 := by
  unfold c_X10_scan_b88 at h
  have hq : NB cs1 cs1 := NB.refl
  have k9 := nb_c_X10_scan_b89 F rc25 hrc25 cs1 u0 u4 0 cs9 h
  exact hq.trans k9
theorem nb_c_X10_scan_L25 (F : Nat) : ∀ (lf_25 : Nat) (cs1 : CS) (u0 : Nat) (u3 : Int32) (u4 : Int32) (cs9 : CS), c_X10_scan_L25 F lf_25 cs1 u0 u3 u4 = some cs9 → NB cs1 cs9 := by
  intro lf_25
  induction lf_25 with
  | zero => intro cs1 u0 u3 u4 cs9 h; cases (show (none : Option CS) = _ from h)
  | succ lf_25 ih_25 =>
    intro cs1 u0 u3 u4 cs9 h
    rw [c_X10_scan_L25] at h
    have hq : NB cs1 cs1 := NB.refl
    replace h := ob h; obtain ⟨v_1, hv_1, h⟩ := h
    replace h := ob h; obtain ⟨v_2, hv_2, h⟩ := h
    by_cases c_3 : v_2 ≤ u4
    · skip
      replace h := (if_pos c_3).symm.trans h
      have k9 := nb_c_X10_scan_b96 F cs1 cs9 h
      exact hq.trans k9
    · skip
      replace h := (if_neg c_3).symm.trans h
      by_cases c_4 : u3 = 0
      · skip
        replace h := (if_pos c_4).symm.trans h
        have k9 := nb_c_X10_scan_b96 F cs1 cs9 h
        exact hq.trans k9
      · skip
        replace h := (if_neg c_4).symm.trans h
        replace h := ob h; obtain ⟨w_6, hw_6, h⟩ := h
        replace h := ob h; obtain ⟨cs_5, hv_5, h⟩ := h
        replace hq := hq.trans (nb_c_X10_skipBlanks F cs1 u0 cs_5 hv_5)
        replace h := ob h; obtain ⟨v_7, hv_7, h⟩ := h
        replace h := ob h; obtain ⟨v_8, hv_8, h⟩ := h
        replace h := ob h; obtain ⟨cs_9, hv_9, h⟩ := h
        replace hq := hq.trans (NB.wA hv_9)
        replace h := ob h; obtain ⟨w_11, hw_11, h⟩ := h
        replace h := ob h; obtain ⟨cs_10, hv_10, h⟩ := h
        replace hq := hq.trans (nb_c_X10_scanToken F cs_9 u0 u4 cs_10 hv_10)
        replace h := ob h; obtain ⟨v_12, hv_12, h⟩ := h
        replace h := ob h; obtain ⟨v_13, hv_13, h⟩ := h
        by_cases c_14 : v_13 = 56
        · skip
          replace h := (if_pos c_14).symm.trans h
          have k9 := nb_c_X10_scan_b88 F (c_X10_scan_L25 F lf_25) ih_25 cs_10 u0 u4 cs9 h
          exact hq.trans k9
        · skip
          replace h := (if_neg c_14).symm.trans h
          replace h := ob h; obtain ⟨v_15, hv_15, h⟩ := h
          replace h := ob h; obtain ⟨v_16, hv_16, h⟩ := h
          by_cases c_17 : v_16 = 57
          · skip
            replace h := (if_pos c_17).symm.trans h
            have k9 := nb_c_X10_scan_b88 F (c_X10_scan_L25 F lf_25) ih_25 cs_10 u0 u4 cs9 h
            exact hq.trans k9
          · skip
            replace h := (if_neg c_17).symm.trans h
            have k9 := nb_c_X10_scan_b89 F (c_X10_scan_L25 F lf_25) ih_25 cs_10 u0 u4 1 cs9 h
            exact hq.trans k9
theorem nb_c_X11_tellChanges_b189 (F : Nat) (rc15 : CS → Nat → Nat → Int32 → Nat → Int32 → Int32 → Int32 → Int32 → Int32 → Option CS) (hrc15 : ∀ (cs1 : CS) (u0 : Nat) (u1 : Nat) (u2 : Int32) (u3 : Nat) (u4 : Int32) (u5 : Int32) (u6 : Int32) (u7 : Int32) (u9 : Int32) (cs9 : CS), rc15 cs1 u0 u1 u2 u3 u4 u5 u6 u7 u9 = some cs9 → NB cs1 cs9) (cs1 : CS) (u0 : Nat) (u1 : Nat) (u2 : Int32) (u3 : Nat) (u4 : Int32) (u5 : Int32) (u6 : Int32) (u7 : Int32) (u8 : Int32) (u9 : Int32) (cs9 : CS) (h : c_X11_tellChanges_b189 F rc15 cs1 u0 u1 u2 u3 u4 u5 u6 u7 u8 u9 = some cs9) : NB cs1 cs9 := by
  unfold c_X11_tellChanges_b189 at h
  have hq : NB cs1 cs1 := NB.refl
  have k9 := hrc15 cs1 u0 u1 u2 u3 u4 u5 u6 u7 (u9 + (if u8 < 1 then 1 else u8)) cs9 h
  exact hq.trans k9
theorem nb_c_X11_tellChanges_b122 (F : Nat) (rc15 : CS → Nat → Nat → Int32 → Nat → Int32 → Int32 → Int32 → Int32 → Int32 → Option CS) (hrc15 : ∀ (cs1 : CS) (u0 : Nat) (u1 : Nat) (u2 : Int32) (u3 : Nat) (u4 : Int32) (u5 : Int32) (u6 : Int32) (u7 : Int32) (u9 : Int32) (cs9 : CS), rc15 cs1 u0 u1 u2 u3 u4 u5 u6 u7 u9 = some cs9 → NB cs1 cs9) (cs1 : CS) (u0 : Nat) (u1 : Nat) (u2 : Int32) (u3 : Nat) (u4 : Int32) (u5 : Int32) (u6 : Int32) (u7 : Int32) (u8 : Int32) (u9 : Int32) (y0 : Int32) (y1 : Int32) (cs9 : CS) (h : c_X11_tellChanges_b122 F rc15 cs1 u0 u1 u2 u3 u4 u5 u6 u7 u8 u9 y0 y1 = some cs9) : NB cs1 cs9 := by
  unfold c_X11_tellChanges_b122 at h
  have hq : NB cs1 cs1 := NB.refl
  by_cases c_1 : (y1 - y0) ≤ 0
  · skip
    replace h := (if_pos c_1).symm.trans h
    have k9 := nb_c_X11_tellChanges_b189 F rc15 hrc15 cs1 u0 u1 u2 u3 u4 u5 u6 u7 u8 u9 cs9 h
    exact hq.trans k9
  · skip
    replace h := (if_neg c_1).symm.trans h
    replace h := ob h; obtain ⟨v_2, hv_2, h⟩ := h
    replace h := ob h; obtain ⟨v_3, hv_3, h⟩ := h
    replace h := ob h; obtain ⟨v_4, hv_4, h⟩ := h
    by_cases c_5 : v_4 ≤ v_2
    · skip
      replace h := (if_pos c_5).symm.trans h
      have k9 := nb_c_X11_tellChanges_b189 F rc15 hrc15 cs1 u0 u1 u2 u3 u4 u5 u6 u7 u8 u9 cs9 h
      exact hq.trans k9
    · skip
      replace h := (if_neg c_5).symm.trans h
      replace h := ob h; obtain ⟨v_6, hv_6, h⟩ := h
      replace h := ob h; obtain ⟨v_7, hv_7, h⟩ := h
      replace h := ob h; obtain ⟨v_8, hv_8, h⟩ := h
      by_cases c_9 : v_8 ≤ v_6
      · skip
        replace h := (if_pos c_9).symm.trans h
        have k9 := nb_c_X11_tellChanges_b189 F rc15 hrc15 cs1 u0 u1 u2 u3 u4 u5 u6 u7 u8 u9 cs9 h
        exact hq.trans k9
      · skip
        replace h := (if_neg c_9).symm.trans h
        replace h := ob h; obtain ⟨v_10, hv_10, h⟩ := h
        replace h := ob h; obtain ⟨v_11, hv_11, h⟩ := h
        replace h := ob h; obtain ⟨cs_12, hv_12, h⟩ := h
        replace hq := hq.trans (NB.wA hv_12)
        replace h := ob h; obtain ⟨v_13, hv_13, h⟩ := h
        replace h := ob h; obtain ⟨v_14, hv_14, h⟩ := h
        replace h := ob h; obtain ⟨cs_15, hv_15, h⟩ := h
        replace hq := hq.trans (NB.wA hv_15)
        replace h := ob h; obtain ⟨v_16, hv_16, h⟩ := h
        replace h := ob h; obtain ⟨cs_17, hv_17, h⟩ := h
        replace hq := hq.trans (NB.pI hv_17)
        have k9 := nb_c_X11_tellChanges_b189 F rc15 hrc15 cs_17 u0 u1 u2 u3 u4 u5 u6 u7 u8 u9 cs9 h
        exact hq.trans k9
theorem nb_c_X11_tellChanges_b99 (F : Nat) (rc15 : CS → Nat → Nat → Int32 → Nat → Int32 → Int32 → Int32 → Int32 → Int32 → Option CS) (hrc15 : ∀ (cs1 : CS) (u0 : Nat) (u1 : Nat) (u2 : Int32) (u3 : Nat) (u4 : Int32) (u5 : Int32) (u6 : Int32) (u7 : Int32) (u9 : Int32) (cs9 : CS), rc15 cs1 u0 u1 u2 u3 u4 u5 u6 u7 u9 = some cs9 → NB cs1 cs9) (cs1 : CS) (u0 : Nat) (u1 : Nat) (u2 : Int32) (u3 : Nat) (u4 : Int32) (u5 : Int32) (u6 : Int32) (u7 : Int32) (u8 : Int32) (u9 : Int32) (y0 : Int32) (cs9 : CS) (h : c_X11_tellChanges_b99 F rc15 cs1 u0 u1 u2 u3 u4 u5 u6 u7 u8 u9 y0 = some cs9) : NB cs1 cs9 := by
  unfold c_X11_tellChanges_b99 at h
  have hq : NB cs1 cs1 := NB.refl
  by_cases c_1 : y0 = 0
  · skip
    replace h := (if_pos c_1).symm.trans h
    have k9 := nb_c_X11_tellChanges_b122 F rc15 hrc15 cs1 u0 u1 u2 u3 u4 u5 u6 u7 u8 u9 0 u8 cs9 h
    exact hq.trans k9
  · skip
    replace h := (if_neg c_1).symm.trans h
    replace h := ob h; obtain ⟨w_3, hw_3, h⟩ := h
    replace h := ob h; obtain ⟨v_2, hv_2, h⟩ := h
    have k9 := nb_c_X11_tellChanges_b122 F rc15 hrc15 cs1 u0 u1 u2 u3 u4 u5 u6 u7 u8 u9 v_2 u8 cs9 h
    exact hq.trans k9
theorem nb_c_X11_tellChanges_b98 (F : Nat) (rc15 : CS → Nat → Nat → Int32 → Nat → Int32 → Int32 → Int32 → Int32 → Int32 → Option CS) (hrc15 : ∀ (cs1 : CS) (u0 : Nat) (u1 : Nat) (u2 : Int32) (u3 : Nat) (u4 : Int32) (u5 : Int32) (u6 : Int32) (u7 : Int32) (u9 : Int32) (cs9 : CS), rc15 cs1 u0 u1 u2 u3 u4 u5 u6 u7 u9 = some cs9 → NB cs1 cs9) (cs1 : CS) (u0 : Nat) (u1 : Nat) (u2 : Int32) (u3 : Nat) (u4 : Int32) (u5 : Int32) (u6 : Int32) (u7 : Int32) (u8 : Int32) (u9 : Int32) (cs9 : CS) (h : c_X11_tellChanges_b98 F rc15 cs1 u0 u1 u2 u3 u4 u5 u6 u7 u8 u9 = some cs9) : NB cs1 cs9 := by
  unfold c_X11_tellChanges_b98 at h
  have hq : NB cs1 cs1 := NB.refl
  have k9 := nb_c_X11_tellChanges_b99 F rc15 hrc15 cs1 u0 u1 u2 u3 u4 u5 u6 u7 u8 u9 0 cs9 h
  exact hq.trans k9
theorem nb_c_X11_tellChanges_b66 (F : Nat) (rc15 : CS → Nat → Nat → Int32 → Nat → Int32 → Int32 → Int32 → Int32 → Int32 → Option CS) (hrc15 : ∀ (cs1 : CS) (u0 : Nat) (u1 : Nat) (u2 : Int32) (u3 : Nat) (u4 : Int32) (u5 : Int32) (u6 : Int32) (u7 : Int32) (u9 : Int32) (cs9 : CS), rc15 cs1 u0 u1 u2 u3 u4 u5 u6 u7 u9 = some cs9 → NB cs1 cs9) (cs1 : CS) (u0 : Nat) (u1 : Nat) (u2 : Int32) (u3 : Nat) (u4 : Int32) (u5 : Int32) (u6 : Int32) (u7 : Int32) (u8 : Int32) (u9 : Int32) (cs9 : CS) (h : c_X11_tellChanges_b66 F rc15 cs1 u0 u1 u2 u3 u4 u5 u6 u7 u8 u9 = some cs9) : NB cs1 cs9 := by
  unfold c_X11_tellChanges_b66 at h
  have hq : NB cs1 cs1 := NB.refl
  by_cases c_1 : u4 ≤ u7
  · skip
    replace h := (if_pos c_1).symm.trans h
    have k9 := nb_c_X11_tellChanges_b98 F rc15 hrc15 cs1 u0 u1 u2 u3 u4 u5 u6 u7 u8 u9 cs9 h
    exact hq.trans k9
  · skip
    replace h := (if_neg c_1).symm.trans h
    replace h := ob h; obtain ⟨w_3, hw_3, h⟩ := h
    replace h := ob h; obtain ⟨v_2, hv_2, h⟩ := h
    by_cases c_4 : v_2 = 0
    · skip
      replace h := (if_pos c_4).symm.trans h
      have k9 := nb_c_X11_tellChanges_b99 F rc15 hrc15 cs1 u0 u1 u2 u3 u4 u5 u6 u7 u8 u9 1 cs9 h
      exact hq.trans k9
    · skip
      replace h := (if_neg c_4).symm.trans h
      have k9 := nb_c_X11_tellChanges_b98 F rc15 hrc15 cs1 u0 u1 u2 u3 u4 u5 u6 u7 u8 u9 cs9 h
      exact hq.trans k9
theorem nb_c_X11_tellChanges_L32 (F : Nat) (rc15 : CS → Nat → Nat → Int32 → Nat → Int32 → Int32 → Int32 → Int32 → Int32 → Option CS) (hrc15 : ∀ (cs1 : CS) (u0 : Nat) (u1 : Nat) (u2 : Int32) (u3 : Nat) (u4 : Int32) (u5 : Int32) (u6 : Int32) (u7 : Int32) (u9 : Int32) (cs9 : CS), rc15 cs1 u0 u1 u2 u3 u4 u5 u6 u7 u9 = some cs9 → NB cs1 cs9) : ∀ (lf_32 : Nat) (cs1 : CS) (u0 : Nat) (u1 : Nat) (u2 : Int32) (u3 : Nat) (u4 : Int32) (u5 : Int32) (u6 : Int32) (u7 : Int32) (u8 : Int32) (u9 : Int32) (cs9 : CS), c_X11_tellChanges_L32 F rc15 lf_32 cs1 u0 u1 u2 u3 u4 u5 u6 u7 u8 u9 = some cs9 → NB cs1 cs9 := by
  intro lf_32
  induction lf_32 with
  | zero => intro cs1 u0 u1 u2 u3 u4 u5 u6 u7 u8 u9 cs9 h; cases (show (none : Option CS) = _ from h)
  | succ lf_32 ih_32 =>
    intro cs1 u0 u1 u2 u3 u4 u5 u6 u7 u8 u9 cs9 h
    rw [c_X11_tellChanges_L32] at h
    have hq : NB cs1 cs1 := NB.refl
    by_cases c_1 : u4 ≤ u7
    · skip
      replace h := (if_pos c_1).symm.trans h
      have k9 := nb_c_X11_tellChanges_b66 F rc15 hrc15 cs1 u0 u1 u2 u3 u4 u5 u6 u7 u8 u9 cs9 h
      exact hq.trans k9
    · skip
      replace h := (if_neg c_1).symm.trans h
      replace h := ob h; obtain ⟨w_3, hw_3, h⟩ := h
      replace h := ob h; obtain ⟨v_2, hv_2, h⟩ := h
      by_cases c_4 : 0 ≤ v_2
      · skip
        replace h := (if_pos c_4).symm.trans h
        have k9 := nb_c_X11_tellChanges_b66 F rc15 hrc15 cs1 u0 u1 u2 u3 u4 u5 u6 u7 u8 u9 cs9 h
        exact hq.trans k9
      · skip
        replace h := (if_neg c_4).symm.trans h
        have k9 := ih_32 cs1 u0 u1 u2 u3 u4 u5 u6 (u7 + 1) u8 u9 cs9 h
        exact hq.trans k9
theorem nb_c_X11_tellChanges_L15 (F : Nat) : ∀ (lf_15 : Nat) (cs1 : CS) (u0 : Nat) (u1 : Nat) (u2 : Int32) (u3 : Nat) (u4 : Int32) (u5 : Int32) (u6 : Int32) (u7 : Int32) (u9 : Int32) (cs9 : CS), c_X11_tellChanges_L15 F lf_15 cs1 u0 u1 u2 u3 u4 u5 u6 u7 u9 = some cs9 → NB cs1 cs9 := by
  intro lf_15
  induction lf_15 with
  | zero => intro cs1 u0 u1 u2 u3 u4 u5 u6 u7 u9 cs9 h; cases (show (none : Option CS) = _ from h)
  | succ lf_15 ih_15 =>
    intro cs1 u0 u1 u2 u3 u4 u5 u6 u7 u9 cs9 h
    rw [c_X11_tellChanges_L15] at h
    have hq : NB cs1 cs1 := NB.refl
    by_cases c_1 : u2 ≤ u9
    · skip
      replace h := (if_pos c_1).symm.trans h
      have h9 := Option.some.inj h
      exact hq.to h9
    · skip
      replace h := (if_neg c_1).symm.trans h
      replace h := ob h; obtain ⟨w_3, hw_3, h⟩ := h
      replace h := ob h; obtain ⟨v_2, hv_2, h⟩ := h
      have k9 := nb_c_X11_tellChanges_L32 F (c_X11_tellChanges_L15 F lf_15) ih_15 F cs1 u0 u1 u2 u3 u4 u5 u6 u7 v_2 u9 cs9 h
      exact hq.trans k9
theorem nb_c_X11_tellChanges (F : Nat) (cs : CS) (x0 : Nat) (x1 : Nat) (x2 : Int32) (x3 : Nat) (x4 : Int32) (x5 : Int32) (cs9 : CS) (h : c_X11_tellChanges F cs x0 x1 x2 x3 x4 x5 = some cs9) : NB cs cs9 := by
  unfold c_X11_tellChanges at h
  have hq : NB cs cs := NB.refl
  replace h := ob h; obtain ⟨w_2, hw_2, h⟩ := h
  replace h := ob h; obtain ⟨v_1, hv_1, h⟩ := h
  have k9 := nb_c_X11_tellChanges_L15 F F cs x0 x1 x2 x3 x4 x5 v_1 0 0 cs9 h
  exact hq.trans k9
theorem nb_c_X8_mergeRuns_b170 (F : Nat) (rc6 : CS → Nat → Int32 → Int32 → Int32 → Int32 → Int32 → Int32 → Option CS) (hrc6 : ∀ (cs1 : CS) (u0 : Nat) (u1 : Int32) (u2 : Int32) (u3 : Int32) (u4 : Int32) (u5 : Int32) (u6 : Int32) (cs9 : CS), rc6 cs1 u0 u1 u2 u3 u4 u5 u6 = some cs9 → NB cs1 cs9) (cs1 : CS) (u0 : Nat) (u1 : Int32) (u2 : Int32) (u3 : Int32) (u4 : Int32) (u5 : Int32) (u6 : Int32) (cs9 : CS) (h : c_X8_mergeRuns_b170 F rc6 cs1 u0 u1 u2 u3 u4 u5 u6 = some cs9) : NB cs1 cs9 := by
  unfold c_X8_mergeRuns_b170 at h
  have hq : NB cs1 cs1 := NB.refl
  have k9 := hrc6 cs1 u0 u1 u2 u3 u4 u5 (u6 + (2 * u1)) cs9 h
  exact hq.trans k9
theorem nb_c_X8_mergeRuns_b161 (F : Nat) (rc6 : CS → Nat → Int32 → Int32 → Int32 → Int32 → Int32 → Int32 → Option CS) (hrc6 : ∀ (cs1 : CS) (u0 : Nat) (u1 : Int32) (u2 : Int32) (u3 : Int32) (u4 : Int32) (u5 : Int32) (u6 : Int32) (cs9 : CS), rc6 cs1 u0 u1 u2 u3 u4 u5 u6 = some cs9 → NB cs1 cs9) (rc42 : CS → Nat → Int32 → Int32 → Int32 → Int32 → Int32 → Int32 → Int32 → Int32 → Int32 → Int32 → Option CS) (hrc42 : ∀ (cs1 : CS) (u0 : Nat) (u1 : Int32) (u2 : Int32) (u3 : Int32) (u4 : Int32) (u5 : Int32) (u6 : Int32) (u7 : Int32) (u8 : Int32) (u9 : Int32) (u10 : Int32) (cs9 : CS), rc42 cs1 u0 u1 u2 u3 u4 u5 u6 u7 u8 u9 u10 = some cs9 → NB cs1 cs9) (cs1 : CS) (u0 : Nat) (u1 : Int32) (u2 : Int32) (u3 : Int32) (u4 : Int32) (u5 : Int32) (u6 : Int32) (u7 : Int32) (u8 : Int32) (u10 : Int32) (y0 : Int32) (y1 : Int32) (cs9 : CS) (h : c_X8_mergeRuns_b161 F rc6 rc42 cs1 u0 u1 u2 u3 u4 u5 u6 u7 u8 u10 y0 y1 = some cs9) : NB cs1 cs9 := by
  unfold c_X8_mergeRuns_b161 at h
  have hq : NB cs1 cs1 := NB.refl
  have k9 := hrc42 cs1 u0 u1 u2 u3 u4 (u5 + 1) u6 u7 u8 (y1 + y0) u10 cs9 h
  exact hq.trans k9
theorem nb_c_X8_mergeRuns_b146 (F : Nat) (rc6 : CS → Nat → Int32 → Int32 → Int32 → Int32 → Int32 → Int32 → Option CS) (hrc6 : ∀ (cs1 : CS) (u0 : Nat) (u1 : Int32) (u2 : Int32) (u3 : Int32) (u4 : Int32) (u5 : Int32) (u6 : Int32) (cs9 : CS), rc6 cs1 u0 u1 u2 u3 u4 u5 u6 = some cs9 → NB cs1 cs9) (rc42 : CS → Nat → Int32 → Int32 → Int32 → Int32 → Int32 → Int32 → Int32 → Int32 → Int32 → Int32 → Option CS) (hrc42 : ∀ (cs1 : CS) (u0 : Nat) (u1 : Int32) (u2 : Int32) (u3 : Int32) (u4 : Int32) (u5 : Int32) (u6 : Int32) (u7 : Int32) (u8 : Int32) (u9 : Int32) (u10 : Int32) (cs9 : CS), rc42 cs1 u0 u1 u2 u3 u4 u5 u6 u7 u8 u9 u10 = some cs9 → NB cs1 cs9) (cs1 : CS) (u0 : Nat) (u1 : Int32) (u2 : Int32) (u3 : Int32) (u4 : Int32) (u5 : Int32) (u6 : Int32) (u7 : Int32) (u8 : Int32) (u9 : Int32) (u11 : Int32) (y0 : Int32) (y1 : Int32) (cs9 : CS) (h : c_X8_mergeRuns_b146 F rc6 rc42 cs1 u0 u1 u2 u3 u4 u5 u6 u7 u8 u9 u11 y0 y1 = some cs9) : NB cs1 cs9 := by
  unfold c_X8_mergeRuns_b146 at h
  have hq : NB cs1 cs1 := NB.refl
  by_cases c_1 : u11 = 0
  · skip
    replace h := (if_pos c_1).symm.trans h
    have k9 := nb_c_X8_mergeRuns_b161 F rc6 hrc6 rc42 hrc42 cs1 u0 u1 u2 u3 u4 u5 u6 u7 u8 (y1 + y0) 1 u9 cs9 h
    exact hq.trans k9
  · skip
    replace h := (if_neg c_1).symm.trans h
    have k9 := nb_c_X8_mergeRuns_b161 F rc6 hrc6 rc42 hrc42 cs1 u0 u1 u2 u3 u4 u5 u6 u7 u8 (y1 + y0) 0 u9 cs9 h
    exact hq.trans k9
theorem nb_c_X8_mergeRuns_b133 (F : Nat) (rc6 : CS → Nat → Int32 → Int32 → Int32 → Int32 → Int32 → Int32 → Option CS) (hrc6 : ∀ (cs1 : CS) (u0 : Nat) (u1 : Int32) (u2 : Int32) (u3 : Int32) (u4 : Int32) (u5 : Int32) (u6 : Int32) (cs9 : CS), rc6 cs1 u0 u1 u2 u3 u4 u5 u6 = some cs9 → NB cs1 cs9) (rc42 : CS → Nat → Int32 → Int32 → Int32 → Int32 → Int32 → Int32 → Int32 → Int32 → Int32 → Int32 → Option CS) (hrc42 : ∀ (cs1 : CS) (u0 : Nat) (u1 : Int32) (u2 : Int32) (u3 : Int32) (u4 : Int32) (u5 : Int32) (u6 : Int32) (u7 : Int32) (u8 : Int32) (u9 : Int32) (u10 : Int32) (cs9 : CS), rc42 cs1 u0 u1 u2 u3 u4 u5 u6 u7 u8 u9 u10 = some cs9 → NB cs1 cs9) (cs1 : CS) (u0 : Nat) (u1 : Int32) (u2 : Int32) (u3 : Int32) (u4 : Int32) (u5 : Int32) (u6 : Int32) (u7 : Int32) (u8 : Int32) (u9 : Int32) (u10 : Int32) (u11 : Int32) (y0 : Int32) (y1 : Int32) (y2 : Nat) (wy2 : Nat) (cs9 : CS) (h : c_X8_mergeRuns_b133 F rc6 rc42 cs1 u0 u1 u2 u3 u4 u5 u6 u7 u8 u9 u10 u11 y0 y1 y2 wy2 = some cs9) : NB cs1 cs9 := by
  unfold c_X8_mergeRuns_b133 at h
  have hq : NB cs1 cs1 := NB.refl
  replace h := ob h; obtain ⟨cs_1, hv_1, h⟩ := h
  replace hq := hq.trans (NB.wA hv_1)
  by_cases c_2 : u11 = 0
  · skip
    replace h := (if_pos c_2).symm.trans h
    have k9 := nb_c_X8_mergeRuns_b146 F rc6 hrc6 rc42 hrc42 cs_1 u0 u1 u2 u3 u4 u5 u6 u7 u8 u9 u11 0 u10 cs9 h
    exact hq.trans k9
  · skip
    replace h := (if_neg c_2).symm.trans h
    have k9 := nb_c_X8_mergeRuns_b146 F rc6 hrc6 rc42 hrc42 cs_1 u0 u1 u2 u3 u4 u5 u6 u7 u8 u9 u11 1 u10 cs9 h
    exact hq.trans k9
theorem nb_c_X8_mergeRuns_b103 (F : Nat) (rc6 : CS → Nat → Int32 → Int32 → Int32 → Int32 → Int32 → Int32 → Option CS) (hrc6 : ∀ (cs1 : CS) (u0 : Nat) (u1 : Int32) (u2 : Int32) (u3 : Int32) (u4 : Int32) (u5 : Int32) (u6 : Int32) (cs9 : CS), rc6 cs1 u0 u1 u2 u3 u4 u5 u6 = some cs9 → NB cs1 cs9) (rc42 : CS → Nat → Int32 → Int32 → Int32 → Int32 → Int32 → Int32 → Int32 → Int32 → Int32 → Int32 → Option CS) (hrc42 : ∀ (cs1 : CS) (u0 : Nat) (u1 : Int32) (u2 : Int32) (u3 : Int32) (u4 : Int32) (u5 : Int32) (u6 : Int32) (u7 : Int32) (u8 : Int32) (u9 : Int32) (u10 : Int32) (cs9 : CS), rc42 cs1 u0 u1 u2 u3 u4 u5 u6 u7 u8 u9 u10 = some cs9 → NB cs1 cs9) (cs1 : CS) (u0 : Nat) (u1 : Int32) (u2 : Int32) (u3 : Int32) (u4 : Int32) (u5 : Int32) (u6 : Int32) (u7 : Int32) (u8 : Int32) (u9 : Int32) (u10 : Int32) (y0 : Int32) (cs9 : CS) (h : c_X8_mergeRuns_b103 F rc6 rc42 cs1 u0 u1 u2 u3 u4 u5 u6 u7 u8 u9 u10 y0 = some cs9) : NB cs1 cs9 := by
  unfold c_X8_mergeRuns_b103 at h
  have hq : NB cs1 cs1 := NB.refl
  replace h := ob h; obtain ⟨v_1, hv_1, h⟩ := h
  by_cases c_2 : y0 = 0
  · skip
    replace h := (if_pos c_2).symm.trans h
    replace h := ob h; obtain ⟨v_3, hv_3, h⟩ := h
    replace h := ob h; obtain ⟨v_4, hv_4, h⟩ := h
    have k9 := nb_c_X8_mergeRuns_b133 F rc6 hrc6 rc42 hrc42 cs1 u0 u1 u2 u3 u4 u5 u6 u7 u8 u9 u10 y0 v_4 u5 u0 v_1 cs9 h
    exact hq.trans k9
  · skip
    replace h := (if_neg c_2).symm.trans h
    replace h := ob h; obtain ⟨v_5, hv_5, h⟩ := h
    replace h := ob h; obtain ⟨v_6, hv_6, h⟩ := h
    have k9 := nb_c_X8_mergeRuns_b133 F rc6 hrc6 rc42 hrc42 cs1 u0 u1 u2 u3 u4 u5 u6 u7 u8 u9 u10 y0 v_6 u5 u0 v_1 cs9 h
    exact hq.trans k9
theorem nb_c_X8_mergeRuns_b98 (F : Nat) (rc6 : CS → Nat → Int32 → Int32 → Int32 → Int32 → Int32 → Int32 → Option CS) (hrc6 : ∀ (cs1 : CS) (u0 : Nat) (u1 : Int32) (u2 : Int32) (u3 : Int32) (u4 : Int32) (u5 : Int32) (u6 : Int32) (cs9 : CS), rc6 cs1 u0 u1 u2 u3 u4 u5 u6 = some cs9 → NB cs1 cs9) (rc42 : CS → Nat → Int32 → Int32 → Int32 → Int32 → Int32 → Int32 → Int32 → Int32 → Int32 → Int32 → Option CS) (hrc42 : ∀ (cs1 : CS) (u0 : Nat) (u1 : Int32) (u2 : Int32) (u3 : Int32) (u4 : Int32) (u5 : Int32) (u6 : Int32) (u7 : Int32) (u8 : Int32) (u9 : Int32) (u10 : Int32) (cs9 : CS), rc42 cs1 u0 u1 u2 u3 u4 u5 u6 u7 u8 u9 u10 = some cs9 → NB cs1 cs9) (cs1 : CS) (u0 : Nat) (u1 : Int32) (u2 : Int32) (u3 : Int32) (u4 : Int32) (u5 : Int32) (u6 : Int32) (u7 : Int32) (u8 : Int32) (u9 : Int32) (u10 : Int32) (cs9 : CS) (h : c_X8_mergeRuns_b98 F rc6 rc42 cs1 u0 u1 u2 u3 u4 u5 u6 u7 u8 u9 u10 = some cs9) : NB cs1 cs9 := by
  unfold c_X8_mergeRuns_b98 at h
  have hq : NB cs1 cs1 := NB.refl
  have k9 := nb_c_X8_mergeRuns_b103 F rc6 hrc6 rc42 hrc42 cs1 u0 u1 u2 u3 u4 u5 u6 u7 u8 u9 u10 1 cs9 h
  exact hq.trans k9
theorem nb_c_X8_mergeRuns_b102 (F : Nat) (rc6 : CS → Nat → Int32 → Int32 → Int32 → Int32 → Int32 → Int32 → Option CS) (hrc6 : ∀ (cs1 : CS) (u0 : Nat) (u1 : Int32) (u2 : Int32) (u3 : Int32) (u4 : Int32) (u5 : Int32) (u6 : Int32) (cs9 : CS), rc6 cs1 u0 u1 u2 u3 u4 u5 u6 = some cs9 → NB cs1 cs9) (rc42 : CS → Nat → Int32 → Int32 → Int32 → Int32 → Int32 → Int32 → Int32 → Int32 → Int32 → Int32 → Option CS) (hrc42 : ∀ (cs1 : CS) (u0 : Nat) (u1 : Int32) (u2 : Int32) (u3 : Int32) (u4 : Int32) (u5 : Int32) (u6 : Int32) (u7 : Int32) (u8 : Int32) (u9 : Int32) (u10 : Int32) (cs9 : CS), rc42 cs1 u0 u1 u2 u3 u4 u5 u6 u7 u8 u9 u10 = some cs9 → NB cs1 cs9) (cs1 : CS) (u0 : Nat) (u1 : Int32) (u2 : Int32) (u3 : Int32) (u4 : Int32) (u5 : Int32) (u6 : Int32) (u7 : Int32) (u8 : Int32) (u9 : Int32) (u10 : Int32) (cs9 : CS) (h : c_X8_mergeRuns_b102 F rc6 rc42 cs1 u0 u1 u2 u3 u4 u5 u6 u7 u8 u9 u10 = some cs9) : NB cs1 cs9 := by
  unfold c_X8_mergeRuns_b102 at h
  have hq : NB cs1 cs1 := NB.refl
  have k9 := nb_c_X8_mergeRuns_b103 F rc6 hrc6 rc42 hrc42 cs1 u0 u1 u2 u3 u4 u5 u6 u7 u8 u9 u10 0 cs9 h
  exact hq.trans k9
theorem nb_c_X8_mergeRuns_L42 (F : Nat) (rc6 : CS → Nat → Int32 → Int32 → Int32 → Int32 → Int32 → Int32 → Option CS) (hrc6 : ∀ (cs1 : CS) (u0 : Nat) (u1 : Int32) (u2 : Int32) (u3 : Int32) (u4 : Int32) (u5 : Int32) (u6 : Int32) (cs9 : CS), rc6 cs1 u0 u1 u2 u3 u4 u5 u6 = some cs9 → NB cs1 cs9) : ∀ (lf_42 : Nat) (cs1 : CS) (u0 : Nat) (u1 : Int32) (u2 : Int32) (u3 : Int32) (u4 : Int32) (u5 : Int32) (u6 : Int32) (u7 : Int32) (u8 : Int32) (u9 : Int32) (u10 : Int32) (cs9 : CS), c_X8_mergeRuns_L42 F rc6 lf_42 cs1 u0 u1 u2 u3 u4 u5 u6 u7 u8 u9 u10 = some cs9 → NB cs1 cs9 := by
  intro lf_42
  induction lf_42 with
  | zero => intro cs1 u0 u1 u2 u3 u4 u5 u6 u7 u8 u9 u10 cs9 h; cases (show (none : Option CS) = _ from h)
  | succ lf_42 ih_42 =>
    intro cs1 u0 u1 u2 u3 u4 u5 u6 u7 u8 u9 u10 cs9 h
    rw [c_X8_mergeRuns_L42] at h
    have hq : NB cs1 cs1 := NB.refl
    by_cases c_1 : u8 ≤ u5
    · skip
      replace h := (if_pos c_1).symm.trans h
      have k9 := nb_c_X8_mergeRuns_b170 F rc6 hrc6 cs1 u0 u1 u2 u3 u4 u5 u6 cs9 h
      exact hq.trans k9
    · skip
      replace h := (if_neg c_1).symm.trans h
      replace h := ob h; obtain ⟨v_2, hv_2, h⟩ := h
      replace h := ob h; obtain ⟨v_3, hv_3, h⟩ := h
      by_cases c_4 : v_3 ≤ u5
      · skip
        replace h := (if_pos c_4).symm.trans h
        have k9 := nb_c_X8_mergeRuns_b170 F rc6 hrc6 cs1 u0 u1 u2 u3 u4 u5 u6 cs9 h
        exact hq.trans k9
      · skip
        replace h := (if_neg c_4).symm.trans h
        by_cases c_5 : u7 ≤ u9
        · skip
          replace h := (if_pos c_5).symm.trans h
          have k9 := nb_c_X8_mergeRuns_b98 F rc6 hrc6 (c_X8_mergeRuns_L42 F rc6 lf_42) ih_42 cs1 u0 u1 u2 u3 u4 u5 u6 u7 u8 u9 u10 cs9 h
          exact hq.trans k9
        · skip
          replace h := (if_neg c_5).symm.trans h
          by_cases c_6 : u8 ≤ u10
          · skip
            replace h := (if_pos c_6).symm.trans h
            have k9 := nb_c_X8_mergeRuns_b102 F rc6 hrc6 (c_X8_mergeRuns_L42 F rc6 lf_42) ih_42 cs1 u0 u1 u2 u3 u4 u5 u6 u7 u8 u9 u10 cs9 h
            exact hq.trans k9
          · skip
            replace h := (if_neg c_6).symm.trans h
            replace h := ob h; obtain ⟨v_7, hv_7, h⟩ := h
            replace h := ob h; obtain ⟨v_8, hv_8, h⟩ := h
            replace h := ob h; obtain ⟨v_9, hv_9, h⟩ := h
            replace h := ob h; obtain ⟨v_10, hv_10, h⟩ := h
            replace h := ob h; obtain ⟨w_12, hw_12, h⟩ := h
            replace h := ob h; obtain ⟨v_11, hv_11, h⟩ := h
            by_cases c_13 : 0 ≤ v_11
            · skip
              replace h := (if_pos c_13).symm.trans h
              have k9 := nb_c_X8_mergeRuns_b102 F rc6 hrc6 (c_X8_mergeRuns_L42 F rc6 lf_42) ih_42 cs1 u0 u1 u2 u3 u4 u5 u6 u7 u8 u9 u10 cs9 h
              exact hq.trans k9
            · skip
              replace h := (if_neg c_13).symm.trans h
              have k9 := nb_c_X8_mergeRuns_b98 F rc6 hrc6 (c_X8_mergeRuns_L42 F rc6 lf_42) ih_42 cs1 u0 u1 u2 u3 u4 u5 u6 u7 u8 u9 u10 cs9 h
              exact hq.trans k9
theorem nb_c_X8_mergeRuns_L6 (F : Nat) : ∀ (lf_6 : Nat) (cs1 : CS) (u0 : Nat) (u1 : Int32) (u2 : Int32) (u3 : Int32) (u4 : Int32) (u5 : Int32) (u6 : Int32) (cs9 : CS), c_X8_mergeRuns_L6 F lf_6 cs1 u0 u1 u2 u3 u4 u5 u6 = some cs9 → NB cs1 cs9 := by
  intro lf_6
  induction lf_6 with
  | zero => intro cs1 u0 u1 u2 u3 u4 u5 u6 cs9 h; cases (show (none : Option CS) = _ from h)
  | succ lf_6 ih_6 =>
    intro cs1 u0 u1 u2 u3 u4 u5 u6 cs9 h
    rw [c_X8_mergeRuns_L6] at h
    have hq : NB cs1 cs1 := NB.refl
    by_cases c_1 : u2 ≤ u6
    · skip
      replace h := (if_pos c_1).symm.trans h
      replace h := ob h; obtain ⟨v_2, hv_2, h⟩ := h
      replace h := ob h; obtain ⟨cs_3, hv_3, h⟩ := h
      replace hq := hq.trans (NB.swp hv_3)
      have h9 := Option.some.inj h
      exact hq.to h9
    · skip
      replace h := (if_neg c_1).symm.trans h
      have k9 := nb_c_X8_mergeRuns_L42 F (c_X8_mergeRuns_L6 F lf_6) ih_6 F cs1 u0 u1 u2 u3 u4 u5 u6 (if u2 < (u6 + u1) then u2 else u6 + u1) (if u2 < (u6 + (2 * u1)) then u2 else u6 + (2 * u1)) u6 (if u2 < (u6 + u1) then u2 else u6 + u1) cs9 h
      exact hq.trans k9
theorem nb_c_X8_mergeRuns (F : Nat) (cs : CS) (x0 : Nat) (x1 : Int32) (x2 : Int32) (x3 : Int32) (x4 : Int32) (cs9 : CS) (h : c_X8_mergeRuns F cs x0 x1 x2 x3 x4 = some cs9) : NB cs cs9 := by
  unfold c_X8_mergeRuns at h
  have hq : NB cs cs := NB.refl
  have k9 := nb_c_X8_mergeRuns_L6 F F cs x0 x1 x2 x3 x4 0 0 cs9 h
  exact hq.trans k9
theorem nb_c_X1_init_b87 (F : Nat) (cs1 : CS) (cs9 : CS) (h : c_X1_init_b87 F cs1 = some cs9) : NB cs1 cs9 := by
  unfold c_X1_init_b87 at h
  have hq : NB cs1 cs1 := NB.refl
  have h9 := Option.some.inj h
  exact hq.to h9
theorem nb_c_X1_init_b80 (F : Nat) (cs1 : CS) (u0 : Nat) (u2 : Int32) (cs9 : CS) (h : c_X1_init_b80 F cs1 u0 u2 = some cs9) : NB cs1 cs9 := by
  unfold c_X1_init_b80 at h
  have hq : NB cs1 cs1 := NB.refl
  replace h := ob h; obtain ⟨cs_11, hv_11, h⟩ := h
  replace hq := hq.trans (NB.nwA (by decide) hv_11)
  have k9 := nb_c_X1_init_b87 F cs_11 cs9 h
  exact hq.trans k9
theorem nb_c_X1_init_b73 (F : Nat) (cs1 : CS) (u0 : Nat) (u2 : Int32) (cs9 : CS) (h : c_X1_init_b73 F cs1 u0 u2 = some cs9) : NB cs1 cs9 := by
  unfold c_X1_init_b73 at h
  have hq : NB cs1 cs1 := NB.refl
  replace h := ob h; obtain ⟨cs_11, hv_11, h⟩ := h
  replace hq := hq.trans (NB.nwA (by decide) hv_11)
  have k9 := nb_c_X1_init_b80 F cs_11 u0 u2 cs9 h
  exact hq.trans k9
theorem nb_c_X1_init_b66 (F : Nat) (cs1 : CS) (u0 : Nat) (u2 : Int32) (cs9 : CS) (h : c_X1_init_b66 F cs1 u0 u2 = some cs9) : NB cs1 cs9 := by
  unfold c_X1_init_b66 at h
  have hq : NB cs1 cs1 := NB.refl
  replace h := ob h; obtain ⟨cs_11, hv_11, h⟩ := h
  replace hq := hq.trans (NB.nwA (by decide) hv_11)
  have k9 := nb_c_X1_init_b73 F cs_11 u0 u2 cs9 h
  exact hq.trans k9
theorem nb_c_X1_init_b59 (F : Nat) (cs1 : CS) (u0 : Nat) (u2 : Int32) (cs9 : CS) (h : c_X1_init_b59 F cs1 u0 u2 = some cs9) : NB cs1 cs9 := by
  unfold c_X1_init_b59 at h
  have hq : NB cs1 cs1 := NB.refl
  replace h := ob h; obtain ⟨cs_11, hv_11, h⟩ := h
  replace hq := hq.trans (NB.nwA (by decide) hv_11)
  have k9 := nb_c_X1_init_b66 F cs_11 u0 u2 cs9 h
  exact hq.trans k9
theorem nb_c_X1_init_b52 (F : Nat) (cs1 : CS) (u0 : Nat) (u2 : Int32) (cs9 : CS) (h : c_X1_init_b52 F cs1 u0 u2 = some cs9) : NB cs1 cs9 := by
  unfold c_X1_init_b52 at h
  have hq : NB cs1 cs1 := NB.refl
  replace h := ob h; obtain ⟨cs_11, hv_11, h⟩ := h
  replace hq := hq.trans (NB.nwA (by decide) hv_11)
  have k9 := nb_c_X1_init_b59 F cs_11 u0 u2 cs9 h
  exact hq.trans k9
theorem nb_c_X1_init_b45 (F : Nat) (cs1 : CS) (u0 : Nat) (u2 : Int32) (cs9 : CS) (h : c_X1_init_b45 F cs1 u0 u2 = some cs9) : NB cs1 cs9 := by
  unfold c_X1_init_b45 at h
  have hq : NB cs1 cs1 := NB.refl
  replace h := ob h; obtain ⟨cs_11, hv_11, h⟩ := h
  replace hq := hq.trans (NB.nwA (by decide) hv_11)
  have k9 := nb_c_X1_init_b52 F cs_11 u0 u2 cs9 h
  exact hq.trans k9
theorem nb_c_X1_init_b38 (F : Nat) (cs1 : CS) (u0 : Nat) (u2 : Int32) (cs9 : CS) (h : c_X1_init_b38 F cs1 u0 u2 = some cs9) : NB cs1 cs9 := by
  unfold c_X1_init_b38 at h
  have hq : NB cs1 cs1 := NB.refl
  replace h := ob h; obtain ⟨cs_11, hv_11, h⟩ := h
  replace hq := hq.trans (NB.nwA (by decide) hv_11)
  have k9 := nb_c_X1_init_b45 F cs_11 u0 u2 cs9 h
  exact hq.trans k9
theorem nb_c_X1_init_b31 (F : Nat) (cs1 : CS) (u0 : Nat) (u2 : Int32) (cs9 : CS) (h : c_X1_init_b31 F cs1 u0 u2 = some cs9) : NB cs1 cs9 := by
  unfold c_X1_init_b31 at h
  have hq : NB cs1 cs1 := NB.refl
  replace h := ob h; obtain ⟨cs_11, hv_11, h⟩ := h
  replace hq := hq.trans (NB.nwA (by decide) hv_11)
  have k9 := nb_c_X1_init_b38 F cs_11 u0 u2 cs9 h
  exact hq.trans k9
theorem nb_c_X1_init_b24 (F : Nat) (cs1 : CS) (u0 : Nat) (u2 : Int32) (cs9 : CS) (h : c_X1_init_b24 F cs1 u0 u2 = some cs9) : NB cs1 cs9 := by
  unfold c_X1_init_b24 at h
  have hq : NB cs1 cs1 := NB.refl
  replace h := ob h; obtain ⟨cs_11, hv_11, h⟩ := h
  replace hq := hq.trans (NB.nwA (by decide) hv_11)
  have k9 := nb_c_X1_init_b31 F cs_11 u0 u2 cs9 h
  exact hq.trans k9
theorem nb_c_X1_init_b17 (F : Nat) (cs1 : CS) (u0 : Nat) (u2 : Int32) (cs9 : CS) (h : c_X1_init_b17 F cs1 u0 u2 = some cs9) : NB cs1 cs9 := by
  unfold c_X1_init_b17 at h
  have hq : NB cs1 cs1 := NB.refl
  replace h := ob h; obtain ⟨cs_11, hv_11, h⟩ := h
  replace hq := hq.trans (NB.nwA (by decide) hv_11)
  have k9 := nb_c_X1_init_b24 F cs_11 u0 u2 cs9 h
  exact hq.trans k9
theorem nb_c_X1_init (F : Nat) (cs : CS) (x0 : Nat) (x1 : Int32) (cs9 : CS) (h : c_X1_init F cs x0 x1 = some cs9) : NB cs cs9 := by
  unfold c_X1_init at h
  have hq : NB cs cs := NB.refl
  replace h := ob h; obtain ⟨cs_11, hv_11, h⟩ := h
  replace hq := hq.trans (NB.nwA (by decide) hv_11)
  have k9 := nb_c_X1_init_b17 F cs_11 x0 (if x1 < 0 then 0 else x1) cs9 h
  exact hq.trans k9
theorem nb_c_X2_init_b36 (F : Nat) (cs1 : CS) (cs9 : CS) (h : c_X2_init_b36 F cs1 = some cs9) : NB cs1 cs9 := by
  unfold c_X2_init_b36 at h
  have hq : NB cs1 cs1 := NB.refl
  have h9 := Option.some.inj h
  exact hq.to h9
theorem nb_c_X2_init_b28 (F : Nat) (cs1 : CS) (u0 : Nat) (cs9 : CS) (h : c_X2_init_b28 F cs1 u0 = some cs9) : NB cs1 cs9 := by
  unfold c_X2_init_b28 at h
  have hq : NB cs1 cs1 := NB.refl
  replace h := ob h; obtain ⟨cs_4, hv_4, h⟩ := h
  replace hq := hq.trans (NB.nwA (by decide) hv_4)
  have k9 := nb_c_X2_init_b36 F cs_4 cs9 h
  exact hq.trans k9
theorem nb_c_X2_init_b20 (F : Nat) (cs1 : CS) (u0 : Nat) (cs9 : CS) (h : c_X2_init_b20 F cs1 u0 = some cs9) : NB cs1 cs9 := by
  unfold c_X2_init_b20 at h
  have hq : NB cs1 cs1 := NB.refl
  replace h := ob h; obtain ⟨cs_4, hv_4, h⟩ := h
  replace hq := hq.trans (NB.nwA (by decide) hv_4)
  have k9 := nb_c_X2_init_b28 F cs_4 u0 cs9 h
  exact hq.trans k9
theorem nb_c_X2_init_b12 (F : Nat) (cs1 : CS) (u0 : Nat) (cs9 : CS) (h : c_X2_init_b12 F cs1 u0 = some cs9) : NB cs1 cs9 := by
  unfold c_X2_init_b12 at h
  have hq : NB cs1 cs1 := NB.refl
  replace h := ob h; obtain ⟨cs_4, hv_4, h⟩ := h
  replace hq := hq.trans (NB.nwA (by decide) hv_4)
  have k9 := nb_c_X2_init_b20 F cs_4 u0 cs9 h
  exact hq.trans k9
theorem nb_c_X2_init (F : Nat) (cs : CS) (x0 : Nat) (cs9 : CS) (h : c_X2_init F cs x0 = some cs9) : NB cs cs9 := by
  unfold c_X2_init at h
  have hq : NB cs cs := NB.refl
  replace h := ob h; obtain ⟨cs_4, hv_4, h⟩ := h
  replace hq := hq.trans (NB.nwA (by decide) hv_4)
  have k9 := nb_c_X2_init_b12 F cs_4 x0 cs9 h
  exact hq.trans k9
theorem nb_c_X8_reserve_b37 (F : Nat) (cs1 : CS) (cs9 : CS) (h : c_X8_reserve_b37 F cs1 = some cs9) : NB cs1 cs9 := by
  unfold c_X8_reserve_b37 at h
  have hq : NB cs1 cs1 := NB.refl
  have h9 := Option.some.inj h
  exact hq.to h9
theorem nb_c_X8_reserve_b23 (F : Nat) (cs1 : CS) (u0 : Nat) (u1 : Int32) (cs9 : CS) (h : c_X8_reserve_b23 F cs1 u0 u1 = some cs9) : NB cs1 cs9 := by
  unfold c_X8_reserve_b23 at h
  have hq : NB cs1 cs1 := NB.refl
  replace h := ob h; obtain ⟨v_3, hv_3, h⟩ := h
  replace h := ob h; obtain ⟨cs_4, hv_4, h⟩ := h
  replace hq := hq.trans (NB.gwA hv_4)
  have k9 := nb_c_X8_reserve_b37 F cs_4 cs9 h
  exact hq.trans k9
theorem nb_c_X8_reserve (F : Nat) (cs : CS) (x0 : Nat) (x1 : Int32) (cs9 : CS) (h : c_X8_reserve F cs x0 x1 = some cs9) : NB cs cs9 := by
  unfold c_X8_reserve at h
  have hq : NB cs cs := NB.refl
  replace h := ob h; obtain ⟨v_3, hv_3, h⟩ := h
  replace h := ob h; obtain ⟨v_4, hv_4, h⟩ := h
  by_cases c_5 : x1 ≤ v_4
  · skip
    replace h := (if_pos c_5).symm.trans h
    have k9 := nb_c_X8_reserve_b37 F cs cs9 h
    exact hq.trans k9
  · skip
    replace h := (if_neg c_5).symm.trans h
    replace h := ob h; obtain ⟨v_6, hv_6, h⟩ := h
    replace h := ob h; obtain ⟨cs_7, hv_7, h⟩ := h
    replace hq := hq.trans (NB.gwB hv_7)
    have k9 := nb_c_X8_reserve_b23 F cs_7 x0 x1 cs9 h
    exact hq.trans k9
theorem nb_c_X5_init_b52 (F : Nat) (cs1 : CS) (u0 : Nat) (cs9 : CS) (h : c_X5_init_b52 F cs1 u0 = some cs9) : NB cs1 cs9 := by
  unfold c_X5_init_b52 at h
  have hq : NB cs1 cs1 := NB.refl
  replace h := ob h; obtain ⟨cs_11, hv_11, h⟩ := h
  replace hq := hq.trans (NB.pI hv_11)
  have h9 := Option.some.inj h
  exact hq.to h9
theorem nb_c_X5_init_b36 (F : Nat) (cs1 : CS) (u0 : Nat) (y0 : Nat) (y1 : Nat) (cs9 : CS) (h : c_X5_init_b36 F cs1 u0 y0 y1 = some cs9) : NB cs1 cs9 := by
  unfold c_X5_init_b36 at h
  have hq : NB cs1 cs1 := NB.refl
  replace h := ob h; obtain ⟨cs_11, hv_11, h⟩ := h
  replace hq := hq.trans (NB.pR hv_11)
  replace h := ob h; obtain ⟨cs_12, hv_12, h⟩ := h
  replace hq := hq.trans (NB.pI hv_12)
  replace h := ob h; obtain ⟨cs_13, hv_13, h⟩ := h
  replace hq := hq.trans (NB.nwA (by decide) hv_13)
  have k9 := nb_c_X5_init_b52 F cs_13 u0 cs9 h
  exact hq.trans k9
theorem nb_c_X5_init_b32 (F : Nat) (cs1 : CS) (u0 : Nat) (y0 : Nat) (y1 : Nat) (cs9 : CS) (h : c_X5_init_b32 F cs1 u0 y0 y1 = some cs9) : NB cs1 cs9 := by
  unfold c_X5_init_b32 at h
  have hq : NB cs1 cs1 := NB.refl
  replace h := ob h; obtain ⟨cs_11, hv_11, h⟩ := h
  replace hq := hq.trans (nb_c_X2_init F cs1 y0 cs_11 hv_11)
  have k9 := nb_c_X5_init_b36 F cs_11 u0 y0 y1 cs9 h
  exact hq.trans k9
theorem nb_c_X5_init_b23 (F : Nat) (cs1 : CS) (u0 : Nat) (cs9 : CS) (h : c_X5_init_b23 F cs1 u0 = some cs9) : NB cs1 cs9 := by
  unfold c_X5_init_b23 at h
  have hq : NB cs1 cs1 := NB.refl
  replace h := ob h; obtain ⟨cs_11, hv_11, h⟩ := h
  replace hq := hq.trans (NB.pI hv_11)
  replace h := ob h; obtain ⟨cs_12, hv_12, h⟩ := h
  replace hq := hq.trans (NB.nwO (by decide) hv_12)
  have k9 := nb_c_X5_init_b32 F cs_12 u0 (kK cs_11) u0 cs9 h
  exact hq.trans k9
theorem nb_c_X5_init_b12 (F : Nat) (cs1 : CS) (u0 : Nat) (y0 : Nat) (y1 : Nat) (cs9 : CS) (h : c_X5_init_b12 F cs1 u0 y0 y1 = some cs9) : NB cs1 cs9 := by
  unfold c_X5_init_b12 at h
  have hq : NB cs1 cs1 := NB.refl
  replace h := ob h; obtain ⟨cs_11, hv_11, h⟩ := h
  replace hq := hq.trans (NB.pR hv_11)
  replace h := ob h; obtain ⟨cs_12, hv_12, h⟩ := h
  replace hq := hq.trans (NB.nwA (by decide) hv_12)
  have k9 := nb_c_X5_init_b23 F cs_12 u0 cs9 h
  exact hq.trans k9
theorem nb_c_X5_init_b8 (F : Nat) (cs1 : CS) (u0 : Nat) (y0 : Nat) (y1 : Nat) (cs9 : CS) (h : c_X5_init_b8 F cs1 u0 y0 y1 = some cs9) : NB cs1 cs9 := by
  unfold c_X5_init_b8 at h
  have hq : NB cs1 cs1 := NB.refl
  replace h := ob h; obtain ⟨cs_11, hv_11, h⟩ := h
  replace hq := hq.trans (nb_c_X2_init F cs1 y0 cs_11 hv_11)
  have k9 := nb_c_X5_init_b12 F cs_11 u0 y0 y1 cs9 h
  exact hq.trans k9
theorem nb_c_X5_init (F : Nat) (cs : CS) (x0 : Nat) (cs9 : CS) (h : c_X5_init F cs x0 = some cs9) : NB cs cs9 := by
  unfold c_X5_init at h
  have hq : NB cs cs := NB.refl
  replace h := ob h; obtain ⟨cs_11, hv_11, h⟩ := h
  replace hq := hq.trans (NB.nwO (by decide) hv_11)
  have k9 := nb_c_X5_init_b8 F cs_11 x0 (kK cs) x0 cs9 h
  exact hq.trans k9
theorem nb_c_X6_init_b36 (F : Nat) (cs1 : CS) (y0 : Nat) (y1 : Nat) (cs9 : CS) (h : c_X6_init_b36 F cs1 y0 y1 = some cs9) : NB cs1 cs9 := by
  unfold c_X6_init_b36 at h
  have hq : NB cs1 cs1 := NB.refl
  replace h := ob h; obtain ⟨cs_3, hv_3, h⟩ := h
  replace hq := hq.trans (NB.pR hv_3)
  have h9 := Option.some.inj h
  exact hq.to h9
theorem nb_c_X6_init_b32 (F : Nat) (cs1 : CS) (y0 : Nat) (y1 : Nat) (cs9 : CS) (h : c_X6_init_b32 F cs1 y0 y1 = some cs9) : NB cs1 cs9 := by
  unfold c_X6_init_b32 at h
  have hq : NB cs1 cs1 := NB.refl
  replace h := ob h; obtain ⟨cs_3, hv_3, h⟩ := h
  replace hq := hq.trans (nb_c_X2_init F cs1 y0 cs_3 hv_3)
  have k9 := nb_c_X6_init_b36 F cs_3 y0 y1 cs9 h
  exact hq.trans k9
theorem nb_c_X6_init (F : Nat) (cs : CS) (x0 : Nat) (cs9 : CS) (h : c_X6_init F cs x0 = some cs9) : NB cs cs9 := by
  unfold c_X6_init at h
  have hq : NB cs cs := NB.refl
  replace h := ob h; obtain ⟨cs_3, hv_3, h⟩ := h
  replace hq := hq.trans (NB.pI hv_3)
  replace h := ob h; obtain ⟨cs_4, hv_4, h⟩ := h
  replace hq := hq.trans (NB.pJ hv_4)
  replace h := ob h; obtain ⟨cs_5, hv_5, h⟩ := h
  replace hq := hq.trans (NB.pJ hv_5)
  replace h := ob h; obtain ⟨cs_6, hv_6, h⟩ := h
  replace hq := hq.trans (NB.pI hv_6)
  replace h := ob h; obtain ⟨cs_7, hv_7, h⟩ := h
  replace hq := hq.trans (NB.nwO (by decide) hv_7)
  have k9 := nb_c_X6_init_b32 F cs_7 (kK cs_6) x0 cs9 h
  exact hq.trans k9
theorem nb_c_X8_put_b7 (F : Nat) (cs1 : CS) (u0 : Nat) (u1 : Int32) (u2 : Int64) (u4 : Int32) (cs9 : CS) (h : c_X8_put_b7 F cs1 u0 u1 u2 u4 = some cs9) : NB cs1 cs9 := by
  unfold c_X8_put_b7 at h
  have hq : NB cs1 cs1 := NB.refl
  replace h := ob h; obtain ⟨w_4, hw_4, h⟩ := h
  replace h := ob h; obtain ⟨cs_3, hv_3, h⟩ := h
  replace hq := hq.trans (nb_c_X8_set F cs1 u0 u1 u2 u4 cs_3 hv_3)
  have h9 := Option.some.inj h
  exact hq.to h9
theorem nb_c_X8_put (F : Nat) (cs : CS) (x0 : Nat) (x1 : Int32) (x2 : Int64) (x4 : Int32) (cs9 : CS) (h : c_X8_put F cs x0 x1 x2 x4 = some cs9) : NB cs cs9 := by
  unfold c_X8_put at h
  have hq : NB cs cs := NB.refl
  replace h := ob h; obtain ⟨w_4, hw_4, h⟩ := h
  replace h := ob h; obtain ⟨cs_3, hv_3, h⟩ := h
  replace hq := hq.trans (nb_c_X8_reserve F cs x0 (x1 + 1) cs_3 hv_3)
  have k9 := nb_c_X8_put_b7 F cs_3 x0 x1 x2 x4 cs9 h
  exact hq.trans k9
theorem nb_c_X7_copyRow_b75 (F : Nat) (cs1 : CS) (cs9 : CS) (h : c_X7_copyRow_b75 F cs1 = some cs9) : NB cs1 cs9 := by
  unfold c_X7_copyRow_b75 at h
  have hq : NB cs1 cs1 := NB.refl
  have h9 := Option.some.inj h
  exact hq.to h9
theorem nb_c_X7_copyRow_b69 (F : Nat) (rc23 : CS → Nat → Int32 → Nat → Int32 → Int32 → Int32 → Option CS) (hrc23 : ∀ (cs1 : CS) (u0 : Nat) (u1 : Int32) (u3 : Nat) (u4 : Int32) (u5 : Int32) (u6 : Int32) (cs9 : CS), rc23 cs1 u0 u1 u3 u4 u5 u6 = some cs9 → NB cs1 cs9) (cs1 : CS) (u0 : Nat) (u1 : Int32) (u3 : Nat) (u4 : Int32) (u5 : Int32) (u6 : Int32) (cs9 : CS) (h : c_X7_copyRow_b69 F rc23 cs1 u0 u1 u3 u4 u5 u6 = some cs9) : NB cs1 cs9 := by
  unfold c_X7_copyRow_b69 at h
  have hq : NB cs1 cs1 := NB.refl
  have k9 := hrc23 cs1 u0 u1 u3 u4 u5 (u6 + 1) cs9 h
  exact hq.trans k9
theorem nb_c_X7_copyRow_L23 (F : Nat) : ∀ (lf_23 : Nat) (cs1 : CS) (u0 : Nat) (u1 : Int32) (u3 : Nat) (u4 : Int32) (u5 : Int32) (u6 : Int32) (cs9 : CS), c_X7_copyRow_L23 F lf_23 cs1 u0 u1 u3 u4 u5 u6 = some cs9 → NB cs1 cs9 := by
  intro lf_23
  induction lf_23 with
  | zero => intro cs1 u0 u1 u3 u4 u5 u6 cs9 h; cases (show (none : Option CS) = _ from h)
  | succ lf_23 ih_23 =>
    intro cs1 u0 u1 u3 u4 u5 u6 cs9 h
    rw [c_X7_copyRow_L23] at h
    have hq : NB cs1 cs1 := NB.refl
    replace h := ob h; obtain ⟨v_11, hv_11, h⟩ := h
    replace h := ob h; obtain ⟨v_12, hv_12, h⟩ := h
    by_cases c_13 : v_12 < u6
    · skip
      replace h := (if_pos c_13).symm.trans h
      have k9 := nb_c_X7_copyRow_b75 F cs1 cs9 h
      exact hq.trans k9
    · skip
      replace h := (if_neg c_13).symm.trans h
      by_cases c_14 : 5 ≤ u6
      · skip
        replace h := (if_pos c_14).symm.trans h
        have k9 := nb_c_X7_copyRow_b75 F cs1 cs9 h
        exact hq.trans k9
      · skip
        replace h := (if_neg c_14).symm.trans h
        replace h := ob h; obtain ⟨v_15, hv_15, h⟩ := h
        replace h := ob h; obtain ⟨v_16, hv_16, h⟩ := h
        replace h := ob h; obtain ⟨v_17, hv_17, h⟩ := h
        replace h := ob h; obtain ⟨v_18, hv_18, h⟩ := h
        replace h := ob h; obtain ⟨w_20, hw_20, h⟩ := h
        replace h := ob h; obtain ⟨cs_19, hv_19, h⟩ := h
        replace hq := hq.trans (nb_c_X8_put F cs1 u3 (u4 + u6) v_16 v_18 cs_19 hv_19)
        have k9 := nb_c_X7_copyRow_b69 F (c_X7_copyRow_L23 F lf_23) ih_23 cs_19 u0 u1 u3 u4 u5 u6 cs9 h
        exact hq.trans k9
theorem nb_c_X7_copyRow (F : Nat) (cs : CS) (x0 : Nat) (x1 : Int32) (x2 : Int32) (x3 : Nat) (x4 : Int32) (cs9 : CS) (h : c_X7_copyRow F cs x0 x1 x2 x3 x4 = some cs9) : NB cs cs9 := by
  unfold c_X7_copyRow at h
  have hq : NB cs cs := NB.refl
  replace h := ob h; obtain ⟨w_12, hw_12, h⟩ := h
  replace h := ob h; obtain ⟨v_11, hv_11, h⟩ := h
  by_cases c_13 : v_11 = 0
  · skip
    replace h := (if_pos c_13).symm.trans h
    have h9 := Option.some.inj h
    exact hq.to h9
  · skip
    replace h := (if_neg c_13).symm.trans h
    have k9 := nb_c_X7_copyRow_L23 F F cs x0 x1 x3 x4 (((x1 * 8) + x2) * 5) 0 cs9 h
    exact hq.trans k9
theorem nb_c_X8_copy_b83 (F : Nat) (cs1 : CS) (cs9 : CS) (h : c_X8_copy_b83 F cs1 = some cs9) : NB cs1 cs9 := by
  unfold c_X8_copy_b83 at h
  have hq : NB cs1 cs1 := NB.refl
  have h9 := Option.some.inj h
  exact hq.to h9
theorem nb_c_X8_copy_b11 (F : Nat) (cs1 : CS) (u0 : Nat) (u1 : Int32) (u2 : Int32) (u3 : Int32) (cs9 : CS) (h : c_X8_copy_b11 F cs1 u0 u1 u2 u3 = some cs9) : NB cs1 cs9 := by
  unfold c_X8_copy_b11 at h
  have hq : NB cs1 cs1 := NB.refl
  by_cases c_20 : u3 ≤ 0
  · skip
    replace h := (if_pos c_20).symm.trans h
    have k9 := nb_c_X8_copy_b83 F cs1 cs9 h
    exact hq.trans k9
  · skip
    replace h := (if_neg c_20).symm.trans h
    replace h := ob h; obtain ⟨w_22, hw_22, h⟩ := h
    replace h := ob h; obtain ⟨v_21, hv_21, h⟩ := h
    by_cases c_23 : v_21 = 0
    · skip
      replace h := (if_pos c_23).symm.trans h
      have k9 := nb_c_X8_copy_b83 F cs1 cs9 h
      exact hq.trans k9
    · skip
      replace h := (if_neg c_23).symm.trans h
      replace h := ob h; obtain ⟨w_25, hw_25, h⟩ := h
      replace h := ob h; obtain ⟨v_24, hv_24, h⟩ := h
      by_cases c_26 : v_24 = 0
      · skip
        replace h := (if_pos c_26).symm.trans h
        have k9 := nb_c_X8_copy_b83 F cs1 cs9 h
        exact hq.trans k9
      · skip
        replace h := (if_neg c_26).symm.trans h
        replace h := ob h; obtain ⟨w_28, hw_28, h⟩ := h
        replace h := ob h; obtain ⟨v_27, hv_27, h⟩ := h
        by_cases c_29 : v_27 = 0
        · skip
          replace h := (if_pos c_29).symm.trans h
          have k9 := nb_c_X8_copy_b83 F cs1 cs9 h
          exact hq.trans k9
        · skip
          replace h := (if_neg c_29).symm.trans h
          replace h := ob h; obtain ⟨w_31, hw_31, h⟩ := h
          replace h := ob h; obtain ⟨v_30, hv_30, h⟩ := h
          by_cases c_32 : v_30 = 0
          · skip
            replace h := (if_pos c_32).symm.trans h
            have k9 := nb_c_X8_copy_b83 F cs1 cs9 h
            exact hq.trans k9
          · skip
            replace h := (if_neg c_32).symm.trans h
            replace h := ob h; obtain ⟨v_33, hv_33, h⟩ := h
            replace h := ob h; obtain ⟨v_34, hv_34, h⟩ := h
            replace h := ob h; obtain ⟨cs_35, hv_35, h⟩ := h
            replace hq := hq.trans (NB.cpB hv_35)
            replace h := ob h; obtain ⟨v_36, hv_36, h⟩ := h
            replace h := ob h; obtain ⟨v_37, hv_37, h⟩ := h
            replace h := ob h; obtain ⟨cs_38, hv_38, h⟩ := h
            replace hq := hq.trans (NB.cpA hv_38)
            have k9 := nb_c_X8_copy_b83 F cs_38 cs9 h
            exact hq.trans k9
theorem nb_c_X8_copy (F : Nat) (cs : CS) (x0 : Nat) (x1 : Int32) (x2 : Int32) (x3 : Int32) (cs9 : CS) (h : c_X8_copy F cs x0 x1 x2 x3 = some cs9) : NB cs cs9 := by
  unfold c_X8_copy at h
  have hq : NB cs cs := NB.refl
  replace h := ob h; obtain ⟨w_21, hw_21, h⟩ := h
  replace h := ob h; obtain ⟨cs_20, hv_20, h⟩ := h
  replace hq := hq.trans (nb_c_X8_reserve F cs x0 ((if x1 < x2 then x2 else x1) + x3) cs_20 hv_20)
  have k9 := nb_c_X8_copy_b11 F cs_20 x0 x1 x2 x3 cs9 h
  exact hq.trans k9
theorem nb_c_X4_blankOut_b19 (F : Nat) (rc2 : CS → Nat → Int32 → Int32 → Int32 → Option CS) (hrc2 : ∀ (cs1 : CS) (u0 : Nat) (u1 : Int32) (u2 : Int32) (u3 : Int32) (cs9 : CS), rc2 cs1 u0 u1 u2 u3 = some cs9 → NB cs1 cs9) (cs1 : CS) (u0 : Nat) (u1 : Int32) (u2 : Int32) (u3 : Int32) (cs9 : CS) (h : c_X4_blankOut_b19 F rc2 cs1 u0 u1 u2 u3 = some cs9) : NB cs1 cs9 := by
  unfold c_X4_blankOut_b19 at h
  have hq : NB cs1 cs1 := NB.refl
  have k9 := hrc2 cs1 u0 u1 u2 (u3 + 1) cs9 h
  exact hq.trans k9
theorem nb_c_X4_blankOut_L2 (F : Nat) : ∀ (lf_2 : Nat) (cs1 : CS) (u0 : Nat) (u1 : Int32) (u2 : Int32) (u3 : Int32) (cs9 : CS), c_X4_blankOut_L2 F lf_2 cs1 u0 u1 u2 u3 = some cs9 → NB cs1 cs9 := by
  intro lf_2
  induction lf_2 with
  | zero => intro cs1 u0 u1 u2 u3 cs9 h; cases (show (none : Option CS) = _ from h)
  | succ lf_2 ih_2 =>
    intro cs1 u0 u1 u2 u3 cs9 h
    rw [c_X4_blankOut_L2] at h
    have hq : NB cs1 cs1 := NB.refl
    by_cases c_6 : u2 ≤ u3
    · skip
      replace h := (if_pos c_6).symm.trans h
      have h9 := Option.some.inj h
      exact hq.to h9
    · skip
      replace h := (if_neg c_6).symm.trans h
      replace h := ob h; obtain ⟨v_7, hv_7, h⟩ := h
      replace h := ob h; obtain ⟨i_9, hi_9, h⟩ := h
      subst hi_9
      replace h := ob h; obtain ⟨w_10, hw_10, h⟩ := h
      replace h := ob h; obtain ⟨cs_8, hv_8, h⟩ := h
      replace hq := hq.trans (nb_c_X8_put F cs1 i_9 (u1 + u3) 0 1 cs_8 hv_8)
      have k9 := nb_c_X4_blankOut_b19 F (c_X4_blankOut_L2 F lf_2) ih_2 cs_8 u0 u1 u2 u3 cs9 h
      exact hq.trans k9
theorem nb_c_X4_blankOut (F : Nat) (cs : CS) (x0 : Nat) (x1 : Int32) (x2 : Int32) (cs9 : CS) (h : c_X4_blankOut F cs x0 x1 x2 = some cs9) : NB cs cs9 := by
  unfold c_X4_blankOut at h
  have hq : NB cs cs := NB.refl
  have k9 := nb_c_X4_blankOut_L2 F F cs x0 x1 x2 0 cs9 h
  exact hq.trans k9
theorem nb_c_X4_filter_b66 (F : Nat) (rc12 : CS → Nat → Int32 → Int32 → Int32 → Int32 → Int32 → Int32 → Option (CS × Int32)) (hrc12 : ∀ (cs1 : CS) (u0 : Nat) (u1 : Int32) (u2 : Int32) (u3 : Int32) (u4 : Int32) (u5 : Int32) (u6 : Int32) (cs9 : CS) (r9 : Int32), rc12 cs1 u0 u1 u2 u3 u4 u5 u6 = some (cs9, r9) → NB cs1 cs9) (cs1 : CS) (u0 : Nat) (u1 : Int32) (u2 : Int32) (u3 : Int32) (u4 : Int32) (u5 : Int32) (u6 : Int32) (cs9 : CS) (r9 : Int32) (h : c_X4_filter_b66 F rc12 cs1 u0 u1 u2 u3 u4 u5 u6 = some (cs9, r9)) : NB cs1 cs9 := by
  unfold c_X4_filter_b66 at h
  have hq : NB cs1 cs1 := NB.refl
  have k9 := hrc12 cs1 u0 u1 u2 u3 u4 u5 (u6 + 1) cs9 r9 h
  exact hq.trans k9
theorem nb_c_X4_filter_b63 (F : Nat) (rc12 : CS → Nat → Int32 → Int32 → Int32 → Int32 → Int32 → Int32 → Option (CS × Int32)) (hrc12 : ∀ (cs1 : CS) (u0 : Nat) (u1 : Int32) (u2 : Int32) (u3 : Int32) (u4 : Int32) (u5 : Int32) (u6 : Int32) (cs9 : CS) (r9 : Int32), rc12 cs1 u0 u1 u2 u3 u4 u5 u6 = some (cs9, r9) → NB cs1 cs9) (cs1 : CS) (u0 : Nat) (u1 : Int32) (u2 : Int32) (u3 : Int32) (u4 : Int32) (u5 : Int32) (u6 : Int32) (cs9 : CS) (r9 : Int32) (h : c_X4_filter_b63 F rc12 cs1 u0 u1 u2 u3 u4 u5 u6 = some (cs9, r9)) : NB cs1 cs9 := by
  unfold c_X4_filter_b63 at h
  have hq : NB cs1 cs1 := NB.refl
  have k9 := nb_c_X4_filter_b66 F rc12 hrc12 cs1 u0 u1 u2 u3 u4 (u5 + 1) u6 cs9 r9 h
  exact hq.trans k9
theorem nb_c_X4_filter_L12 (F : Nat) : ∀ (lf_12 : Nat) (cs1 : CS) (u0 : Nat) (u1 : Int32) (u2 : Int32) (u3 : Int32) (u4 : Int32) (u5 : Int32) (u6 : Int32) (cs9 : CS) (r9 : Int32), c_X4_filter_L12 F lf_12 cs1 u0 u1 u2 u3 u4 u5 u6 = some (cs9, r9) → NB cs1 cs9 := by
  intro lf_12
  induction lf_12 with
  | zero => intro cs1 u0 u1 u2 u3 u4 u5 u6 cs9 r9 h; cases (show (none : Option (CS × Int32)) = _ from h)
  | succ lf_12 ih_12 =>
    intro cs1 u0 u1 u2 u3 u4 u5 u6 cs9 r9 h
    rw [c_X4_filter_L12] at h
    have hq : NB cs1 cs1 := NB.refl
    by_cases c_13 : u3 ≤ u6
    · skip
      replace h := (if_pos c_13).symm.trans h
      have h9 := (Prod.mk.inj (Option.some.inj h)).1
      exact hq.to h9
    · skip
      replace h := (if_neg c_13).symm.trans h
      replace h := ob h; obtain ⟨v_14, hv_14, h⟩ := h
      replace h := ob h; obtain ⟨v_15, hv_15, h⟩ := h
      replace h := ob h; obtain ⟨i_16, hi_16, h⟩ := h
      subst hi_16
      replace h := ob h; obtain ⟨i_18, hi_18, h⟩ := h
      subst hi_18
      replace h := ob h; obtain ⟨w_19, hw_19, h⟩ := h
      replace h := ob h; obtain ⟨z_17, hv_17, h⟩ := h
      replace hq := hq.trans (nb_c_X1_compute F cs1 i_18 u1 i_16 (u2 + (u6 * u4)) z_17.1 z_17.2 hv_17)
      by_cases c_20 : z_17.2 = 0
      · skip
        replace h := (if_pos c_20).symm.trans h
        have k9 := nb_c_X4_filter_b66 F (c_X4_filter_L12 F lf_12) ih_12 z_17.1 u0 u1 u2 u3 u4 u5 u6 cs9 r9 h
        exact hq.trans k9
      · skip
        replace h := (if_neg c_20).symm.trans h
        replace h := ob h; obtain ⟨v_21, hv_21, h⟩ := h
        replace h := ob h; obtain ⟨i_23, hi_23, h⟩ := h
        subst hi_23
        replace h := ob h; obtain ⟨w_24, hw_24, h⟩ := h
        replace h := ob h; obtain ⟨cs_22, hv_22, h⟩ := h
        replace hq := hq.trans (nb_c_X8_copy F z_17.1 i_23 (u2 + (u6 * u4)) (u2 + (u5 * u4)) u4 cs_22 hv_22)
        have k9 := nb_c_X4_filter_b63 F (c_X4_filter_L12 F lf_12) ih_12 cs_22 u0 u1 u2 u3 u4 u5 u6 cs9 r9 h
        exact hq.trans k9
theorem nb_c_X4_filter (F : Nat) (cs : CS) (x0 : Nat) (x1 : Int32) (x2 : Int32) (x3 : Int32) (x4 : Int32) (cs9 : CS) (r9 : Int32) (h : c_X4_filter F cs x0 x1 x2 x3 x4 = some (cs9, r9)) : NB cs cs9 := by
  unfold c_X4_filter at h
  have hq : NB cs cs := NB.refl
  by_cases c_13 : 0 ≤ x1
  · skip
    replace h := (if_pos c_13).symm.trans h
    have k9 := nb_c_X4_filter_L12 F F cs x0 x1 x2 x3 x4 0 0 cs9 r9 h
    exact hq.trans k9
  · skip
    replace h := (if_neg c_13).symm.trans h
    have h9 := (Prod.mk.inj (Option.some.inj h)).1
    exact hq.to h9
theorem nb_c_X4_computeAll_b72 (F : Nat) (cs1 : CS) (cs9 : CS) (h : c_X4_computeAll_b72 F cs1 = some cs9) : NB cs1 cs9 := by
  unfold c_X4_computeAll_b72 at h
  have hq : NB cs1 cs1 := NB.refl
  have h9 := Option.some.inj h
  exact hq.to h9
theorem nb_c_X4_computeAll_b66 (F : Nat) (rc3 : CS → Nat → Nat → Int32 → Int32 → Int32 → Option CS) (hrc3 : ∀ (cs1 : CS) (u0 : Nat) (u1 : Nat) (u2 : Int32) (u3 : Int32) (u4 : Int32) (cs9 : CS), rc3 cs1 u0 u1 u2 u3 u4 = some cs9 → NB cs1 cs9) (cs1 : CS) (u0 : Nat) (u1 : Nat) (u2 : Int32) (u3 : Int32) (u4 : Int32) (cs9 : CS) (h : c_X4_computeAll_b66 F rc3 cs1 u0 u1 u2 u3 u4 = some cs9) : NB cs1 cs9 := by
  unfold c_X4_computeAll_b66 at h
  have hq : NB cs1 cs1 := NB.refl
  have k9 := hrc3 cs1 u0 u1 u2 u3 (u4 + 1) cs9 h
  exact hq.trans k9
theorem nb_c_X4_computeAll_L3 (F : Nat) : ∀ (lf_3 : Nat) (cs1 : CS) (u0 : Nat) (u1 : Nat) (u2 : Int32) (u3 : Int32) (u4 : Int32) (cs9 : CS), c_X4_computeAll_L3 F lf_3 cs1 u0 u1 u2 u3 u4 = some cs9 → NB cs1 cs9 := by
  intro lf_3
  induction lf_3 with
  | zero => intro cs1 u0 u1 u2 u3 u4 cs9 h; cases (show (none : Option CS) = _ from h)
  | succ lf_3 ih_3 =>
    intro cs1 u0 u1 u2 u3 u4 cs9 h
    rw [c_X4_computeAll_L3] at h
    have hq : NB cs1 cs1 := NB.refl
    replace h := ob h; obtain ⟨v_26, hv_26, h⟩ := h
    by_cases c_27 : v_26 ≤ u4
    · skip
      replace h := (if_pos c_27).symm.trans h
      have k9 := nb_c_X4_computeAll_b72 F cs1 cs9 h
      exact hq.trans k9
    · skip
      replace h := (if_neg c_27).symm.trans h
      replace h := ob h; obtain ⟨w_29, hw_29, h⟩ := h
      replace h := ob h; obtain ⟨v_28, hv_28, h⟩ := h
      by_cases c_30 : v_28 = 0
      · skip
        replace h := (if_pos c_30).symm.trans h
        have k9 := nb_c_X4_computeAll_b72 F cs1 cs9 h
        exact hq.trans k9
      · skip
        replace h := (if_neg c_30).symm.trans h
        replace h := ob h; obtain ⟨v_31, hv_31, h⟩ := h
        replace h := ob h; obtain ⟨v_32, hv_32, h⟩ := h
        replace h := ob h; obtain ⟨v_33, hv_33, h⟩ := h
        replace h := ob h; obtain ⟨v_34, hv_34, h⟩ := h
        replace h := ob h; obtain ⟨i_35, hi_35, h⟩ := h
        subst hi_35
        replace h := ob h; obtain ⟨i_37, hi_37, h⟩ := h
        subst hi_37
        replace h := ob h; obtain ⟨w_38, hw_38, h⟩ := h
        replace h := ob h; obtain ⟨z_36, hv_36, h⟩ := h
        replace hq := hq.trans (nb_c_X1_compute F cs1 i_37 v_33 i_35 u2 z_36.1 z_36.2 hv_36)
        replace h := ob h; obtain ⟨v_39, hv_39, h⟩ := h
        replace h := ob h; obtain ⟨v_40, hv_40, h⟩ := h
        replace h := ob h; obtain ⟨i_42, hi_42, h⟩ := h
        subst hi_42
        replace h := ob h; obtain ⟨w_43, hw_43, h⟩ := h
        replace h := ob h; obtain ⟨v_41, hv_41, h⟩ := h
        replace h := ob h; obtain ⟨v_44, hv_44, h⟩ := h
        replace h := ob h; obtain ⟨i_46, hi_46, h⟩ := h
        subst hi_46
        replace h := ob h; obtain ⟨w_47, hw_47, h⟩ := h
        replace h := ob h; obtain ⟨v_45, hv_45, h⟩ := h
        replace h := ob h; obtain ⟨i_49, hi_49, h⟩ := h
        subst hi_49
        replace h := ob h; obtain ⟨w_50, hw_50, h⟩ := h
        replace h := ob h; obtain ⟨cs_48, hv_48, h⟩ := h
        replace hq := hq.trans (nb_c_X8_put F z_36.1 i_49 (u3 + u4) v_41 v_45 cs_48 hv_48)
        have k9 := nb_c_X4_computeAll_b66 F (c_X4_computeAll_L3 F lf_3) ih_3 cs_48 u0 u1 u2 u3 u4 cs9 h
        exact hq.trans k9
theorem nb_c_X4_computeAll (F : Nat) (cs : CS) (x0 : Nat) (x1 : Nat) (x2 : Int32) (x3 : Int32) (cs9 : CS) (h : c_X4_computeAll F cs x0 x1 x2 x3 = some cs9) : NB cs cs9 := by
  unfold c_X4_computeAll at h
  have hq : NB cs cs := NB.refl
  have k9 := nb_c_X4_computeAll_L3 F F cs x0 x1 x2 x3 0 cs9 h
  exact hq.trans k9
theorem nb_c_X4_computeInsides_b122 (F : Nat) (cs1 : CS) (cs9 : CS) (h : c_X4_computeInsides_b122 F cs1 = some cs9) : NB cs1 cs9 := by
  unfold c_X4_computeInsides_b122 at h
  have hq : NB cs1 cs1 := NB.refl
  have h9 := Option.some.inj h
  exact hq.to h9
theorem nb_c_X4_computeInsides_b116 (F : Nat) (rc3 : CS → Nat → Nat → Int32 → Int32 → Int32 → Option CS) (hrc3 : ∀ (cs1 : CS) (u0 : Nat) (u1 : Nat) (u2 : Int32) (u3 : Int32) (u4 : Int32) (cs9 : CS), rc3 cs1 u0 u1 u2 u3 u4 = some cs9 → NB cs1 cs9) (cs1 : CS) (u0 : Nat) (u1 : Nat) (u2 : Int32) (u3 : Int32) (u4 : Int32) (cs9 : CS) (h : c_X4_computeInsides_b116 F rc3 cs1 u0 u1 u2 u3 u4 = some cs9) : NB cs1 cs9 := by
  unfold c_X4_computeInsides_b116 at h
  have hq : NB cs1 cs1 := NB.refl
  have k9 := hrc3 cs1 u0 u1 u2 u3 (u4 + 1) cs9 h
  exact hq.trans k9
theorem nb_c_X4_computeInsides_b71 (F : Nat) (rc3 : CS → Nat → Nat → Int32 → Int32 → Int32 → Option CS) (hrc3 : ∀ (cs1 : CS) (u0 : Nat) (u1 : Nat) (u2 : Int32) (u3 : Int32) (u4 : Int32) (cs9 : CS), rc3 cs1 u0 u1 u2 u3 u4 = some cs9 → NB cs1 cs9) (cs1 : CS) (u0 : Nat) (u1 : Nat) (u2 : Int32) (u3 : Int32) (u4 : Int32) (cs9 : CS) (h : c_X4_computeInsides_b71 F rc3 cs1 u0 u1 u2 u3 u4 = some cs9) : NB cs1 cs9 := by
  unfold c_X4_computeInsides_b71 at h
  have hq : NB cs1 cs1 := NB.refl
  have k9 := nb_c_X4_computeInsides_b116 F rc3 hrc3 cs1 u0 u1 u2 u3 u4 cs9 h
  exact hq.trans k9
theorem nb_c_X4_computeInsides_b74 (F : Nat) (rc3 : CS → Nat → Nat → Int32 → Int32 → Int32 → Option CS) (hrc3 : ∀ (cs1 : CS) (u0 : Nat) (u1 : Nat) (u2 : Int32) (u3 : Int32) (u4 : Int32) (cs9 : CS), rc3 cs1 u0 u1 u2 u3 u4 = some cs9 → NB cs1 cs9) (cs1 : CS) (u0 : Nat) (u1 : Nat) (u2 : Int32) (u3 : Int32) (u4 : Int32) (u5 : Int32) (cs9 : CS) (h : c_X4_computeInsides_b74 F rc3 cs1 u0 u1 u2 u3 u4 u5 = some cs9) : NB cs1 cs9 := by
  unfold c_X4_computeInsides_b74 at h
  have hq : NB cs1 cs1 := NB.refl
  replace h := ob h; obtain ⟨v_40, hv_40, h⟩ := h
  replace h := ob h; obtain ⟨v_41, hv_41, h⟩ := h
  replace h := ob h; obtain ⟨i_42, hi_42, h⟩ := h
  subst hi_42
  replace h := ob h; obtain ⟨i_44, hi_44, h⟩ := h
  subst hi_44
  replace h := ob h; obtain ⟨w_45, hw_45, h⟩ := h
  replace h := ob h; obtain ⟨z_43, hv_43, h⟩ := h
  replace hq := hq.trans (nb_c_X1_compute F cs1 i_44 (u5 - 1) i_42 u2 z_43.1 z_43.2 hv_43)
  replace h := ob h; obtain ⟨v_46, hv_46, h⟩ := h
  replace h := ob h; obtain ⟨v_47, hv_47, h⟩ := h
  replace h := ob h; obtain ⟨i_49, hi_49, h⟩ := h
  subst hi_49
  replace h := ob h; obtain ⟨w_50, hw_50, h⟩ := h
  replace h := ob h; obtain ⟨v_48, hv_48, h⟩ := h
  replace h := ob h; obtain ⟨v_51, hv_51, h⟩ := h
  replace h := ob h; obtain ⟨i_53, hi_53, h⟩ := h
  subst hi_53
  replace h := ob h; obtain ⟨w_54, hw_54, h⟩ := h
  replace h := ob h; obtain ⟨v_52, hv_52, h⟩ := h
  replace h := ob h; obtain ⟨i_56, hi_56, h⟩ := h
  subst hi_56
  replace h := ob h; obtain ⟨w_57, hw_57, h⟩ := h
  replace h := ob h; obtain ⟨cs_55, hv_55, h⟩ := h
  replace hq := hq.trans (nb_c_X8_put F z_43.1 i_56 (u3 + u4) v_48 v_52 cs_55 hv_55)
  have k9 := nb_c_X4_computeInsides_b116 F rc3 hrc3 cs_55 u0 u1 u2 u3 u4 cs9 h
  exact hq.trans k9
theorem nb_c_X4_computeInsides_L3 (F : Nat) : ∀ (lf_3 : Nat) (cs1 : CS) (u0 : Nat) (u1 : Nat) (u2 : Int32) (u3 : Int32) (u4 : Int32) (cs9 : CS), c_X4_computeInsides_L3 F lf_3 cs1 u0 u1 u2 u3 u4 = some cs9 → NB cs1 cs9 := by
  intro lf_3
  induction lf_3 with
  | zero => intro cs1 u0 u1 u2 u3 u4 cs9 h; cases (show (none : Option CS) = _ from h)
  | succ lf_3 ih_3 =>
    intro cs1 u0 u1 u2 u3 u4 cs9 h
    rw [c_X4_computeInsides_L3] at h
    have hq : NB cs1 cs1 := NB.refl
    replace h := ob h; obtain ⟨v_40, hv_40, h⟩ := h
    by_cases c_41 : v_40 ≤ u4
    · skip
      replace h := (if_pos c_41).symm.trans h
      have k9 := nb_c_X4_computeInsides_b122 F cs1 cs9 h
      exact hq.trans k9
    · skip
      replace h := (if_neg c_41).symm.trans h
      replace h := ob h; obtain ⟨v_42, hv_42, h⟩ := h
      replace h := ob h; obtain ⟨v_43, hv_43, h⟩ := h
      by_cases c_44 : v_43 ≤ u4
      · skip
        replace h := (if_pos c_44).symm.trans h
        have k9 := nb_c_X4_computeInsides_b122 F cs1 cs9 h
        exact hq.trans k9
      · skip
        replace h := (if_neg c_44).symm.trans h
        replace h := ob h; obtain ⟨v_45, hv_45, h⟩ := h
        replace h := ob h; obtain ⟨v_46, hv_46, h⟩ := h
        replace h := ob h; obtain ⟨v_47, hv_47, h⟩ := h
        replace h := ob h; obtain ⟨i_49, hi_49, h⟩ := h
        subst hi_49
        replace h := ob h; obtain ⟨w_50, hw_50, h⟩ := h
        replace h := ob h; obtain ⟨v_48, hv_48, h⟩ := h
        by_cases c_51 : v_48 = 0
        · skip
          replace h := (if_pos c_51).symm.trans h
          have k9 := nb_c_X4_computeInsides_b74 F (c_X4_computeInsides_L3 F lf_3) ih_3 cs1 u0 u1 u2 u3 u4 v_46 cs9 h
          exact hq.trans k9
        · skip
          replace h := (if_neg c_51).symm.trans h
          replace h := ob h; obtain ⟨v_52, hv_52, h⟩ := h
          replace h := ob h; obtain ⟨i_53, hi_53, h⟩ := h
          subst hi_53
          replace h := ob h; obtain ⟨v_54, hv_54, h⟩ := h
          replace h := ob h; obtain ⟨v_55, hv_55, h⟩ := h
          by_cases c_56 : v_55 = 61
          · skip
            replace h := (if_pos c_56).symm.trans h
            replace h := ob h; obtain ⟨v_57, hv_57, h⟩ := h
            replace h := ob h; obtain ⟨i_59, hi_59, h⟩ := h
            subst hi_59
            replace h := ob h; obtain ⟨w_60, hw_60, h⟩ := h
            replace h := ob h; obtain ⟨cs_58, hv_58, h⟩ := h
            replace hq := hq.trans (nb_c_X8_put F cs1 i_59 (u3 + u4) 1 0 cs_58 hv_58)
            have k9 := nb_c_X4_computeInsides_b71 F (c_X4_computeInsides_L3 F lf_3) ih_3 cs_58 u0 u1 u2 u3 u4 cs9 h
            exact hq.trans k9
          · skip
            replace h := (if_neg c_56).symm.trans h
            have k9 := nb_c_X4_computeInsides_b74 F (c_X4_computeInsides_L3 F lf_3) ih_3 cs1 u0 u1 u2 u3 u4 v_46 cs9 h
            exact hq.trans k9
theorem nb_c_X4_computeInsides (F : Nat) (cs : CS) (x0 : Nat) (x1 : Nat) (x2 : Int32) (x3 : Int32) (cs9 : CS) (h : c_X4_computeInsides F cs x0 x1 x2 x3 = some cs9) : NB cs cs9 := by
  unfold c_X4_computeInsides at h
  have hq : NB cs cs := NB.refl
  have k9 := nb_c_X4_computeInsides_L3 F F cs x0 x1 x2 x3 0 cs9 h
  exact hq.trans k9
theorem nb_c_X8_sort_b149 (F : Nat) (cs1 : CS) (cs9 : CS) (h : c_X8_sort_b149 F cs1 = some cs9) : NB cs1 cs9 := by
  unfold c_X8_sort_b149 at h
  have hq : NB cs1 cs1 := NB.refl
  have h9 := Option.some.inj h
  exact hq.to h9
theorem nb_c_X8_sort_b133 (F : Nat) (rc108 : CS → Nat → Int32 → Int32 → Int32 → Int32 → Int32 → Option CS) (hrc108 : ∀ (cs1 : CS) (u0 : Nat) (u1 : Int32) (u2 : Int32) (u3 : Int32) (u5 : Int32) (u6 : Int32) (cs9 : CS), rc108 cs1 u0 u1 u2 u3 u5 u6 = some cs9 → NB cs1 cs9) (cs1 : CS) (u0 : Nat) (u1 : Int32) (u2 : Int32) (u3 : Int32) (u5 : Int32) (u6 : Int32) (cs9 : CS) (h : c_X8_sort_b133 F rc108 cs1 u0 u1 u2 u3 u5 u6 = some cs9) : NB cs1 cs9 := by
  unfold c_X8_sort_b133 at h
  have hq : NB cs1 cs1 := NB.refl
  have k9 := hrc108 cs1 u0 u1 u2 u3 u5 (u6 + 1) cs9 h
  exact hq.trans k9
theorem nb_c_X8_sort_L108 (F : Nat) : ∀ (lf_108 : Nat) (cs1 : CS) (u0 : Nat) (u1 : Int32) (u2 : Int32) (u3 : Int32) (u5 : Int32) (u6 : Int32) (cs9 : CS), c_X8_sort_L108 F lf_108 cs1 u0 u1 u2 u3 u5 u6 = some cs9 → NB cs1 cs9 := by
  intro lf_108
  induction lf_108 with
  | zero => intro cs1 u0 u1 u2 u3 u5 u6 cs9 h; cases (show (none : Option CS) = _ from h)
  | succ lf_108 ih_108 =>
    intro cs1 u0 u1 u2 u3 u5 u6 cs9 h
    rw [c_X8_sort_L108] at h
    have hq : NB cs1 cs1 := NB.refl
    by_cases c_16 : u2 ≤ u6
    · skip
      replace h := (if_pos c_16).symm.trans h
      replace h := ob h; obtain ⟨w_18, hw_18, h⟩ := h
      replace h := ob h; obtain ⟨cs_17, hv_17, h⟩ := h
      replace hq := hq.trans (nb_c_X8_copy F cs1 u0 u5 u1 (u2 * u3) cs_17 hv_17)
      have k9 := nb_c_X8_sort_b149 F cs_17 cs9 h
      exact hq.trans k9
    · skip
      replace h := (if_neg c_16).symm.trans h
      replace h := ob h; obtain ⟨v_19, hv_19, h⟩ := h
      replace h := ob h; obtain ⟨v_20, hv_20, h⟩ := h
      replace h := ob h; obtain ⟨w_22, hw_22, h⟩ := h
      replace h := ob h; obtain ⟨cs_21, hv_21, h⟩ := h
      replace hq := hq.trans (nb_c_X8_copy F cs1 u0 v_20 (u5 + (u6 * u3)) u3 cs_21 hv_21)
      have k9 := nb_c_X8_sort_b133 F (c_X8_sort_L108 F lf_108) ih_108 cs_21 u0 u1 u2 u3 u5 u6 cs9 h
      exact hq.trans k9
theorem nb_c_X8_sort_L73 (F : Nat) : ∀ (lf_73 : Nat) (cs1 : CS) (u0 : Nat) (u1 : Int32) (u2 : Int32) (u3 : Int32) (u4 : Int32) (u5 : Int32) (cs9 : CS), c_X8_sort_L73 F lf_73 cs1 u0 u1 u2 u3 u4 u5 = some cs9 → NB cs1 cs9 := by
  intro lf_73
  induction lf_73 with
  | zero => intro cs1 u0 u1 u2 u3 u4 u5 cs9 h; cases (show (none : Option CS) = _ from h)
  | succ lf_73 ih_73 =>
    intro cs1 u0 u1 u2 u3 u4 u5 cs9 h
    rw [c_X8_sort_L73] at h
    have hq : NB cs1 cs1 := NB.refl
    by_cases c_16 : u2 ≤ u5
    · skip
      replace h := (if_pos c_16).symm.trans h
      have k9 := nb_c_X8_sort_L108 F F cs1 u0 u1 u2 u3 (u1 + (u2 * u3)) 0 cs9 h
      exact hq.trans k9
    · skip
      replace h := (if_neg c_16).symm.trans h
      replace h := ob h; obtain ⟨w_18, hw_18, h⟩ := h
      replace h := ob h; obtain ⟨cs_17, hv_17, h⟩ := h
      replace hq := hq.trans (nb_c_X8_mergeRuns F cs1 u0 u5 u2 u3 u4 cs_17 hv_17)
      have k9 := ih_73 cs_17 u0 u1 u2 u3 u4 (u5 * 2) cs9 h
      exact hq.trans k9
theorem nb_c_X8_sort_L45 (F : Nat) : ∀ (lf_45 : Nat) (cs1 : CS) (u0 : Nat) (u1 : Int32) (u2 : Int32) (u3 : Int32) (u4 : Int32) (u5 : Int32) (cs9 : CS), c_X8_sort_L45 F lf_45 cs1 u0 u1 u2 u3 u4 u5 = some cs9 → NB cs1 cs9 := by
  intro lf_45
  induction lf_45 with
  | zero => intro cs1 u0 u1 u2 u3 u4 u5 cs9 h; cases (show (none : Option CS) = _ from h)
  | succ lf_45 ih_45 =>
    intro cs1 u0 u1 u2 u3 u4 u5 cs9 h
    rw [c_X8_sort_L45] at h
    have hq : NB cs1 cs1 := NB.refl
    by_cases c_16 : u2 ≤ u5
    · skip
      replace h := (if_pos c_16).symm.trans h
      have k9 := nb_c_X8_sort_L73 F F cs1 u0 u1 u2 u3 u4 1 cs9 h
      exact hq.trans k9
    · skip
      replace h := (if_neg c_16).symm.trans h
      replace h := ob h; obtain ⟨v_17, hv_17, h⟩ := h
      replace h := ob h; obtain ⟨cs_18, hv_18, h⟩ := h
      replace hq := hq.trans (NB.wA hv_18)
      have k9 := ih_45 cs_18 u0 u1 u2 u3 u4 (u5 + 1) cs9 h
      exact hq.trans k9
theorem nb_c_X8_sort_b42 (F : Nat) (cs1 : CS) (u0 : Nat) (u1 : Int32) (u2 : Int32) (u3 : Int32) (u4 : Int32) (cs9 : CS) (h : c_X8_sort_b42 F cs1 u0 u1 u2 u3 u4 = some cs9) : NB cs1 cs9 := by
  unfold c_X8_sort_b42 at h
  have hq : NB cs1 cs1 := NB.refl
  have k9 := nb_c_X8_sort_L45 F F cs1 u0 u1 u2 u3 u4 0 cs9 h
  exact hq.trans k9
theorem nb_c_X8_sort_b33 (F : Nat) (cs1 : CS) (u0 : Nat) (u1 : Int32) (u2 : Int32) (u3 : Int32) (u4 : Int32) (cs9 : CS) (h : c_X8_sort_b33 F cs1 u0 u1 u2 u3 u4 = some cs9) : NB cs1 cs9 := by
  unfold c_X8_sort_b33 at h
  have hq : NB cs1 cs1 := NB.refl
  replace h := ob h; obtain ⟨cs_16, hv_16, h⟩ := h
  replace hq := hq.trans (NB.nwA (by decide) hv_16)
  have k9 := nb_c_X8_sort_b42 F cs_16 u0 u1 u2 u3 u4 cs9 h
  exact hq.trans k9
theorem nb_c_X8_sort_b24 (F : Nat) (cs1 : CS) (u0 : Nat) (u1 : Int32) (u2 : Int32) (u3 : Int32) (u4 : Int32) (cs9 : CS) (h : c_X8_sort_b24 F cs1 u0 u1 u2 u3 u4 = some cs9) : NB cs1 cs9 := by
  unfold c_X8_sort_b24 at h
  have hq : NB cs1 cs1 := NB.refl
  replace h := ob h; obtain ⟨cs_16, hv_16, h⟩ := h
  replace hq := hq.trans (NB.nwA (by decide) hv_16)
  have k9 := nb_c_X8_sort_b33 F cs_16 u0 u1 u2 u3 u4 cs9 h
  exact hq.trans k9
theorem nb_c_X8_sort (F : Nat) (cs : CS) (x0 : Nat) (x1 : Int32) (x2 : Int32) (x3 : Int32) (x4 : Int32) (cs9 : CS) (h : c_X8_sort F cs x0 x1 x2 x3 x4 = some cs9) : NB cs cs9 := by
  unfold c_X8_sort at h
  have hq : NB cs cs := NB.refl
  by_cases c_16 : 2 ≤ x2
  · skip
    replace h := (if_pos c_16).symm.trans h
    replace h := ob h; obtain ⟨v_17, hv_17, h⟩ := h
    replace h := ob h; obtain ⟨v_18, hv_18, h⟩ := h
    by_cases c_19 : v_18 < x2
    · skip
      replace h := (if_pos c_19).symm.trans h
      have k9 := nb_c_X8_sort_b24 F cs x0 x1 x2 x3 x4 cs9 h
      exact hq.trans k9
    · skip
      replace h := (if_neg c_19).symm.trans h
      replace h := ob h; obtain ⟨v_20, hv_20, h⟩ := h
      replace h := ob h; obtain ⟨v_21, hv_21, h⟩ := h
      by_cases c_22 : x2 ≤ v_21
      · skip
        replace h := (if_pos c_22).symm.trans h
        have k9 := nb_c_X8_sort_b42 F cs x0 x1 x2 x3 x4 cs9 h
        exact hq.trans k9
      · skip
        replace h := (if_neg c_22).symm.trans h
        have k9 := nb_c_X8_sort_b24 F cs x0 x1 x2 x3 x4 cs9 h
        exact hq.trans k9
  · skip
    replace h := (if_neg c_16).symm.trans h
    have h9 := Option.some.inj h
    exact hq.to h9
theorem nb_c_X4_fold_b116 (F : Nat) (cs1 : CS) (cs9 : CS) (h : c_X4_fold_b116 F cs1 = some cs9) : NB cs1 cs9 := by
  unfold c_X4_fold_b116 at h
  have hq : NB cs1 cs1 := NB.refl
  have h9 := Option.some.inj h
  exact hq.to h9
theorem nb_c_X4_fold_b79 (F : Nat) (rc24 : CS → Nat → Nat → Int32 → Int32 → Int32 → Int32 → Int32 → Option CS) (hrc24 : ∀ (cs1 : CS) (u0 : Nat) (u1 : Nat) (u2 : Int32) (u3 : Int32) (u4 : Int32) (u5 : Int32) (u6 : Int32) (cs9 : CS), rc24 cs1 u0 u1 u2 u3 u4 u5 u6 = some cs9 → NB cs1 cs9) (cs1 : CS) (u0 : Nat) (u1 : Nat) (u2 : Int32) (u3 : Int32) (u4 : Int32) (u5 : Int32) (u6 : Int32) (y0 : Int32) (cs9 : CS) (h : c_X4_fold_b79 F rc24 cs1 u0 u1 u2 u3 u4 u5 u6 y0 = some cs9) : NB cs1 cs9 := by
  unfold c_X4_fold_b79 at h
  have hq : NB cs1 cs1 := NB.refl
  replace h := ob h; obtain ⟨v_20, hv_20, h⟩ := h
  replace h := ob h; obtain ⟨w_22, hw_22, h⟩ := h
  replace h := ob h; obtain ⟨cs_21, hv_21, h⟩ := h
  replace hq := hq.trans (nb_c_X4_foldOne F cs1 u0 y0 ((u2 + u5) + u6) u3 (u5 + v_20) ((u4 + u5) + u6) cs_21 hv_21)
  have k9 := hrc24 cs_21 u0 u1 u2 u3 u4 u5 (u6 + 1) cs9 h
  exact hq.trans k9
theorem nb_c_X4_fold_L24 (F : Nat) : ∀ (lf_24 : Nat) (cs1 : CS) (u0 : Nat) (u1 : Nat) (u2 : Int32) (u3 : Int32) (u4 : Int32) (u5 : Int32) (u6 : Int32) (cs9 : CS), c_X4_fold_L24 F lf_24 cs1 u0 u1 u2 u3 u4 u5 u6 = some cs9 → NB cs1 cs9 := by
  intro lf_24
  induction lf_24 with
  | zero => intro cs1 u0 u1 u2 u3 u4 u5 u6 cs9 h; cases (show (none : Option CS) = _ from h)
  | succ lf_24 ih_24 =>
    intro cs1 u0 u1 u2 u3 u4 u5 u6 cs9 h
    rw [c_X4_fold_L24] at h
    have hq : NB cs1 cs1 := NB.refl
    replace h := ob h; obtain ⟨v_20, hv_20, h⟩ := h
    by_cases c_21 : v_20 ≤ u6
    · skip
      replace h := (if_pos c_21).symm.trans h
      have k9 := nb_c_X4_fold_b116 F cs1 cs9 h
      exact hq.trans k9
    · skip
      replace h := (if_neg c_21).symm.trans h
      replace h := ob h; obtain ⟨v_22, hv_22, h⟩ := h
      replace h := ob h; obtain ⟨v_23, hv_23, h⟩ := h
      by_cases c_24 : v_23 ≤ u6
      · skip
        replace h := (if_pos c_24).symm.trans h
        have k9 := nb_c_X4_fold_b116 F cs1 cs9 h
        exact hq.trans k9
      · skip
        replace h := (if_neg c_24).symm.trans h
        replace h := ob h; obtain ⟨v_25, hv_25, h⟩ := h
        replace h := ob h; obtain ⟨v_26, hv_26, h⟩ := h
        replace h := ob h; obtain ⟨v_27, hv_27, h⟩ := h
        replace h := ob h; obtain ⟨i_29, hi_29, h⟩ := h
        subst hi_29
        replace h := ob h; obtain ⟨w_30, hw_30, h⟩ := h
        replace h := ob h; obtain ⟨v_28, hv_28, h⟩ := h
        by_cases c_31 : v_28 = 0
        · skip
          replace h := (if_pos c_31).symm.trans h
          have k9 := nb_c_X4_fold_b79 F (c_X4_fold_L24 F lf_24) ih_24 cs1 u0 u1 u2 u3 u4 u5 u6 32 cs9 h
          exact hq.trans k9
        · skip
          replace h := (if_neg c_31).symm.trans h
          replace h := ob h; obtain ⟨v_32, hv_32, h⟩ := h
          replace h := ob h; obtain ⟨i_33, hi_33, h⟩ := h
          subst hi_33
          replace h := ob h; obtain ⟨v_34, hv_34, h⟩ := h
          replace h := ob h; obtain ⟨v_35, hv_35, h⟩ := h
          have k9 := nb_c_X4_fold_b79 F (c_X4_fold_L24 F lf_24) ih_24 cs1 u0 u1 u2 u3 u4 u5 u6 v_35 cs9 h
          exact hq.trans k9
theorem nb_c_X4_fold_b21 (F : Nat) (cs1 : CS) (u0 : Nat) (u1 : Nat) (u2 : Int32) (u3 : Int32) (u4 : Int32) (u5 : Int32) (cs9 : CS) (h : c_X4_fold_b21 F cs1 u0 u1 u2 u3 u4 u5 = some cs9) : NB cs1 cs9 := by
  unfold c_X4_fold_b21 at h
  have hq : NB cs1 cs1 := NB.refl
  have k9 := nb_c_X4_fold_L24 F F cs1 u0 u1 u2 u3 u4 u5 0 cs9 h
  exact hq.trans k9
theorem nb_c_X4_fold (F : Nat) (cs : CS) (x0 : Nat) (x1 : Nat) (x2 : Int32) (x3 : Int32) (x4 : Int32) (cs9 : CS) (h : c_X4_fold F cs x0 x1 x2 x3 x4 = some cs9) : NB cs cs9 := by
  unfold c_X4_fold at h
  have hq : NB cs cs := NB.refl
  replace h := ob h; obtain ⟨v_20, hv_20, h⟩ := h
  replace h := ob h; obtain ⟨i_21, hi_21, h⟩ := h
  subst hi_21
  replace h := ob h; obtain ⟨v_22, hv_22, h⟩ := h
  replace h := ob h; obtain ⟨v_23, hv_23, h⟩ := h
  replace h := ob h; obtain ⟨i_25, hi_25, h⟩ := h
  subst hi_25
  replace h := ob h; obtain ⟨w_26, hw_26, h⟩ := h
  replace h := ob h; obtain ⟨cs_24, hv_24, h⟩ := h
  replace hq := hq.trans (nb_c_X8_copy F cs i_25 x2 x4 v_22 cs_24 hv_24)
  have k9 := nb_c_X4_fold_b21 F cs_24 x0 x1 x2 x3 x4 v_22 cs9 h
  exact hq.trans k9
theorem nb_c_X4_project_b61 (F : Nat) (cs1 : CS) (cs9 : CS) (h : c_X4_project_b61 F cs1 = some cs9) : NB cs1 cs9 := by
  unfold c_X4_project_b61 at h
  have hq : NB cs1 cs1 := NB.refl
  have h9 := Option.some.inj h
  exact hq.to h9
theorem nb_c_X4_project_b39 (F : Nat) (rc11 : CS → Nat → Nat → Int32 → Int32 → Int32 → Int32 → Int32 → Option CS) (hrc11 : ∀ (cs1 : CS) (u0 : Nat) (u1 : Nat) (u2 : Int32) (u3 : Int32) (u4 : Int32) (u5 : Int32) (u6 : Int32) (cs9 : CS), rc11 cs1 u0 u1 u2 u3 u4 u5 u6 = some cs9 → NB cs1 cs9) (cs1 : CS) (u0 : Nat) (u1 : Nat) (u2 : Int32) (u3 : Int32) (u4 : Int32) (u5 : Int32) (u6 : Int32) (cs9 : CS) (h : c_X4_project_b39 F rc11 cs1 u0 u1 u2 u3 u4 u5 u6 = some cs9) : NB cs1 cs9 := by
  unfold c_X4_project_b39 at h
  have hq : NB cs1 cs1 := NB.refl
  have k9 := hrc11 cs1 u0 u1 u2 u3 u4 u5 (u6 + 1) cs9 h
  exact hq.trans k9
theorem nb_c_X4_project_L11 (F : Nat) : ∀ (lf_11 : Nat) (cs1 : CS) (u0 : Nat) (u1 : Nat) (u2 : Int32) (u3 : Int32) (u4 : Int32) (u5 : Int32) (u6 : Int32) (cs9 : CS), c_X4_project_L11 F lf_11 cs1 u0 u1 u2 u3 u4 u5 u6 = some cs9 → NB cs1 cs9 := by
  intro lf_11
  induction lf_11 with
  | zero => intro cs1 u0 u1 u2 u3 u4 u5 u6 cs9 h; cases (show (none : Option CS) = _ from h)
  | succ lf_11 ih_11 =>
    intro cs1 u0 u1 u2 u3 u4 u5 u6 cs9 h
    rw [c_X4_project_L11] at h
    have hq : NB cs1 cs1 := NB.refl
    by_cases c_10 : u3 ≤ u6
    · skip
      replace h := (if_pos c_10).symm.trans h
      replace h := ob h; obtain ⟨v_11, hv_11, h⟩ := h
      replace h := ob h; obtain ⟨v_12, hv_12, h⟩ := h
      replace h := ob h; obtain ⟨i_14, hi_14, h⟩ := h
      subst hi_14
      replace h := ob h; obtain ⟨w_15, hw_15, h⟩ := h
      replace h := ob h; obtain ⟨cs_13, hv_13, h⟩ := h
      replace hq := hq.trans (nb_c_X8_copy F cs1 i_14 u5 u2 (u3 * v_12) cs_13 hv_13)
      have k9 := nb_c_X4_project_b61 F cs_13 cs9 h
      exact hq.trans k9
    · skip
      replace h := (if_neg c_10).symm.trans h
      replace h := ob h; obtain ⟨v_16, hv_16, h⟩ := h
      replace h := ob h; obtain ⟨w_18, hw_18, h⟩ := h
      replace h := ob h; obtain ⟨cs_17, hv_17, h⟩ := h
      replace hq := hq.trans (nb_c_X4_computeAll F cs1 u0 u1 (u2 + (u6 * u4)) (u5 + (u6 * v_16)) cs_17 hv_17)
      have k9 := nb_c_X4_project_b39 F (c_X4_project_L11 F lf_11) ih_11 cs_17 u0 u1 u2 u3 u4 u5 u6 cs9 h
      exact hq.trans k9
theorem nb_c_X4_project (F : Nat) (cs : CS) (x0 : Nat) (x1 : Nat) (x2 : Int32) (x3 : Int32) (x4 : Int32) (cs9 : CS) (h : c_X4_project F cs x0 x1 x2 x3 x4 = some cs9) : NB cs cs9 := by
  unfold c_X4_project at h
  have hq : NB cs cs := NB.refl
  have k9 := nb_c_X4_project_L11 F F cs x0 x1 x2 x3 x4 (x2 + (x3 * x4)) 0 cs9 h
  exact hq.trans k9
theorem nb_c_X8_once_b65 (F : Nat) (rc6 : CS → Nat → Int32 → Int32 → Int32 → Int32 → Int32 → Option (CS × Int32)) (hrc6 : ∀ (cs1 : CS) (u0 : Nat) (u1 : Int32) (u2 : Int32) (u3 : Int32) (u4 : Int32) (u5 : Int32) (cs9 : CS) (r9 : Int32), rc6 cs1 u0 u1 u2 u3 u4 u5 = some (cs9, r9) → NB cs1 cs9) (cs1 : CS) (u0 : Nat) (u1 : Int32) (u2 : Int32) (u3 : Int32) (u4 : Int32) (u5 : Int32) (cs9 : CS) (r9 : Int32) (h : c_X8_once_b65 F rc6 cs1 u0 u1 u2 u3 u4 u5 = some (cs9, r9)) : NB cs1 cs9 := by
  unfold c_X8_once_b65 at h
  have hq : NB cs1 cs1 := NB.refl
  have k9 := hrc6 cs1 u0 u1 u2 u3 u4 (u5 + 1) cs9 r9 h
  exact hq.trans k9
theorem nb_c_X8_once_b62 (F : Nat) (rc6 : CS → Nat → Int32 → Int32 → Int32 → Int32 → Int32 → Option (CS × Int32)) (hrc6 : ∀ (cs1 : CS) (u0 : Nat) (u1 : Int32) (u2 : Int32) (u3 : Int32) (u4 : Int32) (u5 : Int32) (cs9 : CS) (r9 : Int32), rc6 cs1 u0 u1 u2 u3 u4 u5 = some (cs9, r9) → NB cs1 cs9) (cs1 : CS) (u0 : Nat) (u1 : Int32) (u2 : Int32) (u3 : Int32) (u4 : Int32) (u5 : Int32) (cs9 : CS) (r9 : Int32) (h : c_X8_once_b62 F rc6 cs1 u0 u1 u2 u3 u4 u5 = some (cs9, r9)) : NB cs1 cs9 := by
  unfold c_X8_once_b62 at h
  have hq : NB cs1 cs1 := NB.refl
  have k9 := nb_c_X8_once_b65 F rc6 hrc6 cs1 u0 u1 u2 u3 (u4 + 1) u5 cs9 r9 h
  exact hq.trans k9
theorem nb_c_X8_once_b49 (F : Nat) (rc6 : CS → Nat → Int32 → Int32 → Int32 → Int32 → Int32 → Option (CS × Int32)) (hrc6 : ∀ (cs1 : CS) (u0 : Nat) (u1 : Int32) (u2 : Int32) (u3 : Int32) (u4 : Int32) (u5 : Int32) (cs9 : CS) (r9 : Int32), rc6 cs1 u0 u1 u2 u3 u4 u5 = some (cs9, r9) → NB cs1 cs9) (cs1 : CS) (u0 : Nat) (u1 : Int32) (u2 : Int32) (u3 : Int32) (u4 : Int32) (u5 : Int32) (u6 : Int32) (cs9 : CS) (r9 : Int32) (h : c_X8_once_b49 F rc6 cs1 u0 u1 u2 u3 u4 u5 u6 = some (cs9, r9)) : NB cs1 cs9 := by
  unfold c_X8_once_b49 at h
  have hq : NB cs1 cs1 := NB.refl
  replace h := ob h; obtain ⟨w_9, hw_9, h⟩ := h
  replace h := ob h; obtain ⟨cs_8, hv_8, h⟩ := h
  replace hq := hq.trans (nb_c_X8_copy F cs1 u0 u6 (u1 + (u4 * u3)) u3 cs_8 hv_8)
  have k9 := nb_c_X8_once_b62 F rc6 hrc6 cs_8 u0 u1 u2 u3 u4 u5 cs9 r9 h
  exact hq.trans k9
theorem nb_c_X8_once_L6 (F : Nat) : ∀ (lf_6 : Nat) (cs1 : CS) (u0 : Nat) (u1 : Int32) (u2 : Int32) (u3 : Int32) (u4 : Int32) (u5 : Int32) (cs9 : CS) (r9 : Int32), c_X8_once_L6 F lf_6 cs1 u0 u1 u2 u3 u4 u5 = some (cs9, r9) → NB cs1 cs9 := by
  intro lf_6
  induction lf_6 with
  | zero => intro cs1 u0 u1 u2 u3 u4 u5 cs9 r9 h; cases (show (none : Option (CS × Int32)) = _ from h)
  | succ lf_6 ih_6 =>
    intro cs1 u0 u1 u2 u3 u4 u5 cs9 r9 h
    rw [c_X8_once_L6] at h
    have hq : NB cs1 cs1 := NB.refl
    by_cases c_8 : u2 ≤ u5
    · skip
      replace h := (if_pos c_8).symm.trans h
      have h9 := (Prod.mk.inj (Option.some.inj h)).1
      exact hq.to h9
    · skip
      replace h := (if_neg c_8).symm.trans h
      by_cases c_9 : u4 = 0
      · skip
        replace h := (if_pos c_9).symm.trans h
        have k9 := nb_c_X8_once_b49 F (c_X8_once_L6 F lf_6) ih_6 cs1 u0 u1 u2 u3 u4 u5 (u1 + (u5 * u3)) cs9 r9 h
        exact hq.trans k9
      · skip
        replace h := (if_neg c_9).symm.trans h
        replace h := ob h; obtain ⟨w_11, hw_11, h⟩ := h
        replace h := ob h; obtain ⟨v_10, hv_10, h⟩ := h
        by_cases c_12 : v_10 = 0
        · skip
          replace h := (if_pos c_12).symm.trans h
          have k9 := nb_c_X8_once_b65 F (c_X8_once_L6 F lf_6) ih_6 cs1 u0 u1 u2 u3 u4 u5 cs9 r9 h
          exact hq.trans k9
        · skip
          replace h := (if_neg c_12).symm.trans h
          have k9 := nb_c_X8_once_b49 F (c_X8_once_L6 F lf_6) ih_6 cs1 u0 u1 u2 u3 u4 u5 (u1 + (u5 * u3)) cs9 r9 h
          exact hq.trans k9
theorem nb_c_X8_once (F : Nat) (cs : CS) (x0 : Nat) (x1 : Int32) (x2 : Int32) (x3 : Int32) (cs9 : CS) (r9 : Int32) (h : c_X8_once F cs x0 x1 x2 x3 = some (cs9, r9)) : NB cs cs9 := by
  unfold c_X8_once at h
  have hq : NB cs cs := NB.refl
  have k9 := nb_c_X8_once_L6 F F cs x0 x1 x2 x3 0 0 cs9 r9 h
  exact hq.trans k9
theorem nb_c_X4_sift_b114 (F : Nat) (rc14 : CS → Nat → Int32 → Int32 → Int32 → Int32 → Int32 → Int32 → Int32 → Int32 → Option (CS × Int32)) (hrc14 : ∀ (cs1 : CS) (u0 : Nat) (u1 : Int32) (u2 : Int32) (u3 : Int32) (u4 : Int32) (u5 : Int32) (u6 : Int32) (u7 : Int32) (u8 : Int32) (cs9 : CS) (r9 : Int32), rc14 cs1 u0 u1 u2 u3 u4 u5 u6 u7 u8 = some (cs9, r9) → NB cs1 cs9) (cs1 : CS) (u0 : Nat) (u1 : Int32) (u2 : Int32) (u3 : Int32) (u4 : Int32) (u5 : Int32) (u6 : Int32) (u7 : Int32) (u8 : Int32) (cs9 : CS) (r9 : Int32) (h : c_X4_sift_b114 F rc14 cs1 u0 u1 u2 u3 u4 u5 u6 u7 u8 = some (cs9, r9)) : NB cs1 cs9 := by
  unfold c_X4_sift_b114 at h
  have hq : NB cs1 cs1 := NB.refl
  have k9 := hrc14 cs1 u0 u1 u2 u3 u4 u5 u6 u7 (u8 + 1) cs9 r9 h
  exact hq.trans k9
theorem nb_c_X4_sift_b111 (F : Nat) (rc14 : CS → Nat → Int32 → Int32 → Int32 → Int32 → Int32 → Int32 → Int32 → Int32 → Option (CS × Int32)) (hrc14 : ∀ (cs1 : CS) (u0 : Nat) (u1 : Int32) (u2 : Int32) (u3 : Int32) (u4 : Int32) (u5 : Int32) (u6 : Int32) (u7 : Int32) (u8 : Int32) (cs9 : CS) (r9 : Int32), rc14 cs1 u0 u1 u2 u3 u4 u5 u6 u7 u8 = some (cs9, r9) → NB cs1 cs9) (cs1 : CS) (u0 : Nat) (u1 : Int32) (u2 : Int32) (u3 : Int32) (u4 : Int32) (u5 : Int32) (u6 : Int32) (u7 : Int32) (u8 : Int32) (cs9 : CS) (r9 : Int32) (h : c_X4_sift_b111 F rc14 cs1 u0 u1 u2 u3 u4 u5 u6 u7 u8 = some (cs9, r9)) : NB cs1 cs9 := by
  unfold c_X4_sift_b111 at h
  have hq : NB cs1 cs1 := NB.refl
  have k9 := nb_c_X4_sift_b114 F rc14 hrc14 cs1 u0 u1 u2 u3 u4 u5 u6 (u7 + 1) u8 cs9 r9 h
  exact hq.trans k9
theorem nb_c_X4_sift_b87 (F : Nat) (rc14 : CS → Nat → Int32 → Int32 → Int32 → Int32 → Int32 → Int32 → Int32 → Int32 → Option (CS × Int32)) (hrc14 : ∀ (cs1 : CS) (u0 : Nat) (u1 : Int32) (u2 : Int32) (u3 : Int32) (u4 : Int32) (u5 : Int32) (u6 : Int32) (u7 : Int32) (u8 : Int32) (cs9 : CS) (r9 : Int32), rc14 cs1 u0 u1 u2 u3 u4 u5 u6 u7 u8 = some (cs9, r9) → NB cs1 cs9) (cs1 : CS) (u0 : Nat) (u1 : Int32) (u2 : Int32) (u3 : Int32) (u4 : Int32) (u5 : Int32) (u6 : Int32) (u7 : Int32) (u8 : Int32) (u9 : Int32) (u10 : Int32) (cs9 : CS) (r9 : Int32) (h : c_X4_sift_b87 F rc14 cs1 u0 u1 u2 u3 u4 u5 u6 u7 u8 u9 u10 = some (cs9, r9)) : NB cs1 cs9 := by
  unfold c_X4_sift_b87 at h
  have hq : NB cs1 cs1 := NB.refl
  by_cases c_16 : u10 = u1
  · skip
    replace h := (if_pos c_16).symm.trans h
    replace h := ob h; obtain ⟨v_17, hv_17, h⟩ := h
    replace h := ob h; obtain ⟨i_19, hi_19, h⟩ := h
    subst hi_19
    replace h := ob h; obtain ⟨w_20, hw_20, h⟩ := h
    replace h := ob h; obtain ⟨cs_18, hv_18, h⟩ := h
    replace hq := hq.trans (nb_c_X8_copy F cs1 i_19 u9 (u2 + (u7 * u5)) u5 cs_18 hv_18)
    have k9 := nb_c_X4_sift_b111 F rc14 hrc14 cs_18 u0 u1 u2 u3 u4 u5 u6 u7 u8 cs9 r9 h
    exact hq.trans k9
  · skip
    replace h := (if_neg c_16).symm.trans h
    have k9 := nb_c_X4_sift_b114 F rc14 hrc14 cs1 u0 u1 u2 u3 u4 u5 u6 u7 u8 cs9 r9 h
    exact hq.trans k9
theorem nb_c_X4_sift_b79 (F : Nat) (rc14 : CS → Nat → Int32 → Int32 → Int32 → Int32 → Int32 → Int32 → Int32 → Int32 → Option (CS × Int32)) (hrc14 : ∀ (cs1 : CS) (u0 : Nat) (u1 : Int32) (u2 : Int32) (u3 : Int32) (u4 : Int32) (u5 : Int32) (u6 : Int32) (u7 : Int32) (u8 : Int32) (cs9 : CS) (r9 : Int32), rc14 cs1 u0 u1 u2 u3 u4 u5 u6 u7 u8 = some (cs9, r9) → NB cs1 cs9) (rc35 : CS → Nat → Int32 → Int32 → Int32 → Int32 → Int32 → Int32 → Int32 → Int32 → Int32 → Int32 → Int32 → Option (CS × Int32)) (hrc35 : ∀ (cs1 : CS) (u0 : Nat) (u1 : Int32) (u2 : Int32) (u3 : Int32) (u4 : Int32) (u5 : Int32) (u6 : Int32) (u7 : Int32) (u8 : Int32) (u9 : Int32) (u10 : Int32) (u11 : Int32) (cs9 : CS) (r9 : Int32), rc35 cs1 u0 u1 u2 u3 u4 u5 u6 u7 u8 u9 u10 u11 = some (cs9, r9) → NB cs1 cs9) (cs1 : CS) (u0 : Nat) (u1 : Int32) (u2 : Int32) (u3 : Int32) (u4 : Int32) (u5 : Int32) (u6 : Int32) (u7 : Int32) (u8 : Int32) (u9 : Int32) (u11 : Int32) (y0 : Int32) (cs9 : CS) (r9 : Int32) (h : c_X4_sift_b79 F rc14 rc35 cs1 u0 u1 u2 u3 u4 u5 u6 u7 u8 u9 u11 y0 = some (cs9, r9)) : NB cs1 cs9 := by
  unfold c_X4_sift_b79 at h
  have hq : NB cs1 cs1 := NB.refl
  have k9 := hrc35 cs1 u0 u1 u2 u3 u4 u5 u6 u7 u8 u9 y0 (u11 + 1) cs9 r9 h
  exact hq.trans k9
theorem nb_c_X4_sift_L35 (F : Nat) (rc14 : CS → Nat → Int32 → Int32 → Int32 → Int32 → Int32 → Int32 → Int32 → Int32 → Option (CS × Int32)) (hrc14 : ∀ (cs1 : CS) (u0 : Nat) (u1 : Int32) (u2 : Int32) (u3 : Int32) (u4 : Int32) (u5 : Int32) (u6 : Int32) (u7 : Int32) (u8 : Int32) (cs9 : CS) (r9 : Int32), rc14 cs1 u0 u1 u2 u3 u4 u5 u6 u7 u8 = some (cs9, r9) → NB cs1 cs9) : ∀ (lf_35 : Nat) (cs1 : CS) (u0 : Nat) (u1 : Int32) (u2 : Int32) (u3 : Int32) (u4 : Int32) (u5 : Int32) (u6 : Int32) (u7 : Int32) (u8 : Int32) (u9 : Int32) (u10 : Int32) (u11 : Int32) (cs9 : CS) (r9 : Int32), c_X4_sift_L35 F rc14 lf_35 cs1 u0 u1 u2 u3 u4 u5 u6 u7 u8 u9 u10 u11 = some (cs9, r9) → NB cs1 cs9 := by
  intro lf_35
  induction lf_35 with
  | zero => intro cs1 u0 u1 u2 u3 u4 u5 u6 u7 u8 u9 u10 u11 cs9 r9 h; cases (show (none : Option (CS × Int32)) = _ from h)
  | succ lf_35 ih_35 =>
    intro cs1 u0 u1 u2 u3 u4 u5 u6 u7 u8 u9 u10 u11 cs9 r9 h
    rw [c_X4_sift_L35] at h
    have hq : NB cs1 cs1 := NB.refl
    by_cases c_16 : u4 ≤ u11
    · skip
      replace h := (if_pos c_16).symm.trans h
      have k9 := nb_c_X4_sift_b87 F rc14 hrc14 cs1 u0 u1 u2 u3 u4 u5 u6 u7 u8 u9 u10 cs9 r9 h
      exact hq.trans k9
    · skip
      replace h := (if_neg c_16).symm.trans h
      by_cases c_17 : u10 = 0
      · skip
        replace h := (if_pos c_17).symm.trans h
        replace h := ob h; obtain ⟨v_18, hv_18, h⟩ := h
        replace h := ob h; obtain ⟨v_19, hv_19, h⟩ := h
        replace h := ob h; obtain ⟨i_20, hi_20, h⟩ := h
        subst hi_20
        replace h := ob h; obtain ⟨i_22, hi_22, h⟩ := h
        subst hi_22
        replace h := ob h; obtain ⟨w_23, hw_23, h⟩ := h
        replace h := ob h; obtain ⟨v_21, hv_21, h⟩ := h
        by_cases c_24 : v_21 = 0
        · skip
          replace h := (if_pos c_24).symm.trans h
          have k9 := nb_c_X4_sift_b79 F rc14 hrc14 (c_X4_sift_L35 F rc14 lf_35) ih_35 cs1 u0 u1 u2 u3 u4 u5 u6 u7 u8 u9 u11 1 cs9 r9 h
          exact hq.trans k9
        · skip
          replace h := (if_neg c_24).symm.trans h
          have k9 := nb_c_X4_sift_b79 F rc14 hrc14 (c_X4_sift_L35 F rc14 lf_35) ih_35 cs1 u0 u1 u2 u3 u4 u5 u6 u7 u8 u9 u11 0 cs9 r9 h
          exact hq.trans k9
      · skip
        replace h := (if_neg c_17).symm.trans h
        have k9 := nb_c_X4_sift_b87 F rc14 hrc14 cs1 u0 u1 u2 u3 u4 u5 u6 u7 u8 u9 u10 cs9 r9 h
        exact hq.trans k9
theorem nb_c_X4_sift_L14 (F : Nat) : ∀ (lf_14 : Nat) (cs1 : CS) (u0 : Nat) (u1 : Int32) (u2 : Int32) (u3 : Int32) (u4 : Int32) (u5 : Int32) (u6 : Int32) (u7 : Int32) (u8 : Int32) (cs9 : CS) (r9 : Int32), c_X4_sift_L14 F lf_14 cs1 u0 u1 u2 u3 u4 u5 u6 u7 u8 = some (cs9, r9) → NB cs1 cs9 := by
  intro lf_14
  induction lf_14 with
  | zero => intro cs1 u0 u1 u2 u3 u4 u5 u6 u7 u8 cs9 r9 h; cases (show (none : Option (CS × Int32)) = _ from h)
  | succ lf_14 ih_14 =>
    intro cs1 u0 u1 u2 u3 u4 u5 u6 u7 u8 cs9 r9 h
    rw [c_X4_sift_L14] at h
    have hq : NB cs1 cs1 := NB.refl
    by_cases c_16 : u3 ≤ u8
    · skip
      replace h := (if_pos c_16).symm.trans h
      have h9 := (Prod.mk.inj (Option.some.inj h)).1
      exact hq.to h9
    · skip
      replace h := (if_neg c_16).symm.trans h
      have k9 := nb_c_X4_sift_L35 F (c_X4_sift_L14 F lf_14) ih_14 F cs1 u0 u1 u2 u3 u4 u5 u6 u7 u8 (u2 + (u8 * u5)) 0 0 cs9 r9 h
      exact hq.trans k9
theorem nb_c_X4_sift (F : Nat) (cs : CS) (x0 : Nat) (x1 : Int32) (x2 : Int32) (x3 : Int32) (x4 : Int32) (x5 : Int32) (cs9 : CS) (r9 : Int32) (h : c_X4_sift F cs x0 x1 x2 x3 x4 x5 = some (cs9, r9)) : NB cs cs9 := by
  unfold c_X4_sift at h
  have hq : NB cs cs := NB.refl
  have k9 := nb_c_X4_sift_L14 F F cs x0 x1 x2 x3 x4 x5 (x2 + (x3 * x5)) 0 0 cs9 r9 h
  exact hq.trans k9
theorem nb_c_X4_combine_b69 (F : Nat) (cs1 : CS) (y0 : Int32) (cs9 : CS) (r9 : Int32) (h : c_X4_combine_b69 F cs1 y0 = some (cs9, r9)) : NB cs1 cs9 := by
  unfold c_X4_combine_b69 at h
  have hq : NB cs1 cs1 := NB.refl
  have h9 := (Prod.mk.inj (Option.some.inj h)).1
  exact hq.to h9
theorem nb_c_X4_combine_b57 (F : Nat) (cs1 : CS) (u0 : Nat) (u2 : Int32) (u5 : Int32) (u6 : Int32) (cs9 : CS) (r9 : Int32) (h : c_X4_combine_b57 F cs1 u0 u2 u5 u6 = some (cs9, r9)) : NB cs1 cs9 := by
  unfold c_X4_combine_b57 at h
  have hq : NB cs1 cs1 := NB.refl
  replace h := ob h; obtain ⟨v_11, hv_11, h⟩ := h
  replace h := ob h; obtain ⟨i_13, hi_13, h⟩ := h
  subst hi_13
  replace h := ob h; obtain ⟨w_14, hw_14, h⟩ := h
  replace h := ob h; obtain ⟨z_12, hv_12, h⟩ := h
  replace hq := hq.trans (nb_c_X8_once F cs1 i_13 u2 u6 u5 z_12.1 z_12.2 hv_12)
  have k9 := nb_c_X4_combine_b69 F z_12.1 z_12.2 cs9 r9 h
  exact hq.trans k9
theorem nb_c_X4_combine_b44 (F : Nat) (cs1 : CS) (u0 : Nat) (u2 : Int32) (u5 : Int32) (u6 : Int32) (cs9 : CS) (r9 : Int32) (h : c_X4_combine_b44 F cs1 u0 u2 u5 u6 = some (cs9, r9)) : NB cs1 cs9 := by
  unfold c_X4_combine_b44 at h
  have hq : NB cs1 cs1 := NB.refl
  replace h := ob h; obtain ⟨v_11, hv_11, h⟩ := h
  replace h := ob h; obtain ⟨i_13, hi_13, h⟩ := h
  subst hi_13
  replace h := ob h; obtain ⟨w_14, hw_14, h⟩ := h
  replace h := ob h; obtain ⟨cs_12, hv_12, h⟩ := h
  replace hq := hq.trans (nb_c_X8_sort F cs1 i_13 u2 u6 u5 0 cs_12 hv_12)
  have k9 := nb_c_X4_combine_b57 F cs_12 u0 u2 u5 u6 cs9 r9 h
  exact hq.trans k9
theorem nb_c_X4_combine_b42 (F : Nat) (cs1 : CS) (u0 : Nat) (u2 : Int32) (u5 : Int32) (y0 : Int32) (cs9 : CS) (r9 : Int32) (h : c_X4_combine_b42 F cs1 u0 u2 u5 y0 = some (cs9, r9)) : NB cs1 cs9 := by
  unfold c_X4_combine_b42 at h
  have hq : NB cs1 cs1 := NB.refl
  have k9 := nb_c_X4_combine_b44 F cs1 u0 u2 u5 y0 cs9 r9 h
  exact hq.trans k9
theorem nb_c_X4_combine_b33 (F : Nat) (cs1 : CS) (u0 : Nat) (u2 : Int32) (u3 : Int32) (u4 : Int32) (u5 : Int32) (y0 : Int32) (y1 : Nat) (cs9 : CS) (r9 : Int32) (h : c_X4_combine_b33 F cs1 u0 u2 u3 u4 u5 y0 y1 = some (cs9, r9)) : NB cs1 cs9 := by
  unfold c_X4_combine_b33 at h
  have hq : NB cs1 cs1 := NB.refl
  replace h := ob h; obtain ⟨w_12, hw_12, h⟩ := h
  replace h := ob h; obtain ⟨z_11, hv_11, h⟩ := h
  replace hq := hq.trans (nb_c_X4_sift F cs1 y1 y0 u2 u3 u4 u5 z_11.1 z_11.2 hv_11)
  have k9 := nb_c_X4_combine_b42 F z_11.1 u0 u2 u5 z_11.2 cs9 r9 h
  exact hq.trans k9
theorem nb_c_X4_combine (F : Nat) (cs : CS) (x0 : Nat) (x1 : Int32) (x2 : Int32) (x3 : Int32) (x4 : Int32) (x5 : Int32) (cs9 : CS) (r9 : Int32) (h : c_X4_combine F cs x0 x1 x2 x3 x4 x5 = some (cs9, r9)) : NB cs cs9 := by
  unfold c_X4_combine at h
  have hq : NB cs cs := NB.refl
  by_cases c_11 : x1 = 11
  · skip
    replace h := (if_pos c_11).symm.trans h
    have h9 := (Prod.mk.inj (Option.some.inj h)).1
    exact hq.to h9
  · skip
    replace h := (if_neg c_11).symm.trans h
    by_cases c_12 : x1 = 10
    · skip
      replace h := (if_pos c_12).symm.trans h
      have k9 := nb_c_X4_combine_b44 F cs x0 x2 x5 (x3 + x4) cs9 r9 h
      exact hq.trans k9
    · skip
      replace h := (if_neg c_12).symm.trans h
      by_cases c_13 : x1 = 13
      · skip
        replace h := (if_pos c_13).symm.trans h
        have k9 := nb_c_X4_combine_b33 F cs x0 x2 x3 x4 x5 1 x0 cs9 r9 h
        exact hq.trans k9
      · skip
        replace h := (if_neg c_13).symm.trans h
        have k9 := nb_c_X4_combine_b33 F cs x0 x2 x3 x4 x5 0 x0 cs9 r9 h
        exact hq.trans k9
theorem nb_c_X8_take_b57 (F : Nat) (cs1 : CS) (cs9 : CS) (h : c_X8_take_b57 F cs1 = some cs9) : NB cs1 cs9 := by
  unfold c_X8_take_b57 at h
  have hq : NB cs1 cs1 := NB.refl
  have h9 := Option.some.inj h
  exact hq.to h9
theorem nb_c_X8_take_b5 (F : Nat) (cs1 : CS) (u0 : Nat) (u1 : Nat) (u2 : Int32) (cs9 : CS) (h : c_X8_take_b5 F cs1 u0 u1 u2 = some cs9) : NB cs1 cs9 := by
  unfold c_X8_take_b5 at h
  have hq : NB cs1 cs1 := NB.refl
  by_cases c_14 : u2 ≤ 0
  · skip
    replace h := (if_pos c_14).symm.trans h
    have k9 := nb_c_X8_take_b57 F cs1 cs9 h
    exact hq.trans k9
  · skip
    replace h := (if_neg c_14).symm.trans h
    replace h := ob h; obtain ⟨w_16, hw_16, h⟩ := h
    replace h := ob h; obtain ⟨v_15, hv_15, h⟩ := h
    by_cases c_17 : v_15 = 0
    · skip
      replace h := (if_pos c_17).symm.trans h
      have k9 := nb_c_X8_take_b57 F cs1 cs9 h
      exact hq.trans k9
    · skip
      replace h := (if_neg c_17).symm.trans h
      replace h := ob h; obtain ⟨w_19, hw_19, h⟩ := h
      replace h := ob h; obtain ⟨v_18, hv_18, h⟩ := h
      by_cases c_20 : v_18 = 0
      · skip
        replace h := (if_pos c_20).symm.trans h
        have k9 := nb_c_X8_take_b57 F cs1 cs9 h
        exact hq.trans k9
      · skip
        replace h := (if_neg c_20).symm.trans h
        replace h := ob h; obtain ⟨v_21, hv_21, h⟩ := h
        replace h := ob h; obtain ⟨v_22, hv_22, h⟩ := h
        replace h := ob h; obtain ⟨cs_23, hv_23, h⟩ := h
        replace hq := hq.trans (NB.cpB hv_23)
        replace h := ob h; obtain ⟨v_24, hv_24, h⟩ := h
        replace h := ob h; obtain ⟨v_25, hv_25, h⟩ := h
        replace h := ob h; obtain ⟨cs_26, hv_26, h⟩ := h
        replace hq := hq.trans (NB.cpA hv_26)
        have k9 := nb_c_X8_take_b57 F cs_26 cs9 h
        exact hq.trans k9
theorem nb_c_X8_take (F : Nat) (cs : CS) (x0 : Nat) (x1 : Nat) (x2 : Int32) (cs9 : CS) (h : c_X8_take F cs x0 x1 x2 = some cs9) : NB cs cs9 := by
  unfold c_X8_take at h
  have hq : NB cs cs := NB.refl
  replace h := ob h; obtain ⟨w_15, hw_15, h⟩ := h
  replace h := ob h; obtain ⟨cs_14, hv_14, h⟩ := h
  replace hq := hq.trans (nb_c_X8_reserve F cs x0 x2 cs_14 hv_14)
  have k9 := nb_c_X8_take_b5 F cs_14 x0 x1 x2 cs9 h
  exact hq.trans k9
theorem nb_c_X4_join_b229 (F : Nat) (cs1 : CS) (u10 : Int32) (cs9 : CS) (r9 : Int32) (h : c_X4_join_b229 F cs1 u10 = some (cs9, r9)) : NB cs1 cs9 := by
  unfold c_X4_join_b229 at h
  have hq : NB cs1 cs1 := NB.refl
  have h9 := (Prod.mk.inj (Option.some.inj h)).1
  exact hq.to h9
theorem nb_c_X4_join_b208 (F : Nat) (rc46 : CS → Nat → Nat → Int32 → Int32 → Int32 → Int32 → Int32 → Int32 → Int32 → Int32 → Int32 → Int32 → Option (CS × Int32)) (hrc46 : ∀ (cs1 : CS) (u0 : Nat) (u1 : Nat) (u2 : Int32) (u3 : Int32) (u4 : Int32) (u5 : Int32) (u6 : Int32) (u7 : Int32) (u8 : Int32) (u9 : Int32) (u10 : Int32) (u11 : Int32) (cs9 : CS) (r9 : Int32), rc46 cs1 u0 u1 u2 u3 u4 u5 u6 u7 u8 u9 u10 u11 = some (cs9, r9) → NB cs1 cs9) (cs1 : CS) (u0 : Nat) (u1 : Nat) (u2 : Int32) (u3 : Int32) (u4 : Int32) (u5 : Int32) (u6 : Int32) (u7 : Int32) (u8 : Int32) (u9 : Int32) (u10 : Int32) (u11 : Int32) (cs9 : CS) (r9 : Int32) (h : c_X4_join_b208 F rc46 cs1 u0 u1 u2 u3 u4 u5 u6 u7 u8 u9 u10 u11 = some (cs9, r9)) : NB cs1 cs9 := by
  unfold c_X4_join_b208 at h
  have hq : NB cs1 cs1 := NB.refl
  have k9 := hrc46 cs1 u0 u1 u2 u3 u4 u5 u6 u7 u8 u9 u10 (u11 + 1) cs9 r9 h
  exact hq.trans k9
theorem nb_c_X4_join_b205 (F : Nat) (rc46 : CS → Nat → Nat → Int32 → Int32 → Int32 → Int32 → Int32 → Int32 → Int32 → Int32 → Int32 → Int32 → Option (CS × Int32)) (hrc46 : ∀ (cs1 : CS) (u0 : Nat) (u1 : Nat) (u2 : Int32) (u3 : Int32) (u4 : Int32) (u5 : Int32) (u6 : Int32) (u7 : Int32) (u8 : Int32) (u9 : Int32) (u10 : Int32) (u11 : Int32) (cs9 : CS) (r9 : Int32), rc46 cs1 u0 u1 u2 u3 u4 u5 u6 u7 u8 u9 u10 u11 = some (cs9, r9) → NB cs1 cs9) (cs1 : CS) (u0 : Nat) (u1 : Nat) (u2 : Int32) (u3 : Int32) (u4 : Int32) (u5 : Int32) (u6 : Int32) (u7 : Int32) (u8 : Int32) (u9 : Int32) (u10 : Int32) (u11 : Int32) (cs9 : CS) (r9 : Int32) (h : c_X4_join_b205 F rc46 cs1 u0 u1 u2 u3 u4 u5 u6 u7 u8 u9 u10 u11 = some (cs9, r9)) : NB cs1 cs9 := by
  unfold c_X4_join_b205 at h
  have hq : NB cs1 cs1 := NB.refl
  have k9 := nb_c_X4_join_b208 F rc46 hrc46 cs1 u0 u1 u2 u3 u4 u5 u6 u7 u8 u9 (u10 + 1) u11 cs9 r9 h
  exact hq.trans k9
theorem nb_c_X4_join_b194 (F : Nat) (rc46 : CS → Nat → Nat → Int32 → Int32 → Int32 → Int32 → Int32 → Int32 → Int32 → Int32 → Int32 → Int32 → Option (CS × Int32)) (hrc46 : ∀ (cs1 : CS) (u0 : Nat) (u1 : Nat) (u2 : Int32) (u3 : Int32) (u4 : Int32) (u5 : Int32) (u6 : Int32) (u7 : Int32) (u8 : Int32) (u9 : Int32) (u10 : Int32) (u11 : Int32) (cs9 : CS) (r9 : Int32), rc46 cs1 u0 u1 u2 u3 u4 u5 u6 u7 u8 u9 u10 u11 = some (cs9, r9) → NB cs1 cs9) (cs1 : CS) (u0 : Nat) (u1 : Nat) (u2 : Int32) (u3 : Int32) (u4 : Int32) (u5 : Int32) (u6 : Int32) (u7 : Int32) (u8 : Int32) (u9 : Int32) (u10 : Int32) (u11 : Int32) (u13 : Int32) (cs9 : CS) (r9 : Int32) (h : c_X4_join_b194 F rc46 cs1 u0 u1 u2 u3 u4 u5 u6 u7 u8 u9 u10 u11 u13 = some (cs9, r9)) : NB cs1 cs9 := by
  unfold c_X4_join_b194 at h
  have hq : NB cs1 cs1 := NB.refl
  replace h := ob h; obtain ⟨w_33, hw_33, h⟩ := h
  replace h := ob h; obtain ⟨cs_32, hv_32, h⟩ := h
  replace hq := hq.trans (nb_c_X4_blankOut F cs1 u0 (u13 + u5) u6 cs_32 hv_32)
  have k9 := nb_c_X4_join_b205 F rc46 hrc46 cs_32 u0 u1 u2 u3 u4 u5 u6 u7 u8 u9 u10 u11 cs9 r9 h
  exact hq.trans k9
theorem nb_c_X4_join_b143 (F : Nat) (rc46 : CS → Nat → Nat → Int32 → Int32 → Int32 → Int32 → Int32 → Int32 → Int32 → Int32 → Int32 → Int32 → Option (CS × Int32)) (hrc46 : ∀ (cs1 : CS) (u0 : Nat) (u1 : Nat) (u2 : Int32) (u3 : Int32) (u4 : Int32) (u5 : Int32) (u6 : Int32) (u7 : Int32) (u8 : Int32) (u9 : Int32) (u10 : Int32) (u11 : Int32) (cs9 : CS) (r9 : Int32), rc46 cs1 u0 u1 u2 u3 u4 u5 u6 u7 u8 u9 u10 u11 = some (cs9, r9) → NB cs1 cs9) (rc59 : CS → Nat → Nat → Int32 → Int32 → Int32 → Int32 → Int32 → Int32 → Int32 → Int32 → Int32 → Int32 → Int32 → Int32 → Option (CS × Int32)) (hrc59 : ∀ (cs1 : CS) (u0 : Nat) (u1 : Nat) (u2 : Int32) (u3 : Int32) (u4 : Int32) (u5 : Int32) (u6 : Int32) (u7 : Int32) (u8 : Int32) (u9 : Int32) (u10 : Int32) (u11 : Int32) (u12 : Int32) (u13 : Int32) (cs9 : CS) (r9 : Int32), rc59 cs1 u0 u1 u2 u3 u4 u5 u6 u7 u8 u9 u10 u11 u12 u13 = some (cs9, r9) → NB cs1 cs9) (cs1 : CS) (u0 : Nat) (u1 : Nat) (u2 : Int32) (u3 : Int32) (u4 : Int32) (u5 : Int32) (u6 : Int32) (u7 : Int32) (u8 : Int32) (u9 : Int32) (u11 : Int32) (u12 : Int32) (u13 : Int32) (y0 : Int32) (y1 : Int32) (cs9 : CS) (r9 : Int32) (h : c_X4_join_b143 F rc46 rc59 cs1 u0 u1 u2 u3 u4 u5 u6 u7 u8 u9 u11 u12 u13 y0 y1 = some (cs9, r9)) : NB cs1 cs9 := by
  unfold c_X4_join_b143 at h
  have hq : NB cs1 cs1 := NB.refl
  have k9 := hrc59 cs1 u0 u1 u2 u3 u4 u5 u6 u7 u8 u9 (y1 + y0) u11 u12 (u13 + 1) cs9 r9 h
  exact hq.trans k9
theorem nb_c_X4_join_b116 (F : Nat) (rc46 : CS → Nat → Nat → Int32 → Int32 → Int32 → Int32 → Int32 → Int32 → Int32 → Int32 → Int32 → Int32 → Option (CS × Int32)) (hrc46 : ∀ (cs1 : CS) (u0 : Nat) (u1 : Nat) (u2 : Int32) (u3 : Int32) (u4 : Int32) (u5 : Int32) (u6 : Int32) (u7 : Int32) (u8 : Int32) (u9 : Int32) (u10 : Int32) (u11 : Int32) (cs9 : CS) (r9 : Int32), rc46 cs1 u0 u1 u2 u3 u4 u5 u6 u7 u8 u9 u10 u11 = some (cs9, r9) → NB cs1 cs9) (rc59 : CS → Nat → Nat → Int32 → Int32 → Int32 → Int32 → Int32 → Int32 → Int32 → Int32 → Int32 → Int32 → Int32 → Int32 → Option (CS × Int32)) (hrc59 : ∀ (cs1 : CS) (u0 : Nat) (u1 : Nat) (u2 : Int32) (u3 : Int32) (u4 : Int32) (u5 : Int32) (u6 : Int32) (u7 : Int32) (u8 : Int32) (u9 : Int32) (u10 : Int32) (u11 : Int32) (u12 : Int32) (u13 : Int32) (cs9 : CS) (r9 : Int32), rc59 cs1 u0 u1 u2 u3 u4 u5 u6 u7 u8 u9 u10 u11 u12 u13 = some (cs9, r9) → NB cs1 cs9) (cs1 : CS) (u0 : Nat) (u1 : Nat) (u2 : Int32) (u3 : Int32) (u4 : Int32) (u5 : Int32) (u6 : Int32) (u7 : Int32) (u8 : Int32) (u9 : Int32) (u10 : Int32) (u11 : Int32) (u12 : Int32) (u13 : Int32) (u14 : Int32) (cs9 : CS) (r9 : Int32) (h : c_X4_join_b116 F rc46 rc59 cs1 u0 u1 u2 u3 u4 u5 u6 u7 u8 u9 u10 u11 u12 u13 u14 = some (cs9, r9)) : NB cs1 cs9 := by
  unfold c_X4_join_b116 at h
  have hq : NB cs1 cs1 := NB.refl
  replace h := ob h; obtain ⟨v_32, hv_32, h⟩ := h
  replace h := ob h; obtain ⟨v_33, hv_33, h⟩ := h
  replace h := ob h; obtain ⟨v_34, hv_34, h⟩ := h
  replace h := ob h; obtain ⟨i_35, hi_35, h⟩ := h
  subst hi_35
  replace h := ob h; obtain ⟨i_37, hi_37, h⟩ := h
  subst hi_37
  replace h := ob h; obtain ⟨w_38, hw_38, h⟩ := h
  replace h := ob h; obtain ⟨z_36, hv_36, h⟩ := h
  replace hq := hq.trans (nb_c_X1_compute F cs1 i_37 v_33 i_35 u14 z_36.1 z_36.2 hv_36)
  by_cases c_39 : z_36.2 = 0
  · skip
    replace h := (if_pos c_39).symm.trans h
    have k9 := nb_c_X4_join_b143 F rc46 hrc46 rc59 hrc59 z_36.1 u0 u1 u2 u3 u4 u5 u6 u7 u8 u9 u11 u12 u13 0 u10 cs9 r9 h
    exact hq.trans k9
  · skip
    replace h := (if_neg c_39).symm.trans h
    have k9 := nb_c_X4_join_b143 F rc46 hrc46 rc59 hrc59 z_36.1 u0 u1 u2 u3 u4 u5 u6 u7 u8 u9 u11 u12 u13 1 u10 cs9 r9 h
    exact hq.trans k9
theorem nb_c_X4_join_b94 (F : Nat) (rc46 : CS → Nat → Nat → Int32 → Int32 → Int32 → Int32 → Int32 → Int32 → Int32 → Int32 → Int32 → Int32 → Option (CS × Int32)) (hrc46 : ∀ (cs1 : CS) (u0 : Nat) (u1 : Nat) (u2 : Int32) (u3 : Int32) (u4 : Int32) (u5 : Int32) (u6 : Int32) (u7 : Int32) (u8 : Int32) (u9 : Int32) (u10 : Int32) (u11 : Int32) (cs9 : CS) (r9 : Int32), rc46 cs1 u0 u1 u2 u3 u4 u5 u6 u7 u8 u9 u10 u11 = some (cs9, r9) → NB cs1 cs9) (rc59 : CS → Nat → Nat → Int32 → Int32 → Int32 → Int32 → Int32 → Int32 → Int32 → Int32 → Int32 → Int32 → Int32 → Int32 → Option (CS × Int32)) (hrc59 : ∀ (cs1 : CS) (u0 : Nat) (u1 : Nat) (u2 : Int32) (u3 : Int32) (u4 : Int32) (u5 : Int32) (u6 : Int32) (u7 : Int32) (u8 : Int32) (u9 : Int32) (u10 : Int32) (u11 : Int32) (u12 : Int32) (u13 : Int32) (cs9 : CS) (r9 : Int32), rc59 cs1 u0 u1 u2 u3 u4 u5 u6 u7 u8 u9 u10 u11 u12 u13 = some (cs9, r9) → NB cs1 cs9) (cs1 : CS) (u0 : Nat) (u1 : Nat) (u2 : Int32) (u3 : Int32) (u4 : Int32) (u5 : Int32) (u6 : Int32) (u7 : Int32) (u8 : Int32) (u9 : Int32) (u10 : Int32) (u11 : Int32) (u12 : Int32) (u13 : Int32) (u14 : Int32) (cs9 : CS) (r9 : Int32) (h : c_X4_join_b94 F rc46 rc59 cs1 u0 u1 u2 u3 u4 u5 u6 u7 u8 u9 u10 u11 u12 u13 u14 = some (cs9, r9)) : NB cs1 cs9 := by
  unfold c_X4_join_b94 at h
  have hq : NB cs1 cs1 := NB.refl
  replace h := ob h; obtain ⟨v_32, hv_32, h⟩ := h
  replace h := ob h; obtain ⟨i_34, hi_34, h⟩ := h
  subst hi_34
  replace h := ob h; obtain ⟨w_35, hw_35, h⟩ := h
  replace h := ob h; obtain ⟨cs_33, hv_33, h⟩ := h
  replace hq := hq.trans (nb_c_X8_copy F cs1 i_34 (u8 + (u13 * u6)) (u14 + u5) u6 cs_33 hv_33)
  have k9 := nb_c_X4_join_b116 F rc46 hrc46 rc59 hrc59 cs_33 u0 u1 u2 u3 u4 u5 u6 u7 u8 u9 u10 u11 u12 u13 u14 cs9 r9 h
  exact hq.trans k9
theorem nb_c_X4_join_L59 (F : Nat) (rc46 : CS → Nat → Nat → Int32 → Int32 → Int32 → Int32 → Int32 → Int32 → Int32 → Int32 → Int32 → Int32 → Option (CS × Int32)) (hrc46 : ∀ (cs1 : CS) (u0 : Nat) (u1 : Nat) (u2 : Int32) (u3 : Int32) (u4 : Int32) (u5 : Int32) (u6 : Int32) (u7 : Int32) (u8 : Int32) (u9 : Int32) (u10 : Int32) (u11 : Int32) (cs9 : CS) (r9 : Int32), rc46 cs1 u0 u1 u2 u3 u4 u5 u6 u7 u8 u9 u10 u11 = some (cs9, r9) → NB cs1 cs9) : ∀ (lf_59 : Nat) (cs1 : CS) (u0 : Nat) (u1 : Nat) (u2 : Int32) (u3 : Int32) (u4 : Int32) (u5 : Int32) (u6 : Int32) (u7 : Int32) (u8 : Int32) (u9 : Int32) (u10 : Int32) (u11 : Int32) (u12 : Int32) (u13 : Int32) (cs9 : CS) (r9 : Int32), c_X4_join_L59 F rc46 lf_59 cs1 u0 u1 u2 u3 u4 u5 u6 u7 u8 u9 u10 u11 u12 u13 = some (cs9, r9) → NB cs1 cs9 := by
  intro lf_59
  induction lf_59 with
  | zero => intro cs1 u0 u1 u2 u3 u4 u5 u6 u7 u8 u9 u10 u11 u12 u13 cs9 r9 h; cases (show (none : Option (CS × Int32)) = _ from h)
  | succ lf_59 ih_59 =>
    intro cs1 u0 u1 u2 u3 u4 u5 u6 u7 u8 u9 u10 u11 u12 u13 cs9 r9 h
    rw [c_X4_join_L59] at h
    have hq : NB cs1 cs1 := NB.refl
    by_cases c_32 : u4 ≤ u13
    · skip
      replace h := (if_pos c_32).symm.trans h
      replace h := ob h; obtain ⟨v_33, hv_33, h⟩ := h
      by_cases c_34 : v_33 = 0
      · skip
        replace h := (if_pos c_34).symm.trans h
        have k9 := nb_c_X4_join_b208 F rc46 hrc46 cs1 u0 u1 u2 u3 u4 u5 u6 u7 u8 u9 u10 u11 cs9 r9 h
        exact hq.trans k9
      · skip
        replace h := (if_neg c_34).symm.trans h
        by_cases c_35 : u10 = u12
        · skip
          replace h := (if_pos c_35).symm.trans h
          replace h := ob h; obtain ⟨v_36, hv_36, h⟩ := h
          replace h := ob h; obtain ⟨i_38, hi_38, h⟩ := h
          subst hi_38
          replace h := ob h; obtain ⟨w_39, hw_39, h⟩ := h
          replace h := ob h; obtain ⟨cs_37, hv_37, h⟩ := h
          replace hq := hq.trans (nb_c_X8_copy F cs1 i_38 (u2 + (u11 * u5)) (u9 + (u10 * u7)) u5 cs_37 hv_37)
          have k9 := nb_c_X4_join_b194 F rc46 hrc46 cs_37 u0 u1 u2 u3 u4 u5 u6 u7 u8 u9 u10 u11 (u9 + (u10 * u7)) cs9 r9 h
          exact hq.trans k9
        · skip
          replace h := (if_neg c_35).symm.trans h
          have k9 := nb_c_X4_join_b208 F rc46 hrc46 cs1 u0 u1 u2 u3 u4 u5 u6 u7 u8 u9 u10 u11 cs9 r9 h
          exact hq.trans k9
    · skip
      replace h := (if_neg c_32).symm.trans h
      replace h := ob h; obtain ⟨v_40, hv_40, h⟩ := h
      replace h := ob h; obtain ⟨i_42, hi_42, h⟩ := h
      subst hi_42
      replace h := ob h; obtain ⟨w_43, hw_43, h⟩ := h
      replace h := ob h; obtain ⟨cs_41, hv_41, h⟩ := h
      replace hq := hq.trans (nb_c_X8_copy F cs1 i_42 (u2 + (u11 * u5)) (u9 + (u10 * u7)) u5 cs_41 hv_41)
      have k9 := nb_c_X4_join_b94 F rc46 hrc46 (c_X4_join_L59 F rc46 lf_59) ih_59 cs_41 u0 u1 u2 u3 u4 u5 u6 u7 u8 u9 u10 u11 u12 u13 (u9 + (u10 * u7)) cs9 r9 h
      exact hq.trans k9
theorem nb_c_X4_join_L46 (F : Nat) : ∀ (lf_46 : Nat) (cs1 : CS) (u0 : Nat) (u1 : Nat) (u2 : Int32) (u3 : Int32) (u4 : Int32) (u5 : Int32) (u6 : Int32) (u7 : Int32) (u8 : Int32) (u9 : Int32) (u10 : Int32) (u11 : Int32) (cs9 : CS) (r9 : Int32), c_X4_join_L46 F lf_46 cs1 u0 u1 u2 u3 u4 u5 u6 u7 u8 u9 u10 u11 = some (cs9, r9) → NB cs1 cs9 := by
  intro lf_46
  induction lf_46 with
  | zero => intro cs1 u0 u1 u2 u3 u4 u5 u6 u7 u8 u9 u10 u11 cs9 r9 h; cases (show (none : Option (CS × Int32)) = _ from h)
  | succ lf_46 ih_46 =>
    intro cs1 u0 u1 u2 u3 u4 u5 u6 u7 u8 u9 u10 u11 cs9 r9 h
    rw [c_X4_join_L46] at h
    have hq : NB cs1 cs1 := NB.refl
    by_cases c_32 : u3 ≤ u11
    · skip
      replace h := (if_pos c_32).symm.trans h
      replace h := ob h; obtain ⟨v_33, hv_33, h⟩ := h
      replace h := ob h; obtain ⟨i_35, hi_35, h⟩ := h
      subst hi_35
      replace h := ob h; obtain ⟨w_36, hw_36, h⟩ := h
      replace h := ob h; obtain ⟨cs_34, hv_34, h⟩ := h
      replace hq := hq.trans (nb_c_X8_copy F cs1 i_35 u9 u2 (u10 * u7) cs_34 hv_34)
      have k9 := nb_c_X4_join_b229 F cs_34 u10 cs9 r9 h
      exact hq.trans k9
    · skip
      replace h := (if_neg c_32).symm.trans h
      have k9 := nb_c_X4_join_L59 F (c_X4_join_L46 F lf_46) ih_46 F cs1 u0 u1 u2 u3 u4 u5 u6 u7 u8 u9 u10 u11 u10 0 cs9 r9 h
      exact hq.trans k9
theorem nb_c_X4_join (F : Nat) (cs : CS) (x0 : Nat) (x1 : Nat) (x2 : Int32) (x3 : Int32) (x4 : Int32) (cs9 : CS) (r9 : Int32) (h : c_X4_join F cs x0 x1 x2 x3 x4 = some (cs9, r9)) : NB cs cs9 := by
  unfold c_X4_join at h
  have hq : NB cs cs := NB.refl
  replace h := ob h; obtain ⟨v_32, hv_32, h⟩ := h
  replace h := ob h; obtain ⟨v_33, hv_33, h⟩ := h
  replace h := ob h; obtain ⟨i_34, hi_34, h⟩ := h
  subst hi_34
  replace h := ob h; obtain ⟨v_35, hv_35, h⟩ := h
  have k9 := nb_c_X4_join_L46 F F cs x0 x1 x2 x3 x4 v_32 v_35 (v_32 + v_35) (x2 + (x3 * v_32)) ((x2 + (x3 * v_32)) + (x4 * v_35)) 0 0 cs9 r9 h
  exact hq.trans k9
theorem nb_c_X4_group_b256 (F : Nat) (cs1 : CS) (u9 : Int32) (cs9 : CS) (r9 : Int32) (h : c_X4_group_b256 F cs1 u9 = some (cs9, r9)) : NB cs1 cs9 := by
  unfold c_X4_group_b256 at h
  have hq : NB cs1 cs1 := NB.refl
  have h9 := (Prod.mk.inj (Option.some.inj h)).1
  exact hq.to h9
theorem nb_c_X4_group_b241 (F : Nat) (cs1 : CS) (u0 : Nat) (u2 : Int32) (u6 : Int32) (u8 : Int32) (u9 : Int32) (cs9 : CS) (r9 : Int32) (h : c_X4_group_b241 F cs1 u0 u2 u6 u8 u9 = some (cs9, r9)) : NB cs1 cs9 := by
  unfold c_X4_group_b241 at h
  have hq : NB cs1 cs1 := NB.refl
  replace h := ob h; obtain ⟨v_35, hv_35, h⟩ := h
  replace h := ob h; obtain ⟨i_37, hi_37, h⟩ := h
  subst hi_37
  replace h := ob h; obtain ⟨w_38, hw_38, h⟩ := h
  replace h := ob h; obtain ⟨cs_36, hv_36, h⟩ := h
  replace hq := hq.trans (nb_c_X8_copy F cs1 i_37 u8 u2 (u9 * u6) cs_36 hv_36)
  have k9 := nb_c_X4_group_b256 F cs_36 u9 cs9 r9 h
  exact hq.trans k9
theorem nb_c_X4_group_b238 (F : Nat) (cs1 : CS) (u0 : Nat) (u2 : Int32) (u6 : Int32) (u8 : Int32) (cs9 : CS) (r9 : Int32) (h : c_X4_group_b238 F cs1 u0 u2 u6 u8 = some (cs9, r9)) : NB cs1 cs9 := by
  unfold c_X4_group_b238 at h
  have hq : NB cs1 cs1 := NB.refl
  have k9 := nb_c_X4_group_b241 F cs1 u0 u2 u6 u8 1 cs9 r9 h
  exact hq.trans k9
theorem nb_c_X4_group_b212 (F : Nat) (rc136 : CS → Nat → Nat → Int32 → Int32 → Int32 → Int32 → Int32 → Int32 → Int32 → Int32 → Int32 → Option (CS × Int32)) (hrc136 : ∀ (cs1 : CS) (u0 : Nat) (u1 : Nat) (u2 : Int32) (u3 : Int32) (u5 : Int32) (u6 : Int32) (u7 : Int32) (u8 : Int32) (u9 : Int32) (u10 : Int32) (u11 : Int32) (cs9 : CS) (r9 : Int32), rc136 cs1 u0 u1 u2 u3 u5 u6 u7 u8 u9 u10 u11 = some (cs9, r9) → NB cs1 cs9) (cs1 : CS) (u0 : Nat) (u1 : Nat) (u2 : Int32) (u3 : Int32) (u5 : Int32) (u6 : Int32) (u7 : Int32) (u8 : Int32) (u9 : Int32) (u10 : Int32) (u11 : Int32) (cs9 : CS) (r9 : Int32) (h : c_X4_group_b212 F rc136 cs1 u0 u1 u2 u3 u5 u6 u7 u8 u9 u10 u11 = some (cs9, r9)) : NB cs1 cs9 := by
  unfold c_X4_group_b212 at h
  have hq : NB cs1 cs1 := NB.refl
  have k9 := hrc136 cs1 u0 u1 u2 u3 u5 u6 u7 u8 u9 u10 (u11 + 1) cs9 r9 h
  exact hq.trans k9
theorem nb_c_X4_group_b205 (F : Nat) (rc136 : CS → Nat → Nat → Int32 → Int32 → Int32 → Int32 → Int32 → Int32 → Int32 → Int32 → Int32 → Option (CS × Int32)) (hrc136 : ∀ (cs1 : CS) (u0 : Nat) (u1 : Nat) (u2 : Int32) (u3 : Int32) (u5 : Int32) (u6 : Int32) (u7 : Int32) (u8 : Int32) (u9 : Int32) (u10 : Int32) (u11 : Int32) (cs9 : CS) (r9 : Int32), rc136 cs1 u0 u1 u2 u3 u5 u6 u7 u8 u9 u10 u11 = some (cs9, r9) → NB cs1 cs9) (cs1 : CS) (u0 : Nat) (u1 : Nat) (u2 : Int32) (u3 : Int32) (u5 : Int32) (u6 : Int32) (u7 : Int32) (u8 : Int32) (u9 : Int32) (u11 : Int32) (cs9 : CS) (r9 : Int32) (h : c_X4_group_b205 F rc136 cs1 u0 u1 u2 u3 u5 u6 u7 u8 u9 u11 = some (cs9, r9)) : NB cs1 cs9 := by
  unfold c_X4_group_b205 at h
  have hq : NB cs1 cs1 := NB.refl
  have k9 := nb_c_X4_group_b212 F rc136 hrc136 cs1 u0 u1 u2 u3 u5 u6 u7 u8 (u9 + 1) u11 u11 cs9 r9 h
  exact hq.trans k9
theorem nb_c_X4_group_b185 (F : Nat) (rc136 : CS → Nat → Nat → Int32 → Int32 → Int32 → Int32 → Int32 → Int32 → Int32 → Int32 → Int32 → Option (CS × Int32)) (hrc136 : ∀ (cs1 : CS) (u0 : Nat) (u1 : Nat) (u2 : Int32) (u3 : Int32) (u5 : Int32) (u6 : Int32) (u7 : Int32) (u8 : Int32) (u9 : Int32) (u10 : Int32) (u11 : Int32) (cs9 : CS) (r9 : Int32), rc136 cs1 u0 u1 u2 u3 u5 u6 u7 u8 u9 u10 u11 = some (cs9, r9) → NB cs1 cs9) (cs1 : CS) (u0 : Nat) (u1 : Nat) (u2 : Int32) (u3 : Int32) (u5 : Int32) (u6 : Int32) (u7 : Int32) (u8 : Int32) (u9 : Int32) (u10 : Int32) (u11 : Int32) (u12 : Int32) (cs9 : CS) (r9 : Int32) (h : c_X4_group_b185 F rc136 cs1 u0 u1 u2 u3 u5 u6 u7 u8 u9 u10 u11 u12 = some (cs9, r9)) : NB cs1 cs9 := by
  unfold c_X4_group_b185 at h
  have hq : NB cs1 cs1 := NB.refl
  replace h := ob h; obtain ⟨w_36, hw_36, h⟩ := h
  replace h := ob h; obtain ⟨cs_35, hv_35, h⟩ := h
  replace hq := hq.trans (nb_c_X4_fold F cs1 u0 u1 u12 (u11 - u10) (u8 + (u9 * u6)) cs_35 hv_35)
  have k9 := nb_c_X4_group_b205 F rc136 hrc136 cs_35 u0 u1 u2 u3 u5 u6 u7 u8 u9 u11 cs9 r9 h
  exact hq.trans k9
theorem nb_c_X4_group_L136 (F : Nat) : ∀ (lf_136 : Nat) (cs1 : CS) (u0 : Nat) (u1 : Nat) (u2 : Int32) (u3 : Int32) (u5 : Int32) (u6 : Int32) (u7 : Int32) (u8 : Int32) (u9 : Int32) (u10 : Int32) (u11 : Int32) (cs9 : CS) (r9 : Int32), c_X4_group_L136 F lf_136 cs1 u0 u1 u2 u3 u5 u6 u7 u8 u9 u10 u11 = some (cs9, r9) → NB cs1 cs9 := by
  intro lf_136
  induction lf_136 with
  | zero => intro cs1 u0 u1 u2 u3 u5 u6 u7 u8 u9 u10 u11 cs9 r9 h; cases (show (none : Option (CS × Int32)) = _ from h)
  | succ lf_136 ih_136 =>
    intro cs1 u0 u1 u2 u3 u5 u6 u7 u8 u9 u10 u11 cs9 r9 h
    rw [c_X4_group_L136] at h
    have hq : NB cs1 cs1 := NB.refl
    by_cases c_35 : u3 < u11
    · skip
      replace h := (if_pos c_35).symm.trans h
      by_cases c_36 : u9 = 0
      · skip
        replace h := (if_pos c_36).symm.trans h
        by_cases c_37 : u5 = 0
        · skip
          replace h := (if_pos c_37).symm.trans h
          replace h := ob h; obtain ⟨w_39, hw_39, h⟩ := h
          replace h := ob h; obtain ⟨cs_38, hv_38, h⟩ := h
          replace hq := hq.trans (nb_c_X4_fold F cs1 u0 u1 u7 0 u8 cs_38 hv_38)
          have k9 := nb_c_X4_group_b238 F cs_38 u0 u2 u6 u8 cs9 r9 h
          exact hq.trans k9
        · skip
          replace h := (if_neg c_37).symm.trans h
          have k9 := nb_c_X4_group_b241 F cs1 u0 u2 u6 u8 u9 cs9 r9 h
          exact hq.trans k9
      · skip
        replace h := (if_neg c_36).symm.trans h
        have k9 := nb_c_X4_group_b241 F cs1 u0 u2 u6 u8 u9 cs9 r9 h
        exact hq.trans k9
    · skip
      replace h := (if_neg c_35).symm.trans h
      by_cases c_40 : u11 = u3
      · skip
        replace h := (if_pos c_40).symm.trans h
        have k9 := nb_c_X4_group_b185 F (c_X4_group_L136 F lf_136) ih_136 cs1 u0 u1 u2 u3 u5 u6 u7 u8 u9 u10 u11 (u7 + (u10 * u6)) cs9 r9 h
        exact hq.trans k9
      · skip
        replace h := (if_neg c_40).symm.trans h
        replace h := ob h; obtain ⟨v_41, hv_41, h⟩ := h
        replace h := ob h; obtain ⟨v_42, hv_42, h⟩ := h
        replace h := ob h; obtain ⟨i_43, hi_43, h⟩ := h
        subst hi_43
        replace h := ob h; obtain ⟨i_45, hi_45, h⟩ := h
        subst hi_45
        replace h := ob h; obtain ⟨w_46, hw_46, h⟩ := h
        replace h := ob h; obtain ⟨v_44, hv_44, h⟩ := h
        by_cases c_47 : v_44 = 0
        · skip
          replace h := (if_pos c_47).symm.trans h
          have k9 := nb_c_X4_group_b212 F (c_X4_group_L136 F lf_136) ih_136 cs1 u0 u1 u2 u3 u5 u6 u7 u8 u9 u10 u11 cs9 r9 h
          exact hq.trans k9
        · skip
          replace h := (if_neg c_47).symm.trans h
          have k9 := nb_c_X4_group_b185 F (c_X4_group_L136 F lf_136) ih_136 cs1 u0 u1 u2 u3 u5 u6 u7 u8 u9 u10 u11 (u7 + (u10 * u6)) cs9 r9 h
          exact hq.trans k9
theorem nb_c_X4_group_b127 (F : Nat) (cs1 : CS) (u0 : Nat) (u1 : Nat) (u2 : Int32) (u3 : Int32) (u5 : Int32) (u6 : Int32) (u7 : Int32) (u8 : Int32) (cs9 : CS) (r9 : Int32) (h : c_X4_group_b127 F cs1 u0 u1 u2 u3 u5 u6 u7 u8 = some (cs9, r9)) : NB cs1 cs9 := by
  unfold c_X4_group_b127 at h
  have hq : NB cs1 cs1 := NB.refl
  have k9 := nb_c_X4_group_L136 F F cs1 u0 u1 u2 u3 u5 u6 u7 u8 0 0 1 cs9 r9 h
  exact hq.trans k9
theorem nb_c_X4_group_b100 (F : Nat) (cs1 : CS) (u0 : Nat) (u1 : Nat) (u2 : Int32) (u3 : Int32) (u5 : Int32) (u6 : Int32) (u7 : Int32) (cs9 : CS) (r9 : Int32) (h : c_X4_group_b100 F cs1 u0 u1 u2 u3 u5 u6 u7 = some (cs9, r9)) : NB cs1 cs9 := by
  unfold c_X4_group_b100 at h
  have hq : NB cs1 cs1 := NB.refl
  replace h := ob h; obtain ⟨v_35, hv_35, h⟩ := h
  replace h := ob h; obtain ⟨i_37, hi_37, h⟩ := h
  subst hi_37
  replace h := ob h; obtain ⟨w_38, hw_38, h⟩ := h
  replace h := ob h; obtain ⟨cs_36, hv_36, h⟩ := h
  replace hq := hq.trans (nb_c_X8_reserve F cs1 i_37 ((u7 + (u3 * u6)) + ((if u3 < 1 then 1 else u3) * u6)) cs_36 hv_36)
  have k9 := nb_c_X4_group_b127 F cs_36 u0 u1 u2 u3 u5 u6 u7 (u7 + (u3 * u6)) cs9 r9 h
  exact hq.trans k9
theorem nb_c_X4_group_b81 (F : Nat) (rc29 : CS → Nat → Nat → Int32 → Int32 → Int32 → Int32 → Int32 → Int32 → Int32 → Option (CS × Int32)) (hrc29 : ∀ (cs1 : CS) (u0 : Nat) (u1 : Nat) (u2 : Int32) (u3 : Int32) (u4 : Int32) (u5 : Int32) (u6 : Int32) (u7 : Int32) (u8 : Int32) (cs9 : CS) (r9 : Int32), rc29 cs1 u0 u1 u2 u3 u4 u5 u6 u7 u8 = some (cs9, r9) → NB cs1 cs9) (cs1 : CS) (u0 : Nat) (u1 : Nat) (u2 : Int32) (u3 : Int32) (u4 : Int32) (u5 : Int32) (u6 : Int32) (u7 : Int32) (u8 : Int32) (cs9 : CS) (r9 : Int32) (h : c_X4_group_b81 F rc29 cs1 u0 u1 u2 u3 u4 u5 u6 u7 u8 = some (cs9, r9)) : NB cs1 cs9 := by
  unfold c_X4_group_b81 at h
  have hq : NB cs1 cs1 := NB.refl
  have k9 := hrc29 cs1 u0 u1 u2 u3 u4 u5 u6 u7 (u8 + 1) cs9 r9 h
  exact hq.trans k9
theorem nb_c_X4_group_b58 (F : Nat) (rc29 : CS → Nat → Nat → Int32 → Int32 → Int32 → Int32 → Int32 → Int32 → Int32 → Option (CS × Int32)) (hrc29 : ∀ (cs1 : CS) (u0 : Nat) (u1 : Nat) (u2 : Int32) (u3 : Int32) (u4 : Int32) (u5 : Int32) (u6 : Int32) (u7 : Int32) (u8 : Int32) (cs9 : CS) (r9 : Int32), rc29 cs1 u0 u1 u2 u3 u4 u5 u6 u7 u8 = some (cs9, r9) → NB cs1 cs9) (cs1 : CS) (u0 : Nat) (u1 : Nat) (u2 : Int32) (u3 : Int32) (u4 : Int32) (u5 : Int32) (u6 : Int32) (u7 : Int32) (u8 : Int32) (cs9 : CS) (r9 : Int32) (h : c_X4_group_b58 F rc29 cs1 u0 u1 u2 u3 u4 u5 u6 u7 u8 = some (cs9, r9)) : NB cs1 cs9 := by
  unfold c_X4_group_b58 at h
  have hq : NB cs1 cs1 := NB.refl
  replace h := ob h; obtain ⟨w_36, hw_36, h⟩ := h
  replace h := ob h; obtain ⟨cs_35, hv_35, h⟩ := h
  replace hq := hq.trans (nb_c_X4_computeInsides F cs1 u0 u1 (u2 + (u8 * u4)) ((u7 + (u8 * u6)) + u5) cs_35 hv_35)
  have k9 := nb_c_X4_group_b81 F rc29 hrc29 cs_35 u0 u1 u2 u3 u4 u5 u6 u7 u8 cs9 r9 h
  exact hq.trans k9
theorem nb_c_X4_group_L29 (F : Nat) : ∀ (lf_29 : Nat) (cs1 : CS) (u0 : Nat) (u1 : Nat) (u2 : Int32) (u3 : Int32) (u4 : Int32) (u5 : Int32) (u6 : Int32) (u7 : Int32) (u8 : Int32) (cs9 : CS) (r9 : Int32), c_X4_group_L29 F lf_29 cs1 u0 u1 u2 u3 u4 u5 u6 u7 u8 = some (cs9, r9) → NB cs1 cs9 := by
  intro lf_29
  induction lf_29 with
  | zero => intro cs1 u0 u1 u2 u3 u4 u5 u6 u7 u8 cs9 r9 h; cases (show (none : Option (CS × Int32)) = _ from h)
  | succ lf_29 ih_29 =>
    intro cs1 u0 u1 u2 u3 u4 u5 u6 u7 u8 cs9 r9 h
    rw [c_X4_group_L29] at h
    have hq : NB cs1 cs1 := NB.refl
    by_cases c_35 : u3 ≤ u8
    · skip
      replace h := (if_pos c_35).symm.trans h
      replace h := ob h; obtain ⟨v_36, hv_36, h⟩ := h
      replace h := ob h; obtain ⟨i_38, hi_38, h⟩ := h
      subst hi_38
      replace h := ob h; obtain ⟨w_39, hw_39, h⟩ := h
      replace h := ob h; obtain ⟨cs_37, hv_37, h⟩ := h
      replace hq := hq.trans (nb_c_X8_sort F cs1 i_38 u7 u3 u6 0 cs_37 hv_37)
      have k9 := nb_c_X4_group_b100 F cs_37 u0 u1 u2 u3 u5 u6 u7 cs9 r9 h
      exact hq.trans k9
    · skip
      replace h := (if_neg c_35).symm.trans h
      replace h := ob h; obtain ⟨v_40, hv_40, h⟩ := h
      replace h := ob h; obtain ⟨i_41, hi_41, h⟩ := h
      subst hi_41
      replace h := ob h; obtain ⟨w_43, hw_43, h⟩ := h
      replace h := ob h; obtain ⟨cs_42, hv_42, h⟩ := h
      replace hq := hq.trans (nb_c_X4_computeAll F cs1 u0 i_41 (u2 + (u8 * u4)) (u7 + (u8 * u6)) cs_42 hv_42)
      have k9 := nb_c_X4_group_b58 F (c_X4_group_L29 F lf_29) ih_29 cs_42 u0 u1 u2 u3 u4 u5 u6 u7 u8 cs9 r9 h
      exact hq.trans k9
theorem nb_c_X4_group (F : Nat) (cs : CS) (x0 : Nat) (x1 : Nat) (x2 : Int32) (x3 : Int32) (x4 : Int32) (cs9 : CS) (r9 : Int32) (h : c_X4_group F cs x0 x1 x2 x3 x4 = some (cs9, r9)) : NB cs cs9 := by
  unfold c_X4_group at h
  have hq : NB cs cs := NB.refl
  replace h := ob h; obtain ⟨v_35, hv_35, h⟩ := h
  replace h := ob h; obtain ⟨i_36, hi_36, h⟩ := h
  subst hi_36
  replace h := ob h; obtain ⟨v_37, hv_37, h⟩ := h
  replace h := ob h; obtain ⟨v_38, hv_38, h⟩ := h
  have k9 := nb_c_X4_group_L29 F F cs x0 x1 x2 x3 x4 v_37 (v_37 + v_38) (x2 + (x3 * x4)) 0 cs9 r9 h
  exact hq.trans k9
theorem nb_c_X4_order_b145 (F : Nat) (rc109 : CS → Nat → Nat → Int32 → Int32 → Int32 → Int32 → Int32 → Int32 → Option (CS × Int32)) (hrc109 : ∀ (cs1 : CS) (u0 : Nat) (u1 : Nat) (u3 : Int32) (u5 : Int32) (u6 : Int32) (u7 : Int32) (u8 : Int32) (u9 : Int32) (cs9 : CS) (r9 : Int32), rc109 cs1 u0 u1 u3 u5 u6 u7 u8 u9 = some (cs9, r9) → NB cs1 cs9) (cs1 : CS) (u0 : Nat) (u1 : Nat) (u3 : Int32) (u5 : Int32) (u6 : Int32) (u7 : Int32) (u8 : Int32) (u9 : Int32) (cs9 : CS) (r9 : Int32) (h : c_X4_order_b145 F rc109 cs1 u0 u1 u3 u5 u6 u7 u8 u9 = some (cs9, r9)) : NB cs1 cs9 := by
  unfold c_X4_order_b145 at h
  have hq : NB cs1 cs1 := NB.refl
  have k9 := hrc109 cs1 u0 u1 u3 u5 u6 u7 u8 (u9 + 1) cs9 r9 h
  exact hq.trans k9
theorem nb_c_X4_order_L109 (F : Nat) : ∀ (lf_109 : Nat) (cs1 : CS) (u0 : Nat) (u1 : Nat) (u3 : Int32) (u5 : Int32) (u6 : Int32) (u7 : Int32) (u8 : Int32) (u9 : Int32) (cs9 : CS) (r9 : Int32), c_X4_order_L109 F lf_109 cs1 u0 u1 u3 u5 u6 u7 u8 u9 = some (cs9, r9) → NB cs1 cs9 := by
  intro lf_109
  induction lf_109 with
  | zero => intro cs1 u0 u1 u3 u5 u6 u7 u8 u9 cs9 r9 h; cases (show (none : Option (CS × Int32)) = _ from h)
  | succ lf_109 ih_109 =>
    intro cs1 u0 u1 u3 u5 u6 u7 u8 u9 cs9 r9 h
    rw [c_X4_order_L109] at h
    have hq : NB cs1 cs1 := NB.refl
    by_cases c_21 : u8 ≤ u9
    · skip
      replace h := (if_pos c_21).symm.trans h
      have h9 := (Prod.mk.inj (Option.some.inj h)).1
      exact hq.to h9
    · skip
      replace h := (if_neg c_21).symm.trans h
      replace h := ob h; obtain ⟨v_22, hv_22, h⟩ := h
      replace h := ob h; obtain ⟨v_23, hv_23, h⟩ := h
      replace h := ob h; obtain ⟨i_25, hi_25, h⟩ := h
      subst hi_25
      replace h := ob h; obtain ⟨w_26, hw_26, h⟩ := h
      replace h := ob h; obtain ⟨cs_24, hv_24, h⟩ := h
      replace hq := hq.trans (nb_c_X8_copy F cs1 i_25 ((u7 + (u9 * u6)) + v_23) (u3 + (u9 * u5)) u5 cs_24 hv_24)
      have k9 := nb_c_X4_order_b145 F (c_X4_order_L109 F lf_109) ih_109 cs_24 u0 u1 u3 u5 u6 u7 u8 u9 cs9 r9 h
      exact hq.trans k9
theorem nb_c_X4_order_b98 (F : Nat) (cs1 : CS) (u0 : Nat) (u1 : Nat) (u2 : Int32) (u3 : Int32) (u4 : Int32) (u5 : Int32) (u6 : Int32) (u7 : Int32) (cs9 : CS) (r9 : Int32) (h : c_X4_order_b98 F cs1 u0 u1 u2 u3 u4 u5 u6 u7 = some (cs9, r9)) : NB cs1 cs9 := by
  unfold c_X4_order_b98 at h
  have hq : NB cs1 cs1 := NB.refl
  have k9 := nb_c_X4_order_L109 F F cs1 u0 u1 u3 u5 u6 u7 (if u2 < u4 then u2 else u4) 0 cs9 r9 h
  exact hq.trans k9
theorem nb_c_X4_order_b75 (F : Nat) (rc21 : CS → Nat → Nat → Int32 → Int32 → Int32 → Int32 → Int32 → Int32 → Int32 → Option (CS × Int32)) (hrc21 : ∀ (cs1 : CS) (u0 : Nat) (u1 : Nat) (u2 : Int32) (u3 : Int32) (u4 : Int32) (u5 : Int32) (u6 : Int32) (u7 : Int32) (u8 : Int32) (cs9 : CS) (r9 : Int32), rc21 cs1 u0 u1 u2 u3 u4 u5 u6 u7 u8 = some (cs9, r9) → NB cs1 cs9) (cs1 : CS) (u0 : Nat) (u1 : Nat) (u2 : Int32) (u3 : Int32) (u4 : Int32) (u5 : Int32) (u6 : Int32) (u7 : Int32) (u8 : Int32) (cs9 : CS) (r9 : Int32) (h : c_X4_order_b75 F rc21 cs1 u0 u1 u2 u3 u4 u5 u6 u7 u8 = some (cs9, r9)) : NB cs1 cs9 := by
  unfold c_X4_order_b75 at h
  have hq : NB cs1 cs1 := NB.refl
  have k9 := hrc21 cs1 u0 u1 u2 u3 u4 u5 u6 u7 (u8 + 1) cs9 r9 h
  exact hq.trans k9
theorem nb_c_X4_order_b52 (F : Nat) (rc21 : CS → Nat → Nat → Int32 → Int32 → Int32 → Int32 → Int32 → Int32 → Int32 → Option (CS × Int32)) (hrc21 : ∀ (cs1 : CS) (u0 : Nat) (u1 : Nat) (u2 : Int32) (u3 : Int32) (u4 : Int32) (u5 : Int32) (u6 : Int32) (u7 : Int32) (u8 : Int32) (cs9 : CS) (r9 : Int32), rc21 cs1 u0 u1 u2 u3 u4 u5 u6 u7 u8 = some (cs9, r9) → NB cs1 cs9) (cs1 : CS) (u0 : Nat) (u1 : Nat) (u2 : Int32) (u3 : Int32) (u4 : Int32) (u5 : Int32) (u6 : Int32) (u7 : Int32) (u8 : Int32) (u9 : Int32) (cs9 : CS) (r9 : Int32) (h : c_X4_order_b52 F rc21 cs1 u0 u1 u2 u3 u4 u5 u6 u7 u8 u9 = some (cs9, r9)) : NB cs1 cs9 := by
  unfold c_X4_order_b52 at h
  have hq : NB cs1 cs1 := NB.refl
  replace h := ob h; obtain ⟨v_21, hv_21, h⟩ := h
  replace h := ob h; obtain ⟨v_22, hv_22, h⟩ := h
  replace h := ob h; obtain ⟨i_24, hi_24, h⟩ := h
  subst hi_24
  replace h := ob h; obtain ⟨w_25, hw_25, h⟩ := h
  replace h := ob h; obtain ⟨cs_23, hv_23, h⟩ := h
  replace hq := hq.trans (nb_c_X8_copy F cs1 i_24 (u3 + (u8 * u5)) (u9 + v_22) u5 cs_23 hv_23)
  have k9 := nb_c_X4_order_b75 F rc21 hrc21 cs_23 u0 u1 u2 u3 u4 u5 u6 u7 u8 cs9 r9 h
  exact hq.trans k9
theorem nb_c_X4_order_L21 (F : Nat) : ∀ (lf_21 : Nat) (cs1 : CS) (u0 : Nat) (u1 : Nat) (u2 : Int32) (u3 : Int32) (u4 : Int32) (u5 : Int32) (u6 : Int32) (u7 : Int32) (u8 : Int32) (cs9 : CS) (r9 : Int32), c_X4_order_L21 F lf_21 cs1 u0 u1 u2 u3 u4 u5 u6 u7 u8 = some (cs9, r9) → NB cs1 cs9 := by
  intro lf_21
  induction lf_21 with
  | zero => intro cs1 u0 u1 u2 u3 u4 u5 u6 u7 u8 cs9 r9 h; cases (show (none : Option (CS × Int32)) = _ from h)
  | succ lf_21 ih_21 =>
    intro cs1 u0 u1 u2 u3 u4 u5 u6 u7 u8 cs9 r9 h
    rw [c_X4_order_L21] at h
    have hq : NB cs1 cs1 := NB.refl
    by_cases c_21 : u4 ≤ u8
    · skip
      replace h := (if_pos c_21).symm.trans h
      replace h := ob h; obtain ⟨v_22, hv_22, h⟩ := h
      replace h := ob h; obtain ⟨w_24, hw_24, h⟩ := h
      replace h := ob h; obtain ⟨v_23, hv_23, h⟩ := h
      replace h := ob h; obtain ⟨i_26, hi_26, h⟩ := h
      subst hi_26
      replace h := ob h; obtain ⟨w_27, hw_27, h⟩ := h
      replace h := ob h; obtain ⟨cs_25, hv_25, h⟩ := h
      replace hq := hq.trans (nb_c_X8_sort F cs1 i_26 u7 u4 u6 v_23 cs_25 hv_25)
      have k9 := nb_c_X4_order_b98 F cs_25 u0 u1 u2 u3 u4 u5 u6 u7 cs9 r9 h
      exact hq.trans k9
    · skip
      replace h := (if_neg c_21).symm.trans h
      replace h := ob h; obtain ⟨w_29, hw_29, h⟩ := h
      replace h := ob h; obtain ⟨cs_28, hv_28, h⟩ := h
      replace hq := hq.trans (nb_c_X4_computeAll F cs1 u0 u1 (u3 + (u8 * u5)) (u7 + (u8 * u6)) cs_28 hv_28)
      have k9 := nb_c_X4_order_b52 F (c_X4_order_L21 F lf_21) ih_21 cs_28 u0 u1 u2 u3 u4 u5 u6 u7 u8 (u7 + (u8 * u6)) cs9 r9 h
      exact hq.trans k9
theorem nb_c_X4_order (F : Nat) (cs : CS) (x0 : Nat) (x1 : Nat) (x2 : Int32) (x3 : Int32) (x4 : Int32) (x5 : Int32) (cs9 : CS) (r9 : Int32) (h : c_X4_order F cs x0 x1 x2 x3 x4 x5 = some (cs9, r9)) : NB cs cs9 := by
  unfold c_X4_order at h
  have hq : NB cs cs := NB.refl
  replace h := ob h; obtain ⟨v_21, hv_21, h⟩ := h
  have k9 := nb_c_X4_order_L21 F F cs x0 x1 x2 x3 x4 x5 (v_21 + x5) (x3 + (x4 * x5)) 0 cs9 r9 h
  exact hq.trans k9
theorem nb_c_X4_runQuery_b117 (F : Nat) (T : TC_X4_runQuery) (hM_X4_runQuery : ∀ (cs : CS) (x0 : Nat) (x1 : Nat) (x2 : Int32) (cs9 : CS) (r9 : Int32), T.1 cs x0 x1 x2 = some (cs9, r9) → NB cs cs9) (hM_X4_runSelect : ∀ (cs : CS) (x0 : Nat) (x1 : Nat) (x2 : Int32) (cs9 : CS) (r9 : Int32), T.2.1 cs x0 x1 x2 = some (cs9, r9) → NB cs cs9) (hM_X4_joinSources : ∀ (cs : CS) (x0 : Nat) (x1 : Nat) (x2 : Int32) (cs9 : CS) (r9 : Int32), T.2.2.1 cs x0 x1 x2 = some (cs9, r9) → NB cs cs9) (hM_X4_runSource : ∀ (cs : CS) (x0 : Nat) (x1 : Nat) (x2 : Int32) (cs9 : CS) (r9 : Int32), T.2.2.2 cs x0 x1 x2 = some (cs9, r9) → NB cs cs9) (cs1 : CS) (y0 : Int32) (cs9 : CS) (r9 : Int32) (h : c_X4_runQuery_b117 F T cs1 y0 = some (cs9, r9)) : NB cs1 cs9 := by
  unfold c_X4_runQuery_b117 at h
  have hq : NB cs1 cs1 := NB.refl
  have h9 := (Prod.mk.inj (Option.some.inj h)).1
  exact hq.to h9
theorem nb_c_X4_runQuery_b83 (F : Nat) (T : TC_X4_runQuery) (hM_X4_runQuery : ∀ (cs : CS) (x0 : Nat) (x1 : Nat) (x2 : Int32) (cs9 : CS) (r9 : Int32), T.1 cs x0 x1 x2 = some (cs9, r9) → NB cs cs9) (hM_X4_runSelect : ∀ (cs : CS) (x0 : Nat) (x1 : Nat) (x2 : Int32) (cs9 : CS) (r9 : Int32), T.2.1 cs x0 x1 x2 = some (cs9, r9) → NB cs cs9) (hM_X4_joinSources : ∀ (cs : CS) (x0 : Nat) (x1 : Nat) (x2 : Int32) (cs9 : CS) (r9 : Int32), T.2.2.1 cs x0 x1 x2 = some (cs9, r9) → NB cs cs9) (hM_X4_runSource : ∀ (cs : CS) (x0 : Nat) (x1 : Nat) (x2 : Int32) (cs9 : CS) (r9 : Int32), T.2.2.2 cs x0 x1 x2 = some (cs9, r9) → NB cs cs9) (rc14 : CS → Nat → Nat → Int32 → Int32 → Int32 → Int32 → Option (CS × Int32)) (hrc14 : ∀ (cs1 : CS) (u0 : Nat) (u1 : Nat) (u2 : Int32) (u3 : Int32) (u4 : Int32) (u5 : Int32) (cs9 : CS) (r9 : Int32), rc14 cs1 u0 u1 u2 u3 u4 u5 = some (cs9, r9) → NB cs1 cs9) (cs1 : CS) (u0 : Nat) (u1 : Nat) (u2 : Int32) (u4 : Int32) (u5 : Int32) (y0 : Int32) (cs9 : CS) (r9 : Int32) (h : c_X4_runQuery_b83 F T rc14 cs1 u0 u1 u2 u4 u5 y0 = some (cs9, r9)) : NB cs1 cs9 := by
  unfold c_X4_runQuery_b83 at h
  have hq : NB cs1 cs1 := NB.refl
  have k9 := hrc14 cs1 u0 u1 u2 y0 u4 (u5 + 1) cs9 r9 h
  exact hq.trans k9
theorem nb_c_X4_runQuery_b56 (F : Nat) (T : TC_X4_runQuery) (hM_X4_runQuery : ∀ (cs : CS) (x0 : Nat) (x1 : Nat) (x2 : Int32) (cs9 : CS) (r9 : Int32), T.1 cs x0 x1 x2 = some (cs9, r9) → NB cs cs9) (hM_X4_runSelect : ∀ (cs : CS) (x0 : Nat) (x1 : Nat) (x2 : Int32) (cs9 : CS) (r9 : Int32), T.2.1 cs x0 x1 x2 = some (cs9, r9) → NB cs cs9) (hM_X4_joinSources : ∀ (cs : CS) (x0 : Nat) (x1 : Nat) (x2 : Int32) (cs9 : CS) (r9 : Int32), T.2.2.1 cs x0 x1 x2 = some (cs9, r9) → NB cs cs9) (hM_X4_runSource : ∀ (cs : CS) (x0 : Nat) (x1 : Nat) (x2 : Int32) (cs9 : CS) (r9 : Int32), T.2.2.2 cs x0 x1 x2 = some (cs9, r9) → NB cs cs9) (rc14 : CS → Nat → Nat → Int32 → Int32 → Int32 → Int32 → Option (CS × Int32)) (hrc14 : ∀ (cs1 : CS) (u0 : Nat) (u1 : Nat) (u2 : Int32) (u3 : Int32) (u4 : Int32) (u5 : Int32) (cs9 : CS) (r9 : Int32), rc14 cs1 u0 u1 u2 u3 u4 u5 = some (cs9, r9) → NB cs1 cs9) (cs1 : CS) (u0 : Nat) (u1 : Nat) (u2 : Int32) (u3 : Int32) (u4 : Int32) (u5 : Int32) (u6 : Nat) (y0 : Int32) (cs9 : CS) (r9 : Int32) (h : c_X4_runQuery_b56 F T rc14 cs1 u0 u1 u2 u3 u4 u5 u6 y0 = some (cs9, r9)) : NB cs1 cs9 := by
  unfold c_X4_runQuery_b56 at h
  have hq : NB cs1 cs1 := NB.refl
  by_cases c_24 : u5 = 0
  · skip
    replace h := (if_pos c_24).symm.trans h
    have k9 := nb_c_X4_runQuery_b83 F T hM_X4_runQuery hM_X4_runSelect hM_X4_joinSources hM_X4_runSource rc14 hrc14 cs1 u0 u1 u2 u4 u5 y0 cs9 r9 h
    exact hq.trans k9
  · skip
    replace h := (if_neg c_24).symm.trans h
    replace h := ob h; obtain ⟨v_25, hv_25, h⟩ := h
    replace h := ob h; obtain ⟨w_27, hw_27, h⟩ := h
    replace h := ob h; obtain ⟨z_26, hv_26, h⟩ := h
    replace hq := hq.trans (nb_c_X4_combine F cs1 u0 v_25 u2 u3 y0 u4 z_26.1 z_26.2 hv_26)
    have k9 := nb_c_X4_runQuery_b83 F T hM_X4_runQuery hM_X4_runSelect hM_X4_joinSources hM_X4_runSource rc14 hrc14 z_26.1 u0 u1 u2 u4 u5 z_26.2 cs9 r9 h
    exact hq.trans k9
theorem nb_c_X4_runQuery_L14 (F : Nat) (T : TC_X4_runQuery) (hM_X4_runQuery : ∀ (cs : CS) (x0 : Nat) (x1 : Nat) (x2 : Int32) (cs9 : CS) (r9 : Int32), T.1 cs x0 x1 x2 = some (cs9, r9) → NB cs cs9) (hM_X4_runSelect : ∀ (cs : CS) (x0 : Nat) (x1 : Nat) (x2 : Int32) (cs9 : CS) (r9 : Int32), T.2.1 cs x0 x1 x2 = some (cs9, r9) → NB cs cs9) (hM_X4_joinSources : ∀ (cs : CS) (x0 : Nat) (x1 : Nat) (x2 : Int32) (cs9 : CS) (r9 : Int32), T.2.2.1 cs x0 x1 x2 = some (cs9, r9) → NB cs cs9) (hM_X4_runSource : ∀ (cs : CS) (x0 : Nat) (x1 : Nat) (x2 : Int32) (cs9 : CS) (r9 : Int32), T.2.2.2 cs x0 x1 x2 = some (cs9, r9) → NB cs cs9) : ∀ (lf_14 : Nat) (cs1 : CS) (u0 : Nat) (u1 : Nat) (u2 : Int32) (u3 : Int32) (u4 : Int32) (u5 : Int32) (cs9 : CS) (r9 : Int32), c_X4_runQuery_L14 F T lf_14 cs1 u0 u1 u2 u3 u4 u5 = some (cs9, r9) → NB cs1 cs9 := by
  intro lf_14
  induction lf_14 with
  | zero => intro cs1 u0 u1 u2 u3 u4 u5 cs9 r9 h; cases (show (none : Option (CS × Int32)) = _ from h)
  | succ lf_14 ih_14 =>
    intro cs1 u0 u1 u2 u3 u4 u5 cs9 r9 h
    rw [c_X4_runQuery_L14] at h
    have hq : NB cs1 cs1 := NB.refl
    replace h := ob h; obtain ⟨v_24, hv_24, h⟩ := h
    replace h := ob h; obtain ⟨i_26, hi_26, h⟩ := h
    subst hi_26
    replace h := ob h; obtain ⟨w_27, hw_27, h⟩ := h
    replace h := ob h; obtain ⟨v_25, hv_25, h⟩ := h
    by_cases c_28 : v_25 ≤ u5
    · skip
      replace h := (if_pos c_28).symm.trans h
      replace h := ob h; obtain ⟨v_29, hv_29, h⟩ := h
      cases v_29 with
      | none =>
        replace h := oc_n.symm.trans h
        have k9 := nb_c_X4_runQuery_b117 F T hM_X4_runQuery hM_X4_runSelect hM_X4_joinSources hM_X4_runSource cs1 u3 cs9 r9 h
        exact hq.trans k9
      | some i_30 =>
        replace h := oc_s.symm.trans h
        replace h := ob h; obtain ⟨v_31, hv_31, h⟩ := h
        replace h := ob h; obtain ⟨v_32, hv_32, h⟩ := h
        replace h := ob h; obtain ⟨i_33, hi_33, h⟩ := h
        subst hi_33
        replace h := ob h; obtain ⟨w_35, hw_35, h⟩ := h
        replace h := ob h; obtain ⟨z_34, hv_34, h⟩ := h
        replace hq := hq.trans (nb_c_X4_order F cs1 u0 i_33 v_32 u2 u3 u4 z_34.1 z_34.2 hv_34)
        have k9 := nb_c_X4_runQuery_b117 F T hM_X4_runQuery hM_X4_runSelect hM_X4_joinSources hM_X4_runSource z_34.1 z_34.2 cs9 r9 h
        exact hq.trans k9
    · skip
      replace h := (if_neg c_28).symm.trans h
      replace h := ob h; obtain ⟨v_36, hv_36, h⟩ := h
      replace h := ob h; obtain ⟨i_38, hi_38, h⟩ := h
      subst hi_38
      replace h := ob h; obtain ⟨w_39, hw_39, h⟩ := h
      replace h := ob h; obtain ⟨v_37, hv_37, h⟩ := h
      replace h := ob h; obtain ⟨w_40, hw_40, h⟩ := h
      replace h := ob h; obtain ⟨w_42, hw_42, h⟩ := h
      replace h := ob h; obtain ⟨z_41, hv_41, h⟩ := h
      replace hq := hq.trans (hM_X4_runSelect cs1 u0 v_37 (u2 + (u3 * u4)) z_41.1 z_41.2 hv_41)
      have k9 := nb_c_X4_runQuery_b56 F T hM_X4_runQuery hM_X4_runSelect hM_X4_joinSources hM_X4_runSource (c_X4_runQuery_L14 F T lf_14) ih_14 z_41.1 u0 u1 u2 u3 u4 u5 v_37 z_41.2 cs9 r9 h
      exact hq.trans k9
theorem nb_cb_X4_runQuery (F : Nat) (T : TC_X4_runQuery) (hM_X4_runQuery : ∀ (cs : CS) (x0 : Nat) (x1 : Nat) (x2 : Int32) (cs9 : CS) (r9 : Int32), T.1 cs x0 x1 x2 = some (cs9, r9) → NB cs cs9) (hM_X4_runSelect : ∀ (cs : CS) (x0 : Nat) (x1 : Nat) (x2 : Int32) (cs9 : CS) (r9 : Int32), T.2.1 cs x0 x1 x2 = some (cs9, r9) → NB cs cs9) (hM_X4_joinSources : ∀ (cs : CS) (x0 : Nat) (x1 : Nat) (x2 : Int32) (cs9 : CS) (r9 : Int32), T.2.2.1 cs x0 x1 x2 = some (cs9, r9) → NB cs cs9) (hM_X4_runSource : ∀ (cs : CS) (x0 : Nat) (x1 : Nat) (x2 : Int32) (cs9 : CS) (r9 : Int32), T.2.2.2 cs x0 x1 x2 = some (cs9, r9) → NB cs cs9) (cs : CS) (x0 : Nat) (x1 : Nat) (x2 : Int32) (cs9 : CS) (r9 : Int32) (h : cb_X4_runQuery F T cs x0 x1 x2 = some (cs9, r9)) : NB cs cs9 := by
  unfold cb_X4_runQuery at h
  have hq : NB cs cs := NB.refl
  replace h := ob h; obtain ⟨v_24, hv_24, h⟩ := h
  replace h := ob h; obtain ⟨i_25, hi_25, h⟩ := h
  subst hi_25
  replace h := ob h; obtain ⟨v_26, hv_26, h⟩ := h
  have k9 := nb_c_X4_runQuery_L14 F T hM_X4_runQuery hM_X4_runSelect hM_X4_joinSources hM_X4_runSource F cs x0 x1 x2 0 v_26 0 cs9 r9 h
  exact hq.trans k9
theorem nb_c_X4_runSelect_b124 (F : Nat) (T : TC_X4_runQuery) (hM_X4_runQuery : ∀ (cs : CS) (x0 : Nat) (x1 : Nat) (x2 : Int32) (cs9 : CS) (r9 : Int32), T.1 cs x0 x1 x2 = some (cs9, r9) → NB cs cs9) (hM_X4_runSelect : ∀ (cs : CS) (x0 : Nat) (x1 : Nat) (x2 : Int32) (cs9 : CS) (r9 : Int32), T.2.1 cs x0 x1 x2 = some (cs9, r9) → NB cs cs9) (hM_X4_joinSources : ∀ (cs : CS) (x0 : Nat) (x1 : Nat) (x2 : Int32) (cs9 : CS) (r9 : Int32), T.2.2.1 cs x0 x1 x2 = some (cs9, r9) → NB cs cs9) (hM_X4_runSource : ∀ (cs : CS) (x0 : Nat) (x1 : Nat) (x2 : Int32) (cs9 : CS) (r9 : Int32), T.2.2.2 cs x0 x1 x2 = some (cs9, r9) → NB cs cs9) (cs1 : CS) (y0 : Int32) (cs9 : CS) (r9 : Int32) (h : c_X4_runSelect_b124 F T cs1 y0 = some (cs9, r9)) : NB cs1 cs9 := by
  unfold c_X4_runSelect_b124 at h
  have hq : NB cs1 cs1 := NB.refl
  have h9 := (Prod.mk.inj (Option.some.inj h)).1
  exact hq.to h9
theorem nb_c_X4_runSelect_b108 (F : Nat) (T : TC_X4_runQuery) (hM_X4_runQuery : ∀ (cs : CS) (x0 : Nat) (x1 : Nat) (x2 : Int32) (cs9 : CS) (r9 : Int32), T.1 cs x0 x1 x2 = some (cs9, r9) → NB cs cs9) (hM_X4_runSelect : ∀ (cs : CS) (x0 : Nat) (x1 : Nat) (x2 : Int32) (cs9 : CS) (r9 : Int32), T.2.1 cs x0 x1 x2 = some (cs9, r9) → NB cs cs9) (hM_X4_joinSources : ∀ (cs : CS) (x0 : Nat) (x1 : Nat) (x2 : Int32) (cs9 : CS) (r9 : Int32), T.2.2.1 cs x0 x1 x2 = some (cs9, r9) → NB cs cs9) (hM_X4_runSource : ∀ (cs : CS) (x0 : Nat) (x1 : Nat) (x2 : Int32) (cs9 : CS) (r9 : Int32), T.2.2.2 cs x0 x1 x2 = some (cs9, r9) → NB cs cs9) (cs1 : CS) (u0 : Nat) (u1 : Nat) (u2 : Int32) (u3 : Int32) (cs9 : CS) (r9 : Int32) (h : c_X4_runSelect_b108 F T cs1 u0 u1 u2 u3 = some (cs9, r9)) : NB cs1 cs9 := by
  unfold c_X4_runSelect_b108 at h
  have hq : NB cs1 cs1 := NB.refl
  replace h := ob h; obtain ⟨v_38, hv_38, h⟩ := h
  replace h := ob h; obtain ⟨v_39, hv_39, h⟩ := h
  replace h := ob h; obtain ⟨i_40, hi_40, h⟩ := h
  subst hi_40
  replace h := ob h; obtain ⟨v_41, hv_41, h⟩ := h
  replace h := ob h; obtain ⟨i_43, hi_43, h⟩ := h
  subst hi_43
  replace h := ob h; obtain ⟨w_44, hw_44, h⟩ := h
  replace h := ob h; obtain ⟨z_42, hv_42, h⟩ := h
  replace hq := hq.trans (nb_c_X8_once F cs1 i_43 u2 u3 v_41 z_42.1 z_42.2 hv_42)
  have k9 := nb_c_X4_runSelect_b124 F T hM_X4_runQuery hM_X4_runSelect hM_X4_joinSources hM_X4_runSource z_42.1 z_42.2 cs9 r9 h
  exact hq.trans k9
theorem nb_c_X4_runSelect_b82 (F : Nat) (T : TC_X4_runQuery) (hM_X4_runQuery : ∀ (cs : CS) (x0 : Nat) (x1 : Nat) (x2 : Int32) (cs9 : CS) (r9 : Int32), T.1 cs x0 x1 x2 = some (cs9, r9) → NB cs cs9) (hM_X4_runSelect : ∀ (cs : CS) (x0 : Nat) (x1 : Nat) (x2 : Int32) (cs9 : CS) (r9 : Int32), T.2.1 cs x0 x1 x2 = some (cs9, r9) → NB cs cs9) (hM_X4_joinSources : ∀ (cs : CS) (x0 : Nat) (x1 : Nat) (x2 : Int32) (cs9 : CS) (r9 : Int32), T.2.2.1 cs x0 x1 x2 = some (cs9, r9) → NB cs cs9) (hM_X4_runSource : ∀ (cs : CS) (x0 : Nat) (x1 : Nat) (x2 : Int32) (cs9 : CS) (r9 : Int32), T.2.2.2 cs x0 x1 x2 = some (cs9, r9) → NB cs cs9) (cs1 : CS) (u0 : Nat) (u1 : Nat) (u2 : Int32) (u3 : Int32) (cs9 : CS) (r9 : Int32) (h : c_X4_runSelect_b82 F T cs1 u0 u1 u2 u3 = some (cs9, r9)) : NB cs1 cs9 := by
  unfold c_X4_runSelect_b82 at h
  have hq : NB cs1 cs1 := NB.refl
  replace h := ob h; obtain ⟨v_38, hv_38, h⟩ := h
  by_cases c_39 : v_38 = 0
  · skip
    replace h := (if_pos c_39).symm.trans h
    have h9 := (Prod.mk.inj (Option.some.inj h)).1
    exact hq.to h9
  · skip
    replace h := (if_neg c_39).symm.trans h
    replace h := ob h; obtain ⟨v_40, hv_40, h⟩ := h
    replace h := ob h; obtain ⟨v_41, hv_41, h⟩ := h
    replace h := ob h; obtain ⟨i_42, hi_42, h⟩ := h
    subst hi_42
    replace h := ob h; obtain ⟨v_43, hv_43, h⟩ := h
    replace h := ob h; obtain ⟨i_45, hi_45, h⟩ := h
    subst hi_45
    replace h := ob h; obtain ⟨w_46, hw_46, h⟩ := h
    replace h := ob h; obtain ⟨cs_44, hv_44, h⟩ := h
    replace hq := hq.trans (nb_c_X8_sort F cs1 i_45 u2 u3 v_43 0 cs_44 hv_44)
    have k9 := nb_c_X4_runSelect_b108 F T hM_X4_runQuery hM_X4_runSelect hM_X4_joinSources hM_X4_runSource cs_44 u0 u1 u2 u3 cs9 r9 h
    exact hq.trans k9
theorem nb_c_X4_runSelect_b69 (F : Nat) (T : TC_X4_runQuery) (hM_X4_runQuery : ∀ (cs : CS) (x0 : Nat) (x1 : Nat) (x2 : Int32) (cs9 : CS) (r9 : Int32), T.1 cs x0 x1 x2 = some (cs9, r9) → NB cs cs9) (hM_X4_runSelect : ∀ (cs : CS) (x0 : Nat) (x1 : Nat) (x2 : Int32) (cs9 : CS) (r9 : Int32), T.2.1 cs x0 x1 x2 = some (cs9, r9) → NB cs cs9) (hM_X4_joinSources : ∀ (cs : CS) (x0 : Nat) (x1 : Nat) (x2 : Int32) (cs9 : CS) (r9 : Int32), T.2.2.1 cs x0 x1 x2 = some (cs9, r9) → NB cs cs9) (hM_X4_runSource : ∀ (cs : CS) (x0 : Nat) (x1 : Nat) (x2 : Int32) (cs9 : CS) (r9 : Int32), T.2.2.2 cs x0 x1 x2 = some (cs9, r9) → NB cs cs9) (cs1 : CS) (u0 : Nat) (u1 : Nat) (u2 : Int32) (u4 : Int32) (y0 : Int32) (cs9 : CS) (r9 : Int32) (h : c_X4_runSelect_b69 F T cs1 u0 u1 u2 u4 y0 = some (cs9, r9)) : NB cs1 cs9 := by
  unfold c_X4_runSelect_b69 at h
  have hq : NB cs1 cs1 := NB.refl
  replace h := ob h; obtain ⟨v_38, hv_38, h⟩ := h
  replace h := ob h; obtain ⟨i_39, hi_39, h⟩ := h
  subst hi_39
  replace h := ob h; obtain ⟨w_41, hw_41, h⟩ := h
  replace h := ob h; obtain ⟨cs_40, hv_40, h⟩ := h
  replace hq := hq.trans (nb_c_X4_project F cs1 u0 i_39 u2 y0 u4 cs_40 hv_40)
  have k9 := nb_c_X4_runSelect_b82 F T hM_X4_runQuery hM_X4_runSelect hM_X4_joinSources hM_X4_runSource cs_40 u0 u1 u2 y0 cs9 r9 h
  exact hq.trans k9
theorem nb_c_X4_runSelect_b57 (F : Nat) (T : TC_X4_runQuery) (hM_X4_runQuery : ∀ (cs : CS) (x0 : Nat) (x1 : Nat) (x2 : Int32) (cs9 : CS) (r9 : Int32), T.1 cs x0 x1 x2 = some (cs9, r9) → NB cs cs9) (hM_X4_runSelect : ∀ (cs : CS) (x0 : Nat) (x1 : Nat) (x2 : Int32) (cs9 : CS) (r9 : Int32), T.2.1 cs x0 x1 x2 = some (cs9, r9) → NB cs cs9) (hM_X4_joinSources : ∀ (cs : CS) (x0 : Nat) (x1 : Nat) (x2 : Int32) (cs9 : CS) (r9 : Int32), T.2.2.1 cs x0 x1 x2 = some (cs9, r9) → NB cs cs9) (hM_X4_runSource : ∀ (cs : CS) (x0 : Nat) (x1 : Nat) (x2 : Int32) (cs9 : CS) (r9 : Int32), T.2.2.2 cs x0 x1 x2 = some (cs9, r9) → NB cs cs9) (cs1 : CS) (u0 : Nat) (u1 : Nat) (u2 : Int32) (u3 : Int32) (u4 : Int32) (cs9 : CS) (r9 : Int32) (h : c_X4_runSelect_b57 F T cs1 u0 u1 u2 u3 u4 = some (cs9, r9)) : NB cs1 cs9 := by
  unfold c_X4_runSelect_b57 at h
  have hq : NB cs1 cs1 := NB.refl
  replace h := ob h; obtain ⟨v_38, hv_38, h⟩ := h
  replace h := ob h; obtain ⟨w_40, hw_40, h⟩ := h
  replace h := ob h; obtain ⟨z_39, hv_39, h⟩ := h
  replace hq := hq.trans (nb_c_X4_filter F cs1 u0 v_38 u2 u3 u4 z_39.1 z_39.2 hv_39)
  have k9 := nb_c_X4_runSelect_b69 F T hM_X4_runQuery hM_X4_runSelect hM_X4_joinSources hM_X4_runSource z_39.1 u0 u1 u2 u4 z_39.2 cs9 r9 h
  exact hq.trans k9
theorem nb_c_X4_runSelect_b42 (F : Nat) (T : TC_X4_runQuery) (hM_X4_runQuery : ∀ (cs : CS) (x0 : Nat) (x1 : Nat) (x2 : Int32) (cs9 : CS) (r9 : Int32), T.1 cs x0 x1 x2 = some (cs9, r9) → NB cs cs9) (hM_X4_runSelect : ∀ (cs : CS) (x0 : Nat) (x1 : Nat) (x2 : Int32) (cs9 : CS) (r9 : Int32), T.2.1 cs x0 x1 x2 = some (cs9, r9) → NB cs cs9) (hM_X4_joinSources : ∀ (cs : CS) (x0 : Nat) (x1 : Nat) (x2 : Int32) (cs9 : CS) (r9 : Int32), T.2.2.1 cs x0 x1 x2 = some (cs9, r9) → NB cs cs9) (hM_X4_runSource : ∀ (cs : CS) (x0 : Nat) (x1 : Nat) (x2 : Int32) (cs9 : CS) (r9 : Int32), T.2.2.2 cs x0 x1 x2 = some (cs9, r9) → NB cs cs9) (cs1 : CS) (u0 : Nat) (u1 : Nat) (u2 : Int32) (y0 : Int32) (cs9 : CS) (r9 : Int32) (h : c_X4_runSelect_b42 F T cs1 u0 u1 u2 y0 = some (cs9, r9)) : NB cs1 cs9 := by
  unfold c_X4_runSelect_b42 at h
  have hq : NB cs1 cs1 := NB.refl
  replace h := ob h; obtain ⟨v_38, hv_38, h⟩ := h
  replace h := ob h; obtain ⟨i_39, hi_39, h⟩ := h
  subst hi_39
  replace h := ob h; obtain ⟨v_40, hv_40, h⟩ := h
  replace h := ob h; obtain ⟨v_41, hv_41, h⟩ := h
  have k9 := nb_c_X4_runSelect_b57 F T hM_X4_runQuery hM_X4_runSelect hM_X4_joinSources hM_X4_runSource cs1 u0 u1 u2 y0 (v_40 + v_41) cs9 r9 h
  exact hq.trans k9
theorem nb_c_X4_runSelect_b25 (F : Nat) (T : TC_X4_runQuery) (hM_X4_runQuery : ∀ (cs : CS) (x0 : Nat) (x1 : Nat) (x2 : Int32) (cs9 : CS) (r9 : Int32), T.1 cs x0 x1 x2 = some (cs9, r9) → NB cs cs9) (hM_X4_runSelect : ∀ (cs : CS) (x0 : Nat) (x1 : Nat) (x2 : Int32) (cs9 : CS) (r9 : Int32), T.2.1 cs x0 x1 x2 = some (cs9, r9) → NB cs cs9) (hM_X4_joinSources : ∀ (cs : CS) (x0 : Nat) (x1 : Nat) (x2 : Int32) (cs9 : CS) (r9 : Int32), T.2.2.1 cs x0 x1 x2 = some (cs9, r9) → NB cs cs9) (hM_X4_runSource : ∀ (cs : CS) (x0 : Nat) (x1 : Nat) (x2 : Int32) (cs9 : CS) (r9 : Int32), T.2.2.2 cs x0 x1 x2 = some (cs9, r9) → NB cs cs9) (cs1 : CS) (u0 : Nat) (u1 : Nat) (u2 : Int32) (u4 : Int32) (y0 : Int32) (cs9 : CS) (r9 : Int32) (h : c_X4_runSelect_b25 F T cs1 u0 u1 u2 u4 y0 = some (cs9, r9)) : NB cs1 cs9 := by
  unfold c_X4_runSelect_b25 at h
  have hq : NB cs1 cs1 := NB.refl
  replace h := ob h; obtain ⟨w_39, hw_39, h⟩ := h
  replace h := ob h; obtain ⟨v_38, hv_38, h⟩ := h
  by_cases c_40 : v_38 = 0
  · skip
    replace h := (if_pos c_40).symm.trans h
    have k9 := nb_c_X4_runSelect_b57 F T hM_X4_runQuery hM_X4_runSelect hM_X4_joinSources hM_X4_runSource cs1 u0 u1 u2 y0 u4 cs9 r9 h
    exact hq.trans k9
  · skip
    replace h := (if_neg c_40).symm.trans h
    replace h := ob h; obtain ⟨w_42, hw_42, h⟩ := h
    replace h := ob h; obtain ⟨z_41, hv_41, h⟩ := h
    replace hq := hq.trans (nb_c_X4_group F cs1 u0 u1 u2 y0 u4 z_41.1 z_41.2 hv_41)
    have k9 := nb_c_X4_runSelect_b42 F T hM_X4_runQuery hM_X4_runSelect hM_X4_joinSources hM_X4_runSource z_41.1 u0 u1 u2 z_41.2 cs9 r9 h
    exact hq.trans k9
theorem nb_c_X4_runSelect_b6 (F : Nat) (T : TC_X4_runQuery) (hM_X4_runQuery : ∀ (cs : CS) (x0 : Nat) (x1 : Nat) (x2 : Int32) (cs9 : CS) (r9 : Int32), T.1 cs x0 x1 x2 = some (cs9, r9) → NB cs cs9) (hM_X4_runSelect : ∀ (cs : CS) (x0 : Nat) (x1 : Nat) (x2 : Int32) (cs9 : CS) (r9 : Int32), T.2.1 cs x0 x1 x2 = some (cs9, r9) → NB cs cs9) (hM_X4_joinSources : ∀ (cs : CS) (x0 : Nat) (x1 : Nat) (x2 : Int32) (cs9 : CS) (r9 : Int32), T.2.2.1 cs x0 x1 x2 = some (cs9, r9) → NB cs cs9) (hM_X4_runSource : ∀ (cs : CS) (x0 : Nat) (x1 : Nat) (x2 : Int32) (cs9 : CS) (r9 : Int32), T.2.2.2 cs x0 x1 x2 = some (cs9, r9) → NB cs cs9) (cs1 : CS) (u0 : Nat) (u1 : Nat) (u2 : Int32) (y0 : Int32) (cs9 : CS) (r9 : Int32) (h : c_X4_runSelect_b6 F T cs1 u0 u1 u2 y0 = some (cs9, r9)) : NB cs1 cs9 := by
  unfold c_X4_runSelect_b6 at h
  have hq : NB cs1 cs1 := NB.refl
  replace h := ob h; obtain ⟨w_39, hw_39, h⟩ := h
  replace h := ob h; obtain ⟨v_38, hv_38, h⟩ := h
  replace h := ob h; obtain ⟨v_40, hv_40, h⟩ := h
  replace h := ob h; obtain ⟨w_42, hw_42, h⟩ := h
  replace h := ob h; obtain ⟨z_41, hv_41, h⟩ := h
  replace hq := hq.trans (nb_c_X4_filter F cs1 u0 v_40 u2 y0 v_38 z_41.1 z_41.2 hv_41)
  have k9 := nb_c_X4_runSelect_b25 F T hM_X4_runQuery hM_X4_runSelect hM_X4_joinSources hM_X4_runSource z_41.1 u0 u1 u2 v_38 z_41.2 cs9 r9 h
  exact hq.trans k9
theorem nb_cb_X4_runSelect (F : Nat) (T : TC_X4_runQuery) (hM_X4_runQuery : ∀ (cs : CS) (x0 : Nat) (x1 : Nat) (x2 : Int32) (cs9 : CS) (r9 : Int32), T.1 cs x0 x1 x2 = some (cs9, r9) → NB cs cs9) (hM_X4_runSelect : ∀ (cs : CS) (x0 : Nat) (x1 : Nat) (x2 : Int32) (cs9 : CS) (r9 : Int32), T.2.1 cs x0 x1 x2 = some (cs9, r9) → NB cs cs9) (hM_X4_joinSources : ∀ (cs : CS) (x0 : Nat) (x1 : Nat) (x2 : Int32) (cs9 : CS) (r9 : Int32), T.2.2.1 cs x0 x1 x2 = some (cs9, r9) → NB cs cs9) (hM_X4_runSource : ∀ (cs : CS) (x0 : Nat) (x1 : Nat) (x2 : Int32) (cs9 : CS) (r9 : Int32), T.2.2.2 cs x0 x1 x2 = some (cs9, r9) → NB cs cs9) (cs : CS) (x0 : Nat) (x1 : Nat) (x2 : Int32) (cs9 : CS) (r9 : Int32) (h : cb_X4_runSelect F T cs x0 x1 x2 = some (cs9, r9)) : NB cs cs9 := by
  unfold cb_X4_runSelect at h
  have hq : NB cs cs := NB.refl
  replace h := ob h; obtain ⟨w_39, hw_39, h⟩ := h
  replace h := ob h; obtain ⟨z_38, hv_38, h⟩ := h
  replace hq := hq.trans (hM_X4_joinSources cs x0 x1 x2 z_38.1 z_38.2 hv_38)
  have k9 := nb_c_X4_runSelect_b6 F T hM_X4_runQuery hM_X4_runSelect hM_X4_joinSources hM_X4_runSource z_38.1 x0 x1 x2 z_38.2 cs9 r9 h
  exact hq.trans k9
theorem nb_c_X4_joinSources_b86 (F : Nat) (T : TC_X4_runQuery) (hM_X4_runQuery : ∀ (cs : CS) (x0 : Nat) (x1 : Nat) (x2 : Int32) (cs9 : CS) (r9 : Int32), T.1 cs x0 x1 x2 = some (cs9, r9) → NB cs cs9) (hM_X4_runSelect : ∀ (cs : CS) (x0 : Nat) (x1 : Nat) (x2 : Int32) (cs9 : CS) (r9 : Int32), T.2.1 cs x0 x1 x2 = some (cs9, r9) → NB cs cs9) (hM_X4_joinSources : ∀ (cs : CS) (x0 : Nat) (x1 : Nat) (x2 : Int32) (cs9 : CS) (r9 : Int32), T.2.2.1 cs x0 x1 x2 = some (cs9, r9) → NB cs cs9) (hM_X4_runSource : ∀ (cs : CS) (x0 : Nat) (x1 : Nat) (x2 : Int32) (cs9 : CS) (r9 : Int32), T.2.2.2 cs x0 x1 x2 = some (cs9, r9) → NB cs cs9) (cs1 : CS) (u3 : Int32) (cs9 : CS) (r9 : Int32) (h : c_X4_joinSources_b86 F T cs1 u3 = some (cs9, r9)) : NB cs1 cs9 := by
  unfold c_X4_joinSources_b86 at h
  have hq : NB cs1 cs1 := NB.refl
  have h9 := (Prod.mk.inj (Option.some.inj h)).1
  exact hq.to h9
theorem nb_c_X4_joinSources_b80 (F : Nat) (T : TC_X4_runQuery) (hM_X4_runQuery : ∀ (cs : CS) (x0 : Nat) (x1 : Nat) (x2 : Int32) (cs9 : CS) (r9 : Int32), T.1 cs x0 x1 x2 = some (cs9, r9) → NB cs cs9) (hM_X4_runSelect : ∀ (cs : CS) (x0 : Nat) (x1 : Nat) (x2 : Int32) (cs9 : CS) (r9 : Int32), T.2.1 cs x0 x1 x2 = some (cs9, r9) → NB cs cs9) (hM_X4_joinSources : ∀ (cs : CS) (x0 : Nat) (x1 : Nat) (x2 : Int32) (cs9 : CS) (r9 : Int32), T.2.2.1 cs x0 x1 x2 = some (cs9, r9) → NB cs cs9) (hM_X4_runSource : ∀ (cs : CS) (x0 : Nat) (x1 : Nat) (x2 : Int32) (cs9 : CS) (r9 : Int32), T.2.2.2 cs x0 x1 x2 = some (cs9, r9) → NB cs cs9) (rc5 : CS → Nat → Nat → Int32 → Int32 → Int32 → Option (CS × Int32)) (hrc5 : ∀ (cs1 : CS) (u0 : Nat) (u1 : Nat) (u2 : Int32) (u3 : Int32) (u4 : Int32) (cs9 : CS) (r9 : Int32), rc5 cs1 u0 u1 u2 u3 u4 = some (cs9, r9) → NB cs1 cs9) (cs1 : CS) (u0 : Nat) (u1 : Nat) (u2 : Int32) (u3 : Int32) (u4 : Int32) (cs9 : CS) (r9 : Int32) (h : c_X4_joinSources_b80 F T rc5 cs1 u0 u1 u2 u3 u4 = some (cs9, r9)) : NB cs1 cs9 := by
  unfold c_X4_joinSources_b80 at h
  have hq : NB cs1 cs1 := NB.refl
  have k9 := hrc5 cs1 u0 u1 u2 u3 (u4 + 1) cs9 r9 h
  exact hq.trans k9
theorem nb_c_X4_joinSources_b79 (F : Nat) (T : TC_X4_runQuery) (hM_X4_runQuery : ∀ (cs : CS) (x0 : Nat) (x1 : Nat) (x2 : Int32) (cs9 : CS) (r9 : Int32), T.1 cs x0 x1 x2 = some (cs9, r9) → NB cs cs9) (hM_X4_runSelect : ∀ (cs : CS) (x0 : Nat) (x1 : Nat) (x2 : Int32) (cs9 : CS) (r9 : Int32), T.2.1 cs x0 x1 x2 = some (cs9, r9) → NB cs cs9) (hM_X4_joinSources : ∀ (cs : CS) (x0 : Nat) (x1 : Nat) (x2 : Int32) (cs9 : CS) (r9 : Int32), T.2.2.1 cs x0 x1 x2 = some (cs9, r9) → NB cs cs9) (hM_X4_runSource : ∀ (cs : CS) (x0 : Nat) (x1 : Nat) (x2 : Int32) (cs9 : CS) (r9 : Int32), T.2.2.2 cs x0 x1 x2 = some (cs9, r9) → NB cs cs9) (rc5 : CS → Nat → Nat → Int32 → Int32 → Int32 → Option (CS × Int32)) (hrc5 : ∀ (cs1 : CS) (u0 : Nat) (u1 : Nat) (u2 : Int32) (u3 : Int32) (u4 : Int32) (cs9 : CS) (r9 : Int32), rc5 cs1 u0 u1 u2 u3 u4 = some (cs9, r9) → NB cs1 cs9) (cs1 : CS) (u0 : Nat) (u1 : Nat) (u2 : Int32) (u4 : Int32) (y0 : Int32) (cs9 : CS) (r9 : Int32) (h : c_X4_joinSources_b79 F T rc5 cs1 u0 u1 u2 u4 y0 = some (cs9, r9)) : NB cs1 cs9 := by
  unfold c_X4_joinSources_b79 at h
  have hq : NB cs1 cs1 := NB.refl
  have k9 := nb_c_X4_joinSources_b80 F T hM_X4_runQuery hM_X4_runSelect hM_X4_joinSources hM_X4_runSource rc5 hrc5 cs1 u0 u1 u2 y0 u4 cs9 r9 h
  exact hq.trans k9
theorem nb_c_X4_joinSources_b57 (F : Nat) (T : TC_X4_runQuery) (hM_X4_runQuery : ∀ (cs : CS) (x0 : Nat) (x1 : Nat) (x2 : Int32) (cs9 : CS) (r9 : Int32), T.1 cs x0 x1 x2 = some (cs9, r9) → NB cs cs9) (hM_X4_runSelect : ∀ (cs : CS) (x0 : Nat) (x1 : Nat) (x2 : Int32) (cs9 : CS) (r9 : Int32), T.2.1 cs x0 x1 x2 = some (cs9, r9) → NB cs cs9) (hM_X4_joinSources : ∀ (cs : CS) (x0 : Nat) (x1 : Nat) (x2 : Int32) (cs9 : CS) (r9 : Int32), T.2.2.1 cs x0 x1 x2 = some (cs9, r9) → NB cs cs9) (hM_X4_runSource : ∀ (cs : CS) (x0 : Nat) (x1 : Nat) (x2 : Int32) (cs9 : CS) (r9 : Int32), T.2.2.2 cs x0 x1 x2 = some (cs9, r9) → NB cs cs9) (rc5 : CS → Nat → Nat → Int32 → Int32 → Int32 → Option (CS × Int32)) (hrc5 : ∀ (cs1 : CS) (u0 : Nat) (u1 : Nat) (u2 : Int32) (u3 : Int32) (u4 : Int32) (cs9 : CS) (r9 : Int32), rc5 cs1 u0 u1 u2 u3 u4 = some (cs9, r9) → NB cs1 cs9) (cs1 : CS) (u0 : Nat) (u1 : Nat) (u2 : Int32) (u3 : Int32) (u4 : Int32) (u5 : Nat) (y0 : Int32) (cs9 : CS) (r9 : Int32) (h : c_X4_joinSources_b57 F T rc5 cs1 u0 u1 u2 u3 u4 u5 y0 = some (cs9, r9)) : NB cs1 cs9 := by
  unfold c_X4_joinSources_b57 at h
  have hq : NB cs1 cs1 := NB.refl
  by_cases c_15 : u4 = 0
  · skip
    replace h := (if_pos c_15).symm.trans h
    have k9 := nb_c_X4_joinSources_b79 F T hM_X4_runQuery hM_X4_runSelect hM_X4_joinSources hM_X4_runSource rc5 hrc5 cs1 u0 u1 u2 u4 y0 cs9 r9 h
    exact hq.trans k9
  · skip
    replace h := (if_neg c_15).symm.trans h
    replace h := ob h; obtain ⟨w_17, hw_17, h⟩ := h
    replace h := ob h; obtain ⟨z_16, hv_16, h⟩ := h
    replace hq := hq.trans (nb_c_X4_join F cs1 u0 u5 u2 u3 y0 z_16.1 z_16.2 hv_16)
    have k9 := nb_c_X4_joinSources_b79 F T hM_X4_runQuery hM_X4_runSelect hM_X4_joinSources hM_X4_runSource rc5 hrc5 z_16.1 u0 u1 u2 u4 z_16.2 cs9 r9 h
    exact hq.trans k9
theorem nb_c_X4_joinSources_L5 (F : Nat) (T : TC_X4_runQuery) (hM_X4_runQuery : ∀ (cs : CS) (x0 : Nat) (x1 : Nat) (x2 : Int32) (cs9 : CS) (r9 : Int32), T.1 cs x0 x1 x2 = some (cs9, r9) → NB cs cs9) (hM_X4_runSelect : ∀ (cs : CS) (x0 : Nat) (x1 : Nat) (x2 : Int32) (cs9 : CS) (r9 : Int32), T.2.1 cs x0 x1 x2 = some (cs9, r9) → NB cs cs9) (hM_X4_joinSources : ∀ (cs : CS) (x0 : Nat) (x1 : Nat) (x2 : Int32) (cs9 : CS) (r9 : Int32), T.2.2.1 cs x0 x1 x2 = some (cs9, r9) → NB cs cs9) (hM_X4_runSource : ∀ (cs : CS) (x0 : Nat) (x1 : Nat) (x2 : Int32) (cs9 : CS) (r9 : Int32), T.2.2.2 cs x0 x1 x2 = some (cs9, r9) → NB cs cs9) : ∀ (lf_5 : Nat) (cs1 : CS) (u0 : Nat) (u1 : Nat) (u2 : Int32) (u3 : Int32) (u4 : Int32) (cs9 : CS) (r9 : Int32), c_X4_joinSources_L5 F T lf_5 cs1 u0 u1 u2 u3 u4 = some (cs9, r9) → NB cs1 cs9 := by
  intro lf_5
  induction lf_5 with
  | zero => intro cs1 u0 u1 u2 u3 u4 cs9 r9 h; cases (show (none : Option (CS × Int32)) = _ from h)
  | succ lf_5 ih_5 =>
    intro cs1 u0 u1 u2 u3 u4 cs9 r9 h
    rw [c_X4_joinSources_L5] at h
    have hq : NB cs1 cs1 := NB.refl
    replace h := ob h; obtain ⟨v_15, hv_15, h⟩ := h
    by_cases c_16 : v_15 ≤ u4
    · skip
      replace h := (if_pos c_16).symm.trans h
      have k9 := nb_c_X4_joinSources_b86 F T hM_X4_runQuery hM_X4_runSelect hM_X4_joinSources hM_X4_runSource cs1 u3 cs9 r9 h
      exact hq.trans k9
    · skip
      replace h := (if_neg c_16).symm.trans h
      replace h := ob h; obtain ⟨v_17, hv_17, h⟩ := h
      replace h := ob h; obtain ⟨v_18, hv_18, h⟩ := h
      by_cases c_19 : v_18 ≤ u4
      · skip
        replace h := (if_pos c_19).symm.trans h
        have k9 := nb_c_X4_joinSources_b86 F T hM_X4_runQuery hM_X4_runSelect hM_X4_joinSources hM_X4_runSource cs1 u3 cs9 r9 h
        exact hq.trans k9
      · skip
        replace h := (if_neg c_19).symm.trans h
        replace h := ob h; obtain ⟨v_20, hv_20, h⟩ := h
        replace h := ob h; obtain ⟨v_21, hv_21, h⟩ := h
        cases v_21 with
        | none =>
          replace h := oc_n.symm.trans h
          have k9 := nb_c_X4_joinSources_b80 F T hM_X4_runQuery hM_X4_runSelect hM_X4_joinSources hM_X4_runSource (c_X4_joinSources_L5 F T lf_5) ih_5 cs1 u0 u1 u2 u3 u4 cs9 r9 h
          exact hq.trans k9
        | some i_22 =>
          replace h := oc_s.symm.trans h
          replace h := ob h; obtain ⟨v_23, hv_23, h⟩ := h
          replace h := ob h; obtain ⟨w_25, hw_25, h⟩ := h
          replace h := ob h; obtain ⟨z_24, hv_24, h⟩ := h
          replace hq := hq.trans (hM_X4_runSource cs1 u0 i_22 (u2 + (u3 * v_23)) z_24.1 z_24.2 hv_24)
          have k9 := nb_c_X4_joinSources_b57 F T hM_X4_runQuery hM_X4_runSelect hM_X4_joinSources hM_X4_runSource (c_X4_joinSources_L5 F T lf_5) ih_5 z_24.1 u0 u1 u2 u3 u4 i_22 z_24.2 cs9 r9 h
          exact hq.trans k9
theorem nb_cb_X4_joinSources (F : Nat) (T : TC_X4_runQuery) (hM_X4_runQuery : ∀ (cs : CS) (x0 : Nat) (x1 : Nat) (x2 : Int32) (cs9 : CS) (r9 : Int32), T.1 cs x0 x1 x2 = some (cs9, r9) → NB cs cs9) (hM_X4_runSelect : ∀ (cs : CS) (x0 : Nat) (x1 : Nat) (x2 : Int32) (cs9 : CS) (r9 : Int32), T.2.1 cs x0 x1 x2 = some (cs9, r9) → NB cs cs9) (hM_X4_joinSources : ∀ (cs : CS) (x0 : Nat) (x1 : Nat) (x2 : Int32) (cs9 : CS) (r9 : Int32), T.2.2.1 cs x0 x1 x2 = some (cs9, r9) → NB cs cs9) (hM_X4_runSource : ∀ (cs : CS) (x0 : Nat) (x1 : Nat) (x2 : Int32) (cs9 : CS) (r9 : Int32), T.2.2.2 cs x0 x1 x2 = some (cs9, r9) → NB cs cs9) (cs : CS) (x0 : Nat) (x1 : Nat) (x2 : Int32) (cs9 : CS) (r9 : Int32) (h : cb_X4_joinSources F T cs x0 x1 x2 = some (cs9, r9)) : NB cs cs9 := by
  unfold cb_X4_joinSources at h
  have hq : NB cs cs := NB.refl
  have k9 := nb_c_X4_joinSources_L5 F T hM_X4_runQuery hM_X4_runSelect hM_X4_joinSources hM_X4_runSource F cs x0 x1 x2 0 0 cs9 r9 h
  exact hq.trans k9
theorem nb_c_X4_runSource_b16 (F : Nat) (T : TC_X4_runQuery) (hM_X4_runQuery : ∀ (cs : CS) (x0 : Nat) (x1 : Nat) (x2 : Int32) (cs9 : CS) (r9 : Int32), T.1 cs x0 x1 x2 = some (cs9, r9) → NB cs cs9) (hM_X4_runSelect : ∀ (cs : CS) (x0 : Nat) (x1 : Nat) (x2 : Int32) (cs9 : CS) (r9 : Int32), T.2.1 cs x0 x1 x2 = some (cs9, r9) → NB cs cs9) (hM_X4_joinSources : ∀ (cs : CS) (x0 : Nat) (x1 : Nat) (x2 : Int32) (cs9 : CS) (r9 : Int32), T.2.2.1 cs x0 x1 x2 = some (cs9, r9) → NB cs cs9) (hM_X4_runSource : ∀ (cs : CS) (x0 : Nat) (x1 : Nat) (x2 : Int32) (cs9 : CS) (r9 : Int32), T.2.2.2 cs x0 x1 x2 = some (cs9, r9) → NB cs cs9) (cs1 : CS) (y0 : Int32) (cs9 : CS) (r9 : Int32) (h : c_X4_runSource_b16 F T cs1 y0 = some (cs9, r9)) : NB cs1 cs9 := by
  unfold c_X4_runSource_b16 at h
  have hq : NB cs1 cs1 := NB.refl
  have h9 := (Prod.mk.inj (Option.some.inj h)).1
  exact hq.to h9
theorem nb_c_X4_runSource_b80 (F : Nat) (T : TC_X4_runQuery) (hM_X4_runQuery : ∀ (cs : CS) (x0 : Nat) (x1 : Nat) (x2 : Int32) (cs9 : CS) (r9 : Int32), T.1 cs x0 x1 x2 = some (cs9, r9) → NB cs cs9) (hM_X4_runSelect : ∀ (cs : CS) (x0 : Nat) (x1 : Nat) (x2 : Int32) (cs9 : CS) (r9 : Int32), T.2.1 cs x0 x1 x2 = some (cs9, r9) → NB cs cs9) (hM_X4_joinSources : ∀ (cs : CS) (x0 : Nat) (x1 : Nat) (x2 : Int32) (cs9 : CS) (r9 : Int32), T.2.2.1 cs x0 x1 x2 = some (cs9, r9) → NB cs cs9) (hM_X4_runSource : ∀ (cs : CS) (x0 : Nat) (x1 : Nat) (x2 : Int32) (cs9 : CS) (r9 : Int32), T.2.2.2 cs x0 x1 x2 = some (cs9, r9) → NB cs cs9) (rc22 : CS → Nat → Nat → Int32 → Int32 → Int32 → Option (CS × Int32)) (hrc22 : ∀ (cs1 : CS) (u0 : Nat) (u1 : Nat) (u2 : Int32) (u3 : Int32) (u4 : Int32) (cs9 : CS) (r9 : Int32), rc22 cs1 u0 u1 u2 u3 u4 = some (cs9, r9) → NB cs1 cs9) (cs1 : CS) (u0 : Nat) (u1 : Nat) (u2 : Int32) (u3 : Int32) (u4 : Int32) (cs9 : CS) (r9 : Int32) (h : c_X4_runSource_b80 F T rc22 cs1 u0 u1 u2 u3 u4 = some (cs9, r9)) : NB cs1 cs9 := by
  unfold c_X4_runSource_b80 at h
  have hq : NB cs1 cs1 := NB.refl
  have k9 := hrc22 cs1 u0 u1 u2 u3 (u4 + 1) cs9 r9 h
  exact hq.trans k9
theorem nb_c_X4_runSource_b77 (F : Nat) (T : TC_X4_runQuery) (hM_X4_runQuery : ∀ (cs : CS) (x0 : Nat) (x1 : Nat) (x2 : Int32) (cs9 : CS) (r9 : Int32), T.1 cs x0 x1 x2 = some (cs9, r9) → NB cs cs9) (hM_X4_runSelect : ∀ (cs : CS) (x0 : Nat) (x1 : Nat) (x2 : Int32) (cs9 : CS) (r9 : Int32), T.2.1 cs x0 x1 x2 = some (cs9, r9) → NB cs cs9) (hM_X4_joinSources : ∀ (cs : CS) (x0 : Nat) (x1 : Nat) (x2 : Int32) (cs9 : CS) (r9 : Int32), T.2.2.1 cs x0 x1 x2 = some (cs9, r9) → NB cs cs9) (hM_X4_runSource : ∀ (cs : CS) (x0 : Nat) (x1 : Nat) (x2 : Int32) (cs9 : CS) (r9 : Int32), T.2.2.2 cs x0 x1 x2 = some (cs9, r9) → NB cs cs9) (rc22 : CS → Nat → Nat → Int32 → Int32 → Int32 → Option (CS × Int32)) (hrc22 : ∀ (cs1 : CS) (u0 : Nat) (u1 : Nat) (u2 : Int32) (u3 : Int32) (u4 : Int32) (cs9 : CS) (r9 : Int32), rc22 cs1 u0 u1 u2 u3 u4 = some (cs9, r9) → NB cs1 cs9) (cs1 : CS) (u0 : Nat) (u1 : Nat) (u2 : Int32) (u3 : Int32) (u4 : Int32) (cs9 : CS) (r9 : Int32) (h : c_X4_runSource_b77 F T rc22 cs1 u0 u1 u2 u3 u4 = some (cs9, r9)) : NB cs1 cs9 := by
  unfold c_X4_runSource_b77 at h
  have hq : NB cs1 cs1 := NB.refl
  have k9 := nb_c_X4_runSource_b80 F T hM_X4_runQuery hM_X4_runSelect hM_X4_joinSources hM_X4_runSource rc22 hrc22 cs1 u0 u1 u2 (u3 + 1) u4 cs9 r9 h
  exact hq.trans k9
theorem nb_c_X4_runSource_L22 (F : Nat) (T : TC_X4_runQuery) (hM_X4_runQuery : ∀ (cs : CS) (x0 : Nat) (x1 : Nat) (x2 : Int32) (cs9 : CS) (r9 : Int32), T.1 cs x0 x1 x2 = some (cs9, r9) → NB cs cs9) (hM_X4_runSelect : ∀ (cs : CS) (x0 : Nat) (x1 : Nat) (x2 : Int32) (cs9 : CS) (r9 : Int32), T.2.1 cs x0 x1 x2 = some (cs9, r9) → NB cs cs9) (hM_X4_joinSources : ∀ (cs : CS) (x0 : Nat) (x1 : Nat) (x2 : Int32) (cs9 : CS) (r9 : Int32), T.2.2.1 cs x0 x1 x2 = some (cs9, r9) → NB cs cs9) (hM_X4_runSource : ∀ (cs : CS) (x0 : Nat) (x1 : Nat) (x2 : Int32) (cs9 : CS) (r9 : Int32), T.2.2.2 cs x0 x1 x2 = some (cs9, r9) → NB cs cs9) : ∀ (lf_22 : Nat) (cs1 : CS) (u0 : Nat) (u1 : Nat) (u2 : Int32) (u3 : Int32) (u4 : Int32) (cs9 : CS) (r9 : Int32), c_X4_runSource_L22 F T lf_22 cs1 u0 u1 u2 u3 u4 = some (cs9, r9) → NB cs1 cs9 := by
  intro lf_22
  induction lf_22 with
  | zero => intro cs1 u0 u1 u2 u3 u4 cs9 r9 h; cases (show (none : Option (CS × Int32)) = _ from h)
  | succ lf_22 ih_22 =>
    intro cs1 u0 u1 u2 u3 u4 cs9 r9 h
    rw [c_X4_runSource_L22] at h
    have hq : NB cs1 cs1 := NB.refl
    by_cases c_19 : 8 ≤ u4
    · skip
      replace h := (if_pos c_19).symm.trans h
      have h9 := (Prod.mk.inj (Option.some.inj h)).1
      exact hq.to h9
    · skip
      replace h := (if_neg c_19).symm.trans h
      replace h := ob h; obtain ⟨v_20, hv_20, h⟩ := h
      replace h := ob h; obtain ⟨v_21, hv_21, h⟩ := h
      replace h := ob h; obtain ⟨v_22, hv_22, h⟩ := h
      replace h := ob h; obtain ⟨i_24, hi_24, h⟩ := h
      subst hi_24
      replace h := ob h; obtain ⟨w_25, hw_25, h⟩ := h
      replace h := ob h; obtain ⟨v_23, hv_23, h⟩ := h
      by_cases c_26 : v_23 = 0
      · skip
        replace h := (if_pos c_26).symm.trans h
        have k9 := nb_c_X4_runSource_b80 F T hM_X4_runQuery hM_X4_runSelect hM_X4_joinSources hM_X4_runSource (c_X4_runSource_L22 F T lf_22) ih_22 cs1 u0 u1 u2 u3 u4 cs9 r9 h
        exact hq.trans k9
      · skip
        replace h := (if_neg c_26).symm.trans h
        replace h := ob h; obtain ⟨v_27, hv_27, h⟩ := h
        replace h := ob h; obtain ⟨v_28, hv_28, h⟩ := h
        replace h := ob h; obtain ⟨v_29, hv_29, h⟩ := h
        replace h := ob h; obtain ⟨v_30, hv_30, h⟩ := h
        replace h := ob h; obtain ⟨i_31, hi_31, h⟩ := h
        subst hi_31
        replace h := ob h; obtain ⟨v_32, hv_32, h⟩ := h
        replace h := ob h; obtain ⟨i_33, hi_33, h⟩ := h
        subst hi_33
        replace h := ob h; obtain ⟨i_35, hi_35, h⟩ := h
        subst hi_35
        replace h := ob h; obtain ⟨w_36, hw_36, h⟩ := h
        replace h := ob h; obtain ⟨cs_34, hv_34, h⟩ := h
        replace hq := hq.trans (nb_c_X7_copyRow F cs1 i_35 v_28 u4 i_33 (u2 + (u3 * v_32)) cs_34 hv_34)
        have k9 := nb_c_X4_runSource_b77 F T hM_X4_runQuery hM_X4_runSelect hM_X4_joinSources hM_X4_runSource (c_X4_runSource_L22 F T lf_22) ih_22 cs_34 u0 u1 u2 u3 u4 cs9 r9 h
        exact hq.trans k9
theorem nb_cb_X4_runSource (F : Nat) (T : TC_X4_runQuery) (hM_X4_runQuery : ∀ (cs : CS) (x0 : Nat) (x1 : Nat) (x2 : Int32) (cs9 : CS) (r9 : Int32), T.1 cs x0 x1 x2 = some (cs9, r9) → NB cs cs9) (hM_X4_runSelect : ∀ (cs : CS) (x0 : Nat) (x1 : Nat) (x2 : Int32) (cs9 : CS) (r9 : Int32), T.2.1 cs x0 x1 x2 = some (cs9, r9) → NB cs cs9) (hM_X4_joinSources : ∀ (cs : CS) (x0 : Nat) (x1 : Nat) (x2 : Int32) (cs9 : CS) (r9 : Int32), T.2.2.1 cs x0 x1 x2 = some (cs9, r9) → NB cs cs9) (hM_X4_runSource : ∀ (cs : CS) (x0 : Nat) (x1 : Nat) (x2 : Int32) (cs9 : CS) (r9 : Int32), T.2.2.2 cs x0 x1 x2 = some (cs9, r9) → NB cs cs9) (cs : CS) (x0 : Nat) (x1 : Nat) (x2 : Int32) (cs9 : CS) (r9 : Int32) (h : cb_X4_runSource F T cs x0 x1 x2 = some (cs9, r9)) : NB cs cs9 := by
  unfold cb_X4_runSource at h
  have hq : NB cs cs := NB.refl
  replace h := ob h; obtain ⟨v_19, hv_19, h⟩ := h
  cases v_19 with
  | none =>
    replace h := oc_n.symm.trans h
    have k9 := nb_c_X4_runSource_L22 F T hM_X4_runQuery hM_X4_runSelect hM_X4_joinSources hM_X4_runSource F cs x0 x1 x2 0 0 cs9 r9 h
    exact hq.trans k9
  | some i_20 =>
    replace h := oc_s.symm.trans h
    replace h := ob h; obtain ⟨v_21, hv_21, h⟩ := h
    replace h := ob h; obtain ⟨i_22, hi_22, h⟩ := h
    subst hi_22
    replace h := ob h; obtain ⟨w_24, hw_24, h⟩ := h
    replace h := ob h; obtain ⟨z_23, hv_23, h⟩ := h
    replace hq := hq.trans (hM_X4_runQuery cs x0 i_22 x2 z_23.1 z_23.2 hv_23)
    have k9 := nb_c_X4_runSource_b16 F T hM_X4_runQuery hM_X4_runSelect hM_X4_joinSources hM_X4_runSource z_23.1 z_23.2 cs9 r9 h
    exact hq.trans k9
theorem nbg_X4_runQuery (F : Nat) : ∀ n : Nat, (∀ (cs : CS) (x0 : Nat) (x1 : Nat) (x2 : Int32) (cs9 : CS) (r9 : Int32), (tabc_X4_runQuery F n).1 cs x0 x1 x2 = some (cs9, r9) → NB cs cs9) ∧ (∀ (cs : CS) (x0 : Nat) (x1 : Nat) (x2 : Int32) (cs9 : CS) (r9 : Int32), (tabc_X4_runQuery F n).2.1 cs x0 x1 x2 = some (cs9, r9) → NB cs cs9) ∧ (∀ (cs : CS) (x0 : Nat) (x1 : Nat) (x2 : Int32) (cs9 : CS) (r9 : Int32), (tabc_X4_runQuery F n).2.2.1 cs x0 x1 x2 = some (cs9, r9) → NB cs cs9) ∧ (∀ (cs : CS) (x0 : Nat) (x1 : Nat) (x2 : Int32) (cs9 : CS) (r9 : Int32), (tabc_X4_runQuery F n).2.2.2 cs x0 x1 x2 = some (cs9, r9) → NB cs cs9) := by
  intro n
  induction n with
  | zero => exact ⟨fun _ _ _ _ _ _ h => (by cases (show (none : Option (CS × Int32)) = _ from h)), fun _ _ _ _ _ _ h => (by cases (show (none : Option (CS × Int32)) = _ from h)), fun _ _ _ _ _ _ h => (by cases (show (none : Option (CS × Int32)) = _ from h)), fun _ _ _ _ _ _ h => (by cases (show (none : Option (CS × Int32)) = _ from h))⟩
  | succ n ih =>
    obtain ⟨hh0, hh1, hh2, hh3⟩ := ih
    exact ⟨fun cs w0 w1 w2 w3 w4 h => nb_cb_X4_runQuery F (tabc_X4_runQuery F n) hh0 hh1 hh2 hh3 cs w0 w1 w2 w3 w4 h, fun cs w0 w1 w2 w3 w4 h => nb_cb_X4_runSelect F (tabc_X4_runQuery F n) hh0 hh1 hh2 hh3 cs w0 w1 w2 w3 w4 h, fun cs w0 w1 w2 w3 w4 h => nb_cb_X4_joinSources F (tabc_X4_runQuery F n) hh0 hh1 hh2 hh3 cs w0 w1 w2 w3 w4 h, fun cs w0 w1 w2 w3 w4 h => nb_cb_X4_runSource F (tabc_X4_runQuery F n) hh0 hh1 hh2 hh3 cs w0 w1 w2 w3 w4 h⟩
theorem nb_c_X4_runQuery (F n : Nat) (cs : CS) (x0 : Nat) (x1 : Nat) (x2 : Int32) (cs9 : CS) (r9 : Int32) (h : c_X4_runQuery F n cs x0 x1 x2 = some (cs9, r9)) : NB cs cs9 := (nbg_X4_runQuery F n).1 cs x0 x1 x2 cs9 r9 h
theorem nb_c_X9_readOrder_b107 (F : Nat) (cs1 : CS) (u0 : Nat) (u1 : Nat) (cs9 : CS) (h : c_X9_readOrder_b107 F cs1 u0 u1 = some cs9) : NB cs1 cs9 := by
  unfold c_X9_readOrder_b107 at h
  have hq : NB cs1 cs1 := NB.refl
  replace h := ob h; obtain ⟨w_33, hw_33, h⟩ := h
  replace h := ob h; obtain ⟨cs_32, hv_32, h⟩ := h
  replace hq := hq.trans (nb_c_X9_expect F cs1 u0 16 cs_32 hv_32)
  replace h := ob h; obtain ⟨w_35, hw_35, h⟩ := h
  replace h := ob h; obtain ⟨z_34, hv_34, h⟩ := h
  replace hq := hq.trans (nb_c_X9_readNumber F cs_32 u0 (100) z_34.1 z_34.2 hv_34)
  replace h := ob h; obtain ⟨v_36, hv_36, h⟩ := h
  replace h := ob h; obtain ⟨cs_37, hv_37, h⟩ := h
  replace hq := hq.trans (NB.pI hv_37)
  have h9 := Option.some.inj h
  exact hq.to h9
theorem nb_c_X9_readOrder_b90 (F : Nat) (rc43 : CS → Nat → Nat → Nat → Int32 → Int32 → Option CS) (hrc43 : ∀ (cs1 : CS) (u0 : Nat) (u1 : Nat) (u2 : Nat) (u3 : Int32) (u4 : Int32) (cs9 : CS), rc43 cs1 u0 u1 u2 u3 u4 = some cs9 → NB cs1 cs9) (cs1 : CS) (u0 : Nat) (u1 : Nat) (u2 : Nat) (u4 : Int32) (y0 : Int32) (y1 : Int64) (y2 : Int32) (y3 : Nat) (cs9 : CS) (h : c_X9_readOrder_b90 F rc43 cs1 u0 u1 u2 u4 y0 y1 y2 y3 = some cs9) : NB cs1 cs9 := by
  unfold c_X9_readOrder_b90 at h
  have hq : NB cs1 cs1 := NB.refl
  replace h := ob h; obtain ⟨w_33, hw_33, h⟩ := h
  replace h := ob h; obtain ⟨cs_32, hv_32, h⟩ := h
  replace hq := hq.trans (nb_c_X2_add F cs1 y3 y2 y1 y0 1 cs_32 hv_32)
  replace h := ob h; obtain ⟨w_35, hw_35, h⟩ := h
  replace h := ob h; obtain ⟨z_34, hv_34, h⟩ := h
  replace hq := hq.trans (nb_c_X9_accept F cs_32 u0 43 z_34.1 z_34.2 hv_34)
  have k9 := hrc43 z_34.1 u0 u1 u2 z_34.2 (u4 + 1) cs9 h
  exact hq.trans k9
theorem nb_c_X9_readOrder_L43 (F : Nat) : ∀ (lf_43 : Nat) (cs1 : CS) (u0 : Nat) (u1 : Nat) (u2 : Nat) (u3 : Int32) (u4 : Int32) (cs9 : CS), c_X9_readOrder_L43 F lf_43 cs1 u0 u1 u2 u3 u4 = some cs9 → NB cs1 cs9 := by
  intro lf_43
  induction lf_43 with
  | zero => intro cs1 u0 u1 u2 u3 u4 cs9 h; cases (show (none : Option CS) = _ from h)
  | succ lf_43 ih_43 =>
    intro cs1 u0 u1 u2 u3 u4 cs9 h
    rw [c_X9_readOrder_L43] at h
    have hq : NB cs1 cs1 := NB.refl
    by_cases c_32 : 2000 ≤ u4
    · skip
      replace h := (if_pos c_32).symm.trans h
      have k9 := nb_c_X9_readOrder_b107 F cs1 u0 u1 cs9 h
      exact hq.trans k9
    · skip
      replace h := (if_neg c_32).symm.trans h
      by_cases c_33 : u3 = 0
      · skip
        replace h := (if_pos c_33).symm.trans h
        have k9 := nb_c_X9_readOrder_b107 F cs1 u0 u1 cs9 h
        exact hq.trans k9
      · skip
        replace h := (if_neg c_33).symm.trans h
        replace h := ob h; obtain ⟨w_35, hw_35, h⟩ := h
        replace h := ob h; obtain ⟨v_34, hv_34, h⟩ := h
        replace h := ob h; obtain ⟨w_37, hw_37, h⟩ := h
        replace h := ob h; obtain ⟨cs_36, hv_36, h⟩ := h
        replace hq := hq.trans (nb_c_X9_refuseNinth F cs1 u0 v_34 1 cs_36 hv_36)
        replace h := ob h; obtain ⟨w_39, hw_39, h⟩ := h
        replace h := ob h; obtain ⟨z_38, hv_38, h⟩ := h
        replace hq := hq.trans (nb_c_X9_readExpr F 300 cs_36 u0 z_38.1 z_38.2 hv_38)
        replace h := ob h; obtain ⟨w_41, hw_41, h⟩ := h
        replace h := ob h; obtain ⟨z_40, hv_40, h⟩ := h
        replace hq := hq.trans (nb_c_X9_accept F z_38.1 u0 15 z_40.1 z_40.2 hv_40)
        by_cases c_42 : z_40.2 = 0
        · skip
          replace h := (if_pos c_42).symm.trans h
          have k9 := nb_c_X9_readOrder_b90 F (c_X9_readOrder_L43 F lf_43) ih_43 z_40.1 u0 u1 u2 u4 0 (-1) z_38.2 u2 cs9 h
          exact hq.trans k9
        · skip
          replace h := (if_neg c_42).symm.trans h
          have k9 := nb_c_X9_readOrder_b90 F (c_X9_readOrder_L43 F lf_43) ih_43 z_40.1 u0 u1 u2 u4 1 (-1) z_38.2 u2 cs9 h
          exact hq.trans k9
theorem nb_c_X9_readOrder_b7 (F : Nat) (cs1 : CS) (u0 : Nat) (u1 : Nat) (y0 : Nat) (cs9 : CS) (h : c_X9_readOrder_b7 F cs1 u0 u1 y0 = some cs9) : NB cs1 cs9 := by
  unfold c_X9_readOrder_b7 at h
  have hq : NB cs1 cs1 := NB.refl
  replace h := ob h; obtain ⟨cs_32, hv_32, h⟩ := h
  replace hq := hq.trans (NB.pR hv_32)
  replace h := ob h; obtain ⟨w_34, hw_34, h⟩ := h
  replace h := ob h; obtain ⟨v_33, hv_33, h⟩ := h
  replace h := ob h; obtain ⟨cs_35, hv_35, h⟩ := h
  replace hq := hq.trans (NB.pI hv_35)
  replace h := ob h; obtain ⟨w_37, hw_37, h⟩ := h
  replace h := ob h; obtain ⟨cs_36, hv_36, h⟩ := h
  replace hq := hq.trans (nb_c_X9_expect F cs_35 u0 14 cs_36 hv_36)
  replace h := ob h; obtain ⟨w_39, hw_39, h⟩ := h
  replace h := ob h; obtain ⟨cs_38, hv_38, h⟩ := h
  replace hq := hq.trans (nb_c_X9_expect F cs_36 u0 8 cs_38 hv_38)
  replace h := ob h; obtain ⟨cs_40, hv_40, h⟩ := h
  replace hq := hq.trans (NB.pI hv_40)
  have k9 := nb_c_X9_readOrder_L43 F F cs_40 u0 u1 y0 1 0 cs9 h
  exact hq.trans k9
theorem nb_c_X9_readOrder_b3 (F : Nat) (cs1 : CS) (u0 : Nat) (u1 : Nat) (y0 : Nat) (cs9 : CS) (h : c_X9_readOrder_b3 F cs1 u0 u1 y0 = some cs9) : NB cs1 cs9 := by
  unfold c_X9_readOrder_b3 at h
  have hq : NB cs1 cs1 := NB.refl
  replace h := ob h; obtain ⟨cs_32, hv_32, h⟩ := h
  replace hq := hq.trans (nb_c_X2_init F cs1 y0 cs_32 hv_32)
  have k9 := nb_c_X9_readOrder_b7 F cs_32 u0 u1 y0 cs9 h
  exact hq.trans k9
theorem nb_c_X9_readOrder (F : Nat) (cs : CS) (x0 : Nat) (x1 : Nat) (cs9 : CS) (h : c_X9_readOrder F cs x0 x1 = some cs9) : NB cs cs9 := by
  unfold c_X9_readOrder at h
  have hq : NB cs cs := NB.refl
  replace h := ob h; obtain ⟨cs_32, hv_32, h⟩ := h
  replace hq := hq.trans (NB.nwO (by decide) hv_32)
  have k9 := nb_c_X9_readOrder_b3 F cs_32 x0 x1 (kK cs) cs9 h
  exact hq.trans k9
theorem nb_c_X11_makeRoomForChanges_b36 (F : Nat) (cs1 : CS) (cs9 : CS) (h : c_X11_makeRoomForChanges_b36 F cs1 = some cs9) : NB cs1 cs9 := by
  unfold c_X11_makeRoomForChanges_b36 at h
  have hq : NB cs1 cs1 := NB.refl
  have h9 := Option.some.inj h
  exact hq.to h9
theorem nb_c_X11_makeRoomForChanges_b27 (F : Nat) (cs1 : CS) (u0 : Nat) (u1 : Int32) (cs9 : CS) (h : c_X11_makeRoomForChanges_b27 F cs1 u0 u1 = some cs9) : NB cs1 cs9 := by
  unfold c_X11_makeRoomForChanges_b27 at h
  have hq : NB cs1 cs1 := NB.refl
  replace h := ob h; obtain ⟨cs_3, hv_3, h⟩ := h
  replace hq := hq.trans (NB.nwA (by decide) hv_3)
  have k9 := nb_c_X11_makeRoomForChanges_b36 F cs_3 cs9 h
  exact hq.trans k9
theorem nb_c_X11_makeRoomForChanges_b18 (F : Nat) (cs1 : CS) (u0 : Nat) (u1 : Int32) (cs9 : CS) (h : c_X11_makeRoomForChanges_b18 F cs1 u0 u1 = some cs9) : NB cs1 cs9 := by
  unfold c_X11_makeRoomForChanges_b18 at h
  have hq : NB cs1 cs1 := NB.refl
  replace h := ob h; obtain ⟨cs_3, hv_3, h⟩ := h
  replace hq := hq.trans (NB.nwA (by decide) hv_3)
  have k9 := nb_c_X11_makeRoomForChanges_b27 F cs_3 u0 u1 cs9 h
  exact hq.trans k9
theorem nb_c_X11_makeRoomForChanges (F : Nat) (cs : CS) (x0 : Nat) (x1 : Int32) (cs9 : CS) (h : c_X11_makeRoomForChanges F cs x0 x1 = some cs9) : NB cs cs9 := by
  unfold c_X11_makeRoomForChanges at h
  have hq : NB cs cs := NB.refl
  replace h := ob h; obtain ⟨v_3, hv_3, h⟩ := h
  replace h := ob h; obtain ⟨v_4, hv_4, h⟩ := h
  by_cases c_5 : v_4 < x1
  · skip
    replace h := (if_pos c_5).symm.trans h
    have k9 := nb_c_X11_makeRoomForChanges_b18 F cs x0 x1 cs9 h
    exact hq.trans k9
  · skip
    replace h := (if_neg c_5).symm.trans h
    replace h := ob h; obtain ⟨v_6, hv_6, h⟩ := h
    replace h := ob h; obtain ⟨v_7, hv_7, h⟩ := h
    by_cases c_8 : x1 ≤ v_7
    · skip
      replace h := (if_pos c_8).symm.trans h
      have k9 := nb_c_X11_makeRoomForChanges_b36 F cs cs9 h
      exact hq.trans k9
    · skip
      replace h := (if_neg c_8).symm.trans h
      have k9 := nb_c_X11_makeRoomForChanges_b18 F cs x0 x1 cs9 h
      exact hq.trans k9
theorem nb_c_X11_answer_b14 (F : Nat) (cs1 : CS) (cs9 : CS) (h : c_X11_answer_b14 F cs1 = some cs9) : NB cs1 cs9 := by
  unfold c_X11_answer_b14 at h
  have hq : NB cs1 cs1 := NB.refl
  have h9 := Option.some.inj h
  exact hq.to h9
theorem nb_c_X11_answer_b175 (F : Nat) (cs1 : CS) (cs9 : CS) (h : c_X11_answer_b175 F cs1 = some cs9) : NB cs1 cs9 := by
  unfold c_X11_answer_b175 at h
  have hq : NB cs1 cs1 := NB.refl
  have h9 := Option.some.inj h
  exact hq.to h9
theorem nb_c_X11_answer_b139 (F : Nat) (cs1 : CS) (u0 : Nat) (u3 : Int32) (cs9 : CS) (h : c_X11_answer_b139 F cs1 u0 u3 = some cs9) : NB cs1 cs9 := by
  unfold c_X11_answer_b139 at h
  have hq : NB cs1 cs1 := NB.refl
  replace h := ob h; obtain ⟨v_53, hv_53, h⟩ := h
  replace h := ob h; obtain ⟨v_54, hv_54, h⟩ := h
  replace h := ob h; obtain ⟨v_55, hv_55, h⟩ := h
  replace h := ob h; obtain ⟨i_56, hi_56, h⟩ := h
  subst hi_56
  replace h := ob h; obtain ⟨i_57, hi_57, h⟩ := h
  subst hi_57
  replace h := ob h; obtain ⟨w_59, hw_59, h⟩ := h
  replace h := ob h; obtain ⟨cs_58, hv_58, h⟩ := h
  replace hq := hq.trans (nb_c_X11_tellChanges F cs1 u0 i_57 u3 i_56 v_55 (-1) cs_58 hv_58)
  replace h := ob h; obtain ⟨v_60, hv_60, h⟩ := h
  replace h := ob h; obtain ⟨v_61, hv_61, h⟩ := h
  replace h := ob h; obtain ⟨v_62, hv_62, h⟩ := h
  replace h := ob h; obtain ⟨i_63, hi_63, h⟩ := h
  subst hi_63
  replace h := ob h; obtain ⟨i_64, hi_64, h⟩ := h
  subst hi_64
  replace h := ob h; obtain ⟨w_66, hw_66, h⟩ := h
  replace h := ob h; obtain ⟨cs_65, hv_65, h⟩ := h
  replace hq := hq.trans (nb_c_X11_tellChanges F cs_58 u0 i_64 v_61 i_63 u3 1 cs_65 hv_65)
  have k9 := nb_c_X11_answer_b175 F cs_65 cs9 h
  exact hq.trans k9
theorem nb_c_X11_answer_b125 (F : Nat) (cs1 : CS) (u0 : Nat) (u1 : Int32) (u3 : Int32) (cs9 : CS) (h : c_X11_answer_b125 F cs1 u0 u1 u3 = some cs9) : NB cs1 cs9 := by
  unfold c_X11_answer_b125 at h
  have hq : NB cs1 cs1 := NB.refl
  by_cases c_53 : u1 = 0
  · skip
    replace h := (if_pos c_53).symm.trans h
    have k9 := nb_c_X11_answer_b175 F cs1 cs9 h
    exact hq.trans k9
  · skip
    replace h := (if_neg c_53).symm.trans h
    replace h := ob h; obtain ⟨v_54, hv_54, h⟩ := h
    replace h := ob h; obtain ⟨w_56, hw_56, h⟩ := h
    replace h := ob h; obtain ⟨cs_55, hv_55, h⟩ := h
    replace hq := hq.trans (nb_c_X11_makeRoomForChanges F cs1 u0 (u3 + v_54) cs_55 hv_55)
    have k9 := nb_c_X11_answer_b139 F cs_55 u0 u3 cs9 h
    exact hq.trans k9
theorem nb_c_X11_answer_b111 (F : Nat) (cs1 : CS) (u0 : Nat) (u1 : Int32) (u2 : Int32) (u3 : Int32) (cs9 : CS) (h : c_X11_answer_b111 F cs1 u0 u1 u2 u3 = some cs9) : NB cs1 cs9 := by
  unfold c_X11_answer_b111 at h
  have hq : NB cs1 cs1 := NB.refl
  replace h := ob h; obtain ⟨v_53, hv_53, h⟩ := h
  replace h := ob h; obtain ⟨v_54, hv_54, h⟩ := h
  replace h := ob h; obtain ⟨i_56, hi_56, h⟩ := h
  subst hi_56
  replace h := ob h; obtain ⟨w_57, hw_57, h⟩ := h
  replace h := ob h; obtain ⟨cs_55, hv_55, h⟩ := h
  replace hq := hq.trans (nb_c_X8_sort F cs1 i_56 0 v_54 u2 0 cs_55 hv_55)
  have k9 := nb_c_X11_answer_b125 F cs_55 u0 u1 u3 cs9 h
  exact hq.trans k9
theorem nb_c_X11_answer_b94 (F : Nat) (cs1 : CS) (u0 : Nat) (u1 : Int32) (u2 : Int32) (u3 : Int32) (cs9 : CS) (h : c_X11_answer_b94 F cs1 u0 u1 u2 u3 = some cs9) : NB cs1 cs9 := by
  unfold c_X11_answer_b94 at h
  have hq : NB cs1 cs1 := NB.refl
  replace h := ob h; obtain ⟨v_53, hv_53, h⟩ := h
  replace h := ob h; obtain ⟨v_54, hv_54, h⟩ := h
  replace h := ob h; obtain ⟨v_55, hv_55, h⟩ := h
  replace h := ob h; obtain ⟨i_56, hi_56, h⟩ := h
  subst hi_56
  replace h := ob h; obtain ⟨i_58, hi_58, h⟩ := h
  subst hi_58
  replace h := ob h; obtain ⟨w_59, hw_59, h⟩ := h
  replace h := ob h; obtain ⟨cs_57, hv_57, h⟩ := h
  replace hq := hq.trans (nb_c_X8_take F cs1 i_58 i_56 (v_55 * u2) cs_57 hv_57)
  have k9 := nb_c_X11_answer_b111 F cs_57 u0 u1 u2 u3 cs9 h
  exact hq.trans k9
theorem nb_c_X11_answer_b74 (F : Nat) (cs1 : CS) (u0 : Nat) (u1 : Int32) (u2 : Int32) (u3 : Int32) (y0 : Int32) (y1 : Nat) (cs9 : CS) (h : c_X11_answer_b74 F cs1 u0 u1 u2 u3 y0 y1 = some cs9) : NB cs1 cs9 := by
  unfold c_X11_answer_b74 at h
  have hq : NB cs1 cs1 := NB.refl
  replace h := ob h; obtain ⟨cs_53, hv_53, h⟩ := h
  replace hq := hq.trans (NB.pI hv_53)
  replace h := ob h; obtain ⟨v_54, hv_54, h⟩ := h
  replace h := ob h; obtain ⟨v_55, hv_55, h⟩ := h
  replace h := ob h; obtain ⟨v_56, hv_56, h⟩ := h
  replace h := ob h; obtain ⟨i_57, hi_57, h⟩ := h
  subst hi_57
  replace h := ob h; obtain ⟨i_59, hi_59, h⟩ := h
  subst hi_59
  replace h := ob h; obtain ⟨w_60, hw_60, h⟩ := h
  replace h := ob h; obtain ⟨cs_58, hv_58, h⟩ := h
  replace hq := hq.trans (nb_c_X8_take F cs_53 i_59 i_57 (v_56 * u2) cs_58 hv_58)
  have k9 := nb_c_X11_answer_b94 F cs_58 u0 u1 u2 u3 cs9 h
  exact hq.trans k9
theorem nb_c_X11_answer_b57 (F : Nat) (cs1 : CS) (u0 : Nat) (u1 : Int32) (u2 : Int32) (y0 : Int32) (cs9 : CS) (h : c_X11_answer_b57 F cs1 u0 u1 u2 y0 = some cs9) : NB cs1 cs9 := by
  unfold c_X11_answer_b57 at h
  have hq : NB cs1 cs1 := NB.refl
  replace h := ob h; obtain ⟨v_53, hv_53, h⟩ := h
  replace h := ob h; obtain ⟨v_54, hv_54, h⟩ := h
  replace h := ob h; obtain ⟨i_55, hi_55, h⟩ := h
  subst hi_55
  replace h := ob h; obtain ⟨v_56, hv_56, h⟩ := h
  replace h := ob h; obtain ⟨i_57, hi_57, h⟩ := h
  subst hi_57
  replace h := ob h; obtain ⟨i_59, hi_59, h⟩ := h
  subst hi_59
  replace h := ob h; obtain ⟨w_60, hw_60, h⟩ := h
  replace h := ob h; obtain ⟨z_58, hv_58, h⟩ := h
  replace hq := hq.trans (nb_c_X4_runQuery F 300 cs1 i_59 i_57 0 z_58.1 z_58.2 hv_58)
  have k9 := nb_c_X11_answer_b74 F z_58.1 u0 u1 u2 y0 z_58.2 u0 cs9 h
  exact hq.trans k9
theorem nb_c_X11_answer_b45 (F : Nat) (cs1 : CS) (u0 : Nat) (u1 : Int32) (u2 : Int32) (cs9 : CS) (h : c_X11_answer_b45 F cs1 u0 u1 u2 = some cs9) : NB cs1 cs9 := by
  unfold c_X11_answer_b45 at h
  have hq : NB cs1 cs1 := NB.refl
  by_cases c_53 : u1 = 0
  · skip
    replace h := (if_pos c_53).symm.trans h
    have k9 := nb_c_X11_answer_b57 F cs1 u0 u1 u2 0 cs9 h
    exact hq.trans k9
  · skip
    replace h := (if_neg c_53).symm.trans h
    replace h := ob h; obtain ⟨v_54, hv_54, h⟩ := h
    have k9 := nb_c_X11_answer_b57 F cs1 u0 u1 u2 v_54 cs9 h
    exact hq.trans k9
theorem nb_c_X11_answer_b42 (F : Nat) (cs1 : CS) (u0 : Nat) (u1 : Int32) (u2 : Int32) (y0 : Int32) (y1 : Option Nat) (y2 : Option Nat) (cs9 : CS) (h : c_X11_answer_b42 F cs1 u0 u1 u2 y0 y1 y2 = some cs9) : NB cs1 cs9 := by
  unfold c_X11_answer_b42 at h
  have hq : NB cs1 cs1 := NB.refl
  replace h := ob h; obtain ⟨i_53, hi_53, h⟩ := h
  subst hi_53
  replace h := ob h; obtain ⟨i_55, hi_55, h⟩ := h
  subst hi_55
  replace h := ob h; obtain ⟨w_56, hw_56, h⟩ := h
  replace h := ob h; obtain ⟨cs_54, hv_54, h⟩ := h
  replace hq := hq.trans (nb_c_X8_take F cs1 i_55 i_53 y0 cs_54 hv_54)
  have k9 := nb_c_X11_answer_b45 F cs_54 u0 u1 u2 cs9 h
  exact hq.trans k9
theorem nb_c_X11_answer (F : Nat) (cs : CS) (x0 : Nat) (x1 : Int32) (cs9 : CS) (h : c_X11_answer F cs x0 x1 = some cs9) : NB cs cs9 := by
  unfold c_X11_answer at h
  have hq : NB cs cs := NB.refl
  replace h := ob h; obtain ⟨v_53, hv_53, h⟩ := h
  cases v_53 with
  | none =>
    replace h := oc_n.symm.trans h
    have k9 := nb_c_X11_answer_b14 F cs cs9 h
    exact hq.trans k9
  | some i_54 =>
    replace h := oc_s.symm.trans h
    replace h := ob h; obtain ⟨v_55, hv_55, h⟩ := h
    cases v_55 with
    | none =>
      replace h := oc_n.symm.trans h
      have k9 := nb_c_X11_answer_b14 F cs cs9 h
      exact hq.trans k9
    | some i_56 =>
      replace h := oc_s.symm.trans h
      replace h := ob h; obtain ⟨w_58, hw_58, h⟩ := h
      replace h := ob h; obtain ⟨v_57, hv_57, h⟩ := h
      replace h := ob h; obtain ⟨v_59, hv_59, h⟩ := h
      replace h := ob h; obtain ⟨v_60, hv_60, h⟩ := h
      by_cases c_61 : x1 = 0
      · skip
        replace h := (if_pos c_61).symm.trans h
        have k9 := nb_c_X11_answer_b42 F cs x0 x1 v_57 0 v_60 v_59 cs9 h
        exact hq.trans k9
      · skip
        replace h := (if_neg c_61).symm.trans h
        replace h := ob h; obtain ⟨v_62, hv_62, h⟩ := h
        have k9 := nb_c_X11_answer_b42 F cs x0 x1 v_57 (v_62 * v_57) v_60 v_59 cs9 h
        exact hq.trans k9
theorem nb_c_X3_init_b24 (F : Nat) (cs1 : CS) (u0 : Nat) (u1 : Nat) (cs9 : CS) (h : c_X3_init_b24 F cs1 u0 u1 = some cs9) : NB cs1 cs9 := by
  unfold c_X3_init_b24 at h
  have hq : NB cs1 cs1 := NB.refl
  replace h := ob h; obtain ⟨v_3, hv_3, h⟩ := h
  replace h := ob h; obtain ⟨cs_4, hv_4, h⟩ := h
  replace hq := hq.trans (NB.pR hv_4)
  have h9 := Option.some.inj h
  exact hq.to h9
theorem nb_c_X3_init (F : Nat) (cs : CS) (x0 : Nat) (x1 : Nat) (cs9 : CS) (h : c_X3_init F cs x0 x1 = some cs9) : NB cs cs9 := by
  unfold c_X3_init at h
  have hq : NB cs cs := NB.refl
  replace h := ob h; obtain ⟨cs_3, hv_3, h⟩ := h
  replace hq := hq.trans (NB.nwL hv_3)
  have k9 := nb_c_X3_init_b24 F cs_3 x0 x1 cs9 h
  exact hq.trans k9
theorem nb_c_X9_init_b49 (F : Nat) (cs1 : CS) (y0 : Nat) (y1 : Nat) (cs9 : CS) (h : c_X9_init_b49 F cs1 y0 y1 = some cs9) : NB cs1 cs9 := by
  unfold c_X9_init_b49 at h
  have hq : NB cs1 cs1 := NB.refl
  replace h := ob h; obtain ⟨cs_9, hv_9, h⟩ := h
  replace hq := hq.trans (NB.pR hv_9)
  have h9 := Option.some.inj h
  exact hq.to h9
theorem nb_c_X9_init_b46 (F : Nat) (cs1 : CS) (y0 : Nat) (y1 : Nat) (y2 : Nat) (y3 : Nat) (cs9 : CS) (h : c_X9_init_b46 F cs1 y0 y1 y2 y3 = some cs9) : NB cs1 cs9 := by
  unfold c_X9_init_b46 at h
  have hq : NB cs1 cs1 := NB.refl
  replace h := ob h; obtain ⟨cs_9, hv_9, h⟩ := h
  replace hq := hq.trans (nb_c_X3_init F cs1 y1 y0 cs_9 hv_9)
  have k9 := nb_c_X9_init_b49 F cs_9 y2 y3 cs9 h
  exact hq.trans k9
theorem nb_c_X9_init_b42 (F : Nat) (cs1 : CS) (y0 : Nat) (y1 : Nat) (y2 : Nat) (y3 : Nat) (cs9 : CS) (h : c_X9_init_b42 F cs1 y0 y1 y2 y3 = some cs9) : NB cs1 cs9 := by
  unfold c_X9_init_b42 at h
  have hq : NB cs1 cs1 := NB.refl
  replace h := ob h; obtain ⟨cs_9, hv_9, h⟩ := h
  replace hq := hq.trans (nb_c_X5_init F cs1 y0 cs_9 hv_9)
  have k9 := nb_c_X9_init_b46 F cs_9 y0 y1 y2 y3 cs9 h
  exact hq.trans k9
theorem nb_c_X9_init_b38 (F : Nat) (cs1 : CS) (y0 : Nat) (y1 : Nat) (cs9 : CS) (h : c_X9_init_b38 F cs1 y0 y1 = some cs9) : NB cs1 cs9 := by
  unfold c_X9_init_b38 at h
  have hq : NB cs1 cs1 := NB.refl
  replace h := ob h; obtain ⟨cs_9, hv_9, h⟩ := h
  replace hq := hq.trans (NB.nwO (by decide) hv_9)
  have k9 := nb_c_X9_init_b42 F cs_9 (kK cs1) y0 y0 y1 cs9 h
  exact hq.trans k9
theorem nb_c_X9_init_b34 (F : Nat) (cs1 : CS) (u0 : Nat) (cs9 : CS) (h : c_X9_init_b34 F cs1 u0 = some cs9) : NB cs1 cs9 := by
  unfold c_X9_init_b34 at h
  have hq : NB cs1 cs1 := NB.refl
  replace h := ob h; obtain ⟨cs_9, hv_9, h⟩ := h
  replace hq := hq.trans (NB.nwO (by decide) hv_9)
  have k9 := nb_c_X9_init_b38 F cs_9 (kK cs1) u0 cs9 h
  exact hq.trans k9
theorem nb_c_X9_init_b23 (F : Nat) (cs1 : CS) (u0 : Nat) (y0 : Nat) (y1 : Nat) (cs9 : CS) (h : c_X9_init_b23 F cs1 u0 y0 y1 = some cs9) : NB cs1 cs9 := by
  unfold c_X9_init_b23 at h
  have hq : NB cs1 cs1 := NB.refl
  replace h := ob h; obtain ⟨cs_9, hv_9, h⟩ := h
  replace hq := hq.trans (NB.pR hv_9)
  replace h := ob h; obtain ⟨cs_10, hv_10, h⟩ := h
  replace hq := hq.trans (NB.nwA (by decide) hv_10)
  have k9 := nb_c_X9_init_b34 F cs_10 u0 cs9 h
  exact hq.trans k9
theorem nb_c_X9_init_b13 (F : Nat) (cs1 : CS) (u0 : Nat) (u2 : Int32) (y0 : Nat) (y1 : Nat) (cs9 : CS) (h : c_X9_init_b13 F cs1 u0 u2 y0 y1 = some cs9) : NB cs1 cs9 := by
  unfold c_X9_init_b13 at h
  have hq : NB cs1 cs1 := NB.refl
  replace h := ob h; obtain ⟨cs_9, hv_9, h⟩ := h
  replace hq := hq.trans (nb_c_X1_init F cs1 y0 (if u2 < 120 then u2 else 120) cs_9 hv_9)
  have k9 := nb_c_X9_init_b23 F cs_9 u0 y0 y1 cs9 h
  exact hq.trans k9
theorem nb_c_X9_init (F : Nat) (cs : CS) (x0 : Nat) (x1 : Nat) (x2 : Int32) (cs9 : CS) (h : c_X9_init F cs x0 x1 x2 = some cs9) : NB cs cs9 := by
  unfold c_X9_init at h
  have hq : NB cs cs := NB.refl
  replace h := ob h; obtain ⟨cs_9, hv_9, h⟩ := h
  replace hq := hq.trans (NB.pR hv_9)
  replace h := ob h; obtain ⟨cs_10, hv_10, h⟩ := h
  replace hq := hq.trans (NB.nwO (by decide) hv_10)
  have k9 := nb_c_X9_init_b13 F cs_10 x0 x2 (kK cs_9) x0 cs9 h
  exact hq.trans k9
theorem nb_c_X9_readQuery_b133 (F : Nat) (T : TC_X9_readQuery) (hM_X9_readQuery : ∀ (cs : CS) (x0 : Nat) (cs9 : CS) (r9 : Nat), T.1 cs x0 = some (cs9, r9) → NB cs cs9) (hM_X9_readSelect : ∀ (cs : CS) (x0 : Nat) (cs9 : CS) (r9 : Nat), T.2.1 cs x0 = some (cs9, r9) → NB cs cs9) (hM_X9_readSources : ∀ (cs : CS) (x0 : Nat) (x1 : Nat) (cs9 : CS), T.2.2.1 cs x0 x1 = some cs9 → NB cs cs9) (hM_X9_readSource : ∀ (cs : CS) (x0 : Nat) (cs9 : CS) (r9 : Nat), T.2.2.2 cs x0 = some (cs9, r9) → NB cs cs9) (cs1 : CS) (u1 : Nat) (cs9 : CS) (r9 : Nat) (h : c_X9_readQuery_b133 F T cs1 u1 = some (cs9, r9)) : NB cs1 cs9 := by
  unfold c_X9_readQuery_b133 at h
  have hq : NB cs1 cs1 := NB.refl
  have h9 := (Prod.mk.inj (Option.some.inj h)).1
  exact hq.to h9
theorem nb_c_X9_readQuery_b119 (F : Nat) (T : TC_X9_readQuery) (hM_X9_readQuery : ∀ (cs : CS) (x0 : Nat) (cs9 : CS) (r9 : Nat), T.1 cs x0 = some (cs9, r9) → NB cs cs9) (hM_X9_readSelect : ∀ (cs : CS) (x0 : Nat) (cs9 : CS) (r9 : Nat), T.2.1 cs x0 = some (cs9, r9) → NB cs cs9) (hM_X9_readSources : ∀ (cs : CS) (x0 : Nat) (x1 : Nat) (cs9 : CS), T.2.2.1 cs x0 x1 = some cs9 → NB cs cs9) (hM_X9_readSource : ∀ (cs : CS) (x0 : Nat) (cs9 : CS) (r9 : Nat), T.2.2.2 cs x0 = some (cs9, r9) → NB cs cs9) (cs1 : CS) (u0 : Nat) (u1 : Nat) (cs9 : CS) (r9 : Nat) (h : c_X9_readQuery_b119 F T cs1 u0 u1 = some (cs9, r9)) : NB cs1 cs9 := by
  unfold c_X9_readQuery_b119 at h
  have hq : NB cs1 cs1 := NB.refl
  replace h := ob h; obtain ⟨w_33, hw_33, h⟩ := h
  replace h := ob h; obtain ⟨v_32, hv_32, h⟩ := h
  by_cases c_34 : v_32 = 14
  · skip
    replace h := (if_pos c_34).symm.trans h
    replace h := ob h; obtain ⟨w_36, hw_36, h⟩ := h
    replace h := ob h; obtain ⟨cs_35, hv_35, h⟩ := h
    replace hq := hq.trans (nb_c_X9_readOrder F cs1 u0 u1 cs_35 hv_35)
    have k9 := nb_c_X9_readQuery_b133 F T hM_X9_readQuery hM_X9_readSelect hM_X9_readSources hM_X9_readSource cs_35 u1 cs9 r9 h
    exact hq.trans k9
  · skip
    replace h := (if_neg c_34).symm.trans h
    have k9 := nb_c_X9_readQuery_b133 F T hM_X9_readQuery hM_X9_readSelect hM_X9_readSources hM_X9_readSource cs1 u1 cs9 r9 h
    exact hq.trans k9
theorem nb_c_X9_readQuery_b112 (F : Nat) (T : TC_X9_readQuery) (hM_X9_readQuery : ∀ (cs : CS) (x0 : Nat) (cs9 : CS) (r9 : Nat), T.1 cs x0 = some (cs9, r9) → NB cs cs9) (hM_X9_readSelect : ∀ (cs : CS) (x0 : Nat) (cs9 : CS) (r9 : Nat), T.2.1 cs x0 = some (cs9, r9) → NB cs cs9) (hM_X9_readSources : ∀ (cs : CS) (x0 : Nat) (x1 : Nat) (cs9 : CS), T.2.2.1 cs x0 x1 = some cs9 → NB cs cs9) (hM_X9_readSource : ∀ (cs : CS) (x0 : Nat) (cs9 : CS) (r9 : Nat), T.2.2.2 cs x0 = some (cs9, r9) → NB cs cs9) (rc14 : CS → Nat → Nat → Int32 → Option (CS × Nat)) (hrc14 : ∀ (cs1 : CS) (u0 : Nat) (u1 : Nat) (u2 : Int32) (cs9 : CS) (r9 : Nat), rc14 cs1 u0 u1 u2 = some (cs9, r9) → NB cs1 cs9) (cs1 : CS) (u0 : Nat) (u1 : Nat) (u2 : Int32) (y0 : Int32) (cs9 : CS) (r9 : Nat) (h : c_X9_readQuery_b112 F T rc14 cs1 u0 u1 u2 y0 = some (cs9, r9)) : NB cs1 cs9 := by
  unfold c_X9_readQuery_b112 at h
  have hq : NB cs1 cs1 := NB.refl
  have k9 := hrc14 cs1 u0 u1 (u2 + 1) cs9 r9 h
  exact hq.trans k9
theorem nb_c_X9_readQuery_b93 (F : Nat) (T : TC_X9_readQuery) (hM_X9_readQuery : ∀ (cs : CS) (x0 : Nat) (cs9 : CS) (r9 : Nat), T.1 cs x0 = some (cs9, r9) → NB cs cs9) (hM_X9_readSelect : ∀ (cs : CS) (x0 : Nat) (cs9 : CS) (r9 : Nat), T.2.1 cs x0 = some (cs9, r9) → NB cs cs9) (hM_X9_readSources : ∀ (cs : CS) (x0 : Nat) (x1 : Nat) (cs9 : CS), T.2.2.1 cs x0 x1 = some cs9 → NB cs cs9) (hM_X9_readSource : ∀ (cs : CS) (x0 : Nat) (cs9 : CS) (r9 : Nat), T.2.2.2 cs x0 = some (cs9, r9) → NB cs cs9) (rc14 : CS → Nat → Nat → Int32 → Option (CS × Nat)) (hrc14 : ∀ (cs1 : CS) (u0 : Nat) (u1 : Nat) (u2 : Int32) (cs9 : CS) (r9 : Nat), rc14 cs1 u0 u1 u2 = some (cs9, r9) → NB cs1 cs9) (cs1 : CS) (u0 : Nat) (u1 : Nat) (u2 : Int32) (u4 : Int32) (u6 : Nat) (y0 : Int32) (y1 : Nat) (cs9 : CS) (r9 : Nat) (h : c_X9_readQuery_b93 F T rc14 cs1 u0 u1 u2 u4 u6 y0 y1 = some (cs9, r9)) : NB cs1 cs9 := by
  unfold c_X9_readQuery_b93 at h
  have hq : NB cs1 cs1 := NB.refl
  replace h := ob h; obtain ⟨cs_32, hv_32, h⟩ := h
  replace hq := hq.trans (NB.pI hv_32)
  replace h := ob h; obtain ⟨cs_33, hv_33, h⟩ := h
  replace hq := hq.trans (NB.pI hv_33)
  replace h := ob h; obtain ⟨v_34, hv_34, h⟩ := h
  replace h := ob h; obtain ⟨i_35, hi_35, h⟩ := h
  subst hi_35
  replace h := ob h; obtain ⟨cs_36, hv_36, h⟩ := h
  replace hq := hq.trans (NB.lAd hv_36)
  have k9 := nb_c_X9_readQuery_b112 F T hM_X9_readQuery hM_X9_readSelect hM_X9_readSources hM_X9_readSource rc14 hrc14 cs_36 u0 u1 u2 1 cs9 r9 h
  exact hq.trans k9
theorem nb_c_X9_readQuery_b78 (F : Nat) (T : TC_X9_readQuery) (hM_X9_readQuery : ∀ (cs : CS) (x0 : Nat) (cs9 : CS) (r9 : Nat), T.1 cs x0 = some (cs9, r9) → NB cs cs9) (hM_X9_readSelect : ∀ (cs : CS) (x0 : Nat) (cs9 : CS) (r9 : Nat), T.2.1 cs x0 = some (cs9, r9) → NB cs cs9) (hM_X9_readSources : ∀ (cs : CS) (x0 : Nat) (x1 : Nat) (cs9 : CS), T.2.2.1 cs x0 x1 = some cs9 → NB cs cs9) (hM_X9_readSource : ∀ (cs : CS) (x0 : Nat) (cs9 : CS) (r9 : Nat), T.2.2.2 cs x0 = some (cs9, r9) → NB cs cs9) (rc14 : CS → Nat → Nat → Int32 → Option (CS × Nat)) (hrc14 : ∀ (cs1 : CS) (u0 : Nat) (u1 : Nat) (u2 : Int32) (cs9 : CS) (r9 : Nat), rc14 cs1 u0 u1 u2 = some (cs9, r9) → NB cs1 cs9) (cs1 : CS) (u0 : Nat) (u1 : Nat) (u2 : Int32) (u3 : Int32) (u4 : Int32) (u5 : Int32) (y0 : Nat) (cs9 : CS) (r9 : Nat) (h : c_X9_readQuery_b78 F T rc14 cs1 u0 u1 u2 u3 u4 u5 y0 = some (cs9, r9)) : NB cs1 cs9 := by
  unfold c_X9_readQuery_b78 at h
  have hq : NB cs1 cs1 := NB.refl
  by_cases c_32 : u5 = 0
  · skip
    replace h := (if_pos c_32).symm.trans h
    have k9 := nb_c_X9_readQuery_b93 F T hM_X9_readQuery hM_X9_readSelect hM_X9_readSources hM_X9_readSource rc14 hrc14 cs1 u0 u1 u2 u4 y0 u3 y0 cs9 r9 h
    exact hq.trans k9
  · skip
    replace h := (if_neg c_32).symm.trans h
    have k9 := nb_c_X9_readQuery_b93 F T hM_X9_readQuery hM_X9_readSelect hM_X9_readSources hM_X9_readSource rc14 hrc14 cs1 u0 u1 u2 u4 y0 11 y0 cs9 r9 h
    exact hq.trans k9
theorem nb_c_X9_readQuery_b72 (F : Nat) (T : TC_X9_readQuery) (hM_X9_readQuery : ∀ (cs : CS) (x0 : Nat) (cs9 : CS) (r9 : Nat), T.1 cs x0 = some (cs9, r9) → NB cs cs9) (hM_X9_readSelect : ∀ (cs : CS) (x0 : Nat) (cs9 : CS) (r9 : Nat), T.2.1 cs x0 = some (cs9, r9) → NB cs cs9) (hM_X9_readSources : ∀ (cs : CS) (x0 : Nat) (x1 : Nat) (cs9 : CS), T.2.2.1 cs x0 x1 = some cs9 → NB cs cs9) (hM_X9_readSource : ∀ (cs : CS) (x0 : Nat) (cs9 : CS) (r9 : Nat), T.2.2.2 cs x0 = some (cs9, r9) → NB cs cs9) (rc14 : CS → Nat → Nat → Int32 → Option (CS × Nat)) (hrc14 : ∀ (cs1 : CS) (u0 : Nat) (u1 : Nat) (u2 : Int32) (cs9 : CS) (r9 : Nat), rc14 cs1 u0 u1 u2 = some (cs9, r9) → NB cs1 cs9) (cs1 : CS) (u0 : Nat) (u1 : Nat) (u2 : Int32) (u3 : Int32) (u4 : Int32) (y0 : Int32) (cs9 : CS) (r9 : Nat) (h : c_X9_readQuery_b72 F T rc14 cs1 u0 u1 u2 u3 u4 y0 = some (cs9, r9)) : NB cs1 cs9 := by
  unfold c_X9_readQuery_b72 at h
  have hq : NB cs1 cs1 := NB.refl
  replace h := ob h; obtain ⟨w_33, hw_33, h⟩ := h
  replace h := ob h; obtain ⟨z_32, hv_32, h⟩ := h
  replace hq := hq.trans (hM_X9_readSelect cs1 u0 z_32.1 z_32.2 hv_32)
  have k9 := nb_c_X9_readQuery_b78 F T hM_X9_readQuery hM_X9_readSelect hM_X9_readSources hM_X9_readSource rc14 hrc14 z_32.1 u0 u1 u2 u3 u4 y0 z_32.2 cs9 r9 h
  exact hq.trans k9
theorem nb_c_X9_readQuery_b71 (F : Nat) (T : TC_X9_readQuery) (hM_X9_readQuery : ∀ (cs : CS) (x0 : Nat) (cs9 : CS) (r9 : Nat), T.1 cs x0 = some (cs9, r9) → NB cs cs9) (hM_X9_readSelect : ∀ (cs : CS) (x0 : Nat) (cs9 : CS) (r9 : Nat), T.2.1 cs x0 = some (cs9, r9) → NB cs cs9) (hM_X9_readSources : ∀ (cs : CS) (x0 : Nat) (x1 : Nat) (cs9 : CS), T.2.2.1 cs x0 x1 = some cs9 → NB cs cs9) (hM_X9_readSource : ∀ (cs : CS) (x0 : Nat) (cs9 : CS) (r9 : Nat), T.2.2.2 cs x0 = some (cs9, r9) → NB cs cs9) (rc14 : CS → Nat → Nat → Int32 → Option (CS × Nat)) (hrc14 : ∀ (cs1 : CS) (u0 : Nat) (u1 : Nat) (u2 : Int32) (cs9 : CS) (r9 : Nat), rc14 cs1 u0 u1 u2 = some (cs9, r9) → NB cs1 cs9) (cs1 : CS) (u0 : Nat) (u1 : Nat) (u2 : Int32) (u3 : Int32) (u4 : Int32) (cs9 : CS) (r9 : Nat) (h : c_X9_readQuery_b71 F T rc14 cs1 u0 u1 u2 u3 u4 = some (cs9, r9)) : NB cs1 cs9 := by
  unfold c_X9_readQuery_b71 at h
  have hq : NB cs1 cs1 := NB.refl
  have k9 := nb_c_X9_readQuery_b72 F T hM_X9_readQuery hM_X9_readSelect hM_X9_readSources hM_X9_readSource rc14 hrc14 cs1 u0 u1 u2 u3 u4 0 cs9 r9 h
  exact hq.trans k9
theorem nb_c_X9_readQuery_L14 (F : Nat) (T : TC_X9_readQuery) (hM_X9_readQuery : ∀ (cs : CS) (x0 : Nat) (cs9 : CS) (r9 : Nat), T.1 cs x0 = some (cs9, r9) → NB cs cs9) (hM_X9_readSelect : ∀ (cs : CS) (x0 : Nat) (cs9 : CS) (r9 : Nat), T.2.1 cs x0 = some (cs9, r9) → NB cs cs9) (hM_X9_readSources : ∀ (cs : CS) (x0 : Nat) (x1 : Nat) (cs9 : CS), T.2.2.1 cs x0 x1 = some cs9 → NB cs cs9) (hM_X9_readSource : ∀ (cs : CS) (x0 : Nat) (cs9 : CS) (r9 : Nat), T.2.2.2 cs x0 = some (cs9, r9) → NB cs cs9) : ∀ (lf_14 : Nat) (cs1 : CS) (u0 : Nat) (u1 : Nat) (u2 : Int32) (cs9 : CS) (r9 : Nat), c_X9_readQuery_L14 F T lf_14 cs1 u0 u1 u2 = some (cs9, r9) → NB cs1 cs9 := by
  intro lf_14
  induction lf_14 with
  | zero => intro cs1 u0 u1 u2 cs9 r9 h; cases (show (none : Option (CS × Nat)) = _ from h)
  | succ lf_14 ih_14 =>
    intro cs1 u0 u1 u2 cs9 r9 h
    rw [c_X9_readQuery_L14] at h
    have hq : NB cs1 cs1 := NB.refl
    by_cases c_32 : 2000 ≤ u2
    · skip
      replace h := (if_pos c_32).symm.trans h
      have k9 := nb_c_X9_readQuery_b119 F T hM_X9_readQuery hM_X9_readSelect hM_X9_readSources hM_X9_readSource cs1 u0 u1 cs9 r9 h
      exact hq.trans k9
    · skip
      replace h := (if_neg c_32).symm.trans h
      replace h := ob h; obtain ⟨w_34, hw_34, h⟩ := h
      replace h := ob h; obtain ⟨v_33, hv_33, h⟩ := h
      replace h := ob h; obtain ⟨v_35, hv_35, h⟩ := h
      by_cases c_36 : v_35 = 0
      · skip
        replace h := (if_pos c_36).symm.trans h
        have k9 := nb_c_X9_readQuery_b119 F T hM_X9_readQuery hM_X9_readSelect hM_X9_readSources hM_X9_readSource cs1 u0 u1 cs9 r9 h
        exact hq.trans k9
      · skip
        replace h := (if_neg c_36).symm.trans h
        replace h := ob h; obtain ⟨w_38, hw_38, h⟩ := h
        replace h := ob h; obtain ⟨v_37, hv_37, h⟩ := h
        replace h := ob h; obtain ⟨w_40, hw_40, h⟩ := h
        replace h := ob h; obtain ⟨v_39, hv_39, h⟩ := h
        replace h := ob h; obtain ⟨v_41, hv_41, h⟩ := h
        replace h := ob h; obtain ⟨cs_42, hv_42, h⟩ := h
        replace hq := hq.trans (NB.pI hv_42)
        by_cases c_43 : v_37 = 10
        · skip
          replace h := (if_pos c_43).symm.trans h
          replace h := ob h; obtain ⟨w_45, hw_45, h⟩ := h
          replace h := ob h; obtain ⟨z_44, hv_44, h⟩ := h
          replace hq := hq.trans (nb_c_X9_accept F cs_42 u0 11 z_44.1 z_44.2 hv_44)
          by_cases c_46 : z_44.2 = 0
          · skip
            replace h := (if_pos c_46).symm.trans h
            have k9 := nb_c_X9_readQuery_b71 F T hM_X9_readQuery hM_X9_readSelect hM_X9_readSources hM_X9_readSource (c_X9_readQuery_L14 F T lf_14) ih_14 z_44.1 u0 u1 u2 v_37 v_39 cs9 r9 h
            exact hq.trans k9
          · skip
            replace h := (if_neg c_46).symm.trans h
            have k9 := nb_c_X9_readQuery_b72 F T hM_X9_readQuery hM_X9_readSelect hM_X9_readSources hM_X9_readSource (c_X9_readQuery_L14 F T lf_14) ih_14 z_44.1 u0 u1 u2 v_37 v_39 1 cs9 r9 h
            exact hq.trans k9
        · skip
          replace h := (if_neg c_43).symm.trans h
          have k9 := nb_c_X9_readQuery_b71 F T hM_X9_readQuery hM_X9_readSelect hM_X9_readSources hM_X9_readSource (c_X9_readQuery_L14 F T lf_14) ih_14 cs_42 u0 u1 u2 v_37 v_39 cs9 r9 h
          exact hq.trans k9
theorem nb_c_X9_readQuery_b11 (F : Nat) (T : TC_X9_readQuery) (hM_X9_readQuery : ∀ (cs : CS) (x0 : Nat) (cs9 : CS) (r9 : Nat), T.1 cs x0 = some (cs9, r9) → NB cs cs9) (hM_X9_readSelect : ∀ (cs : CS) (x0 : Nat) (cs9 : CS) (r9 : Nat), T.2.1 cs x0 = some (cs9, r9) → NB cs cs9) (hM_X9_readSources : ∀ (cs : CS) (x0 : Nat) (x1 : Nat) (cs9 : CS), T.2.2.1 cs x0 x1 = some cs9 → NB cs cs9) (hM_X9_readSource : ∀ (cs : CS) (x0 : Nat) (cs9 : CS) (r9 : Nat), T.2.2.2 cs x0 = some (cs9, r9) → NB cs cs9) (cs1 : CS) (u0 : Nat) (y0 : Nat) (cs9 : CS) (r9 : Nat) (h : c_X9_readQuery_b11 F T cs1 u0 y0 = some (cs9, r9)) : NB cs1 cs9 := by
  unfold c_X9_readQuery_b11 at h
  have hq : NB cs1 cs1 := NB.refl
  have k9 := nb_c_X9_readQuery_L14 F T hM_X9_readQuery hM_X9_readSelect hM_X9_readSources hM_X9_readSource F cs1 u0 y0 0 cs9 r9 h
  exact hq.trans k9
theorem nb_c_X9_readQuery_b8 (F : Nat) (T : TC_X9_readQuery) (hM_X9_readQuery : ∀ (cs : CS) (x0 : Nat) (cs9 : CS) (r9 : Nat), T.1 cs x0 = some (cs9, r9) → NB cs cs9) (hM_X9_readSelect : ∀ (cs : CS) (x0 : Nat) (cs9 : CS) (r9 : Nat), T.2.1 cs x0 = some (cs9, r9) → NB cs cs9) (hM_X9_readSources : ∀ (cs : CS) (x0 : Nat) (x1 : Nat) (cs9 : CS), T.2.2.1 cs x0 x1 = some cs9 → NB cs cs9) (hM_X9_readSource : ∀ (cs : CS) (x0 : Nat) (cs9 : CS) (r9 : Nat), T.2.2.2 cs x0 = some (cs9, r9) → NB cs cs9) (cs1 : CS) (u0 : Nat) (y0 : Nat) (y1 : Nat) (y2 : Nat) (cs9 : CS) (r9 : Nat) (h : c_X9_readQuery_b8 F T cs1 u0 y0 y1 y2 = some (cs9, r9)) : NB cs1 cs9 := by
  unfold c_X9_readQuery_b8 at h
  have hq : NB cs1 cs1 := NB.refl
  replace h := ob h; obtain ⟨cs_32, hv_32, h⟩ := h
  replace hq := hq.trans (nb_c_X3_init F cs1 y1 y0 cs_32 hv_32)
  have k9 := nb_c_X9_readQuery_b11 F T hM_X9_readQuery hM_X9_readSelect hM_X9_readSources hM_X9_readSource cs_32 u0 y2 cs9 r9 h
  exact hq.trans k9
theorem nb_c_X9_readQuery_b3 (F : Nat) (T : TC_X9_readQuery) (hM_X9_readQuery : ∀ (cs : CS) (x0 : Nat) (cs9 : CS) (r9 : Nat), T.1 cs x0 = some (cs9, r9) → NB cs cs9) (hM_X9_readSelect : ∀ (cs : CS) (x0 : Nat) (cs9 : CS) (r9 : Nat), T.2.1 cs x0 = some (cs9, r9) → NB cs cs9) (hM_X9_readSources : ∀ (cs : CS) (x0 : Nat) (x1 : Nat) (cs9 : CS), T.2.2.1 cs x0 x1 = some cs9 → NB cs cs9) (hM_X9_readSource : ∀ (cs : CS) (x0 : Nat) (cs9 : CS) (r9 : Nat), T.2.2.2 cs x0 = some (cs9, r9) → NB cs cs9) (cs1 : CS) (u0 : Nat) (y0 : Nat) (cs9 : CS) (r9 : Nat) (h : c_X9_readQuery_b3 F T cs1 u0 y0 = some (cs9, r9)) : NB cs1 cs9 := by
  unfold c_X9_readQuery_b3 at h
  have hq : NB cs1 cs1 := NB.refl
  replace h := ob h; obtain ⟨w_33, hw_33, h⟩ := h
  replace h := ob h; obtain ⟨z_32, hv_32, h⟩ := h
  replace hq := hq.trans (hM_X9_readSelect cs1 u0 z_32.1 z_32.2 hv_32)
  have k9 := nb_c_X9_readQuery_b8 F T hM_X9_readQuery hM_X9_readSelect hM_X9_readSources hM_X9_readSource z_32.1 u0 z_32.2 y0 y0 cs9 r9 h
  exact hq.trans k9
theorem nb_cb_X9_readQuery (F : Nat) (T : TC_X9_readQuery) (hM_X9_readQuery : ∀ (cs : CS) (x0 : Nat) (cs9 : CS) (r9 : Nat), T.1 cs x0 = some (cs9, r9) → NB cs cs9) (hM_X9_readSelect : ∀ (cs : CS) (x0 : Nat) (cs9 : CS) (r9 : Nat), T.2.1 cs x0 = some (cs9, r9) → NB cs cs9) (hM_X9_readSources : ∀ (cs : CS) (x0 : Nat) (x1 : Nat) (cs9 : CS), T.2.2.1 cs x0 x1 = some cs9 → NB cs cs9) (hM_X9_readSource : ∀ (cs : CS) (x0 : Nat) (cs9 : CS) (r9 : Nat), T.2.2.2 cs x0 = some (cs9, r9) → NB cs cs9) (cs : CS) (x0 : Nat) (cs9 : CS) (r9 : Nat) (h : cb_X9_readQuery F T cs x0 = some (cs9, r9)) : NB cs cs9 := by
  unfold cb_X9_readQuery at h
  have hq : NB cs cs := NB.refl
  replace h := ob h; obtain ⟨cs_32, hv_32, h⟩ := h
  replace hq := hq.trans (NB.nwO (by decide) hv_32)
  have k9 := nb_c_X9_readQuery_b3 F T hM_X9_readQuery hM_X9_readSelect hM_X9_readSources hM_X9_readSource cs_32 x0 (kK cs) cs9 r9 h
  exact hq.trans k9
theorem nb_c_X9_readSelect_b151 (F : Nat) (T : TC_X9_readQuery) (hM_X9_readQuery : ∀ (cs : CS) (x0 : Nat) (cs9 : CS) (r9 : Nat), T.1 cs x0 = some (cs9, r9) → NB cs cs9) (hM_X9_readSelect : ∀ (cs : CS) (x0 : Nat) (cs9 : CS) (r9 : Nat), T.2.1 cs x0 = some (cs9, r9) → NB cs cs9) (hM_X9_readSources : ∀ (cs : CS) (x0 : Nat) (x1 : Nat) (cs9 : CS), T.2.2.1 cs x0 x1 = some cs9 → NB cs cs9) (hM_X9_readSource : ∀ (cs : CS) (x0 : Nat) (cs9 : CS) (r9 : Nat), T.2.2.2 cs x0 = some (cs9, r9) → NB cs cs9) (cs1 : CS) (u0 : Nat) (u1 : Option Nat) (u2 : Nat) (cs9 : CS) (r9 : Nat) (h : c_X9_readSelect_b151 F T cs1 u0 u1 u2 = some (cs9, r9)) : NB cs1 cs9 := by
  unfold c_X9_readSelect_b151 at h
  have hq : NB cs1 cs1 := NB.refl
  replace h := ob h; obtain ⟨cs_45, hv_45, h⟩ := h
  replace hq := hq.trans (NB.pR hv_45)
  have h9 := (Prod.mk.inj (Option.some.inj h)).1
  exact hq.to h9
theorem nb_c_X9_readSelect_b129 (F : Nat) (T : TC_X9_readQuery) (hM_X9_readQuery : ∀ (cs : CS) (x0 : Nat) (cs9 : CS) (r9 : Nat), T.1 cs x0 = some (cs9, r9) → NB cs cs9) (hM_X9_readSelect : ∀ (cs : CS) (x0 : Nat) (cs9 : CS) (r9 : Nat), T.2.1 cs x0 = some (cs9, r9) → NB cs cs9) (hM_X9_readSources : ∀ (cs : CS) (x0 : Nat) (x1 : Nat) (cs9 : CS), T.2.2.1 cs x0 x1 = some cs9 → NB cs cs9) (hM_X9_readSource : ∀ (cs : CS) (x0 : Nat) (cs9 : CS) (r9 : Nat), T.2.2.2 cs x0 = some (cs9, r9) → NB cs cs9) (cs1 : CS) (u0 : Nat) (u1 : Option Nat) (u2 : Nat) (cs9 : CS) (r9 : Nat) (h : c_X9_readSelect_b129 F T cs1 u0 u1 u2 = some (cs9, r9)) : NB cs1 cs9 := by
  unfold c_X9_readSelect_b129 at h
  have hq : NB cs1 cs1 := NB.refl
  replace h := ob h; obtain ⟨cs_45, hv_45, h⟩ := h
  replace hq := hq.trans (NB.pI hv_45)
  replace h := ob h; obtain ⟨w_47, hw_47, h⟩ := h
  replace h := ob h; obtain ⟨z_46, hv_46, h⟩ := h
  replace hq := hq.trans (nb_c_X9_accept F cs_45 u0 9 z_46.1 z_46.2 hv_46)
  by_cases c_48 : z_46.2 = 0
  · skip
    replace h := (if_pos c_48).symm.trans h
    have k9 := nb_c_X9_readSelect_b151 F T hM_X9_readQuery hM_X9_readSelect hM_X9_readSources hM_X9_readSource z_46.1 u0 u1 u2 cs9 r9 h
    exact hq.trans k9
  · skip
    replace h := (if_neg c_48).symm.trans h
    replace h := ob h; obtain ⟨w_50, hw_50, h⟩ := h
    replace h := ob h; obtain ⟨z_49, hv_49, h⟩ := h
    replace hq := hq.trans (nb_c_X9_readExpr F 300 z_46.1 u0 z_49.1 z_49.2 hv_49)
    replace h := ob h; obtain ⟨cs_51, hv_51, h⟩ := h
    replace hq := hq.trans (NB.pI hv_51)
    have k9 := nb_c_X9_readSelect_b151 F T hM_X9_readQuery hM_X9_readSelect hM_X9_readSources hM_X9_readSource cs_51 u0 u1 u2 cs9 r9 h
    exact hq.trans k9
theorem nb_c_X9_readSelect_b115 (F : Nat) (T : TC_X9_readQuery) (hM_X9_readQuery : ∀ (cs : CS) (x0 : Nat) (cs9 : CS) (r9 : Nat), T.1 cs x0 = some (cs9, r9) → NB cs cs9) (hM_X9_readSelect : ∀ (cs : CS) (x0 : Nat) (cs9 : CS) (r9 : Nat), T.2.1 cs x0 = some (cs9, r9) → NB cs cs9) (hM_X9_readSources : ∀ (cs : CS) (x0 : Nat) (x1 : Nat) (cs9 : CS), T.2.2.1 cs x0 x1 = some cs9 → NB cs cs9) (hM_X9_readSource : ∀ (cs : CS) (x0 : Nat) (cs9 : CS) (r9 : Nat), T.2.2.2 cs x0 = some (cs9, r9) → NB cs cs9) (cs1 : CS) (u0 : Nat) (u1 : Option Nat) (u2 : Nat) (cs9 : CS) (r9 : Nat) (h : c_X9_readSelect_b115 F T cs1 u0 u1 u2 = some (cs9, r9)) : NB cs1 cs9 := by
  unfold c_X9_readSelect_b115 at h
  have hq : NB cs1 cs1 := NB.refl
  replace h := ob h; obtain ⟨w_46, hw_46, h⟩ := h
  replace h := ob h; obtain ⟨v_45, hv_45, h⟩ := h
  by_cases c_47 : v_45 = 7
  · skip
    replace h := (if_pos c_47).symm.trans h
    replace h := ob h; obtain ⟨w_49, hw_49, h⟩ := h
    replace h := ob h; obtain ⟨cs_48, hv_48, h⟩ := h
    replace hq := hq.trans (nb_c_X9_readGroups F cs1 u0 u2 cs_48 hv_48)
    have k9 := nb_c_X9_readSelect_b129 F T hM_X9_readQuery hM_X9_readSelect hM_X9_readSources hM_X9_readSource cs_48 u0 u1 u2 cs9 r9 h
    exact hq.trans k9
  · skip
    replace h := (if_neg c_47).symm.trans h
    have k9 := nb_c_X9_readSelect_b129 F T hM_X9_readQuery hM_X9_readSelect hM_X9_readSources hM_X9_readSource cs1 u0 u1 u2 cs9 r9 h
    exact hq.trans k9
theorem nb_c_X9_readSelect_b93 (F : Nat) (T : TC_X9_readQuery) (hM_X9_readQuery : ∀ (cs : CS) (x0 : Nat) (cs9 : CS) (r9 : Nat), T.1 cs x0 = some (cs9, r9) → NB cs cs9) (hM_X9_readSelect : ∀ (cs : CS) (x0 : Nat) (cs9 : CS) (r9 : Nat), T.2.1 cs x0 = some (cs9, r9) → NB cs cs9) (hM_X9_readSources : ∀ (cs : CS) (x0 : Nat) (x1 : Nat) (cs9 : CS), T.2.2.1 cs x0 x1 = some cs9 → NB cs cs9) (hM_X9_readSource : ∀ (cs : CS) (x0 : Nat) (cs9 : CS) (r9 : Nat), T.2.2.2 cs x0 = some (cs9, r9) → NB cs cs9) (cs1 : CS) (u0 : Nat) (u1 : Option Nat) (u2 : Nat) (cs9 : CS) (r9 : Nat) (h : c_X9_readSelect_b93 F T cs1 u0 u1 u2 = some (cs9, r9)) : NB cs1 cs9 := by
  unfold c_X9_readSelect_b93 at h
  have hq : NB cs1 cs1 := NB.refl
  replace h := ob h; obtain ⟨cs_45, hv_45, h⟩ := h
  replace hq := hq.trans (NB.pI hv_45)
  replace h := ob h; obtain ⟨w_47, hw_47, h⟩ := h
  replace h := ob h; obtain ⟨z_46, hv_46, h⟩ := h
  replace hq := hq.trans (nb_c_X9_accept F cs_45 u0 6 z_46.1 z_46.2 hv_46)
  by_cases c_48 : z_46.2 = 0
  · skip
    replace h := (if_pos c_48).symm.trans h
    have k9 := nb_c_X9_readSelect_b115 F T hM_X9_readQuery hM_X9_readSelect hM_X9_readSources hM_X9_readSource z_46.1 u0 u1 u2 cs9 r9 h
    exact hq.trans k9
  · skip
    replace h := (if_neg c_48).symm.trans h
    replace h := ob h; obtain ⟨w_50, hw_50, h⟩ := h
    replace h := ob h; obtain ⟨z_49, hv_49, h⟩ := h
    replace hq := hq.trans (nb_c_X9_readExpr F 300 z_46.1 u0 z_49.1 z_49.2 hv_49)
    replace h := ob h; obtain ⟨cs_51, hv_51, h⟩ := h
    replace hq := hq.trans (NB.pI hv_51)
    have k9 := nb_c_X9_readSelect_b115 F T hM_X9_readQuery hM_X9_readSelect hM_X9_readSources hM_X9_readSource cs_51 u0 u1 u2 cs9 r9 h
    exact hq.trans k9
theorem nb_c_X9_readSelect_b83 (F : Nat) (T : TC_X9_readQuery) (hM_X9_readQuery : ∀ (cs : CS) (x0 : Nat) (cs9 : CS) (r9 : Nat), T.1 cs x0 = some (cs9, r9) → NB cs cs9) (hM_X9_readSelect : ∀ (cs : CS) (x0 : Nat) (cs9 : CS) (r9 : Nat), T.2.1 cs x0 = some (cs9, r9) → NB cs cs9) (hM_X9_readSources : ∀ (cs : CS) (x0 : Nat) (x1 : Nat) (cs9 : CS), T.2.2.1 cs x0 x1 = some cs9 → NB cs cs9) (hM_X9_readSource : ∀ (cs : CS) (x0 : Nat) (cs9 : CS) (r9 : Nat), T.2.2.2 cs x0 = some (cs9, r9) → NB cs cs9) (cs1 : CS) (u0 : Nat) (u1 : Option Nat) (u2 : Nat) (cs9 : CS) (r9 : Nat) (h : c_X9_readSelect_b83 F T cs1 u0 u1 u2 = some (cs9, r9)) : NB cs1 cs9 := by
  unfold c_X9_readSelect_b83 at h
  have hq : NB cs1 cs1 := NB.refl
  replace h := ob h; obtain ⟨w_46, hw_46, h⟩ := h
  replace h := ob h; obtain ⟨cs_45, hv_45, h⟩ := h
  replace hq := hq.trans (nb_c_X9_expect F cs1 u0 2 cs_45 hv_45)
  replace h := ob h; obtain ⟨w_48, hw_48, h⟩ := h
  replace h := ob h; obtain ⟨cs_47, hv_47, h⟩ := h
  replace hq := hq.trans (hM_X9_readSources cs_45 u0 u2 cs_47 hv_47)
  have k9 := nb_c_X9_readSelect_b93 F T hM_X9_readQuery hM_X9_readSelect hM_X9_readSources hM_X9_readSource cs_47 u0 u1 u2 cs9 r9 h
  exact hq.trans k9
theorem nb_c_X9_readSelect_L50 (F : Nat) (T : TC_X9_readQuery) (hM_X9_readQuery : ∀ (cs : CS) (x0 : Nat) (cs9 : CS) (r9 : Nat), T.1 cs x0 = some (cs9, r9) → NB cs cs9) (hM_X9_readSelect : ∀ (cs : CS) (x0 : Nat) (cs9 : CS) (r9 : Nat), T.2.1 cs x0 = some (cs9, r9) → NB cs cs9) (hM_X9_readSources : ∀ (cs : CS) (x0 : Nat) (x1 : Nat) (cs9 : CS), T.2.2.1 cs x0 x1 = some cs9 → NB cs cs9) (hM_X9_readSource : ∀ (cs : CS) (x0 : Nat) (cs9 : CS) (r9 : Nat), T.2.2.2 cs x0 = some (cs9, r9) → NB cs cs9) : ∀ (lf_50 : Nat) (cs1 : CS) (u0 : Nat) (u1 : Option Nat) (u2 : Nat) (u3 : Int32) (u4 : Int32) (cs9 : CS) (r9 : Nat), c_X9_readSelect_L50 F T lf_50 cs1 u0 u1 u2 u3 u4 = some (cs9, r9) → NB cs1 cs9 := by
  intro lf_50
  induction lf_50 with
  | zero => intro cs1 u0 u1 u2 u3 u4 cs9 r9 h; cases (show (none : Option (CS × Nat)) = _ from h)
  | succ lf_50 ih_50 =>
    intro cs1 u0 u1 u2 u3 u4 cs9 r9 h
    rw [c_X9_readSelect_L50] at h
    have hq : NB cs1 cs1 := NB.refl
    by_cases c_45 : 2000 ≤ u4
    · skip
      replace h := (if_pos c_45).symm.trans h
      have k9 := nb_c_X9_readSelect_b83 F T hM_X9_readQuery hM_X9_readSelect hM_X9_readSources hM_X9_readSource cs1 u0 u1 u2 cs9 r9 h
      exact hq.trans k9
    · skip
      replace h := (if_neg c_45).symm.trans h
      by_cases c_46 : u3 = 0
      · skip
        replace h := (if_pos c_46).symm.trans h
        have k9 := nb_c_X9_readSelect_b83 F T hM_X9_readQuery hM_X9_readSelect hM_X9_readSources hM_X9_readSource cs1 u0 u1 u2 cs9 r9 h
        exact hq.trans k9
      · skip
        replace h := (if_neg c_46).symm.trans h
        replace h := ob h; obtain ⟨v_47, hv_47, h⟩ := h
        replace h := ob h; obtain ⟨i_48, hi_48, h⟩ := h
        subst hi_48
        replace h := ob h; obtain ⟨w_50, hw_50, h⟩ := h
        replace h := ob h; obtain ⟨cs_49, hv_49, h⟩ := h
        replace hq := hq.trans (nb_c_X9_readItem F cs1 u0 i_48 cs_49 hv_49)
        replace h := ob h; obtain ⟨w_52, hw_52, h⟩ := h
        replace h := ob h; obtain ⟨z_51, hv_51, h⟩ := h
        replace hq := hq.trans (nb_c_X9_accept F cs_49 u0 43 z_51.1 z_51.2 hv_51)
        have k9 := ih_50 z_51.1 u0 u1 u2 z_51.2 (u4 + 1) cs9 r9 h
        exact hq.trans k9
theorem nb_c_X9_readSelect_b12 (F : Nat) (T : TC_X9_readQuery) (hM_X9_readQuery : ∀ (cs : CS) (x0 : Nat) (cs9 : CS) (r9 : Nat), T.1 cs x0 = some (cs9, r9) → NB cs cs9) (hM_X9_readSelect : ∀ (cs : CS) (x0 : Nat) (cs9 : CS) (r9 : Nat), T.2.1 cs x0 = some (cs9, r9) → NB cs cs9) (hM_X9_readSources : ∀ (cs : CS) (x0 : Nat) (x1 : Nat) (cs9 : CS), T.2.2.1 cs x0 x1 = some cs9 → NB cs cs9) (hM_X9_readSource : ∀ (cs : CS) (x0 : Nat) (cs9 : CS) (r9 : Nat), T.2.2.2 cs x0 = some (cs9, r9) → NB cs cs9) (cs1 : CS) (u0 : Nat) (u1 : Option Nat) (y0 : Nat) (cs9 : CS) (r9 : Nat) (h : c_X9_readSelect_b12 F T cs1 u0 u1 y0 = some (cs9, r9)) : NB cs1 cs9 := by
  unfold c_X9_readSelect_b12 at h
  have hq : NB cs1 cs1 := NB.refl
  replace h := ob h; obtain ⟨cs_45, hv_45, h⟩ := h
  replace hq := hq.trans (NB.pR hv_45)
  replace h := ob h; obtain ⟨w_47, hw_47, h⟩ := h
  replace h := ob h; obtain ⟨cs_46, hv_46, h⟩ := h
  replace hq := hq.trans (nb_c_X9_expect F cs_45 u0 0 cs_46 hv_46)
  replace h := ob h; obtain ⟨w_49, hw_49, h⟩ := h
  replace h := ob h; obtain ⟨v_48, hv_48, h⟩ := h
  replace h := ob h; obtain ⟨cs_50, hv_50, h⟩ := h
  replace hq := hq.trans (NB.pI hv_50)
  replace h := ob h; obtain ⟨w_52, hw_52, h⟩ := h
  replace h := ob h; obtain ⟨z_51, hv_51, h⟩ := h
  replace hq := hq.trans (nb_c_X9_accept F cs_50 u0 1 z_51.1 z_51.2 hv_51)
  replace h := ob h; obtain ⟨w_54, hw_54, h⟩ := h
  replace h := ob h; obtain ⟨cs_53, hv_53, h⟩ := h
  replace hq := hq.trans (NB.pI hv_53)
  replace h := ob h; obtain ⟨cs_55, hv_55, h⟩ := h
  replace hq := hq.trans (NB.pI hv_55)
  have k9 := nb_c_X9_readSelect_L50 F T hM_X9_readQuery hM_X9_readSelect hM_X9_readSources hM_X9_readSource F cs_55 u0 u1 y0 1 0 cs9 r9 h
  exact hq.trans k9
theorem nb_c_X9_readSelect_b8 (F : Nat) (T : TC_X9_readQuery) (hM_X9_readQuery : ∀ (cs : CS) (x0 : Nat) (cs9 : CS) (r9 : Nat), T.1 cs x0 = some (cs9, r9) → NB cs cs9) (hM_X9_readSelect : ∀ (cs : CS) (x0 : Nat) (cs9 : CS) (r9 : Nat), T.2.1 cs x0 = some (cs9, r9) → NB cs cs9) (hM_X9_readSources : ∀ (cs : CS) (x0 : Nat) (x1 : Nat) (cs9 : CS), T.2.2.1 cs x0 x1 = some cs9 → NB cs cs9) (hM_X9_readSource : ∀ (cs : CS) (x0 : Nat) (cs9 : CS) (r9 : Nat), T.2.2.2 cs x0 = some (cs9, r9) → NB cs cs9) (cs1 : CS) (u0 : Nat) (u1 : Option Nat) (y0 : Nat) (cs9 : CS) (r9 : Nat) (h : c_X9_readSelect_b8 F T cs1 u0 u1 y0 = some (cs9, r9)) : NB cs1 cs9 := by
  unfold c_X9_readSelect_b8 at h
  have hq : NB cs1 cs1 := NB.refl
  replace h := ob h; obtain ⟨cs_45, hv_45, h⟩ := h
  replace hq := hq.trans (nb_c_X5_init F cs1 y0 cs_45 hv_45)
  have k9 := nb_c_X9_readSelect_b12 F T hM_X9_readQuery hM_X9_readSelect hM_X9_readSources hM_X9_readSource cs_45 u0 u1 y0 cs9 r9 h
  exact hq.trans k9
theorem nb_cb_X9_readSelect (F : Nat) (T : TC_X9_readQuery) (hM_X9_readQuery : ∀ (cs : CS) (x0 : Nat) (cs9 : CS) (r9 : Nat), T.1 cs x0 = some (cs9, r9) → NB cs cs9) (hM_X9_readSelect : ∀ (cs : CS) (x0 : Nat) (cs9 : CS) (r9 : Nat), T.2.1 cs x0 = some (cs9, r9) → NB cs cs9) (hM_X9_readSources : ∀ (cs : CS) (x0 : Nat) (x1 : Nat) (cs9 : CS), T.2.2.1 cs x0 x1 = some cs9 → NB cs cs9) (hM_X9_readSource : ∀ (cs : CS) (x0 : Nat) (cs9 : CS) (r9 : Nat), T.2.2.2 cs x0 = some (cs9, r9) → NB cs cs9) (cs : CS) (x0 : Nat) (cs9 : CS) (r9 : Nat) (h : cb_X9_readSelect F T cs x0 = some (cs9, r9)) : NB cs cs9 := by
  unfold cb_X9_readSelect at h
  have hq : NB cs cs := NB.refl
  replace h := ob h; obtain ⟨v_45, hv_45, h⟩ := h
  replace h := ob h; obtain ⟨cs_46, hv_46, h⟩ := h
  replace hq := hq.trans (NB.nwO (by decide) hv_46)
  have k9 := nb_c_X9_readSelect_b8 F T hM_X9_readQuery hM_X9_readSelect hM_X9_readSources hM_X9_readSource cs_46 x0 v_45 (kK cs) cs9 r9 h
  exact hq.trans k9
theorem nb_c_X9_readSources_b100 (F : Nat) (T : TC_X9_readQuery) (hM_X9_readQuery : ∀ (cs : CS) (x0 : Nat) (cs9 : CS) (r9 : Nat), T.1 cs x0 = some (cs9, r9) → NB cs cs9) (hM_X9_readSelect : ∀ (cs : CS) (x0 : Nat) (cs9 : CS) (r9 : Nat), T.2.1 cs x0 = some (cs9, r9) → NB cs cs9) (hM_X9_readSources : ∀ (cs : CS) (x0 : Nat) (x1 : Nat) (cs9 : CS), T.2.2.1 cs x0 x1 = some cs9 → NB cs cs9) (hM_X9_readSource : ∀ (cs : CS) (x0 : Nat) (cs9 : CS) (r9 : Nat), T.2.2.2 cs x0 = some (cs9, r9) → NB cs cs9) (cs1 : CS) (cs9 : CS) (h : c_X9_readSources_b100 F T cs1 = some cs9) : NB cs1 cs9 := by
  unfold c_X9_readSources_b100 at h
  have hq : NB cs1 cs1 := NB.refl
  have h9 := Option.some.inj h
  exact hq.to h9
theorem nb_c_X9_readSources_b54 (F : Nat) (T : TC_X9_readQuery) (hM_X9_readQuery : ∀ (cs : CS) (x0 : Nat) (cs9 : CS) (r9 : Nat), T.1 cs x0 = some (cs9, r9) → NB cs cs9) (hM_X9_readSelect : ∀ (cs : CS) (x0 : Nat) (cs9 : CS) (r9 : Nat), T.2.1 cs x0 = some (cs9, r9) → NB cs cs9) (hM_X9_readSources : ∀ (cs : CS) (x0 : Nat) (x1 : Nat) (cs9 : CS), T.2.2.1 cs x0 x1 = some cs9 → NB cs cs9) (hM_X9_readSource : ∀ (cs : CS) (x0 : Nat) (cs9 : CS) (r9 : Nat), T.2.2.2 cs x0 = some (cs9, r9) → NB cs cs9) (rc10 : CS → Nat → Nat → Int32 → Option CS) (hrc10 : ∀ (cs1 : CS) (u0 : Nat) (u1 : Nat) (u2 : Int32) (cs9 : CS), rc10 cs1 u0 u1 u2 = some cs9 → NB cs1 cs9) (cs1 : CS) (u0 : Nat) (u1 : Nat) (u2 : Int32) (u3 : Int32) (u4 : Int32) (y0 : Nat) (cs9 : CS) (h : c_X9_readSources_b54 F T rc10 cs1 u0 u1 u2 u3 u4 y0 = some cs9) : NB cs1 cs9 := by
  unfold c_X9_readSources_b54 at h
  have hq : NB cs1 cs1 := NB.refl
  replace h := ob h; obtain ⟨w_28, hw_28, h⟩ := h
  replace h := ob h; obtain ⟨cs_27, hv_27, h⟩ := h
  replace hq := hq.trans (NB.pI hv_27)
  replace h := ob h; obtain ⟨cs_29, hv_29, h⟩ := h
  replace hq := hq.trans (NB.pI hv_29)
  replace h := ob h; obtain ⟨w_31, hw_31, h⟩ := h
  replace h := ob h; obtain ⟨cs_30, hv_30, h⟩ := h
  replace hq := hq.trans (nb_c_X9_expect F cs_29 u0 5 cs_30 hv_30)
  replace h := ob h; obtain ⟨cs_32, hv_32, h⟩ := h
  replace hq := hq.trans (NB.pI hv_32)
  replace h := ob h; obtain ⟨w_34, hw_34, h⟩ := h
  replace h := ob h; obtain ⟨z_33, hv_33, h⟩ := h
  replace hq := hq.trans (nb_c_X9_readExpr F 300 cs_32 u0 z_33.1 z_33.2 hv_33)
  replace h := ob h; obtain ⟨cs_35, hv_35, h⟩ := h
  replace hq := hq.trans (NB.pI hv_35)
  replace h := ob h; obtain ⟨cs_36, hv_36, h⟩ := h
  replace hq := hq.trans (nb_c_X9_addSource F cs_35 u1 y0 cs_36 hv_36)
  have k9 := hrc10 cs_36 u0 u1 (u2 + 1) cs9 h
  exact hq.trans k9
theorem nb_c_X9_readSources_b33 (F : Nat) (T : TC_X9_readQuery) (hM_X9_readQuery : ∀ (cs : CS) (x0 : Nat) (cs9 : CS) (r9 : Nat), T.1 cs x0 = some (cs9, r9) → NB cs cs9) (hM_X9_readSelect : ∀ (cs : CS) (x0 : Nat) (cs9 : CS) (r9 : Nat), T.2.1 cs x0 = some (cs9, r9) → NB cs cs9) (hM_X9_readSources : ∀ (cs : CS) (x0 : Nat) (x1 : Nat) (cs9 : CS), T.2.2.1 cs x0 x1 = some cs9 → NB cs cs9) (hM_X9_readSource : ∀ (cs : CS) (x0 : Nat) (cs9 : CS) (r9 : Nat), T.2.2.2 cs x0 = some (cs9, r9) → NB cs cs9) (rc10 : CS → Nat → Nat → Int32 → Option CS) (hrc10 : ∀ (cs1 : CS) (u0 : Nat) (u1 : Nat) (u2 : Int32) (cs9 : CS), rc10 cs1 u0 u1 u2 = some cs9 → NB cs1 cs9) (cs1 : CS) (u0 : Nat) (u1 : Nat) (u2 : Int32) (cs9 : CS) (h : c_X9_readSources_b33 F T rc10 cs1 u0 u1 u2 = some cs9) : NB cs1 cs9 := by
  unfold c_X9_readSources_b33 at h
  have hq : NB cs1 cs1 := NB.refl
  replace h := ob h; obtain ⟨w_28, hw_28, h⟩ := h
  replace h := ob h; obtain ⟨z_27, hv_27, h⟩ := h
  replace hq := hq.trans (nb_c_X9_accept F cs1 u0 4 z_27.1 z_27.2 hv_27)
  replace h := ob h; obtain ⟨w_30, hw_30, h⟩ := h
  replace h := ob h; obtain ⟨v_29, hv_29, h⟩ := h
  replace h := ob h; obtain ⟨w_32, hw_32, h⟩ := h
  replace h := ob h; obtain ⟨cs_31, hv_31, h⟩ := h
  replace hq := hq.trans (nb_c_X9_expect F z_27.1 u0 3 cs_31 hv_31)
  replace h := ob h; obtain ⟨w_34, hw_34, h⟩ := h
  replace h := ob h; obtain ⟨z_33, hv_33, h⟩ := h
  replace hq := hq.trans (hM_X9_readSource cs_31 u0 z_33.1 z_33.2 hv_33)
  have k9 := nb_c_X9_readSources_b54 F T hM_X9_readQuery hM_X9_readSelect hM_X9_readSources hM_X9_readSource rc10 hrc10 z_33.1 u0 u1 u2 z_27.2 v_29 z_33.2 cs9 h
  exact hq.trans k9
theorem nb_c_X9_readSources_L10 (F : Nat) (T : TC_X9_readQuery) (hM_X9_readQuery : ∀ (cs : CS) (x0 : Nat) (cs9 : CS) (r9 : Nat), T.1 cs x0 = some (cs9, r9) → NB cs cs9) (hM_X9_readSelect : ∀ (cs : CS) (x0 : Nat) (cs9 : CS) (r9 : Nat), T.2.1 cs x0 = some (cs9, r9) → NB cs cs9) (hM_X9_readSources : ∀ (cs : CS) (x0 : Nat) (x1 : Nat) (cs9 : CS), T.2.2.1 cs x0 x1 = some cs9 → NB cs cs9) (hM_X9_readSource : ∀ (cs : CS) (x0 : Nat) (cs9 : CS) (r9 : Nat), T.2.2.2 cs x0 = some (cs9, r9) → NB cs cs9) : ∀ (lf_10 : Nat) (cs1 : CS) (u0 : Nat) (u1 : Nat) (u2 : Int32) (cs9 : CS), c_X9_readSources_L10 F T lf_10 cs1 u0 u1 u2 = some cs9 → NB cs1 cs9 := by
  intro lf_10
  induction lf_10 with
  | zero => intro cs1 u0 u1 u2 cs9 h; cases (show (none : Option CS) = _ from h)
  | succ lf_10 ih_10 =>
    intro cs1 u0 u1 u2 cs9 h
    rw [c_X9_readSources_L10] at h
    have hq : NB cs1 cs1 := NB.refl
    by_cases c_27 : 2000 ≤ u2
    · skip
      replace h := (if_pos c_27).symm.trans h
      have k9 := nb_c_X9_readSources_b100 F T hM_X9_readQuery hM_X9_readSelect hM_X9_readSources hM_X9_readSource cs1 cs9 h
      exact hq.trans k9
    · skip
      replace h := (if_neg c_27).symm.trans h
      replace h := ob h; obtain ⟨w_29, hw_29, h⟩ := h
      replace h := ob h; obtain ⟨v_28, hv_28, h⟩ := h
      by_cases c_30 : v_28 = 3
      · skip
        replace h := (if_pos c_30).symm.trans h
        have k9 := nb_c_X9_readSources_b33 F T hM_X9_readQuery hM_X9_readSelect hM_X9_readSources hM_X9_readSource (c_X9_readSources_L10 F T lf_10) ih_10 cs1 u0 u1 u2 cs9 h
        exact hq.trans k9
      · skip
        replace h := (if_neg c_30).symm.trans h
        replace h := ob h; obtain ⟨w_32, hw_32, h⟩ := h
        replace h := ob h; obtain ⟨v_31, hv_31, h⟩ := h
        by_cases c_33 : v_31 = 4
        · skip
          replace h := (if_pos c_33).symm.trans h
          have k9 := nb_c_X9_readSources_b33 F T hM_X9_readQuery hM_X9_readSelect hM_X9_readSources hM_X9_readSource (c_X9_readSources_L10 F T lf_10) ih_10 cs1 u0 u1 u2 cs9 h
          exact hq.trans k9
        · skip
          replace h := (if_neg c_33).symm.trans h
          have k9 := nb_c_X9_readSources_b100 F T hM_X9_readQuery hM_X9_readSelect hM_X9_readSources hM_X9_readSource cs1 cs9 h
          exact hq.trans k9
theorem nb_c_X9_readSources_b5 (F : Nat) (T : TC_X9_readQuery) (hM_X9_readQuery : ∀ (cs : CS) (x0 : Nat) (cs9 : CS) (r9 : Nat), T.1 cs x0 = some (cs9, r9) → NB cs cs9) (hM_X9_readSelect : ∀ (cs : CS) (x0 : Nat) (cs9 : CS) (r9 : Nat), T.2.1 cs x0 = some (cs9, r9) → NB cs cs9) (hM_X9_readSources : ∀ (cs : CS) (x0 : Nat) (x1 : Nat) (cs9 : CS), T.2.2.1 cs x0 x1 = some cs9 → NB cs cs9) (hM_X9_readSource : ∀ (cs : CS) (x0 : Nat) (cs9 : CS) (r9 : Nat), T.2.2.2 cs x0 = some (cs9, r9) → NB cs cs9) (cs1 : CS) (u0 : Nat) (u1 : Nat) (y0 : Nat) (y1 : Nat) (cs9 : CS) (h : c_X9_readSources_b5 F T cs1 u0 u1 y0 y1 = some cs9) : NB cs1 cs9 := by
  unfold c_X9_readSources_b5 at h
  have hq : NB cs1 cs1 := NB.refl
  replace h := ob h; obtain ⟨cs_27, hv_27, h⟩ := h
  replace hq := hq.trans (nb_c_X9_addSource F cs1 y1 y0 cs_27 hv_27)
  have k9 := nb_c_X9_readSources_L10 F T hM_X9_readQuery hM_X9_readSelect hM_X9_readSources hM_X9_readSource F cs_27 u0 u1 0 cs9 h
  exact hq.trans k9
theorem nb_cb_X9_readSources (F : Nat) (T : TC_X9_readQuery) (hM_X9_readQuery : ∀ (cs : CS) (x0 : Nat) (cs9 : CS) (r9 : Nat), T.1 cs x0 = some (cs9, r9) → NB cs cs9) (hM_X9_readSelect : ∀ (cs : CS) (x0 : Nat) (cs9 : CS) (r9 : Nat), T.2.1 cs x0 = some (cs9, r9) → NB cs cs9) (hM_X9_readSources : ∀ (cs : CS) (x0 : Nat) (x1 : Nat) (cs9 : CS), T.2.2.1 cs x0 x1 = some cs9 → NB cs cs9) (hM_X9_readSource : ∀ (cs : CS) (x0 : Nat) (cs9 : CS) (r9 : Nat), T.2.2.2 cs x0 = some (cs9, r9) → NB cs cs9) (cs : CS) (x0 : Nat) (x1 : Nat) (cs9 : CS) (h : cb_X9_readSources F T cs x0 x1 = some cs9) : NB cs cs9 := by
  unfold cb_X9_readSources at h
  have hq : NB cs cs := NB.refl
  replace h := ob h; obtain ⟨w_28, hw_28, h⟩ := h
  replace h := ob h; obtain ⟨z_27, hv_27, h⟩ := h
  replace hq := hq.trans (hM_X9_readSource cs x0 z_27.1 z_27.2 hv_27)
  have k9 := nb_c_X9_readSources_b5 F T hM_X9_readQuery hM_X9_readSelect hM_X9_readSources hM_X9_readSource z_27.1 x0 x1 z_27.2 x1 cs9 h
  exact hq.trans k9
theorem nb_c_X9_readSource_b124 (F : Nat) (T : TC_X9_readQuery) (hM_X9_readQuery : ∀ (cs : CS) (x0 : Nat) (cs9 : CS) (r9 : Nat), T.1 cs x0 = some (cs9, r9) → NB cs cs9) (hM_X9_readSelect : ∀ (cs : CS) (x0 : Nat) (cs9 : CS) (r9 : Nat), T.2.1 cs x0 = some (cs9, r9) → NB cs cs9) (hM_X9_readSources : ∀ (cs : CS) (x0 : Nat) (x1 : Nat) (cs9 : CS), T.2.2.1 cs x0 x1 = some cs9 → NB cs cs9) (hM_X9_readSource : ∀ (cs : CS) (x0 : Nat) (cs9 : CS) (r9 : Nat), T.2.2.2 cs x0 = some (cs9, r9) → NB cs cs9) (cs1 : CS) (u1 : Nat) (cs9 : CS) (r9 : Nat) (h : c_X9_readSource_b124 F T cs1 u1 = some (cs9, r9)) : NB cs1 cs9 := by
  unfold c_X9_readSource_b124 at h
  have hq : NB cs1 cs1 := NB.refl
  have h9 := (Prod.mk.inj (Option.some.inj h)).1
  exact hq.to h9
theorem nb_c_X9_readSource_b75 (F : Nat) (T : TC_X9_readQuery) (hM_X9_readQuery : ∀ (cs : CS) (x0 : Nat) (cs9 : CS) (r9 : Nat), T.1 cs x0 = some (cs9, r9) → NB cs cs9) (hM_X9_readSelect : ∀ (cs : CS) (x0 : Nat) (cs9 : CS) (r9 : Nat), T.2.1 cs x0 = some (cs9, r9) → NB cs cs9) (hM_X9_readSources : ∀ (cs : CS) (x0 : Nat) (x1 : Nat) (cs9 : CS), T.2.2.1 cs x0 x1 = some cs9 → NB cs cs9) (hM_X9_readSource : ∀ (cs : CS) (x0 : Nat) (cs9 : CS) (r9 : Nat), T.2.2.2 cs x0 = some (cs9, r9) → NB cs cs9) (cs1 : CS) (u0 : Nat) (u1 : Nat) (cs9 : CS) (r9 : Nat) (h : c_X9_readSource_b75 F T cs1 u0 u1 = some (cs9, r9)) : NB cs1 cs9 := by
  unfold c_X9_readSource_b75 at h
  have hq : NB cs1 cs1 := NB.refl
  replace h := ob h; obtain ⟨w_41, hw_41, h⟩ := h
  replace h := ob h; obtain ⟨cs_40, hv_40, h⟩ := h
  replace hq := hq.trans (nb_c_X9_expect F cs1 u0 17 cs_40 hv_40)
  replace h := ob h; obtain ⟨w_43, hw_43, h⟩ := h
  replace h := ob h; obtain ⟨v_42, hv_42, h⟩ := h
  replace h := ob h; obtain ⟨cs_44, hv_44, h⟩ := h
  replace hq := hq.trans (NB.pI hv_44)
  replace h := ob h; obtain ⟨w_46, hw_46, h⟩ := h
  replace h := ob h; obtain ⟨z_45, hv_45, h⟩ := h
  replace hq := hq.trans (nb_c_X9_readName F cs_44 u0 z_45.1 z_45.2 hv_45)
  replace h := ob h; obtain ⟨cs_47, hv_47, h⟩ := h
  replace hq := hq.trans (NB.pJ hv_47)
  replace h := ob h; obtain ⟨v_48, hv_48, h⟩ := h
  cases v_48 with
  | none =>
    replace h := oc_n.symm.trans h
    replace h := ob h; obtain ⟨w_51, hw_51, h⟩ := h
    replace h := ob h; obtain ⟨z_50, hv_50, h⟩ := h
    replace hq := hq.trans (nb_c_X9_accept F cs_47 u0 18 z_50.1 z_50.2 hv_50)
    by_cases c_52 : z_50.2 = 0
    · skip
      replace h := (if_pos c_52).symm.trans h
      have k9 := nb_c_X9_readSource_b124 F T hM_X9_readQuery hM_X9_readSelect hM_X9_readSources hM_X9_readSource z_50.1 u1 cs9 r9 h
      exact hq.trans k9
    · skip
      replace h := (if_neg c_52).symm.trans h
      replace h := ob h; obtain ⟨w_54, hw_54, h⟩ := h
      replace h := ob h; obtain ⟨z_53, hv_53, h⟩ := h
      replace hq := hq.trans (nb_c_X9_readNumber F z_50.1 u0 (9223372036854775807) z_53.1 z_53.2 hv_53)
      replace h := ob h; obtain ⟨cs_55, hv_55, h⟩ := h
      replace hq := hq.trans (NB.pJ hv_55)
      have k9 := nb_c_X9_readSource_b124 F T hM_X9_readQuery hM_X9_readSelect hM_X9_readSources hM_X9_readSource cs_55 u1 cs9 r9 h
      exact hq.trans k9
  | some i_49 =>
    replace h := oc_s.symm.trans h
    have k9 := nb_c_X9_readSource_b124 F T hM_X9_readQuery hM_X9_readSelect hM_X9_readSources hM_X9_readSource cs_47 u1 cs9 r9 h
    exact hq.trans k9
theorem nb_c_X9_readSource_b40 (F : Nat) (T : TC_X9_readQuery) (hM_X9_readQuery : ∀ (cs : CS) (x0 : Nat) (cs9 : CS) (r9 : Nat), T.1 cs x0 = some (cs9, r9) → NB cs cs9) (hM_X9_readSelect : ∀ (cs : CS) (x0 : Nat) (cs9 : CS) (r9 : Nat), T.2.1 cs x0 = some (cs9, r9) → NB cs cs9) (hM_X9_readSources : ∀ (cs : CS) (x0 : Nat) (x1 : Nat) (cs9 : CS), T.2.2.1 cs x0 x1 = some cs9 → NB cs cs9) (hM_X9_readSource : ∀ (cs : CS) (x0 : Nat) (cs9 : CS) (r9 : Nat), T.2.2.2 cs x0 = some (cs9, r9) → NB cs cs9) (cs1 : CS) (u0 : Nat) (u1 : Nat) (y0 : Nat) (y1 : Nat) (cs9 : CS) (r9 : Nat) (h : c_X9_readSource_b40 F T cs1 u0 u1 y0 y1 = some (cs9, r9)) : NB cs1 cs9 := by
  unfold c_X9_readSource_b40 at h
  have hq : NB cs1 cs1 := NB.refl
  replace h := ob h; obtain ⟨cs_40, hv_40, h⟩ := h
  replace hq := hq.trans (NB.pR hv_40)
  replace h := ob h; obtain ⟨w_42, hw_42, h⟩ := h
  replace h := ob h; obtain ⟨v_41, hv_41, h⟩ := h
  replace h := ob h; obtain ⟨cs_43, hv_43, h⟩ := h
  replace hq := hq.trans (NB.pI hv_43)
  replace h := ob h; obtain ⟨w_45, hw_45, h⟩ := h
  replace h := ob h; obtain ⟨cs_44, hv_44, h⟩ := h
  replace hq := hq.trans (nb_c_X9_expect F cs_43 u0 42 cs_44 hv_44)
  replace h := ob h; obtain ⟨v_46, hv_46, h⟩ := h
  replace h := ob h; obtain ⟨cs_47, hv_47, h⟩ := h
  replace hq := hq.trans (NB.pI hv_47)
  have k9 := nb_c_X9_readSource_b75 F T hM_X9_readQuery hM_X9_readSelect hM_X9_readSources hM_X9_readSource cs_47 u0 u1 cs9 r9 h
  exact hq.trans k9
theorem nb_c_X9_readSource_b7 (F : Nat) (T : TC_X9_readQuery) (hM_X9_readQuery : ∀ (cs : CS) (x0 : Nat) (cs9 : CS) (r9 : Nat), T.1 cs x0 = some (cs9, r9) → NB cs cs9) (hM_X9_readSelect : ∀ (cs : CS) (x0 : Nat) (cs9 : CS) (r9 : Nat), T.2.1 cs x0 = some (cs9, r9) → NB cs cs9) (hM_X9_readSources : ∀ (cs : CS) (x0 : Nat) (x1 : Nat) (cs9 : CS), T.2.2.1 cs x0 x1 = some cs9 → NB cs cs9) (hM_X9_readSource : ∀ (cs : CS) (x0 : Nat) (cs9 : CS) (r9 : Nat), T.2.2.2 cs x0 = some (cs9, r9) → NB cs cs9) (cs1 : CS) (u0 : Nat) (y0 : Nat) (cs9 : CS) (r9 : Nat) (h : c_X9_readSource_b7 F T cs1 u0 y0 = some (cs9, r9)) : NB cs1 cs9 := by
  unfold c_X9_readSource_b7 at h
  have hq : NB cs1 cs1 := NB.refl
  replace h := ob h; obtain ⟨w_41, hw_41, h⟩ := h
  replace h := ob h; obtain ⟨v_40, hv_40, h⟩ := h
  replace h := ob h; obtain ⟨cs_42, hv_42, h⟩ := h
  replace hq := hq.trans (NB.pI hv_42)
  replace h := ob h; obtain ⟨w_44, hw_44, h⟩ := h
  replace h := ob h; obtain ⟨v_43, hv_43, h⟩ := h
  by_cases c_45 : v_43 = 41
  · skip
    replace h := (if_pos c_45).symm.trans h
    replace h := ob h; obtain ⟨w_47, hw_47, h⟩ := h
    replace h := ob h; obtain ⟨cs_46, hv_46, h⟩ := h
    replace hq := hq.trans (nb_c_X9_deepen F cs_42 u0 cs_46 hv_46)
    replace h := ob h; obtain ⟨w_49, hw_49, h⟩ := h
    replace h := ob h; obtain ⟨cs_48, hv_48, h⟩ := h
    replace hq := hq.trans (nb_c_X9_expect F cs_46 u0 41 cs_48 hv_48)
    replace h := ob h; obtain ⟨w_51, hw_51, h⟩ := h
    replace h := ob h; obtain ⟨z_50, hv_50, h⟩ := h
    replace hq := hq.trans (hM_X9_readQuery cs_48 u0 z_50.1 z_50.2 hv_50)
    have k9 := nb_c_X9_readSource_b40 F T hM_X9_readQuery hM_X9_readSelect hM_X9_readSources hM_X9_readSource z_50.1 u0 y0 z_50.2 y0 cs9 r9 h
    exact hq.trans k9
  · skip
    replace h := (if_neg c_45).symm.trans h
    replace h := ob h; obtain ⟨w_53, hw_53, h⟩ := h
    replace h := ob h; obtain ⟨cs_52, hv_52, h⟩ := h
    replace hq := hq.trans (nb_c_X9_readLeaf F cs_42 u0 y0 cs_52 hv_52)
    have k9 := nb_c_X9_readSource_b75 F T hM_X9_readQuery hM_X9_readSelect hM_X9_readSources hM_X9_readSource cs_52 u0 y0 cs9 r9 h
    exact hq.trans k9
theorem nb_c_X9_readSource_b3 (F : Nat) (T : TC_X9_readQuery) (hM_X9_readQuery : ∀ (cs : CS) (x0 : Nat) (cs9 : CS) (r9 : Nat), T.1 cs x0 = some (cs9, r9) → NB cs cs9) (hM_X9_readSelect : ∀ (cs : CS) (x0 : Nat) (cs9 : CS) (r9 : Nat), T.2.1 cs x0 = some (cs9, r9) → NB cs cs9) (hM_X9_readSources : ∀ (cs : CS) (x0 : Nat) (x1 : Nat) (cs9 : CS), T.2.2.1 cs x0 x1 = some cs9 → NB cs cs9) (hM_X9_readSource : ∀ (cs : CS) (x0 : Nat) (cs9 : CS) (r9 : Nat), T.2.2.2 cs x0 = some (cs9, r9) → NB cs cs9) (cs1 : CS) (u0 : Nat) (y0 : Nat) (cs9 : CS) (r9 : Nat) (h : c_X9_readSource_b3 F T cs1 u0 y0 = some (cs9, r9)) : NB cs1 cs9 := by
  unfold c_X9_readSource_b3 at h
  have hq : NB cs1 cs1 := NB.refl
  replace h := ob h; obtain ⟨cs_40, hv_40, h⟩ := h
  replace hq := hq.trans (nb_c_X6_init F cs1 y0 cs_40 hv_40)
  have k9 := nb_c_X9_readSource_b7 F T hM_X9_readQuery hM_X9_readSelect hM_X9_readSources hM_X9_readSource cs_40 u0 y0 cs9 r9 h
  exact hq.trans k9
theorem nb_cb_X9_readSource (F : Nat) (T : TC_X9_readQuery) (hM_X9_readQuery : ∀ (cs : CS) (x0 : Nat) (cs9 : CS) (r9 : Nat), T.1 cs x0 = some (cs9, r9) → NB cs cs9) (hM_X9_readSelect : ∀ (cs : CS) (x0 : Nat) (cs9 : CS) (r9 : Nat), T.2.1 cs x0 = some (cs9, r9) → NB cs cs9) (hM_X9_readSources : ∀ (cs : CS) (x0 : Nat) (x1 : Nat) (cs9 : CS), T.2.2.1 cs x0 x1 = some cs9 → NB cs cs9) (hM_X9_readSource : ∀ (cs : CS) (x0 : Nat) (cs9 : CS) (r9 : Nat), T.2.2.2 cs x0 = some (cs9, r9) → NB cs cs9) (cs : CS) (x0 : Nat) (cs9 : CS) (r9 : Nat) (h : cb_X9_readSource F T cs x0 = some (cs9, r9)) : NB cs cs9 := by
  unfold cb_X9_readSource at h
  have hq : NB cs cs := NB.refl
  replace h := ob h; obtain ⟨cs_40, hv_40, h⟩ := h
  replace hq := hq.trans (NB.nwO (by decide) hv_40)
  have k9 := nb_c_X9_readSource_b3 F T hM_X9_readQuery hM_X9_readSelect hM_X9_readSources hM_X9_readSource cs_40 x0 (kK cs) cs9 r9 h
  exact hq.trans k9
theorem nbg_X9_readQuery (F : Nat) : ∀ n : Nat, (∀ (cs : CS) (x0 : Nat) (cs9 : CS) (r9 : Nat), (tabc_X9_readQuery F n).1 cs x0 = some (cs9, r9) → NB cs cs9) ∧ (∀ (cs : CS) (x0 : Nat) (cs9 : CS) (r9 : Nat), (tabc_X9_readQuery F n).2.1 cs x0 = some (cs9, r9) → NB cs cs9) ∧ (∀ (cs : CS) (x0 : Nat) (x1 : Nat) (cs9 : CS), (tabc_X9_readQuery F n).2.2.1 cs x0 x1 = some cs9 → NB cs cs9) ∧ (∀ (cs : CS) (x0 : Nat) (cs9 : CS) (r9 : Nat), (tabc_X9_readQuery F n).2.2.2 cs x0 = some (cs9, r9) → NB cs cs9) := by
  intro n
  induction n with
  | zero => exact ⟨fun _ _ _ _ h => (by cases (show (none : Option (CS × Nat)) = _ from h)), fun _ _ _ _ h => (by cases (show (none : Option (CS × Nat)) = _ from h)), fun _ _ _ _ h => (by cases (show (none : Option CS) = _ from h)), fun _ _ _ _ h => (by cases (show (none : Option (CS × Nat)) = _ from h))⟩
  | succ n ih =>
    obtain ⟨hh0, hh1, hh2, hh3⟩ := ih
    exact ⟨fun cs w0 w1 w2 h => nb_cb_X9_readQuery F (tabc_X9_readQuery F n) hh0 hh1 hh2 hh3 cs w0 w1 w2 h, fun cs w0 w1 w2 h => nb_cb_X9_readSelect F (tabc_X9_readQuery F n) hh0 hh1 hh2 hh3 cs w0 w1 w2 h, fun cs w0 w1 w2 h => nb_cb_X9_readSources F (tabc_X9_readQuery F n) hh0 hh1 hh2 hh3 cs w0 w1 w2 h, fun cs w0 w1 w2 h => nb_cb_X9_readSource F (tabc_X9_readQuery F n) hh0 hh1 hh2 hh3 cs w0 w1 w2 h⟩
theorem nb_c_X9_readQuery (F n : Nat) (cs : CS) (x0 : Nat) (cs9 : CS) (r9 : Nat) (h : c_X9_readQuery F n cs x0 = some (cs9, r9)) : NB cs cs9 := (nbg_X9_readQuery F n).1 cs x0 cs9 r9 h
theorem nb_c_X9_read_b15 (F : Nat) (cs1 : CS) (u0 : Nat) (y0 : Nat) (y1 : Nat) (cs9 : CS) (h : c_X9_read_b15 F cs1 u0 y0 y1 = some cs9) : NB cs1 cs9 := by
  unfold c_X9_read_b15 at h
  have hq : NB cs1 cs1 := NB.refl
  replace h := ob h; obtain ⟨cs_4, hv_4, h⟩ := h
  replace hq := hq.trans (NB.pR hv_4)
  replace h := ob h; obtain ⟨w_6, hw_6, h⟩ := h
  replace h := ob h; obtain ⟨cs_5, hv_5, h⟩ := h
  replace hq := hq.trans (nb_c_X9_expect F cs_4 u0 56 cs_5 hv_5)
  have h9 := Option.some.inj h
  exact hq.to h9
theorem nb_c_X9_read (F : Nat) (cs : CS) (x0 : Nat) (cs9 : CS) (h : c_X9_read F cs x0 = some cs9) : NB cs cs9 := by
  unfold c_X9_read at h
  have hq : NB cs cs := NB.refl
  replace h := ob h; obtain ⟨w_5, hw_5, h⟩ := h
  replace h := ob h; obtain ⟨z_4, hv_4, h⟩ := h
  replace hq := hq.trans (nb_c_X9_accept F cs x0 37 z_4.1 z_4.2 hv_4)
  replace h := ob h; obtain ⟨w_7, hw_7, h⟩ := h
  replace h := ob h; obtain ⟨cs_6, hv_6, h⟩ := h
  replace hq := hq.trans (NB.pI hv_6)
  replace h := ob h; obtain ⟨w_9, hw_9, h⟩ := h
  replace h := ob h; obtain ⟨z_8, hv_8, h⟩ := h
  replace hq := hq.trans (nb_c_X9_readQuery F 300 cs_6 x0 z_8.1 z_8.2 hv_8)
  have k9 := nb_c_X9_read_b15 F z_8.1 x0 z_8.2 x0 cs9 h
  exact hq.trans k9

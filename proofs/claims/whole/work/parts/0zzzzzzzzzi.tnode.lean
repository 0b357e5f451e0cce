/-! the checker's methods of one node write that node alone -/
theorem fn_c_X0_wantParts_b106 (t c : Nat) (F : Nat) (cs1 : CS) (u0 : Nat) (u1 : Int32) (u3 : Int32) (cs9 : CS) (h : c_X0_wantParts_b106 F cs1 u0 u1 u3 = some cs9) : PFN t c u0 u1 cs1 cs9 := by
  unfold c_X0_wantParts_b106 at h
  have hq : PFN t c u0 u1 cs1 cs1 := PFN.refl
  replace h := ob h; obtain ⟨v_1, hv_1, h⟩ := h
  replace h := ob h; obtain ⟨i_2, hi_2, h⟩ := h
  subst hi_2
  replace h := ob h; obtain ⟨v_3, hv_3, h⟩ := h
  replace h := ob h; obtain ⟨cs_4, hv_4, h⟩ := h
  replace hq := hq.trans (PFN.wA (by decide) (by assumption) hv_4)
  have h9 := Option.some.inj h
  exact hq.to h9
theorem fn_c_X0_wantParts_b76 (t c : Nat) (F : Nat) (cs1 : CS) (u0 : Nat) (u1 : Int32) (u3 : Int32) (u4 : Int32) (cs9 : CS) (h : c_X0_wantParts_b76 F cs1 u0 u1 u3 u4 = some cs9) : PFN t c u0 u1 cs1 cs9 := by
  unfold c_X0_wantParts_b76 at h
  have hq : PFN t c u0 u1 cs1 cs1 := PFN.refl
  replace h := ob h; obtain ⟨v_1, hv_1, h⟩ := h
  replace h := ob h; obtain ⟨i_3, hi_3, h⟩ := h
  subst hi_3
  replace h := ob h; obtain ⟨w_4, hw_4, h⟩ := h
  replace h := ob h; obtain ⟨v_2, hv_2, h⟩ := h
  by_cases c_5 : v_2 = 0
  · skip
    replace h := (if_pos c_5).symm.trans h
    have k9 := fn_c_X0_wantParts_b106 t c F cs1 u0 u1 u3 cs9 h
    exact hq.trans k9
  · skip
    replace h := (if_neg c_5).symm.trans h
    replace h := ob h; obtain ⟨v_6, hv_6, h⟩ := h
    replace h := ob h; obtain ⟨v_7, hv_7, h⟩ := h
    replace h := ob h; obtain ⟨i_8, hi_8, h⟩ := h
    subst hi_8
    replace h := ob h; obtain ⟨v_9, hv_9, h⟩ := h
    replace h := ob h; obtain ⟨v_10, hv_10, h⟩ := h
    replace h := ob h; obtain ⟨i_12, hi_12, h⟩ := h
    subst hi_12
    replace h := ob h; obtain ⟨w_13, hw_13, h⟩ := h
    replace h := ob h; obtain ⟨cs_11, hv_11, h⟩ := h
    replace hq := hq.trans (PFN.ref (by assumption) hv_11)
    have k9 := fn_c_X0_wantParts_b106 t c F cs_11 u0 u1 u3 cs9 h
    exact hq.trans k9
theorem fn_c_X0_wantParts_b56 (t c : Nat) (F : Nat) (rc11 : CS → Nat → Int32 → Int32 → Int32 → Int32 → Int32 → Int32 → Option CS) (hrc11 : ∀ (cs1 : CS) (u0 : Nat) (u1 : Int32) (u2 : Int32) (u3 : Int32) (u4 : Int32) (u5 : Int32) (u6 : Int32) (cs9 : CS), rc11 cs1 u0 u1 u2 u3 u4 u5 u6 = some cs9 → PFN t c u0 u1 cs1 cs9) (cs1 : CS) (u0 : Nat) (u1 : Int32) (u2 : Int32) (u3 : Int32) (u4 : Int32) (u5 : Int32) (u6 : Int32) (cs9 : CS) (h : c_X0_wantParts_b56 F rc11 cs1 u0 u1 u2 u3 u4 u5 u6 = some cs9) : PFN t c u0 u1 cs1 cs9 := by
  unfold c_X0_wantParts_b56 at h
  have hq : PFN t c u0 u1 cs1 cs1 := PFN.refl
  replace h := ob h; obtain ⟨v_1, hv_1, h⟩ := h
  replace h := ob h; obtain ⟨i_2, hi_2, h⟩ := h
  subst hi_2
  replace h := ob h; obtain ⟨v_3, hv_3, h⟩ := h
  replace h := ob h; obtain ⟨v_4, hv_4, h⟩ := h
  have k9 := hrc11 cs1 u0 u1 u2 u3 u4 (v_4 - 1) (u6 + 1) cs9 h
  exact hq.trans k9
theorem fn_c_X0_wantParts_L11 (t c : Nat) (F : Nat) : ∀ (lf_11 : Nat) (cs1 : CS) (u0 : Nat) (u1 : Int32) (u2 : Int32) (u3 : Int32) (u4 : Int32) (u5 : Int32) (u6 : Int32) (cs9 : CS), c_X0_wantParts_L11 F lf_11 cs1 u0 u1 u2 u3 u4 u5 u6 = some cs9 → PFN t c u0 u1 cs1 cs9 := by
  intro lf_11
  induction lf_11 with
  | zero => intro cs1 u0 u1 u2 u3 u4 u5 u6 cs9 h; cases (show (none : Option CS) = _ from h)
  | succ lf_11 ih_11 =>
    intro cs1 u0 u1 u2 u3 u4 u5 u6 cs9 h
    rw [c_X0_wantParts_L11] at h
    have hq : PFN t c u0 u1 cs1 cs1 := PFN.refl
    replace h := ob h; obtain ⟨v_1, hv_1, h⟩ := h
    replace h := ob h; obtain ⟨i_2, hi_2, h⟩ := h
    subst hi_2
    replace h := ob h; obtain ⟨v_3, hv_3, h⟩ := h
    replace h := ob h; obtain ⟨v_4, hv_4, h⟩ := h
    by_cases c_5 : v_4 ≤ u6
    · skip
      replace h := (if_pos c_5).symm.trans h
      have k9 := fn_c_X0_wantParts_b76 t c F cs1 u0 u1 u3 u4 cs9 h
      exact hq.trans k9
    · skip
      replace h := (if_neg c_5).symm.trans h
      replace h := ob h; obtain ⟨v_6, hv_6, h⟩ := h
      replace h := ob h; obtain ⟨i_8, hi_8, h⟩ := h
      subst hi_8
      replace h := ob h; obtain ⟨w_9, hw_9, h⟩ := h
      replace h := ob h; obtain ⟨v_7, hv_7, h⟩ := h
      by_cases c_10 : v_7 = 0
      · skip
        replace h := (if_pos c_10).symm.trans h
        have k9 := fn_c_X0_wantParts_b76 t c F cs1 u0 u1 u3 u4 cs9 h
        exact hq.trans k9
      · skip
        replace h := (if_neg c_10).symm.trans h
        replace h := ob h; obtain ⟨v_11, hv_11, h⟩ := h
        replace h := ob h; obtain ⟨i_12, hi_12, h⟩ := h
        subst hi_12
        replace h := ob h; obtain ⟨v_13, hv_13, h⟩ := h
        replace h := ob h; obtain ⟨v_14, hv_14, h⟩ := h
        by_cases c_15 : (v_14 &&& u2) = 0
        · skip
          replace h := (if_pos c_15).symm.trans h
          have k9 := fn_c_X0_wantParts_b56 t c F (c_X0_wantParts_L11 F lf_11) ih_11 cs1 u0 u1 u2 u3 u5 u5 u6 cs9 h
          exact hq.trans k9
        · skip
          replace h := (if_neg c_15).symm.trans h
          have k9 := fn_c_X0_wantParts_b56 t c F (c_X0_wantParts_L11 F lf_11) ih_11 cs1 u0 u1 u2 u3 u4 u5 u6 cs9 h
          exact hq.trans k9
theorem fn_c_X0_wantParts (t c : Nat) (F : Nat) (cs : CS) (x0 : Nat) (x1 : Int32) (x2 : Int32) (x3 : Int32) (cs9 : CS) (h : c_X0_wantParts F cs x0 x1 x2 x3 = some cs9) : PFN t c x0 x1 cs cs9 := by
  unfold c_X0_wantParts at h
  have hq : PFN t c x0 x1 cs cs := PFN.refl
  have k9 := fn_c_X0_wantParts_L11 t c F F cs x0 x1 x2 x3 (-1) (x1 - 1) 0 cs9 h
  exact hq.trans k9
theorem fn_c_X0_checkCase_b144 (t c : Nat) (F : Nat) (cs1 : CS) (u0 : Nat) (u1 : Int32) (u2 : Int32) (u3 : Int32) (cs9 : CS) (h : c_X0_checkCase_b144 F cs1 u0 u1 u2 u3 = some cs9) : PFN t c u0 u1 cs1 cs9 := by
  unfold c_X0_checkCase_b144 at h
  have hq : PFN t c u0 u1 cs1 cs1 := PFN.refl
  replace h := ob h; obtain ⟨v_1, hv_1, h⟩ := h
  replace h := ob h; obtain ⟨i_2, hi_2, h⟩ := h
  subst hi_2
  replace h := ob h; obtain ⟨v_3, hv_3, h⟩ := h
  replace h := ob h; obtain ⟨v_4, hv_4, h⟩ := h
  replace h := ob h; obtain ⟨i_5, hi_5, h⟩ := h
  subst hi_5
  replace h := ob h; obtain ⟨v_6, hv_6, h⟩ := h
  replace h := ob h; obtain ⟨v_7, hv_7, h⟩ := h
  replace h := ob h; obtain ⟨v_8, hv_8, h⟩ := h
  replace h := ob h; obtain ⟨i_9, hi_9, h⟩ := h
  subst hi_9
  replace h := ob h; obtain ⟨v_10, hv_10, h⟩ := h
  replace h := ob h; obtain ⟨v_11, hv_11, h⟩ := h
  replace h := ob h; obtain ⟨cs_12, hv_12, h⟩ := h
  replace hq := hq.trans (PFN.wA (by decide) (by assumption) hv_12)
  have h9 := Option.some.inj h
  exact hq.to h9
theorem fn_c_X0_checkCase_b105 (t c : Nat) (F : Nat) (cs1 : CS) (u0 : Nat) (u1 : Int32) (u2 : Int32) (u3 : Int32) (cs9 : CS) (h : c_X0_checkCase_b105 F cs1 u0 u1 u2 u3 = some cs9) : PFN t c u0 u1 cs1 cs9 := by
  unfold c_X0_checkCase_b105 at h
  have hq : PFN t c u0 u1 cs1 cs1 := PFN.refl
  replace h := ob h; obtain ⟨v_1, hv_1, h⟩ := h
  replace h := ob h; obtain ⟨i_2, hi_2, h⟩ := h
  subst hi_2
  replace h := ob h; obtain ⟨v_3, hv_3, h⟩ := h
  replace h := ob h; obtain ⟨v_4, hv_4, h⟩ := h
  replace h := ob h; obtain ⟨v_5, hv_5, h⟩ := h
  replace h := ob h; obtain ⟨i_6, hi_6, h⟩ := h
  subst hi_6
  replace h := ob h; obtain ⟨v_7, hv_7, h⟩ := h
  replace h := ob h; obtain ⟨v_8, hv_8, h⟩ := h
  by_cases c_9 : (v_4 &&& v_8) = 0
  · skip
    replace h := (if_pos c_9).symm.trans h
    replace h := ob h; obtain ⟨v_10, hv_10, h⟩ := h
    replace h := ob h; obtain ⟨v_11, hv_11, h⟩ := h
    replace h := ob h; obtain ⟨i_12, hi_12, h⟩ := h
    subst hi_12
    replace h := ob h; obtain ⟨v_13, hv_13, h⟩ := h
    replace h := ob h; obtain ⟨v_14, hv_14, h⟩ := h
    replace h := ob h; obtain ⟨i_16, hi_16, h⟩ := h
    subst hi_16
    replace h := ob h; obtain ⟨w_17, hw_17, h⟩ := h
    replace h := ob h; obtain ⟨cs_15, hv_15, h⟩ := h
    replace hq := hq.trans (PFN.ref (by assumption) hv_15)
    have k9 := fn_c_X0_checkCase_b144 t c F cs_15 u0 u1 u2 u3 cs9 h
    exact hq.trans k9
  · skip
    replace h := (if_neg c_9).symm.trans h
    have k9 := fn_c_X0_checkCase_b144 t c F cs1 u0 u1 u2 u3 cs9 h
    exact hq.trans k9
theorem fn_c_X0_checkCase_b57 (t c : Nat) (F : Nat) (cs1 : CS) (u0 : Nat) (u1 : Int32) (u2 : Int32) (u3 : Int32) (y0 : Int32) (cs9 : CS) (h : c_X0_checkCase_b57 F cs1 u0 u1 u2 u3 y0 = some cs9) : PFN t c u0 u1 cs1 cs9 := by
  unfold c_X0_checkCase_b57 at h
  have hq : PFN t c u0 u1 cs1 cs1 := PFN.refl
  replace h := ob h; obtain ⟨v_1, hv_1, h⟩ := h
  replace h := ob h; obtain ⟨i_3, hi_3, h⟩ := h
  subst hi_3
  replace h := ob h; obtain ⟨w_4, hw_4, h⟩ := h
  replace h := ob h; obtain ⟨v_2, hv_2, h⟩ := h
  by_cases c_5 : v_2 = 0
  · skip
    replace h := (if_pos c_5).symm.trans h
    have h9 := Option.some.inj h
    exact hq.to h9
  · skip
    replace h := (if_neg c_5).symm.trans h
    replace h := ob h; obtain ⟨v_6, hv_6, h⟩ := h
    replace h := ob h; obtain ⟨i_7, hi_7, h⟩ := h
    subst hi_7
    replace h := ob h; obtain ⟨v_8, hv_8, h⟩ := h
    replace h := ob h; obtain ⟨v_9, hv_9, h⟩ := h
    by_cases c_10 : (v_9 &&& 2) = 0
    · skip
      replace h := (if_pos c_10).symm.trans h
      replace h := ob h; obtain ⟨v_11, hv_11, h⟩ := h
      replace h := ob h; obtain ⟨v_12, hv_12, h⟩ := h
      replace h := ob h; obtain ⟨i_13, hi_13, h⟩ := h
      subst hi_13
      replace h := ob h; obtain ⟨v_14, hv_14, h⟩ := h
      replace h := ob h; obtain ⟨v_15, hv_15, h⟩ := h
      replace h := ob h; obtain ⟨i_17, hi_17, h⟩ := h
      subst hi_17
      replace h := ob h; obtain ⟨w_18, hw_18, h⟩ := h
      replace h := ob h; obtain ⟨cs_16, hv_16, h⟩ := h
      replace hq := hq.trans (PFN.ref (by assumption) hv_16)
      have k9 := fn_c_X0_checkCase_b105 t c F cs_16 u0 u1 u2 u3 cs9 h
      exact hq.trans k9
    · skip
      replace h := (if_neg c_10).symm.trans h
      have k9 := fn_c_X0_checkCase_b105 t c F cs1 u0 u1 u2 u3 cs9 h
      exact hq.trans k9
theorem fn_c_X0_checkCase_b30 (t c : Nat) (F : Nat) (cs1 : CS) (u0 : Nat) (u1 : Int32) (u2 : Int32) (y0 : Int32) (cs9 : CS) (h : c_X0_checkCase_b30 F cs1 u0 u1 u2 y0 = some cs9) : PFN t c u0 u1 cs1 cs9 := by
  unfold c_X0_checkCase_b30 at h
  have hq : PFN t c u0 u1 cs1 cs1 := PFN.refl
  replace h := ob h; obtain ⟨v_1, hv_1, h⟩ := h
  replace h := ob h; obtain ⟨i_3, hi_3, h⟩ := h
  subst hi_3
  replace h := ob h; obtain ⟨w_4, hw_4, h⟩ := h
  replace h := ob h; obtain ⟨v_2, hv_2, h⟩ := h
  by_cases c_5 : v_2 = 0
  · skip
    replace h := (if_pos c_5).symm.trans h
    have k9 := fn_c_X0_checkCase_b57 t c F cs1 u0 u1 u2 y0 (-1) cs9 h
    exact hq.trans k9
  · skip
    replace h := (if_neg c_5).symm.trans h
    replace h := ob h; obtain ⟨v_6, hv_6, h⟩ := h
    replace h := ob h; obtain ⟨i_7, hi_7, h⟩ := h
    subst hi_7
    replace h := ob h; obtain ⟨v_8, hv_8, h⟩ := h
    replace h := ob h; obtain ⟨v_9, hv_9, h⟩ := h
    have k9 := fn_c_X0_checkCase_b57 t c F cs1 u0 u1 u2 y0 (v_9 - 1) cs9 h
    exact hq.trans k9
theorem fn_c_X0_checkCase (t c : Nat) (F : Nat) (cs : CS) (x0 : Nat) (x1 : Int32) (cs9 : CS) (h : c_X0_checkCase F cs x0 x1 = some cs9) : PFN t c x0 x1 cs cs9 := by
  unfold c_X0_checkCase at h
  have hq : PFN t c x0 x1 cs cs := PFN.refl
  replace h := ob h; obtain ⟨v_1, hv_1, h⟩ := h
  replace h := ob h; obtain ⟨i_3, hi_3, h⟩ := h
  subst hi_3
  replace h := ob h; obtain ⟨w_4, hw_4, h⟩ := h
  replace h := ob h; obtain ⟨v_2, hv_2, h⟩ := h
  by_cases c_5 : v_2 = 0
  · skip
    replace h := (if_pos c_5).symm.trans h
    have k9 := fn_c_X0_checkCase_b30 t c F cs x0 x1 (x1 - 1) (-1) cs9 h
    exact hq.trans k9
  · skip
    replace h := (if_neg c_5).symm.trans h
    replace h := ob h; obtain ⟨v_6, hv_6, h⟩ := h
    replace h := ob h; obtain ⟨i_7, hi_7, h⟩ := h
    subst hi_7
    replace h := ob h; obtain ⟨v_8, hv_8, h⟩ := h
    replace h := ob h; obtain ⟨v_9, hv_9, h⟩ := h
    have k9 := fn_c_X0_checkCase_b30 t c F cs x0 x1 (x1 - 1) (v_9 - 1) cs9 h
    exact hq.trans k9
theorem fn_c_X0_checkAct_b270 (t c : Nat) (k : Nat) (n : Int32) (F : Nat) (cs1 : CS) (cs9 : CS) (h : c_X0_checkAct_b270 F cs1 = some cs9) : PFN t c k n cs1 cs9 := by
  unfold c_X0_checkAct_b270 at h
  have hq : PFN t c k n cs1 cs1 := PFN.refl
  have h9 := Option.some.inj h
  exact hq.to h9
theorem fn_c_X0_checkAct_b196 (t c : Nat) (F : Nat) (cs1 : CS) (u0 : Nat) (u1 : Int32) (cs9 : CS) (h : c_X0_checkAct_b196 F cs1 u0 u1 = some cs9) : PFN t c u0 u1 cs1 cs9 := by
  unfold c_X0_checkAct_b196 at h
  have hq : PFN t c u0 u1 cs1 cs1 := PFN.refl
  replace h := ob h; obtain ⟨v_1, hv_1, h⟩ := h
  replace h := ob h; obtain ⟨i_2, hi_2, h⟩ := h
  subst hi_2
  replace h := ob h; obtain ⟨v_3, hv_3, h⟩ := h
  replace h := ob h; obtain ⟨cs_4, hv_4, h⟩ := h
  replace hq := hq.trans (PFN.wA (by decide) (by assumption) hv_4)
  have k9 := fn_c_X0_checkAct_b270 t c u0 u1 F cs_4 cs9 h
  exact hq.trans k9
theorem fn_c_X0_checkAct_b222 (t c : Nat) (F : Nat) (cs1 : CS) (u0 : Nat) (u1 : Int32) (cs9 : CS) (h : c_X0_checkAct_b222 F cs1 u0 u1 = some cs9) : PFN t c u0 u1 cs1 cs9 := by
  unfold c_X0_checkAct_b222 at h
  have hq : PFN t c u0 u1 cs1 cs1 := PFN.refl
  replace h := ob h; obtain ⟨v_1, hv_1, h⟩ := h
  replace h := ob h; obtain ⟨i_2, hi_2, h⟩ := h
  subst hi_2
  replace h := ob h; obtain ⟨v_3, hv_3, h⟩ := h
  replace h := ob h; obtain ⟨cs_4, hv_4, h⟩ := h
  replace hq := hq.trans (PFN.wA (by decide) (by assumption) hv_4)
  have k9 := fn_c_X0_checkAct_b270 t c u0 u1 F cs_4 cs9 h
  exact hq.trans k9
theorem fn_c_X0_checkAct_b235 (t c : Nat) (F : Nat) (cs1 : CS) (u0 : Nat) (u1 : Int32) (cs9 : CS) (h : c_X0_checkAct_b235 F cs1 u0 u1 = some cs9) : PFN t c u0 u1 cs1 cs9 := by
  unfold c_X0_checkAct_b235 at h
  have hq : PFN t c u0 u1 cs1 cs1 := PFN.refl
  replace h := ob h; obtain ⟨w_2, hw_2, h⟩ := h
  replace h := ob h; obtain ⟨cs_1, hv_1, h⟩ := h
  replace hq := hq.trans (fn_c_X0_wantParts t c F cs1 u0 u1 2 2 cs_1 hv_1)
  have k9 := fn_c_X0_checkAct_b270 t c u0 u1 F cs_1 cs9 h
  exact hq.trans k9
theorem fn_c_X0_checkAct_b253 (t c : Nat) (F : Nat) (cs1 : CS) (u0 : Nat) (u1 : Int32) (cs9 : CS) (h : c_X0_checkAct_b253 F cs1 u0 u1 = some cs9) : PFN t c u0 u1 cs1 cs9 := by
  unfold c_X0_checkAct_b253 at h
  have hq : PFN t c u0 u1 cs1 cs1 := PFN.refl
  replace h := ob h; obtain ⟨w_2, hw_2, h⟩ := h
  replace h := ob h; obtain ⟨cs_1, hv_1, h⟩ := h
  replace hq := hq.trans (fn_c_X0_wantParts t c F cs1 u0 u1 1 2 cs_1 hv_1)
  have k9 := fn_c_X0_checkAct_b270 t c u0 u1 F cs_1 cs9 h
  exact hq.trans k9
theorem fn_c_X0_checkAct_b263 (t c : Nat) (F : Nat) (cs1 : CS) (u0 : Nat) (u1 : Int32) (cs9 : CS) (h : c_X0_checkAct_b263 F cs1 u0 u1 = some cs9) : PFN t c u0 u1 cs1 cs9 := by
  unfold c_X0_checkAct_b263 at h
  have hq : PFN t c u0 u1 cs1 cs1 := PFN.refl
  replace h := ob h; obtain ⟨w_2, hw_2, h⟩ := h
  replace h := ob h; obtain ⟨cs_1, hv_1, h⟩ := h
  replace hq := hq.trans (fn_c_X0_wantParts t c F cs1 u0 u1 1 1 cs_1 hv_1)
  have k9 := fn_c_X0_checkAct_b270 t c u0 u1 F cs_1 cs9 h
  exact hq.trans k9
theorem fn_c_X0_checkAct (t c : Nat) (F : Nat) (cs : CS) (x0 : Nat) (x1 : Int32) (cs9 : CS) (h : c_X0_checkAct F cs x0 x1 = some cs9) : PFN t c x0 x1 cs cs9 := by
  unfold c_X0_checkAct at h
  have hq : PFN t c x0 x1 cs cs := PFN.refl
  replace h := ob h; obtain ⟨v_1, hv_1, h⟩ := h
  replace h := ob h; obtain ⟨i_2, hi_2, h⟩ := h
  subst hi_2
  replace h := ob h; obtain ⟨v_3, hv_3, h⟩ := h
  replace h := ob h; obtain ⟨v_4, hv_4, h⟩ := h
  by_cases c_5 : v_4 = 19
  · skip
    replace h := (if_pos c_5).symm.trans h
    replace h := ob h; obtain ⟨w_7, hw_7, h⟩ := h
    replace h := ob h; obtain ⟨cs_6, hv_6, h⟩ := h
    replace hq := hq.trans (fn_c_X0_checkCase t c F cs x0 x1 cs_6 hv_6)
    have k9 := fn_c_X0_checkAct_b270 t c x0 x1 F cs_6 cs9 h
    exact hq.trans k9
  replace h := (if_neg c_5).symm.trans h
  by_cases c_8 : v_4 = 24
  · skip
    replace h := (if_pos c_8).symm.trans h
    have k9 := fn_c_X0_checkAct_b222 t c F cs x0 x1 cs9 h
    exact hq.trans k9
  replace h := (if_neg c_8).symm.trans h
  by_cases c_9 : v_4 = 25
  · skip
    replace h := (if_pos c_9).symm.trans h
    have k9 := fn_c_X0_checkAct_b235 t c F cs x0 x1 cs9 h
    exact hq.trans k9
  replace h := (if_neg c_9).symm.trans h
  by_cases c_10 : v_4 = 26
  · skip
    replace h := (if_pos c_10).symm.trans h
    replace h := ob h; obtain ⟨v_11, hv_11, h⟩ := h
    replace h := ob h; obtain ⟨i_12, hi_12, h⟩ := h
    subst hi_12
    replace h := ob h; obtain ⟨v_13, hv_13, h⟩ := h
    replace h := ob h; obtain ⟨cs_14, hv_14, h⟩ := h
    replace hq := hq.trans (PFN.wA (by decide) (by assumption) hv_14)
    have k9 := fn_c_X0_checkAct_b270 t c x0 x1 F cs_14 cs9 h
    exact hq.trans k9
  replace h := (if_neg c_10).symm.trans h
  by_cases c_15 : v_4 = 27
  · skip
    replace h := (if_pos c_15).symm.trans h
    have k9 := fn_c_X0_checkAct_b253 t c F cs x0 x1 cs9 h
    exact hq.trans k9
  replace h := (if_neg c_15).symm.trans h
  by_cases c_16 : v_4 = 28
  · skip
    replace h := (if_pos c_16).symm.trans h
    have k9 := fn_c_X0_checkAct_b235 t c F cs x0 x1 cs9 h
    exact hq.trans k9
  replace h := (if_neg c_16).symm.trans h
  by_cases c_17 : v_4 = 29
  · skip
    replace h := (if_pos c_17).symm.trans h
    have k9 := fn_c_X0_checkAct_b235 t c F cs x0 x1 cs9 h
    exact hq.trans k9
  replace h := (if_neg c_17).symm.trans h
  by_cases c_18 : v_4 = 30
  · skip
    replace h := (if_pos c_18).symm.trans h
    have k9 := fn_c_X0_checkAct_b222 t c F cs x0 x1 cs9 h
    exact hq.trans k9
  replace h := (if_neg c_18).symm.trans h
  by_cases c_19 : v_4 = 31
  · skip
    replace h := (if_pos c_19).symm.trans h
    have k9 := fn_c_X0_checkAct_b222 t c F cs x0 x1 cs9 h
    exact hq.trans k9
  replace h := (if_neg c_19).symm.trans h
  by_cases c_20 : v_4 = 32
  · skip
    replace h := (if_pos c_20).symm.trans h
    have k9 := fn_c_X0_checkAct_b196 t c F cs x0 x1 cs9 h
    exact hq.trans k9
  replace h := (if_neg c_20).symm.trans h
  by_cases c_21 : v_4 = 40
  · skip
    replace h := (if_pos c_21).symm.trans h
    have k9 := fn_c_X0_checkAct_b196 t c F cs x0 x1 cs9 h
    exact hq.trans k9
  replace h := (if_neg c_21).symm.trans h
  by_cases c_22 : v_4 = 50
  · skip
    replace h := (if_pos c_22).symm.trans h
    have k9 := fn_c_X0_checkAct_b253 t c F cs x0 x1 cs9 h
    exact hq.trans k9
  replace h := (if_neg c_22).symm.trans h
  by_cases c_23 : v_4 = 51
  · skip
    replace h := (if_pos c_23).symm.trans h
    have k9 := fn_c_X0_checkAct_b253 t c F cs x0 x1 cs9 h
    exact hq.trans k9
  replace h := (if_neg c_23).symm.trans h
  by_cases c_24 : v_4 = 52
  · skip
    replace h := (if_pos c_24).symm.trans h
    have k9 := fn_c_X0_checkAct_b253 t c F cs x0 x1 cs9 h
    exact hq.trans k9
  replace h := (if_neg c_24).symm.trans h
  by_cases c_25 : v_4 = 53
  · skip
    replace h := (if_pos c_25).symm.trans h
    have k9 := fn_c_X0_checkAct_b253 t c F cs x0 x1 cs9 h
    exact hq.trans k9
  replace h := (if_neg c_25).symm.trans h
  by_cases c_26 : v_4 = 54
  · skip
    replace h := (if_pos c_26).symm.trans h
    have k9 := fn_c_X0_checkAct_b253 t c F cs x0 x1 cs9 h
    exact hq.trans k9
  replace h := (if_neg c_26).symm.trans h
  by_cases c_27 : v_4 = 55
  · skip
    replace h := (if_pos c_27).symm.trans h
    have k9 := fn_c_X0_checkAct_b253 t c F cs x0 x1 cs9 h
    exact hq.trans k9
  replace h := (if_neg c_27).symm.trans h
  by_cases c_28 : v_4 = 59
  · skip
    replace h := (if_pos c_28).symm.trans h
    have k9 := fn_c_X0_checkAct_b222 t c F cs x0 x1 cs9 h
    exact hq.trans k9
  replace h := (if_neg c_28).symm.trans h
  by_cases c_29 : v_4 = 60
  · skip
    replace h := (if_pos c_29).symm.trans h
    have k9 := fn_c_X0_checkAct_b253 t c F cs x0 x1 cs9 h
    exact hq.trans k9
  replace h := (if_neg c_29).symm.trans h
  by_cases c_30 : v_4 = 61
  · skip
    replace h := (if_pos c_30).symm.trans h
    have k9 := fn_c_X0_checkAct_b196 t c F cs x0 x1 cs9 h
    exact hq.trans k9
  replace h := (if_neg c_30).symm.trans h
  have k9 := fn_c_X0_checkAct_b263 t c F cs x0 x1 cs9 h
  exact hq.trans k9
theorem fn_c_X0_findInSources_b181 (t c : Nat) (F : Nat) (cs1 : CS) (u0 : Nat) (u1 : Int32) (u2 : Int32) (cs9 : CS) (h : c_X0_findInSources_b181 F cs1 u0 u1 u2 = some cs9) : PFN t c u0 u1 cs1 cs9 := by
  unfold c_X0_findInSources_b181 at h
  have hq : PFN t c u0 u1 cs1 cs1 := PFN.refl
  replace h := ob h; obtain ⟨w_2, hw_2, h⟩ := h
  replace h := ob h; obtain ⟨cs_1, hv_1, h⟩ := h
  replace hq := hq.trans (fn_c_X0_refuseUnlessOne hv_1)
  have h9 := Option.some.inj h
  exact hq.to h9
theorem fn_c_X0_findInSources_b175 (t c : Nat) (F : Nat) (rc4 : CS → Nat → Int32 → Int32 → Int32 → Option CS) (hrc4 : ∀ (cs1 : CS) (u0 : Nat) (u1 : Int32) (u2 : Int32) (u3 : Int32) (cs9 : CS), rc4 cs1 u0 u1 u2 u3 = some cs9 → PFN t c u0 u1 cs1 cs9) (cs1 : CS) (u0 : Nat) (u1 : Int32) (u2 : Int32) (u3 : Int32) (cs9 : CS) (h : c_X0_findInSources_b175 F rc4 cs1 u0 u1 u2 u3 = some cs9) : PFN t c u0 u1 cs1 cs9 := by
  unfold c_X0_findInSources_b175 at h
  have hq : PFN t c u0 u1 cs1 cs1 := PFN.refl
  have k9 := hrc4 cs1 u0 u1 u2 (u3 + 1) cs9 h
  exact hq.trans k9
theorem fn_c_X0_findInSources_b115 (t c : Nat) (F : Nat) (rc4 : CS → Nat → Int32 → Int32 → Int32 → Option CS) (hrc4 : ∀ (cs1 : CS) (u0 : Nat) (u1 : Int32) (u2 : Int32) (u3 : Int32) (cs9 : CS), rc4 cs1 u0 u1 u2 u3 = some cs9 → PFN t c u0 u1 cs1 cs9) (cs1 : CS) (u0 : Nat) (u1 : Int32) (u2 : Int32) (u3 : Int32) (u4 : Option Nat) (u5 : Int32) (y0 : Int32) (cs9 : CS) (h : c_X0_findInSources_b115 F rc4 cs1 u0 u1 u2 u3 u4 u5 y0 = some cs9) : PFN t c u0 u1 cs1 cs9 := by
  unfold c_X0_findInSources_b115 at h
  have hq : PFN t c u0 u1 cs1 cs1 := PFN.refl
  by_cases c_1 : u5 = 0
  · skip
    replace h := (if_pos c_1).symm.trans h
    have k9 := fn_c_X0_findInSources_b175 t c F rc4 hrc4 cs1 u0 u1 u2 u3 cs9 h
    exact hq.trans k9
  · skip
    replace h := (if_neg c_1).symm.trans h
    replace h := ob h; obtain ⟨i_2, hi_2, h⟩ := h
    subst hi_2
    replace h := ob h; obtain ⟨v_3, hv_3, h⟩ := h
    replace h := ob h; obtain ⟨i_5, hi_5, h⟩ := h
    subst hi_5
    replace h := ob h; obtain ⟨w_6, hw_6, h⟩ := h
    replace h := ob h; obtain ⟨v_4, hv_4, h⟩ := h
    by_cases c_7 : v_4 = 0
    · skip
      replace h := (if_pos c_7).symm.trans h
      have k9 := fn_c_X0_findInSources_b175 t c F rc4 hrc4 cs1 u0 u1 u2 u3 cs9 h
      exact hq.trans k9
    · skip
      replace h := (if_neg c_7).symm.trans h
      replace h := ob h; obtain ⟨v_8, hv_8, h⟩ := h
      replace h := ob h; obtain ⟨i_9, hi_9, h⟩ := h
      subst hi_9
      replace h := ob h; obtain ⟨v_10, hv_10, h⟩ := h
      replace h := ob h; obtain ⟨v_11, hv_11, h⟩ := h
      replace h := ob h; obtain ⟨cs_12, hv_12, h⟩ := h
      replace hq := hq.trans (PFN.wA (by decide) (by assumption) hv_12)
      replace h := ob h; obtain ⟨v_13, hv_13, h⟩ := h
      replace h := ob h; obtain ⟨i_14, hi_14, h⟩ := h
      subst hi_14
      replace h := ob h; obtain ⟨v_15, hv_15, h⟩ := h
      replace h := ob h; obtain ⟨v_16, hv_16, h⟩ := h
      replace h := ob h; obtain ⟨i_17, hi_17, h⟩ := h
      subst hi_17
      replace h := ob h; obtain ⟨v_18, hv_18, h⟩ := h
      replace h := ob h; obtain ⟨v_19, hv_19, h⟩ := h
      replace h := ob h; obtain ⟨cs_20, hv_20, h⟩ := h
      replace hq := hq.trans (PFN.wA (by decide) (by assumption) hv_20)
      have k9 := fn_c_X0_findInSources_b175 t c F rc4 hrc4 cs_20 u0 u1 (u2 + 1) u3 cs9 h
      exact hq.trans k9
theorem fn_c_X0_findInSources_b86 (t c : Nat) (F : Nat) (rc4 : CS → Nat → Int32 → Int32 → Int32 → Option CS) (hrc4 : ∀ (cs1 : CS) (u0 : Nat) (u1 : Int32) (u2 : Int32) (u3 : Int32) (cs9 : CS), rc4 cs1 u0 u1 u2 u3 = some cs9 → PFN t c u0 u1 cs1 cs9) (cs1 : CS) (u0 : Nat) (u1 : Int32) (u2 : Int32) (u3 : Int32) (u4 : Option Nat) (y0 : Int32) (cs9 : CS) (h : c_X0_findInSources_b86 F rc4 cs1 u0 u1 u2 u3 u4 y0 = some cs9) : PFN t c u0 u1 cs1 cs9 := by
  unfold c_X0_findInSources_b86 at h
  have hq : PFN t c u0 u1 cs1 cs1 := PFN.refl
  by_cases c_1 : y0 = 0
  · skip
    replace h := (if_pos c_1).symm.trans h
    have k9 := fn_c_X0_findInSources_b115 t c F rc4 hrc4 cs1 u0 u1 u2 u3 u4 y0 (-1) cs9 h
    exact hq.trans k9
  · skip
    replace h := (if_neg c_1).symm.trans h
    replace h := ob h; obtain ⟨i_2, hi_2, h⟩ := h
    subst hi_2
    replace h := ob h; obtain ⟨v_3, hv_3, h⟩ := h
    replace h := ob h; obtain ⟨v_4, hv_4, h⟩ := h
    replace h := ob h; obtain ⟨i_5, hi_5, h⟩ := h
    subst hi_5
    replace h := ob h; obtain ⟨v_6, hv_6, h⟩ := h
    replace h := ob h; obtain ⟨v_7, hv_7, h⟩ := h
    replace h := ob h; obtain ⟨i_9, hi_9, h⟩ := h
    subst hi_9
    replace h := ob h; obtain ⟨w_10, hw_10, h⟩ := h
    replace h := ob h; obtain ⟨v_8, hv_8, h⟩ := h
    have k9 := fn_c_X0_findInSources_b115 t c F rc4 hrc4 cs1 u0 u1 u2 u3 (some i_2) y0 v_8 cs9 h
    exact hq.trans k9
theorem fn_c_X0_findInSources_b81 (t c : Nat) (F : Nat) (rc4 : CS → Nat → Int32 → Int32 → Int32 → Option CS) (hrc4 : ∀ (cs1 : CS) (u0 : Nat) (u1 : Int32) (u2 : Int32) (u3 : Int32) (cs9 : CS), rc4 cs1 u0 u1 u2 u3 = some cs9 → PFN t c u0 u1 cs1 cs9) (cs1 : CS) (u0 : Nat) (u1 : Int32) (u2 : Int32) (u3 : Int32) (u4 : Nat) (cs9 : CS) (h : c_X0_findInSources_b81 F rc4 cs1 u0 u1 u2 u3 u4 = some cs9) : PFN t c u0 u1 cs1 cs9 := by
  unfold c_X0_findInSources_b81 at h
  have hq : PFN t c u0 u1 cs1 cs1 := PFN.refl
  have k9 := fn_c_X0_findInSources_b86 t c F rc4 hrc4 cs1 u0 u1 u2 u3 (some u4) 1 cs9 h
  exact hq.trans k9
theorem fn_c_X0_findInSources_b85 (t c : Nat) (F : Nat) (rc4 : CS → Nat → Int32 → Int32 → Int32 → Option CS) (hrc4 : ∀ (cs1 : CS) (u0 : Nat) (u1 : Int32) (u2 : Int32) (u3 : Int32) (cs9 : CS), rc4 cs1 u0 u1 u2 u3 = some cs9 → PFN t c u0 u1 cs1 cs9) (cs1 : CS) (u0 : Nat) (u1 : Int32) (u2 : Int32) (u3 : Int32) (u4 : Option Nat) (cs9 : CS) (h : c_X0_findInSources_b85 F rc4 cs1 u0 u1 u2 u3 u4 = some cs9) : PFN t c u0 u1 cs1 cs9 := by
  unfold c_X0_findInSources_b85 at h
  have hq : PFN t c u0 u1 cs1 cs1 := PFN.refl
  have k9 := fn_c_X0_findInSources_b86 t c F rc4 hrc4 cs1 u0 u1 u2 u3 u4 0 cs9 h
  exact hq.trans k9
theorem fn_c_X0_findInSources_L4 (t c : Nat) (F : Nat) : ∀ (lf_4 : Nat) (cs1 : CS) (u0 : Nat) (u1 : Int32) (u2 : Int32) (u3 : Int32) (cs9 : CS), c_X0_findInSources_L4 F lf_4 cs1 u0 u1 u2 u3 = some cs9 → PFN t c u0 u1 cs1 cs9 := by
  intro lf_4
  induction lf_4 with
  | zero => intro cs1 u0 u1 u2 u3 cs9 h; cases (show (none : Option CS) = _ from h)
  | succ lf_4 ih_4 =>
    intro cs1 u0 u1 u2 u3 cs9 h
    rw [c_X0_findInSources_L4] at h
    have hq : PFN t c u0 u1 cs1 cs1 := PFN.refl
    replace h := ob h; obtain ⟨v_1, hv_1, h⟩ := h
    cases v_1 with
    | none =>
      replace h := oc_n.symm.trans h
      have k9 := fn_c_X0_findInSources_b181 t c F cs1 u0 u1 u2 cs9 h
      exact hq.trans k9
    | some i_2 =>
      replace h := oc_s.symm.trans h
      replace h := ob h; obtain ⟨v_3, hv_3, h⟩ := h
      by_cases c_4 : v_3 ≤ u3
      · skip
        replace h := (if_pos c_4).symm.trans h
        have k9 := fn_c_X0_findInSources_b181 t c F cs1 u0 u1 u2 cs9 h
        exact hq.trans k9
      · skip
        replace h := (if_neg c_4).symm.trans h
        replace h := ob h; obtain ⟨v_5, hv_5, h⟩ := h
        replace h := ob h; obtain ⟨i_6, hi_6, h⟩ := h
        subst hi_6
        replace h := ob h; obtain ⟨v_7, hv_7, h⟩ := h
        replace h := ob h; obtain ⟨v_8, hv_8, h⟩ := h
        by_cases c_9 : v_8 ≤ u3
        · skip
          replace h := (if_pos c_9).symm.trans h
          have k9 := fn_c_X0_findInSources_b181 t c F cs1 u0 u1 u2 cs9 h
          exact hq.trans k9
        · skip
          replace h := (if_neg c_9).symm.trans h
          replace h := ob h; obtain ⟨v_10, hv_10, h⟩ := h
          replace h := ob h; obtain ⟨i_11, hi_11, h⟩ := h
          subst hi_11
          replace h := ob h; obtain ⟨v_12, hv_12, h⟩ := h
          replace h := ob h; obtain ⟨v_13, hv_13, h⟩ := h
          cases v_13 with
          | none =>
            replace h := oc_n.symm.trans h
            have k9 := fn_c_X0_findInSources_b85 t c F (c_X0_findInSources_L4 F lf_4) ih_4 cs1 u0 u1 u2 u3 none cs9 h
            exact hq.trans k9
          | some i_14 =>
            replace h := oc_s.symm.trans h
            replace h := ob h; obtain ⟨v_15, hv_15, h⟩ := h
            replace h := ob h; obtain ⟨i_16, hi_16, h⟩ := h
            subst hi_16
            replace h := ob h; obtain ⟨v_17, hv_17, h⟩ := h
            replace h := ob h; obtain ⟨v_18, hv_18, h⟩ := h
            by_cases c_19 : v_18 = (-1)
            · skip
              replace h := (if_pos c_19).symm.trans h
              have k9 := fn_c_X0_findInSources_b81 t c F (c_X0_findInSources_L4 F lf_4) ih_4 cs1 u0 u1 u2 u3 i_14 cs9 h
              exact hq.trans k9
            · skip
              replace h := (if_neg c_19).symm.trans h
              replace h := ob h; obtain ⟨v_20, hv_20, h⟩ := h
              replace h := ob h; obtain ⟨i_21, hi_21, h⟩ := h
              subst hi_21
              replace h := ob h; obtain ⟨v_22, hv_22, h⟩ := h
              replace h := ob h; obtain ⟨v_23, hv_23, h⟩ := h
              replace h := ob h; obtain ⟨v_24, hv_24, h⟩ := h
              by_cases c_25 : v_23 = v_24
              · skip
                replace h := (if_pos c_25).symm.trans h
                have k9 := fn_c_X0_findInSources_b81 t c F (c_X0_findInSources_L4 F lf_4) ih_4 cs1 u0 u1 u2 u3 i_14 cs9 h
                exact hq.trans k9
              · skip
                replace h := (if_neg c_25).symm.trans h
                have k9 := fn_c_X0_findInSources_b85 t c F (c_X0_findInSources_L4 F lf_4) ih_4 cs1 u0 u1 u2 u3 (some i_14) cs9 h
                exact hq.trans k9
theorem fn_c_X0_findInSources (t c : Nat) (F : Nat) (cs : CS) (x0 : Nat) (x1 : Int32) (cs9 : CS) (h : c_X0_findInSources F cs x0 x1 = some cs9) : PFN t c x0 x1 cs cs9 := by
  unfold c_X0_findInSources at h
  have hq : PFN t c x0 x1 cs cs := PFN.refl
  have k9 := fn_c_X0_findInSources_L4 t c F F cs x0 x1 0 0 cs9 h
  exact hq.trans k9
theorem fn_c_X0_findInNames_b101 (t c : Nat) (F : Nat) (cs1 : CS) (u1 : Int32) (y0 : Int32) (y1 : Nat) (cs9 : CS) (h : c_X0_findInNames_b101 F cs1 u1 y0 y1 = some cs9) : PFN t c y1 u1 cs1 cs9 := by
  unfold c_X0_findInNames_b101 at h
  have hq : PFN t c y1 u1 cs1 cs1 := PFN.refl
  replace h := ob h; obtain ⟨w_2, hw_2, h⟩ := h
  replace h := ob h; obtain ⟨cs_1, hv_1, h⟩ := h
  replace hq := hq.trans (fn_c_X0_refuseUnlessOne hv_1)
  have h9 := Option.some.inj h
  exact hq.to h9
theorem fn_c_X0_findInNames_b34 (t c : Nat) (F : Nat) (cs1 : CS) (u0 : Nat) (u1 : Int32) (u2 : Nat) (y0 : Int32) (cs9 : CS) (h : c_X0_findInNames_b34 F cs1 u0 u1 u2 y0 = some cs9) : PFN t c u0 u1 cs1 cs9 := by
  unfold c_X0_findInNames_b34 at h
  have hq : PFN t c u0 u1 cs1 cs1 := PFN.refl
  replace h := ob h; obtain ⟨w_2, hw_2, h⟩ := h
  replace h := ob h; obtain ⟨v_1, hv_1, h⟩ := h
  by_cases c_3 : v_1 = 0
  · skip
    replace h := (if_pos c_3).symm.trans h
    replace h := ob h; obtain ⟨w_5, hw_5, h⟩ := h
    replace h := ob h; obtain ⟨cs_4, hv_4, h⟩ := h
    replace hq := hq.trans (fn_c_X0_refuseUnlessOne hv_4)
    have h9 := Option.some.inj h
    exact hq.to h9
  · skip
    replace h := (if_neg c_3).symm.trans h
    replace h := ob h; obtain ⟨v_6, hv_6, h⟩ := h
    replace h := ob h; obtain ⟨i_7, hi_7, h⟩ := h
    subst hi_7
    replace h := ob h; obtain ⟨v_8, hv_8, h⟩ := h
    replace h := ob h; obtain ⟨cs_9, hv_9, h⟩ := h
    replace hq := hq.trans (PFN.wA (by decide) (by assumption) hv_9)
    replace h := ob h; obtain ⟨v_10, hv_10, h⟩ := h
    replace h := ob h; obtain ⟨i_11, hi_11, h⟩ := h
    subst hi_11
    replace h := ob h; obtain ⟨v_12, hv_12, h⟩ := h
    replace h := ob h; obtain ⟨v_13, hv_13, h⟩ := h
    replace h := ob h; obtain ⟨v_14, hv_14, h⟩ := h
    replace h := ob h; obtain ⟨cs_15, hv_15, h⟩ := h
    replace hq := hq.trans (PFN.wA (by decide) (by assumption) hv_15)
    replace h := ob h; obtain ⟨v_16, hv_16, h⟩ := h
    replace h := ob h; obtain ⟨i_17, hi_17, h⟩ := h
    subst hi_17
    replace h := ob h; obtain ⟨v_18, hv_18, h⟩ := h
    replace h := ob h; obtain ⟨v_19, hv_19, h⟩ := h
    replace h := ob h; obtain ⟨w_21, hw_21, h⟩ := h
    replace h := ob h; obtain ⟨v_20, hv_20, h⟩ := h
    by_cases c_22 : v_20 = (-1)
    · skip
      replace h := (if_pos c_22).symm.trans h
      have k9 := fn_c_X0_findInNames_b101 t c F cs_15 u1 1 u0 cs9 h
      exact hq.trans k9
    · skip
      replace h := (if_neg c_22).symm.trans h
      have k9 := fn_c_X0_findInNames_b101 t c F cs_15 u1 2 u0 cs9 h
      exact hq.trans k9
theorem fn_c_X0_findInNames (t c : Nat) (F : Nat) (cs : CS) (x0 : Nat) (x1 : Int32) (x2 : Nat) (cs9 : CS) (h : c_X0_findInNames F cs x0 x1 x2 = some cs9) : PFN t c x0 x1 cs cs9 := by
  unfold c_X0_findInNames at h
  have hq : PFN t c x0 x1 cs cs := PFN.refl
  replace h := ob h; obtain ⟨v_1, hv_1, h⟩ := h
  replace h := ob h; obtain ⟨i_2, hi_2, h⟩ := h
  subst hi_2
  replace h := ob h; obtain ⟨v_3, hv_3, h⟩ := h
  replace h := ob h; obtain ⟨v_4, hv_4, h⟩ := h
  by_cases c_5 : v_4 = (-1)
  · skip
    replace h := (if_pos c_5).symm.trans h
    replace h := ob h; obtain ⟨v_6, hv_6, h⟩ := h
    replace h := ob h; obtain ⟨i_7, hi_7, h⟩ := h
    subst hi_7
    replace h := ob h; obtain ⟨v_8, hv_8, h⟩ := h
    replace h := ob h; obtain ⟨v_9, hv_9, h⟩ := h
    replace h := ob h; obtain ⟨w_11, hw_11, h⟩ := h
    replace h := ob h; obtain ⟨v_10, hv_10, h⟩ := h
    have k9 := fn_c_X0_findInNames_b34 t c F cs x0 x1 x2 v_10 cs9 h
    exact hq.trans k9
  · skip
    replace h := (if_neg c_5).symm.trans h
    have k9 := fn_c_X0_findInNames_b34 t c F cs x0 x1 x2 (-1) cs9 h
    exact hq.trans k9

/-! what the methods write: pf -/
theorem pf_c_X9_refuse_b17 (F : Nat) (cs1 : CS) (cs9 : CS) (h : c_X9_refuse_b17 F cs1 = some cs9) : WF pF cs1 cs9 := by
  unfold c_X9_refuse_b17 at h
  have hq : WF pF cs1 cs1 := WF.refl
  have h9 := Option.some.inj h
  exact hq.to h9
theorem pf_c_X9_refuse (F : Nat) (cs : CS) (x0 : Nat) (x1 : Int32) (x2 : Int32) (cs9 : CS) (h : c_X9_refuse F cs x0 x1 x2 = some cs9) : WF pF cs cs9 := by
  unfold c_X9_refuse at h
  have hq : WF pF cs cs := WF.refl
  replace h := ob h; obtain ⟨v_1, hv_1, h⟩ := h
  by_cases c_2 : v_1 = 0
  · skip
    replace h := (if_pos c_2).symm.trans h
    replace h := ob h; obtain ⟨cs_3, hv_3, h⟩ := h
    replace hq := hq.trans (WF.pI (by decide) hv_3)
    replace h := ob h; obtain ⟨cs_4, hv_4, h⟩ := h
    replace hq := hq.trans (WF.pI (by decide) hv_4)
    have k9 := pf_c_X9_refuse_b17 F cs_4 cs9 h
    exact hq.trans k9
  · skip
    replace h := (if_neg c_2).symm.trans h
    have k9 := pf_c_X9_refuse_b17 F cs cs9 h
    exact hq.trans k9
theorem pf_c_X2_add (F : Nat) (cs : CS) (x0 : Nat) (x1 : Int32) (x2 : Int64) (x4 : Int32) (x5 : Int32) (cs9 : CS) (h : c_X2_add F cs x0 x1 x2 x4 x5 = some cs9) : WF pF cs cs9 := by
  unfold c_X2_add at h
  have hq : WF pF cs cs := WF.refl
  replace h := ob h; obtain ⟨w_2, hw_2, h⟩ := h
  replace h := ob h; obtain ⟨v_1, hv_1, h⟩ := h
  by_cases c_3 : v_1 = 0
  · skip
    replace h := (if_pos c_3).symm.trans h
    replace h := ob h; obtain ⟨v_4, hv_4, h⟩ := h
    replace h := ob h; obtain ⟨v_5, hv_5, h⟩ := h
    replace h := ob h; obtain ⟨cs_6, hv_6, h⟩ := h
    replace hq := hq.trans (WF.wA (by decide) hv_6)
    replace h := ob h; obtain ⟨v_7, hv_7, h⟩ := h
    replace h := ob h; obtain ⟨v_8, hv_8, h⟩ := h
    replace h := ob h; obtain ⟨cs_9, hv_9, h⟩ := h
    replace hq := hq.trans (WF.wB (by decide) hv_9)
    replace h := ob h; obtain ⟨v_10, hv_10, h⟩ := h
    replace h := ob h; obtain ⟨v_11, hv_11, h⟩ := h
    replace h := ob h; obtain ⟨cs_12, hv_12, h⟩ := h
    replace hq := hq.trans (WF.wA (by decide) hv_12)
    replace h := ob h; obtain ⟨v_13, hv_13, h⟩ := h
    replace h := ob h; obtain ⟨v_14, hv_14, h⟩ := h
    replace h := ob h; obtain ⟨cs_15, hv_15, h⟩ := h
    replace hq := hq.trans (WF.wA (by decide) hv_15)
    replace h := ob h; obtain ⟨v_16, hv_16, h⟩ := h
    replace h := ob h; obtain ⟨cs_17, hv_17, h⟩ := h
    replace hq := hq.trans (WF.pI (by decide) hv_17)
    have h9 := Option.some.inj h
    exact hq.to h9
  · skip
    replace h := (if_neg c_3).symm.trans h
    have h9 := Option.some.inj h
    exact hq.to h9
theorem pf_c_X1_add_b68 (F : Nat) (cs1 : CS) (u0 : Nat) (u4 : Int32) (u5 : Int32) (y0 : Int32) (y1 : Int32) (y2 : Nat) (wy2 : Nat) (cs9 : CS) (r9 : Int32) (h : c_X1_add_b68 F cs1 u0 u4 u5 y0 y1 y2 wy2 = some (cs9, r9)) : WF pF cs1 cs9 := by
  unfold c_X1_add_b68 at h
  have hq : WF pF cs1 cs1 := WF.refl
  replace h := ob h; obtain ⟨cs_1, hv_1, h⟩ := h
  replace hq := hq.trans (WF.wA (by decide) hv_1)
  replace h := ob h; obtain ⟨v_2, hv_2, h⟩ := h
  replace h := ob h; obtain ⟨cs_3, hv_3, h⟩ := h
  replace hq := hq.trans (WF.wA (by decide) hv_3)
  replace h := ob h; obtain ⟨v_4, hv_4, h⟩ := h
  replace h := ob h; obtain ⟨cs_5, hv_5, h⟩ := h
  replace hq := hq.trans (WF.wB (by decide) hv_5)
  replace h := ob h; obtain ⟨v_6, hv_6, h⟩ := h
  replace h := ob h; obtain ⟨cs_7, hv_7, h⟩ := h
  replace hq := hq.trans (WF.wA (by decide) hv_7)
  have h9 := (Prod.mk.inj (Option.some.inj h)).1
  exact hq.to h9
theorem pf_c_X1_add_b66 (F : Nat) (cs1 : CS) (u0 : Nat) (u4 : Int32) (u5 : Int32) (y0 : Int32) (y1 : Nat) (wy1 : Nat) (cs9 : CS) (r9 : Int32) (h : c_X1_add_b66 F cs1 u0 u4 u5 y0 y1 wy1 = some (cs9, r9)) : WF pF cs1 cs9 := by
  unfold c_X1_add_b66 at h
  have hq : WF pF cs1 cs1 := WF.refl
  have k9 := pf_c_X1_add_b68 F cs1 u0 u4 u5 u5 y0 y1 wy1 cs9 r9 h
  exact hq.trans k9
theorem pf_c_X1_add (F : Nat) (cs : CS) (x0 : Nat) (x1 : Int32) (x2 : Int32) (x3 : Int32) (x4 : Int32) (cs9 : CS) (r9 : Int32) (h : c_X1_add F cs x0 x1 x2 x3 x4 = some (cs9, r9)) : WF pF cs cs9 := by
  unfold c_X1_add at h
  have hq : WF pF cs cs := WF.refl
  replace h := ob h; obtain ⟨v_1, hv_1, h⟩ := h
  replace h := ob h; obtain ⟨v_2, hv_2, h⟩ := h
  replace h := ob h; obtain ⟨v_3, hv_3, h⟩ := h
  by_cases c_4 : v_1 < v_3
  · skip
    replace h := (if_pos c_4).symm.trans h
    replace h := ob h; obtain ⟨v_5, hv_5, h⟩ := h
    replace h := ob h; obtain ⟨v_6, hv_6, h⟩ := h
    replace h := ob h; obtain ⟨cs_7, hv_7, h⟩ := h
    replace hq := hq.trans (WF.pI (by decide) hv_7)
    replace h := ob h; obtain ⟨v_8, hv_8, h⟩ := h
    replace h := ob h; obtain ⟨cs_9, hv_9, h⟩ := h
    replace hq := hq.trans (WF.wA (by decide) hv_9)
    replace h := ob h; obtain ⟨v_10, hv_10, h⟩ := h
    replace h := ob h; obtain ⟨cs_11, hv_11, h⟩ := h
    replace hq := hq.trans (WF.wA (by decide) hv_11)
    replace h := ob h; obtain ⟨v_12, hv_12, h⟩ := h
    by_cases c_13 : x2 < 0
    · skip
      replace h := (if_pos c_13).symm.trans h
      have k9 := pf_c_X1_add_b66 F cs_11 x0 x4 v_5 v_5 x0 v_12 cs9 r9 h
      exact hq.trans k9
    · skip
      replace h := (if_neg c_13).symm.trans h
      by_cases c_14 : v_5 < x2
      · skip
        replace h := (if_pos c_14).symm.trans h
        have k9 := pf_c_X1_add_b66 F cs_11 x0 x4 v_5 v_5 x0 v_12 cs9 r9 h
        exact hq.trans k9
      · skip
        replace h := (if_neg c_14).symm.trans h
        have k9 := pf_c_X1_add_b68 F cs_11 x0 x4 v_5 x2 v_5 x0 v_12 cs9 r9 h
        exact hq.trans k9
  · skip
    replace h := (if_neg c_4).symm.trans h
    have h9 := (Prod.mk.inj (Option.some.inj h)).1
    exact hq.to h9
theorem pf_c_X9_accept_b28 (F : Nat) (cs1 : CS) (u2 : Int32) (y0 : Int32) (y1 : Int32) (y2 : Nat) (cs9 : CS) (r9 : Int32) (h : c_X9_accept_b28 F cs1 u2 y0 y1 y2 = some (cs9, r9)) : WF pF cs1 cs9 := by
  unfold c_X9_accept_b28 at h
  have hq : WF pF cs1 cs1 := WF.refl
  replace h := ob h; obtain ⟨cs_1, hv_1, h⟩ := h
  replace hq := hq.trans (WF.pI (by decide) hv_1)
  replace h := ob h; obtain ⟨w_2, hw_2, h⟩ := h
  have h9 := (Prod.mk.inj (Option.some.inj h)).1
  exact hq.to h9
theorem pf_c_X9_accept_b13 (F : Nat) (cs1 : CS) (u0 : Nat) (y0 : Int32) (cs9 : CS) (r9 : Int32) (h : c_X9_accept_b13 F cs1 u0 y0 = some (cs9, r9)) : WF pF cs1 cs9 := by
  unfold c_X9_accept_b13 at h
  have hq : WF pF cs1 cs1 := WF.refl
  replace h := ob h; obtain ⟨v_1, hv_1, h⟩ := h
  by_cases c_2 : y0 = 0
  · skip
    replace h := (if_pos c_2).symm.trans h
    have k9 := pf_c_X9_accept_b28 F cs1 y0 0 v_1 u0 cs9 r9 h
    exact hq.trans k9
  · skip
    replace h := (if_neg c_2).symm.trans h
    have k9 := pf_c_X9_accept_b28 F cs1 y0 1 v_1 u0 cs9 r9 h
    exact hq.trans k9
theorem pf_c_X9_accept (F : Nat) (cs : CS) (x0 : Nat) (x1 : Int32) (cs9 : CS) (r9 : Int32) (h : c_X9_accept F cs x0 x1 = some (cs9, r9)) : WF pF cs cs9 := by
  unfold c_X9_accept at h
  have hq : WF pF cs cs := WF.refl
  replace h := ob h; obtain ⟨w_2, hw_2, h⟩ := h
  replace h := ob h; obtain ⟨v_1, hv_1, h⟩ := h
  by_cases c_3 : v_1 = x1
  · skip
    replace h := (if_pos c_3).symm.trans h
    have k9 := pf_c_X9_accept_b13 F cs x0 1 cs9 r9 h
    exact hq.trans k9
  · skip
    replace h := (if_neg c_3).symm.trans h
    have k9 := pf_c_X9_accept_b13 F cs x0 0 cs9 r9 h
    exact hq.trans k9
theorem pf_c_X9_expect_b30 (F : Nat) (cs1 : CS) (cs9 : CS) (h : c_X9_expect_b30 F cs1 = some cs9) : WF pF cs1 cs9 := by
  unfold c_X9_expect_b30 at h
  have hq : WF pF cs1 cs1 := WF.refl
  have h9 := Option.some.inj h
  exact hq.to h9
theorem pf_c_X9_expect (F : Nat) (cs : CS) (x0 : Nat) (x1 : Int32) (cs9 : CS) (h : c_X9_expect F cs x0 x1 = some cs9) : WF pF cs cs9 := by
  unfold c_X9_expect at h
  have hq : WF pF cs cs := WF.refl
  replace h := ob h; obtain ⟨w_2, hw_2, h⟩ := h
  replace h := ob h; obtain ⟨v_1, hv_1, h⟩ := h
  by_cases c_3 : v_1 = x1
  · skip
    replace h := (if_pos c_3).symm.trans h
    replace h := ob h; obtain ⟨v_4, hv_4, h⟩ := h
    replace h := ob h; obtain ⟨cs_5, hv_5, h⟩ := h
    replace hq := hq.trans (WF.pI (by decide) hv_5)
    have k9 := pf_c_X9_expect_b30 F cs_5 cs9 h
    exact hq.trans k9
  · skip
    replace h := (if_neg c_3).symm.trans h
    replace h := ob h; obtain ⟨w_7, hw_7, h⟩ := h
    replace h := ob h; obtain ⟨v_6, hv_6, h⟩ := h
    replace h := ob h; obtain ⟨w_9, hw_9, h⟩ := h
    replace h := ob h; obtain ⟨cs_8, hv_8, h⟩ := h
    replace hq := hq.trans (pf_c_X9_refuse F cs x0 1 v_6 cs_8 hv_8)
    have k9 := pf_c_X9_expect_b30 F cs_8 cs9 h
    exact hq.trans k9
theorem pf_c_X9_refuseNinth_b30 (F : Nat) (cs1 : CS) (cs9 : CS) (h : c_X9_refuseNinth_b30 F cs1 = some cs9) : WF pF cs1 cs9 := by
  unfold c_X9_refuseNinth_b30 at h
  have hq : WF pF cs1 cs1 := WF.refl
  have h9 := Option.some.inj h
  exact hq.to h9
theorem pf_c_X9_refuseNinth_b23 (F : Nat) (cs1 : CS) (u0 : Nat) (y0 : Int32) (y1 : Nat) (cs9 : CS) (h : c_X9_refuseNinth_b23 F cs1 u0 y0 y1 = some cs9) : WF pF cs1 cs9 := by
  unfold c_X9_refuseNinth_b23 at h
  have hq : WF pF cs1 cs1 := WF.refl
  replace h := ob h; obtain ⟨w_2, hw_2, h⟩ := h
  replace h := ob h; obtain ⟨v_1, hv_1, h⟩ := h
  replace h := ob h; obtain ⟨w_4, hw_4, h⟩ := h
  replace h := ob h; obtain ⟨cs_3, hv_3, h⟩ := h
  replace hq := hq.trans (pf_c_X9_refuse F cs1 y1 y0 v_1 cs_3 hv_3)
  have k9 := pf_c_X9_refuseNinth_b30 F cs_3 cs9 h
  exact hq.trans k9
theorem pf_c_X9_refuseNinth (F : Nat) (cs : CS) (x0 : Nat) (x1 : Int32) (x2 : Int32) (cs9 : CS) (h : c_X9_refuseNinth F cs x0 x1 x2 = some cs9) : WF pF cs cs9 := by
  unfold c_X9_refuseNinth at h
  have hq : WF pF cs cs := WF.refl
  by_cases c_1 : x1 = 0
  · skip
    replace h := (if_pos c_1).symm.trans h
    have k9 := pf_c_X9_refuseNinth_b30 F cs cs9 h
    exact hq.trans k9
  · skip
    replace h := (if_neg c_1).symm.trans h
    replace h := ob h; obtain ⟨w_3, hw_3, h⟩ := h
    replace h := ob h; obtain ⟨v_2, hv_2, h⟩ := h
    replace h := ob h; obtain ⟨w_5, hw_5, h⟩ := h
    replace h := ob h; obtain ⟨v_4, hv_4, h⟩ := h
    by_cases c_6 : v_4 = 0
    · skip
      replace h := (if_pos c_6).symm.trans h
      have k9 := pf_c_X9_refuseNinth_b23 F cs x0 1 x0 cs9 h
      exact hq.trans k9
    · skip
      replace h := (if_neg c_6).symm.trans h
      have k9 := pf_c_X9_refuseNinth_b23 F cs x0 7 x0 cs9 h
      exact hq.trans k9
theorem pf_c_X9_complete_b50 (F : Nat) (cs1 : CS) (y0 : Int32) (cs9 : CS) (r9 : Int32) (h : c_X9_complete_b50 F cs1 y0 = some (cs9, r9)) : WF pF cs1 cs9 := by
  unfold c_X9_complete_b50 at h
  have hq : WF pF cs1 cs1 := WF.refl
  have h9 := (Prod.mk.inj (Option.some.inj h)).1
  exact hq.to h9
theorem pf_c_X9_complete_b27 (F : Nat) (cs1 : CS) (u0 : Nat) (u1 : Int32) (u2 : Int32) (u3 : Int32) (u5 : Int32) (cs9 : CS) (r9 : Int32) (h : c_X9_complete_b27 F cs1 u0 u1 u2 u3 u5 = some (cs9, r9)) : WF pF cs1 cs9 := by
  unfold c_X9_complete_b27 at h
  have hq : WF pF cs1 cs1 := WF.refl
  replace h := ob h; obtain ⟨v_1, hv_1, h⟩ := h
  by_cases c_2 : v_1 = 0
  · skip
    replace h := (if_pos c_2).symm.trans h
    replace h := ob h; obtain ⟨v_3, hv_3, h⟩ := h
    replace h := ob h; obtain ⟨i_5, hi_5, h⟩ := h
    subst hi_5
    replace h := ob h; obtain ⟨w_6, hw_6, h⟩ := h
    replace h := ob h; obtain ⟨z_4, hv_4, h⟩ := h
    replace hq := hq.trans (pf_c_X1_add F cs1 i_5 u1 u2 u3 u5 z_4.1 z_4.2 hv_4)
    have k9 := pf_c_X9_complete_b50 F z_4.1 z_4.2 cs9 r9 h
    exact hq.trans k9
  · skip
    replace h := (if_neg c_2).symm.trans h
    have k9 := pf_c_X9_complete_b50 F cs1 (-1) cs9 r9 h
    exact hq.trans k9
theorem pf_c_X9_complete (F : Nat) (cs : CS) (x0 : Nat) (x1 : Int32) (x2 : Int32) (x3 : Int32) (x4 : Int32) (x5 : Int32) (cs9 : CS) (r9 : Int32) (h : c_X9_complete F cs x0 x1 x2 x3 x4 x5 = some (cs9, r9)) : WF pF cs cs9 := by
  unfold c_X9_complete at h
  have hq : WF pF cs cs := WF.refl
  replace h := ob h; obtain ⟨v_1, hv_1, h⟩ := h
  by_cases c_2 : v_1 = 0
  · skip
    replace h := (if_pos c_2).symm.trans h
    replace h := ob h; obtain ⟨v_3, hv_3, h⟩ := h
    replace h := ob h; obtain ⟨i_4, hi_4, h⟩ := h
    subst hi_4
    replace h := ob h; obtain ⟨v_5, hv_5, h⟩ := h
    by_cases c_6 : v_5 < 120
    · skip
      replace h := (if_pos c_6).symm.trans h
      have k9 := pf_c_X9_complete_b27 F cs x0 x1 x2 x3 x5 cs9 r9 h
      exact hq.trans k9
    · skip
      replace h := (if_neg c_6).symm.trans h
      replace h := ob h; obtain ⟨w_8, hw_8, h⟩ := h
      replace h := ob h; obtain ⟨cs_7, hv_7, h⟩ := h
      replace hq := hq.trans (pf_c_X9_refuse F cs x0 7 x4 cs_7 hv_7)
      have k9 := pf_c_X9_complete_b27 F cs_7 x0 x1 x2 x3 x5 cs9 r9 h
      exact hq.trans k9
  · skip
    replace h := (if_neg c_2).symm.trans h
    have k9 := pf_c_X9_complete_b27 F cs x0 x1 x2 x3 x5 cs9 r9 h
    exact hq.trans k9
theorem pf_c_X9_readLiteral_b65 (F : Nat) (cs1 : CS) (cs9 : CS) (h : c_X9_readLiteral_b65 F cs1 = some cs9) : WF pF cs1 cs9 := by
  unfold c_X9_readLiteral_b65 at h
  have hq : WF pF cs1 cs1 := WF.refl
  have h9 := Option.some.inj h
  exact hq.to h9
theorem pf_c_X9_readLiteral (F : Nat) (cs : CS) (x0 : Nat) (cs9 : CS) (h : c_X9_readLiteral F cs x0 = some cs9) : WF pF cs cs9 := by
  unfold c_X9_readLiteral at h
  have hq : WF pF cs cs := WF.refl
  replace h := ob h; obtain ⟨w_2, hw_2, h⟩ := h
  replace h := ob h; obtain ⟨v_1, hv_1, h⟩ := h
  replace h := ob h; obtain ⟨w_4, hw_4, h⟩ := h
  replace h := ob h; obtain ⟨v_3, hv_3, h⟩ := h
  replace h := ob h; obtain ⟨w_6, hw_6, h⟩ := h
  replace h := ob h; obtain ⟨v_5, hv_5, h⟩ := h
  replace h := ob h; obtain ⟨v_7, hv_7, h⟩ := h
  replace h := ob h; obtain ⟨cs_8, hv_8, h⟩ := h
  replace hq := hq.trans (WF.pI (by decide) hv_8)
  replace h := ob h; obtain ⟨v_9, hv_9, h⟩ := h
  replace h := ob h; obtain ⟨i_10, hi_10, h⟩ := h
  subst hi_10
  replace h := ob h; obtain ⟨v_11, hv_11, h⟩ := h
  replace h := ob h; obtain ⟨w_13, hw_13, h⟩ := h
  replace h := ob h; obtain ⟨z_12, hv_12, h⟩ := h
  replace hq := hq.trans (pf_c_X9_complete F cs_8 x0 v_1 v_11 v_3 v_3 0 z_12.1 z_12.2 hv_12)
  replace h := ob h; obtain ⟨v_14, hv_14, h⟩ := h
  replace h := ob h; obtain ⟨i_16, hi_16, h⟩ := h
  subst hi_16
  replace h := ob h; obtain ⟨w_17, hw_17, h⟩ := h
  replace h := ob h; obtain ⟨v_15, hv_15, h⟩ := h
  by_cases c_18 : v_15 = 0
  · skip
    replace h := (if_pos c_18).symm.trans h
    have k9 := pf_c_X9_readLiteral_b65 F z_12.1 cs9 h
    exact hq.trans k9
  · skip
    replace h := (if_neg c_18).symm.trans h
    replace h := ob h; obtain ⟨v_19, hv_19, h⟩ := h
    replace h := ob h; obtain ⟨i_20, hi_20, h⟩ := h
    subst hi_20
    replace h := ob h; obtain ⟨v_21, hv_21, h⟩ := h
    replace h := ob h; obtain ⟨cs_22, hv_22, h⟩ := h
    replace hq := hq.trans (WF.wB (by decide) hv_22)
    have k9 := pf_c_X9_readLiteral_b65 F cs_22 cs9 h
    exact hq.trans k9
theorem pf_c_X9_readColumn_b150 (F : Nat) (cs1 : CS) (cs9 : CS) (h : c_X9_readColumn_b150 F cs1 = some cs9) : WF pF cs1 cs9 := by
  unfold c_X9_readColumn_b150 at h
  have hq : WF pF cs1 cs1 := WF.refl
  have h9 := Option.some.inj h
  exact hq.to h9
theorem pf_c_X9_readColumn_b97 (F : Nat) (cs1 : CS) (u0 : Nat) (u1 : Int32) (u3 : Int64) (u5 : Int64) (cs9 : CS) (h : c_X9_readColumn_b97 F cs1 u0 u1 u3 u5 = some cs9) : WF pF cs1 cs9 := by
  unfold c_X9_readColumn_b97 at h
  have hq : WF pF cs1 cs1 := WF.refl
  replace h := ob h; obtain ⟨v_1, hv_1, h⟩ := h
  replace h := ob h; obtain ⟨i_2, hi_2, h⟩ := h
  subst hi_2
  replace h := ob h; obtain ⟨v_3, hv_3, h⟩ := h
  replace h := ob h; obtain ⟨w_5, hw_5, h⟩ := h
  replace h := ob h; obtain ⟨z_4, hv_4, h⟩ := h
  replace hq := hq.trans (pf_c_X9_complete F cs1 u0 39 v_3 u1 u1 0 z_4.1 z_4.2 hv_4)
  replace h := ob h; obtain ⟨v_6, hv_6, h⟩ := h
  replace h := ob h; obtain ⟨i_8, hi_8, h⟩ := h
  subst hi_8
  replace h := ob h; obtain ⟨w_9, hw_9, h⟩ := h
  replace h := ob h; obtain ⟨v_7, hv_7, h⟩ := h
  by_cases c_10 : v_7 = 0
  · skip
    replace h := (if_pos c_10).symm.trans h
    have k9 := pf_c_X9_readColumn_b150 F z_4.1 cs9 h
    exact hq.trans k9
  · skip
    replace h := (if_neg c_10).symm.trans h
    replace h := ob h; obtain ⟨v_11, hv_11, h⟩ := h
    replace h := ob h; obtain ⟨i_12, hi_12, h⟩ := h
    subst hi_12
    replace h := ob h; obtain ⟨v_13, hv_13, h⟩ := h
    replace h := ob h; obtain ⟨cs_14, hv_14, h⟩ := h
    replace hq := hq.trans (WF.wB (by decide) hv_14)
    replace h := ob h; obtain ⟨v_15, hv_15, h⟩ := h
    replace h := ob h; obtain ⟨i_16, hi_16, h⟩ := h
    subst hi_16
    replace h := ob h; obtain ⟨v_17, hv_17, h⟩ := h
    replace h := ob h; obtain ⟨cs_18, hv_18, h⟩ := h
    replace hq := hq.trans (WF.wB (by decide) hv_18)
    have k9 := pf_c_X9_readColumn_b150 F cs_18 cs9 h
    exact hq.trans k9
theorem pf_c_X9_readColumn_b81 (F : Nat) (cs1 : CS) (u0 : Nat) (u1 : Int32) (u5 : Int64) (y0 : Int64) (cs9 : CS) (h : c_X9_readColumn_b81 F cs1 u0 u1 u5 y0 = some cs9) : WF pF cs1 cs9 := by
  unfold c_X9_readColumn_b81 at h
  have hq : WF pF cs1 cs1 := WF.refl
  replace h := ob h; obtain ⟨w_2, hw_2, h⟩ := h
  replace h := ob h; obtain ⟨z_1, hv_1, h⟩ := h
  replace hq := hq.trans (pf_c_X9_accept F cs1 u0 38 z_1.1 z_1.2 hv_1)
  by_cases c_3 : z_1.2 = 0
  · skip
    replace h := (if_pos c_3).symm.trans h
    replace h := ob h; obtain ⟨w_5, hw_5, h⟩ := h
    replace h := ob h; obtain ⟨cs_4, hv_4, h⟩ := h
    replace hq := hq.trans (pf_c_X9_expect F z_1.1 u0 39 cs_4 hv_4)
    have k9 := pf_c_X9_readColumn_b97 F cs_4 u0 u1 y0 u5 cs9 h
    exact hq.trans k9
  · skip
    replace h := (if_neg c_3).symm.trans h
    have k9 := pf_c_X9_readColumn_b97 F z_1.1 u0 u1 y0 u5 cs9 h
    exact hq.trans k9
theorem pf_c_X9_readColumn_b32 (F : Nat) (cs1 : CS) (u0 : Nat) (u1 : Int32) (u2 : Int32) (y0 : Int64) (cs9 : CS) (h : c_X9_readColumn_b32 F cs1 u0 u1 u2 y0 = some cs9) : WF pF cs1 cs9 := by
  unfold c_X9_readColumn_b32 at h
  have hq : WF pF cs1 cs1 := WF.refl
  replace h := ob h; obtain ⟨v_1, hv_1, h⟩ := h
  replace h := ob h; obtain ⟨cs_2, hv_2, h⟩ := h
  replace hq := hq.trans (WF.pI (by decide) hv_2)
  by_cases c_3 : u2 = 0
  · skip
    replace h := (if_pos c_3).symm.trans h
    replace h := ob h; obtain ⟨w_5, hw_5, h⟩ := h
    replace h := ob h; obtain ⟨z_4, hv_4, h⟩ := h
    replace hq := hq.trans (pf_c_X9_accept F cs_2 u0 44 z_4.1 z_4.2 hv_4)
    by_cases c_6 : z_4.2 = 0
    · skip
      replace h := (if_pos c_6).symm.trans h
      have k9 := pf_c_X9_readColumn_b97 F z_4.1 u0 u1 y0 (-1) cs9 h
      exact hq.trans k9
    · skip
      replace h := (if_neg c_6).symm.trans h
      replace h := ob h; obtain ⟨w_8, hw_8, h⟩ := h
      replace h := ob h; obtain ⟨v_7, hv_7, h⟩ := h
      by_cases c_9 : v_7 = 38
      · skip
        replace h := (if_pos c_9).symm.trans h
        have k9 := pf_c_X9_readColumn_b81 F z_4.1 u0 u1 y0 0 cs9 h
        exact hq.trans k9
      · skip
        replace h := (if_neg c_9).symm.trans h
        replace h := ob h; obtain ⟨w_11, hw_11, h⟩ := h
        replace h := ob h; obtain ⟨v_10, hv_10, h⟩ := h
        have k9 := pf_c_X9_readColumn_b81 F z_4.1 u0 u1 y0 v_10 cs9 h
        exact hq.trans k9
  · skip
    replace h := (if_neg c_3).symm.trans h
    have k9 := pf_c_X9_readColumn_b97 F cs_2 u0 u1 y0 (-1) cs9 h
    exact hq.trans k9
theorem pf_c_X9_readColumn_b19 (F : Nat) (cs1 : CS) (u0 : Nat) (u1 : Int32) (y0 : Int32) (cs9 : CS) (h : c_X9_readColumn_b19 F cs1 u0 u1 y0 = some cs9) : WF pF cs1 cs9 := by
  unfold c_X9_readColumn_b19 at h
  have hq : WF pF cs1 cs1 := WF.refl
  by_cases c_1 : y0 = 0
  · skip
    replace h := (if_pos c_1).symm.trans h
    replace h := ob h; obtain ⟨w_3, hw_3, h⟩ := h
    replace h := ob h; obtain ⟨v_2, hv_2, h⟩ := h
    have k9 := pf_c_X9_readColumn_b32 F cs1 u0 u1 y0 v_2 cs9 h
    exact hq.trans k9
  · skip
    replace h := (if_neg c_1).symm.trans h
    have k9 := pf_c_X9_readColumn_b32 F cs1 u0 u1 y0 0 cs9 h
    exact hq.trans k9
theorem pf_c_X9_readColumn (F : Nat) (cs : CS) (x0 : Nat) (cs9 : CS) (h : c_X9_readColumn F cs x0 = some cs9) : WF pF cs cs9 := by
  unfold c_X9_readColumn at h
  have hq : WF pF cs cs := WF.refl
  replace h := ob h; obtain ⟨w_2, hw_2, h⟩ := h
  replace h := ob h; obtain ⟨v_1, hv_1, h⟩ := h
  replace h := ob h; obtain ⟨w_4, hw_4, h⟩ := h
  replace h := ob h; obtain ⟨v_3, hv_3, h⟩ := h
  by_cases c_5 : v_3 = 38
  · skip
    replace h := (if_pos c_5).symm.trans h
    have k9 := pf_c_X9_readColumn_b19 F cs x0 v_1 1 cs9 h
    exact hq.trans k9
  · skip
    replace h := (if_neg c_5).symm.trans h
    have k9 := pf_c_X9_readColumn_b19 F cs x0 v_1 0 cs9 h
    exact hq.trans k9
theorem pf_c_X9_deepen_b19 (F : Nat) (cs1 : CS) (u0 : Nat) (cs9 : CS) (h : c_X9_deepen_b19 F cs1 u0 = some cs9) : WF pF cs1 cs9 := by
  unfold c_X9_deepen_b19 at h
  have hq : WF pF cs1 cs1 := WF.refl
  replace h := ob h; obtain ⟨v_1, hv_1, h⟩ := h
  replace h := ob h; obtain ⟨cs_2, hv_2, h⟩ := h
  replace hq := hq.trans (WF.pI (by decide) hv_2)
  have h9 := Option.some.inj h
  exact hq.to h9
theorem pf_c_X9_deepen (F : Nat) (cs : CS) (x0 : Nat) (cs9 : CS) (h : c_X9_deepen F cs x0 = some cs9) : WF pF cs cs9 := by
  unfold c_X9_deepen at h
  have hq : WF pF cs cs := WF.refl
  replace h := ob h; obtain ⟨v_1, hv_1, h⟩ := h
  by_cases c_2 : v_1 < 12
  · skip
    replace h := (if_pos c_2).symm.trans h
    have k9 := pf_c_X9_deepen_b19 F cs x0 cs9 h
    exact hq.trans k9
  · skip
    replace h := (if_neg c_2).symm.trans h
    replace h := ob h; obtain ⟨w_4, hw_4, h⟩ := h
    replace h := ob h; obtain ⟨v_3, hv_3, h⟩ := h
    replace h := ob h; obtain ⟨w_6, hw_6, h⟩ := h
    replace h := ob h; obtain ⟨cs_5, hv_5, h⟩ := h
    replace hq := hq.trans (pf_c_X9_refuse F cs x0 7 v_3 cs_5 hv_5)
    have k9 := pf_c_X9_deepen_b19 F cs_5 x0 cs9 h
    exact hq.trans k9
theorem pf_c_X9_noteAggregate_b23 (F : Nat) (cs1 : CS) (cs9 : CS) (h : c_X9_noteAggregate_b23 F cs1 = some cs9) : WF pF cs1 cs9 := by
  unfold c_X9_noteAggregate_b23 at h
  have hq : WF pF cs1 cs1 := WF.refl
  have h9 := Option.some.inj h
  exact hq.to h9
theorem pf_c_X9_noteAggregate_b70 (F : Nat) (cs1 : CS) (cs9 : CS) (h : c_X9_noteAggregate_b70 F cs1 = some cs9) : WF pF cs1 cs9 := by
  unfold c_X9_noteAggregate_b70 at h
  have hq : WF pF cs1 cs1 := WF.refl
  have h9 := Option.some.inj h
  exact hq.to h9
theorem pf_c_X9_noteAggregate (F : Nat) (cs : CS) (x0 : Nat) (x1 : Nat) (x2 : Int32) (x3 : Int32) (cs9 : CS) (h : c_X9_noteAggregate F cs x0 x1 x2 x3 = some cs9) : WF pF cs cs9 := by
  unfold c_X9_noteAggregate at h
  have hq : WF pF cs cs := WF.refl
  replace h := ob h; obtain ⟨v_1, hv_1, h⟩ := h
  replace h := ob h; obtain ⟨i_3, hi_3, h⟩ := h
  subst hi_3
  replace h := ob h; obtain ⟨w_4, hw_4, h⟩ := h
  replace h := ob h; obtain ⟨v_2, hv_2, h⟩ := h
  by_cases c_5 : v_2 = 0
  · skip
    replace h := (if_pos c_5).symm.trans h
    have k9 := pf_c_X9_noteAggregate_b23 F cs cs9 h
    exact hq.trans k9
  · skip
    replace h := (if_neg c_5).symm.trans h
    replace h := ob h; obtain ⟨v_6, hv_6, h⟩ := h
    replace h := ob h; obtain ⟨v_7, hv_7, h⟩ := h
    replace h := ob h; obtain ⟨v_8, hv_8, h⟩ := h
    by_cases c_9 : v_6 < v_8
    · skip
      replace h := (if_pos c_9).symm.trans h
      replace h := ob h; obtain ⟨v_10, hv_10, h⟩ := h
      replace h := ob h; obtain ⟨v_11, hv_11, h⟩ := h
      replace h := ob h; obtain ⟨cs_12, hv_12, h⟩ := h
      replace hq := hq.trans (WF.wA (by decide) hv_12)
      replace h := ob h; obtain ⟨v_13, hv_13, h⟩ := h
      replace h := ob h; obtain ⟨cs_14, hv_14, h⟩ := h
      replace hq := hq.trans (WF.pI (by decide) hv_14)
      replace h := ob h; obtain ⟨v_15, hv_15, h⟩ := h
      replace h := ob h; obtain ⟨i_17, hi_17, h⟩ := h
      subst hi_17
      replace h := ob h; obtain ⟨w_18, hw_18, h⟩ := h
      replace h := ob h; obtain ⟨v_16, hv_16, h⟩ := h
      by_cases c_19 : v_16 = 0
      · skip
        replace h := (if_pos c_19).symm.trans h
        have k9 := pf_c_X9_noteAggregate_b70 F cs_14 cs9 h
        exact hq.trans k9
      · skip
        replace h := (if_neg c_19).symm.trans h
        by_cases c_20 : x2 ≤ x3
        · skip
          replace h := (if_pos c_20).symm.trans h
          have k9 := pf_c_X9_noteAggregate_b70 F cs_14 cs9 h
          exact hq.trans k9
        · skip
          replace h := (if_neg c_20).symm.trans h
          replace h := ob h; obtain ⟨v_21, hv_21, h⟩ := h
          replace h := ob h; obtain ⟨i_22, hi_22, h⟩ := h
          subst hi_22
          replace h := ob h; obtain ⟨v_23, hv_23, h⟩ := h
          replace h := ob h; obtain ⟨cs_24, hv_24, h⟩ := h
          replace hq := hq.trans (WF.wA (by decide) hv_24)
          have k9 := pf_c_X9_noteAggregate_b70 F cs_24 cs9 h
          exact hq.trans k9
    · skip
      replace h := (if_neg c_9).symm.trans h
      have k9 := pf_c_X9_noteAggregate_b23 F cs cs9 h
      exact hq.trans k9
theorem pf_c_X9_readExpr_b73 (F : Nat) (T : TC_X9_readExpr) (hM_X9_readExpr : ∀ (cs : CS) (x0 : Nat) (cs9 : CS) (r9 : Int32), T.1 cs x0 = some (cs9, r9) → WF pF cs cs9) (hM_X9_readConjunction : ∀ (cs : CS) (x0 : Nat) (cs9 : CS), T.2.1 cs x0 = some cs9 → WF pF cs cs9) (hM_X9_readNegation : ∀ (cs : CS) (x0 : Nat) (cs9 : CS), T.2.2.1 cs x0 = some cs9 → WF pF cs cs9) (hM_X9_readTest : ∀ (cs : CS) (x0 : Nat) (cs9 : CS), T.2.2.2.1 cs x0 = some cs9 → WF pF cs cs9) (hM_X9_readSum : ∀ (cs : CS) (x0 : Nat) (cs9 : CS), T.2.2.2.2.1 cs x0 = some cs9 → WF pF cs cs9) (hM_X9_readPart : ∀ (cs : CS) (x0 : Nat) (cs9 : CS), T.2.2.2.2.2.1 cs x0 = some cs9 → WF pF cs cs9) (hM_X9_readSign : ∀ (cs : CS) (x0 : Nat) (cs9 : CS), T.2.2.2.2.2.2.1 cs x0 = some cs9 → WF pF cs cs9) (hM_X9_readOne : ∀ (cs : CS) (x0 : Nat) (cs9 : CS), T.2.2.2.2.2.2.2.1 cs x0 = some cs9 → WF pF cs cs9) (hM_X9_readCase : ∀ (cs : CS) (x0 : Nat) (cs9 : CS), T.2.2.2.2.2.2.2.2.1 cs x0 = some cs9 → WF pF cs cs9) (hM_X9_readSpan : ∀ (cs : CS) (x0 : Nat) (cs9 : CS), T.2.2.2.2.2.2.2.2.2.1 cs x0 = some cs9 → WF pF cs cs9) (hM_X9_readAggregate : ∀ (cs : CS) (x0 : Nat) (cs9 : CS), T.2.2.2.2.2.2.2.2.2.2.1 cs x0 = some cs9 → WF pF cs cs9) (hM_X9_readList : ∀ (cs : CS) (x0 : Nat) (x1 : Int32) (x2 : Int32) (x3 : Int32) (x4 : Int32) (cs9 : CS), T.2.2.2.2.2.2.2.2.2.2.2 cs x0 x1 x2 x3 x4 = some cs9 → WF pF cs cs9) (cs1 : CS) (u0 : Nat) (cs9 : CS) (r9 : Int32) (h : c_X9_readExpr_b73 F T cs1 u0 = some (cs9, r9)) : WF pF cs1 cs9 := by
  unfold c_X9_readExpr_b73 at h
  have hq : WF pF cs1 cs1 := WF.refl
  replace h := ob h; obtain ⟨v_1, hv_1, h⟩ := h
  replace h := ob h; obtain ⟨i_2, hi_2, h⟩ := h
  subst hi_2
  replace h := ob h; obtain ⟨v_3, hv_3, h⟩ := h
  have h9 := (Prod.mk.inj (Option.some.inj h)).1
  exact hq.to h9
theorem pf_c_X9_readExpr_L19 (F : Nat) (T : TC_X9_readExpr) (hM_X9_readExpr : ∀ (cs : CS) (x0 : Nat) (cs9 : CS) (r9 : Int32), T.1 cs x0 = some (cs9, r9) → WF pF cs cs9) (hM_X9_readConjunction : ∀ (cs : CS) (x0 : Nat) (cs9 : CS), T.2.1 cs x0 = some cs9 → WF pF cs cs9) (hM_X9_readNegation : ∀ (cs : CS) (x0 : Nat) (cs9 : CS), T.2.2.1 cs x0 = some cs9 → WF pF cs cs9) (hM_X9_readTest : ∀ (cs : CS) (x0 : Nat) (cs9 : CS), T.2.2.2.1 cs x0 = some cs9 → WF pF cs cs9) (hM_X9_readSum : ∀ (cs : CS) (x0 : Nat) (cs9 : CS), T.2.2.2.2.1 cs x0 = some cs9 → WF pF cs cs9) (hM_X9_readPart : ∀ (cs : CS) (x0 : Nat) (cs9 : CS), T.2.2.2.2.2.1 cs x0 = some cs9 → WF pF cs cs9) (hM_X9_readSign : ∀ (cs : CS) (x0 : Nat) (cs9 : CS), T.2.2.2.2.2.2.1 cs x0 = some cs9 → WF pF cs cs9) (hM_X9_readOne : ∀ (cs : CS) (x0 : Nat) (cs9 : CS), T.2.2.2.2.2.2.2.1 cs x0 = some cs9 → WF pF cs cs9) (hM_X9_readCase : ∀ (cs : CS) (x0 : Nat) (cs9 : CS), T.2.2.2.2.2.2.2.2.1 cs x0 = some cs9 → WF pF cs cs9) (hM_X9_readSpan : ∀ (cs : CS) (x0 : Nat) (cs9 : CS), T.2.2.2.2.2.2.2.2.2.1 cs x0 = some cs9 → WF pF cs cs9) (hM_X9_readAggregate : ∀ (cs : CS) (x0 : Nat) (cs9 : CS), T.2.2.2.2.2.2.2.2.2.2.1 cs x0 = some cs9 → WF pF cs cs9) (hM_X9_readList : ∀ (cs : CS) (x0 : Nat) (x1 : Int32) (x2 : Int32) (x3 : Int32) (x4 : Int32) (cs9 : CS), T.2.2.2.2.2.2.2.2.2.2.2 cs x0 x1 x2 x3 x4 = some cs9 → WF pF cs cs9) : ∀ (lf_19 : Nat) (cs1 : CS) (u0 : Nat) (u1 : Int32) (u2 : Int32) (u3 : Int32) (cs9 : CS) (r9 : Int32), c_X9_readExpr_L19 F T lf_19 cs1 u0 u1 u2 u3 = some (cs9, r9) → WF pF cs1 cs9 := by
  intro lf_19
  induction lf_19 with
  | zero => intro cs1 u0 u1 u2 u3 cs9 r9 h; cases (show (none : Option (CS × Int32)) = _ from h)
  | succ lf_19 ih_19 =>
    intro cs1 u0 u1 u2 u3 cs9 r9 h
    rw [c_X9_readExpr_L19] at h
    have hq : WF pF cs1 cs1 := WF.refl
    by_cases c_1 : 2000 ≤ u3
    · skip
      replace h := (if_pos c_1).symm.trans h
      have k9 := pf_c_X9_readExpr_b73 F T hM_X9_readExpr hM_X9_readConjunction hM_X9_readNegation hM_X9_readTest hM_X9_readSum hM_X9_readPart hM_X9_readSign hM_X9_readOne hM_X9_readCase hM_X9_readSpan hM_X9_readAggregate hM_X9_readList cs1 u0 cs9 r9 h
      exact hq.trans k9
    · skip
      replace h := (if_neg c_1).symm.trans h
      replace h := ob h; obtain ⟨w_3, hw_3, h⟩ := h
      replace h := ob h; obtain ⟨v_2, hv_2, h⟩ := h
      by_cases c_4 : v_2 = 29
      · skip
        replace h := (if_pos c_4).symm.trans h
        replace h := ob h; obtain ⟨w_6, hw_6, h⟩ := h
        replace h := ob h; obtain ⟨v_5, hv_5, h⟩ := h
        replace h := ob h; obtain ⟨v_7, hv_7, h⟩ := h
        replace h := ob h; obtain ⟨cs_8, hv_8, h⟩ := h
        replace hq := hq.trans (WF.pI (by decide) hv_8)
        replace h := ob h; obtain ⟨w_10, hw_10, h⟩ := h
        replace h := ob h; obtain ⟨cs_9, hv_9, h⟩ := h
        replace hq := hq.trans (hM_X9_readConjunction cs_8 u0 cs_9 hv_9)
        replace h := ob h; obtain ⟨w_12, hw_12, h⟩ := h
        replace h := ob h; obtain ⟨z_11, hv_11, h⟩ := h
        replace hq := hq.trans (pf_c_X9_complete F cs_9 u0 29 u1 u2 v_5 2 z_11.1 z_11.2 hv_11)
        have k9 := ih_19 z_11.1 u0 u1 u2 (u3 + 1) cs9 r9 h
        exact hq.trans k9
      · skip
        replace h := (if_neg c_4).symm.trans h
        have k9 := pf_c_X9_readExpr_b73 F T hM_X9_readExpr hM_X9_readConjunction hM_X9_readNegation hM_X9_readTest hM_X9_readSum hM_X9_readPart hM_X9_readSign hM_X9_readOne hM_X9_readCase hM_X9_readSpan hM_X9_readAggregate hM_X9_readList cs1 u0 cs9 r9 h
        exact hq.trans k9
theorem pf_cb_X9_readExpr (F : Nat) (T : TC_X9_readExpr) (hM_X9_readExpr : ∀ (cs : CS) (x0 : Nat) (cs9 : CS) (r9 : Int32), T.1 cs x0 = some (cs9, r9) → WF pF cs cs9) (hM_X9_readConjunction : ∀ (cs : CS) (x0 : Nat) (cs9 : CS), T.2.1 cs x0 = some cs9 → WF pF cs cs9) (hM_X9_readNegation : ∀ (cs : CS) (x0 : Nat) (cs9 : CS), T.2.2.1 cs x0 = some cs9 → WF pF cs cs9) (hM_X9_readTest : ∀ (cs : CS) (x0 : Nat) (cs9 : CS), T.2.2.2.1 cs x0 = some cs9 → WF pF cs cs9) (hM_X9_readSum : ∀ (cs : CS) (x0 : Nat) (cs9 : CS), T.2.2.2.2.1 cs x0 = some cs9 → WF pF cs cs9) (hM_X9_readPart : ∀ (cs : CS) (x0 : Nat) (cs9 : CS), T.2.2.2.2.2.1 cs x0 = some cs9 → WF pF cs cs9) (hM_X9_readSign : ∀ (cs : CS) (x0 : Nat) (cs9 : CS), T.2.2.2.2.2.2.1 cs x0 = some cs9 → WF pF cs cs9) (hM_X9_readOne : ∀ (cs : CS) (x0 : Nat) (cs9 : CS), T.2.2.2.2.2.2.2.1 cs x0 = some cs9 → WF pF cs cs9) (hM_X9_readCase : ∀ (cs : CS) (x0 : Nat) (cs9 : CS), T.2.2.2.2.2.2.2.2.1 cs x0 = some cs9 → WF pF cs cs9) (hM_X9_readSpan : ∀ (cs : CS) (x0 : Nat) (cs9 : CS), T.2.2.2.2.2.2.2.2.2.1 cs x0 = some cs9 → WF pF cs cs9) (hM_X9_readAggregate : ∀ (cs : CS) (x0 : Nat) (cs9 : CS), T.2.2.2.2.2.2.2.2.2.2.1 cs x0 = some cs9 → WF pF cs cs9) (hM_X9_readList : ∀ (cs : CS) (x0 : Nat) (x1 : Int32) (x2 : Int32) (x3 : Int32) (x4 : Int32) (cs9 : CS), T.2.2.2.2.2.2.2.2.2.2.2 cs x0 x1 x2 x3 x4 = some cs9 → WF pF cs cs9) (cs : CS) (x0 : Nat) (cs9 : CS) (r9 : Int32) (h : cb_X9_readExpr F T cs x0 = some (cs9, r9)) : WF pF cs cs9 := by
  unfold cb_X9_readExpr at h
  have hq : WF pF cs cs := WF.refl
  replace h := ob h; obtain ⟨v_1, hv_1, h⟩ := h
  replace h := ob h; obtain ⟨i_2, hi_2, h⟩ := h
  subst hi_2
  replace h := ob h; obtain ⟨v_3, hv_3, h⟩ := h
  replace h := ob h; obtain ⟨w_5, hw_5, h⟩ := h
  replace h := ob h; obtain ⟨v_4, hv_4, h⟩ := h
  replace h := ob h; obtain ⟨w_7, hw_7, h⟩ := h
  replace h := ob h; obtain ⟨cs_6, hv_6, h⟩ := h
  replace hq := hq.trans (hM_X9_readConjunction cs x0 cs_6 hv_6)
  have k9 := pf_c_X9_readExpr_L19 F T hM_X9_readExpr hM_X9_readConjunction hM_X9_readNegation hM_X9_readTest hM_X9_readSum hM_X9_readPart hM_X9_readSign hM_X9_readOne hM_X9_readCase hM_X9_readSpan hM_X9_readAggregate hM_X9_readList F cs_6 x0 v_3 v_4 0 cs9 r9 h
  exact hq.trans k9
theorem pf_c_X9_readConjunction_b73 (F : Nat) (T : TC_X9_readExpr) (hM_X9_readExpr : ∀ (cs : CS) (x0 : Nat) (cs9 : CS) (r9 : Int32), T.1 cs x0 = some (cs9, r9) → WF pF cs cs9) (hM_X9_readConjunction : ∀ (cs : CS) (x0 : Nat) (cs9 : CS), T.2.1 cs x0 = some cs9 → WF pF cs cs9) (hM_X9_readNegation : ∀ (cs : CS) (x0 : Nat) (cs9 : CS), T.2.2.1 cs x0 = some cs9 → WF pF cs cs9) (hM_X9_readTest : ∀ (cs : CS) (x0 : Nat) (cs9 : CS), T.2.2.2.1 cs x0 = some cs9 → WF pF cs cs9) (hM_X9_readSum : ∀ (cs : CS) (x0 : Nat) (cs9 : CS), T.2.2.2.2.1 cs x0 = some cs9 → WF pF cs cs9) (hM_X9_readPart : ∀ (cs : CS) (x0 : Nat) (cs9 : CS), T.2.2.2.2.2.1 cs x0 = some cs9 → WF pF cs cs9) (hM_X9_readSign : ∀ (cs : CS) (x0 : Nat) (cs9 : CS), T.2.2.2.2.2.2.1 cs x0 = some cs9 → WF pF cs cs9) (hM_X9_readOne : ∀ (cs : CS) (x0 : Nat) (cs9 : CS), T.2.2.2.2.2.2.2.1 cs x0 = some cs9 → WF pF cs cs9) (hM_X9_readCase : ∀ (cs : CS) (x0 : Nat) (cs9 : CS), T.2.2.2.2.2.2.2.2.1 cs x0 = some cs9 → WF pF cs cs9) (hM_X9_readSpan : ∀ (cs : CS) (x0 : Nat) (cs9 : CS), T.2.2.2.2.2.2.2.2.2.1 cs x0 = some cs9 → WF pF cs cs9) (hM_X9_readAggregate : ∀ (cs : CS) (x0 : Nat) (cs9 : CS), T.2.2.2.2.2.2.2.2.2.2.1 cs x0 = some cs9 → WF pF cs cs9) (hM_X9_readList : ∀ (cs : CS) (x0 : Nat) (x1 : Int32) (x2 : Int32) (x3 : Int32) (x4 : Int32) (cs9 : CS), T.2.2.2.2.2.2.2.2.2.2.2 cs x0 x1 x2 x3 x4 = some cs9 → WF pF cs cs9) (cs1 : CS) (cs9 : CS) (h : c_X9_readConjunction_b73 F T cs1 = some cs9) : WF pF cs1 cs9 := by
  unfold c_X9_readConjunction_b73 at h
  have hq : WF pF cs1 cs1 := WF.refl
  have h9 := Option.some.inj h
  exact hq.to h9
theorem pf_c_X9_readConjunction_L19 (F : Nat) (T : TC_X9_readExpr) (hM_X9_readExpr : ∀ (cs : CS) (x0 : Nat) (cs9 : CS) (r9 : Int32), T.1 cs x0 = some (cs9, r9) → WF pF cs cs9) (hM_X9_readConjunction : ∀ (cs : CS) (x0 : Nat) (cs9 : CS), T.2.1 cs x0 = some cs9 → WF pF cs cs9) (hM_X9_readNegation : ∀ (cs : CS) (x0 : Nat) (cs9 : CS), T.2.2.1 cs x0 = some cs9 → WF pF cs cs9) (hM_X9_readTest : ∀ (cs : CS) (x0 : Nat) (cs9 : CS), T.2.2.2.1 cs x0 = some cs9 → WF pF cs cs9) (hM_X9_readSum : ∀ (cs : CS) (x0 : Nat) (cs9 : CS), T.2.2.2.2.1 cs x0 = some cs9 → WF pF cs cs9) (hM_X9_readPart : ∀ (cs : CS) (x0 : Nat) (cs9 : CS), T.2.2.2.2.2.1 cs x0 = some cs9 → WF pF cs cs9) (hM_X9_readSign : ∀ (cs : CS) (x0 : Nat) (cs9 : CS), T.2.2.2.2.2.2.1 cs x0 = some cs9 → WF pF cs cs9) (hM_X9_readOne : ∀ (cs : CS) (x0 : Nat) (cs9 : CS), T.2.2.2.2.2.2.2.1 cs x0 = some cs9 → WF pF cs cs9) (hM_X9_readCase : ∀ (cs : CS) (x0 : Nat) (cs9 : CS), T.2.2.2.2.2.2.2.2.1 cs x0 = some cs9 → WF pF cs cs9) (hM_X9_readSpan : ∀ (cs : CS) (x0 : Nat) (cs9 : CS), T.2.2.2.2.2.2.2.2.2.1 cs x0 = some cs9 → WF pF cs cs9) (hM_X9_readAggregate : ∀ (cs : CS) (x0 : Nat) (cs9 : CS), T.2.2.2.2.2.2.2.2.2.2.1 cs x0 = some cs9 → WF pF cs cs9) (hM_X9_readList : ∀ (cs : CS) (x0 : Nat) (x1 : Int32) (x2 : Int32) (x3 : Int32) (x4 : Int32) (cs9 : CS), T.2.2.2.2.2.2.2.2.2.2.2 cs x0 x1 x2 x3 x4 = some cs9 → WF pF cs cs9) : ∀ (lf_19 : Nat) (cs1 : CS) (u0 : Nat) (u1 : Int32) (u2 : Int32) (u3 : Int32) (cs9 : CS), c_X9_readConjunction_L19 F T lf_19 cs1 u0 u1 u2 u3 = some cs9 → WF pF cs1 cs9 := by
  intro lf_19
  induction lf_19 with
  | zero => intro cs1 u0 u1 u2 u3 cs9 h; cases (show (none : Option CS) = _ from h)
  | succ lf_19 ih_19 =>
    intro cs1 u0 u1 u2 u3 cs9 h
    rw [c_X9_readConjunction_L19] at h
    have hq : WF pF cs1 cs1 := WF.refl
    by_cases c_1 : 2000 ≤ u3
    · skip
      replace h := (if_pos c_1).symm.trans h
      have k9 := pf_c_X9_readConjunction_b73 F T hM_X9_readExpr hM_X9_readConjunction hM_X9_readNegation hM_X9_readTest hM_X9_readSum hM_X9_readPart hM_X9_readSign hM_X9_readOne hM_X9_readCase hM_X9_readSpan hM_X9_readAggregate hM_X9_readList cs1 cs9 h
      exact hq.trans k9
    · skip
      replace h := (if_neg c_1).symm.trans h
      replace h := ob h; obtain ⟨w_3, hw_3, h⟩ := h
      replace h := ob h; obtain ⟨v_2, hv_2, h⟩ := h
      by_cases c_4 : v_2 = 28
      · skip
        replace h := (if_pos c_4).symm.trans h
        replace h := ob h; obtain ⟨w_6, hw_6, h⟩ := h
        replace h := ob h; obtain ⟨v_5, hv_5, h⟩ := h
        replace h := ob h; obtain ⟨v_7, hv_7, h⟩ := h
        replace h := ob h; obtain ⟨cs_8, hv_8, h⟩ := h
        replace hq := hq.trans (WF.pI (by decide) hv_8)
        replace h := ob h; obtain ⟨w_10, hw_10, h⟩ := h
        replace h := ob h; obtain ⟨cs_9, hv_9, h⟩ := h
        replace hq := hq.trans (hM_X9_readNegation cs_8 u0 cs_9 hv_9)
        replace h := ob h; obtain ⟨w_12, hw_12, h⟩ := h
        replace h := ob h; obtain ⟨z_11, hv_11, h⟩ := h
        replace hq := hq.trans (pf_c_X9_complete F cs_9 u0 28 u1 u2 v_5 2 z_11.1 z_11.2 hv_11)
        have k9 := ih_19 z_11.1 u0 u1 u2 (u3 + 1) cs9 h
        exact hq.trans k9
      · skip
        replace h := (if_neg c_4).symm.trans h
        have k9 := pf_c_X9_readConjunction_b73 F T hM_X9_readExpr hM_X9_readConjunction hM_X9_readNegation hM_X9_readTest hM_X9_readSum hM_X9_readPart hM_X9_readSign hM_X9_readOne hM_X9_readCase hM_X9_readSpan hM_X9_readAggregate hM_X9_readList cs1 cs9 h
        exact hq.trans k9
theorem pf_cb_X9_readConjunction (F : Nat) (T : TC_X9_readExpr) (hM_X9_readExpr : ∀ (cs : CS) (x0 : Nat) (cs9 : CS) (r9 : Int32), T.1 cs x0 = some (cs9, r9) → WF pF cs cs9) (hM_X9_readConjunction : ∀ (cs : CS) (x0 : Nat) (cs9 : CS), T.2.1 cs x0 = some cs9 → WF pF cs cs9) (hM_X9_readNegation : ∀ (cs : CS) (x0 : Nat) (cs9 : CS), T.2.2.1 cs x0 = some cs9 → WF pF cs cs9) (hM_X9_readTest : ∀ (cs : CS) (x0 : Nat) (cs9 : CS), T.2.2.2.1 cs x0 = some cs9 → WF pF cs cs9) (hM_X9_readSum : ∀ (cs : CS) (x0 : Nat) (cs9 : CS), T.2.2.2.2.1 cs x0 = some cs9 → WF pF cs cs9) (hM_X9_readPart : ∀ (cs : CS) (x0 : Nat) (cs9 : CS), T.2.2.2.2.2.1 cs x0 = some cs9 → WF pF cs cs9) (hM_X9_readSign : ∀ (cs : CS) (x0 : Nat) (cs9 : CS), T.2.2.2.2.2.2.1 cs x0 = some cs9 → WF pF cs cs9) (hM_X9_readOne : ∀ (cs : CS) (x0 : Nat) (cs9 : CS), T.2.2.2.2.2.2.2.1 cs x0 = some cs9 → WF pF cs cs9) (hM_X9_readCase : ∀ (cs : CS) (x0 : Nat) (cs9 : CS), T.2.2.2.2.2.2.2.2.1 cs x0 = some cs9 → WF pF cs cs9) (hM_X9_readSpan : ∀ (cs : CS) (x0 : Nat) (cs9 : CS), T.2.2.2.2.2.2.2.2.2.1 cs x0 = some cs9 → WF pF cs cs9) (hM_X9_readAggregate : ∀ (cs : CS) (x0 : Nat) (cs9 : CS), T.2.2.2.2.2.2.2.2.2.2.1 cs x0 = some cs9 → WF pF cs cs9) (hM_X9_readList : ∀ (cs : CS) (x0 : Nat) (x1 : Int32) (x2 : Int32) (x3 : Int32) (x4 : Int32) (cs9 : CS), T.2.2.2.2.2.2.2.2.2.2.2 cs x0 x1 x2 x3 x4 = some cs9 → WF pF cs cs9) (cs : CS) (x0 : Nat) (cs9 : CS) (h : cb_X9_readConjunction F T cs x0 = some cs9) : WF pF cs cs9 := by
  unfold cb_X9_readConjunction at h
  have hq : WF pF cs cs := WF.refl
  replace h := ob h; obtain ⟨v_1, hv_1, h⟩ := h
  replace h := ob h; obtain ⟨i_2, hi_2, h⟩ := h
  subst hi_2
  replace h := ob h; obtain ⟨v_3, hv_3, h⟩ := h
  replace h := ob h; obtain ⟨w_5, hw_5, h⟩ := h
  replace h := ob h; obtain ⟨v_4, hv_4, h⟩ := h
  replace h := ob h; obtain ⟨w_7, hw_7, h⟩ := h
  replace h := ob h; obtain ⟨cs_6, hv_6, h⟩ := h
  replace hq := hq.trans (hM_X9_readNegation cs x0 cs_6 hv_6)
  have k9 := pf_c_X9_readConjunction_L19 F T hM_X9_readExpr hM_X9_readConjunction hM_X9_readNegation hM_X9_readTest hM_X9_readSum hM_X9_readPart hM_X9_readSign hM_X9_readOne hM_X9_readCase hM_X9_readSpan hM_X9_readAggregate hM_X9_readList F cs_6 x0 v_3 v_4 0 cs9 h
  exact hq.trans k9
theorem pf_c_X9_readNegation_b49 (F : Nat) (T : TC_X9_readExpr) (hM_X9_readExpr : ∀ (cs : CS) (x0 : Nat) (cs9 : CS) (r9 : Int32), T.1 cs x0 = some (cs9, r9) → WF pF cs cs9) (hM_X9_readConjunction : ∀ (cs : CS) (x0 : Nat) (cs9 : CS), T.2.1 cs x0 = some cs9 → WF pF cs cs9) (hM_X9_readNegation : ∀ (cs : CS) (x0 : Nat) (cs9 : CS), T.2.2.1 cs x0 = some cs9 → WF pF cs cs9) (hM_X9_readTest : ∀ (cs : CS) (x0 : Nat) (cs9 : CS), T.2.2.2.1 cs x0 = some cs9 → WF pF cs cs9) (hM_X9_readSum : ∀ (cs : CS) (x0 : Nat) (cs9 : CS), T.2.2.2.2.1 cs x0 = some cs9 → WF pF cs cs9) (hM_X9_readPart : ∀ (cs : CS) (x0 : Nat) (cs9 : CS), T.2.2.2.2.2.1 cs x0 = some cs9 → WF pF cs cs9) (hM_X9_readSign : ∀ (cs : CS) (x0 : Nat) (cs9 : CS), T.2.2.2.2.2.2.1 cs x0 = some cs9 → WF pF cs cs9) (hM_X9_readOne : ∀ (cs : CS) (x0 : Nat) (cs9 : CS), T.2.2.2.2.2.2.2.1 cs x0 = some cs9 → WF pF cs cs9) (hM_X9_readCase : ∀ (cs : CS) (x0 : Nat) (cs9 : CS), T.2.2.2.2.2.2.2.2.1 cs x0 = some cs9 → WF pF cs cs9) (hM_X9_readSpan : ∀ (cs : CS) (x0 : Nat) (cs9 : CS), T.2.2.2.2.2.2.2.2.2.1 cs x0 = some cs9 → WF pF cs cs9) (hM_X9_readAggregate : ∀ (cs : CS) (x0 : Nat) (cs9 : CS), T.2.2.2.2.2.2.2.2.2.2.1 cs x0 = some cs9 → WF pF cs cs9) (hM_X9_readList : ∀ (cs : CS) (x0 : Nat) (x1 : Int32) (x2 : Int32) (x3 : Int32) (x4 : Int32) (cs9 : CS), T.2.2.2.2.2.2.2.2.2.2.2 cs x0 x1 x2 x3 x4 = some cs9 → WF pF cs cs9) (cs1 : CS) (u0 : Nat) (u1 : Int32) (u2 : Int32) (cs9 : CS) (h : c_X9_readNegation_b49 F T cs1 u0 u1 u2 = some cs9) : WF pF cs1 cs9 := by
  unfold c_X9_readNegation_b49 at h
  have hq : WF pF cs1 cs1 := WF.refl
  replace h := ob h; obtain ⟨v_1, hv_1, h⟩ := h
  replace h := ob h; obtain ⟨cs_2, hv_2, h⟩ := h
  replace hq := hq.trans (WF.pI (by decide) hv_2)
  replace h := ob h; obtain ⟨w_4, hw_4, h⟩ := h
  replace h := ob h; obtain ⟨z_3, hv_3, h⟩ := h
  replace hq := hq.trans (pf_c_X9_complete F cs_2 u0 25 u1 u2 u2 1 z_3.1 z_3.2 hv_3)
  have h9 := Option.some.inj h
  exact hq.to h9
theorem pf_cb_X9_readNegation (F : Nat) (T : TC_X9_readExpr) (hM_X9_readExpr : ∀ (cs : CS) (x0 : Nat) (cs9 : CS) (r9 : Int32), T.1 cs x0 = some (cs9, r9) → WF pF cs cs9) (hM_X9_readConjunction : ∀ (cs : CS) (x0 : Nat) (cs9 : CS), T.2.1 cs x0 = some cs9 → WF pF cs cs9) (hM_X9_readNegation : ∀ (cs : CS) (x0 : Nat) (cs9 : CS), T.2.2.1 cs x0 = some cs9 → WF pF cs cs9) (hM_X9_readTest : ∀ (cs : CS) (x0 : Nat) (cs9 : CS), T.2.2.2.1 cs x0 = some cs9 → WF pF cs cs9) (hM_X9_readSum : ∀ (cs : CS) (x0 : Nat) (cs9 : CS), T.2.2.2.2.1 cs x0 = some cs9 → WF pF cs cs9) (hM_X9_readPart : ∀ (cs : CS) (x0 : Nat) (cs9 : CS), T.2.2.2.2.2.1 cs x0 = some cs9 → WF pF cs cs9) (hM_X9_readSign : ∀ (cs : CS) (x0 : Nat) (cs9 : CS), T.2.2.2.2.2.2.1 cs x0 = some cs9 → WF pF cs cs9) (hM_X9_readOne : ∀ (cs : CS) (x0 : Nat) (cs9 : CS), T.2.2.2.2.2.2.2.1 cs x0 = some cs9 → WF pF cs cs9) (hM_X9_readCase : ∀ (cs : CS) (x0 : Nat) (cs9 : CS), T.2.2.2.2.2.2.2.2.1 cs x0 = some cs9 → WF pF cs cs9) (hM_X9_readSpan : ∀ (cs : CS) (x0 : Nat) (cs9 : CS), T.2.2.2.2.2.2.2.2.2.1 cs x0 = some cs9 → WF pF cs cs9) (hM_X9_readAggregate : ∀ (cs : CS) (x0 : Nat) (cs9 : CS), T.2.2.2.2.2.2.2.2.2.2.1 cs x0 = some cs9 → WF pF cs cs9) (hM_X9_readList : ∀ (cs : CS) (x0 : Nat) (x1 : Int32) (x2 : Int32) (x3 : Int32) (x4 : Int32) (cs9 : CS), T.2.2.2.2.2.2.2.2.2.2.2 cs x0 x1 x2 x3 x4 = some cs9 → WF pF cs cs9) (cs : CS) (x0 : Nat) (cs9 : CS) (h : cb_X9_readNegation F T cs x0 = some cs9) : WF pF cs cs9 := by
  unfold cb_X9_readNegation at h
  have hq : WF pF cs cs := WF.refl
  replace h := ob h; obtain ⟨w_2, hw_2, h⟩ := h
  replace h := ob h; obtain ⟨v_1, hv_1, h⟩ := h
  by_cases c_3 : v_1 = 25
  · skip
    replace h := (if_pos c_3).symm.trans h
    replace h := ob h; obtain ⟨v_4, hv_4, h⟩ := h
    replace h := ob h; obtain ⟨i_5, hi_5, h⟩ := h
    subst hi_5
    replace h := ob h; obtain ⟨v_6, hv_6, h⟩ := h
    replace h := ob h; obtain ⟨w_8, hw_8, h⟩ := h
    replace h := ob h; obtain ⟨v_7, hv_7, h⟩ := h
    replace h := ob h; obtain ⟨w_10, hw_10, h⟩ := h
    replace h := ob h; obtain ⟨cs_9, hv_9, h⟩ := h
    replace hq := hq.trans (pf_c_X9_deepen F cs x0 cs_9 hv_9)
    replace h := ob h; obtain ⟨w_12, hw_12, h⟩ := h
    replace h := ob h; obtain ⟨z_11, hv_11, h⟩ := h
    replace hq := hq.trans (pf_c_X9_accept F cs_9 x0 25 z_11.1 z_11.2 hv_11)
    replace h := ob h; obtain ⟨v_13, hv_13, h⟩ := h
    by_cases c_14 : v_13 = 0
    · skip
      replace h := (if_pos c_14).symm.trans h
      replace h := ob h; obtain ⟨w_16, hw_16, h⟩ := h
      replace h := ob h; obtain ⟨cs_15, hv_15, h⟩ := h
      replace hq := hq.trans (hM_X9_readNegation z_11.1 x0 cs_15 hv_15)
      have k9 := pf_c_X9_readNegation_b49 F T hM_X9_readExpr hM_X9_readConjunction hM_X9_readNegation hM_X9_readTest hM_X9_readSum hM_X9_readPart hM_X9_readSign hM_X9_readOne hM_X9_readCase hM_X9_readSpan hM_X9_readAggregate hM_X9_readList cs_15 x0 v_6 v_7 cs9 h
      exact hq.trans k9
    · skip
      replace h := (if_neg c_14).symm.trans h
      have k9 := pf_c_X9_readNegation_b49 F T hM_X9_readExpr hM_X9_readConjunction hM_X9_readNegation hM_X9_readTest hM_X9_readSum hM_X9_readPart hM_X9_readSign hM_X9_readOne hM_X9_readCase hM_X9_readSpan hM_X9_readAggregate hM_X9_readList z_11.1 x0 v_6 v_7 cs9 h
      exact hq.trans k9
  · skip
    replace h := (if_neg c_3).symm.trans h
    replace h := ob h; obtain ⟨w_18, hw_18, h⟩ := h
    replace h := ob h; obtain ⟨cs_17, hv_17, h⟩ := h
    replace hq := hq.trans (hM_X9_readTest cs x0 cs_17 hv_17)
    have h9 := Option.some.inj h
    exact hq.to h9
theorem pf_c_X9_readTest_b282 (F : Nat) (T : TC_X9_readExpr) (hM_X9_readExpr : ∀ (cs : CS) (x0 : Nat) (cs9 : CS) (r9 : Int32), T.1 cs x0 = some (cs9, r9) → WF pF cs cs9) (hM_X9_readConjunction : ∀ (cs : CS) (x0 : Nat) (cs9 : CS), T.2.1 cs x0 = some cs9 → WF pF cs cs9) (hM_X9_readNegation : ∀ (cs : CS) (x0 : Nat) (cs9 : CS), T.2.2.1 cs x0 = some cs9 → WF pF cs cs9) (hM_X9_readTest : ∀ (cs : CS) (x0 : Nat) (cs9 : CS), T.2.2.2.1 cs x0 = some cs9 → WF pF cs cs9) (hM_X9_readSum : ∀ (cs : CS) (x0 : Nat) (cs9 : CS), T.2.2.2.2.1 cs x0 = some cs9 → WF pF cs cs9) (hM_X9_readPart : ∀ (cs : CS) (x0 : Nat) (cs9 : CS), T.2.2.2.2.2.1 cs x0 = some cs9 → WF pF cs cs9) (hM_X9_readSign : ∀ (cs : CS) (x0 : Nat) (cs9 : CS), T.2.2.2.2.2.2.1 cs x0 = some cs9 → WF pF cs cs9) (hM_X9_readOne : ∀ (cs : CS) (x0 : Nat) (cs9 : CS), T.2.2.2.2.2.2.2.1 cs x0 = some cs9 → WF pF cs cs9) (hM_X9_readCase : ∀ (cs : CS) (x0 : Nat) (cs9 : CS), T.2.2.2.2.2.2.2.2.1 cs x0 = some cs9 → WF pF cs cs9) (hM_X9_readSpan : ∀ (cs : CS) (x0 : Nat) (cs9 : CS), T.2.2.2.2.2.2.2.2.2.1 cs x0 = some cs9 → WF pF cs cs9) (hM_X9_readAggregate : ∀ (cs : CS) (x0 : Nat) (cs9 : CS), T.2.2.2.2.2.2.2.2.2.2.1 cs x0 = some cs9 → WF pF cs cs9) (hM_X9_readList : ∀ (cs : CS) (x0 : Nat) (x1 : Int32) (x2 : Int32) (x3 : Int32) (x4 : Int32) (cs9 : CS), T.2.2.2.2.2.2.2.2.2.2.2 cs x0 x1 x2 x3 x4 = some cs9 → WF pF cs cs9) (cs1 : CS) (cs9 : CS) (h : c_X9_readTest_b282 F T cs1 = some cs9) : WF pF cs1 cs9 := by
  unfold c_X9_readTest_b282 at h
  have hq : WF pF cs1 cs1 := WF.refl
  have h9 := Option.some.inj h
  exact hq.to h9
theorem pf_c_X9_readTest_b172 (F : Nat) (T : TC_X9_readExpr) (hM_X9_readExpr : ∀ (cs : CS) (x0 : Nat) (cs9 : CS) (r9 : Int32), T.1 cs x0 = some (cs9, r9) → WF pF cs cs9) (hM_X9_readConjunction : ∀ (cs : CS) (x0 : Nat) (cs9 : CS), T.2.1 cs x0 = some cs9 → WF pF cs cs9) (hM_X9_readNegation : ∀ (cs : CS) (x0 : Nat) (cs9 : CS), T.2.2.1 cs x0 = some cs9 → WF pF cs cs9) (hM_X9_readTest : ∀ (cs : CS) (x0 : Nat) (cs9 : CS), T.2.2.2.1 cs x0 = some cs9 → WF pF cs cs9) (hM_X9_readSum : ∀ (cs : CS) (x0 : Nat) (cs9 : CS), T.2.2.2.2.1 cs x0 = some cs9 → WF pF cs cs9) (hM_X9_readPart : ∀ (cs : CS) (x0 : Nat) (cs9 : CS), T.2.2.2.2.2.1 cs x0 = some cs9 → WF pF cs cs9) (hM_X9_readSign : ∀ (cs : CS) (x0 : Nat) (cs9 : CS), T.2.2.2.2.2.2.1 cs x0 = some cs9 → WF pF cs cs9) (hM_X9_readOne : ∀ (cs : CS) (x0 : Nat) (cs9 : CS), T.2.2.2.2.2.2.2.1 cs x0 = some cs9 → WF pF cs cs9) (hM_X9_readCase : ∀ (cs : CS) (x0 : Nat) (cs9 : CS), T.2.2.2.2.2.2.2.2.1 cs x0 = some cs9 → WF pF cs cs9) (hM_X9_readSpan : ∀ (cs : CS) (x0 : Nat) (cs9 : CS), T.2.2.2.2.2.2.2.2.2.1 cs x0 = some cs9 → WF pF cs cs9) (hM_X9_readAggregate : ∀ (cs : CS) (x0 : Nat) (cs9 : CS), T.2.2.2.2.2.2.2.2.2.2.1 cs x0 = some cs9 → WF pF cs cs9) (hM_X9_readList : ∀ (cs : CS) (x0 : Nat) (x1 : Int32) (x2 : Int32) (x3 : Int32) (x4 : Int32) (cs9 : CS), T.2.2.2.2.2.2.2.2.2.2.2 cs x0 x1 x2 x3 x4 = some cs9 → WF pF cs cs9) (cs1 : CS) (u0 : Nat) (u1 : Int32) (u2 : Int32) (u3 : Int32) (u4 : Int32) (cs9 : CS) (h : c_X9_readTest_b172 F T cs1 u0 u1 u2 u3 u4 = some cs9) : WF pF cs1 cs9 := by
  unfold c_X9_readTest_b172 at h
  have hq : WF pF cs1 cs1 := WF.refl
  replace h := ob h; obtain ⟨v_1, hv_1, h⟩ := h
  replace h := ob h; obtain ⟨cs_2, hv_2, h⟩ := h
  replace hq := hq.trans (WF.pI (by decide) hv_2)
  replace h := ob h; obtain ⟨w_4, hw_4, h⟩ := h
  replace h := ob h; obtain ⟨cs_3, hv_3, h⟩ := h
  replace hq := hq.trans (hM_X9_readSum cs_2 u0 cs_3 hv_3)
  replace h := ob h; obtain ⟨w_6, hw_6, h⟩ := h
  replace h := ob h; obtain ⟨z_5, hv_5, h⟩ := h
  replace hq := hq.trans (pf_c_X9_complete F cs_3 u0 u4 u1 u2 u3 2 z_5.1 z_5.2 hv_5)
  have k9 := pf_c_X9_readTest_b282 F T hM_X9_readExpr hM_X9_readConjunction hM_X9_readNegation hM_X9_readTest hM_X9_readSum hM_X9_readPart hM_X9_readSign hM_X9_readOne hM_X9_readCase hM_X9_readSpan hM_X9_readAggregate hM_X9_readList z_5.1 cs9 h
  exact hq.trans k9
theorem pf_c_X9_readTest_b226 (F : Nat) (T : TC_X9_readExpr) (hM_X9_readExpr : ∀ (cs : CS) (x0 : Nat) (cs9 : CS) (r9 : Int32), T.1 cs x0 = some (cs9, r9) → WF pF cs cs9) (hM_X9_readConjunction : ∀ (cs : CS) (x0 : Nat) (cs9 : CS), T.2.1 cs x0 = some cs9 → WF pF cs cs9) (hM_X9_readNegation : ∀ (cs : CS) (x0 : Nat) (cs9 : CS), T.2.2.1 cs x0 = some cs9 → WF pF cs cs9) (hM_X9_readTest : ∀ (cs : CS) (x0 : Nat) (cs9 : CS), T.2.2.2.1 cs x0 = some cs9 → WF pF cs cs9) (hM_X9_readSum : ∀ (cs : CS) (x0 : Nat) (cs9 : CS), T.2.2.2.2.1 cs x0 = some cs9 → WF pF cs cs9) (hM_X9_readPart : ∀ (cs : CS) (x0 : Nat) (cs9 : CS), T.2.2.2.2.2.1 cs x0 = some cs9 → WF pF cs cs9) (hM_X9_readSign : ∀ (cs : CS) (x0 : Nat) (cs9 : CS), T.2.2.2.2.2.2.1 cs x0 = some cs9 → WF pF cs cs9) (hM_X9_readOne : ∀ (cs : CS) (x0 : Nat) (cs9 : CS), T.2.2.2.2.2.2.2.1 cs x0 = some cs9 → WF pF cs cs9) (hM_X9_readCase : ∀ (cs : CS) (x0 : Nat) (cs9 : CS), T.2.2.2.2.2.2.2.2.1 cs x0 = some cs9 → WF pF cs cs9) (hM_X9_readSpan : ∀ (cs : CS) (x0 : Nat) (cs9 : CS), T.2.2.2.2.2.2.2.2.2.1 cs x0 = some cs9 → WF pF cs cs9) (hM_X9_readAggregate : ∀ (cs : CS) (x0 : Nat) (cs9 : CS), T.2.2.2.2.2.2.2.2.2.2.1 cs x0 = some cs9 → WF pF cs cs9) (hM_X9_readList : ∀ (cs : CS) (x0 : Nat) (x1 : Int32) (x2 : Int32) (x3 : Int32) (x4 : Int32) (cs9 : CS), T.2.2.2.2.2.2.2.2.2.2.2 cs x0 x1 x2 x3 x4 = some cs9 → WF pF cs cs9) (cs1 : CS) (u0 : Nat) (u1 : Int32) (u2 : Int32) (u3 : Int32) (y0 : Int32) (cs9 : CS) (h : c_X9_readTest_b226 F T cs1 u0 u1 u2 u3 y0 = some cs9) : WF pF cs1 cs9 := by
  unfold c_X9_readTest_b226 at h
  have hq : WF pF cs1 cs1 := WF.refl
  replace h := ob h; obtain ⟨w_2, hw_2, h⟩ := h
  replace h := ob h; obtain ⟨cs_1, hv_1, h⟩ := h
  replace hq := hq.trans (pf_c_X9_expect F cs1 u0 26 cs_1 hv_1)
  replace h := ob h; obtain ⟨w_4, hw_4, h⟩ := h
  replace h := ob h; obtain ⟨z_3, hv_3, h⟩ := h
  replace hq := hq.trans (pf_c_X9_complete F cs_1 u0 y0 u1 u2 u3 1 z_3.1 z_3.2 hv_3)
  have k9 := pf_c_X9_readTest_b282 F T hM_X9_readExpr hM_X9_readConjunction hM_X9_readNegation hM_X9_readTest hM_X9_readSum hM_X9_readPart hM_X9_readSign hM_X9_readOne hM_X9_readCase hM_X9_readSpan hM_X9_readAggregate hM_X9_readList z_3.1 cs9 h
  exact hq.trans k9
theorem pf_cb_X9_readTest (F : Nat) (T : TC_X9_readExpr) (hM_X9_readExpr : ∀ (cs : CS) (x0 : Nat) (cs9 : CS) (r9 : Int32), T.1 cs x0 = some (cs9, r9) → WF pF cs cs9) (hM_X9_readConjunction : ∀ (cs : CS) (x0 : Nat) (cs9 : CS), T.2.1 cs x0 = some cs9 → WF pF cs cs9) (hM_X9_readNegation : ∀ (cs : CS) (x0 : Nat) (cs9 : CS), T.2.2.1 cs x0 = some cs9 → WF pF cs cs9) (hM_X9_readTest : ∀ (cs : CS) (x0 : Nat) (cs9 : CS), T.2.2.2.1 cs x0 = some cs9 → WF pF cs cs9) (hM_X9_readSum : ∀ (cs : CS) (x0 : Nat) (cs9 : CS), T.2.2.2.2.1 cs x0 = some cs9 → WF pF cs cs9) (hM_X9_readPart : ∀ (cs : CS) (x0 : Nat) (cs9 : CS), T.2.2.2.2.2.1 cs x0 = some cs9 → WF pF cs cs9) (hM_X9_readSign : ∀ (cs : CS) (x0 : Nat) (cs9 : CS), T.2.2.2.2.2.2.1 cs x0 = some cs9 → WF pF cs cs9) (hM_X9_readOne : ∀ (cs : CS) (x0 : Nat) (cs9 : CS), T.2.2.2.2.2.2.2.1 cs x0 = some cs9 → WF pF cs cs9) (hM_X9_readCase : ∀ (cs : CS) (x0 : Nat) (cs9 : CS), T.2.2.2.2.2.2.2.2.1 cs x0 = some cs9 → WF pF cs cs9) (hM_X9_readSpan : ∀ (cs : CS) (x0 : Nat) (cs9 : CS), T.2.2.2.2.2.2.2.2.2.1 cs x0 = some cs9 → WF pF cs cs9) (hM_X9_readAggregate : ∀ (cs : CS) (x0 : Nat) (cs9 : CS), T.2.2.2.2.2.2.2.2.2.2.1 cs x0 = some cs9 → WF pF cs cs9) (hM_X9_readList : ∀ (cs : CS) (x0 : Nat) (x1 : Int32) (x2 : Int32) (x3 : Int32) (x4 : Int32) (cs9 : CS), T.2.2.2.2.2.2.2.2.2.2.2 cs x0 x1 x2 x3 x4 = some cs9 → WF pF cs cs9) (cs : CS) (x0 : Nat) (cs9 : CS) (h : cb_X9_readTest F T cs x0 = some cs9) : WF pF cs cs9 := by
  unfold cb_X9_readTest at h
  have hq : WF pF cs cs := WF.refl
  replace h := ob h; obtain ⟨v_1, hv_1, h⟩ := h
  replace h := ob h; obtain ⟨i_2, hi_2, h⟩ := h
  subst hi_2
  replace h := ob h; obtain ⟨v_3, hv_3, h⟩ := h
  replace h := ob h; obtain ⟨w_5, hw_5, h⟩ := h
  replace h := ob h; obtain ⟨v_4, hv_4, h⟩ := h
  replace h := ob h; obtain ⟨w_7, hw_7, h⟩ := h
  replace h := ob h; obtain ⟨cs_6, hv_6, h⟩ := h
  replace hq := hq.trans (hM_X9_readSum cs x0 cs_6 hv_6)
  replace h := ob h; obtain ⟨w_9, hw_9, h⟩ := h
  replace h := ob h; obtain ⟨v_8, hv_8, h⟩ := h
  replace h := ob h; obtain ⟨w_11, hw_11, h⟩ := h
  replace h := ob h; obtain ⟨v_10, hv_10, h⟩ := h
  by_cases c_12 : v_10 = 24
  · skip
    replace h := (if_pos c_12).symm.trans h
    replace h := ob h; obtain ⟨v_13, hv_13, h⟩ := h
    replace h := ob h; obtain ⟨cs_14, hv_14, h⟩ := h
    replace hq := hq.trans (WF.pI (by decide) hv_14)
    replace h := ob h; obtain ⟨w_16, hw_16, h⟩ := h
    replace h := ob h; obtain ⟨z_15, hv_15, h⟩ := h
    replace hq := hq.trans (pf_c_X9_accept F cs_14 x0 25 z_15.1 z_15.2 hv_15)
    by_cases c_17 : z_15.2 = 0
    · skip
      replace h := (if_pos c_17).symm.trans h
      have k9 := pf_c_X9_readTest_b226 F T hM_X9_readExpr hM_X9_readConjunction hM_X9_readNegation hM_X9_readTest hM_X9_readSum hM_X9_readPart hM_X9_readSign hM_X9_readOne hM_X9_readCase hM_X9_readSpan hM_X9_readAggregate hM_X9_readList z_15.1 x0 v_3 v_4 v_8 24 cs9 h
      exact hq.trans k9
    · skip
      replace h := (if_neg c_17).symm.trans h
      have k9 := pf_c_X9_readTest_b226 F T hM_X9_readExpr hM_X9_readConjunction hM_X9_readNegation hM_X9_readTest hM_X9_readSum hM_X9_readPart hM_X9_readSign hM_X9_readOne hM_X9_readCase hM_X9_readSpan hM_X9_readAggregate hM_X9_readList z_15.1 x0 v_3 v_4 v_8 59 cs9 h
      exact hq.trans k9
  replace h := (if_neg c_12).symm.trans h
  by_cases c_18 : v_10 = 25
  · skip
    replace h := (if_pos c_18).symm.trans h
    replace h := ob h; obtain ⟨v_19, hv_19, h⟩ := h
    replace h := ob h; obtain ⟨cs_20, hv_20, h⟩ := h
    replace hq := hq.trans (WF.pI (by decide) hv_20)
    replace h := ob h; obtain ⟨w_22, hw_22, h⟩ := h
    replace h := ob h; obtain ⟨cs_21, hv_21, h⟩ := h
    replace hq := hq.trans (hM_X9_readList cs_20 x0 60 v_3 v_4 v_8 cs_21 hv_21)
    have k9 := pf_c_X9_readTest_b282 F T hM_X9_readExpr hM_X9_readConjunction hM_X9_readNegation hM_X9_readTest hM_X9_readSum hM_X9_readPart hM_X9_readSign hM_X9_readOne hM_X9_readCase hM_X9_readSpan hM_X9_readAggregate hM_X9_readList cs_21 cs9 h
    exact hq.trans k9
  replace h := (if_neg c_18).symm.trans h
  by_cases c_23 : v_10 = 27
  · skip
    replace h := (if_pos c_23).symm.trans h
    replace h := ob h; obtain ⟨w_25, hw_25, h⟩ := h
    replace h := ob h; obtain ⟨cs_24, hv_24, h⟩ := h
    replace hq := hq.trans (hM_X9_readList cs_6 x0 27 v_3 v_4 v_8 cs_24 hv_24)
    have k9 := pf_c_X9_readTest_b282 F T hM_X9_readExpr hM_X9_readConjunction hM_X9_readNegation hM_X9_readTest hM_X9_readSum hM_X9_readPart hM_X9_readSign hM_X9_readOne hM_X9_readCase hM_X9_readSpan hM_X9_readAggregate hM_X9_readList cs_24 cs9 h
    exact hq.trans k9
  replace h := (if_neg c_23).symm.trans h
  by_cases c_26 : v_10 = 50
  · skip
    replace h := (if_pos c_26).symm.trans h
    have k9 := pf_c_X9_readTest_b172 F T hM_X9_readExpr hM_X9_readConjunction hM_X9_readNegation hM_X9_readTest hM_X9_readSum hM_X9_readPart hM_X9_readSign hM_X9_readOne hM_X9_readCase hM_X9_readSpan hM_X9_readAggregate hM_X9_readList cs_6 x0 v_3 v_4 v_8 v_10 cs9 h
    exact hq.trans k9
  replace h := (if_neg c_26).symm.trans h
  by_cases c_27 : v_10 = 51
  · skip
    replace h := (if_pos c_27).symm.trans h
    have k9 := pf_c_X9_readTest_b172 F T hM_X9_readExpr hM_X9_readConjunction hM_X9_readNegation hM_X9_readTest hM_X9_readSum hM_X9_readPart hM_X9_readSign hM_X9_readOne hM_X9_readCase hM_X9_readSpan hM_X9_readAggregate hM_X9_readList cs_6 x0 v_3 v_4 v_8 v_10 cs9 h
    exact hq.trans k9
  replace h := (if_neg c_27).symm.trans h
  by_cases c_28 : v_10 = 52
  · skip
    replace h := (if_pos c_28).symm.trans h
    have k9 := pf_c_X9_readTest_b172 F T hM_X9_readExpr hM_X9_readConjunction hM_X9_readNegation hM_X9_readTest hM_X9_readSum hM_X9_readPart hM_X9_readSign hM_X9_readOne hM_X9_readCase hM_X9_readSpan hM_X9_readAggregate hM_X9_readList cs_6 x0 v_3 v_4 v_8 v_10 cs9 h
    exact hq.trans k9
  replace h := (if_neg c_28).symm.trans h
  by_cases c_29 : v_10 = 53
  · skip
    replace h := (if_pos c_29).symm.trans h
    have k9 := pf_c_X9_readTest_b172 F T hM_X9_readExpr hM_X9_readConjunction hM_X9_readNegation hM_X9_readTest hM_X9_readSum hM_X9_readPart hM_X9_readSign hM_X9_readOne hM_X9_readCase hM_X9_readSpan hM_X9_readAggregate hM_X9_readList cs_6 x0 v_3 v_4 v_8 v_10 cs9 h
    exact hq.trans k9
  replace h := (if_neg c_29).symm.trans h
  by_cases c_30 : v_10 = 54
  · skip
    replace h := (if_pos c_30).symm.trans h
    have k9 := pf_c_X9_readTest_b172 F T hM_X9_readExpr hM_X9_readConjunction hM_X9_readNegation hM_X9_readTest hM_X9_readSum hM_X9_readPart hM_X9_readSign hM_X9_readOne hM_X9_readCase hM_X9_readSpan hM_X9_readAggregate hM_X9_readList cs_6 x0 v_3 v_4 v_8 v_10 cs9 h
    exact hq.trans k9
  replace h := (if_neg c_30).symm.trans h
  by_cases c_31 : v_10 = 55
  · skip
    replace h := (if_pos c_31).symm.trans h
    have k9 := pf_c_X9_readTest_b172 F T hM_X9_readExpr hM_X9_readConjunction hM_X9_readNegation hM_X9_readTest hM_X9_readSum hM_X9_readPart hM_X9_readSign hM_X9_readOne hM_X9_readCase hM_X9_readSpan hM_X9_readAggregate hM_X9_readList cs_6 x0 v_3 v_4 v_8 v_10 cs9 h
    exact hq.trans k9
  replace h := (if_neg c_31).symm.trans h
  have k9 := pf_c_X9_readTest_b282 F T hM_X9_readExpr hM_X9_readConjunction hM_X9_readNegation hM_X9_readTest hM_X9_readSum hM_X9_readPart hM_X9_readSign hM_X9_readOne hM_X9_readCase hM_X9_readSpan hM_X9_readAggregate hM_X9_readList cs_6 cs9 h
  exact hq.trans k9
theorem pf_c_X9_readSum_b88 (F : Nat) (T : TC_X9_readExpr) (hM_X9_readExpr : ∀ (cs : CS) (x0 : Nat) (cs9 : CS) (r9 : Int32), T.1 cs x0 = some (cs9, r9) → WF pF cs cs9) (hM_X9_readConjunction : ∀ (cs : CS) (x0 : Nat) (cs9 : CS), T.2.1 cs x0 = some cs9 → WF pF cs cs9) (hM_X9_readNegation : ∀ (cs : CS) (x0 : Nat) (cs9 : CS), T.2.2.1 cs x0 = some cs9 → WF pF cs cs9) (hM_X9_readTest : ∀ (cs : CS) (x0 : Nat) (cs9 : CS), T.2.2.2.1 cs x0 = some cs9 → WF pF cs cs9) (hM_X9_readSum : ∀ (cs : CS) (x0 : Nat) (cs9 : CS), T.2.2.2.2.1 cs x0 = some cs9 → WF pF cs cs9) (hM_X9_readPart : ∀ (cs : CS) (x0 : Nat) (cs9 : CS), T.2.2.2.2.2.1 cs x0 = some cs9 → WF pF cs cs9) (hM_X9_readSign : ∀ (cs : CS) (x0 : Nat) (cs9 : CS), T.2.2.2.2.2.2.1 cs x0 = some cs9 → WF pF cs cs9) (hM_X9_readOne : ∀ (cs : CS) (x0 : Nat) (cs9 : CS), T.2.2.2.2.2.2.2.1 cs x0 = some cs9 → WF pF cs cs9) (hM_X9_readCase : ∀ (cs : CS) (x0 : Nat) (cs9 : CS), T.2.2.2.2.2.2.2.2.1 cs x0 = some cs9 → WF pF cs cs9) (hM_X9_readSpan : ∀ (cs : CS) (x0 : Nat) (cs9 : CS), T.2.2.2.2.2.2.2.2.2.1 cs x0 = some cs9 → WF pF cs cs9) (hM_X9_readAggregate : ∀ (cs : CS) (x0 : Nat) (cs9 : CS), T.2.2.2.2.2.2.2.2.2.2.1 cs x0 = some cs9 → WF pF cs cs9) (hM_X9_readList : ∀ (cs : CS) (x0 : Nat) (x1 : Int32) (x2 : Int32) (x3 : Int32) (x4 : Int32) (cs9 : CS), T.2.2.2.2.2.2.2.2.2.2.2 cs x0 x1 x2 x3 x4 = some cs9 → WF pF cs cs9) (cs1 : CS) (cs9 : CS) (h : c_X9_readSum_b88 F T cs1 = some cs9) : WF pF cs1 cs9 := by
  unfold c_X9_readSum_b88 at h
  have hq : WF pF cs1 cs1 := WF.refl
  have h9 := Option.some.inj h
  exact hq.to h9
theorem pf_c_X9_readSum_b44 (F : Nat) (T : TC_X9_readExpr) (hM_X9_readExpr : ∀ (cs : CS) (x0 : Nat) (cs9 : CS) (r9 : Int32), T.1 cs x0 = some (cs9, r9) → WF pF cs cs9) (hM_X9_readConjunction : ∀ (cs : CS) (x0 : Nat) (cs9 : CS), T.2.1 cs x0 = some cs9 → WF pF cs cs9) (hM_X9_readNegation : ∀ (cs : CS) (x0 : Nat) (cs9 : CS), T.2.2.1 cs x0 = some cs9 → WF pF cs cs9) (hM_X9_readTest : ∀ (cs : CS) (x0 : Nat) (cs9 : CS), T.2.2.2.1 cs x0 = some cs9 → WF pF cs cs9) (hM_X9_readSum : ∀ (cs : CS) (x0 : Nat) (cs9 : CS), T.2.2.2.2.1 cs x0 = some cs9 → WF pF cs cs9) (hM_X9_readPart : ∀ (cs : CS) (x0 : Nat) (cs9 : CS), T.2.2.2.2.2.1 cs x0 = some cs9 → WF pF cs cs9) (hM_X9_readSign : ∀ (cs : CS) (x0 : Nat) (cs9 : CS), T.2.2.2.2.2.2.1 cs x0 = some cs9 → WF pF cs cs9) (hM_X9_readOne : ∀ (cs : CS) (x0 : Nat) (cs9 : CS), T.2.2.2.2.2.2.2.1 cs x0 = some cs9 → WF pF cs cs9) (hM_X9_readCase : ∀ (cs : CS) (x0 : Nat) (cs9 : CS), T.2.2.2.2.2.2.2.2.1 cs x0 = some cs9 → WF pF cs cs9) (hM_X9_readSpan : ∀ (cs : CS) (x0 : Nat) (cs9 : CS), T.2.2.2.2.2.2.2.2.2.1 cs x0 = some cs9 → WF pF cs cs9) (hM_X9_readAggregate : ∀ (cs : CS) (x0 : Nat) (cs9 : CS), T.2.2.2.2.2.2.2.2.2.2.1 cs x0 = some cs9 → WF pF cs cs9) (hM_X9_readList : ∀ (cs : CS) (x0 : Nat) (x1 : Int32) (x2 : Int32) (x3 : Int32) (x4 : Int32) (cs9 : CS), T.2.2.2.2.2.2.2.2.2.2.2 cs x0 x1 x2 x3 x4 = some cs9 → WF pF cs cs9) (rc19 : CS → Nat → Int32 → Int32 → Int32 → Option CS) (hrc19 : ∀ (cs1 : CS) (u0 : Nat) (u1 : Int32) (u2 : Int32) (u3 : Int32) (cs9 : CS), rc19 cs1 u0 u1 u2 u3 = some cs9 → WF pF cs1 cs9) (cs1 : CS) (u0 : Nat) (u1 : Int32) (u2 : Int32) (u3 : Int32) (cs9 : CS) (h : c_X9_readSum_b44 F T rc19 cs1 u0 u1 u2 u3 = some cs9) : WF pF cs1 cs9 := by
  unfold c_X9_readSum_b44 at h
  have hq : WF pF cs1 cs1 := WF.refl
  replace h := ob h; obtain ⟨w_2, hw_2, h⟩ := h
  replace h := ob h; obtain ⟨v_1, hv_1, h⟩ := h
  replace h := ob h; obtain ⟨w_4, hw_4, h⟩ := h
  replace h := ob h; obtain ⟨v_3, hv_3, h⟩ := h
  replace h := ob h; obtain ⟨v_5, hv_5, h⟩ := h
  replace h := ob h; obtain ⟨cs_6, hv_6, h⟩ := h
  replace hq := hq.trans (WF.pI (by decide) hv_6)
  replace h := ob h; obtain ⟨w_8, hw_8, h⟩ := h
  replace h := ob h; obtain ⟨cs_7, hv_7, h⟩ := h
  replace hq := hq.trans (hM_X9_readPart cs_6 u0 cs_7 hv_7)
  replace h := ob h; obtain ⟨w_10, hw_10, h⟩ := h
  replace h := ob h; obtain ⟨z_9, hv_9, h⟩ := h
  replace hq := hq.trans (pf_c_X9_complete F cs_7 u0 v_1 u1 u2 v_3 2 z_9.1 z_9.2 hv_9)
  have k9 := hrc19 z_9.1 u0 u1 u2 (u3 + 1) cs9 h
  exact hq.trans k9
theorem pf_c_X9_readSum_L19 (F : Nat) (T : TC_X9_readExpr) (hM_X9_readExpr : ∀ (cs : CS) (x0 : Nat) (cs9 : CS) (r9 : Int32), T.1 cs x0 = some (cs9, r9) → WF pF cs cs9) (hM_X9_readConjunction : ∀ (cs : CS) (x0 : Nat) (cs9 : CS), T.2.1 cs x0 = some cs9 → WF pF cs cs9) (hM_X9_readNegation : ∀ (cs : CS) (x0 : Nat) (cs9 : CS), T.2.2.1 cs x0 = some cs9 → WF pF cs cs9) (hM_X9_readTest : ∀ (cs : CS) (x0 : Nat) (cs9 : CS), T.2.2.2.1 cs x0 = some cs9 → WF pF cs cs9) (hM_X9_readSum : ∀ (cs : CS) (x0 : Nat) (cs9 : CS), T.2.2.2.2.1 cs x0 = some cs9 → WF pF cs cs9) (hM_X9_readPart : ∀ (cs : CS) (x0 : Nat) (cs9 : CS), T.2.2.2.2.2.1 cs x0 = some cs9 → WF pF cs cs9) (hM_X9_readSign : ∀ (cs : CS) (x0 : Nat) (cs9 : CS), T.2.2.2.2.2.2.1 cs x0 = some cs9 → WF pF cs cs9) (hM_X9_readOne : ∀ (cs : CS) (x0 : Nat) (cs9 : CS), T.2.2.2.2.2.2.2.1 cs x0 = some cs9 → WF pF cs cs9) (hM_X9_readCase : ∀ (cs : CS) (x0 : Nat) (cs9 : CS), T.2.2.2.2.2.2.2.2.1 cs x0 = some cs9 → WF pF cs cs9) (hM_X9_readSpan : ∀ (cs : CS) (x0 : Nat) (cs9 : CS), T.2.2.2.2.2.2.2.2.2.1 cs x0 = some cs9 → WF pF cs cs9) (hM_X9_readAggregate : ∀ (cs : CS) (x0 : Nat) (cs9 : CS), T.2.2.2.2.2.2.2.2.2.2.1 cs x0 = some cs9 → WF pF cs cs9) (hM_X9_readList : ∀ (cs : CS) (x0 : Nat) (x1 : Int32) (x2 : Int32) (x3 : Int32) (x4 : Int32) (cs9 : CS), T.2.2.2.2.2.2.2.2.2.2.2 cs x0 x1 x2 x3 x4 = some cs9 → WF pF cs cs9) : ∀ (lf_19 : Nat) (cs1 : CS) (u0 : Nat) (u1 : Int32) (u2 : Int32) (u3 : Int32) (cs9 : CS), c_X9_readSum_L19 F T lf_19 cs1 u0 u1 u2 u3 = some cs9 → WF pF cs1 cs9 := by
  intro lf_19
  induction lf_19 with
  | zero => intro cs1 u0 u1 u2 u3 cs9 h; cases (show (none : Option CS) = _ from h)
  | succ lf_19 ih_19 =>
    intro cs1 u0 u1 u2 u3 cs9 h
    rw [c_X9_readSum_L19] at h
    have hq : WF pF cs1 cs1 := WF.refl
    by_cases c_1 : 2000 ≤ u3
    · skip
      replace h := (if_pos c_1).symm.trans h
      have k9 := pf_c_X9_readSum_b88 F T hM_X9_readExpr hM_X9_readConjunction hM_X9_readNegation hM_X9_readTest hM_X9_readSum hM_X9_readPart hM_X9_readSign hM_X9_readOne hM_X9_readCase hM_X9_readSpan hM_X9_readAggregate hM_X9_readList cs1 cs9 h
      exact hq.trans k9
    · skip
      replace h := (if_neg c_1).symm.trans h
      replace h := ob h; obtain ⟨w_3, hw_3, h⟩ := h
      replace h := ob h; obtain ⟨v_2, hv_2, h⟩ := h
      by_cases c_4 : v_2 = 45
      · skip
        replace h := (if_pos c_4).symm.trans h
        have k9 := pf_c_X9_readSum_b44 F T hM_X9_readExpr hM_X9_readConjunction hM_X9_readNegation hM_X9_readTest hM_X9_readSum hM_X9_readPart hM_X9_readSign hM_X9_readOne hM_X9_readCase hM_X9_readSpan hM_X9_readAggregate hM_X9_readList (c_X9_readSum_L19 F T lf_19) ih_19 cs1 u0 u1 u2 u3 cs9 h
        exact hq.trans k9
      · skip
        replace h := (if_neg c_4).symm.trans h
        replace h := ob h; obtain ⟨w_6, hw_6, h⟩ := h
        replace h := ob h; obtain ⟨v_5, hv_5, h⟩ := h
        by_cases c_7 : v_5 = 46
        · skip
          replace h := (if_pos c_7).symm.trans h
          have k9 := pf_c_X9_readSum_b44 F T hM_X9_readExpr hM_X9_readConjunction hM_X9_readNegation hM_X9_readTest hM_X9_readSum hM_X9_readPart hM_X9_readSign hM_X9_readOne hM_X9_readCase hM_X9_readSpan hM_X9_readAggregate hM_X9_readList (c_X9_readSum_L19 F T lf_19) ih_19 cs1 u0 u1 u2 u3 cs9 h
          exact hq.trans k9
        · skip
          replace h := (if_neg c_7).symm.trans h
          have k9 := pf_c_X9_readSum_b88 F T hM_X9_readExpr hM_X9_readConjunction hM_X9_readNegation hM_X9_readTest hM_X9_readSum hM_X9_readPart hM_X9_readSign hM_X9_readOne hM_X9_readCase hM_X9_readSpan hM_X9_readAggregate hM_X9_readList cs1 cs9 h
          exact hq.trans k9
theorem pf_cb_X9_readSum (F : Nat) (T : TC_X9_readExpr) (hM_X9_readExpr : ∀ (cs : CS) (x0 : Nat) (cs9 : CS) (r9 : Int32), T.1 cs x0 = some (cs9, r9) → WF pF cs cs9) (hM_X9_readConjunction : ∀ (cs : CS) (x0 : Nat) (cs9 : CS), T.2.1 cs x0 = some cs9 → WF pF cs cs9) (hM_X9_readNegation : ∀ (cs : CS) (x0 : Nat) (cs9 : CS), T.2.2.1 cs x0 = some cs9 → WF pF cs cs9) (hM_X9_readTest : ∀ (cs : CS) (x0 : Nat) (cs9 : CS), T.2.2.2.1 cs x0 = some cs9 → WF pF cs cs9) (hM_X9_readSum : ∀ (cs : CS) (x0 : Nat) (cs9 : CS), T.2.2.2.2.1 cs x0 = some cs9 → WF pF cs cs9) (hM_X9_readPart : ∀ (cs : CS) (x0 : Nat) (cs9 : CS), T.2.2.2.2.2.1 cs x0 = some cs9 → WF pF cs cs9) (hM_X9_readSign : ∀ (cs : CS) (x0 : Nat) (cs9 : CS), T.2.2.2.2.2.2.1 cs x0 = some cs9 → WF pF cs cs9) (hM_X9_readOne : ∀ (cs : CS) (x0 : Nat) (cs9 : CS), T.2.2.2.2.2.2.2.1 cs x0 = some cs9 → WF pF cs cs9) (hM_X9_readCase : ∀ (cs : CS) (x0 : Nat) (cs9 : CS), T.2.2.2.2.2.2.2.2.1 cs x0 = some cs9 → WF pF cs cs9) (hM_X9_readSpan : ∀ (cs : CS) (x0 : Nat) (cs9 : CS), T.2.2.2.2.2.2.2.2.2.1 cs x0 = some cs9 → WF pF cs cs9) (hM_X9_readAggregate : ∀ (cs : CS) (x0 : Nat) (cs9 : CS), T.2.2.2.2.2.2.2.2.2.2.1 cs x0 = some cs9 → WF pF cs cs9) (hM_X9_readList : ∀ (cs : CS) (x0 : Nat) (x1 : Int32) (x2 : Int32) (x3 : Int32) (x4 : Int32) (cs9 : CS), T.2.2.2.2.2.2.2.2.2.2.2 cs x0 x1 x2 x3 x4 = some cs9 → WF pF cs cs9) (cs : CS) (x0 : Nat) (cs9 : CS) (h : cb_X9_readSum F T cs x0 = some cs9) : WF pF cs cs9 := by
  unfold cb_X9_readSum at h
  have hq : WF pF cs cs := WF.refl
  replace h := ob h; obtain ⟨v_1, hv_1, h⟩ := h
  replace h := ob h; obtain ⟨i_2, hi_2, h⟩ := h
  subst hi_2
  replace h := ob h; obtain ⟨v_3, hv_3, h⟩ := h
  replace h := ob h; obtain ⟨w_5, hw_5, h⟩ := h
  replace h := ob h; obtain ⟨v_4, hv_4, h⟩ := h
  replace h := ob h; obtain ⟨w_7, hw_7, h⟩ := h
  replace h := ob h; obtain ⟨cs_6, hv_6, h⟩ := h
  replace hq := hq.trans (hM_X9_readPart cs x0 cs_6 hv_6)
  have k9 := pf_c_X9_readSum_L19 F T hM_X9_readExpr hM_X9_readConjunction hM_X9_readNegation hM_X9_readTest hM_X9_readSum hM_X9_readPart hM_X9_readSign hM_X9_readOne hM_X9_readCase hM_X9_readSpan hM_X9_readAggregate hM_X9_readList F cs_6 x0 v_3 v_4 0 cs9 h
  exact hq.trans k9
theorem pf_c_X9_readPart_b97 (F : Nat) (T : TC_X9_readExpr) (hM_X9_readExpr : ∀ (cs : CS) (x0 : Nat) (cs9 : CS) (r9 : Int32), T.1 cs x0 = some (cs9, r9) → WF pF cs cs9) (hM_X9_readConjunction : ∀ (cs : CS) (x0 : Nat) (cs9 : CS), T.2.1 cs x0 = some cs9 → WF pF cs cs9) (hM_X9_readNegation : ∀ (cs : CS) (x0 : Nat) (cs9 : CS), T.2.2.1 cs x0 = some cs9 → WF pF cs cs9) (hM_X9_readTest : ∀ (cs : CS) (x0 : Nat) (cs9 : CS), T.2.2.2.1 cs x0 = some cs9 → WF pF cs cs9) (hM_X9_readSum : ∀ (cs : CS) (x0 : Nat) (cs9 : CS), T.2.2.2.2.1 cs x0 = some cs9 → WF pF cs cs9) (hM_X9_readPart : ∀ (cs : CS) (x0 : Nat) (cs9 : CS), T.2.2.2.2.2.1 cs x0 = some cs9 → WF pF cs cs9) (hM_X9_readSign : ∀ (cs : CS) (x0 : Nat) (cs9 : CS), T.2.2.2.2.2.2.1 cs x0 = some cs9 → WF pF cs cs9) (hM_X9_readOne : ∀ (cs : CS) (x0 : Nat) (cs9 : CS), T.2.2.2.2.2.2.2.1 cs x0 = some cs9 → WF pF cs cs9) (hM_X9_readCase : ∀ (cs : CS) (x0 : Nat) (cs9 : CS), T.2.2.2.2.2.2.2.2.1 cs x0 = some cs9 → WF pF cs cs9) (hM_X9_readSpan : ∀ (cs : CS) (x0 : Nat) (cs9 : CS), T.2.2.2.2.2.2.2.2.2.1 cs x0 = some cs9 → WF pF cs cs9) (hM_X9_readAggregate : ∀ (cs : CS) (x0 : Nat) (cs9 : CS), T.2.2.2.2.2.2.2.2.2.2.1 cs x0 = some cs9 → WF pF cs cs9) (hM_X9_readList : ∀ (cs : CS) (x0 : Nat) (x1 : Int32) (x2 : Int32) (x3 : Int32) (x4 : Int32) (cs9 : CS), T.2.2.2.2.2.2.2.2.2.2.2 cs x0 x1 x2 x3 x4 = some cs9 → WF pF cs cs9) (cs1 : CS) (cs9 : CS) (h : c_X9_readPart_b97 F T cs1 = some cs9) : WF pF cs1 cs9 := by
  unfold c_X9_readPart_b97 at h
  have hq : WF pF cs1 cs1 := WF.refl
  have h9 := Option.some.inj h
  exact hq.to h9
theorem pf_c_X9_readPart_b53 (F : Nat) (T : TC_X9_readExpr) (hM_X9_readExpr : ∀ (cs : CS) (x0 : Nat) (cs9 : CS) (r9 : Int32), T.1 cs x0 = some (cs9, r9) → WF pF cs cs9) (hM_X9_readConjunction : ∀ (cs : CS) (x0 : Nat) (cs9 : CS), T.2.1 cs x0 = some cs9 → WF pF cs cs9) (hM_X9_readNegation : ∀ (cs : CS) (x0 : Nat) (cs9 : CS), T.2.2.1 cs x0 = some cs9 → WF pF cs cs9) (hM_X9_readTest : ∀ (cs : CS) (x0 : Nat) (cs9 : CS), T.2.2.2.1 cs x0 = some cs9 → WF pF cs cs9) (hM_X9_readSum : ∀ (cs : CS) (x0 : Nat) (cs9 : CS), T.2.2.2.2.1 cs x0 = some cs9 → WF pF cs cs9) (hM_X9_readPart : ∀ (cs : CS) (x0 : Nat) (cs9 : CS), T.2.2.2.2.2.1 cs x0 = some cs9 → WF pF cs cs9) (hM_X9_readSign : ∀ (cs : CS) (x0 : Nat) (cs9 : CS), T.2.2.2.2.2.2.1 cs x0 = some cs9 → WF pF cs cs9) (hM_X9_readOne : ∀ (cs : CS) (x0 : Nat) (cs9 : CS), T.2.2.2.2.2.2.2.1 cs x0 = some cs9 → WF pF cs cs9) (hM_X9_readCase : ∀ (cs : CS) (x0 : Nat) (cs9 : CS), T.2.2.2.2.2.2.2.2.1 cs x0 = some cs9 → WF pF cs cs9) (hM_X9_readSpan : ∀ (cs : CS) (x0 : Nat) (cs9 : CS), T.2.2.2.2.2.2.2.2.2.1 cs x0 = some cs9 → WF pF cs cs9) (hM_X9_readAggregate : ∀ (cs : CS) (x0 : Nat) (cs9 : CS), T.2.2.2.2.2.2.2.2.2.2.1 cs x0 = some cs9 → WF pF cs cs9) (hM_X9_readList : ∀ (cs : CS) (x0 : Nat) (x1 : Int32) (x2 : Int32) (x3 : Int32) (x4 : Int32) (cs9 : CS), T.2.2.2.2.2.2.2.2.2.2.2 cs x0 x1 x2 x3 x4 = some cs9 → WF pF cs cs9) (rc19 : CS → Nat → Int32 → Int32 → Int32 → Option CS) (hrc19 : ∀ (cs1 : CS) (u0 : Nat) (u1 : Int32) (u2 : Int32) (u3 : Int32) (cs9 : CS), rc19 cs1 u0 u1 u2 u3 = some cs9 → WF pF cs1 cs9) (cs1 : CS) (u0 : Nat) (u1 : Int32) (u2 : Int32) (u3 : Int32) (cs9 : CS) (h : c_X9_readPart_b53 F T rc19 cs1 u0 u1 u2 u3 = some cs9) : WF pF cs1 cs9 := by
  unfold c_X9_readPart_b53 at h
  have hq : WF pF cs1 cs1 := WF.refl
  replace h := ob h; obtain ⟨w_2, hw_2, h⟩ := h
  replace h := ob h; obtain ⟨v_1, hv_1, h⟩ := h
  replace h := ob h; obtain ⟨w_4, hw_4, h⟩ := h
  replace h := ob h; obtain ⟨v_3, hv_3, h⟩ := h
  replace h := ob h; obtain ⟨v_5, hv_5, h⟩ := h
  replace h := ob h; obtain ⟨cs_6, hv_6, h⟩ := h
  replace hq := hq.trans (WF.pI (by decide) hv_6)
  replace h := ob h; obtain ⟨w_8, hw_8, h⟩ := h
  replace h := ob h; obtain ⟨cs_7, hv_7, h⟩ := h
  replace hq := hq.trans (hM_X9_readSign cs_6 u0 cs_7 hv_7)
  replace h := ob h; obtain ⟨w_10, hw_10, h⟩ := h
  replace h := ob h; obtain ⟨z_9, hv_9, h⟩ := h
  replace hq := hq.trans (pf_c_X9_complete F cs_7 u0 v_1 u1 u2 v_3 2 z_9.1 z_9.2 hv_9)
  have k9 := hrc19 z_9.1 u0 u1 u2 (u3 + 1) cs9 h
  exact hq.trans k9
theorem pf_c_X9_readPart_L19 (F : Nat) (T : TC_X9_readExpr) (hM_X9_readExpr : ∀ (cs : CS) (x0 : Nat) (cs9 : CS) (r9 : Int32), T.1 cs x0 = some (cs9, r9) → WF pF cs cs9) (hM_X9_readConjunction : ∀ (cs : CS) (x0 : Nat) (cs9 : CS), T.2.1 cs x0 = some cs9 → WF pF cs cs9) (hM_X9_readNegation : ∀ (cs : CS) (x0 : Nat) (cs9 : CS), T.2.2.1 cs x0 = some cs9 → WF pF cs cs9) (hM_X9_readTest : ∀ (cs : CS) (x0 : Nat) (cs9 : CS), T.2.2.2.1 cs x0 = some cs9 → WF pF cs cs9) (hM_X9_readSum : ∀ (cs : CS) (x0 : Nat) (cs9 : CS), T.2.2.2.2.1 cs x0 = some cs9 → WF pF cs cs9) (hM_X9_readPart : ∀ (cs : CS) (x0 : Nat) (cs9 : CS), T.2.2.2.2.2.1 cs x0 = some cs9 → WF pF cs cs9) (hM_X9_readSign : ∀ (cs : CS) (x0 : Nat) (cs9 : CS), T.2.2.2.2.2.2.1 cs x0 = some cs9 → WF pF cs cs9) (hM_X9_readOne : ∀ (cs : CS) (x0 : Nat) (cs9 : CS), T.2.2.2.2.2.2.2.1 cs x0 = some cs9 → WF pF cs cs9) (hM_X9_readCase : ∀ (cs : CS) (x0 : Nat) (cs9 : CS), T.2.2.2.2.2.2.2.2.1 cs x0 = some cs9 → WF pF cs cs9) (hM_X9_readSpan : ∀ (cs : CS) (x0 : Nat) (cs9 : CS), T.2.2.2.2.2.2.2.2.2.1 cs x0 = some cs9 → WF pF cs cs9) (hM_X9_readAggregate : ∀ (cs : CS) (x0 : Nat) (cs9 : CS), T.2.2.2.2.2.2.2.2.2.2.1 cs x0 = some cs9 → WF pF cs cs9) (hM_X9_readList : ∀ (cs : CS) (x0 : Nat) (x1 : Int32) (x2 : Int32) (x3 : Int32) (x4 : Int32) (cs9 : CS), T.2.2.2.2.2.2.2.2.2.2.2 cs x0 x1 x2 x3 x4 = some cs9 → WF pF cs cs9) : ∀ (lf_19 : Nat) (cs1 : CS) (u0 : Nat) (u1 : Int32) (u2 : Int32) (u3 : Int32) (cs9 : CS), c_X9_readPart_L19 F T lf_19 cs1 u0 u1 u2 u3 = some cs9 → WF pF cs1 cs9 := by
  intro lf_19
  induction lf_19 with
  | zero => intro cs1 u0 u1 u2 u3 cs9 h; cases (show (none : Option CS) = _ from h)
  | succ lf_19 ih_19 =>
    intro cs1 u0 u1 u2 u3 cs9 h
    rw [c_X9_readPart_L19] at h
    have hq : WF pF cs1 cs1 := WF.refl
    by_cases c_1 : 2000 ≤ u3
    · skip
      replace h := (if_pos c_1).symm.trans h
      have k9 := pf_c_X9_readPart_b97 F T hM_X9_readExpr hM_X9_readConjunction hM_X9_readNegation hM_X9_readTest hM_X9_readSum hM_X9_readPart hM_X9_readSign hM_X9_readOne hM_X9_readCase hM_X9_readSpan hM_X9_readAggregate hM_X9_readList cs1 cs9 h
      exact hq.trans k9
    · skip
      replace h := (if_neg c_1).symm.trans h
      replace h := ob h; obtain ⟨w_3, hw_3, h⟩ := h
      replace h := ob h; obtain ⟨v_2, hv_2, h⟩ := h
      by_cases c_4 : v_2 = 47
      · skip
        replace h := (if_pos c_4).symm.trans h
        have k9 := pf_c_X9_readPart_b53 F T hM_X9_readExpr hM_X9_readConjunction hM_X9_readNegation hM_X9_readTest hM_X9_readSum hM_X9_readPart hM_X9_readSign hM_X9_readOne hM_X9_readCase hM_X9_readSpan hM_X9_readAggregate hM_X9_readList (c_X9_readPart_L19 F T lf_19) ih_19 cs1 u0 u1 u2 u3 cs9 h
        exact hq.trans k9
      · skip
        replace h := (if_neg c_4).symm.trans h
        replace h := ob h; obtain ⟨w_6, hw_6, h⟩ := h
        replace h := ob h; obtain ⟨v_5, hv_5, h⟩ := h
        by_cases c_7 : v_5 = 48
        · skip
          replace h := (if_pos c_7).symm.trans h
          have k9 := pf_c_X9_readPart_b53 F T hM_X9_readExpr hM_X9_readConjunction hM_X9_readNegation hM_X9_readTest hM_X9_readSum hM_X9_readPart hM_X9_readSign hM_X9_readOne hM_X9_readCase hM_X9_readSpan hM_X9_readAggregate hM_X9_readList (c_X9_readPart_L19 F T lf_19) ih_19 cs1 u0 u1 u2 u3 cs9 h
          exact hq.trans k9
        · skip
          replace h := (if_neg c_7).symm.trans h
          replace h := ob h; obtain ⟨w_9, hw_9, h⟩ := h
          replace h := ob h; obtain ⟨v_8, hv_8, h⟩ := h
          by_cases c_10 : v_8 = 49
          · skip
            replace h := (if_pos c_10).symm.trans h
            have k9 := pf_c_X9_readPart_b53 F T hM_X9_readExpr hM_X9_readConjunction hM_X9_readNegation hM_X9_readTest hM_X9_readSum hM_X9_readPart hM_X9_readSign hM_X9_readOne hM_X9_readCase hM_X9_readSpan hM_X9_readAggregate hM_X9_readList (c_X9_readPart_L19 F T lf_19) ih_19 cs1 u0 u1 u2 u3 cs9 h
            exact hq.trans k9
          · skip
            replace h := (if_neg c_10).symm.trans h
            have k9 := pf_c_X9_readPart_b97 F T hM_X9_readExpr hM_X9_readConjunction hM_X9_readNegation hM_X9_readTest hM_X9_readSum hM_X9_readPart hM_X9_readSign hM_X9_readOne hM_X9_readCase hM_X9_readSpan hM_X9_readAggregate hM_X9_readList cs1 cs9 h
            exact hq.trans k9
theorem pf_cb_X9_readPart (F : Nat) (T : TC_X9_readExpr) (hM_X9_readExpr : ∀ (cs : CS) (x0 : Nat) (cs9 : CS) (r9 : Int32), T.1 cs x0 = some (cs9, r9) → WF pF cs cs9) (hM_X9_readConjunction : ∀ (cs : CS) (x0 : Nat) (cs9 : CS), T.2.1 cs x0 = some cs9 → WF pF cs cs9) (hM_X9_readNegation : ∀ (cs : CS) (x0 : Nat) (cs9 : CS), T.2.2.1 cs x0 = some cs9 → WF pF cs cs9) (hM_X9_readTest : ∀ (cs : CS) (x0 : Nat) (cs9 : CS), T.2.2.2.1 cs x0 = some cs9 → WF pF cs cs9) (hM_X9_readSum : ∀ (cs : CS) (x0 : Nat) (cs9 : CS), T.2.2.2.2.1 cs x0 = some cs9 → WF pF cs cs9) (hM_X9_readPart : ∀ (cs : CS) (x0 : Nat) (cs9 : CS), T.2.2.2.2.2.1 cs x0 = some cs9 → WF pF cs cs9) (hM_X9_readSign : ∀ (cs : CS) (x0 : Nat) (cs9 : CS), T.2.2.2.2.2.2.1 cs x0 = some cs9 → WF pF cs cs9) (hM_X9_readOne : ∀ (cs : CS) (x0 : Nat) (cs9 : CS), T.2.2.2.2.2.2.2.1 cs x0 = some cs9 → WF pF cs cs9) (hM_X9_readCase : ∀ (cs : CS) (x0 : Nat) (cs9 : CS), T.2.2.2.2.2.2.2.2.1 cs x0 = some cs9 → WF pF cs cs9) (hM_X9_readSpan : ∀ (cs : CS) (x0 : Nat) (cs9 : CS), T.2.2.2.2.2.2.2.2.2.1 cs x0 = some cs9 → WF pF cs cs9) (hM_X9_readAggregate : ∀ (cs : CS) (x0 : Nat) (cs9 : CS), T.2.2.2.2.2.2.2.2.2.2.1 cs x0 = some cs9 → WF pF cs cs9) (hM_X9_readList : ∀ (cs : CS) (x0 : Nat) (x1 : Int32) (x2 : Int32) (x3 : Int32) (x4 : Int32) (cs9 : CS), T.2.2.2.2.2.2.2.2.2.2.2 cs x0 x1 x2 x3 x4 = some cs9 → WF pF cs cs9) (cs : CS) (x0 : Nat) (cs9 : CS) (h : cb_X9_readPart F T cs x0 = some cs9) : WF pF cs cs9 := by
  unfold cb_X9_readPart at h
  have hq : WF pF cs cs := WF.refl
  replace h := ob h; obtain ⟨v_1, hv_1, h⟩ := h
  replace h := ob h; obtain ⟨i_2, hi_2, h⟩ := h
  subst hi_2
  replace h := ob h; obtain ⟨v_3, hv_3, h⟩ := h
  replace h := ob h; obtain ⟨w_5, hw_5, h⟩ := h
  replace h := ob h; obtain ⟨v_4, hv_4, h⟩ := h
  replace h := ob h; obtain ⟨w_7, hw_7, h⟩ := h
  replace h := ob h; obtain ⟨cs_6, hv_6, h⟩ := h
  replace hq := hq.trans (hM_X9_readSign cs x0 cs_6 hv_6)
  have k9 := pf_c_X9_readPart_L19 F T hM_X9_readExpr hM_X9_readConjunction hM_X9_readNegation hM_X9_readTest hM_X9_readSum hM_X9_readPart hM_X9_readSign hM_X9_readOne hM_X9_readCase hM_X9_readSpan hM_X9_readAggregate hM_X9_readList F cs_6 x0 v_3 v_4 0 cs9 h
  exact hq.trans k9
theorem pf_c_X9_readSign_b49 (F : Nat) (T : TC_X9_readExpr) (hM_X9_readExpr : ∀ (cs : CS) (x0 : Nat) (cs9 : CS) (r9 : Int32), T.1 cs x0 = some (cs9, r9) → WF pF cs cs9) (hM_X9_readConjunction : ∀ (cs : CS) (x0 : Nat) (cs9 : CS), T.2.1 cs x0 = some cs9 → WF pF cs cs9) (hM_X9_readNegation : ∀ (cs : CS) (x0 : Nat) (cs9 : CS), T.2.2.1 cs x0 = some cs9 → WF pF cs cs9) (hM_X9_readTest : ∀ (cs : CS) (x0 : Nat) (cs9 : CS), T.2.2.2.1 cs x0 = some cs9 → WF pF cs cs9) (hM_X9_readSum : ∀ (cs : CS) (x0 : Nat) (cs9 : CS), T.2.2.2.2.1 cs x0 = some cs9 → WF pF cs cs9) (hM_X9_readPart : ∀ (cs : CS) (x0 : Nat) (cs9 : CS), T.2.2.2.2.2.1 cs x0 = some cs9 → WF pF cs cs9) (hM_X9_readSign : ∀ (cs : CS) (x0 : Nat) (cs9 : CS), T.2.2.2.2.2.2.1 cs x0 = some cs9 → WF pF cs cs9) (hM_X9_readOne : ∀ (cs : CS) (x0 : Nat) (cs9 : CS), T.2.2.2.2.2.2.2.1 cs x0 = some cs9 → WF pF cs cs9) (hM_X9_readCase : ∀ (cs : CS) (x0 : Nat) (cs9 : CS), T.2.2.2.2.2.2.2.2.1 cs x0 = some cs9 → WF pF cs cs9) (hM_X9_readSpan : ∀ (cs : CS) (x0 : Nat) (cs9 : CS), T.2.2.2.2.2.2.2.2.2.1 cs x0 = some cs9 → WF pF cs cs9) (hM_X9_readAggregate : ∀ (cs : CS) (x0 : Nat) (cs9 : CS), T.2.2.2.2.2.2.2.2.2.2.1 cs x0 = some cs9 → WF pF cs cs9) (hM_X9_readList : ∀ (cs : CS) (x0 : Nat) (x1 : Int32) (x2 : Int32) (x3 : Int32) (x4 : Int32) (cs9 : CS), T.2.2.2.2.2.2.2.2.2.2.2 cs x0 x1 x2 x3 x4 = some cs9 → WF pF cs cs9) (cs1 : CS) (u0 : Nat) (u1 : Int32) (u2 : Int32) (cs9 : CS) (h : c_X9_readSign_b49 F T cs1 u0 u1 u2 = some cs9) : WF pF cs1 cs9 := by
  unfold c_X9_readSign_b49 at h
  have hq : WF pF cs1 cs1 := WF.refl
  replace h := ob h; obtain ⟨v_1, hv_1, h⟩ := h
  replace h := ob h; obtain ⟨cs_2, hv_2, h⟩ := h
  replace hq := hq.trans (WF.pI (by decide) hv_2)
  replace h := ob h; obtain ⟨w_4, hw_4, h⟩ := h
  replace h := ob h; obtain ⟨z_3, hv_3, h⟩ := h
  replace hq := hq.trans (pf_c_X9_complete F cs_2 u0 58 u1 u2 u2 1 z_3.1 z_3.2 hv_3)
  have h9 := Option.some.inj h
  exact hq.to h9
theorem pf_cb_X9_readSign (F : Nat) (T : TC_X9_readExpr) (hM_X9_readExpr : ∀ (cs : CS) (x0 : Nat) (cs9 : CS) (r9 : Int32), T.1 cs x0 = some (cs9, r9) → WF pF cs cs9) (hM_X9_readConjunction : ∀ (cs : CS) (x0 : Nat) (cs9 : CS), T.2.1 cs x0 = some cs9 → WF pF cs cs9) (hM_X9_readNegation : ∀ (cs : CS) (x0 : Nat) (cs9 : CS), T.2.2.1 cs x0 = some cs9 → WF pF cs cs9) (hM_X9_readTest : ∀ (cs : CS) (x0 : Nat) (cs9 : CS), T.2.2.2.1 cs x0 = some cs9 → WF pF cs cs9) (hM_X9_readSum : ∀ (cs : CS) (x0 : Nat) (cs9 : CS), T.2.2.2.2.1 cs x0 = some cs9 → WF pF cs cs9) (hM_X9_readPart : ∀ (cs : CS) (x0 : Nat) (cs9 : CS), T.2.2.2.2.2.1 cs x0 = some cs9 → WF pF cs cs9) (hM_X9_readSign : ∀ (cs : CS) (x0 : Nat) (cs9 : CS), T.2.2.2.2.2.2.1 cs x0 = some cs9 → WF pF cs cs9) (hM_X9_readOne : ∀ (cs : CS) (x0 : Nat) (cs9 : CS), T.2.2.2.2.2.2.2.1 cs x0 = some cs9 → WF pF cs cs9) (hM_X9_readCase : ∀ (cs : CS) (x0 : Nat) (cs9 : CS), T.2.2.2.2.2.2.2.2.1 cs x0 = some cs9 → WF pF cs cs9) (hM_X9_readSpan : ∀ (cs : CS) (x0 : Nat) (cs9 : CS), T.2.2.2.2.2.2.2.2.2.1 cs x0 = some cs9 → WF pF cs cs9) (hM_X9_readAggregate : ∀ (cs : CS) (x0 : Nat) (cs9 : CS), T.2.2.2.2.2.2.2.2.2.2.1 cs x0 = some cs9 → WF pF cs cs9) (hM_X9_readList : ∀ (cs : CS) (x0 : Nat) (x1 : Int32) (x2 : Int32) (x3 : Int32) (x4 : Int32) (cs9 : CS), T.2.2.2.2.2.2.2.2.2.2.2 cs x0 x1 x2 x3 x4 = some cs9 → WF pF cs cs9) (cs : CS) (x0 : Nat) (cs9 : CS) (h : cb_X9_readSign F T cs x0 = some cs9) : WF pF cs cs9 := by
  unfold cb_X9_readSign at h
  have hq : WF pF cs cs := WF.refl
  replace h := ob h; obtain ⟨w_2, hw_2, h⟩ := h
  replace h := ob h; obtain ⟨v_1, hv_1, h⟩ := h
  by_cases c_3 : v_1 = 46
  · skip
    replace h := (if_pos c_3).symm.trans h
    replace h := ob h; obtain ⟨v_4, hv_4, h⟩ := h
    replace h := ob h; obtain ⟨i_5, hi_5, h⟩ := h
    subst hi_5
    replace h := ob h; obtain ⟨v_6, hv_6, h⟩ := h
    replace h := ob h; obtain ⟨w_8, hw_8, h⟩ := h
    replace h := ob h; obtain ⟨v_7, hv_7, h⟩ := h
    replace h := ob h; obtain ⟨w_10, hw_10, h⟩ := h
    replace h := ob h; obtain ⟨cs_9, hv_9, h⟩ := h
    replace hq := hq.trans (pf_c_X9_deepen F cs x0 cs_9 hv_9)
    replace h := ob h; obtain ⟨w_12, hw_12, h⟩ := h
    replace h := ob h; obtain ⟨z_11, hv_11, h⟩ := h
    replace hq := hq.trans (pf_c_X9_accept F cs_9 x0 46 z_11.1 z_11.2 hv_11)
    replace h := ob h; obtain ⟨v_13, hv_13, h⟩ := h
    by_cases c_14 : v_13 = 0
    · skip
      replace h := (if_pos c_14).symm.trans h
      replace h := ob h; obtain ⟨w_16, hw_16, h⟩ := h
      replace h := ob h; obtain ⟨cs_15, hv_15, h⟩ := h
      replace hq := hq.trans (hM_X9_readSign z_11.1 x0 cs_15 hv_15)
      have k9 := pf_c_X9_readSign_b49 F T hM_X9_readExpr hM_X9_readConjunction hM_X9_readNegation hM_X9_readTest hM_X9_readSum hM_X9_readPart hM_X9_readSign hM_X9_readOne hM_X9_readCase hM_X9_readSpan hM_X9_readAggregate hM_X9_readList cs_15 x0 v_6 v_7 cs9 h
      exact hq.trans k9
    · skip
      replace h := (if_neg c_14).symm.trans h
      have k9 := pf_c_X9_readSign_b49 F T hM_X9_readExpr hM_X9_readConjunction hM_X9_readNegation hM_X9_readTest hM_X9_readSum hM_X9_readPart hM_X9_readSign hM_X9_readOne hM_X9_readCase hM_X9_readSpan hM_X9_readAggregate hM_X9_readList z_11.1 x0 v_6 v_7 cs9 h
      exact hq.trans k9
  · skip
    replace h := (if_neg c_3).symm.trans h
    replace h := ob h; obtain ⟨w_18, hw_18, h⟩ := h
    replace h := ob h; obtain ⟨cs_17, hv_17, h⟩ := h
    replace hq := hq.trans (hM_X9_readOne cs x0 cs_17 hv_17)
    have h9 := Option.some.inj h
    exact hq.to h9
theorem pf_c_X9_readOne_b191 (F : Nat) (T : TC_X9_readExpr) (hM_X9_readExpr : ∀ (cs : CS) (x0 : Nat) (cs9 : CS) (r9 : Int32), T.1 cs x0 = some (cs9, r9) → WF pF cs cs9) (hM_X9_readConjunction : ∀ (cs : CS) (x0 : Nat) (cs9 : CS), T.2.1 cs x0 = some cs9 → WF pF cs cs9) (hM_X9_readNegation : ∀ (cs : CS) (x0 : Nat) (cs9 : CS), T.2.2.1 cs x0 = some cs9 → WF pF cs cs9) (hM_X9_readTest : ∀ (cs : CS) (x0 : Nat) (cs9 : CS), T.2.2.2.1 cs x0 = some cs9 → WF pF cs cs9) (hM_X9_readSum : ∀ (cs : CS) (x0 : Nat) (cs9 : CS), T.2.2.2.2.1 cs x0 = some cs9 → WF pF cs cs9) (hM_X9_readPart : ∀ (cs : CS) (x0 : Nat) (cs9 : CS), T.2.2.2.2.2.1 cs x0 = some cs9 → WF pF cs cs9) (hM_X9_readSign : ∀ (cs : CS) (x0 : Nat) (cs9 : CS), T.2.2.2.2.2.2.1 cs x0 = some cs9 → WF pF cs cs9) (hM_X9_readOne : ∀ (cs : CS) (x0 : Nat) (cs9 : CS), T.2.2.2.2.2.2.2.1 cs x0 = some cs9 → WF pF cs cs9) (hM_X9_readCase : ∀ (cs : CS) (x0 : Nat) (cs9 : CS), T.2.2.2.2.2.2.2.2.1 cs x0 = some cs9 → WF pF cs cs9) (hM_X9_readSpan : ∀ (cs : CS) (x0 : Nat) (cs9 : CS), T.2.2.2.2.2.2.2.2.2.1 cs x0 = some cs9 → WF pF cs cs9) (hM_X9_readAggregate : ∀ (cs : CS) (x0 : Nat) (cs9 : CS), T.2.2.2.2.2.2.2.2.2.2.1 cs x0 = some cs9 → WF pF cs cs9) (hM_X9_readList : ∀ (cs : CS) (x0 : Nat) (x1 : Int32) (x2 : Int32) (x3 : Int32) (x4 : Int32) (cs9 : CS), T.2.2.2.2.2.2.2.2.2.2.2 cs x0 x1 x2 x3 x4 = some cs9 → WF pF cs cs9) (cs1 : CS) (cs9 : CS) (h : c_X9_readOne_b191 F T cs1 = some cs9) : WF pF cs1 cs9 := by
  unfold c_X9_readOne_b191 at h
  have hq : WF pF cs1 cs1 := WF.refl
  have h9 := Option.some.inj h
  exact hq.to h9
theorem pf_c_X9_readOne_b112 (F : Nat) (T : TC_X9_readExpr) (hM_X9_readExpr : ∀ (cs : CS) (x0 : Nat) (cs9 : CS) (r9 : Int32), T.1 cs x0 = some (cs9, r9) → WF pF cs cs9) (hM_X9_readConjunction : ∀ (cs : CS) (x0 : Nat) (cs9 : CS), T.2.1 cs x0 = some cs9 → WF pF cs cs9) (hM_X9_readNegation : ∀ (cs : CS) (x0 : Nat) (cs9 : CS), T.2.2.1 cs x0 = some cs9 → WF pF cs cs9) (hM_X9_readTest : ∀ (cs : CS) (x0 : Nat) (cs9 : CS), T.2.2.2.1 cs x0 = some cs9 → WF pF cs cs9) (hM_X9_readSum : ∀ (cs : CS) (x0 : Nat) (cs9 : CS), T.2.2.2.2.1 cs x0 = some cs9 → WF pF cs cs9) (hM_X9_readPart : ∀ (cs : CS) (x0 : Nat) (cs9 : CS), T.2.2.2.2.2.1 cs x0 = some cs9 → WF pF cs cs9) (hM_X9_readSign : ∀ (cs : CS) (x0 : Nat) (cs9 : CS), T.2.2.2.2.2.2.1 cs x0 = some cs9 → WF pF cs cs9) (hM_X9_readOne : ∀ (cs : CS) (x0 : Nat) (cs9 : CS), T.2.2.2.2.2.2.2.1 cs x0 = some cs9 → WF pF cs cs9) (hM_X9_readCase : ∀ (cs : CS) (x0 : Nat) (cs9 : CS), T.2.2.2.2.2.2.2.2.1 cs x0 = some cs9 → WF pF cs cs9) (hM_X9_readSpan : ∀ (cs : CS) (x0 : Nat) (cs9 : CS), T.2.2.2.2.2.2.2.2.2.1 cs x0 = some cs9 → WF pF cs cs9) (hM_X9_readAggregate : ∀ (cs : CS) (x0 : Nat) (cs9 : CS), T.2.2.2.2.2.2.2.2.2.2.1 cs x0 = some cs9 → WF pF cs cs9) (hM_X9_readList : ∀ (cs : CS) (x0 : Nat) (x1 : Int32) (x2 : Int32) (x3 : Int32) (x4 : Int32) (cs9 : CS), T.2.2.2.2.2.2.2.2.2.2.2 cs x0 x1 x2 x3 x4 = some cs9 → WF pF cs cs9) (cs1 : CS) (u0 : Nat) (cs9 : CS) (h : c_X9_readOne_b112 F T cs1 u0 = some cs9) : WF pF cs1 cs9 := by
  unfold c_X9_readOne_b112 at h
  have hq : WF pF cs1 cs1 := WF.refl
  replace h := ob h; obtain ⟨w_2, hw_2, h⟩ := h
  replace h := ob h; obtain ⟨cs_1, hv_1, h⟩ := h
  replace hq := hq.trans (pf_c_X9_readLiteral F cs1 u0 cs_1 hv_1)
  have k9 := pf_c_X9_readOne_b191 F T hM_X9_readExpr hM_X9_readConjunction hM_X9_readNegation hM_X9_readTest hM_X9_readSum hM_X9_readPart hM_X9_readSign hM_X9_readOne hM_X9_readCase hM_X9_readSpan hM_X9_readAggregate hM_X9_readList cs_1 cs9 h
  exact hq.trans k9
theorem pf_c_X9_readOne_b119 (F : Nat) (T : TC_X9_readExpr) (hM_X9_readExpr : ∀ (cs : CS) (x0 : Nat) (cs9 : CS) (r9 : Int32), T.1 cs x0 = some (cs9, r9) → WF pF cs cs9) (hM_X9_readConjunction : ∀ (cs : CS) (x0 : Nat) (cs9 : CS), T.2.1 cs x0 = some cs9 → WF pF cs cs9) (hM_X9_readNegation : ∀ (cs : CS) (x0 : Nat) (cs9 : CS), T.2.2.1 cs x0 = some cs9 → WF pF cs cs9) (hM_X9_readTest : ∀ (cs : CS) (x0 : Nat) (cs9 : CS), T.2.2.2.1 cs x0 = some cs9 → WF pF cs cs9) (hM_X9_readSum : ∀ (cs : CS) (x0 : Nat) (cs9 : CS), T.2.2.2.2.1 cs x0 = some cs9 → WF pF cs cs9) (hM_X9_readPart : ∀ (cs : CS) (x0 : Nat) (cs9 : CS), T.2.2.2.2.2.1 cs x0 = some cs9 → WF pF cs cs9) (hM_X9_readSign : ∀ (cs : CS) (x0 : Nat) (cs9 : CS), T.2.2.2.2.2.2.1 cs x0 = some cs9 → WF pF cs cs9) (hM_X9_readOne : ∀ (cs : CS) (x0 : Nat) (cs9 : CS), T.2.2.2.2.2.2.2.1 cs x0 = some cs9 → WF pF cs cs9) (hM_X9_readCase : ∀ (cs : CS) (x0 : Nat) (cs9 : CS), T.2.2.2.2.2.2.2.2.1 cs x0 = some cs9 → WF pF cs cs9) (hM_X9_readSpan : ∀ (cs : CS) (x0 : Nat) (cs9 : CS), T.2.2.2.2.2.2.2.2.2.1 cs x0 = some cs9 → WF pF cs cs9) (hM_X9_readAggregate : ∀ (cs : CS) (x0 : Nat) (cs9 : CS), T.2.2.2.2.2.2.2.2.2.2.1 cs x0 = some cs9 → WF pF cs cs9) (hM_X9_readList : ∀ (cs : CS) (x0 : Nat) (x1 : Int32) (x2 : Int32) (x3 : Int32) (x4 : Int32) (cs9 : CS), T.2.2.2.2.2.2.2.2.2.2.2 cs x0 x1 x2 x3 x4 = some cs9 → WF pF cs cs9) (cs1 : CS) (u0 : Nat) (cs9 : CS) (h : c_X9_readOne_b119 F T cs1 u0 = some cs9) : WF pF cs1 cs9 := by
  unfold c_X9_readOne_b119 at h
  have hq : WF pF cs1 cs1 := WF.refl
  replace h := ob h; obtain ⟨w_2, hw_2, h⟩ := h
  replace h := ob h; obtain ⟨cs_1, hv_1, h⟩ := h
  replace hq := hq.trans (pf_c_X9_readColumn F cs1 u0 cs_1 hv_1)
  have k9 := pf_c_X9_readOne_b191 F T hM_X9_readExpr hM_X9_readConjunction hM_X9_readNegation hM_X9_readTest hM_X9_readSum hM_X9_readPart hM_X9_readSign hM_X9_readOne hM_X9_readCase hM_X9_readSpan hM_X9_readAggregate hM_X9_readList cs_1 cs9 h
  exact hq.trans k9
theorem pf_c_X9_readOne_b175 (F : Nat) (T : TC_X9_readExpr) (hM_X9_readExpr : ∀ (cs : CS) (x0 : Nat) (cs9 : CS) (r9 : Int32), T.1 cs x0 = some (cs9, r9) → WF pF cs cs9) (hM_X9_readConjunction : ∀ (cs : CS) (x0 : Nat) (cs9 : CS), T.2.1 cs x0 = some cs9 → WF pF cs cs9) (hM_X9_readNegation : ∀ (cs : CS) (x0 : Nat) (cs9 : CS), T.2.2.1 cs x0 = some cs9 → WF pF cs cs9) (hM_X9_readTest : ∀ (cs : CS) (x0 : Nat) (cs9 : CS), T.2.2.2.1 cs x0 = some cs9 → WF pF cs cs9) (hM_X9_readSum : ∀ (cs : CS) (x0 : Nat) (cs9 : CS), T.2.2.2.2.1 cs x0 = some cs9 → WF pF cs cs9) (hM_X9_readPart : ∀ (cs : CS) (x0 : Nat) (cs9 : CS), T.2.2.2.2.2.1 cs x0 = some cs9 → WF pF cs cs9) (hM_X9_readSign : ∀ (cs : CS) (x0 : Nat) (cs9 : CS), T.2.2.2.2.2.2.1 cs x0 = some cs9 → WF pF cs cs9) (hM_X9_readOne : ∀ (cs : CS) (x0 : Nat) (cs9 : CS), T.2.2.2.2.2.2.2.1 cs x0 = some cs9 → WF pF cs cs9) (hM_X9_readCase : ∀ (cs : CS) (x0 : Nat) (cs9 : CS), T.2.2.2.2.2.2.2.2.1 cs x0 = some cs9 → WF pF cs cs9) (hM_X9_readSpan : ∀ (cs : CS) (x0 : Nat) (cs9 : CS), T.2.2.2.2.2.2.2.2.2.1 cs x0 = some cs9 → WF pF cs cs9) (hM_X9_readAggregate : ∀ (cs : CS) (x0 : Nat) (cs9 : CS), T.2.2.2.2.2.2.2.2.2.2.1 cs x0 = some cs9 → WF pF cs cs9) (hM_X9_readList : ∀ (cs : CS) (x0 : Nat) (x1 : Int32) (x2 : Int32) (x3 : Int32) (x4 : Int32) (cs9 : CS), T.2.2.2.2.2.2.2.2.2.2.2 cs x0 x1 x2 x3 x4 = some cs9 → WF pF cs cs9) (cs1 : CS) (u0 : Nat) (cs9 : CS) (h : c_X9_readOne_b175 F T cs1 u0 = some cs9) : WF pF cs1 cs9 := by
  unfold c_X9_readOne_b175 at h
  have hq : WF pF cs1 cs1 := WF.refl
  replace h := ob h; obtain ⟨w_2, hw_2, h⟩ := h
  replace h := ob h; obtain ⟨cs_1, hv_1, h⟩ := h
  replace hq := hq.trans (hM_X9_readAggregate cs1 u0 cs_1 hv_1)
  have k9 := pf_c_X9_readOne_b191 F T hM_X9_readExpr hM_X9_readConjunction hM_X9_readNegation hM_X9_readTest hM_X9_readSum hM_X9_readPart hM_X9_readSign hM_X9_readOne hM_X9_readCase hM_X9_readSpan hM_X9_readAggregate hM_X9_readList cs_1 cs9 h
  exact hq.trans k9
theorem pf_c_X9_readOne_b182 (F : Nat) (T : TC_X9_readExpr) (hM_X9_readExpr : ∀ (cs : CS) (x0 : Nat) (cs9 : CS) (r9 : Int32), T.1 cs x0 = some (cs9, r9) → WF pF cs cs9) (hM_X9_readConjunction : ∀ (cs : CS) (x0 : Nat) (cs9 : CS), T.2.1 cs x0 = some cs9 → WF pF cs cs9) (hM_X9_readNegation : ∀ (cs : CS) (x0 : Nat) (cs9 : CS), T.2.2.1 cs x0 = some cs9 → WF pF cs cs9) (hM_X9_readTest : ∀ (cs : CS) (x0 : Nat) (cs9 : CS), T.2.2.2.1 cs x0 = some cs9 → WF pF cs cs9) (hM_X9_readSum : ∀ (cs : CS) (x0 : Nat) (cs9 : CS), T.2.2.2.2.1 cs x0 = some cs9 → WF pF cs cs9) (hM_X9_readPart : ∀ (cs : CS) (x0 : Nat) (cs9 : CS), T.2.2.2.2.2.1 cs x0 = some cs9 → WF pF cs cs9) (hM_X9_readSign : ∀ (cs : CS) (x0 : Nat) (cs9 : CS), T.2.2.2.2.2.2.1 cs x0 = some cs9 → WF pF cs cs9) (hM_X9_readOne : ∀ (cs : CS) (x0 : Nat) (cs9 : CS), T.2.2.2.2.2.2.2.1 cs x0 = some cs9 → WF pF cs cs9) (hM_X9_readCase : ∀ (cs : CS) (x0 : Nat) (cs9 : CS), T.2.2.2.2.2.2.2.2.1 cs x0 = some cs9 → WF pF cs cs9) (hM_X9_readSpan : ∀ (cs : CS) (x0 : Nat) (cs9 : CS), T.2.2.2.2.2.2.2.2.2.1 cs x0 = some cs9 → WF pF cs cs9) (hM_X9_readAggregate : ∀ (cs : CS) (x0 : Nat) (cs9 : CS), T.2.2.2.2.2.2.2.2.2.2.1 cs x0 = some cs9 → WF pF cs cs9) (hM_X9_readList : ∀ (cs : CS) (x0 : Nat) (x1 : Int32) (x2 : Int32) (x3 : Int32) (x4 : Int32) (cs9 : CS), T.2.2.2.2.2.2.2.2.2.2.2 cs x0 x1 x2 x3 x4 = some cs9 → WF pF cs cs9) (cs1 : CS) (u0 : Nat) (cs9 : CS) (h : c_X9_readOne_b182 F T cs1 u0 = some cs9) : WF pF cs1 cs9 := by
  unfold c_X9_readOne_b182 at h
  have hq : WF pF cs1 cs1 := WF.refl
  replace h := ob h; obtain ⟨w_2, hw_2, h⟩ := h
  replace h := ob h; obtain ⟨v_1, hv_1, h⟩ := h
  replace h := ob h; obtain ⟨w_4, hw_4, h⟩ := h
  replace h := ob h; obtain ⟨cs_3, hv_3, h⟩ := h
  replace hq := hq.trans (pf_c_X9_refuse F cs1 u0 1 v_1 cs_3 hv_3)
  have k9 := pf_c_X9_readOne_b191 F T hM_X9_readExpr hM_X9_readConjunction hM_X9_readNegation hM_X9_readTest hM_X9_readSum hM_X9_readPart hM_X9_readSign hM_X9_readOne hM_X9_readCase hM_X9_readSpan hM_X9_readAggregate hM_X9_readList cs_3 cs9 h
  exact hq.trans k9
theorem pf_cb_X9_readOne (F : Nat) (T : TC_X9_readExpr) (hM_X9_readExpr : ∀ (cs : CS) (x0 : Nat) (cs9 : CS) (r9 : Int32), T.1 cs x0 = some (cs9, r9) → WF pF cs cs9) (hM_X9_readConjunction : ∀ (cs : CS) (x0 : Nat) (cs9 : CS), T.2.1 cs x0 = some cs9 → WF pF cs cs9) (hM_X9_readNegation : ∀ (cs : CS) (x0 : Nat) (cs9 : CS), T.2.2.1 cs x0 = some cs9 → WF pF cs cs9) (hM_X9_readTest : ∀ (cs : CS) (x0 : Nat) (cs9 : CS), T.2.2.2.1 cs x0 = some cs9 → WF pF cs cs9) (hM_X9_readSum : ∀ (cs : CS) (x0 : Nat) (cs9 : CS), T.2.2.2.2.1 cs x0 = some cs9 → WF pF cs cs9) (hM_X9_readPart : ∀ (cs : CS) (x0 : Nat) (cs9 : CS), T.2.2.2.2.2.1 cs x0 = some cs9 → WF pF cs cs9) (hM_X9_readSign : ∀ (cs : CS) (x0 : Nat) (cs9 : CS), T.2.2.2.2.2.2.1 cs x0 = some cs9 → WF pF cs cs9) (hM_X9_readOne : ∀ (cs : CS) (x0 : Nat) (cs9 : CS), T.2.2.2.2.2.2.2.1 cs x0 = some cs9 → WF pF cs cs9) (hM_X9_readCase : ∀ (cs : CS) (x0 : Nat) (cs9 : CS), T.2.2.2.2.2.2.2.2.1 cs x0 = some cs9 → WF pF cs cs9) (hM_X9_readSpan : ∀ (cs : CS) (x0 : Nat) (cs9 : CS), T.2.2.2.2.2.2.2.2.2.1 cs x0 = some cs9 → WF pF cs cs9) (hM_X9_readAggregate : ∀ (cs : CS) (x0 : Nat) (cs9 : CS), T.2.2.2.2.2.2.2.2.2.2.1 cs x0 = some cs9 → WF pF cs cs9) (hM_X9_readList : ∀ (cs : CS) (x0 : Nat) (x1 : Int32) (x2 : Int32) (x3 : Int32) (x4 : Int32) (cs9 : CS), T.2.2.2.2.2.2.2.2.2.2.2 cs x0 x1 x2 x3 x4 = some cs9 → WF pF cs cs9) (cs : CS) (x0 : Nat) (cs9 : CS) (h : cb_X9_readOne F T cs x0 = some cs9) : WF pF cs cs9 := by
  unfold cb_X9_readOne at h
  have hq : WF pF cs cs := WF.refl
  replace h := ob h; obtain ⟨w_2, hw_2, h⟩ := h
  replace h := ob h; obtain ⟨v_1, hv_1, h⟩ := h
  by_cases c_3 : v_1 = 19
  · skip
    replace h := (if_pos c_3).symm.trans h
    replace h := ob h; obtain ⟨w_5, hw_5, h⟩ := h
    replace h := ob h; obtain ⟨cs_4, hv_4, h⟩ := h
    replace hq := hq.trans (hM_X9_readCase cs x0 cs_4 hv_4)
    have k9 := pf_c_X9_readOne_b191 F T hM_X9_readExpr hM_X9_readConjunction hM_X9_readNegation hM_X9_readTest hM_X9_readSum hM_X9_readPart hM_X9_readSign hM_X9_readOne hM_X9_readCase hM_X9_readSpan hM_X9_readAggregate hM_X9_readList cs_4 cs9 h
    exact hq.trans k9
  replace h := (if_neg c_3).symm.trans h
  by_cases c_6 : v_1 = 26
  · skip
    replace h := (if_pos c_6).symm.trans h
    have k9 := pf_c_X9_readOne_b112 F T hM_X9_readExpr hM_X9_readConjunction hM_X9_readNegation hM_X9_readTest hM_X9_readSum hM_X9_readPart hM_X9_readSign hM_X9_readOne hM_X9_readCase hM_X9_readSpan hM_X9_readAggregate hM_X9_readList cs x0 cs9 h
    exact hq.trans k9
  replace h := (if_neg c_6).symm.trans h
  by_cases c_7 : v_1 = 30
  · skip
    replace h := (if_pos c_7).symm.trans h
    have k9 := pf_c_X9_readOne_b112 F T hM_X9_readExpr hM_X9_readConjunction hM_X9_readNegation hM_X9_readTest hM_X9_readSum hM_X9_readPart hM_X9_readSign hM_X9_readOne hM_X9_readCase hM_X9_readSpan hM_X9_readAggregate hM_X9_readList cs x0 cs9 h
    exact hq.trans k9
  replace h := (if_neg c_7).symm.trans h
  by_cases c_8 : v_1 = 31
  · skip
    replace h := (if_pos c_8).symm.trans h
    have k9 := pf_c_X9_readOne_b112 F T hM_X9_readExpr hM_X9_readConjunction hM_X9_readNegation hM_X9_readTest hM_X9_readSum hM_X9_readPart hM_X9_readSign hM_X9_readOne hM_X9_readCase hM_X9_readSpan hM_X9_readAggregate hM_X9_readList cs x0 cs9 h
    exact hq.trans k9
  replace h := (if_neg c_8).symm.trans h
  by_cases c_9 : v_1 = 32
  · skip
    replace h := (if_pos c_9).symm.trans h
    have k9 := pf_c_X9_readOne_b175 F T hM_X9_readExpr hM_X9_readConjunction hM_X9_readNegation hM_X9_readTest hM_X9_readSum hM_X9_readPart hM_X9_readSign hM_X9_readOne hM_X9_readCase hM_X9_readSpan hM_X9_readAggregate hM_X9_readList cs x0 cs9 h
    exact hq.trans k9
  replace h := (if_neg c_9).symm.trans h
  by_cases c_10 : v_1 = 33
  · skip
    replace h := (if_pos c_10).symm.trans h
    have k9 := pf_c_X9_readOne_b175 F T hM_X9_readExpr hM_X9_readConjunction hM_X9_readNegation hM_X9_readTest hM_X9_readSum hM_X9_readPart hM_X9_readSign hM_X9_readOne hM_X9_readCase hM_X9_readSpan hM_X9_readAggregate hM_X9_readList cs x0 cs9 h
    exact hq.trans k9
  replace h := (if_neg c_10).symm.trans h
  by_cases c_11 : v_1 = 34
  · skip
    replace h := (if_pos c_11).symm.trans h
    have k9 := pf_c_X9_readOne_b175 F T hM_X9_readExpr hM_X9_readConjunction hM_X9_readNegation hM_X9_readTest hM_X9_readSum hM_X9_readPart hM_X9_readSign hM_X9_readOne hM_X9_readCase hM_X9_readSpan hM_X9_readAggregate hM_X9_readList cs x0 cs9 h
    exact hq.trans k9
  replace h := (if_neg c_11).symm.trans h
  by_cases c_12 : v_1 = 35
  · skip
    replace h := (if_pos c_12).symm.trans h
    have k9 := pf_c_X9_readOne_b175 F T hM_X9_readExpr hM_X9_readConjunction hM_X9_readNegation hM_X9_readTest hM_X9_readSum hM_X9_readPart hM_X9_readSign hM_X9_readOne hM_X9_readCase hM_X9_readSpan hM_X9_readAggregate hM_X9_readList cs x0 cs9 h
    exact hq.trans k9
  replace h := (if_neg c_12).symm.trans h
  by_cases c_13 : v_1 = 36
  · skip
    replace h := (if_pos c_13).symm.trans h
    replace h := ob h; obtain ⟨w_15, hw_15, h⟩ := h
    replace h := ob h; obtain ⟨cs_14, hv_14, h⟩ := h
    replace hq := hq.trans (hM_X9_readSpan cs x0 cs_14 hv_14)
    have k9 := pf_c_X9_readOne_b191 F T hM_X9_readExpr hM_X9_readConjunction hM_X9_readNegation hM_X9_readTest hM_X9_readSum hM_X9_readPart hM_X9_readSign hM_X9_readOne hM_X9_readCase hM_X9_readSpan hM_X9_readAggregate hM_X9_readList cs_14 cs9 h
    exact hq.trans k9
  replace h := (if_neg c_13).symm.trans h
  by_cases c_16 : v_1 = 38
  · skip
    replace h := (if_pos c_16).symm.trans h
    have k9 := pf_c_X9_readOne_b119 F T hM_X9_readExpr hM_X9_readConjunction hM_X9_readNegation hM_X9_readTest hM_X9_readSum hM_X9_readPart hM_X9_readSign hM_X9_readOne hM_X9_readCase hM_X9_readSpan hM_X9_readAggregate hM_X9_readList cs x0 cs9 h
    exact hq.trans k9
  replace h := (if_neg c_16).symm.trans h
  by_cases c_17 : v_1 = 39
  · skip
    replace h := (if_pos c_17).symm.trans h
    have k9 := pf_c_X9_readOne_b119 F T hM_X9_readExpr hM_X9_readConjunction hM_X9_readNegation hM_X9_readTest hM_X9_readSum hM_X9_readPart hM_X9_readSign hM_X9_readOne hM_X9_readCase hM_X9_readSpan hM_X9_readAggregate hM_X9_readList cs x0 cs9 h
    exact hq.trans k9
  replace h := (if_neg c_17).symm.trans h
  by_cases c_18 : v_1 = 40
  · skip
    replace h := (if_pos c_18).symm.trans h
    have k9 := pf_c_X9_readOne_b112 F T hM_X9_readExpr hM_X9_readConjunction hM_X9_readNegation hM_X9_readTest hM_X9_readSum hM_X9_readPart hM_X9_readSign hM_X9_readOne hM_X9_readCase hM_X9_readSpan hM_X9_readAggregate hM_X9_readList cs x0 cs9 h
    exact hq.trans k9
  replace h := (if_neg c_18).symm.trans h
  by_cases c_19 : v_1 = 41
  · skip
    replace h := (if_pos c_19).symm.trans h
    replace h := ob h; obtain ⟨w_21, hw_21, h⟩ := h
    replace h := ob h; obtain ⟨cs_20, hv_20, h⟩ := h
    replace hq := hq.trans (pf_c_X9_deepen F cs x0 cs_20 hv_20)
    replace h := ob h; obtain ⟨w_23, hw_23, h⟩ := h
    replace h := ob h; obtain ⟨z_22, hv_22, h⟩ := h
    replace hq := hq.trans (pf_c_X9_accept F cs_20 x0 41 z_22.1 z_22.2 hv_22)
    replace h := ob h; obtain ⟨w_25, hw_25, h⟩ := h
    replace h := ob h; obtain ⟨z_24, hv_24, h⟩ := h
    replace hq := hq.trans (hM_X9_readExpr z_22.1 x0 z_24.1 z_24.2 hv_24)
    replace h := ob h; obtain ⟨w_27, hw_27, h⟩ := h
    replace h := ob h; obtain ⟨cs_26, hv_26, h⟩ := h
    replace hq := hq.trans (pf_c_X9_expect F z_24.1 x0 42 cs_26 hv_26)
    replace h := ob h; obtain ⟨v_28, hv_28, h⟩ := h
    replace h := ob h; obtain ⟨cs_29, hv_29, h⟩ := h
    replace hq := hq.trans (WF.pI (by decide) hv_29)
    have k9 := pf_c_X9_readOne_b191 F T hM_X9_readExpr hM_X9_readConjunction hM_X9_readNegation hM_X9_readTest hM_X9_readSum hM_X9_readPart hM_X9_readSign hM_X9_readOne hM_X9_readCase hM_X9_readSpan hM_X9_readAggregate hM_X9_readList cs_29 cs9 h
    exact hq.trans k9
  replace h := (if_neg c_19).symm.trans h
  have k9 := pf_c_X9_readOne_b182 F T hM_X9_readExpr hM_X9_readConjunction hM_X9_readNegation hM_X9_readTest hM_X9_readSum hM_X9_readPart hM_X9_readSign hM_X9_readOne hM_X9_readCase hM_X9_readSpan hM_X9_readAggregate hM_X9_readList cs x0 cs9 h
  exact hq.trans k9
theorem pf_cb_X9_readCase (F : Nat) (T : TC_X9_readExpr) (hM_X9_readExpr : ∀ (cs : CS) (x0 : Nat) (cs9 : CS) (r9 : Int32), T.1 cs x0 = some (cs9, r9) → WF pF cs cs9) (hM_X9_readConjunction : ∀ (cs : CS) (x0 : Nat) (cs9 : CS), T.2.1 cs x0 = some cs9 → WF pF cs cs9) (hM_X9_readNegation : ∀ (cs : CS) (x0 : Nat) (cs9 : CS), T.2.2.1 cs x0 = some cs9 → WF pF cs cs9) (hM_X9_readTest : ∀ (cs : CS) (x0 : Nat) (cs9 : CS), T.2.2.2.1 cs x0 = some cs9 → WF pF cs cs9) (hM_X9_readSum : ∀ (cs : CS) (x0 : Nat) (cs9 : CS), T.2.2.2.2.1 cs x0 = some cs9 → WF pF cs cs9) (hM_X9_readPart : ∀ (cs : CS) (x0 : Nat) (cs9 : CS), T.2.2.2.2.2.1 cs x0 = some cs9 → WF pF cs cs9) (hM_X9_readSign : ∀ (cs : CS) (x0 : Nat) (cs9 : CS), T.2.2.2.2.2.2.1 cs x0 = some cs9 → WF pF cs cs9) (hM_X9_readOne : ∀ (cs : CS) (x0 : Nat) (cs9 : CS), T.2.2.2.2.2.2.2.1 cs x0 = some cs9 → WF pF cs cs9) (hM_X9_readCase : ∀ (cs : CS) (x0 : Nat) (cs9 : CS), T.2.2.2.2.2.2.2.2.1 cs x0 = some cs9 → WF pF cs cs9) (hM_X9_readSpan : ∀ (cs : CS) (x0 : Nat) (cs9 : CS), T.2.2.2.2.2.2.2.2.2.1 cs x0 = some cs9 → WF pF cs cs9) (hM_X9_readAggregate : ∀ (cs : CS) (x0 : Nat) (cs9 : CS), T.2.2.2.2.2.2.2.2.2.2.1 cs x0 = some cs9 → WF pF cs cs9) (hM_X9_readList : ∀ (cs : CS) (x0 : Nat) (x1 : Int32) (x2 : Int32) (x3 : Int32) (x4 : Int32) (cs9 : CS), T.2.2.2.2.2.2.2.2.2.2.2 cs x0 x1 x2 x3 x4 = some cs9 → WF pF cs cs9) (cs : CS) (x0 : Nat) (cs9 : CS) (h : cb_X9_readCase F T cs x0 = some cs9) : WF pF cs cs9 := by
  unfold cb_X9_readCase at h
  have hq : WF pF cs cs := WF.refl
  replace h := ob h; obtain ⟨v_1, hv_1, h⟩ := h
  replace h := ob h; obtain ⟨i_2, hi_2, h⟩ := h
  subst hi_2
  replace h := ob h; obtain ⟨v_3, hv_3, h⟩ := h
  replace h := ob h; obtain ⟨w_5, hw_5, h⟩ := h
  replace h := ob h; obtain ⟨v_4, hv_4, h⟩ := h
  replace h := ob h; obtain ⟨w_7, hw_7, h⟩ := h
  replace h := ob h; obtain ⟨cs_6, hv_6, h⟩ := h
  replace hq := hq.trans (pf_c_X9_deepen F cs x0 cs_6 hv_6)
  replace h := ob h; obtain ⟨w_9, hw_9, h⟩ := h
  replace h := ob h; obtain ⟨z_8, hv_8, h⟩ := h
  replace hq := hq.trans (pf_c_X9_accept F cs_6 x0 19 z_8.1 z_8.2 hv_8)
  replace h := ob h; obtain ⟨w_11, hw_11, h⟩ := h
  replace h := ob h; obtain ⟨cs_10, hv_10, h⟩ := h
  replace hq := hq.trans (pf_c_X9_expect F z_8.1 x0 20 cs_10 hv_10)
  replace h := ob h; obtain ⟨w_13, hw_13, h⟩ := h
  replace h := ob h; obtain ⟨z_12, hv_12, h⟩ := h
  replace hq := hq.trans (hM_X9_readExpr cs_10 x0 z_12.1 z_12.2 hv_12)
  replace h := ob h; obtain ⟨w_15, hw_15, h⟩ := h
  replace h := ob h; obtain ⟨cs_14, hv_14, h⟩ := h
  replace hq := hq.trans (pf_c_X9_expect F z_12.1 x0 21 cs_14 hv_14)
  replace h := ob h; obtain ⟨w_17, hw_17, h⟩ := h
  replace h := ob h; obtain ⟨z_16, hv_16, h⟩ := h
  replace hq := hq.trans (hM_X9_readExpr cs_14 x0 z_16.1 z_16.2 hv_16)
  replace h := ob h; obtain ⟨w_19, hw_19, h⟩ := h
  replace h := ob h; obtain ⟨cs_18, hv_18, h⟩ := h
  replace hq := hq.trans (pf_c_X9_expect F z_16.1 x0 22 cs_18 hv_18)
  replace h := ob h; obtain ⟨w_21, hw_21, h⟩ := h
  replace h := ob h; obtain ⟨z_20, hv_20, h⟩ := h
  replace hq := hq.trans (hM_X9_readExpr cs_18 x0 z_20.1 z_20.2 hv_20)
  replace h := ob h; obtain ⟨w_23, hw_23, h⟩ := h
  replace h := ob h; obtain ⟨cs_22, hv_22, h⟩ := h
  replace hq := hq.trans (pf_c_X9_expect F z_20.1 x0 23 cs_22 hv_22)
  replace h := ob h; obtain ⟨v_24, hv_24, h⟩ := h
  replace h := ob h; obtain ⟨cs_25, hv_25, h⟩ := h
  replace hq := hq.trans (WF.pI (by decide) hv_25)
  replace h := ob h; obtain ⟨w_27, hw_27, h⟩ := h
  replace h := ob h; obtain ⟨z_26, hv_26, h⟩ := h
  replace hq := hq.trans (pf_c_X9_complete F cs_25 x0 19 v_3 v_4 v_4 3 z_26.1 z_26.2 hv_26)
  have h9 := Option.some.inj h
  exact hq.to h9
theorem pf_cb_X9_readSpan (F : Nat) (T : TC_X9_readExpr) (hM_X9_readExpr : ∀ (cs : CS) (x0 : Nat) (cs9 : CS) (r9 : Int32), T.1 cs x0 = some (cs9, r9) → WF pF cs cs9) (hM_X9_readConjunction : ∀ (cs : CS) (x0 : Nat) (cs9 : CS), T.2.1 cs x0 = some cs9 → WF pF cs cs9) (hM_X9_readNegation : ∀ (cs : CS) (x0 : Nat) (cs9 : CS), T.2.2.1 cs x0 = some cs9 → WF pF cs cs9) (hM_X9_readTest : ∀ (cs : CS) (x0 : Nat) (cs9 : CS), T.2.2.2.1 cs x0 = some cs9 → WF pF cs cs9) (hM_X9_readSum : ∀ (cs : CS) (x0 : Nat) (cs9 : CS), T.2.2.2.2.1 cs x0 = some cs9 → WF pF cs cs9) (hM_X9_readPart : ∀ (cs : CS) (x0 : Nat) (cs9 : CS), T.2.2.2.2.2.1 cs x0 = some cs9 → WF pF cs cs9) (hM_X9_readSign : ∀ (cs : CS) (x0 : Nat) (cs9 : CS), T.2.2.2.2.2.2.1 cs x0 = some cs9 → WF pF cs cs9) (hM_X9_readOne : ∀ (cs : CS) (x0 : Nat) (cs9 : CS), T.2.2.2.2.2.2.2.1 cs x0 = some cs9 → WF pF cs cs9) (hM_X9_readCase : ∀ (cs : CS) (x0 : Nat) (cs9 : CS), T.2.2.2.2.2.2.2.2.1 cs x0 = some cs9 → WF pF cs cs9) (hM_X9_readSpan : ∀ (cs : CS) (x0 : Nat) (cs9 : CS), T.2.2.2.2.2.2.2.2.2.1 cs x0 = some cs9 → WF pF cs cs9) (hM_X9_readAggregate : ∀ (cs : CS) (x0 : Nat) (cs9 : CS), T.2.2.2.2.2.2.2.2.2.2.1 cs x0 = some cs9 → WF pF cs cs9) (hM_X9_readList : ∀ (cs : CS) (x0 : Nat) (x1 : Int32) (x2 : Int32) (x3 : Int32) (x4 : Int32) (cs9 : CS), T.2.2.2.2.2.2.2.2.2.2.2 cs x0 x1 x2 x3 x4 = some cs9 → WF pF cs cs9) (cs : CS) (x0 : Nat) (cs9 : CS) (h : cb_X9_readSpan F T cs x0 = some cs9) : WF pF cs cs9 := by
  unfold cb_X9_readSpan at h
  have hq : WF pF cs cs := WF.refl
  replace h := ob h; obtain ⟨v_1, hv_1, h⟩ := h
  replace h := ob h; obtain ⟨i_2, hi_2, h⟩ := h
  subst hi_2
  replace h := ob h; obtain ⟨v_3, hv_3, h⟩ := h
  replace h := ob h; obtain ⟨w_5, hw_5, h⟩ := h
  replace h := ob h; obtain ⟨v_4, hv_4, h⟩ := h
  replace h := ob h; obtain ⟨w_7, hw_7, h⟩ := h
  replace h := ob h; obtain ⟨cs_6, hv_6, h⟩ := h
  replace hq := hq.trans (pf_c_X9_deepen F cs x0 cs_6 hv_6)
  replace h := ob h; obtain ⟨w_9, hw_9, h⟩ := h
  replace h := ob h; obtain ⟨z_8, hv_8, h⟩ := h
  replace hq := hq.trans (pf_c_X9_accept F cs_6 x0 36 z_8.1 z_8.2 hv_8)
  replace h := ob h; obtain ⟨w_11, hw_11, h⟩ := h
  replace h := ob h; obtain ⟨cs_10, hv_10, h⟩ := h
  replace hq := hq.trans (pf_c_X9_expect F z_8.1 x0 41 cs_10 hv_10)
  replace h := ob h; obtain ⟨w_13, hw_13, h⟩ := h
  replace h := ob h; obtain ⟨z_12, hv_12, h⟩ := h
  replace hq := hq.trans (hM_X9_readExpr cs_10 x0 z_12.1 z_12.2 hv_12)
  replace h := ob h; obtain ⟨w_15, hw_15, h⟩ := h
  replace h := ob h; obtain ⟨cs_14, hv_14, h⟩ := h
  replace hq := hq.trans (pf_c_X9_expect F z_12.1 x0 43 cs_14 hv_14)
  replace h := ob h; obtain ⟨w_17, hw_17, h⟩ := h
  replace h := ob h; obtain ⟨z_16, hv_16, h⟩ := h
  replace hq := hq.trans (hM_X9_readExpr cs_14 x0 z_16.1 z_16.2 hv_16)
  replace h := ob h; obtain ⟨w_19, hw_19, h⟩ := h
  replace h := ob h; obtain ⟨cs_18, hv_18, h⟩ := h
  replace hq := hq.trans (pf_c_X9_expect F z_16.1 x0 42 cs_18 hv_18)
  replace h := ob h; obtain ⟨v_20, hv_20, h⟩ := h
  replace h := ob h; obtain ⟨cs_21, hv_21, h⟩ := h
  replace hq := hq.trans (WF.pI (by decide) hv_21)
  replace h := ob h; obtain ⟨w_23, hw_23, h⟩ := h
  replace h := ob h; obtain ⟨z_22, hv_22, h⟩ := h
  replace hq := hq.trans (pf_c_X9_complete F cs_21 x0 36 v_3 v_4 v_4 2 z_22.1 z_22.2 hv_22)
  have h9 := Option.some.inj h
  exact hq.to h9
theorem pf_c_X9_readAggregate_b36 (F : Nat) (T : TC_X9_readExpr) (hM_X9_readExpr : ∀ (cs : CS) (x0 : Nat) (cs9 : CS) (r9 : Int32), T.1 cs x0 = some (cs9, r9) → WF pF cs cs9) (hM_X9_readConjunction : ∀ (cs : CS) (x0 : Nat) (cs9 : CS), T.2.1 cs x0 = some cs9 → WF pF cs cs9) (hM_X9_readNegation : ∀ (cs : CS) (x0 : Nat) (cs9 : CS), T.2.2.1 cs x0 = some cs9 → WF pF cs cs9) (hM_X9_readTest : ∀ (cs : CS) (x0 : Nat) (cs9 : CS), T.2.2.2.1 cs x0 = some cs9 → WF pF cs cs9) (hM_X9_readSum : ∀ (cs : CS) (x0 : Nat) (cs9 : CS), T.2.2.2.2.1 cs x0 = some cs9 → WF pF cs cs9) (hM_X9_readPart : ∀ (cs : CS) (x0 : Nat) (cs9 : CS), T.2.2.2.2.2.1 cs x0 = some cs9 → WF pF cs cs9) (hM_X9_readSign : ∀ (cs : CS) (x0 : Nat) (cs9 : CS), T.2.2.2.2.2.2.1 cs x0 = some cs9 → WF pF cs cs9) (hM_X9_readOne : ∀ (cs : CS) (x0 : Nat) (cs9 : CS), T.2.2.2.2.2.2.2.1 cs x0 = some cs9 → WF pF cs cs9) (hM_X9_readCase : ∀ (cs : CS) (x0 : Nat) (cs9 : CS), T.2.2.2.2.2.2.2.2.1 cs x0 = some cs9 → WF pF cs cs9) (hM_X9_readSpan : ∀ (cs : CS) (x0 : Nat) (cs9 : CS), T.2.2.2.2.2.2.2.2.2.1 cs x0 = some cs9 → WF pF cs cs9) (hM_X9_readAggregate : ∀ (cs : CS) (x0 : Nat) (cs9 : CS), T.2.2.2.2.2.2.2.2.2.2.1 cs x0 = some cs9 → WF pF cs cs9) (hM_X9_readList : ∀ (cs : CS) (x0 : Nat) (x1 : Int32) (x2 : Int32) (x3 : Int32) (x4 : Int32) (cs9 : CS), T.2.2.2.2.2.2.2.2.2.2.2 cs x0 x1 x2 x3 x4 = some cs9 → WF pF cs cs9) (cs1 : CS) (u0 : Nat) (u3 : Int32) (cs9 : CS) (h : c_X9_readAggregate_b36 F T cs1 u0 u3 = some cs9) : WF pF cs1 cs9 := by
  unfold c_X9_readAggregate_b36 at h
  have hq : WF pF cs1 cs1 := WF.refl
  replace h := ob h; obtain ⟨w_2, hw_2, h⟩ := h
  replace h := ob h; obtain ⟨cs_1, hv_1, h⟩ := h
  replace hq := hq.trans (pf_c_X9_refuse F cs1 u0 1 u3 cs_1 hv_1)
  have h9 := Option.some.inj h
  exact hq.to h9
theorem pf_c_X9_readAggregate_b159 (F : Nat) (T : TC_X9_readExpr) (hM_X9_readExpr : ∀ (cs : CS) (x0 : Nat) (cs9 : CS) (r9 : Int32), T.1 cs x0 = some (cs9, r9) → WF pF cs cs9) (hM_X9_readConjunction : ∀ (cs : CS) (x0 : Nat) (cs9 : CS), T.2.1 cs x0 = some cs9 → WF pF cs cs9) (hM_X9_readNegation : ∀ (cs : CS) (x0 : Nat) (cs9 : CS), T.2.2.1 cs x0 = some cs9 → WF pF cs cs9) (hM_X9_readTest : ∀ (cs : CS) (x0 : Nat) (cs9 : CS), T.2.2.2.1 cs x0 = some cs9 → WF pF cs cs9) (hM_X9_readSum : ∀ (cs : CS) (x0 : Nat) (cs9 : CS), T.2.2.2.2.1 cs x0 = some cs9 → WF pF cs cs9) (hM_X9_readPart : ∀ (cs : CS) (x0 : Nat) (cs9 : CS), T.2.2.2.2.2.1 cs x0 = some cs9 → WF pF cs cs9) (hM_X9_readSign : ∀ (cs : CS) (x0 : Nat) (cs9 : CS), T.2.2.2.2.2.2.1 cs x0 = some cs9 → WF pF cs cs9) (hM_X9_readOne : ∀ (cs : CS) (x0 : Nat) (cs9 : CS), T.2.2.2.2.2.2.2.1 cs x0 = some cs9 → WF pF cs cs9) (hM_X9_readCase : ∀ (cs : CS) (x0 : Nat) (cs9 : CS), T.2.2.2.2.2.2.2.2.1 cs x0 = some cs9 → WF pF cs cs9) (hM_X9_readSpan : ∀ (cs : CS) (x0 : Nat) (cs9 : CS), T.2.2.2.2.2.2.2.2.2.1 cs x0 = some cs9 → WF pF cs cs9) (hM_X9_readAggregate : ∀ (cs : CS) (x0 : Nat) (cs9 : CS), T.2.2.2.2.2.2.2.2.2.2.1 cs x0 = some cs9 → WF pF cs cs9) (hM_X9_readList : ∀ (cs : CS) (x0 : Nat) (x1 : Int32) (x2 : Int32) (x3 : Int32) (x4 : Int32) (cs9 : CS), T.2.2.2.2.2.2.2.2.2.2.2 cs x0 x1 x2 x3 x4 = some cs9 → WF pF cs cs9) (cs1 : CS) (u0 : Nat) (u2 : Int32) (u4 : Nat) (y0 : Int32) (y1 : Int32) (y2 : Int32) (y3 : Int32) (y4 : Int32) (y5 : Nat) (cs9 : CS) (h : c_X9_readAggregate_b159 F T cs1 u0 u2 u4 y0 y1 y2 y3 y4 y5 = some cs9) : WF pF cs1 cs9 := by
  unfold c_X9_readAggregate_b159 at h
  have hq : WF pF cs1 cs1 := WF.refl
  replace h := ob h; obtain ⟨w_2, hw_2, h⟩ := h
  replace h := ob h; obtain ⟨z_1, hv_1, h⟩ := h
  replace hq := hq.trans (pf_c_X9_complete F cs1 y5 y4 y3 y2 y1 y0 z_1.1 z_1.2 hv_1)
  replace h := ob h; obtain ⟨w_4, hw_4, h⟩ := h
  replace h := ob h; obtain ⟨cs_3, hv_3, h⟩ := h
  replace hq := hq.trans (pf_c_X9_noteAggregate F z_1.1 u0 u4 z_1.2 u2 cs_3 hv_3)
  have h9 := Option.some.inj h
  exact hq.to h9
theorem pf_c_X9_readAggregate_b146 (F : Nat) (T : TC_X9_readExpr) (hM_X9_readExpr : ∀ (cs : CS) (x0 : Nat) (cs9 : CS) (r9 : Int32), T.1 cs x0 = some (cs9, r9) → WF pF cs cs9) (hM_X9_readConjunction : ∀ (cs : CS) (x0 : Nat) (cs9 : CS), T.2.1 cs x0 = some cs9 → WF pF cs cs9) (hM_X9_readNegation : ∀ (cs : CS) (x0 : Nat) (cs9 : CS), T.2.2.1 cs x0 = some cs9 → WF pF cs cs9) (hM_X9_readTest : ∀ (cs : CS) (x0 : Nat) (cs9 : CS), T.2.2.2.1 cs x0 = some cs9 → WF pF cs cs9) (hM_X9_readSum : ∀ (cs : CS) (x0 : Nat) (cs9 : CS), T.2.2.2.2.1 cs x0 = some cs9 → WF pF cs cs9) (hM_X9_readPart : ∀ (cs : CS) (x0 : Nat) (cs9 : CS), T.2.2.2.2.2.1 cs x0 = some cs9 → WF pF cs cs9) (hM_X9_readSign : ∀ (cs : CS) (x0 : Nat) (cs9 : CS), T.2.2.2.2.2.2.1 cs x0 = some cs9 → WF pF cs cs9) (hM_X9_readOne : ∀ (cs : CS) (x0 : Nat) (cs9 : CS), T.2.2.2.2.2.2.2.1 cs x0 = some cs9 → WF pF cs cs9) (hM_X9_readCase : ∀ (cs : CS) (x0 : Nat) (cs9 : CS), T.2.2.2.2.2.2.2.2.1 cs x0 = some cs9 → WF pF cs cs9) (hM_X9_readSpan : ∀ (cs : CS) (x0 : Nat) (cs9 : CS), T.2.2.2.2.2.2.2.2.2.1 cs x0 = some cs9 → WF pF cs cs9) (hM_X9_readAggregate : ∀ (cs : CS) (x0 : Nat) (cs9 : CS), T.2.2.2.2.2.2.2.2.2.2.1 cs x0 = some cs9 → WF pF cs cs9) (hM_X9_readList : ∀ (cs : CS) (x0 : Nat) (x1 : Int32) (x2 : Int32) (x3 : Int32) (x4 : Int32) (cs9 : CS), T.2.2.2.2.2.2.2.2.2.2.2 cs x0 x1 x2 x3 x4 = some cs9 → WF pF cs cs9) (cs1 : CS) (u0 : Nat) (u2 : Int32) (u3 : Int32) (u4 : Nat) (u5 : Int32) (y0 : Int32) (y1 : Nat) (cs9 : CS) (h : c_X9_readAggregate_b146 F T cs1 u0 u2 u3 u4 u5 y0 y1 = some cs9) : WF pF cs1 cs9 := by
  unfold c_X9_readAggregate_b146 at h
  have hq : WF pF cs1 cs1 := WF.refl
  by_cases c_1 : u5 = 0
  · skip
    replace h := (if_pos c_1).symm.trans h
    have k9 := pf_c_X9_readAggregate_b159 F T hM_X9_readExpr hM_X9_readConjunction hM_X9_readNegation hM_X9_readTest hM_X9_readSum hM_X9_readPart hM_X9_readSign hM_X9_readOne hM_X9_readCase hM_X9_readSpan hM_X9_readAggregate hM_X9_readList cs1 u0 u2 u4 1 u3 u3 u2 y0 y1 cs9 h
    exact hq.trans k9
  · skip
    replace h := (if_neg c_1).symm.trans h
    have k9 := pf_c_X9_readAggregate_b159 F T hM_X9_readExpr hM_X9_readConjunction hM_X9_readNegation hM_X9_readTest hM_X9_readSum hM_X9_readPart hM_X9_readSign hM_X9_readOne hM_X9_readCase hM_X9_readSpan hM_X9_readAggregate hM_X9_readList cs1 u0 u2 u4 0 u3 u3 u2 y0 y1 cs9 h
    exact hq.trans k9
theorem pf_c_X9_readAggregate_b113 (F : Nat) (T : TC_X9_readExpr) (hM_X9_readExpr : ∀ (cs : CS) (x0 : Nat) (cs9 : CS) (r9 : Int32), T.1 cs x0 = some (cs9, r9) → WF pF cs cs9) (hM_X9_readConjunction : ∀ (cs : CS) (x0 : Nat) (cs9 : CS), T.2.1 cs x0 = some cs9 → WF pF cs cs9) (hM_X9_readNegation : ∀ (cs : CS) (x0 : Nat) (cs9 : CS), T.2.2.1 cs x0 = some cs9 → WF pF cs cs9) (hM_X9_readTest : ∀ (cs : CS) (x0 : Nat) (cs9 : CS), T.2.2.2.1 cs x0 = some cs9 → WF pF cs cs9) (hM_X9_readSum : ∀ (cs : CS) (x0 : Nat) (cs9 : CS), T.2.2.2.2.1 cs x0 = some cs9 → WF pF cs cs9) (hM_X9_readPart : ∀ (cs : CS) (x0 : Nat) (cs9 : CS), T.2.2.2.2.2.1 cs x0 = some cs9 → WF pF cs cs9) (hM_X9_readSign : ∀ (cs : CS) (x0 : Nat) (cs9 : CS), T.2.2.2.2.2.2.1 cs x0 = some cs9 → WF pF cs cs9) (hM_X9_readOne : ∀ (cs : CS) (x0 : Nat) (cs9 : CS), T.2.2.2.2.2.2.2.1 cs x0 = some cs9 → WF pF cs cs9) (hM_X9_readCase : ∀ (cs : CS) (x0 : Nat) (cs9 : CS), T.2.2.2.2.2.2.2.2.1 cs x0 = some cs9 → WF pF cs cs9) (hM_X9_readSpan : ∀ (cs : CS) (x0 : Nat) (cs9 : CS), T.2.2.2.2.2.2.2.2.2.1 cs x0 = some cs9 → WF pF cs cs9) (hM_X9_readAggregate : ∀ (cs : CS) (x0 : Nat) (cs9 : CS), T.2.2.2.2.2.2.2.2.2.2.1 cs x0 = some cs9 → WF pF cs cs9) (hM_X9_readList : ∀ (cs : CS) (x0 : Nat) (x1 : Int32) (x2 : Int32) (x3 : Int32) (x4 : Int32) (cs9 : CS), T.2.2.2.2.2.2.2.2.2.2.2 cs x0 x1 x2 x3 x4 = some cs9 → WF pF cs cs9) (cs1 : CS) (u0 : Nat) (u1 : Int32) (u2 : Int32) (u3 : Int32) (u4 : Nat) (u5 : Int32) (cs9 : CS) (h : c_X9_readAggregate_b113 F T cs1 u0 u1 u2 u3 u4 u5 = some cs9) : WF pF cs1 cs9 := by
  unfold c_X9_readAggregate_b113 at h
  have hq : WF pF cs1 cs1 := WF.refl
  replace h := ob h; obtain ⟨cs_1, hv_1, h⟩ := h
  replace hq := hq.trans (WF.pI (by decide) hv_1)
  replace h := ob h; obtain ⟨w_3, hw_3, h⟩ := h
  replace h := ob h; obtain ⟨cs_2, hv_2, h⟩ := h
  replace hq := hq.trans (pf_c_X9_expect F cs_1 u0 42 cs_2 hv_2)
  replace h := ob h; obtain ⟨v_4, hv_4, h⟩ := h
  replace h := ob h; obtain ⟨cs_5, hv_5, h⟩ := h
  replace hq := hq.trans (WF.pI (by decide) hv_5)
  by_cases c_6 : u5 = 0
  · skip
    replace h := (if_pos c_6).symm.trans h
    have k9 := pf_c_X9_readAggregate_b146 F T hM_X9_readExpr hM_X9_readConjunction hM_X9_readNegation hM_X9_readTest hM_X9_readSum hM_X9_readPart hM_X9_readSign hM_X9_readOne hM_X9_readCase hM_X9_readSpan hM_X9_readAggregate hM_X9_readList cs_5 u0 u2 u3 u4 u5 u1 u0 cs9 h
    exact hq.trans k9
  · skip
    replace h := (if_neg c_6).symm.trans h
    have k9 := pf_c_X9_readAggregate_b146 F T hM_X9_readExpr hM_X9_readConjunction hM_X9_readNegation hM_X9_readTest hM_X9_readSum hM_X9_readPart hM_X9_readSign hM_X9_readOne hM_X9_readCase hM_X9_readSpan hM_X9_readAggregate hM_X9_readList cs_5 u0 u2 u3 u4 u5 61 u0 cs9 h
    exact hq.trans k9
theorem pf_c_X9_readAggregate_b101 (F : Nat) (T : TC_X9_readExpr) (hM_X9_readExpr : ∀ (cs : CS) (x0 : Nat) (cs9 : CS) (r9 : Int32), T.1 cs x0 = some (cs9, r9) → WF pF cs cs9) (hM_X9_readConjunction : ∀ (cs : CS) (x0 : Nat) (cs9 : CS), T.2.1 cs x0 = some cs9 → WF pF cs cs9) (hM_X9_readNegation : ∀ (cs : CS) (x0 : Nat) (cs9 : CS), T.2.2.1 cs x0 = some cs9 → WF pF cs cs9) (hM_X9_readTest : ∀ (cs : CS) (x0 : Nat) (cs9 : CS), T.2.2.2.1 cs x0 = some cs9 → WF pF cs cs9) (hM_X9_readSum : ∀ (cs : CS) (x0 : Nat) (cs9 : CS), T.2.2.2.2.1 cs x0 = some cs9 → WF pF cs cs9) (hM_X9_readPart : ∀ (cs : CS) (x0 : Nat) (cs9 : CS), T.2.2.2.2.2.1 cs x0 = some cs9 → WF pF cs cs9) (hM_X9_readSign : ∀ (cs : CS) (x0 : Nat) (cs9 : CS), T.2.2.2.2.2.2.1 cs x0 = some cs9 → WF pF cs cs9) (hM_X9_readOne : ∀ (cs : CS) (x0 : Nat) (cs9 : CS), T.2.2.2.2.2.2.2.1 cs x0 = some cs9 → WF pF cs cs9) (hM_X9_readCase : ∀ (cs : CS) (x0 : Nat) (cs9 : CS), T.2.2.2.2.2.2.2.2.1 cs x0 = some cs9 → WF pF cs cs9) (hM_X9_readSpan : ∀ (cs : CS) (x0 : Nat) (cs9 : CS), T.2.2.2.2.2.2.2.2.2.1 cs x0 = some cs9 → WF pF cs cs9) (hM_X9_readAggregate : ∀ (cs : CS) (x0 : Nat) (cs9 : CS), T.2.2.2.2.2.2.2.2.2.2.1 cs x0 = some cs9 → WF pF cs cs9) (hM_X9_readList : ∀ (cs : CS) (x0 : Nat) (x1 : Int32) (x2 : Int32) (x3 : Int32) (x4 : Int32) (cs9 : CS), T.2.2.2.2.2.2.2.2.2.2.2 cs x0 x1 x2 x3 x4 = some cs9 → WF pF cs cs9) (cs1 : CS) (u0 : Nat) (u1 : Int32) (u2 : Int32) (u3 : Int32) (u4 : Nat) (y0 : Int32) (cs9 : CS) (h : c_X9_readAggregate_b101 F T cs1 u0 u1 u2 u3 u4 y0 = some cs9) : WF pF cs1 cs9 := by
  unfold c_X9_readAggregate_b101 at h
  have hq : WF pF cs1 cs1 := WF.refl
  by_cases c_1 : y0 = 0
  · skip
    replace h := (if_pos c_1).symm.trans h
    replace h := ob h; obtain ⟨w_3, hw_3, h⟩ := h
    replace h := ob h; obtain ⟨z_2, hv_2, h⟩ := h
    replace hq := hq.trans (hM_X9_readExpr cs1 u0 z_2.1 z_2.2 hv_2)
    have k9 := pf_c_X9_readAggregate_b113 F T hM_X9_readExpr hM_X9_readConjunction hM_X9_readNegation hM_X9_readTest hM_X9_readSum hM_X9_readPart hM_X9_readSign hM_X9_readOne hM_X9_readCase hM_X9_readSpan hM_X9_readAggregate hM_X9_readList z_2.1 u0 u1 u2 u3 u4 y0 cs9 h
    exact hq.trans k9
  · skip
    replace h := (if_neg c_1).symm.trans h
    have k9 := pf_c_X9_readAggregate_b113 F T hM_X9_readExpr hM_X9_readConjunction hM_X9_readNegation hM_X9_readTest hM_X9_readSum hM_X9_readPart hM_X9_readSign hM_X9_readOne hM_X9_readCase hM_X9_readSpan hM_X9_readAggregate hM_X9_readList cs1 u0 u1 u2 u3 u4 y0 cs9 h
    exact hq.trans k9
theorem pf_c_X9_readAggregate_b100 (F : Nat) (T : TC_X9_readExpr) (hM_X9_readExpr : ∀ (cs : CS) (x0 : Nat) (cs9 : CS) (r9 : Int32), T.1 cs x0 = some (cs9, r9) → WF pF cs cs9) (hM_X9_readConjunction : ∀ (cs : CS) (x0 : Nat) (cs9 : CS), T.2.1 cs x0 = some cs9 → WF pF cs cs9) (hM_X9_readNegation : ∀ (cs : CS) (x0 : Nat) (cs9 : CS), T.2.2.1 cs x0 = some cs9 → WF pF cs cs9) (hM_X9_readTest : ∀ (cs : CS) (x0 : Nat) (cs9 : CS), T.2.2.2.1 cs x0 = some cs9 → WF pF cs cs9) (hM_X9_readSum : ∀ (cs : CS) (x0 : Nat) (cs9 : CS), T.2.2.2.2.1 cs x0 = some cs9 → WF pF cs cs9) (hM_X9_readPart : ∀ (cs : CS) (x0 : Nat) (cs9 : CS), T.2.2.2.2.2.1 cs x0 = some cs9 → WF pF cs cs9) (hM_X9_readSign : ∀ (cs : CS) (x0 : Nat) (cs9 : CS), T.2.2.2.2.2.2.1 cs x0 = some cs9 → WF pF cs cs9) (hM_X9_readOne : ∀ (cs : CS) (x0 : Nat) (cs9 : CS), T.2.2.2.2.2.2.2.1 cs x0 = some cs9 → WF pF cs cs9) (hM_X9_readCase : ∀ (cs : CS) (x0 : Nat) (cs9 : CS), T.2.2.2.2.2.2.2.2.1 cs x0 = some cs9 → WF pF cs cs9) (hM_X9_readSpan : ∀ (cs : CS) (x0 : Nat) (cs9 : CS), T.2.2.2.2.2.2.2.2.2.1 cs x0 = some cs9 → WF pF cs cs9) (hM_X9_readAggregate : ∀ (cs : CS) (x0 : Nat) (cs9 : CS), T.2.2.2.2.2.2.2.2.2.2.1 cs x0 = some cs9 → WF pF cs cs9) (hM_X9_readList : ∀ (cs : CS) (x0 : Nat) (x1 : Int32) (x2 : Int32) (x3 : Int32) (x4 : Int32) (cs9 : CS), T.2.2.2.2.2.2.2.2.2.2.2 cs x0 x1 x2 x3 x4 = some cs9 → WF pF cs cs9) (cs1 : CS) (u0 : Nat) (u1 : Int32) (u2 : Int32) (u3 : Int32) (u4 : Nat) (cs9 : CS) (h : c_X9_readAggregate_b100 F T cs1 u0 u1 u2 u3 u4 = some cs9) : WF pF cs1 cs9 := by
  unfold c_X9_readAggregate_b100 at h
  have hq : WF pF cs1 cs1 := WF.refl
  have k9 := pf_c_X9_readAggregate_b101 F T hM_X9_readExpr hM_X9_readConjunction hM_X9_readNegation hM_X9_readTest hM_X9_readSum hM_X9_readPart hM_X9_readSign hM_X9_readOne hM_X9_readCase hM_X9_readSpan hM_X9_readAggregate hM_X9_readList cs1 u0 u1 u2 u3 u4 0 cs9 h
  exact hq.trans k9
theorem pf_c_X9_readAggregate_b60 (F : Nat) (T : TC_X9_readExpr) (hM_X9_readExpr : ∀ (cs : CS) (x0 : Nat) (cs9 : CS) (r9 : Int32), T.1 cs x0 = some (cs9, r9) → WF pF cs cs9) (hM_X9_readConjunction : ∀ (cs : CS) (x0 : Nat) (cs9 : CS), T.2.1 cs x0 = some cs9 → WF pF cs cs9) (hM_X9_readNegation : ∀ (cs : CS) (x0 : Nat) (cs9 : CS), T.2.2.1 cs x0 = some cs9 → WF pF cs cs9) (hM_X9_readTest : ∀ (cs : CS) (x0 : Nat) (cs9 : CS), T.2.2.2.1 cs x0 = some cs9 → WF pF cs cs9) (hM_X9_readSum : ∀ (cs : CS) (x0 : Nat) (cs9 : CS), T.2.2.2.2.1 cs x0 = some cs9 → WF pF cs cs9) (hM_X9_readPart : ∀ (cs : CS) (x0 : Nat) (cs9 : CS), T.2.2.2.2.2.1 cs x0 = some cs9 → WF pF cs cs9) (hM_X9_readSign : ∀ (cs : CS) (x0 : Nat) (cs9 : CS), T.2.2.2.2.2.2.1 cs x0 = some cs9 → WF pF cs cs9) (hM_X9_readOne : ∀ (cs : CS) (x0 : Nat) (cs9 : CS), T.2.2.2.2.2.2.2.1 cs x0 = some cs9 → WF pF cs cs9) (hM_X9_readCase : ∀ (cs : CS) (x0 : Nat) (cs9 : CS), T.2.2.2.2.2.2.2.2.1 cs x0 = some cs9 → WF pF cs cs9) (hM_X9_readSpan : ∀ (cs : CS) (x0 : Nat) (cs9 : CS), T.2.2.2.2.2.2.2.2.2.1 cs x0 = some cs9 → WF pF cs cs9) (hM_X9_readAggregate : ∀ (cs : CS) (x0 : Nat) (cs9 : CS), T.2.2.2.2.2.2.2.2.2.2.1 cs x0 = some cs9 → WF pF cs cs9) (hM_X9_readList : ∀ (cs : CS) (x0 : Nat) (x1 : Int32) (x2 : Int32) (x3 : Int32) (x4 : Int32) (cs9 : CS), T.2.2.2.2.2.2.2.2.2.2.2 cs x0 x1 x2 x3 x4 = some cs9 → WF pF cs cs9) (cs1 : CS) (u0 : Nat) (u1 : Int32) (u2 : Int32) (u3 : Int32) (u4 : Nat) (cs9 : CS) (h : c_X9_readAggregate_b60 F T cs1 u0 u1 u2 u3 u4 = some cs9) : WF pF cs1 cs9 := by
  unfold c_X9_readAggregate_b60 at h
  have hq : WF pF cs1 cs1 := WF.refl
  replace h := ob h; obtain ⟨w_2, hw_2, h⟩ := h
  replace h := ob h; obtain ⟨cs_1, hv_1, h⟩ := h
  replace hq := hq.trans (pf_c_X9_deepen F cs1 u0 cs_1 hv_1)
  replace h := ob h; obtain ⟨w_4, hw_4, h⟩ := h
  replace h := ob h; obtain ⟨z_3, hv_3, h⟩ := h
  replace hq := hq.trans (pf_c_X9_accept F cs_1 u0 u1 z_3.1 z_3.2 hv_3)
  replace h := ob h; obtain ⟨w_6, hw_6, h⟩ := h
  replace h := ob h; obtain ⟨cs_5, hv_5, h⟩ := h
  replace hq := hq.trans (pf_c_X9_expect F z_3.1 u0 41 cs_5 hv_5)
  replace h := ob h; obtain ⟨cs_7, hv_7, h⟩ := h
  replace hq := hq.trans (WF.pI (by decide) hv_7)
  by_cases c_8 : u1 = 32
  · skip
    replace h := (if_pos c_8).symm.trans h
    replace h := ob h; obtain ⟨w_10, hw_10, h⟩ := h
    replace h := ob h; obtain ⟨z_9, hv_9, h⟩ := h
    replace hq := hq.trans (pf_c_X9_accept F cs_7 u0 47 z_9.1 z_9.2 hv_9)
    by_cases c_11 : z_9.2 = 0
    · skip
      replace h := (if_pos c_11).symm.trans h
      have k9 := pf_c_X9_readAggregate_b100 F T hM_X9_readExpr hM_X9_readConjunction hM_X9_readNegation hM_X9_readTest hM_X9_readSum hM_X9_readPart hM_X9_readSign hM_X9_readOne hM_X9_readCase hM_X9_readSpan hM_X9_readAggregate hM_X9_readList z_9.1 u0 u1 u2 u3 u4 cs9 h
      exact hq.trans k9
    · skip
      replace h := (if_neg c_11).symm.trans h
      have k9 := pf_c_X9_readAggregate_b101 F T hM_X9_readExpr hM_X9_readConjunction hM_X9_readNegation hM_X9_readTest hM_X9_readSum hM_X9_readPart hM_X9_readSign hM_X9_readOne hM_X9_readCase hM_X9_readSpan hM_X9_readAggregate hM_X9_readList z_9.1 u0 u1 u2 u3 u4 1 cs9 h
      exact hq.trans k9
  · skip
    replace h := (if_neg c_8).symm.trans h
    have k9 := pf_c_X9_readAggregate_b100 F T hM_X9_readExpr hM_X9_readConjunction hM_X9_readNegation hM_X9_readTest hM_X9_readSum hM_X9_readPart hM_X9_readSign hM_X9_readOne hM_X9_readCase hM_X9_readSpan hM_X9_readAggregate hM_X9_readList cs_7 u0 u1 u2 u3 u4 cs9 h
    exact hq.trans k9
theorem pf_cb_X9_readAggregate (F : Nat) (T : TC_X9_readExpr) (hM_X9_readExpr : ∀ (cs : CS) (x0 : Nat) (cs9 : CS) (r9 : Int32), T.1 cs x0 = some (cs9, r9) → WF pF cs cs9) (hM_X9_readConjunction : ∀ (cs : CS) (x0 : Nat) (cs9 : CS), T.2.1 cs x0 = some cs9 → WF pF cs cs9) (hM_X9_readNegation : ∀ (cs : CS) (x0 : Nat) (cs9 : CS), T.2.2.1 cs x0 = some cs9 → WF pF cs cs9) (hM_X9_readTest : ∀ (cs : CS) (x0 : Nat) (cs9 : CS), T.2.2.2.1 cs x0 = some cs9 → WF pF cs cs9) (hM_X9_readSum : ∀ (cs : CS) (x0 : Nat) (cs9 : CS), T.2.2.2.2.1 cs x0 = some cs9 → WF pF cs cs9) (hM_X9_readPart : ∀ (cs : CS) (x0 : Nat) (cs9 : CS), T.2.2.2.2.2.1 cs x0 = some cs9 → WF pF cs cs9) (hM_X9_readSign : ∀ (cs : CS) (x0 : Nat) (cs9 : CS), T.2.2.2.2.2.2.1 cs x0 = some cs9 → WF pF cs cs9) (hM_X9_readOne : ∀ (cs : CS) (x0 : Nat) (cs9 : CS), T.2.2.2.2.2.2.2.1 cs x0 = some cs9 → WF pF cs cs9) (hM_X9_readCase : ∀ (cs : CS) (x0 : Nat) (cs9 : CS), T.2.2.2.2.2.2.2.2.1 cs x0 = some cs9 → WF pF cs cs9) (hM_X9_readSpan : ∀ (cs : CS) (x0 : Nat) (cs9 : CS), T.2.2.2.2.2.2.2.2.2.1 cs x0 = some cs9 → WF pF cs cs9) (hM_X9_readAggregate : ∀ (cs : CS) (x0 : Nat) (cs9 : CS), T.2.2.2.2.2.2.2.2.2.2.1 cs x0 = some cs9 → WF pF cs cs9) (hM_X9_readList : ∀ (cs : CS) (x0 : Nat) (x1 : Int32) (x2 : Int32) (x3 : Int32) (x4 : Int32) (cs9 : CS), T.2.2.2.2.2.2.2.2.2.2.2 cs x0 x1 x2 x3 x4 = some cs9 → WF pF cs cs9) (cs : CS) (x0 : Nat) (cs9 : CS) (h : cb_X9_readAggregate F T cs x0 = some cs9) : WF pF cs cs9 := by
  unfold cb_X9_readAggregate at h
  have hq : WF pF cs cs := WF.refl
  replace h := ob h; obtain ⟨w_2, hw_2, h⟩ := h
  replace h := ob h; obtain ⟨v_1, hv_1, h⟩ := h
  replace h := ob h; obtain ⟨v_3, hv_3, h⟩ := h
  replace h := ob h; obtain ⟨i_4, hi_4, h⟩ := h
  subst hi_4
  replace h := ob h; obtain ⟨v_5, hv_5, h⟩ := h
  replace h := ob h; obtain ⟨w_7, hw_7, h⟩ := h
  replace h := ob h; obtain ⟨v_6, hv_6, h⟩ := h
  replace h := ob h; obtain ⟨v_8, hv_8, h⟩ := h
  replace h := ob h; obtain ⟨v_9, hv_9, h⟩ := h
  by_cases c_10 : v_9 = 0
  · skip
    replace h := (if_pos c_10).symm.trans h
    have k9 := pf_c_X9_readAggregate_b36 F T hM_X9_readExpr hM_X9_readConjunction hM_X9_readNegation hM_X9_readTest hM_X9_readSum hM_X9_readPart hM_X9_readSign hM_X9_readOne hM_X9_readCase hM_X9_readSpan hM_X9_readAggregate hM_X9_readList cs x0 v_6 cs9 h
    exact hq.trans k9
  · skip
    replace h := (if_neg c_10).symm.trans h
    cases v_8 with
    | none =>
      replace h := oc_n.symm.trans h
      have k9 := pf_c_X9_readAggregate_b36 F T hM_X9_readExpr hM_X9_readConjunction hM_X9_readNegation hM_X9_readTest hM_X9_readSum hM_X9_readPart hM_X9_readSign hM_X9_readOne hM_X9_readCase hM_X9_readSpan hM_X9_readAggregate hM_X9_readList cs x0 v_6 cs9 h
      exact hq.trans k9
    | some i_11 =>
      replace h := oc_s.symm.trans h
      replace h := ob h; obtain ⟨v_12, hv_12, h⟩ := h
      by_cases c_13 : v_12 < 12
      · skip
        replace h := (if_pos c_13).symm.trans h
        have k9 := pf_c_X9_readAggregate_b60 F T hM_X9_readExpr hM_X9_readConjunction hM_X9_readNegation hM_X9_readTest hM_X9_readSum hM_X9_readPart hM_X9_readSign hM_X9_readOne hM_X9_readCase hM_X9_readSpan hM_X9_readAggregate hM_X9_readList cs x0 v_1 v_5 v_6 i_11 cs9 h
        exact hq.trans k9
      · skip
        replace h := (if_neg c_13).symm.trans h
        replace h := ob h; obtain ⟨w_15, hw_15, h⟩ := h
        replace h := ob h; obtain ⟨cs_14, hv_14, h⟩ := h
        replace hq := hq.trans (pf_c_X9_refuse F cs x0 7 v_6 cs_14 hv_14)
        have k9 := pf_c_X9_readAggregate_b60 F T hM_X9_readExpr hM_X9_readConjunction hM_X9_readNegation hM_X9_readTest hM_X9_readSum hM_X9_readPart hM_X9_readSign hM_X9_readOne hM_X9_readCase hM_X9_readSpan hM_X9_readAggregate hM_X9_readList cs_14 x0 v_1 v_5 v_6 i_11 cs9 h
        exact hq.trans k9
theorem pf_c_X9_readList_b72 (F : Nat) (T : TC_X9_readExpr) (hM_X9_readExpr : ∀ (cs : CS) (x0 : Nat) (cs9 : CS) (r9 : Int32), T.1 cs x0 = some (cs9, r9) → WF pF cs cs9) (hM_X9_readConjunction : ∀ (cs : CS) (x0 : Nat) (cs9 : CS), T.2.1 cs x0 = some cs9 → WF pF cs cs9) (hM_X9_readNegation : ∀ (cs : CS) (x0 : Nat) (cs9 : CS), T.2.2.1 cs x0 = some cs9 → WF pF cs cs9) (hM_X9_readTest : ∀ (cs : CS) (x0 : Nat) (cs9 : CS), T.2.2.2.1 cs x0 = some cs9 → WF pF cs cs9) (hM_X9_readSum : ∀ (cs : CS) (x0 : Nat) (cs9 : CS), T.2.2.2.2.1 cs x0 = some cs9 → WF pF cs cs9) (hM_X9_readPart : ∀ (cs : CS) (x0 : Nat) (cs9 : CS), T.2.2.2.2.2.1 cs x0 = some cs9 → WF pF cs cs9) (hM_X9_readSign : ∀ (cs : CS) (x0 : Nat) (cs9 : CS), T.2.2.2.2.2.2.1 cs x0 = some cs9 → WF pF cs cs9) (hM_X9_readOne : ∀ (cs : CS) (x0 : Nat) (cs9 : CS), T.2.2.2.2.2.2.2.1 cs x0 = some cs9 → WF pF cs cs9) (hM_X9_readCase : ∀ (cs : CS) (x0 : Nat) (cs9 : CS), T.2.2.2.2.2.2.2.2.1 cs x0 = some cs9 → WF pF cs cs9) (hM_X9_readSpan : ∀ (cs : CS) (x0 : Nat) (cs9 : CS), T.2.2.2.2.2.2.2.2.2.1 cs x0 = some cs9 → WF pF cs cs9) (hM_X9_readAggregate : ∀ (cs : CS) (x0 : Nat) (cs9 : CS), T.2.2.2.2.2.2.2.2.2.2.1 cs x0 = some cs9 → WF pF cs cs9) (hM_X9_readList : ∀ (cs : CS) (x0 : Nat) (x1 : Int32) (x2 : Int32) (x3 : Int32) (x4 : Int32) (cs9 : CS), T.2.2.2.2.2.2.2.2.2.2.2 cs x0 x1 x2 x3 x4 = some cs9 → WF pF cs cs9) (cs1 : CS) (u0 : Nat) (u1 : Int32) (u2 : Int32) (u3 : Int32) (u4 : Int32) (u5 : Int32) (cs9 : CS) (h : c_X9_readList_b72 F T cs1 u0 u1 u2 u3 u4 u5 = some cs9) : WF pF cs1 cs9 := by
  unfold c_X9_readList_b72 at h
  have hq : WF pF cs1 cs1 := WF.refl
  replace h := ob h; obtain ⟨w_2, hw_2, h⟩ := h
  replace h := ob h; obtain ⟨cs_1, hv_1, h⟩ := h
  replace hq := hq.trans (pf_c_X9_expect F cs1 u0 42 cs_1 hv_1)
  replace h := ob h; obtain ⟨w_4, hw_4, h⟩ := h
  replace h := ob h; obtain ⟨z_3, hv_3, h⟩ := h
  replace hq := hq.trans (pf_c_X9_complete F cs_1 u0 u1 u2 u3 u4 (u5 + 1) z_3.1 z_3.2 hv_3)
  have h9 := Option.some.inj h
  exact hq.to h9
theorem pf_c_X9_readList_b47 (F : Nat) (T : TC_X9_readExpr) (hM_X9_readExpr : ∀ (cs : CS) (x0 : Nat) (cs9 : CS) (r9 : Int32), T.1 cs x0 = some (cs9, r9) → WF pF cs cs9) (hM_X9_readConjunction : ∀ (cs : CS) (x0 : Nat) (cs9 : CS), T.2.1 cs x0 = some cs9 → WF pF cs cs9) (hM_X9_readNegation : ∀ (cs : CS) (x0 : Nat) (cs9 : CS), T.2.2.1 cs x0 = some cs9 → WF pF cs cs9) (hM_X9_readTest : ∀ (cs : CS) (x0 : Nat) (cs9 : CS), T.2.2.2.1 cs x0 = some cs9 → WF pF cs cs9) (hM_X9_readSum : ∀ (cs : CS) (x0 : Nat) (cs9 : CS), T.2.2.2.2.1 cs x0 = some cs9 → WF pF cs cs9) (hM_X9_readPart : ∀ (cs : CS) (x0 : Nat) (cs9 : CS), T.2.2.2.2.2.1 cs x0 = some cs9 → WF pF cs cs9) (hM_X9_readSign : ∀ (cs : CS) (x0 : Nat) (cs9 : CS), T.2.2.2.2.2.2.1 cs x0 = some cs9 → WF pF cs cs9) (hM_X9_readOne : ∀ (cs : CS) (x0 : Nat) (cs9 : CS), T.2.2.2.2.2.2.2.1 cs x0 = some cs9 → WF pF cs cs9) (hM_X9_readCase : ∀ (cs : CS) (x0 : Nat) (cs9 : CS), T.2.2.2.2.2.2.2.2.1 cs x0 = some cs9 → WF pF cs cs9) (hM_X9_readSpan : ∀ (cs : CS) (x0 : Nat) (cs9 : CS), T.2.2.2.2.2.2.2.2.2.1 cs x0 = some cs9 → WF pF cs cs9) (hM_X9_readAggregate : ∀ (cs : CS) (x0 : Nat) (cs9 : CS), T.2.2.2.2.2.2.2.2.2.2.1 cs x0 = some cs9 → WF pF cs cs9) (hM_X9_readList : ∀ (cs : CS) (x0 : Nat) (x1 : Int32) (x2 : Int32) (x3 : Int32) (x4 : Int32) (cs9 : CS), T.2.2.2.2.2.2.2.2.2.2.2 cs x0 x1 x2 x3 x4 = some cs9 → WF pF cs cs9) (rc21 : CS → Nat → Int32 → Int32 → Int32 → Int32 → Int32 → Int32 → Int32 → Option CS) (hrc21 : ∀ (cs1 : CS) (u0 : Nat) (u1 : Int32) (u2 : Int32) (u3 : Int32) (u4 : Int32) (u5 : Int32) (u6 : Int32) (u7 : Int32) (cs9 : CS), rc21 cs1 u0 u1 u2 u3 u4 u5 u6 u7 = some cs9 → WF pF cs1 cs9) (cs1 : CS) (u0 : Nat) (u1 : Int32) (u2 : Int32) (u3 : Int32) (u4 : Int32) (u5 : Int32) (u7 : Int32) (y0 : Int32) (y1 : Nat) (cs9 : CS) (h : c_X9_readList_b47 F T rc21 cs1 u0 u1 u2 u3 u4 u5 u7 y0 y1 = some cs9) : WF pF cs1 cs9 := by
  unfold c_X9_readList_b47 at h
  have hq : WF pF cs1 cs1 := WF.refl
  replace h := ob h; obtain ⟨w_2, hw_2, h⟩ := h
  replace h := ob h; obtain ⟨cs_1, hv_1, h⟩ := h
  replace hq := hq.trans (pf_c_X9_refuseNinth F cs1 y1 y0 0 cs_1 hv_1)
  replace h := ob h; obtain ⟨w_4, hw_4, h⟩ := h
  replace h := ob h; obtain ⟨cs_3, hv_3, h⟩ := h
  replace hq := hq.trans (hM_X9_readSum cs_1 u0 cs_3 hv_3)
  replace h := ob h; obtain ⟨w_6, hw_6, h⟩ := h
  replace h := ob h; obtain ⟨z_5, hv_5, h⟩ := h
  replace hq := hq.trans (pf_c_X9_accept F cs_3 u0 43 z_5.1 z_5.2 hv_5)
  have k9 := hrc21 z_5.1 u0 u1 u2 u3 u4 (u5 + 1) z_5.2 (u7 + 1) cs9 h
  exact hq.trans k9
theorem pf_c_X9_readList_L21 (F : Nat) (T : TC_X9_readExpr) (hM_X9_readExpr : ∀ (cs : CS) (x0 : Nat) (cs9 : CS) (r9 : Int32), T.1 cs x0 = some (cs9, r9) → WF pF cs cs9) (hM_X9_readConjunction : ∀ (cs : CS) (x0 : Nat) (cs9 : CS), T.2.1 cs x0 = some cs9 → WF pF cs cs9) (hM_X9_readNegation : ∀ (cs : CS) (x0 : Nat) (cs9 : CS), T.2.2.1 cs x0 = some cs9 → WF pF cs cs9) (hM_X9_readTest : ∀ (cs : CS) (x0 : Nat) (cs9 : CS), T.2.2.2.1 cs x0 = some cs9 → WF pF cs cs9) (hM_X9_readSum : ∀ (cs : CS) (x0 : Nat) (cs9 : CS), T.2.2.2.2.1 cs x0 = some cs9 → WF pF cs cs9) (hM_X9_readPart : ∀ (cs : CS) (x0 : Nat) (cs9 : CS), T.2.2.2.2.2.1 cs x0 = some cs9 → WF pF cs cs9) (hM_X9_readSign : ∀ (cs : CS) (x0 : Nat) (cs9 : CS), T.2.2.2.2.2.2.1 cs x0 = some cs9 → WF pF cs cs9) (hM_X9_readOne : ∀ (cs : CS) (x0 : Nat) (cs9 : CS), T.2.2.2.2.2.2.2.1 cs x0 = some cs9 → WF pF cs cs9) (hM_X9_readCase : ∀ (cs : CS) (x0 : Nat) (cs9 : CS), T.2.2.2.2.2.2.2.2.1 cs x0 = some cs9 → WF pF cs cs9) (hM_X9_readSpan : ∀ (cs : CS) (x0 : Nat) (cs9 : CS), T.2.2.2.2.2.2.2.2.2.1 cs x0 = some cs9 → WF pF cs cs9) (hM_X9_readAggregate : ∀ (cs : CS) (x0 : Nat) (cs9 : CS), T.2.2.2.2.2.2.2.2.2.2.1 cs x0 = some cs9 → WF pF cs cs9) (hM_X9_readList : ∀ (cs : CS) (x0 : Nat) (x1 : Int32) (x2 : Int32) (x3 : Int32) (x4 : Int32) (cs9 : CS), T.2.2.2.2.2.2.2.2.2.2.2 cs x0 x1 x2 x3 x4 = some cs9 → WF pF cs cs9) : ∀ (lf_21 : Nat) (cs1 : CS) (u0 : Nat) (u1 : Int32) (u2 : Int32) (u3 : Int32) (u4 : Int32) (u5 : Int32) (u6 : Int32) (u7 : Int32) (cs9 : CS), c_X9_readList_L21 F T lf_21 cs1 u0 u1 u2 u3 u4 u5 u6 u7 = some cs9 → WF pF cs1 cs9 := by
  intro lf_21
  induction lf_21 with
  | zero => intro cs1 u0 u1 u2 u3 u4 u5 u6 u7 cs9 h; cases (show (none : Option CS) = _ from h)
  | succ lf_21 ih_21 =>
    intro cs1 u0 u1 u2 u3 u4 u5 u6 u7 cs9 h
    rw [c_X9_readList_L21] at h
    have hq : WF pF cs1 cs1 := WF.refl
    by_cases c_1 : 2000 ≤ u7
    · skip
      replace h := (if_pos c_1).symm.trans h
      have k9 := pf_c_X9_readList_b72 F T hM_X9_readExpr hM_X9_readConjunction hM_X9_readNegation hM_X9_readTest hM_X9_readSum hM_X9_readPart hM_X9_readSign hM_X9_readOne hM_X9_readCase hM_X9_readSpan hM_X9_readAggregate hM_X9_readList cs1 u0 u1 u2 u3 u4 u5 cs9 h
      exact hq.trans k9
    · skip
      replace h := (if_neg c_1).symm.trans h
      by_cases c_2 : u6 = 0
      · skip
        replace h := (if_pos c_2).symm.trans h
        have k9 := pf_c_X9_readList_b72 F T hM_X9_readExpr hM_X9_readConjunction hM_X9_readNegation hM_X9_readTest hM_X9_readSum hM_X9_readPart hM_X9_readSign hM_X9_readOne hM_X9_readCase hM_X9_readSpan hM_X9_readAggregate hM_X9_readList cs1 u0 u1 u2 u3 u4 u5 cs9 h
        exact hq.trans k9
      · skip
        replace h := (if_neg c_2).symm.trans h
        by_cases c_3 : u5 < 8
        · skip
          replace h := (if_pos c_3).symm.trans h
          have k9 := pf_c_X9_readList_b47 F T hM_X9_readExpr hM_X9_readConjunction hM_X9_readNegation hM_X9_readTest hM_X9_readSum hM_X9_readPart hM_X9_readSign hM_X9_readOne hM_X9_readCase hM_X9_readSpan hM_X9_readAggregate hM_X9_readList (c_X9_readList_L21 F T lf_21) ih_21 cs1 u0 u1 u2 u3 u4 u5 u7 0 u0 cs9 h
          exact hq.trans k9
        · skip
          replace h := (if_neg c_3).symm.trans h
          have k9 := pf_c_X9_readList_b47 F T hM_X9_readExpr hM_X9_readConjunction hM_X9_readNegation hM_X9_readTest hM_X9_readSum hM_X9_readPart hM_X9_readSign hM_X9_readOne hM_X9_readCase hM_X9_readSpan hM_X9_readAggregate hM_X9_readList (c_X9_readList_L21 F T lf_21) ih_21 cs1 u0 u1 u2 u3 u4 u5 u7 1 u0 cs9 h
          exact hq.trans k9
theorem pf_cb_X9_readList (F : Nat) (T : TC_X9_readExpr) (hM_X9_readExpr : ∀ (cs : CS) (x0 : Nat) (cs9 : CS) (r9 : Int32), T.1 cs x0 = some (cs9, r9) → WF pF cs cs9) (hM_X9_readConjunction : ∀ (cs : CS) (x0 : Nat) (cs9 : CS), T.2.1 cs x0 = some cs9 → WF pF cs cs9) (hM_X9_readNegation : ∀ (cs : CS) (x0 : Nat) (cs9 : CS), T.2.2.1 cs x0 = some cs9 → WF pF cs cs9) (hM_X9_readTest : ∀ (cs : CS) (x0 : Nat) (cs9 : CS), T.2.2.2.1 cs x0 = some cs9 → WF pF cs cs9) (hM_X9_readSum : ∀ (cs : CS) (x0 : Nat) (cs9 : CS), T.2.2.2.2.1 cs x0 = some cs9 → WF pF cs cs9) (hM_X9_readPart : ∀ (cs : CS) (x0 : Nat) (cs9 : CS), T.2.2.2.2.2.1 cs x0 = some cs9 → WF pF cs cs9) (hM_X9_readSign : ∀ (cs : CS) (x0 : Nat) (cs9 : CS), T.2.2.2.2.2.2.1 cs x0 = some cs9 → WF pF cs cs9) (hM_X9_readOne : ∀ (cs : CS) (x0 : Nat) (cs9 : CS), T.2.2.2.2.2.2.2.1 cs x0 = some cs9 → WF pF cs cs9) (hM_X9_readCase : ∀ (cs : CS) (x0 : Nat) (cs9 : CS), T.2.2.2.2.2.2.2.2.1 cs x0 = some cs9 → WF pF cs cs9) (hM_X9_readSpan : ∀ (cs : CS) (x0 : Nat) (cs9 : CS), T.2.2.2.2.2.2.2.2.2.1 cs x0 = some cs9 → WF pF cs cs9) (hM_X9_readAggregate : ∀ (cs : CS) (x0 : Nat) (cs9 : CS), T.2.2.2.2.2.2.2.2.2.2.1 cs x0 = some cs9 → WF pF cs cs9) (hM_X9_readList : ∀ (cs : CS) (x0 : Nat) (x1 : Int32) (x2 : Int32) (x3 : Int32) (x4 : Int32) (cs9 : CS), T.2.2.2.2.2.2.2.2.2.2.2 cs x0 x1 x2 x3 x4 = some cs9 → WF pF cs cs9) (cs : CS) (x0 : Nat) (x1 : Int32) (x2 : Int32) (x3 : Int32) (x4 : Int32) (cs9 : CS) (h : cb_X9_readList F T cs x0 x1 x2 x3 x4 = some cs9) : WF pF cs cs9 := by
  unfold cb_X9_readList at h
  have hq : WF pF cs cs := WF.refl
  replace h := ob h; obtain ⟨w_2, hw_2, h⟩ := h
  replace h := ob h; obtain ⟨cs_1, hv_1, h⟩ := h
  replace hq := hq.trans (pf_c_X9_expect F cs x0 27 cs_1 hv_1)
  replace h := ob h; obtain ⟨w_4, hw_4, h⟩ := h
  replace h := ob h; obtain ⟨cs_3, hv_3, h⟩ := h
  replace hq := hq.trans (pf_c_X9_expect F cs_1 x0 41 cs_3 hv_3)
  have k9 := pf_c_X9_readList_L21 F T hM_X9_readExpr hM_X9_readConjunction hM_X9_readNegation hM_X9_readTest hM_X9_readSum hM_X9_readPart hM_X9_readSign hM_X9_readOne hM_X9_readCase hM_X9_readSpan hM_X9_readAggregate hM_X9_readList F cs_3 x0 x1 x2 x3 x4 0 1 0 cs9 h
  exact hq.trans k9
theorem pfg_X9_readExpr (F : Nat) : ∀ n : Nat, (∀ (cs : CS) (x0 : Nat) (cs9 : CS) (r9 : Int32), (tabc_X9_readExpr F n).1 cs x0 = some (cs9, r9) → WF pF cs cs9) ∧ (∀ (cs : CS) (x0 : Nat) (cs9 : CS), (tabc_X9_readExpr F n).2.1 cs x0 = some cs9 → WF pF cs cs9) ∧ (∀ (cs : CS) (x0 : Nat) (cs9 : CS), (tabc_X9_readExpr F n).2.2.1 cs x0 = some cs9 → WF pF cs cs9) ∧ (∀ (cs : CS) (x0 : Nat) (cs9 : CS), (tabc_X9_readExpr F n).2.2.2.1 cs x0 = some cs9 → WF pF cs cs9) ∧ (∀ (cs : CS) (x0 : Nat) (cs9 : CS), (tabc_X9_readExpr F n).2.2.2.2.1 cs x0 = some cs9 → WF pF cs cs9) ∧ (∀ (cs : CS) (x0 : Nat) (cs9 : CS), (tabc_X9_readExpr F n).2.2.2.2.2.1 cs x0 = some cs9 → WF pF cs cs9) ∧ (∀ (cs : CS) (x0 : Nat) (cs9 : CS), (tabc_X9_readExpr F n).2.2.2.2.2.2.1 cs x0 = some cs9 → WF pF cs cs9) ∧ (∀ (cs : CS) (x0 : Nat) (cs9 : CS), (tabc_X9_readExpr F n).2.2.2.2.2.2.2.1 cs x0 = some cs9 → WF pF cs cs9) ∧ (∀ (cs : CS) (x0 : Nat) (cs9 : CS), (tabc_X9_readExpr F n).2.2.2.2.2.2.2.2.1 cs x0 = some cs9 → WF pF cs cs9) ∧ (∀ (cs : CS) (x0 : Nat) (cs9 : CS), (tabc_X9_readExpr F n).2.2.2.2.2.2.2.2.2.1 cs x0 = some cs9 → WF pF cs cs9) ∧ (∀ (cs : CS) (x0 : Nat) (cs9 : CS), (tabc_X9_readExpr F n).2.2.2.2.2.2.2.2.2.2.1 cs x0 = some cs9 → WF pF cs cs9) ∧ (∀ (cs : CS) (x0 : Nat) (x1 : Int32) (x2 : Int32) (x3 : Int32) (x4 : Int32) (cs9 : CS), (tabc_X9_readExpr F n).2.2.2.2.2.2.2.2.2.2.2 cs x0 x1 x2 x3 x4 = some cs9 → WF pF cs cs9) := by
  intro n
  induction n with
  | zero => exact ⟨fun _ _ _ _ h => (by cases (show (none : Option (CS × Int32)) = _ from h)), fun _ _ _ h => (by cases (show (none : Option CS) = _ from h)), fun _ _ _ h => (by cases (show (none : Option CS) = _ from h)), fun _ _ _ h => (by cases (show (none : Option CS) = _ from h)), fun _ _ _ h => (by cases (show (none : Option CS) = _ from h)), fun _ _ _ h => (by cases (show (none : Option CS) = _ from h)), fun _ _ _ h => (by cases (show (none : Option CS) = _ from h)), fun _ _ _ h => (by cases (show (none : Option CS) = _ from h)), fun _ _ _ h => (by cases (show (none : Option CS) = _ from h)), fun _ _ _ h => (by cases (show (none : Option CS) = _ from h)), fun _ _ _ h => (by cases (show (none : Option CS) = _ from h)), fun _ _ _ _ _ _ _ h => (by cases (show (none : Option CS) = _ from h))⟩
  | succ n ih =>
    obtain ⟨hh0, hh1, hh2, hh3, hh4, hh5, hh6, hh7, hh8, hh9, hh10, hh11⟩ := ih
    exact ⟨fun cs w0 w1 w2 h => pf_cb_X9_readExpr F (tabc_X9_readExpr F n) hh0 hh1 hh2 hh3 hh4 hh5 hh6 hh7 hh8 hh9 hh10 hh11 cs w0 w1 w2 h, fun cs w0 w1 h => pf_cb_X9_readConjunction F (tabc_X9_readExpr F n) hh0 hh1 hh2 hh3 hh4 hh5 hh6 hh7 hh8 hh9 hh10 hh11 cs w0 w1 h, fun cs w0 w1 h => pf_cb_X9_readNegation F (tabc_X9_readExpr F n) hh0 hh1 hh2 hh3 hh4 hh5 hh6 hh7 hh8 hh9 hh10 hh11 cs w0 w1 h, fun cs w0 w1 h => pf_cb_X9_readTest F (tabc_X9_readExpr F n) hh0 hh1 hh2 hh3 hh4 hh5 hh6 hh7 hh8 hh9 hh10 hh11 cs w0 w1 h, fun cs w0 w1 h => pf_cb_X9_readSum F (tabc_X9_readExpr F n) hh0 hh1 hh2 hh3 hh4 hh5 hh6 hh7 hh8 hh9 hh10 hh11 cs w0 w1 h, fun cs w0 w1 h => pf_cb_X9_readPart F (tabc_X9_readExpr F n) hh0 hh1 hh2 hh3 hh4 hh5 hh6 hh7 hh8 hh9 hh10 hh11 cs w0 w1 h, fun cs w0 w1 h => pf_cb_X9_readSign F (tabc_X9_readExpr F n) hh0 hh1 hh2 hh3 hh4 hh5 hh6 hh7 hh8 hh9 hh10 hh11 cs w0 w1 h, fun cs w0 w1 h => pf_cb_X9_readOne F (tabc_X9_readExpr F n) hh0 hh1 hh2 hh3 hh4 hh5 hh6 hh7 hh8 hh9 hh10 hh11 cs w0 w1 h, fun cs w0 w1 h => pf_cb_X9_readCase F (tabc_X9_readExpr F n) hh0 hh1 hh2 hh3 hh4 hh5 hh6 hh7 hh8 hh9 hh10 hh11 cs w0 w1 h, fun cs w0 w1 h => pf_cb_X9_readSpan F (tabc_X9_readExpr F n) hh0 hh1 hh2 hh3 hh4 hh5 hh6 hh7 hh8 hh9 hh10 hh11 cs w0 w1 h, fun cs w0 w1 h => pf_cb_X9_readAggregate F (tabc_X9_readExpr F n) hh0 hh1 hh2 hh3 hh4 hh5 hh6 hh7 hh8 hh9 hh10 hh11 cs w0 w1 h, fun cs w0 w1 w2 w3 w4 w5 h => pf_cb_X9_readList F (tabc_X9_readExpr F n) hh0 hh1 hh2 hh3 hh4 hh5 hh6 hh7 hh8 hh9 hh10 hh11 cs w0 w1 w2 w3 w4 w5 h⟩
theorem pf_c_X9_readExpr (F n : Nat) (cs : CS) (x0 : Nat) (cs9 : CS) (r9 : Int32) (h : c_X9_readExpr F n cs x0 = some (cs9, r9)) : WF pF cs cs9 := (pfg_X9_readExpr F n).1 cs x0 cs9 r9 h
theorem pf_c_X9_readName (F : Nat) (cs : CS) (x0 : Nat) (cs9 : CS) (r9 : Int64) (h : c_X9_readName F cs x0 = some (cs9, r9)) : WF pF cs cs9 := by
  unfold c_X9_readName at h
  have hq : WF pF cs cs := WF.refl
  replace h := ob h; obtain ⟨w_2, hw_2, h⟩ := h
  replace h := ob h; obtain ⟨v_1, hv_1, h⟩ := h
  replace h := ob h; obtain ⟨w_4, hw_4, h⟩ := h
  replace h := ob h; obtain ⟨cs_3, hv_3, h⟩ := h
  replace hq := hq.trans (pf_c_X9_expect F cs x0 39 cs_3 hv_3)
  have h9 := (Prod.mk.inj (Option.some.inj h)).1
  exact hq.to h9
theorem pf_c_X9_readItem_b91 (F : Nat) (cs1 : CS) (u1 : Nat) (u3 : Int32) (u4 : Int64) (cs9 : CS) (h : c_X9_readItem_b91 F cs1 u1 u3 u4 = some cs9) : WF pF cs1 cs9 := by
  unfold c_X9_readItem_b91 at h
  have hq : WF pF cs1 cs1 := WF.refl
  replace h := ob h; obtain ⟨w_2, hw_2, h⟩ := h
  replace h := ob h; obtain ⟨cs_1, hv_1, h⟩ := h
  replace hq := hq.trans (pf_c_X2_add F cs1 u1 u3 u4 0 1 cs_1 hv_1)
  have h9 := Option.some.inj h
  exact hq.to h9
theorem pf_c_X9_readItem (F : Nat) (cs : CS) (x0 : Nat) (x1 : Nat) (cs9 : CS) (h : c_X9_readItem F cs x0 x1 = some cs9) : WF pF cs cs9 := by
  unfold c_X9_readItem at h
  have hq : WF pF cs cs := WF.refl
  replace h := ob h; obtain ⟨w_2, hw_2, h⟩ := h
  replace h := ob h; obtain ⟨v_1, hv_1, h⟩ := h
  replace h := ob h; obtain ⟨w_4, hw_4, h⟩ := h
  replace h := ob h; obtain ⟨cs_3, hv_3, h⟩ := h
  replace hq := hq.trans (pf_c_X9_refuseNinth F cs x0 v_1 1 cs_3 hv_3)
  replace h := ob h; obtain ⟨w_6, hw_6, h⟩ := h
  replace h := ob h; obtain ⟨v_5, hv_5, h⟩ := h
  replace h := ob h; obtain ⟨w_8, hw_8, h⟩ := h
  replace h := ob h; obtain ⟨z_7, hv_7, h⟩ := h
  replace hq := hq.trans (pf_c_X9_readExpr F 300 cs_3 x0 z_7.1 z_7.2 hv_7)
  replace h := ob h; obtain ⟨w_10, hw_10, h⟩ := h
  replace h := ob h; obtain ⟨z_9, hv_9, h⟩ := h
  replace hq := hq.trans (pf_c_X9_accept F z_7.1 x0 17 z_9.1 z_9.2 hv_9)
  by_cases c_11 : z_9.2 = 0
  · skip
    replace h := (if_pos c_11).symm.trans h
    replace h := ob h; obtain ⟨v_12, hv_12, h⟩ := h
    replace h := ob h; obtain ⟨i_14, hi_14, h⟩ := h
    subst hi_14
    replace h := ob h; obtain ⟨w_15, hw_15, h⟩ := h
    replace h := ob h; obtain ⟨v_13, hv_13, h⟩ := h
    by_cases c_16 : v_13 = 0
    · skip
      replace h := (if_pos c_16).symm.trans h
      have k9 := pf_c_X9_readItem_b91 F z_9.1 x1 z_7.2 (-1) cs9 h
      exact hq.trans k9
    · skip
      replace h := (if_neg c_16).symm.trans h
      replace h := ob h; obtain ⟨v_17, hv_17, h⟩ := h
      replace h := ob h; obtain ⟨i_18, hi_18, h⟩ := h
      subst hi_18
      replace h := ob h; obtain ⟨v_19, hv_19, h⟩ := h
      replace h := ob h; obtain ⟨v_20, hv_20, h⟩ := h
      by_cases c_21 : v_20 = 39
      · skip
        replace h := (if_pos c_21).symm.trans h
        replace h := ob h; obtain ⟨v_22, hv_22, h⟩ := h
        replace h := ob h; obtain ⟨i_23, hi_23, h⟩ := h
        subst hi_23
        replace h := ob h; obtain ⟨v_24, hv_24, h⟩ := h
        replace h := ob h; obtain ⟨v_25, hv_25, h⟩ := h
        by_cases c_26 : v_25 = v_5
        · skip
          replace h := (if_pos c_26).symm.trans h
          replace h := ob h; obtain ⟨v_27, hv_27, h⟩ := h
          replace h := ob h; obtain ⟨i_28, hi_28, h⟩ := h
          subst hi_28
          replace h := ob h; obtain ⟨v_29, hv_29, h⟩ := h
          replace h := ob h; obtain ⟨v_30, hv_30, h⟩ := h
          have k9 := pf_c_X9_readItem_b91 F z_9.1 x1 z_7.2 v_30 cs9 h
          exact hq.trans k9
        · skip
          replace h := (if_neg c_26).symm.trans h
          have k9 := pf_c_X9_readItem_b91 F z_9.1 x1 z_7.2 (-1) cs9 h
          exact hq.trans k9
      · skip
        replace h := (if_neg c_21).symm.trans h
        have k9 := pf_c_X9_readItem_b91 F z_9.1 x1 z_7.2 (-1) cs9 h
        exact hq.trans k9
  · skip
    replace h := (if_neg c_11).symm.trans h
    replace h := ob h; obtain ⟨w_32, hw_32, h⟩ := h
    replace h := ob h; obtain ⟨z_31, hv_31, h⟩ := h
    replace hq := hq.trans (pf_c_X9_readName F z_9.1 x0 z_31.1 z_31.2 hv_31)
    have k9 := pf_c_X9_readItem_b91 F z_31.1 x1 z_7.2 z_31.2 cs9 h
    exact hq.trans k9
theorem pf_c_X9_readLeaf_b105 (F : Nat) (cs1 : CS) (cs9 : CS) (h : c_X9_readLeaf_b105 F cs1 = some cs9) : WF pF cs1 cs9 := by
  unfold c_X9_readLeaf_b105 at h
  have hq : WF pF cs1 cs1 := WF.refl
  have h9 := Option.some.inj h
  exact hq.to h9
theorem pf_c_X9_readLeaf_b32 (F : Nat) (cs1 : CS) (u0 : Nat) (cs9 : CS) (h : c_X9_readLeaf_b32 F cs1 u0 = some cs9) : WF pF cs1 cs9 := by
  unfold c_X9_readLeaf_b32 at h
  have hq : WF pF cs1 cs1 := WF.refl
  replace h := ob h; obtain ⟨w_2, hw_2, h⟩ := h
  replace h := ob h; obtain ⟨v_1, hv_1, h⟩ := h
  replace h := ob h; obtain ⟨w_4, hw_4, h⟩ := h
  replace h := ob h; obtain ⟨cs_3, hv_3, h⟩ := h
  replace hq := hq.trans (pf_c_X9_refuse F cs1 u0 1 v_1 cs_3 hv_3)
  have k9 := pf_c_X9_readLeaf_b105 F cs_3 cs9 h
  exact hq.trans k9
theorem pf_c_X9_readLeaf (F : Nat) (cs : CS) (x0 : Nat) (x1 : Nat) (cs9 : CS) (h : c_X9_readLeaf F cs x0 x1 = some cs9) : WF pF cs cs9 := by
  unfold c_X9_readLeaf at h
  have hq : WF pF cs cs := WF.refl
  replace h := ob h; obtain ⟨w_2, hw_2, h⟩ := h
  replace h := ob h; obtain ⟨v_1, hv_1, h⟩ := h
  replace h := ob h; obtain ⟨w_4, hw_4, h⟩ := h
  replace h := ob h; obtain ⟨v_3, hv_3, h⟩ := h
  by_cases c_5 : v_3 = 39
  · skip
    replace h := (if_pos c_5).symm.trans h
    by_cases c_6 : (v_1 - (730)) < 0
    · skip
      replace h := (if_pos c_6).symm.trans h
      have k9 := pf_c_X9_readLeaf_b32 F cs x0 cs9 h
      exact hq.trans k9
    · skip
      replace h := (if_neg c_6).symm.trans h
      by_cases c_7 : (v_1 - (730)) ≤ (9)
      · skip
        replace h := (if_pos c_7).symm.trans h
        replace h := ob h; obtain ⟨v_8, hv_8, h⟩ := h
        replace h := ob h; obtain ⟨v_9, hv_9, h⟩ := h
        replace h := ob h; obtain ⟨v_10, hv_10, h⟩ := h
        by_cases c_11 : v_8 < v_10
        · skip
          replace h := (if_pos c_11).symm.trans h
          replace h := ob h; obtain ⟨cs_12, hv_12, h⟩ := h
          replace hq := hq.trans (WF.pI (by decide) hv_12)
          replace h := ob h; obtain ⟨v_13, hv_13, h⟩ := h
          replace h := ob h; obtain ⟨v_14, hv_14, h⟩ := h
          replace h := ob h; obtain ⟨w_15, hw_15, h⟩ := h
          replace h := ob h; obtain ⟨cs_15, hv_15, h⟩ := h
          replace hq := hq.trans (WF.wQ (by decide) hv_15)
          replace h := ob h; obtain ⟨v_16, hv_16, h⟩ := h
          replace h := ob h; obtain ⟨cs_17, hv_17, h⟩ := h
          replace hq := hq.trans (WF.pI (by decide) hv_17)
          replace h := ob h; obtain ⟨v_18, hv_18, h⟩ := h
          replace h := ob h; obtain ⟨cs_19, hv_19, h⟩ := h
          replace hq := hq.trans (WF.pI (by decide) hv_19)
          have k9 := pf_c_X9_readLeaf_b105 F cs_19 cs9 h
          exact hq.trans k9
        · skip
          replace h := (if_neg c_11).symm.trans h
          replace h := ob h; obtain ⟨w_21, hw_21, h⟩ := h
          replace h := ob h; obtain ⟨v_20, hv_20, h⟩ := h
          replace h := ob h; obtain ⟨w_23, hw_23, h⟩ := h
          replace h := ob h; obtain ⟨cs_22, hv_22, h⟩ := h
          replace hq := hq.trans (pf_c_X9_refuse F cs x0 7 v_20 cs_22 hv_22)
          have k9 := pf_c_X9_readLeaf_b105 F cs_22 cs9 h
          exact hq.trans k9
      · skip
        replace h := (if_neg c_7).symm.trans h
        have k9 := pf_c_X9_readLeaf_b32 F cs x0 cs9 h
        exact hq.trans k9
  · skip
    replace h := (if_neg c_5).symm.trans h
    have k9 := pf_c_X9_readLeaf_b32 F cs x0 cs9 h
    exact hq.trans k9
theorem pf_c_X9_readNumber_b29 (F : Nat) (cs1 : CS) (u0 : Nat) (u3 : Int64) (cs9 : CS) (r9 : Int64) (h : c_X9_readNumber_b29 F cs1 u0 u3 = some (cs9, r9)) : WF pF cs1 cs9 := by
  unfold c_X9_readNumber_b29 at h
  have hq : WF pF cs1 cs1 := WF.refl
  replace h := ob h; obtain ⟨w_2, hw_2, h⟩ := h
  replace h := ob h; obtain ⟨cs_1, hv_1, h⟩ := h
  replace hq := hq.trans (pf_c_X9_expect F cs1 u0 40 cs_1 hv_1)
  have h9 := (Prod.mk.inj (Option.some.inj h)).1
  exact hq.to h9
theorem pf_c_X9_readNumber (F : Nat) (cs : CS) (x0 : Nat) (x1 : Int64) (cs9 : CS) (r9 : Int64) (h : c_X9_readNumber F cs x0 x1 = some (cs9, r9)) : WF pF cs cs9 := by
  unfold c_X9_readNumber at h
  have hq : WF pF cs cs := WF.refl
  replace h := ob h; obtain ⟨w_2, hw_2, h⟩ := h
  replace h := ob h; obtain ⟨v_1, hv_1, h⟩ := h
  replace h := ob h; obtain ⟨w_4, hw_4, h⟩ := h
  replace h := ob h; obtain ⟨v_3, hv_3, h⟩ := h
  by_cases c_5 : v_3 = 40
  · skip
    replace h := (if_pos c_5).symm.trans h
    by_cases c_6 : v_1 ≤ x1
    · skip
      replace h := (if_pos c_6).symm.trans h
      have k9 := pf_c_X9_readNumber_b29 F cs x0 v_1 cs9 r9 h
      exact hq.trans k9
    · skip
      replace h := (if_neg c_6).symm.trans h
      replace h := ob h; obtain ⟨w_8, hw_8, h⟩ := h
      replace h := ob h; obtain ⟨v_7, hv_7, h⟩ := h
      replace h := ob h; obtain ⟨w_10, hw_10, h⟩ := h
      replace h := ob h; obtain ⟨cs_9, hv_9, h⟩ := h
      replace hq := hq.trans (pf_c_X9_refuse F cs x0 1 v_7 cs_9 hv_9)
      have k9 := pf_c_X9_readNumber_b29 F cs_9 x0 v_1 cs9 r9 h
      exact hq.trans k9
  · skip
    replace h := (if_neg c_5).symm.trans h
    have k9 := pf_c_X9_readNumber_b29 F cs x0 v_1 cs9 r9 h
    exact hq.trans k9
theorem pf_c_X9_addSource_b32 (F : Nat) (cs1 : CS) (cs9 : CS) (h : c_X9_addSource_b32 F cs1 = some cs9) : WF pF cs1 cs9 := by
  unfold c_X9_addSource_b32 at h
  have hq : WF pF cs1 cs1 := WF.refl
  have h9 := Option.some.inj h
  exact hq.to h9
theorem pf_c_X9_addSource (F : Nat) (cs : CS) (x0 : Nat) (x1 : Nat) (cs9 : CS) (h : c_X9_addSource F cs x0 x1 = some cs9) : WF pF cs cs9 := by
  unfold c_X9_addSource at h
  have hq : WF pF cs cs := WF.refl
  replace h := ob h; obtain ⟨v_1, hv_1, h⟩ := h
  replace h := ob h; obtain ⟨v_2, hv_2, h⟩ := h
  replace h := ob h; obtain ⟨v_3, hv_3, h⟩ := h
  by_cases c_4 : v_3 ≤ v_1
  · skip
    replace h := (if_pos c_4).symm.trans h
    have k9 := pf_c_X9_addSource_b32 F cs cs9 h
    exact hq.trans k9
  · skip
    replace h := (if_neg c_4).symm.trans h
    replace h := ob h; obtain ⟨v_5, hv_5, h⟩ := h
    replace h := ob h; obtain ⟨v_6, hv_6, h⟩ := h
    replace h := ob h; obtain ⟨w_7, hw_7, h⟩ := h
    replace h := ob h; obtain ⟨cs_7, hv_7, h⟩ := h
    replace hq := hq.trans (WF.wQ (by decide) hv_7)
    replace h := ob h; obtain ⟨v_8, hv_8, h⟩ := h
    replace h := ob h; obtain ⟨cs_9, hv_9, h⟩ := h
    replace hq := hq.trans (WF.pI (by decide) hv_9)
    have k9 := pf_c_X9_addSource_b32 F cs_9 cs9 h
    exact hq.trans k9
theorem pf_c_X9_readGroups_b99 (F : Nat) (cs1 : CS) (cs9 : CS) (h : c_X9_readGroups_b99 F cs1 = some cs9) : WF pF cs1 cs9 := by
  unfold c_X9_readGroups_b99 at h
  have hq : WF pF cs1 cs1 := WF.refl
  have h9 := Option.some.inj h
  exact hq.to h9
theorem pf_c_X9_readGroups_L29 (F : Nat) : ∀ (lf_29 : Nat) (cs1 : CS) (u0 : Nat) (u1 : Nat) (u2 : Int32) (u3 : Int32) (cs9 : CS), c_X9_readGroups_L29 F lf_29 cs1 u0 u1 u2 u3 = some cs9 → WF pF cs1 cs9 := by
  intro lf_29
  induction lf_29 with
  | zero => intro cs1 u0 u1 u2 u3 cs9 h; cases (show (none : Option CS) = _ from h)
  | succ lf_29 ih_29 =>
    intro cs1 u0 u1 u2 u3 cs9 h
    rw [c_X9_readGroups_L29] at h
    have hq : WF pF cs1 cs1 := WF.refl
    by_cases c_1 : 2000 ≤ u3
    · skip
      replace h := (if_pos c_1).symm.trans h
      have k9 := pf_c_X9_readGroups_b99 F cs1 cs9 h
      exact hq.trans k9
    · skip
      replace h := (if_neg c_1).symm.trans h
      by_cases c_2 : u2 = 0
      · skip
        replace h := (if_pos c_2).symm.trans h
        have k9 := pf_c_X9_readGroups_b99 F cs1 cs9 h
        exact hq.trans k9
      · skip
        replace h := (if_neg c_2).symm.trans h
        replace h := ob h; obtain ⟨v_3, hv_3, h⟩ := h
        replace h := ob h; obtain ⟨i_5, hi_5, h⟩ := h
        subst hi_5
        replace h := ob h; obtain ⟨w_6, hw_6, h⟩ := h
        replace h := ob h; obtain ⟨v_4, hv_4, h⟩ := h
        replace h := ob h; obtain ⟨w_8, hw_8, h⟩ := h
        replace h := ob h; obtain ⟨cs_7, hv_7, h⟩ := h
        replace hq := hq.trans (pf_c_X9_refuseNinth F cs1 u0 v_4 1 cs_7 hv_7)
        replace h := ob h; obtain ⟨w_10, hw_10, h⟩ := h
        replace h := ob h; obtain ⟨z_9, hv_9, h⟩ := h
        replace hq := hq.trans (pf_c_X9_readExpr F 300 cs_7 u0 z_9.1 z_9.2 hv_9)
        replace h := ob h; obtain ⟨w_12, hw_12, h⟩ := h
        replace h := ob h; obtain ⟨cs_11, hv_11, h⟩ := h
        replace hq := hq.trans (pf_c_X9_expect F z_9.1 u0 17 cs_11 hv_11)
        replace h := ob h; obtain ⟨w_14, hw_14, h⟩ := h
        replace h := ob h; obtain ⟨v_13, hv_13, h⟩ := h
        replace h := ob h; obtain ⟨v_15, hv_15, h⟩ := h
        replace h := ob h; obtain ⟨w_17, hw_17, h⟩ := h
        replace h := ob h; obtain ⟨z_16, hv_16, h⟩ := h
        replace hq := hq.trans (pf_c_X9_readName F cs_11 u0 z_16.1 z_16.2 hv_16)
        replace h := ob h; obtain ⟨i_19, hi_19, h⟩ := h
        subst hi_19
        replace h := ob h; obtain ⟨w_20, hw_20, h⟩ := h
        replace h := ob h; obtain ⟨cs_18, hv_18, h⟩ := h
        replace hq := hq.trans (pf_c_X2_add F z_16.1 i_19 z_9.2 z_16.2 v_13 1 cs_18 hv_18)
        replace h := ob h; obtain ⟨w_22, hw_22, h⟩ := h
        replace h := ob h; obtain ⟨z_21, hv_21, h⟩ := h
        replace hq := hq.trans (pf_c_X9_accept F cs_18 u0 43 z_21.1 z_21.2 hv_21)
        have k9 := ih_29 z_21.1 u0 u1 z_21.2 (u3 + 1) cs9 h
        exact hq.trans k9
theorem pf_c_X9_readGroups (F : Nat) (cs : CS) (x0 : Nat) (x1 : Nat) (cs9 : CS) (h : c_X9_readGroups F cs x0 x1 = some cs9) : WF pF cs cs9 := by
  unfold c_X9_readGroups at h
  have hq : WF pF cs cs := WF.refl
  replace h := ob h; obtain ⟨cs_1, hv_1, h⟩ := h
  replace hq := hq.trans (WF.pI (by decide) hv_1)
  replace h := ob h; obtain ⟨w_3, hw_3, h⟩ := h
  replace h := ob h; obtain ⟨v_2, hv_2, h⟩ := h
  replace h := ob h; obtain ⟨cs_4, hv_4, h⟩ := h
  replace hq := hq.trans (WF.pI (by decide) hv_4)
  replace h := ob h; obtain ⟨w_6, hw_6, h⟩ := h
  replace h := ob h; obtain ⟨cs_5, hv_5, h⟩ := h
  replace hq := hq.trans (pf_c_X9_expect F cs_4 x0 7 cs_5 hv_5)
  replace h := ob h; obtain ⟨w_8, hw_8, h⟩ := h
  replace h := ob h; obtain ⟨cs_7, hv_7, h⟩ := h
  replace hq := hq.trans (pf_c_X9_expect F cs_5 x0 8 cs_7 hv_7)
  have k9 := pf_c_X9_readGroups_L29 F F cs_7 x0 x1 1 0 cs9 h
  exact hq.trans k9
theorem pf_c_X1_init_b87 (F : Nat) (cs1 : CS) (cs9 : CS) (h : c_X1_init_b87 F cs1 = some cs9) : WF pF cs1 cs9 := by
  unfold c_X1_init_b87 at h
  have hq : WF pF cs1 cs1 := WF.refl
  have h9 := Option.some.inj h
  exact hq.to h9
theorem pf_c_X1_init_b80 (F : Nat) (cs1 : CS) (u0 : Nat) (u2 : Int32) (cs9 : CS) (h : c_X1_init_b80 F cs1 u0 u2 = some cs9) : WF pF cs1 cs9 := by
  unfold c_X1_init_b80 at h
  have hq : WF pF cs1 cs1 := WF.refl
  replace h := ob h; obtain ⟨cs_11, hv_11, h⟩ := h
  replace hq := hq.trans (WF.nwA (by decide) hv_11)
  have k9 := pf_c_X1_init_b87 F cs_11 cs9 h
  exact hq.trans k9
theorem pf_c_X1_init_b73 (F : Nat) (cs1 : CS) (u0 : Nat) (u2 : Int32) (cs9 : CS) (h : c_X1_init_b73 F cs1 u0 u2 = some cs9) : WF pF cs1 cs9 := by
  unfold c_X1_init_b73 at h
  have hq : WF pF cs1 cs1 := WF.refl
  replace h := ob h; obtain ⟨cs_11, hv_11, h⟩ := h
  replace hq := hq.trans (WF.nwA (by decide) hv_11)
  have k9 := pf_c_X1_init_b80 F cs_11 u0 u2 cs9 h
  exact hq.trans k9
theorem pf_c_X1_init_b66 (F : Nat) (cs1 : CS) (u0 : Nat) (u2 : Int32) (cs9 : CS) (h : c_X1_init_b66 F cs1 u0 u2 = some cs9) : WF pF cs1 cs9 := by
  unfold c_X1_init_b66 at h
  have hq : WF pF cs1 cs1 := WF.refl
  replace h := ob h; obtain ⟨cs_11, hv_11, h⟩ := h
  replace hq := hq.trans (WF.nwA (by decide) hv_11)
  have k9 := pf_c_X1_init_b73 F cs_11 u0 u2 cs9 h
  exact hq.trans k9
theorem pf_c_X1_init_b59 (F : Nat) (cs1 : CS) (u0 : Nat) (u2 : Int32) (cs9 : CS) (h : c_X1_init_b59 F cs1 u0 u2 = some cs9) : WF pF cs1 cs9 := by
  unfold c_X1_init_b59 at h
  have hq : WF pF cs1 cs1 := WF.refl
  replace h := ob h; obtain ⟨cs_11, hv_11, h⟩ := h
  replace hq := hq.trans (WF.nwA (by decide) hv_11)
  have k9 := pf_c_X1_init_b66 F cs_11 u0 u2 cs9 h
  exact hq.trans k9
theorem pf_c_X1_init_b52 (F : Nat) (cs1 : CS) (u0 : Nat) (u2 : Int32) (cs9 : CS) (h : c_X1_init_b52 F cs1 u0 u2 = some cs9) : WF pF cs1 cs9 := by
  unfold c_X1_init_b52 at h
  have hq : WF pF cs1 cs1 := WF.refl
  replace h := ob h; obtain ⟨cs_11, hv_11, h⟩ := h
  replace hq := hq.trans (WF.nwA (by decide) hv_11)
  have k9 := pf_c_X1_init_b59 F cs_11 u0 u2 cs9 h
  exact hq.trans k9
theorem pf_c_X1_init_b45 (F : Nat) (cs1 : CS) (u0 : Nat) (u2 : Int32) (cs9 : CS) (h : c_X1_init_b45 F cs1 u0 u2 = some cs9) : WF pF cs1 cs9 := by
  unfold c_X1_init_b45 at h
  have hq : WF pF cs1 cs1 := WF.refl
  replace h := ob h; obtain ⟨cs_11, hv_11, h⟩ := h
  replace hq := hq.trans (WF.nwA (by decide) hv_11)
  have k9 := pf_c_X1_init_b52 F cs_11 u0 u2 cs9 h
  exact hq.trans k9
theorem pf_c_X1_init_b38 (F : Nat) (cs1 : CS) (u0 : Nat) (u2 : Int32) (cs9 : CS) (h : c_X1_init_b38 F cs1 u0 u2 = some cs9) : WF pF cs1 cs9 := by
  unfold c_X1_init_b38 at h
  have hq : WF pF cs1 cs1 := WF.refl
  replace h := ob h; obtain ⟨cs_11, hv_11, h⟩ := h
  replace hq := hq.trans (WF.nwA (by decide) hv_11)
  have k9 := pf_c_X1_init_b45 F cs_11 u0 u2 cs9 h
  exact hq.trans k9
theorem pf_c_X1_init_b31 (F : Nat) (cs1 : CS) (u0 : Nat) (u2 : Int32) (cs9 : CS) (h : c_X1_init_b31 F cs1 u0 u2 = some cs9) : WF pF cs1 cs9 := by
  unfold c_X1_init_b31 at h
  have hq : WF pF cs1 cs1 := WF.refl
  replace h := ob h; obtain ⟨cs_11, hv_11, h⟩ := h
  replace hq := hq.trans (WF.nwA (by decide) hv_11)
  have k9 := pf_c_X1_init_b38 F cs_11 u0 u2 cs9 h
  exact hq.trans k9
theorem pf_c_X1_init_b24 (F : Nat) (cs1 : CS) (u0 : Nat) (u2 : Int32) (cs9 : CS) (h : c_X1_init_b24 F cs1 u0 u2 = some cs9) : WF pF cs1 cs9 := by
  unfold c_X1_init_b24 at h
  have hq : WF pF cs1 cs1 := WF.refl
  replace h := ob h; obtain ⟨cs_11, hv_11, h⟩ := h
  replace hq := hq.trans (WF.nwA (by decide) hv_11)
  have k9 := pf_c_X1_init_b31 F cs_11 u0 u2 cs9 h
  exact hq.trans k9
theorem pf_c_X1_init_b17 (F : Nat) (cs1 : CS) (u0 : Nat) (u2 : Int32) (cs9 : CS) (h : c_X1_init_b17 F cs1 u0 u2 = some cs9) : WF pF cs1 cs9 := by
  unfold c_X1_init_b17 at h
  have hq : WF pF cs1 cs1 := WF.refl
  replace h := ob h; obtain ⟨cs_11, hv_11, h⟩ := h
  replace hq := hq.trans (WF.nwA (by decide) hv_11)
  have k9 := pf_c_X1_init_b24 F cs_11 u0 u2 cs9 h
  exact hq.trans k9
theorem pf_c_X1_init (F : Nat) (cs : CS) (x0 : Nat) (x1 : Int32) (cs9 : CS) (h : c_X1_init F cs x0 x1 = some cs9) : WF pF cs cs9 := by
  unfold c_X1_init at h
  have hq : WF pF cs cs := WF.refl
  replace h := ob h; obtain ⟨cs_11, hv_11, h⟩ := h
  replace hq := hq.trans (WF.nwA (by decide) hv_11)
  have k9 := pf_c_X1_init_b17 F cs_11 x0 (if x1 < 0 then 0 else x1) cs9 h
  exact hq.trans k9
theorem pf_c_X2_init_b36 (F : Nat) (cs1 : CS) (cs9 : CS) (h : c_X2_init_b36 F cs1 = some cs9) : WF pF cs1 cs9 := by
  unfold c_X2_init_b36 at h
  have hq : WF pF cs1 cs1 := WF.refl
  have h9 := Option.some.inj h
  exact hq.to h9
theorem pf_c_X2_init_b28 (F : Nat) (cs1 : CS) (u0 : Nat) (cs9 : CS) (h : c_X2_init_b28 F cs1 u0 = some cs9) : WF pF cs1 cs9 := by
  unfold c_X2_init_b28 at h
  have hq : WF pF cs1 cs1 := WF.refl
  replace h := ob h; obtain ⟨cs_4, hv_4, h⟩ := h
  replace hq := hq.trans (WF.nwA (by decide) hv_4)
  have k9 := pf_c_X2_init_b36 F cs_4 cs9 h
  exact hq.trans k9
theorem pf_c_X2_init_b20 (F : Nat) (cs1 : CS) (u0 : Nat) (cs9 : CS) (h : c_X2_init_b20 F cs1 u0 = some cs9) : WF pF cs1 cs9 := by
  unfold c_X2_init_b20 at h
  have hq : WF pF cs1 cs1 := WF.refl
  replace h := ob h; obtain ⟨cs_4, hv_4, h⟩ := h
  replace hq := hq.trans (WF.nwA (by decide) hv_4)
  have k9 := pf_c_X2_init_b28 F cs_4 u0 cs9 h
  exact hq.trans k9
theorem pf_c_X2_init_b12 (F : Nat) (cs1 : CS) (u0 : Nat) (cs9 : CS) (h : c_X2_init_b12 F cs1 u0 = some cs9) : WF pF cs1 cs9 := by
  unfold c_X2_init_b12 at h
  have hq : WF pF cs1 cs1 := WF.refl
  replace h := ob h; obtain ⟨cs_4, hv_4, h⟩ := h
  replace hq := hq.trans (WF.nwA (by decide) hv_4)
  have k9 := pf_c_X2_init_b20 F cs_4 u0 cs9 h
  exact hq.trans k9
theorem pf_c_X2_init (F : Nat) (cs : CS) (x0 : Nat) (cs9 : CS) (h : c_X2_init F cs x0 = some cs9) : WF pF cs cs9 := by
  unfold c_X2_init at h
  have hq : WF pF cs cs := WF.refl
  replace h := ob h; obtain ⟨cs_4, hv_4, h⟩ := h
  replace hq := hq.trans (WF.nwA (by decide) hv_4)
  have k9 := pf_c_X2_init_b12 F cs_4 x0 cs9 h
  exact hq.trans k9
theorem pf_c_X5_init_b52 (F : Nat) (cs1 : CS) (u0 : Nat) (cs9 : CS) (h : c_X5_init_b52 F cs1 u0 = some cs9) : WF pF cs1 cs9 := by
  unfold c_X5_init_b52 at h
  have hq : WF pF cs1 cs1 := WF.refl
  replace h := ob h; obtain ⟨cs_11, hv_11, h⟩ := h
  replace hq := hq.trans (WF.pI (by decide) hv_11)
  have h9 := Option.some.inj h
  exact hq.to h9
theorem pf_c_X5_init_b36 (F : Nat) (cs1 : CS) (u0 : Nat) (y0 : Nat) (y1 : Nat) (cs9 : CS) (h : c_X5_init_b36 F cs1 u0 y0 y1 = some cs9) : WF pF cs1 cs9 := by
  unfold c_X5_init_b36 at h
  have hq : WF pF cs1 cs1 := WF.refl
  replace h := ob h; obtain ⟨cs_11, hv_11, h⟩ := h
  replace hq := hq.trans (WF.pR (by decide) hv_11)
  replace h := ob h; obtain ⟨cs_12, hv_12, h⟩ := h
  replace hq := hq.trans (WF.pI (by decide) hv_12)
  replace h := ob h; obtain ⟨cs_13, hv_13, h⟩ := h
  replace hq := hq.trans (WF.nwA (by decide) hv_13)
  have k9 := pf_c_X5_init_b52 F cs_13 u0 cs9 h
  exact hq.trans k9
theorem pf_c_X5_init_b32 (F : Nat) (cs1 : CS) (u0 : Nat) (y0 : Nat) (y1 : Nat) (cs9 : CS) (h : c_X5_init_b32 F cs1 u0 y0 y1 = some cs9) : WF pF cs1 cs9 := by
  unfold c_X5_init_b32 at h
  have hq : WF pF cs1 cs1 := WF.refl
  replace h := ob h; obtain ⟨cs_11, hv_11, h⟩ := h
  replace hq := hq.trans (pf_c_X2_init F cs1 y0 cs_11 hv_11)
  have k9 := pf_c_X5_init_b36 F cs_11 u0 y0 y1 cs9 h
  exact hq.trans k9
theorem pf_c_X5_init_b23 (F : Nat) (cs1 : CS) (u0 : Nat) (cs9 : CS) (h : c_X5_init_b23 F cs1 u0 = some cs9) : WF pF cs1 cs9 := by
  unfold c_X5_init_b23 at h
  have hq : WF pF cs1 cs1 := WF.refl
  replace h := ob h; obtain ⟨cs_11, hv_11, h⟩ := h
  replace hq := hq.trans (WF.pI (by decide) hv_11)
  replace h := ob h; obtain ⟨cs_12, hv_12, h⟩ := h
  replace hq := hq.trans (WF.nwO hv_12)
  have k9 := pf_c_X5_init_b32 F cs_12 u0 (kK cs_11) u0 cs9 h
  exact hq.trans k9
theorem pf_c_X5_init_b12 (F : Nat) (cs1 : CS) (u0 : Nat) (y0 : Nat) (y1 : Nat) (cs9 : CS) (h : c_X5_init_b12 F cs1 u0 y0 y1 = some cs9) : WF pF cs1 cs9 := by
  unfold c_X5_init_b12 at h
  have hq : WF pF cs1 cs1 := WF.refl
  replace h := ob h; obtain ⟨cs_11, hv_11, h⟩ := h
  replace hq := hq.trans (WF.pR (by decide) hv_11)
  replace h := ob h; obtain ⟨cs_12, hv_12, h⟩ := h
  replace hq := hq.trans (WF.nwA (by decide) hv_12)
  have k9 := pf_c_X5_init_b23 F cs_12 u0 cs9 h
  exact hq.trans k9
theorem pf_c_X5_init_b8 (F : Nat) (cs1 : CS) (u0 : Nat) (y0 : Nat) (y1 : Nat) (cs9 : CS) (h : c_X5_init_b8 F cs1 u0 y0 y1 = some cs9) : WF pF cs1 cs9 := by
  unfold c_X5_init_b8 at h
  have hq : WF pF cs1 cs1 := WF.refl
  replace h := ob h; obtain ⟨cs_11, hv_11, h⟩ := h
  replace hq := hq.trans (pf_c_X2_init F cs1 y0 cs_11 hv_11)
  have k9 := pf_c_X5_init_b12 F cs_11 u0 y0 y1 cs9 h
  exact hq.trans k9
theorem pf_c_X5_init (F : Nat) (cs : CS) (x0 : Nat) (cs9 : CS) (h : c_X5_init F cs x0 = some cs9) : WF pF cs cs9 := by
  unfold c_X5_init at h
  have hq : WF pF cs cs := WF.refl
  replace h := ob h; obtain ⟨cs_11, hv_11, h⟩ := h
  replace hq := hq.trans (WF.nwO hv_11)
  have k9 := pf_c_X5_init_b8 F cs_11 x0 (kK cs) x0 cs9 h
  exact hq.trans k9
theorem pf_c_X6_init_b36 (F : Nat) (cs1 : CS) (y0 : Nat) (y1 : Nat) (cs9 : CS) (h : c_X6_init_b36 F cs1 y0 y1 = some cs9) : WF pF cs1 cs9 := by
  unfold c_X6_init_b36 at h
  have hq : WF pF cs1 cs1 := WF.refl
  replace h := ob h; obtain ⟨cs_3, hv_3, h⟩ := h
  replace hq := hq.trans (WF.pR (by decide) hv_3)
  have h9 := Option.some.inj h
  exact hq.to h9
theorem pf_c_X6_init_b32 (F : Nat) (cs1 : CS) (y0 : Nat) (y1 : Nat) (cs9 : CS) (h : c_X6_init_b32 F cs1 y0 y1 = some cs9) : WF pF cs1 cs9 := by
  unfold c_X6_init_b32 at h
  have hq : WF pF cs1 cs1 := WF.refl
  replace h := ob h; obtain ⟨cs_3, hv_3, h⟩ := h
  replace hq := hq.trans (pf_c_X2_init F cs1 y0 cs_3 hv_3)
  have k9 := pf_c_X6_init_b36 F cs_3 y0 y1 cs9 h
  exact hq.trans k9
theorem pf_c_X6_init (F : Nat) (cs : CS) (x0 : Nat) (cs9 : CS) (h : c_X6_init F cs x0 = some cs9) : WF pF cs cs9 := by
  unfold c_X6_init at h
  have hq : WF pF cs cs := WF.refl
  replace h := ob h; obtain ⟨cs_3, hv_3, h⟩ := h
  replace hq := hq.trans (WF.pI (by decide) hv_3)
  replace h := ob h; obtain ⟨cs_4, hv_4, h⟩ := h
  replace hq := hq.trans (WF.pJ (by decide) hv_4)
  replace h := ob h; obtain ⟨cs_5, hv_5, h⟩ := h
  replace hq := hq.trans (WF.pJ (by decide) hv_5)
  replace h := ob h; obtain ⟨cs_6, hv_6, h⟩ := h
  replace hq := hq.trans (WF.pI (by decide) hv_6)
  replace h := ob h; obtain ⟨cs_7, hv_7, h⟩ := h
  replace hq := hq.trans (WF.nwO hv_7)
  have k9 := pf_c_X6_init_b32 F cs_7 (kK cs_6) x0 cs9 h
  exact hq.trans k9
theorem pf_c_X9_readOrder_b107 (F : Nat) (cs1 : CS) (u0 : Nat) (u1 : Nat) (cs9 : CS) (h : c_X9_readOrder_b107 F cs1 u0 u1 = some cs9) : WF pF cs1 cs9 := by
  unfold c_X9_readOrder_b107 at h
  have hq : WF pF cs1 cs1 := WF.refl
  replace h := ob h; obtain ⟨w_33, hw_33, h⟩ := h
  replace h := ob h; obtain ⟨cs_32, hv_32, h⟩ := h
  replace hq := hq.trans (pf_c_X9_expect F cs1 u0 16 cs_32 hv_32)
  replace h := ob h; obtain ⟨w_35, hw_35, h⟩ := h
  replace h := ob h; obtain ⟨z_34, hv_34, h⟩ := h
  replace hq := hq.trans (pf_c_X9_readNumber F cs_32 u0 (100) z_34.1 z_34.2 hv_34)
  replace h := ob h; obtain ⟨v_36, hv_36, h⟩ := h
  replace h := ob h; obtain ⟨cs_37, hv_37, h⟩ := h
  replace hq := hq.trans (WF.pI (by decide) hv_37)
  have h9 := Option.some.inj h
  exact hq.to h9
theorem pf_c_X9_readOrder_b90 (F : Nat) (rc43 : CS → Nat → Nat → Nat → Int32 → Int32 → Option CS) (hrc43 : ∀ (cs1 : CS) (u0 : Nat) (u1 : Nat) (u2 : Nat) (u3 : Int32) (u4 : Int32) (cs9 : CS), rc43 cs1 u0 u1 u2 u3 u4 = some cs9 → WF pF cs1 cs9) (cs1 : CS) (u0 : Nat) (u1 : Nat) (u2 : Nat) (u4 : Int32) (y0 : Int32) (y1 : Int64) (y2 : Int32) (y3 : Nat) (cs9 : CS) (h : c_X9_readOrder_b90 F rc43 cs1 u0 u1 u2 u4 y0 y1 y2 y3 = some cs9) : WF pF cs1 cs9 := by
  unfold c_X9_readOrder_b90 at h
  have hq : WF pF cs1 cs1 := WF.refl
  replace h := ob h; obtain ⟨w_33, hw_33, h⟩ := h
  replace h := ob h; obtain ⟨cs_32, hv_32, h⟩ := h
  replace hq := hq.trans (pf_c_X2_add F cs1 y3 y2 y1 y0 1 cs_32 hv_32)
  replace h := ob h; obtain ⟨w_35, hw_35, h⟩ := h
  replace h := ob h; obtain ⟨z_34, hv_34, h⟩ := h
  replace hq := hq.trans (pf_c_X9_accept F cs_32 u0 43 z_34.1 z_34.2 hv_34)
  have k9 := hrc43 z_34.1 u0 u1 u2 z_34.2 (u4 + 1) cs9 h
  exact hq.trans k9
theorem pf_c_X9_readOrder_L43 (F : Nat) : ∀ (lf_43 : Nat) (cs1 : CS) (u0 : Nat) (u1 : Nat) (u2 : Nat) (u3 : Int32) (u4 : Int32) (cs9 : CS), c_X9_readOrder_L43 F lf_43 cs1 u0 u1 u2 u3 u4 = some cs9 → WF pF cs1 cs9 := by
  intro lf_43
  induction lf_43 with
  | zero => intro cs1 u0 u1 u2 u3 u4 cs9 h; cases (show (none : Option CS) = _ from h)
  | succ lf_43 ih_43 =>
    intro cs1 u0 u1 u2 u3 u4 cs9 h
    rw [c_X9_readOrder_L43] at h
    have hq : WF pF cs1 cs1 := WF.refl
    by_cases c_32 : 2000 ≤ u4
    · skip
      replace h := (if_pos c_32).symm.trans h
      have k9 := pf_c_X9_readOrder_b107 F cs1 u0 u1 cs9 h
      exact hq.trans k9
    · skip
      replace h := (if_neg c_32).symm.trans h
      by_cases c_33 : u3 = 0
      · skip
        replace h := (if_pos c_33).symm.trans h
        have k9 := pf_c_X9_readOrder_b107 F cs1 u0 u1 cs9 h
        exact hq.trans k9
      · skip
        replace h := (if_neg c_33).symm.trans h
        replace h := ob h; obtain ⟨w_35, hw_35, h⟩ := h
        replace h := ob h; obtain ⟨v_34, hv_34, h⟩ := h
        replace h := ob h; obtain ⟨w_37, hw_37, h⟩ := h
        replace h := ob h; obtain ⟨cs_36, hv_36, h⟩ := h
        replace hq := hq.trans (pf_c_X9_refuseNinth F cs1 u0 v_34 1 cs_36 hv_36)
        replace h := ob h; obtain ⟨w_39, hw_39, h⟩ := h
        replace h := ob h; obtain ⟨z_38, hv_38, h⟩ := h
        replace hq := hq.trans (pf_c_X9_readExpr F 300 cs_36 u0 z_38.1 z_38.2 hv_38)
        replace h := ob h; obtain ⟨w_41, hw_41, h⟩ := h
        replace h := ob h; obtain ⟨z_40, hv_40, h⟩ := h
        replace hq := hq.trans (pf_c_X9_accept F z_38.1 u0 15 z_40.1 z_40.2 hv_40)
        by_cases c_42 : z_40.2 = 0
        · skip
          replace h := (if_pos c_42).symm.trans h
          have k9 := pf_c_X9_readOrder_b90 F (c_X9_readOrder_L43 F lf_43) ih_43 z_40.1 u0 u1 u2 u4 0 (-1) z_38.2 u2 cs9 h
          exact hq.trans k9
        · skip
          replace h := (if_neg c_42).symm.trans h
          have k9 := pf_c_X9_readOrder_b90 F (c_X9_readOrder_L43 F lf_43) ih_43 z_40.1 u0 u1 u2 u4 1 (-1) z_38.2 u2 cs9 h
          exact hq.trans k9
theorem pf_c_X9_readOrder_b7 (F : Nat) (cs1 : CS) (u0 : Nat) (u1 : Nat) (y0 : Nat) (cs9 : CS) (h : c_X9_readOrder_b7 F cs1 u0 u1 y0 = some cs9) : WF pF cs1 cs9 := by
  unfold c_X9_readOrder_b7 at h
  have hq : WF pF cs1 cs1 := WF.refl
  replace h := ob h; obtain ⟨cs_32, hv_32, h⟩ := h
  replace hq := hq.trans (WF.pR (by decide) hv_32)
  replace h := ob h; obtain ⟨w_34, hw_34, h⟩ := h
  replace h := ob h; obtain ⟨v_33, hv_33, h⟩ := h
  replace h := ob h; obtain ⟨cs_35, hv_35, h⟩ := h
  replace hq := hq.trans (WF.pI (by decide) hv_35)
  replace h := ob h; obtain ⟨w_37, hw_37, h⟩ := h
  replace h := ob h; obtain ⟨cs_36, hv_36, h⟩ := h
  replace hq := hq.trans (pf_c_X9_expect F cs_35 u0 14 cs_36 hv_36)
  replace h := ob h; obtain ⟨w_39, hw_39, h⟩ := h
  replace h := ob h; obtain ⟨cs_38, hv_38, h⟩ := h
  replace hq := hq.trans (pf_c_X9_expect F cs_36 u0 8 cs_38 hv_38)
  replace h := ob h; obtain ⟨cs_40, hv_40, h⟩ := h
  replace hq := hq.trans (WF.pI (by decide) hv_40)
  have k9 := pf_c_X9_readOrder_L43 F F cs_40 u0 u1 y0 1 0 cs9 h
  exact hq.trans k9
theorem pf_c_X9_readOrder_b3 (F : Nat) (cs1 : CS) (u0 : Nat) (u1 : Nat) (y0 : Nat) (cs9 : CS) (h : c_X9_readOrder_b3 F cs1 u0 u1 y0 = some cs9) : WF pF cs1 cs9 := by
  unfold c_X9_readOrder_b3 at h
  have hq : WF pF cs1 cs1 := WF.refl
  replace h := ob h; obtain ⟨cs_32, hv_32, h⟩ := h
  replace hq := hq.trans (pf_c_X2_init F cs1 y0 cs_32 hv_32)
  have k9 := pf_c_X9_readOrder_b7 F cs_32 u0 u1 y0 cs9 h
  exact hq.trans k9
theorem pf_c_X9_readOrder (F : Nat) (cs : CS) (x0 : Nat) (x1 : Nat) (cs9 : CS) (h : c_X9_readOrder F cs x0 x1 = some cs9) : WF pF cs cs9 := by
  unfold c_X9_readOrder at h
  have hq : WF pF cs cs := WF.refl
  replace h := ob h; obtain ⟨cs_32, hv_32, h⟩ := h
  replace hq := hq.trans (WF.nwO hv_32)
  have k9 := pf_c_X9_readOrder_b3 F cs_32 x0 x1 (kK cs) cs9 h
  exact hq.trans k9
theorem pf_c_X3_init_b24 (F : Nat) (cs1 : CS) (u0 : Nat) (u1 : Nat) (cs9 : CS) (h : c_X3_init_b24 F cs1 u0 u1 = some cs9) : WF pF cs1 cs9 := by
  unfold c_X3_init_b24 at h
  have hq : WF pF cs1 cs1 := WF.refl
  replace h := ob h; obtain ⟨v_3, hv_3, h⟩ := h
  replace h := ob h; obtain ⟨cs_4, hv_4, h⟩ := h
  replace hq := hq.trans (WF.pR (by decide) hv_4)
  have h9 := Option.some.inj h
  exact hq.to h9
theorem pf_c_X3_init (F : Nat) (cs : CS) (x0 : Nat) (x1 : Nat) (cs9 : CS) (h : c_X3_init F cs x0 x1 = some cs9) : WF pF cs cs9 := by
  unfold c_X3_init at h
  have hq : WF pF cs cs := WF.refl
  replace h := ob h; obtain ⟨cs_3, hv_3, h⟩ := h
  replace hq := hq.trans (WF.nwL (by decide) (by decide) (by decide) (by decide) hv_3)
  have k9 := pf_c_X3_init_b24 F cs_3 x0 x1 cs9 h
  exact hq.trans k9
theorem pf_c_X9_init_b49 (F : Nat) (cs1 : CS) (y0 : Nat) (y1 : Nat) (cs9 : CS) (h : c_X9_init_b49 F cs1 y0 y1 = some cs9) : WF pF cs1 cs9 := by
  unfold c_X9_init_b49 at h
  have hq : WF pF cs1 cs1 := WF.refl
  replace h := ob h; obtain ⟨cs_9, hv_9, h⟩ := h
  replace hq := hq.trans (WF.pR (by decide) hv_9)
  have h9 := Option.some.inj h
  exact hq.to h9
theorem pf_c_X9_init_b46 (F : Nat) (cs1 : CS) (y0 : Nat) (y1 : Nat) (y2 : Nat) (y3 : Nat) (cs9 : CS) (h : c_X9_init_b46 F cs1 y0 y1 y2 y3 = some cs9) : WF pF cs1 cs9 := by
  unfold c_X9_init_b46 at h
  have hq : WF pF cs1 cs1 := WF.refl
  replace h := ob h; obtain ⟨cs_9, hv_9, h⟩ := h
  replace hq := hq.trans (pf_c_X3_init F cs1 y1 y0 cs_9 hv_9)
  have k9 := pf_c_X9_init_b49 F cs_9 y2 y3 cs9 h
  exact hq.trans k9
theorem pf_c_X9_init_b42 (F : Nat) (cs1 : CS) (y0 : Nat) (y1 : Nat) (y2 : Nat) (y3 : Nat) (cs9 : CS) (h : c_X9_init_b42 F cs1 y0 y1 y2 y3 = some cs9) : WF pF cs1 cs9 := by
  unfold c_X9_init_b42 at h
  have hq : WF pF cs1 cs1 := WF.refl
  replace h := ob h; obtain ⟨cs_9, hv_9, h⟩ := h
  replace hq := hq.trans (pf_c_X5_init F cs1 y0 cs_9 hv_9)
  have k9 := pf_c_X9_init_b46 F cs_9 y0 y1 y2 y3 cs9 h
  exact hq.trans k9
theorem pf_c_X9_init_b38 (F : Nat) (cs1 : CS) (y0 : Nat) (y1 : Nat) (cs9 : CS) (h : c_X9_init_b38 F cs1 y0 y1 = some cs9) : WF pF cs1 cs9 := by
  unfold c_X9_init_b38 at h
  have hq : WF pF cs1 cs1 := WF.refl
  replace h := ob h; obtain ⟨cs_9, hv_9, h⟩ := h
  replace hq := hq.trans (WF.nwO hv_9)
  have k9 := pf_c_X9_init_b42 F cs_9 (kK cs1) y0 y0 y1 cs9 h
  exact hq.trans k9
theorem pf_c_X9_init_b34 (F : Nat) (cs1 : CS) (u0 : Nat) (cs9 : CS) (h : c_X9_init_b34 F cs1 u0 = some cs9) : WF pF cs1 cs9 := by
  unfold c_X9_init_b34 at h
  have hq : WF pF cs1 cs1 := WF.refl
  replace h := ob h; obtain ⟨cs_9, hv_9, h⟩ := h
  replace hq := hq.trans (WF.nwO hv_9)
  have k9 := pf_c_X9_init_b38 F cs_9 (kK cs1) u0 cs9 h
  exact hq.trans k9
theorem pf_c_X9_init_b23 (F : Nat) (cs1 : CS) (u0 : Nat) (y0 : Nat) (y1 : Nat) (cs9 : CS) (h : c_X9_init_b23 F cs1 u0 y0 y1 = some cs9) : WF pF cs1 cs9 := by
  unfold c_X9_init_b23 at h
  have hq : WF pF cs1 cs1 := WF.refl
  replace h := ob h; obtain ⟨cs_9, hv_9, h⟩ := h
  replace hq := hq.trans (WF.pR (by decide) hv_9)
  replace h := ob h; obtain ⟨cs_10, hv_10, h⟩ := h
  replace hq := hq.trans (WF.nwA (by decide) hv_10)
  have k9 := pf_c_X9_init_b34 F cs_10 u0 cs9 h
  exact hq.trans k9
theorem pf_c_X9_init_b13 (F : Nat) (cs1 : CS) (u0 : Nat) (u2 : Int32) (y0 : Nat) (y1 : Nat) (cs9 : CS) (h : c_X9_init_b13 F cs1 u0 u2 y0 y1 = some cs9) : WF pF cs1 cs9 := by
  unfold c_X9_init_b13 at h
  have hq : WF pF cs1 cs1 := WF.refl
  replace h := ob h; obtain ⟨cs_9, hv_9, h⟩ := h
  replace hq := hq.trans (pf_c_X1_init F cs1 y0 (if u2 < 120 then u2 else 120) cs_9 hv_9)
  have k9 := pf_c_X9_init_b23 F cs_9 u0 y0 y1 cs9 h
  exact hq.trans k9
theorem pf_c_X9_init (F : Nat) (cs : CS) (x0 : Nat) (x1 : Nat) (x2 : Int32) (cs9 : CS) (h : c_X9_init F cs x0 x1 x2 = some cs9) : WF pF cs cs9 := by
  unfold c_X9_init at h
  have hq : WF pF cs cs := WF.refl
  replace h := ob h; obtain ⟨cs_9, hv_9, h⟩ := h
  replace hq := hq.trans (WF.pR (by decide) hv_9)
  replace h := ob h; obtain ⟨cs_10, hv_10, h⟩ := h
  replace hq := hq.trans (WF.nwO hv_10)
  have k9 := pf_c_X9_init_b13 F cs_10 x0 x2 (kK cs_9) x0 cs9 h
  exact hq.trans k9
theorem pf_c_X9_readQuery_b133 (F : Nat) (T : TC_X9_readQuery) (hM_X9_readQuery : ∀ (cs : CS) (x0 : Nat) (cs9 : CS) (r9 : Nat), T.1 cs x0 = some (cs9, r9) → WF pF cs cs9) (hM_X9_readSelect : ∀ (cs : CS) (x0 : Nat) (cs9 : CS) (r9 : Nat), T.2.1 cs x0 = some (cs9, r9) → WF pF cs cs9) (hM_X9_readSources : ∀ (cs : CS) (x0 : Nat) (x1 : Nat) (cs9 : CS), T.2.2.1 cs x0 x1 = some cs9 → WF pF cs cs9) (hM_X9_readSource : ∀ (cs : CS) (x0 : Nat) (cs9 : CS) (r9 : Nat), T.2.2.2 cs x0 = some (cs9, r9) → WF pF cs cs9) (cs1 : CS) (u1 : Nat) (cs9 : CS) (r9 : Nat) (h : c_X9_readQuery_b133 F T cs1 u1 = some (cs9, r9)) : WF pF cs1 cs9 := by
  unfold c_X9_readQuery_b133 at h
  have hq : WF pF cs1 cs1 := WF.refl
  have h9 := (Prod.mk.inj (Option.some.inj h)).1
  exact hq.to h9
theorem pf_c_X9_readQuery_b119 (F : Nat) (T : TC_X9_readQuery) (hM_X9_readQuery : ∀ (cs : CS) (x0 : Nat) (cs9 : CS) (r9 : Nat), T.1 cs x0 = some (cs9, r9) → WF pF cs cs9) (hM_X9_readSelect : ∀ (cs : CS) (x0 : Nat) (cs9 : CS) (r9 : Nat), T.2.1 cs x0 = some (cs9, r9) → WF pF cs cs9) (hM_X9_readSources : ∀ (cs : CS) (x0 : Nat) (x1 : Nat) (cs9 : CS), T.2.2.1 cs x0 x1 = some cs9 → WF pF cs cs9) (hM_X9_readSource : ∀ (cs : CS) (x0 : Nat) (cs9 : CS) (r9 : Nat), T.2.2.2 cs x0 = some (cs9, r9) → WF pF cs cs9) (cs1 : CS) (u0 : Nat) (u1 : Nat) (cs9 : CS) (r9 : Nat) (h : c_X9_readQuery_b119 F T cs1 u0 u1 = some (cs9, r9)) : WF pF cs1 cs9 := by
  unfold c_X9_readQuery_b119 at h
  have hq : WF pF cs1 cs1 := WF.refl
  replace h := ob h; obtain ⟨w_33, hw_33, h⟩ := h
  replace h := ob h; obtain ⟨v_32, hv_32, h⟩ := h
  by_cases c_34 : v_32 = 14
  · skip
    replace h := (if_pos c_34).symm.trans h
    replace h := ob h; obtain ⟨w_36, hw_36, h⟩ := h
    replace h := ob h; obtain ⟨cs_35, hv_35, h⟩ := h
    replace hq := hq.trans (pf_c_X9_readOrder F cs1 u0 u1 cs_35 hv_35)
    have k9 := pf_c_X9_readQuery_b133 F T hM_X9_readQuery hM_X9_readSelect hM_X9_readSources hM_X9_readSource cs_35 u1 cs9 r9 h
    exact hq.trans k9
  · skip
    replace h := (if_neg c_34).symm.trans h
    have k9 := pf_c_X9_readQuery_b133 F T hM_X9_readQuery hM_X9_readSelect hM_X9_readSources hM_X9_readSource cs1 u1 cs9 r9 h
    exact hq.trans k9
theorem pf_c_X9_readQuery_b112 (F : Nat) (T : TC_X9_readQuery) (hM_X9_readQuery : ∀ (cs : CS) (x0 : Nat) (cs9 : CS) (r9 : Nat), T.1 cs x0 = some (cs9, r9) → WF pF cs cs9) (hM_X9_readSelect : ∀ (cs : CS) (x0 : Nat) (cs9 : CS) (r9 : Nat), T.2.1 cs x0 = some (cs9, r9) → WF pF cs cs9) (hM_X9_readSources : ∀ (cs : CS) (x0 : Nat) (x1 : Nat) (cs9 : CS), T.2.2.1 cs x0 x1 = some cs9 → WF pF cs cs9) (hM_X9_readSource : ∀ (cs : CS) (x0 : Nat) (cs9 : CS) (r9 : Nat), T.2.2.2 cs x0 = some (cs9, r9) → WF pF cs cs9) (rc14 : CS → Nat → Nat → Int32 → Option (CS × Nat)) (hrc14 : ∀ (cs1 : CS) (u0 : Nat) (u1 : Nat) (u2 : Int32) (cs9 : CS) (r9 : Nat), rc14 cs1 u0 u1 u2 = some (cs9, r9) → WF pF cs1 cs9) (cs1 : CS) (u0 : Nat) (u1 : Nat) (u2 : Int32) (y0 : Int32) (cs9 : CS) (r9 : Nat) (h : c_X9_readQuery_b112 F T rc14 cs1 u0 u1 u2 y0 = some (cs9, r9)) : WF pF cs1 cs9 := by
  unfold c_X9_readQuery_b112 at h
  have hq : WF pF cs1 cs1 := WF.refl
  have k9 := hrc14 cs1 u0 u1 (u2 + 1) cs9 r9 h
  exact hq.trans k9
theorem pf_c_X9_readQuery_b93 (F : Nat) (T : TC_X9_readQuery) (hM_X9_readQuery : ∀ (cs : CS) (x0 : Nat) (cs9 : CS) (r9 : Nat), T.1 cs x0 = some (cs9, r9) → WF pF cs cs9) (hM_X9_readSelect : ∀ (cs : CS) (x0 : Nat) (cs9 : CS) (r9 : Nat), T.2.1 cs x0 = some (cs9, r9) → WF pF cs cs9) (hM_X9_readSources : ∀ (cs : CS) (x0 : Nat) (x1 : Nat) (cs9 : CS), T.2.2.1 cs x0 x1 = some cs9 → WF pF cs cs9) (hM_X9_readSource : ∀ (cs : CS) (x0 : Nat) (cs9 : CS) (r9 : Nat), T.2.2.2 cs x0 = some (cs9, r9) → WF pF cs cs9) (rc14 : CS → Nat → Nat → Int32 → Option (CS × Nat)) (hrc14 : ∀ (cs1 : CS) (u0 : Nat) (u1 : Nat) (u2 : Int32) (cs9 : CS) (r9 : Nat), rc14 cs1 u0 u1 u2 = some (cs9, r9) → WF pF cs1 cs9) (cs1 : CS) (u0 : Nat) (u1 : Nat) (u2 : Int32) (u4 : Int32) (u6 : Nat) (y0 : Int32) (y1 : Nat) (cs9 : CS) (r9 : Nat) (h : c_X9_readQuery_b93 F T rc14 cs1 u0 u1 u2 u4 u6 y0 y1 = some (cs9, r9)) : WF pF cs1 cs9 := by
  unfold c_X9_readQuery_b93 at h
  have hq : WF pF cs1 cs1 := WF.refl
  replace h := ob h; obtain ⟨cs_32, hv_32, h⟩ := h
  replace hq := hq.trans (WF.pI (by decide) hv_32)
  replace h := ob h; obtain ⟨cs_33, hv_33, h⟩ := h
  replace hq := hq.trans (WF.pI (by decide) hv_33)
  replace h := ob h; obtain ⟨v_34, hv_34, h⟩ := h
  replace h := ob h; obtain ⟨i_35, hi_35, h⟩ := h
  subst hi_35
  replace h := ob h; obtain ⟨cs_36, hv_36, h⟩ := h
  replace hq := hq.trans (WF.lAd (by decide) (by decide) (by decide) (by decide) hv_36)
  have k9 := pf_c_X9_readQuery_b112 F T hM_X9_readQuery hM_X9_readSelect hM_X9_readSources hM_X9_readSource rc14 hrc14 cs_36 u0 u1 u2 1 cs9 r9 h
  exact hq.trans k9
theorem pf_c_X9_readQuery_b78 (F : Nat) (T : TC_X9_readQuery) (hM_X9_readQuery : ∀ (cs : CS) (x0 : Nat) (cs9 : CS) (r9 : Nat), T.1 cs x0 = some (cs9, r9) → WF pF cs cs9) (hM_X9_readSelect : ∀ (cs : CS) (x0 : Nat) (cs9 : CS) (r9 : Nat), T.2.1 cs x0 = some (cs9, r9) → WF pF cs cs9) (hM_X9_readSources : ∀ (cs : CS) (x0 : Nat) (x1 : Nat) (cs9 : CS), T.2.2.1 cs x0 x1 = some cs9 → WF pF cs cs9) (hM_X9_readSource : ∀ (cs : CS) (x0 : Nat) (cs9 : CS) (r9 : Nat), T.2.2.2 cs x0 = some (cs9, r9) → WF pF cs cs9) (rc14 : CS → Nat → Nat → Int32 → Option (CS × Nat)) (hrc14 : ∀ (cs1 : CS) (u0 : Nat) (u1 : Nat) (u2 : Int32) (cs9 : CS) (r9 : Nat), rc14 cs1 u0 u1 u2 = some (cs9, r9) → WF pF cs1 cs9) (cs1 : CS) (u0 : Nat) (u1 : Nat) (u2 : Int32) (u3 : Int32) (u4 : Int32) (u5 : Int32) (y0 : Nat) (cs9 : CS) (r9 : Nat) (h : c_X9_readQuery_b78 F T rc14 cs1 u0 u1 u2 u3 u4 u5 y0 = some (cs9, r9)) : WF pF cs1 cs9 := by
  unfold c_X9_readQuery_b78 at h
  have hq : WF pF cs1 cs1 := WF.refl
  by_cases c_32 : u5 = 0
  · skip
    replace h := (if_pos c_32).symm.trans h
    have k9 := pf_c_X9_readQuery_b93 F T hM_X9_readQuery hM_X9_readSelect hM_X9_readSources hM_X9_readSource rc14 hrc14 cs1 u0 u1 u2 u4 y0 u3 y0 cs9 r9 h
    exact hq.trans k9
  · skip
    replace h := (if_neg c_32).symm.trans h
    have k9 := pf_c_X9_readQuery_b93 F T hM_X9_readQuery hM_X9_readSelect hM_X9_readSources hM_X9_readSource rc14 hrc14 cs1 u0 u1 u2 u4 y0 11 y0 cs9 r9 h
    exact hq.trans k9
theorem pf_c_X9_readQuery_b72 (F : Nat) (T : TC_X9_readQuery) (hM_X9_readQuery : ∀ (cs : CS) (x0 : Nat) (cs9 : CS) (r9 : Nat), T.1 cs x0 = some (cs9, r9) → WF pF cs cs9) (hM_X9_readSelect : ∀ (cs : CS) (x0 : Nat) (cs9 : CS) (r9 : Nat), T.2.1 cs x0 = some (cs9, r9) → WF pF cs cs9) (hM_X9_readSources : ∀ (cs : CS) (x0 : Nat) (x1 : Nat) (cs9 : CS), T.2.2.1 cs x0 x1 = some cs9 → WF pF cs cs9) (hM_X9_readSource : ∀ (cs : CS) (x0 : Nat) (cs9 : CS) (r9 : Nat), T.2.2.2 cs x0 = some (cs9, r9) → WF pF cs cs9) (rc14 : CS → Nat → Nat → Int32 → Option (CS × Nat)) (hrc14 : ∀ (cs1 : CS) (u0 : Nat) (u1 : Nat) (u2 : Int32) (cs9 : CS) (r9 : Nat), rc14 cs1 u0 u1 u2 = some (cs9, r9) → WF pF cs1 cs9) (cs1 : CS) (u0 : Nat) (u1 : Nat) (u2 : Int32) (u3 : Int32) (u4 : Int32) (y0 : Int32) (cs9 : CS) (r9 : Nat) (h : c_X9_readQuery_b72 F T rc14 cs1 u0 u1 u2 u3 u4 y0 = some (cs9, r9)) : WF pF cs1 cs9 := by
  unfold c_X9_readQuery_b72 at h
  have hq : WF pF cs1 cs1 := WF.refl
  replace h := ob h; obtain ⟨w_33, hw_33, h⟩ := h
  replace h := ob h; obtain ⟨z_32, hv_32, h⟩ := h
  replace hq := hq.trans (hM_X9_readSelect cs1 u0 z_32.1 z_32.2 hv_32)
  have k9 := pf_c_X9_readQuery_b78 F T hM_X9_readQuery hM_X9_readSelect hM_X9_readSources hM_X9_readSource rc14 hrc14 z_32.1 u0 u1 u2 u3 u4 y0 z_32.2 cs9 r9 h
  exact hq.trans k9
theorem pf_c_X9_readQuery_b71 (F : Nat) (T : TC_X9_readQuery) (hM_X9_readQuery : ∀ (cs : CS) (x0 : Nat) (cs9 : CS) (r9 : Nat), T.1 cs x0 = some (cs9, r9) → WF pF cs cs9) (hM_X9_readSelect : ∀ (cs : CS) (x0 : Nat) (cs9 : CS) (r9 : Nat), T.2.1 cs x0 = some (cs9, r9) → WF pF cs cs9) (hM_X9_readSources : ∀ (cs : CS) (x0 : Nat) (x1 : Nat) (cs9 : CS), T.2.2.1 cs x0 x1 = some cs9 → WF pF cs cs9) (hM_X9_readSource : ∀ (cs : CS) (x0 : Nat) (cs9 : CS) (r9 : Nat), T.2.2.2 cs x0 = some (cs9, r9) → WF pF cs cs9) (rc14 : CS → Nat → Nat → Int32 → Option (CS × Nat)) (hrc14 : ∀ (cs1 : CS) (u0 : Nat) (u1 : Nat) (u2 : Int32) (cs9 : CS) (r9 : Nat), rc14 cs1 u0 u1 u2 = some (cs9, r9) → WF pF cs1 cs9) (cs1 : CS) (u0 : Nat) (u1 : Nat) (u2 : Int32) (u3 : Int32) (u4 : Int32) (cs9 : CS) (r9 : Nat) (h : c_X9_readQuery_b71 F T rc14 cs1 u0 u1 u2 u3 u4 = some (cs9, r9)) : WF pF cs1 cs9 := by
  unfold c_X9_readQuery_b71 at h
  have hq : WF pF cs1 cs1 := WF.refl
  have k9 := pf_c_X9_readQuery_b72 F T hM_X9_readQuery hM_X9_readSelect hM_X9_readSources hM_X9_readSource rc14 hrc14 cs1 u0 u1 u2 u3 u4 0 cs9 r9 h
  exact hq.trans k9
theorem pf_c_X9_readQuery_L14 (F : Nat) (T : TC_X9_readQuery) (hM_X9_readQuery : ∀ (cs : CS) (x0 : Nat) (cs9 : CS) (r9 : Nat), T.1 cs x0 = some (cs9, r9) → WF pF cs cs9) (hM_X9_readSelect : ∀ (cs : CS) (x0 : Nat) (cs9 : CS) (r9 : Nat), T.2.1 cs x0 = some (cs9, r9) → WF pF cs cs9) (hM_X9_readSources : ∀ (cs : CS) (x0 : Nat) (x1 : Nat) (cs9 : CS), T.2.2.1 cs x0 x1 = some cs9 → WF pF cs cs9) (hM_X9_readSource : ∀ (cs : CS) (x0 : Nat) (cs9 : CS) (r9 : Nat), T.2.2.2 cs x0 = some (cs9, r9) → WF pF cs cs9) : ∀ (lf_14 : Nat) (cs1 : CS) (u0 : Nat) (u1 : Nat) (u2 : Int32) (cs9 : CS) (r9 : Nat), c_X9_readQuery_L14 F T lf_14 cs1 u0 u1 u2 = some (cs9, r9) → WF pF cs1 cs9 := by
  intro lf_14
  induction lf_14 with
  | zero => intro cs1 u0 u1 u2 cs9 r9 h; cases (show (none : Option (CS × Nat)) = _ from h)
  | succ lf_14 ih_14 =>
    intro cs1 u0 u1 u2 cs9 r9 h
    rw [c_X9_readQuery_L14] at h
    have hq : WF pF cs1 cs1 := WF.refl
    by_cases c_32 : 2000 ≤ u2
    · skip
      replace h := (if_pos c_32).symm.trans h
      have k9 := pf_c_X9_readQuery_b119 F T hM_X9_readQuery hM_X9_readSelect hM_X9_readSources hM_X9_readSource cs1 u0 u1 cs9 r9 h
      exact hq.trans k9
    · skip
      replace h := (if_neg c_32).symm.trans h
      replace h := ob h; obtain ⟨w_34, hw_34, h⟩ := h
      replace h := ob h; obtain ⟨v_33, hv_33, h⟩ := h
      replace h := ob h; obtain ⟨v_35, hv_35, h⟩ := h
      by_cases c_36 : v_35 = 0
      · skip
        replace h := (if_pos c_36).symm.trans h
        have k9 := pf_c_X9_readQuery_b119 F T hM_X9_readQuery hM_X9_readSelect hM_X9_readSources hM_X9_readSource cs1 u0 u1 cs9 r9 h
        exact hq.trans k9
      · skip
        replace h := (if_neg c_36).symm.trans h
        replace h := ob h; obtain ⟨w_38, hw_38, h⟩ := h
        replace h := ob h; obtain ⟨v_37, hv_37, h⟩ := h
        replace h := ob h; obtain ⟨w_40, hw_40, h⟩ := h
        replace h := ob h; obtain ⟨v_39, hv_39, h⟩ := h
        replace h := ob h; obtain ⟨v_41, hv_41, h⟩ := h
        replace h := ob h; obtain ⟨cs_42, hv_42, h⟩ := h
        replace hq := hq.trans (WF.pI (by decide) hv_42)
        by_cases c_43 : v_37 = 10
        · skip
          replace h := (if_pos c_43).symm.trans h
          replace h := ob h; obtain ⟨w_45, hw_45, h⟩ := h
          replace h := ob h; obtain ⟨z_44, hv_44, h⟩ := h
          replace hq := hq.trans (pf_c_X9_accept F cs_42 u0 11 z_44.1 z_44.2 hv_44)
          by_cases c_46 : z_44.2 = 0
          · skip
            replace h := (if_pos c_46).symm.trans h
            have k9 := pf_c_X9_readQuery_b71 F T hM_X9_readQuery hM_X9_readSelect hM_X9_readSources hM_X9_readSource (c_X9_readQuery_L14 F T lf_14) ih_14 z_44.1 u0 u1 u2 v_37 v_39 cs9 r9 h
            exact hq.trans k9
          · skip
            replace h := (if_neg c_46).symm.trans h
            have k9 := pf_c_X9_readQuery_b72 F T hM_X9_readQuery hM_X9_readSelect hM_X9_readSources hM_X9_readSource (c_X9_readQuery_L14 F T lf_14) ih_14 z_44.1 u0 u1 u2 v_37 v_39 1 cs9 r9 h
            exact hq.trans k9
        · skip
          replace h := (if_neg c_43).symm.trans h
          have k9 := pf_c_X9_readQuery_b71 F T hM_X9_readQuery hM_X9_readSelect hM_X9_readSources hM_X9_readSource (c_X9_readQuery_L14 F T lf_14) ih_14 cs_42 u0 u1 u2 v_37 v_39 cs9 r9 h
          exact hq.trans k9
theorem pf_c_X9_readQuery_b11 (F : Nat) (T : TC_X9_readQuery) (hM_X9_readQuery : ∀ (cs : CS) (x0 : Nat) (cs9 : CS) (r9 : Nat), T.1 cs x0 = some (cs9, r9) → WF pF cs cs9) (hM_X9_readSelect : ∀ (cs : CS) (x0 : Nat) (cs9 : CS) (r9 : Nat), T.2.1 cs x0 = some (cs9, r9) → WF pF cs cs9) (hM_X9_readSources : ∀ (cs : CS) (x0 : Nat) (x1 : Nat) (cs9 : CS), T.2.2.1 cs x0 x1 = some cs9 → WF pF cs cs9) (hM_X9_readSource : ∀ (cs : CS) (x0 : Nat) (cs9 : CS) (r9 : Nat), T.2.2.2 cs x0 = some (cs9, r9) → WF pF cs cs9) (cs1 : CS) (u0 : Nat) (y0 : Nat) (cs9 : CS) (r9 : Nat) (h : c_X9_readQuery_b11 F T cs1 u0 y0 = some (cs9, r9)) : WF pF cs1 cs9 := by
  unfold c_X9_readQuery_b11 at h
  have hq : WF pF cs1 cs1 := WF.refl
  have k9 := pf_c_X9_readQuery_L14 F T hM_X9_readQuery hM_X9_readSelect hM_X9_readSources hM_X9_readSource F cs1 u0 y0 0 cs9 r9 h
  exact hq.trans k9
theorem pf_c_X9_readQuery_b8 (F : Nat) (T : TC_X9_readQuery) (hM_X9_readQuery : ∀ (cs : CS) (x0 : Nat) (cs9 : CS) (r9 : Nat), T.1 cs x0 = some (cs9, r9) → WF pF cs cs9) (hM_X9_readSelect : ∀ (cs : CS) (x0 : Nat) (cs9 : CS) (r9 : Nat), T.2.1 cs x0 = some (cs9, r9) → WF pF cs cs9) (hM_X9_readSources : ∀ (cs : CS) (x0 : Nat) (x1 : Nat) (cs9 : CS), T.2.2.1 cs x0 x1 = some cs9 → WF pF cs cs9) (hM_X9_readSource : ∀ (cs : CS) (x0 : Nat) (cs9 : CS) (r9 : Nat), T.2.2.2 cs x0 = some (cs9, r9) → WF pF cs cs9) (cs1 : CS) (u0 : Nat) (y0 : Nat) (y1 : Nat) (y2 : Nat) (cs9 : CS) (r9 : Nat) (h : c_X9_readQuery_b8 F T cs1 u0 y0 y1 y2 = some (cs9, r9)) : WF pF cs1 cs9 := by
  unfold c_X9_readQuery_b8 at h
  have hq : WF pF cs1 cs1 := WF.refl
  replace h := ob h; obtain ⟨cs_32, hv_32, h⟩ := h
  replace hq := hq.trans (pf_c_X3_init F cs1 y1 y0 cs_32 hv_32)
  have k9 := pf_c_X9_readQuery_b11 F T hM_X9_readQuery hM_X9_readSelect hM_X9_readSources hM_X9_readSource cs_32 u0 y2 cs9 r9 h
  exact hq.trans k9
theorem pf_c_X9_readQuery_b3 (F : Nat) (T : TC_X9_readQuery) (hM_X9_readQuery : ∀ (cs : CS) (x0 : Nat) (cs9 : CS) (r9 : Nat), T.1 cs x0 = some (cs9, r9) → WF pF cs cs9) (hM_X9_readSelect : ∀ (cs : CS) (x0 : Nat) (cs9 : CS) (r9 : Nat), T.2.1 cs x0 = some (cs9, r9) → WF pF cs cs9) (hM_X9_readSources : ∀ (cs : CS) (x0 : Nat) (x1 : Nat) (cs9 : CS), T.2.2.1 cs x0 x1 = some cs9 → WF pF cs cs9) (hM_X9_readSource : ∀ (cs : CS) (x0 : Nat) (cs9 : CS) (r9 : Nat), T.2.2.2 cs x0 = some (cs9, r9) → WF pF cs cs9) (cs1 : CS) (u0 : Nat) (y0 : Nat) (cs9 : CS) (r9 : Nat) (h : c_X9_readQuery_b3 F T cs1 u0 y0 = some (cs9, r9)) : WF pF cs1 cs9 := by
  unfold c_X9_readQuery_b3 at h
  have hq : WF pF cs1 cs1 := WF.refl
  replace h := ob h; obtain ⟨w_33, hw_33, h⟩ := h
  replace h := ob h; obtain ⟨z_32, hv_32, h⟩ := h
  replace hq := hq.trans (hM_X9_readSelect cs1 u0 z_32.1 z_32.2 hv_32)
  have k9 := pf_c_X9_readQuery_b8 F T hM_X9_readQuery hM_X9_readSelect hM_X9_readSources hM_X9_readSource z_32.1 u0 z_32.2 y0 y0 cs9 r9 h
  exact hq.trans k9
theorem pf_cb_X9_readQuery (F : Nat) (T : TC_X9_readQuery) (hM_X9_readQuery : ∀ (cs : CS) (x0 : Nat) (cs9 : CS) (r9 : Nat), T.1 cs x0 = some (cs9, r9) → WF pF cs cs9) (hM_X9_readSelect : ∀ (cs : CS) (x0 : Nat) (cs9 : CS) (r9 : Nat), T.2.1 cs x0 = some (cs9, r9) → WF pF cs cs9) (hM_X9_readSources : ∀ (cs : CS) (x0 : Nat) (x1 : Nat) (cs9 : CS), T.2.2.1 cs x0 x1 = some cs9 → WF pF cs cs9) (hM_X9_readSource : ∀ (cs : CS) (x0 : Nat) (cs9 : CS) (r9 : Nat), T.2.2.2 cs x0 = some (cs9, r9) → WF pF cs cs9) (cs : CS) (x0 : Nat) (cs9 : CS) (r9 : Nat) (h : cb_X9_readQuery F T cs x0 = some (cs9, r9)) : WF pF cs cs9 := by
  unfold cb_X9_readQuery at h
  have hq : WF pF cs cs := WF.refl
  replace h := ob h; obtain ⟨cs_32, hv_32, h⟩ := h
  replace hq := hq.trans (WF.nwO hv_32)
  have k9 := pf_c_X9_readQuery_b3 F T hM_X9_readQuery hM_X9_readSelect hM_X9_readSources hM_X9_readSource cs_32 x0 (kK cs) cs9 r9 h
  exact hq.trans k9
theorem pf_c_X9_readSelect_b151 (F : Nat) (T : TC_X9_readQuery) (hM_X9_readQuery : ∀ (cs : CS) (x0 : Nat) (cs9 : CS) (r9 : Nat), T.1 cs x0 = some (cs9, r9) → WF pF cs cs9) (hM_X9_readSelect : ∀ (cs : CS) (x0 : Nat) (cs9 : CS) (r9 : Nat), T.2.1 cs x0 = some (cs9, r9) → WF pF cs cs9) (hM_X9_readSources : ∀ (cs : CS) (x0 : Nat) (x1 : Nat) (cs9 : CS), T.2.2.1 cs x0 x1 = some cs9 → WF pF cs cs9) (hM_X9_readSource : ∀ (cs : CS) (x0 : Nat) (cs9 : CS) (r9 : Nat), T.2.2.2 cs x0 = some (cs9, r9) → WF pF cs cs9) (cs1 : CS) (u0 : Nat) (u1 : Option Nat) (u2 : Nat) (cs9 : CS) (r9 : Nat) (h : c_X9_readSelect_b151 F T cs1 u0 u1 u2 = some (cs9, r9)) : WF pF cs1 cs9 := by
  unfold c_X9_readSelect_b151 at h
  have hq : WF pF cs1 cs1 := WF.refl
  replace h := ob h; obtain ⟨cs_45, hv_45, h⟩ := h
  replace hq := hq.trans (WF.pR (by decide) hv_45)
  have h9 := (Prod.mk.inj (Option.some.inj h)).1
  exact hq.to h9
theorem pf_c_X9_readSelect_b129 (F : Nat) (T : TC_X9_readQuery) (hM_X9_readQuery : ∀ (cs : CS) (x0 : Nat) (cs9 : CS) (r9 : Nat), T.1 cs x0 = some (cs9, r9) → WF pF cs cs9) (hM_X9_readSelect : ∀ (cs : CS) (x0 : Nat) (cs9 : CS) (r9 : Nat), T.2.1 cs x0 = some (cs9, r9) → WF pF cs cs9) (hM_X9_readSources : ∀ (cs : CS) (x0 : Nat) (x1 : Nat) (cs9 : CS), T.2.2.1 cs x0 x1 = some cs9 → WF pF cs cs9) (hM_X9_readSource : ∀ (cs : CS) (x0 : Nat) (cs9 : CS) (r9 : Nat), T.2.2.2 cs x0 = some (cs9, r9) → WF pF cs cs9) (cs1 : CS) (u0 : Nat) (u1 : Option Nat) (u2 : Nat) (cs9 : CS) (r9 : Nat) (h : c_X9_readSelect_b129 F T cs1 u0 u1 u2 = some (cs9, r9)) : WF pF cs1 cs9 := by
  unfold c_X9_readSelect_b129 at h
  have hq : WF pF cs1 cs1 := WF.refl
  replace h := ob h; obtain ⟨cs_45, hv_45, h⟩ := h
  replace hq := hq.trans (WF.pI (by decide) hv_45)
  replace h := ob h; obtain ⟨w_47, hw_47, h⟩ := h
  replace h := ob h; obtain ⟨z_46, hv_46, h⟩ := h
  replace hq := hq.trans (pf_c_X9_accept F cs_45 u0 9 z_46.1 z_46.2 hv_46)
  by_cases c_48 : z_46.2 = 0
  · skip
    replace h := (if_pos c_48).symm.trans h
    have k9 := pf_c_X9_readSelect_b151 F T hM_X9_readQuery hM_X9_readSelect hM_X9_readSources hM_X9_readSource z_46.1 u0 u1 u2 cs9 r9 h
    exact hq.trans k9
  · skip
    replace h := (if_neg c_48).symm.trans h
    replace h := ob h; obtain ⟨w_50, hw_50, h⟩ := h
    replace h := ob h; obtain ⟨z_49, hv_49, h⟩ := h
    replace hq := hq.trans (pf_c_X9_readExpr F 300 z_46.1 u0 z_49.1 z_49.2 hv_49)
    replace h := ob h; obtain ⟨cs_51, hv_51, h⟩ := h
    replace hq := hq.trans (WF.pI (by decide) hv_51)
    have k9 := pf_c_X9_readSelect_b151 F T hM_X9_readQuery hM_X9_readSelect hM_X9_readSources hM_X9_readSource cs_51 u0 u1 u2 cs9 r9 h
    exact hq.trans k9
theorem pf_c_X9_readSelect_b115 (F : Nat) (T : TC_X9_readQuery) (hM_X9_readQuery : ∀ (cs : CS) (x0 : Nat) (cs9 : CS) (r9 : Nat), T.1 cs x0 = some (cs9, r9) → WF pF cs cs9) (hM_X9_readSelect : ∀ (cs : CS) (x0 : Nat) (cs9 : CS) (r9 : Nat), T.2.1 cs x0 = some (cs9, r9) → WF pF cs cs9) (hM_X9_readSources : ∀ (cs : CS) (x0 : Nat) (x1 : Nat) (cs9 : CS), T.2.2.1 cs x0 x1 = some cs9 → WF pF cs cs9) (hM_X9_readSource : ∀ (cs : CS) (x0 : Nat) (cs9 : CS) (r9 : Nat), T.2.2.2 cs x0 = some (cs9, r9) → WF pF cs cs9) (cs1 : CS) (u0 : Nat) (u1 : Option Nat) (u2 : Nat) (cs9 : CS) (r9 : Nat) (h : c_X9_readSelect_b115 F T cs1 u0 u1 u2 = some (cs9, r9)) : WF pF cs1 cs9 := by
  unfold c_X9_readSelect_b115 at h
  have hq : WF pF cs1 cs1 := WF.refl
  replace h := ob h; obtain ⟨w_46, hw_46, h⟩ := h
  replace h := ob h; obtain ⟨v_45, hv_45, h⟩ := h
  by_cases c_47 : v_45 = 7
  · skip
    replace h := (if_pos c_47).symm.trans h
    replace h := ob h; obtain ⟨w_49, hw_49, h⟩ := h
    replace h := ob h; obtain ⟨cs_48, hv_48, h⟩ := h
    replace hq := hq.trans (pf_c_X9_readGroups F cs1 u0 u2 cs_48 hv_48)
    have k9 := pf_c_X9_readSelect_b129 F T hM_X9_readQuery hM_X9_readSelect hM_X9_readSources hM_X9_readSource cs_48 u0 u1 u2 cs9 r9 h
    exact hq.trans k9
  · skip
    replace h := (if_neg c_47).symm.trans h
    have k9 := pf_c_X9_readSelect_b129 F T hM_X9_readQuery hM_X9_readSelect hM_X9_readSources hM_X9_readSource cs1 u0 u1 u2 cs9 r9 h
    exact hq.trans k9
theorem pf_c_X9_readSelect_b93 (F : Nat) (T : TC_X9_readQuery) (hM_X9_readQuery : ∀ (cs : CS) (x0 : Nat) (cs9 : CS) (r9 : Nat), T.1 cs x0 = some (cs9, r9) → WF pF cs cs9) (hM_X9_readSelect : ∀ (cs : CS) (x0 : Nat) (cs9 : CS) (r9 : Nat), T.2.1 cs x0 = some (cs9, r9) → WF pF cs cs9) (hM_X9_readSources : ∀ (cs : CS) (x0 : Nat) (x1 : Nat) (cs9 : CS), T.2.2.1 cs x0 x1 = some cs9 → WF pF cs cs9) (hM_X9_readSource : ∀ (cs : CS) (x0 : Nat) (cs9 : CS) (r9 : Nat), T.2.2.2 cs x0 = some (cs9, r9) → WF pF cs cs9) (cs1 : CS) (u0 : Nat) (u1 : Option Nat) (u2 : Nat) (cs9 : CS) (r9 : Nat) (h : c_X9_readSelect_b93 F T cs1 u0 u1 u2 = some (cs9, r9)) : WF pF cs1 cs9 := by
  unfold c_X9_readSelect_b93 at h
  have hq : WF pF cs1 cs1 := WF.refl
  replace h := ob h; obtain ⟨cs_45, hv_45, h⟩ := h
  replace hq := hq.trans (WF.pI (by decide) hv_45)
  replace h := ob h; obtain ⟨w_47, hw_47, h⟩ := h
  replace h := ob h; obtain ⟨z_46, hv_46, h⟩ := h
  replace hq := hq.trans (pf_c_X9_accept F cs_45 u0 6 z_46.1 z_46.2 hv_46)
  by_cases c_48 : z_46.2 = 0
  · skip
    replace h := (if_pos c_48).symm.trans h
    have k9 := pf_c_X9_readSelect_b115 F T hM_X9_readQuery hM_X9_readSelect hM_X9_readSources hM_X9_readSource z_46.1 u0 u1 u2 cs9 r9 h
    exact hq.trans k9
  · skip
    replace h := (if_neg c_48).symm.trans h
    replace h := ob h; obtain ⟨w_50, hw_50, h⟩ := h
    replace h := ob h; obtain ⟨z_49, hv_49, h⟩ := h
    replace hq := hq.trans (pf_c_X9_readExpr F 300 z_46.1 u0 z_49.1 z_49.2 hv_49)
    replace h := ob h; obtain ⟨cs_51, hv_51, h⟩ := h
    replace hq := hq.trans (WF.pI (by decide) hv_51)
    have k9 := pf_c_X9_readSelect_b115 F T hM_X9_readQuery hM_X9_readSelect hM_X9_readSources hM_X9_readSource cs_51 u0 u1 u2 cs9 r9 h
    exact hq.trans k9
theorem pf_c_X9_readSelect_b83 (F : Nat) (T : TC_X9_readQuery) (hM_X9_readQuery : ∀ (cs : CS) (x0 : Nat) (cs9 : CS) (r9 : Nat), T.1 cs x0 = some (cs9, r9) → WF pF cs cs9) (hM_X9_readSelect : ∀ (cs : CS) (x0 : Nat) (cs9 : CS) (r9 : Nat), T.2.1 cs x0 = some (cs9, r9) → WF pF cs cs9) (hM_X9_readSources : ∀ (cs : CS) (x0 : Nat) (x1 : Nat) (cs9 : CS), T.2.2.1 cs x0 x1 = some cs9 → WF pF cs cs9) (hM_X9_readSource : ∀ (cs : CS) (x0 : Nat) (cs9 : CS) (r9 : Nat), T.2.2.2 cs x0 = some (cs9, r9) → WF pF cs cs9) (cs1 : CS) (u0 : Nat) (u1 : Option Nat) (u2 : Nat) (cs9 : CS) (r9 : Nat) (h : c_X9_readSelect_b83 F T cs1 u0 u1 u2 = some (cs9, r9)) : WF pF cs1 cs9 := by
  unfold c_X9_readSelect_b83 at h
  have hq : WF pF cs1 cs1 := WF.refl
  replace h := ob h; obtain ⟨w_46, hw_46, h⟩ := h
  replace h := ob h; obtain ⟨cs_45, hv_45, h⟩ := h
  replace hq := hq.trans (pf_c_X9_expect F cs1 u0 2 cs_45 hv_45)
  replace h := ob h; obtain ⟨w_48, hw_48, h⟩ := h
  replace h := ob h; obtain ⟨cs_47, hv_47, h⟩ := h
  replace hq := hq.trans (hM_X9_readSources cs_45 u0 u2 cs_47 hv_47)
  have k9 := pf_c_X9_readSelect_b93 F T hM_X9_readQuery hM_X9_readSelect hM_X9_readSources hM_X9_readSource cs_47 u0 u1 u2 cs9 r9 h
  exact hq.trans k9
theorem pf_c_X9_readSelect_L50 (F : Nat) (T : TC_X9_readQuery) (hM_X9_readQuery : ∀ (cs : CS) (x0 : Nat) (cs9 : CS) (r9 : Nat), T.1 cs x0 = some (cs9, r9) → WF pF cs cs9) (hM_X9_readSelect : ∀ (cs : CS) (x0 : Nat) (cs9 : CS) (r9 : Nat), T.2.1 cs x0 = some (cs9, r9) → WF pF cs cs9) (hM_X9_readSources : ∀ (cs : CS) (x0 : Nat) (x1 : Nat) (cs9 : CS), T.2.2.1 cs x0 x1 = some cs9 → WF pF cs cs9) (hM_X9_readSource : ∀ (cs : CS) (x0 : Nat) (cs9 : CS) (r9 : Nat), T.2.2.2 cs x0 = some (cs9, r9) → WF pF cs cs9) : ∀ (lf_50 : Nat) (cs1 : CS) (u0 : Nat) (u1 : Option Nat) (u2 : Nat) (u3 : Int32) (u4 : Int32) (cs9 : CS) (r9 : Nat), c_X9_readSelect_L50 F T lf_50 cs1 u0 u1 u2 u3 u4 = some (cs9, r9) → WF pF cs1 cs9 := by
  intro lf_50
  induction lf_50 with
  | zero => intro cs1 u0 u1 u2 u3 u4 cs9 r9 h; cases (show (none : Option (CS × Nat)) = _ from h)
  | succ lf_50 ih_50 =>
    intro cs1 u0 u1 u2 u3 u4 cs9 r9 h
    rw [c_X9_readSelect_L50] at h
    have hq : WF pF cs1 cs1 := WF.refl
    by_cases c_45 : 2000 ≤ u4
    · skip
      replace h := (if_pos c_45).symm.trans h
      have k9 := pf_c_X9_readSelect_b83 F T hM_X9_readQuery hM_X9_readSelect hM_X9_readSources hM_X9_readSource cs1 u0 u1 u2 cs9 r9 h
      exact hq.trans k9
    · skip
      replace h := (if_neg c_45).symm.trans h
      by_cases c_46 : u3 = 0
      · skip
        replace h := (if_pos c_46).symm.trans h
        have k9 := pf_c_X9_readSelect_b83 F T hM_X9_readQuery hM_X9_readSelect hM_X9_readSources hM_X9_readSource cs1 u0 u1 u2 cs9 r9 h
        exact hq.trans k9
      · skip
        replace h := (if_neg c_46).symm.trans h
        replace h := ob h; obtain ⟨v_47, hv_47, h⟩ := h
        replace h := ob h; obtain ⟨i_48, hi_48, h⟩ := h
        subst hi_48
        replace h := ob h; obtain ⟨w_50, hw_50, h⟩ := h
        replace h := ob h; obtain ⟨cs_49, hv_49, h⟩ := h
        replace hq := hq.trans (pf_c_X9_readItem F cs1 u0 i_48 cs_49 hv_49)
        replace h := ob h; obtain ⟨w_52, hw_52, h⟩ := h
        replace h := ob h; obtain ⟨z_51, hv_51, h⟩ := h
        replace hq := hq.trans (pf_c_X9_accept F cs_49 u0 43 z_51.1 z_51.2 hv_51)
        have k9 := ih_50 z_51.1 u0 u1 u2 z_51.2 (u4 + 1) cs9 r9 h
        exact hq.trans k9
theorem pf_c_X9_readSelect_b12 (F : Nat) (T : TC_X9_readQuery) (hM_X9_readQuery : ∀ (cs : CS) (x0 : Nat) (cs9 : CS) (r9 : Nat), T.1 cs x0 = some (cs9, r9) → WF pF cs cs9) (hM_X9_readSelect : ∀ (cs : CS) (x0 : Nat) (cs9 : CS) (r9 : Nat), T.2.1 cs x0 = some (cs9, r9) → WF pF cs cs9) (hM_X9_readSources : ∀ (cs : CS) (x0 : Nat) (x1 : Nat) (cs9 : CS), T.2.2.1 cs x0 x1 = some cs9 → WF pF cs cs9) (hM_X9_readSource : ∀ (cs : CS) (x0 : Nat) (cs9 : CS) (r9 : Nat), T.2.2.2 cs x0 = some (cs9, r9) → WF pF cs cs9) (cs1 : CS) (u0 : Nat) (u1 : Option Nat) (y0 : Nat) (cs9 : CS) (r9 : Nat) (h : c_X9_readSelect_b12 F T cs1 u0 u1 y0 = some (cs9, r9)) : WF pF cs1 cs9 := by
  unfold c_X9_readSelect_b12 at h
  have hq : WF pF cs1 cs1 := WF.refl
  replace h := ob h; obtain ⟨cs_45, hv_45, h⟩ := h
  replace hq := hq.trans (WF.pR (by decide) hv_45)
  replace h := ob h; obtain ⟨w_47, hw_47, h⟩ := h
  replace h := ob h; obtain ⟨cs_46, hv_46, h⟩ := h
  replace hq := hq.trans (pf_c_X9_expect F cs_45 u0 0 cs_46 hv_46)
  replace h := ob h; obtain ⟨w_49, hw_49, h⟩ := h
  replace h := ob h; obtain ⟨v_48, hv_48, h⟩ := h
  replace h := ob h; obtain ⟨cs_50, hv_50, h⟩ := h
  replace hq := hq.trans (WF.pI (by decide) hv_50)
  replace h := ob h; obtain ⟨w_52, hw_52, h⟩ := h
  replace h := ob h; obtain ⟨z_51, hv_51, h⟩ := h
  replace hq := hq.trans (pf_c_X9_accept F cs_50 u0 1 z_51.1 z_51.2 hv_51)
  replace h := ob h; obtain ⟨w_54, hw_54, h⟩ := h
  replace h := ob h; obtain ⟨cs_53, hv_53, h⟩ := h
  replace hq := hq.trans (WF.pI (by decide) hv_53)
  replace h := ob h; obtain ⟨cs_55, hv_55, h⟩ := h
  replace hq := hq.trans (WF.pI (by decide) hv_55)
  have k9 := pf_c_X9_readSelect_L50 F T hM_X9_readQuery hM_X9_readSelect hM_X9_readSources hM_X9_readSource F cs_55 u0 u1 y0 1 0 cs9 r9 h
  exact hq.trans k9
theorem pf_c_X9_readSelect_b8 (F : Nat) (T : TC_X9_readQuery) (hM_X9_readQuery : ∀ (cs : CS) (x0 : Nat) (cs9 : CS) (r9 : Nat), T.1 cs x0 = some (cs9, r9) → WF pF cs cs9) (hM_X9_readSelect : ∀ (cs : CS) (x0 : Nat) (cs9 : CS) (r9 : Nat), T.2.1 cs x0 = some (cs9, r9) → WF pF cs cs9) (hM_X9_readSources : ∀ (cs : CS) (x0 : Nat) (x1 : Nat) (cs9 : CS), T.2.2.1 cs x0 x1 = some cs9 → WF pF cs cs9) (hM_X9_readSource : ∀ (cs : CS) (x0 : Nat) (cs9 : CS) (r9 : Nat), T.2.2.2 cs x0 = some (cs9, r9) → WF pF cs cs9) (cs1 : CS) (u0 : Nat) (u1 : Option Nat) (y0 : Nat) (cs9 : CS) (r9 : Nat) (h : c_X9_readSelect_b8 F T cs1 u0 u1 y0 = some (cs9, r9)) : WF pF cs1 cs9 := by
  unfold c_X9_readSelect_b8 at h
  have hq : WF pF cs1 cs1 := WF.refl
  replace h := ob h; obtain ⟨cs_45, hv_45, h⟩ := h
  replace hq := hq.trans (pf_c_X5_init F cs1 y0 cs_45 hv_45)
  have k9 := pf_c_X9_readSelect_b12 F T hM_X9_readQuery hM_X9_readSelect hM_X9_readSources hM_X9_readSource cs_45 u0 u1 y0 cs9 r9 h
  exact hq.trans k9
theorem pf_cb_X9_readSelect (F : Nat) (T : TC_X9_readQuery) (hM_X9_readQuery : ∀ (cs : CS) (x0 : Nat) (cs9 : CS) (r9 : Nat), T.1 cs x0 = some (cs9, r9) → WF pF cs cs9) (hM_X9_readSelect : ∀ (cs : CS) (x0 : Nat) (cs9 : CS) (r9 : Nat), T.2.1 cs x0 = some (cs9, r9) → WF pF cs cs9) (hM_X9_readSources : ∀ (cs : CS) (x0 : Nat) (x1 : Nat) (cs9 : CS), T.2.2.1 cs x0 x1 = some cs9 → WF pF cs cs9) (hM_X9_readSource : ∀ (cs : CS) (x0 : Nat) (cs9 : CS) (r9 : Nat), T.2.2.2 cs x0 = some (cs9, r9) → WF pF cs cs9) (cs : CS) (x0 : Nat) (cs9 : CS) (r9 : Nat) (h : cb_X9_readSelect F T cs x0 = some (cs9, r9)) : WF pF cs cs9 := by
  unfold cb_X9_readSelect at h
  have hq : WF pF cs cs := WF.refl
  replace h := ob h; obtain ⟨v_45, hv_45, h⟩ := h
  replace h := ob h; obtain ⟨cs_46, hv_46, h⟩ := h
  replace hq := hq.trans (WF.nwO hv_46)
  have k9 := pf_c_X9_readSelect_b8 F T hM_X9_readQuery hM_X9_readSelect hM_X9_readSources hM_X9_readSource cs_46 x0 v_45 (kK cs) cs9 r9 h
  exact hq.trans k9
theorem pf_c_X9_readSources_b100 (F : Nat) (T : TC_X9_readQuery) (hM_X9_readQuery : ∀ (cs : CS) (x0 : Nat) (cs9 : CS) (r9 : Nat), T.1 cs x0 = some (cs9, r9) → WF pF cs cs9) (hM_X9_readSelect : ∀ (cs : CS) (x0 : Nat) (cs9 : CS) (r9 : Nat), T.2.1 cs x0 = some (cs9, r9) → WF pF cs cs9) (hM_X9_readSources : ∀ (cs : CS) (x0 : Nat) (x1 : Nat) (cs9 : CS), T.2.2.1 cs x0 x1 = some cs9 → WF pF cs cs9) (hM_X9_readSource : ∀ (cs : CS) (x0 : Nat) (cs9 : CS) (r9 : Nat), T.2.2.2 cs x0 = some (cs9, r9) → WF pF cs cs9) (cs1 : CS) (cs9 : CS) (h : c_X9_readSources_b100 F T cs1 = some cs9) : WF pF cs1 cs9 := by
  unfold c_X9_readSources_b100 at h
  have hq : WF pF cs1 cs1 := WF.refl
  have h9 := Option.some.inj h
  exact hq.to h9
theorem pf_c_X9_readSources_b54 (F : Nat) (T : TC_X9_readQuery) (hM_X9_readQuery : ∀ (cs : CS) (x0 : Nat) (cs9 : CS) (r9 : Nat), T.1 cs x0 = some (cs9, r9) → WF pF cs cs9) (hM_X9_readSelect : ∀ (cs : CS) (x0 : Nat) (cs9 : CS) (r9 : Nat), T.2.1 cs x0 = some (cs9, r9) → WF pF cs cs9) (hM_X9_readSources : ∀ (cs : CS) (x0 : Nat) (x1 : Nat) (cs9 : CS), T.2.2.1 cs x0 x1 = some cs9 → WF pF cs cs9) (hM_X9_readSource : ∀ (cs : CS) (x0 : Nat) (cs9 : CS) (r9 : Nat), T.2.2.2 cs x0 = some (cs9, r9) → WF pF cs cs9) (rc10 : CS → Nat → Nat → Int32 → Option CS) (hrc10 : ∀ (cs1 : CS) (u0 : Nat) (u1 : Nat) (u2 : Int32) (cs9 : CS), rc10 cs1 u0 u1 u2 = some cs9 → WF pF cs1 cs9) (cs1 : CS) (u0 : Nat) (u1 : Nat) (u2 : Int32) (u3 : Int32) (u4 : Int32) (y0 : Nat) (cs9 : CS) (h : c_X9_readSources_b54 F T rc10 cs1 u0 u1 u2 u3 u4 y0 = some cs9) : WF pF cs1 cs9 := by
  unfold c_X9_readSources_b54 at h
  have hq : WF pF cs1 cs1 := WF.refl
  replace h := ob h; obtain ⟨w_28, hw_28, h⟩ := h
  replace h := ob h; obtain ⟨cs_27, hv_27, h⟩ := h
  replace hq := hq.trans (WF.pI (by decide) hv_27)
  replace h := ob h; obtain ⟨cs_29, hv_29, h⟩ := h
  replace hq := hq.trans (WF.pI (by decide) hv_29)
  replace h := ob h; obtain ⟨w_31, hw_31, h⟩ := h
  replace h := ob h; obtain ⟨cs_30, hv_30, h⟩ := h
  replace hq := hq.trans (pf_c_X9_expect F cs_29 u0 5 cs_30 hv_30)
  replace h := ob h; obtain ⟨cs_32, hv_32, h⟩ := h
  replace hq := hq.trans (WF.pI (by decide) hv_32)
  replace h := ob h; obtain ⟨w_34, hw_34, h⟩ := h
  replace h := ob h; obtain ⟨z_33, hv_33, h⟩ := h
  replace hq := hq.trans (pf_c_X9_readExpr F 300 cs_32 u0 z_33.1 z_33.2 hv_33)
  replace h := ob h; obtain ⟨cs_35, hv_35, h⟩ := h
  replace hq := hq.trans (WF.pI (by decide) hv_35)
  replace h := ob h; obtain ⟨cs_36, hv_36, h⟩ := h
  replace hq := hq.trans (pf_c_X9_addSource F cs_35 u1 y0 cs_36 hv_36)
  have k9 := hrc10 cs_36 u0 u1 (u2 + 1) cs9 h
  exact hq.trans k9
theorem pf_c_X9_readSources_b33 (F : Nat) (T : TC_X9_readQuery) (hM_X9_readQuery : ∀ (cs : CS) (x0 : Nat) (cs9 : CS) (r9 : Nat), T.1 cs x0 = some (cs9, r9) → WF pF cs cs9) (hM_X9_readSelect : ∀ (cs : CS) (x0 : Nat) (cs9 : CS) (r9 : Nat), T.2.1 cs x0 = some (cs9, r9) → WF pF cs cs9) (hM_X9_readSources : ∀ (cs : CS) (x0 : Nat) (x1 : Nat) (cs9 : CS), T.2.2.1 cs x0 x1 = some cs9 → WF pF cs cs9) (hM_X9_readSource : ∀ (cs : CS) (x0 : Nat) (cs9 : CS) (r9 : Nat), T.2.2.2 cs x0 = some (cs9, r9) → WF pF cs cs9) (rc10 : CS → Nat → Nat → Int32 → Option CS) (hrc10 : ∀ (cs1 : CS) (u0 : Nat) (u1 : Nat) (u2 : Int32) (cs9 : CS), rc10 cs1 u0 u1 u2 = some cs9 → WF pF cs1 cs9) (cs1 : CS) (u0 : Nat) (u1 : Nat) (u2 : Int32) (cs9 : CS) (h : c_X9_readSources_b33 F T rc10 cs1 u0 u1 u2 = some cs9) : WF pF cs1 cs9 := by
  unfold c_X9_readSources_b33 at h
  have hq : WF pF cs1 cs1 := WF.refl
  replace h := ob h; obtain ⟨w_28, hw_28, h⟩ := h
  replace h := ob h; obtain ⟨z_27, hv_27, h⟩ := h
  replace hq := hq.trans (pf_c_X9_accept F cs1 u0 4 z_27.1 z_27.2 hv_27)
  replace h := ob h; obtain ⟨w_30, hw_30, h⟩ := h
  replace h := ob h; obtain ⟨v_29, hv_29, h⟩ := h
  replace h := ob h; obtain ⟨w_32, hw_32, h⟩ := h
  replace h := ob h; obtain ⟨cs_31, hv_31, h⟩ := h
  replace hq := hq.trans (pf_c_X9_expect F z_27.1 u0 3 cs_31 hv_31)
  replace h := ob h; obtain ⟨w_34, hw_34, h⟩ := h
  replace h := ob h; obtain ⟨z_33, hv_33, h⟩ := h
  replace hq := hq.trans (hM_X9_readSource cs_31 u0 z_33.1 z_33.2 hv_33)
  have k9 := pf_c_X9_readSources_b54 F T hM_X9_readQuery hM_X9_readSelect hM_X9_readSources hM_X9_readSource rc10 hrc10 z_33.1 u0 u1 u2 z_27.2 v_29 z_33.2 cs9 h
  exact hq.trans k9
theorem pf_c_X9_readSources_L10 (F : Nat) (T : TC_X9_readQuery) (hM_X9_readQuery : ∀ (cs : CS) (x0 : Nat) (cs9 : CS) (r9 : Nat), T.1 cs x0 = some (cs9, r9) → WF pF cs cs9) (hM_X9_readSelect : ∀ (cs : CS) (x0 : Nat) (cs9 : CS) (r9 : Nat), T.2.1 cs x0 = some (cs9, r9) → WF pF cs cs9) (hM_X9_readSources : ∀ (cs : CS) (x0 : Nat) (x1 : Nat) (cs9 : CS), T.2.2.1 cs x0 x1 = some cs9 → WF pF cs cs9) (hM_X9_readSource : ∀ (cs : CS) (x0 : Nat) (cs9 : CS) (r9 : Nat), T.2.2.2 cs x0 = some (cs9, r9) → WF pF cs cs9) : ∀ (lf_10 : Nat) (cs1 : CS) (u0 : Nat) (u1 : Nat) (u2 : Int32) (cs9 : CS), c_X9_readSources_L10 F T lf_10 cs1 u0 u1 u2 = some cs9 → WF pF cs1 cs9 := by
  intro lf_10
  induction lf_10 with
  | zero => intro cs1 u0 u1 u2 cs9 h; cases (show (none : Option CS) = _ from h)
  | succ lf_10 ih_10 =>
    intro cs1 u0 u1 u2 cs9 h
    rw [c_X9_readSources_L10] at h
    have hq : WF pF cs1 cs1 := WF.refl
    by_cases c_27 : 2000 ≤ u2
    · skip
      replace h := (if_pos c_27).symm.trans h
      have k9 := pf_c_X9_readSources_b100 F T hM_X9_readQuery hM_X9_readSelect hM_X9_readSources hM_X9_readSource cs1 cs9 h
      exact hq.trans k9
    · skip
      replace h := (if_neg c_27).symm.trans h
      replace h := ob h; obtain ⟨w_29, hw_29, h⟩ := h
      replace h := ob h; obtain ⟨v_28, hv_28, h⟩ := h
      by_cases c_30 : v_28 = 3
      · skip
        replace h := (if_pos c_30).symm.trans h
        have k9 := pf_c_X9_readSources_b33 F T hM_X9_readQuery hM_X9_readSelect hM_X9_readSources hM_X9_readSource (c_X9_readSources_L10 F T lf_10) ih_10 cs1 u0 u1 u2 cs9 h
        exact hq.trans k9
      · skip
        replace h := (if_neg c_30).symm.trans h
        replace h := ob h; obtain ⟨w_32, hw_32, h⟩ := h
        replace h := ob h; obtain ⟨v_31, hv_31, h⟩ := h
        by_cases c_33 : v_31 = 4
        · skip
          replace h := (if_pos c_33).symm.trans h
          have k9 := pf_c_X9_readSources_b33 F T hM_X9_readQuery hM_X9_readSelect hM_X9_readSources hM_X9_readSource (c_X9_readSources_L10 F T lf_10) ih_10 cs1 u0 u1 u2 cs9 h
          exact hq.trans k9
        · skip
          replace h := (if_neg c_33).symm.trans h
          have k9 := pf_c_X9_readSources_b100 F T hM_X9_readQuery hM_X9_readSelect hM_X9_readSources hM_X9_readSource cs1 cs9 h
          exact hq.trans k9
theorem pf_c_X9_readSources_b5 (F : Nat) (T : TC_X9_readQuery) (hM_X9_readQuery : ∀ (cs : CS) (x0 : Nat) (cs9 : CS) (r9 : Nat), T.1 cs x0 = some (cs9, r9) → WF pF cs cs9) (hM_X9_readSelect : ∀ (cs : CS) (x0 : Nat) (cs9 : CS) (r9 : Nat), T.2.1 cs x0 = some (cs9, r9) → WF pF cs cs9) (hM_X9_readSources : ∀ (cs : CS) (x0 : Nat) (x1 : Nat) (cs9 : CS), T.2.2.1 cs x0 x1 = some cs9 → WF pF cs cs9) (hM_X9_readSource : ∀ (cs : CS) (x0 : Nat) (cs9 : CS) (r9 : Nat), T.2.2.2 cs x0 = some (cs9, r9) → WF pF cs cs9) (cs1 : CS) (u0 : Nat) (u1 : Nat) (y0 : Nat) (y1 : Nat) (cs9 : CS) (h : c_X9_readSources_b5 F T cs1 u0 u1 y0 y1 = some cs9) : WF pF cs1 cs9 := by
  unfold c_X9_readSources_b5 at h
  have hq : WF pF cs1 cs1 := WF.refl
  replace h := ob h; obtain ⟨cs_27, hv_27, h⟩ := h
  replace hq := hq.trans (pf_c_X9_addSource F cs1 y1 y0 cs_27 hv_27)
  have k9 := pf_c_X9_readSources_L10 F T hM_X9_readQuery hM_X9_readSelect hM_X9_readSources hM_X9_readSource F cs_27 u0 u1 0 cs9 h
  exact hq.trans k9
theorem pf_cb_X9_readSources (F : Nat) (T : TC_X9_readQuery) (hM_X9_readQuery : ∀ (cs : CS) (x0 : Nat) (cs9 : CS) (r9 : Nat), T.1 cs x0 = some (cs9, r9) → WF pF cs cs9) (hM_X9_readSelect : ∀ (cs : CS) (x0 : Nat) (cs9 : CS) (r9 : Nat), T.2.1 cs x0 = some (cs9, r9) → WF pF cs cs9) (hM_X9_readSources : ∀ (cs : CS) (x0 : Nat) (x1 : Nat) (cs9 : CS), T.2.2.1 cs x0 x1 = some cs9 → WF pF cs cs9) (hM_X9_readSource : ∀ (cs : CS) (x0 : Nat) (cs9 : CS) (r9 : Nat), T.2.2.2 cs x0 = some (cs9, r9) → WF pF cs cs9) (cs : CS) (x0 : Nat) (x1 : Nat) (cs9 : CS) (h : cb_X9_readSources F T cs x0 x1 = some cs9) : WF pF cs cs9 := by
  unfold cb_X9_readSources at h
  have hq : WF pF cs cs := WF.refl
  replace h := ob h; obtain ⟨w_28, hw_28, h⟩ := h
  replace h := ob h; obtain ⟨z_27, hv_27, h⟩ := h
  replace hq := hq.trans (hM_X9_readSource cs x0 z_27.1 z_27.2 hv_27)
  have k9 := pf_c_X9_readSources_b5 F T hM_X9_readQuery hM_X9_readSelect hM_X9_readSources hM_X9_readSource z_27.1 x0 x1 z_27.2 x1 cs9 h
  exact hq.trans k9
theorem pf_c_X9_readSource_b124 (F : Nat) (T : TC_X9_readQuery) (hM_X9_readQuery : ∀ (cs : CS) (x0 : Nat) (cs9 : CS) (r9 : Nat), T.1 cs x0 = some (cs9, r9) → WF pF cs cs9) (hM_X9_readSelect : ∀ (cs : CS) (x0 : Nat) (cs9 : CS) (r9 : Nat), T.2.1 cs x0 = some (cs9, r9) → WF pF cs cs9) (hM_X9_readSources : ∀ (cs : CS) (x0 : Nat) (x1 : Nat) (cs9 : CS), T.2.2.1 cs x0 x1 = some cs9 → WF pF cs cs9) (hM_X9_readSource : ∀ (cs : CS) (x0 : Nat) (cs9 : CS) (r9 : Nat), T.2.2.2 cs x0 = some (cs9, r9) → WF pF cs cs9) (cs1 : CS) (u1 : Nat) (cs9 : CS) (r9 : Nat) (h : c_X9_readSource_b124 F T cs1 u1 = some (cs9, r9)) : WF pF cs1 cs9 := by
  unfold c_X9_readSource_b124 at h
  have hq : WF pF cs1 cs1 := WF.refl
  have h9 := (Prod.mk.inj (Option.some.inj h)).1
  exact hq.to h9
theorem pf_c_X9_readSource_b75 (F : Nat) (T : TC_X9_readQuery) (hM_X9_readQuery : ∀ (cs : CS) (x0 : Nat) (cs9 : CS) (r9 : Nat), T.1 cs x0 = some (cs9, r9) → WF pF cs cs9) (hM_X9_readSelect : ∀ (cs : CS) (x0 : Nat) (cs9 : CS) (r9 : Nat), T.2.1 cs x0 = some (cs9, r9) → WF pF cs cs9) (hM_X9_readSources : ∀ (cs : CS) (x0 : Nat) (x1 : Nat) (cs9 : CS), T.2.2.1 cs x0 x1 = some cs9 → WF pF cs cs9) (hM_X9_readSource : ∀ (cs : CS) (x0 : Nat) (cs9 : CS) (r9 : Nat), T.2.2.2 cs x0 = some (cs9, r9) → WF pF cs cs9) (cs1 : CS) (u0 : Nat) (u1 : Nat) (cs9 : CS) (r9 : Nat) (h : c_X9_readSource_b75 F T cs1 u0 u1 = some (cs9, r9)) : WF pF cs1 cs9 := by
  unfold c_X9_readSource_b75 at h
  have hq : WF pF cs1 cs1 := WF.refl
  replace h := ob h; obtain ⟨w_41, hw_41, h⟩ := h
  replace h := ob h; obtain ⟨cs_40, hv_40, h⟩ := h
  replace hq := hq.trans (pf_c_X9_expect F cs1 u0 17 cs_40 hv_40)
  replace h := ob h; obtain ⟨w_43, hw_43, h⟩ := h
  replace h := ob h; obtain ⟨v_42, hv_42, h⟩ := h
  replace h := ob h; obtain ⟨cs_44, hv_44, h⟩ := h
  replace hq := hq.trans (WF.pI (by decide) hv_44)
  replace h := ob h; obtain ⟨w_46, hw_46, h⟩ := h
  replace h := ob h; obtain ⟨z_45, hv_45, h⟩ := h
  replace hq := hq.trans (pf_c_X9_readName F cs_44 u0 z_45.1 z_45.2 hv_45)
  replace h := ob h; obtain ⟨cs_47, hv_47, h⟩ := h
  replace hq := hq.trans (WF.pJ (by decide) hv_47)
  replace h := ob h; obtain ⟨v_48, hv_48, h⟩ := h
  cases v_48 with
  | none =>
    replace h := oc_n.symm.trans h
    replace h := ob h; obtain ⟨w_51, hw_51, h⟩ := h
    replace h := ob h; obtain ⟨z_50, hv_50, h⟩ := h
    replace hq := hq.trans (pf_c_X9_accept F cs_47 u0 18 z_50.1 z_50.2 hv_50)
    by_cases c_52 : z_50.2 = 0
    · skip
      replace h := (if_pos c_52).symm.trans h
      have k9 := pf_c_X9_readSource_b124 F T hM_X9_readQuery hM_X9_readSelect hM_X9_readSources hM_X9_readSource z_50.1 u1 cs9 r9 h
      exact hq.trans k9
    · skip
      replace h := (if_neg c_52).symm.trans h
      replace h := ob h; obtain ⟨w_54, hw_54, h⟩ := h
      replace h := ob h; obtain ⟨z_53, hv_53, h⟩ := h
      replace hq := hq.trans (pf_c_X9_readNumber F z_50.1 u0 (9223372036854775807) z_53.1 z_53.2 hv_53)
      replace h := ob h; obtain ⟨cs_55, hv_55, h⟩ := h
      replace hq := hq.trans (WF.pJ (by decide) hv_55)
      have k9 := pf_c_X9_readSource_b124 F T hM_X9_readQuery hM_X9_readSelect hM_X9_readSources hM_X9_readSource cs_55 u1 cs9 r9 h
      exact hq.trans k9
  | some i_49 =>
    replace h := oc_s.symm.trans h
    have k9 := pf_c_X9_readSource_b124 F T hM_X9_readQuery hM_X9_readSelect hM_X9_readSources hM_X9_readSource cs_47 u1 cs9 r9 h
    exact hq.trans k9
theorem pf_c_X9_readSource_b40 (F : Nat) (T : TC_X9_readQuery) (hM_X9_readQuery : ∀ (cs : CS) (x0 : Nat) (cs9 : CS) (r9 : Nat), T.1 cs x0 = some (cs9, r9) → WF pF cs cs9) (hM_X9_readSelect : ∀ (cs : CS) (x0 : Nat) (cs9 : CS) (r9 : Nat), T.2.1 cs x0 = some (cs9, r9) → WF pF cs cs9) (hM_X9_readSources : ∀ (cs : CS) (x0 : Nat) (x1 : Nat) (cs9 : CS), T.2.2.1 cs x0 x1 = some cs9 → WF pF cs cs9) (hM_X9_readSource : ∀ (cs : CS) (x0 : Nat) (cs9 : CS) (r9 : Nat), T.2.2.2 cs x0 = some (cs9, r9) → WF pF cs cs9) (cs1 : CS) (u0 : Nat) (u1 : Nat) (y0 : Nat) (y1 : Nat) (cs9 : CS) (r9 : Nat) (h : c_X9_readSource_b40 F T cs1 u0 u1 y0 y1 = some (cs9, r9)) : WF pF cs1 cs9 := by
  unfold c_X9_readSource_b40 at h
  have hq : WF pF cs1 cs1 := WF.refl
  replace h := ob h; obtain ⟨cs_40, hv_40, h⟩ := h
  replace hq := hq.trans (WF.pR (by decide) hv_40)
  replace h := ob h; obtain ⟨w_42, hw_42, h⟩ := h
  replace h := ob h; obtain ⟨v_41, hv_41, h⟩ := h
  replace h := ob h; obtain ⟨cs_43, hv_43, h⟩ := h
  replace hq := hq.trans (WF.pI (by decide) hv_43)
  replace h := ob h; obtain ⟨w_45, hw_45, h⟩ := h
  replace h := ob h; obtain ⟨cs_44, hv_44, h⟩ := h
  replace hq := hq.trans (pf_c_X9_expect F cs_43 u0 42 cs_44 hv_44)
  replace h := ob h; obtain ⟨v_46, hv_46, h⟩ := h
  replace h := ob h; obtain ⟨cs_47, hv_47, h⟩ := h
  replace hq := hq.trans (WF.pI (by decide) hv_47)
  have k9 := pf_c_X9_readSource_b75 F T hM_X9_readQuery hM_X9_readSelect hM_X9_readSources hM_X9_readSource cs_47 u0 u1 cs9 r9 h
  exact hq.trans k9
theorem pf_c_X9_readSource_b7 (F : Nat) (T : TC_X9_readQuery) (hM_X9_readQuery : ∀ (cs : CS) (x0 : Nat) (cs9 : CS) (r9 : Nat), T.1 cs x0 = some (cs9, r9) → WF pF cs cs9) (hM_X9_readSelect : ∀ (cs : CS) (x0 : Nat) (cs9 : CS) (r9 : Nat), T.2.1 cs x0 = some (cs9, r9) → WF pF cs cs9) (hM_X9_readSources : ∀ (cs : CS) (x0 : Nat) (x1 : Nat) (cs9 : CS), T.2.2.1 cs x0 x1 = some cs9 → WF pF cs cs9) (hM_X9_readSource : ∀ (cs : CS) (x0 : Nat) (cs9 : CS) (r9 : Nat), T.2.2.2 cs x0 = some (cs9, r9) → WF pF cs cs9) (cs1 : CS) (u0 : Nat) (y0 : Nat) (cs9 : CS) (r9 : Nat) (h : c_X9_readSource_b7 F T cs1 u0 y0 = some (cs9, r9)) : WF pF cs1 cs9 := by
  unfold c_X9_readSource_b7 at h
  have hq : WF pF cs1 cs1 := WF.refl
  replace h := ob h; obtain ⟨w_41, hw_41, h⟩ := h
  replace h := ob h; obtain ⟨v_40, hv_40, h⟩ := h
  replace h := ob h; obtain ⟨cs_42, hv_42, h⟩ := h
  replace hq := hq.trans (WF.pI (by decide) hv_42)
  replace h := ob h; obtain ⟨w_44, hw_44, h⟩ := h
  replace h := ob h; obtain ⟨v_43, hv_43, h⟩ := h
  by_cases c_45 : v_43 = 41
  · skip
    replace h := (if_pos c_45).symm.trans h
    replace h := ob h; obtain ⟨w_47, hw_47, h⟩ := h
    replace h := ob h; obtain ⟨cs_46, hv_46, h⟩ := h
    replace hq := hq.trans (pf_c_X9_deepen F cs_42 u0 cs_46 hv_46)
    replace h := ob h; obtain ⟨w_49, hw_49, h⟩ := h
    replace h := ob h; obtain ⟨cs_48, hv_48, h⟩ := h
    replace hq := hq.trans (pf_c_X9_expect F cs_46 u0 41 cs_48 hv_48)
    replace h := ob h; obtain ⟨w_51, hw_51, h⟩ := h
    replace h := ob h; obtain ⟨z_50, hv_50, h⟩ := h
    replace hq := hq.trans (hM_X9_readQuery cs_48 u0 z_50.1 z_50.2 hv_50)
    have k9 := pf_c_X9_readSource_b40 F T hM_X9_readQuery hM_X9_readSelect hM_X9_readSources hM_X9_readSource z_50.1 u0 y0 z_50.2 y0 cs9 r9 h
    exact hq.trans k9
  · skip
    replace h := (if_neg c_45).symm.trans h
    replace h := ob h; obtain ⟨w_53, hw_53, h⟩ := h
    replace h := ob h; obtain ⟨cs_52, hv_52, h⟩ := h
    replace hq := hq.trans (pf_c_X9_readLeaf F cs_42 u0 y0 cs_52 hv_52)
    have k9 := pf_c_X9_readSource_b75 F T hM_X9_readQuery hM_X9_readSelect hM_X9_readSources hM_X9_readSource cs_52 u0 y0 cs9 r9 h
    exact hq.trans k9
theorem pf_c_X9_readSource_b3 (F : Nat) (T : TC_X9_readQuery) (hM_X9_readQuery : ∀ (cs : CS) (x0 : Nat) (cs9 : CS) (r9 : Nat), T.1 cs x0 = some (cs9, r9) → WF pF cs cs9) (hM_X9_readSelect : ∀ (cs : CS) (x0 : Nat) (cs9 : CS) (r9 : Nat), T.2.1 cs x0 = some (cs9, r9) → WF pF cs cs9) (hM_X9_readSources : ∀ (cs : CS) (x0 : Nat) (x1 : Nat) (cs9 : CS), T.2.2.1 cs x0 x1 = some cs9 → WF pF cs cs9) (hM_X9_readSource : ∀ (cs : CS) (x0 : Nat) (cs9 : CS) (r9 : Nat), T.2.2.2 cs x0 = some (cs9, r9) → WF pF cs cs9) (cs1 : CS) (u0 : Nat) (y0 : Nat) (cs9 : CS) (r9 : Nat) (h : c_X9_readSource_b3 F T cs1 u0 y0 = some (cs9, r9)) : WF pF cs1 cs9 := by
  unfold c_X9_readSource_b3 at h
  have hq : WF pF cs1 cs1 := WF.refl
  replace h := ob h; obtain ⟨cs_40, hv_40, h⟩ := h
  replace hq := hq.trans (pf_c_X6_init F cs1 y0 cs_40 hv_40)
  have k9 := pf_c_X9_readSource_b7 F T hM_X9_readQuery hM_X9_readSelect hM_X9_readSources hM_X9_readSource cs_40 u0 y0 cs9 r9 h
  exact hq.trans k9
theorem pf_cb_X9_readSource (F : Nat) (T : TC_X9_readQuery) (hM_X9_readQuery : ∀ (cs : CS) (x0 : Nat) (cs9 : CS) (r9 : Nat), T.1 cs x0 = some (cs9, r9) → WF pF cs cs9) (hM_X9_readSelect : ∀ (cs : CS) (x0 : Nat) (cs9 : CS) (r9 : Nat), T.2.1 cs x0 = some (cs9, r9) → WF pF cs cs9) (hM_X9_readSources : ∀ (cs : CS) (x0 : Nat) (x1 : Nat) (cs9 : CS), T.2.2.1 cs x0 x1 = some cs9 → WF pF cs cs9) (hM_X9_readSource : ∀ (cs : CS) (x0 : Nat) (cs9 : CS) (r9 : Nat), T.2.2.2 cs x0 = some (cs9, r9) → WF pF cs cs9) (cs : CS) (x0 : Nat) (cs9 : CS) (r9 : Nat) (h : cb_X9_readSource F T cs x0 = some (cs9, r9)) : WF pF cs cs9 := by
  unfold cb_X9_readSource at h
  have hq : WF pF cs cs := WF.refl
  replace h := ob h; obtain ⟨cs_40, hv_40, h⟩ := h
  replace hq := hq.trans (WF.nwO hv_40)
  have k9 := pf_c_X9_readSource_b3 F T hM_X9_readQuery hM_X9_readSelect hM_X9_readSources hM_X9_readSource cs_40 x0 (kK cs) cs9 r9 h
  exact hq.trans k9
theorem pfg_X9_readQuery (F : Nat) : ∀ n : Nat, (∀ (cs : CS) (x0 : Nat) (cs9 : CS) (r9 : Nat), (tabc_X9_readQuery F n).1 cs x0 = some (cs9, r9) → WF pF cs cs9) ∧ (∀ (cs : CS) (x0 : Nat) (cs9 : CS) (r9 : Nat), (tabc_X9_readQuery F n).2.1 cs x0 = some (cs9, r9) → WF pF cs cs9) ∧ (∀ (cs : CS) (x0 : Nat) (x1 : Nat) (cs9 : CS), (tabc_X9_readQuery F n).2.2.1 cs x0 x1 = some cs9 → WF pF cs cs9) ∧ (∀ (cs : CS) (x0 : Nat) (cs9 : CS) (r9 : Nat), (tabc_X9_readQuery F n).2.2.2 cs x0 = some (cs9, r9) → WF pF cs cs9) := by
  intro n
  induction n with
  | zero => exact ⟨fun _ _ _ _ h => (by cases (show (none : Option (CS × Nat)) = _ from h)), fun _ _ _ _ h => (by cases (show (none : Option (CS × Nat)) = _ from h)), fun _ _ _ _ h => (by cases (show (none : Option CS) = _ from h)), fun _ _ _ _ h => (by cases (show (none : Option (CS × Nat)) = _ from h))⟩
  | succ n ih =>
    obtain ⟨hh0, hh1, hh2, hh3⟩ := ih
    exact ⟨fun cs w0 w1 w2 h => pf_cb_X9_readQuery F (tabc_X9_readQuery F n) hh0 hh1 hh2 hh3 cs w0 w1 w2 h, fun cs w0 w1 w2 h => pf_cb_X9_readSelect F (tabc_X9_readQuery F n) hh0 hh1 hh2 hh3 cs w0 w1 w2 h, fun cs w0 w1 w2 h => pf_cb_X9_readSources F (tabc_X9_readQuery F n) hh0 hh1 hh2 hh3 cs w0 w1 w2 h, fun cs w0 w1 w2 h => pf_cb_X9_readSource F (tabc_X9_readQuery F n) hh0 hh1 hh2 hh3 cs w0 w1 w2 h⟩
theorem pf_c_X9_readQuery (F n : Nat) (cs : CS) (x0 : Nat) (cs9 : CS) (r9 : Nat) (h : c_X9_readQuery F n cs x0 = some (cs9, r9)) : WF pF cs cs9 := (pfg_X9_readQuery F n).1 cs x0 cs9 r9 h
theorem pf_c_X9_read_b15 (F : Nat) (cs1 : CS) (u0 : Nat) (y0 : Nat) (y1 : Nat) (cs9 : CS) (h : c_X9_read_b15 F cs1 u0 y0 y1 = some cs9) : WF pF cs1 cs9 := by
  unfold c_X9_read_b15 at h
  have hq : WF pF cs1 cs1 := WF.refl
  replace h := ob h; obtain ⟨cs_4, hv_4, h⟩ := h
  replace hq := hq.trans (WF.pR (by decide) hv_4)
  replace h := ob h; obtain ⟨w_6, hw_6, h⟩ := h
  replace h := ob h; obtain ⟨cs_5, hv_5, h⟩ := h
  replace hq := hq.trans (pf_c_X9_expect F cs_4 u0 56 cs_5 hv_5)
  have h9 := Option.some.inj h
  exact hq.to h9
theorem pf_c_X9_read (F : Nat) (cs : CS) (x0 : Nat) (cs9 : CS) (h : c_X9_read F cs x0 = some cs9) : WF pF cs cs9 := by
  unfold c_X9_read at h
  have hq : WF pF cs cs := WF.refl
  replace h := ob h; obtain ⟨w_5, hw_5, h⟩ := h
  replace h := ob h; obtain ⟨z_4, hv_4, h⟩ := h
  replace hq := hq.trans (pf_c_X9_accept F cs x0 37 z_4.1 z_4.2 hv_4)
  replace h := ob h; obtain ⟨w_7, hw_7, h⟩ := h
  replace h := ob h; obtain ⟨cs_6, hv_6, h⟩ := h
  replace hq := hq.trans (WF.pI (by decide) hv_6)
  replace h := ob h; obtain ⟨w_9, hw_9, h⟩ := h
  replace h := ob h; obtain ⟨z_8, hv_8, h⟩ := h
  replace hq := hq.trans (pf_c_X9_readQuery F 300 cs_6 x0 z_8.1 z_8.2 hv_8)
  have k9 := pf_c_X9_read_b15 F z_8.1 x0 z_8.2 x0 cs9 h
  exact hq.trans k9

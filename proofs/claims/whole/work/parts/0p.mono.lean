/-! what the class's methods that make nothing leave of the number of cells -/
theorem mo_c_X0_init (F : Nat) (cs : CS) (x0 : Nat) (x1 : Nat) (x2 : Nat) (cs9 : CS) (h : c_X0_init F cs x0 x1 x2 = some cs9) : cs9.1 = cs.1 := by
  unfold c_X0_init at h
  have hq : cs.1 = cs.1 := rfl
  replace h := ob h; obtain ⟨cs_1, hv_1, h⟩ := h
  replace hq := (pR_1 hv_1).trans hq
  replace h := ob h; obtain ⟨cs_2, hv_2, h⟩ := h
  replace hq := (pR_1 hv_2).trans hq
  replace h := ob h; obtain ⟨v_3, hv_3, h⟩ := h
  replace h := ob h; obtain ⟨cs_4, hv_4, h⟩ := h
  replace hq := (pR_1 hv_4).trans hq
  have h9 := Option.some.inj h
  exact (congrArg (fun z => z.1) h9).symm.trans hq
theorem mo_c_X9_refuse_b17 (F : Nat) (cs1 : CS) (cs9 : CS) (h : c_X9_refuse_b17 F cs1 = some cs9) : cs9.1 = cs1.1 := by
  unfold c_X9_refuse_b17 at h
  have hq : cs1.1 = cs1.1 := rfl
  have h9 := Option.some.inj h
  exact (congrArg (fun z => z.1) h9).symm.trans hq
theorem mo_c_X9_refuse (F : Nat) (cs : CS) (x0 : Nat) (x1 : Int32) (x2 : Int32) (cs9 : CS) (h : c_X9_refuse F cs x0 x1 x2 = some cs9) : cs9.1 = cs.1 := by
  unfold c_X9_refuse at h
  have hq : cs.1 = cs.1 := rfl
  replace h := ob h; obtain ⟨v_1, hv_1, h⟩ := h
  by_cases c_2 : v_1 = 0
  · skip
    replace h := (if_pos c_2).symm.trans h
    replace h := ob h; obtain ⟨cs_3, hv_3, h⟩ := h
    replace hq := (pI_1 hv_3).trans hq
    replace h := ob h; obtain ⟨cs_4, hv_4, h⟩ := h
    replace hq := (pI_1 hv_4).trans hq
    obtain k9 := mo_c_X9_refuse_b17 F cs_4 cs9 h
    exact k9.trans hq
  · skip
    replace h := (if_neg c_2).symm.trans h
    obtain k9 := mo_c_X9_refuse_b17 F cs cs9 h
    exact k9.trans hq
theorem mo_c_X2_add (F : Nat) (cs : CS) (x0 : Nat) (x1 : Int32) (x2 : Int64) (x4 : Int32) (x5 : Int32) (cs9 : CS) (h : c_X2_add F cs x0 x1 x2 x4 x5 = some cs9) : cs9.1 = cs.1 := by
  unfold c_X2_add at h
  have hq : cs.1 = cs.1 := rfl
  replace h := ob h; obtain ⟨w_2, hw_2, h⟩ := h
  replace h := ob h; obtain ⟨v_1, hv_1, h⟩ := h
  by_cases c_3 : v_1 = 0
  · skip
    replace h := (if_pos c_3).symm.trans h
    replace h := ob h; obtain ⟨v_4, hv_4, h⟩ := h
    replace h := ob h; obtain ⟨v_5, hv_5, h⟩ := h
    replace h := ob h; obtain ⟨cs_6, hv_6, h⟩ := h
    replace hq := (wA_1 hv_6).trans hq
    replace h := ob h; obtain ⟨v_7, hv_7, h⟩ := h
    replace h := ob h; obtain ⟨v_8, hv_8, h⟩ := h
    replace h := ob h; obtain ⟨cs_9, hv_9, h⟩ := h
    replace hq := (wB_1 hv_9).trans hq
    replace h := ob h; obtain ⟨v_10, hv_10, h⟩ := h
    replace h := ob h; obtain ⟨v_11, hv_11, h⟩ := h
    replace h := ob h; obtain ⟨cs_12, hv_12, h⟩ := h
    replace hq := (wA_1 hv_12).trans hq
    replace h := ob h; obtain ⟨v_13, hv_13, h⟩ := h
    replace h := ob h; obtain ⟨v_14, hv_14, h⟩ := h
    replace h := ob h; obtain ⟨cs_15, hv_15, h⟩ := h
    replace hq := (wA_1 hv_15).trans hq
    replace h := ob h; obtain ⟨v_16, hv_16, h⟩ := h
    replace h := ob h; obtain ⟨cs_17, hv_17, h⟩ := h
    replace hq := (pI_1 hv_17).trans hq
    have h9 := Option.some.inj h
    exact (congrArg (fun z => z.1) h9).symm.trans hq
  · skip
    replace h := (if_neg c_3).symm.trans h
    have h9 := Option.some.inj h
    exact (congrArg (fun z => z.1) h9).symm.trans hq
theorem mo_c_X0_checkLeaf_L29 (F : Nat) : ∀ (lf_29 : Nat) (cs1 : CS) (u0 : Nat) (u1 : Nat) (u2 : Int32) (cs9 : CS), c_X0_checkLeaf_L29 F lf_29 cs1 u0 u1 u2 = some cs9 → cs9.1 = cs1.1 := by
  intro lf_29
  induction lf_29 with
  | zero => intro cs1 u0 u1 u2 cs9 h; cases (show (none : Option CS) = _ from h)
  | succ lf_29 ih_29 =>
    intro cs1 u0 u1 u2 cs9 h
    rw [c_X0_checkLeaf_L29] at h
    have hq : cs1.1 = cs1.1 := rfl
    replace h := ob h; obtain ⟨v_1, hv_1, h⟩ := h
    replace h := ob h; obtain ⟨v_2, hv_2, h⟩ := h
    replace h := ob h; obtain ⟨i_4, hi_4, h⟩ := h
    subst hi_4
    replace h := ob h; obtain ⟨w_5, hw_5, h⟩ := h
    replace h := ob h; obtain ⟨v_3, hv_3, h⟩ := h
    by_cases c_6 : v_3 < u2
    · skip
      replace h := (if_pos c_6).symm.trans h
      replace h := ob h; obtain ⟨v_7, hv_7, h⟩ := h
      replace h := ob h; obtain ⟨i_9, hi_9, h⟩ := h
      subst hi_9
      replace h := ob h; obtain ⟨w_10, hw_10, h⟩ := h
      replace h := ob h; obtain ⟨cs_8, hv_8, h⟩ := h
      replace hq := (mo_c_X2_add F cs1 i_9 (-1) 0 0 1 cs_8 hv_8).trans hq
      have h9 := Option.some.inj h
      exact (congrArg (fun z => z.1) h9).symm.trans hq
    · skip
      replace h := (if_neg c_6).symm.trans h
      replace h := ob h; obtain ⟨v_11, hv_11, h⟩ := h
      replace h := ob h; obtain ⟨i_13, hi_13, h⟩ := h
      subst hi_13
      replace h := ob h; obtain ⟨w_14, hw_14, h⟩ := h
      replace h := ob h; obtain ⟨cs_12, hv_12, h⟩ := h
      replace hq := (mo_c_X2_add F cs1 i_13 (-1) ((u2 : Int32).toInt64) 0 1 cs_12 hv_12).trans hq
      obtain k9 := ih_29 cs_12 u0 u1 (u2 + 1) cs9 h
      exact k9.trans hq
theorem mo_c_X0_checkLeaf (F : Nat) (cs : CS) (x0 : Nat) (x1 : Nat) (cs9 : CS) (h : c_X0_checkLeaf F cs x0 x1 = some cs9) : cs9.1 = cs.1 := by
  unfold c_X0_checkLeaf at h
  have hq : cs.1 = cs.1 := rfl
  replace h := ob h; obtain ⟨v_1, hv_1, h⟩ := h
  replace h := ob h; obtain ⟨v_2, hv_2, h⟩ := h
  replace h := ob h; obtain ⟨i_4, hi_4, h⟩ := h
  subst hi_4
  replace h := ob h; obtain ⟨w_5, hw_5, h⟩ := h
  replace h := ob h; obtain ⟨v_3, hv_3, h⟩ := h
  by_cases c_6 : v_3 = 0
  · skip
    replace h := (if_pos c_6).symm.trans h
    replace h := ob h; obtain ⟨v_7, hv_7, h⟩ := h
    replace h := ob h; obtain ⟨v_8, hv_8, h⟩ := h
    replace h := ob h; obtain ⟨i_10, hi_10, h⟩ := h
    subst hi_10
    replace h := ob h; obtain ⟨w_11, hw_11, h⟩ := h
    replace h := ob h; obtain ⟨cs_9, hv_9, h⟩ := h
    replace hq := (mo_c_X9_refuse F cs i_10 2 v_8 cs_9 hv_9).trans hq
    have h9 := Option.some.inj h
    exact (congrArg (fun z => z.1) h9).symm.trans hq
  · skip
    replace h := (if_neg c_6).symm.trans h
    obtain k9 := mo_c_X0_checkLeaf_L29 F F cs x0 x1 1 cs9 h
    exact k9.trans hq
theorem mo_c_X0_checkBound_b23 (F : Nat) (cs1 : CS) (cs9 : CS) (h : c_X0_checkBound_b23 F cs1 = some cs9) : cs9.1 = cs1.1 := by
  unfold c_X0_checkBound_b23 at h
  have hq : cs1.1 = cs1.1 := rfl
  have h9 := Option.some.inj h
  exact (congrArg (fun z => z.1) h9).symm.trans hq
theorem mo_c_X0_checkBound (F : Nat) (cs : CS) (x0 : Nat) (x1 : Int32) (x2 : Int32) (cs9 : CS) (h : c_X0_checkBound F cs x0 x1 x2 = some cs9) : cs9.1 = cs.1 := by
  unfold c_X0_checkBound at h
  have hq : cs.1 = cs.1 := rfl
  by_cases c_1 : x1 = 0
  · skip
    replace h := (if_pos c_1).symm.trans h
    obtain k9 := mo_c_X0_checkBound_b23 F cs cs9 h
    exact k9.trans hq
  · skip
    replace h := (if_neg c_1).symm.trans h
    replace h := ob h; obtain ⟨v_2, hv_2, h⟩ := h
    replace h := ob h; obtain ⟨i_3, hi_3, h⟩ := h
    subst hi_3
    replace h := ob h; obtain ⟨v_4, hv_4, h⟩ := h
    by_cases c_5 : v_4 = 0
    · skip
      replace h := (if_pos c_5).symm.trans h
      replace h := ob h; obtain ⟨v_6, hv_6, h⟩ := h
      replace h := ob h; obtain ⟨i_8, hi_8, h⟩ := h
      subst hi_8
      replace h := ob h; obtain ⟨w_9, hw_9, h⟩ := h
      replace h := ob h; obtain ⟨cs_7, hv_7, h⟩ := h
      replace hq := (mo_c_X9_refuse F cs i_8 5 x2 cs_7 hv_7).trans hq
      obtain k9 := mo_c_X0_checkBound_b23 F cs_7 cs9 h
      exact k9.trans hq
    · skip
      replace h := (if_neg c_5).symm.trans h
      obtain k9 := mo_c_X0_checkBound_b23 F cs cs9 h
      exact k9.trans hq
theorem mo_c_X0_wantParts_b106 (F : Nat) (cs1 : CS) (u0 : Nat) (u1 : Int32) (u3 : Int32) (cs9 : CS) (h : c_X0_wantParts_b106 F cs1 u0 u1 u3 = some cs9) : cs9.1 = cs1.1 := by
  unfold c_X0_wantParts_b106 at h
  have hq : cs1.1 = cs1.1 := rfl
  replace h := ob h; obtain ⟨v_1, hv_1, h⟩ := h
  replace h := ob h; obtain ⟨i_2, hi_2, h⟩ := h
  subst hi_2
  replace h := ob h; obtain ⟨v_3, hv_3, h⟩ := h
  replace h := ob h; obtain ⟨cs_4, hv_4, h⟩ := h
  replace hq := (wA_1 hv_4).trans hq
  have h9 := Option.some.inj h
  exact (congrArg (fun z => z.1) h9).symm.trans hq
theorem mo_c_X0_wantParts_b76 (F : Nat) (cs1 : CS) (u0 : Nat) (u1 : Int32) (u3 : Int32) (u4 : Int32) (cs9 : CS) (h : c_X0_wantParts_b76 F cs1 u0 u1 u3 u4 = some cs9) : cs9.1 = cs1.1 := by
  unfold c_X0_wantParts_b76 at h
  have hq : cs1.1 = cs1.1 := rfl
  replace h := ob h; obtain ⟨v_1, hv_1, h⟩ := h
  replace h := ob h; obtain ⟨i_3, hi_3, h⟩ := h
  subst hi_3
  replace h := ob h; obtain ⟨w_4, hw_4, h⟩ := h
  replace h := ob h; obtain ⟨v_2, hv_2, h⟩ := h
  by_cases c_5 : v_2 = 0
  · skip
    replace h := (if_pos c_5).symm.trans h
    obtain k9 := mo_c_X0_wantParts_b106 F cs1 u0 u1 u3 cs9 h
    exact k9.trans hq
  · skip
    replace h := (if_neg c_5).symm.trans h
    replace h := ob h; obtain ⟨v_6, hv_6, h⟩ := h
    replace h := ob h; obtain ⟨v_7, hv_7, h⟩ := h
    replace h := ob h; obtain ⟨i_8, hi_8, h⟩ := h
    subst hi_8
    replace h := ob h; obtain ⟨v_9, hv_9, h⟩ := h
    replace h := ob h; obtain ⟨v_10, hv_10, h⟩ := h
    replace h := ob h; obtain ⟨i_12, hi_12, h⟩ := h
    subst hi_12
    replace h := ob h; obtain ⟨w_13, hw_13, h⟩ := h
    replace h := ob h; obtain ⟨cs_11, hv_11, h⟩ := h
    replace hq := (mo_c_X9_refuse F cs1 i_12 4 v_10 cs_11 hv_11).trans hq
    obtain k9 := mo_c_X0_wantParts_b106 F cs_11 u0 u1 u3 cs9 h
    exact k9.trans hq
theorem mo_c_X0_wantParts_b56 (F : Nat) (rc11 : CS → Nat → Int32 → Int32 → Int32 → Int32 → Int32 → Int32 → Option CS) (hrc11 : ∀ (cs1 : CS) (u0 : Nat) (u1 : Int32) (u2 : Int32) (u3 : Int32) (u4 : Int32) (u5 : Int32) (u6 : Int32) (cs9 : CS), rc11 cs1 u0 u1 u2 u3 u4 u5 u6 = some cs9 → cs9.1 = cs1.1) (cs1 : CS) (u0 : Nat) (u1 : Int32) (u2 : Int32) (u3 : Int32) (u4 : Int32) (u5 : Int32) (u6 : Int32) (cs9 : CS) (h : c_X0_wantParts_b56 F rc11 cs1 u0 u1 u2 u3 u4 u5 u6 = some cs9) : cs9.1 = cs1.1 := by
  unfold c_X0_wantParts_b56 at h
  have hq : cs1.1 = cs1.1 := rfl
  replace h := ob h; obtain ⟨v_1, hv_1, h⟩ := h
  replace h := ob h; obtain ⟨i_2, hi_2, h⟩ := h
  subst hi_2
  replace h := ob h; obtain ⟨v_3, hv_3, h⟩ := h
  replace h := ob h; obtain ⟨v_4, hv_4, h⟩ := h
  obtain k9 := hrc11 cs1 u0 u1 u2 u3 u4 (v_4 - 1) (u6 + 1) cs9 h
  exact k9.trans hq
theorem mo_c_X0_wantParts_L11 (F : Nat) : ∀ (lf_11 : Nat) (cs1 : CS) (u0 : Nat) (u1 : Int32) (u2 : Int32) (u3 : Int32) (u4 : Int32) (u5 : Int32) (u6 : Int32) (cs9 : CS), c_X0_wantParts_L11 F lf_11 cs1 u0 u1 u2 u3 u4 u5 u6 = some cs9 → cs9.1 = cs1.1 := by
  intro lf_11
  induction lf_11 with
  | zero => intro cs1 u0 u1 u2 u3 u4 u5 u6 cs9 h; cases (show (none : Option CS) = _ from h)
  | succ lf_11 ih_11 =>
    intro cs1 u0 u1 u2 u3 u4 u5 u6 cs9 h
    rw [c_X0_wantParts_L11] at h
    have hq : cs1.1 = cs1.1 := rfl
    replace h := ob h; obtain ⟨v_1, hv_1, h⟩ := h
    replace h := ob h; obtain ⟨i_2, hi_2, h⟩ := h
    subst hi_2
    replace h := ob h; obtain ⟨v_3, hv_3, h⟩ := h
    replace h := ob h; obtain ⟨v_4, hv_4, h⟩ := h
    by_cases c_5 : v_4 ≤ u6
    · skip
      replace h := (if_pos c_5).symm.trans h
      obtain k9 := mo_c_X0_wantParts_b76 F cs1 u0 u1 u3 u4 cs9 h
      exact k9.trans hq
    · skip
      replace h := (if_neg c_5).symm.trans h
      replace h := ob h; obtain ⟨v_6, hv_6, h⟩ := h
      replace h := ob h; obtain ⟨i_8, hi_8, h⟩ := h
      subst hi_8
      replace h := ob h; obtain ⟨w_9, hw_9, h⟩ := h
      replace h := ob h; obtain ⟨v_7, hv_7, h⟩ := h
      by_cases c_10 : v_7 = 0
      · skip
        replace h := (if_pos c_10).symm.trans h
        obtain k9 := mo_c_X0_wantParts_b76 F cs1 u0 u1 u3 u4 cs9 h
        exact k9.trans hq
      · skip
        replace h := (if_neg c_10).symm.trans h
        replace h := ob h; obtain ⟨v_11, hv_11, h⟩ := h
        replace h := ob h; obtain ⟨i_12, hi_12, h⟩ := h
        subst hi_12
        replace h := ob h; obtain ⟨v_13, hv_13, h⟩ := h
        replace h := ob h; obtain ⟨v_14, hv_14, h⟩ := h
        by_cases c_15 : (v_14 &&& u2) = 0
        · skip
          replace h := (if_pos c_15).symm.trans h
          obtain k9 := mo_c_X0_wantParts_b56 F (c_X0_wantParts_L11 F lf_11) ih_11 cs1 u0 u1 u2 u3 u5 u5 u6 cs9 h
          exact k9.trans hq
        · skip
          replace h := (if_neg c_15).symm.trans h
          obtain k9 := mo_c_X0_wantParts_b56 F (c_X0_wantParts_L11 F lf_11) ih_11 cs1 u0 u1 u2 u3 u4 u5 u6 cs9 h
          exact k9.trans hq
theorem mo_c_X0_wantParts (F : Nat) (cs : CS) (x0 : Nat) (x1 : Int32) (x2 : Int32) (x3 : Int32) (cs9 : CS) (h : c_X0_wantParts F cs x0 x1 x2 x3 = some cs9) : cs9.1 = cs.1 := by
  unfold c_X0_wantParts at h
  have hq : cs.1 = cs.1 := rfl
  obtain k9 := mo_c_X0_wantParts_L11 F F cs x0 x1 x2 x3 (-1) (x1 - 1) 0 cs9 h
  exact k9.trans hq
theorem mo_c_X0_checkCase_b144 (F : Nat) (cs1 : CS) (u0 : Nat) (u1 : Int32) (u2 : Int32) (u3 : Int32) (cs9 : CS) (h : c_X0_checkCase_b144 F cs1 u0 u1 u2 u3 = some cs9) : cs9.1 = cs1.1 := by
  unfold c_X0_checkCase_b144 at h
  have hq : cs1.1 = cs1.1 := rfl
  replace h := ob h; obtain ⟨v_1, hv_1, h⟩ := h
  replace h := ob h; obtain ⟨i_2, hi_2, h⟩ := h
  subst hi_2
  replace h := ob h; obtain ⟨v_3, hv_3, h⟩ := h
  replace h := ob h; obtain ⟨v_4, hv_4, h⟩ := h
  replace h := ob h; obtain ⟨i_5, hi_5, h⟩ := h
  subst hi_5
  replace h := ob h; obtain ⟨v_6, hv_6, h⟩ := h
  replace h := ob h; obtain ⟨v_7, hv_7, h⟩ := h
  replace h := ob h; obtain ⟨v_8, hv_8, h⟩ := h
  replace h := ob h; obtain ⟨i_9, hi_9, h⟩ := h
  subst hi_9
  replace h := ob h; obtain ⟨v_10, hv_10, h⟩ := h
  replace h := ob h; obtain ⟨v_11, hv_11, h⟩ := h
  replace h := ob h; obtain ⟨cs_12, hv_12, h⟩ := h
  replace hq := (wA_1 hv_12).trans hq
  have h9 := Option.some.inj h
  exact (congrArg (fun z => z.1) h9).symm.trans hq
theorem mo_c_X0_checkCase_b105 (F : Nat) (cs1 : CS) (u0 : Nat) (u1 : Int32) (u2 : Int32) (u3 : Int32) (cs9 : CS) (h : c_X0_checkCase_b105 F cs1 u0 u1 u2 u3 = some cs9) : cs9.1 = cs1.1 := by
  unfold c_X0_checkCase_b105 at h
  have hq : cs1.1 = cs1.1 := rfl
  replace h := ob h; obtain ⟨v_1, hv_1, h⟩ := h
  replace h := ob h; obtain ⟨i_2, hi_2, h⟩ := h
  subst hi_2
  replace h := ob h; obtain ⟨v_3, hv_3, h⟩ := h
  replace h := ob h; obtain ⟨v_4, hv_4, h⟩ := h
  replace h := ob h; obtain ⟨v_5, hv_5, h⟩ := h
  replace h := ob h; obtain ⟨i_6, hi_6, h⟩ := h
  subst hi_6
  replace h := ob h; obtain ⟨v_7, hv_7, h⟩ := h
  replace h := ob h; obtain ⟨v_8, hv_8, h⟩ := h
  by_cases c_9 : (v_4 &&& v_8) = 0
  · skip
    replace h := (if_pos c_9).symm.trans h
    replace h := ob h; obtain ⟨v_10, hv_10, h⟩ := h
    replace h := ob h; obtain ⟨v_11, hv_11, h⟩ := h
    replace h := ob h; obtain ⟨i_12, hi_12, h⟩ := h
    subst hi_12
    replace h := ob h; obtain ⟨v_13, hv_13, h⟩ := h
    replace h := ob h; obtain ⟨v_14, hv_14, h⟩ := h
    replace h := ob h; obtain ⟨i_16, hi_16, h⟩ := h
    subst hi_16
    replace h := ob h; obtain ⟨w_17, hw_17, h⟩ := h
    replace h := ob h; obtain ⟨cs_15, hv_15, h⟩ := h
    replace hq := (mo_c_X9_refuse F cs1 i_16 4 v_14 cs_15 hv_15).trans hq
    obtain k9 := mo_c_X0_checkCase_b144 F cs_15 u0 u1 u2 u3 cs9 h
    exact k9.trans hq
  · skip
    replace h := (if_neg c_9).symm.trans h
    obtain k9 := mo_c_X0_checkCase_b144 F cs1 u0 u1 u2 u3 cs9 h
    exact k9.trans hq
theorem mo_c_X0_checkCase_b57 (F : Nat) (cs1 : CS) (u0 : Nat) (u1 : Int32) (u2 : Int32) (u3 : Int32) (y0 : Int32) (cs9 : CS) (h : c_X0_checkCase_b57 F cs1 u0 u1 u2 u3 y0 = some cs9) : cs9.1 = cs1.1 := by
  unfold c_X0_checkCase_b57 at h
  have hq : cs1.1 = cs1.1 := rfl
  replace h := ob h; obtain ⟨v_1, hv_1, h⟩ := h
  replace h := ob h; obtain ⟨i_3, hi_3, h⟩ := h
  subst hi_3
  replace h := ob h; obtain ⟨w_4, hw_4, h⟩ := h
  replace h := ob h; obtain ⟨v_2, hv_2, h⟩ := h
  by_cases c_5 : v_2 = 0
  · skip
    replace h := (if_pos c_5).symm.trans h
    have h9 := Option.some.inj h
    exact (congrArg (fun z => z.1) h9).symm.trans hq
  · skip
    replace h := (if_neg c_5).symm.trans h
    replace h := ob h; obtain ⟨v_6, hv_6, h⟩ := h
    replace h := ob h; obtain ⟨i_7, hi_7, h⟩ := h
    subst hi_7
    replace h := ob h; obtain ⟨v_8, hv_8, h⟩ := h
    replace h := ob h; obtain ⟨v_9, hv_9, h⟩ := h
    by_cases c_10 : (v_9 &&& 2) = 0
    · skip
      replace h := (if_pos c_10).symm.trans h
      replace h := ob h; obtain ⟨v_11, hv_11, h⟩ := h
      replace h := ob h; obtain ⟨v_12, hv_12, h⟩ := h
      replace h := ob h; obtain ⟨i_13, hi_13, h⟩ := h
      subst hi_13
      replace h := ob h; obtain ⟨v_14, hv_14, h⟩ := h
      replace h := ob h; obtain ⟨v_15, hv_15, h⟩ := h
      replace h := ob h; obtain ⟨i_17, hi_17, h⟩ := h
      subst hi_17
      replace h := ob h; obtain ⟨w_18, hw_18, h⟩ := h
      replace h := ob h; obtain ⟨cs_16, hv_16, h⟩ := h
      replace hq := (mo_c_X9_refuse F cs1 i_17 4 v_15 cs_16 hv_16).trans hq
      obtain k9 := mo_c_X0_checkCase_b105 F cs_16 u0 u1 u2 u3 cs9 h
      exact k9.trans hq
    · skip
      replace h := (if_neg c_10).symm.trans h
      obtain k9 := mo_c_X0_checkCase_b105 F cs1 u0 u1 u2 u3 cs9 h
      exact k9.trans hq
theorem mo_c_X0_checkCase_b30 (F : Nat) (cs1 : CS) (u0 : Nat) (u1 : Int32) (u2 : Int32) (y0 : Int32) (cs9 : CS) (h : c_X0_checkCase_b30 F cs1 u0 u1 u2 y0 = some cs9) : cs9.1 = cs1.1 := by
  unfold c_X0_checkCase_b30 at h
  have hq : cs1.1 = cs1.1 := rfl
  replace h := ob h; obtain ⟨v_1, hv_1, h⟩ := h
  replace h := ob h; obtain ⟨i_3, hi_3, h⟩ := h
  subst hi_3
  replace h := ob h; obtain ⟨w_4, hw_4, h⟩ := h
  replace h := ob h; obtain ⟨v_2, hv_2, h⟩ := h
  by_cases c_5 : v_2 = 0
  · skip
    replace h := (if_pos c_5).symm.trans h
    obtain k9 := mo_c_X0_checkCase_b57 F cs1 u0 u1 u2 y0 (-1) cs9 h
    exact k9.trans hq
  · skip
    replace h := (if_neg c_5).symm.trans h
    replace h := ob h; obtain ⟨v_6, hv_6, h⟩ := h
    replace h := ob h; obtain ⟨i_7, hi_7, h⟩ := h
    subst hi_7
    replace h := ob h; obtain ⟨v_8, hv_8, h⟩ := h
    replace h := ob h; obtain ⟨v_9, hv_9, h⟩ := h
    obtain k9 := mo_c_X0_checkCase_b57 F cs1 u0 u1 u2 y0 (v_9 - 1) cs9 h
    exact k9.trans hq
theorem mo_c_X0_checkCase (F : Nat) (cs : CS) (x0 : Nat) (x1 : Int32) (cs9 : CS) (h : c_X0_checkCase F cs x0 x1 = some cs9) : cs9.1 = cs.1 := by
  unfold c_X0_checkCase at h
  have hq : cs.1 = cs.1 := rfl
  replace h := ob h; obtain ⟨v_1, hv_1, h⟩ := h
  replace h := ob h; obtain ⟨i_3, hi_3, h⟩ := h
  subst hi_3
  replace h := ob h; obtain ⟨w_4, hw_4, h⟩ := h
  replace h := ob h; obtain ⟨v_2, hv_2, h⟩ := h
  by_cases c_5 : v_2 = 0
  · skip
    replace h := (if_pos c_5).symm.trans h
    obtain k9 := mo_c_X0_checkCase_b30 F cs x0 x1 (x1 - 1) (-1) cs9 h
    exact k9.trans hq
  · skip
    replace h := (if_neg c_5).symm.trans h
    replace h := ob h; obtain ⟨v_6, hv_6, h⟩ := h
    replace h := ob h; obtain ⟨i_7, hi_7, h⟩ := h
    subst hi_7
    replace h := ob h; obtain ⟨v_8, hv_8, h⟩ := h
    replace h := ob h; obtain ⟨v_9, hv_9, h⟩ := h
    obtain k9 := mo_c_X0_checkCase_b30 F cs x0 x1 (x1 - 1) (v_9 - 1) cs9 h
    exact k9.trans hq
theorem mo_c_X0_checkAct_b270 (F : Nat) (cs1 : CS) (cs9 : CS) (h : c_X0_checkAct_b270 F cs1 = some cs9) : cs9.1 = cs1.1 := by
  unfold c_X0_checkAct_b270 at h
  have hq : cs1.1 = cs1.1 := rfl
  have h9 := Option.some.inj h
  exact (congrArg (fun z => z.1) h9).symm.trans hq
theorem mo_c_X0_checkAct_b196 (F : Nat) (cs1 : CS) (u0 : Nat) (u1 : Int32) (cs9 : CS) (h : c_X0_checkAct_b196 F cs1 u0 u1 = some cs9) : cs9.1 = cs1.1 := by
  unfold c_X0_checkAct_b196 at h
  have hq : cs1.1 = cs1.1 := rfl
  replace h := ob h; obtain ⟨v_1, hv_1, h⟩ := h
  replace h := ob h; obtain ⟨i_2, hi_2, h⟩ := h
  subst hi_2
  replace h := ob h; obtain ⟨v_3, hv_3, h⟩ := h
  replace h := ob h; obtain ⟨cs_4, hv_4, h⟩ := h
  replace hq := (wA_1 hv_4).trans hq
  obtain k9 := mo_c_X0_checkAct_b270 F cs_4 cs9 h
  exact k9.trans hq
theorem mo_c_X0_checkAct_b222 (F : Nat) (cs1 : CS) (u0 : Nat) (u1 : Int32) (cs9 : CS) (h : c_X0_checkAct_b222 F cs1 u0 u1 = some cs9) : cs9.1 = cs1.1 := by
  unfold c_X0_checkAct_b222 at h
  have hq : cs1.1 = cs1.1 := rfl
  replace h := ob h; obtain ⟨v_1, hv_1, h⟩ := h
  replace h := ob h; obtain ⟨i_2, hi_2, h⟩ := h
  subst hi_2
  replace h := ob h; obtain ⟨v_3, hv_3, h⟩ := h
  replace h := ob h; obtain ⟨cs_4, hv_4, h⟩ := h
  replace hq := (wA_1 hv_4).trans hq
  obtain k9 := mo_c_X0_checkAct_b270 F cs_4 cs9 h
  exact k9.trans hq
theorem mo_c_X0_checkAct_b235 (F : Nat) (cs1 : CS) (u0 : Nat) (u1 : Int32) (cs9 : CS) (h : c_X0_checkAct_b235 F cs1 u0 u1 = some cs9) : cs9.1 = cs1.1 := by
  unfold c_X0_checkAct_b235 at h
  have hq : cs1.1 = cs1.1 := rfl
  replace h := ob h; obtain ⟨w_2, hw_2, h⟩ := h
  replace h := ob h; obtain ⟨cs_1, hv_1, h⟩ := h
  replace hq := (mo_c_X0_wantParts F cs1 u0 u1 2 2 cs_1 hv_1).trans hq
  obtain k9 := mo_c_X0_checkAct_b270 F cs_1 cs9 h
  exact k9.trans hq
theorem mo_c_X0_checkAct_b253 (F : Nat) (cs1 : CS) (u0 : Nat) (u1 : Int32) (cs9 : CS) (h : c_X0_checkAct_b253 F cs1 u0 u1 = some cs9) : cs9.1 = cs1.1 := by
  unfold c_X0_checkAct_b253 at h
  have hq : cs1.1 = cs1.1 := rfl
  replace h := ob h; obtain ⟨w_2, hw_2, h⟩ := h
  replace h := ob h; obtain ⟨cs_1, hv_1, h⟩ := h
  replace hq := (mo_c_X0_wantParts F cs1 u0 u1 1 2 cs_1 hv_1).trans hq
  obtain k9 := mo_c_X0_checkAct_b270 F cs_1 cs9 h
  exact k9.trans hq
theorem mo_c_X0_checkAct_b263 (F : Nat) (cs1 : CS) (u0 : Nat) (u1 : Int32) (cs9 : CS) (h : c_X0_checkAct_b263 F cs1 u0 u1 = some cs9) : cs9.1 = cs1.1 := by
  unfold c_X0_checkAct_b263 at h
  have hq : cs1.1 = cs1.1 := rfl
  replace h := ob h; obtain ⟨w_2, hw_2, h⟩ := h
  replace h := ob h; obtain ⟨cs_1, hv_1, h⟩ := h
  replace hq := (mo_c_X0_wantParts F cs1 u0 u1 1 1 cs_1 hv_1).trans hq
  obtain k9 := mo_c_X0_checkAct_b270 F cs_1 cs9 h
  exact k9.trans hq
theorem mo_c_X0_checkAct (F : Nat) (cs : CS) (x0 : Nat) (x1 : Int32) (cs9 : CS) (h : c_X0_checkAct F cs x0 x1 = some cs9) : cs9.1 = cs.1 := by
  unfold c_X0_checkAct at h
  have hq : cs.1 = cs.1 := rfl
  replace h := ob h; obtain ⟨v_1, hv_1, h⟩ := h
  replace h := ob h; obtain ⟨i_2, hi_2, h⟩ := h
  subst hi_2
  replace h := ob h; obtain ⟨v_3, hv_3, h⟩ := h
  replace h := ob h; obtain ⟨v_4, hv_4, h⟩ := h
  by_cases c_5 : v_4 = 19
  · skip
    replace h := (if_pos c_5).symm.trans h
    replace h := ob h; obtain ⟨w_7, hw_7, h⟩ := h
    replace h := ob h; obtain ⟨cs_6, hv_6, h⟩ := h
    replace hq := (mo_c_X0_checkCase F cs x0 x1 cs_6 hv_6).trans hq
    obtain k9 := mo_c_X0_checkAct_b270 F cs_6 cs9 h
    exact k9.trans hq
  replace h := (if_neg c_5).symm.trans h
  by_cases c_8 : v_4 = 24
  · skip
    replace h := (if_pos c_8).symm.trans h
    obtain k9 := mo_c_X0_checkAct_b222 F cs x0 x1 cs9 h
    exact k9.trans hq
  replace h := (if_neg c_8).symm.trans h
  by_cases c_9 : v_4 = 25
  · skip
    replace h := (if_pos c_9).symm.trans h
    obtain k9 := mo_c_X0_checkAct_b235 F cs x0 x1 cs9 h
    exact k9.trans hq
  replace h := (if_neg c_9).symm.trans h
  by_cases c_10 : v_4 = 26
  · skip
    replace h := (if_pos c_10).symm.trans h
    replace h := ob h; obtain ⟨v_11, hv_11, h⟩ := h
    replace h := ob h; obtain ⟨i_12, hi_12, h⟩ := h
    subst hi_12
    replace h := ob h; obtain ⟨v_13, hv_13, h⟩ := h
    replace h := ob h; obtain ⟨cs_14, hv_14, h⟩ := h
    replace hq := (wA_1 hv_14).trans hq
    obtain k9 := mo_c_X0_checkAct_b270 F cs_14 cs9 h
    exact k9.trans hq
  replace h := (if_neg c_10).symm.trans h
  by_cases c_15 : v_4 = 27
  · skip
    replace h := (if_pos c_15).symm.trans h
    obtain k9 := mo_c_X0_checkAct_b253 F cs x0 x1 cs9 h
    exact k9.trans hq
  replace h := (if_neg c_15).symm.trans h
  by_cases c_16 : v_4 = 28
  · skip
    replace h := (if_pos c_16).symm.trans h
    obtain k9 := mo_c_X0_checkAct_b235 F cs x0 x1 cs9 h
    exact k9.trans hq
  replace h := (if_neg c_16).symm.trans h
  by_cases c_17 : v_4 = 29
  · skip
    replace h := (if_pos c_17).symm.trans h
    obtain k9 := mo_c_X0_checkAct_b235 F cs x0 x1 cs9 h
    exact k9.trans hq
  replace h := (if_neg c_17).symm.trans h
  by_cases c_18 : v_4 = 30
  · skip
    replace h := (if_pos c_18).symm.trans h
    obtain k9 := mo_c_X0_checkAct_b222 F cs x0 x1 cs9 h
    exact k9.trans hq
  replace h := (if_neg c_18).symm.trans h
  by_cases c_19 : v_4 = 31
  · skip
    replace h := (if_pos c_19).symm.trans h
    obtain k9 := mo_c_X0_checkAct_b222 F cs x0 x1 cs9 h
    exact k9.trans hq
  replace h := (if_neg c_19).symm.trans h
  by_cases c_20 : v_4 = 32
  · skip
    replace h := (if_pos c_20).symm.trans h
    obtain k9 := mo_c_X0_checkAct_b196 F cs x0 x1 cs9 h
    exact k9.trans hq
  replace h := (if_neg c_20).symm.trans h
  by_cases c_21 : v_4 = 40
  · skip
    replace h := (if_pos c_21).symm.trans h
    obtain k9 := mo_c_X0_checkAct_b196 F cs x0 x1 cs9 h
    exact k9.trans hq
  replace h := (if_neg c_21).symm.trans h
  by_cases c_22 : v_4 = 50
  · skip
    replace h := (if_pos c_22).symm.trans h
    obtain k9 := mo_c_X0_checkAct_b253 F cs x0 x1 cs9 h
    exact k9.trans hq
  replace h := (if_neg c_22).symm.trans h
  by_cases c_23 : v_4 = 51
  · skip
    replace h := (if_pos c_23).symm.trans h
    obtain k9 := mo_c_X0_checkAct_b253 F cs x0 x1 cs9 h
    exact k9.trans hq
  replace h := (if_neg c_23).symm.trans h
  by_cases c_24 : v_4 = 52
  · skip
    replace h := (if_pos c_24).symm.trans h
    obtain k9 := mo_c_X0_checkAct_b253 F cs x0 x1 cs9 h
    exact k9.trans hq
  replace h := (if_neg c_24).symm.trans h
  by_cases c_25 : v_4 = 53
  · skip
    replace h := (if_pos c_25).symm.trans h
    obtain k9 := mo_c_X0_checkAct_b253 F cs x0 x1 cs9 h
    exact k9.trans hq
  replace h := (if_neg c_25).symm.trans h
  by_cases c_26 : v_4 = 54
  · skip
    replace h := (if_pos c_26).symm.trans h
    obtain k9 := mo_c_X0_checkAct_b253 F cs x0 x1 cs9 h
    exact k9.trans hq
  replace h := (if_neg c_26).symm.trans h
  by_cases c_27 : v_4 = 55
  · skip
    replace h := (if_pos c_27).symm.trans h
    obtain k9 := mo_c_X0_checkAct_b253 F cs x0 x1 cs9 h
    exact k9.trans hq
  replace h := (if_neg c_27).symm.trans h
  by_cases c_28 : v_4 = 59
  · skip
    replace h := (if_pos c_28).symm.trans h
    obtain k9 := mo_c_X0_checkAct_b222 F cs x0 x1 cs9 h
    exact k9.trans hq
  replace h := (if_neg c_28).symm.trans h
  by_cases c_29 : v_4 = 60
  · skip
    replace h := (if_pos c_29).symm.trans h
    obtain k9 := mo_c_X0_checkAct_b253 F cs x0 x1 cs9 h
    exact k9.trans hq
  replace h := (if_neg c_29).symm.trans h
  by_cases c_30 : v_4 = 61
  · skip
    replace h := (if_pos c_30).symm.trans h
    obtain k9 := mo_c_X0_checkAct_b196 F cs x0 x1 cs9 h
    exact k9.trans hq
  replace h := (if_neg c_30).symm.trans h
  obtain k9 := mo_c_X0_checkAct_b263 F cs x0 x1 cs9 h
  exact k9.trans hq
theorem mo_c_X0_refuseUnlessOne_b30 (F : Nat) (cs1 : CS) (cs9 : CS) (h : c_X0_refuseUnlessOne_b30 F cs1 = some cs9) : cs9.1 = cs1.1 := by
  unfold c_X0_refuseUnlessOne_b30 at h
  have hq : cs1.1 = cs1.1 := rfl
  have h9 := Option.some.inj h
  exact (congrArg (fun z => z.1) h9).symm.trans hq
theorem mo_c_X0_refuseUnlessOne_b18 (F : Nat) (cs1 : CS) (u0 : Nat) (u2 : Int32) (y0 : Int32) (y1 : Option Nat) (cs9 : CS) (h : c_X0_refuseUnlessOne_b18 F cs1 u0 u2 y0 y1 = some cs9) : cs9.1 = cs1.1 := by
  unfold c_X0_refuseUnlessOne_b18 at h
  have hq : cs1.1 = cs1.1 := rfl
  replace h := ob h; obtain ⟨v_1, hv_1, h⟩ := h
  replace h := ob h; obtain ⟨i_2, hi_2, h⟩ := h
  subst hi_2
  replace h := ob h; obtain ⟨v_3, hv_3, h⟩ := h
  replace h := ob h; obtain ⟨v_4, hv_4, h⟩ := h
  replace h := ob h; obtain ⟨i_6, hi_6, h⟩ := h
  subst hi_6
  replace h := ob h; obtain ⟨w_7, hw_7, h⟩ := h
  replace h := ob h; obtain ⟨cs_5, hv_5, h⟩ := h
  replace hq := (mo_c_X9_refuse F cs1 i_6 y0 v_4 cs_5 hv_5).trans hq
  obtain k9 := mo_c_X0_refuseUnlessOne_b30 F cs_5 cs9 h
  exact k9.trans hq
theorem mo_c_X0_refuseUnlessOne (F : Nat) (cs : CS) (x0 : Nat) (x1 : Int32) (x2 : Int32) (cs9 : CS) (h : c_X0_refuseUnlessOne F cs x0 x1 x2 = some cs9) : cs9.1 = cs.1 := by
  unfold c_X0_refuseUnlessOne at h
  have hq : cs.1 = cs.1 := rfl
  by_cases c_1 : x1 = 1
  · skip
    replace h := (if_pos c_1).symm.trans h
    obtain k9 := mo_c_X0_refuseUnlessOne_b30 F cs cs9 h
    exact k9.trans hq
  · skip
    replace h := (if_neg c_1).symm.trans h
    replace h := ob h; obtain ⟨v_2, hv_2, h⟩ := h
    by_cases c_3 : x1 = 0
    · skip
      replace h := (if_pos c_3).symm.trans h
      obtain k9 := mo_c_X0_refuseUnlessOne_b18 F cs x0 x2 2 v_2 cs9 h
      exact k9.trans hq
    · skip
      replace h := (if_neg c_3).symm.trans h
      obtain k9 := mo_c_X0_refuseUnlessOne_b18 F cs x0 x2 3 v_2 cs9 h
      exact k9.trans hq
theorem mo_c_X0_findInSources_b181 (F : Nat) (cs1 : CS) (u0 : Nat) (u1 : Int32) (u2 : Int32) (cs9 : CS) (h : c_X0_findInSources_b181 F cs1 u0 u1 u2 = some cs9) : cs9.1 = cs1.1 := by
  unfold c_X0_findInSources_b181 at h
  have hq : cs1.1 = cs1.1 := rfl
  replace h := ob h; obtain ⟨w_2, hw_2, h⟩ := h
  replace h := ob h; obtain ⟨cs_1, hv_1, h⟩ := h
  replace hq := (mo_c_X0_refuseUnlessOne F cs1 u0 u2 u1 cs_1 hv_1).trans hq
  have h9 := Option.some.inj h
  exact (congrArg (fun z => z.1) h9).symm.trans hq
theorem mo_c_X0_findInSources_b175 (F : Nat) (rc4 : CS → Nat → Int32 → Int32 → Int32 → Option CS) (hrc4 : ∀ (cs1 : CS) (u0 : Nat) (u1 : Int32) (u2 : Int32) (u3 : Int32) (cs9 : CS), rc4 cs1 u0 u1 u2 u3 = some cs9 → cs9.1 = cs1.1) (cs1 : CS) (u0 : Nat) (u1 : Int32) (u2 : Int32) (u3 : Int32) (cs9 : CS) (h : c_X0_findInSources_b175 F rc4 cs1 u0 u1 u2 u3 = some cs9) : cs9.1 = cs1.1 := by
  unfold c_X0_findInSources_b175 at h
  have hq : cs1.1 = cs1.1 := rfl
  obtain k9 := hrc4 cs1 u0 u1 u2 (u3 + 1) cs9 h
  exact k9.trans hq
theorem mo_c_X0_findInSources_b115 (F : Nat) (rc4 : CS → Nat → Int32 → Int32 → Int32 → Option CS) (hrc4 : ∀ (cs1 : CS) (u0 : Nat) (u1 : Int32) (u2 : Int32) (u3 : Int32) (cs9 : CS), rc4 cs1 u0 u1 u2 u3 = some cs9 → cs9.1 = cs1.1) (cs1 : CS) (u0 : Nat) (u1 : Int32) (u2 : Int32) (u3 : Int32) (u4 : Option Nat) (u5 : Int32) (y0 : Int32) (cs9 : CS) (h : c_X0_findInSources_b115 F rc4 cs1 u0 u1 u2 u3 u4 u5 y0 = some cs9) : cs9.1 = cs1.1 := by
  unfold c_X0_findInSources_b115 at h
  have hq : cs1.1 = cs1.1 := rfl
  by_cases c_1 : u5 = 0
  · skip
    replace h := (if_pos c_1).symm.trans h
    obtain k9 := mo_c_X0_findInSources_b175 F rc4 hrc4 cs1 u0 u1 u2 u3 cs9 h
    exact k9.trans hq
  · skip
    replace h := (if_neg c_1).symm.trans h
    replace h := ob h; obtain ⟨i_2, hi_2, h⟩ := h
    subst hi_2
    replace h := ob h; obtain ⟨v_3, hv_3, h⟩ := h
    replace h := ob h; obtain ⟨i_5, hi_5, h⟩ := h
    subst hi_5
    replace h := ob h; obtain ⟨w_6, hw_6, h⟩ := h
    replace h := ob h; obtain ⟨v_4, hv_4, h⟩ := h
    by_cases c_7 : v_4 = 0
    · skip
      replace h := (if_pos c_7).symm.trans h
      obtain k9 := mo_c_X0_findInSources_b175 F rc4 hrc4 cs1 u0 u1 u2 u3 cs9 h
      exact k9.trans hq
    · skip
      replace h := (if_neg c_7).symm.trans h
      replace h := ob h; obtain ⟨v_8, hv_8, h⟩ := h
      replace h := ob h; obtain ⟨i_9, hi_9, h⟩ := h
      subst hi_9
      replace h := ob h; obtain ⟨v_10, hv_10, h⟩ := h
      replace h := ob h; obtain ⟨v_11, hv_11, h⟩ := h
      replace h := ob h; obtain ⟨cs_12, hv_12, h⟩ := h
      replace hq := (wA_1 hv_12).trans hq
      replace h := ob h; obtain ⟨v_13, hv_13, h⟩ := h
      replace h := ob h; obtain ⟨i_14, hi_14, h⟩ := h
      subst hi_14
      replace h := ob h; obtain ⟨v_15, hv_15, h⟩ := h
      replace h := ob h; obtain ⟨v_16, hv_16, h⟩ := h
      replace h := ob h; obtain ⟨i_17, hi_17, h⟩ := h
      subst hi_17
      replace h := ob h; obtain ⟨v_18, hv_18, h⟩ := h
      replace h := ob h; obtain ⟨v_19, hv_19, h⟩ := h
      replace h := ob h; obtain ⟨cs_20, hv_20, h⟩ := h
      replace hq := (wA_1 hv_20).trans hq
      obtain k9 := mo_c_X0_findInSources_b175 F rc4 hrc4 cs_20 u0 u1 (u2 + 1) u3 cs9 h
      exact k9.trans hq
theorem mo_c_X0_findInSources_b86 (F : Nat) (rc4 : CS → Nat → Int32 → Int32 → Int32 → Option CS) (hrc4 : ∀ (cs1 : CS) (u0 : Nat) (u1 : Int32) (u2 : Int32) (u3 : Int32) (cs9 : CS), rc4 cs1 u0 u1 u2 u3 = some cs9 → cs9.1 = cs1.1) (cs1 : CS) (u0 : Nat) (u1 : Int32) (u2 : Int32) (u3 : Int32) (u4 : Option Nat) (y0 : Int32) (cs9 : CS) (h : c_X0_findInSources_b86 F rc4 cs1 u0 u1 u2 u3 u4 y0 = some cs9) : cs9.1 = cs1.1 := by
  unfold c_X0_findInSources_b86 at h
  have hq : cs1.1 = cs1.1 := rfl
  by_cases c_1 : y0 = 0
  · skip
    replace h := (if_pos c_1).symm.trans h
    obtain k9 := mo_c_X0_findInSources_b115 F rc4 hrc4 cs1 u0 u1 u2 u3 u4 y0 (-1) cs9 h
    exact k9.trans hq
  · skip
    replace h := (if_neg c_1).symm.trans h
    replace h := ob h; obtain ⟨i_2, hi_2, h⟩ := h
    subst hi_2
    replace h := ob h; obtain ⟨v_3, hv_3, h⟩ := h
    replace h := ob h; obtain ⟨v_4, hv_4, h⟩ := h
    replace h := ob h; obtain ⟨i_5, hi_5, h⟩ := h
    subst hi_5
    replace h := ob h; obtain ⟨v_6, hv_6, h⟩ := h
    replace h := ob h; obtain ⟨v_7, hv_7, h⟩ := h
    replace h := ob h; obtain ⟨i_9, hi_9, h⟩ := h
    subst hi_9
    replace h := ob h; obtain ⟨w_10, hw_10, h⟩ := h
    replace h := ob h; obtain ⟨v_8, hv_8, h⟩ := h
    obtain k9 := mo_c_X0_findInSources_b115 F rc4 hrc4 cs1 u0 u1 u2 u3 (some i_2) y0 v_8 cs9 h
    exact k9.trans hq
theorem mo_c_X0_findInSources_b81 (F : Nat) (rc4 : CS → Nat → Int32 → Int32 → Int32 → Option CS) (hrc4 : ∀ (cs1 : CS) (u0 : Nat) (u1 : Int32) (u2 : Int32) (u3 : Int32) (cs9 : CS), rc4 cs1 u0 u1 u2 u3 = some cs9 → cs9.1 = cs1.1) (cs1 : CS) (u0 : Nat) (u1 : Int32) (u2 : Int32) (u3 : Int32) (u4 : Nat) (cs9 : CS) (h : c_X0_findInSources_b81 F rc4 cs1 u0 u1 u2 u3 u4 = some cs9) : cs9.1 = cs1.1 := by
  unfold c_X0_findInSources_b81 at h
  have hq : cs1.1 = cs1.1 := rfl
  obtain k9 := mo_c_X0_findInSources_b86 F rc4 hrc4 cs1 u0 u1 u2 u3 (some u4) 1 cs9 h
  exact k9.trans hq
theorem mo_c_X0_findInSources_b85 (F : Nat) (rc4 : CS → Nat → Int32 → Int32 → Int32 → Option CS) (hrc4 : ∀ (cs1 : CS) (u0 : Nat) (u1 : Int32) (u2 : Int32) (u3 : Int32) (cs9 : CS), rc4 cs1 u0 u1 u2 u3 = some cs9 → cs9.1 = cs1.1) (cs1 : CS) (u0 : Nat) (u1 : Int32) (u2 : Int32) (u3 : Int32) (u4 : Option Nat) (cs9 : CS) (h : c_X0_findInSources_b85 F rc4 cs1 u0 u1 u2 u3 u4 = some cs9) : cs9.1 = cs1.1 := by
  unfold c_X0_findInSources_b85 at h
  have hq : cs1.1 = cs1.1 := rfl
  obtain k9 := mo_c_X0_findInSources_b86 F rc4 hrc4 cs1 u0 u1 u2 u3 u4 0 cs9 h
  exact k9.trans hq
theorem mo_c_X0_findInSources_L4 (F : Nat) : ∀ (lf_4 : Nat) (cs1 : CS) (u0 : Nat) (u1 : Int32) (u2 : Int32) (u3 : Int32) (cs9 : CS), c_X0_findInSources_L4 F lf_4 cs1 u0 u1 u2 u3 = some cs9 → cs9.1 = cs1.1 := by
  intro lf_4
  induction lf_4 with
  | zero => intro cs1 u0 u1 u2 u3 cs9 h; cases (show (none : Option CS) = _ from h)
  | succ lf_4 ih_4 =>
    intro cs1 u0 u1 u2 u3 cs9 h
    rw [c_X0_findInSources_L4] at h
    have hq : cs1.1 = cs1.1 := rfl
    replace h := ob h; obtain ⟨v_1, hv_1, h⟩ := h
    cases v_1 with
    | none =>
      replace h := oc_n.symm.trans h
      obtain k9 := mo_c_X0_findInSources_b181 F cs1 u0 u1 u2 cs9 h
      exact k9.trans hq
    | some i_2 =>
      replace h := oc_s.symm.trans h
      replace h := ob h; obtain ⟨v_3, hv_3, h⟩ := h
      by_cases c_4 : v_3 ≤ u3
      · skip
        replace h := (if_pos c_4).symm.trans h
        obtain k9 := mo_c_X0_findInSources_b181 F cs1 u0 u1 u2 cs9 h
        exact k9.trans hq
      · skip
        replace h := (if_neg c_4).symm.trans h
        replace h := ob h; obtain ⟨v_5, hv_5, h⟩ := h
        replace h := ob h; obtain ⟨i_6, hi_6, h⟩ := h
        subst hi_6
        replace h := ob h; obtain ⟨v_7, hv_7, h⟩ := h
        replace h := ob h; obtain ⟨v_8, hv_8, h⟩ := h
        by_cases c_9 : v_8 ≤ u3
        · skip
          replace h := (if_pos c_9).symm.trans h
          obtain k9 := mo_c_X0_findInSources_b181 F cs1 u0 u1 u2 cs9 h
          exact k9.trans hq
        · skip
          replace h := (if_neg c_9).symm.trans h
          replace h := ob h; obtain ⟨v_10, hv_10, h⟩ := h
          replace h := ob h; obtain ⟨i_11, hi_11, h⟩ := h
          subst hi_11
          replace h := ob h; obtain ⟨v_12, hv_12, h⟩ := h
          replace h := ob h; obtain ⟨v_13, hv_13, h⟩ := h
          cases v_13 with
          | none =>
            replace h := oc_n.symm.trans h
            obtain k9 := mo_c_X0_findInSources_b85 F (c_X0_findInSources_L4 F lf_4) ih_4 cs1 u0 u1 u2 u3 none cs9 h
            exact k9.trans hq
          | some i_14 =>
            replace h := oc_s.symm.trans h
            replace h := ob h; obtain ⟨v_15, hv_15, h⟩ := h
            replace h := ob h; obtain ⟨i_16, hi_16, h⟩ := h
            subst hi_16
            replace h := ob h; obtain ⟨v_17, hv_17, h⟩ := h
            replace h := ob h; obtain ⟨v_18, hv_18, h⟩ := h
            by_cases c_19 : v_18 = (-1)
            · skip
              replace h := (if_pos c_19).symm.trans h
              obtain k9 := mo_c_X0_findInSources_b81 F (c_X0_findInSources_L4 F lf_4) ih_4 cs1 u0 u1 u2 u3 i_14 cs9 h
              exact k9.trans hq
            · skip
              replace h := (if_neg c_19).symm.trans h
              replace h := ob h; obtain ⟨v_20, hv_20, h⟩ := h
              replace h := ob h; obtain ⟨i_21, hi_21, h⟩ := h
              subst hi_21
              replace h := ob h; obtain ⟨v_22, hv_22, h⟩ := h
              replace h := ob h; obtain ⟨v_23, hv_23, h⟩ := h
              replace h := ob h; obtain ⟨v_24, hv_24, h⟩ := h
              by_cases c_25 : v_23 = v_24
              · skip
                replace h := (if_pos c_25).symm.trans h
                obtain k9 := mo_c_X0_findInSources_b81 F (c_X0_findInSources_L4 F lf_4) ih_4 cs1 u0 u1 u2 u3 i_14 cs9 h
                exact k9.trans hq
              · skip
                replace h := (if_neg c_25).symm.trans h
                obtain k9 := mo_c_X0_findInSources_b85 F (c_X0_findInSources_L4 F lf_4) ih_4 cs1 u0 u1 u2 u3 (some i_14) cs9 h
                exact k9.trans hq
theorem mo_c_X0_findInSources (F : Nat) (cs : CS) (x0 : Nat) (x1 : Int32) (cs9 : CS) (h : c_X0_findInSources F cs x0 x1 = some cs9) : cs9.1 = cs.1 := by
  unfold c_X0_findInSources at h
  have hq : cs.1 = cs.1 := rfl
  obtain k9 := mo_c_X0_findInSources_L4 F F cs x0 x1 0 0 cs9 h
  exact k9.trans hq
theorem mo_c_X0_findInNames_b101 (F : Nat) (cs1 : CS) (u1 : Int32) (y0 : Int32) (y1 : Nat) (cs9 : CS) (h : c_X0_findInNames_b101 F cs1 u1 y0 y1 = some cs9) : cs9.1 = cs1.1 := by
  unfold c_X0_findInNames_b101 at h
  have hq : cs1.1 = cs1.1 := rfl
  replace h := ob h; obtain ⟨w_2, hw_2, h⟩ := h
  replace h := ob h; obtain ⟨cs_1, hv_1, h⟩ := h
  replace hq := (mo_c_X0_refuseUnlessOne F cs1 y1 y0 u1 cs_1 hv_1).trans hq
  have h9 := Option.some.inj h
  exact (congrArg (fun z => z.1) h9).symm.trans hq
theorem mo_c_X0_findInNames_b34 (F : Nat) (cs1 : CS) (u0 : Nat) (u1 : Int32) (u2 : Nat) (y0 : Int32) (cs9 : CS) (h : c_X0_findInNames_b34 F cs1 u0 u1 u2 y0 = some cs9) : cs9.1 = cs1.1 := by
  unfold c_X0_findInNames_b34 at h
  have hq : cs1.1 = cs1.1 := rfl
  replace h := ob h; obtain ⟨w_2, hw_2, h⟩ := h
  replace h := ob h; obtain ⟨v_1, hv_1, h⟩ := h
  by_cases c_3 : v_1 = 0
  · skip
    replace h := (if_pos c_3).symm.trans h
    replace h := ob h; obtain ⟨w_5, hw_5, h⟩ := h
    replace h := ob h; obtain ⟨cs_4, hv_4, h⟩ := h
    replace hq := (mo_c_X0_refuseUnlessOne F cs1 u0 0 u1 cs_4 hv_4).trans hq
    have h9 := Option.some.inj h
    exact (congrArg (fun z => z.1) h9).symm.trans hq
  · skip
    replace h := (if_neg c_3).symm.trans h
    replace h := ob h; obtain ⟨v_6, hv_6, h⟩ := h
    replace h := ob h; obtain ⟨i_7, hi_7, h⟩ := h
    subst hi_7
    replace h := ob h; obtain ⟨v_8, hv_8, h⟩ := h
    replace h := ob h; obtain ⟨cs_9, hv_9, h⟩ := h
    replace hq := (wA_1 hv_9).trans hq
    replace h := ob h; obtain ⟨v_10, hv_10, h⟩ := h
    replace h := ob h; obtain ⟨i_11, hi_11, h⟩ := h
    subst hi_11
    replace h := ob h; obtain ⟨v_12, hv_12, h⟩ := h
    replace h := ob h; obtain ⟨v_13, hv_13, h⟩ := h
    replace h := ob h; obtain ⟨v_14, hv_14, h⟩ := h
    replace h := ob h; obtain ⟨cs_15, hv_15, h⟩ := h
    replace hq := (wA_1 hv_15).trans hq
    replace h := ob h; obtain ⟨v_16, hv_16, h⟩ := h
    replace h := ob h; obtain ⟨i_17, hi_17, h⟩ := h
    subst hi_17
    replace h := ob h; obtain ⟨v_18, hv_18, h⟩ := h
    replace h := ob h; obtain ⟨v_19, hv_19, h⟩ := h
    replace h := ob h; obtain ⟨w_21, hw_21, h⟩ := h
    replace h := ob h; obtain ⟨v_20, hv_20, h⟩ := h
    by_cases c_22 : v_20 = (-1)
    · skip
      replace h := (if_pos c_22).symm.trans h
      obtain k9 := mo_c_X0_findInNames_b101 F cs_15 u1 1 u0 cs9 h
      exact k9.trans hq
    · skip
      replace h := (if_neg c_22).symm.trans h
      obtain k9 := mo_c_X0_findInNames_b101 F cs_15 u1 2 u0 cs9 h
      exact k9.trans hq
theorem mo_c_X0_findInNames (F : Nat) (cs : CS) (x0 : Nat) (x1 : Int32) (x2 : Nat) (cs9 : CS) (h : c_X0_findInNames F cs x0 x1 x2 = some cs9) : cs9.1 = cs.1 := by
  unfold c_X0_findInNames at h
  have hq : cs.1 = cs.1 := rfl
  replace h := ob h; obtain ⟨v_1, hv_1, h⟩ := h
  replace h := ob h; obtain ⟨i_2, hi_2, h⟩ := h
  subst hi_2
  replace h := ob h; obtain ⟨v_3, hv_3, h⟩ := h
  replace h := ob h; obtain ⟨v_4, hv_4, h⟩ := h
  by_cases c_5 : v_4 = (-1)
  · skip
    replace h := (if_pos c_5).symm.trans h
    replace h := ob h; obtain ⟨v_6, hv_6, h⟩ := h
    replace h := ob h; obtain ⟨i_7, hi_7, h⟩ := h
    subst hi_7
    replace h := ob h; obtain ⟨v_8, hv_8, h⟩ := h
    replace h := ob h; obtain ⟨v_9, hv_9, h⟩ := h
    replace h := ob h; obtain ⟨w_11, hw_11, h⟩ := h
    replace h := ob h; obtain ⟨v_10, hv_10, h⟩ := h
    obtain k9 := mo_c_X0_findInNames_b34 F cs x0 x1 x2 v_10 cs9 h
    exact k9.trans hq
  · skip
    replace h := (if_neg c_5).symm.trans h
    obtain k9 := mo_c_X0_findInNames_b34 F cs x0 x1 x2 (-1) cs9 h
    exact k9.trans hq
theorem mo_c_X0_checkExpr_b129 (F : Nat) (cs1 : CS) (cs9 : CS) (h : c_X0_checkExpr_b129 F cs1 = some cs9) : cs9.1 = cs1.1 := by
  unfold c_X0_checkExpr_b129 at h
  have hq : cs1.1 = cs1.1 := rfl
  have h9 := Option.some.inj h
  exact (congrArg (fun z => z.1) h9).symm.trans hq
theorem mo_c_X0_checkExpr_b123 (F : Nat) (rc24 : CS → Nat → Int32 → Int32 → Int32 → Option CS) (hrc24 : ∀ (cs1 : CS) (u0 : Nat) (u1 : Int32) (u2 : Int32) (u3 : Int32) (cs9 : CS), rc24 cs1 u0 u1 u2 u3 = some cs9 → cs9.1 = cs1.1) (cs1 : CS) (u0 : Nat) (u1 : Int32) (u2 : Int32) (u3 : Int32) (cs9 : CS) (h : c_X0_checkExpr_b123 F rc24 cs1 u0 u1 u2 u3 = some cs9) : cs9.1 = cs1.1 := by
  unfold c_X0_checkExpr_b123 at h
  have hq : cs1.1 = cs1.1 := rfl
  obtain k9 := hrc24 cs1 u0 u1 u2 (u3 + 1) cs9 h
  exact k9.trans hq
theorem mo_c_X0_checkExpr_b106 (F : Nat) (rc24 : CS → Nat → Int32 → Int32 → Int32 → Option CS) (hrc24 : ∀ (cs1 : CS) (u0 : Nat) (u1 : Int32) (u2 : Int32) (u3 : Int32) (cs9 : CS), rc24 cs1 u0 u1 u2 u3 = some cs9 → cs9.1 = cs1.1) (cs1 : CS) (u0 : Nat) (u1 : Int32) (u2 : Int32) (u3 : Int32) (cs9 : CS) (h : c_X0_checkExpr_b106 F rc24 cs1 u0 u1 u2 u3 = some cs9) : cs9.1 = cs1.1 := by
  unfold c_X0_checkExpr_b106 at h
  have hq : cs1.1 = cs1.1 := rfl
  replace h := ob h; obtain ⟨w_2, hw_2, h⟩ := h
  replace h := ob h; obtain ⟨cs_1, hv_1, h⟩ := h
  replace hq := (mo_c_X0_findInSources F cs1 u0 u3 cs_1 hv_1).trans hq
  obtain k9 := mo_c_X0_checkExpr_b123 F rc24 hrc24 cs_1 u0 u1 u2 u3 cs9 h
  exact k9.trans hq
theorem mo_c_X0_checkExpr_b72 (F : Nat) (rc24 : CS → Nat → Int32 → Int32 → Int32 → Option CS) (hrc24 : ∀ (cs1 : CS) (u0 : Nat) (u1 : Int32) (u2 : Int32) (u3 : Int32) (cs9 : CS), rc24 cs1 u0 u1 u2 u3 = some cs9 → cs9.1 = cs1.1) (cs1 : CS) (u0 : Nat) (u1 : Int32) (u2 : Int32) (u3 : Int32) (cs9 : CS) (h : c_X0_checkExpr_b72 F rc24 cs1 u0 u1 u2 u3 = some cs9) : cs9.1 = cs1.1 := by
  unfold c_X0_checkExpr_b72 at h
  have hq : cs1.1 = cs1.1 := rfl
  replace h := ob h; obtain ⟨v_1, hv_1, h⟩ := h
  replace h := ob h; obtain ⟨i_2, hi_2, h⟩ := h
  subst hi_2
  replace h := ob h; obtain ⟨v_3, hv_3, h⟩ := h
  replace h := ob h; obtain ⟨v_4, hv_4, h⟩ := h
  by_cases c_5 : v_4 = 39
  · skip
    replace h := (if_pos c_5).symm.trans h
    replace h := ob h; obtain ⟨v_6, hv_6, h⟩ := h
    cases v_6 with
    | none =>
      replace h := oc_n.symm.trans h
      obtain k9 := mo_c_X0_checkExpr_b106 F rc24 hrc24 cs1 u0 u1 u2 u3 cs9 h
      exact k9.trans hq
    | some i_7 =>
      replace h := oc_s.symm.trans h
      by_cases c_8 : u2 ≤ u3
      · skip
        replace h := (if_pos c_8).symm.trans h
        replace h := ob h; obtain ⟨v_9, hv_9, h⟩ := h
        replace h := ob h; obtain ⟨i_10, hi_10, h⟩ := h
        subst hi_10
        replace h := ob h; obtain ⟨w_12, hw_12, h⟩ := h
        replace h := ob h; obtain ⟨cs_11, hv_11, h⟩ := h
        replace hq := (mo_c_X0_findInNames F cs1 u0 u3 i_10 cs_11 hv_11).trans hq
        obtain k9 := mo_c_X0_checkExpr_b123 F rc24 hrc24 cs_11 u0 u1 u2 u3 cs9 h
        exact k9.trans hq
      · skip
        replace h := (if_neg c_8).symm.trans h
        obtain k9 := mo_c_X0_checkExpr_b106 F rc24 hrc24 cs1 u0 u1 u2 u3 cs9 h
        exact k9.trans hq
  · skip
    replace h := (if_neg c_5).symm.trans h
    replace h := ob h; obtain ⟨w_14, hw_14, h⟩ := h
    replace h := ob h; obtain ⟨cs_13, hv_13, h⟩ := h
    replace hq := (mo_c_X0_checkAct F cs1 u0 u3 cs_13 hv_13).trans hq
    obtain k9 := mo_c_X0_checkExpr_b123 F rc24 hrc24 cs_13 u0 u1 u2 u3 cs9 h
    exact k9.trans hq
theorem mo_c_X0_checkExpr_L24 (F : Nat) : ∀ (lf_24 : Nat) (cs1 : CS) (u0 : Nat) (u1 : Int32) (u2 : Int32) (u3 : Int32) (cs9 : CS), c_X0_checkExpr_L24 F lf_24 cs1 u0 u1 u2 u3 = some cs9 → cs9.1 = cs1.1 := by
  intro lf_24
  induction lf_24 with
  | zero => intro cs1 u0 u1 u2 u3 cs9 h; cases (show (none : Option CS) = _ from h)
  | succ lf_24 ih_24 =>
    intro cs1 u0 u1 u2 u3 cs9 h
    rw [c_X0_checkExpr_L24] at h
    have hq : cs1.1 = cs1.1 := rfl
    by_cases c_1 : u1 < u3
    · skip
      replace h := (if_pos c_1).symm.trans h
      obtain k9 := mo_c_X0_checkExpr_b129 F cs1 cs9 h
      exact k9.trans hq
    · skip
      replace h := (if_neg c_1).symm.trans h
      replace h := ob h; obtain ⟨w_3, hw_3, h⟩ := h
      replace h := ob h; obtain ⟨v_2, hv_2, h⟩ := h
      by_cases c_4 : v_2 = 0
      · skip
        replace h := (if_pos c_4).symm.trans h
        replace h := ob h; obtain ⟨v_5, hv_5, h⟩ := h
        replace h := ob h; obtain ⟨i_6, hi_6, h⟩ := h
        subst hi_6
        replace h := ob h; obtain ⟨v_7, hv_7, h⟩ := h
        replace h := ob h; obtain ⟨v_8, hv_8, h⟩ := h
        by_cases c_9 : v_8 ≤ u3
        · skip
          replace h := (if_pos c_9).symm.trans h
          obtain k9 := mo_c_X0_checkExpr_b72 F (c_X0_checkExpr_L24 F lf_24) ih_24 cs1 u0 u1 u2 u3 cs9 h
          exact k9.trans hq
        · skip
          replace h := (if_neg c_9).symm.trans h
          replace h := ob h; obtain ⟨v_10, hv_10, h⟩ := h
          replace h := ob h; obtain ⟨i_11, hi_11, h⟩ := h
          subst hi_11
          replace h := ob h; obtain ⟨v_12, hv_12, h⟩ := h
          replace h := ob h; obtain ⟨v_13, hv_13, h⟩ := h
          by_cases c_14 : u1 < v_13
          · skip
            replace h := (if_pos c_14).symm.trans h
            obtain k9 := mo_c_X0_checkExpr_b72 F (c_X0_checkExpr_L24 F lf_24) ih_24 cs1 u0 u1 u2 u3 cs9 h
            exact k9.trans hq
          · skip
            replace h := (if_neg c_14).symm.trans h
            replace h := ob h; obtain ⟨v_15, hv_15, h⟩ := h
            replace h := ob h; obtain ⟨i_16, hi_16, h⟩ := h
            subst hi_16
            replace h := ob h; obtain ⟨v_17, hv_17, h⟩ := h
            replace h := ob h; obtain ⟨v_18, hv_18, h⟩ := h
            obtain k9 := mo_c_X0_checkExpr_b72 F (c_X0_checkExpr_L24 F lf_24) ih_24 cs1 u0 u1 v_18 u3 cs9 h
            exact k9.trans hq
      · skip
        replace h := (if_neg c_4).symm.trans h
        obtain k9 := mo_c_X0_checkExpr_b129 F cs1 cs9 h
        exact k9.trans hq
theorem mo_c_X0_checkExpr (F : Nat) (cs : CS) (x0 : Nat) (x1 : Int32) (cs9 : CS) (h : c_X0_checkExpr F cs x0 x1 = some cs9) : cs9.1 = cs.1 := by
  unfold c_X0_checkExpr at h
  have hq : cs.1 = cs.1 := rfl
  replace h := ob h; obtain ⟨v_1, hv_1, h⟩ := h
  replace h := ob h; obtain ⟨i_3, hi_3, h⟩ := h
  subst hi_3
  replace h := ob h; obtain ⟨w_4, hw_4, h⟩ := h
  replace h := ob h; obtain ⟨v_2, hv_2, h⟩ := h
  by_cases c_5 : v_2 = 0
  · skip
    replace h := (if_pos c_5).symm.trans h
    have h9 := Option.some.inj h
    exact (congrArg (fun z => z.1) h9).symm.trans hq
  · skip
    replace h := (if_neg c_5).symm.trans h
    replace h := ob h; obtain ⟨v_6, hv_6, h⟩ := h
    replace h := ob h; obtain ⟨i_7, hi_7, h⟩ := h
    subst hi_7
    replace h := ob h; obtain ⟨v_8, hv_8, h⟩ := h
    replace h := ob h; obtain ⟨v_9, hv_9, h⟩ := h
    obtain k9 := mo_c_X0_checkExpr_L24 F F cs x0 x1 (-1) v_9 cs9 h
    exact k9.trans hq
theorem mo_c_X0_checkTruth_b43 (F : Nat) (cs1 : CS) (cs9 : CS) (h : c_X0_checkTruth_b43 F cs1 = some cs9) : cs9.1 = cs1.1 := by
  unfold c_X0_checkTruth_b43 at h
  have hq : cs1.1 = cs1.1 := rfl
  have h9 := Option.some.inj h
  exact (congrArg (fun z => z.1) h9).symm.trans hq
theorem mo_c_X0_checkTruth (F : Nat) (cs : CS) (x0 : Nat) (x1 : Int32) (cs9 : CS) (h : c_X0_checkTruth F cs x0 x1 = some cs9) : cs9.1 = cs.1 := by
  unfold c_X0_checkTruth at h
  have hq : cs.1 = cs.1 := rfl
  replace h := ob h; obtain ⟨w_2, hw_2, h⟩ := h
  replace h := ob h; obtain ⟨cs_1, hv_1, h⟩ := h
  replace hq := (mo_c_X0_checkExpr F cs x0 x1 cs_1 hv_1).trans hq
  replace h := ob h; obtain ⟨v_3, hv_3, h⟩ := h
  replace h := ob h; obtain ⟨i_5, hi_5, h⟩ := h
  subst hi_5
  replace h := ob h; obtain ⟨w_6, hw_6, h⟩ := h
  replace h := ob h; obtain ⟨v_4, hv_4, h⟩ := h
  by_cases c_7 : v_4 = 0
  · skip
    replace h := (if_pos c_7).symm.trans h
    obtain k9 := mo_c_X0_checkTruth_b43 F cs_1 cs9 h
    exact k9.trans hq
  · skip
    replace h := (if_neg c_7).symm.trans h
    replace h := ob h; obtain ⟨w_9, hw_9, h⟩ := h
    replace h := ob h; obtain ⟨v_8, hv_8, h⟩ := h
    by_cases c_10 : (v_8 &&& 2) = 0
    · skip
      replace h := (if_pos c_10).symm.trans h
      replace h := ob h; obtain ⟨v_11, hv_11, h⟩ := h
      replace h := ob h; obtain ⟨v_12, hv_12, h⟩ := h
      replace h := ob h; obtain ⟨i_13, hi_13, h⟩ := h
      subst hi_13
      replace h := ob h; obtain ⟨v_14, hv_14, h⟩ := h
      replace h := ob h; obtain ⟨v_15, hv_15, h⟩ := h
      replace h := ob h; obtain ⟨i_17, hi_17, h⟩ := h
      subst hi_17
      replace h := ob h; obtain ⟨w_18, hw_18, h⟩ := h
      replace h := ob h; obtain ⟨cs_16, hv_16, h⟩ := h
      replace hq := (mo_c_X9_refuse F cs_1 i_17 4 v_15 cs_16 hv_16).trans hq
      obtain k9 := mo_c_X0_checkTruth_b43 F cs_16 cs9 h
      exact k9.trans hq
    · skip
      replace h := (if_neg c_10).symm.trans h
      obtain k9 := mo_c_X0_checkTruth_b43 F cs_1 cs9 h
      exact k9.trans hq
theorem mo_c_X2_settleType_b24 (F : Nat) (cs1 : CS) (cs9 : CS) (h : c_X2_settleType_b24 F cs1 = some cs9) : cs9.1 = cs1.1 := by
  unfold c_X2_settleType_b24 at h
  have hq : cs1.1 = cs1.1 := rfl
  have h9 := Option.some.inj h
  exact (congrArg (fun z => z.1) h9).symm.trans hq
theorem mo_c_X2_settleType_b23 (F : Nat) (cs1 : CS) (y0 : Int32) (y1 : Int32) (y2 : Nat) (wy2 : Nat) (cs9 : CS) (h : c_X2_settleType_b23 F cs1 y0 y1 y2 wy2 = some cs9) : cs9.1 = cs1.1 := by
  unfold c_X2_settleType_b23 at h
  have hq : cs1.1 = cs1.1 := rfl
  replace h := ob h; obtain ⟨cs_1, hv_1, h⟩ := h
  replace hq := (wA_1 hv_1).trans hq
  obtain k9 := mo_c_X2_settleType_b24 F cs_1 cs9 h
  exact k9.trans hq
theorem mo_c_X2_settleType (F : Nat) (cs : CS) (x0 : Nat) (x1 : Int32) (x2 : Int32) (cs9 : CS) (h : c_X2_settleType F cs x0 x1 x2 = some cs9) : cs9.1 = cs.1 := by
  unfold c_X2_settleType at h
  have hq : cs.1 = cs.1 := rfl
  replace h := ob h; obtain ⟨w_2, hw_2, h⟩ := h
  replace h := ob h; obtain ⟨v_1, hv_1, h⟩ := h
  by_cases c_3 : v_1 = 0
  · skip
    replace h := (if_pos c_3).symm.trans h
    obtain k9 := mo_c_X2_settleType_b24 F cs cs9 h
    exact k9.trans hq
  · skip
    replace h := (if_neg c_3).symm.trans h
    replace h := ob h; obtain ⟨v_4, hv_4, h⟩ := h
    by_cases c_5 : x2 = 2
    · skip
      replace h := (if_pos c_5).symm.trans h
      obtain k9 := mo_c_X2_settleType_b23 F cs 2 x1 x0 v_4 cs9 h
      exact k9.trans hq
    · skip
      replace h := (if_neg c_5).symm.trans h
      obtain k9 := mo_c_X2_settleType_b23 F cs 1 x1 x0 v_4 cs9 h
      exact k9.trans hq
theorem mo_c_X0_checkGroups_b211 (F : Nat) (cs1 : CS) (cs9 : CS) (h : c_X0_checkGroups_b211 F cs1 = some cs9) : cs9.1 = cs1.1 := by
  unfold c_X0_checkGroups_b211 at h
  have hq : cs1.1 = cs1.1 := rfl
  have h9 := Option.some.inj h
  exact (congrArg (fun z => z.1) h9).symm.trans hq
theorem mo_c_X0_checkGroups_b205 (F : Nat) (rc152 : CS → Nat → Nat → Nat → Int32 → Option CS) (hrc152 : ∀ (cs1 : CS) (u0 : Nat) (u1 : Nat) (u2 : Nat) (u3 : Int32) (cs9 : CS), rc152 cs1 u0 u1 u2 u3 = some cs9 → cs9.1 = cs1.1) (cs1 : CS) (u0 : Nat) (u1 : Nat) (u2 : Nat) (u3 : Int32) (cs9 : CS) (h : c_X0_checkGroups_b205 F rc152 cs1 u0 u1 u2 u3 = some cs9) : cs9.1 = cs1.1 := by
  unfold c_X0_checkGroups_b205 at h
  have hq : cs1.1 = cs1.1 := rfl
  obtain k9 := hrc152 cs1 u0 u1 u2 (u3 + 1) cs9 h
  exact k9.trans hq
theorem mo_c_X0_checkGroups_L152 (F : Nat) : ∀ (lf_152 : Nat) (cs1 : CS) (u0 : Nat) (u1 : Nat) (u2 : Nat) (u3 : Int32) (cs9 : CS), c_X0_checkGroups_L152 F lf_152 cs1 u0 u1 u2 u3 = some cs9 → cs9.1 = cs1.1 := by
  intro lf_152
  induction lf_152 with
  | zero => intro cs1 u0 u1 u2 u3 cs9 h; cases (show (none : Option CS) = _ from h)
  | succ lf_152 ih_152 =>
    intro cs1 u0 u1 u2 u3 cs9 h
    rw [c_X0_checkGroups_L152] at h
    have hq : cs1.1 = cs1.1 := rfl
    replace h := ob h; obtain ⟨v_1, hv_1, h⟩ := h
    by_cases c_2 : v_1 ≤ u3
    · skip
      replace h := (if_pos c_2).symm.trans h
      obtain k9 := mo_c_X0_checkGroups_b211 F cs1 cs9 h
      exact k9.trans hq
    · skip
      replace h := (if_neg c_2).symm.trans h
      replace h := ob h; obtain ⟨v_3, hv_3, h⟩ := h
      replace h := ob h; obtain ⟨v_4, hv_4, h⟩ := h
      by_cases c_5 : v_4 ≤ u3
      · skip
        replace h := (if_pos c_5).symm.trans h
        obtain k9 := mo_c_X0_checkGroups_b211 F cs1 cs9 h
        exact k9.trans hq
      · skip
        replace h := (if_neg c_5).symm.trans h
        replace h := ob h; obtain ⟨v_6, hv_6, h⟩ := h
        replace h := ob h; obtain ⟨v_7, hv_7, h⟩ := h
        replace h := ob h; obtain ⟨v_8, hv_8, h⟩ := h
        replace h := ob h; obtain ⟨i_10, hi_10, h⟩ := h
        subst hi_10
        replace h := ob h; obtain ⟨w_11, hw_11, h⟩ := h
        replace h := ob h; obtain ⟨v_9, hv_9, h⟩ := h
        by_cases c_12 : v_9 = 0
        · skip
          replace h := (if_pos c_12).symm.trans h
          obtain k9 := mo_c_X0_checkGroups_b205 F (c_X0_checkGroups_L152 F lf_152) ih_152 cs1 u0 u1 u2 u3 cs9 h
          exact k9.trans hq
        · skip
          replace h := (if_neg c_12).symm.trans h
          replace h := ob h; obtain ⟨v_13, hv_13, h⟩ := h
          replace h := ob h; obtain ⟨i_14, hi_14, h⟩ := h
          subst hi_14
          replace h := ob h; obtain ⟨v_15, hv_15, h⟩ := h
          replace h := ob h; obtain ⟨v_16, hv_16, h⟩ := h
          replace h := ob h; obtain ⟨v_17, hv_17, h⟩ := h
          replace h := ob h; obtain ⟨v_18, hv_18, h⟩ := h
          replace h := ob h; obtain ⟨cs_19, hv_19, h⟩ := h
          replace hq := (wA_1 hv_19).trans hq
          obtain k9 := mo_c_X0_checkGroups_b205 F (c_X0_checkGroups_L152 F lf_152) ih_152 cs_19 u0 u1 u2 u3 cs9 h
          exact k9.trans hq
theorem mo_c_X0_checkGroups_b150 (F : Nat) (cs1 : CS) (u0 : Nat) (u1 : Nat) (u2 : Nat) (cs9 : CS) (h : c_X0_checkGroups_b150 F cs1 u0 u1 u2 = some cs9) : cs9.1 = cs1.1 := by
  unfold c_X0_checkGroups_b150 at h
  have hq : cs1.1 = cs1.1 := rfl
  obtain k9 := mo_c_X0_checkGroups_L152 F F cs1 u0 u1 u2 0 cs9 h
  exact k9.trans hq
theorem mo_c_X0_checkGroups_b144 (F : Nat) (rc74 : CS → Nat → Nat → Option Nat → Int32 → Option CS) (hrc74 : ∀ (cs1 : CS) (u0 : Nat) (u1 : Nat) (u2 : Option Nat) (u3 : Int32) (cs9 : CS), rc74 cs1 u0 u1 u2 u3 = some cs9 → cs9.1 = cs1.1) (cs1 : CS) (u0 : Nat) (u1 : Nat) (u2 : Nat) (u3 : Int32) (cs9 : CS) (h : c_X0_checkGroups_b144 F rc74 cs1 u0 u1 u2 u3 = some cs9) : cs9.1 = cs1.1 := by
  unfold c_X0_checkGroups_b144 at h
  have hq : cs1.1 = cs1.1 := rfl
  obtain k9 := hrc74 cs1 u0 u1 (some u2) (u3 + 1) cs9 h
  exact k9.trans hq
theorem mo_c_X0_checkGroups_L74 (F : Nat) : ∀ (lf_74 : Nat) (cs1 : CS) (u0 : Nat) (u1 : Nat) (u2 : Option Nat) (u3 : Int32) (cs9 : CS), c_X0_checkGroups_L74 F lf_74 cs1 u0 u1 u2 u3 = some cs9 → cs9.1 = cs1.1 := by
  intro lf_74
  induction lf_74 with
  | zero => intro cs1 u0 u1 u2 u3 cs9 h; cases (show (none : Option CS) = _ from h)
  | succ lf_74 ih_74 =>
    intro cs1 u0 u1 u2 u3 cs9 h
    rw [c_X0_checkGroups_L74] at h
    have hq : cs1.1 = cs1.1 := rfl
    replace h := ob h; obtain ⟨i_1, hi_1, h⟩ := h
    subst hi_1
    replace h := ob h; obtain ⟨v_2, hv_2, h⟩ := h
    by_cases c_3 : v_2 ≤ u3
    · skip
      replace h := (if_pos c_3).symm.trans h
      obtain k9 := mo_c_X0_checkGroups_b150 F cs1 u0 u1 i_1 cs9 h
      exact k9.trans hq
    · skip
      replace h := (if_neg c_3).symm.trans h
      replace h := ob h; obtain ⟨w_5, hw_5, h⟩ := h
      replace h := ob h; obtain ⟨v_4, hv_4, h⟩ := h
      by_cases c_6 : v_4 = 0
      · skip
        replace h := (if_pos c_6).symm.trans h
        obtain k9 := mo_c_X0_checkGroups_b150 F cs1 u0 u1 i_1 cs9 h
        exact k9.trans hq
      · skip
        replace h := (if_neg c_6).symm.trans h
        replace h := ob h; obtain ⟨v_7, hv_7, h⟩ := h
        replace h := ob h; obtain ⟨v_8, hv_8, h⟩ := h
        replace h := ob h; obtain ⟨w_10, hw_10, h⟩ := h
        replace h := ob h; obtain ⟨cs_9, hv_9, h⟩ := h
        replace hq := (mo_c_X0_checkExpr F cs1 u0 v_8 cs_9 hv_9).trans hq
        replace h := ob h; obtain ⟨v_11, hv_11, h⟩ := h
        replace h := ob h; obtain ⟨v_12, hv_12, h⟩ := h
        replace h := ob h; obtain ⟨w_14, hw_14, h⟩ := h
        replace h := ob h; obtain ⟨v_13, hv_13, h⟩ := h
        replace h := ob h; obtain ⟨w_16, hw_16, h⟩ := h
        replace h := ob h; obtain ⟨cs_15, hv_15, h⟩ := h
        replace hq := (mo_c_X2_settleType F cs_9 i_1 u3 v_13 cs_15 hv_15).trans hq
        replace h := ob h; obtain ⟨v_17, hv_17, h⟩ := h
        replace h := ob h; obtain ⟨v_18, hv_18, h⟩ := h
        replace h := ob h; obtain ⟨w_20, hw_20, h⟩ := h
        replace h := ob h; obtain ⟨v_19, hv_19, h⟩ := h
        by_cases c_21 : u3 ≤ v_19
        · skip
          replace h := (if_pos c_21).symm.trans h
          obtain k9 := mo_c_X0_checkGroups_b144 F (c_X0_checkGroups_L74 F lf_74) ih_74 cs_15 u0 u1 i_1 u3 cs9 h
          exact k9.trans hq
        · skip
          replace h := (if_neg c_21).symm.trans h
          replace h := ob h; obtain ⟨v_22, hv_22, h⟩ := h
          replace h := ob h; obtain ⟨v_23, hv_23, h⟩ := h
          replace h := ob h; obtain ⟨v_24, hv_24, h⟩ := h
          replace h := ob h; obtain ⟨i_26, hi_26, h⟩ := h
          subst hi_26
          replace h := ob h; obtain ⟨w_27, hw_27, h⟩ := h
          replace h := ob h; obtain ⟨cs_25, hv_25, h⟩ := h
          replace hq := (mo_c_X9_refuse F cs_15 i_26 2 v_24 cs_25 hv_25).trans hq
          obtain k9 := mo_c_X0_checkGroups_b144 F (c_X0_checkGroups_L74 F lf_74) ih_74 cs_25 u0 u1 i_1 u3 cs9 h
          exact k9.trans hq
theorem mo_c_X0_checkGroups_b72 (F : Nat) (cs1 : CS) (u0 : Nat) (u1 : Nat) (u2 : Option Nat) (cs9 : CS) (h : c_X0_checkGroups_b72 F cs1 u0 u1 u2 = some cs9) : cs9.1 = cs1.1 := by
  unfold c_X0_checkGroups_b72 at h
  have hq : cs1.1 = cs1.1 := rfl
  obtain k9 := mo_c_X0_checkGroups_L74 F F cs1 u0 u1 u2 0 cs9 h
  exact k9.trans hq
theorem mo_c_X0_checkGroups (F : Nat) (cs : CS) (x0 : Nat) (x1 : Nat) (cs9 : CS) (h : c_X0_checkGroups F cs x0 x1 = some cs9) : cs9.1 = cs.1 := by
  unfold c_X0_checkGroups at h
  have hq : cs.1 = cs.1 := rfl
  replace h := ob h; obtain ⟨v_1, hv_1, h⟩ := h
  replace h := ob h; obtain ⟨v_2, hv_2, h⟩ := h
  by_cases c_3 : v_2 = 0
  · skip
    replace h := (if_pos c_3).symm.trans h
    replace h := ob h; obtain ⟨v_4, hv_4, h⟩ := h
    by_cases c_5 : v_4 ≤ 0
    · skip
      replace h := (if_pos c_5).symm.trans h
      obtain k9 := mo_c_X0_checkGroups_b72 F cs x0 x1 v_1 cs9 h
      exact k9.trans hq
    · skip
      replace h := (if_neg c_5).symm.trans h
      replace h := ob h; obtain ⟨v_6, hv_6, h⟩ := h
      replace h := ob h; obtain ⟨v_7, hv_7, h⟩ := h
      replace h := ob h; obtain ⟨v_8, hv_8, h⟩ := h
      replace h := ob h; obtain ⟨i_10, hi_10, h⟩ := h
      subst hi_10
      replace h := ob h; obtain ⟨w_11, hw_11, h⟩ := h
      replace h := ob h; obtain ⟨v_9, hv_9, h⟩ := h
      by_cases c_12 : v_9 = 0
      · skip
        replace h := (if_pos c_12).symm.trans h
        obtain k9 := mo_c_X0_checkGroups_b72 F cs x0 x1 v_1 cs9 h
        exact k9.trans hq
      · skip
        replace h := (if_neg c_12).symm.trans h
        replace h := ob h; obtain ⟨v_13, hv_13, h⟩ := h
        replace h := ob h; obtain ⟨v_14, hv_14, h⟩ := h
        replace h := ob h; obtain ⟨i_15, hi_15, h⟩ := h
        subst hi_15
        replace h := ob h; obtain ⟨v_16, hv_16, h⟩ := h
        replace h := ob h; obtain ⟨v_17, hv_17, h⟩ := h
        replace h := ob h; obtain ⟨v_18, hv_18, h⟩ := h
        replace h := ob h; obtain ⟨v_19, hv_19, h⟩ := h
        replace h := ob h; obtain ⟨w_21, hw_21, h⟩ := h
        replace h := ob h; obtain ⟨cs_20, hv_20, h⟩ := h
        replace hq := (mo_c_X0_checkBound F cs x0 v_13 v_19 cs_20 hv_20).trans hq
        obtain k9 := mo_c_X0_checkGroups_b72 F cs_20 x0 x1 v_1 cs9 h
        exact k9.trans hq
  · skip
    replace h := (if_neg c_3).symm.trans h
    replace h := ob h; obtain ⟨v_22, hv_22, h⟩ := h
    replace h := ob h; obtain ⟨v_23, hv_23, h⟩ := h
    replace h := ob h; obtain ⟨w_25, hw_25, h⟩ := h
    replace h := ob h; obtain ⟨cs_24, hv_24, h⟩ := h
    replace hq := (mo_c_X0_checkBound F cs x0 v_22 v_23 cs_24 hv_24).trans hq
    obtain k9 := mo_c_X0_checkGroups_b72 F cs_24 x0 x1 v_1 cs9 h
    exact k9.trans hq
theorem mo_c_X0_checkColumns_b49 (F : Nat) (cs1 : CS) (cs9 : CS) (h : c_X0_checkColumns_b49 F cs1 = some cs9) : cs9.1 = cs1.1 := by
  unfold c_X0_checkColumns_b49 at h
  have hq : cs1.1 = cs1.1 := rfl
  have h9 := Option.some.inj h
  exact (congrArg (fun z => z.1) h9).symm.trans hq
theorem mo_c_X0_checkColumns_L2 (F : Nat) : ∀ (lf_2 : Nat) (cs1 : CS) (u0 : Nat) (u1 : Nat) (u2 : Int32) (cs9 : CS), c_X0_checkColumns_L2 F lf_2 cs1 u0 u1 u2 = some cs9 → cs9.1 = cs1.1 := by
  intro lf_2
  induction lf_2 with
  | zero => intro cs1 u0 u1 u2 cs9 h; cases (show (none : Option CS) = _ from h)
  | succ lf_2 ih_2 =>
    intro cs1 u0 u1 u2 cs9 h
    rw [c_X0_checkColumns_L2] at h
    have hq : cs1.1 = cs1.1 := rfl
    replace h := ob h; obtain ⟨v_1, hv_1, h⟩ := h
    by_cases c_2 : v_1 ≤ u2
    · skip
      replace h := (if_pos c_2).symm.trans h
      obtain k9 := mo_c_X0_checkColumns_b49 F cs1 cs9 h
      exact k9.trans hq
    · skip
      replace h := (if_neg c_2).symm.trans h
      replace h := ob h; obtain ⟨w_4, hw_4, h⟩ := h
      replace h := ob h; obtain ⟨v_3, hv_3, h⟩ := h
      by_cases c_5 : v_3 = 0
      · skip
        replace h := (if_pos c_5).symm.trans h
        obtain k9 := mo_c_X0_checkColumns_b49 F cs1 cs9 h
        exact k9.trans hq
      · skip
        replace h := (if_neg c_5).symm.trans h
        replace h := ob h; obtain ⟨v_6, hv_6, h⟩ := h
        replace h := ob h; obtain ⟨v_7, hv_7, h⟩ := h
        replace h := ob h; obtain ⟨w_9, hw_9, h⟩ := h
        replace h := ob h; obtain ⟨cs_8, hv_8, h⟩ := h
        replace hq := (mo_c_X0_checkExpr F cs1 u0 v_7 cs_8 hv_8).trans hq
        replace h := ob h; obtain ⟨v_10, hv_10, h⟩ := h
        replace h := ob h; obtain ⟨v_11, hv_11, h⟩ := h
        replace h := ob h; obtain ⟨w_13, hw_13, h⟩ := h
        replace h := ob h; obtain ⟨v_12, hv_12, h⟩ := h
        replace h := ob h; obtain ⟨w_15, hw_15, h⟩ := h
        replace h := ob h; obtain ⟨cs_14, hv_14, h⟩ := h
        replace hq := (mo_c_X2_settleType F cs_8 u1 u2 v_12 cs_14 hv_14).trans hq
        obtain k9 := ih_2 cs_14 u0 u1 (u2 + 1) cs9 h
        exact k9.trans hq
theorem mo_c_X0_checkColumns (F : Nat) (cs : CS) (x0 : Nat) (x1 : Nat) (cs9 : CS) (h : c_X0_checkColumns F cs x0 x1 = some cs9) : cs9.1 = cs.1 := by
  unfold c_X0_checkColumns at h
  have hq : cs.1 = cs.1 := rfl
  obtain k9 := mo_c_X0_checkColumns_L2 F F cs x0 x1 0 cs9 h
  exact k9.trans hq
theorem mo_c_X0_checkSet_b48 (F : Nat) (cs1 : CS) (cs9 : CS) (h : c_X0_checkSet_b48 F cs1 = some cs9) : cs9.1 = cs1.1 := by
  unfold c_X0_checkSet_b48 at h
  have hq : cs1.1 = cs1.1 := rfl
  have h9 := Option.some.inj h
  exact (congrArg (fun z => z.1) h9).symm.trans hq
theorem mo_c_X0_checkSet_b21 (F : Nat) (cs1 : CS) (u0 : Nat) (u1 : Nat) (u2 : Nat) (cs9 : CS) (h : c_X0_checkSet_b21 F cs1 u0 u1 u2 = some cs9) : cs9.1 = cs1.1 := by
  unfold c_X0_checkSet_b21 at h
  have hq : cs1.1 = cs1.1 := rfl
  replace h := ob h; obtain ⟨v_1, hv_1, h⟩ := h
  replace h := ob h; obtain ⟨v_2, hv_2, h⟩ := h
  replace h := ob h; obtain ⟨i_3, hi_3, h⟩ := h
  subst hi_3
  replace h := ob h; obtain ⟨i_5, hi_5, h⟩ := h
  subst hi_5
  replace h := ob h; obtain ⟨w_6, hw_6, h⟩ := h
  replace h := ob h; obtain ⟨v_4, hv_4, h⟩ := h
  by_cases c_7 : v_4 = 0
  · skip
    replace h := (if_pos c_7).symm.trans h
    replace h := ob h; obtain ⟨v_8, hv_8, h⟩ := h
    replace h := ob h; obtain ⟨v_9, hv_9, h⟩ := h
    replace h := ob h; obtain ⟨i_11, hi_11, h⟩ := h
    subst hi_11
    replace h := ob h; obtain ⟨w_12, hw_12, h⟩ := h
    replace h := ob h; obtain ⟨cs_10, hv_10, h⟩ := h
    replace hq := (mo_c_X9_refuse F cs1 i_11 6 v_9 cs_10 hv_10).trans hq
    obtain k9 := mo_c_X0_checkSet_b48 F cs_10 cs9 h
    exact k9.trans hq
  · skip
    replace h := (if_neg c_7).symm.trans h
    obtain k9 := mo_c_X0_checkSet_b48 F cs1 cs9 h
    exact k9.trans hq
theorem mo_c_X0_checkSet (F : Nat) (cs : CS) (x0 : Nat) (x1 : Nat) (x2 : Nat) (cs9 : CS) (h : c_X0_checkSet F cs x0 x1 x2 = some cs9) : cs9.1 = cs.1 := by
  unfold c_X0_checkSet at h
  have hq : cs.1 = cs.1 := rfl
  replace h := ob h; obtain ⟨v_1, hv_1, h⟩ := h
  by_cases c_2 : v_1 = 11
  · skip
    replace h := (if_pos c_2).symm.trans h
    obtain k9 := mo_c_X0_checkSet_b21 F cs x0 x1 x2 cs9 h
    exact k9.trans hq
  · skip
    replace h := (if_neg c_2).symm.trans h
    replace h := ob h; obtain ⟨v_3, hv_3, h⟩ := h
    replace h := ob h; obtain ⟨v_4, hv_4, h⟩ := h
    replace h := ob h; obtain ⟨w_6, hw_6, h⟩ := h
    replace h := ob h; obtain ⟨cs_5, hv_5, h⟩ := h
    replace hq := (mo_c_X0_checkBound F cs x0 v_3 v_4 cs_5 hv_5).trans hq
    obtain k9 := mo_c_X0_checkSet_b21 F cs_5 x0 x1 x2 cs9 h
    exact k9.trans hq
theorem mo_c_X0_checkOrder (F : Nat) (cs : CS) (x0 : Nat) (x1 : Nat) (x2 : Nat) (cs9 : CS) (h : c_X0_checkOrder F cs x0 x1 x2 = some cs9) : cs9.1 = cs.1 := by
  unfold c_X0_checkOrder at h
  have hq : cs.1 = cs.1 := rfl
  replace h := ob h; obtain ⟨v_1, hv_1, h⟩ := h
  replace h := ob h; obtain ⟨v_2, hv_2, h⟩ := h
  replace h := ob h; obtain ⟨w_4, hw_4, h⟩ := h
  replace h := ob h; obtain ⟨cs_3, hv_3, h⟩ := h
  replace hq := (mo_c_X0_checkBound F cs x0 v_1 v_2 cs_3 hv_3).trans hq
  replace h := ob h; obtain ⟨v_5, hv_5, h⟩ := h
  replace h := ob h; obtain ⟨cs_6, hv_6, h⟩ := h
  replace hq := (pR_1 hv_6).trans hq
  replace h := ob h; obtain ⟨w_8, hw_8, h⟩ := h
  replace h := ob h; obtain ⟨cs_7, hv_7, h⟩ := h
  replace hq := (mo_c_X0_checkColumns F cs_6 x0 x2 cs_7 hv_7).trans hq
  have h9 := Option.some.inj h
  exact (congrArg (fun z => z.1) h9).symm.trans hq
theorem mo_c_X0_checkQuery_b99 (F : Nat) (T : TC_X0_checkQuery) (hM_X0_checkQuery : ∀ (cs : CS) (x0 : Nat) (x1 : Nat) (cs9 : CS), T.1 cs x0 x1 = some cs9 → cs9.1 = cs.1) (hM_X0_checkSelect : ∀ (cs : CS) (x0 : Nat) (x1 : Nat) (cs9 : CS), T.2.1 cs x0 x1 = some cs9 → cs9.1 = cs.1) (hM_X0_checkSource : ∀ (cs : CS) (x0 : Nat) (x1 : Nat) (x2 : Int32) (cs9 : CS), T.2.2.1 cs x0 x1 x2 = some cs9 → cs9.1 = cs.1) (hM_X0_checkInner : ∀ (cs : CS) (x0 : Nat) (x1 : Nat) (x2 : Nat) (cs9 : CS), T.2.2.2 cs x0 x1 x2 = some cs9 → cs9.1 = cs.1) (cs1 : CS) (cs9 : CS) (h : c_X0_checkQuery_b99 F T cs1 = some cs9) : cs9.1 = cs1.1 := by
  unfold c_X0_checkQuery_b99 at h
  have hq : cs1.1 = cs1.1 := rfl
  have h9 := Option.some.inj h
  exact (congrArg (fun z => z.1) h9).symm.trans hq
theorem mo_c_X0_checkQuery_b76 (F : Nat) (T : TC_X0_checkQuery) (hM_X0_checkQuery : ∀ (cs : CS) (x0 : Nat) (x1 : Nat) (cs9 : CS), T.1 cs x0 x1 = some cs9 → cs9.1 = cs.1) (hM_X0_checkSelect : ∀ (cs : CS) (x0 : Nat) (x1 : Nat) (cs9 : CS), T.2.1 cs x0 x1 = some cs9 → cs9.1 = cs.1) (hM_X0_checkSource : ∀ (cs : CS) (x0 : Nat) (x1 : Nat) (x2 : Int32) (cs9 : CS), T.2.2.1 cs x0 x1 x2 = some cs9 → cs9.1 = cs.1) (hM_X0_checkInner : ∀ (cs : CS) (x0 : Nat) (x1 : Nat) (x2 : Nat) (cs9 : CS), T.2.2.2 cs x0 x1 x2 = some cs9 → cs9.1 = cs.1) (cs1 : CS) (u0 : Nat) (u1 : Nat) (cs9 : CS) (h : c_X0_checkQuery_b76 F T cs1 u0 u1 = some cs9) : cs9.1 = cs1.1 := by
  unfold c_X0_checkQuery_b76 at h
  have hq : cs1.1 = cs1.1 := rfl
  replace h := ob h; obtain ⟨v_1, hv_1, h⟩ := h
  cases v_1 with
  | none =>
    replace h := oc_n.symm.trans h
    obtain k9 := mo_c_X0_checkQuery_b99 F T hM_X0_checkQuery hM_X0_checkSelect hM_X0_checkSource hM_X0_checkInner cs1 cs9 h
    exact k9.trans hq
  | some i_2 =>
    replace h := oc_s.symm.trans h
    replace h := ob h; obtain ⟨w_4, hw_4, h⟩ := h
    replace h := ob h; obtain ⟨v_3, hv_3, h⟩ := h
    by_cases c_5 : v_3 = 0
    · skip
      replace h := (if_pos c_5).symm.trans h
      replace h := ob h; obtain ⟨v_6, hv_6, h⟩ := h
      replace h := ob h; obtain ⟨i_7, hi_7, h⟩ := h
      subst hi_7
      replace h := ob h; obtain ⟨w_9, hw_9, h⟩ := h
      replace h := ob h; obtain ⟨cs_8, hv_8, h⟩ := h
      replace hq := (mo_c_X0_checkOrder F cs1 u0 u1 i_7 cs_8 hv_8).trans hq
      obtain k9 := mo_c_X0_checkQuery_b99 F T hM_X0_checkQuery hM_X0_checkSelect hM_X0_checkSource hM_X0_checkInner cs_8 cs9 h
      exact k9.trans hq
    · skip
      replace h := (if_neg c_5).symm.trans h
      obtain k9 := mo_c_X0_checkQuery_b99 F T hM_X0_checkQuery hM_X0_checkSelect hM_X0_checkSource hM_X0_checkInner cs1 cs9 h
      exact k9.trans hq
theorem mo_c_X0_checkQuery_b70 (F : Nat) (T : TC_X0_checkQuery) (hM_X0_checkQuery : ∀ (cs : CS) (x0 : Nat) (x1 : Nat) (cs9 : CS), T.1 cs x0 x1 = some cs9 → cs9.1 = cs.1) (hM_X0_checkSelect : ∀ (cs : CS) (x0 : Nat) (x1 : Nat) (cs9 : CS), T.2.1 cs x0 x1 = some cs9 → cs9.1 = cs.1) (hM_X0_checkSource : ∀ (cs : CS) (x0 : Nat) (x1 : Nat) (x2 : Int32) (cs9 : CS), T.2.2.1 cs x0 x1 x2 = some cs9 → cs9.1 = cs.1) (hM_X0_checkInner : ∀ (cs : CS) (x0 : Nat) (x1 : Nat) (x2 : Nat) (cs9 : CS), T.2.2.2 cs x0 x1 x2 = some cs9 → cs9.1 = cs.1) (rc2 : CS → Nat → Nat → Int32 → Option CS) (hrc2 : ∀ (cs1 : CS) (u0 : Nat) (u1 : Nat) (u2 : Int32) (cs9 : CS), rc2 cs1 u0 u1 u2 = some cs9 → cs9.1 = cs1.1) (cs1 : CS) (u0 : Nat) (u1 : Nat) (u2 : Int32) (cs9 : CS) (h : c_X0_checkQuery_b70 F T rc2 cs1 u0 u1 u2 = some cs9) : cs9.1 = cs1.1 := by
  unfold c_X0_checkQuery_b70 at h
  have hq : cs1.1 = cs1.1 := rfl
  obtain k9 := hrc2 cs1 u0 u1 (u2 + 1) cs9 h
  exact k9.trans hq
theorem mo_c_X0_checkQuery_b57 (F : Nat) (T : TC_X0_checkQuery) (hM_X0_checkQuery : ∀ (cs : CS) (x0 : Nat) (x1 : Nat) (cs9 : CS), T.1 cs x0 x1 = some cs9 → cs9.1 = cs.1) (hM_X0_checkSelect : ∀ (cs : CS) (x0 : Nat) (x1 : Nat) (cs9 : CS), T.2.1 cs x0 x1 = some cs9 → cs9.1 = cs.1) (hM_X0_checkSource : ∀ (cs : CS) (x0 : Nat) (x1 : Nat) (x2 : Int32) (cs9 : CS), T.2.2.1 cs x0 x1 x2 = some cs9 → cs9.1 = cs.1) (hM_X0_checkInner : ∀ (cs : CS) (x0 : Nat) (x1 : Nat) (x2 : Nat) (cs9 : CS), T.2.2.2 cs x0 x1 x2 = some cs9 → cs9.1 = cs.1) (rc2 : CS → Nat → Nat → Int32 → Option CS) (hrc2 : ∀ (cs1 : CS) (u0 : Nat) (u1 : Nat) (u2 : Int32) (cs9 : CS), rc2 cs1 u0 u1 u2 = some cs9 → cs9.1 = cs1.1) (cs1 : CS) (u0 : Nat) (u1 : Nat) (u2 : Int32) (u3 : Nat) (y0 : Int32) (y1 : Nat) (cs9 : CS) (h : c_X0_checkQuery_b57 F T rc2 cs1 u0 u1 u2 u3 y0 y1 = some cs9) : cs9.1 = cs1.1 := by
  unfold c_X0_checkQuery_b57 at h
  have hq : cs1.1 = cs1.1 := rfl
  replace h := ob h; obtain ⟨w_2, hw_2, h⟩ := h
  replace h := ob h; obtain ⟨cs_1, hv_1, h⟩ := h
  replace hq := (pI_1 hv_1).trans hq
  by_cases c_3 : u2 ≤ 0
  · skip
    replace h := (if_pos c_3).symm.trans h
    obtain k9 := mo_c_X0_checkQuery_b70 F T hM_X0_checkQuery hM_X0_checkSelect hM_X0_checkSource hM_X0_checkInner rc2 hrc2 cs_1 u0 u1 u2 cs9 h
    exact k9.trans hq
  · skip
    replace h := (if_neg c_3).symm.trans h
    replace h := ob h; obtain ⟨w_5, hw_5, h⟩ := h
    replace h := ob h; obtain ⟨cs_4, hv_4, h⟩ := h
    replace hq := (mo_c_X0_checkSet F cs_1 u0 u1 u3 cs_4 hv_4).trans hq
    obtain k9 := mo_c_X0_checkQuery_b70 F T hM_X0_checkQuery hM_X0_checkSelect hM_X0_checkSource hM_X0_checkInner rc2 hrc2 cs_4 u0 u1 u2 cs9 h
    exact k9.trans hq
theorem mo_c_X0_checkQuery_b52 (F : Nat) (T : TC_X0_checkQuery) (hM_X0_checkQuery : ∀ (cs : CS) (x0 : Nat) (x1 : Nat) (cs9 : CS), T.1 cs x0 x1 = some cs9 → cs9.1 = cs.1) (hM_X0_checkSelect : ∀ (cs : CS) (x0 : Nat) (x1 : Nat) (cs9 : CS), T.2.1 cs x0 x1 = some cs9 → cs9.1 = cs.1) (hM_X0_checkSource : ∀ (cs : CS) (x0 : Nat) (x1 : Nat) (x2 : Int32) (cs9 : CS), T.2.2.1 cs x0 x1 x2 = some cs9 → cs9.1 = cs.1) (hM_X0_checkInner : ∀ (cs : CS) (x0 : Nat) (x1 : Nat) (x2 : Nat) (cs9 : CS), T.2.2.2 cs x0 x1 x2 = some cs9 → cs9.1 = cs.1) (rc2 : CS → Nat → Nat → Int32 → Option CS) (hrc2 : ∀ (cs1 : CS) (u0 : Nat) (u1 : Nat) (u2 : Int32) (cs9 : CS), rc2 cs1 u0 u1 u2 = some cs9 → cs9.1 = cs1.1) (cs1 : CS) (u0 : Nat) (u1 : Nat) (u2 : Int32) (u3 : Nat) (y0 : Nat) (cs9 : CS) (h : c_X0_checkQuery_b52 F T rc2 cs1 u0 u1 u2 u3 y0 = some cs9) : cs9.1 = cs1.1 := by
  unfold c_X0_checkQuery_b52 at h
  have hq : cs1.1 = cs1.1 := rfl
  obtain k9 := mo_c_X0_checkQuery_b57 F T hM_X0_checkQuery hM_X0_checkSelect hM_X0_checkSource hM_X0_checkInner rc2 hrc2 cs1 u0 u1 u2 u3 1 y0 cs9 h
  exact k9.trans hq
theorem mo_c_X0_checkQuery_L2 (F : Nat) (T : TC_X0_checkQuery) (hM_X0_checkQuery : ∀ (cs : CS) (x0 : Nat) (x1 : Nat) (cs9 : CS), T.1 cs x0 x1 = some cs9 → cs9.1 = cs.1) (hM_X0_checkSelect : ∀ (cs : CS) (x0 : Nat) (x1 : Nat) (cs9 : CS), T.2.1 cs x0 x1 = some cs9 → cs9.1 = cs.1) (hM_X0_checkSource : ∀ (cs : CS) (x0 : Nat) (x1 : Nat) (x2 : Int32) (cs9 : CS), T.2.2.1 cs x0 x1 x2 = some cs9 → cs9.1 = cs.1) (hM_X0_checkInner : ∀ (cs : CS) (x0 : Nat) (x1 : Nat) (x2 : Nat) (cs9 : CS), T.2.2.2 cs x0 x1 x2 = some cs9 → cs9.1 = cs.1) : ∀ (lf_2 : Nat) (cs1 : CS) (u0 : Nat) (u1 : Nat) (u2 : Int32) (cs9 : CS), c_X0_checkQuery_L2 F T lf_2 cs1 u0 u1 u2 = some cs9 → cs9.1 = cs1.1 := by
  intro lf_2
  induction lf_2 with
  | zero => intro cs1 u0 u1 u2 cs9 h; cases (show (none : Option CS) = _ from h)
  | succ lf_2 ih_2 =>
    intro cs1 u0 u1 u2 cs9 h
    rw [c_X0_checkQuery_L2] at h
    have hq : cs1.1 = cs1.1 := rfl
    replace h := ob h; obtain ⟨v_1, hv_1, h⟩ := h
    replace h := ob h; obtain ⟨i_3, hi_3, h⟩ := h
    subst hi_3
    replace h := ob h; obtain ⟨w_4, hw_4, h⟩ := h
    replace h := ob h; obtain ⟨v_2, hv_2, h⟩ := h
    by_cases c_5 : v_2 ≤ u2
    · skip
      replace h := (if_pos c_5).symm.trans h
      obtain k9 := mo_c_X0_checkQuery_b76 F T hM_X0_checkQuery hM_X0_checkSelect hM_X0_checkSource hM_X0_checkInner cs1 u0 u1 cs9 h
      exact k9.trans hq
    · skip
      replace h := (if_neg c_5).symm.trans h
      replace h := ob h; obtain ⟨w_7, hw_7, h⟩ := h
      replace h := ob h; obtain ⟨v_6, hv_6, h⟩ := h
      by_cases c_8 : v_6 = 0
      · skip
        replace h := (if_pos c_8).symm.trans h
        replace h := ob h; obtain ⟨v_9, hv_9, h⟩ := h
        replace h := ob h; obtain ⟨i_11, hi_11, h⟩ := h
        subst hi_11
        replace h := ob h; obtain ⟨w_12, hw_12, h⟩ := h
        replace h := ob h; obtain ⟨v_10, hv_10, h⟩ := h
        replace h := ob h; obtain ⟨w_13, hw_13, h⟩ := h
        replace h := ob h; obtain ⟨w_15, hw_15, h⟩ := h
        replace h := ob h; obtain ⟨cs_14, hv_14, h⟩ := h
        replace hq := (hM_X0_checkSelect cs1 u0 v_10 cs_14 hv_14).trans hq
        replace h := ob h; obtain ⟨v_16, hv_16, h⟩ := h
        by_cases c_17 : v_16 = 0
        · skip
          replace h := (if_pos c_17).symm.trans h
          replace h := ob h; obtain ⟨v_18, hv_18, h⟩ := h
          by_cases c_19 : v_18 = 0
          · skip
            replace h := (if_pos c_19).symm.trans h
            obtain k9 := mo_c_X0_checkQuery_b57 F T hM_X0_checkQuery hM_X0_checkSelect hM_X0_checkSource hM_X0_checkInner (c_X0_checkQuery_L2 F T lf_2) ih_2 cs_14 u0 u1 u2 v_10 0 u1 cs9 h
            exact k9.trans hq
          · skip
            replace h := (if_neg c_19).symm.trans h
            obtain k9 := mo_c_X0_checkQuery_b52 F T hM_X0_checkQuery hM_X0_checkSelect hM_X0_checkSource hM_X0_checkInner (c_X0_checkQuery_L2 F T lf_2) ih_2 cs_14 u0 u1 u2 v_10 u1 cs9 h
            exact k9.trans hq
        · skip
          replace h := (if_neg c_17).symm.trans h
          obtain k9 := mo_c_X0_checkQuery_b52 F T hM_X0_checkQuery hM_X0_checkSelect hM_X0_checkSource hM_X0_checkInner (c_X0_checkQuery_L2 F T lf_2) ih_2 cs_14 u0 u1 u2 v_10 u1 cs9 h
          exact k9.trans hq
      · skip
        replace h := (if_neg c_8).symm.trans h
        obtain k9 := mo_c_X0_checkQuery_b76 F T hM_X0_checkQuery hM_X0_checkSelect hM_X0_checkSource hM_X0_checkInner cs1 u0 u1 cs9 h
        exact k9.trans hq
theorem mo_cb_X0_checkQuery (F : Nat) (T : TC_X0_checkQuery) (hM_X0_checkQuery : ∀ (cs : CS) (x0 : Nat) (x1 : Nat) (cs9 : CS), T.1 cs x0 x1 = some cs9 → cs9.1 = cs.1) (hM_X0_checkSelect : ∀ (cs : CS) (x0 : Nat) (x1 : Nat) (cs9 : CS), T.2.1 cs x0 x1 = some cs9 → cs9.1 = cs.1) (hM_X0_checkSource : ∀ (cs : CS) (x0 : Nat) (x1 : Nat) (x2 : Int32) (cs9 : CS), T.2.2.1 cs x0 x1 x2 = some cs9 → cs9.1 = cs.1) (hM_X0_checkInner : ∀ (cs : CS) (x0 : Nat) (x1 : Nat) (x2 : Nat) (cs9 : CS), T.2.2.2 cs x0 x1 x2 = some cs9 → cs9.1 = cs.1) (cs : CS) (x0 : Nat) (x1 : Nat) (cs9 : CS) (h : cb_X0_checkQuery F T cs x0 x1 = some cs9) : cs9.1 = cs.1 := by
  unfold cb_X0_checkQuery at h
  have hq : cs.1 = cs.1 := rfl
  obtain k9 := mo_c_X0_checkQuery_L2 F T hM_X0_checkQuery hM_X0_checkSelect hM_X0_checkSource hM_X0_checkInner F cs x0 x1 0 cs9 h
  exact k9.trans hq
theorem mo_c_X0_checkSelect_b119 (F : Nat) (T : TC_X0_checkQuery) (hM_X0_checkQuery : ∀ (cs : CS) (x0 : Nat) (x1 : Nat) (cs9 : CS), T.1 cs x0 x1 = some cs9 → cs9.1 = cs.1) (hM_X0_checkSelect : ∀ (cs : CS) (x0 : Nat) (x1 : Nat) (cs9 : CS), T.2.1 cs x0 x1 = some cs9 → cs9.1 = cs.1) (hM_X0_checkSource : ∀ (cs : CS) (x0 : Nat) (x1 : Nat) (x2 : Int32) (cs9 : CS), T.2.2.1 cs x0 x1 x2 = some cs9 → cs9.1 = cs.1) (hM_X0_checkInner : ∀ (cs : CS) (x0 : Nat) (x1 : Nat) (x2 : Nat) (cs9 : CS), T.2.2.2 cs x0 x1 x2 = some cs9 → cs9.1 = cs.1) (cs1 : CS) (cs9 : CS) (h : c_X0_checkSelect_b119 F T cs1 = some cs9) : cs9.1 = cs1.1 := by
  unfold c_X0_checkSelect_b119 at h
  have hq : cs1.1 = cs1.1 := rfl
  have h9 := Option.some.inj h
  exact (congrArg (fun z => z.1) h9).symm.trans hq
theorem mo_c_X0_checkSelect_b84 (F : Nat) (T : TC_X0_checkQuery) (hM_X0_checkQuery : ∀ (cs : CS) (x0 : Nat) (x1 : Nat) (cs9 : CS), T.1 cs x0 x1 = some cs9 → cs9.1 = cs.1) (hM_X0_checkSelect : ∀ (cs : CS) (x0 : Nat) (x1 : Nat) (cs9 : CS), T.2.1 cs x0 x1 = some cs9 → cs9.1 = cs.1) (hM_X0_checkSource : ∀ (cs : CS) (x0 : Nat) (x1 : Nat) (x2 : Int32) (cs9 : CS), T.2.2.1 cs x0 x1 x2 = some cs9 → cs9.1 = cs.1) (hM_X0_checkInner : ∀ (cs : CS) (x0 : Nat) (x1 : Nat) (x2 : Nat) (cs9 : CS), T.2.2.2 cs x0 x1 x2 = some cs9 → cs9.1 = cs.1) (cs1 : CS) (u0 : Nat) (u1 : Nat) (cs9 : CS) (h : c_X0_checkSelect_b84 F T cs1 u0 u1 = some cs9) : cs9.1 = cs1.1 := by
  unfold c_X0_checkSelect_b84 at h
  have hq : cs1.1 = cs1.1 := rfl
  replace h := ob h; obtain ⟨v_1, hv_1, h⟩ := h
  replace h := ob h; obtain ⟨w_3, hw_3, h⟩ := h
  replace h := ob h; obtain ⟨cs_2, hv_2, h⟩ := h
  replace hq := (mo_c_X0_checkTruth F cs1 u0 v_1 cs_2 hv_2).trans hq
  replace h := ob h; obtain ⟨v_4, hv_4, h⟩ := h
  replace h := ob h; obtain ⟨i_5, hi_5, h⟩ := h
  subst hi_5
  replace h := ob h; obtain ⟨w_7, hw_7, h⟩ := h
  replace h := ob h; obtain ⟨cs_6, hv_6, h⟩ := h
  replace hq := (mo_c_X0_checkColumns F cs_2 u0 i_5 cs_6 hv_6).trans hq
  replace h := ob h; obtain ⟨v_8, hv_8, h⟩ := h
  by_cases c_9 : v_8 = 0
  · skip
    replace h := (if_pos c_9).symm.trans h
    obtain k9 := mo_c_X0_checkSelect_b119 F T hM_X0_checkQuery hM_X0_checkSelect hM_X0_checkSource hM_X0_checkInner cs_6 cs9 h
    exact k9.trans hq
  · skip
    replace h := (if_neg c_9).symm.trans h
    replace h := ob h; obtain ⟨v_10, hv_10, h⟩ := h
    replace h := ob h; obtain ⟨v_11, hv_11, h⟩ := h
    replace h := ob h; obtain ⟨w_13, hw_13, h⟩ := h
    replace h := ob h; obtain ⟨cs_12, hv_12, h⟩ := h
    replace hq := (mo_c_X0_checkBound F cs_6 u0 v_10 v_11 cs_12 hv_12).trans hq
    obtain k9 := mo_c_X0_checkSelect_b119 F T hM_X0_checkQuery hM_X0_checkSelect hM_X0_checkSource hM_X0_checkInner cs_12 cs9 h
    exact k9.trans hq
theorem mo_c_X0_checkSelect_b38 (F : Nat) (T : TC_X0_checkQuery) (hM_X0_checkQuery : ∀ (cs : CS) (x0 : Nat) (x1 : Nat) (cs9 : CS), T.1 cs x0 x1 = some cs9 → cs9.1 = cs.1) (hM_X0_checkSelect : ∀ (cs : CS) (x0 : Nat) (x1 : Nat) (cs9 : CS), T.2.1 cs x0 x1 = some cs9 → cs9.1 = cs.1) (hM_X0_checkSource : ∀ (cs : CS) (x0 : Nat) (x1 : Nat) (x2 : Int32) (cs9 : CS), T.2.2.1 cs x0 x1 x2 = some cs9 → cs9.1 = cs.1) (hM_X0_checkInner : ∀ (cs : CS) (x0 : Nat) (x1 : Nat) (x2 : Nat) (cs9 : CS), T.2.2.2 cs x0 x1 x2 = some cs9 → cs9.1 = cs.1) (cs1 : CS) (u0 : Nat) (u1 : Nat) (cs9 : CS) (h : c_X0_checkSelect_b38 F T cs1 u0 u1 = some cs9) : cs9.1 = cs1.1 := by
  unfold c_X0_checkSelect_b38 at h
  have hq : cs1.1 = cs1.1 := rfl
  replace h := ob h; obtain ⟨cs_1, hv_1, h⟩ := h
  replace hq := (pR_1 hv_1).trans hq
  replace h := ob h; obtain ⟨v_2, hv_2, h⟩ := h
  replace h := ob h; obtain ⟨cs_3, hv_3, h⟩ := h
  replace hq := (pI_1 hv_3).trans hq
  replace h := ob h; obtain ⟨cs_4, hv_4, h⟩ := h
  replace hq := (pR_1 hv_4).trans hq
  replace h := ob h; obtain ⟨v_5, hv_5, h⟩ := h
  replace h := ob h; obtain ⟨w_7, hw_7, h⟩ := h
  replace h := ob h; obtain ⟨cs_6, hv_6, h⟩ := h
  replace hq := (mo_c_X0_checkTruth F cs_4 u0 v_5 cs_6 hv_6).trans hq
  replace h := ob h; obtain ⟨w_9, hw_9, h⟩ := h
  replace h := ob h; obtain ⟨cs_8, hv_8, h⟩ := h
  replace hq := (mo_c_X0_checkGroups F cs_6 u0 u1 cs_8 hv_8).trans hq
  replace h := ob h; obtain ⟨w_11, hw_11, h⟩ := h
  replace h := ob h; obtain ⟨v_10, hv_10, h⟩ := h
  by_cases c_12 : v_10 = 0
  · skip
    replace h := (if_pos c_12).symm.trans h
    obtain k9 := mo_c_X0_checkSelect_b84 F T hM_X0_checkQuery hM_X0_checkSelect hM_X0_checkSource hM_X0_checkInner cs_8 u0 u1 cs9 h
    exact k9.trans hq
  · skip
    replace h := (if_neg c_12).symm.trans h
    replace h := ob h; obtain ⟨v_13, hv_13, h⟩ := h
    replace h := ob h; obtain ⟨cs_14, hv_14, h⟩ := h
    replace hq := (pR_1 hv_14).trans hq
    obtain k9 := mo_c_X0_checkSelect_b84 F T hM_X0_checkQuery hM_X0_checkSelect hM_X0_checkSource hM_X0_checkInner cs_14 u0 u1 cs9 h
    exact k9.trans hq
theorem mo_c_X0_checkSelect_L2 (F : Nat) (T : TC_X0_checkQuery) (hM_X0_checkQuery : ∀ (cs : CS) (x0 : Nat) (x1 : Nat) (cs9 : CS), T.1 cs x0 x1 = some cs9 → cs9.1 = cs.1) (hM_X0_checkSelect : ∀ (cs : CS) (x0 : Nat) (x1 : Nat) (cs9 : CS), T.2.1 cs x0 x1 = some cs9 → cs9.1 = cs.1) (hM_X0_checkSource : ∀ (cs : CS) (x0 : Nat) (x1 : Nat) (x2 : Int32) (cs9 : CS), T.2.2.1 cs x0 x1 x2 = some cs9 → cs9.1 = cs.1) (hM_X0_checkInner : ∀ (cs : CS) (x0 : Nat) (x1 : Nat) (x2 : Nat) (cs9 : CS), T.2.2.2 cs x0 x1 x2 = some cs9 → cs9.1 = cs.1) : ∀ (lf_2 : Nat) (cs1 : CS) (u0 : Nat) (u1 : Nat) (u2 : Int32) (cs9 : CS), c_X0_checkSelect_L2 F T lf_2 cs1 u0 u1 u2 = some cs9 → cs9.1 = cs1.1 := by
  intro lf_2
  induction lf_2 with
  | zero => intro cs1 u0 u1 u2 cs9 h; cases (show (none : Option CS) = _ from h)
  | succ lf_2 ih_2 =>
    intro cs1 u0 u1 u2 cs9 h
    rw [c_X0_checkSelect_L2] at h
    have hq : cs1.1 = cs1.1 := rfl
    replace h := ob h; obtain ⟨v_1, hv_1, h⟩ := h
    by_cases c_2 : v_1 ≤ u2
    · skip
      replace h := (if_pos c_2).symm.trans h
      obtain k9 := mo_c_X0_checkSelect_b38 F T hM_X0_checkQuery hM_X0_checkSelect hM_X0_checkSource hM_X0_checkInner cs1 u0 u1 cs9 h
      exact k9.trans hq
    · skip
      replace h := (if_neg c_2).symm.trans h
      replace h := ob h; obtain ⟨v_3, hv_3, h⟩ := h
      replace h := ob h; obtain ⟨v_4, hv_4, h⟩ := h
      by_cases c_5 : v_4 ≤ u2
      · skip
        replace h := (if_pos c_5).symm.trans h
        obtain k9 := mo_c_X0_checkSelect_b38 F T hM_X0_checkQuery hM_X0_checkSelect hM_X0_checkSource hM_X0_checkInner cs1 u0 u1 cs9 h
        exact k9.trans hq
      · skip
        replace h := (if_neg c_5).symm.trans h
        replace h := ob h; obtain ⟨w_7, hw_7, h⟩ := h
        replace h := ob h; obtain ⟨v_6, hv_6, h⟩ := h
        by_cases c_8 : v_6 = 0
        · skip
          replace h := (if_pos c_8).symm.trans h
          replace h := ob h; obtain ⟨w_10, hw_10, h⟩ := h
          replace h := ob h; obtain ⟨cs_9, hv_9, h⟩ := h
          replace hq := (hM_X0_checkSource cs1 u0 u1 u2 cs_9 hv_9).trans hq
          obtain k9 := ih_2 cs_9 u0 u1 (u2 + 1) cs9 h
          exact k9.trans hq
        · skip
          replace h := (if_neg c_8).symm.trans h
          obtain k9 := mo_c_X0_checkSelect_b38 F T hM_X0_checkQuery hM_X0_checkSelect hM_X0_checkSource hM_X0_checkInner cs1 u0 u1 cs9 h
          exact k9.trans hq
theorem mo_cb_X0_checkSelect (F : Nat) (T : TC_X0_checkQuery) (hM_X0_checkQuery : ∀ (cs : CS) (x0 : Nat) (x1 : Nat) (cs9 : CS), T.1 cs x0 x1 = some cs9 → cs9.1 = cs.1) (hM_X0_checkSelect : ∀ (cs : CS) (x0 : Nat) (x1 : Nat) (cs9 : CS), T.2.1 cs x0 x1 = some cs9 → cs9.1 = cs.1) (hM_X0_checkSource : ∀ (cs : CS) (x0 : Nat) (x1 : Nat) (x2 : Int32) (cs9 : CS), T.2.2.1 cs x0 x1 x2 = some cs9 → cs9.1 = cs.1) (hM_X0_checkInner : ∀ (cs : CS) (x0 : Nat) (x1 : Nat) (x2 : Nat) (cs9 : CS), T.2.2.2 cs x0 x1 x2 = some cs9 → cs9.1 = cs.1) (cs : CS) (x0 : Nat) (x1 : Nat) (cs9 : CS) (h : cb_X0_checkSelect F T cs x0 x1 = some cs9) : cs9.1 = cs.1 := by
  unfold cb_X0_checkSelect at h
  have hq : cs.1 = cs.1 := rfl
  obtain k9 := mo_c_X0_checkSelect_L2 F T hM_X0_checkQuery hM_X0_checkSelect hM_X0_checkSource hM_X0_checkInner F cs x0 x1 0 cs9 h
  exact k9.trans hq
theorem mo_c_X0_checkSource_b219 (F : Nat) (T : TC_X0_checkQuery) (hM_X0_checkQuery : ∀ (cs : CS) (x0 : Nat) (x1 : Nat) (cs9 : CS), T.1 cs x0 x1 = some cs9 → cs9.1 = cs.1) (hM_X0_checkSelect : ∀ (cs : CS) (x0 : Nat) (x1 : Nat) (cs9 : CS), T.2.1 cs x0 x1 = some cs9 → cs9.1 = cs.1) (hM_X0_checkSource : ∀ (cs : CS) (x0 : Nat) (x1 : Nat) (x2 : Int32) (cs9 : CS), T.2.2.1 cs x0 x1 x2 = some cs9 → cs9.1 = cs.1) (hM_X0_checkInner : ∀ (cs : CS) (x0 : Nat) (x1 : Nat) (x2 : Nat) (cs9 : CS), T.2.2.2 cs x0 x1 x2 = some cs9 → cs9.1 = cs.1) (cs1 : CS) (cs9 : CS) (h : c_X0_checkSource_b219 F T cs1 = some cs9) : cs9.1 = cs1.1 := by
  unfold c_X0_checkSource_b219 at h
  have hq : cs1.1 = cs1.1 := rfl
  have h9 := Option.some.inj h
  exact (congrArg (fun z => z.1) h9).symm.trans hq
theorem mo_c_X0_checkSource_b191 (F : Nat) (T : TC_X0_checkQuery) (hM_X0_checkQuery : ∀ (cs : CS) (x0 : Nat) (x1 : Nat) (cs9 : CS), T.1 cs x0 x1 = some cs9 → cs9.1 = cs.1) (hM_X0_checkSelect : ∀ (cs : CS) (x0 : Nat) (x1 : Nat) (cs9 : CS), T.2.1 cs x0 x1 = some cs9 → cs9.1 = cs.1) (hM_X0_checkSource : ∀ (cs : CS) (x0 : Nat) (x1 : Nat) (x2 : Int32) (cs9 : CS), T.2.2.1 cs x0 x1 x2 = some cs9 → cs9.1 = cs.1) (hM_X0_checkInner : ∀ (cs : CS) (x0 : Nat) (x1 : Nat) (x2 : Nat) (cs9 : CS), T.2.2.2 cs x0 x1 x2 = some cs9 → cs9.1 = cs.1) (cs1 : CS) (u0 : Nat) (u1 : Nat) (u2 : Int32) (u3 : Nat) (y0 : Int32) (y1 : Nat) (cs9 : CS) (h : c_X0_checkSource_b191 F T cs1 u0 u1 u2 u3 y0 y1 = some cs9) : cs9.1 = cs1.1 := by
  unfold c_X0_checkSource_b191 at h
  have hq : cs1.1 = cs1.1 := rfl
  replace h := ob h; obtain ⟨cs_1, hv_1, h⟩ := h
  replace hq := (pI_1 hv_1).trans hq
  replace h := ob h; obtain ⟨cs_2, hv_2, h⟩ := h
  replace hq := (pR_1 hv_2).trans hq
  replace h := ob h; obtain ⟨cs_3, hv_3, h⟩ := h
  replace hq := (pI_1 hv_3).trans hq
  replace h := ob h; obtain ⟨cs_4, hv_4, h⟩ := h
  replace hq := (pR_1 hv_4).trans hq
  replace h := ob h; obtain ⟨v_5, hv_5, h⟩ := h
  replace h := ob h; obtain ⟨w_7, hw_7, h⟩ := h
  replace h := ob h; obtain ⟨cs_6, hv_6, h⟩ := h
  replace hq := (mo_c_X0_checkTruth F cs_4 u0 v_5 cs_6 hv_6).trans hq
  obtain k9 := mo_c_X0_checkSource_b219 F T hM_X0_checkQuery hM_X0_checkSelect hM_X0_checkSource hM_X0_checkInner cs_6 cs9 h
  exact k9.trans hq
theorem mo_c_X0_checkSource_b135 (F : Nat) (T : TC_X0_checkQuery) (hM_X0_checkQuery : ∀ (cs : CS) (x0 : Nat) (x1 : Nat) (cs9 : CS), T.1 cs x0 x1 = some cs9 → cs9.1 = cs.1) (hM_X0_checkSelect : ∀ (cs : CS) (x0 : Nat) (x1 : Nat) (cs9 : CS), T.2.1 cs x0 x1 = some cs9 → cs9.1 = cs.1) (hM_X0_checkSource : ∀ (cs : CS) (x0 : Nat) (x1 : Nat) (x2 : Int32) (cs9 : CS), T.2.2.1 cs x0 x1 x2 = some cs9 → cs9.1 = cs.1) (hM_X0_checkInner : ∀ (cs : CS) (x0 : Nat) (x1 : Nat) (x2 : Nat) (cs9 : CS), T.2.2.2 cs x0 x1 x2 = some cs9 → cs9.1 = cs.1) (rc90 : CS → Nat → Nat → Int32 → Nat → Int32 → Option CS) (hrc90 : ∀ (cs1 : CS) (u0 : Nat) (u1 : Nat) (u2 : Int32) (u3 : Nat) (u4 : Int32) (cs9 : CS), rc90 cs1 u0 u1 u2 u3 u4 = some cs9 → cs9.1 = cs1.1) (cs1 : CS) (u0 : Nat) (u1 : Nat) (u2 : Int32) (u3 : Nat) (u4 : Int32) (cs9 : CS) (h : c_X0_checkSource_b135 F T rc90 cs1 u0 u1 u2 u3 u4 = some cs9) : cs9.1 = cs1.1 := by
  unfold c_X0_checkSource_b135 at h
  have hq : cs1.1 = cs1.1 := rfl
  obtain k9 := hrc90 cs1 u0 u1 u2 u3 (u4 + 1) cs9 h
  exact k9.trans hq
theorem mo_c_X0_checkSource_L90 (F : Nat) (T : TC_X0_checkQuery) (hM_X0_checkQuery : ∀ (cs : CS) (x0 : Nat) (x1 : Nat) (cs9 : CS), T.1 cs x0 x1 = some cs9 → cs9.1 = cs.1) (hM_X0_checkSelect : ∀ (cs : CS) (x0 : Nat) (x1 : Nat) (cs9 : CS), T.2.1 cs x0 x1 = some cs9 → cs9.1 = cs.1) (hM_X0_checkSource : ∀ (cs : CS) (x0 : Nat) (x1 : Nat) (x2 : Int32) (cs9 : CS), T.2.2.1 cs x0 x1 x2 = some cs9 → cs9.1 = cs.1) (hM_X0_checkInner : ∀ (cs : CS) (x0 : Nat) (x1 : Nat) (x2 : Nat) (cs9 : CS), T.2.2.2 cs x0 x1 x2 = some cs9 → cs9.1 = cs.1) : ∀ (lf_90 : Nat) (cs1 : CS) (u0 : Nat) (u1 : Nat) (u2 : Int32) (u3 : Nat) (u4 : Int32) (cs9 : CS), c_X0_checkSource_L90 F T lf_90 cs1 u0 u1 u2 u3 u4 = some cs9 → cs9.1 = cs1.1 := by
  intro lf_90
  induction lf_90 with
  | zero => intro cs1 u0 u1 u2 u3 u4 cs9 h; cases (show (none : Option CS) = _ from h)
  | succ lf_90 ih_90 =>
    intro cs1 u0 u1 u2 u3 u4 cs9 h
    rw [c_X0_checkSource_L90] at h
    have hq : cs1.1 = cs1.1 := rfl
    by_cases c_1 : u2 ≤ u4
    · skip
      replace h := (if_pos c_1).symm.trans h
      by_cases c_2 : u2 ≤ 0
      · skip
        replace h := (if_pos c_2).symm.trans h
        obtain k9 := mo_c_X0_checkSource_b219 F T hM_X0_checkQuery hM_X0_checkSelect hM_X0_checkSource hM_X0_checkInner cs1 cs9 h
        exact k9.trans hq
      · skip
        replace h := (if_neg c_2).symm.trans h
        replace h := ob h; obtain ⟨v_3, hv_3, h⟩ := h
        replace h := ob h; obtain ⟨v_4, hv_4, h⟩ := h
        replace h := ob h; obtain ⟨w_6, hw_6, h⟩ := h
        replace h := ob h; obtain ⟨cs_5, hv_5, h⟩ := h
        replace hq := (mo_c_X0_checkBound F cs1 u0 v_3 v_4 cs_5 hv_5).trans hq
        replace h := ob h; obtain ⟨v_7, hv_7, h⟩ := h
        replace h := ob h; obtain ⟨v_8, hv_8, h⟩ := h
        cases v_8 with
        | none =>
          replace h := oc_n.symm.trans h
          obtain k9 := mo_c_X0_checkSource_b191 F T hM_X0_checkQuery hM_X0_checkSelect hM_X0_checkSource hM_X0_checkInner cs_5 u0 u1 u2 u3 0 u3 cs9 h
          exact k9.trans hq
        | some i_9 =>
          replace h := oc_s.symm.trans h
          replace h := ob h; obtain ⟨v_10, hv_10, h⟩ := h
          replace h := ob h; obtain ⟨v_11, hv_11, h⟩ := h
          replace h := ob h; obtain ⟨i_12, hi_12, h⟩ := h
          subst hi_12
          replace h := ob h; obtain ⟨v_13, hv_13, h⟩ := h
          obtain k9 := mo_c_X0_checkSource_b191 F T hM_X0_checkQuery hM_X0_checkSelect hM_X0_checkSource hM_X0_checkInner cs_5 u0 u1 u2 u3 (v_10 + v_13) u3 cs9 h
          exact k9.trans hq
    · skip
      replace h := (if_neg c_1).symm.trans h
      replace h := ob h; obtain ⟨v_14, hv_14, h⟩ := h
      replace h := ob h; obtain ⟨v_15, hv_15, h⟩ := h
      cases v_15 with
      | none =>
        replace h := oc_n.symm.trans h
        obtain k9 := mo_c_X0_checkSource_b135 F T hM_X0_checkQuery hM_X0_checkSelect hM_X0_checkSource hM_X0_checkInner (c_X0_checkSource_L90 F T lf_90) ih_90 cs1 u0 u1 u2 u3 u4 cs9 h
        exact k9.trans hq
      | some i_16 =>
        replace h := oc_s.symm.trans h
        replace h := ob h; obtain ⟨v_17, hv_17, h⟩ := h
        replace h := ob h; obtain ⟨v_18, hv_18, h⟩ := h
        by_cases c_19 : v_17 = v_18
        · skip
          replace h := (if_pos c_19).symm.trans h
          replace h := ob h; obtain ⟨v_20, hv_20, h⟩ := h
          replace h := ob h; obtain ⟨v_21, hv_21, h⟩ := h
          replace h := ob h; obtain ⟨i_23, hi_23, h⟩ := h
          subst hi_23
          replace h := ob h; obtain ⟨w_24, hw_24, h⟩ := h
          replace h := ob h; obtain ⟨cs_22, hv_22, h⟩ := h
          replace hq := (mo_c_X9_refuse F cs1 i_23 2 v_21 cs_22 hv_22).trans hq
          obtain k9 := mo_c_X0_checkSource_b135 F T hM_X0_checkQuery hM_X0_checkSelect hM_X0_checkSource hM_X0_checkInner (c_X0_checkSource_L90 F T lf_90) ih_90 cs_22 u0 u1 u2 u3 u4 cs9 h
          exact k9.trans hq
        · skip
          replace h := (if_neg c_19).symm.trans h
          obtain k9 := mo_c_X0_checkSource_b135 F T hM_X0_checkQuery hM_X0_checkSelect hM_X0_checkSource hM_X0_checkInner (c_X0_checkSource_L90 F T lf_90) ih_90 cs1 u0 u1 u2 u3 u4 cs9 h
          exact k9.trans hq
theorem mo_c_X0_checkSource_b87 (F : Nat) (T : TC_X0_checkQuery) (hM_X0_checkQuery : ∀ (cs : CS) (x0 : Nat) (x1 : Nat) (cs9 : CS), T.1 cs x0 x1 = some cs9 → cs9.1 = cs.1) (hM_X0_checkSelect : ∀ (cs : CS) (x0 : Nat) (x1 : Nat) (cs9 : CS), T.2.1 cs x0 x1 = some cs9 → cs9.1 = cs.1) (hM_X0_checkSource : ∀ (cs : CS) (x0 : Nat) (x1 : Nat) (x2 : Int32) (cs9 : CS), T.2.2.1 cs x0 x1 x2 = some cs9 → cs9.1 = cs.1) (hM_X0_checkInner : ∀ (cs : CS) (x0 : Nat) (x1 : Nat) (x2 : Nat) (cs9 : CS), T.2.2.2 cs x0 x1 x2 = some cs9 → cs9.1 = cs.1) (cs1 : CS) (u0 : Nat) (u1 : Nat) (u2 : Int32) (u3 : Nat) (cs9 : CS) (h : c_X0_checkSource_b87 F T cs1 u0 u1 u2 u3 = some cs9) : cs9.1 = cs1.1 := by
  unfold c_X0_checkSource_b87 at h
  have hq : cs1.1 = cs1.1 := rfl
  obtain k9 := mo_c_X0_checkSource_L90 F T hM_X0_checkQuery hM_X0_checkSelect hM_X0_checkSource hM_X0_checkInner F cs1 u0 u1 u2 u3 0 cs9 h
  exact k9.trans hq
theorem mo_c_X0_checkSource_b51 (F : Nat) (T : TC_X0_checkQuery) (hM_X0_checkQuery : ∀ (cs : CS) (x0 : Nat) (x1 : Nat) (cs9 : CS), T.1 cs x0 x1 = some cs9 → cs9.1 = cs.1) (hM_X0_checkSelect : ∀ (cs : CS) (x0 : Nat) (x1 : Nat) (cs9 : CS), T.2.1 cs x0 x1 = some cs9 → cs9.1 = cs.1) (hM_X0_checkSource : ∀ (cs : CS) (x0 : Nat) (x1 : Nat) (x2 : Int32) (cs9 : CS), T.2.2.1 cs x0 x1 x2 = some cs9 → cs9.1 = cs.1) (hM_X0_checkInner : ∀ (cs : CS) (x0 : Nat) (x1 : Nat) (x2 : Nat) (cs9 : CS), T.2.2.2 cs x0 x1 x2 = some cs9 → cs9.1 = cs.1) (cs1 : CS) (u0 : Nat) (u1 : Nat) (u2 : Int32) (u3 : Nat) (y0 : Int32) (y1 : Nat) (cs9 : CS) (h : c_X0_checkSource_b51 F T cs1 u0 u1 u2 u3 y0 y1 = some cs9) : cs9.1 = cs1.1 := by
  unfold c_X0_checkSource_b51 at h
  have hq : cs1.1 = cs1.1 := rfl
  replace h := ob h; obtain ⟨w_2, hw_2, h⟩ := h
  replace h := ob h; obtain ⟨cs_1, hv_1, h⟩ := h
  replace hq := (pI_1 hv_1).trans hq
  obtain k9 := mo_c_X0_checkSource_b87 F T hM_X0_checkQuery hM_X0_checkSelect hM_X0_checkSource hM_X0_checkInner cs_1 u0 u1 u2 u3 cs9 h
  exact k9.trans hq
theorem mo_c_X0_checkSource_b46 (F : Nat) (T : TC_X0_checkQuery) (hM_X0_checkQuery : ∀ (cs : CS) (x0 : Nat) (x1 : Nat) (cs9 : CS), T.1 cs x0 x1 = some cs9 → cs9.1 = cs.1) (hM_X0_checkSelect : ∀ (cs : CS) (x0 : Nat) (x1 : Nat) (cs9 : CS), T.2.1 cs x0 x1 = some cs9 → cs9.1 = cs.1) (hM_X0_checkSource : ∀ (cs : CS) (x0 : Nat) (x1 : Nat) (x2 : Int32) (cs9 : CS), T.2.2.1 cs x0 x1 x2 = some cs9 → cs9.1 = cs.1) (hM_X0_checkInner : ∀ (cs : CS) (x0 : Nat) (x1 : Nat) (x2 : Nat) (cs9 : CS), T.2.2.2 cs x0 x1 x2 = some cs9 → cs9.1 = cs.1) (cs1 : CS) (u0 : Nat) (u1 : Nat) (u2 : Int32) (u3 : Nat) (y0 : Nat) (cs9 : CS) (h : c_X0_checkSource_b46 F T cs1 u0 u1 u2 u3 y0 = some cs9) : cs9.1 = cs1.1 := by
  unfold c_X0_checkSource_b46 at h
  have hq : cs1.1 = cs1.1 := rfl
  obtain k9 := mo_c_X0_checkSource_b51 F T hM_X0_checkQuery hM_X0_checkSelect hM_X0_checkSource hM_X0_checkInner cs1 u0 u1 u2 u3 1 y0 cs9 h
  exact k9.trans hq
theorem mo_c_X0_checkSource_b84 (F : Nat) (T : TC_X0_checkQuery) (hM_X0_checkQuery : ∀ (cs : CS) (x0 : Nat) (x1 : Nat) (cs9 : CS), T.1 cs x0 x1 = some cs9 → cs9.1 = cs.1) (hM_X0_checkSelect : ∀ (cs : CS) (x0 : Nat) (x1 : Nat) (cs9 : CS), T.2.1 cs x0 x1 = some cs9 → cs9.1 = cs.1) (hM_X0_checkSource : ∀ (cs : CS) (x0 : Nat) (x1 : Nat) (x2 : Int32) (cs9 : CS), T.2.2.1 cs x0 x1 x2 = some cs9 → cs9.1 = cs.1) (hM_X0_checkInner : ∀ (cs : CS) (x0 : Nat) (x1 : Nat) (x2 : Nat) (cs9 : CS), T.2.2.2 cs x0 x1 x2 = some cs9 → cs9.1 = cs.1) (cs1 : CS) (u0 : Nat) (u1 : Nat) (u2 : Int32) (u3 : Nat) (y0 : Int32) (y1 : Nat) (cs9 : CS) (h : c_X0_checkSource_b84 F T cs1 u0 u1 u2 u3 y0 y1 = some cs9) : cs9.1 = cs1.1 := by
  unfold c_X0_checkSource_b84 at h
  have hq : cs1.1 = cs1.1 := rfl
  replace h := ob h; obtain ⟨w_2, hw_2, h⟩ := h
  replace h := ob h; obtain ⟨cs_1, hv_1, h⟩ := h
  replace hq := (pI_1 hv_1).trans hq
  obtain k9 := mo_c_X0_checkSource_b87 F T hM_X0_checkQuery hM_X0_checkSelect hM_X0_checkSource hM_X0_checkInner cs_1 u0 u1 u2 u3 cs9 h
  exact k9.trans hq
theorem mo_c_X0_checkSource_b79 (F : Nat) (T : TC_X0_checkQuery) (hM_X0_checkQuery : ∀ (cs : CS) (x0 : Nat) (x1 : Nat) (cs9 : CS), T.1 cs x0 x1 = some cs9 → cs9.1 = cs.1) (hM_X0_checkSelect : ∀ (cs : CS) (x0 : Nat) (x1 : Nat) (cs9 : CS), T.2.1 cs x0 x1 = some cs9 → cs9.1 = cs.1) (hM_X0_checkSource : ∀ (cs : CS) (x0 : Nat) (x1 : Nat) (x2 : Int32) (cs9 : CS), T.2.2.1 cs x0 x1 x2 = some cs9 → cs9.1 = cs.1) (hM_X0_checkInner : ∀ (cs : CS) (x0 : Nat) (x1 : Nat) (x2 : Nat) (cs9 : CS), T.2.2.2 cs x0 x1 x2 = some cs9 → cs9.1 = cs.1) (cs1 : CS) (u0 : Nat) (u1 : Nat) (u2 : Int32) (u3 : Nat) (y0 : Nat) (cs9 : CS) (h : c_X0_checkSource_b79 F T cs1 u0 u1 u2 u3 y0 = some cs9) : cs9.1 = cs1.1 := by
  unfold c_X0_checkSource_b79 at h
  have hq : cs1.1 = cs1.1 := rfl
  obtain k9 := mo_c_X0_checkSource_b84 F T hM_X0_checkQuery hM_X0_checkSelect hM_X0_checkSource hM_X0_checkInner cs1 u0 u1 u2 u3 1 y0 cs9 h
  exact k9.trans hq
theorem mo_cb_X0_checkSource (F : Nat) (T : TC_X0_checkQuery) (hM_X0_checkQuery : ∀ (cs : CS) (x0 : Nat) (x1 : Nat) (cs9 : CS), T.1 cs x0 x1 = some cs9 → cs9.1 = cs.1) (hM_X0_checkSelect : ∀ (cs : CS) (x0 : Nat) (x1 : Nat) (cs9 : CS), T.2.1 cs x0 x1 = some cs9 → cs9.1 = cs.1) (hM_X0_checkSource : ∀ (cs : CS) (x0 : Nat) (x1 : Nat) (x2 : Int32) (cs9 : CS), T.2.2.1 cs x0 x1 x2 = some cs9 → cs9.1 = cs.1) (hM_X0_checkInner : ∀ (cs : CS) (x0 : Nat) (x1 : Nat) (x2 : Nat) (cs9 : CS), T.2.2.2 cs x0 x1 x2 = some cs9 → cs9.1 = cs.1) (cs : CS) (x0 : Nat) (x1 : Nat) (x2 : Int32) (cs9 : CS) (h : cb_X0_checkSource F T cs x0 x1 x2 = some cs9) : cs9.1 = cs.1 := by
  unfold cb_X0_checkSource at h
  have hq : cs.1 = cs.1 := rfl
  replace h := ob h; obtain ⟨v_1, hv_1, h⟩ := h
  replace h := ob h; obtain ⟨v_2, hv_2, h⟩ := h
  cases v_2 with
  | none =>
    replace h := oc_n.symm.trans h
    have h9 := Option.some.inj h
    exact (congrArg (fun z => z.1) h9).symm.trans hq
  | some i_3 =>
    replace h := oc_s.symm.trans h
    replace h := ob h; obtain ⟨v_4, hv_4, h⟩ := h
    cases v_4 with
    | none =>
      replace h := oc_n.symm.trans h
      replace h := ob h; obtain ⟨w_7, hw_7, h⟩ := h
      replace h := ob h; obtain ⟨cs_6, hv_6, h⟩ := h
      replace hq := (mo_c_X0_checkLeaf F cs x0 i_3 cs_6 hv_6).trans hq
      replace h := ob h; obtain ⟨v_8, hv_8, h⟩ := h
      by_cases c_9 : v_8 = 0
      · skip
        replace h := (if_pos c_9).symm.trans h
        replace h := ob h; obtain ⟨v_10, hv_10, h⟩ := h
        by_cases c_11 : 0 ≤ v_10
        · skip
          replace h := (if_pos c_11).symm.trans h
          obtain k9 := mo_c_X0_checkSource_b84 F T hM_X0_checkQuery hM_X0_checkSelect hM_X0_checkSource hM_X0_checkInner cs_6 x0 x1 x2 i_3 0 x1 cs9 h
          exact k9.trans hq
        · skip
          replace h := (if_neg c_11).symm.trans h
          obtain k9 := mo_c_X0_checkSource_b79 F T hM_X0_checkQuery hM_X0_checkSelect hM_X0_checkSource hM_X0_checkInner cs_6 x0 x1 x2 i_3 x1 cs9 h
          exact k9.trans hq
      · skip
        replace h := (if_neg c_9).symm.trans h
        obtain k9 := mo_c_X0_checkSource_b79 F T hM_X0_checkQuery hM_X0_checkSelect hM_X0_checkSource hM_X0_checkInner cs_6 x0 x1 x2 i_3 x1 cs9 h
        exact k9.trans hq
    | some i_5 =>
      replace h := oc_s.symm.trans h
      replace h := ob h; obtain ⟨v_12, hv_12, h⟩ := h
      replace h := ob h; obtain ⟨i_13, hi_13, h⟩ := h
      subst hi_13
      replace h := ob h; obtain ⟨w_15, hw_15, h⟩ := h
      replace h := ob h; obtain ⟨cs_14, hv_14, h⟩ := h
      replace hq := (hM_X0_checkInner cs x0 i_3 i_13 cs_14 hv_14).trans hq
      replace h := ob h; obtain ⟨v_16, hv_16, h⟩ := h
      by_cases c_17 : v_16 = 0
      · skip
        replace h := (if_pos c_17).symm.trans h
        replace h := ob h; obtain ⟨v_18, hv_18, h⟩ := h
        replace h := ob h; obtain ⟨i_19, hi_19, h⟩ := h
        subst hi_19
        replace h := ob h; obtain ⟨v_20, hv_20, h⟩ := h
        by_cases c_21 : v_20 = 0
        · skip
          replace h := (if_pos c_21).symm.trans h
          obtain k9 := mo_c_X0_checkSource_b51 F T hM_X0_checkQuery hM_X0_checkSelect hM_X0_checkSource hM_X0_checkInner cs_14 x0 x1 x2 i_3 0 x1 cs9 h
          exact k9.trans hq
        · skip
          replace h := (if_neg c_21).symm.trans h
          obtain k9 := mo_c_X0_checkSource_b46 F T hM_X0_checkQuery hM_X0_checkSelect hM_X0_checkSource hM_X0_checkInner cs_14 x0 x1 x2 i_3 x1 cs9 h
          exact k9.trans hq
      · skip
        replace h := (if_neg c_17).symm.trans h
        obtain k9 := mo_c_X0_checkSource_b46 F T hM_X0_checkQuery hM_X0_checkSelect hM_X0_checkSource hM_X0_checkInner cs_14 x0 x1 x2 i_3 x1 cs9 h
        exact k9.trans hq
theorem mo_c_X0_checkInner_b87 (F : Nat) (T : TC_X0_checkQuery) (hM_X0_checkQuery : ∀ (cs : CS) (x0 : Nat) (x1 : Nat) (cs9 : CS), T.1 cs x0 x1 = some cs9 → cs9.1 = cs.1) (hM_X0_checkSelect : ∀ (cs : CS) (x0 : Nat) (x1 : Nat) (cs9 : CS), T.2.1 cs x0 x1 = some cs9 → cs9.1 = cs.1) (hM_X0_checkSource : ∀ (cs : CS) (x0 : Nat) (x1 : Nat) (x2 : Int32) (cs9 : CS), T.2.2.1 cs x0 x1 x2 = some cs9 → cs9.1 = cs.1) (hM_X0_checkInner : ∀ (cs : CS) (x0 : Nat) (x1 : Nat) (x2 : Nat) (cs9 : CS), T.2.2.2 cs x0 x1 x2 = some cs9 → cs9.1 = cs.1) (cs1 : CS) (cs9 : CS) (h : c_X0_checkInner_b87 F T cs1 = some cs9) : cs9.1 = cs1.1 := by
  unfold c_X0_checkInner_b87 at h
  have hq : cs1.1 = cs1.1 := rfl
  have h9 := Option.some.inj h
  exact (congrArg (fun z => z.1) h9).symm.trans hq
theorem mo_c_X0_checkInner_L40 (F : Nat) (T : TC_X0_checkQuery) (hM_X0_checkQuery : ∀ (cs : CS) (x0 : Nat) (x1 : Nat) (cs9 : CS), T.1 cs x0 x1 = some cs9 → cs9.1 = cs.1) (hM_X0_checkSelect : ∀ (cs : CS) (x0 : Nat) (x1 : Nat) (cs9 : CS), T.2.1 cs x0 x1 = some cs9 → cs9.1 = cs.1) (hM_X0_checkSource : ∀ (cs : CS) (x0 : Nat) (x1 : Nat) (x2 : Int32) (cs9 : CS), T.2.2.1 cs x0 x1 x2 = some cs9 → cs9.1 = cs.1) (hM_X0_checkInner : ∀ (cs : CS) (x0 : Nat) (x1 : Nat) (x2 : Nat) (cs9 : CS), T.2.2.2 cs x0 x1 x2 = some cs9 → cs9.1 = cs.1) : ∀ (lf_40 : Nat) (cs1 : CS) (u1 : Nat) (u3 : Nat) (u4 : Int32) (cs9 : CS), c_X0_checkInner_L40 F T lf_40 cs1 u1 u3 u4 = some cs9 → cs9.1 = cs1.1 := by
  intro lf_40
  induction lf_40 with
  | zero => intro cs1 u1 u3 u4 cs9 h; cases (show (none : Option CS) = _ from h)
  | succ lf_40 ih_40 =>
    intro cs1 u1 u3 u4 cs9 h
    rw [c_X0_checkInner_L40] at h
    have hq : cs1.1 = cs1.1 := rfl
    replace h := ob h; obtain ⟨v_1, hv_1, h⟩ := h
    by_cases c_2 : v_1 ≤ u4
    · skip
      replace h := (if_pos c_2).symm.trans h
      obtain k9 := mo_c_X0_checkInner_b87 F T hM_X0_checkQuery hM_X0_checkSelect hM_X0_checkSource hM_X0_checkInner cs1 cs9 h
      exact k9.trans hq
    · skip
      replace h := (if_neg c_2).symm.trans h
      replace h := ob h; obtain ⟨w_4, hw_4, h⟩ := h
      replace h := ob h; obtain ⟨v_3, hv_3, h⟩ := h
      by_cases c_5 : v_3 = 0
      · skip
        replace h := (if_pos c_5).symm.trans h
        obtain k9 := mo_c_X0_checkInner_b87 F T hM_X0_checkQuery hM_X0_checkSelect hM_X0_checkSource hM_X0_checkInner cs1 cs9 h
        exact k9.trans hq
      · skip
        replace h := (if_neg c_5).symm.trans h
        replace h := ob h; obtain ⟨v_6, hv_6, h⟩ := h
        replace h := ob h; obtain ⟨v_7, hv_7, h⟩ := h
        replace h := ob h; obtain ⟨v_8, hv_8, h⟩ := h
        replace h := ob h; obtain ⟨v_9, hv_9, h⟩ := h
        replace h := ob h; obtain ⟨v_10, hv_10, h⟩ := h
        replace h := ob h; obtain ⟨i_12, hi_12, h⟩ := h
        subst hi_12
        replace h := ob h; obtain ⟨w_13, hw_13, h⟩ := h
        replace h := ob h; obtain ⟨cs_11, hv_11, h⟩ := h
        replace hq := (mo_c_X2_add F cs1 i_12 (-1) v_8 0 v_10 cs_11 hv_11).trans hq
        obtain k9 := ih_40 cs_11 u1 u3 (u4 + 1) cs9 h
        exact k9.trans hq
theorem mo_c_X0_checkInner_b37 (F : Nat) (T : TC_X0_checkQuery) (hM_X0_checkQuery : ∀ (cs : CS) (x0 : Nat) (x1 : Nat) (cs9 : CS), T.1 cs x0 x1 = some cs9 → cs9.1 = cs.1) (hM_X0_checkSelect : ∀ (cs : CS) (x0 : Nat) (x1 : Nat) (cs9 : CS), T.2.1 cs x0 x1 = some cs9 → cs9.1 = cs.1) (hM_X0_checkSource : ∀ (cs : CS) (x0 : Nat) (x1 : Nat) (x2 : Int32) (cs9 : CS), T.2.2.1 cs x0 x1 x2 = some cs9 → cs9.1 = cs.1) (hM_X0_checkInner : ∀ (cs : CS) (x0 : Nat) (x1 : Nat) (x2 : Nat) (cs9 : CS), T.2.2.2 cs x0 x1 x2 = some cs9 → cs9.1 = cs.1) (cs1 : CS) (u1 : Nat) (u3 : Nat) (cs9 : CS) (h : c_X0_checkInner_b37 F T cs1 u1 u3 = some cs9) : cs9.1 = cs1.1 := by
  unfold c_X0_checkInner_b37 at h
  have hq : cs1.1 = cs1.1 := rfl
  obtain k9 := mo_c_X0_checkInner_L40 F T hM_X0_checkQuery hM_X0_checkSelect hM_X0_checkSource hM_X0_checkInner F cs1 u1 u3 0 cs9 h
  exact k9.trans hq
theorem mo_cb_X0_checkInner (F : Nat) (T : TC_X0_checkQuery) (hM_X0_checkQuery : ∀ (cs : CS) (x0 : Nat) (x1 : Nat) (cs9 : CS), T.1 cs x0 x1 = some cs9 → cs9.1 = cs.1) (hM_X0_checkSelect : ∀ (cs : CS) (x0 : Nat) (x1 : Nat) (cs9 : CS), T.2.1 cs x0 x1 = some cs9 → cs9.1 = cs.1) (hM_X0_checkSource : ∀ (cs : CS) (x0 : Nat) (x1 : Nat) (x2 : Int32) (cs9 : CS), T.2.2.1 cs x0 x1 x2 = some cs9 → cs9.1 = cs.1) (hM_X0_checkInner : ∀ (cs : CS) (x0 : Nat) (x1 : Nat) (x2 : Nat) (cs9 : CS), T.2.2.2 cs x0 x1 x2 = some cs9 → cs9.1 = cs.1) (cs : CS) (x0 : Nat) (x1 : Nat) (x2 : Nat) (cs9 : CS) (h : cb_X0_checkInner F T cs x0 x1 x2 = some cs9) : cs9.1 = cs.1 := by
  unfold cb_X0_checkInner at h
  have hq : cs.1 = cs.1 := rfl
  replace h := ob h; obtain ⟨w_2, hw_2, h⟩ := h
  replace h := ob h; obtain ⟨cs_1, hv_1, h⟩ := h
  replace hq := (hM_X0_checkQuery cs x0 x2 cs_1 hv_1).trans hq
  replace h := ob h; obtain ⟨w_4, hw_4, h⟩ := h
  replace h := ob h; obtain ⟨v_3, hv_3, h⟩ := h
  by_cases c_5 : v_3 = 0
  · skip
    replace h := (if_pos c_5).symm.trans h
    replace h := ob h; obtain ⟨v_6, hv_6, h⟩ := h
    replace h := ob h; obtain ⟨i_8, hi_8, h⟩ := h
    subst hi_8
    replace h := ob h; obtain ⟨w_9, hw_9, h⟩ := h
    replace h := ob h; obtain ⟨v_7, hv_7, h⟩ := h
    by_cases c_10 : v_7 = 0
    · skip
      replace h := (if_pos c_10).symm.trans h
      replace h := ob h; obtain ⟨v_11, hv_11, h⟩ := h
      replace h := ob h; obtain ⟨v_12, hv_12, h⟩ := h
      replace h := ob h; obtain ⟨i_14, hi_14, h⟩ := h
      subst hi_14
      replace h := ob h; obtain ⟨w_15, hw_15, h⟩ := h
      replace h := ob h; obtain ⟨cs_13, hv_13, h⟩ := h
      replace hq := (mo_c_X9_refuse F cs_1 i_14 2 v_12 cs_13 hv_13).trans hq
      obtain k9 := mo_c_X0_checkInner_b37 F T hM_X0_checkQuery hM_X0_checkSelect hM_X0_checkSource hM_X0_checkInner cs_13 x1 i_8 cs9 h
      exact k9.trans hq
    · skip
      replace h := (if_neg c_10).symm.trans h
      obtain k9 := mo_c_X0_checkInner_b37 F T hM_X0_checkQuery hM_X0_checkSelect hM_X0_checkSource hM_X0_checkInner cs_1 x1 i_8 cs9 h
      exact k9.trans hq
  · skip
    replace h := (if_neg c_5).symm.trans h
    have h9 := Option.some.inj h
    exact (congrArg (fun z => z.1) h9).symm.trans hq
theorem mog_X0_checkQuery (F : Nat) : ∀ n : Nat, (∀ (cs : CS) (x0 : Nat) (x1 : Nat) (cs9 : CS), (tabc_X0_checkQuery F n).1 cs x0 x1 = some cs9 → cs9.1 = cs.1) ∧ (∀ (cs : CS) (x0 : Nat) (x1 : Nat) (cs9 : CS), (tabc_X0_checkQuery F n).2.1 cs x0 x1 = some cs9 → cs9.1 = cs.1) ∧ (∀ (cs : CS) (x0 : Nat) (x1 : Nat) (x2 : Int32) (cs9 : CS), (tabc_X0_checkQuery F n).2.2.1 cs x0 x1 x2 = some cs9 → cs9.1 = cs.1) ∧ (∀ (cs : CS) (x0 : Nat) (x1 : Nat) (x2 : Nat) (cs9 : CS), (tabc_X0_checkQuery F n).2.2.2 cs x0 x1 x2 = some cs9 → cs9.1 = cs.1) := by
  intro n
  induction n with
  | zero => exact ⟨fun _ _ _ _ h => (by cases (show (none : Option CS) = _ from h)), fun _ _ _ _ h => (by cases (show (none : Option CS) = _ from h)), fun _ _ _ _ _ h => (by cases (show (none : Option CS) = _ from h)), fun _ _ _ _ _ h => (by cases (show (none : Option CS) = _ from h))⟩
  | succ n ih =>
    obtain ⟨hh0, hh1, hh2, hh3⟩ := ih
    exact ⟨fun cs w0 w1 w2 h => mo_cb_X0_checkQuery F (tabc_X0_checkQuery F n) hh0 hh1 hh2 hh3 cs w0 w1 w2 h, fun cs w0 w1 w2 h => mo_cb_X0_checkSelect F (tabc_X0_checkQuery F n) hh0 hh1 hh2 hh3 cs w0 w1 w2 h, fun cs w0 w1 w2 w3 h => mo_cb_X0_checkSource F (tabc_X0_checkQuery F n) hh0 hh1 hh2 hh3 cs w0 w1 w2 w3 h, fun cs w0 w1 w2 w3 h => mo_cb_X0_checkInner F (tabc_X0_checkQuery F n) hh0 hh1 hh2 hh3 cs w0 w1 w2 w3 h⟩
theorem mo_c_X0_checkQuery (F n : Nat) (cs : CS) (x0 : Nat) (x1 : Nat) (cs9 : CS) (h : c_X0_checkQuery F n cs x0 x1 = some cs9) : cs9.1 = cs.1 := (mog_X0_checkQuery F n).1 cs x0 x1 cs9 h
theorem mo_c_X0_checkSelect (F n : Nat) (cs : CS) (x0 : Nat) (x1 : Nat) (cs9 : CS) (h : c_X0_checkSelect F n cs x0 x1 = some cs9) : cs9.1 = cs.1 := (mog_X0_checkQuery F n).2.1 cs x0 x1 cs9 h
theorem mo_c_X0_checkSource (F n : Nat) (cs : CS) (x0 : Nat) (x1 : Nat) (x2 : Int32) (cs9 : CS) (h : c_X0_checkSource F n cs x0 x1 x2 = some cs9) : cs9.1 = cs.1 := (mog_X0_checkQuery F n).2.2.1 cs x0 x1 x2 cs9 h
theorem mo_c_X0_checkInner (F n : Nat) (cs : CS) (x0 : Nat) (x1 : Nat) (x2 : Nat) (cs9 : CS) (h : c_X0_checkInner F n cs x0 x1 x2 = some cs9) : cs9.1 = cs.1 := (mog_X0_checkQuery F n).2.2.2 cs x0 x1 x2 cs9 h
theorem mo_c_X1_add_b68 (F : Nat) (cs1 : CS) (u0 : Nat) (u4 : Int32) (u5 : Int32) (y0 : Int32) (y1 : Int32) (y2 : Nat) (wy2 : Nat) (cs9 : CS) (r9 : Int32) (h : c_X1_add_b68 F cs1 u0 u4 u5 y0 y1 y2 wy2 = some (cs9, r9)) : cs9.1 = cs1.1 := by
  unfold c_X1_add_b68 at h
  have hq : cs1.1 = cs1.1 := rfl
  replace h := ob h; obtain ⟨cs_1, hv_1, h⟩ := h
  replace hq := (wA_1 hv_1).trans hq
  replace h := ob h; obtain ⟨v_2, hv_2, h⟩ := h
  replace h := ob h; obtain ⟨cs_3, hv_3, h⟩ := h
  replace hq := (wA_1 hv_3).trans hq
  replace h := ob h; obtain ⟨v_4, hv_4, h⟩ := h
  replace h := ob h; obtain ⟨cs_5, hv_5, h⟩ := h
  replace hq := (wB_1 hv_5).trans hq
  replace h := ob h; obtain ⟨v_6, hv_6, h⟩ := h
  replace h := ob h; obtain ⟨cs_7, hv_7, h⟩ := h
  replace hq := (wA_1 hv_7).trans hq
  have h9 := (Prod.mk.inj (Option.some.inj h)).1
  exact (congrArg (fun z => z.1) h9).symm.trans hq
theorem mo_c_X1_add_b66 (F : Nat) (cs1 : CS) (u0 : Nat) (u4 : Int32) (u5 : Int32) (y0 : Int32) (y1 : Nat) (wy1 : Nat) (cs9 : CS) (r9 : Int32) (h : c_X1_add_b66 F cs1 u0 u4 u5 y0 y1 wy1 = some (cs9, r9)) : cs9.1 = cs1.1 := by
  unfold c_X1_add_b66 at h
  have hq : cs1.1 = cs1.1 := rfl
  obtain k9 := mo_c_X1_add_b68 F cs1 u0 u4 u5 u5 y0 y1 wy1 cs9 r9 h
  exact k9.trans hq
theorem mo_c_X1_add (F : Nat) (cs : CS) (x0 : Nat) (x1 : Int32) (x2 : Int32) (x3 : Int32) (x4 : Int32) (cs9 : CS) (r9 : Int32) (h : c_X1_add F cs x0 x1 x2 x3 x4 = some (cs9, r9)) : cs9.1 = cs.1 := by
  unfold c_X1_add at h
  have hq : cs.1 = cs.1 := rfl
  replace h := ob h; obtain ⟨v_1, hv_1, h⟩ := h
  replace h := ob h; obtain ⟨v_2, hv_2, h⟩ := h
  replace h := ob h; obtain ⟨v_3, hv_3, h⟩ := h
  by_cases c_4 : v_1 < v_3
  · skip
    replace h := (if_pos c_4).symm.trans h
    replace h := ob h; obtain ⟨v_5, hv_5, h⟩ := h
    replace h := ob h; obtain ⟨v_6, hv_6, h⟩ := h
    replace h := ob h; obtain ⟨cs_7, hv_7, h⟩ := h
    replace hq := (pI_1 hv_7).trans hq
    replace h := ob h; obtain ⟨v_8, hv_8, h⟩ := h
    replace h := ob h; obtain ⟨cs_9, hv_9, h⟩ := h
    replace hq := (wA_1 hv_9).trans hq
    replace h := ob h; obtain ⟨v_10, hv_10, h⟩ := h
    replace h := ob h; obtain ⟨cs_11, hv_11, h⟩ := h
    replace hq := (wA_1 hv_11).trans hq
    replace h := ob h; obtain ⟨v_12, hv_12, h⟩ := h
    by_cases c_13 : x2 < 0
    · skip
      replace h := (if_pos c_13).symm.trans h
      obtain k9 := mo_c_X1_add_b66 F cs_11 x0 x4 v_5 v_5 x0 v_12 cs9 r9 h
      exact k9.trans hq
    · skip
      replace h := (if_neg c_13).symm.trans h
      by_cases c_14 : v_5 < x2
      · skip
        replace h := (if_pos c_14).symm.trans h
        obtain k9 := mo_c_X1_add_b66 F cs_11 x0 x4 v_5 v_5 x0 v_12 cs9 r9 h
        exact k9.trans hq
      · skip
        replace h := (if_neg c_14).symm.trans h
        obtain k9 := mo_c_X1_add_b68 F cs_11 x0 x4 v_5 x2 v_5 x0 v_12 cs9 r9 h
        exact k9.trans hq
  · skip
    replace h := (if_neg c_4).symm.trans h
    have h9 := (Prod.mk.inj (Option.some.inj h)).1
    exact (congrArg (fun z => z.1) h9).symm.trans hq
theorem mo_c_X1_push_b63 (F : Nat) (cs1 : CS) (cs9 : CS) (h : c_X1_push_b63 F cs1 = some cs9) : cs9.1 = cs1.1 := by
  unfold c_X1_push_b63 at h
  have hq : cs1.1 = cs1.1 := rfl
  have h9 := Option.some.inj h
  exact (congrArg (fun z => z.1) h9).symm.trans hq
theorem mo_c_X1_push_b41 (F : Nat) (cs1 : CS) (u0 : Nat) (u3 : Int32) (y0 : Int64) (y1 : Int32) (y2 : Nat) (wy2 : Nat) (cs9 : CS) (h : c_X1_push_b41 F cs1 u0 u3 y0 y1 y2 wy2 = some cs9) : cs9.1 = cs1.1 := by
  unfold c_X1_push_b41 at h
  have hq : cs1.1 = cs1.1 := rfl
  replace h := ob h; obtain ⟨cs_1, hv_1, h⟩ := h
  replace hq := (wB_1 hv_1).trans hq
  replace h := ob h; obtain ⟨v_2, hv_2, h⟩ := h
  replace h := ob h; obtain ⟨v_3, hv_3, h⟩ := h
  replace h := ob h; obtain ⟨cs_4, hv_4, h⟩ := h
  replace hq := (wA_1 hv_4).trans hq
  replace h := ob h; obtain ⟨v_5, hv_5, h⟩ := h
  replace h := ob h; obtain ⟨cs_6, hv_6, h⟩ := h
  replace hq := (pI_1 hv_6).trans hq
  obtain k9 := mo_c_X1_push_b63 F cs_6 cs9 h
  exact k9.trans hq
theorem mo_c_X1_push (F : Nat) (cs : CS) (x0 : Nat) (x1 : Int64) (x3 : Int32) (cs9 : CS) (h : c_X1_push F cs x0 x1 x3 = some cs9) : cs9.1 = cs.1 := by
  unfold c_X1_push at h
  have hq : cs.1 = cs.1 := rfl
  replace h := ob h; obtain ⟨v_1, hv_1, h⟩ := h
  replace h := ob h; obtain ⟨v_2, hv_2, h⟩ := h
  replace h := ob h; obtain ⟨v_3, hv_3, h⟩ := h
  by_cases c_4 : v_3 ≤ v_1
  · skip
    replace h := (if_pos c_4).symm.trans h
    obtain k9 := mo_c_X1_push_b63 F cs cs9 h
    exact k9.trans hq
  · skip
    replace h := (if_neg c_4).symm.trans h
    replace h := ob h; obtain ⟨v_5, hv_5, h⟩ := h
    replace h := ob h; obtain ⟨v_6, hv_6, h⟩ := h
    replace h := ob h; obtain ⟨v_7, hv_7, h⟩ := h
    by_cases c_8 : v_7 ≤ v_5
    · skip
      replace h := (if_pos c_8).symm.trans h
      obtain k9 := mo_c_X1_push_b63 F cs cs9 h
      exact k9.trans hq
    · skip
      replace h := (if_neg c_8).symm.trans h
      replace h := ob h; obtain ⟨v_9, hv_9, h⟩ := h
      replace h := ob h; obtain ⟨v_10, hv_10, h⟩ := h
      by_cases c_11 : x3 = 0
      · skip
        replace h := (if_pos c_11).symm.trans h
        obtain k9 := mo_c_X1_push_b41 F cs x0 x3 x1 v_10 x0 v_9 cs9 h
        exact k9.trans hq
      · skip
        replace h := (if_neg c_11).symm.trans h
        obtain k9 := mo_c_X1_push_b41 F cs x0 x3 0 v_10 x0 v_9 cs9 h
        exact k9.trans hq
theorem mo_c_X1_one_b120 (F : Nat) (cs1 : CS) (cs9 : CS) (h : c_X1_one_b120 F cs1 = some cs9) : cs9.1 = cs1.1 := by
  unfold c_X1_one_b120 at h
  have hq : cs1.1 = cs1.1 := rfl
  have h9 := Option.some.inj h
  exact (congrArg (fun z => z.1) h9).symm.trans hq
theorem mo_c_X1_one (F : Nat) (cs : CS) (x0 : Nat) (x1 : Int32) (cs9 : CS) (h : c_X1_one F cs x0 x1 = some cs9) : cs9.1 = cs.1 := by
  unfold c_X1_one at h
  have hq : cs.1 = cs.1 := rfl
  replace h := ob h; obtain ⟨v_1, hv_1, h⟩ := h
  by_cases c_2 : 1 ≤ v_1
  · skip
    replace h := (if_pos c_2).symm.trans h
    replace h := ob h; obtain ⟨v_3, hv_3, h⟩ := h
    replace h := ob h; obtain ⟨cs_4, hv_4, h⟩ := h
    replace hq := (pI_1 hv_4).trans hq
    replace h := ob h; obtain ⟨v_5, hv_5, h⟩ := h
    replace h := ob h; obtain ⟨v_6, hv_6, h⟩ := h
    replace h := ob h; obtain ⟨v_7, hv_7, h⟩ := h
    replace h := ob h; obtain ⟨v_8, hv_8, h⟩ := h
    replace h := ob h; obtain ⟨v_9, hv_9, h⟩ := h
    replace h := ob h; obtain ⟨v_10, hv_10, h⟩ := h
    by_cases c_11 : x1 = 24
    · skip
      replace h := (if_pos c_11).symm.trans h
      replace h := ob h; obtain ⟨w_13, hw_13, h⟩ := h
      replace h := ob h; obtain ⟨cs_12, hv_12, h⟩ := h
      replace hq := (mo_c_X1_push F cs_4 x0 ((v_10 : Int32).toInt64) 0 cs_12 hv_12).trans hq
      obtain k9 := mo_c_X1_one_b120 F cs_12 cs9 h
      exact k9.trans hq
    replace h := (if_neg c_11).symm.trans h
    by_cases c_14 : x1 = 25
    · skip
      replace h := (if_pos c_14).symm.trans h
      replace h := ob h; obtain ⟨w_16, hw_16, h⟩ := h
      replace h := ob h; obtain ⟨cs_15, hv_15, h⟩ := h
      replace hq := (mo_c_X1_push F cs_4 x0 (1 - v_7) v_10 cs_15 hv_15).trans hq
      obtain k9 := mo_c_X1_one_b120 F cs_15 cs9 h
      exact k9.trans hq
    replace h := (if_neg c_14).symm.trans h
    by_cases c_17 : x1 = 58
    · skip
      replace h := (if_pos c_17).symm.trans h
      replace h := ob h; obtain ⟨w_19, hw_19, h⟩ := h
      replace h := ob h; obtain ⟨cs_18, hv_18, h⟩ := h
      replace hq := (mo_c_X1_push F cs_4 x0 (-v_7) v_10 cs_18 hv_18).trans hq
      obtain k9 := mo_c_X1_one_b120 F cs_18 cs9 h
      exact k9.trans hq
    replace h := (if_neg c_17).symm.trans h
    replace h := ob h; obtain ⟨w_21, hw_21, h⟩ := h
    replace h := ob h; obtain ⟨cs_20, hv_20, h⟩ := h
    replace hq := (mo_c_X1_push F cs_4 x0 ((1 - v_10 : Int32).toInt64) 0 cs_20 hv_20).trans hq
    obtain k9 := mo_c_X1_one_b120 F cs_20 cs9 h
    exact k9.trans hq
  · skip
    replace h := (if_neg c_2).symm.trans h
    have h9 := Option.some.inj h
    exact (congrArg (fun z => z.1) h9).symm.trans hq
theorem mo_c_X1_choose_b60 (F : Nat) (cs1 : CS) (u0 : Nat) (y0 : Int32) (cs9 : CS) (h : c_X1_choose_b60 F cs1 u0 y0 = some cs9) : cs9.1 = cs1.1 := by
  unfold c_X1_choose_b60 at h
  have hq : cs1.1 = cs1.1 := rfl
  replace h := ob h; obtain ⟨v_1, hv_1, h⟩ := h
  replace h := ob h; obtain ⟨v_2, hv_2, h⟩ := h
  replace h := ob h; obtain ⟨v_3, hv_3, h⟩ := h
  replace h := ob h; obtain ⟨v_4, hv_4, h⟩ := h
  replace h := ob h; obtain ⟨w_6, hw_6, h⟩ := h
  replace h := ob h; obtain ⟨cs_5, hv_5, h⟩ := h
  replace hq := (mo_c_X1_push F cs1 u0 v_2 v_4 cs_5 hv_5).trans hq
  have h9 := Option.some.inj h
  exact (congrArg (fun z => z.1) h9).symm.trans hq
theorem mo_c_X1_choose_b54 (F : Nat) (cs1 : CS) (u0 : Nat) (cs9 : CS) (h : c_X1_choose_b54 F cs1 u0 = some cs9) : cs9.1 = cs1.1 := by
  unfold c_X1_choose_b54 at h
  have hq : cs1.1 = cs1.1 := rfl
  replace h := ob h; obtain ⟨v_1, hv_1, h⟩ := h
  obtain k9 := mo_c_X1_choose_b60 F cs1 u0 (v_1 + 2) cs9 h
  exact k9.trans hq
theorem mo_c_X1_choose (F : Nat) (cs : CS) (x0 : Nat) (cs9 : CS) (h : c_X1_choose F cs x0 = some cs9) : cs9.1 = cs.1 := by
  unfold c_X1_choose at h
  have hq : cs.1 = cs.1 := rfl
  replace h := ob h; obtain ⟨v_1, hv_1, h⟩ := h
  by_cases c_2 : 3 ≤ v_1
  · skip
    replace h := (if_pos c_2).symm.trans h
    replace h := ob h; obtain ⟨v_3, hv_3, h⟩ := h
    replace h := ob h; obtain ⟨cs_4, hv_4, h⟩ := h
    replace hq := (pI_1 hv_4).trans hq
    replace h := ob h; obtain ⟨v_5, hv_5, h⟩ := h
    replace h := ob h; obtain ⟨v_6, hv_6, h⟩ := h
    replace h := ob h; obtain ⟨v_7, hv_7, h⟩ := h
    by_cases c_8 : v_7 = 0
    · skip
      replace h := (if_pos c_8).symm.trans h
      replace h := ob h; obtain ⟨v_9, hv_9, h⟩ := h
      replace h := ob h; obtain ⟨v_10, hv_10, h⟩ := h
      replace h := ob h; obtain ⟨v_11, hv_11, h⟩ := h
      by_cases c_12 : v_11 = 0
      · skip
        replace h := (if_pos c_12).symm.trans h
        obtain k9 := mo_c_X1_choose_b54 F cs_4 x0 cs9 h
        exact k9.trans hq
      · skip
        replace h := (if_neg c_12).symm.trans h
        replace h := ob h; obtain ⟨v_13, hv_13, h⟩ := h
        obtain k9 := mo_c_X1_choose_b60 F cs_4 x0 (v_13 + 1) cs9 h
        exact k9.trans hq
    · skip
      replace h := (if_neg c_8).symm.trans h
      obtain k9 := mo_c_X1_choose_b54 F cs_4 x0 cs9 h
      exact k9.trans hq
  · skip
    replace h := (if_neg c_2).symm.trans h
    have h9 := Option.some.inj h
    exact (congrArg (fun z => z.1) h9).symm.trans hq
theorem mo_c_X1_search_b14 (F : Nat) (cs1 : CS) (cs9 : CS) (h : c_X1_search_b14 F cs1 = some cs9) : cs9.1 = cs1.1 := by
  unfold c_X1_search_b14 at h
  have hq : cs1.1 = cs1.1 := rfl
  have h9 := Option.some.inj h
  exact (congrArg (fun z => z.1) h9).symm.trans hq
theorem mo_c_X1_search_b176 (F : Nat) (cs1 : CS) (y0 : Int32) (y1 : Int64) (y2 : Nat) (cs9 : CS) (h : c_X1_search_b176 F cs1 y0 y1 y2 = some cs9) : cs9.1 = cs1.1 := by
  unfold c_X1_search_b176 at h
  have hq : cs1.1 = cs1.1 := rfl
  replace h := ob h; obtain ⟨w_2, hw_2, h⟩ := h
  replace h := ob h; obtain ⟨cs_1, hv_1, h⟩ := h
  replace hq := (mo_c_X1_push F cs1 y2 y1 y0 cs_1 hv_1).trans hq
  have h9 := Option.some.inj h
  exact (congrArg (fun z => z.1) h9).symm.trans hq
theorem mo_c_X1_search_b175 (F : Nat) (cs1 : CS) (y0 : Int64) (y1 : Nat) (cs9 : CS) (h : c_X1_search_b175 F cs1 y0 y1 = some cs9) : cs9.1 = cs1.1 := by
  unfold c_X1_search_b175 at h
  have hq : cs1.1 = cs1.1 := rfl
  obtain k9 := mo_c_X1_search_b176 F cs1 0 y0 y1 cs9 h
  exact k9.trans hq
theorem mo_c_X1_search_b162 (F : Nat) (cs1 : CS) (u3 : Int32) (u4 : Int32) (y0 : Int64) (y1 : Nat) (cs9 : CS) (h : c_X1_search_b162 F cs1 u3 u4 y0 y1 = some cs9) : cs9.1 = cs1.1 := by
  unfold c_X1_search_b162 at h
  have hq : cs1.1 = cs1.1 := rfl
  by_cases c_1 : u4 = 0
  · skip
    replace h := (if_pos c_1).symm.trans h
    by_cases c_2 : u3 = 0
    · skip
      replace h := (if_pos c_2).symm.trans h
      obtain k9 := mo_c_X1_search_b175 F cs1 y0 y1 cs9 h
      exact k9.trans hq
    · skip
      replace h := (if_neg c_2).symm.trans h
      obtain k9 := mo_c_X1_search_b176 F cs1 1 y0 y1 cs9 h
      exact k9.trans hq
  · skip
    replace h := (if_neg c_1).symm.trans h
    obtain k9 := mo_c_X1_search_b175 F cs1 y0 y1 cs9 h
    exact k9.trans hq
theorem mo_c_X1_search_b139 (F : Nat) (rc56 : CS → Nat → Int32 → Int32 → Int32 → Int32 → Int32 → Option CS) (hrc56 : ∀ (cs1 : CS) (u0 : Nat) (u1 : Int32) (u2 : Int32) (u3 : Int32) (u4 : Int32) (u5 : Int32) (cs9 : CS), rc56 cs1 u0 u1 u2 u3 u4 u5 = some cs9 → cs9.1 = cs1.1) (cs1 : CS) (u0 : Nat) (u1 : Int32) (u2 : Int32) (u3 : Int32) (u5 : Int32) (y0 : Int32) (cs9 : CS) (h : c_X1_search_b139 F rc56 cs1 u0 u1 u2 u3 u5 y0 = some cs9) : cs9.1 = cs1.1 := by
  unfold c_X1_search_b139 at h
  have hq : cs1.1 = cs1.1 := rfl
  obtain k9 := hrc56 cs1 u0 u1 u2 u3 y0 (u5 + 1) cs9 h
  exact k9.trans hq
theorem mo_c_X1_search_b134 (F : Nat) (rc56 : CS → Nat → Int32 → Int32 → Int32 → Int32 → Int32 → Option CS) (hrc56 : ∀ (cs1 : CS) (u0 : Nat) (u1 : Int32) (u2 : Int32) (u3 : Int32) (u4 : Int32) (u5 : Int32) (cs9 : CS), rc56 cs1 u0 u1 u2 u3 u4 u5 = some cs9 → cs9.1 = cs1.1) (cs1 : CS) (u0 : Nat) (u1 : Int32) (u2 : Int32) (u3 : Int32) (u5 : Int32) (cs9 : CS) (h : c_X1_search_b134 F rc56 cs1 u0 u1 u2 u3 u5 = some cs9) : cs9.1 = cs1.1 := by
  unfold c_X1_search_b134 at h
  have hq : cs1.1 = cs1.1 := rfl
  obtain k9 := mo_c_X1_search_b139 F rc56 hrc56 cs1 u0 u1 u2 u3 u5 1 cs9 h
  exact k9.trans hq
theorem mo_c_X1_search_b138 (F : Nat) (rc56 : CS → Nat → Int32 → Int32 → Int32 → Int32 → Int32 → Option CS) (hrc56 : ∀ (cs1 : CS) (u0 : Nat) (u1 : Int32) (u2 : Int32) (u3 : Int32) (u4 : Int32) (u5 : Int32) (cs9 : CS), rc56 cs1 u0 u1 u2 u3 u4 u5 = some cs9 → cs9.1 = cs1.1) (cs1 : CS) (u0 : Nat) (u1 : Int32) (u2 : Int32) (u3 : Int32) (u5 : Int32) (cs9 : CS) (h : c_X1_search_b138 F rc56 cs1 u0 u1 u2 u3 u5 = some cs9) : cs9.1 = cs1.1 := by
  unfold c_X1_search_b138 at h
  have hq : cs1.1 = cs1.1 := rfl
  obtain k9 := mo_c_X1_search_b139 F rc56 hrc56 cs1 u0 u1 u2 u3 u5 0 cs9 h
  exact k9.trans hq
theorem mo_c_X1_search_b86 (F : Nat) (rc56 : CS → Nat → Int32 → Int32 → Int32 → Int32 → Int32 → Option CS) (hrc56 : ∀ (cs1 : CS) (u0 : Nat) (u1 : Int32) (u2 : Int32) (u3 : Int32) (u4 : Int32) (u5 : Int32) (cs9 : CS), rc56 cs1 u0 u1 u2 u3 u4 u5 = some cs9 → cs9.1 = cs1.1) (cs1 : CS) (u0 : Nat) (u1 : Int32) (u2 : Int32) (u4 : Int32) (u5 : Int32) (y0 : Int32) (cs9 : CS) (h : c_X1_search_b86 F rc56 cs1 u0 u1 u2 u4 u5 y0 = some cs9) : cs9.1 = cs1.1 := by
  unfold c_X1_search_b86 at h
  have hq : cs1.1 = cs1.1 := rfl
  by_cases c_1 : u4 = 0
  · skip
    replace h := (if_pos c_1).symm.trans h
    replace h := ob h; obtain ⟨v_2, hv_2, h⟩ := h
    replace h := ob h; obtain ⟨v_3, hv_3, h⟩ := h
    replace h := ob h; obtain ⟨v_4, hv_4, h⟩ := h
    by_cases c_5 : v_4 = 0
    · skip
      replace h := (if_pos c_5).symm.trans h
      replace h := ob h; obtain ⟨v_6, hv_6, h⟩ := h
      replace h := ob h; obtain ⟨v_7, hv_7, h⟩ := h
      by_cases c_8 : v_7 = 0
      · skip
        replace h := (if_pos c_8).symm.trans h
        replace h := ob h; obtain ⟨v_9, hv_9, h⟩ := h
        replace h := ob h; obtain ⟨v_10, hv_10, h⟩ := h
        replace h := ob h; obtain ⟨v_11, hv_11, h⟩ := h
        replace h := ob h; obtain ⟨v_12, hv_12, h⟩ := h
        replace h := ob h; obtain ⟨v_13, hv_13, h⟩ := h
        by_cases c_14 : v_10 = v_13
        · skip
          replace h := (if_pos c_14).symm.trans h
          obtain k9 := mo_c_X1_search_b134 F rc56 hrc56 cs1 u0 u1 u2 y0 u5 cs9 h
          exact k9.trans hq
        · skip
          replace h := (if_neg c_14).symm.trans h
          obtain k9 := mo_c_X1_search_b138 F rc56 hrc56 cs1 u0 u1 u2 y0 u5 cs9 h
          exact k9.trans hq
      · skip
        replace h := (if_neg c_8).symm.trans h
        obtain k9 := mo_c_X1_search_b138 F rc56 hrc56 cs1 u0 u1 u2 y0 u5 cs9 h
        exact k9.trans hq
    · skip
      replace h := (if_neg c_5).symm.trans h
      obtain k9 := mo_c_X1_search_b138 F rc56 hrc56 cs1 u0 u1 u2 y0 u5 cs9 h
      exact k9.trans hq
  · skip
    replace h := (if_neg c_1).symm.trans h
    obtain k9 := mo_c_X1_search_b134 F rc56 hrc56 cs1 u0 u1 u2 y0 u5 cs9 h
    exact k9.trans hq
theorem mo_c_X1_search_b81 (F : Nat) (rc56 : CS → Nat → Int32 → Int32 → Int32 → Int32 → Int32 → Option CS) (hrc56 : ∀ (cs1 : CS) (u0 : Nat) (u1 : Int32) (u2 : Int32) (u3 : Int32) (u4 : Int32) (u5 : Int32) (cs9 : CS), rc56 cs1 u0 u1 u2 u3 u4 u5 = some cs9 → cs9.1 = cs1.1) (cs1 : CS) (u0 : Nat) (u1 : Int32) (u2 : Int32) (u4 : Int32) (u5 : Int32) (cs9 : CS) (h : c_X1_search_b81 F rc56 cs1 u0 u1 u2 u4 u5 = some cs9) : cs9.1 = cs1.1 := by
  unfold c_X1_search_b81 at h
  have hq : cs1.1 = cs1.1 := rfl
  obtain k9 := mo_c_X1_search_b86 F rc56 hrc56 cs1 u0 u1 u2 u4 u5 1 cs9 h
  exact k9.trans hq
theorem mo_c_X1_search_L56 (F : Nat) : ∀ (lf_56 : Nat) (cs1 : CS) (u0 : Nat) (u1 : Int32) (u2 : Int32) (u3 : Int32) (u4 : Int32) (u5 : Int32) (cs9 : CS), c_X1_search_L56 F lf_56 cs1 u0 u1 u2 u3 u4 u5 = some cs9 → cs9.1 = cs1.1 := by
  intro lf_56
  induction lf_56 with
  | zero => intro cs1 u0 u1 u2 u3 u4 u5 cs9 h; cases (show (none : Option CS) = _ from h)
  | succ lf_56 ih_56 =>
    intro cs1 u0 u1 u2 u3 u4 u5 cs9 h
    rw [c_X1_search_L56] at h
    have hq : cs1.1 = cs1.1 := rfl
    replace h := ob h; obtain ⟨v_1, hv_1, h⟩ := h
    by_cases c_2 : (v_1 + u1) < u5
    · skip
      replace h := (if_pos c_2).symm.trans h
      by_cases c_3 : u4 = 0
      · skip
        replace h := (if_pos c_3).symm.trans h
        obtain k9 := mo_c_X1_search_b162 F cs1 u3 u4 ((1 - u2 : Int32).toInt64) u0 cs9 h
        exact k9.trans hq
      · skip
        replace h := (if_neg c_3).symm.trans h
        obtain k9 := mo_c_X1_search_b162 F cs1 u3 u4 ((u2 : Int32).toInt64) u0 cs9 h
        exact k9.trans hq
    · skip
      replace h := (if_neg c_2).symm.trans h
      by_cases c_4 : u3 = 0
      · skip
        replace h := (if_pos c_4).symm.trans h
        replace h := ob h; obtain ⟨v_5, hv_5, h⟩ := h
        replace h := ob h; obtain ⟨v_6, hv_6, h⟩ := h
        by_cases c_7 : v_6 = 0
        · skip
          replace h := (if_pos c_7).symm.trans h
          obtain k9 := mo_c_X1_search_b86 F (c_X1_search_L56 F lf_56) ih_56 cs1 u0 u1 u2 u4 u5 0 cs9 h
          exact k9.trans hq
        · skip
          replace h := (if_neg c_7).symm.trans h
          obtain k9 := mo_c_X1_search_b81 F (c_X1_search_L56 F lf_56) ih_56 cs1 u0 u1 u2 u4 u5 cs9 h
          exact k9.trans hq
      · skip
        replace h := (if_neg c_4).symm.trans h
        obtain k9 := mo_c_X1_search_b81 F (c_X1_search_L56 F lf_56) ih_56 cs1 u0 u1 u2 u4 u5 cs9 h
        exact k9.trans hq
theorem mo_c_X1_search_b44 (F : Nat) (cs1 : CS) (u0 : Nat) (u1 : Int32) (u2 : Int32) (y0 : Int32) (cs9 : CS) (h : c_X1_search_b44 F cs1 u0 u1 u2 y0 = some cs9) : cs9.1 = cs1.1 := by
  unfold c_X1_search_b44 at h
  have hq : cs1.1 = cs1.1 := rfl
  replace h := ob h; obtain ⟨v_1, hv_1, h⟩ := h
  obtain k9 := mo_c_X1_search_L56 F F cs1 u0 u1 u2 y0 0 (v_1 + 1) cs9 h
  exact k9.trans hq
theorem mo_c_X1_search (F : Nat) (cs : CS) (x0 : Nat) (x1 : Int32) (x2 : Int32) (cs9 : CS) (h : c_X1_search F cs x0 x1 x2 = some cs9) : cs9.1 = cs.1 := by
  unfold c_X1_search at h
  have hq : cs.1 = cs.1 := rfl
  by_cases c_1 : x1 < 0
  · skip
    replace h := (if_pos c_1).symm.trans h
    obtain k9 := mo_c_X1_search_b14 F cs cs9 h
    exact k9.trans hq
  · skip
    replace h := (if_neg c_1).symm.trans h
    replace h := ob h; obtain ⟨v_2, hv_2, h⟩ := h
    by_cases c_3 : (x1 + 1) ≤ v_2
    · skip
      replace h := (if_pos c_3).symm.trans h
      replace h := ob h; obtain ⟨v_4, hv_4, h⟩ := h
      replace h := ob h; obtain ⟨cs_5, hv_5, h⟩ := h
      replace hq := (pI_1 hv_5).trans hq
      replace h := ob h; obtain ⟨v_6, hv_6, h⟩ := h
      replace h := ob h; obtain ⟨v_7, hv_7, h⟩ := h
      replace h := ob h; obtain ⟨v_8, hv_8, h⟩ := h
      by_cases c_9 : v_8 = 0
      · skip
        replace h := (if_pos c_9).symm.trans h
        obtain k9 := mo_c_X1_search_b44 F cs_5 x0 x1 x2 0 cs9 h
        exact k9.trans hq
      · skip
        replace h := (if_neg c_9).symm.trans h
        obtain k9 := mo_c_X1_search_b44 F cs_5 x0 x1 x2 1 cs9 h
        exact k9.trans hq
    · skip
      replace h := (if_neg c_3).symm.trans h
      obtain k9 := mo_c_X1_search_b14 F cs cs9 h
      exact k9.trans hq
theorem mo_c_X1_two_b178 (F : Nat) (cs1 : CS) (y0 : Int32) (y1 : Int64) (y2 : Nat) (cs9 : CS) (h : c_X1_two_b178 F cs1 y0 y1 y2 = some cs9) : cs9.1 = cs1.1 := by
  unfold c_X1_two_b178 at h
  have hq : cs1.1 = cs1.1 := rfl
  replace h := ob h; obtain ⟨w_2, hw_2, h⟩ := h
  replace h := ob h; obtain ⟨cs_1, hv_1, h⟩ := h
  replace hq := (mo_c_X1_push F cs1 y2 y1 y0 cs_1 hv_1).trans hq
  have h9 := Option.some.inj h
  exact (congrArg (fun z => z.1) h9).symm.trans hq
theorem mo_c_X1_two_b173 (F : Nat) (cs1 : CS) (y0 : Int64) (y1 : Nat) (cs9 : CS) (h : c_X1_two_b173 F cs1 y0 y1 = some cs9) : cs9.1 = cs1.1 := by
  unfold c_X1_two_b173 at h
  have hq : cs1.1 = cs1.1 := rfl
  obtain k9 := mo_c_X1_two_b178 F cs1 0 y0 y1 cs9 h
  exact k9.trans hq
theorem mo_c_X1_two_b177 (F : Nat) (cs1 : CS) (y0 : Int64) (y1 : Nat) (cs9 : CS) (h : c_X1_two_b177 F cs1 y0 y1 = some cs9) : cs9.1 = cs1.1 := by
  unfold c_X1_two_b177 at h
  have hq : cs1.1 = cs1.1 := rfl
  obtain k9 := mo_c_X1_two_b178 F cs1 1 y0 y1 cs9 h
  exact k9.trans hq
theorem mo_c_X1_two_b158 (F : Nat) (cs1 : CS) (u6 : Int32) (u7 : Int32) (u9 : Int32) (y0 : Int64) (y1 : Nat) (cs9 : CS) (h : c_X1_two_b158 F cs1 u6 u7 u9 y0 y1 = some cs9) : cs9.1 = cs1.1 := by
  unfold c_X1_two_b158 at h
  have hq : cs1.1 = cs1.1 := rfl
  by_cases c_1 : u9 = 0
  · skip
    replace h := (if_pos c_1).symm.trans h
    by_cases c_2 : u6 = 0
    · skip
      replace h := (if_pos c_2).symm.trans h
      obtain k9 := mo_c_X1_two_b177 F cs1 y0 y1 cs9 h
      exact k9.trans hq
    · skip
      replace h := (if_neg c_2).symm.trans h
      by_cases c_3 : u7 = 0
      · skip
        replace h := (if_pos c_3).symm.trans h
        obtain k9 := mo_c_X1_two_b177 F cs1 y0 y1 cs9 h
        exact k9.trans hq
      · skip
        replace h := (if_neg c_3).symm.trans h
        obtain k9 := mo_c_X1_two_b173 F cs1 y0 y1 cs9 h
        exact k9.trans hq
  · skip
    replace h := (if_neg c_1).symm.trans h
    obtain k9 := mo_c_X1_two_b173 F cs1 y0 y1 cs9 h
    exact k9.trans hq
theorem mo_c_X1_two_b139 (F : Nat) (cs1 : CS) (u0 : Nat) (u6 : Int32) (u7 : Int32) (u8 : Int32) (y0 : Int32) (cs9 : CS) (h : c_X1_two_b139 F cs1 u0 u6 u7 u8 y0 = some cs9) : cs9.1 = cs1.1 := by
  unfold c_X1_two_b139 at h
  have hq : cs1.1 = cs1.1 := rfl
  by_cases c_1 : y0 = 0
  · skip
    replace h := (if_pos c_1).symm.trans h
    obtain k9 := mo_c_X1_two_b158 F cs1 u6 u7 y0 ((1 - u8 : Int32).toInt64) u0 cs9 h
    exact k9.trans hq
  · skip
    replace h := (if_neg c_1).symm.trans h
    obtain k9 := mo_c_X1_two_b158 F cs1 u6 u7 y0 ((u8 : Int32).toInt64) u0 cs9 h
    exact k9.trans hq
theorem mo_c_X1_two_b134 (F : Nat) (cs1 : CS) (u0 : Nat) (u6 : Int32) (u7 : Int32) (u8 : Int32) (cs9 : CS) (h : c_X1_two_b134 F cs1 u0 u6 u7 u8 = some cs9) : cs9.1 = cs1.1 := by
  unfold c_X1_two_b134 at h
  have hq : cs1.1 = cs1.1 := rfl
  obtain k9 := mo_c_X1_two_b139 F cs1 u0 u6 u7 u8 1 cs9 h
  exact k9.trans hq
theorem mo_c_X1_two_b138 (F : Nat) (cs1 : CS) (u0 : Nat) (u6 : Int32) (u7 : Int32) (u8 : Int32) (cs9 : CS) (h : c_X1_two_b138 F cs1 u0 u6 u7 u8 = some cs9) : cs9.1 = cs1.1 := by
  unfold c_X1_two_b138 at h
  have hq : cs1.1 = cs1.1 := rfl
  obtain k9 := mo_c_X1_two_b139 F cs1 u0 u6 u7 u8 0 cs9 h
  exact k9.trans hq
theorem mo_c_X1_two_b120 (F : Nat) (cs1 : CS) (u0 : Nat) (u4 : Int64) (u6 : Int32) (u7 : Int32) (u8 : Int32) (cs9 : CS) (h : c_X1_two_b120 F cs1 u0 u4 u6 u7 u8 = some cs9) : cs9.1 = cs1.1 := by
  unfold c_X1_two_b120 at h
  have hq : cs1.1 = cs1.1 := rfl
  by_cases c_1 : u7 = 0
  · skip
    replace h := (if_pos c_1).symm.trans h
    obtain k9 := mo_c_X1_two_b138 F cs1 u0 u6 u7 u8 cs9 h
    exact k9.trans hq
  · skip
    replace h := (if_neg c_1).symm.trans h
    by_cases c_2 : u4 = ((u8 : Int32).toInt64)
    · skip
      replace h := (if_pos c_2).symm.trans h
      obtain k9 := mo_c_X1_two_b134 F cs1 u0 u6 u7 u8 cs9 h
      exact k9.trans hq
    · skip
      replace h := (if_neg c_2).symm.trans h
      obtain k9 := mo_c_X1_two_b138 F cs1 u0 u6 u7 u8 cs9 h
      exact k9.trans hq
theorem mo_c_X1_two_b105 (F : Nat) (cs1 : CS) (u0 : Nat) (u2 : Int64) (u4 : Int64) (u6 : Int32) (u7 : Int32) (y0 : Int32) (cs9 : CS) (h : c_X1_two_b105 F cs1 u0 u2 u4 u6 u7 y0 = some cs9) : cs9.1 = cs1.1 := by
  unfold c_X1_two_b105 at h
  have hq : cs1.1 = cs1.1 := rfl
  by_cases c_1 : u6 = 0
  · skip
    replace h := (if_pos c_1).symm.trans h
    obtain k9 := mo_c_X1_two_b120 F cs1 u0 u4 u6 u7 y0 cs9 h
    exact k9.trans hq
  · skip
    replace h := (if_neg c_1).symm.trans h
    by_cases c_2 : u2 = ((y0 : Int32).toInt64)
    · skip
      replace h := (if_pos c_2).symm.trans h
      obtain k9 := mo_c_X1_two_b134 F cs1 u0 u6 u7 y0 cs9 h
      exact k9.trans hq
    · skip
      replace h := (if_neg c_2).symm.trans h
      obtain k9 := mo_c_X1_two_b120 F cs1 u0 u4 u6 u7 y0 cs9 h
      exact k9.trans hq
theorem mo_c_X1_two_b94 (F : Nat) (cs1 : CS) (u0 : Nat) (u1 : Int32) (u2 : Int64) (u4 : Int64) (u6 : Int32) (u7 : Int32) (cs9 : CS) (h : c_X1_two_b94 F cs1 u0 u1 u2 u4 u6 u7 = some cs9) : cs9.1 = cs1.1 := by
  unfold c_X1_two_b94 at h
  have hq : cs1.1 = cs1.1 := rfl
  by_cases c_1 : u1 = 28
  · skip
    replace h := (if_pos c_1).symm.trans h
    obtain k9 := mo_c_X1_two_b105 F cs1 u0 u2 u4 u6 u7 0 cs9 h
    exact k9.trans hq
  · skip
    replace h := (if_neg c_1).symm.trans h
    obtain k9 := mo_c_X1_two_b105 F cs1 u0 u2 u4 u6 u7 1 cs9 h
    exact k9.trans hq
theorem mo_c_X1_two_b235 (F : Nat) (cs1 : CS) (y0 : Int32) (y1 : Int64) (y2 : Nat) (cs9 : CS) (h : c_X1_two_b235 F cs1 y0 y1 y2 = some cs9) : cs9.1 = cs1.1 := by
  unfold c_X1_two_b235 at h
  have hq : cs1.1 = cs1.1 := rfl
  replace h := ob h; obtain ⟨w_2, hw_2, h⟩ := h
  replace h := ob h; obtain ⟨cs_1, hv_1, h⟩ := h
  replace hq := (mo_c_X1_push F cs1 y2 y1 y0 cs_1 hv_1).trans hq
  have h9 := Option.some.inj h
  exact (congrArg (fun z => z.1) h9).symm.trans hq
theorem mo_c_X1_two_b225 (F : Nat) (cs1 : CS) (u8 : Int32) (y0 : Int64) (y1 : Nat) (cs9 : CS) (h : c_X1_two_b225 F cs1 u8 y0 y1 = some cs9) : cs9.1 = cs1.1 := by
  unfold c_X1_two_b225 at h
  have hq : cs1.1 = cs1.1 := rfl
  by_cases c_1 : u8 = 0
  · skip
    replace h := (if_pos c_1).symm.trans h
    obtain k9 := mo_c_X1_two_b235 F cs1 1 y0 y1 cs9 h
    exact k9.trans hq
  · skip
    replace h := (if_neg c_1).symm.trans h
    obtain k9 := mo_c_X1_two_b235 F cs1 0 y0 y1 cs9 h
    exact k9.trans hq
theorem mo_c_X1_two_b206 (F : Nat) (cs1 : CS) (u0 : Nat) (u1 : Int32) (u2 : Int64) (u4 : Int64) (y0 : Int32) (cs9 : CS) (h : c_X1_two_b206 F cs1 u0 u1 u2 u4 y0 = some cs9) : cs9.1 = cs1.1 := by
  unfold c_X1_two_b206 at h
  have hq : cs1.1 = cs1.1 := rfl
  by_cases c_1 : y0 = 0
  · skip
    replace h := (if_pos c_1).symm.trans h
    obtain k9 := mo_c_X1_two_b225 F cs1 y0 0 u0 cs9 h
    exact k9.trans hq
  · skip
    replace h := (if_neg c_1).symm.trans h
    replace h := ob h; obtain ⟨v_2, hv_2, h⟩ := h
    obtain k9 := mo_c_X1_two_b225 F cs1 y0 v_2 u0 cs9 h
    exact k9.trans hq
theorem mo_c_X1_two_b205 (F : Nat) (cs1 : CS) (u0 : Nat) (u1 : Int32) (u2 : Int64) (u4 : Int64) (cs9 : CS) (h : c_X1_two_b205 F cs1 u0 u1 u2 u4 = some cs9) : cs9.1 = cs1.1 := by
  unfold c_X1_two_b205 at h
  have hq : cs1.1 = cs1.1 := rfl
  obtain k9 := mo_c_X1_two_b206 F cs1 u0 u1 u2 u4 0 cs9 h
  exact k9.trans hq
theorem mo_c_X1_two_b80 (F : Nat) (cs1 : CS) (u0 : Nat) (u1 : Int32) (u2 : Int64) (u4 : Int64) (u6 : Int32) (y0 : Int32) (cs9 : CS) (h : c_X1_two_b80 F cs1 u0 u1 u2 u4 u6 y0 = some cs9) : cs9.1 = cs1.1 := by
  unfold c_X1_two_b80 at h
  have hq : cs1.1 = cs1.1 := rfl
  by_cases c_1 : u1 = 28
  · skip
    replace h := (if_pos c_1).symm.trans h
    obtain k9 := mo_c_X1_two_b94 F cs1 u0 u1 u2 u4 u6 y0 cs9 h
    exact k9.trans hq
  · skip
    replace h := (if_neg c_1).symm.trans h
    by_cases c_2 : u1 = 29
    · skip
      replace h := (if_pos c_2).symm.trans h
      obtain k9 := mo_c_X1_two_b94 F cs1 u0 u1 u2 u4 u6 y0 cs9 h
      exact k9.trans hq
    · skip
      replace h := (if_neg c_2).symm.trans h
      by_cases c_3 : u6 = 0
      · skip
        replace h := (if_pos c_3).symm.trans h
        obtain k9 := mo_c_X1_two_b205 F cs1 u0 u1 u2 u4 cs9 h
        exact k9.trans hq
      · skip
        replace h := (if_neg c_3).symm.trans h
        by_cases c_4 : y0 = 0
        · skip
          replace h := (if_pos c_4).symm.trans h
          obtain k9 := mo_c_X1_two_b205 F cs1 u0 u1 u2 u4 cs9 h
          exact k9.trans hq
        · skip
          replace h := (if_neg c_4).symm.trans h
          replace h := ob h; obtain ⟨v_5, hv_5, h⟩ := h
          by_cases c_6 : v_5 = 0
          · skip
            replace h := (if_pos c_6).symm.trans h
            obtain k9 := mo_c_X1_two_b205 F cs1 u0 u1 u2 u4 cs9 h
            exact k9.trans hq
          · skip
            replace h := (if_neg c_6).symm.trans h
            obtain k9 := mo_c_X1_two_b206 F cs1 u0 u1 u2 u4 1 cs9 h
            exact k9.trans hq
theorem mo_c_X1_two_b59 (F : Nat) (cs1 : CS) (u0 : Nat) (u1 : Int32) (u2 : Int64) (u4 : Int64) (y0 : Int32) (cs9 : CS) (h : c_X1_two_b59 F cs1 u0 u1 u2 u4 y0 = some cs9) : cs9.1 = cs1.1 := by
  unfold c_X1_two_b59 at h
  have hq : cs1.1 = cs1.1 := rfl
  replace h := ob h; obtain ⟨v_1, hv_1, h⟩ := h
  replace h := ob h; obtain ⟨v_2, hv_2, h⟩ := h
  replace h := ob h; obtain ⟨v_3, hv_3, h⟩ := h
  by_cases c_4 : v_3 = 0
  · skip
    replace h := (if_pos c_4).symm.trans h
    obtain k9 := mo_c_X1_two_b80 F cs1 u0 u1 u2 u4 y0 1 cs9 h
    exact k9.trans hq
  · skip
    replace h := (if_neg c_4).symm.trans h
    obtain k9 := mo_c_X1_two_b80 F cs1 u0 u1 u2 u4 y0 0 cs9 h
    exact k9.trans hq
theorem mo_c_X1_two (F : Nat) (cs : CS) (x0 : Nat) (x1 : Int32) (cs9 : CS) (h : c_X1_two F cs x0 x1 = some cs9) : cs9.1 = cs.1 := by
  unfold c_X1_two at h
  have hq : cs.1 = cs.1 := rfl
  replace h := ob h; obtain ⟨v_1, hv_1, h⟩ := h
  by_cases c_2 : 2 ≤ v_1
  · skip
    replace h := (if_pos c_2).symm.trans h
    replace h := ob h; obtain ⟨v_3, hv_3, h⟩ := h
    replace h := ob h; obtain ⟨cs_4, hv_4, h⟩ := h
    replace hq := (pI_1 hv_4).trans hq
    replace h := ob h; obtain ⟨v_5, hv_5, h⟩ := h
    replace h := ob h; obtain ⟨v_6, hv_6, h⟩ := h
    replace h := ob h; obtain ⟨v_7, hv_7, h⟩ := h
    replace h := ob h; obtain ⟨v_8, hv_8, h⟩ := h
    replace h := ob h; obtain ⟨v_9, hv_9, h⟩ := h
    replace h := ob h; obtain ⟨v_10, hv_10, h⟩ := h
    replace h := ob h; obtain ⟨v_11, hv_11, h⟩ := h
    replace h := ob h; obtain ⟨v_12, hv_12, h⟩ := h
    replace h := ob h; obtain ⟨v_13, hv_13, h⟩ := h
    by_cases c_14 : v_13 = 0
    · skip
      replace h := (if_pos c_14).symm.trans h
      obtain k9 := mo_c_X1_two_b59 F cs_4 x0 x1 v_7 v_10 1 cs9 h
      exact k9.trans hq
    · skip
      replace h := (if_neg c_14).symm.trans h
      obtain k9 := mo_c_X1_two_b59 F cs_4 x0 x1 v_7 v_10 0 cs9 h
      exact k9.trans hq
  · skip
    replace h := (if_neg c_2).symm.trans h
    have h9 := Option.some.inj h
    exact (congrArg (fun z => z.1) h9).symm.trans hq
theorem mo_c_X1_compute_b443 (F : Nat) (cs1 : CS) (y0 : Int32) (cs9 : CS) (r9 : Int32) (h : c_X1_compute_b443 F cs1 y0 = some (cs9, r9)) : cs9.1 = cs1.1 := by
  unfold c_X1_compute_b443 at h
  have hq : cs1.1 = cs1.1 := rfl
  replace h := ob h; obtain ⟨w_1, hw_1, h⟩ := h
  have h9 := (Prod.mk.inj (Option.some.inj h)).1
  exact (congrArg (fun z => z.1) h9).symm.trans hq
theorem mo_c_X1_compute_b442 (F : Nat) (cs1 : CS) (cs9 : CS) (r9 : Int32) (h : c_X1_compute_b442 F cs1 = some (cs9, r9)) : cs9.1 = cs1.1 := by
  unfold c_X1_compute_b442 at h
  have hq : cs1.1 = cs1.1 := rfl
  obtain k9 := mo_c_X1_compute_b443 F cs1 0 cs9 r9 h
  exact k9.trans hq
theorem mo_c_X1_compute_b404 (F : Nat) (rc23 : CS → Nat → Int32 → Nat → Int32 → Int32 → Option (CS × Int32)) (hrc23 : ∀ (cs1 : CS) (u0 : Nat) (u1 : Int32) (u2 : Nat) (u3 : Int32) (u4 : Int32) (cs9 : CS) (r9 : Int32), rc23 cs1 u0 u1 u2 u3 u4 = some (cs9, r9) → cs9.1 = cs1.1) (cs1 : CS) (u0 : Nat) (u1 : Int32) (u2 : Nat) (u3 : Int32) (u4 : Int32) (cs9 : CS) (r9 : Int32) (h : c_X1_compute_b404 F rc23 cs1 u0 u1 u2 u3 u4 = some (cs9, r9)) : cs9.1 = cs1.1 := by
  unfold c_X1_compute_b404 at h
  have hq : cs1.1 = cs1.1 := rfl
  obtain k9 := hrc23 cs1 u0 u1 u2 u3 (u4 + 1) cs9 r9 h
  exact k9.trans hq
theorem mo_c_X1_compute_b333 (F : Nat) (rc23 : CS → Nat → Int32 → Nat → Int32 → Int32 → Option (CS × Int32)) (hrc23 : ∀ (cs1 : CS) (u0 : Nat) (u1 : Int32) (u2 : Nat) (u3 : Int32) (u4 : Int32) (cs9 : CS) (r9 : Int32), rc23 cs1 u0 u1 u2 u3 u4 = some (cs9, r9) → cs9.1 = cs1.1) (cs1 : CS) (u0 : Nat) (u1 : Int32) (u2 : Nat) (u3 : Int32) (u4 : Int32) (y0 : Int32) (y1 : Int64) (y2 : Nat) (cs9 : CS) (r9 : Int32) (h : c_X1_compute_b333 F rc23 cs1 u0 u1 u2 u3 u4 y0 y1 y2 = some (cs9, r9)) : cs9.1 = cs1.1 := by
  unfold c_X1_compute_b333 at h
  have hq : cs1.1 = cs1.1 := rfl
  replace h := ob h; obtain ⟨w_2, hw_2, h⟩ := h
  replace h := ob h; obtain ⟨cs_1, hv_1, h⟩ := h
  replace hq := (mo_c_X1_push F cs1 y2 y1 y0 cs_1 hv_1).trans hq
  obtain k9 := mo_c_X1_compute_b404 F rc23 hrc23 cs_1 u0 u1 u2 u3 u4 cs9 r9 h
  exact k9.trans hq
theorem mo_c_X1_compute_b298 (F : Nat) (rc23 : CS → Nat → Int32 → Nat → Int32 → Int32 → Option (CS × Int32)) (hrc23 : ∀ (cs1 : CS) (u0 : Nat) (u1 : Int32) (u2 : Nat) (u3 : Int32) (u4 : Int32) (cs9 : CS) (r9 : Int32), rc23 cs1 u0 u1 u2 u3 u4 = some (cs9, r9) → cs9.1 = cs1.1) (cs1 : CS) (u0 : Nat) (u1 : Int32) (u2 : Nat) (u3 : Int32) (u4 : Int32) (cs9 : CS) (r9 : Int32) (h : c_X1_compute_b298 F rc23 cs1 u0 u1 u2 u3 u4 = some (cs9, r9)) : cs9.1 = cs1.1 := by
  unfold c_X1_compute_b298 at h
  have hq : cs1.1 = cs1.1 := rfl
  replace h := ob h; obtain ⟨v_1, hv_1, h⟩ := h
  replace h := ob h; obtain ⟨v_2, hv_2, h⟩ := h
  replace h := ob h; obtain ⟨w_4, hw_4, h⟩ := h
  replace h := ob h; obtain ⟨v_3, hv_3, h⟩ := h
  replace h := ob h; obtain ⟨v_5, hv_5, h⟩ := h
  replace h := ob h; obtain ⟨v_6, hv_6, h⟩ := h
  replace h := ob h; obtain ⟨w_8, hw_8, h⟩ := h
  replace h := ob h; obtain ⟨v_7, hv_7, h⟩ := h
  by_cases c_9 : v_7 = 0
  · skip
    replace h := (if_pos c_9).symm.trans h
    obtain k9 := mo_c_X1_compute_b333 F rc23 hrc23 cs1 u0 u1 u2 u3 u4 0 v_3 u0 cs9 r9 h
    exact k9.trans hq
  · skip
    replace h := (if_neg c_9).symm.trans h
    obtain k9 := mo_c_X1_compute_b333 F rc23 hrc23 cs1 u0 u1 u2 u3 u4 1 v_3 u0 cs9 r9 h
    exact k9.trans hq
theorem mo_c_X1_compute_b387 (F : Nat) (rc23 : CS → Nat → Int32 → Nat → Int32 → Int32 → Option (CS × Int32)) (hrc23 : ∀ (cs1 : CS) (u0 : Nat) (u1 : Int32) (u2 : Nat) (u3 : Int32) (u4 : Int32) (cs9 : CS) (r9 : Int32), rc23 cs1 u0 u1 u2 u3 u4 = some (cs9, r9) → cs9.1 = cs1.1) (cs1 : CS) (u0 : Nat) (u1 : Int32) (u2 : Nat) (u3 : Int32) (u4 : Int32) (y0 : Int32) (y1 : Int32) (y2 : Nat) (cs9 : CS) (r9 : Int32) (h : c_X1_compute_b387 F rc23 cs1 u0 u1 u2 u3 u4 y0 y1 y2 = some (cs9, r9)) : cs9.1 = cs1.1 := by
  unfold c_X1_compute_b387 at h
  have hq : cs1.1 = cs1.1 := rfl
  replace h := ob h; obtain ⟨w_2, hw_2, h⟩ := h
  replace h := ob h; obtain ⟨cs_1, hv_1, h⟩ := h
  replace hq := (mo_c_X1_search F cs1 y2 y1 y0 cs_1 hv_1).trans hq
  obtain k9 := mo_c_X1_compute_b404 F rc23 hrc23 cs_1 u0 u1 u2 u3 u4 cs9 r9 h
  exact k9.trans hq
theorem mo_c_X1_compute_b360 (F : Nat) (rc23 : CS → Nat → Int32 → Nat → Int32 → Int32 → Option (CS × Int32)) (hrc23 : ∀ (cs1 : CS) (u0 : Nat) (u1 : Int32) (u2 : Nat) (u3 : Int32) (u4 : Int32) (cs9 : CS) (r9 : Int32), rc23 cs1 u0 u1 u2 u3 u4 = some (cs9, r9) → cs9.1 = cs1.1) (cs1 : CS) (u0 : Nat) (u1 : Int32) (u2 : Nat) (u3 : Int32) (u4 : Int32) (cs9 : CS) (r9 : Int32) (h : c_X1_compute_b360 F rc23 cs1 u0 u1 u2 u3 u4 = some (cs9, r9)) : cs9.1 = cs1.1 := by
  unfold c_X1_compute_b360 at h
  have hq : cs1.1 = cs1.1 := rfl
  replace h := ob h; obtain ⟨v_1, hv_1, h⟩ := h
  replace h := ob h; obtain ⟨v_2, hv_2, h⟩ := h
  replace h := ob h; obtain ⟨v_3, hv_3, h⟩ := h
  replace h := ob h; obtain ⟨v_4, hv_4, h⟩ := h
  by_cases c_5 : v_4 = 27
  · skip
    replace h := (if_pos c_5).symm.trans h
    obtain k9 := mo_c_X1_compute_b387 F rc23 hrc23 cs1 u0 u1 u2 u3 u4 1 (v_2 - 1) u0 cs9 r9 h
    exact k9.trans hq
  · skip
    replace h := (if_neg c_5).symm.trans h
    obtain k9 := mo_c_X1_compute_b387 F rc23 hrc23 cs1 u0 u1 u2 u3 u4 0 (v_2 - 1) u0 cs9 r9 h
    exact k9.trans hq
theorem mo_c_X1_compute_b339 (F : Nat) (rc23 : CS → Nat → Int32 → Nat → Int32 → Int32 → Option (CS × Int32)) (hrc23 : ∀ (cs1 : CS) (u0 : Nat) (u1 : Int32) (u2 : Nat) (u3 : Int32) (u4 : Int32) (cs9 : CS) (r9 : Int32), rc23 cs1 u0 u1 u2 u3 u4 = some (cs9, r9) → cs9.1 = cs1.1) (cs1 : CS) (u0 : Nat) (u1 : Int32) (u2 : Nat) (u3 : Int32) (u4 : Int32) (cs9 : CS) (r9 : Int32) (h : c_X1_compute_b339 F rc23 cs1 u0 u1 u2 u3 u4 = some (cs9, r9)) : cs9.1 = cs1.1 := by
  unfold c_X1_compute_b339 at h
  have hq : cs1.1 = cs1.1 := rfl
  replace h := ob h; obtain ⟨v_1, hv_1, h⟩ := h
  replace h := ob h; obtain ⟨v_2, hv_2, h⟩ := h
  replace h := ob h; obtain ⟨w_4, hw_4, h⟩ := h
  replace h := ob h; obtain ⟨cs_3, hv_3, h⟩ := h
  replace hq := (mo_c_X1_one F cs1 u0 v_2 cs_3 hv_3).trans hq
  obtain k9 := mo_c_X1_compute_b404 F rc23 hrc23 cs_3 u0 u1 u2 u3 u4 cs9 r9 h
  exact k9.trans hq
theorem mo_c_X1_compute_b393 (F : Nat) (rc23 : CS → Nat → Int32 → Nat → Int32 → Int32 → Option (CS × Int32)) (hrc23 : ∀ (cs1 : CS) (u0 : Nat) (u1 : Int32) (u2 : Nat) (u3 : Int32) (u4 : Int32) (cs9 : CS) (r9 : Int32), rc23 cs1 u0 u1 u2 u3 u4 = some (cs9, r9) → cs9.1 = cs1.1) (cs1 : CS) (u0 : Nat) (u1 : Int32) (u2 : Nat) (u3 : Int32) (u4 : Int32) (cs9 : CS) (r9 : Int32) (h : c_X1_compute_b393 F rc23 cs1 u0 u1 u2 u3 u4 = some (cs9, r9)) : cs9.1 = cs1.1 := by
  unfold c_X1_compute_b393 at h
  have hq : cs1.1 = cs1.1 := rfl
  replace h := ob h; obtain ⟨v_1, hv_1, h⟩ := h
  replace h := ob h; obtain ⟨v_2, hv_2, h⟩ := h
  replace h := ob h; obtain ⟨w_4, hw_4, h⟩ := h
  replace h := ob h; obtain ⟨cs_3, hv_3, h⟩ := h
  replace hq := (mo_c_X1_two F cs1 u0 v_2 cs_3 hv_3).trans hq
  obtain k9 := mo_c_X1_compute_b404 F rc23 hrc23 cs_3 u0 u1 u2 u3 u4 cs9 r9 h
  exact k9.trans hq
theorem mo_c_X1_compute_b61 (F : Nat) (rc23 : CS → Nat → Int32 → Nat → Int32 → Int32 → Option (CS × Int32)) (hrc23 : ∀ (cs1 : CS) (u0 : Nat) (u1 : Int32) (u2 : Nat) (u3 : Int32) (u4 : Int32) (cs9 : CS) (r9 : Int32), rc23 cs1 u0 u1 u2 u3 u4 = some (cs9, r9) → cs9.1 = cs1.1) (cs1 : CS) (u0 : Nat) (u1 : Int32) (u2 : Nat) (u3 : Int32) (u4 : Int32) (cs9 : CS) (r9 : Int32) (h : c_X1_compute_b61 F rc23 cs1 u0 u1 u2 u3 u4 = some (cs9, r9)) : cs9.1 = cs1.1 := by
  unfold c_X1_compute_b61 at h
  have hq : cs1.1 = cs1.1 := rfl
  replace h := ob h; obtain ⟨v_1, hv_1, h⟩ := h
  replace h := ob h; obtain ⟨v_2, hv_2, h⟩ := h
  by_cases c_3 : v_2 = 19
  · skip
    replace h := (if_pos c_3).symm.trans h
    replace h := ob h; obtain ⟨w_5, hw_5, h⟩ := h
    replace h := ob h; obtain ⟨cs_4, hv_4, h⟩ := h
    replace hq := (mo_c_X1_choose F cs1 u0 cs_4 hv_4).trans hq
    obtain k9 := mo_c_X1_compute_b404 F rc23 hrc23 cs_4 u0 u1 u2 u3 u4 cs9 r9 h
    exact k9.trans hq
  replace h := (if_neg c_3).symm.trans h
  by_cases c_6 : v_2 = 24
  · skip
    replace h := (if_pos c_6).symm.trans h
    obtain k9 := mo_c_X1_compute_b339 F rc23 hrc23 cs1 u0 u1 u2 u3 u4 cs9 r9 h
    exact k9.trans hq
  replace h := (if_neg c_6).symm.trans h
  by_cases c_7 : v_2 = 25
  · skip
    replace h := (if_pos c_7).symm.trans h
    obtain k9 := mo_c_X1_compute_b339 F rc23 hrc23 cs1 u0 u1 u2 u3 u4 cs9 r9 h
    exact k9.trans hq
  replace h := (if_neg c_7).symm.trans h
  by_cases c_8 : v_2 = 26
  · skip
    replace h := (if_pos c_8).symm.trans h
    replace h := ob h; obtain ⟨w_10, hw_10, h⟩ := h
    replace h := ob h; obtain ⟨cs_9, hv_9, h⟩ := h
    replace hq := (mo_c_X1_push F cs1 u0 0 1 cs_9 hv_9).trans hq
    obtain k9 := mo_c_X1_compute_b404 F rc23 hrc23 cs_9 u0 u1 u2 u3 u4 cs9 r9 h
    exact k9.trans hq
  replace h := (if_neg c_8).symm.trans h
  by_cases c_11 : v_2 = 27
  · skip
    replace h := (if_pos c_11).symm.trans h
    obtain k9 := mo_c_X1_compute_b360 F rc23 hrc23 cs1 u0 u1 u2 u3 u4 cs9 r9 h
    exact k9.trans hq
  replace h := (if_neg c_11).symm.trans h
  by_cases c_12 : v_2 = 30
  · skip
    replace h := (if_pos c_12).symm.trans h
    replace h := ob h; obtain ⟨w_14, hw_14, h⟩ := h
    replace h := ob h; obtain ⟨cs_13, hv_13, h⟩ := h
    replace hq := (mo_c_X1_push F cs1 u0 1 0 cs_13 hv_13).trans hq
    obtain k9 := mo_c_X1_compute_b404 F rc23 hrc23 cs_13 u0 u1 u2 u3 u4 cs9 r9 h
    exact k9.trans hq
  replace h := (if_neg c_12).symm.trans h
  by_cases c_15 : v_2 = 31
  · skip
    replace h := (if_pos c_15).symm.trans h
    replace h := ob h; obtain ⟨w_17, hw_17, h⟩ := h
    replace h := ob h; obtain ⟨cs_16, hv_16, h⟩ := h
    replace hq := (mo_c_X1_push F cs1 u0 0 0 cs_16 hv_16).trans hq
    obtain k9 := mo_c_X1_compute_b404 F rc23 hrc23 cs_16 u0 u1 u2 u3 u4 cs9 r9 h
    exact k9.trans hq
  replace h := (if_neg c_15).symm.trans h
  by_cases c_18 : v_2 = 32
  · skip
    replace h := (if_pos c_18).symm.trans h
    obtain k9 := mo_c_X1_compute_b298 F rc23 hrc23 cs1 u0 u1 u2 u3 u4 cs9 r9 h
    exact k9.trans hq
  replace h := (if_neg c_18).symm.trans h
  by_cases c_19 : v_2 = 33
  · skip
    replace h := (if_pos c_19).symm.trans h
    obtain k9 := mo_c_X1_compute_b298 F rc23 hrc23 cs1 u0 u1 u2 u3 u4 cs9 r9 h
    exact k9.trans hq
  replace h := (if_neg c_19).symm.trans h
  by_cases c_20 : v_2 = 34
  · skip
    replace h := (if_pos c_20).symm.trans h
    obtain k9 := mo_c_X1_compute_b298 F rc23 hrc23 cs1 u0 u1 u2 u3 u4 cs9 r9 h
    exact k9.trans hq
  replace h := (if_neg c_20).symm.trans h
  by_cases c_21 : v_2 = 35
  · skip
    replace h := (if_pos c_21).symm.trans h
    obtain k9 := mo_c_X1_compute_b298 F rc23 hrc23 cs1 u0 u1 u2 u3 u4 cs9 r9 h
    exact k9.trans hq
  replace h := (if_neg c_21).symm.trans h
  by_cases c_22 : v_2 = 39
  · skip
    replace h := (if_pos c_22).symm.trans h
    obtain k9 := mo_c_X1_compute_b298 F rc23 hrc23 cs1 u0 u1 u2 u3 u4 cs9 r9 h
    exact k9.trans hq
  replace h := (if_neg c_22).symm.trans h
  by_cases c_23 : v_2 = 40
  · skip
    replace h := (if_pos c_23).symm.trans h
    replace h := ob h; obtain ⟨v_24, hv_24, h⟩ := h
    replace h := ob h; obtain ⟨v_25, hv_25, h⟩ := h
    replace h := ob h; obtain ⟨w_27, hw_27, h⟩ := h
    replace h := ob h; obtain ⟨cs_26, hv_26, h⟩ := h
    replace hq := (mo_c_X1_push F cs1 u0 v_25 0 cs_26 hv_26).trans hq
    obtain k9 := mo_c_X1_compute_b404 F rc23 hrc23 cs_26 u0 u1 u2 u3 u4 cs9 r9 h
    exact k9.trans hq
  replace h := (if_neg c_23).symm.trans h
  by_cases c_28 : v_2 = 58
  · skip
    replace h := (if_pos c_28).symm.trans h
    obtain k9 := mo_c_X1_compute_b339 F rc23 hrc23 cs1 u0 u1 u2 u3 u4 cs9 r9 h
    exact k9.trans hq
  replace h := (if_neg c_28).symm.trans h
  by_cases c_29 : v_2 = 59
  · skip
    replace h := (if_pos c_29).symm.trans h
    obtain k9 := mo_c_X1_compute_b339 F rc23 hrc23 cs1 u0 u1 u2 u3 u4 cs9 r9 h
    exact k9.trans hq
  replace h := (if_neg c_29).symm.trans h
  by_cases c_30 : v_2 = 60
  · skip
    replace h := (if_pos c_30).symm.trans h
    obtain k9 := mo_c_X1_compute_b360 F rc23 hrc23 cs1 u0 u1 u2 u3 u4 cs9 r9 h
    exact k9.trans hq
  replace h := (if_neg c_30).symm.trans h
  by_cases c_31 : v_2 = 61
  · skip
    replace h := (if_pos c_31).symm.trans h
    obtain k9 := mo_c_X1_compute_b298 F rc23 hrc23 cs1 u0 u1 u2 u3 u4 cs9 r9 h
    exact k9.trans hq
  replace h := (if_neg c_31).symm.trans h
  obtain k9 := mo_c_X1_compute_b393 F rc23 hrc23 cs1 u0 u1 u2 u3 u4 cs9 r9 h
  exact k9.trans hq
theorem mo_c_X1_compute_L23 (F : Nat) : ∀ (lf_23 : Nat) (cs1 : CS) (u0 : Nat) (u1 : Int32) (u2 : Nat) (u3 : Int32) (u4 : Int32) (cs9 : CS) (r9 : Int32), c_X1_compute_L23 F lf_23 cs1 u0 u1 u2 u3 u4 = some (cs9, r9) → cs9.1 = cs1.1 := by
  intro lf_23
  induction lf_23 with
  | zero => intro cs1 u0 u1 u2 u3 u4 cs9 r9 h; cases (show (none : Option (CS × Int32)) = _ from h)
  | succ lf_23 ih_23 =>
    intro cs1 u0 u1 u2 u3 u4 cs9 r9 h
    rw [c_X1_compute_L23] at h
    have hq : cs1.1 = cs1.1 := rfl
    by_cases c_1 : u1 < u4
    · skip
      replace h := (if_pos c_1).symm.trans h
      replace h := ob h; obtain ⟨v_2, hv_2, h⟩ := h
      by_cases c_3 : v_2 = 1
      · skip
        replace h := (if_pos c_3).symm.trans h
        replace h := ob h; obtain ⟨v_4, hv_4, h⟩ := h
        replace h := ob h; obtain ⟨v_5, hv_5, h⟩ := h
        by_cases c_6 : v_5 = 0
        · skip
          replace h := (if_pos c_6).symm.trans h
          replace h := ob h; obtain ⟨v_7, hv_7, h⟩ := h
          replace h := ob h; obtain ⟨v_8, hv_8, h⟩ := h
          by_cases c_9 : v_8 = 0
          · skip
            replace h := (if_pos c_9).symm.trans h
            obtain k9 := mo_c_X1_compute_b442 F cs1 cs9 r9 h
            exact k9.trans hq
          · skip
            replace h := (if_neg c_9).symm.trans h
            obtain k9 := mo_c_X1_compute_b443 F cs1 1 cs9 r9 h
            exact k9.trans hq
        · skip
          replace h := (if_neg c_6).symm.trans h
          obtain k9 := mo_c_X1_compute_b442 F cs1 cs9 r9 h
          exact k9.trans hq
      · skip
        replace h := (if_neg c_3).symm.trans h
        obtain k9 := mo_c_X1_compute_b442 F cs1 cs9 r9 h
        exact k9.trans hq
    · skip
      replace h := (if_neg c_1).symm.trans h
      replace h := ob h; obtain ⟨v_10, hv_10, h⟩ := h
      replace h := ob h; obtain ⟨v_11, hv_11, h⟩ := h
      by_cases c_12 : v_11 ≤ u4
      · skip
        replace h := (if_pos c_12).symm.trans h
        obtain k9 := mo_c_X1_compute_b61 F (c_X1_compute_L23 F lf_23) ih_23 cs1 u0 u1 u2 u3 u4 cs9 r9 h
        exact k9.trans hq
      · skip
        replace h := (if_neg c_12).symm.trans h
        replace h := ob h; obtain ⟨v_13, hv_13, h⟩ := h
        replace h := ob h; obtain ⟨v_14, hv_14, h⟩ := h
        by_cases c_15 : u1 < v_14
        · skip
          replace h := (if_pos c_15).symm.trans h
          obtain k9 := mo_c_X1_compute_b61 F (c_X1_compute_L23 F lf_23) ih_23 cs1 u0 u1 u2 u3 u4 cs9 r9 h
          exact k9.trans hq
        · skip
          replace h := (if_neg c_15).symm.trans h
          replace h := ob h; obtain ⟨v_16, hv_16, h⟩ := h
          replace h := ob h; obtain ⟨v_17, hv_17, h⟩ := h
          obtain k9 := mo_c_X1_compute_b61 F (c_X1_compute_L23 F lf_23) ih_23 cs1 u0 u1 u2 u3 v_17 cs9 r9 h
          exact k9.trans hq
theorem mo_c_X1_compute (F : Nat) (cs : CS) (x0 : Nat) (x1 : Int32) (x2 : Nat) (x3 : Int32) (cs9 : CS) (r9 : Int32) (h : c_X1_compute F cs x0 x1 x2 x3 = some (cs9, r9)) : cs9.1 = cs.1 := by
  unfold c_X1_compute at h
  have hq : cs.1 = cs.1 := rfl
  replace h := ob h; obtain ⟨cs_1, hv_1, h⟩ := h
  replace hq := (pI_1 hv_1).trans hq
  replace h := ob h; obtain ⟨w_3, hw_3, h⟩ := h
  replace h := ob h; obtain ⟨v_2, hv_2, h⟩ := h
  by_cases c_4 : v_2 = 0
  · skip
    replace h := (if_pos c_4).symm.trans h
    have h9 := (Prod.mk.inj (Option.some.inj h)).1
    exact (congrArg (fun z => z.1) h9).symm.trans hq
  · skip
    replace h := (if_neg c_4).symm.trans h
    replace h := ob h; obtain ⟨v_5, hv_5, h⟩ := h
    replace h := ob h; obtain ⟨v_6, hv_6, h⟩ := h
    obtain k9 := mo_c_X1_compute_L23 F F cs_1 x0 x1 x2 x3 v_6 cs9 r9 h
    exact k9.trans hq
theorem mo_c_X1_weigh_b80 (F : Nat) (cs1 : CS) (y0 : Int32) (cs9 : CS) (r9 : Int32) (h : c_X1_weigh_b80 F cs1 y0 = some (cs9, r9)) : cs9.1 = cs1.1 := by
  unfold c_X1_weigh_b80 at h
  have hq : cs1.1 = cs1.1 := rfl
  have h9 := (Prod.mk.inj (Option.some.inj h)).1
  exact (congrArg (fun z => z.1) h9).symm.trans hq
theorem mo_c_X1_weigh_b64 (F : Nat) (cs1 : CS) (u0 : Nat) (cs9 : CS) (r9 : Int32) (h : c_X1_weigh_b64 F cs1 u0 = some (cs9, r9)) : cs9.1 = cs1.1 := by
  unfold c_X1_weigh_b64 at h
  have hq : cs1.1 = cs1.1 := rfl
  replace h := ob h; obtain ⟨w_2, hw_2, h⟩ := h
  replace h := ob h; obtain ⟨v_1, hv_1, h⟩ := h
  by_cases c_3 : v_1 = 0
  · skip
    replace h := (if_pos c_3).symm.trans h
    replace h := ob h; obtain ⟨w_5, hw_5, h⟩ := h
    replace h := ob h; obtain ⟨v_4, hv_4, h⟩ := h
    obtain k9 := mo_c_X1_weigh_b80 F cs1 v_4.toInt32 cs9 r9 h
    exact k9.trans hq
  · skip
    replace h := (if_neg c_3).symm.trans h
    obtain k9 := mo_c_X1_weigh_b80 F cs1 (-1) cs9 r9 h
    exact k9.trans hq
theorem mo_c_X1_weigh_b56 (F : Nat) (cs1 : CS) (u0 : Nat) (u1 : Int32) (y0 : Int32) (y1 : Int64) (y2 : Nat) (cs9 : CS) (r9 : Int32) (h : c_X1_weigh_b56 F cs1 u0 u1 y0 y1 y2 = some (cs9, r9)) : cs9.1 = cs1.1 := by
  unfold c_X1_weigh_b56 at h
  have hq : cs1.1 = cs1.1 := rfl
  replace h := ob h; obtain ⟨w_2, hw_2, h⟩ := h
  replace h := ob h; obtain ⟨cs_1, hv_1, h⟩ := h
  replace hq := (mo_c_X1_push F cs1 y2 y1 y0 cs_1 hv_1).trans hq
  replace h := ob h; obtain ⟨w_4, hw_4, h⟩ := h
  replace h := ob h; obtain ⟨cs_3, hv_3, h⟩ := h
  replace hq := (mo_c_X1_two F cs_1 u0 u1 cs_3 hv_3).trans hq
  obtain k9 := mo_c_X1_weigh_b64 F cs_3 u0 cs9 r9 h
  exact k9.trans hq
theorem mo_c_X1_weigh_b51 (F : Nat) (cs1 : CS) (u0 : Nat) (u1 : Int32) (y0 : Int64) (y1 : Nat) (cs9 : CS) (r9 : Int32) (h : c_X1_weigh_b51 F cs1 u0 u1 y0 y1 = some (cs9, r9)) : cs9.1 = cs1.1 := by
  unfold c_X1_weigh_b51 at h
  have hq : cs1.1 = cs1.1 := rfl
  obtain k9 := mo_c_X1_weigh_b56 F cs1 u0 u1 0 y0 y1 cs9 r9 h
  exact k9.trans hq
theorem mo_c_X1_weigh_b22 (F : Nat) (cs1 : CS) (u0 : Nat) (u1 : Int32) (u3 : Int32) (y0 : Int32) (y1 : Int64) (y2 : Nat) (cs9 : CS) (r9 : Int32) (h : c_X1_weigh_b22 F cs1 u0 u1 u3 y0 y1 y2 = some (cs9, r9)) : cs9.1 = cs1.1 := by
  unfold c_X1_weigh_b22 at h
  have hq : cs1.1 = cs1.1 := rfl
  replace h := ob h; obtain ⟨w_2, hw_2, h⟩ := h
  replace h := ob h; obtain ⟨cs_1, hv_1, h⟩ := h
  replace hq := (mo_c_X1_push F cs1 y2 y1 y0 cs_1 hv_1).trans hq
  by_cases c_3 : u1 = 25
  · skip
    replace h := (if_pos c_3).symm.trans h
    replace h := ob h; obtain ⟨w_5, hw_5, h⟩ := h
    replace h := ob h; obtain ⟨cs_4, hv_4, h⟩ := h
    replace hq := (mo_c_X1_one F cs_1 u0 u1 cs_4 hv_4).trans hq
    obtain k9 := mo_c_X1_weigh_b64 F cs_4 u0 cs9 r9 h
    exact k9.trans hq
  · skip
    replace h := (if_neg c_3).symm.trans h
    by_cases c_6 : u3 = 0
    · skip
      replace h := (if_pos c_6).symm.trans h
      obtain k9 := mo_c_X1_weigh_b51 F cs_1 u0 u1 ((u3 : Int32).toInt64) u0 cs9 r9 h
      exact k9.trans hq
    · skip
      replace h := (if_neg c_6).symm.trans h
      by_cases c_7 : u3 = 1
      · skip
        replace h := (if_pos c_7).symm.trans h
        obtain k9 := mo_c_X1_weigh_b51 F cs_1 u0 u1 ((u3 : Int32).toInt64) u0 cs9 r9 h
        exact k9.trans hq
      · skip
        replace h := (if_neg c_7).symm.trans h
        obtain k9 := mo_c_X1_weigh_b56 F cs_1 u0 u1 1 ((u3 : Int32).toInt64) u0 cs9 r9 h
        exact k9.trans hq
theorem mo_c_X1_weigh_b17 (F : Nat) (cs1 : CS) (u0 : Nat) (u1 : Int32) (u3 : Int32) (y0 : Int64) (y1 : Nat) (cs9 : CS) (r9 : Int32) (h : c_X1_weigh_b17 F cs1 u0 u1 u3 y0 y1 = some (cs9, r9)) : cs9.1 = cs1.1 := by
  unfold c_X1_weigh_b17 at h
  have hq : cs1.1 = cs1.1 := rfl
  obtain k9 := mo_c_X1_weigh_b22 F cs1 u0 u1 u3 0 y0 y1 cs9 r9 h
  exact k9.trans hq
theorem mo_c_X1_weigh (F : Nat) (cs : CS) (x0 : Nat) (x1 : Int32) (x2 : Int32) (x3 : Int32) (cs9 : CS) (r9 : Int32) (h : c_X1_weigh F cs x0 x1 x2 x3 = some (cs9, r9)) : cs9.1 = cs.1 := by
  unfold c_X1_weigh at h
  have hq : cs.1 = cs.1 := rfl
  replace h := ob h; obtain ⟨cs_1, hv_1, h⟩ := h
  replace hq := (pI_1 hv_1).trans hq
  by_cases c_2 : x2 = 0
  · skip
    replace h := (if_pos c_2).symm.trans h
    obtain k9 := mo_c_X1_weigh_b17 F cs_1 x0 x1 x3 ((x2 : Int32).toInt64) x0 cs9 r9 h
    exact k9.trans hq
  · skip
    replace h := (if_neg c_2).symm.trans h
    by_cases c_3 : x2 = 1
    · skip
      replace h := (if_pos c_3).symm.trans h
      obtain k9 := mo_c_X1_weigh_b17 F cs_1 x0 x1 x3 ((x2 : Int32).toInt64) x0 cs9 r9 h
      exact k9.trans hq
    · skip
      replace h := (if_neg c_3).symm.trans h
      obtain k9 := mo_c_X1_weigh_b22 F cs_1 x0 x1 x3 1 ((x2 : Int32).toInt64) x0 cs9 r9 h
      exact k9.trans hq
theorem mo_c_X4_init (F : Nat) (cs : CS) (x0 : Nat) (x1 : Nat) (x2 : Nat) (x3 : Nat) (cs9 : CS) (h : c_X4_init F cs x0 x1 x2 x3 = some cs9) : cs9.1 = cs.1 := by
  unfold c_X4_init at h
  have hq : cs.1 = cs.1 := rfl
  replace h := ob h; obtain ⟨cs_1, hv_1, h⟩ := h
  replace hq := (pR_1 hv_1).trans hq
  replace h := ob h; obtain ⟨cs_2, hv_2, h⟩ := h
  replace hq := (pR_1 hv_2).trans hq
  replace h := ob h; obtain ⟨cs_3, hv_3, h⟩ := h
  replace hq := (pR_1 hv_3).trans hq
  have h9 := Option.some.inj h
  exact (congrArg (fun z => z.1) h9).symm.trans hq
theorem mo_c_X8_set_b33 (F : Nat) (cs1 : CS) (cs9 : CS) (h : c_X8_set_b33 F cs1 = some cs9) : cs9.1 = cs1.1 := by
  unfold c_X8_set_b33 at h
  have hq : cs1.1 = cs1.1 := rfl
  have h9 := Option.some.inj h
  exact (congrArg (fun z => z.1) h9).symm.trans hq
theorem mo_c_X8_set_b23 (F : Nat) (cs1 : CS) (u0 : Nat) (u1 : Int32) (u4 : Int32) (y0 : Int64) (y1 : Int32) (y2 : Nat) (wy2 : Nat) (cs9 : CS) (h : c_X8_set_b23 F cs1 u0 u1 u4 y0 y1 y2 wy2 = some cs9) : cs9.1 = cs1.1 := by
  unfold c_X8_set_b23 at h
  have hq : cs1.1 = cs1.1 := rfl
  replace h := ob h; obtain ⟨cs_1, hv_1, h⟩ := h
  replace hq := (wB_1 hv_1).trans hq
  replace h := ob h; obtain ⟨v_2, hv_2, h⟩ := h
  replace h := ob h; obtain ⟨cs_3, hv_3, h⟩ := h
  replace hq := (wA_1 hv_3).trans hq
  obtain k9 := mo_c_X8_set_b33 F cs_3 cs9 h
  exact k9.trans hq
theorem mo_c_X8_set (F : Nat) (cs : CS) (x0 : Nat) (x1 : Int32) (x2 : Int64) (x4 : Int32) (cs9 : CS) (h : c_X8_set F cs x0 x1 x2 x4 = some cs9) : cs9.1 = cs.1 := by
  unfold c_X8_set at h
  have hq : cs.1 = cs.1 := rfl
  replace h := ob h; obtain ⟨w_2, hw_2, h⟩ := h
  replace h := ob h; obtain ⟨v_1, hv_1, h⟩ := h
  by_cases c_3 : v_1 = 0
  · skip
    replace h := (if_pos c_3).symm.trans h
    obtain k9 := mo_c_X8_set_b33 F cs cs9 h
    exact k9.trans hq
  · skip
    replace h := (if_neg c_3).symm.trans h
    replace h := ob h; obtain ⟨v_4, hv_4, h⟩ := h
    by_cases c_5 : x4 = 0
    · skip
      replace h := (if_pos c_5).symm.trans h
      obtain k9 := mo_c_X8_set_b23 F cs x0 x1 x4 x2 x1 x0 v_4 cs9 h
      exact k9.trans hq
    · skip
      replace h := (if_neg c_5).symm.trans h
      obtain k9 := mo_c_X8_set_b23 F cs x0 x1 x4 0 x1 x0 v_4 cs9 h
      exact k9.trans hq
theorem mo_c_X4_foldOne_b171 (F : Nat) (cs1 : CS) (cs9 : CS) (h : c_X4_foldOne_b171 F cs1 = some cs9) : cs9.1 = cs1.1 := by
  unfold c_X4_foldOne_b171 at h
  have hq : cs1.1 = cs1.1 := rfl
  have h9 := Option.some.inj h
  exact (congrArg (fun z => z.1) h9).symm.trans hq
theorem mo_c_X4_foldOne_b107 (F : Nat) (cs1 : CS) (u0 : Nat) (u5 : Int32) (u6 : Int64) (cs9 : CS) (h : c_X4_foldOne_b107 F cs1 u0 u5 u6 = some cs9) : cs9.1 = cs1.1 := by
  unfold c_X4_foldOne_b107 at h
  have hq : cs1.1 = cs1.1 := rfl
  replace h := ob h; obtain ⟨v_1, hv_1, h⟩ := h
  replace h := ob h; obtain ⟨i_3, hi_3, h⟩ := h
  subst hi_3
  replace h := ob h; obtain ⟨w_4, hw_4, h⟩ := h
  replace h := ob h; obtain ⟨cs_2, hv_2, h⟩ := h
  replace hq := (mo_c_X8_set F cs1 i_3 u5 u6 0 cs_2 hv_2).trans hq
  obtain k9 := mo_c_X4_foldOne_b171 F cs_2 cs9 h
  exact k9.trans hq
theorem mo_c_X4_foldOne_b168 (F : Nat) (cs1 : CS) (y0 : Int32) (y1 : Int64) (y2 : Int32) (y3 : Option Nat) (cs9 : CS) (h : c_X4_foldOne_b168 F cs1 y0 y1 y2 y3 = some cs9) : cs9.1 = cs1.1 := by
  unfold c_X4_foldOne_b168 at h
  have hq : cs1.1 = cs1.1 := rfl
  replace h := ob h; obtain ⟨i_2, hi_2, h⟩ := h
  subst hi_2
  replace h := ob h; obtain ⟨w_3, hw_3, h⟩ := h
  replace h := ob h; obtain ⟨cs_1, hv_1, h⟩ := h
  replace hq := (mo_c_X8_set F cs1 i_2 y2 y1 y0 cs_1 hv_1).trans hq
  obtain k9 := mo_c_X4_foldOne_b171 F cs_1 cs9 h
  exact k9.trans hq
theorem mo_c_X4_foldOne_b146 (F : Nat) (cs1 : CS) (u0 : Nat) (u5 : Int32) (u6 : Int64) (y0 : Int64) (cs9 : CS) (h : c_X4_foldOne_b146 F cs1 u0 u5 u6 y0 = some cs9) : cs9.1 = cs1.1 := by
  unfold c_X4_foldOne_b146 at h
  have hq : cs1.1 = cs1.1 := rfl
  replace h := ob h; obtain ⟨v_1, hv_1, h⟩ := h
  by_cases c_2 : u6 = 0
  · skip
    replace h := (if_pos c_2).symm.trans h
    obtain k9 := mo_c_X4_foldOne_b168 F cs1 1 y0 u5 v_1 cs9 h
    exact k9.trans hq
  · skip
    replace h := (if_neg c_2).symm.trans h
    obtain k9 := mo_c_X4_foldOne_b168 F cs1 0 y0 u5 v_1 cs9 h
    exact k9.trans hq
theorem mo_c_X4_foldOne_b89 (F : Nat) (rc19 : CS → Nat → Int32 → Int32 → Int32 → Int32 → Int32 → Int64 → Int64 → Int64 → Int64 → Int32 → Option CS) (hrc19 : ∀ (cs1 : CS) (u0 : Nat) (u1 : Int32) (u2 : Int32) (u3 : Int32) (u4 : Int32) (u5 : Int32) (u6 : Int64) (u8 : Int64) (u10 : Int64) (u12 : Int64) (u14 : Int32) (cs9 : CS), rc19 cs1 u0 u1 u2 u3 u4 u5 u6 u8 u10 u12 u14 = some cs9 → cs9.1 = cs1.1) (cs1 : CS) (u0 : Nat) (u1 : Int32) (u2 : Int32) (u3 : Int32) (u4 : Int32) (u5 : Int32) (u6 : Int64) (u8 : Int64) (u10 : Int64) (u12 : Int64) (u14 : Int32) (cs9 : CS) (h : c_X4_foldOne_b89 F rc19 cs1 u0 u1 u2 u3 u4 u5 u6 u8 u10 u12 u14 = some cs9) : cs9.1 = cs1.1 := by
  unfold c_X4_foldOne_b89 at h
  have hq : cs1.1 = cs1.1 := rfl
  obtain k9 := hrc19 cs1 u0 u1 u2 u3 u4 u5 u6 u8 u10 u12 (u14 + 1) cs9 h
  exact k9.trans hq
theorem mo_c_X4_foldOne_L19 (F : Nat) : ∀ (lf_19 : Nat) (cs1 : CS) (u0 : Nat) (u1 : Int32) (u2 : Int32) (u3 : Int32) (u4 : Int32) (u5 : Int32) (u6 : Int64) (u8 : Int64) (u10 : Int64) (u12 : Int64) (u14 : Int32) (cs9 : CS), c_X4_foldOne_L19 F lf_19 cs1 u0 u1 u2 u3 u4 u5 u6 u8 u10 u12 u14 = some cs9 → cs9.1 = cs1.1 := by
  intro lf_19
  induction lf_19 with
  | zero => intro cs1 u0 u1 u2 u3 u4 u5 u6 u8 u10 u12 u14 cs9 h; cases (show (none : Option CS) = _ from h)
  | succ lf_19 ih_19 =>
    intro cs1 u0 u1 u2 u3 u4 u5 u6 u8 u10 u12 u14 cs9 h
    rw [c_X4_foldOne_L19] at h
    have hq : cs1.1 = cs1.1 := rfl
    by_cases c_1 : u3 ≤ u14
    · skip
      replace h := (if_pos c_1).symm.trans h
      by_cases c_2 : u1 = 32
      · skip
        replace h := (if_pos c_2).symm.trans h
        obtain k9 := mo_c_X4_foldOne_b107 F cs1 u0 u5 u6 cs9 h
        exact k9.trans hq
      · skip
        replace h := (if_neg c_2).symm.trans h
        by_cases c_3 : u1 = 61
        · skip
          replace h := (if_pos c_3).symm.trans h
          obtain k9 := mo_c_X4_foldOne_b107 F cs1 u0 u5 u6 cs9 h
          exact k9.trans hq
        · skip
          replace h := (if_neg c_3).symm.trans h
          by_cases c_4 : u1 = 33
          · skip
            replace h := (if_pos c_4).symm.trans h
            obtain k9 := mo_c_X4_foldOne_b146 F cs1 u0 u5 u6 u8 cs9 h
            exact k9.trans hq
          · skip
            replace h := (if_neg c_4).symm.trans h
            by_cases c_5 : u1 = 34
            · skip
              replace h := (if_pos c_5).symm.trans h
              obtain k9 := mo_c_X4_foldOne_b146 F cs1 u0 u5 u6 u10 cs9 h
              exact k9.trans hq
            · skip
              replace h := (if_neg c_5).symm.trans h
              obtain k9 := mo_c_X4_foldOne_b146 F cs1 u0 u5 u6 u12 cs9 h
              exact k9.trans hq
    · skip
      replace h := (if_neg c_1).symm.trans h
      replace h := ob h; obtain ⟨v_6, hv_6, h⟩ := h
      replace h := ob h; obtain ⟨i_8, hi_8, h⟩ := h
      subst hi_8
      replace h := ob h; obtain ⟨w_9, hw_9, h⟩ := h
      replace h := ob h; obtain ⟨v_7, hv_7, h⟩ := h
      by_cases c_10 : v_7 = 0
      · skip
        replace h := (if_pos c_10).symm.trans h
        replace h := ob h; obtain ⟨v_11, hv_11, h⟩ := h
        replace h := ob h; obtain ⟨i_13, hi_13, h⟩ := h
        subst hi_13
        replace h := ob h; obtain ⟨w_14, hw_14, h⟩ := h
        replace h := ob h; obtain ⟨v_12, hv_12, h⟩ := h
        replace h := ob h; obtain ⟨v_15, hv_15, h⟩ := h
        replace h := ob h; obtain ⟨v_16, hv_16, h⟩ := h
        obtain k9 := mo_c_X4_foldOne_b89 F (c_X4_foldOne_L19 F lf_19) ih_19 cs1 u0 u1 u2 u3 u4 u5 (u6 + 1) (u8 + v_12) v_15 v_16 u14 cs9 h
        exact k9.trans hq
      · skip
        replace h := (if_neg c_10).symm.trans h
        obtain k9 := mo_c_X4_foldOne_b89 F (c_X4_foldOne_L19 F lf_19) ih_19 cs1 u0 u1 u2 u3 u4 u5 u6 u8 u10 u12 u14 cs9 h
        exact k9.trans hq
theorem mo_c_X4_foldOne (F : Nat) (cs : CS) (x0 : Nat) (x1 : Int32) (x2 : Int32) (x3 : Int32) (x4 : Int32) (x5 : Int32) (cs9 : CS) (h : c_X4_foldOne F cs x0 x1 x2 x3 x4 x5 = some cs9) : cs9.1 = cs.1 := by
  unfold c_X4_foldOne at h
  have hq : cs.1 = cs.1 := rfl
  obtain k9 := mo_c_X4_foldOne_L19 F F cs x0 x1 x2 x3 x4 x5 0 0 (9223372036854775807) (-9223372036854775808) 0 cs9 h
  exact k9.trans hq
theorem mo_c_X7_open_b22 (F : Nat) (cs1 : CS) (cs9 : CS) (r9 : Int32) (h : c_X7_open_b22 F cs1 = some (cs9, r9)) : cs9.1 = cs1.1 := by
  unfold c_X7_open_b22 at h
  have hq : cs1.1 = cs1.1 := rfl
  have h9 := (Prod.mk.inj (Option.some.inj h)).1
  exact (congrArg (fun z => z.1) h9).symm.trans hq
theorem mo_c_X7_open (F : Nat) (cs : CS) (x0 : Nat) (x1 : Int32) (cs9 : CS) (r9 : Int32) (h : c_X7_open F cs x0 x1 = some (cs9, r9)) : cs9.1 = cs.1 := by
  unfold c_X7_open at h
  have hq : cs.1 = cs.1 := rfl
  by_cases c_1 : x1 < 1
  · skip
    replace h := (if_pos c_1).symm.trans h
    obtain k9 := mo_c_X7_open_b22 F cs cs9 r9 h
    exact k9.trans hq
  · skip
    replace h := (if_neg c_1).symm.trans h
    by_cases c_2 : 4 < x1
    · skip
      replace h := (if_pos c_2).symm.trans h
      obtain k9 := mo_c_X7_open_b22 F cs cs9 r9 h
      exact k9.trans hq
    · skip
      replace h := (if_neg c_2).symm.trans h
      replace h := ob h; obtain ⟨v_3, hv_3, h⟩ := h
      replace h := ob h; obtain ⟨v_4, hv_4, h⟩ := h
      replace h := ob h; obtain ⟨v_5, hv_5, h⟩ := h
      by_cases c_6 : v_3 < v_5
      · skip
        replace h := (if_pos c_6).symm.trans h
        replace h := ob h; obtain ⟨v_7, hv_7, h⟩ := h
        replace h := ob h; obtain ⟨v_8, hv_8, h⟩ := h
        replace h := ob h; obtain ⟨cs_9, hv_9, h⟩ := h
        replace hq := (wA_1 hv_9).trans hq
        replace h := ob h; obtain ⟨v_10, hv_10, h⟩ := h
        replace h := ob h; obtain ⟨cs_11, hv_11, h⟩ := h
        replace hq := (pI_1 hv_11).trans hq
        replace h := ob h; obtain ⟨v_12, hv_12, h⟩ := h
        have h9 := (Prod.mk.inj (Option.some.inj h)).1
        exact (congrArg (fun z => z.1) h9).symm.trans hq
      · skip
        replace h := (if_neg c_6).symm.trans h
        obtain k9 := mo_c_X7_open_b22 F cs cs9 r9 h
        exact k9.trans hq
theorem mo_c_X7_draft_b24 (F : Nat) (cs1 : CS) (cs9 : CS) (r9 : Int32) (h : c_X7_draft_b24 F cs1 = some (cs9, r9)) : cs9.1 = cs1.1 := by
  unfold c_X7_draft_b24 at h
  have hq : cs1.1 = cs1.1 := rfl
  have h9 := (Prod.mk.inj (Option.some.inj h)).1
  exact (congrArg (fun z => z.1) h9).symm.trans hq
theorem mo_c_X7_draft (F : Nat) (cs : CS) (x0 : Nat) (x1 : Int64) (x3 : Int32) (cs9 : CS) (r9 : Int32) (h : c_X7_draft F cs x0 x1 x3 = some (cs9, r9)) : cs9.1 = cs.1 := by
  unfold c_X7_draft at h
  have hq : cs.1 = cs.1 := rfl
  replace h := ob h; obtain ⟨v_1, hv_1, h⟩ := h
  replace h := ob h; obtain ⟨v_2, hv_2, h⟩ := h
  replace h := ob h; obtain ⟨v_3, hv_3, h⟩ := h
  by_cases c_4 : v_3 ≤ v_1
  · skip
    replace h := (if_pos c_4).symm.trans h
    obtain k9 := mo_c_X7_draft_b24 F cs cs9 r9 h
    exact k9.trans hq
  · skip
    replace h := (if_neg c_4).symm.trans h
    replace h := ob h; obtain ⟨v_5, hv_5, h⟩ := h
    replace h := ob h; obtain ⟨v_6, hv_6, h⟩ := h
    replace h := ob h; obtain ⟨v_7, hv_7, h⟩ := h
    by_cases c_8 : v_5 < v_7
    · skip
      replace h := (if_pos c_8).symm.trans h
      replace h := ob h; obtain ⟨v_9, hv_9, h⟩ := h
      replace h := ob h; obtain ⟨v_10, hv_10, h⟩ := h
      replace h := ob h; obtain ⟨cs_11, hv_11, h⟩ := h
      replace hq := (wB_1 hv_11).trans hq
      replace h := ob h; obtain ⟨v_12, hv_12, h⟩ := h
      replace h := ob h; obtain ⟨v_13, hv_13, h⟩ := h
      replace h := ob h; obtain ⟨cs_14, hv_14, h⟩ := h
      replace hq := (wA_1 hv_14).trans hq
      replace h := ob h; obtain ⟨v_15, hv_15, h⟩ := h
      replace h := ob h; obtain ⟨cs_16, hv_16, h⟩ := h
      replace hq := (pI_1 hv_16).trans hq
      replace h := ob h; obtain ⟨v_17, hv_17, h⟩ := h
      have h9 := (Prod.mk.inj (Option.some.inj h)).1
      exact (congrArg (fun z => z.1) h9).symm.trans hq
    · skip
      replace h := (if_neg c_8).symm.trans h
      obtain k9 := mo_c_X7_draft_b24 F cs cs9 r9 h
      exact k9.trans hq
theorem mo_c_X7_write_b39 (F : Nat) (cs1 : CS) (cs9 : CS) (h : c_X7_write_b39 F cs1 = some cs9) : cs9.1 = cs1.1 := by
  unfold c_X7_write_b39 at h
  have hq : cs1.1 = cs1.1 := rfl
  have h9 := Option.some.inj h
  exact (congrArg (fun z => z.1) h9).symm.trans hq
theorem mo_c_X7_write (F : Nat) (cs : CS) (x0 : Nat) (x1 : Int32) (x2 : Int32) (x3 : Int64) (cs9 : CS) (h : c_X7_write F cs x0 x1 x2 x3 = some cs9) : cs9.1 = cs.1 := by
  unfold c_X7_write at h
  have hq : cs.1 = cs.1 := rfl
  by_cases c_1 : x1 < 0
  · skip
    replace h := (if_pos c_1).symm.trans h
    obtain k9 := mo_c_X7_write_b39 F cs cs9 h
    exact k9.trans hq
  · skip
    replace h := (if_neg c_1).symm.trans h
    replace h := ob h; obtain ⟨v_2, hv_2, h⟩ := h
    replace h := ob h; obtain ⟨v_3, hv_3, h⟩ := h
    by_cases c_4 : v_3 ≤ x1
    · skip
      replace h := (if_pos c_4).symm.trans h
      obtain k9 := mo_c_X7_write_b39 F cs cs9 h
      exact k9.trans hq
    · skip
      replace h := (if_neg c_4).symm.trans h
      replace h := ob h; obtain ⟨v_5, hv_5, h⟩ := h
      replace h := ob h; obtain ⟨v_6, hv_6, h⟩ := h
      by_cases c_7 : v_6 ≤ ((x1 * 5) + x2)
      · skip
        replace h := (if_pos c_7).symm.trans h
        obtain k9 := mo_c_X7_write_b39 F cs cs9 h
        exact k9.trans hq
      · skip
        replace h := (if_neg c_7).symm.trans h
        replace h := ob h; obtain ⟨v_8, hv_8, h⟩ := h
        replace h := ob h; obtain ⟨v_9, hv_9, h⟩ := h
        by_cases c_10 : x2 ≤ v_9
        · skip
          replace h := (if_pos c_10).symm.trans h
          replace h := ob h; obtain ⟨v_11, hv_11, h⟩ := h
          replace h := ob h; obtain ⟨v_12, hv_12, h⟩ := h
          replace h := ob h; obtain ⟨cs_13, hv_13, h⟩ := h
          replace hq := (cpB_1 hv_13).trans hq
          replace h := ob h; obtain ⟨v_14, hv_14, h⟩ := h
          replace h := ob h; obtain ⟨v_15, hv_15, h⟩ := h
          replace h := ob h; obtain ⟨cs_16, hv_16, h⟩ := h
          replace hq := (cpA_1 hv_16).trans hq
          replace h := ob h; obtain ⟨v_17, hv_17, h⟩ := h
          replace h := ob h; obtain ⟨cs_18, hv_18, h⟩ := h
          replace hq := (wB_1 hv_18).trans hq
          replace h := ob h; obtain ⟨v_19, hv_19, h⟩ := h
          replace h := ob h; obtain ⟨cs_20, hv_20, h⟩ := h
          replace hq := (wA_1 hv_20).trans hq
          replace h := ob h; obtain ⟨v_21, hv_21, h⟩ := h
          replace h := ob h; obtain ⟨cs_22, hv_22, h⟩ := h
          replace hq := (wA_1 hv_22).trans hq
          have h9 := Option.some.inj h
          exact (congrArg (fun z => z.1) h9).symm.trans hq
        · skip
          replace h := (if_neg c_10).symm.trans h
          obtain k9 := mo_c_X7_write_b39 F cs cs9 h
          exact k9.trans hq
theorem mo_c_X7_settle_b29 (F : Nat) (cs1 : CS) (cs9 : CS) (r9 : Int32) (h : c_X7_settle_b29 F cs1 = some (cs9, r9)) : cs9.1 = cs1.1 := by
  unfold c_X7_settle_b29 at h
  have hq : cs1.1 = cs1.1 := rfl
  have h9 := (Prod.mk.inj (Option.some.inj h)).1
  exact (congrArg (fun z => z.1) h9).symm.trans hq
theorem mo_c_X7_settle_b58 (F : Nat) (cs1 : CS) (u5 : Int32) (cs9 : CS) (r9 : Int32) (h : c_X7_settle_b58 F cs1 u5 = some (cs9, r9)) : cs9.1 = cs1.1 := by
  unfold c_X7_settle_b58 at h
  have hq : cs1.1 = cs1.1 := rfl
  have h9 := (Prod.mk.inj (Option.some.inj h)).1
  exact (congrArg (fun z => z.1) h9).symm.trans hq
theorem mo_c_X7_settle (F : Nat) (cs : CS) (x0 : Nat) (x1 : Int32) (x2 : Int64) (cs9 : CS) (r9 : Int32) (h : c_X7_settle F cs x0 x1 x2 = some (cs9, r9)) : cs9.1 = cs.1 := by
  unfold c_X7_settle at h
  have hq : cs.1 = cs.1 := rfl
  replace h := ob h; obtain ⟨v_1, hv_1, h⟩ := h
  replace h := ob h; obtain ⟨cs_2, hv_2, h⟩ := h
  replace hq := (pI_1 hv_2).trans hq
  replace h := ob h; obtain ⟨w_4, hw_4, h⟩ := h
  replace h := ob h; obtain ⟨v_3, hv_3, h⟩ := h
  by_cases c_5 : v_3 = 0
  · skip
    replace h := (if_pos c_5).symm.trans h
    obtain k9 := mo_c_X7_settle_b29 F cs_2 cs9 r9 h
    exact k9.trans hq
  · skip
    replace h := (if_neg c_5).symm.trans h
    replace h := ob h; obtain ⟨w_7, hw_7, h⟩ := h
    replace h := ob h; obtain ⟨v_6, hv_6, h⟩ := h
    by_cases c_8 : v_1 = v_6
    · skip
      replace h := (if_pos c_8).symm.trans h
      replace h := ob h; obtain ⟨w_10, hw_10, h⟩ := h
      replace h := ob h; obtain ⟨v_9, hv_9, h⟩ := h
      by_cases c_11 : v_9 = (-1)
      · skip
        replace h := (if_pos c_11).symm.trans h
        obtain k9 := mo_c_X7_settle_b58 F cs_2 v_9 cs9 r9 h
        exact k9.trans hq
      · skip
        replace h := (if_neg c_11).symm.trans h
        replace h := ob h; obtain ⟨w_13, hw_13, h⟩ := h
        replace h := ob h; obtain ⟨cs_12, hv_12, h⟩ := h
        replace hq := (mo_c_X7_write F cs_2 x0 ((x1 * 8) + v_9) v_1 x2 cs_12 hv_12).trans hq
        obtain k9 := mo_c_X7_settle_b58 F cs_12 v_9 cs9 r9 h
        exact k9.trans hq
    · skip
      replace h := (if_neg c_8).symm.trans h
      obtain k9 := mo_c_X7_settle_b29 F cs_2 cs9 r9 h
      exact k9.trans hq
theorem mo_c_X7_remove (F : Nat) (cs : CS) (x0 : Nat) (x1 : Int32) (x2 : Int32) (cs9 : CS) (r9 : Int32) (h : c_X7_remove F cs x0 x1 x2 = some (cs9, r9)) : cs9.1 = cs.1 := by
  unfold c_X7_remove at h
  have hq : cs.1 = cs.1 := rfl
  replace h := ob h; obtain ⟨w_2, hw_2, h⟩ := h
  replace h := ob h; obtain ⟨v_1, hv_1, h⟩ := h
  by_cases c_3 : v_1 = 0
  · skip
    replace h := (if_pos c_3).symm.trans h
    have h9 := (Prod.mk.inj (Option.some.inj h)).1
    exact (congrArg (fun z => z.1) h9).symm.trans hq
  · skip
    replace h := (if_neg c_3).symm.trans h
    replace h := ob h; obtain ⟨v_4, hv_4, h⟩ := h
    replace h := ob h; obtain ⟨cs_5, hv_5, h⟩ := h
    replace hq := (wA_1 hv_5).trans hq
    have h9 := (Prod.mk.inj (Option.some.inj h)).1
    exact (congrArg (fun z => z.1) h9).symm.trans hq
theorem mo_c_X9_accept_b28 (F : Nat) (cs1 : CS) (u2 : Int32) (y0 : Int32) (y1 : Int32) (y2 : Nat) (cs9 : CS) (r9 : Int32) (h : c_X9_accept_b28 F cs1 u2 y0 y1 y2 = some (cs9, r9)) : cs9.1 = cs1.1 := by
  unfold c_X9_accept_b28 at h
  have hq : cs1.1 = cs1.1 := rfl
  replace h := ob h; obtain ⟨cs_1, hv_1, h⟩ := h
  replace hq := (pI_1 hv_1).trans hq
  replace h := ob h; obtain ⟨w_2, hw_2, h⟩ := h
  have h9 := (Prod.mk.inj (Option.some.inj h)).1
  exact (congrArg (fun z => z.1) h9).symm.trans hq
theorem mo_c_X9_accept_b13 (F : Nat) (cs1 : CS) (u0 : Nat) (y0 : Int32) (cs9 : CS) (r9 : Int32) (h : c_X9_accept_b13 F cs1 u0 y0 = some (cs9, r9)) : cs9.1 = cs1.1 := by
  unfold c_X9_accept_b13 at h
  have hq : cs1.1 = cs1.1 := rfl
  replace h := ob h; obtain ⟨v_1, hv_1, h⟩ := h
  by_cases c_2 : y0 = 0
  · skip
    replace h := (if_pos c_2).symm.trans h
    obtain k9 := mo_c_X9_accept_b28 F cs1 y0 0 v_1 u0 cs9 r9 h
    exact k9.trans hq
  · skip
    replace h := (if_neg c_2).symm.trans h
    obtain k9 := mo_c_X9_accept_b28 F cs1 y0 1 v_1 u0 cs9 r9 h
    exact k9.trans hq
theorem mo_c_X9_accept (F : Nat) (cs : CS) (x0 : Nat) (x1 : Int32) (cs9 : CS) (r9 : Int32) (h : c_X9_accept F cs x0 x1 = some (cs9, r9)) : cs9.1 = cs.1 := by
  unfold c_X9_accept at h
  have hq : cs.1 = cs.1 := rfl
  replace h := ob h; obtain ⟨w_2, hw_2, h⟩ := h
  replace h := ob h; obtain ⟨v_1, hv_1, h⟩ := h
  by_cases c_3 : v_1 = x1
  · skip
    replace h := (if_pos c_3).symm.trans h
    obtain k9 := mo_c_X9_accept_b13 F cs x0 1 cs9 r9 h
    exact k9.trans hq
  · skip
    replace h := (if_neg c_3).symm.trans h
    obtain k9 := mo_c_X9_accept_b13 F cs x0 0 cs9 r9 h
    exact k9.trans hq
theorem mo_c_X9_expect_b30 (F : Nat) (cs1 : CS) (cs9 : CS) (h : c_X9_expect_b30 F cs1 = some cs9) : cs9.1 = cs1.1 := by
  unfold c_X9_expect_b30 at h
  have hq : cs1.1 = cs1.1 := rfl
  have h9 := Option.some.inj h
  exact (congrArg (fun z => z.1) h9).symm.trans hq
theorem mo_c_X9_expect (F : Nat) (cs : CS) (x0 : Nat) (x1 : Int32) (cs9 : CS) (h : c_X9_expect F cs x0 x1 = some cs9) : cs9.1 = cs.1 := by
  unfold c_X9_expect at h
  have hq : cs.1 = cs.1 := rfl
  replace h := ob h; obtain ⟨w_2, hw_2, h⟩ := h
  replace h := ob h; obtain ⟨v_1, hv_1, h⟩ := h
  by_cases c_3 : v_1 = x1
  · skip
    replace h := (if_pos c_3).symm.trans h
    replace h := ob h; obtain ⟨v_4, hv_4, h⟩ := h
    replace h := ob h; obtain ⟨cs_5, hv_5, h⟩ := h
    replace hq := (pI_1 hv_5).trans hq
    obtain k9 := mo_c_X9_expect_b30 F cs_5 cs9 h
    exact k9.trans hq
  · skip
    replace h := (if_neg c_3).symm.trans h
    replace h := ob h; obtain ⟨w_7, hw_7, h⟩ := h
    replace h := ob h; obtain ⟨v_6, hv_6, h⟩ := h
    replace h := ob h; obtain ⟨w_9, hw_9, h⟩ := h
    replace h := ob h; obtain ⟨cs_8, hv_8, h⟩ := h
    replace hq := (mo_c_X9_refuse F cs x0 1 v_6 cs_8 hv_8).trans hq
    obtain k9 := mo_c_X9_expect_b30 F cs_8 cs9 h
    exact k9.trans hq
theorem mo_c_X9_refuseNinth_b30 (F : Nat) (cs1 : CS) (cs9 : CS) (h : c_X9_refuseNinth_b30 F cs1 = some cs9) : cs9.1 = cs1.1 := by
  unfold c_X9_refuseNinth_b30 at h
  have hq : cs1.1 = cs1.1 := rfl
  have h9 := Option.some.inj h
  exact (congrArg (fun z => z.1) h9).symm.trans hq
theorem mo_c_X9_refuseNinth_b23 (F : Nat) (cs1 : CS) (u0 : Nat) (y0 : Int32) (y1 : Nat) (cs9 : CS) (h : c_X9_refuseNinth_b23 F cs1 u0 y0 y1 = some cs9) : cs9.1 = cs1.1 := by
  unfold c_X9_refuseNinth_b23 at h
  have hq : cs1.1 = cs1.1 := rfl
  replace h := ob h; obtain ⟨w_2, hw_2, h⟩ := h
  replace h := ob h; obtain ⟨v_1, hv_1, h⟩ := h
  replace h := ob h; obtain ⟨w_4, hw_4, h⟩ := h
  replace h := ob h; obtain ⟨cs_3, hv_3, h⟩ := h
  replace hq := (mo_c_X9_refuse F cs1 y1 y0 v_1 cs_3 hv_3).trans hq
  obtain k9 := mo_c_X9_refuseNinth_b30 F cs_3 cs9 h
  exact k9.trans hq
theorem mo_c_X9_refuseNinth (F : Nat) (cs : CS) (x0 : Nat) (x1 : Int32) (x2 : Int32) (cs9 : CS) (h : c_X9_refuseNinth F cs x0 x1 x2 = some cs9) : cs9.1 = cs.1 := by
  unfold c_X9_refuseNinth at h
  have hq : cs.1 = cs.1 := rfl
  by_cases c_1 : x1 = 0
  · skip
    replace h := (if_pos c_1).symm.trans h
    obtain k9 := mo_c_X9_refuseNinth_b30 F cs cs9 h
    exact k9.trans hq
  · skip
    replace h := (if_neg c_1).symm.trans h
    replace h := ob h; obtain ⟨w_3, hw_3, h⟩ := h
    replace h := ob h; obtain ⟨v_2, hv_2, h⟩ := h
    replace h := ob h; obtain ⟨w_5, hw_5, h⟩ := h
    replace h := ob h; obtain ⟨v_4, hv_4, h⟩ := h
    by_cases c_6 : v_4 = 0
    · skip
      replace h := (if_pos c_6).symm.trans h
      obtain k9 := mo_c_X9_refuseNinth_b23 F cs x0 1 x0 cs9 h
      exact k9.trans hq
    · skip
      replace h := (if_neg c_6).symm.trans h
      obtain k9 := mo_c_X9_refuseNinth_b23 F cs x0 7 x0 cs9 h
      exact k9.trans hq
theorem mo_c_X9_complete_b50 (F : Nat) (cs1 : CS) (y0 : Int32) (cs9 : CS) (r9 : Int32) (h : c_X9_complete_b50 F cs1 y0 = some (cs9, r9)) : cs9.1 = cs1.1 := by
  unfold c_X9_complete_b50 at h
  have hq : cs1.1 = cs1.1 := rfl
  have h9 := (Prod.mk.inj (Option.some.inj h)).1
  exact (congrArg (fun z => z.1) h9).symm.trans hq
theorem mo_c_X9_complete_b27 (F : Nat) (cs1 : CS) (u0 : Nat) (u1 : Int32) (u2 : Int32) (u3 : Int32) (u5 : Int32) (cs9 : CS) (r9 : Int32) (h : c_X9_complete_b27 F cs1 u0 u1 u2 u3 u5 = some (cs9, r9)) : cs9.1 = cs1.1 := by
  unfold c_X9_complete_b27 at h
  have hq : cs1.1 = cs1.1 := rfl
  replace h := ob h; obtain ⟨v_1, hv_1, h⟩ := h
  by_cases c_2 : v_1 = 0
  · skip
    replace h := (if_pos c_2).symm.trans h
    replace h := ob h; obtain ⟨v_3, hv_3, h⟩ := h
    replace h := ob h; obtain ⟨i_5, hi_5, h⟩ := h
    subst hi_5
    replace h := ob h; obtain ⟨w_6, hw_6, h⟩ := h
    replace h := ob h; obtain ⟨z_4, hv_4, h⟩ := h
    replace hq := (mo_c_X1_add F cs1 i_5 u1 u2 u3 u5 z_4.1 z_4.2 hv_4).trans hq
    obtain k9 := mo_c_X9_complete_b50 F z_4.1 z_4.2 cs9 r9 h
    exact k9.trans hq
  · skip
    replace h := (if_neg c_2).symm.trans h
    obtain k9 := mo_c_X9_complete_b50 F cs1 (-1) cs9 r9 h
    exact k9.trans hq
theorem mo_c_X9_complete (F : Nat) (cs : CS) (x0 : Nat) (x1 : Int32) (x2 : Int32) (x3 : Int32) (x4 : Int32) (x5 : Int32) (cs9 : CS) (r9 : Int32) (h : c_X9_complete F cs x0 x1 x2 x3 x4 x5 = some (cs9, r9)) : cs9.1 = cs.1 := by
  unfold c_X9_complete at h
  have hq : cs.1 = cs.1 := rfl
  replace h := ob h; obtain ⟨v_1, hv_1, h⟩ := h
  by_cases c_2 : v_1 = 0
  · skip
    replace h := (if_pos c_2).symm.trans h
    replace h := ob h; obtain ⟨v_3, hv_3, h⟩ := h
    replace h := ob h; obtain ⟨i_4, hi_4, h⟩ := h
    subst hi_4
    replace h := ob h; obtain ⟨v_5, hv_5, h⟩ := h
    by_cases c_6 : v_5 < 120
    · skip
      replace h := (if_pos c_6).symm.trans h
      obtain k9 := mo_c_X9_complete_b27 F cs x0 x1 x2 x3 x5 cs9 r9 h
      exact k9.trans hq
    · skip
      replace h := (if_neg c_6).symm.trans h
      replace h := ob h; obtain ⟨w_8, hw_8, h⟩ := h
      replace h := ob h; obtain ⟨cs_7, hv_7, h⟩ := h
      replace hq := (mo_c_X9_refuse F cs x0 7 x4 cs_7 hv_7).trans hq
      obtain k9 := mo_c_X9_complete_b27 F cs_7 x0 x1 x2 x3 x5 cs9 r9 h
      exact k9.trans hq
  · skip
    replace h := (if_neg c_2).symm.trans h
    obtain k9 := mo_c_X9_complete_b27 F cs x0 x1 x2 x3 x5 cs9 r9 h
    exact k9.trans hq
theorem mo_c_X9_readLiteral_b65 (F : Nat) (cs1 : CS) (cs9 : CS) (h : c_X9_readLiteral_b65 F cs1 = some cs9) : cs9.1 = cs1.1 := by
  unfold c_X9_readLiteral_b65 at h
  have hq : cs1.1 = cs1.1 := rfl
  have h9 := Option.some.inj h
  exact (congrArg (fun z => z.1) h9).symm.trans hq
theorem mo_c_X9_readLiteral (F : Nat) (cs : CS) (x0 : Nat) (cs9 : CS) (h : c_X9_readLiteral F cs x0 = some cs9) : cs9.1 = cs.1 := by
  unfold c_X9_readLiteral at h
  have hq : cs.1 = cs.1 := rfl
  replace h := ob h; obtain ⟨w_2, hw_2, h⟩ := h
  replace h := ob h; obtain ⟨v_1, hv_1, h⟩ := h
  replace h := ob h; obtain ⟨w_4, hw_4, h⟩ := h
  replace h := ob h; obtain ⟨v_3, hv_3, h⟩ := h
  replace h := ob h; obtain ⟨w_6, hw_6, h⟩ := h
  replace h := ob h; obtain ⟨v_5, hv_5, h⟩ := h
  replace h := ob h; obtain ⟨v_7, hv_7, h⟩ := h
  replace h := ob h; obtain ⟨cs_8, hv_8, h⟩ := h
  replace hq := (pI_1 hv_8).trans hq
  replace h := ob h; obtain ⟨v_9, hv_9, h⟩ := h
  replace h := ob h; obtain ⟨i_10, hi_10, h⟩ := h
  subst hi_10
  replace h := ob h; obtain ⟨v_11, hv_11, h⟩ := h
  replace h := ob h; obtain ⟨w_13, hw_13, h⟩ := h
  replace h := ob h; obtain ⟨z_12, hv_12, h⟩ := h
  replace hq := (mo_c_X9_complete F cs_8 x0 v_1 v_11 v_3 v_3 0 z_12.1 z_12.2 hv_12).trans hq
  replace h := ob h; obtain ⟨v_14, hv_14, h⟩ := h
  replace h := ob h; obtain ⟨i_16, hi_16, h⟩ := h
  subst hi_16
  replace h := ob h; obtain ⟨w_17, hw_17, h⟩ := h
  replace h := ob h; obtain ⟨v_15, hv_15, h⟩ := h
  by_cases c_18 : v_15 = 0
  · skip
    replace h := (if_pos c_18).symm.trans h
    obtain k9 := mo_c_X9_readLiteral_b65 F z_12.1 cs9 h
    exact k9.trans hq
  · skip
    replace h := (if_neg c_18).symm.trans h
    replace h := ob h; obtain ⟨v_19, hv_19, h⟩ := h
    replace h := ob h; obtain ⟨i_20, hi_20, h⟩ := h
    subst hi_20
    replace h := ob h; obtain ⟨v_21, hv_21, h⟩ := h
    replace h := ob h; obtain ⟨cs_22, hv_22, h⟩ := h
    replace hq := (wB_1 hv_22).trans hq
    obtain k9 := mo_c_X9_readLiteral_b65 F cs_22 cs9 h
    exact k9.trans hq
theorem mo_c_X9_readColumn_b150 (F : Nat) (cs1 : CS) (cs9 : CS) (h : c_X9_readColumn_b150 F cs1 = some cs9) : cs9.1 = cs1.1 := by
  unfold c_X9_readColumn_b150 at h
  have hq : cs1.1 = cs1.1 := rfl
  have h9 := Option.some.inj h
  exact (congrArg (fun z => z.1) h9).symm.trans hq
theorem mo_c_X9_readColumn_b97 (F : Nat) (cs1 : CS) (u0 : Nat) (u1 : Int32) (u3 : Int64) (u5 : Int64) (cs9 : CS) (h : c_X9_readColumn_b97 F cs1 u0 u1 u3 u5 = some cs9) : cs9.1 = cs1.1 := by
  unfold c_X9_readColumn_b97 at h
  have hq : cs1.1 = cs1.1 := rfl
  replace h := ob h; obtain ⟨v_1, hv_1, h⟩ := h
  replace h := ob h; obtain ⟨i_2, hi_2, h⟩ := h
  subst hi_2
  replace h := ob h; obtain ⟨v_3, hv_3, h⟩ := h
  replace h := ob h; obtain ⟨w_5, hw_5, h⟩ := h
  replace h := ob h; obtain ⟨z_4, hv_4, h⟩ := h
  replace hq := (mo_c_X9_complete F cs1 u0 39 v_3 u1 u1 0 z_4.1 z_4.2 hv_4).trans hq
  replace h := ob h; obtain ⟨v_6, hv_6, h⟩ := h
  replace h := ob h; obtain ⟨i_8, hi_8, h⟩ := h
  subst hi_8
  replace h := ob h; obtain ⟨w_9, hw_9, h⟩ := h
  replace h := ob h; obtain ⟨v_7, hv_7, h⟩ := h
  by_cases c_10 : v_7 = 0
  · skip
    replace h := (if_pos c_10).symm.trans h
    obtain k9 := mo_c_X9_readColumn_b150 F z_4.1 cs9 h
    exact k9.trans hq
  · skip
    replace h := (if_neg c_10).symm.trans h
    replace h := ob h; obtain ⟨v_11, hv_11, h⟩ := h
    replace h := ob h; obtain ⟨i_12, hi_12, h⟩ := h
    subst hi_12
    replace h := ob h; obtain ⟨v_13, hv_13, h⟩ := h
    replace h := ob h; obtain ⟨cs_14, hv_14, h⟩ := h
    replace hq := (wB_1 hv_14).trans hq
    replace h := ob h; obtain ⟨v_15, hv_15, h⟩ := h
    replace h := ob h; obtain ⟨i_16, hi_16, h⟩ := h
    subst hi_16
    replace h := ob h; obtain ⟨v_17, hv_17, h⟩ := h
    replace h := ob h; obtain ⟨cs_18, hv_18, h⟩ := h
    replace hq := (wB_1 hv_18).trans hq
    obtain k9 := mo_c_X9_readColumn_b150 F cs_18 cs9 h
    exact k9.trans hq
theorem mo_c_X9_readColumn_b81 (F : Nat) (cs1 : CS) (u0 : Nat) (u1 : Int32) (u5 : Int64) (y0 : Int64) (cs9 : CS) (h : c_X9_readColumn_b81 F cs1 u0 u1 u5 y0 = some cs9) : cs9.1 = cs1.1 := by
  unfold c_X9_readColumn_b81 at h
  have hq : cs1.1 = cs1.1 := rfl
  replace h := ob h; obtain ⟨w_2, hw_2, h⟩ := h
  replace h := ob h; obtain ⟨z_1, hv_1, h⟩ := h
  replace hq := (mo_c_X9_accept F cs1 u0 38 z_1.1 z_1.2 hv_1).trans hq
  by_cases c_3 : z_1.2 = 0
  · skip
    replace h := (if_pos c_3).symm.trans h
    replace h := ob h; obtain ⟨w_5, hw_5, h⟩ := h
    replace h := ob h; obtain ⟨cs_4, hv_4, h⟩ := h
    replace hq := (mo_c_X9_expect F z_1.1 u0 39 cs_4 hv_4).trans hq
    obtain k9 := mo_c_X9_readColumn_b97 F cs_4 u0 u1 y0 u5 cs9 h
    exact k9.trans hq
  · skip
    replace h := (if_neg c_3).symm.trans h
    obtain k9 := mo_c_X9_readColumn_b97 F z_1.1 u0 u1 y0 u5 cs9 h
    exact k9.trans hq
theorem mo_c_X9_readColumn_b32 (F : Nat) (cs1 : CS) (u0 : Nat) (u1 : Int32) (u2 : Int32) (y0 : Int64) (cs9 : CS) (h : c_X9_readColumn_b32 F cs1 u0 u1 u2 y0 = some cs9) : cs9.1 = cs1.1 := by
  unfold c_X9_readColumn_b32 at h
  have hq : cs1.1 = cs1.1 := rfl
  replace h := ob h; obtain ⟨v_1, hv_1, h⟩ := h
  replace h := ob h; obtain ⟨cs_2, hv_2, h⟩ := h
  replace hq := (pI_1 hv_2).trans hq
  by_cases c_3 : u2 = 0
  · skip
    replace h := (if_pos c_3).symm.trans h
    replace h := ob h; obtain ⟨w_5, hw_5, h⟩ := h
    replace h := ob h; obtain ⟨z_4, hv_4, h⟩ := h
    replace hq := (mo_c_X9_accept F cs_2 u0 44 z_4.1 z_4.2 hv_4).trans hq
    by_cases c_6 : z_4.2 = 0
    · skip
      replace h := (if_pos c_6).symm.trans h
      obtain k9 := mo_c_X9_readColumn_b97 F z_4.1 u0 u1 y0 (-1) cs9 h
      exact k9.trans hq
    · skip
      replace h := (if_neg c_6).symm.trans h
      replace h := ob h; obtain ⟨w_8, hw_8, h⟩ := h
      replace h := ob h; obtain ⟨v_7, hv_7, h⟩ := h
      by_cases c_9 : v_7 = 38
      · skip
        replace h := (if_pos c_9).symm.trans h
        obtain k9 := mo_c_X9_readColumn_b81 F z_4.1 u0 u1 y0 0 cs9 h
        exact k9.trans hq
      · skip
        replace h := (if_neg c_9).symm.trans h
        replace h := ob h; obtain ⟨w_11, hw_11, h⟩ := h
        replace h := ob h; obtain ⟨v_10, hv_10, h⟩ := h
        obtain k9 := mo_c_X9_readColumn_b81 F z_4.1 u0 u1 y0 v_10 cs9 h
        exact k9.trans hq
  · skip
    replace h := (if_neg c_3).symm.trans h
    obtain k9 := mo_c_X9_readColumn_b97 F cs_2 u0 u1 y0 (-1) cs9 h
    exact k9.trans hq
theorem mo_c_X9_readColumn_b19 (F : Nat) (cs1 : CS) (u0 : Nat) (u1 : Int32) (y0 : Int32) (cs9 : CS) (h : c_X9_readColumn_b19 F cs1 u0 u1 y0 = some cs9) : cs9.1 = cs1.1 := by
  unfold c_X9_readColumn_b19 at h
  have hq : cs1.1 = cs1.1 := rfl
  by_cases c_1 : y0 = 0
  · skip
    replace h := (if_pos c_1).symm.trans h
    replace h := ob h; obtain ⟨w_3, hw_3, h⟩ := h
    replace h := ob h; obtain ⟨v_2, hv_2, h⟩ := h
    obtain k9 := mo_c_X9_readColumn_b32 F cs1 u0 u1 y0 v_2 cs9 h
    exact k9.trans hq
  · skip
    replace h := (if_neg c_1).symm.trans h
    obtain k9 := mo_c_X9_readColumn_b32 F cs1 u0 u1 y0 0 cs9 h
    exact k9.trans hq
theorem mo_c_X9_readColumn (F : Nat) (cs : CS) (x0 : Nat) (cs9 : CS) (h : c_X9_readColumn F cs x0 = some cs9) : cs9.1 = cs.1 := by
  unfold c_X9_readColumn at h
  have hq : cs.1 = cs.1 := rfl
  replace h := ob h; obtain ⟨w_2, hw_2, h⟩ := h
  replace h := ob h; obtain ⟨v_1, hv_1, h⟩ := h
  replace h := ob h; obtain ⟨w_4, hw_4, h⟩ := h
  replace h := ob h; obtain ⟨v_3, hv_3, h⟩ := h
  by_cases c_5 : v_3 = 38
  · skip
    replace h := (if_pos c_5).symm.trans h
    obtain k9 := mo_c_X9_readColumn_b19 F cs x0 v_1 1 cs9 h
    exact k9.trans hq
  · skip
    replace h := (if_neg c_5).symm.trans h
    obtain k9 := mo_c_X9_readColumn_b19 F cs x0 v_1 0 cs9 h
    exact k9.trans hq
theorem mo_c_X9_deepen_b19 (F : Nat) (cs1 : CS) (u0 : Nat) (cs9 : CS) (h : c_X9_deepen_b19 F cs1 u0 = some cs9) : cs9.1 = cs1.1 := by
  unfold c_X9_deepen_b19 at h
  have hq : cs1.1 = cs1.1 := rfl
  replace h := ob h; obtain ⟨v_1, hv_1, h⟩ := h
  replace h := ob h; obtain ⟨cs_2, hv_2, h⟩ := h
  replace hq := (pI_1 hv_2).trans hq
  have h9 := Option.some.inj h
  exact (congrArg (fun z => z.1) h9).symm.trans hq
theorem mo_c_X9_deepen (F : Nat) (cs : CS) (x0 : Nat) (cs9 : CS) (h : c_X9_deepen F cs x0 = some cs9) : cs9.1 = cs.1 := by
  unfold c_X9_deepen at h
  have hq : cs.1 = cs.1 := rfl
  replace h := ob h; obtain ⟨v_1, hv_1, h⟩ := h
  by_cases c_2 : v_1 < 12
  · skip
    replace h := (if_pos c_2).symm.trans h
    obtain k9 := mo_c_X9_deepen_b19 F cs x0 cs9 h
    exact k9.trans hq
  · skip
    replace h := (if_neg c_2).symm.trans h
    replace h := ob h; obtain ⟨w_4, hw_4, h⟩ := h
    replace h := ob h; obtain ⟨v_3, hv_3, h⟩ := h
    replace h := ob h; obtain ⟨w_6, hw_6, h⟩ := h
    replace h := ob h; obtain ⟨cs_5, hv_5, h⟩ := h
    replace hq := (mo_c_X9_refuse F cs x0 7 v_3 cs_5 hv_5).trans hq
    obtain k9 := mo_c_X9_deepen_b19 F cs_5 x0 cs9 h
    exact k9.trans hq
theorem mo_c_X9_noteAggregate_b23 (F : Nat) (cs1 : CS) (cs9 : CS) (h : c_X9_noteAggregate_b23 F cs1 = some cs9) : cs9.1 = cs1.1 := by
  unfold c_X9_noteAggregate_b23 at h
  have hq : cs1.1 = cs1.1 := rfl
  have h9 := Option.some.inj h
  exact (congrArg (fun z => z.1) h9).symm.trans hq
theorem mo_c_X9_noteAggregate_b70 (F : Nat) (cs1 : CS) (cs9 : CS) (h : c_X9_noteAggregate_b70 F cs1 = some cs9) : cs9.1 = cs1.1 := by
  unfold c_X9_noteAggregate_b70 at h
  have hq : cs1.1 = cs1.1 := rfl
  have h9 := Option.some.inj h
  exact (congrArg (fun z => z.1) h9).symm.trans hq
theorem mo_c_X9_noteAggregate (F : Nat) (cs : CS) (x0 : Nat) (x1 : Nat) (x2 : Int32) (x3 : Int32) (cs9 : CS) (h : c_X9_noteAggregate F cs x0 x1 x2 x3 = some cs9) : cs9.1 = cs.1 := by
  unfold c_X9_noteAggregate at h
  have hq : cs.1 = cs.1 := rfl
  replace h := ob h; obtain ⟨v_1, hv_1, h⟩ := h
  replace h := ob h; obtain ⟨i_3, hi_3, h⟩ := h
  subst hi_3
  replace h := ob h; obtain ⟨w_4, hw_4, h⟩ := h
  replace h := ob h; obtain ⟨v_2, hv_2, h⟩ := h
  by_cases c_5 : v_2 = 0
  · skip
    replace h := (if_pos c_5).symm.trans h
    obtain k9 := mo_c_X9_noteAggregate_b23 F cs cs9 h
    exact k9.trans hq
  · skip
    replace h := (if_neg c_5).symm.trans h
    replace h := ob h; obtain ⟨v_6, hv_6, h⟩ := h
    replace h := ob h; obtain ⟨v_7, hv_7, h⟩ := h
    replace h := ob h; obtain ⟨v_8, hv_8, h⟩ := h
    by_cases c_9 : v_6 < v_8
    · skip
      replace h := (if_pos c_9).symm.trans h
      replace h := ob h; obtain ⟨v_10, hv_10, h⟩ := h
      replace h := ob h; obtain ⟨v_11, hv_11, h⟩ := h
      replace h := ob h; obtain ⟨cs_12, hv_12, h⟩ := h
      replace hq := (wA_1 hv_12).trans hq
      replace h := ob h; obtain ⟨v_13, hv_13, h⟩ := h
      replace h := ob h; obtain ⟨cs_14, hv_14, h⟩ := h
      replace hq := (pI_1 hv_14).trans hq
      replace h := ob h; obtain ⟨v_15, hv_15, h⟩ := h
      replace h := ob h; obtain ⟨i_17, hi_17, h⟩ := h
      subst hi_17
      replace h := ob h; obtain ⟨w_18, hw_18, h⟩ := h
      replace h := ob h; obtain ⟨v_16, hv_16, h⟩ := h
      by_cases c_19 : v_16 = 0
      · skip
        replace h := (if_pos c_19).symm.trans h
        obtain k9 := mo_c_X9_noteAggregate_b70 F cs_14 cs9 h
        exact k9.trans hq
      · skip
        replace h := (if_neg c_19).symm.trans h
        by_cases c_20 : x2 ≤ x3
        · skip
          replace h := (if_pos c_20).symm.trans h
          obtain k9 := mo_c_X9_noteAggregate_b70 F cs_14 cs9 h
          exact k9.trans hq
        · skip
          replace h := (if_neg c_20).symm.trans h
          replace h := ob h; obtain ⟨v_21, hv_21, h⟩ := h
          replace h := ob h; obtain ⟨i_22, hi_22, h⟩ := h
          subst hi_22
          replace h := ob h; obtain ⟨v_23, hv_23, h⟩ := h
          replace h := ob h; obtain ⟨cs_24, hv_24, h⟩ := h
          replace hq := (wA_1 hv_24).trans hq
          obtain k9 := mo_c_X9_noteAggregate_b70 F cs_24 cs9 h
          exact k9.trans hq
    · skip
      replace h := (if_neg c_9).symm.trans h
      obtain k9 := mo_c_X9_noteAggregate_b23 F cs cs9 h
      exact k9.trans hq
theorem mo_c_X9_readExpr_b73 (F : Nat) (T : TC_X9_readExpr) (hM_X9_readExpr : ∀ (cs : CS) (x0 : Nat) (cs9 : CS) (r9 : Int32), T.1 cs x0 = some (cs9, r9) → cs9.1 = cs.1) (hM_X9_readConjunction : ∀ (cs : CS) (x0 : Nat) (cs9 : CS), T.2.1 cs x0 = some cs9 → cs9.1 = cs.1) (hM_X9_readNegation : ∀ (cs : CS) (x0 : Nat) (cs9 : CS), T.2.2.1 cs x0 = some cs9 → cs9.1 = cs.1) (hM_X9_readTest : ∀ (cs : CS) (x0 : Nat) (cs9 : CS), T.2.2.2.1 cs x0 = some cs9 → cs9.1 = cs.1) (hM_X9_readSum : ∀ (cs : CS) (x0 : Nat) (cs9 : CS), T.2.2.2.2.1 cs x0 = some cs9 → cs9.1 = cs.1) (hM_X9_readPart : ∀ (cs : CS) (x0 : Nat) (cs9 : CS), T.2.2.2.2.2.1 cs x0 = some cs9 → cs9.1 = cs.1) (hM_X9_readSign : ∀ (cs : CS) (x0 : Nat) (cs9 : CS), T.2.2.2.2.2.2.1 cs x0 = some cs9 → cs9.1 = cs.1) (hM_X9_readOne : ∀ (cs : CS) (x0 : Nat) (cs9 : CS), T.2.2.2.2.2.2.2.1 cs x0 = some cs9 → cs9.1 = cs.1) (hM_X9_readCase : ∀ (cs : CS) (x0 : Nat) (cs9 : CS), T.2.2.2.2.2.2.2.2.1 cs x0 = some cs9 → cs9.1 = cs.1) (hM_X9_readSpan : ∀ (cs : CS) (x0 : Nat) (cs9 : CS), T.2.2.2.2.2.2.2.2.2.1 cs x0 = some cs9 → cs9.1 = cs.1) (hM_X9_readAggregate : ∀ (cs : CS) (x0 : Nat) (cs9 : CS), T.2.2.2.2.2.2.2.2.2.2.1 cs x0 = some cs9 → cs9.1 = cs.1) (hM_X9_readList : ∀ (cs : CS) (x0 : Nat) (x1 : Int32) (x2 : Int32) (x3 : Int32) (x4 : Int32) (cs9 : CS), T.2.2.2.2.2.2.2.2.2.2.2 cs x0 x1 x2 x3 x4 = some cs9 → cs9.1 = cs.1) (cs1 : CS) (u0 : Nat) (cs9 : CS) (r9 : Int32) (h : c_X9_readExpr_b73 F T cs1 u0 = some (cs9, r9)) : cs9.1 = cs1.1 := by
  unfold c_X9_readExpr_b73 at h
  have hq : cs1.1 = cs1.1 := rfl
  replace h := ob h; obtain ⟨v_1, hv_1, h⟩ := h
  replace h := ob h; obtain ⟨i_2, hi_2, h⟩ := h
  subst hi_2
  replace h := ob h; obtain ⟨v_3, hv_3, h⟩ := h
  have h9 := (Prod.mk.inj (Option.some.inj h)).1
  exact (congrArg (fun z => z.1) h9).symm.trans hq
theorem mo_c_X9_readExpr_L19 (F : Nat) (T : TC_X9_readExpr) (hM_X9_readExpr : ∀ (cs : CS) (x0 : Nat) (cs9 : CS) (r9 : Int32), T.1 cs x0 = some (cs9, r9) → cs9.1 = cs.1) (hM_X9_readConjunction : ∀ (cs : CS) (x0 : Nat) (cs9 : CS), T.2.1 cs x0 = some cs9 → cs9.1 = cs.1) (hM_X9_readNegation : ∀ (cs : CS) (x0 : Nat) (cs9 : CS), T.2.2.1 cs x0 = some cs9 → cs9.1 = cs.1) (hM_X9_readTest : ∀ (cs : CS) (x0 : Nat) (cs9 : CS), T.2.2.2.1 cs x0 = some cs9 → cs9.1 = cs.1) (hM_X9_readSum : ∀ (cs : CS) (x0 : Nat) (cs9 : CS), T.2.2.2.2.1 cs x0 = some cs9 → cs9.1 = cs.1) (hM_X9_readPart : ∀ (cs : CS) (x0 : Nat) (cs9 : CS), T.2.2.2.2.2.1 cs x0 = some cs9 → cs9.1 = cs.1) (hM_X9_readSign : ∀ (cs : CS) (x0 : Nat) (cs9 : CS), T.2.2.2.2.2.2.1 cs x0 = some cs9 → cs9.1 = cs.1) (hM_X9_readOne : ∀ (cs : CS) (x0 : Nat) (cs9 : CS), T.2.2.2.2.2.2.2.1 cs x0 = some cs9 → cs9.1 = cs.1) (hM_X9_readCase : ∀ (cs : CS) (x0 : Nat) (cs9 : CS), T.2.2.2.2.2.2.2.2.1 cs x0 = some cs9 → cs9.1 = cs.1) (hM_X9_readSpan : ∀ (cs : CS) (x0 : Nat) (cs9 : CS), T.2.2.2.2.2.2.2.2.2.1 cs x0 = some cs9 → cs9.1 = cs.1) (hM_X9_readAggregate : ∀ (cs : CS) (x0 : Nat) (cs9 : CS), T.2.2.2.2.2.2.2.2.2.2.1 cs x0 = some cs9 → cs9.1 = cs.1) (hM_X9_readList : ∀ (cs : CS) (x0 : Nat) (x1 : Int32) (x2 : Int32) (x3 : Int32) (x4 : Int32) (cs9 : CS), T.2.2.2.2.2.2.2.2.2.2.2 cs x0 x1 x2 x3 x4 = some cs9 → cs9.1 = cs.1) : ∀ (lf_19 : Nat) (cs1 : CS) (u0 : Nat) (u1 : Int32) (u2 : Int32) (u3 : Int32) (cs9 : CS) (r9 : Int32), c_X9_readExpr_L19 F T lf_19 cs1 u0 u1 u2 u3 = some (cs9, r9) → cs9.1 = cs1.1 := by
  intro lf_19
  induction lf_19 with
  | zero => intro cs1 u0 u1 u2 u3 cs9 r9 h; cases (show (none : Option (CS × Int32)) = _ from h)
  | succ lf_19 ih_19 =>
    intro cs1 u0 u1 u2 u3 cs9 r9 h
    rw [c_X9_readExpr_L19] at h
    have hq : cs1.1 = cs1.1 := rfl
    by_cases c_1 : 2000 ≤ u3
    · skip
      replace h := (if_pos c_1).symm.trans h
      obtain k9 := mo_c_X9_readExpr_b73 F T hM_X9_readExpr hM_X9_readConjunction hM_X9_readNegation hM_X9_readTest hM_X9_readSum hM_X9_readPart hM_X9_readSign hM_X9_readOne hM_X9_readCase hM_X9_readSpan hM_X9_readAggregate hM_X9_readList cs1 u0 cs9 r9 h
      exact k9.trans hq
    · skip
      replace h := (if_neg c_1).symm.trans h
      replace h := ob h; obtain ⟨w_3, hw_3, h⟩ := h
      replace h := ob h; obtain ⟨v_2, hv_2, h⟩ := h
      by_cases c_4 : v_2 = 29
      · skip
        replace h := (if_pos c_4).symm.trans h
        replace h := ob h; obtain ⟨w_6, hw_6, h⟩ := h
        replace h := ob h; obtain ⟨v_5, hv_5, h⟩ := h
        replace h := ob h; obtain ⟨v_7, hv_7, h⟩ := h
        replace h := ob h; obtain ⟨cs_8, hv_8, h⟩ := h
        replace hq := (pI_1 hv_8).trans hq
        replace h := ob h; obtain ⟨w_10, hw_10, h⟩ := h
        replace h := ob h; obtain ⟨cs_9, hv_9, h⟩ := h
        replace hq := (hM_X9_readConjunction cs_8 u0 cs_9 hv_9).trans hq
        replace h := ob h; obtain ⟨w_12, hw_12, h⟩ := h
        replace h := ob h; obtain ⟨z_11, hv_11, h⟩ := h
        replace hq := (mo_c_X9_complete F cs_9 u0 29 u1 u2 v_5 2 z_11.1 z_11.2 hv_11).trans hq
        obtain k9 := ih_19 z_11.1 u0 u1 u2 (u3 + 1) cs9 r9 h
        exact k9.trans hq
      · skip
        replace h := (if_neg c_4).symm.trans h
        obtain k9 := mo_c_X9_readExpr_b73 F T hM_X9_readExpr hM_X9_readConjunction hM_X9_readNegation hM_X9_readTest hM_X9_readSum hM_X9_readPart hM_X9_readSign hM_X9_readOne hM_X9_readCase hM_X9_readSpan hM_X9_readAggregate hM_X9_readList cs1 u0 cs9 r9 h
        exact k9.trans hq
theorem mo_cb_X9_readExpr (F : Nat) (T : TC_X9_readExpr) (hM_X9_readExpr : ∀ (cs : CS) (x0 : Nat) (cs9 : CS) (r9 : Int32), T.1 cs x0 = some (cs9, r9) → cs9.1 = cs.1) (hM_X9_readConjunction : ∀ (cs : CS) (x0 : Nat) (cs9 : CS), T.2.1 cs x0 = some cs9 → cs9.1 = cs.1) (hM_X9_readNegation : ∀ (cs : CS) (x0 : Nat) (cs9 : CS), T.2.2.1 cs x0 = some cs9 → cs9.1 = cs.1) (hM_X9_readTest : ∀ (cs : CS) (x0 : Nat) (cs9 : CS), T.2.2.2.1 cs x0 = some cs9 → cs9.1 = cs.1) (hM_X9_readSum : ∀ (cs : CS) (x0 : Nat) (cs9 : CS), T.2.2.2.2.1 cs x0 = some cs9 → cs9.1 = cs.1) (hM_X9_readPart : ∀ (cs : CS) (x0 : Nat) (cs9 : CS), T.2.2.2.2.2.1 cs x0 = some cs9 → cs9.1 = cs.1) (hM_X9_readSign : ∀ (cs : CS) (x0 : Nat) (cs9 : CS), T.2.2.2.2.2.2.1 cs x0 = some cs9 → cs9.1 = cs.1) (hM_X9_readOne : ∀ (cs : CS) (x0 : Nat) (cs9 : CS), T.2.2.2.2.2.2.2.1 cs x0 = some cs9 → cs9.1 = cs.1) (hM_X9_readCase : ∀ (cs : CS) (x0 : Nat) (cs9 : CS), T.2.2.2.2.2.2.2.2.1 cs x0 = some cs9 → cs9.1 = cs.1) (hM_X9_readSpan : ∀ (cs : CS) (x0 : Nat) (cs9 : CS), T.2.2.2.2.2.2.2.2.2.1 cs x0 = some cs9 → cs9.1 = cs.1) (hM_X9_readAggregate : ∀ (cs : CS) (x0 : Nat) (cs9 : CS), T.2.2.2.2.2.2.2.2.2.2.1 cs x0 = some cs9 → cs9.1 = cs.1) (hM_X9_readList : ∀ (cs : CS) (x0 : Nat) (x1 : Int32) (x2 : Int32) (x3 : Int32) (x4 : Int32) (cs9 : CS), T.2.2.2.2.2.2.2.2.2.2.2 cs x0 x1 x2 x3 x4 = some cs9 → cs9.1 = cs.1) (cs : CS) (x0 : Nat) (cs9 : CS) (r9 : Int32) (h : cb_X9_readExpr F T cs x0 = some (cs9, r9)) : cs9.1 = cs.1 := by
  unfold cb_X9_readExpr at h
  have hq : cs.1 = cs.1 := rfl
  replace h := ob h; obtain ⟨v_1, hv_1, h⟩ := h
  replace h := ob h; obtain ⟨i_2, hi_2, h⟩ := h
  subst hi_2
  replace h := ob h; obtain ⟨v_3, hv_3, h⟩ := h
  replace h := ob h; obtain ⟨w_5, hw_5, h⟩ := h
  replace h := ob h; obtain ⟨v_4, hv_4, h⟩ := h
  replace h := ob h; obtain ⟨w_7, hw_7, h⟩ := h
  replace h := ob h; obtain ⟨cs_6, hv_6, h⟩ := h
  replace hq := (hM_X9_readConjunction cs x0 cs_6 hv_6).trans hq
  obtain k9 := mo_c_X9_readExpr_L19 F T hM_X9_readExpr hM_X9_readConjunction hM_X9_readNegation hM_X9_readTest hM_X9_readSum hM_X9_readPart hM_X9_readSign hM_X9_readOne hM_X9_readCase hM_X9_readSpan hM_X9_readAggregate hM_X9_readList F cs_6 x0 v_3 v_4 0 cs9 r9 h
  exact k9.trans hq
theorem mo_c_X9_readConjunction_b73 (F : Nat) (T : TC_X9_readExpr) (hM_X9_readExpr : ∀ (cs : CS) (x0 : Nat) (cs9 : CS) (r9 : Int32), T.1 cs x0 = some (cs9, r9) → cs9.1 = cs.1) (hM_X9_readConjunction : ∀ (cs : CS) (x0 : Nat) (cs9 : CS), T.2.1 cs x0 = some cs9 → cs9.1 = cs.1) (hM_X9_readNegation : ∀ (cs : CS) (x0 : Nat) (cs9 : CS), T.2.2.1 cs x0 = some cs9 → cs9.1 = cs.1) (hM_X9_readTest : ∀ (cs : CS) (x0 : Nat) (cs9 : CS), T.2.2.2.1 cs x0 = some cs9 → cs9.1 = cs.1) (hM_X9_readSum : ∀ (cs : CS) (x0 : Nat) (cs9 : CS), T.2.2.2.2.1 cs x0 = some cs9 → cs9.1 = cs.1) (hM_X9_readPart : ∀ (cs : CS) (x0 : Nat) (cs9 : CS), T.2.2.2.2.2.1 cs x0 = some cs9 → cs9.1 = cs.1) (hM_X9_readSign : ∀ (cs : CS) (x0 : Nat) (cs9 : CS), T.2.2.2.2.2.2.1 cs x0 = some cs9 → cs9.1 = cs.1) (hM_X9_readOne : ∀ (cs : CS) (x0 : Nat) (cs9 : CS), T.2.2.2.2.2.2.2.1 cs x0 = some cs9 → cs9.1 = cs.1) (hM_X9_readCase : ∀ (cs : CS) (x0 : Nat) (cs9 : CS), T.2.2.2.2.2.2.2.2.1 cs x0 = some cs9 → cs9.1 = cs.1) (hM_X9_readSpan : ∀ (cs : CS) (x0 : Nat) (cs9 : CS), T.2.2.2.2.2.2.2.2.2.1 cs x0 = some cs9 → cs9.1 = cs.1) (hM_X9_readAggregate : ∀ (cs : CS) (x0 : Nat) (cs9 : CS), T.2.2.2.2.2.2.2.2.2.2.1 cs x0 = some cs9 → cs9.1 = cs.1) (hM_X9_readList : ∀ (cs : CS) (x0 : Nat) (x1 : Int32) (x2 : Int32) (x3 : Int32) (x4 : Int32) (cs9 : CS), T.2.2.2.2.2.2.2.2.2.2.2 cs x0 x1 x2 x3 x4 = some cs9 → cs9.1 = cs.1) (cs1 : CS) (cs9 : CS) (h : c_X9_readConjunction_b73 F T cs1 = some cs9) : cs9.1 = cs1.1 := by
  unfold c_X9_readConjunction_b73 at h
  have hq : cs1.1 = cs1.1 := rfl
  have h9 := Option.some.inj h
  exact (congrArg (fun z => z.1) h9).symm.trans hq
theorem mo_c_X9_readConjunction_L19 (F : Nat) (T : TC_X9_readExpr) (hM_X9_readExpr : ∀ (cs : CS) (x0 : Nat) (cs9 : CS) (r9 : Int32), T.1 cs x0 = some (cs9, r9) → cs9.1 = cs.1) (hM_X9_readConjunction : ∀ (cs : CS) (x0 : Nat) (cs9 : CS), T.2.1 cs x0 = some cs9 → cs9.1 = cs.1) (hM_X9_readNegation : ∀ (cs : CS) (x0 : Nat) (cs9 : CS), T.2.2.1 cs x0 = some cs9 → cs9.1 = cs.1) (hM_X9_readTest : ∀ (cs : CS) (x0 : Nat) (cs9 : CS), T.2.2.2.1 cs x0 = some cs9 → cs9.1 = cs.1) (hM_X9_readSum : ∀ (cs : CS) (x0 : Nat) (cs9 : CS), T.2.2.2.2.1 cs x0 = some cs9 → cs9.1 = cs.1) (hM_X9_readPart : ∀ (cs : CS) (x0 : Nat) (cs9 : CS), T.2.2.2.2.2.1 cs x0 = some cs9 → cs9.1 = cs.1) (hM_X9_readSign : ∀ (cs : CS) (x0 : Nat) (cs9 : CS), T.2.2.2.2.2.2.1 cs x0 = some cs9 → cs9.1 = cs.1) (hM_X9_readOne : ∀ (cs : CS) (x0 : Nat) (cs9 : CS), T.2.2.2.2.2.2.2.1 cs x0 = some cs9 → cs9.1 = cs.1) (hM_X9_readCase : ∀ (cs : CS) (x0 : Nat) (cs9 : CS), T.2.2.2.2.2.2.2.2.1 cs x0 = some cs9 → cs9.1 = cs.1) (hM_X9_readSpan : ∀ (cs : CS) (x0 : Nat) (cs9 : CS), T.2.2.2.2.2.2.2.2.2.1 cs x0 = some cs9 → cs9.1 = cs.1) (hM_X9_readAggregate : ∀ (cs : CS) (x0 : Nat) (cs9 : CS), T.2.2.2.2.2.2.2.2.2.2.1 cs x0 = some cs9 → cs9.1 = cs.1) (hM_X9_readList : ∀ (cs : CS) (x0 : Nat) (x1 : Int32) (x2 : Int32) (x3 : Int32) (x4 : Int32) (cs9 : CS), T.2.2.2.2.2.2.2.2.2.2.2 cs x0 x1 x2 x3 x4 = some cs9 → cs9.1 = cs.1) : ∀ (lf_19 : Nat) (cs1 : CS) (u0 : Nat) (u1 : Int32) (u2 : Int32) (u3 : Int32) (cs9 : CS), c_X9_readConjunction_L19 F T lf_19 cs1 u0 u1 u2 u3 = some cs9 → cs9.1 = cs1.1 := by
  intro lf_19
  induction lf_19 with
  | zero => intro cs1 u0 u1 u2 u3 cs9 h; cases (show (none : Option CS) = _ from h)
  | succ lf_19 ih_19 =>
    intro cs1 u0 u1 u2 u3 cs9 h
    rw [c_X9_readConjunction_L19] at h
    have hq : cs1.1 = cs1.1 := rfl
    by_cases c_1 : 2000 ≤ u3
    · skip
      replace h := (if_pos c_1).symm.trans h
      obtain k9 := mo_c_X9_readConjunction_b73 F T hM_X9_readExpr hM_X9_readConjunction hM_X9_readNegation hM_X9_readTest hM_X9_readSum hM_X9_readPart hM_X9_readSign hM_X9_readOne hM_X9_readCase hM_X9_readSpan hM_X9_readAggregate hM_X9_readList cs1 cs9 h
      exact k9.trans hq
    · skip
      replace h := (if_neg c_1).symm.trans h
      replace h := ob h; obtain ⟨w_3, hw_3, h⟩ := h
      replace h := ob h; obtain ⟨v_2, hv_2, h⟩ := h
      by_cases c_4 : v_2 = 28
      · skip
        replace h := (if_pos c_4).symm.trans h
        replace h := ob h; obtain ⟨w_6, hw_6, h⟩ := h
        replace h := ob h; obtain ⟨v_5, hv_5, h⟩ := h
        replace h := ob h; obtain ⟨v_7, hv_7, h⟩ := h
        replace h := ob h; obtain ⟨cs_8, hv_8, h⟩ := h
        replace hq := (pI_1 hv_8).trans hq
        replace h := ob h; obtain ⟨w_10, hw_10, h⟩ := h
        replace h := ob h; obtain ⟨cs_9, hv_9, h⟩ := h
        replace hq := (hM_X9_readNegation cs_8 u0 cs_9 hv_9).trans hq
        replace h := ob h; obtain ⟨w_12, hw_12, h⟩ := h
        replace h := ob h; obtain ⟨z_11, hv_11, h⟩ := h
        replace hq := (mo_c_X9_complete F cs_9 u0 28 u1 u2 v_5 2 z_11.1 z_11.2 hv_11).trans hq
        obtain k9 := ih_19 z_11.1 u0 u1 u2 (u3 + 1) cs9 h
        exact k9.trans hq
      · skip
        replace h := (if_neg c_4).symm.trans h
        obtain k9 := mo_c_X9_readConjunction_b73 F T hM_X9_readExpr hM_X9_readConjunction hM_X9_readNegation hM_X9_readTest hM_X9_readSum hM_X9_readPart hM_X9_readSign hM_X9_readOne hM_X9_readCase hM_X9_readSpan hM_X9_readAggregate hM_X9_readList cs1 cs9 h
        exact k9.trans hq
theorem mo_cb_X9_readConjunction (F : Nat) (T : TC_X9_readExpr) (hM_X9_readExpr : ∀ (cs : CS) (x0 : Nat) (cs9 : CS) (r9 : Int32), T.1 cs x0 = some (cs9, r9) → cs9.1 = cs.1) (hM_X9_readConjunction : ∀ (cs : CS) (x0 : Nat) (cs9 : CS), T.2.1 cs x0 = some cs9 → cs9.1 = cs.1) (hM_X9_readNegation : ∀ (cs : CS) (x0 : Nat) (cs9 : CS), T.2.2.1 cs x0 = some cs9 → cs9.1 = cs.1) (hM_X9_readTest : ∀ (cs : CS) (x0 : Nat) (cs9 : CS), T.2.2.2.1 cs x0 = some cs9 → cs9.1 = cs.1) (hM_X9_readSum : ∀ (cs : CS) (x0 : Nat) (cs9 : CS), T.2.2.2.2.1 cs x0 = some cs9 → cs9.1 = cs.1) (hM_X9_readPart : ∀ (cs : CS) (x0 : Nat) (cs9 : CS), T.2.2.2.2.2.1 cs x0 = some cs9 → cs9.1 = cs.1) (hM_X9_readSign : ∀ (cs : CS) (x0 : Nat) (cs9 : CS), T.2.2.2.2.2.2.1 cs x0 = some cs9 → cs9.1 = cs.1) (hM_X9_readOne : ∀ (cs : CS) (x0 : Nat) (cs9 : CS), T.2.2.2.2.2.2.2.1 cs x0 = some cs9 → cs9.1 = cs.1) (hM_X9_readCase : ∀ (cs : CS) (x0 : Nat) (cs9 : CS), T.2.2.2.2.2.2.2.2.1 cs x0 = some cs9 → cs9.1 = cs.1) (hM_X9_readSpan : ∀ (cs : CS) (x0 : Nat) (cs9 : CS), T.2.2.2.2.2.2.2.2.2.1 cs x0 = some cs9 → cs9.1 = cs.1) (hM_X9_readAggregate : ∀ (cs : CS) (x0 : Nat) (cs9 : CS), T.2.2.2.2.2.2.2.2.2.2.1 cs x0 = some cs9 → cs9.1 = cs.1) (hM_X9_readList : ∀ (cs : CS) (x0 : Nat) (x1 : Int32) (x2 : Int32) (x3 : Int32) (x4 : Int32) (cs9 : CS), T.2.2.2.2.2.2.2.2.2.2.2 cs x0 x1 x2 x3 x4 = some cs9 → cs9.1 = cs.1) (cs : CS) (x0 : Nat) (cs9 : CS) (h : cb_X9_readConjunction F T cs x0 = some cs9) : cs9.1 = cs.1 := by
  unfold cb_X9_readConjunction at h
  have hq : cs.1 = cs.1 := rfl
  replace h := ob h; obtain ⟨v_1, hv_1, h⟩ := h
  replace h := ob h; obtain ⟨i_2, hi_2, h⟩ := h
  subst hi_2
  replace h := ob h; obtain ⟨v_3, hv_3, h⟩ := h
  replace h := ob h; obtain ⟨w_5, hw_5, h⟩ := h
  replace h := ob h; obtain ⟨v_4, hv_4, h⟩ := h
  replace h := ob h; obtain ⟨w_7, hw_7, h⟩ := h
  replace h := ob h; obtain ⟨cs_6, hv_6, h⟩ := h
  replace hq := (hM_X9_readNegation cs x0 cs_6 hv_6).trans hq
  obtain k9 := mo_c_X9_readConjunction_L19 F T hM_X9_readExpr hM_X9_readConjunction hM_X9_readNegation hM_X9_readTest hM_X9_readSum hM_X9_readPart hM_X9_readSign hM_X9_readOne hM_X9_readCase hM_X9_readSpan hM_X9_readAggregate hM_X9_readList F cs_6 x0 v_3 v_4 0 cs9 h
  exact k9.trans hq
theorem mo_c_X9_readNegation_b49 (F : Nat) (T : TC_X9_readExpr) (hM_X9_readExpr : ∀ (cs : CS) (x0 : Nat) (cs9 : CS) (r9 : Int32), T.1 cs x0 = some (cs9, r9) → cs9.1 = cs.1) (hM_X9_readConjunction : ∀ (cs : CS) (x0 : Nat) (cs9 : CS), T.2.1 cs x0 = some cs9 → cs9.1 = cs.1) (hM_X9_readNegation : ∀ (cs : CS) (x0 : Nat) (cs9 : CS), T.2.2.1 cs x0 = some cs9 → cs9.1 = cs.1) (hM_X9_readTest : ∀ (cs : CS) (x0 : Nat) (cs9 : CS), T.2.2.2.1 cs x0 = some cs9 → cs9.1 = cs.1) (hM_X9_readSum : ∀ (cs : CS) (x0 : Nat) (cs9 : CS), T.2.2.2.2.1 cs x0 = some cs9 → cs9.1 = cs.1) (hM_X9_readPart : ∀ (cs : CS) (x0 : Nat) (cs9 : CS), T.2.2.2.2.2.1 cs x0 = some cs9 → cs9.1 = cs.1) (hM_X9_readSign : ∀ (cs : CS) (x0 : Nat) (cs9 : CS), T.2.2.2.2.2.2.1 cs x0 = some cs9 → cs9.1 = cs.1) (hM_X9_readOne : ∀ (cs : CS) (x0 : Nat) (cs9 : CS), T.2.2.2.2.2.2.2.1 cs x0 = some cs9 → cs9.1 = cs.1) (hM_X9_readCase : ∀ (cs : CS) (x0 : Nat) (cs9 : CS), T.2.2.2.2.2.2.2.2.1 cs x0 = some cs9 → cs9.1 = cs.1) (hM_X9_readSpan : ∀ (cs : CS) (x0 : Nat) (cs9 : CS), T.2.2.2.2.2.2.2.2.2.1 cs x0 = some cs9 → cs9.1 = cs.1) (hM_X9_readAggregate : ∀ (cs : CS) (x0 : Nat) (cs9 : CS), T.2.2.2.2.2.2.2.2.2.2.1 cs x0 = some cs9 → cs9.1 = cs.1) (hM_X9_readList : ∀ (cs : CS) (x0 : Nat) (x1 : Int32) (x2 : Int32) (x3 : Int32) (x4 : Int32) (cs9 : CS), T.2.2.2.2.2.2.2.2.2.2.2 cs x0 x1 x2 x3 x4 = some cs9 → cs9.1 = cs.1) (cs1 : CS) (u0 : Nat) (u1 : Int32) (u2 : Int32) (cs9 : CS) (h : c_X9_readNegation_b49 F T cs1 u0 u1 u2 = some cs9) : cs9.1 = cs1.1 := by
  unfold c_X9_readNegation_b49 at h
  have hq : cs1.1 = cs1.1 := rfl
  replace h := ob h; obtain ⟨v_1, hv_1, h⟩ := h
  replace h := ob h; obtain ⟨cs_2, hv_2, h⟩ := h
  replace hq := (pI_1 hv_2).trans hq
  replace h := ob h; obtain ⟨w_4, hw_4, h⟩ := h
  replace h := ob h; obtain ⟨z_3, hv_3, h⟩ := h
  replace hq := (mo_c_X9_complete F cs_2 u0 25 u1 u2 u2 1 z_3.1 z_3.2 hv_3).trans hq
  have h9 := Option.some.inj h
  exact (congrArg (fun z => z.1) h9).symm.trans hq
theorem mo_cb_X9_readNegation (F : Nat) (T : TC_X9_readExpr) (hM_X9_readExpr : ∀ (cs : CS) (x0 : Nat) (cs9 : CS) (r9 : Int32), T.1 cs x0 = some (cs9, r9) → cs9.1 = cs.1) (hM_X9_readConjunction : ∀ (cs : CS) (x0 : Nat) (cs9 : CS), T.2.1 cs x0 = some cs9 → cs9.1 = cs.1) (hM_X9_readNegation : ∀ (cs : CS) (x0 : Nat) (cs9 : CS), T.2.2.1 cs x0 = some cs9 → cs9.1 = cs.1) (hM_X9_readTest : ∀ (cs : CS) (x0 : Nat) (cs9 : CS), T.2.2.2.1 cs x0 = some cs9 → cs9.1 = cs.1) (hM_X9_readSum : ∀ (cs : CS) (x0 : Nat) (cs9 : CS), T.2.2.2.2.1 cs x0 = some cs9 → cs9.1 = cs.1) (hM_X9_readPart : ∀ (cs : CS) (x0 : Nat) (cs9 : CS), T.2.2.2.2.2.1 cs x0 = some cs9 → cs9.1 = cs.1) (hM_X9_readSign : ∀ (cs : CS) (x0 : Nat) (cs9 : CS), T.2.2.2.2.2.2.1 cs x0 = some cs9 → cs9.1 = cs.1) (hM_X9_readOne : ∀ (cs : CS) (x0 : Nat) (cs9 : CS), T.2.2.2.2.2.2.2.1 cs x0 = some cs9 → cs9.1 = cs.1) (hM_X9_readCase : ∀ (cs : CS) (x0 : Nat) (cs9 : CS), T.2.2.2.2.2.2.2.2.1 cs x0 = some cs9 → cs9.1 = cs.1) (hM_X9_readSpan : ∀ (cs : CS) (x0 : Nat) (cs9 : CS), T.2.2.2.2.2.2.2.2.2.1 cs x0 = some cs9 → cs9.1 = cs.1) (hM_X9_readAggregate : ∀ (cs : CS) (x0 : Nat) (cs9 : CS), T.2.2.2.2.2.2.2.2.2.2.1 cs x0 = some cs9 → cs9.1 = cs.1) (hM_X9_readList : ∀ (cs : CS) (x0 : Nat) (x1 : Int32) (x2 : Int32) (x3 : Int32) (x4 : Int32) (cs9 : CS), T.2.2.2.2.2.2.2.2.2.2.2 cs x0 x1 x2 x3 x4 = some cs9 → cs9.1 = cs.1) (cs : CS) (x0 : Nat) (cs9 : CS) (h : cb_X9_readNegation F T cs x0 = some cs9) : cs9.1 = cs.1 := by
  unfold cb_X9_readNegation at h
  have hq : cs.1 = cs.1 := rfl
  replace h := ob h; obtain ⟨w_2, hw_2, h⟩ := h
  replace h := ob h; obtain ⟨v_1, hv_1, h⟩ := h
  by_cases c_3 : v_1 = 25
  · skip
    replace h := (if_pos c_3).symm.trans h
    replace h := ob h; obtain ⟨v_4, hv_4, h⟩ := h
    replace h := ob h; obtain ⟨i_5, hi_5, h⟩ := h
    subst hi_5
    replace h := ob h; obtain ⟨v_6, hv_6, h⟩ := h
    replace h := ob h; obtain ⟨w_8, hw_8, h⟩ := h
    replace h := ob h; obtain ⟨v_7, hv_7, h⟩ := h
    replace h := ob h; obtain ⟨w_10, hw_10, h⟩ := h
    replace h := ob h; obtain ⟨cs_9, hv_9, h⟩ := h
    replace hq := (mo_c_X9_deepen F cs x0 cs_9 hv_9).trans hq
    replace h := ob h; obtain ⟨w_12, hw_12, h⟩ := h
    replace h := ob h; obtain ⟨z_11, hv_11, h⟩ := h
    replace hq := (mo_c_X9_accept F cs_9 x0 25 z_11.1 z_11.2 hv_11).trans hq
    replace h := ob h; obtain ⟨v_13, hv_13, h⟩ := h
    by_cases c_14 : v_13 = 0
    · skip
      replace h := (if_pos c_14).symm.trans h
      replace h := ob h; obtain ⟨w_16, hw_16, h⟩ := h
      replace h := ob h; obtain ⟨cs_15, hv_15, h⟩ := h
      replace hq := (hM_X9_readNegation z_11.1 x0 cs_15 hv_15).trans hq
      obtain k9 := mo_c_X9_readNegation_b49 F T hM_X9_readExpr hM_X9_readConjunction hM_X9_readNegation hM_X9_readTest hM_X9_readSum hM_X9_readPart hM_X9_readSign hM_X9_readOne hM_X9_readCase hM_X9_readSpan hM_X9_readAggregate hM_X9_readList cs_15 x0 v_6 v_7 cs9 h
      exact k9.trans hq
    · skip
      replace h := (if_neg c_14).symm.trans h
      obtain k9 := mo_c_X9_readNegation_b49 F T hM_X9_readExpr hM_X9_readConjunction hM_X9_readNegation hM_X9_readTest hM_X9_readSum hM_X9_readPart hM_X9_readSign hM_X9_readOne hM_X9_readCase hM_X9_readSpan hM_X9_readAggregate hM_X9_readList z_11.1 x0 v_6 v_7 cs9 h
      exact k9.trans hq
  · skip
    replace h := (if_neg c_3).symm.trans h
    replace h := ob h; obtain ⟨w_18, hw_18, h⟩ := h
    replace h := ob h; obtain ⟨cs_17, hv_17, h⟩ := h
    replace hq := (hM_X9_readTest cs x0 cs_17 hv_17).trans hq
    have h9 := Option.some.inj h
    exact (congrArg (fun z => z.1) h9).symm.trans hq
theorem mo_c_X9_readTest_b282 (F : Nat) (T : TC_X9_readExpr) (hM_X9_readExpr : ∀ (cs : CS) (x0 : Nat) (cs9 : CS) (r9 : Int32), T.1 cs x0 = some (cs9, r9) → cs9.1 = cs.1) (hM_X9_readConjunction : ∀ (cs : CS) (x0 : Nat) (cs9 : CS), T.2.1 cs x0 = some cs9 → cs9.1 = cs.1) (hM_X9_readNegation : ∀ (cs : CS) (x0 : Nat) (cs9 : CS), T.2.2.1 cs x0 = some cs9 → cs9.1 = cs.1) (hM_X9_readTest : ∀ (cs : CS) (x0 : Nat) (cs9 : CS), T.2.2.2.1 cs x0 = some cs9 → cs9.1 = cs.1) (hM_X9_readSum : ∀ (cs : CS) (x0 : Nat) (cs9 : CS), T.2.2.2.2.1 cs x0 = some cs9 → cs9.1 = cs.1) (hM_X9_readPart : ∀ (cs : CS) (x0 : Nat) (cs9 : CS), T.2.2.2.2.2.1 cs x0 = some cs9 → cs9.1 = cs.1) (hM_X9_readSign : ∀ (cs : CS) (x0 : Nat) (cs9 : CS), T.2.2.2.2.2.2.1 cs x0 = some cs9 → cs9.1 = cs.1) (hM_X9_readOne : ∀ (cs : CS) (x0 : Nat) (cs9 : CS), T.2.2.2.2.2.2.2.1 cs x0 = some cs9 → cs9.1 = cs.1) (hM_X9_readCase : ∀ (cs : CS) (x0 : Nat) (cs9 : CS), T.2.2.2.2.2.2.2.2.1 cs x0 = some cs9 → cs9.1 = cs.1) (hM_X9_readSpan : ∀ (cs : CS) (x0 : Nat) (cs9 : CS), T.2.2.2.2.2.2.2.2.2.1 cs x0 = some cs9 → cs9.1 = cs.1) (hM_X9_readAggregate : ∀ (cs : CS) (x0 : Nat) (cs9 : CS), T.2.2.2.2.2.2.2.2.2.2.1 cs x0 = some cs9 → cs9.1 = cs.1) (hM_X9_readList : ∀ (cs : CS) (x0 : Nat) (x1 : Int32) (x2 : Int32) (x3 : Int32) (x4 : Int32) (cs9 : CS), T.2.2.2.2.2.2.2.2.2.2.2 cs x0 x1 x2 x3 x4 = some cs9 → cs9.1 = cs.1) (cs1 : CS) (cs9 : CS) (h : c_X9_readTest_b282 F T cs1 = some cs9) : cs9.1 = cs1.1 := by
  unfold c_X9_readTest_b282 at h
  have hq : cs1.1 = cs1.1 := rfl
  have h9 := Option.some.inj h
  exact (congrArg (fun z => z.1) h9).symm.trans hq
theorem mo_c_X9_readTest_b172 (F : Nat) (T : TC_X9_readExpr) (hM_X9_readExpr : ∀ (cs : CS) (x0 : Nat) (cs9 : CS) (r9 : Int32), T.1 cs x0 = some (cs9, r9) → cs9.1 = cs.1) (hM_X9_readConjunction : ∀ (cs : CS) (x0 : Nat) (cs9 : CS), T.2.1 cs x0 = some cs9 → cs9.1 = cs.1) (hM_X9_readNegation : ∀ (cs : CS) (x0 : Nat) (cs9 : CS), T.2.2.1 cs x0 = some cs9 → cs9.1 = cs.1) (hM_X9_readTest : ∀ (cs : CS) (x0 : Nat) (cs9 : CS), T.2.2.2.1 cs x0 = some cs9 → cs9.1 = cs.1) (hM_X9_readSum : ∀ (cs : CS) (x0 : Nat) (cs9 : CS), T.2.2.2.2.1 cs x0 = some cs9 → cs9.1 = cs.1) (hM_X9_readPart : ∀ (cs : CS) (x0 : Nat) (cs9 : CS), T.2.2.2.2.2.1 cs x0 = some cs9 → cs9.1 = cs.1) (hM_X9_readSign : ∀ (cs : CS) (x0 : Nat) (cs9 : CS), T.2.2.2.2.2.2.1 cs x0 = some cs9 → cs9.1 = cs.1) (hM_X9_readOne : ∀ (cs : CS) (x0 : Nat) (cs9 : CS), T.2.2.2.2.2.2.2.1 cs x0 = some cs9 → cs9.1 = cs.1) (hM_X9_readCase : ∀ (cs : CS) (x0 : Nat) (cs9 : CS), T.2.2.2.2.2.2.2.2.1 cs x0 = some cs9 → cs9.1 = cs.1) (hM_X9_readSpan : ∀ (cs : CS) (x0 : Nat) (cs9 : CS), T.2.2.2.2.2.2.2.2.2.1 cs x0 = some cs9 → cs9.1 = cs.1) (hM_X9_readAggregate : ∀ (cs : CS) (x0 : Nat) (cs9 : CS), T.2.2.2.2.2.2.2.2.2.2.1 cs x0 = some cs9 → cs9.1 = cs.1) (hM_X9_readList : ∀ (cs : CS) (x0 : Nat) (x1 : Int32) (x2 : Int32) (x3 : Int32) (x4 : Int32) (cs9 : CS), T.2.2.2.2.2.2.2.2.2.2.2 cs x0 x1 x2 x3 x4 = some cs9 → cs9.1 = cs.1) (cs1 : CS) (u0 : Nat) (u1 : Int32) (u2 : Int32) (u3 : Int32) (u4 : Int32) (cs9 : CS) (h : c_X9_readTest_b172 F T cs1 u0 u1 u2 u3 u4 = some cs9) : cs9.1 = cs1.1 := by
  unfold c_X9_readTest_b172 at h
  have hq : cs1.1 = cs1.1 := rfl
  replace h := ob h; obtain ⟨v_1, hv_1, h⟩ := h
  replace h := ob h; obtain ⟨cs_2, hv_2, h⟩ := h
  replace hq := (pI_1 hv_2).trans hq
  replace h := ob h; obtain ⟨w_4, hw_4, h⟩ := h
  replace h := ob h; obtain ⟨cs_3, hv_3, h⟩ := h
  replace hq := (hM_X9_readSum cs_2 u0 cs_3 hv_3).trans hq
  replace h := ob h; obtain ⟨w_6, hw_6, h⟩ := h
  replace h := ob h; obtain ⟨z_5, hv_5, h⟩ := h
  replace hq := (mo_c_X9_complete F cs_3 u0 u4 u1 u2 u3 2 z_5.1 z_5.2 hv_5).trans hq
  obtain k9 := mo_c_X9_readTest_b282 F T hM_X9_readExpr hM_X9_readConjunction hM_X9_readNegation hM_X9_readTest hM_X9_readSum hM_X9_readPart hM_X9_readSign hM_X9_readOne hM_X9_readCase hM_X9_readSpan hM_X9_readAggregate hM_X9_readList z_5.1 cs9 h
  exact k9.trans hq
theorem mo_c_X9_readTest_b226 (F : Nat) (T : TC_X9_readExpr) (hM_X9_readExpr : ∀ (cs : CS) (x0 : Nat) (cs9 : CS) (r9 : Int32), T.1 cs x0 = some (cs9, r9) → cs9.1 = cs.1) (hM_X9_readConjunction : ∀ (cs : CS) (x0 : Nat) (cs9 : CS), T.2.1 cs x0 = some cs9 → cs9.1 = cs.1) (hM_X9_readNegation : ∀ (cs : CS) (x0 : Nat) (cs9 : CS), T.2.2.1 cs x0 = some cs9 → cs9.1 = cs.1) (hM_X9_readTest : ∀ (cs : CS) (x0 : Nat) (cs9 : CS), T.2.2.2.1 cs x0 = some cs9 → cs9.1 = cs.1) (hM_X9_readSum : ∀ (cs : CS) (x0 : Nat) (cs9 : CS), T.2.2.2.2.1 cs x0 = some cs9 → cs9.1 = cs.1) (hM_X9_readPart : ∀ (cs : CS) (x0 : Nat) (cs9 : CS), T.2.2.2.2.2.1 cs x0 = some cs9 → cs9.1 = cs.1) (hM_X9_readSign : ∀ (cs : CS) (x0 : Nat) (cs9 : CS), T.2.2.2.2.2.2.1 cs x0 = some cs9 → cs9.1 = cs.1) (hM_X9_readOne : ∀ (cs : CS) (x0 : Nat) (cs9 : CS), T.2.2.2.2.2.2.2.1 cs x0 = some cs9 → cs9.1 = cs.1) (hM_X9_readCase : ∀ (cs : CS) (x0 : Nat) (cs9 : CS), T.2.2.2.2.2.2.2.2.1 cs x0 = some cs9 → cs9.1 = cs.1) (hM_X9_readSpan : ∀ (cs : CS) (x0 : Nat) (cs9 : CS), T.2.2.2.2.2.2.2.2.2.1 cs x0 = some cs9 → cs9.1 = cs.1) (hM_X9_readAggregate : ∀ (cs : CS) (x0 : Nat) (cs9 : CS), T.2.2.2.2.2.2.2.2.2.2.1 cs x0 = some cs9 → cs9.1 = cs.1) (hM_X9_readList : ∀ (cs : CS) (x0 : Nat) (x1 : Int32) (x2 : Int32) (x3 : Int32) (x4 : Int32) (cs9 : CS), T.2.2.2.2.2.2.2.2.2.2.2 cs x0 x1 x2 x3 x4 = some cs9 → cs9.1 = cs.1) (cs1 : CS) (u0 : Nat) (u1 : Int32) (u2 : Int32) (u3 : Int32) (y0 : Int32) (cs9 : CS) (h : c_X9_readTest_b226 F T cs1 u0 u1 u2 u3 y0 = some cs9) : cs9.1 = cs1.1 := by
  unfold c_X9_readTest_b226 at h
  have hq : cs1.1 = cs1.1 := rfl
  replace h := ob h; obtain ⟨w_2, hw_2, h⟩ := h
  replace h := ob h; obtain ⟨cs_1, hv_1, h⟩ := h
  replace hq := (mo_c_X9_expect F cs1 u0 26 cs_1 hv_1).trans hq
  replace h := ob h; obtain ⟨w_4, hw_4, h⟩ := h
  replace h := ob h; obtain ⟨z_3, hv_3, h⟩ := h
  replace hq := (mo_c_X9_complete F cs_1 u0 y0 u1 u2 u3 1 z_3.1 z_3.2 hv_3).trans hq
  obtain k9 := mo_c_X9_readTest_b282 F T hM_X9_readExpr hM_X9_readConjunction hM_X9_readNegation hM_X9_readTest hM_X9_readSum hM_X9_readPart hM_X9_readSign hM_X9_readOne hM_X9_readCase hM_X9_readSpan hM_X9_readAggregate hM_X9_readList z_3.1 cs9 h
  exact k9.trans hq
theorem mo_cb_X9_readTest (F : Nat) (T : TC_X9_readExpr) (hM_X9_readExpr : ∀ (cs : CS) (x0 : Nat) (cs9 : CS) (r9 : Int32), T.1 cs x0 = some (cs9, r9) → cs9.1 = cs.1) (hM_X9_readConjunction : ∀ (cs : CS) (x0 : Nat) (cs9 : CS), T.2.1 cs x0 = some cs9 → cs9.1 = cs.1) (hM_X9_readNegation : ∀ (cs : CS) (x0 : Nat) (cs9 : CS), T.2.2.1 cs x0 = some cs9 → cs9.1 = cs.1) (hM_X9_readTest : ∀ (cs : CS) (x0 : Nat) (cs9 : CS), T.2.2.2.1 cs x0 = some cs9 → cs9.1 = cs.1) (hM_X9_readSum : ∀ (cs : CS) (x0 : Nat) (cs9 : CS), T.2.2.2.2.1 cs x0 = some cs9 → cs9.1 = cs.1) (hM_X9_readPart : ∀ (cs : CS) (x0 : Nat) (cs9 : CS), T.2.2.2.2.2.1 cs x0 = some cs9 → cs9.1 = cs.1) (hM_X9_readSign : ∀ (cs : CS) (x0 : Nat) (cs9 : CS), T.2.2.2.2.2.2.1 cs x0 = some cs9 → cs9.1 = cs.1) (hM_X9_readOne : ∀ (cs : CS) (x0 : Nat) (cs9 : CS), T.2.2.2.2.2.2.2.1 cs x0 = some cs9 → cs9.1 = cs.1) (hM_X9_readCase : ∀ (cs : CS) (x0 : Nat) (cs9 : CS), T.2.2.2.2.2.2.2.2.1 cs x0 = some cs9 → cs9.1 = cs.1) (hM_X9_readSpan : ∀ (cs : CS) (x0 : Nat) (cs9 : CS), T.2.2.2.2.2.2.2.2.2.1 cs x0 = some cs9 → cs9.1 = cs.1) (hM_X9_readAggregate : ∀ (cs : CS) (x0 : Nat) (cs9 : CS), T.2.2.2.2.2.2.2.2.2.2.1 cs x0 = some cs9 → cs9.1 = cs.1) (hM_X9_readList : ∀ (cs : CS) (x0 : Nat) (x1 : Int32) (x2 : Int32) (x3 : Int32) (x4 : Int32) (cs9 : CS), T.2.2.2.2.2.2.2.2.2.2.2 cs x0 x1 x2 x3 x4 = some cs9 → cs9.1 = cs.1) (cs : CS) (x0 : Nat) (cs9 : CS) (h : cb_X9_readTest F T cs x0 = some cs9) : cs9.1 = cs.1 := by
  unfold cb_X9_readTest at h
  have hq : cs.1 = cs.1 := rfl
  replace h := ob h; obtain ⟨v_1, hv_1, h⟩ := h
  replace h := ob h; obtain ⟨i_2, hi_2, h⟩ := h
  subst hi_2
  replace h := ob h; obtain ⟨v_3, hv_3, h⟩ := h
  replace h := ob h; obtain ⟨w_5, hw_5, h⟩ := h
  replace h := ob h; obtain ⟨v_4, hv_4, h⟩ := h
  replace h := ob h; obtain ⟨w_7, hw_7, h⟩ := h
  replace h := ob h; obtain ⟨cs_6, hv_6, h⟩ := h
  replace hq := (hM_X9_readSum cs x0 cs_6 hv_6).trans hq
  replace h := ob h; obtain ⟨w_9, hw_9, h⟩ := h
  replace h := ob h; obtain ⟨v_8, hv_8, h⟩ := h
  replace h := ob h; obtain ⟨w_11, hw_11, h⟩ := h
  replace h := ob h; obtain ⟨v_10, hv_10, h⟩ := h
  by_cases c_12 : v_10 = 24
  · skip
    replace h := (if_pos c_12).symm.trans h
    replace h := ob h; obtain ⟨v_13, hv_13, h⟩ := h
    replace h := ob h; obtain ⟨cs_14, hv_14, h⟩ := h
    replace hq := (pI_1 hv_14).trans hq
    replace h := ob h; obtain ⟨w_16, hw_16, h⟩ := h
    replace h := ob h; obtain ⟨z_15, hv_15, h⟩ := h
    replace hq := (mo_c_X9_accept F cs_14 x0 25 z_15.1 z_15.2 hv_15).trans hq
    by_cases c_17 : z_15.2 = 0
    · skip
      replace h := (if_pos c_17).symm.trans h
      obtain k9 := mo_c_X9_readTest_b226 F T hM_X9_readExpr hM_X9_readConjunction hM_X9_readNegation hM_X9_readTest hM_X9_readSum hM_X9_readPart hM_X9_readSign hM_X9_readOne hM_X9_readCase hM_X9_readSpan hM_X9_readAggregate hM_X9_readList z_15.1 x0 v_3 v_4 v_8 24 cs9 h
      exact k9.trans hq
    · skip
      replace h := (if_neg c_17).symm.trans h
      obtain k9 := mo_c_X9_readTest_b226 F T hM_X9_readExpr hM_X9_readConjunction hM_X9_readNegation hM_X9_readTest hM_X9_readSum hM_X9_readPart hM_X9_readSign hM_X9_readOne hM_X9_readCase hM_X9_readSpan hM_X9_readAggregate hM_X9_readList z_15.1 x0 v_3 v_4 v_8 59 cs9 h
      exact k9.trans hq
  replace h := (if_neg c_12).symm.trans h
  by_cases c_18 : v_10 = 25
  · skip
    replace h := (if_pos c_18).symm.trans h
    replace h := ob h; obtain ⟨v_19, hv_19, h⟩ := h
    replace h := ob h; obtain ⟨cs_20, hv_20, h⟩ := h
    replace hq := (pI_1 hv_20).trans hq
    replace h := ob h; obtain ⟨w_22, hw_22, h⟩ := h
    replace h := ob h; obtain ⟨cs_21, hv_21, h⟩ := h
    replace hq := (hM_X9_readList cs_20 x0 60 v_3 v_4 v_8 cs_21 hv_21).trans hq
    obtain k9 := mo_c_X9_readTest_b282 F T hM_X9_readExpr hM_X9_readConjunction hM_X9_readNegation hM_X9_readTest hM_X9_readSum hM_X9_readPart hM_X9_readSign hM_X9_readOne hM_X9_readCase hM_X9_readSpan hM_X9_readAggregate hM_X9_readList cs_21 cs9 h
    exact k9.trans hq
  replace h := (if_neg c_18).symm.trans h
  by_cases c_23 : v_10 = 27
  · skip
    replace h := (if_pos c_23).symm.trans h
    replace h := ob h; obtain ⟨w_25, hw_25, h⟩ := h
    replace h := ob h; obtain ⟨cs_24, hv_24, h⟩ := h
    replace hq := (hM_X9_readList cs_6 x0 27 v_3 v_4 v_8 cs_24 hv_24).trans hq
    obtain k9 := mo_c_X9_readTest_b282 F T hM_X9_readExpr hM_X9_readConjunction hM_X9_readNegation hM_X9_readTest hM_X9_readSum hM_X9_readPart hM_X9_readSign hM_X9_readOne hM_X9_readCase hM_X9_readSpan hM_X9_readAggregate hM_X9_readList cs_24 cs9 h
    exact k9.trans hq
  replace h := (if_neg c_23).symm.trans h
  by_cases c_26 : v_10 = 50
  · skip
    replace h := (if_pos c_26).symm.trans h
    obtain k9 := mo_c_X9_readTest_b172 F T hM_X9_readExpr hM_X9_readConjunction hM_X9_readNegation hM_X9_readTest hM_X9_readSum hM_X9_readPart hM_X9_readSign hM_X9_readOne hM_X9_readCase hM_X9_readSpan hM_X9_readAggregate hM_X9_readList cs_6 x0 v_3 v_4 v_8 v_10 cs9 h
    exact k9.trans hq
  replace h := (if_neg c_26).symm.trans h
  by_cases c_27 : v_10 = 51
  · skip
    replace h := (if_pos c_27).symm.trans h
    obtain k9 := mo_c_X9_readTest_b172 F T hM_X9_readExpr hM_X9_readConjunction hM_X9_readNegation hM_X9_readTest hM_X9_readSum hM_X9_readPart hM_X9_readSign hM_X9_readOne hM_X9_readCase hM_X9_readSpan hM_X9_readAggregate hM_X9_readList cs_6 x0 v_3 v_4 v_8 v_10 cs9 h
    exact k9.trans hq
  replace h := (if_neg c_27).symm.trans h
  by_cases c_28 : v_10 = 52
  · skip
    replace h := (if_pos c_28).symm.trans h
    obtain k9 := mo_c_X9_readTest_b172 F T hM_X9_readExpr hM_X9_readConjunction hM_X9_readNegation hM_X9_readTest hM_X9_readSum hM_X9_readPart hM_X9_readSign hM_X9_readOne hM_X9_readCase hM_X9_readSpan hM_X9_readAggregate hM_X9_readList cs_6 x0 v_3 v_4 v_8 v_10 cs9 h
    exact k9.trans hq
  replace h := (if_neg c_28).symm.trans h
  by_cases c_29 : v_10 = 53
  · skip
    replace h := (if_pos c_29).symm.trans h
    obtain k9 := mo_c_X9_readTest_b172 F T hM_X9_readExpr hM_X9_readConjunction hM_X9_readNegation hM_X9_readTest hM_X9_readSum hM_X9_readPart hM_X9_readSign hM_X9_readOne hM_X9_readCase hM_X9_readSpan hM_X9_readAggregate hM_X9_readList cs_6 x0 v_3 v_4 v_8 v_10 cs9 h
    exact k9.trans hq
  replace h := (if_neg c_29).symm.trans h
  by_cases c_30 : v_10 = 54
  · skip
    replace h := (if_pos c_30).symm.trans h
    obtain k9 := mo_c_X9_readTest_b172 F T hM_X9_readExpr hM_X9_readConjunction hM_X9_readNegation hM_X9_readTest hM_X9_readSum hM_X9_readPart hM_X9_readSign hM_X9_readOne hM_X9_readCase hM_X9_readSpan hM_X9_readAggregate hM_X9_readList cs_6 x0 v_3 v_4 v_8 v_10 cs9 h
    exact k9.trans hq
  replace h := (if_neg c_30).symm.trans h
  by_cases c_31 : v_10 = 55
  · skip
    replace h := (if_pos c_31).symm.trans h
    obtain k9 := mo_c_X9_readTest_b172 F T hM_X9_readExpr hM_X9_readConjunction hM_X9_readNegation hM_X9_readTest hM_X9_readSum hM_X9_readPart hM_X9_readSign hM_X9_readOne hM_X9_readCase hM_X9_readSpan hM_X9_readAggregate hM_X9_readList cs_6 x0 v_3 v_4 v_8 v_10 cs9 h
    exact k9.trans hq
  replace h := (if_neg c_31).symm.trans h
  obtain k9 := mo_c_X9_readTest_b282 F T hM_X9_readExpr hM_X9_readConjunction hM_X9_readNegation hM_X9_readTest hM_X9_readSum hM_X9_readPart hM_X9_readSign hM_X9_readOne hM_X9_readCase hM_X9_readSpan hM_X9_readAggregate hM_X9_readList cs_6 cs9 h
  exact k9.trans hq
theorem mo_c_X9_readSum_b88 (F : Nat) (T : TC_X9_readExpr) (hM_X9_readExpr : ∀ (cs : CS) (x0 : Nat) (cs9 : CS) (r9 : Int32), T.1 cs x0 = some (cs9, r9) → cs9.1 = cs.1) (hM_X9_readConjunction : ∀ (cs : CS) (x0 : Nat) (cs9 : CS), T.2.1 cs x0 = some cs9 → cs9.1 = cs.1) (hM_X9_readNegation : ∀ (cs : CS) (x0 : Nat) (cs9 : CS), T.2.2.1 cs x0 = some cs9 → cs9.1 = cs.1) (hM_X9_readTest : ∀ (cs : CS) (x0 : Nat) (cs9 : CS), T.2.2.2.1 cs x0 = some cs9 → cs9.1 = cs.1) (hM_X9_readSum : ∀ (cs : CS) (x0 : Nat) (cs9 : CS), T.2.2.2.2.1 cs x0 = some cs9 → cs9.1 = cs.1) (hM_X9_readPart : ∀ (cs : CS) (x0 : Nat) (cs9 : CS), T.2.2.2.2.2.1 cs x0 = some cs9 → cs9.1 = cs.1) (hM_X9_readSign : ∀ (cs : CS) (x0 : Nat) (cs9 : CS), T.2.2.2.2.2.2.1 cs x0 = some cs9 → cs9.1 = cs.1) (hM_X9_readOne : ∀ (cs : CS) (x0 : Nat) (cs9 : CS), T.2.2.2.2.2.2.2.1 cs x0 = some cs9 → cs9.1 = cs.1) (hM_X9_readCase : ∀ (cs : CS) (x0 : Nat) (cs9 : CS), T.2.2.2.2.2.2.2.2.1 cs x0 = some cs9 → cs9.1 = cs.1) (hM_X9_readSpan : ∀ (cs : CS) (x0 : Nat) (cs9 : CS), T.2.2.2.2.2.2.2.2.2.1 cs x0 = some cs9 → cs9.1 = cs.1) (hM_X9_readAggregate : ∀ (cs : CS) (x0 : Nat) (cs9 : CS), T.2.2.2.2.2.2.2.2.2.2.1 cs x0 = some cs9 → cs9.1 = cs.1) (hM_X9_readList : ∀ (cs : CS) (x0 : Nat) (x1 : Int32) (x2 : Int32) (x3 : Int32) (x4 : Int32) (cs9 : CS), T.2.2.2.2.2.2.2.2.2.2.2 cs x0 x1 x2 x3 x4 = some cs9 → cs9.1 = cs.1) (cs1 : CS) (cs9 : CS) (h : c_X9_readSum_b88 F T cs1 = some cs9) : cs9.1 = cs1.1 := by
  unfold c_X9_readSum_b88 at h
  have hq : cs1.1 = cs1.1 := rfl
  have h9 := Option.some.inj h
  exact (congrArg (fun z => z.1) h9).symm.trans hq
theorem mo_c_X9_readSum_b44 (F : Nat) (T : TC_X9_readExpr) (hM_X9_readExpr : ∀ (cs : CS) (x0 : Nat) (cs9 : CS) (r9 : Int32), T.1 cs x0 = some (cs9, r9) → cs9.1 = cs.1) (hM_X9_readConjunction : ∀ (cs : CS) (x0 : Nat) (cs9 : CS), T.2.1 cs x0 = some cs9 → cs9.1 = cs.1) (hM_X9_readNegation : ∀ (cs : CS) (x0 : Nat) (cs9 : CS), T.2.2.1 cs x0 = some cs9 → cs9.1 = cs.1) (hM_X9_readTest : ∀ (cs : CS) (x0 : Nat) (cs9 : CS), T.2.2.2.1 cs x0 = some cs9 → cs9.1 = cs.1) (hM_X9_readSum : ∀ (cs : CS) (x0 : Nat) (cs9 : CS), T.2.2.2.2.1 cs x0 = some cs9 → cs9.1 = cs.1) (hM_X9_readPart : ∀ (cs : CS) (x0 : Nat) (cs9 : CS), T.2.2.2.2.2.1 cs x0 = some cs9 → cs9.1 = cs.1) (hM_X9_readSign : ∀ (cs : CS) (x0 : Nat) (cs9 : CS), T.2.2.2.2.2.2.1 cs x0 = some cs9 → cs9.1 = cs.1) (hM_X9_readOne : ∀ (cs : CS) (x0 : Nat) (cs9 : CS), T.2.2.2.2.2.2.2.1 cs x0 = some cs9 → cs9.1 = cs.1) (hM_X9_readCase : ∀ (cs : CS) (x0 : Nat) (cs9 : CS), T.2.2.2.2.2.2.2.2.1 cs x0 = some cs9 → cs9.1 = cs.1) (hM_X9_readSpan : ∀ (cs : CS) (x0 : Nat) (cs9 : CS), T.2.2.2.2.2.2.2.2.2.1 cs x0 = some cs9 → cs9.1 = cs.1) (hM_X9_readAggregate : ∀ (cs : CS) (x0 : Nat) (cs9 : CS), T.2.2.2.2.2.2.2.2.2.2.1 cs x0 = some cs9 → cs9.1 = cs.1) (hM_X9_readList : ∀ (cs : CS) (x0 : Nat) (x1 : Int32) (x2 : Int32) (x3 : Int32) (x4 : Int32) (cs9 : CS), T.2.2.2.2.2.2.2.2.2.2.2 cs x0 x1 x2 x3 x4 = some cs9 → cs9.1 = cs.1) (rc19 : CS → Nat → Int32 → Int32 → Int32 → Option CS) (hrc19 : ∀ (cs1 : CS) (u0 : Nat) (u1 : Int32) (u2 : Int32) (u3 : Int32) (cs9 : CS), rc19 cs1 u0 u1 u2 u3 = some cs9 → cs9.1 = cs1.1) (cs1 : CS) (u0 : Nat) (u1 : Int32) (u2 : Int32) (u3 : Int32) (cs9 : CS) (h : c_X9_readSum_b44 F T rc19 cs1 u0 u1 u2 u3 = some cs9) : cs9.1 = cs1.1 := by
  unfold c_X9_readSum_b44 at h
  have hq : cs1.1 = cs1.1 := rfl
  replace h := ob h; obtain ⟨w_2, hw_2, h⟩ := h
  replace h := ob h; obtain ⟨v_1, hv_1, h⟩ := h
  replace h := ob h; obtain ⟨w_4, hw_4, h⟩ := h
  replace h := ob h; obtain ⟨v_3, hv_3, h⟩ := h
  replace h := ob h; obtain ⟨v_5, hv_5, h⟩ := h
  replace h := ob h; obtain ⟨cs_6, hv_6, h⟩ := h
  replace hq := (pI_1 hv_6).trans hq
  replace h := ob h; obtain ⟨w_8, hw_8, h⟩ := h
  replace h := ob h; obtain ⟨cs_7, hv_7, h⟩ := h
  replace hq := (hM_X9_readPart cs_6 u0 cs_7 hv_7).trans hq
  replace h := ob h; obtain ⟨w_10, hw_10, h⟩ := h
  replace h := ob h; obtain ⟨z_9, hv_9, h⟩ := h
  replace hq := (mo_c_X9_complete F cs_7 u0 v_1 u1 u2 v_3 2 z_9.1 z_9.2 hv_9).trans hq
  obtain k9 := hrc19 z_9.1 u0 u1 u2 (u3 + 1) cs9 h
  exact k9.trans hq
theorem mo_c_X9_readSum_L19 (F : Nat) (T : TC_X9_readExpr) (hM_X9_readExpr : ∀ (cs : CS) (x0 : Nat) (cs9 : CS) (r9 : Int32), T.1 cs x0 = some (cs9, r9) → cs9.1 = cs.1) (hM_X9_readConjunction : ∀ (cs : CS) (x0 : Nat) (cs9 : CS), T.2.1 cs x0 = some cs9 → cs9.1 = cs.1) (hM_X9_readNegation : ∀ (cs : CS) (x0 : Nat) (cs9 : CS), T.2.2.1 cs x0 = some cs9 → cs9.1 = cs.1) (hM_X9_readTest : ∀ (cs : CS) (x0 : Nat) (cs9 : CS), T.2.2.2.1 cs x0 = some cs9 → cs9.1 = cs.1) (hM_X9_readSum : ∀ (cs : CS) (x0 : Nat) (cs9 : CS), T.2.2.2.2.1 cs x0 = some cs9 → cs9.1 = cs.1) (hM_X9_readPart : ∀ (cs : CS) (x0 : Nat) (cs9 : CS), T.2.2.2.2.2.1 cs x0 = some cs9 → cs9.1 = cs.1) (hM_X9_readSign : ∀ (cs : CS) (x0 : Nat) (cs9 : CS), T.2.2.2.2.2.2.1 cs x0 = some cs9 → cs9.1 = cs.1) (hM_X9_readOne : ∀ (cs : CS) (x0 : Nat) (cs9 : CS), T.2.2.2.2.2.2.2.1 cs x0 = some cs9 → cs9.1 = cs.1) (hM_X9_readCase : ∀ (cs : CS) (x0 : Nat) (cs9 : CS), T.2.2.2.2.2.2.2.2.1 cs x0 = some cs9 → cs9.1 = cs.1) (hM_X9_readSpan : ∀ (cs : CS) (x0 : Nat) (cs9 : CS), T.2.2.2.2.2.2.2.2.2.1 cs x0 = some cs9 → cs9.1 = cs.1) (hM_X9_readAggregate : ∀ (cs : CS) (x0 : Nat) (cs9 : CS), T.2.2.2.2.2.2.2.2.2.2.1 cs x0 = some cs9 → cs9.1 = cs.1) (hM_X9_readList : ∀ (cs : CS) (x0 : Nat) (x1 : Int32) (x2 : Int32) (x3 : Int32) (x4 : Int32) (cs9 : CS), T.2.2.2.2.2.2.2.2.2.2.2 cs x0 x1 x2 x3 x4 = some cs9 → cs9.1 = cs.1) : ∀ (lf_19 : Nat) (cs1 : CS) (u0 : Nat) (u1 : Int32) (u2 : Int32) (u3 : Int32) (cs9 : CS), c_X9_readSum_L19 F T lf_19 cs1 u0 u1 u2 u3 = some cs9 → cs9.1 = cs1.1 := by
  intro lf_19
  induction lf_19 with
  | zero => intro cs1 u0 u1 u2 u3 cs9 h; cases (show (none : Option CS) = _ from h)
  | succ lf_19 ih_19 =>
    intro cs1 u0 u1 u2 u3 cs9 h
    rw [c_X9_readSum_L19] at h
    have hq : cs1.1 = cs1.1 := rfl
    by_cases c_1 : 2000 ≤ u3
    · skip
      replace h := (if_pos c_1).symm.trans h
      obtain k9 := mo_c_X9_readSum_b88 F T hM_X9_readExpr hM_X9_readConjunction hM_X9_readNegation hM_X9_readTest hM_X9_readSum hM_X9_readPart hM_X9_readSign hM_X9_readOne hM_X9_readCase hM_X9_readSpan hM_X9_readAggregate hM_X9_readList cs1 cs9 h
      exact k9.trans hq
    · skip
      replace h := (if_neg c_1).symm.trans h
      replace h := ob h; obtain ⟨w_3, hw_3, h⟩ := h
      replace h := ob h; obtain ⟨v_2, hv_2, h⟩ := h
      by_cases c_4 : v_2 = 45
      · skip
        replace h := (if_pos c_4).symm.trans h
        obtain k9 := mo_c_X9_readSum_b44 F T hM_X9_readExpr hM_X9_readConjunction hM_X9_readNegation hM_X9_readTest hM_X9_readSum hM_X9_readPart hM_X9_readSign hM_X9_readOne hM_X9_readCase hM_X9_readSpan hM_X9_readAggregate hM_X9_readList (c_X9_readSum_L19 F T lf_19) ih_19 cs1 u0 u1 u2 u3 cs9 h
        exact k9.trans hq
      · skip
        replace h := (if_neg c_4).symm.trans h
        replace h := ob h; obtain ⟨w_6, hw_6, h⟩ := h
        replace h := ob h; obtain ⟨v_5, hv_5, h⟩ := h
        by_cases c_7 : v_5 = 46
        · skip
          replace h := (if_pos c_7).symm.trans h
          obtain k9 := mo_c_X9_readSum_b44 F T hM_X9_readExpr hM_X9_readConjunction hM_X9_readNegation hM_X9_readTest hM_X9_readSum hM_X9_readPart hM_X9_readSign hM_X9_readOne hM_X9_readCase hM_X9_readSpan hM_X9_readAggregate hM_X9_readList (c_X9_readSum_L19 F T lf_19) ih_19 cs1 u0 u1 u2 u3 cs9 h
          exact k9.trans hq
        · skip
          replace h := (if_neg c_7).symm.trans h
          obtain k9 := mo_c_X9_readSum_b88 F T hM_X9_readExpr hM_X9_readConjunction hM_X9_readNegation hM_X9_readTest hM_X9_readSum hM_X9_readPart hM_X9_readSign hM_X9_readOne hM_X9_readCase hM_X9_readSpan hM_X9_readAggregate hM_X9_readList cs1 cs9 h
          exact k9.trans hq
theorem mo_cb_X9_readSum (F : Nat) (T : TC_X9_readExpr) (hM_X9_readExpr : ∀ (cs : CS) (x0 : Nat) (cs9 : CS) (r9 : Int32), T.1 cs x0 = some (cs9, r9) → cs9.1 = cs.1) (hM_X9_readConjunction : ∀ (cs : CS) (x0 : Nat) (cs9 : CS), T.2.1 cs x0 = some cs9 → cs9.1 = cs.1) (hM_X9_readNegation : ∀ (cs : CS) (x0 : Nat) (cs9 : CS), T.2.2.1 cs x0 = some cs9 → cs9.1 = cs.1) (hM_X9_readTest : ∀ (cs : CS) (x0 : Nat) (cs9 : CS), T.2.2.2.1 cs x0 = some cs9 → cs9.1 = cs.1) (hM_X9_readSum : ∀ (cs : CS) (x0 : Nat) (cs9 : CS), T.2.2.2.2.1 cs x0 = some cs9 → cs9.1 = cs.1) (hM_X9_readPart : ∀ (cs : CS) (x0 : Nat) (cs9 : CS), T.2.2.2.2.2.1 cs x0 = some cs9 → cs9.1 = cs.1) (hM_X9_readSign : ∀ (cs : CS) (x0 : Nat) (cs9 : CS), T.2.2.2.2.2.2.1 cs x0 = some cs9 → cs9.1 = cs.1) (hM_X9_readOne : ∀ (cs : CS) (x0 : Nat) (cs9 : CS), T.2.2.2.2.2.2.2.1 cs x0 = some cs9 → cs9.1 = cs.1) (hM_X9_readCase : ∀ (cs : CS) (x0 : Nat) (cs9 : CS), T.2.2.2.2.2.2.2.2.1 cs x0 = some cs9 → cs9.1 = cs.1) (hM_X9_readSpan : ∀ (cs : CS) (x0 : Nat) (cs9 : CS), T.2.2.2.2.2.2.2.2.2.1 cs x0 = some cs9 → cs9.1 = cs.1) (hM_X9_readAggregate : ∀ (cs : CS) (x0 : Nat) (cs9 : CS), T.2.2.2.2.2.2.2.2.2.2.1 cs x0 = some cs9 → cs9.1 = cs.1) (hM_X9_readList : ∀ (cs : CS) (x0 : Nat) (x1 : Int32) (x2 : Int32) (x3 : Int32) (x4 : Int32) (cs9 : CS), T.2.2.2.2.2.2.2.2.2.2.2 cs x0 x1 x2 x3 x4 = some cs9 → cs9.1 = cs.1) (cs : CS) (x0 : Nat) (cs9 : CS) (h : cb_X9_readSum F T cs x0 = some cs9) : cs9.1 = cs.1 := by
  unfold cb_X9_readSum at h
  have hq : cs.1 = cs.1 := rfl
  replace h := ob h; obtain ⟨v_1, hv_1, h⟩ := h
  replace h := ob h; obtain ⟨i_2, hi_2, h⟩ := h
  subst hi_2
  replace h := ob h; obtain ⟨v_3, hv_3, h⟩ := h
  replace h := ob h; obtain ⟨w_5, hw_5, h⟩ := h
  replace h := ob h; obtain ⟨v_4, hv_4, h⟩ := h
  replace h := ob h; obtain ⟨w_7, hw_7, h⟩ := h
  replace h := ob h; obtain ⟨cs_6, hv_6, h⟩ := h
  replace hq := (hM_X9_readPart cs x0 cs_6 hv_6).trans hq
  obtain k9 := mo_c_X9_readSum_L19 F T hM_X9_readExpr hM_X9_readConjunction hM_X9_readNegation hM_X9_readTest hM_X9_readSum hM_X9_readPart hM_X9_readSign hM_X9_readOne hM_X9_readCase hM_X9_readSpan hM_X9_readAggregate hM_X9_readList F cs_6 x0 v_3 v_4 0 cs9 h
  exact k9.trans hq
theorem mo_c_X9_readPart_b97 (F : Nat) (T : TC_X9_readExpr) (hM_X9_readExpr : ∀ (cs : CS) (x0 : Nat) (cs9 : CS) (r9 : Int32), T.1 cs x0 = some (cs9, r9) → cs9.1 = cs.1) (hM_X9_readConjunction : ∀ (cs : CS) (x0 : Nat) (cs9 : CS), T.2.1 cs x0 = some cs9 → cs9.1 = cs.1) (hM_X9_readNegation : ∀ (cs : CS) (x0 : Nat) (cs9 : CS), T.2.2.1 cs x0 = some cs9 → cs9.1 = cs.1) (hM_X9_readTest : ∀ (cs : CS) (x0 : Nat) (cs9 : CS), T.2.2.2.1 cs x0 = some cs9 → cs9.1 = cs.1) (hM_X9_readSum : ∀ (cs : CS) (x0 : Nat) (cs9 : CS), T.2.2.2.2.1 cs x0 = some cs9 → cs9.1 = cs.1) (hM_X9_readPart : ∀ (cs : CS) (x0 : Nat) (cs9 : CS), T.2.2.2.2.2.1 cs x0 = some cs9 → cs9.1 = cs.1) (hM_X9_readSign : ∀ (cs : CS) (x0 : Nat) (cs9 : CS), T.2.2.2.2.2.2.1 cs x0 = some cs9 → cs9.1 = cs.1) (hM_X9_readOne : ∀ (cs : CS) (x0 : Nat) (cs9 : CS), T.2.2.2.2.2.2.2.1 cs x0 = some cs9 → cs9.1 = cs.1) (hM_X9_readCase : ∀ (cs : CS) (x0 : Nat) (cs9 : CS), T.2.2.2.2.2.2.2.2.1 cs x0 = some cs9 → cs9.1 = cs.1) (hM_X9_readSpan : ∀ (cs : CS) (x0 : Nat) (cs9 : CS), T.2.2.2.2.2.2.2.2.2.1 cs x0 = some cs9 → cs9.1 = cs.1) (hM_X9_readAggregate : ∀ (cs : CS) (x0 : Nat) (cs9 : CS), T.2.2.2.2.2.2.2.2.2.2.1 cs x0 = some cs9 → cs9.1 = cs.1) (hM_X9_readList : ∀ (cs : CS) (x0 : Nat) (x1 : Int32) (x2 : Int32) (x3 : Int32) (x4 : Int32) (cs9 : CS), T.2.2.2.2.2.2.2.2.2.2.2 cs x0 x1 x2 x3 x4 = some cs9 → cs9.1 = cs.1) (cs1 : CS) (cs9 : CS) (h : c_X9_readPart_b97 F T cs1 = some cs9) : cs9.1 = cs1.1 := by
  unfold c_X9_readPart_b97 at h
  have hq : cs1.1 = cs1.1 := rfl
  have h9 := Option.some.inj h
  exact (congrArg (fun z => z.1) h9).symm.trans hq
theorem mo_c_X9_readPart_b53 (F : Nat) (T : TC_X9_readExpr) (hM_X9_readExpr : ∀ (cs : CS) (x0 : Nat) (cs9 : CS) (r9 : Int32), T.1 cs x0 = some (cs9, r9) → cs9.1 = cs.1) (hM_X9_readConjunction : ∀ (cs : CS) (x0 : Nat) (cs9 : CS), T.2.1 cs x0 = some cs9 → cs9.1 = cs.1) (hM_X9_readNegation : ∀ (cs : CS) (x0 : Nat) (cs9 : CS), T.2.2.1 cs x0 = some cs9 → cs9.1 = cs.1) (hM_X9_readTest : ∀ (cs : CS) (x0 : Nat) (cs9 : CS), T.2.2.2.1 cs x0 = some cs9 → cs9.1 = cs.1) (hM_X9_readSum : ∀ (cs : CS) (x0 : Nat) (cs9 : CS), T.2.2.2.2.1 cs x0 = some cs9 → cs9.1 = cs.1) (hM_X9_readPart : ∀ (cs : CS) (x0 : Nat) (cs9 : CS), T.2.2.2.2.2.1 cs x0 = some cs9 → cs9.1 = cs.1) (hM_X9_readSign : ∀ (cs : CS) (x0 : Nat) (cs9 : CS), T.2.2.2.2.2.2.1 cs x0 = some cs9 → cs9.1 = cs.1) (hM_X9_readOne : ∀ (cs : CS) (x0 : Nat) (cs9 : CS), T.2.2.2.2.2.2.2.1 cs x0 = some cs9 → cs9.1 = cs.1) (hM_X9_readCase : ∀ (cs : CS) (x0 : Nat) (cs9 : CS), T.2.2.2.2.2.2.2.2.1 cs x0 = some cs9 → cs9.1 = cs.1) (hM_X9_readSpan : ∀ (cs : CS) (x0 : Nat) (cs9 : CS), T.2.2.2.2.2.2.2.2.2.1 cs x0 = some cs9 → cs9.1 = cs.1) (hM_X9_readAggregate : ∀ (cs : CS) (x0 : Nat) (cs9 : CS), T.2.2.2.2.2.2.2.2.2.2.1 cs x0 = some cs9 → cs9.1 = cs.1) (hM_X9_readList : ∀ (cs : CS) (x0 : Nat) (x1 : Int32) (x2 : Int32) (x3 : Int32) (x4 : Int32) (cs9 : CS), T.2.2.2.2.2.2.2.2.2.2.2 cs x0 x1 x2 x3 x4 = some cs9 → cs9.1 = cs.1) (rc19 : CS → Nat → Int32 → Int32 → Int32 → Option CS) (hrc19 : ∀ (cs1 : CS) (u0 : Nat) (u1 : Int32) (u2 : Int32) (u3 : Int32) (cs9 : CS), rc19 cs1 u0 u1 u2 u3 = some cs9 → cs9.1 = cs1.1) (cs1 : CS) (u0 : Nat) (u1 : Int32) (u2 : Int32) (u3 : Int32) (cs9 : CS) (h : c_X9_readPart_b53 F T rc19 cs1 u0 u1 u2 u3 = some cs9) : cs9.1 = cs1.1 := by
  unfold c_X9_readPart_b53 at h
  have hq : cs1.1 = cs1.1 := rfl
  replace h := ob h; obtain ⟨w_2, hw_2, h⟩ := h
  replace h := ob h; obtain ⟨v_1, hv_1, h⟩ := h
  replace h := ob h; obtain ⟨w_4, hw_4, h⟩ := h
  replace h := ob h; obtain ⟨v_3, hv_3, h⟩ := h
  replace h := ob h; obtain ⟨v_5, hv_5, h⟩ := h
  replace h := ob h; obtain ⟨cs_6, hv_6, h⟩ := h
  replace hq := (pI_1 hv_6).trans hq
  replace h := ob h; obtain ⟨w_8, hw_8, h⟩ := h
  replace h := ob h; obtain ⟨cs_7, hv_7, h⟩ := h
  replace hq := (hM_X9_readSign cs_6 u0 cs_7 hv_7).trans hq
  replace h := ob h; obtain ⟨w_10, hw_10, h⟩ := h
  replace h := ob h; obtain ⟨z_9, hv_9, h⟩ := h
  replace hq := (mo_c_X9_complete F cs_7 u0 v_1 u1 u2 v_3 2 z_9.1 z_9.2 hv_9).trans hq
  obtain k9 := hrc19 z_9.1 u0 u1 u2 (u3 + 1) cs9 h
  exact k9.trans hq
theorem mo_c_X9_readPart_L19 (F : Nat) (T : TC_X9_readExpr) (hM_X9_readExpr : ∀ (cs : CS) (x0 : Nat) (cs9 : CS) (r9 : Int32), T.1 cs x0 = some (cs9, r9) → cs9.1 = cs.1) (hM_X9_readConjunction : ∀ (cs : CS) (x0 : Nat) (cs9 : CS), T.2.1 cs x0 = some cs9 → cs9.1 = cs.1) (hM_X9_readNegation : ∀ (cs : CS) (x0 : Nat) (cs9 : CS), T.2.2.1 cs x0 = some cs9 → cs9.1 = cs.1) (hM_X9_readTest : ∀ (cs : CS) (x0 : Nat) (cs9 : CS), T.2.2.2.1 cs x0 = some cs9 → cs9.1 = cs.1) (hM_X9_readSum : ∀ (cs : CS) (x0 : Nat) (cs9 : CS), T.2.2.2.2.1 cs x0 = some cs9 → cs9.1 = cs.1) (hM_X9_readPart : ∀ (cs : CS) (x0 : Nat) (cs9 : CS), T.2.2.2.2.2.1 cs x0 = some cs9 → cs9.1 = cs.1) (hM_X9_readSign : ∀ (cs : CS) (x0 : Nat) (cs9 : CS), T.2.2.2.2.2.2.1 cs x0 = some cs9 → cs9.1 = cs.1) (hM_X9_readOne : ∀ (cs : CS) (x0 : Nat) (cs9 : CS), T.2.2.2.2.2.2.2.1 cs x0 = some cs9 → cs9.1 = cs.1) (hM_X9_readCase : ∀ (cs : CS) (x0 : Nat) (cs9 : CS), T.2.2.2.2.2.2.2.2.1 cs x0 = some cs9 → cs9.1 = cs.1) (hM_X9_readSpan : ∀ (cs : CS) (x0 : Nat) (cs9 : CS), T.2.2.2.2.2.2.2.2.2.1 cs x0 = some cs9 → cs9.1 = cs.1) (hM_X9_readAggregate : ∀ (cs : CS) (x0 : Nat) (cs9 : CS), T.2.2.2.2.2.2.2.2.2.2.1 cs x0 = some cs9 → cs9.1 = cs.1) (hM_X9_readList : ∀ (cs : CS) (x0 : Nat) (x1 : Int32) (x2 : Int32) (x3 : Int32) (x4 : Int32) (cs9 : CS), T.2.2.2.2.2.2.2.2.2.2.2 cs x0 x1 x2 x3 x4 = some cs9 → cs9.1 = cs.1) : ∀ (lf_19 : Nat) (cs1 : CS) (u0 : Nat) (u1 : Int32) (u2 : Int32) (u3 : Int32) (cs9 : CS), c_X9_readPart_L19 F T lf_19 cs1 u0 u1 u2 u3 = some cs9 → cs9.1 = cs1.1 := by
  intro lf_19
  induction lf_19 with
  | zero => intro cs1 u0 u1 u2 u3 cs9 h; cases (show (none : Option CS) = _ from h)
  | succ lf_19 ih_19 =>
    intro cs1 u0 u1 u2 u3 cs9 h
    rw [c_X9_readPart_L19] at h
    have hq : cs1.1 = cs1.1 := rfl
    by_cases c_1 : 2000 ≤ u3
    · skip
      replace h := (if_pos c_1).symm.trans h
      obtain k9 := mo_c_X9_readPart_b97 F T hM_X9_readExpr hM_X9_readConjunction hM_X9_readNegation hM_X9_readTest hM_X9_readSum hM_X9_readPart hM_X9_readSign hM_X9_readOne hM_X9_readCase hM_X9_readSpan hM_X9_readAggregate hM_X9_readList cs1 cs9 h
      exact k9.trans hq
    · skip
      replace h := (if_neg c_1).symm.trans h
      replace h := ob h; obtain ⟨w_3, hw_3, h⟩ := h
      replace h := ob h; obtain ⟨v_2, hv_2, h⟩ := h
      by_cases c_4 : v_2 = 47
      · skip
        replace h := (if_pos c_4).symm.trans h
        obtain k9 := mo_c_X9_readPart_b53 F T hM_X9_readExpr hM_X9_readConjunction hM_X9_readNegation hM_X9_readTest hM_X9_readSum hM_X9_readPart hM_X9_readSign hM_X9_readOne hM_X9_readCase hM_X9_readSpan hM_X9_readAggregate hM_X9_readList (c_X9_readPart_L19 F T lf_19) ih_19 cs1 u0 u1 u2 u3 cs9 h
        exact k9.trans hq
      · skip
        replace h := (if_neg c_4).symm.trans h
        replace h := ob h; obtain ⟨w_6, hw_6, h⟩ := h
        replace h := ob h; obtain ⟨v_5, hv_5, h⟩ := h
        by_cases c_7 : v_5 = 48
        · skip
          replace h := (if_pos c_7).symm.trans h
          obtain k9 := mo_c_X9_readPart_b53 F T hM_X9_readExpr hM_X9_readConjunction hM_X9_readNegation hM_X9_readTest hM_X9_readSum hM_X9_readPart hM_X9_readSign hM_X9_readOne hM_X9_readCase hM_X9_readSpan hM_X9_readAggregate hM_X9_readList (c_X9_readPart_L19 F T lf_19) ih_19 cs1 u0 u1 u2 u3 cs9 h
          exact k9.trans hq
        · skip
          replace h := (if_neg c_7).symm.trans h
          replace h := ob h; obtain ⟨w_9, hw_9, h⟩ := h
          replace h := ob h; obtain ⟨v_8, hv_8, h⟩ := h
          by_cases c_10 : v_8 = 49
          · skip
            replace h := (if_pos c_10).symm.trans h
            obtain k9 := mo_c_X9_readPart_b53 F T hM_X9_readExpr hM_X9_readConjunction hM_X9_readNegation hM_X9_readTest hM_X9_readSum hM_X9_readPart hM_X9_readSign hM_X9_readOne hM_X9_readCase hM_X9_readSpan hM_X9_readAggregate hM_X9_readList (c_X9_readPart_L19 F T lf_19) ih_19 cs1 u0 u1 u2 u3 cs9 h
            exact k9.trans hq
          · skip
            replace h := (if_neg c_10).symm.trans h
            obtain k9 := mo_c_X9_readPart_b97 F T hM_X9_readExpr hM_X9_readConjunction hM_X9_readNegation hM_X9_readTest hM_X9_readSum hM_X9_readPart hM_X9_readSign hM_X9_readOne hM_X9_readCase hM_X9_readSpan hM_X9_readAggregate hM_X9_readList cs1 cs9 h
            exact k9.trans hq
theorem mo_cb_X9_readPart (F : Nat) (T : TC_X9_readExpr) (hM_X9_readExpr : ∀ (cs : CS) (x0 : Nat) (cs9 : CS) (r9 : Int32), T.1 cs x0 = some (cs9, r9) → cs9.1 = cs.1) (hM_X9_readConjunction : ∀ (cs : CS) (x0 : Nat) (cs9 : CS), T.2.1 cs x0 = some cs9 → cs9.1 = cs.1) (hM_X9_readNegation : ∀ (cs : CS) (x0 : Nat) (cs9 : CS), T.2.2.1 cs x0 = some cs9 → cs9.1 = cs.1) (hM_X9_readTest : ∀ (cs : CS) (x0 : Nat) (cs9 : CS), T.2.2.2.1 cs x0 = some cs9 → cs9.1 = cs.1) (hM_X9_readSum : ∀ (cs : CS) (x0 : Nat) (cs9 : CS), T.2.2.2.2.1 cs x0 = some cs9 → cs9.1 = cs.1) (hM_X9_readPart : ∀ (cs : CS) (x0 : Nat) (cs9 : CS), T.2.2.2.2.2.1 cs x0 = some cs9 → cs9.1 = cs.1) (hM_X9_readSign : ∀ (cs : CS) (x0 : Nat) (cs9 : CS), T.2.2.2.2.2.2.1 cs x0 = some cs9 → cs9.1 = cs.1) (hM_X9_readOne : ∀ (cs : CS) (x0 : Nat) (cs9 : CS), T.2.2.2.2.2.2.2.1 cs x0 = some cs9 → cs9.1 = cs.1) (hM_X9_readCase : ∀ (cs : CS) (x0 : Nat) (cs9 : CS), T.2.2.2.2.2.2.2.2.1 cs x0 = some cs9 → cs9.1 = cs.1) (hM_X9_readSpan : ∀ (cs : CS) (x0 : Nat) (cs9 : CS), T.2.2.2.2.2.2.2.2.2.1 cs x0 = some cs9 → cs9.1 = cs.1) (hM_X9_readAggregate : ∀ (cs : CS) (x0 : Nat) (cs9 : CS), T.2.2.2.2.2.2.2.2.2.2.1 cs x0 = some cs9 → cs9.1 = cs.1) (hM_X9_readList : ∀ (cs : CS) (x0 : Nat) (x1 : Int32) (x2 : Int32) (x3 : Int32) (x4 : Int32) (cs9 : CS), T.2.2.2.2.2.2.2.2.2.2.2 cs x0 x1 x2 x3 x4 = some cs9 → cs9.1 = cs.1) (cs : CS) (x0 : Nat) (cs9 : CS) (h : cb_X9_readPart F T cs x0 = some cs9) : cs9.1 = cs.1 := by
  unfold cb_X9_readPart at h
  have hq : cs.1 = cs.1 := rfl
  replace h := ob h; obtain ⟨v_1, hv_1, h⟩ := h
  replace h := ob h; obtain ⟨i_2, hi_2, h⟩ := h
  subst hi_2
  replace h := ob h; obtain ⟨v_3, hv_3, h⟩ := h
  replace h := ob h; obtain ⟨w_5, hw_5, h⟩ := h
  replace h := ob h; obtain ⟨v_4, hv_4, h⟩ := h
  replace h := ob h; obtain ⟨w_7, hw_7, h⟩ := h
  replace h := ob h; obtain ⟨cs_6, hv_6, h⟩ := h
  replace hq := (hM_X9_readSign cs x0 cs_6 hv_6).trans hq
  obtain k9 := mo_c_X9_readPart_L19 F T hM_X9_readExpr hM_X9_readConjunction hM_X9_readNegation hM_X9_readTest hM_X9_readSum hM_X9_readPart hM_X9_readSign hM_X9_readOne hM_X9_readCase hM_X9_readSpan hM_X9_readAggregate hM_X9_readList F cs_6 x0 v_3 v_4 0 cs9 h
  exact k9.trans hq
theorem mo_c_X9_readSign_b49 (F : Nat) (T : TC_X9_readExpr) (hM_X9_readExpr : ∀ (cs : CS) (x0 : Nat) (cs9 : CS) (r9 : Int32), T.1 cs x0 = some (cs9, r9) → cs9.1 = cs.1) (hM_X9_readConjunction : ∀ (cs : CS) (x0 : Nat) (cs9 : CS), T.2.1 cs x0 = some cs9 → cs9.1 = cs.1) (hM_X9_readNegation : ∀ (cs : CS) (x0 : Nat) (cs9 : CS), T.2.2.1 cs x0 = some cs9 → cs9.1 = cs.1) (hM_X9_readTest : ∀ (cs : CS) (x0 : Nat) (cs9 : CS), T.2.2.2.1 cs x0 = some cs9 → cs9.1 = cs.1) (hM_X9_readSum : ∀ (cs : CS) (x0 : Nat) (cs9 : CS), T.2.2.2.2.1 cs x0 = some cs9 → cs9.1 = cs.1) (hM_X9_readPart : ∀ (cs : CS) (x0 : Nat) (cs9 : CS), T.2.2.2.2.2.1 cs x0 = some cs9 → cs9.1 = cs.1) (hM_X9_readSign : ∀ (cs : CS) (x0 : Nat) (cs9 : CS), T.2.2.2.2.2.2.1 cs x0 = some cs9 → cs9.1 = cs.1) (hM_X9_readOne : ∀ (cs : CS) (x0 : Nat) (cs9 : CS), T.2.2.2.2.2.2.2.1 cs x0 = some cs9 → cs9.1 = cs.1) (hM_X9_readCase : ∀ (cs : CS) (x0 : Nat) (cs9 : CS), T.2.2.2.2.2.2.2.2.1 cs x0 = some cs9 → cs9.1 = cs.1) (hM_X9_readSpan : ∀ (cs : CS) (x0 : Nat) (cs9 : CS), T.2.2.2.2.2.2.2.2.2.1 cs x0 = some cs9 → cs9.1 = cs.1) (hM_X9_readAggregate : ∀ (cs : CS) (x0 : Nat) (cs9 : CS), T.2.2.2.2.2.2.2.2.2.2.1 cs x0 = some cs9 → cs9.1 = cs.1) (hM_X9_readList : ∀ (cs : CS) (x0 : Nat) (x1 : Int32) (x2 : Int32) (x3 : Int32) (x4 : Int32) (cs9 : CS), T.2.2.2.2.2.2.2.2.2.2.2 cs x0 x1 x2 x3 x4 = some cs9 → cs9.1 = cs.1) (cs1 : CS) (u0 : Nat) (u1 : Int32) (u2 : Int32) (cs9 : CS) (h : c_X9_readSign_b49 F T cs1 u0 u1 u2 = some cs9) : cs9.1 = cs1.1 := by
  unfold c_X9_readSign_b49 at h
  have hq : cs1.1 = cs1.1 := rfl
  replace h := ob h; obtain ⟨v_1, hv_1, h⟩ := h
  replace h := ob h; obtain ⟨cs_2, hv_2, h⟩ := h
  replace hq := (pI_1 hv_2).trans hq
  replace h := ob h; obtain ⟨w_4, hw_4, h⟩ := h
  replace h := ob h; obtain ⟨z_3, hv_3, h⟩ := h
  replace hq := (mo_c_X9_complete F cs_2 u0 58 u1 u2 u2 1 z_3.1 z_3.2 hv_3).trans hq
  have h9 := Option.some.inj h
  exact (congrArg (fun z => z.1) h9).symm.trans hq
theorem mo_cb_X9_readSign (F : Nat) (T : TC_X9_readExpr) (hM_X9_readExpr : ∀ (cs : CS) (x0 : Nat) (cs9 : CS) (r9 : Int32), T.1 cs x0 = some (cs9, r9) → cs9.1 = cs.1) (hM_X9_readConjunction : ∀ (cs : CS) (x0 : Nat) (cs9 : CS), T.2.1 cs x0 = some cs9 → cs9.1 = cs.1) (hM_X9_readNegation : ∀ (cs : CS) (x0 : Nat) (cs9 : CS), T.2.2.1 cs x0 = some cs9 → cs9.1 = cs.1) (hM_X9_readTest : ∀ (cs : CS) (x0 : Nat) (cs9 : CS), T.2.2.2.1 cs x0 = some cs9 → cs9.1 = cs.1) (hM_X9_readSum : ∀ (cs : CS) (x0 : Nat) (cs9 : CS), T.2.2.2.2.1 cs x0 = some cs9 → cs9.1 = cs.1) (hM_X9_readPart : ∀ (cs : CS) (x0 : Nat) (cs9 : CS), T.2.2.2.2.2.1 cs x0 = some cs9 → cs9.1 = cs.1) (hM_X9_readSign : ∀ (cs : CS) (x0 : Nat) (cs9 : CS), T.2.2.2.2.2.2.1 cs x0 = some cs9 → cs9.1 = cs.1) (hM_X9_readOne : ∀ (cs : CS) (x0 : Nat) (cs9 : CS), T.2.2.2.2.2.2.2.1 cs x0 = some cs9 → cs9.1 = cs.1) (hM_X9_readCase : ∀ (cs : CS) (x0 : Nat) (cs9 : CS), T.2.2.2.2.2.2.2.2.1 cs x0 = some cs9 → cs9.1 = cs.1) (hM_X9_readSpan : ∀ (cs : CS) (x0 : Nat) (cs9 : CS), T.2.2.2.2.2.2.2.2.2.1 cs x0 = some cs9 → cs9.1 = cs.1) (hM_X9_readAggregate : ∀ (cs : CS) (x0 : Nat) (cs9 : CS), T.2.2.2.2.2.2.2.2.2.2.1 cs x0 = some cs9 → cs9.1 = cs.1) (hM_X9_readList : ∀ (cs : CS) (x0 : Nat) (x1 : Int32) (x2 : Int32) (x3 : Int32) (x4 : Int32) (cs9 : CS), T.2.2.2.2.2.2.2.2.2.2.2 cs x0 x1 x2 x3 x4 = some cs9 → cs9.1 = cs.1) (cs : CS) (x0 : Nat) (cs9 : CS) (h : cb_X9_readSign F T cs x0 = some cs9) : cs9.1 = cs.1 := by
  unfold cb_X9_readSign at h
  have hq : cs.1 = cs.1 := rfl
  replace h := ob h; obtain ⟨w_2, hw_2, h⟩ := h
  replace h := ob h; obtain ⟨v_1, hv_1, h⟩ := h
  by_cases c_3 : v_1 = 46
  · skip
    replace h := (if_pos c_3).symm.trans h
    replace h := ob h; obtain ⟨v_4, hv_4, h⟩ := h
    replace h := ob h; obtain ⟨i_5, hi_5, h⟩ := h
    subst hi_5
    replace h := ob h; obtain ⟨v_6, hv_6, h⟩ := h
    replace h := ob h; obtain ⟨w_8, hw_8, h⟩ := h
    replace h := ob h; obtain ⟨v_7, hv_7, h⟩ := h
    replace h := ob h; obtain ⟨w_10, hw_10, h⟩ := h
    replace h := ob h; obtain ⟨cs_9, hv_9, h⟩ := h
    replace hq := (mo_c_X9_deepen F cs x0 cs_9 hv_9).trans hq
    replace h := ob h; obtain ⟨w_12, hw_12, h⟩ := h
    replace h := ob h; obtain ⟨z_11, hv_11, h⟩ := h
    replace hq := (mo_c_X9_accept F cs_9 x0 46 z_11.1 z_11.2 hv_11).trans hq
    replace h := ob h; obtain ⟨v_13, hv_13, h⟩ := h
    by_cases c_14 : v_13 = 0
    · skip
      replace h := (if_pos c_14).symm.trans h
      replace h := ob h; obtain ⟨w_16, hw_16, h⟩ := h
      replace h := ob h; obtain ⟨cs_15, hv_15, h⟩ := h
      replace hq := (hM_X9_readSign z_11.1 x0 cs_15 hv_15).trans hq
      obtain k9 := mo_c_X9_readSign_b49 F T hM_X9_readExpr hM_X9_readConjunction hM_X9_readNegation hM_X9_readTest hM_X9_readSum hM_X9_readPart hM_X9_readSign hM_X9_readOne hM_X9_readCase hM_X9_readSpan hM_X9_readAggregate hM_X9_readList cs_15 x0 v_6 v_7 cs9 h
      exact k9.trans hq
    · skip
      replace h := (if_neg c_14).symm.trans h
      obtain k9 := mo_c_X9_readSign_b49 F T hM_X9_readExpr hM_X9_readConjunction hM_X9_readNegation hM_X9_readTest hM_X9_readSum hM_X9_readPart hM_X9_readSign hM_X9_readOne hM_X9_readCase hM_X9_readSpan hM_X9_readAggregate hM_X9_readList z_11.1 x0 v_6 v_7 cs9 h
      exact k9.trans hq
  · skip
    replace h := (if_neg c_3).symm.trans h
    replace h := ob h; obtain ⟨w_18, hw_18, h⟩ := h
    replace h := ob h; obtain ⟨cs_17, hv_17, h⟩ := h
    replace hq := (hM_X9_readOne cs x0 cs_17 hv_17).trans hq
    have h9 := Option.some.inj h
    exact (congrArg (fun z => z.1) h9).symm.trans hq
theorem mo_c_X9_readOne_b191 (F : Nat) (T : TC_X9_readExpr) (hM_X9_readExpr : ∀ (cs : CS) (x0 : Nat) (cs9 : CS) (r9 : Int32), T.1 cs x0 = some (cs9, r9) → cs9.1 = cs.1) (hM_X9_readConjunction : ∀ (cs : CS) (x0 : Nat) (cs9 : CS), T.2.1 cs x0 = some cs9 → cs9.1 = cs.1) (hM_X9_readNegation : ∀ (cs : CS) (x0 : Nat) (cs9 : CS), T.2.2.1 cs x0 = some cs9 → cs9.1 = cs.1) (hM_X9_readTest : ∀ (cs : CS) (x0 : Nat) (cs9 : CS), T.2.2.2.1 cs x0 = some cs9 → cs9.1 = cs.1) (hM_X9_readSum : ∀ (cs : CS) (x0 : Nat) (cs9 : CS), T.2.2.2.2.1 cs x0 = some cs9 → cs9.1 = cs.1) (hM_X9_readPart : ∀ (cs : CS) (x0 : Nat) (cs9 : CS), T.2.2.2.2.2.1 cs x0 = some cs9 → cs9.1 = cs.1) (hM_X9_readSign : ∀ (cs : CS) (x0 : Nat) (cs9 : CS), T.2.2.2.2.2.2.1 cs x0 = some cs9 → cs9.1 = cs.1) (hM_X9_readOne : ∀ (cs : CS) (x0 : Nat) (cs9 : CS), T.2.2.2.2.2.2.2.1 cs x0 = some cs9 → cs9.1 = cs.1) (hM_X9_readCase : ∀ (cs : CS) (x0 : Nat) (cs9 : CS), T.2.2.2.2.2.2.2.2.1 cs x0 = some cs9 → cs9.1 = cs.1) (hM_X9_readSpan : ∀ (cs : CS) (x0 : Nat) (cs9 : CS), T.2.2.2.2.2.2.2.2.2.1 cs x0 = some cs9 → cs9.1 = cs.1) (hM_X9_readAggregate : ∀ (cs : CS) (x0 : Nat) (cs9 : CS), T.2.2.2.2.2.2.2.2.2.2.1 cs x0 = some cs9 → cs9.1 = cs.1) (hM_X9_readList : ∀ (cs : CS) (x0 : Nat) (x1 : Int32) (x2 : Int32) (x3 : Int32) (x4 : Int32) (cs9 : CS), T.2.2.2.2.2.2.2.2.2.2.2 cs x0 x1 x2 x3 x4 = some cs9 → cs9.1 = cs.1) (cs1 : CS) (cs9 : CS) (h : c_X9_readOne_b191 F T cs1 = some cs9) : cs9.1 = cs1.1 := by
  unfold c_X9_readOne_b191 at h
  have hq : cs1.1 = cs1.1 := rfl
  have h9 := Option.some.inj h
  exact (congrArg (fun z => z.1) h9).symm.trans hq
theorem mo_c_X9_readOne_b112 (F : Nat) (T : TC_X9_readExpr) (hM_X9_readExpr : ∀ (cs : CS) (x0 : Nat) (cs9 : CS) (r9 : Int32), T.1 cs x0 = some (cs9, r9) → cs9.1 = cs.1) (hM_X9_readConjunction : ∀ (cs : CS) (x0 : Nat) (cs9 : CS), T.2.1 cs x0 = some cs9 → cs9.1 = cs.1) (hM_X9_readNegation : ∀ (cs : CS) (x0 : Nat) (cs9 : CS), T.2.2.1 cs x0 = some cs9 → cs9.1 = cs.1) (hM_X9_readTest : ∀ (cs : CS) (x0 : Nat) (cs9 : CS), T.2.2.2.1 cs x0 = some cs9 → cs9.1 = cs.1) (hM_X9_readSum : ∀ (cs : CS) (x0 : Nat) (cs9 : CS), T.2.2.2.2.1 cs x0 = some cs9 → cs9.1 = cs.1) (hM_X9_readPart : ∀ (cs : CS) (x0 : Nat) (cs9 : CS), T.2.2.2.2.2.1 cs x0 = some cs9 → cs9.1 = cs.1) (hM_X9_readSign : ∀ (cs : CS) (x0 : Nat) (cs9 : CS), T.2.2.2.2.2.2.1 cs x0 = some cs9 → cs9.1 = cs.1) (hM_X9_readOne : ∀ (cs : CS) (x0 : Nat) (cs9 : CS), T.2.2.2.2.2.2.2.1 cs x0 = some cs9 → cs9.1 = cs.1) (hM_X9_readCase : ∀ (cs : CS) (x0 : Nat) (cs9 : CS), T.2.2.2.2.2.2.2.2.1 cs x0 = some cs9 → cs9.1 = cs.1) (hM_X9_readSpan : ∀ (cs : CS) (x0 : Nat) (cs9 : CS), T.2.2.2.2.2.2.2.2.2.1 cs x0 = some cs9 → cs9.1 = cs.1) (hM_X9_readAggregate : ∀ (cs : CS) (x0 : Nat) (cs9 : CS), T.2.2.2.2.2.2.2.2.2.2.1 cs x0 = some cs9 → cs9.1 = cs.1) (hM_X9_readList : ∀ (cs : CS) (x0 : Nat) (x1 : Int32) (x2 : Int32) (x3 : Int32) (x4 : Int32) (cs9 : CS), T.2.2.2.2.2.2.2.2.2.2.2 cs x0 x1 x2 x3 x4 = some cs9 → cs9.1 = cs.1) (cs1 : CS) (u0 : Nat) (cs9 : CS) (h : c_X9_readOne_b112 F T cs1 u0 = some cs9) : cs9.1 = cs1.1 := by
  unfold c_X9_readOne_b112 at h
  have hq : cs1.1 = cs1.1 := rfl
  replace h := ob h; obtain ⟨w_2, hw_2, h⟩ := h
  replace h := ob h; obtain ⟨cs_1, hv_1, h⟩ := h
  replace hq := (mo_c_X9_readLiteral F cs1 u0 cs_1 hv_1).trans hq
  obtain k9 := mo_c_X9_readOne_b191 F T hM_X9_readExpr hM_X9_readConjunction hM_X9_readNegation hM_X9_readTest hM_X9_readSum hM_X9_readPart hM_X9_readSign hM_X9_readOne hM_X9_readCase hM_X9_readSpan hM_X9_readAggregate hM_X9_readList cs_1 cs9 h
  exact k9.trans hq
theorem mo_c_X9_readOne_b119 (F : Nat) (T : TC_X9_readExpr) (hM_X9_readExpr : ∀ (cs : CS) (x0 : Nat) (cs9 : CS) (r9 : Int32), T.1 cs x0 = some (cs9, r9) → cs9.1 = cs.1) (hM_X9_readConjunction : ∀ (cs : CS) (x0 : Nat) (cs9 : CS), T.2.1 cs x0 = some cs9 → cs9.1 = cs.1) (hM_X9_readNegation : ∀ (cs : CS) (x0 : Nat) (cs9 : CS), T.2.2.1 cs x0 = some cs9 → cs9.1 = cs.1) (hM_X9_readTest : ∀ (cs : CS) (x0 : Nat) (cs9 : CS), T.2.2.2.1 cs x0 = some cs9 → cs9.1 = cs.1) (hM_X9_readSum : ∀ (cs : CS) (x0 : Nat) (cs9 : CS), T.2.2.2.2.1 cs x0 = some cs9 → cs9.1 = cs.1) (hM_X9_readPart : ∀ (cs : CS) (x0 : Nat) (cs9 : CS), T.2.2.2.2.2.1 cs x0 = some cs9 → cs9.1 = cs.1) (hM_X9_readSign : ∀ (cs : CS) (x0 : Nat) (cs9 : CS), T.2.2.2.2.2.2.1 cs x0 = some cs9 → cs9.1 = cs.1) (hM_X9_readOne : ∀ (cs : CS) (x0 : Nat) (cs9 : CS), T.2.2.2.2.2.2.2.1 cs x0 = some cs9 → cs9.1 = cs.1) (hM_X9_readCase : ∀ (cs : CS) (x0 : Nat) (cs9 : CS), T.2.2.2.2.2.2.2.2.1 cs x0 = some cs9 → cs9.1 = cs.1) (hM_X9_readSpan : ∀ (cs : CS) (x0 : Nat) (cs9 : CS), T.2.2.2.2.2.2.2.2.2.1 cs x0 = some cs9 → cs9.1 = cs.1) (hM_X9_readAggregate : ∀ (cs : CS) (x0 : Nat) (cs9 : CS), T.2.2.2.2.2.2.2.2.2.2.1 cs x0 = some cs9 → cs9.1 = cs.1) (hM_X9_readList : ∀ (cs : CS) (x0 : Nat) (x1 : Int32) (x2 : Int32) (x3 : Int32) (x4 : Int32) (cs9 : CS), T.2.2.2.2.2.2.2.2.2.2.2 cs x0 x1 x2 x3 x4 = some cs9 → cs9.1 = cs.1) (cs1 : CS) (u0 : Nat) (cs9 : CS) (h : c_X9_readOne_b119 F T cs1 u0 = some cs9) : cs9.1 = cs1.1 := by
  unfold c_X9_readOne_b119 at h
  have hq : cs1.1 = cs1.1 := rfl
  replace h := ob h; obtain ⟨w_2, hw_2, h⟩ := h
  replace h := ob h; obtain ⟨cs_1, hv_1, h⟩ := h
  replace hq := (mo_c_X9_readColumn F cs1 u0 cs_1 hv_1).trans hq
  obtain k9 := mo_c_X9_readOne_b191 F T hM_X9_readExpr hM_X9_readConjunction hM_X9_readNegation hM_X9_readTest hM_X9_readSum hM_X9_readPart hM_X9_readSign hM_X9_readOne hM_X9_readCase hM_X9_readSpan hM_X9_readAggregate hM_X9_readList cs_1 cs9 h
  exact k9.trans hq
theorem mo_c_X9_readOne_b175 (F : Nat) (T : TC_X9_readExpr) (hM_X9_readExpr : ∀ (cs : CS) (x0 : Nat) (cs9 : CS) (r9 : Int32), T.1 cs x0 = some (cs9, r9) → cs9.1 = cs.1) (hM_X9_readConjunction : ∀ (cs : CS) (x0 : Nat) (cs9 : CS), T.2.1 cs x0 = some cs9 → cs9.1 = cs.1) (hM_X9_readNegation : ∀ (cs : CS) (x0 : Nat) (cs9 : CS), T.2.2.1 cs x0 = some cs9 → cs9.1 = cs.1) (hM_X9_readTest : ∀ (cs : CS) (x0 : Nat) (cs9 : CS), T.2.2.2.1 cs x0 = some cs9 → cs9.1 = cs.1) (hM_X9_readSum : ∀ (cs : CS) (x0 : Nat) (cs9 : CS), T.2.2.2.2.1 cs x0 = some cs9 → cs9.1 = cs.1) (hM_X9_readPart : ∀ (cs : CS) (x0 : Nat) (cs9 : CS), T.2.2.2.2.2.1 cs x0 = some cs9 → cs9.1 = cs.1) (hM_X9_readSign : ∀ (cs : CS) (x0 : Nat) (cs9 : CS), T.2.2.2.2.2.2.1 cs x0 = some cs9 → cs9.1 = cs.1) (hM_X9_readOne : ∀ (cs : CS) (x0 : Nat) (cs9 : CS), T.2.2.2.2.2.2.2.1 cs x0 = some cs9 → cs9.1 = cs.1) (hM_X9_readCase : ∀ (cs : CS) (x0 : Nat) (cs9 : CS), T.2.2.2.2.2.2.2.2.1 cs x0 = some cs9 → cs9.1 = cs.1) (hM_X9_readSpan : ∀ (cs : CS) (x0 : Nat) (cs9 : CS), T.2.2.2.2.2.2.2.2.2.1 cs x0 = some cs9 → cs9.1 = cs.1) (hM_X9_readAggregate : ∀ (cs : CS) (x0 : Nat) (cs9 : CS), T.2.2.2.2.2.2.2.2.2.2.1 cs x0 = some cs9 → cs9.1 = cs.1) (hM_X9_readList : ∀ (cs : CS) (x0 : Nat) (x1 : Int32) (x2 : Int32) (x3 : Int32) (x4 : Int32) (cs9 : CS), T.2.2.2.2.2.2.2.2.2.2.2 cs x0 x1 x2 x3 x4 = some cs9 → cs9.1 = cs.1) (cs1 : CS) (u0 : Nat) (cs9 : CS) (h : c_X9_readOne_b175 F T cs1 u0 = some cs9) : cs9.1 = cs1.1 := by
  unfold c_X9_readOne_b175 at h
  have hq : cs1.1 = cs1.1 := rfl
  replace h := ob h; obtain ⟨w_2, hw_2, h⟩ := h
  replace h := ob h; obtain ⟨cs_1, hv_1, h⟩ := h
  replace hq := (hM_X9_readAggregate cs1 u0 cs_1 hv_1).trans hq
  obtain k9 := mo_c_X9_readOne_b191 F T hM_X9_readExpr hM_X9_readConjunction hM_X9_readNegation hM_X9_readTest hM_X9_readSum hM_X9_readPart hM_X9_readSign hM_X9_readOne hM_X9_readCase hM_X9_readSpan hM_X9_readAggregate hM_X9_readList cs_1 cs9 h
  exact k9.trans hq
theorem mo_c_X9_readOne_b182 (F : Nat) (T : TC_X9_readExpr) (hM_X9_readExpr : ∀ (cs : CS) (x0 : Nat) (cs9 : CS) (r9 : Int32), T.1 cs x0 = some (cs9, r9) → cs9.1 = cs.1) (hM_X9_readConjunction : ∀ (cs : CS) (x0 : Nat) (cs9 : CS), T.2.1 cs x0 = some cs9 → cs9.1 = cs.1) (hM_X9_readNegation : ∀ (cs : CS) (x0 : Nat) (cs9 : CS), T.2.2.1 cs x0 = some cs9 → cs9.1 = cs.1) (hM_X9_readTest : ∀ (cs : CS) (x0 : Nat) (cs9 : CS), T.2.2.2.1 cs x0 = some cs9 → cs9.1 = cs.1) (hM_X9_readSum : ∀ (cs : CS) (x0 : Nat) (cs9 : CS), T.2.2.2.2.1 cs x0 = some cs9 → cs9.1 = cs.1) (hM_X9_readPart : ∀ (cs : CS) (x0 : Nat) (cs9 : CS), T.2.2.2.2.2.1 cs x0 = some cs9 → cs9.1 = cs.1) (hM_X9_readSign : ∀ (cs : CS) (x0 : Nat) (cs9 : CS), T.2.2.2.2.2.2.1 cs x0 = some cs9 → cs9.1 = cs.1) (hM_X9_readOne : ∀ (cs : CS) (x0 : Nat) (cs9 : CS), T.2.2.2.2.2.2.2.1 cs x0 = some cs9 → cs9.1 = cs.1) (hM_X9_readCase : ∀ (cs : CS) (x0 : Nat) (cs9 : CS), T.2.2.2.2.2.2.2.2.1 cs x0 = some cs9 → cs9.1 = cs.1) (hM_X9_readSpan : ∀ (cs : CS) (x0 : Nat) (cs9 : CS), T.2.2.2.2.2.2.2.2.2.1 cs x0 = some cs9 → cs9.1 = cs.1) (hM_X9_readAggregate : ∀ (cs : CS) (x0 : Nat) (cs9 : CS), T.2.2.2.2.2.2.2.2.2.2.1 cs x0 = some cs9 → cs9.1 = cs.1) (hM_X9_readList : ∀ (cs : CS) (x0 : Nat) (x1 : Int32) (x2 : Int32) (x3 : Int32) (x4 : Int32) (cs9 : CS), T.2.2.2.2.2.2.2.2.2.2.2 cs x0 x1 x2 x3 x4 = some cs9 → cs9.1 = cs.1) (cs1 : CS) (u0 : Nat) (cs9 : CS) (h : c_X9_readOne_b182 F T cs1 u0 = some cs9) : cs9.1 = cs1.1 := by
  unfold c_X9_readOne_b182 at h
  have hq : cs1.1 = cs1.1 := rfl
  replace h := ob h; obtain ⟨w_2, hw_2, h⟩ := h
  replace h := ob h; obtain ⟨v_1, hv_1, h⟩ := h
  replace h := ob h; obtain ⟨w_4, hw_4, h⟩ := h
  replace h := ob h; obtain ⟨cs_3, hv_3, h⟩ := h
  replace hq := (mo_c_X9_refuse F cs1 u0 1 v_1 cs_3 hv_3).trans hq
  obtain k9 := mo_c_X9_readOne_b191 F T hM_X9_readExpr hM_X9_readConjunction hM_X9_readNegation hM_X9_readTest hM_X9_readSum hM_X9_readPart hM_X9_readSign hM_X9_readOne hM_X9_readCase hM_X9_readSpan hM_X9_readAggregate hM_X9_readList cs_3 cs9 h
  exact k9.trans hq
theorem mo_cb_X9_readOne (F : Nat) (T : TC_X9_readExpr) (hM_X9_readExpr : ∀ (cs : CS) (x0 : Nat) (cs9 : CS) (r9 : Int32), T.1 cs x0 = some (cs9, r9) → cs9.1 = cs.1) (hM_X9_readConjunction : ∀ (cs : CS) (x0 : Nat) (cs9 : CS), T.2.1 cs x0 = some cs9 → cs9.1 = cs.1) (hM_X9_readNegation : ∀ (cs : CS) (x0 : Nat) (cs9 : CS), T.2.2.1 cs x0 = some cs9 → cs9.1 = cs.1) (hM_X9_readTest : ∀ (cs : CS) (x0 : Nat) (cs9 : CS), T.2.2.2.1 cs x0 = some cs9 → cs9.1 = cs.1) (hM_X9_readSum : ∀ (cs : CS) (x0 : Nat) (cs9 : CS), T.2.2.2.2.1 cs x0 = some cs9 → cs9.1 = cs.1) (hM_X9_readPart : ∀ (cs : CS) (x0 : Nat) (cs9 : CS), T.2.2.2.2.2.1 cs x0 = some cs9 → cs9.1 = cs.1) (hM_X9_readSign : ∀ (cs : CS) (x0 : Nat) (cs9 : CS), T.2.2.2.2.2.2.1 cs x0 = some cs9 → cs9.1 = cs.1) (hM_X9_readOne : ∀ (cs : CS) (x0 : Nat) (cs9 : CS), T.2.2.2.2.2.2.2.1 cs x0 = some cs9 → cs9.1 = cs.1) (hM_X9_readCase : ∀ (cs : CS) (x0 : Nat) (cs9 : CS), T.2.2.2.2.2.2.2.2.1 cs x0 = some cs9 → cs9.1 = cs.1) (hM_X9_readSpan : ∀ (cs : CS) (x0 : Nat) (cs9 : CS), T.2.2.2.2.2.2.2.2.2.1 cs x0 = some cs9 → cs9.1 = cs.1) (hM_X9_readAggregate : ∀ (cs : CS) (x0 : Nat) (cs9 : CS), T.2.2.2.2.2.2.2.2.2.2.1 cs x0 = some cs9 → cs9.1 = cs.1) (hM_X9_readList : ∀ (cs : CS) (x0 : Nat) (x1 : Int32) (x2 : Int32) (x3 : Int32) (x4 : Int32) (cs9 : CS), T.2.2.2.2.2.2.2.2.2.2.2 cs x0 x1 x2 x3 x4 = some cs9 → cs9.1 = cs.1) (cs : CS) (x0 : Nat) (cs9 : CS) (h : cb_X9_readOne F T cs x0 = some cs9) : cs9.1 = cs.1 := by
  unfold cb_X9_readOne at h
  have hq : cs.1 = cs.1 := rfl
  replace h := ob h; obtain ⟨w_2, hw_2, h⟩ := h
  replace h := ob h; obtain ⟨v_1, hv_1, h⟩ := h
  by_cases c_3 : v_1 = 19
  · skip
    replace h := (if_pos c_3).symm.trans h
    replace h := ob h; obtain ⟨w_5, hw_5, h⟩ := h
    replace h := ob h; obtain ⟨cs_4, hv_4, h⟩ := h
    replace hq := (hM_X9_readCase cs x0 cs_4 hv_4).trans hq
    obtain k9 := mo_c_X9_readOne_b191 F T hM_X9_readExpr hM_X9_readConjunction hM_X9_readNegation hM_X9_readTest hM_X9_readSum hM_X9_readPart hM_X9_readSign hM_X9_readOne hM_X9_readCase hM_X9_readSpan hM_X9_readAggregate hM_X9_readList cs_4 cs9 h
    exact k9.trans hq
  replace h := (if_neg c_3).symm.trans h
  by_cases c_6 : v_1 = 26
  · skip
    replace h := (if_pos c_6).symm.trans h
    obtain k9 := mo_c_X9_readOne_b112 F T hM_X9_readExpr hM_X9_readConjunction hM_X9_readNegation hM_X9_readTest hM_X9_readSum hM_X9_readPart hM_X9_readSign hM_X9_readOne hM_X9_readCase hM_X9_readSpan hM_X9_readAggregate hM_X9_readList cs x0 cs9 h
    exact k9.trans hq
  replace h := (if_neg c_6).symm.trans h
  by_cases c_7 : v_1 = 30
  · skip
    replace h := (if_pos c_7).symm.trans h
    obtain k9 := mo_c_X9_readOne_b112 F T hM_X9_readExpr hM_X9_readConjunction hM_X9_readNegation hM_X9_readTest hM_X9_readSum hM_X9_readPart hM_X9_readSign hM_X9_readOne hM_X9_readCase hM_X9_readSpan hM_X9_readAggregate hM_X9_readList cs x0 cs9 h
    exact k9.trans hq
  replace h := (if_neg c_7).symm.trans h
  by_cases c_8 : v_1 = 31
  · skip
    replace h := (if_pos c_8).symm.trans h
    obtain k9 := mo_c_X9_readOne_b112 F T hM_X9_readExpr hM_X9_readConjunction hM_X9_readNegation hM_X9_readTest hM_X9_readSum hM_X9_readPart hM_X9_readSign hM_X9_readOne hM_X9_readCase hM_X9_readSpan hM_X9_readAggregate hM_X9_readList cs x0 cs9 h
    exact k9.trans hq
  replace h := (if_neg c_8).symm.trans h
  by_cases c_9 : v_1 = 32
  · skip
    replace h := (if_pos c_9).symm.trans h
    obtain k9 := mo_c_X9_readOne_b175 F T hM_X9_readExpr hM_X9_readConjunction hM_X9_readNegation hM_X9_readTest hM_X9_readSum hM_X9_readPart hM_X9_readSign hM_X9_readOne hM_X9_readCase hM_X9_readSpan hM_X9_readAggregate hM_X9_readList cs x0 cs9 h
    exact k9.trans hq
  replace h := (if_neg c_9).symm.trans h
  by_cases c_10 : v_1 = 33
  · skip
    replace h := (if_pos c_10).symm.trans h
    obtain k9 := mo_c_X9_readOne_b175 F T hM_X9_readExpr hM_X9_readConjunction hM_X9_readNegation hM_X9_readTest hM_X9_readSum hM_X9_readPart hM_X9_readSign hM_X9_readOne hM_X9_readCase hM_X9_readSpan hM_X9_readAggregate hM_X9_readList cs x0 cs9 h
    exact k9.trans hq
  replace h := (if_neg c_10).symm.trans h
  by_cases c_11 : v_1 = 34
  · skip
    replace h := (if_pos c_11).symm.trans h
    obtain k9 := mo_c_X9_readOne_b175 F T hM_X9_readExpr hM_X9_readConjunction hM_X9_readNegation hM_X9_readTest hM_X9_readSum hM_X9_readPart hM_X9_readSign hM_X9_readOne hM_X9_readCase hM_X9_readSpan hM_X9_readAggregate hM_X9_readList cs x0 cs9 h
    exact k9.trans hq
  replace h := (if_neg c_11).symm.trans h
  by_cases c_12 : v_1 = 35
  · skip
    replace h := (if_pos c_12).symm.trans h
    obtain k9 := mo_c_X9_readOne_b175 F T hM_X9_readExpr hM_X9_readConjunction hM_X9_readNegation hM_X9_readTest hM_X9_readSum hM_X9_readPart hM_X9_readSign hM_X9_readOne hM_X9_readCase hM_X9_readSpan hM_X9_readAggregate hM_X9_readList cs x0 cs9 h
    exact k9.trans hq
  replace h := (if_neg c_12).symm.trans h
  by_cases c_13 : v_1 = 36
  · skip
    replace h := (if_pos c_13).symm.trans h
    replace h := ob h; obtain ⟨w_15, hw_15, h⟩ := h
    replace h := ob h; obtain ⟨cs_14, hv_14, h⟩ := h
    replace hq := (hM_X9_readSpan cs x0 cs_14 hv_14).trans hq
    obtain k9 := mo_c_X9_readOne_b191 F T hM_X9_readExpr hM_X9_readConjunction hM_X9_readNegation hM_X9_readTest hM_X9_readSum hM_X9_readPart hM_X9_readSign hM_X9_readOne hM_X9_readCase hM_X9_readSpan hM_X9_readAggregate hM_X9_readList cs_14 cs9 h
    exact k9.trans hq
  replace h := (if_neg c_13).symm.trans h
  by_cases c_16 : v_1 = 38
  · skip
    replace h := (if_pos c_16).symm.trans h
    obtain k9 := mo_c_X9_readOne_b119 F T hM_X9_readExpr hM_X9_readConjunction hM_X9_readNegation hM_X9_readTest hM_X9_readSum hM_X9_readPart hM_X9_readSign hM_X9_readOne hM_X9_readCase hM_X9_readSpan hM_X9_readAggregate hM_X9_readList cs x0 cs9 h
    exact k9.trans hq
  replace h := (if_neg c_16).symm.trans h
  by_cases c_17 : v_1 = 39
  · skip
    replace h := (if_pos c_17).symm.trans h
    obtain k9 := mo_c_X9_readOne_b119 F T hM_X9_readExpr hM_X9_readConjunction hM_X9_readNegation hM_X9_readTest hM_X9_readSum hM_X9_readPart hM_X9_readSign hM_X9_readOne hM_X9_readCase hM_X9_readSpan hM_X9_readAggregate hM_X9_readList cs x0 cs9 h
    exact k9.trans hq
  replace h := (if_neg c_17).symm.trans h
  by_cases c_18 : v_1 = 40
  · skip
    replace h := (if_pos c_18).symm.trans h
    obtain k9 := mo_c_X9_readOne_b112 F T hM_X9_readExpr hM_X9_readConjunction hM_X9_readNegation hM_X9_readTest hM_X9_readSum hM_X9_readPart hM_X9_readSign hM_X9_readOne hM_X9_readCase hM_X9_readSpan hM_X9_readAggregate hM_X9_readList cs x0 cs9 h
    exact k9.trans hq
  replace h := (if_neg c_18).symm.trans h
  by_cases c_19 : v_1 = 41
  · skip
    replace h := (if_pos c_19).symm.trans h
    replace h := ob h; obtain ⟨w_21, hw_21, h⟩ := h
    replace h := ob h; obtain ⟨cs_20, hv_20, h⟩ := h
    replace hq := (mo_c_X9_deepen F cs x0 cs_20 hv_20).trans hq
    replace h := ob h; obtain ⟨w_23, hw_23, h⟩ := h
    replace h := ob h; obtain ⟨z_22, hv_22, h⟩ := h
    replace hq := (mo_c_X9_accept F cs_20 x0 41 z_22.1 z_22.2 hv_22).trans hq
    replace h := ob h; obtain ⟨w_25, hw_25, h⟩ := h
    replace h := ob h; obtain ⟨z_24, hv_24, h⟩ := h
    replace hq := (hM_X9_readExpr z_22.1 x0 z_24.1 z_24.2 hv_24).trans hq
    replace h := ob h; obtain ⟨w_27, hw_27, h⟩ := h
    replace h := ob h; obtain ⟨cs_26, hv_26, h⟩ := h
    replace hq := (mo_c_X9_expect F z_24.1 x0 42 cs_26 hv_26).trans hq
    replace h := ob h; obtain ⟨v_28, hv_28, h⟩ := h
    replace h := ob h; obtain ⟨cs_29, hv_29, h⟩ := h
    replace hq := (pI_1 hv_29).trans hq
    obtain k9 := mo_c_X9_readOne_b191 F T hM_X9_readExpr hM_X9_readConjunction hM_X9_readNegation hM_X9_readTest hM_X9_readSum hM_X9_readPart hM_X9_readSign hM_X9_readOne hM_X9_readCase hM_X9_readSpan hM_X9_readAggregate hM_X9_readList cs_29 cs9 h
    exact k9.trans hq
  replace h := (if_neg c_19).symm.trans h
  obtain k9 := mo_c_X9_readOne_b182 F T hM_X9_readExpr hM_X9_readConjunction hM_X9_readNegation hM_X9_readTest hM_X9_readSum hM_X9_readPart hM_X9_readSign hM_X9_readOne hM_X9_readCase hM_X9_readSpan hM_X9_readAggregate hM_X9_readList cs x0 cs9 h
  exact k9.trans hq
theorem mo_cb_X9_readCase (F : Nat) (T : TC_X9_readExpr) (hM_X9_readExpr : ∀ (cs : CS) (x0 : Nat) (cs9 : CS) (r9 : Int32), T.1 cs x0 = some (cs9, r9) → cs9.1 = cs.1) (hM_X9_readConjunction : ∀ (cs : CS) (x0 : Nat) (cs9 : CS), T.2.1 cs x0 = some cs9 → cs9.1 = cs.1) (hM_X9_readNegation : ∀ (cs : CS) (x0 : Nat) (cs9 : CS), T.2.2.1 cs x0 = some cs9 → cs9.1 = cs.1) (hM_X9_readTest : ∀ (cs : CS) (x0 : Nat) (cs9 : CS), T.2.2.2.1 cs x0 = some cs9 → cs9.1 = cs.1) (hM_X9_readSum : ∀ (cs : CS) (x0 : Nat) (cs9 : CS), T.2.2.2.2.1 cs x0 = some cs9 → cs9.1 = cs.1) (hM_X9_readPart : ∀ (cs : CS) (x0 : Nat) (cs9 : CS), T.2.2.2.2.2.1 cs x0 = some cs9 → cs9.1 = cs.1) (hM_X9_readSign : ∀ (cs : CS) (x0 : Nat) (cs9 : CS), T.2.2.2.2.2.2.1 cs x0 = some cs9 → cs9.1 = cs.1) (hM_X9_readOne : ∀ (cs : CS) (x0 : Nat) (cs9 : CS), T.2.2.2.2.2.2.2.1 cs x0 = some cs9 → cs9.1 = cs.1) (hM_X9_readCase : ∀ (cs : CS) (x0 : Nat) (cs9 : CS), T.2.2.2.2.2.2.2.2.1 cs x0 = some cs9 → cs9.1 = cs.1) (hM_X9_readSpan : ∀ (cs : CS) (x0 : Nat) (cs9 : CS), T.2.2.2.2.2.2.2.2.2.1 cs x0 = some cs9 → cs9.1 = cs.1) (hM_X9_readAggregate : ∀ (cs : CS) (x0 : Nat) (cs9 : CS), T.2.2.2.2.2.2.2.2.2.2.1 cs x0 = some cs9 → cs9.1 = cs.1) (hM_X9_readList : ∀ (cs : CS) (x0 : Nat) (x1 : Int32) (x2 : Int32) (x3 : Int32) (x4 : Int32) (cs9 : CS), T.2.2.2.2.2.2.2.2.2.2.2 cs x0 x1 x2 x3 x4 = some cs9 → cs9.1 = cs.1) (cs : CS) (x0 : Nat) (cs9 : CS) (h : cb_X9_readCase F T cs x0 = some cs9) : cs9.1 = cs.1 := by
  unfold cb_X9_readCase at h
  have hq : cs.1 = cs.1 := rfl
  replace h := ob h; obtain ⟨v_1, hv_1, h⟩ := h
  replace h := ob h; obtain ⟨i_2, hi_2, h⟩ := h
  subst hi_2
  replace h := ob h; obtain ⟨v_3, hv_3, h⟩ := h
  replace h := ob h; obtain ⟨w_5, hw_5, h⟩ := h
  replace h := ob h; obtain ⟨v_4, hv_4, h⟩ := h
  replace h := ob h; obtain ⟨w_7, hw_7, h⟩ := h
  replace h := ob h; obtain ⟨cs_6, hv_6, h⟩ := h
  replace hq := (mo_c_X9_deepen F cs x0 cs_6 hv_6).trans hq
  replace h := ob h; obtain ⟨w_9, hw_9, h⟩ := h
  replace h := ob h; obtain ⟨z_8, hv_8, h⟩ := h
  replace hq := (mo_c_X9_accept F cs_6 x0 19 z_8.1 z_8.2 hv_8).trans hq
  replace h := ob h; obtain ⟨w_11, hw_11, h⟩ := h
  replace h := ob h; obtain ⟨cs_10, hv_10, h⟩ := h
  replace hq := (mo_c_X9_expect F z_8.1 x0 20 cs_10 hv_10).trans hq
  replace h := ob h; obtain ⟨w_13, hw_13, h⟩ := h
  replace h := ob h; obtain ⟨z_12, hv_12, h⟩ := h
  replace hq := (hM_X9_readExpr cs_10 x0 z_12.1 z_12.2 hv_12).trans hq
  replace h := ob h; obtain ⟨w_15, hw_15, h⟩ := h
  replace h := ob h; obtain ⟨cs_14, hv_14, h⟩ := h
  replace hq := (mo_c_X9_expect F z_12.1 x0 21 cs_14 hv_14).trans hq
  replace h := ob h; obtain ⟨w_17, hw_17, h⟩ := h
  replace h := ob h; obtain ⟨z_16, hv_16, h⟩ := h
  replace hq := (hM_X9_readExpr cs_14 x0 z_16.1 z_16.2 hv_16).trans hq
  replace h := ob h; obtain ⟨w_19, hw_19, h⟩ := h
  replace h := ob h; obtain ⟨cs_18, hv_18, h⟩ := h
  replace hq := (mo_c_X9_expect F z_16.1 x0 22 cs_18 hv_18).trans hq
  replace h := ob h; obtain ⟨w_21, hw_21, h⟩ := h
  replace h := ob h; obtain ⟨z_20, hv_20, h⟩ := h
  replace hq := (hM_X9_readExpr cs_18 x0 z_20.1 z_20.2 hv_20).trans hq
  replace h := ob h; obtain ⟨w_23, hw_23, h⟩ := h
  replace h := ob h; obtain ⟨cs_22, hv_22, h⟩ := h
  replace hq := (mo_c_X9_expect F z_20.1 x0 23 cs_22 hv_22).trans hq
  replace h := ob h; obtain ⟨v_24, hv_24, h⟩ := h
  replace h := ob h; obtain ⟨cs_25, hv_25, h⟩ := h
  replace hq := (pI_1 hv_25).trans hq
  replace h := ob h; obtain ⟨w_27, hw_27, h⟩ := h
  replace h := ob h; obtain ⟨z_26, hv_26, h⟩ := h
  replace hq := (mo_c_X9_complete F cs_25 x0 19 v_3 v_4 v_4 3 z_26.1 z_26.2 hv_26).trans hq
  have h9 := Option.some.inj h
  exact (congrArg (fun z => z.1) h9).symm.trans hq
theorem mo_cb_X9_readSpan (F : Nat) (T : TC_X9_readExpr) (hM_X9_readExpr : ∀ (cs : CS) (x0 : Nat) (cs9 : CS) (r9 : Int32), T.1 cs x0 = some (cs9, r9) → cs9.1 = cs.1) (hM_X9_readConjunction : ∀ (cs : CS) (x0 : Nat) (cs9 : CS), T.2.1 cs x0 = some cs9 → cs9.1 = cs.1) (hM_X9_readNegation : ∀ (cs : CS) (x0 : Nat) (cs9 : CS), T.2.2.1 cs x0 = some cs9 → cs9.1 = cs.1) (hM_X9_readTest : ∀ (cs : CS) (x0 : Nat) (cs9 : CS), T.2.2.2.1 cs x0 = some cs9 → cs9.1 = cs.1) (hM_X9_readSum : ∀ (cs : CS) (x0 : Nat) (cs9 : CS), T.2.2.2.2.1 cs x0 = some cs9 → cs9.1 = cs.1) (hM_X9_readPart : ∀ (cs : CS) (x0 : Nat) (cs9 : CS), T.2.2.2.2.2.1 cs x0 = some cs9 → cs9.1 = cs.1) (hM_X9_readSign : ∀ (cs : CS) (x0 : Nat) (cs9 : CS), T.2.2.2.2.2.2.1 cs x0 = some cs9 → cs9.1 = cs.1) (hM_X9_readOne : ∀ (cs : CS) (x0 : Nat) (cs9 : CS), T.2.2.2.2.2.2.2.1 cs x0 = some cs9 → cs9.1 = cs.1) (hM_X9_readCase : ∀ (cs : CS) (x0 : Nat) (cs9 : CS), T.2.2.2.2.2.2.2.2.1 cs x0 = some cs9 → cs9.1 = cs.1) (hM_X9_readSpan : ∀ (cs : CS) (x0 : Nat) (cs9 : CS), T.2.2.2.2.2.2.2.2.2.1 cs x0 = some cs9 → cs9.1 = cs.1) (hM_X9_readAggregate : ∀ (cs : CS) (x0 : Nat) (cs9 : CS), T.2.2.2.2.2.2.2.2.2.2.1 cs x0 = some cs9 → cs9.1 = cs.1) (hM_X9_readList : ∀ (cs : CS) (x0 : Nat) (x1 : Int32) (x2 : Int32) (x3 : Int32) (x4 : Int32) (cs9 : CS), T.2.2.2.2.2.2.2.2.2.2.2 cs x0 x1 x2 x3 x4 = some cs9 → cs9.1 = cs.1) (cs : CS) (x0 : Nat) (cs9 : CS) (h : cb_X9_readSpan F T cs x0 = some cs9) : cs9.1 = cs.1 := by
  unfold cb_X9_readSpan at h
  have hq : cs.1 = cs.1 := rfl
  replace h := ob h; obtain ⟨v_1, hv_1, h⟩ := h
  replace h := ob h; obtain ⟨i_2, hi_2, h⟩ := h
  subst hi_2
  replace h := ob h; obtain ⟨v_3, hv_3, h⟩ := h
  replace h := ob h; obtain ⟨w_5, hw_5, h⟩ := h
  replace h := ob h; obtain ⟨v_4, hv_4, h⟩ := h
  replace h := ob h; obtain ⟨w_7, hw_7, h⟩ := h
  replace h := ob h; obtain ⟨cs_6, hv_6, h⟩ := h
  replace hq := (mo_c_X9_deepen F cs x0 cs_6 hv_6).trans hq
  replace h := ob h; obtain ⟨w_9, hw_9, h⟩ := h
  replace h := ob h; obtain ⟨z_8, hv_8, h⟩ := h
  replace hq := (mo_c_X9_accept F cs_6 x0 36 z_8.1 z_8.2 hv_8).trans hq
  replace h := ob h; obtain ⟨w_11, hw_11, h⟩ := h
  replace h := ob h; obtain ⟨cs_10, hv_10, h⟩ := h
  replace hq := (mo_c_X9_expect F z_8.1 x0 41 cs_10 hv_10).trans hq
  replace h := ob h; obtain ⟨w_13, hw_13, h⟩ := h
  replace h := ob h; obtain ⟨z_12, hv_12, h⟩ := h
  replace hq := (hM_X9_readExpr cs_10 x0 z_12.1 z_12.2 hv_12).trans hq
  replace h := ob h; obtain ⟨w_15, hw_15, h⟩ := h
  replace h := ob h; obtain ⟨cs_14, hv_14, h⟩ := h
  replace hq := (mo_c_X9_expect F z_12.1 x0 43 cs_14 hv_14).trans hq
  replace h := ob h; obtain ⟨w_17, hw_17, h⟩ := h
  replace h := ob h; obtain ⟨z_16, hv_16, h⟩ := h
  replace hq := (hM_X9_readExpr cs_14 x0 z_16.1 z_16.2 hv_16).trans hq
  replace h := ob h; obtain ⟨w_19, hw_19, h⟩ := h
  replace h := ob h; obtain ⟨cs_18, hv_18, h⟩ := h
  replace hq := (mo_c_X9_expect F z_16.1 x0 42 cs_18 hv_18).trans hq
  replace h := ob h; obtain ⟨v_20, hv_20, h⟩ := h
  replace h := ob h; obtain ⟨cs_21, hv_21, h⟩ := h
  replace hq := (pI_1 hv_21).trans hq
  replace h := ob h; obtain ⟨w_23, hw_23, h⟩ := h
  replace h := ob h; obtain ⟨z_22, hv_22, h⟩ := h
  replace hq := (mo_c_X9_complete F cs_21 x0 36 v_3 v_4 v_4 2 z_22.1 z_22.2 hv_22).trans hq
  have h9 := Option.some.inj h
  exact (congrArg (fun z => z.1) h9).symm.trans hq
theorem mo_c_X9_readAggregate_b36 (F : Nat) (T : TC_X9_readExpr) (hM_X9_readExpr : ∀ (cs : CS) (x0 : Nat) (cs9 : CS) (r9 : Int32), T.1 cs x0 = some (cs9, r9) → cs9.1 = cs.1) (hM_X9_readConjunction : ∀ (cs : CS) (x0 : Nat) (cs9 : CS), T.2.1 cs x0 = some cs9 → cs9.1 = cs.1) (hM_X9_readNegation : ∀ (cs : CS) (x0 : Nat) (cs9 : CS), T.2.2.1 cs x0 = some cs9 → cs9.1 = cs.1) (hM_X9_readTest : ∀ (cs : CS) (x0 : Nat) (cs9 : CS), T.2.2.2.1 cs x0 = some cs9 → cs9.1 = cs.1) (hM_X9_readSum : ∀ (cs : CS) (x0 : Nat) (cs9 : CS), T.2.2.2.2.1 cs x0 = some cs9 → cs9.1 = cs.1) (hM_X9_readPart : ∀ (cs : CS) (x0 : Nat) (cs9 : CS), T.2.2.2.2.2.1 cs x0 = some cs9 → cs9.1 = cs.1) (hM_X9_readSign : ∀ (cs : CS) (x0 : Nat) (cs9 : CS), T.2.2.2.2.2.2.1 cs x0 = some cs9 → cs9.1 = cs.1) (hM_X9_readOne : ∀ (cs : CS) (x0 : Nat) (cs9 : CS), T.2.2.2.2.2.2.2.1 cs x0 = some cs9 → cs9.1 = cs.1) (hM_X9_readCase : ∀ (cs : CS) (x0 : Nat) (cs9 : CS), T.2.2.2.2.2.2.2.2.1 cs x0 = some cs9 → cs9.1 = cs.1) (hM_X9_readSpan : ∀ (cs : CS) (x0 : Nat) (cs9 : CS), T.2.2.2.2.2.2.2.2.2.1 cs x0 = some cs9 → cs9.1 = cs.1) (hM_X9_readAggregate : ∀ (cs : CS) (x0 : Nat) (cs9 : CS), T.2.2.2.2.2.2.2.2.2.2.1 cs x0 = some cs9 → cs9.1 = cs.1) (hM_X9_readList : ∀ (cs : CS) (x0 : Nat) (x1 : Int32) (x2 : Int32) (x3 : Int32) (x4 : Int32) (cs9 : CS), T.2.2.2.2.2.2.2.2.2.2.2 cs x0 x1 x2 x3 x4 = some cs9 → cs9.1 = cs.1) (cs1 : CS) (u0 : Nat) (u3 : Int32) (cs9 : CS) (h : c_X9_readAggregate_b36 F T cs1 u0 u3 = some cs9) : cs9.1 = cs1.1 := by
  unfold c_X9_readAggregate_b36 at h
  have hq : cs1.1 = cs1.1 := rfl
  replace h := ob h; obtain ⟨w_2, hw_2, h⟩ := h
  replace h := ob h; obtain ⟨cs_1, hv_1, h⟩ := h
  replace hq := (mo_c_X9_refuse F cs1 u0 1 u3 cs_1 hv_1).trans hq
  have h9 := Option.some.inj h
  exact (congrArg (fun z => z.1) h9).symm.trans hq
theorem mo_c_X9_readAggregate_b159 (F : Nat) (T : TC_X9_readExpr) (hM_X9_readExpr : ∀ (cs : CS) (x0 : Nat) (cs9 : CS) (r9 : Int32), T.1 cs x0 = some (cs9, r9) → cs9.1 = cs.1) (hM_X9_readConjunction : ∀ (cs : CS) (x0 : Nat) (cs9 : CS), T.2.1 cs x0 = some cs9 → cs9.1 = cs.1) (hM_X9_readNegation : ∀ (cs : CS) (x0 : Nat) (cs9 : CS), T.2.2.1 cs x0 = some cs9 → cs9.1 = cs.1) (hM_X9_readTest : ∀ (cs : CS) (x0 : Nat) (cs9 : CS), T.2.2.2.1 cs x0 = some cs9 → cs9.1 = cs.1) (hM_X9_readSum : ∀ (cs : CS) (x0 : Nat) (cs9 : CS), T.2.2.2.2.1 cs x0 = some cs9 → cs9.1 = cs.1) (hM_X9_readPart : ∀ (cs : CS) (x0 : Nat) (cs9 : CS), T.2.2.2.2.2.1 cs x0 = some cs9 → cs9.1 = cs.1) (hM_X9_readSign : ∀ (cs : CS) (x0 : Nat) (cs9 : CS), T.2.2.2.2.2.2.1 cs x0 = some cs9 → cs9.1 = cs.1) (hM_X9_readOne : ∀ (cs : CS) (x0 : Nat) (cs9 : CS), T.2.2.2.2.2.2.2.1 cs x0 = some cs9 → cs9.1 = cs.1) (hM_X9_readCase : ∀ (cs : CS) (x0 : Nat) (cs9 : CS), T.2.2.2.2.2.2.2.2.1 cs x0 = some cs9 → cs9.1 = cs.1) (hM_X9_readSpan : ∀ (cs : CS) (x0 : Nat) (cs9 : CS), T.2.2.2.2.2.2.2.2.2.1 cs x0 = some cs9 → cs9.1 = cs.1) (hM_X9_readAggregate : ∀ (cs : CS) (x0 : Nat) (cs9 : CS), T.2.2.2.2.2.2.2.2.2.2.1 cs x0 = some cs9 → cs9.1 = cs.1) (hM_X9_readList : ∀ (cs : CS) (x0 : Nat) (x1 : Int32) (x2 : Int32) (x3 : Int32) (x4 : Int32) (cs9 : CS), T.2.2.2.2.2.2.2.2.2.2.2 cs x0 x1 x2 x3 x4 = some cs9 → cs9.1 = cs.1) (cs1 : CS) (u0 : Nat) (u2 : Int32) (u4 : Nat) (y0 : Int32) (y1 : Int32) (y2 : Int32) (y3 : Int32) (y4 : Int32) (y5 : Nat) (cs9 : CS) (h : c_X9_readAggregate_b159 F T cs1 u0 u2 u4 y0 y1 y2 y3 y4 y5 = some cs9) : cs9.1 = cs1.1 := by
  unfold c_X9_readAggregate_b159 at h
  have hq : cs1.1 = cs1.1 := rfl
  replace h := ob h; obtain ⟨w_2, hw_2, h⟩ := h
  replace h := ob h; obtain ⟨z_1, hv_1, h⟩ := h
  replace hq := (mo_c_X9_complete F cs1 y5 y4 y3 y2 y1 y0 z_1.1 z_1.2 hv_1).trans hq
  replace h := ob h; obtain ⟨w_4, hw_4, h⟩ := h
  replace h := ob h; obtain ⟨cs_3, hv_3, h⟩ := h
  replace hq := (mo_c_X9_noteAggregate F z_1.1 u0 u4 z_1.2 u2 cs_3 hv_3).trans hq
  have h9 := Option.some.inj h
  exact (congrArg (fun z => z.1) h9).symm.trans hq
theorem mo_c_X9_readAggregate_b146 (F : Nat) (T : TC_X9_readExpr) (hM_X9_readExpr : ∀ (cs : CS) (x0 : Nat) (cs9 : CS) (r9 : Int32), T.1 cs x0 = some (cs9, r9) → cs9.1 = cs.1) (hM_X9_readConjunction : ∀ (cs : CS) (x0 : Nat) (cs9 : CS), T.2.1 cs x0 = some cs9 → cs9.1 = cs.1) (hM_X9_readNegation : ∀ (cs : CS) (x0 : Nat) (cs9 : CS), T.2.2.1 cs x0 = some cs9 → cs9.1 = cs.1) (hM_X9_readTest : ∀ (cs : CS) (x0 : Nat) (cs9 : CS), T.2.2.2.1 cs x0 = some cs9 → cs9.1 = cs.1) (hM_X9_readSum : ∀ (cs : CS) (x0 : Nat) (cs9 : CS), T.2.2.2.2.1 cs x0 = some cs9 → cs9.1 = cs.1) (hM_X9_readPart : ∀ (cs : CS) (x0 : Nat) (cs9 : CS), T.2.2.2.2.2.1 cs x0 = some cs9 → cs9.1 = cs.1) (hM_X9_readSign : ∀ (cs : CS) (x0 : Nat) (cs9 : CS), T.2.2.2.2.2.2.1 cs x0 = some cs9 → cs9.1 = cs.1) (hM_X9_readOne : ∀ (cs : CS) (x0 : Nat) (cs9 : CS), T.2.2.2.2.2.2.2.1 cs x0 = some cs9 → cs9.1 = cs.1) (hM_X9_readCase : ∀ (cs : CS) (x0 : Nat) (cs9 : CS), T.2.2.2.2.2.2.2.2.1 cs x0 = some cs9 → cs9.1 = cs.1) (hM_X9_readSpan : ∀ (cs : CS) (x0 : Nat) (cs9 : CS), T.2.2.2.2.2.2.2.2.2.1 cs x0 = some cs9 → cs9.1 = cs.1) (hM_X9_readAggregate : ∀ (cs : CS) (x0 : Nat) (cs9 : CS), T.2.2.2.2.2.2.2.2.2.2.1 cs x0 = some cs9 → cs9.1 = cs.1) (hM_X9_readList : ∀ (cs : CS) (x0 : Nat) (x1 : Int32) (x2 : Int32) (x3 : Int32) (x4 : Int32) (cs9 : CS), T.2.2.2.2.2.2.2.2.2.2.2 cs x0 x1 x2 x3 x4 = some cs9 → cs9.1 = cs.1) (cs1 : CS) (u0 : Nat) (u2 : Int32) (u3 : Int32) (u4 : Nat) (u5 : Int32) (y0 : Int32) (y1 : Nat) (cs9 : CS) (h : c_X9_readAggregate_b146 F T cs1 u0 u2 u3 u4 u5 y0 y1 = some cs9) : cs9.1 = cs1.1 := by
  unfold c_X9_readAggregate_b146 at h
  have hq : cs1.1 = cs1.1 := rfl
  by_cases c_1 : u5 = 0
  · skip
    replace h := (if_pos c_1).symm.trans h
    obtain k9 := mo_c_X9_readAggregate_b159 F T hM_X9_readExpr hM_X9_readConjunction hM_X9_readNegation hM_X9_readTest hM_X9_readSum hM_X9_readPart hM_X9_readSign hM_X9_readOne hM_X9_readCase hM_X9_readSpan hM_X9_readAggregate hM_X9_readList cs1 u0 u2 u4 1 u3 u3 u2 y0 y1 cs9 h
    exact k9.trans hq
  · skip
    replace h := (if_neg c_1).symm.trans h
    obtain k9 := mo_c_X9_readAggregate_b159 F T hM_X9_readExpr hM_X9_readConjunction hM_X9_readNegation hM_X9_readTest hM_X9_readSum hM_X9_readPart hM_X9_readSign hM_X9_readOne hM_X9_readCase hM_X9_readSpan hM_X9_readAggregate hM_X9_readList cs1 u0 u2 u4 0 u3 u3 u2 y0 y1 cs9 h
    exact k9.trans hq
theorem mo_c_X9_readAggregate_b113 (F : Nat) (T : TC_X9_readExpr) (hM_X9_readExpr : ∀ (cs : CS) (x0 : Nat) (cs9 : CS) (r9 : Int32), T.1 cs x0 = some (cs9, r9) → cs9.1 = cs.1) (hM_X9_readConjunction : ∀ (cs : CS) (x0 : Nat) (cs9 : CS), T.2.1 cs x0 = some cs9 → cs9.1 = cs.1) (hM_X9_readNegation : ∀ (cs : CS) (x0 : Nat) (cs9 : CS), T.2.2.1 cs x0 = some cs9 → cs9.1 = cs.1) (hM_X9_readTest : ∀ (cs : CS) (x0 : Nat) (cs9 : CS), T.2.2.2.1 cs x0 = some cs9 → cs9.1 = cs.1) (hM_X9_readSum : ∀ (cs : CS) (x0 : Nat) (cs9 : CS), T.2.2.2.2.1 cs x0 = some cs9 → cs9.1 = cs.1) (hM_X9_readPart : ∀ (cs : CS) (x0 : Nat) (cs9 : CS), T.2.2.2.2.2.1 cs x0 = some cs9 → cs9.1 = cs.1) (hM_X9_readSign : ∀ (cs : CS) (x0 : Nat) (cs9 : CS), T.2.2.2.2.2.2.1 cs x0 = some cs9 → cs9.1 = cs.1) (hM_X9_readOne : ∀ (cs : CS) (x0 : Nat) (cs9 : CS), T.2.2.2.2.2.2.2.1 cs x0 = some cs9 → cs9.1 = cs.1) (hM_X9_readCase : ∀ (cs : CS) (x0 : Nat) (cs9 : CS), T.2.2.2.2.2.2.2.2.1 cs x0 = some cs9 → cs9.1 = cs.1) (hM_X9_readSpan : ∀ (cs : CS) (x0 : Nat) (cs9 : CS), T.2.2.2.2.2.2.2.2.2.1 cs x0 = some cs9 → cs9.1 = cs.1) (hM_X9_readAggregate : ∀ (cs : CS) (x0 : Nat) (cs9 : CS), T.2.2.2.2.2.2.2.2.2.2.1 cs x0 = some cs9 → cs9.1 = cs.1) (hM_X9_readList : ∀ (cs : CS) (x0 : Nat) (x1 : Int32) (x2 : Int32) (x3 : Int32) (x4 : Int32) (cs9 : CS), T.2.2.2.2.2.2.2.2.2.2.2 cs x0 x1 x2 x3 x4 = some cs9 → cs9.1 = cs.1) (cs1 : CS) (u0 : Nat) (u1 : Int32) (u2 : Int32) (u3 : Int32) (u4 : Nat) (u5 : Int32) (cs9 : CS) (h : c_X9_readAggregate_b113 F T cs1 u0 u1 u2 u3 u4 u5 = some cs9) : cs9.1 = cs1.1 := by
  unfold c_X9_readAggregate_b113 at h
  have hq : cs1.1 = cs1.1 := rfl
  replace h := ob h; obtain ⟨cs_1, hv_1, h⟩ := h
  replace hq := (pI_1 hv_1).trans hq
  replace h := ob h; obtain ⟨w_3, hw_3, h⟩ := h
  replace h := ob h; obtain ⟨cs_2, hv_2, h⟩ := h
  replace hq := (mo_c_X9_expect F cs_1 u0 42 cs_2 hv_2).trans hq
  replace h := ob h; obtain ⟨v_4, hv_4, h⟩ := h
  replace h := ob h; obtain ⟨cs_5, hv_5, h⟩ := h
  replace hq := (pI_1 hv_5).trans hq
  by_cases c_6 : u5 = 0
  · skip
    replace h := (if_pos c_6).symm.trans h
    obtain k9 := mo_c_X9_readAggregate_b146 F T hM_X9_readExpr hM_X9_readConjunction hM_X9_readNegation hM_X9_readTest hM_X9_readSum hM_X9_readPart hM_X9_readSign hM_X9_readOne hM_X9_readCase hM_X9_readSpan hM_X9_readAggregate hM_X9_readList cs_5 u0 u2 u3 u4 u5 u1 u0 cs9 h
    exact k9.trans hq
  · skip
    replace h := (if_neg c_6).symm.trans h
    obtain k9 := mo_c_X9_readAggregate_b146 F T hM_X9_readExpr hM_X9_readConjunction hM_X9_readNegation hM_X9_readTest hM_X9_readSum hM_X9_readPart hM_X9_readSign hM_X9_readOne hM_X9_readCase hM_X9_readSpan hM_X9_readAggregate hM_X9_readList cs_5 u0 u2 u3 u4 u5 61 u0 cs9 h
    exact k9.trans hq
theorem mo_c_X9_readAggregate_b101 (F : Nat) (T : TC_X9_readExpr) (hM_X9_readExpr : ∀ (cs : CS) (x0 : Nat) (cs9 : CS) (r9 : Int32), T.1 cs x0 = some (cs9, r9) → cs9.1 = cs.1) (hM_X9_readConjunction : ∀ (cs : CS) (x0 : Nat) (cs9 : CS), T.2.1 cs x0 = some cs9 → cs9.1 = cs.1) (hM_X9_readNegation : ∀ (cs : CS) (x0 : Nat) (cs9 : CS), T.2.2.1 cs x0 = some cs9 → cs9.1 = cs.1) (hM_X9_readTest : ∀ (cs : CS) (x0 : Nat) (cs9 : CS), T.2.2.2.1 cs x0 = some cs9 → cs9.1 = cs.1) (hM_X9_readSum : ∀ (cs : CS) (x0 : Nat) (cs9 : CS), T.2.2.2.2.1 cs x0 = some cs9 → cs9.1 = cs.1) (hM_X9_readPart : ∀ (cs : CS) (x0 : Nat) (cs9 : CS), T.2.2.2.2.2.1 cs x0 = some cs9 → cs9.1 = cs.1) (hM_X9_readSign : ∀ (cs : CS) (x0 : Nat) (cs9 : CS), T.2.2.2.2.2.2.1 cs x0 = some cs9 → cs9.1 = cs.1) (hM_X9_readOne : ∀ (cs : CS) (x0 : Nat) (cs9 : CS), T.2.2.2.2.2.2.2.1 cs x0 = some cs9 → cs9.1 = cs.1) (hM_X9_readCase : ∀ (cs : CS) (x0 : Nat) (cs9 : CS), T.2.2.2.2.2.2.2.2.1 cs x0 = some cs9 → cs9.1 = cs.1) (hM_X9_readSpan : ∀ (cs : CS) (x0 : Nat) (cs9 : CS), T.2.2.2.2.2.2.2.2.2.1 cs x0 = some cs9 → cs9.1 = cs.1) (hM_X9_readAggregate : ∀ (cs : CS) (x0 : Nat) (cs9 : CS), T.2.2.2.2.2.2.2.2.2.2.1 cs x0 = some cs9 → cs9.1 = cs.1) (hM_X9_readList : ∀ (cs : CS) (x0 : Nat) (x1 : Int32) (x2 : Int32) (x3 : Int32) (x4 : Int32) (cs9 : CS), T.2.2.2.2.2.2.2.2.2.2.2 cs x0 x1 x2 x3 x4 = some cs9 → cs9.1 = cs.1) (cs1 : CS) (u0 : Nat) (u1 : Int32) (u2 : Int32) (u3 : Int32) (u4 : Nat) (y0 : Int32) (cs9 : CS) (h : c_X9_readAggregate_b101 F T cs1 u0 u1 u2 u3 u4 y0 = some cs9) : cs9.1 = cs1.1 := by
  unfold c_X9_readAggregate_b101 at h
  have hq : cs1.1 = cs1.1 := rfl
  by_cases c_1 : y0 = 0
  · skip
    replace h := (if_pos c_1).symm.trans h
    replace h := ob h; obtain ⟨w_3, hw_3, h⟩ := h
    replace h := ob h; obtain ⟨z_2, hv_2, h⟩ := h
    replace hq := (hM_X9_readExpr cs1 u0 z_2.1 z_2.2 hv_2).trans hq
    obtain k9 := mo_c_X9_readAggregate_b113 F T hM_X9_readExpr hM_X9_readConjunction hM_X9_readNegation hM_X9_readTest hM_X9_readSum hM_X9_readPart hM_X9_readSign hM_X9_readOne hM_X9_readCase hM_X9_readSpan hM_X9_readAggregate hM_X9_readList z_2.1 u0 u1 u2 u3 u4 y0 cs9 h
    exact k9.trans hq
  · skip
    replace h := (if_neg c_1).symm.trans h
    obtain k9 := mo_c_X9_readAggregate_b113 F T hM_X9_readExpr hM_X9_readConjunction hM_X9_readNegation hM_X9_readTest hM_X9_readSum hM_X9_readPart hM_X9_readSign hM_X9_readOne hM_X9_readCase hM_X9_readSpan hM_X9_readAggregate hM_X9_readList cs1 u0 u1 u2 u3 u4 y0 cs9 h
    exact k9.trans hq
theorem mo_c_X9_readAggregate_b100 (F : Nat) (T : TC_X9_readExpr) (hM_X9_readExpr : ∀ (cs : CS) (x0 : Nat) (cs9 : CS) (r9 : Int32), T.1 cs x0 = some (cs9, r9) → cs9.1 = cs.1) (hM_X9_readConjunction : ∀ (cs : CS) (x0 : Nat) (cs9 : CS), T.2.1 cs x0 = some cs9 → cs9.1 = cs.1) (hM_X9_readNegation : ∀ (cs : CS) (x0 : Nat) (cs9 : CS), T.2.2.1 cs x0 = some cs9 → cs9.1 = cs.1) (hM_X9_readTest : ∀ (cs : CS) (x0 : Nat) (cs9 : CS), T.2.2.2.1 cs x0 = some cs9 → cs9.1 = cs.1) (hM_X9_readSum : ∀ (cs : CS) (x0 : Nat) (cs9 : CS), T.2.2.2.2.1 cs x0 = some cs9 → cs9.1 = cs.1) (hM_X9_readPart : ∀ (cs : CS) (x0 : Nat) (cs9 : CS), T.2.2.2.2.2.1 cs x0 = some cs9 → cs9.1 = cs.1) (hM_X9_readSign : ∀ (cs : CS) (x0 : Nat) (cs9 : CS), T.2.2.2.2.2.2.1 cs x0 = some cs9 → cs9.1 = cs.1) (hM_X9_readOne : ∀ (cs : CS) (x0 : Nat) (cs9 : CS), T.2.2.2.2.2.2.2.1 cs x0 = some cs9 → cs9.1 = cs.1) (hM_X9_readCase : ∀ (cs : CS) (x0 : Nat) (cs9 : CS), T.2.2.2.2.2.2.2.2.1 cs x0 = some cs9 → cs9.1 = cs.1) (hM_X9_readSpan : ∀ (cs : CS) (x0 : Nat) (cs9 : CS), T.2.2.2.2.2.2.2.2.2.1 cs x0 = some cs9 → cs9.1 = cs.1) (hM_X9_readAggregate : ∀ (cs : CS) (x0 : Nat) (cs9 : CS), T.2.2.2.2.2.2.2.2.2.2.1 cs x0 = some cs9 → cs9.1 = cs.1) (hM_X9_readList : ∀ (cs : CS) (x0 : Nat) (x1 : Int32) (x2 : Int32) (x3 : Int32) (x4 : Int32) (cs9 : CS), T.2.2.2.2.2.2.2.2.2.2.2 cs x0 x1 x2 x3 x4 = some cs9 → cs9.1 = cs.1) (cs1 : CS) (u0 : Nat) (u1 : Int32) (u2 : Int32) (u3 : Int32) (u4 : Nat) (cs9 : CS) (h : c_X9_readAggregate_b100 F T cs1 u0 u1 u2 u3 u4 = some cs9) : cs9.1 = cs1.1 := by
  unfold c_X9_readAggregate_b100 at h
  have hq : cs1.1 = cs1.1 := rfl
  obtain k9 := mo_c_X9_readAggregate_b101 F T hM_X9_readExpr hM_X9_readConjunction hM_X9_readNegation hM_X9_readTest hM_X9_readSum hM_X9_readPart hM_X9_readSign hM_X9_readOne hM_X9_readCase hM_X9_readSpan hM_X9_readAggregate hM_X9_readList cs1 u0 u1 u2 u3 u4 0 cs9 h
  exact k9.trans hq
theorem mo_c_X9_readAggregate_b60 (F : Nat) (T : TC_X9_readExpr) (hM_X9_readExpr : ∀ (cs : CS) (x0 : Nat) (cs9 : CS) (r9 : Int32), T.1 cs x0 = some (cs9, r9) → cs9.1 = cs.1) (hM_X9_readConjunction : ∀ (cs : CS) (x0 : Nat) (cs9 : CS), T.2.1 cs x0 = some cs9 → cs9.1 = cs.1) (hM_X9_readNegation : ∀ (cs : CS) (x0 : Nat) (cs9 : CS), T.2.2.1 cs x0 = some cs9 → cs9.1 = cs.1) (hM_X9_readTest : ∀ (cs : CS) (x0 : Nat) (cs9 : CS), T.2.2.2.1 cs x0 = some cs9 → cs9.1 = cs.1) (hM_X9_readSum : ∀ (cs : CS) (x0 : Nat) (cs9 : CS), T.2.2.2.2.1 cs x0 = some cs9 → cs9.1 = cs.1) (hM_X9_readPart : ∀ (cs : CS) (x0 : Nat) (cs9 : CS), T.2.2.2.2.2.1 cs x0 = some cs9 → cs9.1 = cs.1) (hM_X9_readSign : ∀ (cs : CS) (x0 : Nat) (cs9 : CS), T.2.2.2.2.2.2.1 cs x0 = some cs9 → cs9.1 = cs.1) (hM_X9_readOne : ∀ (cs : CS) (x0 : Nat) (cs9 : CS), T.2.2.2.2.2.2.2.1 cs x0 = some cs9 → cs9.1 = cs.1) (hM_X9_readCase : ∀ (cs : CS) (x0 : Nat) (cs9 : CS), T.2.2.2.2.2.2.2.2.1 cs x0 = some cs9 → cs9.1 = cs.1) (hM_X9_readSpan : ∀ (cs : CS) (x0 : Nat) (cs9 : CS), T.2.2.2.2.2.2.2.2.2.1 cs x0 = some cs9 → cs9.1 = cs.1) (hM_X9_readAggregate : ∀ (cs : CS) (x0 : Nat) (cs9 : CS), T.2.2.2.2.2.2.2.2.2.2.1 cs x0 = some cs9 → cs9.1 = cs.1) (hM_X9_readList : ∀ (cs : CS) (x0 : Nat) (x1 : Int32) (x2 : Int32) (x3 : Int32) (x4 : Int32) (cs9 : CS), T.2.2.2.2.2.2.2.2.2.2.2 cs x0 x1 x2 x3 x4 = some cs9 → cs9.1 = cs.1) (cs1 : CS) (u0 : Nat) (u1 : Int32) (u2 : Int32) (u3 : Int32) (u4 : Nat) (cs9 : CS) (h : c_X9_readAggregate_b60 F T cs1 u0 u1 u2 u3 u4 = some cs9) : cs9.1 = cs1.1 := by
  unfold c_X9_readAggregate_b60 at h
  have hq : cs1.1 = cs1.1 := rfl
  replace h := ob h; obtain ⟨w_2, hw_2, h⟩ := h
  replace h := ob h; obtain ⟨cs_1, hv_1, h⟩ := h
  replace hq := (mo_c_X9_deepen F cs1 u0 cs_1 hv_1).trans hq
  replace h := ob h; obtain ⟨w_4, hw_4, h⟩ := h
  replace h := ob h; obtain ⟨z_3, hv_3, h⟩ := h
  replace hq := (mo_c_X9_accept F cs_1 u0 u1 z_3.1 z_3.2 hv_3).trans hq
  replace h := ob h; obtain ⟨w_6, hw_6, h⟩ := h
  replace h := ob h; obtain ⟨cs_5, hv_5, h⟩ := h
  replace hq := (mo_c_X9_expect F z_3.1 u0 41 cs_5 hv_5).trans hq
  replace h := ob h; obtain ⟨cs_7, hv_7, h⟩ := h
  replace hq := (pI_1 hv_7).trans hq
  by_cases c_8 : u1 = 32
  · skip
    replace h := (if_pos c_8).symm.trans h
    replace h := ob h; obtain ⟨w_10, hw_10, h⟩ := h
    replace h := ob h; obtain ⟨z_9, hv_9, h⟩ := h
    replace hq := (mo_c_X9_accept F cs_7 u0 47 z_9.1 z_9.2 hv_9).trans hq
    by_cases c_11 : z_9.2 = 0
    · skip
      replace h := (if_pos c_11).symm.trans h
      obtain k9 := mo_c_X9_readAggregate_b100 F T hM_X9_readExpr hM_X9_readConjunction hM_X9_readNegation hM_X9_readTest hM_X9_readSum hM_X9_readPart hM_X9_readSign hM_X9_readOne hM_X9_readCase hM_X9_readSpan hM_X9_readAggregate hM_X9_readList z_9.1 u0 u1 u2 u3 u4 cs9 h
      exact k9.trans hq
    · skip
      replace h := (if_neg c_11).symm.trans h
      obtain k9 := mo_c_X9_readAggregate_b101 F T hM_X9_readExpr hM_X9_readConjunction hM_X9_readNegation hM_X9_readTest hM_X9_readSum hM_X9_readPart hM_X9_readSign hM_X9_readOne hM_X9_readCase hM_X9_readSpan hM_X9_readAggregate hM_X9_readList z_9.1 u0 u1 u2 u3 u4 1 cs9 h
      exact k9.trans hq
  · skip
    replace h := (if_neg c_8).symm.trans h
    obtain k9 := mo_c_X9_readAggregate_b100 F T hM_X9_readExpr hM_X9_readConjunction hM_X9_readNegation hM_X9_readTest hM_X9_readSum hM_X9_readPart hM_X9_readSign hM_X9_readOne hM_X9_readCase hM_X9_readSpan hM_X9_readAggregate hM_X9_readList cs_7 u0 u1 u2 u3 u4 cs9 h
    exact k9.trans hq
theorem mo_cb_X9_readAggregate (F : Nat) (T : TC_X9_readExpr) (hM_X9_readExpr : ∀ (cs : CS) (x0 : Nat) (cs9 : CS) (r9 : Int32), T.1 cs x0 = some (cs9, r9) → cs9.1 = cs.1) (hM_X9_readConjunction : ∀ (cs : CS) (x0 : Nat) (cs9 : CS), T.2.1 cs x0 = some cs9 → cs9.1 = cs.1) (hM_X9_readNegation : ∀ (cs : CS) (x0 : Nat) (cs9 : CS), T.2.2.1 cs x0 = some cs9 → cs9.1 = cs.1) (hM_X9_readTest : ∀ (cs : CS) (x0 : Nat) (cs9 : CS), T.2.2.2.1 cs x0 = some cs9 → cs9.1 = cs.1) (hM_X9_readSum : ∀ (cs : CS) (x0 : Nat) (cs9 : CS), T.2.2.2.2.1 cs x0 = some cs9 → cs9.1 = cs.1) (hM_X9_readPart : ∀ (cs : CS) (x0 : Nat) (cs9 : CS), T.2.2.2.2.2.1 cs x0 = some cs9 → cs9.1 = cs.1) (hM_X9_readSign : ∀ (cs : CS) (x0 : Nat) (cs9 : CS), T.2.2.2.2.2.2.1 cs x0 = some cs9 → cs9.1 = cs.1) (hM_X9_readOne : ∀ (cs : CS) (x0 : Nat) (cs9 : CS), T.2.2.2.2.2.2.2.1 cs x0 = some cs9 → cs9.1 = cs.1) (hM_X9_readCase : ∀ (cs : CS) (x0 : Nat) (cs9 : CS), T.2.2.2.2.2.2.2.2.1 cs x0 = some cs9 → cs9.1 = cs.1) (hM_X9_readSpan : ∀ (cs : CS) (x0 : Nat) (cs9 : CS), T.2.2.2.2.2.2.2.2.2.1 cs x0 = some cs9 → cs9.1 = cs.1) (hM_X9_readAggregate : ∀ (cs : CS) (x0 : Nat) (cs9 : CS), T.2.2.2.2.2.2.2.2.2.2.1 cs x0 = some cs9 → cs9.1 = cs.1) (hM_X9_readList : ∀ (cs : CS) (x0 : Nat) (x1 : Int32) (x2 : Int32) (x3 : Int32) (x4 : Int32) (cs9 : CS), T.2.2.2.2.2.2.2.2.2.2.2 cs x0 x1 x2 x3 x4 = some cs9 → cs9.1 = cs.1) (cs : CS) (x0 : Nat) (cs9 : CS) (h : cb_X9_readAggregate F T cs x0 = some cs9) : cs9.1 = cs.1 := by
  unfold cb_X9_readAggregate at h
  have hq : cs.1 = cs.1 := rfl
  replace h := ob h; obtain ⟨w_2, hw_2, h⟩ := h
  replace h := ob h; obtain ⟨v_1, hv_1, h⟩ := h
  replace h := ob h; obtain ⟨v_3, hv_3, h⟩ := h
  replace h := ob h; obtain ⟨i_4, hi_4, h⟩ := h
  subst hi_4
  replace h := ob h; obtain ⟨v_5, hv_5, h⟩ := h
  replace h := ob h; obtain ⟨w_7, hw_7, h⟩ := h
  replace h := ob h; obtain ⟨v_6, hv_6, h⟩ := h
  replace h := ob h; obtain ⟨v_8, hv_8, h⟩ := h
  replace h := ob h; obtain ⟨v_9, hv_9, h⟩ := h
  by_cases c_10 : v_9 = 0
  · skip
    replace h := (if_pos c_10).symm.trans h
    obtain k9 := mo_c_X9_readAggregate_b36 F T hM_X9_readExpr hM_X9_readConjunction hM_X9_readNegation hM_X9_readTest hM_X9_readSum hM_X9_readPart hM_X9_readSign hM_X9_readOne hM_X9_readCase hM_X9_readSpan hM_X9_readAggregate hM_X9_readList cs x0 v_6 cs9 h
    exact k9.trans hq
  · skip
    replace h := (if_neg c_10).symm.trans h
    cases v_8 with
    | none =>
      replace h := oc_n.symm.trans h
      obtain k9 := mo_c_X9_readAggregate_b36 F T hM_X9_readExpr hM_X9_readConjunction hM_X9_readNegation hM_X9_readTest hM_X9_readSum hM_X9_readPart hM_X9_readSign hM_X9_readOne hM_X9_readCase hM_X9_readSpan hM_X9_readAggregate hM_X9_readList cs x0 v_6 cs9 h
      exact k9.trans hq
    | some i_11 =>
      replace h := oc_s.symm.trans h
      replace h := ob h; obtain ⟨v_12, hv_12, h⟩ := h
      by_cases c_13 : v_12 < 12
      · skip
        replace h := (if_pos c_13).symm.trans h
        obtain k9 := mo_c_X9_readAggregate_b60 F T hM_X9_readExpr hM_X9_readConjunction hM_X9_readNegation hM_X9_readTest hM_X9_readSum hM_X9_readPart hM_X9_readSign hM_X9_readOne hM_X9_readCase hM_X9_readSpan hM_X9_readAggregate hM_X9_readList cs x0 v_1 v_5 v_6 i_11 cs9 h
        exact k9.trans hq
      · skip
        replace h := (if_neg c_13).symm.trans h
        replace h := ob h; obtain ⟨w_15, hw_15, h⟩ := h
        replace h := ob h; obtain ⟨cs_14, hv_14, h⟩ := h
        replace hq := (mo_c_X9_refuse F cs x0 7 v_6 cs_14 hv_14).trans hq
        obtain k9 := mo_c_X9_readAggregate_b60 F T hM_X9_readExpr hM_X9_readConjunction hM_X9_readNegation hM_X9_readTest hM_X9_readSum hM_X9_readPart hM_X9_readSign hM_X9_readOne hM_X9_readCase hM_X9_readSpan hM_X9_readAggregate hM_X9_readList cs_14 x0 v_1 v_5 v_6 i_11 cs9 h
        exact k9.trans hq
theorem mo_c_X9_readList_b72 (F : Nat) (T : TC_X9_readExpr) (hM_X9_readExpr : ∀ (cs : CS) (x0 : Nat) (cs9 : CS) (r9 : Int32), T.1 cs x0 = some (cs9, r9) → cs9.1 = cs.1) (hM_X9_readConjunction : ∀ (cs : CS) (x0 : Nat) (cs9 : CS), T.2.1 cs x0 = some cs9 → cs9.1 = cs.1) (hM_X9_readNegation : ∀ (cs : CS) (x0 : Nat) (cs9 : CS), T.2.2.1 cs x0 = some cs9 → cs9.1 = cs.1) (hM_X9_readTest : ∀ (cs : CS) (x0 : Nat) (cs9 : CS), T.2.2.2.1 cs x0 = some cs9 → cs9.1 = cs.1) (hM_X9_readSum : ∀ (cs : CS) (x0 : Nat) (cs9 : CS), T.2.2.2.2.1 cs x0 = some cs9 → cs9.1 = cs.1) (hM_X9_readPart : ∀ (cs : CS) (x0 : Nat) (cs9 : CS), T.2.2.2.2.2.1 cs x0 = some cs9 → cs9.1 = cs.1) (hM_X9_readSign : ∀ (cs : CS) (x0 : Nat) (cs9 : CS), T.2.2.2.2.2.2.1 cs x0 = some cs9 → cs9.1 = cs.1) (hM_X9_readOne : ∀ (cs : CS) (x0 : Nat) (cs9 : CS), T.2.2.2.2.2.2.2.1 cs x0 = some cs9 → cs9.1 = cs.1) (hM_X9_readCase : ∀ (cs : CS) (x0 : Nat) (cs9 : CS), T.2.2.2.2.2.2.2.2.1 cs x0 = some cs9 → cs9.1 = cs.1) (hM_X9_readSpan : ∀ (cs : CS) (x0 : Nat) (cs9 : CS), T.2.2.2.2.2.2.2.2.2.1 cs x0 = some cs9 → cs9.1 = cs.1) (hM_X9_readAggregate : ∀ (cs : CS) (x0 : Nat) (cs9 : CS), T.2.2.2.2.2.2.2.2.2.2.1 cs x0 = some cs9 → cs9.1 = cs.1) (hM_X9_readList : ∀ (cs : CS) (x0 : Nat) (x1 : Int32) (x2 : Int32) (x3 : Int32) (x4 : Int32) (cs9 : CS), T.2.2.2.2.2.2.2.2.2.2.2 cs x0 x1 x2 x3 x4 = some cs9 → cs9.1 = cs.1) (cs1 : CS) (u0 : Nat) (u1 : Int32) (u2 : Int32) (u3 : Int32) (u4 : Int32) (u5 : Int32) (cs9 : CS) (h : c_X9_readList_b72 F T cs1 u0 u1 u2 u3 u4 u5 = some cs9) : cs9.1 = cs1.1 := by
  unfold c_X9_readList_b72 at h
  have hq : cs1.1 = cs1.1 := rfl
  replace h := ob h; obtain ⟨w_2, hw_2, h⟩ := h
  replace h := ob h; obtain ⟨cs_1, hv_1, h⟩ := h
  replace hq := (mo_c_X9_expect F cs1 u0 42 cs_1 hv_1).trans hq
  replace h := ob h; obtain ⟨w_4, hw_4, h⟩ := h
  replace h := ob h; obtain ⟨z_3, hv_3, h⟩ := h
  replace hq := (mo_c_X9_complete F cs_1 u0 u1 u2 u3 u4 (u5 + 1) z_3.1 z_3.2 hv_3).trans hq
  have h9 := Option.some.inj h
  exact (congrArg (fun z => z.1) h9).symm.trans hq
theorem mo_c_X9_readList_b47 (F : Nat) (T : TC_X9_readExpr) (hM_X9_readExpr : ∀ (cs : CS) (x0 : Nat) (cs9 : CS) (r9 : Int32), T.1 cs x0 = some (cs9, r9) → cs9.1 = cs.1) (hM_X9_readConjunction : ∀ (cs : CS) (x0 : Nat) (cs9 : CS), T.2.1 cs x0 = some cs9 → cs9.1 = cs.1) (hM_X9_readNegation : ∀ (cs : CS) (x0 : Nat) (cs9 : CS), T.2.2.1 cs x0 = some cs9 → cs9.1 = cs.1) (hM_X9_readTest : ∀ (cs : CS) (x0 : Nat) (cs9 : CS), T.2.2.2.1 cs x0 = some cs9 → cs9.1 = cs.1) (hM_X9_readSum : ∀ (cs : CS) (x0 : Nat) (cs9 : CS), T.2.2.2.2.1 cs x0 = some cs9 → cs9.1 = cs.1) (hM_X9_readPart : ∀ (cs : CS) (x0 : Nat) (cs9 : CS), T.2.2.2.2.2.1 cs x0 = some cs9 → cs9.1 = cs.1) (hM_X9_readSign : ∀ (cs : CS) (x0 : Nat) (cs9 : CS), T.2.2.2.2.2.2.1 cs x0 = some cs9 → cs9.1 = cs.1) (hM_X9_readOne : ∀ (cs : CS) (x0 : Nat) (cs9 : CS), T.2.2.2.2.2.2.2.1 cs x0 = some cs9 → cs9.1 = cs.1) (hM_X9_readCase : ∀ (cs : CS) (x0 : Nat) (cs9 : CS), T.2.2.2.2.2.2.2.2.1 cs x0 = some cs9 → cs9.1 = cs.1) (hM_X9_readSpan : ∀ (cs : CS) (x0 : Nat) (cs9 : CS), T.2.2.2.2.2.2.2.2.2.1 cs x0 = some cs9 → cs9.1 = cs.1) (hM_X9_readAggregate : ∀ (cs : CS) (x0 : Nat) (cs9 : CS), T.2.2.2.2.2.2.2.2.2.2.1 cs x0 = some cs9 → cs9.1 = cs.1) (hM_X9_readList : ∀ (cs : CS) (x0 : Nat) (x1 : Int32) (x2 : Int32) (x3 : Int32) (x4 : Int32) (cs9 : CS), T.2.2.2.2.2.2.2.2.2.2.2 cs x0 x1 x2 x3 x4 = some cs9 → cs9.1 = cs.1) (rc21 : CS → Nat → Int32 → Int32 → Int32 → Int32 → Int32 → Int32 → Int32 → Option CS) (hrc21 : ∀ (cs1 : CS) (u0 : Nat) (u1 : Int32) (u2 : Int32) (u3 : Int32) (u4 : Int32) (u5 : Int32) (u6 : Int32) (u7 : Int32) (cs9 : CS), rc21 cs1 u0 u1 u2 u3 u4 u5 u6 u7 = some cs9 → cs9.1 = cs1.1) (cs1 : CS) (u0 : Nat) (u1 : Int32) (u2 : Int32) (u3 : Int32) (u4 : Int32) (u5 : Int32) (u7 : Int32) (y0 : Int32) (y1 : Nat) (cs9 : CS) (h : c_X9_readList_b47 F T rc21 cs1 u0 u1 u2 u3 u4 u5 u7 y0 y1 = some cs9) : cs9.1 = cs1.1 := by
  unfold c_X9_readList_b47 at h
  have hq : cs1.1 = cs1.1 := rfl
  replace h := ob h; obtain ⟨w_2, hw_2, h⟩ := h
  replace h := ob h; obtain ⟨cs_1, hv_1, h⟩ := h
  replace hq := (mo_c_X9_refuseNinth F cs1 y1 y0 0 cs_1 hv_1).trans hq
  replace h := ob h; obtain ⟨w_4, hw_4, h⟩ := h
  replace h := ob h; obtain ⟨cs_3, hv_3, h⟩ := h
  replace hq := (hM_X9_readSum cs_1 u0 cs_3 hv_3).trans hq
  replace h := ob h; obtain ⟨w_6, hw_6, h⟩ := h
  replace h := ob h; obtain ⟨z_5, hv_5, h⟩ := h
  replace hq := (mo_c_X9_accept F cs_3 u0 43 z_5.1 z_5.2 hv_5).trans hq
  obtain k9 := hrc21 z_5.1 u0 u1 u2 u3 u4 (u5 + 1) z_5.2 (u7 + 1) cs9 h
  exact k9.trans hq
theorem mo_c_X9_readList_L21 (F : Nat) (T : TC_X9_readExpr) (hM_X9_readExpr : ∀ (cs : CS) (x0 : Nat) (cs9 : CS) (r9 : Int32), T.1 cs x0 = some (cs9, r9) → cs9.1 = cs.1) (hM_X9_readConjunction : ∀ (cs : CS) (x0 : Nat) (cs9 : CS), T.2.1 cs x0 = some cs9 → cs9.1 = cs.1) (hM_X9_readNegation : ∀ (cs : CS) (x0 : Nat) (cs9 : CS), T.2.2.1 cs x0 = some cs9 → cs9.1 = cs.1) (hM_X9_readTest : ∀ (cs : CS) (x0 : Nat) (cs9 : CS), T.2.2.2.1 cs x0 = some cs9 → cs9.1 = cs.1) (hM_X9_readSum : ∀ (cs : CS) (x0 : Nat) (cs9 : CS), T.2.2.2.2.1 cs x0 = some cs9 → cs9.1 = cs.1) (hM_X9_readPart : ∀ (cs : CS) (x0 : Nat) (cs9 : CS), T.2.2.2.2.2.1 cs x0 = some cs9 → cs9.1 = cs.1) (hM_X9_readSign : ∀ (cs : CS) (x0 : Nat) (cs9 : CS), T.2.2.2.2.2.2.1 cs x0 = some cs9 → cs9.1 = cs.1) (hM_X9_readOne : ∀ (cs : CS) (x0 : Nat) (cs9 : CS), T.2.2.2.2.2.2.2.1 cs x0 = some cs9 → cs9.1 = cs.1) (hM_X9_readCase : ∀ (cs : CS) (x0 : Nat) (cs9 : CS), T.2.2.2.2.2.2.2.2.1 cs x0 = some cs9 → cs9.1 = cs.1) (hM_X9_readSpan : ∀ (cs : CS) (x0 : Nat) (cs9 : CS), T.2.2.2.2.2.2.2.2.2.1 cs x0 = some cs9 → cs9.1 = cs.1) (hM_X9_readAggregate : ∀ (cs : CS) (x0 : Nat) (cs9 : CS), T.2.2.2.2.2.2.2.2.2.2.1 cs x0 = some cs9 → cs9.1 = cs.1) (hM_X9_readList : ∀ (cs : CS) (x0 : Nat) (x1 : Int32) (x2 : Int32) (x3 : Int32) (x4 : Int32) (cs9 : CS), T.2.2.2.2.2.2.2.2.2.2.2 cs x0 x1 x2 x3 x4 = some cs9 → cs9.1 = cs.1) : ∀ (lf_21 : Nat) (cs1 : CS) (u0 : Nat) (u1 : Int32) (u2 : Int32) (u3 : Int32) (u4 : Int32) (u5 : Int32) (u6 : Int32) (u7 : Int32) (cs9 : CS), c_X9_readList_L21 F T lf_21 cs1 u0 u1 u2 u3 u4 u5 u6 u7 = some cs9 → cs9.1 = cs1.1 := by
  intro lf_21
  induction lf_21 with
  | zero => intro cs1 u0 u1 u2 u3 u4 u5 u6 u7 cs9 h; cases (show (none : Option CS) = _ from h)
  | succ lf_21 ih_21 =>
    intro cs1 u0 u1 u2 u3 u4 u5 u6 u7 cs9 h
    rw [c_X9_readList_L21] at h
    have hq : cs1.1 = cs1.1 := rfl
    by_cases c_1 : 2000 ≤ u7
    · skip
      replace h := (if_pos c_1).symm.trans h
      obtain k9 := mo_c_X9_readList_b72 F T hM_X9_readExpr hM_X9_readConjunction hM_X9_readNegation hM_X9_readTest hM_X9_readSum hM_X9_readPart hM_X9_readSign hM_X9_readOne hM_X9_readCase hM_X9_readSpan hM_X9_readAggregate hM_X9_readList cs1 u0 u1 u2 u3 u4 u5 cs9 h
      exact k9.trans hq
    · skip
      replace h := (if_neg c_1).symm.trans h
      by_cases c_2 : u6 = 0
      · skip
        replace h := (if_pos c_2).symm.trans h
        obtain k9 := mo_c_X9_readList_b72 F T hM_X9_readExpr hM_X9_readConjunction hM_X9_readNegation hM_X9_readTest hM_X9_readSum hM_X9_readPart hM_X9_readSign hM_X9_readOne hM_X9_readCase hM_X9_readSpan hM_X9_readAggregate hM_X9_readList cs1 u0 u1 u2 u3 u4 u5 cs9 h
        exact k9.trans hq
      · skip
        replace h := (if_neg c_2).symm.trans h
        by_cases c_3 : u5 < 8
        · skip
          replace h := (if_pos c_3).symm.trans h
          obtain k9 := mo_c_X9_readList_b47 F T hM_X9_readExpr hM_X9_readConjunction hM_X9_readNegation hM_X9_readTest hM_X9_readSum hM_X9_readPart hM_X9_readSign hM_X9_readOne hM_X9_readCase hM_X9_readSpan hM_X9_readAggregate hM_X9_readList (c_X9_readList_L21 F T lf_21) ih_21 cs1 u0 u1 u2 u3 u4 u5 u7 0 u0 cs9 h
          exact k9.trans hq
        · skip
          replace h := (if_neg c_3).symm.trans h
          obtain k9 := mo_c_X9_readList_b47 F T hM_X9_readExpr hM_X9_readConjunction hM_X9_readNegation hM_X9_readTest hM_X9_readSum hM_X9_readPart hM_X9_readSign hM_X9_readOne hM_X9_readCase hM_X9_readSpan hM_X9_readAggregate hM_X9_readList (c_X9_readList_L21 F T lf_21) ih_21 cs1 u0 u1 u2 u3 u4 u5 u7 1 u0 cs9 h
          exact k9.trans hq
theorem mo_cb_X9_readList (F : Nat) (T : TC_X9_readExpr) (hM_X9_readExpr : ∀ (cs : CS) (x0 : Nat) (cs9 : CS) (r9 : Int32), T.1 cs x0 = some (cs9, r9) → cs9.1 = cs.1) (hM_X9_readConjunction : ∀ (cs : CS) (x0 : Nat) (cs9 : CS), T.2.1 cs x0 = some cs9 → cs9.1 = cs.1) (hM_X9_readNegation : ∀ (cs : CS) (x0 : Nat) (cs9 : CS), T.2.2.1 cs x0 = some cs9 → cs9.1 = cs.1) (hM_X9_readTest : ∀ (cs : CS) (x0 : Nat) (cs9 : CS), T.2.2.2.1 cs x0 = some cs9 → cs9.1 = cs.1) (hM_X9_readSum : ∀ (cs : CS) (x0 : Nat) (cs9 : CS), T.2.2.2.2.1 cs x0 = some cs9 → cs9.1 = cs.1) (hM_X9_readPart : ∀ (cs : CS) (x0 : Nat) (cs9 : CS), T.2.2.2.2.2.1 cs x0 = some cs9 → cs9.1 = cs.1) (hM_X9_readSign : ∀ (cs : CS) (x0 : Nat) (cs9 : CS), T.2.2.2.2.2.2.1 cs x0 = some cs9 → cs9.1 = cs.1) (hM_X9_readOne : ∀ (cs : CS) (x0 : Nat) (cs9 : CS), T.2.2.2.2.2.2.2.1 cs x0 = some cs9 → cs9.1 = cs.1) (hM_X9_readCase : ∀ (cs : CS) (x0 : Nat) (cs9 : CS), T.2.2.2.2.2.2.2.2.1 cs x0 = some cs9 → cs9.1 = cs.1) (hM_X9_readSpan : ∀ (cs : CS) (x0 : Nat) (cs9 : CS), T.2.2.2.2.2.2.2.2.2.1 cs x0 = some cs9 → cs9.1 = cs.1) (hM_X9_readAggregate : ∀ (cs : CS) (x0 : Nat) (cs9 : CS), T.2.2.2.2.2.2.2.2.2.2.1 cs x0 = some cs9 → cs9.1 = cs.1) (hM_X9_readList : ∀ (cs : CS) (x0 : Nat) (x1 : Int32) (x2 : Int32) (x3 : Int32) (x4 : Int32) (cs9 : CS), T.2.2.2.2.2.2.2.2.2.2.2 cs x0 x1 x2 x3 x4 = some cs9 → cs9.1 = cs.1) (cs : CS) (x0 : Nat) (x1 : Int32) (x2 : Int32) (x3 : Int32) (x4 : Int32) (cs9 : CS) (h : cb_X9_readList F T cs x0 x1 x2 x3 x4 = some cs9) : cs9.1 = cs.1 := by
  unfold cb_X9_readList at h
  have hq : cs.1 = cs.1 := rfl
  replace h := ob h; obtain ⟨w_2, hw_2, h⟩ := h
  replace h := ob h; obtain ⟨cs_1, hv_1, h⟩ := h
  replace hq := (mo_c_X9_expect F cs x0 27 cs_1 hv_1).trans hq
  replace h := ob h; obtain ⟨w_4, hw_4, h⟩ := h
  replace h := ob h; obtain ⟨cs_3, hv_3, h⟩ := h
  replace hq := (mo_c_X9_expect F cs_1 x0 41 cs_3 hv_3).trans hq
  obtain k9 := mo_c_X9_readList_L21 F T hM_X9_readExpr hM_X9_readConjunction hM_X9_readNegation hM_X9_readTest hM_X9_readSum hM_X9_readPart hM_X9_readSign hM_X9_readOne hM_X9_readCase hM_X9_readSpan hM_X9_readAggregate hM_X9_readList F cs_3 x0 x1 x2 x3 x4 0 1 0 cs9 h
  exact k9.trans hq
theorem mog_X9_readExpr (F : Nat) : ∀ n : Nat, (∀ (cs : CS) (x0 : Nat) (cs9 : CS) (r9 : Int32), (tabc_X9_readExpr F n).1 cs x0 = some (cs9, r9) → cs9.1 = cs.1) ∧ (∀ (cs : CS) (x0 : Nat) (cs9 : CS), (tabc_X9_readExpr F n).2.1 cs x0 = some cs9 → cs9.1 = cs.1) ∧ (∀ (cs : CS) (x0 : Nat) (cs9 : CS), (tabc_X9_readExpr F n).2.2.1 cs x0 = some cs9 → cs9.1 = cs.1) ∧ (∀ (cs : CS) (x0 : Nat) (cs9 : CS), (tabc_X9_readExpr F n).2.2.2.1 cs x0 = some cs9 → cs9.1 = cs.1) ∧ (∀ (cs : CS) (x0 : Nat) (cs9 : CS), (tabc_X9_readExpr F n).2.2.2.2.1 cs x0 = some cs9 → cs9.1 = cs.1) ∧ (∀ (cs : CS) (x0 : Nat) (cs9 : CS), (tabc_X9_readExpr F n).2.2.2.2.2.1 cs x0 = some cs9 → cs9.1 = cs.1) ∧ (∀ (cs : CS) (x0 : Nat) (cs9 : CS), (tabc_X9_readExpr F n).2.2.2.2.2.2.1 cs x0 = some cs9 → cs9.1 = cs.1) ∧ (∀ (cs : CS) (x0 : Nat) (cs9 : CS), (tabc_X9_readExpr F n).2.2.2.2.2.2.2.1 cs x0 = some cs9 → cs9.1 = cs.1) ∧ (∀ (cs : CS) (x0 : Nat) (cs9 : CS), (tabc_X9_readExpr F n).2.2.2.2.2.2.2.2.1 cs x0 = some cs9 → cs9.1 = cs.1) ∧ (∀ (cs : CS) (x0 : Nat) (cs9 : CS), (tabc_X9_readExpr F n).2.2.2.2.2.2.2.2.2.1 cs x0 = some cs9 → cs9.1 = cs.1) ∧ (∀ (cs : CS) (x0 : Nat) (cs9 : CS), (tabc_X9_readExpr F n).2.2.2.2.2.2.2.2.2.2.1 cs x0 = some cs9 → cs9.1 = cs.1) ∧ (∀ (cs : CS) (x0 : Nat) (x1 : Int32) (x2 : Int32) (x3 : Int32) (x4 : Int32) (cs9 : CS), (tabc_X9_readExpr F n).2.2.2.2.2.2.2.2.2.2.2 cs x0 x1 x2 x3 x4 = some cs9 → cs9.1 = cs.1) := by
  intro n
  induction n with
  | zero => exact ⟨fun _ _ _ _ h => (by cases (show (none : Option (CS × Int32)) = _ from h)), fun _ _ _ h => (by cases (show (none : Option CS) = _ from h)), fun _ _ _ h => (by cases (show (none : Option CS) = _ from h)), fun _ _ _ h => (by cases (show (none : Option CS) = _ from h)), fun _ _ _ h => (by cases (show (none : Option CS) = _ from h)), fun _ _ _ h => (by cases (show (none : Option CS) = _ from h)), fun _ _ _ h => (by cases (show (none : Option CS) = _ from h)), fun _ _ _ h => (by cases (show (none : Option CS) = _ from h)), fun _ _ _ h => (by cases (show (none : Option CS) = _ from h)), fun _ _ _ h => (by cases (show (none : Option CS) = _ from h)), fun _ _ _ h => (by cases (show (none : Option CS) = _ from h)), fun _ _ _ _ _ _ _ h => (by cases (show (none : Option CS) = _ from h))⟩
  | succ n ih =>
    obtain ⟨hh0, hh1, hh2, hh3, hh4, hh5, hh6, hh7, hh8, hh9, hh10, hh11⟩ := ih
    exact ⟨fun cs w0 w1 w2 h => mo_cb_X9_readExpr F (tabc_X9_readExpr F n) hh0 hh1 hh2 hh3 hh4 hh5 hh6 hh7 hh8 hh9 hh10 hh11 cs w0 w1 w2 h, fun cs w0 w1 h => mo_cb_X9_readConjunction F (tabc_X9_readExpr F n) hh0 hh1 hh2 hh3 hh4 hh5 hh6 hh7 hh8 hh9 hh10 hh11 cs w0 w1 h, fun cs w0 w1 h => mo_cb_X9_readNegation F (tabc_X9_readExpr F n) hh0 hh1 hh2 hh3 hh4 hh5 hh6 hh7 hh8 hh9 hh10 hh11 cs w0 w1 h, fun cs w0 w1 h => mo_cb_X9_readTest F (tabc_X9_readExpr F n) hh0 hh1 hh2 hh3 hh4 hh5 hh6 hh7 hh8 hh9 hh10 hh11 cs w0 w1 h, fun cs w0 w1 h => mo_cb_X9_readSum F (tabc_X9_readExpr F n) hh0 hh1 hh2 hh3 hh4 hh5 hh6 hh7 hh8 hh9 hh10 hh11 cs w0 w1 h, fun cs w0 w1 h => mo_cb_X9_readPart F (tabc_X9_readExpr F n) hh0 hh1 hh2 hh3 hh4 hh5 hh6 hh7 hh8 hh9 hh10 hh11 cs w0 w1 h, fun cs w0 w1 h => mo_cb_X9_readSign F (tabc_X9_readExpr F n) hh0 hh1 hh2 hh3 hh4 hh5 hh6 hh7 hh8 hh9 hh10 hh11 cs w0 w1 h, fun cs w0 w1 h => mo_cb_X9_readOne F (tabc_X9_readExpr F n) hh0 hh1 hh2 hh3 hh4 hh5 hh6 hh7 hh8 hh9 hh10 hh11 cs w0 w1 h, fun cs w0 w1 h => mo_cb_X9_readCase F (tabc_X9_readExpr F n) hh0 hh1 hh2 hh3 hh4 hh5 hh6 hh7 hh8 hh9 hh10 hh11 cs w0 w1 h, fun cs w0 w1 h => mo_cb_X9_readSpan F (tabc_X9_readExpr F n) hh0 hh1 hh2 hh3 hh4 hh5 hh6 hh7 hh8 hh9 hh10 hh11 cs w0 w1 h, fun cs w0 w1 h => mo_cb_X9_readAggregate F (tabc_X9_readExpr F n) hh0 hh1 hh2 hh3 hh4 hh5 hh6 hh7 hh8 hh9 hh10 hh11 cs w0 w1 h, fun cs w0 w1 w2 w3 w4 w5 h => mo_cb_X9_readList F (tabc_X9_readExpr F n) hh0 hh1 hh2 hh3 hh4 hh5 hh6 hh7 hh8 hh9 hh10 hh11 cs w0 w1 w2 w3 w4 w5 h⟩
theorem mo_c_X9_readExpr (F n : Nat) (cs : CS) (x0 : Nat) (cs9 : CS) (r9 : Int32) (h : c_X9_readExpr F n cs x0 = some (cs9, r9)) : cs9.1 = cs.1 := (mog_X9_readExpr F n).1 cs x0 cs9 r9 h
theorem mo_c_X9_readConjunction (F n : Nat) (cs : CS) (x0 : Nat) (cs9 : CS) (h : c_X9_readConjunction F n cs x0 = some cs9) : cs9.1 = cs.1 := (mog_X9_readExpr F n).2.1 cs x0 cs9 h
theorem mo_c_X9_readNegation (F n : Nat) (cs : CS) (x0 : Nat) (cs9 : CS) (h : c_X9_readNegation F n cs x0 = some cs9) : cs9.1 = cs.1 := (mog_X9_readExpr F n).2.2.1 cs x0 cs9 h
theorem mo_c_X9_readTest (F n : Nat) (cs : CS) (x0 : Nat) (cs9 : CS) (h : c_X9_readTest F n cs x0 = some cs9) : cs9.1 = cs.1 := (mog_X9_readExpr F n).2.2.2.1 cs x0 cs9 h
theorem mo_c_X9_readSum (F n : Nat) (cs : CS) (x0 : Nat) (cs9 : CS) (h : c_X9_readSum F n cs x0 = some cs9) : cs9.1 = cs.1 := (mog_X9_readExpr F n).2.2.2.2.1 cs x0 cs9 h
theorem mo_c_X9_readPart (F n : Nat) (cs : CS) (x0 : Nat) (cs9 : CS) (h : c_X9_readPart F n cs x0 = some cs9) : cs9.1 = cs.1 := (mog_X9_readExpr F n).2.2.2.2.2.1 cs x0 cs9 h
theorem mo_c_X9_readSign (F n : Nat) (cs : CS) (x0 : Nat) (cs9 : CS) (h : c_X9_readSign F n cs x0 = some cs9) : cs9.1 = cs.1 := (mog_X9_readExpr F n).2.2.2.2.2.2.1 cs x0 cs9 h
theorem mo_c_X9_readOne (F n : Nat) (cs : CS) (x0 : Nat) (cs9 : CS) (h : c_X9_readOne F n cs x0 = some cs9) : cs9.1 = cs.1 := (mog_X9_readExpr F n).2.2.2.2.2.2.2.1 cs x0 cs9 h
theorem mo_c_X9_readCase (F n : Nat) (cs : CS) (x0 : Nat) (cs9 : CS) (h : c_X9_readCase F n cs x0 = some cs9) : cs9.1 = cs.1 := (mog_X9_readExpr F n).2.2.2.2.2.2.2.2.1 cs x0 cs9 h
theorem mo_c_X9_readSpan (F n : Nat) (cs : CS) (x0 : Nat) (cs9 : CS) (h : c_X9_readSpan F n cs x0 = some cs9) : cs9.1 = cs.1 := (mog_X9_readExpr F n).2.2.2.2.2.2.2.2.2.1 cs x0 cs9 h
theorem mo_c_X9_readAggregate (F n : Nat) (cs : CS) (x0 : Nat) (cs9 : CS) (h : c_X9_readAggregate F n cs x0 = some cs9) : cs9.1 = cs.1 := (mog_X9_readExpr F n).2.2.2.2.2.2.2.2.2.2.1 cs x0 cs9 h
theorem mo_c_X9_readList (F n : Nat) (cs : CS) (x0 : Nat) (x1 : Int32) (x2 : Int32) (x3 : Int32) (x4 : Int32) (cs9 : CS) (h : c_X9_readList F n cs x0 x1 x2 x3 x4 = some cs9) : cs9.1 = cs.1 := (mog_X9_readExpr F n).2.2.2.2.2.2.2.2.2.2.2 cs x0 x1 x2 x3 x4 cs9 h
theorem mo_c_X9_readName (F : Nat) (cs : CS) (x0 : Nat) (cs9 : CS) (r9 : Int64) (h : c_X9_readName F cs x0 = some (cs9, r9)) : cs9.1 = cs.1 := by
  unfold c_X9_readName at h
  have hq : cs.1 = cs.1 := rfl
  replace h := ob h; obtain ⟨w_2, hw_2, h⟩ := h
  replace h := ob h; obtain ⟨v_1, hv_1, h⟩ := h
  replace h := ob h; obtain ⟨w_4, hw_4, h⟩ := h
  replace h := ob h; obtain ⟨cs_3, hv_3, h⟩ := h
  replace hq := (mo_c_X9_expect F cs x0 39 cs_3 hv_3).trans hq
  have h9 := (Prod.mk.inj (Option.some.inj h)).1
  exact (congrArg (fun z => z.1) h9).symm.trans hq
theorem mo_c_X9_readItem_b91 (F : Nat) (cs1 : CS) (u1 : Nat) (u3 : Int32) (u4 : Int64) (cs9 : CS) (h : c_X9_readItem_b91 F cs1 u1 u3 u4 = some cs9) : cs9.1 = cs1.1 := by
  unfold c_X9_readItem_b91 at h
  have hq : cs1.1 = cs1.1 := rfl
  replace h := ob h; obtain ⟨w_2, hw_2, h⟩ := h
  replace h := ob h; obtain ⟨cs_1, hv_1, h⟩ := h
  replace hq := (mo_c_X2_add F cs1 u1 u3 u4 0 1 cs_1 hv_1).trans hq
  have h9 := Option.some.inj h
  exact (congrArg (fun z => z.1) h9).symm.trans hq
theorem mo_c_X9_readItem (F : Nat) (cs : CS) (x0 : Nat) (x1 : Nat) (cs9 : CS) (h : c_X9_readItem F cs x0 x1 = some cs9) : cs9.1 = cs.1 := by
  unfold c_X9_readItem at h
  have hq : cs.1 = cs.1 := rfl
  replace h := ob h; obtain ⟨w_2, hw_2, h⟩ := h
  replace h := ob h; obtain ⟨v_1, hv_1, h⟩ := h
  replace h := ob h; obtain ⟨w_4, hw_4, h⟩ := h
  replace h := ob h; obtain ⟨cs_3, hv_3, h⟩ := h
  replace hq := (mo_c_X9_refuseNinth F cs x0 v_1 1 cs_3 hv_3).trans hq
  replace h := ob h; obtain ⟨w_6, hw_6, h⟩ := h
  replace h := ob h; obtain ⟨v_5, hv_5, h⟩ := h
  replace h := ob h; obtain ⟨w_8, hw_8, h⟩ := h
  replace h := ob h; obtain ⟨z_7, hv_7, h⟩ := h
  replace hq := (mo_c_X9_readExpr F 300 cs_3 x0 z_7.1 z_7.2 hv_7).trans hq
  replace h := ob h; obtain ⟨w_10, hw_10, h⟩ := h
  replace h := ob h; obtain ⟨z_9, hv_9, h⟩ := h
  replace hq := (mo_c_X9_accept F z_7.1 x0 17 z_9.1 z_9.2 hv_9).trans hq
  by_cases c_11 : z_9.2 = 0
  · skip
    replace h := (if_pos c_11).symm.trans h
    replace h := ob h; obtain ⟨v_12, hv_12, h⟩ := h
    replace h := ob h; obtain ⟨i_14, hi_14, h⟩ := h
    subst hi_14
    replace h := ob h; obtain ⟨w_15, hw_15, h⟩ := h
    replace h := ob h; obtain ⟨v_13, hv_13, h⟩ := h
    by_cases c_16 : v_13 = 0
    · skip
      replace h := (if_pos c_16).symm.trans h
      obtain k9 := mo_c_X9_readItem_b91 F z_9.1 x1 z_7.2 (-1) cs9 h
      exact k9.trans hq
    · skip
      replace h := (if_neg c_16).symm.trans h
      replace h := ob h; obtain ⟨v_17, hv_17, h⟩ := h
      replace h := ob h; obtain ⟨i_18, hi_18, h⟩ := h
      subst hi_18
      replace h := ob h; obtain ⟨v_19, hv_19, h⟩ := h
      replace h := ob h; obtain ⟨v_20, hv_20, h⟩ := h
      by_cases c_21 : v_20 = 39
      · skip
        replace h := (if_pos c_21).symm.trans h
        replace h := ob h; obtain ⟨v_22, hv_22, h⟩ := h
        replace h := ob h; obtain ⟨i_23, hi_23, h⟩ := h
        subst hi_23
        replace h := ob h; obtain ⟨v_24, hv_24, h⟩ := h
        replace h := ob h; obtain ⟨v_25, hv_25, h⟩ := h
        by_cases c_26 : v_25 = v_5
        · skip
          replace h := (if_pos c_26).symm.trans h
          replace h := ob h; obtain ⟨v_27, hv_27, h⟩ := h
          replace h := ob h; obtain ⟨i_28, hi_28, h⟩ := h
          subst hi_28
          replace h := ob h; obtain ⟨v_29, hv_29, h⟩ := h
          replace h := ob h; obtain ⟨v_30, hv_30, h⟩ := h
          obtain k9 := mo_c_X9_readItem_b91 F z_9.1 x1 z_7.2 v_30 cs9 h
          exact k9.trans hq
        · skip
          replace h := (if_neg c_26).symm.trans h
          obtain k9 := mo_c_X9_readItem_b91 F z_9.1 x1 z_7.2 (-1) cs9 h
          exact k9.trans hq
      · skip
        replace h := (if_neg c_21).symm.trans h
        obtain k9 := mo_c_X9_readItem_b91 F z_9.1 x1 z_7.2 (-1) cs9 h
        exact k9.trans hq
  · skip
    replace h := (if_neg c_11).symm.trans h
    replace h := ob h; obtain ⟨w_32, hw_32, h⟩ := h
    replace h := ob h; obtain ⟨z_31, hv_31, h⟩ := h
    replace hq := (mo_c_X9_readName F z_9.1 x0 z_31.1 z_31.2 hv_31).trans hq
    obtain k9 := mo_c_X9_readItem_b91 F z_31.1 x1 z_7.2 z_31.2 cs9 h
    exact k9.trans hq
theorem mo_c_X9_readLeaf_b105 (F : Nat) (cs1 : CS) (cs9 : CS) (h : c_X9_readLeaf_b105 F cs1 = some cs9) : cs9.1 = cs1.1 := by
  unfold c_X9_readLeaf_b105 at h
  have hq : cs1.1 = cs1.1 := rfl
  have h9 := Option.some.inj h
  exact (congrArg (fun z => z.1) h9).symm.trans hq
theorem mo_c_X9_readLeaf_b32 (F : Nat) (cs1 : CS) (u0 : Nat) (cs9 : CS) (h : c_X9_readLeaf_b32 F cs1 u0 = some cs9) : cs9.1 = cs1.1 := by
  unfold c_X9_readLeaf_b32 at h
  have hq : cs1.1 = cs1.1 := rfl
  replace h := ob h; obtain ⟨w_2, hw_2, h⟩ := h
  replace h := ob h; obtain ⟨v_1, hv_1, h⟩ := h
  replace h := ob h; obtain ⟨w_4, hw_4, h⟩ := h
  replace h := ob h; obtain ⟨cs_3, hv_3, h⟩ := h
  replace hq := (mo_c_X9_refuse F cs1 u0 1 v_1 cs_3 hv_3).trans hq
  obtain k9 := mo_c_X9_readLeaf_b105 F cs_3 cs9 h
  exact k9.trans hq
theorem mo_c_X9_readLeaf (F : Nat) (cs : CS) (x0 : Nat) (x1 : Nat) (cs9 : CS) (h : c_X9_readLeaf F cs x0 x1 = some cs9) : cs9.1 = cs.1 := by
  unfold c_X9_readLeaf at h
  have hq : cs.1 = cs.1 := rfl
  replace h := ob h; obtain ⟨w_2, hw_2, h⟩ := h
  replace h := ob h; obtain ⟨v_1, hv_1, h⟩ := h
  replace h := ob h; obtain ⟨w_4, hw_4, h⟩ := h
  replace h := ob h; obtain ⟨v_3, hv_3, h⟩ := h
  by_cases c_5 : v_3 = 39
  · skip
    replace h := (if_pos c_5).symm.trans h
    by_cases c_6 : (v_1 - (730)) < 0
    · skip
      replace h := (if_pos c_6).symm.trans h
      obtain k9 := mo_c_X9_readLeaf_b32 F cs x0 cs9 h
      exact k9.trans hq
    · skip
      replace h := (if_neg c_6).symm.trans h
      by_cases c_7 : (v_1 - (730)) ≤ (9)
      · skip
        replace h := (if_pos c_7).symm.trans h
        replace h := ob h; obtain ⟨v_8, hv_8, h⟩ := h
        replace h := ob h; obtain ⟨v_9, hv_9, h⟩ := h
        replace h := ob h; obtain ⟨v_10, hv_10, h⟩ := h
        by_cases c_11 : v_8 < v_10
        · skip
          replace h := (if_pos c_11).symm.trans h
          replace h := ob h; obtain ⟨cs_12, hv_12, h⟩ := h
          replace hq := (pI_1 hv_12).trans hq
          replace h := ob h; obtain ⟨v_13, hv_13, h⟩ := h
          replace h := ob h; obtain ⟨v_14, hv_14, h⟩ := h
          replace h := ob h; obtain ⟨w_15, hw_15, h⟩ := h
          replace h := ob h; obtain ⟨cs_15, hv_15, h⟩ := h
          replace hq := (wQ_1 hv_15).trans hq
          replace h := ob h; obtain ⟨v_16, hv_16, h⟩ := h
          replace h := ob h; obtain ⟨cs_17, hv_17, h⟩ := h
          replace hq := (pI_1 hv_17).trans hq
          replace h := ob h; obtain ⟨v_18, hv_18, h⟩ := h
          replace h := ob h; obtain ⟨cs_19, hv_19, h⟩ := h
          replace hq := (pI_1 hv_19).trans hq
          obtain k9 := mo_c_X9_readLeaf_b105 F cs_19 cs9 h
          exact k9.trans hq
        · skip
          replace h := (if_neg c_11).symm.trans h
          replace h := ob h; obtain ⟨w_21, hw_21, h⟩ := h
          replace h := ob h; obtain ⟨v_20, hv_20, h⟩ := h
          replace h := ob h; obtain ⟨w_23, hw_23, h⟩ := h
          replace h := ob h; obtain ⟨cs_22, hv_22, h⟩ := h
          replace hq := (mo_c_X9_refuse F cs x0 7 v_20 cs_22 hv_22).trans hq
          obtain k9 := mo_c_X9_readLeaf_b105 F cs_22 cs9 h
          exact k9.trans hq
      · skip
        replace h := (if_neg c_7).symm.trans h
        obtain k9 := mo_c_X9_readLeaf_b32 F cs x0 cs9 h
        exact k9.trans hq
  · skip
    replace h := (if_neg c_5).symm.trans h
    obtain k9 := mo_c_X9_readLeaf_b32 F cs x0 cs9 h
    exact k9.trans hq
theorem mo_c_X9_readNumber_b29 (F : Nat) (cs1 : CS) (u0 : Nat) (u3 : Int64) (cs9 : CS) (r9 : Int64) (h : c_X9_readNumber_b29 F cs1 u0 u3 = some (cs9, r9)) : cs9.1 = cs1.1 := by
  unfold c_X9_readNumber_b29 at h
  have hq : cs1.1 = cs1.1 := rfl
  replace h := ob h; obtain ⟨w_2, hw_2, h⟩ := h
  replace h := ob h; obtain ⟨cs_1, hv_1, h⟩ := h
  replace hq := (mo_c_X9_expect F cs1 u0 40 cs_1 hv_1).trans hq
  have h9 := (Prod.mk.inj (Option.some.inj h)).1
  exact (congrArg (fun z => z.1) h9).symm.trans hq
theorem mo_c_X9_readNumber (F : Nat) (cs : CS) (x0 : Nat) (x1 : Int64) (cs9 : CS) (r9 : Int64) (h : c_X9_readNumber F cs x0 x1 = some (cs9, r9)) : cs9.1 = cs.1 := by
  unfold c_X9_readNumber at h
  have hq : cs.1 = cs.1 := rfl
  replace h := ob h; obtain ⟨w_2, hw_2, h⟩ := h
  replace h := ob h; obtain ⟨v_1, hv_1, h⟩ := h
  replace h := ob h; obtain ⟨w_4, hw_4, h⟩ := h
  replace h := ob h; obtain ⟨v_3, hv_3, h⟩ := h
  by_cases c_5 : v_3 = 40
  · skip
    replace h := (if_pos c_5).symm.trans h
    by_cases c_6 : v_1 ≤ x1
    · skip
      replace h := (if_pos c_6).symm.trans h
      obtain k9 := mo_c_X9_readNumber_b29 F cs x0 v_1 cs9 r9 h
      exact k9.trans hq
    · skip
      replace h := (if_neg c_6).symm.trans h
      replace h := ob h; obtain ⟨w_8, hw_8, h⟩ := h
      replace h := ob h; obtain ⟨v_7, hv_7, h⟩ := h
      replace h := ob h; obtain ⟨w_10, hw_10, h⟩ := h
      replace h := ob h; obtain ⟨cs_9, hv_9, h⟩ := h
      replace hq := (mo_c_X9_refuse F cs x0 1 v_7 cs_9 hv_9).trans hq
      obtain k9 := mo_c_X9_readNumber_b29 F cs_9 x0 v_1 cs9 r9 h
      exact k9.trans hq
  · skip
    replace h := (if_neg c_5).symm.trans h
    obtain k9 := mo_c_X9_readNumber_b29 F cs x0 v_1 cs9 r9 h
    exact k9.trans hq
theorem mo_c_X9_addSource_b32 (F : Nat) (cs1 : CS) (cs9 : CS) (h : c_X9_addSource_b32 F cs1 = some cs9) : cs9.1 = cs1.1 := by
  unfold c_X9_addSource_b32 at h
  have hq : cs1.1 = cs1.1 := rfl
  have h9 := Option.some.inj h
  exact (congrArg (fun z => z.1) h9).symm.trans hq
theorem mo_c_X9_addSource (F : Nat) (cs : CS) (x0 : Nat) (x1 : Nat) (cs9 : CS) (h : c_X9_addSource F cs x0 x1 = some cs9) : cs9.1 = cs.1 := by
  unfold c_X9_addSource at h
  have hq : cs.1 = cs.1 := rfl
  replace h := ob h; obtain ⟨v_1, hv_1, h⟩ := h
  replace h := ob h; obtain ⟨v_2, hv_2, h⟩ := h
  replace h := ob h; obtain ⟨v_3, hv_3, h⟩ := h
  by_cases c_4 : v_3 ≤ v_1
  · skip
    replace h := (if_pos c_4).symm.trans h
    obtain k9 := mo_c_X9_addSource_b32 F cs cs9 h
    exact k9.trans hq
  · skip
    replace h := (if_neg c_4).symm.trans h
    replace h := ob h; obtain ⟨v_5, hv_5, h⟩ := h
    replace h := ob h; obtain ⟨v_6, hv_6, h⟩ := h
    replace h := ob h; obtain ⟨w_7, hw_7, h⟩ := h
    replace h := ob h; obtain ⟨cs_7, hv_7, h⟩ := h
    replace hq := (wQ_1 hv_7).trans hq
    replace h := ob h; obtain ⟨v_8, hv_8, h⟩ := h
    replace h := ob h; obtain ⟨cs_9, hv_9, h⟩ := h
    replace hq := (pI_1 hv_9).trans hq
    obtain k9 := mo_c_X9_addSource_b32 F cs_9 cs9 h
    exact k9.trans hq
theorem mo_c_X9_readGroups_b99 (F : Nat) (cs1 : CS) (cs9 : CS) (h : c_X9_readGroups_b99 F cs1 = some cs9) : cs9.1 = cs1.1 := by
  unfold c_X9_readGroups_b99 at h
  have hq : cs1.1 = cs1.1 := rfl
  have h9 := Option.some.inj h
  exact (congrArg (fun z => z.1) h9).symm.trans hq
theorem mo_c_X9_readGroups_L29 (F : Nat) : ∀ (lf_29 : Nat) (cs1 : CS) (u0 : Nat) (u1 : Nat) (u2 : Int32) (u3 : Int32) (cs9 : CS), c_X9_readGroups_L29 F lf_29 cs1 u0 u1 u2 u3 = some cs9 → cs9.1 = cs1.1 := by
  intro lf_29
  induction lf_29 with
  | zero => intro cs1 u0 u1 u2 u3 cs9 h; cases (show (none : Option CS) = _ from h)
  | succ lf_29 ih_29 =>
    intro cs1 u0 u1 u2 u3 cs9 h
    rw [c_X9_readGroups_L29] at h
    have hq : cs1.1 = cs1.1 := rfl
    by_cases c_1 : 2000 ≤ u3
    · skip
      replace h := (if_pos c_1).symm.trans h
      obtain k9 := mo_c_X9_readGroups_b99 F cs1 cs9 h
      exact k9.trans hq
    · skip
      replace h := (if_neg c_1).symm.trans h
      by_cases c_2 : u2 = 0
      · skip
        replace h := (if_pos c_2).symm.trans h
        obtain k9 := mo_c_X9_readGroups_b99 F cs1 cs9 h
        exact k9.trans hq
      · skip
        replace h := (if_neg c_2).symm.trans h
        replace h := ob h; obtain ⟨v_3, hv_3, h⟩ := h
        replace h := ob h; obtain ⟨i_5, hi_5, h⟩ := h
        subst hi_5
        replace h := ob h; obtain ⟨w_6, hw_6, h⟩ := h
        replace h := ob h; obtain ⟨v_4, hv_4, h⟩ := h
        replace h := ob h; obtain ⟨w_8, hw_8, h⟩ := h
        replace h := ob h; obtain ⟨cs_7, hv_7, h⟩ := h
        replace hq := (mo_c_X9_refuseNinth F cs1 u0 v_4 1 cs_7 hv_7).trans hq
        replace h := ob h; obtain ⟨w_10, hw_10, h⟩ := h
        replace h := ob h; obtain ⟨z_9, hv_9, h⟩ := h
        replace hq := (mo_c_X9_readExpr F 300 cs_7 u0 z_9.1 z_9.2 hv_9).trans hq
        replace h := ob h; obtain ⟨w_12, hw_12, h⟩ := h
        replace h := ob h; obtain ⟨cs_11, hv_11, h⟩ := h
        replace hq := (mo_c_X9_expect F z_9.1 u0 17 cs_11 hv_11).trans hq
        replace h := ob h; obtain ⟨w_14, hw_14, h⟩ := h
        replace h := ob h; obtain ⟨v_13, hv_13, h⟩ := h
        replace h := ob h; obtain ⟨v_15, hv_15, h⟩ := h
        replace h := ob h; obtain ⟨w_17, hw_17, h⟩ := h
        replace h := ob h; obtain ⟨z_16, hv_16, h⟩ := h
        replace hq := (mo_c_X9_readName F cs_11 u0 z_16.1 z_16.2 hv_16).trans hq
        replace h := ob h; obtain ⟨i_19, hi_19, h⟩ := h
        subst hi_19
        replace h := ob h; obtain ⟨w_20, hw_20, h⟩ := h
        replace h := ob h; obtain ⟨cs_18, hv_18, h⟩ := h
        replace hq := (mo_c_X2_add F z_16.1 i_19 z_9.2 z_16.2 v_13 1 cs_18 hv_18).trans hq
        replace h := ob h; obtain ⟨w_22, hw_22, h⟩ := h
        replace h := ob h; obtain ⟨z_21, hv_21, h⟩ := h
        replace hq := (mo_c_X9_accept F cs_18 u0 43 z_21.1 z_21.2 hv_21).trans hq
        obtain k9 := ih_29 z_21.1 u0 u1 z_21.2 (u3 + 1) cs9 h
        exact k9.trans hq
theorem mo_c_X9_readGroups (F : Nat) (cs : CS) (x0 : Nat) (x1 : Nat) (cs9 : CS) (h : c_X9_readGroups F cs x0 x1 = some cs9) : cs9.1 = cs.1 := by
  unfold c_X9_readGroups at h
  have hq : cs.1 = cs.1 := rfl
  replace h := ob h; obtain ⟨cs_1, hv_1, h⟩ := h
  replace hq := (pI_1 hv_1).trans hq
  replace h := ob h; obtain ⟨w_3, hw_3, h⟩ := h
  replace h := ob h; obtain ⟨v_2, hv_2, h⟩ := h
  replace h := ob h; obtain ⟨cs_4, hv_4, h⟩ := h
  replace hq := (pI_1 hv_4).trans hq
  replace h := ob h; obtain ⟨w_6, hw_6, h⟩ := h
  replace h := ob h; obtain ⟨cs_5, hv_5, h⟩ := h
  replace hq := (mo_c_X9_expect F cs_4 x0 7 cs_5 hv_5).trans hq
  replace h := ob h; obtain ⟨w_8, hw_8, h⟩ := h
  replace h := ob h; obtain ⟨cs_7, hv_7, h⟩ := h
  replace hq := (mo_c_X9_expect F cs_5 x0 8 cs_7 hv_7).trans hq
  obtain k9 := mo_c_X9_readGroups_L29 F F cs_7 x0 x1 1 0 cs9 h
  exact k9.trans hq
theorem mo_c_X10_skipBlanks_b38 (F : Nat) (cs1 : CS) (cs9 : CS) (h : c_X10_skipBlanks_b38 F cs1 = some cs9) : cs9.1 = cs1.1 := by
  unfold c_X10_skipBlanks_b38 at h
  have hq : cs1.1 = cs1.1 := rfl
  have h9 := Option.some.inj h
  exact (congrArg (fun z => z.1) h9).symm.trans hq
theorem mo_c_X10_skipBlanks_L0 (F : Nat) : ∀ (lf_0 : Nat) (cs1 : CS) (u0 : Nat) (cs9 : CS), c_X10_skipBlanks_L0 F lf_0 cs1 u0 = some cs9 → cs9.1 = cs1.1 := by
  intro lf_0
  induction lf_0 with
  | zero => intro cs1 u0 cs9 h; cases (show (none : Option CS) = _ from h)
  | succ lf_0 ih_0 =>
    intro cs1 u0 cs9 h
    rw [c_X10_skipBlanks_L0] at h
    have hq : cs1.1 = cs1.1 := rfl
    replace h := ob h; obtain ⟨v_1, hv_1, h⟩ := h
    replace h := ob h; obtain ⟨v_2, hv_2, h⟩ := h
    by_cases c_3 : v_2 ≤ v_1
    · skip
      replace h := (if_pos c_3).symm.trans h
      obtain k9 := mo_c_X10_skipBlanks_b38 F cs1 cs9 h
      exact k9.trans hq
    · skip
      replace h := (if_neg c_3).symm.trans h
      replace h := ob h; obtain ⟨v_4, hv_4, h⟩ := h
      replace h := ob h; obtain ⟨w_6, hw_6, h⟩ := h
      replace h := ob h; obtain ⟨v_5, hv_5, h⟩ := h
      replace h := ob h; obtain ⟨v_7, hv_7, h⟩ := h
      by_cases c_8 : v_7 = 0
      · skip
        replace h := (if_pos c_8).symm.trans h
        obtain k9 := mo_c_X10_skipBlanks_b38 F cs1 cs9 h
        exact k9.trans hq
      · skip
        replace h := (if_neg c_8).symm.trans h
        replace h := ob h; obtain ⟨v_9, hv_9, h⟩ := h
        replace h := ob h; obtain ⟨cs_10, hv_10, h⟩ := h
        replace hq := (pI_1 hv_10).trans hq
        obtain k9 := ih_0 cs_10 u0 cs9 h
        exact k9.trans hq
theorem mo_c_X10_skipBlanks (F : Nat) (cs : CS) (x0 : Nat) (cs9 : CS) (h : c_X10_skipBlanks F cs x0 = some cs9) : cs9.1 = cs.1 := by
  unfold c_X10_skipBlanks at h
  have hq : cs.1 = cs.1 := rfl
  obtain k9 := mo_c_X10_skipBlanks_L0 F F cs x0 cs9 h
  exact k9.trans hq
theorem mo_c_X10_scanWord_b111 (F : Nat) (cs1 : CS) (y0 : Int32) (y1 : Int32) (y2 : Nat) (wy2 : Nat) (cs9 : CS) (h : c_X10_scanWord_b111 F cs1 y0 y1 y2 wy2 = some cs9) : cs9.1 = cs1.1 := by
  unfold c_X10_scanWord_b111 at h
  have hq : cs1.1 = cs1.1 := rfl
  replace h := ob h; obtain ⟨cs_1, hv_1, h⟩ := h
  replace hq := (wA_1 hv_1).trans hq
  have h9 := Option.some.inj h
  exact (congrArg (fun z => z.1) h9).symm.trans hq
theorem mo_c_X10_scanWord_b78 (F : Nat) (cs1 : CS) (u0 : Nat) (u1 : Int32) (u2 : Int32) (u3 : Int64) (cs9 : CS) (h : c_X10_scanWord_b78 F cs1 u0 u1 u2 u3 = some cs9) : cs9.1 = cs1.1 := by
  unfold c_X10_scanWord_b78 at h
  have hq : cs1.1 = cs1.1 := rfl
  replace h := ob h; obtain ⟨v_1, hv_1, h⟩ := h
  replace h := ob h; obtain ⟨cs_2, hv_2, h⟩ := h
  replace hq := (wB_1 hv_2).trans hq
  replace h := ob h; obtain ⟨v_3, hv_3, h⟩ := h
  replace h := ob h; obtain ⟨v_4, hv_4, h⟩ := h
  by_cases c_5 : (v_4 - u2) ≤ 12
  · skip
    replace h := (if_pos c_5).symm.trans h
    replace h := ob h; obtain ⟨w_7, hw_7, h⟩ := h
    replace h := ob h; obtain ⟨v_6, hv_6, h⟩ := h
    obtain k9 := mo_c_X10_scanWord_b111 F cs_2 v_6 u1 u0 v_3 cs9 h
    exact k9.trans hq
  · skip
    replace h := (if_neg c_5).symm.trans h
    obtain k9 := mo_c_X10_scanWord_b111 F cs_2 57 u1 u0 v_3 cs9 h
    exact k9.trans hq
theorem mo_c_X10_scanWord_b46 (F : Nat) (rc7 : CS → Nat → Int32 → Int32 → Int64 → Option CS) (hrc7 : ∀ (cs1 : CS) (u0 : Nat) (u1 : Int32) (u2 : Int32) (u3 : Int64) (cs9 : CS), rc7 cs1 u0 u1 u2 u3 = some cs9 → cs9.1 = cs1.1) (cs1 : CS) (u0 : Nat) (u1 : Int32) (u2 : Int32) (u3 : Int64) (cs9 : CS) (h : c_X10_scanWord_b46 F rc7 cs1 u0 u1 u2 u3 = some cs9) : cs9.1 = cs1.1 := by
  unfold c_X10_scanWord_b46 at h
  have hq : cs1.1 = cs1.1 := rfl
  replace h := ob h; obtain ⟨v_1, hv_1, h⟩ := h
  replace h := ob h; obtain ⟨w_3, hw_3, h⟩ := h
  replace h := ob h; obtain ⟨v_2, hv_2, h⟩ := h
  replace h := ob h; obtain ⟨v_4, hv_4, h⟩ := h
  replace h := ob h; obtain ⟨v_5, hv_5, h⟩ := h
  replace h := ob h; obtain ⟨cs_6, hv_6, h⟩ := h
  replace hq := (pI_1 hv_6).trans hq
  obtain k9 := hrc7 cs_6 u0 u1 u2 ((u3 * (37)) + ((v_4 : Int32).toInt64)) cs9 h
  exact k9.trans hq
theorem mo_c_X10_scanWord_L7 (F : Nat) : ∀ (lf_7 : Nat) (cs1 : CS) (u0 : Nat) (u1 : Int32) (u2 : Int32) (u3 : Int64) (cs9 : CS), c_X10_scanWord_L7 F lf_7 cs1 u0 u1 u2 u3 = some cs9 → cs9.1 = cs1.1 := by
  intro lf_7
  induction lf_7 with
  | zero => intro cs1 u0 u1 u2 u3 cs9 h; cases (show (none : Option CS) = _ from h)
  | succ lf_7 ih_7 =>
    intro cs1 u0 u1 u2 u3 cs9 h
    rw [c_X10_scanWord_L7] at h
    have hq : cs1.1 = cs1.1 := rfl
    replace h := ob h; obtain ⟨v_1, hv_1, h⟩ := h
    replace h := ob h; obtain ⟨v_2, hv_2, h⟩ := h
    by_cases c_3 : v_2 ≤ v_1
    · skip
      replace h := (if_pos c_3).symm.trans h
      obtain k9 := mo_c_X10_scanWord_b78 F cs1 u0 u1 u2 u3 cs9 h
      exact k9.trans hq
    · skip
      replace h := (if_neg c_3).symm.trans h
      replace h := ob h; obtain ⟨v_4, hv_4, h⟩ := h
      replace h := ob h; obtain ⟨w_6, hw_6, h⟩ := h
      replace h := ob h; obtain ⟨v_5, hv_5, h⟩ := h
      replace h := ob h; obtain ⟨v_7, hv_7, h⟩ := h
      by_cases c_8 : v_7 = 0
      · skip
        replace h := (if_pos c_8).symm.trans h
        replace h := ob h; obtain ⟨v_9, hv_9, h⟩ := h
        replace h := ob h; obtain ⟨w_11, hw_11, h⟩ := h
        replace h := ob h; obtain ⟨v_10, hv_10, h⟩ := h
        replace h := ob h; obtain ⟨v_12, hv_12, h⟩ := h
        by_cases c_13 : v_12 = 0
        · skip
          replace h := (if_pos c_13).symm.trans h
          obtain k9 := mo_c_X10_scanWord_b78 F cs1 u0 u1 u2 u3 cs9 h
          exact k9.trans hq
        · skip
          replace h := (if_neg c_13).symm.trans h
          obtain k9 := mo_c_X10_scanWord_b46 F (c_X10_scanWord_L7 F lf_7) ih_7 cs1 u0 u1 u2 u3 cs9 h
          exact k9.trans hq
      · skip
        replace h := (if_neg c_8).symm.trans h
        obtain k9 := mo_c_X10_scanWord_b46 F (c_X10_scanWord_L7 F lf_7) ih_7 cs1 u0 u1 u2 u3 cs9 h
        exact k9.trans hq
theorem mo_c_X10_scanWord (F : Nat) (cs : CS) (x0 : Nat) (x1 : Int32) (cs9 : CS) (h : c_X10_scanWord F cs x0 x1 = some cs9) : cs9.1 = cs.1 := by
  unfold c_X10_scanWord at h
  have hq : cs.1 = cs.1 := rfl
  replace h := ob h; obtain ⟨v_1, hv_1, h⟩ := h
  obtain k9 := mo_c_X10_scanWord_L7 F F cs x0 x1 v_1 0 cs9 h
  exact k9.trans hq
theorem mo_c_X10_scanNumber_b127 (F : Nat) (cs1 : CS) (cs9 : CS) (h : c_X10_scanNumber_b127 F cs1 = some cs9) : cs9.1 = cs1.1 := by
  unfold c_X10_scanNumber_b127 at h
  have hq : cs1.1 = cs1.1 := rfl
  have h9 := Option.some.inj h
  exact (congrArg (fun z => z.1) h9).symm.trans hq
theorem mo_c_X10_scanNumber_b98 (F : Nat) (cs1 : CS) (u0 : Nat) (u1 : Int32) (u2 : Int64) (cs9 : CS) (h : c_X10_scanNumber_b98 F cs1 u0 u1 u2 = some cs9) : cs9.1 = cs1.1 := by
  unfold c_X10_scanNumber_b98 at h
  have hq : cs1.1 = cs1.1 := rfl
  replace h := ob h; obtain ⟨v_1, hv_1, h⟩ := h
  replace h := ob h; obtain ⟨cs_2, hv_2, h⟩ := h
  replace hq := (wB_1 hv_2).trans hq
  replace h := ob h; obtain ⟨v_3, hv_3, h⟩ := h
  replace h := ob h; obtain ⟨w_5, hw_5, h⟩ := h
  replace h := ob h; obtain ⟨v_4, hv_4, h⟩ := h
  replace h := ob h; obtain ⟨v_6, hv_6, h⟩ := h
  by_cases c_7 : v_6 = 0
  · skip
    replace h := (if_pos c_7).symm.trans h
    obtain k9 := mo_c_X10_scanNumber_b127 F cs_2 cs9 h
    exact k9.trans hq
  · skip
    replace h := (if_neg c_7).symm.trans h
    replace h := ob h; obtain ⟨v_8, hv_8, h⟩ := h
    replace h := ob h; obtain ⟨cs_9, hv_9, h⟩ := h
    replace hq := (wA_1 hv_9).trans hq
    obtain k9 := mo_c_X10_scanNumber_b127 F cs_9 cs9 h
    exact k9.trans hq
theorem mo_c_X10_scanNumber_b85 (F : Nat) (rc10 : CS → Nat → Int32 → Int64 → Option CS) (hrc10 : ∀ (cs1 : CS) (u0 : Nat) (u1 : Int32) (u2 : Int64) (cs9 : CS), rc10 cs1 u0 u1 u2 = some cs9 → cs9.1 = cs1.1) (cs1 : CS) (u0 : Nat) (u1 : Int32) (u2 : Int64) (cs9 : CS) (h : c_X10_scanNumber_b85 F rc10 cs1 u0 u1 u2 = some cs9) : cs9.1 = cs1.1 := by
  unfold c_X10_scanNumber_b85 at h
  have hq : cs1.1 = cs1.1 := rfl
  replace h := ob h; obtain ⟨v_1, hv_1, h⟩ := h
  replace h := ob h; obtain ⟨cs_2, hv_2, h⟩ := h
  replace hq := (pI_1 hv_2).trans hq
  obtain k9 := hrc10 cs_2 u0 u1 u2 cs9 h
  exact k9.trans hq
theorem mo_c_X10_scanNumber_L10 (F : Nat) : ∀ (lf_10 : Nat) (cs1 : CS) (u0 : Nat) (u1 : Int32) (u2 : Int64) (cs9 : CS), c_X10_scanNumber_L10 F lf_10 cs1 u0 u1 u2 = some cs9 → cs9.1 = cs1.1 := by
  intro lf_10
  induction lf_10 with
  | zero => intro cs1 u0 u1 u2 cs9 h; cases (show (none : Option CS) = _ from h)
  | succ lf_10 ih_10 =>
    intro cs1 u0 u1 u2 cs9 h
    rw [c_X10_scanNumber_L10] at h
    have hq : cs1.1 = cs1.1 := rfl
    replace h := ob h; obtain ⟨v_1, hv_1, h⟩ := h
    replace h := ob h; obtain ⟨v_2, hv_2, h⟩ := h
    by_cases c_3 : v_2 ≤ v_1
    · skip
      replace h := (if_pos c_3).symm.trans h
      obtain k9 := mo_c_X10_scanNumber_b98 F cs1 u0 u1 u2 cs9 h
      exact k9.trans hq
    · skip
      replace h := (if_neg c_3).symm.trans h
      replace h := ob h; obtain ⟨v_4, hv_4, h⟩ := h
      replace h := ob h; obtain ⟨w_6, hw_6, h⟩ := h
      replace h := ob h; obtain ⟨v_5, hv_5, h⟩ := h
      replace h := ob h; obtain ⟨v_7, hv_7, h⟩ := h
      by_cases c_8 : v_7 = 0
      · skip
        replace h := (if_pos c_8).symm.trans h
        obtain k9 := mo_c_X10_scanNumber_b98 F cs1 u0 u1 u2 cs9 h
        exact k9.trans hq
      · skip
        replace h := (if_neg c_8).symm.trans h
        replace h := ob h; obtain ⟨v_9, hv_9, h⟩ := h
        replace h := ob h; obtain ⟨w_11, hw_11, h⟩ := h
        replace h := ob h; obtain ⟨v_10, hv_10, h⟩ := h
        replace h := ob h; obtain ⟨w_12, hw_12, h⟩ := h
        by_cases c_13 : u2 ≤ (((9223372036854775807) - ((v_10 - 48 : Int32).toInt64)) / (10))
        · skip
          replace h := (if_pos c_13).symm.trans h
          obtain k9 := mo_c_X10_scanNumber_b85 F (c_X10_scanNumber_L10 F lf_10) ih_10 cs1 u0 u1 ((u2 * (10)) + ((v_10 - 48 : Int32).toInt64)) cs9 h
          exact k9.trans hq
        · skip
          replace h := (if_neg c_13).symm.trans h
          replace h := ob h; obtain ⟨v_14, hv_14, h⟩ := h
          replace h := ob h; obtain ⟨cs_15, hv_15, h⟩ := h
          replace hq := (wA_1 hv_15).trans hq
          obtain k9 := mo_c_X10_scanNumber_b85 F (c_X10_scanNumber_L10 F lf_10) ih_10 cs_15 u0 u1 u2 cs9 h
          exact k9.trans hq
theorem mo_c_X10_scanNumber (F : Nat) (cs : CS) (x0 : Nat) (x1 : Int32) (cs9 : CS) (h : c_X10_scanNumber F cs x0 x1 = some cs9) : cs9.1 = cs.1 := by
  unfold c_X10_scanNumber at h
  have hq : cs.1 = cs.1 := rfl
  replace h := ob h; obtain ⟨v_1, hv_1, h⟩ := h
  replace h := ob h; obtain ⟨cs_2, hv_2, h⟩ := h
  replace hq := (wA_1 hv_2).trans hq
  obtain k9 := mo_c_X10_scanNumber_L10 F F cs_2 x0 x1 0 cs9 h
  exact k9.trans hq
theorem mo_c_X10_scanSign_b29 (F : Nat) (cs1 : CS) (u0 : Nat) (y0 : Int32) (cs9 : CS) (r9 : Int32) (h : c_X10_scanSign_b29 F cs1 u0 y0 = some (cs9, r9)) : cs9.1 = cs1.1 := by
  unfold c_X10_scanSign_b29 at h
  have hq : cs1.1 = cs1.1 := rfl
  replace h := ob h; obtain ⟨v_1, hv_1, h⟩ := h
  replace h := ob h; obtain ⟨cs_2, hv_2, h⟩ := h
  replace hq := (pI_1 hv_2).trans hq
  replace h := ob h; obtain ⟨v_3, hv_3, h⟩ := h
  replace h := ob h; obtain ⟨w_5, hw_5, h⟩ := h
  replace h := ob h; obtain ⟨v_4, hv_4, h⟩ := h
  replace h := ob h; obtain ⟨v_6, hv_6, h⟩ := h
  by_cases c_7 : v_6 = y0
  · skip
    replace h := (if_pos c_7).symm.trans h
    have h9 := (Prod.mk.inj (Option.some.inj h)).1
    exact (congrArg (fun z => z.1) h9).symm.trans hq
  · skip
    replace h := (if_neg c_7).symm.trans h
    replace h := ob h; obtain ⟨v_8, hv_8, h⟩ := h
    replace h := ob h; obtain ⟨cs_9, hv_9, h⟩ := h
    replace hq := (pI_1 hv_9).trans hq
    have h9 := (Prod.mk.inj (Option.some.inj h)).1
    exact (congrArg (fun z => z.1) h9).symm.trans hq
theorem mo_c_X10_scanSign_b15 (F : Nat) (cs1 : CS) (u0 : Nat) (y0 : Int32) (cs9 : CS) (r9 : Int32) (h : c_X10_scanSign_b15 F cs1 u0 y0 = some (cs9, r9)) : cs9.1 = cs1.1 := by
  unfold c_X10_scanSign_b15 at h
  have hq : cs1.1 = cs1.1 := rfl
  by_cases c_1 : 0 ≤ y0
  · skip
    replace h := (if_pos c_1).symm.trans h
    obtain k9 := mo_c_X10_scanSign_b29 F cs1 u0 (41 + y0) cs9 r9 h
    exact k9.trans hq
  · skip
    replace h := (if_neg c_1).symm.trans h
    obtain k9 := mo_c_X10_scanSign_b29 F cs1 u0 57 cs9 r9 h
    exact k9.trans hq
theorem mo_c_X10_scanSign (F : Nat) (cs : CS) (x0 : Nat) (x1 : Int32) (cs9 : CS) (r9 : Int32) (h : c_X10_scanSign F cs x0 x1 = some (cs9, r9)) : cs9.1 = cs.1 := by
  unfold c_X10_scanSign at h
  have hq : cs.1 = cs.1 := rfl
  by_cases c_1 : 0 ≤ x1
  · skip
    replace h := (if_pos c_1).symm.trans h
    replace h := ob h; obtain ⟨v_2, hv_2, h⟩ := h
    obtain k9 := mo_c_X10_scanSign_b15 F cs x0 v_2 cs9 r9 h
    exact k9.trans hq
  · skip
    replace h := (if_neg c_1).symm.trans h
    obtain k9 := mo_c_X10_scanSign_b15 F cs x0 (-1) cs9 r9 h
    exact k9.trans hq
theorem mo_c_X10_scanToken_b79 (F : Nat) (cs1 : CS) (cs9 : CS) (h : c_X10_scanToken_b79 F cs1 = some cs9) : cs9.1 = cs1.1 := by
  unfold c_X10_scanToken_b79 at h
  have hq : cs1.1 = cs1.1 := rfl
  have h9 := Option.some.inj h
  exact (congrArg (fun z => z.1) h9).symm.trans hq
theorem mo_c_X10_scanToken (F : Nat) (cs : CS) (x0 : Nat) (x1 : Int32) (cs9 : CS) (h : c_X10_scanToken F cs x0 x1 = some cs9) : cs9.1 = cs.1 := by
  unfold c_X10_scanToken at h
  have hq : cs.1 = cs.1 := rfl
  replace h := ob h; obtain ⟨v_1, hv_1, h⟩ := h
  replace h := ob h; obtain ⟨w_3, hw_3, h⟩ := h
  replace h := ob h; obtain ⟨v_2, hv_2, h⟩ := h
  replace h := ob h; obtain ⟨v_4, hv_4, h⟩ := h
  replace h := ob h; obtain ⟨cs_5, hv_5, h⟩ := h
  replace hq := (wB_1 hv_5).trans hq
  replace h := ob h; obtain ⟨v_6, hv_6, h⟩ := h
  replace h := ob h; obtain ⟨v_7, hv_7, h⟩ := h
  by_cases c_8 : v_6 < v_7
  · skip
    replace h := (if_pos c_8).symm.trans h
    replace h := ob h; obtain ⟨v_9, hv_9, h⟩ := h
    by_cases c_10 : v_9 = 0
    · skip
      replace h := (if_pos c_10).symm.trans h
      replace h := ob h; obtain ⟨v_11, hv_11, h⟩ := h
      by_cases c_12 : v_11 = 0
      · skip
        replace h := (if_pos c_12).symm.trans h
        replace h := ob h; obtain ⟨v_13, hv_13, h⟩ := h
        replace h := ob h; obtain ⟨w_15, hw_15, h⟩ := h
        replace h := ob h; obtain ⟨z_14, hv_14, h⟩ := h
        replace hq := (mo_c_X10_scanSign F cs_5 x0 v_2 z_14.1 z_14.2 hv_14).trans hq
        replace h := ob h; obtain ⟨cs_16, hv_16, h⟩ := h
        replace hq := (wA_1 hv_16).trans hq
        obtain k9 := mo_c_X10_scanToken_b79 F cs_16 cs9 h
        exact k9.trans hq
      · skip
        replace h := (if_neg c_12).symm.trans h
        replace h := ob h; obtain ⟨w_18, hw_18, h⟩ := h
        replace h := ob h; obtain ⟨cs_17, hv_17, h⟩ := h
        replace hq := (mo_c_X10_scanNumber F cs_5 x0 x1 cs_17 hv_17).trans hq
        obtain k9 := mo_c_X10_scanToken_b79 F cs_17 cs9 h
        exact k9.trans hq
    · skip
      replace h := (if_neg c_10).symm.trans h
      replace h := ob h; obtain ⟨w_20, hw_20, h⟩ := h
      replace h := ob h; obtain ⟨cs_19, hv_19, h⟩ := h
      replace hq := (mo_c_X10_scanWord F cs_5 x0 x1 cs_19 hv_19).trans hq
      obtain k9 := mo_c_X10_scanToken_b79 F cs_19 cs9 h
      exact k9.trans hq
  · skip
    replace h := (if_neg c_8).symm.trans h
    replace h := ob h; obtain ⟨v_21, hv_21, h⟩ := h
    replace h := ob h; obtain ⟨cs_22, hv_22, h⟩ := h
    replace hq := (wA_1 hv_22).trans hq
    obtain k9 := mo_c_X10_scanToken_b79 F cs_22 cs9 h
    exact k9.trans hq
theorem mo_c_X10_scan_b96 (F : Nat) (cs1 : CS) (cs9 : CS) (h : c_X10_scan_b96 F cs1 = some cs9) : kK cs9 = kK cs1 ∧ kM cs9 = kM cs1 := by
  unfold c_X10_scan_b96 at h
  have h9 := Option.some.inj h
  have k9 := congrArg kK h9; have m9 := congrArg kM h9; exact ⟨by omega, by omega⟩
theorem mo_c_X10_scan_b89 (F : Nat) (rc25 : CS → Nat → Int32 → Int32 → Option CS) (hrc25 : ∀ (cs1 : CS) (u0 : Nat) (u3 : Int32) (u4 : Int32) (cs9 : CS), rc25 cs1 u0 u3 u4 = some cs9 → kK cs9 = kK cs1 ∧ kM cs9 = kM cs1) (cs1 : CS) (u0 : Nat) (u4 : Int32) (y0 : Int32) (cs9 : CS) (h : c_X10_scan_b89 F rc25 cs1 u0 u4 y0 = some cs9) : kK cs9 = kK cs1 ∧ kM cs9 = kM cs1 := by
  unfold c_X10_scan_b89 at h
  obtain ⟨k9, m9⟩ := hrc25 cs1 u0 y0 (u4 + 1) cs9 h
  exact ⟨by omega, by omega⟩
theorem mo_c_X10_scan_b88 (F : Nat) (rc25 : CS → Nat → Int32 → Int32 → Option CS) (hrc25 : ∀ (cs1 : CS) (u0 : Nat) (u3 : Int32) (u4 : Int32) (cs9 : CS), rc25 cs1 u0 u3 u4 = some cs9 → kK cs9 = kK cs1 ∧ kM cs9 = kM cs1) (cs1 : CS) (u0 : Nat) (u4 : Int32) (cs9 : CS) (h : c_X10_scan_b88 F rc25 cs1 u0 u4 = some cs9) : kK cs9 = kK cs1 ∧ kM cs9 = kM cs1 := by
  unfold c_X10_scan_b88 at h
  obtain ⟨k9, m9⟩ := mo_c_X10_scan_b89 F rc25 hrc25 cs1 u0 u4 0 cs9 h
  exact ⟨by omega, by omega⟩
theorem mo_c_X10_scan_L25 (F : Nat) : ∀ (lf_25 : Nat) (cs1 : CS) (u0 : Nat) (u3 : Int32) (u4 : Int32) (cs9 : CS), c_X10_scan_L25 F lf_25 cs1 u0 u3 u4 = some cs9 → kK cs9 = kK cs1 ∧ kM cs9 = kM cs1 := by
  intro lf_25
  induction lf_25 with
  | zero => intro cs1 u0 u3 u4 cs9 h; cases (show (none : Option CS) = _ from h)
  | succ lf_25 ih_25 =>
    intro cs1 u0 u3 u4 cs9 h
    rw [c_X10_scan_L25] at h
    replace h := ob h; obtain ⟨v_1, hv_1, h⟩ := h
    replace h := ob h; obtain ⟨v_2, hv_2, h⟩ := h
    by_cases c_3 : v_2 ≤ u4
    · skip
      replace h := (if_pos c_3).symm.trans h
      obtain ⟨k9, m9⟩ := mo_c_X10_scan_b96 F cs1 cs9 h
      exact ⟨by omega, by omega⟩
    · skip
      replace h := (if_neg c_3).symm.trans h
      by_cases c_4 : u3 = 0
      · skip
        replace h := (if_pos c_4).symm.trans h
        obtain ⟨k9, m9⟩ := mo_c_X10_scan_b96 F cs1 cs9 h
        exact ⟨by omega, by omega⟩
      · skip
        replace h := (if_neg c_4).symm.trans h
        replace h := ob h; obtain ⟨w_6, hw_6, h⟩ := h
        replace h := ob h; obtain ⟨cs_5, hv_5, h⟩ := h
        obtain ⟨qk_5, qm_5⟩ := k_of (mo_c_X10_skipBlanks F cs1 u0 cs_5 hv_5)
        replace h := ob h; obtain ⟨v_7, hv_7, h⟩ := h
        replace h := ob h; obtain ⟨v_8, hv_8, h⟩ := h
        replace h := ob h; obtain ⟨cs_9, hv_9, h⟩ := h
        obtain ⟨qk_9, qm_9⟩ := wA_k hv_9
        replace h := ob h; obtain ⟨w_11, hw_11, h⟩ := h
        replace h := ob h; obtain ⟨cs_10, hv_10, h⟩ := h
        obtain ⟨qk_10, qm_10⟩ := k_of (mo_c_X10_scanToken F cs_9 u0 u4 cs_10 hv_10)
        replace h := ob h; obtain ⟨v_12, hv_12, h⟩ := h
        replace h := ob h; obtain ⟨v_13, hv_13, h⟩ := h
        by_cases c_14 : v_13 = 56
        · skip
          replace h := (if_pos c_14).symm.trans h
          obtain ⟨k9, m9⟩ := mo_c_X10_scan_b88 F (c_X10_scan_L25 F lf_25) ih_25 cs_10 u0 u4 cs9 h
          exact ⟨by omega, by omega⟩
        · skip
          replace h := (if_neg c_14).symm.trans h
          replace h := ob h; obtain ⟨v_15, hv_15, h⟩ := h
          replace h := ob h; obtain ⟨v_16, hv_16, h⟩ := h
          by_cases c_17 : v_16 = 57
          · skip
            replace h := (if_pos c_17).symm.trans h
            obtain ⟨k9, m9⟩ := mo_c_X10_scan_b88 F (c_X10_scan_L25 F lf_25) ih_25 cs_10 u0 u4 cs9 h
            exact ⟨by omega, by omega⟩
          · skip
            replace h := (if_neg c_17).symm.trans h
            obtain ⟨k9, m9⟩ := mo_c_X10_scan_b89 F (c_X10_scan_L25 F lf_25) ih_25 cs_10 u0 u4 1 cs9 h
            exact ⟨by omega, by omega⟩
theorem mo_c_X10_scan (F : Nat) (cs : CS) (x0 : Nat) (x1 : Nat) (wx1 : Nat) (x2 : Int32) (cs9 : CS) (h : c_X10_scan F cs x0 x1 wx1 x2 = some cs9) : kK cs9 = kK cs ∧ kM cs9 = kM cs := by
  unfold c_X10_scan at h
  replace h := ob h; obtain ⟨cs_1, hv_1, h⟩ := h
  obtain ⟨qk_1, qm_1⟩ := pBy_k hv_1
  replace h := ob h; obtain ⟨v_2, hv_2, h⟩ := h
  replace h := ob h; obtain ⟨cs_3, hv_3, h⟩ := h
  obtain ⟨qk_3, qm_3⟩ := pI_k hv_3
  replace h := ob h; obtain ⟨cs_4, hv_4, h⟩ := h
  obtain ⟨qk_4, qm_4⟩ := pI_k hv_4
  obtain ⟨k9, m9⟩ := mo_c_X10_scan_L25 F F cs_4 x0 1 0 cs9 h
  exact ⟨by omega, by omega⟩
theorem mo_c_X11_takeFour_b42 (F : Nat) (rc3 : CS → Nat → Int32 → Int32 → Option CS) (hrc3 : ∀ (cs1 : CS) (u0 : Nat) (u1 : Int32) (u2 : Int32) (cs9 : CS), rc3 cs1 u0 u1 u2 = some cs9 → cs9.1 = cs1.1) (cs1 : CS) (u0 : Nat) (u1 : Int32) (u2 : Int32) (cs9 : CS) (h : c_X11_takeFour_b42 F rc3 cs1 u0 u1 u2 = some cs9) : cs9.1 = cs1.1 := by
  unfold c_X11_takeFour_b42 at h
  have hq : cs1.1 = cs1.1 := rfl
  obtain k9 := hrc3 cs1 u0 u1 (u2 + (-8)) cs9 h
  exact k9.trans hq
theorem mo_c_X11_takeFour_L3 (F : Nat) : ∀ (lf_3 : Nat) (cs1 : CS) (u0 : Nat) (u1 : Int32) (u2 : Int32) (cs9 : CS), c_X11_takeFour_L3 F lf_3 cs1 u0 u1 u2 = some cs9 → cs9.1 = cs1.1 := by
  intro lf_3
  induction lf_3 with
  | zero => intro cs1 u0 u1 u2 cs9 h; cases (show (none : Option CS) = _ from h)
  | succ lf_3 ih_3 =>
    intro cs1 u0 u1 u2 cs9 h
    rw [c_X11_takeFour_L3] at h
    have hq : cs1.1 = cs1.1 := rfl
    by_cases c_1 : u2 < 0
    · skip
      replace h := (if_pos c_1).symm.trans h
      have h9 := Option.some.inj h
      exact (congrArg (fun z => z.1) h9).symm.trans hq
    · skip
      replace h := (if_neg c_1).symm.trans h
      replace h := ob h; obtain ⟨v_2, hv_2, h⟩ := h
      replace h := ob h; obtain ⟨v_3, hv_3, h⟩ := h
      replace h := ob h; obtain ⟨v_4, hv_4, h⟩ := h
      by_cases c_5 : v_4 ≤ v_2
      · skip
        replace h := (if_pos c_5).symm.trans h
        obtain k9 := mo_c_X11_takeFour_b42 F (c_X11_takeFour_L3 F lf_3) ih_3 cs1 u0 u1 u2 cs9 h
        exact k9.trans hq
      · skip
        replace h := (if_neg c_5).symm.trans h
        replace h := ob h; obtain ⟨v_6, hv_6, h⟩ := h
        replace h := ob h; obtain ⟨v_7, hv_7, h⟩ := h
        replace h := ob h; obtain ⟨cs_8, hv_8, h⟩ := h
        replace hq := (wA_1 hv_8).trans hq
        replace h := ob h; obtain ⟨v_9, hv_9, h⟩ := h
        replace h := ob h; obtain ⟨cs_10, hv_10, h⟩ := h
        replace hq := (pI_1 hv_10).trans hq
        obtain k9 := mo_c_X11_takeFour_b42 F (c_X11_takeFour_L3 F lf_3) ih_3 cs_10 u0 u1 u2 cs9 h
        exact k9.trans hq
theorem mo_c_X11_takeFour (F : Nat) (cs : CS) (x0 : Nat) (x1 : Int32) (cs9 : CS) (h : c_X11_takeFour F cs x0 x1 = some cs9) : cs9.1 = cs.1 := by
  unfold c_X11_takeFour at h
  have hq : cs.1 = cs.1 := rfl
  obtain k9 := mo_c_X11_takeFour_L3 F F cs x0 x1 24 cs9 h
  exact k9.trans hq
theorem mo_c_X11_feed (F : Nat) (cs : CS) (x0 : Nat) (x1 : Int32) (x2 : Int32) (x3 : Int32) (x4 : Int32) (x5 : Int32) (cs9 : CS) (r9 : Int32) (h : c_X11_feed F cs x0 x1 x2 x3 x4 x5 = some (cs9, r9)) : cs9.1 = cs.1 := by
  unfold c_X11_feed at h
  have hq : cs.1 = cs.1 := rfl
  replace h := ob h; obtain ⟨v_1, hv_1, h⟩ := h
  by_cases c_2 : v_1 ≤ 1980
  · skip
    replace h := (if_pos c_2).symm.trans h
    replace h := ob h; obtain ⟨w_4, hw_4, h⟩ := h
    replace h := ob h; obtain ⟨cs_3, hv_3, h⟩ := h
    replace hq := (mo_c_X11_takeFour F cs x0 x1 cs_3 hv_3).trans hq
    replace h := ob h; obtain ⟨w_6, hw_6, h⟩ := h
    replace h := ob h; obtain ⟨cs_5, hv_5, h⟩ := h
    replace hq := (mo_c_X11_takeFour F cs_3 x0 x2 cs_5 hv_5).trans hq
    replace h := ob h; obtain ⟨w_8, hw_8, h⟩ := h
    replace h := ob h; obtain ⟨cs_7, hv_7, h⟩ := h
    replace hq := (mo_c_X11_takeFour F cs_5 x0 x3 cs_7 hv_7).trans hq
    replace h := ob h; obtain ⟨w_10, hw_10, h⟩ := h
    replace h := ob h; obtain ⟨cs_9, hv_9, h⟩ := h
    replace hq := (mo_c_X11_takeFour F cs_7 x0 x4 cs_9 hv_9).trans hq
    replace h := ob h; obtain ⟨w_12, hw_12, h⟩ := h
    replace h := ob h; obtain ⟨cs_11, hv_11, h⟩ := h
    replace hq := (mo_c_X11_takeFour F cs_9 x0 x5 cs_11 hv_11).trans hq
    replace h := ob h; obtain ⟨v_13, hv_13, h⟩ := h
    have h9 := (Prod.mk.inj (Option.some.inj h)).1
    exact (congrArg (fun z => z.1) h9).symm.trans hq
  · skip
    replace h := (if_neg c_2).symm.trans h
    have h9 := (Prod.mk.inj (Option.some.inj h)).1
    exact (congrArg (fun z => z.1) h9).symm.trans hq
theorem mo_c_X11_cut_b12 (F : Nat) (cs1 : CS) (cs9 : CS) (r9 : Int32) (h : c_X11_cut_b12 F cs1 = some (cs9, r9)) : cs9.1 = cs1.1 := by
  unfold c_X11_cut_b12 at h
  have hq : cs1.1 = cs1.1 := rfl
  have h9 := (Prod.mk.inj (Option.some.inj h)).1
  exact (congrArg (fun z => z.1) h9).symm.trans hq
theorem mo_c_X11_cut (F : Nat) (cs : CS) (x0 : Nat) (x1 : Int32) (cs9 : CS) (r9 : Int32) (h : c_X11_cut F cs x0 x1 = some (cs9, r9)) : cs9.1 = cs.1 := by
  unfold c_X11_cut at h
  have hq : cs.1 = cs.1 := rfl
  by_cases c_1 : x1 < 0
  · skip
    replace h := (if_pos c_1).symm.trans h
    obtain k9 := mo_c_X11_cut_b12 F cs cs9 r9 h
    exact k9.trans hq
  · skip
    replace h := (if_neg c_1).symm.trans h
    replace h := ob h; obtain ⟨v_2, hv_2, h⟩ := h
    by_cases c_3 : x1 ≤ v_2
    · skip
      replace h := (if_pos c_3).symm.trans h
      replace h := ob h; obtain ⟨v_4, hv_4, h⟩ := h
      replace h := ob h; obtain ⟨cs_5, hv_5, h⟩ := h
      replace hq := (pI_1 hv_5).trans hq
      have h9 := (Prod.mk.inj (Option.some.inj h)).1
      exact (congrArg (fun z => z.1) h9).symm.trans hq
    · skip
      replace h := (if_neg c_3).symm.trans h
      obtain k9 := mo_c_X11_cut_b12 F cs cs9 r9 h
      exact k9.trans hq
theorem mo_c_X11_stream (F : Nat) (cs : CS) (x0 : Nat) (x1 : Int32) (cs9 : CS) (r9 : Int32) (h : c_X11_stream F cs x0 x1 = some (cs9, r9)) : cs9.1 = cs.1 := by
  unfold c_X11_stream at h
  have hq : cs.1 = cs.1 := rfl
  replace h := ob h; obtain ⟨v_1, hv_1, h⟩ := h
  replace h := ob h; obtain ⟨i_3, hi_3, h⟩ := h
  subst hi_3
  replace h := ob h; obtain ⟨w_4, hw_4, h⟩ := h
  replace h := ob h; obtain ⟨z_2, hv_2, h⟩ := h
  replace hq := (mo_c_X7_open F cs i_3 x1 z_2.1 z_2.2 hv_2).trans hq
  have h9 := (Prod.mk.inj (Option.some.inj h)).1
  exact (congrArg (fun z => z.1) h9).symm.trans hq
theorem mo_c_X11_tellChanges_b189 (F : Nat) (rc15 : CS → Nat → Nat → Int32 → Nat → Int32 → Int32 → Int32 → Int32 → Int32 → Option CS) (hrc15 : ∀ (cs1 : CS) (u0 : Nat) (u1 : Nat) (u2 : Int32) (u3 : Nat) (u4 : Int32) (u5 : Int32) (u6 : Int32) (u7 : Int32) (u9 : Int32) (cs9 : CS), rc15 cs1 u0 u1 u2 u3 u4 u5 u6 u7 u9 = some cs9 → cs9.1 = cs1.1) (cs1 : CS) (u0 : Nat) (u1 : Nat) (u2 : Int32) (u3 : Nat) (u4 : Int32) (u5 : Int32) (u6 : Int32) (u7 : Int32) (u8 : Int32) (u9 : Int32) (cs9 : CS) (h : c_X11_tellChanges_b189 F rc15 cs1 u0 u1 u2 u3 u4 u5 u6 u7 u8 u9 = some cs9) : cs9.1 = cs1.1 := by
  unfold c_X11_tellChanges_b189 at h
  have hq : cs1.1 = cs1.1 := rfl
  obtain k9 := hrc15 cs1 u0 u1 u2 u3 u4 u5 u6 u7 (u9 + (if u8 < 1 then 1 else u8)) cs9 h
  exact k9.trans hq
theorem mo_c_X11_tellChanges_b122 (F : Nat) (rc15 : CS → Nat → Nat → Int32 → Nat → Int32 → Int32 → Int32 → Int32 → Int32 → Option CS) (hrc15 : ∀ (cs1 : CS) (u0 : Nat) (u1 : Nat) (u2 : Int32) (u3 : Nat) (u4 : Int32) (u5 : Int32) (u6 : Int32) (u7 : Int32) (u9 : Int32) (cs9 : CS), rc15 cs1 u0 u1 u2 u3 u4 u5 u6 u7 u9 = some cs9 → cs9.1 = cs1.1) (cs1 : CS) (u0 : Nat) (u1 : Nat) (u2 : Int32) (u3 : Nat) (u4 : Int32) (u5 : Int32) (u6 : Int32) (u7 : Int32) (u8 : Int32) (u9 : Int32) (y0 : Int32) (y1 : Int32) (cs9 : CS) (h : c_X11_tellChanges_b122 F rc15 cs1 u0 u1 u2 u3 u4 u5 u6 u7 u8 u9 y0 y1 = some cs9) : cs9.1 = cs1.1 := by
  unfold c_X11_tellChanges_b122 at h
  have hq : cs1.1 = cs1.1 := rfl
  by_cases c_1 : (y1 - y0) ≤ 0
  · skip
    replace h := (if_pos c_1).symm.trans h
    obtain k9 := mo_c_X11_tellChanges_b189 F rc15 hrc15 cs1 u0 u1 u2 u3 u4 u5 u6 u7 u8 u9 cs9 h
    exact k9.trans hq
  · skip
    replace h := (if_neg c_1).symm.trans h
    replace h := ob h; obtain ⟨v_2, hv_2, h⟩ := h
    replace h := ob h; obtain ⟨v_3, hv_3, h⟩ := h
    replace h := ob h; obtain ⟨v_4, hv_4, h⟩ := h
    by_cases c_5 : v_4 ≤ v_2
    · skip
      replace h := (if_pos c_5).symm.trans h
      obtain k9 := mo_c_X11_tellChanges_b189 F rc15 hrc15 cs1 u0 u1 u2 u3 u4 u5 u6 u7 u8 u9 cs9 h
      exact k9.trans hq
    · skip
      replace h := (if_neg c_5).symm.trans h
      replace h := ob h; obtain ⟨v_6, hv_6, h⟩ := h
      replace h := ob h; obtain ⟨v_7, hv_7, h⟩ := h
      replace h := ob h; obtain ⟨v_8, hv_8, h⟩ := h
      by_cases c_9 : v_8 ≤ v_6
      · skip
        replace h := (if_pos c_9).symm.trans h
        obtain k9 := mo_c_X11_tellChanges_b189 F rc15 hrc15 cs1 u0 u1 u2 u3 u4 u5 u6 u7 u8 u9 cs9 h
        exact k9.trans hq
      · skip
        replace h := (if_neg c_9).symm.trans h
        replace h := ob h; obtain ⟨v_10, hv_10, h⟩ := h
        replace h := ob h; obtain ⟨v_11, hv_11, h⟩ := h
        replace h := ob h; obtain ⟨cs_12, hv_12, h⟩ := h
        replace hq := (wA_1 hv_12).trans hq
        replace h := ob h; obtain ⟨v_13, hv_13, h⟩ := h
        replace h := ob h; obtain ⟨v_14, hv_14, h⟩ := h
        replace h := ob h; obtain ⟨cs_15, hv_15, h⟩ := h
        replace hq := (wA_1 hv_15).trans hq
        replace h := ob h; obtain ⟨v_16, hv_16, h⟩ := h
        replace h := ob h; obtain ⟨cs_17, hv_17, h⟩ := h
        replace hq := (pI_1 hv_17).trans hq
        obtain k9 := mo_c_X11_tellChanges_b189 F rc15 hrc15 cs_17 u0 u1 u2 u3 u4 u5 u6 u7 u8 u9 cs9 h
        exact k9.trans hq
theorem mo_c_X11_tellChanges_b99 (F : Nat) (rc15 : CS → Nat → Nat → Int32 → Nat → Int32 → Int32 → Int32 → Int32 → Int32 → Option CS) (hrc15 : ∀ (cs1 : CS) (u0 : Nat) (u1 : Nat) (u2 : Int32) (u3 : Nat) (u4 : Int32) (u5 : Int32) (u6 : Int32) (u7 : Int32) (u9 : Int32) (cs9 : CS), rc15 cs1 u0 u1 u2 u3 u4 u5 u6 u7 u9 = some cs9 → cs9.1 = cs1.1) (cs1 : CS) (u0 : Nat) (u1 : Nat) (u2 : Int32) (u3 : Nat) (u4 : Int32) (u5 : Int32) (u6 : Int32) (u7 : Int32) (u8 : Int32) (u9 : Int32) (y0 : Int32) (cs9 : CS) (h : c_X11_tellChanges_b99 F rc15 cs1 u0 u1 u2 u3 u4 u5 u6 u7 u8 u9 y0 = some cs9) : cs9.1 = cs1.1 := by
  unfold c_X11_tellChanges_b99 at h
  have hq : cs1.1 = cs1.1 := rfl
  by_cases c_1 : y0 = 0
  · skip
    replace h := (if_pos c_1).symm.trans h
    obtain k9 := mo_c_X11_tellChanges_b122 F rc15 hrc15 cs1 u0 u1 u2 u3 u4 u5 u6 u7 u8 u9 0 u8 cs9 h
    exact k9.trans hq
  · skip
    replace h := (if_neg c_1).symm.trans h
    replace h := ob h; obtain ⟨w_3, hw_3, h⟩ := h
    replace h := ob h; obtain ⟨v_2, hv_2, h⟩ := h
    obtain k9 := mo_c_X11_tellChanges_b122 F rc15 hrc15 cs1 u0 u1 u2 u3 u4 u5 u6 u7 u8 u9 v_2 u8 cs9 h
    exact k9.trans hq
theorem mo_c_X11_tellChanges_b98 (F : Nat) (rc15 : CS → Nat → Nat → Int32 → Nat → Int32 → Int32 → Int32 → Int32 → Int32 → Option CS) (hrc15 : ∀ (cs1 : CS) (u0 : Nat) (u1 : Nat) (u2 : Int32) (u3 : Nat) (u4 : Int32) (u5 : Int32) (u6 : Int32) (u7 : Int32) (u9 : Int32) (cs9 : CS), rc15 cs1 u0 u1 u2 u3 u4 u5 u6 u7 u9 = some cs9 → cs9.1 = cs1.1) (cs1 : CS) (u0 : Nat) (u1 : Nat) (u2 : Int32) (u3 : Nat) (u4 : Int32) (u5 : Int32) (u6 : Int32) (u7 : Int32) (u8 : Int32) (u9 : Int32) (cs9 : CS) (h : c_X11_tellChanges_b98 F rc15 cs1 u0 u1 u2 u3 u4 u5 u6 u7 u8 u9 = some cs9) : cs9.1 = cs1.1 := by
  unfold c_X11_tellChanges_b98 at h
  have hq : cs1.1 = cs1.1 := rfl
  obtain k9 := mo_c_X11_tellChanges_b99 F rc15 hrc15 cs1 u0 u1 u2 u3 u4 u5 u6 u7 u8 u9 0 cs9 h
  exact k9.trans hq
theorem mo_c_X11_tellChanges_b66 (F : Nat) (rc15 : CS → Nat → Nat → Int32 → Nat → Int32 → Int32 → Int32 → Int32 → Int32 → Option CS) (hrc15 : ∀ (cs1 : CS) (u0 : Nat) (u1 : Nat) (u2 : Int32) (u3 : Nat) (u4 : Int32) (u5 : Int32) (u6 : Int32) (u7 : Int32) (u9 : Int32) (cs9 : CS), rc15 cs1 u0 u1 u2 u3 u4 u5 u6 u7 u9 = some cs9 → cs9.1 = cs1.1) (cs1 : CS) (u0 : Nat) (u1 : Nat) (u2 : Int32) (u3 : Nat) (u4 : Int32) (u5 : Int32) (u6 : Int32) (u7 : Int32) (u8 : Int32) (u9 : Int32) (cs9 : CS) (h : c_X11_tellChanges_b66 F rc15 cs1 u0 u1 u2 u3 u4 u5 u6 u7 u8 u9 = some cs9) : cs9.1 = cs1.1 := by
  unfold c_X11_tellChanges_b66 at h
  have hq : cs1.1 = cs1.1 := rfl
  by_cases c_1 : u4 ≤ u7
  · skip
    replace h := (if_pos c_1).symm.trans h
    obtain k9 := mo_c_X11_tellChanges_b98 F rc15 hrc15 cs1 u0 u1 u2 u3 u4 u5 u6 u7 u8 u9 cs9 h
    exact k9.trans hq
  · skip
    replace h := (if_neg c_1).symm.trans h
    replace h := ob h; obtain ⟨w_3, hw_3, h⟩ := h
    replace h := ob h; obtain ⟨v_2, hv_2, h⟩ := h
    by_cases c_4 : v_2 = 0
    · skip
      replace h := (if_pos c_4).symm.trans h
      obtain k9 := mo_c_X11_tellChanges_b99 F rc15 hrc15 cs1 u0 u1 u2 u3 u4 u5 u6 u7 u8 u9 1 cs9 h
      exact k9.trans hq
    · skip
      replace h := (if_neg c_4).symm.trans h
      obtain k9 := mo_c_X11_tellChanges_b98 F rc15 hrc15 cs1 u0 u1 u2 u3 u4 u5 u6 u7 u8 u9 cs9 h
      exact k9.trans hq
theorem mo_c_X11_tellChanges_L32 (F : Nat) (rc15 : CS → Nat → Nat → Int32 → Nat → Int32 → Int32 → Int32 → Int32 → Int32 → Option CS) (hrc15 : ∀ (cs1 : CS) (u0 : Nat) (u1 : Nat) (u2 : Int32) (u3 : Nat) (u4 : Int32) (u5 : Int32) (u6 : Int32) (u7 : Int32) (u9 : Int32) (cs9 : CS), rc15 cs1 u0 u1 u2 u3 u4 u5 u6 u7 u9 = some cs9 → cs9.1 = cs1.1) : ∀ (lf_32 : Nat) (cs1 : CS) (u0 : Nat) (u1 : Nat) (u2 : Int32) (u3 : Nat) (u4 : Int32) (u5 : Int32) (u6 : Int32) (u7 : Int32) (u8 : Int32) (u9 : Int32) (cs9 : CS), c_X11_tellChanges_L32 F rc15 lf_32 cs1 u0 u1 u2 u3 u4 u5 u6 u7 u8 u9 = some cs9 → cs9.1 = cs1.1 := by
  intro lf_32
  induction lf_32 with
  | zero => intro cs1 u0 u1 u2 u3 u4 u5 u6 u7 u8 u9 cs9 h; cases (show (none : Option CS) = _ from h)
  | succ lf_32 ih_32 =>
    intro cs1 u0 u1 u2 u3 u4 u5 u6 u7 u8 u9 cs9 h
    rw [c_X11_tellChanges_L32] at h
    have hq : cs1.1 = cs1.1 := rfl
    by_cases c_1 : u4 ≤ u7
    · skip
      replace h := (if_pos c_1).symm.trans h
      obtain k9 := mo_c_X11_tellChanges_b66 F rc15 hrc15 cs1 u0 u1 u2 u3 u4 u5 u6 u7 u8 u9 cs9 h
      exact k9.trans hq
    · skip
      replace h := (if_neg c_1).symm.trans h
      replace h := ob h; obtain ⟨w_3, hw_3, h⟩ := h
      replace h := ob h; obtain ⟨v_2, hv_2, h⟩ := h
      by_cases c_4 : 0 ≤ v_2
      · skip
        replace h := (if_pos c_4).symm.trans h
        obtain k9 := mo_c_X11_tellChanges_b66 F rc15 hrc15 cs1 u0 u1 u2 u3 u4 u5 u6 u7 u8 u9 cs9 h
        exact k9.trans hq
      · skip
        replace h := (if_neg c_4).symm.trans h
        obtain k9 := ih_32 cs1 u0 u1 u2 u3 u4 u5 u6 (u7 + 1) u8 u9 cs9 h
        exact k9.trans hq
theorem mo_c_X11_tellChanges_L15 (F : Nat) : ∀ (lf_15 : Nat) (cs1 : CS) (u0 : Nat) (u1 : Nat) (u2 : Int32) (u3 : Nat) (u4 : Int32) (u5 : Int32) (u6 : Int32) (u7 : Int32) (u9 : Int32) (cs9 : CS), c_X11_tellChanges_L15 F lf_15 cs1 u0 u1 u2 u3 u4 u5 u6 u7 u9 = some cs9 → cs9.1 = cs1.1 := by
  intro lf_15
  induction lf_15 with
  | zero => intro cs1 u0 u1 u2 u3 u4 u5 u6 u7 u9 cs9 h; cases (show (none : Option CS) = _ from h)
  | succ lf_15 ih_15 =>
    intro cs1 u0 u1 u2 u3 u4 u5 u6 u7 u9 cs9 h
    rw [c_X11_tellChanges_L15] at h
    have hq : cs1.1 = cs1.1 := rfl
    by_cases c_1 : u2 ≤ u9
    · skip
      replace h := (if_pos c_1).symm.trans h
      have h9 := Option.some.inj h
      exact (congrArg (fun z => z.1) h9).symm.trans hq
    · skip
      replace h := (if_neg c_1).symm.trans h
      replace h := ob h; obtain ⟨w_3, hw_3, h⟩ := h
      replace h := ob h; obtain ⟨v_2, hv_2, h⟩ := h
      obtain k9 := mo_c_X11_tellChanges_L32 F (c_X11_tellChanges_L15 F lf_15) ih_15 F cs1 u0 u1 u2 u3 u4 u5 u6 u7 v_2 u9 cs9 h
      exact k9.trans hq
theorem mo_c_X11_tellChanges (F : Nat) (cs : CS) (x0 : Nat) (x1 : Nat) (x2 : Int32) (x3 : Nat) (x4 : Int32) (x5 : Int32) (cs9 : CS) (h : c_X11_tellChanges F cs x0 x1 x2 x3 x4 x5 = some cs9) : cs9.1 = cs.1 := by
  unfold c_X11_tellChanges at h
  have hq : cs.1 = cs.1 := rfl
  replace h := ob h; obtain ⟨w_2, hw_2, h⟩ := h
  replace h := ob h; obtain ⟨v_1, hv_1, h⟩ := h
  obtain k9 := mo_c_X11_tellChanges_L15 F F cs x0 x1 x2 x3 x4 x5 v_1 0 0 cs9 h
  exact k9.trans hq
theorem mo_c_X11_value (F : Nat) (cs : CS) (x0 : Nat) (x1 : Int64) (cs9 : CS) (r9 : Int32) (h : c_X11_value F cs x0 x1 = some (cs9, r9)) : cs9.1 = cs.1 := by
  unfold c_X11_value at h
  have hq : cs.1 = cs.1 := rfl
  replace h := ob h; obtain ⟨v_1, hv_1, h⟩ := h
  replace h := ob h; obtain ⟨i_3, hi_3, h⟩ := h
  subst hi_3
  replace h := ob h; obtain ⟨w_4, hw_4, h⟩ := h
  replace h := ob h; obtain ⟨z_2, hv_2, h⟩ := h
  replace hq := (mo_c_X7_draft F cs i_3 x1 0 z_2.1 z_2.2 hv_2).trans hq
  have h9 := (Prod.mk.inj (Option.some.inj h)).1
  exact (congrArg (fun z => z.1) h9).symm.trans hq
theorem mo_c_X11_nothing (F : Nat) (cs : CS) (x0 : Nat) (cs9 : CS) (r9 : Int32) (h : c_X11_nothing F cs x0 = some (cs9, r9)) : cs9.1 = cs.1 := by
  unfold c_X11_nothing at h
  have hq : cs.1 = cs.1 := rfl
  replace h := ob h; obtain ⟨v_1, hv_1, h⟩ := h
  replace h := ob h; obtain ⟨i_3, hi_3, h⟩ := h
  subst hi_3
  replace h := ob h; obtain ⟨w_4, hw_4, h⟩ := h
  replace h := ob h; obtain ⟨z_2, hv_2, h⟩ := h
  replace hq := (mo_c_X7_draft F cs i_3 0 1 z_2.1 z_2.2 hv_2).trans hq
  have h9 := (Prod.mk.inj (Option.some.inj h)).1
  exact (congrArg (fun z => z.1) h9).symm.trans hq
theorem mo_c_X11_three (F : Nat) (cs : CS) (x0 : Nat) (x1 : Int32) (x2 : Int32) (x3 : Int32) (cs9 : CS) (r9 : Int32) (h : c_X11_three F cs x0 x1 x2 x3 = some (cs9, r9)) : cs9.1 = cs.1 := by
  unfold c_X11_three at h
  have hq : cs.1 = cs.1 := rfl
  by_cases c_1 : x1 = 0
  · skip
    replace h := (if_pos c_1).symm.trans h
    replace h := ob h; obtain ⟨v_2, hv_2, h⟩ := h
    replace h := ob h; obtain ⟨i_4, hi_4, h⟩ := h
    subst hi_4
    replace h := ob h; obtain ⟨w_5, hw_5, h⟩ := h
    replace h := ob h; obtain ⟨z_3, hv_3, h⟩ := h
    replace hq := (mo_c_X1_weigh F cs i_4 28 x2 x3 z_3.1 z_3.2 hv_3).trans hq
    have h9 := (Prod.mk.inj (Option.some.inj h)).1
    exact (congrArg (fun z => z.1) h9).symm.trans hq
  replace h := (if_neg c_1).symm.trans h
  by_cases c_6 : x1 = 1
  · skip
    replace h := (if_pos c_6).symm.trans h
    replace h := ob h; obtain ⟨v_7, hv_7, h⟩ := h
    replace h := ob h; obtain ⟨i_9, hi_9, h⟩ := h
    subst hi_9
    replace h := ob h; obtain ⟨w_10, hw_10, h⟩ := h
    replace h := ob h; obtain ⟨z_8, hv_8, h⟩ := h
    replace hq := (mo_c_X1_weigh F cs i_9 29 x2 x3 z_8.1 z_8.2 hv_8).trans hq
    have h9 := (Prod.mk.inj (Option.some.inj h)).1
    exact (congrArg (fun z => z.1) h9).symm.trans hq
  replace h := (if_neg c_6).symm.trans h
  by_cases c_11 : x1 = 2
  · skip
    replace h := (if_pos c_11).symm.trans h
    replace h := ob h; obtain ⟨v_12, hv_12, h⟩ := h
    replace h := ob h; obtain ⟨i_14, hi_14, h⟩ := h
    subst hi_14
    replace h := ob h; obtain ⟨w_15, hw_15, h⟩ := h
    replace h := ob h; obtain ⟨z_13, hv_13, h⟩ := h
    replace hq := (mo_c_X1_weigh F cs i_14 25 x2 x3 z_13.1 z_13.2 hv_13).trans hq
    have h9 := (Prod.mk.inj (Option.some.inj h)).1
    exact (congrArg (fun z => z.1) h9).symm.trans hq
  replace h := (if_neg c_11).symm.trans h
  by_cases c_16 : x1 = 3
  · skip
    replace h := (if_pos c_16).symm.trans h
    replace h := ob h; obtain ⟨v_17, hv_17, h⟩ := h
    replace h := ob h; obtain ⟨i_19, hi_19, h⟩ := h
    subst hi_19
    replace h := ob h; obtain ⟨w_20, hw_20, h⟩ := h
    replace h := ob h; obtain ⟨z_18, hv_18, h⟩ := h
    replace hq := (mo_c_X1_weigh F cs i_19 50 x2 x3 z_18.1 z_18.2 hv_18).trans hq
    have h9 := (Prod.mk.inj (Option.some.inj h)).1
    exact (congrArg (fun z => z.1) h9).symm.trans hq
  replace h := (if_neg c_16).symm.trans h
  by_cases c_21 : x1 = 4
  · skip
    replace h := (if_pos c_21).symm.trans h
    replace h := ob h; obtain ⟨v_22, hv_22, h⟩ := h
    replace h := ob h; obtain ⟨i_24, hi_24, h⟩ := h
    subst hi_24
    replace h := ob h; obtain ⟨w_25, hw_25, h⟩ := h
    replace h := ob h; obtain ⟨z_23, hv_23, h⟩ := h
    replace hq := (mo_c_X1_weigh F cs i_24 51 x2 x3 z_23.1 z_23.2 hv_23).trans hq
    have h9 := (Prod.mk.inj (Option.some.inj h)).1
    exact (congrArg (fun z => z.1) h9).symm.trans hq
  replace h := (if_neg c_21).symm.trans h
  by_cases c_26 : x1 = 5
  · skip
    replace h := (if_pos c_26).symm.trans h
    replace h := ob h; obtain ⟨v_27, hv_27, h⟩ := h
    replace h := ob h; obtain ⟨i_29, hi_29, h⟩ := h
    subst hi_29
    replace h := ob h; obtain ⟨w_30, hw_30, h⟩ := h
    replace h := ob h; obtain ⟨z_28, hv_28, h⟩ := h
    replace hq := (mo_c_X1_weigh F cs i_29 45 x2 x3 z_28.1 z_28.2 hv_28).trans hq
    have h9 := (Prod.mk.inj (Option.some.inj h)).1
    exact (congrArg (fun z => z.1) h9).symm.trans hq
  replace h := (if_neg c_26).symm.trans h
  have h9 := (Prod.mk.inj (Option.some.inj h)).1
  exact (congrArg (fun z => z.1) h9).symm.trans hq

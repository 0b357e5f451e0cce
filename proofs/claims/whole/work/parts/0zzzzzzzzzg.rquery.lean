/-! the QUERY methods of the parser: whose roots lie where -/
theorem b91_x {F u1 : Nat} {cs1 cs9 : CS} {u3 : Int32} {u4 : Int64} (h : c_X9_readItem_b91 F cs1 u1 u3 u4 = some cs9) : c_X2_add F cs1 u1 u3 u4 0 1 = some cs9 := by
  unfold c_X9_readItem_b91 at h
  replace h := ob h; obtain ⟨w1, g1, h⟩ := h
  replace h := ob h; obtain ⟨c1, h1, h⟩ := h
  rw [← Option.some.inj h]
  exact h1
theorem rb_b90 {c K k F : Nat} {rc43 : CS → Nat → Nat → Nat → Int32 → Int32 → Option CS} (hrc43 : ∀ (cs1 : CS) (u0 : Nat) (u1 : Nat) (u2 : Nat) (u3 : Int32) (u4 : Int32) (cs9 : CS), rc43 cs1 u0 u1 u2 u3 u4 = some cs9 → RBX u0 c K 0 0 false cs1 cs9) {a z cs1 cs9 : CS} {u0 u1 u2 y3 : Nat} {u4 y0 y2 : Int32} {y1 : Int64} (hr : RTV u0 z y2) (E : ∀ b, RBX u0 c K b 1 true a z) (he : RBX u0 c K 0 k true z cs1) (h : c_X9_readOrder_b90 F rc43 cs1 u0 u1 u2 u4 y0 y1 y2 y3 = some cs9) : RBX u0 c K 0 0 false a cs9 := by
  unfold c_X9_readOrder_b90 at h
  replace h := ob h; obtain ⟨w1, g1, h⟩ := h
  replace h := ob h; obtain ⟨c2, h2, h⟩ := h
  replace h := ob h; obtain ⟨w3, g3, h⟩ := h
  replace h := ob h; obtain ⟨z4, h4, h⟩ := h
  exact ((sto_rb hr E he (sto_A h2)).trans (rb_c_X9_accept c K false 0 F c2 u0 43 z4.1 z4.2 h4)).trans (hrc43 _ _ _ _ _ _ _ h)
theorem rb_c_X9_readItem (c K : Nat) (F : Nat) (cs : CS) (x0 : Nat) (x1 : Nat) (cs9 : CS) (h : c_X9_readItem F cs x0 x1 = some cs9) : RBX x0 c K 0 0 false cs cs9 := by
  unfold c_X9_readItem at h
  have hq : RBX x0 c K 0 0 false cs cs := RBX.refl
  replace h := ob h; obtain ⟨w_2, hw_2, h⟩ := h
  replace h := ob h; obtain ⟨v_1, hv_1, h⟩ := h
  replace h := ob h; obtain ⟨w_4, hw_4, h⟩ := h
  replace h := ob h; obtain ⟨cs_3, hv_3, h⟩ := h
  replace hq := hq.trans (ninth_rb hv_3)
  replace h := ob h; obtain ⟨w_6, hw_6, h⟩ := h
  replace h := ob h; obtain ⟨v_5, hv_5, h⟩ := h
  replace h := ob h; obtain ⟨w_8, hw_8, h⟩ := h
  replace h := ob h; obtain ⟨z_7, hv_7, h⟩ := h
  have hr := rt_ex (cs9 := z_7.1) (r9 := z_7.2) hv_7
  have hE := fun b => rb_c_X9_readExpr c K true b F 300 cs_3 x0 z_7.1 z_7.2 hv_7
  have he : RBX x0 c K 0 0 true z_7.1 z_7.1 := RBX.refl
  replace h := ob h; obtain ⟨w_10, hw_10, h⟩ := h
  replace h := ob h; obtain ⟨z_9, hv_9, h⟩ := h
  replace he := he.trans (rb_c_X9_accept c K true 0 F z_7.1 x0 17 z_9.1 z_9.2 hv_9)
  by_cases c_11 : z_9.2 = 0
  · skip
    replace h := (if_pos c_11).symm.trans h
    replace h := ob h; obtain ⟨v_12, hv_12, h⟩ := h
    replace h := ob h; obtain ⟨i_14, hi_14, h⟩ := h
    subst hi_14
    replace h := ob h; obtain ⟨w_15, hw_15, h⟩ := h
    replace h := ob h; obtain ⟨v_13, hv_13, h⟩ := h
    by_cases c_16 : v_13 = 0
    · skip
      replace h := (if_pos c_16).symm.trans h
      have k9 := sto_rb hr hE he (sto_A (t := x0) (c := c) (b91_x h))
      exact (hq.trans k9).le (Nat.zero_le _)
    · skip
      replace h := (if_neg c_16).symm.trans h
      replace h := ob h; obtain ⟨v_17, hv_17, h⟩ := h
      replace h := ob h; obtain ⟨i_18, hi_18, h⟩ := h
      subst hi_18
      replace h := ob h; obtain ⟨v_19, hv_19, h⟩ := h
      replace h := ob h; obtain ⟨v_20, hv_20, h⟩ := h
      by_cases c_21 : v_20 = 39
      · skip
        replace h := (if_pos c_21).symm.trans h
        replace h := ob h; obtain ⟨v_22, hv_22, h⟩ := h
        replace h := ob h; obtain ⟨i_23, hi_23, h⟩ := h
        subst hi_23
        replace h := ob h; obtain ⟨v_24, hv_24, h⟩ := h
        replace h := ob h; obtain ⟨v_25, hv_25, h⟩ := h
        by_cases c_26 : v_25 = v_5
        · skip
          replace h := (if_pos c_26).symm.trans h
          replace h := ob h; obtain ⟨v_27, hv_27, h⟩ := h
          replace h := ob h; obtain ⟨i_28, hi_28, h⟩ := h
          subst hi_28
          replace h := ob h; obtain ⟨v_29, hv_29, h⟩ := h
          replace h := ob h; obtain ⟨v_30, hv_30, h⟩ := h
          have k9 := sto_rb hr hE he (sto_A (t := x0) (c := c) (b91_x h))
          exact (hq.trans k9).le (Nat.zero_le _)
        · skip
          replace h := (if_neg c_26).symm.trans h
          have k9 := sto_rb hr hE he (sto_A (t := x0) (c := c) (b91_x h))
          exact (hq.trans k9).le (Nat.zero_le _)
      · skip
        replace h := (if_neg c_21).symm.trans h
        have k9 := sto_rb hr hE he (sto_A (t := x0) (c := c) (b91_x h))
        exact (hq.trans k9).le (Nat.zero_le _)
  · skip
    replace h := (if_neg c_11).symm.trans h
    replace h := ob h; obtain ⟨w_32, hw_32, h⟩ := h
    replace h := ob h; obtain ⟨z_31, hv_31, h⟩ := h
    replace he := he.trans (rb_c_X9_readName c K true 0 F z_9.1 x0 z_31.1 z_31.2 hv_31)
    have k9 := sto_rb hr hE he (sto_A (t := x0) (c := c) (b91_x h))
    exact (hq.trans k9).le (Nat.zero_le _)
theorem rb_c_X9_readLeaf_b105 (c K : Nat) (t : Nat) (F : Nat) (cs1 : CS) (cs9 : CS) (h : c_X9_readLeaf_b105 F cs1 = some cs9) : RBX t c K 0 0 false cs1 cs9 := by
  unfold c_X9_readLeaf_b105 at h
  have hq : RBX t c K 0 0 false cs1 cs1 := RBX.refl
  have h9 := Option.some.inj h
  exact (hq.to h9).le (Nat.zero_le _)
theorem rb_c_X9_readLeaf_b32 (c K : Nat) (F : Nat) (cs1 : CS) (u0 : Nat) (cs9 : CS) (h : c_X9_readLeaf_b32 F cs1 u0 = some cs9) : RBX u0 c K 0 0 false cs1 cs9 := by
  unfold c_X9_readLeaf_b32 at h
  have hq : RBX u0 c K 0 0 false cs1 cs1 := RBX.refl
  replace h := ob h; obtain ⟨w_2, hw_2, h⟩ := h
  replace h := ob h; obtain ⟨v_1, hv_1, h⟩ := h
  replace h := ob h; obtain ⟨w_4, hw_4, h⟩ := h
  replace h := ob h; obtain ⟨cs_3, hv_3, h⟩ := h
  replace hq := hq.trans ((ref_rb (by decide) hv_3).le (Nat.zero_le _))
  have k9 := rb_c_X9_readLeaf_b105 c K u0 F cs_3 cs9 h
  exact (hq.trans k9).le (Nat.zero_le _)
theorem rb_c_X9_readLeaf (c K : Nat) (F : Nat) (cs : CS) (x0 : Nat) (x1 : Nat) (cs9 : CS) (h : c_X9_readLeaf F cs x0 x1 = some cs9) : RBX x0 c K 0 0 false cs cs9 := by
  unfold c_X9_readLeaf at h
  have hq : RBX x0 c K 0 0 false cs cs := RBX.refl
  replace h := ob h; obtain ⟨w_2, hw_2, h⟩ := h
  replace h := ob h; obtain ⟨v_1, hv_1, h⟩ := h
  replace h := ob h; obtain ⟨w_4, hw_4, h⟩ := h
  replace h := ob h; obtain ⟨v_3, hv_3, h⟩ := h
  by_cases c_5 : v_3 = 39
  · skip
    replace h := (if_pos c_5).symm.trans h
    by_cases c_6 : (v_1 - (730)) < 0
    · skip
      replace h := (if_pos c_6).symm.trans h
      have k9 := rb_c_X9_readLeaf_b32 c K F cs x0 cs9 h
      exact (hq.trans k9).le (Nat.zero_le _)
    · skip
      replace h := (if_neg c_6).symm.trans h
      by_cases c_7 : (v_1 - (730)) ≤ (9)
      · skip
        replace h := (if_pos c_7).symm.trans h
        replace h := ob h; obtain ⟨v_8, hv_8, h⟩ := h
        replace h := ob h; obtain ⟨v_9, hv_9, h⟩ := h
        replace h := ob h; obtain ⟨v_10, hv_10, h⟩ := h
        by_cases c_11 : v_8 < v_10
        · skip
          replace h := (if_pos c_11).symm.trans h
          replace h := ob h; obtain ⟨cs_12, hv_12, h⟩ := h
          replace hq := hq.trans (RBX.pI (by decide) hv_12)
          replace h := ob h; obtain ⟨v_13, hv_13, h⟩ := h
          replace h := ob h; obtain ⟨v_14, hv_14, h⟩ := h
          replace h := ob h; obtain ⟨w_15, hw_15, h⟩ := h
          replace h := ob h; obtain ⟨cs_15, hv_15, h⟩ := h
          replace hq := hq.trans (RBX.wQ rfl hv_15)
          replace h := ob h; obtain ⟨v_16, hv_16, h⟩ := h
          replace h := ob h; obtain ⟨cs_17, hv_17, h⟩ := h
          replace hq := hq.trans (RBX.pI (by decide) hv_17)
          replace h := ob h; obtain ⟨v_18, hv_18, h⟩ := h
          replace h := ob h; obtain ⟨cs_19, hv_19, h⟩ := h
          replace hq := hq.trans (RBX.pI (by decide) hv_19)
          have k9 := rb_c_X9_readLeaf_b105 c K x0 F cs_19 cs9 h
          exact (hq.trans k9).le (Nat.zero_le _)
        · skip
          replace h := (if_neg c_11).symm.trans h
          replace h := ob h; obtain ⟨w_21, hw_21, h⟩ := h
          replace h := ob h; obtain ⟨v_20, hv_20, h⟩ := h
          replace h := ob h; obtain ⟨w_23, hw_23, h⟩ := h
          replace h := ob h; obtain ⟨cs_22, hv_22, h⟩ := h
          replace hq := hq.trans ((ref_rb (by decide) hv_22).le (Nat.zero_le _))
          have k9 := rb_c_X9_readLeaf_b105 c K x0 F cs_22 cs9 h
          exact (hq.trans k9).le (Nat.zero_le _)
      · skip
        replace h := (if_neg c_7).symm.trans h
        have k9 := rb_c_X9_readLeaf_b32 c K F cs x0 cs9 h
        exact (hq.trans k9).le (Nat.zero_le _)
  · skip
    replace h := (if_neg c_5).symm.trans h
    have k9 := rb_c_X9_readLeaf_b32 c K F cs x0 cs9 h
    exact (hq.trans k9).le (Nat.zero_le _)
theorem rb_c_X9_addSource_b32 (c K : Nat) (t : Nat) (F : Nat) (cs1 : CS) (cs9 : CS) (h : c_X9_addSource_b32 F cs1 = some cs9) : RBX t c K 0 0 false cs1 cs9 := by
  unfold c_X9_addSource_b32 at h
  have hq : RBX t c K 0 0 false cs1 cs1 := RBX.refl
  have h9 := Option.some.inj h
  exact (hq.to h9).le (Nat.zero_le _)
theorem rb_c_X9_addSource (c K : Nat) (t : Nat) (F : Nat) (cs : CS) (x0 : Nat) (x1 : Nat) (cs9 : CS) (h : c_X9_addSource F cs x0 x1 = some cs9) : RBX t c K 0 0 false cs cs9 := by
  unfold c_X9_addSource at h
  have hq : RBX t c K 0 0 false cs cs := RBX.refl
  replace h := ob h; obtain ⟨v_1, hv_1, h⟩ := h
  replace h := ob h; obtain ⟨v_2, hv_2, h⟩ := h
  replace h := ob h; obtain ⟨v_3, hv_3, h⟩ := h
  by_cases c_4 : v_3 ≤ v_1
  · skip
    replace h := (if_pos c_4).symm.trans h
    have k9 := rb_c_X9_addSource_b32 c K t F cs cs9 h
    exact (hq.trans k9).le (Nat.zero_le _)
  · skip
    replace h := (if_neg c_4).symm.trans h
    replace h := ob h; obtain ⟨v_5, hv_5, h⟩ := h
    replace h := ob h; obtain ⟨v_6, hv_6, h⟩ := h
    replace h := ob h; obtain ⟨w_7, hw_7, h⟩ := h
    replace h := ob h; obtain ⟨cs_7, hv_7, h⟩ := h
    replace hq := hq.trans (RBX.wQ rfl hv_7)
    replace h := ob h; obtain ⟨v_8, hv_8, h⟩ := h
    replace h := ob h; obtain ⟨cs_9, hv_9, h⟩ := h
    replace hq := hq.trans (RBX.pI (by decide) hv_9)
    have k9 := rb_c_X9_addSource_b32 c K t F cs_9 cs9 h
    exact (hq.trans k9).le (Nat.zero_le _)
theorem rb_c_X9_readGroups_b99 (c K : Nat) (t : Nat) (F : Nat) (cs1 : CS) (cs9 : CS) (h : c_X9_readGroups_b99 F cs1 = some cs9) : RBX t c K 0 0 false cs1 cs9 := by
  unfold c_X9_readGroups_b99 at h
  have hq : RBX t c K 0 0 false cs1 cs1 := RBX.refl
  have h9 := Option.some.inj h
  exact (hq.to h9).le (Nat.zero_le _)
theorem rb_c_X9_readGroups_L29 (c K : Nat) (F : Nat) : ∀ (lf_29 : Nat) (cs1 : CS) (u0 : Nat) (u1 : Nat) (u2 : Int32) (u3 : Int32) (cs9 : CS), c_X9_readGroups_L29 F lf_29 cs1 u0 u1 u2 u3 = some cs9 → RBX u0 c K 0 0 false cs1 cs9 := by
  intro lf_29
  induction lf_29 with
  | zero => intro cs1 u0 u1 u2 u3 cs9 h; cases (show (none : Option CS) = _ from h)
  | succ lf_29 ih_29 =>
    intro cs1 u0 u1 u2 u3 cs9 h
    rw [c_X9_readGroups_L29] at h
    have hq : RBX u0 c K 0 0 false cs1 cs1 := RBX.refl
    by_cases c_1 : 2000 ≤ u3
    · skip
      replace h := (if_pos c_1).symm.trans h
      have k9 := rb_c_X9_readGroups_b99 c K u0 F cs1 cs9 h
      exact (hq.trans k9).le (Nat.zero_le _)
    · skip
      replace h := (if_neg c_1).symm.trans h
      by_cases c_2 : u2 = 0
      · skip
        replace h := (if_pos c_2).symm.trans h
        have k9 := rb_c_X9_readGroups_b99 c K u0 F cs1 cs9 h
        exact (hq.trans k9).le (Nat.zero_le _)
      · skip
        replace h := (if_neg c_2).symm.trans h
        replace h := ob h; obtain ⟨v_3, hv_3, h⟩ := h
        replace h := ob h; obtain ⟨i_5, hi_5, h⟩ := h
        subst hi_5
        replace h := ob h; obtain ⟨w_6, hw_6, h⟩ := h
        replace h := ob h; obtain ⟨v_4, hv_4, h⟩ := h
        replace h := ob h; obtain ⟨w_8, hw_8, h⟩ := h
        replace h := ob h; obtain ⟨cs_7, hv_7, h⟩ := h
        replace hq := hq.trans (ninth_rb hv_7)
        replace h := ob h; obtain ⟨w_10, hw_10, h⟩ := h
        replace h := ob h; obtain ⟨z_9, hv_9, h⟩ := h
        have hr := rt_ex (cs9 := z_9.1) (r9 := z_9.2) hv_9
        have hE := fun b => rb_c_X9_readExpr c K true b F 300 cs_7 u0 z_9.1 z_9.2 hv_9
        have he : RBX u0 c K 0 0 true z_9.1 z_9.1 := RBX.refl
        replace h := ob h; obtain ⟨w_12, hw_12, h⟩ := h
        replace h := ob h; obtain ⟨cs_11, hv_11, h⟩ := h
        replace he := he.trans (rb_c_X9_expect c K true 0 F z_9.1 u0 17 cs_11 hv_11)
        replace h := ob h; obtain ⟨w_14, hw_14, h⟩ := h
        replace h := ob h; obtain ⟨v_13, hv_13, h⟩ := h
        replace h := ob h; obtain ⟨v_15, hv_15, h⟩ := h
        replace h := ob h; obtain ⟨w_17, hw_17, h⟩ := h
        replace h := ob h; obtain ⟨z_16, hv_16, h⟩ := h
        replace he := he.trans (rb_c_X9_readName c K true 0 F cs_11 u0 z_16.1 z_16.2 hv_16)
        replace h := ob h; obtain ⟨i_19, hi_19, h⟩ := h
        subst hi_19
        replace h := ob h; obtain ⟨w_20, hw_20, h⟩ := h
        replace h := ob h; obtain ⟨cs_18, hv_18, h⟩ := h
        replace hq := hq.trans (sto_rb hr hE he (sto_A hv_18))
        replace h := ob h; obtain ⟨w_22, hw_22, h⟩ := h
        replace h := ob h; obtain ⟨z_21, hv_21, h⟩ := h
        replace hq := hq.trans (rb_c_X9_accept c K false 0 F cs_18 u0 43 z_21.1 z_21.2 hv_21)
        have k9 := ih_29 z_21.1 u0 u1 z_21.2 (u3 + 1) cs9 h
        exact (hq.trans k9).le (Nat.zero_le _)
theorem rb_c_X9_readGroups (c K : Nat) (F : Nat) (cs : CS) (x0 : Nat) (x1 : Nat) (cs9 : CS) (h : c_X9_readGroups F cs x0 x1 = some cs9) : RBX x0 c K 0 0 false cs cs9 := by
  unfold c_X9_readGroups at h
  have hq : RBX x0 c K 0 0 false cs cs := RBX.refl
  replace h := ob h; obtain ⟨cs_1, hv_1, h⟩ := h
  replace hq := hq.trans (RBX.pI (by decide) hv_1)
  replace h := ob h; obtain ⟨w_3, hw_3, h⟩ := h
  replace h := ob h; obtain ⟨v_2, hv_2, h⟩ := h
  replace h := ob h; obtain ⟨cs_4, hv_4, h⟩ := h
  replace hq := hq.trans (RBX.pI (by decide) hv_4)
  replace h := ob h; obtain ⟨w_6, hw_6, h⟩ := h
  replace h := ob h; obtain ⟨cs_5, hv_5, h⟩ := h
  replace hq := hq.trans (rb_c_X9_expect c K false 0 F cs_4 x0 7 cs_5 hv_5)
  replace h := ob h; obtain ⟨w_8, hw_8, h⟩ := h
  replace h := ob h; obtain ⟨cs_7, hv_7, h⟩ := h
  replace hq := hq.trans (rb_c_X9_expect c K false 0 F cs_5 x0 8 cs_7 hv_7)
  have k9 := rb_c_X9_readGroups_L29 c K F F cs_7 x0 x1 1 0 cs9 h
  exact (hq.trans k9).le (Nat.zero_le _)
theorem rb_c_X9_readOrder_b107 (c K : Nat) (F : Nat) (cs1 : CS) (u0 : Nat) (u1 : Nat) (cs9 : CS) (h : c_X9_readOrder_b107 F cs1 u0 u1 = some cs9) : RBX u0 c K 0 0 false cs1 cs9 := by
  unfold c_X9_readOrder_b107 at h
  have hq : RBX u0 c K 0 0 false cs1 cs1 := RBX.refl
  replace h := ob h; obtain ⟨w_33, hw_33, h⟩ := h
  replace h := ob h; obtain ⟨cs_32, hv_32, h⟩ := h
  replace hq := hq.trans (rb_c_X9_expect c K false 0 F cs1 u0 16 cs_32 hv_32)
  replace h := ob h; obtain ⟨w_35, hw_35, h⟩ := h
  replace h := ob h; obtain ⟨z_34, hv_34, h⟩ := h
  replace hq := hq.trans (rb_c_X9_readNumber c K false 0 F cs_32 u0 (100) z_34.1 z_34.2 hv_34)
  replace h := ob h; obtain ⟨v_36, hv_36, h⟩ := h
  replace h := ob h; obtain ⟨cs_37, hv_37, h⟩ := h
  replace hq := hq.trans (RBX.pI (by decide) hv_37)
  have h9 := Option.some.inj h
  exact (hq.to h9).le (Nat.zero_le _)
theorem rb_c_X9_readOrder_L43 (c K : Nat) (F : Nat) : ∀ (lf_43 : Nat) (cs1 : CS) (u0 : Nat) (u1 : Nat) (u2 : Nat) (u3 : Int32) (u4 : Int32) (cs9 : CS), c_X9_readOrder_L43 F lf_43 cs1 u0 u1 u2 u3 u4 = some cs9 → RBX u0 c K 0 0 false cs1 cs9 := by
  intro lf_43
  induction lf_43 with
  | zero => intro cs1 u0 u1 u2 u3 u4 cs9 h; cases (show (none : Option CS) = _ from h)
  | succ lf_43 ih_43 =>
    intro cs1 u0 u1 u2 u3 u4 cs9 h
    rw [c_X9_readOrder_L43] at h
    have hq : RBX u0 c K 0 0 false cs1 cs1 := RBX.refl
    by_cases c_32 : 2000 ≤ u4
    · skip
      replace h := (if_pos c_32).symm.trans h
      have k9 := rb_c_X9_readOrder_b107 c K F cs1 u0 u1 cs9 h
      exact (hq.trans k9).le (Nat.zero_le _)
    · skip
      replace h := (if_neg c_32).symm.trans h
      by_cases c_33 : u3 = 0
      · skip
        replace h := (if_pos c_33).symm.trans h
        have k9 := rb_c_X9_readOrder_b107 c K F cs1 u0 u1 cs9 h
        exact (hq.trans k9).le (Nat.zero_le _)
      · skip
        replace h := (if_neg c_33).symm.trans h
        replace h := ob h; obtain ⟨w_35, hw_35, h⟩ := h
        replace h := ob h; obtain ⟨v_34, hv_34, h⟩ := h
        replace h := ob h; obtain ⟨w_37, hw_37, h⟩ := h
        replace h := ob h; obtain ⟨cs_36, hv_36, h⟩ := h
        replace hq := hq.trans (ninth_rb hv_36)
        replace h := ob h; obtain ⟨w_39, hw_39, h⟩ := h
        replace h := ob h; obtain ⟨z_38, hv_38, h⟩ := h
        have hr := rt_ex (cs9 := z_38.1) (r9 := z_38.2) hv_38
        have hE := fun b => rb_c_X9_readExpr c K true b F 300 cs_36 u0 z_38.1 z_38.2 hv_38
        have he : RBX u0 c K 0 0 true z_38.1 z_38.1 := RBX.refl
        replace h := ob h; obtain ⟨w_41, hw_41, h⟩ := h
        replace h := ob h; obtain ⟨z_40, hv_40, h⟩ := h
        replace he := he.trans (rb_c_X9_accept c K true 0 F z_38.1 u0 15 z_40.1 z_40.2 hv_40)
        by_cases c_42 : z_40.2 = 0
        · skip
          replace h := (if_pos c_42).symm.trans h
          have k9 := rb_b90 (c := c) (K := K) ih_43 hr hE he h
          exact (hq.trans k9).le (Nat.zero_le _)
        · skip
          replace h := (if_neg c_42).symm.trans h
          have k9 := rb_b90 (c := c) (K := K) ih_43 hr hE he h
          exact (hq.trans k9).le (Nat.zero_le _)
theorem rb_c_X9_readOrder_b7 (c K : Nat) (F : Nat) (cs1 : CS) (u0 : Nat) (u1 : Nat) (y0 : Nat) (cs9 : CS) (h : c_X9_readOrder_b7 F cs1 u0 u1 y0 = some cs9) : RBX u0 c K 0 0 false cs1 cs9 := by
  unfold c_X9_readOrder_b7 at h
  have hq : RBX u0 c K 0 0 false cs1 cs1 := RBX.refl
  replace h := ob h; obtain ⟨cs_32, hv_32, h⟩ := h
  replace hq := hq.trans (RBX.pR (by decide) hv_32)
  replace h := ob h; obtain ⟨w_34, hw_34, h⟩ := h
  replace h := ob h; obtain ⟨v_33, hv_33, h⟩ := h
  replace h := ob h; obtain ⟨cs_35, hv_35, h⟩ := h
  replace hq := hq.trans (RBX.pI (by decide) hv_35)
  replace h := ob h; obtain ⟨w_37, hw_37, h⟩ := h
  replace h := ob h; obtain ⟨cs_36, hv_36, h⟩ := h
  replace hq := hq.trans (rb_c_X9_expect c K false 0 F cs_35 u0 14 cs_36 hv_36)
  replace h := ob h; obtain ⟨w_39, hw_39, h⟩ := h
  replace h := ob h; obtain ⟨cs_38, hv_38, h⟩ := h
  replace hq := hq.trans (rb_c_X9_expect c K false 0 F cs_36 u0 8 cs_38 hv_38)
  replace h := ob h; obtain ⟨cs_40, hv_40, h⟩ := h
  replace hq := hq.trans (RBX.pI (by decide) hv_40)
  have k9 := rb_c_X9_readOrder_L43 c K F F cs_40 u0 u1 y0 1 0 cs9 h
  exact (hq.trans k9).le (Nat.zero_le _)
theorem rb_c_X9_readOrder_b3 (c K : Nat) (F : Nat) (cs1 : CS) (u0 : Nat) (u1 : Nat) (y0 : Nat) (cs9 : CS) (h : c_X9_readOrder_b3 F cs1 u0 u1 y0 = some cs9) (hz : kI cs1 96 y0 = 0) : RBX u0 c K 0 0 false cs1 cs9 := by
  unfold c_X9_readOrder_b3 at h
  have hq : RBX u0 c K 0 0 false cs1 cs1 := RBX.refl
  replace h := ob h; obtain ⟨cs_32, hv_32, h⟩ := h
  replace hq := hq.trans ((x2_rb hz hv_32).1)
  have k9 := rb_c_X9_readOrder_b7 c K F cs_32 u0 u1 y0 cs9 h
  exact (hq.trans k9).le (Nat.zero_le _)
theorem rb_c_X9_readOrder (c K : Nat) (F : Nat) (cs : CS) (x0 : Nat) (x1 : Nat) (cs9 : CS) (h : c_X9_readOrder F cs x0 x1 = some cs9) : RBX x0 c K 0 0 false cs cs9 := by
  unfold c_X9_readOrder at h
  have hq : RBX x0 c K 0 0 false cs cs := RBX.refl
  replace h := ob h; obtain ⟨cs_32, hv_32, h⟩ := h
  replace hq := hq.trans (RBX.nwO (by decide) hv_32)
  have k9 := rb_c_X9_readOrder_b3 c K F cs_32 x0 x1 (kK cs) cs9 h (nwO_z rfl hv_32)
  exact (hq.trans k9).le (Nat.zero_le _)
theorem rb_c_X3_init_b24 (c K : Nat) (t : Nat) (F : Nat) (cs1 : CS) (u0 : Nat) (u1 : Nat) (cs9 : CS) (h : c_X3_init_b24 F cs1 u0 u1 = some cs9) : RBX t c K 0 0 false cs1 cs9 := by
  unfold c_X3_init_b24 at h
  have hq : RBX t c K 0 0 false cs1 cs1 := RBX.refl
  replace h := ob h; obtain ⟨v_3, hv_3, h⟩ := h
  replace h := ob h; obtain ⟨cs_4, hv_4, h⟩ := h
  replace hq := hq.trans (RBX.pR (by decide) hv_4)
  have h9 := Option.some.inj h
  exact (hq.to h9).le (Nat.zero_le _)
theorem rb_c_X3_init (c K : Nat) (t : Nat) (F : Nat) (cs : CS) (x0 : Nat) (x1 : Nat) (cs9 : CS) (h : c_X3_init F cs x0 x1 = some cs9) : RBX t c K 0 0 false cs cs9 := by
  unfold c_X3_init at h
  have hq : RBX t c K 0 0 false cs cs := RBX.refl
  replace h := ob h; obtain ⟨cs_3, hv_3, h⟩ := h
  replace hq := hq.trans (RBX.nwL hv_3)
  have k9 := rb_c_X3_init_b24 c K t F cs_3 x0 x1 cs9 h
  exact (hq.trans k9).le (Nat.zero_le _)
theorem rb_c_X9_readQuery_b133 (c K : Nat) (t : Nat) (F : Nat) (T : TC_X9_readQuery) (hM_X9_readQuery : ∀ (cs : CS) (x0 : Nat) (cs9 : CS) (r9 : Nat), T.1 cs x0 = some (cs9, r9) → RBX x0 c K 0 0 false cs cs9) (hM_X9_readSelect : ∀ (cs : CS) (x0 : Nat) (cs9 : CS) (r9 : Nat), T.2.1 cs x0 = some (cs9, r9) → RBX x0 c K 0 0 false cs cs9) (hM_X9_readSources : ∀ (cs : CS) (x0 : Nat) (x1 : Nat) (cs9 : CS), T.2.2.1 cs x0 x1 = some cs9 → RBX x0 c K 0 0 false cs cs9) (hM_X9_readSource : ∀ (cs : CS) (x0 : Nat) (cs9 : CS) (r9 : Nat), T.2.2.2 cs x0 = some (cs9, r9) → RBX x0 c K 0 0 false cs cs9) (cs1 : CS) (u1 : Nat) (cs9 : CS) (r9 : Nat) (h : c_X9_readQuery_b133 F T cs1 u1 = some (cs9, r9)) : RBX t c K 0 0 false cs1 cs9 := by
  unfold c_X9_readQuery_b133 at h
  have hq : RBX t c K 0 0 false cs1 cs1 := RBX.refl
  have h9 := (Prod.mk.inj (Option.some.inj h)).1
  exact (hq.to h9).le (Nat.zero_le _)
theorem rb_c_X9_readQuery_b119 (c K : Nat) (F : Nat) (T : TC_X9_readQuery) (hM_X9_readQuery : ∀ (cs : CS) (x0 : Nat) (cs9 : CS) (r9 : Nat), T.1 cs x0 = some (cs9, r9) → RBX x0 c K 0 0 false cs cs9) (hM_X9_readSelect : ∀ (cs : CS) (x0 : Nat) (cs9 : CS) (r9 : Nat), T.2.1 cs x0 = some (cs9, r9) → RBX x0 c K 0 0 false cs cs9) (hM_X9_readSources : ∀ (cs : CS) (x0 : Nat) (x1 : Nat) (cs9 : CS), T.2.2.1 cs x0 x1 = some cs9 → RBX x0 c K 0 0 false cs cs9) (hM_X9_readSource : ∀ (cs : CS) (x0 : Nat) (cs9 : CS) (r9 : Nat), T.2.2.2 cs x0 = some (cs9, r9) → RBX x0 c K 0 0 false cs cs9) (cs1 : CS) (u0 : Nat) (u1 : Nat) (cs9 : CS) (r9 : Nat) (h : c_X9_readQuery_b119 F T cs1 u0 u1 = some (cs9, r9)) : RBX u0 c K 0 0 false cs1 cs9 := by
  unfold c_X9_readQuery_b119 at h
  have hq : RBX u0 c K 0 0 false cs1 cs1 := RBX.refl
  replace h := ob h; obtain ⟨w_33, hw_33, h⟩ := h
  replace h := ob h; obtain ⟨v_32, hv_32, h⟩ := h
  by_cases c_34 : v_32 = 14
  · skip
    replace h := (if_pos c_34).symm.trans h
    replace h := ob h; obtain ⟨w_36, hw_36, h⟩ := h
    replace h := ob h; obtain ⟨cs_35, hv_35, h⟩ := h
    replace hq := hq.trans (rb_c_X9_readOrder c K F cs1 u0 u1 cs_35 hv_35)
    have k9 := rb_c_X9_readQuery_b133 c K u0 F T hM_X9_readQuery hM_X9_readSelect hM_X9_readSources hM_X9_readSource cs_35 u1 cs9 r9 h
    exact (hq.trans k9).le (Nat.zero_le _)
  · skip
    replace h := (if_neg c_34).symm.trans h
    have k9 := rb_c_X9_readQuery_b133 c K u0 F T hM_X9_readQuery hM_X9_readSelect hM_X9_readSources hM_X9_readSource cs1 u1 cs9 r9 h
    exact (hq.trans k9).le (Nat.zero_le _)
theorem rb_c_X9_readQuery_b112 (c K : Nat) (F : Nat) (T : TC_X9_readQuery) (hM_X9_readQuery : ∀ (cs : CS) (x0 : Nat) (cs9 : CS) (r9 : Nat), T.1 cs x0 = some (cs9, r9) → RBX x0 c K 0 0 false cs cs9) (hM_X9_readSelect : ∀ (cs : CS) (x0 : Nat) (cs9 : CS) (r9 : Nat), T.2.1 cs x0 = some (cs9, r9) → RBX x0 c K 0 0 false cs cs9) (hM_X9_readSources : ∀ (cs : CS) (x0 : Nat) (x1 : Nat) (cs9 : CS), T.2.2.1 cs x0 x1 = some cs9 → RBX x0 c K 0 0 false cs cs9) (hM_X9_readSource : ∀ (cs : CS) (x0 : Nat) (cs9 : CS) (r9 : Nat), T.2.2.2 cs x0 = some (cs9, r9) → RBX x0 c K 0 0 false cs cs9) (rc14 : CS → Nat → Nat → Int32 → Option (CS × Nat)) (hrc14 : ∀ (cs1 : CS) (u0 : Nat) (u1 : Nat) (u2 : Int32) (cs9 : CS) (r9 : Nat), rc14 cs1 u0 u1 u2 = some (cs9, r9) → RBX u0 c K 0 0 false cs1 cs9) (cs1 : CS) (u0 : Nat) (u1 : Nat) (u2 : Int32) (y0 : Int32) (cs9 : CS) (r9 : Nat) (h : c_X9_readQuery_b112 F T rc14 cs1 u0 u1 u2 y0 = some (cs9, r9)) : RBX u0 c K 0 0 false cs1 cs9 := by
  unfold c_X9_readQuery_b112 at h
  have hq : RBX u0 c K 0 0 false cs1 cs1 := RBX.refl
  have k9 := hrc14 cs1 u0 u1 (u2 + 1) cs9 r9 h
  exact (hq.trans k9).le (Nat.zero_le _)
theorem rb_c_X9_readQuery_b93 (c K : Nat) (F : Nat) (T : TC_X9_readQuery) (hM_X9_readQuery : ∀ (cs : CS) (x0 : Nat) (cs9 : CS) (r9 : Nat), T.1 cs x0 = some (cs9, r9) → RBX x0 c K 0 0 false cs cs9) (hM_X9_readSelect : ∀ (cs : CS) (x0 : Nat) (cs9 : CS) (r9 : Nat), T.2.1 cs x0 = some (cs9, r9) → RBX x0 c K 0 0 false cs cs9) (hM_X9_readSources : ∀ (cs : CS) (x0 : Nat) (x1 : Nat) (cs9 : CS), T.2.2.1 cs x0 x1 = some cs9 → RBX x0 c K 0 0 false cs cs9) (hM_X9_readSource : ∀ (cs : CS) (x0 : Nat) (cs9 : CS) (r9 : Nat), T.2.2.2 cs x0 = some (cs9, r9) → RBX x0 c K 0 0 false cs cs9) (rc14 : CS → Nat → Nat → Int32 → Option (CS × Nat)) (hrc14 : ∀ (cs1 : CS) (u0 : Nat) (u1 : Nat) (u2 : Int32) (cs9 : CS) (r9 : Nat), rc14 cs1 u0 u1 u2 = some (cs9, r9) → RBX u0 c K 0 0 false cs1 cs9) (cs1 : CS) (u0 : Nat) (u1 : Nat) (u2 : Int32) (u4 : Int32) (u6 : Nat) (y0 : Int32) (y1 : Nat) (cs9 : CS) (r9 : Nat) (h : c_X9_readQuery_b93 F T rc14 cs1 u0 u1 u2 u4 u6 y0 y1 = some (cs9, r9)) : RBX u0 c K 0 0 false cs1 cs9 := by
  unfold c_X9_readQuery_b93 at h
  have hq : RBX u0 c K 0 0 false cs1 cs1 := RBX.refl
  replace h := ob h; obtain ⟨cs_32, hv_32, h⟩ := h
  replace hq := hq.trans (RBX.pI (by decide) hv_32)
  replace h := ob h; obtain ⟨cs_33, hv_33, h⟩ := h
  replace hq := hq.trans (RBX.pI (by decide) hv_33)
  replace h := ob h; obtain ⟨v_34, hv_34, h⟩ := h
  replace h := ob h; obtain ⟨i_35, hi_35, h⟩ := h
  subst hi_35
  replace h := ob h; obtain ⟨cs_36, hv_36, h⟩ := h
  replace hq := hq.trans (RBX.lAd hv_36)
  have k9 := rb_c_X9_readQuery_b112 c K F T hM_X9_readQuery hM_X9_readSelect hM_X9_readSources hM_X9_readSource rc14 hrc14 cs_36 u0 u1 u2 1 cs9 r9 h
  exact (hq.trans k9).le (Nat.zero_le _)
theorem rb_c_X9_readQuery_b78 (c K : Nat) (F : Nat) (T : TC_X9_readQuery) (hM_X9_readQuery : ∀ (cs : CS) (x0 : Nat) (cs9 : CS) (r9 : Nat), T.1 cs x0 = some (cs9, r9) → RBX x0 c K 0 0 false cs cs9) (hM_X9_readSelect : ∀ (cs : CS) (x0 : Nat) (cs9 : CS) (r9 : Nat), T.2.1 cs x0 = some (cs9, r9) → RBX x0 c K 0 0 false cs cs9) (hM_X9_readSources : ∀ (cs : CS) (x0 : Nat) (x1 : Nat) (cs9 : CS), T.2.2.1 cs x0 x1 = some cs9 → RBX x0 c K 0 0 false cs cs9) (hM_X9_readSource : ∀ (cs : CS) (x0 : Nat) (cs9 : CS) (r9 : Nat), T.2.2.2 cs x0 = some (cs9, r9) → RBX x0 c K 0 0 false cs cs9) (rc14 : CS → Nat → Nat → Int32 → Option (CS × Nat)) (hrc14 : ∀ (cs1 : CS) (u0 : Nat) (u1 : Nat) (u2 : Int32) (cs9 : CS) (r9 : Nat), rc14 cs1 u0 u1 u2 = some (cs9, r9) → RBX u0 c K 0 0 false cs1 cs9) (cs1 : CS) (u0 : Nat) (u1 : Nat) (u2 : Int32) (u3 : Int32) (u4 : Int32) (u5 : Int32) (y0 : Nat) (cs9 : CS) (r9 : Nat) (h : c_X9_readQuery_b78 F T rc14 cs1 u0 u1 u2 u3 u4 u5 y0 = some (cs9, r9)) : RBX u0 c K 0 0 false cs1 cs9 := by
  unfold c_X9_readQuery_b78 at h
  have hq : RBX u0 c K 0 0 false cs1 cs1 := RBX.refl
  by_cases c_32 : u5 = 0
  · skip
    replace h := (if_pos c_32).symm.trans h
    have k9 := rb_c_X9_readQuery_b93 c K F T hM_X9_readQuery hM_X9_readSelect hM_X9_readSources hM_X9_readSource rc14 hrc14 cs1 u0 u1 u2 u4 y0 u3 y0 cs9 r9 h
    exact (hq.trans k9).le (Nat.zero_le _)
  · skip
    replace h := (if_neg c_32).symm.trans h
    have k9 := rb_c_X9_readQuery_b93 c K F T hM_X9_readQuery hM_X9_readSelect hM_X9_readSources hM_X9_readSource rc14 hrc14 cs1 u0 u1 u2 u4 y0 11 y0 cs9 r9 h
    exact (hq.trans k9).le (Nat.zero_le _)
theorem rb_c_X9_readQuery_b72 (c K : Nat) (F : Nat) (T : TC_X9_readQuery) (hM_X9_readQuery : ∀ (cs : CS) (x0 : Nat) (cs9 : CS) (r9 : Nat), T.1 cs x0 = some (cs9, r9) → RBX x0 c K 0 0 false cs cs9) (hM_X9_readSelect : ∀ (cs : CS) (x0 : Nat) (cs9 : CS) (r9 : Nat), T.2.1 cs x0 = some (cs9, r9) → RBX x0 c K 0 0 false cs cs9) (hM_X9_readSources : ∀ (cs : CS) (x0 : Nat) (x1 : Nat) (cs9 : CS), T.2.2.1 cs x0 x1 = some cs9 → RBX x0 c K 0 0 false cs cs9) (hM_X9_readSource : ∀ (cs : CS) (x0 : Nat) (cs9 : CS) (r9 : Nat), T.2.2.2 cs x0 = some (cs9, r9) → RBX x0 c K 0 0 false cs cs9) (rc14 : CS → Nat → Nat → Int32 → Option (CS × Nat)) (hrc14 : ∀ (cs1 : CS) (u0 : Nat) (u1 : Nat) (u2 : Int32) (cs9 : CS) (r9 : Nat), rc14 cs1 u0 u1 u2 = some (cs9, r9) → RBX u0 c K 0 0 false cs1 cs9) (cs1 : CS) (u0 : Nat) (u1 : Nat) (u2 : Int32) (u3 : Int32) (u4 : Int32) (y0 : Int32) (cs9 : CS) (r9 : Nat) (h : c_X9_readQuery_b72 F T rc14 cs1 u0 u1 u2 u3 u4 y0 = some (cs9, r9)) : RBX u0 c K 0 0 false cs1 cs9 := by
  unfold c_X9_readQuery_b72 at h
  have hq : RBX u0 c K 0 0 false cs1 cs1 := RBX.refl
  replace h := ob h; obtain ⟨w_33, hw_33, h⟩ := h
  replace h := ob h; obtain ⟨z_32, hv_32, h⟩ := h
  replace hq := hq.trans (hM_X9_readSelect cs1 u0 z_32.1 z_32.2 hv_32)
  have k9 := rb_c_X9_readQuery_b78 c K F T hM_X9_readQuery hM_X9_readSelect hM_X9_readSources hM_X9_readSource rc14 hrc14 z_32.1 u0 u1 u2 u3 u4 y0 z_32.2 cs9 r9 h
  exact (hq.trans k9).le (Nat.zero_le _)
theorem rb_c_X9_readQuery_b71 (c K : Nat) (F : Nat) (T : TC_X9_readQuery) (hM_X9_readQuery : ∀ (cs : CS) (x0 : Nat) (cs9 : CS) (r9 : Nat), T.1 cs x0 = some (cs9, r9) → RBX x0 c K 0 0 false cs cs9) (hM_X9_readSelect : ∀ (cs : CS) (x0 : Nat) (cs9 : CS) (r9 : Nat), T.2.1 cs x0 = some (cs9, r9) → RBX x0 c K 0 0 false cs cs9) (hM_X9_readSources : ∀ (cs : CS) (x0 : Nat) (x1 : Nat) (cs9 : CS), T.2.2.1 cs x0 x1 = some cs9 → RBX x0 c K 0 0 false cs cs9) (hM_X9_readSource : ∀ (cs : CS) (x0 : Nat) (cs9 : CS) (r9 : Nat), T.2.2.2 cs x0 = some (cs9, r9) → RBX x0 c K 0 0 false cs cs9) (rc14 : CS → Nat → Nat → Int32 → Option (CS × Nat)) (hrc14 : ∀ (cs1 : CS) (u0 : Nat) (u1 : Nat) (u2 : Int32) (cs9 : CS) (r9 : Nat), rc14 cs1 u0 u1 u2 = some (cs9, r9) → RBX u0 c K 0 0 false cs1 cs9) (cs1 : CS) (u0 : Nat) (u1 : Nat) (u2 : Int32) (u3 : Int32) (u4 : Int32) (cs9 : CS) (r9 : Nat) (h : c_X9_readQuery_b71 F T rc14 cs1 u0 u1 u2 u3 u4 = some (cs9, r9)) : RBX u0 c K 0 0 false cs1 cs9 := by
  unfold c_X9_readQuery_b71 at h
  have hq : RBX u0 c K 0 0 false cs1 cs1 := RBX.refl
  have k9 := rb_c_X9_readQuery_b72 c K F T hM_X9_readQuery hM_X9_readSelect hM_X9_readSources hM_X9_readSource rc14 hrc14 cs1 u0 u1 u2 u3 u4 0 cs9 r9 h
  exact (hq.trans k9).le (Nat.zero_le _)
theorem rb_c_X9_readQuery_L14 (c K : Nat) (F : Nat) (T : TC_X9_readQuery) (hM_X9_readQuery : ∀ (cs : CS) (x0 : Nat) (cs9 : CS) (r9 : Nat), T.1 cs x0 = some (cs9, r9) → RBX x0 c K 0 0 false cs cs9) (hM_X9_readSelect : ∀ (cs : CS) (x0 : Nat) (cs9 : CS) (r9 : Nat), T.2.1 cs x0 = some (cs9, r9) → RBX x0 c K 0 0 false cs cs9) (hM_X9_readSources : ∀ (cs : CS) (x0 : Nat) (x1 : Nat) (cs9 : CS), T.2.2.1 cs x0 x1 = some cs9 → RBX x0 c K 0 0 false cs cs9) (hM_X9_readSource : ∀ (cs : CS) (x0 : Nat) (cs9 : CS) (r9 : Nat), T.2.2.2 cs x0 = some (cs9, r9) → RBX x0 c K 0 0 false cs cs9) : ∀ (lf_14 : Nat) (cs1 : CS) (u0 : Nat) (u1 : Nat) (u2 : Int32) (cs9 : CS) (r9 : Nat), c_X9_readQuery_L14 F T lf_14 cs1 u0 u1 u2 = some (cs9, r9) → RBX u0 c K 0 0 false cs1 cs9 := by
  intro lf_14
  induction lf_14 with
  | zero => intro cs1 u0 u1 u2 cs9 r9 h; cases (show (none : Option (CS × Nat)) = _ from h)
  | succ lf_14 ih_14 =>
    intro cs1 u0 u1 u2 cs9 r9 h
    rw [c_X9_readQuery_L14] at h
    have hq : RBX u0 c K 0 0 false cs1 cs1 := RBX.refl
    by_cases c_32 : 2000 ≤ u2
    · skip
      replace h := (if_pos c_32).symm.trans h
      have k9 := rb_c_X9_readQuery_b119 c K F T hM_X9_readQuery hM_X9_readSelect hM_X9_readSources hM_X9_readSource cs1 u0 u1 cs9 r9 h
      exact (hq.trans k9).le (Nat.zero_le _)
    · skip
      replace h := (if_neg c_32).symm.trans h
      replace h := ob h; obtain ⟨w_34, hw_34, h⟩ := h
      replace h := ob h; obtain ⟨v_33, hv_33, h⟩ := h
      replace h := ob h; obtain ⟨v_35, hv_35, h⟩ := h
      by_cases c_36 : v_35 = 0
      · skip
        replace h := (if_pos c_36).symm.trans h
        have k9 := rb_c_X9_readQuery_b119 c K F T hM_X9_readQuery hM_X9_readSelect hM_X9_readSources hM_X9_readSource cs1 u0 u1 cs9 r9 h
        exact (hq.trans k9).le (Nat.zero_le _)
      · skip
        replace h := (if_neg c_36).symm.trans h
        replace h := ob h; obtain ⟨w_38, hw_38, h⟩ := h
        replace h := ob h; obtain ⟨v_37, hv_37, h⟩ := h
        replace h := ob h; obtain ⟨w_40, hw_40, h⟩ := h
        replace h := ob h; obtain ⟨v_39, hv_39, h⟩ := h
        replace h := ob h; obtain ⟨v_41, hv_41, h⟩ := h
        replace h := ob h; obtain ⟨cs_42, hv_42, h⟩ := h
        replace hq := hq.trans (RBX.pI (by decide) hv_42)
        by_cases c_43 : v_37 = 10
        · skip
          replace h := (if_pos c_43).symm.trans h
          replace h := ob h; obtain ⟨w_45, hw_45, h⟩ := h
          replace h := ob h; obtain ⟨z_44, hv_44, h⟩ := h
          replace hq := hq.trans (rb_c_X9_accept c K false 0 F cs_42 u0 11 z_44.1 z_44.2 hv_44)
          by_cases c_46 : z_44.2 = 0
          · skip
            replace h := (if_pos c_46).symm.trans h
            have k9 := rb_c_X9_readQuery_b71 c K F T hM_X9_readQuery hM_X9_readSelect hM_X9_readSources hM_X9_readSource (c_X9_readQuery_L14 F T lf_14) ih_14 z_44.1 u0 u1 u2 v_37 v_39 cs9 r9 h
            exact (hq.trans k9).le (Nat.zero_le _)
          · skip
            replace h := (if_neg c_46).symm.trans h
            have k9 := rb_c_X9_readQuery_b72 c K F T hM_X9_readQuery hM_X9_readSelect hM_X9_readSources hM_X9_readSource (c_X9_readQuery_L14 F T lf_14) ih_14 z_44.1 u0 u1 u2 v_37 v_39 1 cs9 r9 h
            exact (hq.trans k9).le (Nat.zero_le _)
        · skip
          replace h := (if_neg c_43).symm.trans h
          have k9 := rb_c_X9_readQuery_b71 c K F T hM_X9_readQuery hM_X9_readSelect hM_X9_readSources hM_X9_readSource (c_X9_readQuery_L14 F T lf_14) ih_14 cs_42 u0 u1 u2 v_37 v_39 cs9 r9 h
          exact (hq.trans k9).le (Nat.zero_le _)
theorem rb_c_X9_readQuery_b11 (c K : Nat) (F : Nat) (T : TC_X9_readQuery) (hM_X9_readQuery : ∀ (cs : CS) (x0 : Nat) (cs9 : CS) (r9 : Nat), T.1 cs x0 = some (cs9, r9) → RBX x0 c K 0 0 false cs cs9) (hM_X9_readSelect : ∀ (cs : CS) (x0 : Nat) (cs9 : CS) (r9 : Nat), T.2.1 cs x0 = some (cs9, r9) → RBX x0 c K 0 0 false cs cs9) (hM_X9_readSources : ∀ (cs : CS) (x0 : Nat) (x1 : Nat) (cs9 : CS), T.2.2.1 cs x0 x1 = some cs9 → RBX x0 c K 0 0 false cs cs9) (hM_X9_readSource : ∀ (cs : CS) (x0 : Nat) (cs9 : CS) (r9 : Nat), T.2.2.2 cs x0 = some (cs9, r9) → RBX x0 c K 0 0 false cs cs9) (cs1 : CS) (u0 : Nat) (y0 : Nat) (cs9 : CS) (r9 : Nat) (h : c_X9_readQuery_b11 F T cs1 u0 y0 = some (cs9, r9)) : RBX u0 c K 0 0 false cs1 cs9 := by
  unfold c_X9_readQuery_b11 at h
  have hq : RBX u0 c K 0 0 false cs1 cs1 := RBX.refl
  have k9 := rb_c_X9_readQuery_L14 c K F T hM_X9_readQuery hM_X9_readSelect hM_X9_readSources hM_X9_readSource F cs1 u0 y0 0 cs9 r9 h
  exact (hq.trans k9).le (Nat.zero_le _)
theorem rb_c_X9_readQuery_b8 (c K : Nat) (F : Nat) (T : TC_X9_readQuery) (hM_X9_readQuery : ∀ (cs : CS) (x0 : Nat) (cs9 : CS) (r9 : Nat), T.1 cs x0 = some (cs9, r9) → RBX x0 c K 0 0 false cs cs9) (hM_X9_readSelect : ∀ (cs : CS) (x0 : Nat) (cs9 : CS) (r9 : Nat), T.2.1 cs x0 = some (cs9, r9) → RBX x0 c K 0 0 false cs cs9) (hM_X9_readSources : ∀ (cs : CS) (x0 : Nat) (x1 : Nat) (cs9 : CS), T.2.2.1 cs x0 x1 = some cs9 → RBX x0 c K 0 0 false cs cs9) (hM_X9_readSource : ∀ (cs : CS) (x0 : Nat) (cs9 : CS) (r9 : Nat), T.2.2.2 cs x0 = some (cs9, r9) → RBX x0 c K 0 0 false cs cs9) (cs1 : CS) (u0 : Nat) (y0 : Nat) (y1 : Nat) (y2 : Nat) (cs9 : CS) (r9 : Nat) (h : c_X9_readQuery_b8 F T cs1 u0 y0 y1 y2 = some (cs9, r9)) : RBX u0 c K 0 0 false cs1 cs9 := by
  unfold c_X9_readQuery_b8 at h
  have hq : RBX u0 c K 0 0 false cs1 cs1 := RBX.refl
  replace h := ob h; obtain ⟨cs_32, hv_32, h⟩ := h
  replace hq := hq.trans (rb_c_X3_init c K u0 F cs1 y1 y0 cs_32 hv_32)
  have k9 := rb_c_X9_readQuery_b11 c K F T hM_X9_readQuery hM_X9_readSelect hM_X9_readSources hM_X9_readSource cs_32 u0 y2 cs9 r9 h
  exact (hq.trans k9).le (Nat.zero_le _)
theorem rb_c_X9_readQuery_b3 (c K : Nat) (F : Nat) (T : TC_X9_readQuery) (hM_X9_readQuery : ∀ (cs : CS) (x0 : Nat) (cs9 : CS) (r9 : Nat), T.1 cs x0 = some (cs9, r9) → RBX x0 c K 0 0 false cs cs9) (hM_X9_readSelect : ∀ (cs : CS) (x0 : Nat) (cs9 : CS) (r9 : Nat), T.2.1 cs x0 = some (cs9, r9) → RBX x0 c K 0 0 false cs cs9) (hM_X9_readSources : ∀ (cs : CS) (x0 : Nat) (x1 : Nat) (cs9 : CS), T.2.2.1 cs x0 x1 = some cs9 → RBX x0 c K 0 0 false cs cs9) (hM_X9_readSource : ∀ (cs : CS) (x0 : Nat) (cs9 : CS) (r9 : Nat), T.2.2.2 cs x0 = some (cs9, r9) → RBX x0 c K 0 0 false cs cs9) (cs1 : CS) (u0 : Nat) (y0 : Nat) (cs9 : CS) (r9 : Nat) (h : c_X9_readQuery_b3 F T cs1 u0 y0 = some (cs9, r9)) : RBX u0 c K 0 0 false cs1 cs9 := by
  unfold c_X9_readQuery_b3 at h
  have hq : RBX u0 c K 0 0 false cs1 cs1 := RBX.refl
  replace h := ob h; obtain ⟨w_33, hw_33, h⟩ := h
  replace h := ob h; obtain ⟨z_32, hv_32, h⟩ := h
  replace hq := hq.trans (hM_X9_readSelect cs1 u0 z_32.1 z_32.2 hv_32)
  have k9 := rb_c_X9_readQuery_b8 c K F T hM_X9_readQuery hM_X9_readSelect hM_X9_readSources hM_X9_readSource z_32.1 u0 z_32.2 y0 y0 cs9 r9 h
  exact (hq.trans k9).le (Nat.zero_le _)
theorem rb_cb_X9_readQuery (c K : Nat) (F : Nat) (T : TC_X9_readQuery) (hM_X9_readQuery : ∀ (cs : CS) (x0 : Nat) (cs9 : CS) (r9 : Nat), T.1 cs x0 = some (cs9, r9) → RBX x0 c K 0 0 false cs cs9) (hM_X9_readSelect : ∀ (cs : CS) (x0 : Nat) (cs9 : CS) (r9 : Nat), T.2.1 cs x0 = some (cs9, r9) → RBX x0 c K 0 0 false cs cs9) (hM_X9_readSources : ∀ (cs : CS) (x0 : Nat) (x1 : Nat) (cs9 : CS), T.2.2.1 cs x0 x1 = some cs9 → RBX x0 c K 0 0 false cs cs9) (hM_X9_readSource : ∀ (cs : CS) (x0 : Nat) (cs9 : CS) (r9 : Nat), T.2.2.2 cs x0 = some (cs9, r9) → RBX x0 c K 0 0 false cs cs9) (cs : CS) (x0 : Nat) (cs9 : CS) (r9 : Nat) (h : cb_X9_readQuery F T cs x0 = some (cs9, r9)) : RBX x0 c K 0 0 false cs cs9 := by
  unfold cb_X9_readQuery at h
  have hq : RBX x0 c K 0 0 false cs cs := RBX.refl
  replace h := ob h; obtain ⟨cs_32, hv_32, h⟩ := h
  replace hq := hq.trans (RBX.nwO (by decide) hv_32)
  have k9 := rb_c_X9_readQuery_b3 c K F T hM_X9_readQuery hM_X9_readSelect hM_X9_readSources hM_X9_readSource cs_32 x0 (kK cs) cs9 r9 h
  exact (hq.trans k9).le (Nat.zero_le _)
theorem rb_c_X9_readSelect_b151 (c K : Nat) (F : Nat) (T : TC_X9_readQuery) (hM_X9_readQuery : ∀ (cs : CS) (x0 : Nat) (cs9 : CS) (r9 : Nat), T.1 cs x0 = some (cs9, r9) → RBX x0 c K 0 0 false cs cs9) (hM_X9_readSelect : ∀ (cs : CS) (x0 : Nat) (cs9 : CS) (r9 : Nat), T.2.1 cs x0 = some (cs9, r9) → RBX x0 c K 0 0 false cs cs9) (hM_X9_readSources : ∀ (cs : CS) (x0 : Nat) (x1 : Nat) (cs9 : CS), T.2.2.1 cs x0 x1 = some cs9 → RBX x0 c K 0 0 false cs cs9) (hM_X9_readSource : ∀ (cs : CS) (x0 : Nat) (cs9 : CS) (r9 : Nat), T.2.2.2 cs x0 = some (cs9, r9) → RBX x0 c K 0 0 false cs cs9) (cs1 : CS) (u0 : Nat) (u1 : Option Nat) (u2 : Nat) (cs9 : CS) (r9 : Nat) (h : c_X9_readSelect_b151 F T cs1 u0 u1 u2 = some (cs9, r9)) : RBX u0 c K 0 0 false cs1 cs9 := by
  unfold c_X9_readSelect_b151 at h
  have hq : RBX u0 c K 0 0 false cs1 cs1 := RBX.refl
  replace h := ob h; obtain ⟨cs_45, hv_45, h⟩ := h
  replace hq := hq.trans (RBX.pR (by decide) hv_45)
  have h9 := (Prod.mk.inj (Option.some.inj h)).1
  exact (hq.to h9).le (Nat.zero_le _)
theorem rb_c_X9_readSelect_b129 (c K : Nat) (F : Nat) (T : TC_X9_readQuery) (hM_X9_readQuery : ∀ (cs : CS) (x0 : Nat) (cs9 : CS) (r9 : Nat), T.1 cs x0 = some (cs9, r9) → RBX x0 c K 0 0 false cs cs9) (hM_X9_readSelect : ∀ (cs : CS) (x0 : Nat) (cs9 : CS) (r9 : Nat), T.2.1 cs x0 = some (cs9, r9) → RBX x0 c K 0 0 false cs cs9) (hM_X9_readSources : ∀ (cs : CS) (x0 : Nat) (x1 : Nat) (cs9 : CS), T.2.2.1 cs x0 x1 = some cs9 → RBX x0 c K 0 0 false cs cs9) (hM_X9_readSource : ∀ (cs : CS) (x0 : Nat) (cs9 : CS) (r9 : Nat), T.2.2.2 cs x0 = some (cs9, r9) → RBX x0 c K 0 0 false cs cs9) (cs1 : CS) (u0 : Nat) (u1 : Option Nat) (u2 : Nat) (cs9 : CS) (r9 : Nat) (h : c_X9_readSelect_b129 F T cs1 u0 u1 u2 = some (cs9, r9)) : RBX u0 c K 0 0 false cs1 cs9 := by
  unfold c_X9_readSelect_b129 at h
  have hq : RBX u0 c K 0 0 false cs1 cs1 := RBX.refl
  replace h := ob h; obtain ⟨cs_45, hv_45, h⟩ := h
  replace hq := hq.trans (RBX.pI (by decide) hv_45)
  replace h := ob h; obtain ⟨w_47, hw_47, h⟩ := h
  replace h := ob h; obtain ⟨z_46, hv_46, h⟩ := h
  replace hq := hq.trans (rb_c_X9_accept c K false 0 F cs_45 u0 9 z_46.1 z_46.2 hv_46)
  by_cases c_48 : z_46.2 = 0
  · skip
    replace h := (if_pos c_48).symm.trans h
    have k9 := rb_c_X9_readSelect_b151 c K F T hM_X9_readQuery hM_X9_readSelect hM_X9_readSources hM_X9_readSource z_46.1 u0 u1 u2 cs9 r9 h
    exact (hq.trans k9).le (Nat.zero_le _)
  · skip
    replace h := (if_neg c_48).symm.trans h
    replace h := ob h; obtain ⟨w_50, hw_50, h⟩ := h
    replace h := ob h; obtain ⟨z_49, hv_49, h⟩ := h
    have hr := rt_ex (cs9 := z_49.1) (r9 := z_49.2) hv_49
    have hE := fun b => rb_c_X9_readExpr c K true b F 300 z_46.1 u0 z_49.1 z_49.2 hv_49
    have he : RBX u0 c K 0 0 true z_49.1 z_49.1 := RBX.refl
    replace h := ob h; obtain ⟨cs_51, hv_51, h⟩ := h
    replace hq := hq.trans (sto_rb hr hE he (sto_I (by decide) hv_51))
    have k9 := rb_c_X9_readSelect_b151 c K F T hM_X9_readQuery hM_X9_readSelect hM_X9_readSources hM_X9_readSource cs_51 u0 u1 u2 cs9 r9 h
    exact (hq.trans k9).le (Nat.zero_le _)
theorem rb_c_X9_readSelect_b115 (c K : Nat) (F : Nat) (T : TC_X9_readQuery) (hM_X9_readQuery : ∀ (cs : CS) (x0 : Nat) (cs9 : CS) (r9 : Nat), T.1 cs x0 = some (cs9, r9) → RBX x0 c K 0 0 false cs cs9) (hM_X9_readSelect : ∀ (cs : CS) (x0 : Nat) (cs9 : CS) (r9 : Nat), T.2.1 cs x0 = some (cs9, r9) → RBX x0 c K 0 0 false cs cs9) (hM_X9_readSources : ∀ (cs : CS) (x0 : Nat) (x1 : Nat) (cs9 : CS), T.2.2.1 cs x0 x1 = some cs9 → RBX x0 c K 0 0 false cs cs9) (hM_X9_readSource : ∀ (cs : CS) (x0 : Nat) (cs9 : CS) (r9 : Nat), T.2.2.2 cs x0 = some (cs9, r9) → RBX x0 c K 0 0 false cs cs9) (cs1 : CS) (u0 : Nat) (u1 : Option Nat) (u2 : Nat) (cs9 : CS) (r9 : Nat) (h : c_X9_readSelect_b115 F T cs1 u0 u1 u2 = some (cs9, r9)) : RBX u0 c K 0 0 false cs1 cs9 := by
  unfold c_X9_readSelect_b115 at h
  have hq : RBX u0 c K 0 0 false cs1 cs1 := RBX.refl
  replace h := ob h; obtain ⟨w_46, hw_46, h⟩ := h
  replace h := ob h; obtain ⟨v_45, hv_45, h⟩ := h
  by_cases c_47 : v_45 = 7
  · skip
    replace h := (if_pos c_47).symm.trans h
    replace h := ob h; obtain ⟨w_49, hw_49, h⟩ := h
    replace h := ob h; obtain ⟨cs_48, hv_48, h⟩ := h
    replace hq := hq.trans (rb_c_X9_readGroups c K F cs1 u0 u2 cs_48 hv_48)
    have k9 := rb_c_X9_readSelect_b129 c K F T hM_X9_readQuery hM_X9_readSelect hM_X9_readSources hM_X9_readSource cs_48 u0 u1 u2 cs9 r9 h
    exact (hq.trans k9).le (Nat.zero_le _)
  · skip
    replace h := (if_neg c_47).symm.trans h
    have k9 := rb_c_X9_readSelect_b129 c K F T hM_X9_readQuery hM_X9_readSelect hM_X9_readSources hM_X9_readSource cs1 u0 u1 u2 cs9 r9 h
    exact (hq.trans k9).le (Nat.zero_le _)
theorem rb_c_X9_readSelect_b93 (c K : Nat) (F : Nat) (T : TC_X9_readQuery) (hM_X9_readQuery : ∀ (cs : CS) (x0 : Nat) (cs9 : CS) (r9 : Nat), T.1 cs x0 = some (cs9, r9) → RBX x0 c K 0 0 false cs cs9) (hM_X9_readSelect : ∀ (cs : CS) (x0 : Nat) (cs9 : CS) (r9 : Nat), T.2.1 cs x0 = some (cs9, r9) → RBX x0 c K 0 0 false cs cs9) (hM_X9_readSources : ∀ (cs : CS) (x0 : Nat) (x1 : Nat) (cs9 : CS), T.2.2.1 cs x0 x1 = some cs9 → RBX x0 c K 0 0 false cs cs9) (hM_X9_readSource : ∀ (cs : CS) (x0 : Nat) (cs9 : CS) (r9 : Nat), T.2.2.2 cs x0 = some (cs9, r9) → RBX x0 c K 0 0 false cs cs9) (cs1 : CS) (u0 : Nat) (u1 : Option Nat) (u2 : Nat) (cs9 : CS) (r9 : Nat) (h : c_X9_readSelect_b93 F T cs1 u0 u1 u2 = some (cs9, r9)) : RBX u0 c K 0 0 false cs1 cs9 := by
  unfold c_X9_readSelect_b93 at h
  have hq : RBX u0 c K 0 0 false cs1 cs1 := RBX.refl
  replace h := ob h; obtain ⟨cs_45, hv_45, h⟩ := h
  replace hq := hq.trans (RBX.pI (by decide) hv_45)
  replace h := ob h; obtain ⟨w_47, hw_47, h⟩ := h
  replace h := ob h; obtain ⟨z_46, hv_46, h⟩ := h
  replace hq := hq.trans (rb_c_X9_accept c K false 0 F cs_45 u0 6 z_46.1 z_46.2 hv_46)
  by_cases c_48 : z_46.2 = 0
  · skip
    replace h := (if_pos c_48).symm.trans h
    have k9 := rb_c_X9_readSelect_b115 c K F T hM_X9_readQuery hM_X9_readSelect hM_X9_readSources hM_X9_readSource z_46.1 u0 u1 u2 cs9 r9 h
    exact (hq.trans k9).le (Nat.zero_le _)
  · skip
    replace h := (if_neg c_48).symm.trans h
    replace h := ob h; obtain ⟨w_50, hw_50, h⟩ := h
    replace h := ob h; obtain ⟨z_49, hv_49, h⟩ := h
    have hr := rt_ex (cs9 := z_49.1) (r9 := z_49.2) hv_49
    have hE := fun b => rb_c_X9_readExpr c K true b F 300 z_46.1 u0 z_49.1 z_49.2 hv_49
    have he : RBX u0 c K 0 0 true z_49.1 z_49.1 := RBX.refl
    replace h := ob h; obtain ⟨cs_51, hv_51, h⟩ := h
    replace hq := hq.trans (sto_rb hr hE he (sto_I (by decide) hv_51))
    have k9 := rb_c_X9_readSelect_b115 c K F T hM_X9_readQuery hM_X9_readSelect hM_X9_readSources hM_X9_readSource cs_51 u0 u1 u2 cs9 r9 h
    exact (hq.trans k9).le (Nat.zero_le _)
theorem rb_c_X9_readSelect_b83 (c K : Nat) (F : Nat) (T : TC_X9_readQuery) (hM_X9_readQuery : ∀ (cs : CS) (x0 : Nat) (cs9 : CS) (r9 : Nat), T.1 cs x0 = some (cs9, r9) → RBX x0 c K 0 0 false cs cs9) (hM_X9_readSelect : ∀ (cs : CS) (x0 : Nat) (cs9 : CS) (r9 : Nat), T.2.1 cs x0 = some (cs9, r9) → RBX x0 c K 0 0 false cs cs9) (hM_X9_readSources : ∀ (cs : CS) (x0 : Nat) (x1 : Nat) (cs9 : CS), T.2.2.1 cs x0 x1 = some cs9 → RBX x0 c K 0 0 false cs cs9) (hM_X9_readSource : ∀ (cs : CS) (x0 : Nat) (cs9 : CS) (r9 : Nat), T.2.2.2 cs x0 = some (cs9, r9) → RBX x0 c K 0 0 false cs cs9) (cs1 : CS) (u0 : Nat) (u1 : Option Nat) (u2 : Nat) (cs9 : CS) (r9 : Nat) (h : c_X9_readSelect_b83 F T cs1 u0 u1 u2 = some (cs9, r9)) : RBX u0 c K 0 0 false cs1 cs9 := by
  unfold c_X9_readSelect_b83 at h
  have hq : RBX u0 c K 0 0 false cs1 cs1 := RBX.refl
  replace h := ob h; obtain ⟨w_46, hw_46, h⟩ := h
  replace h := ob h; obtain ⟨cs_45, hv_45, h⟩ := h
  replace hq := hq.trans (rb_c_X9_expect c K false 0 F cs1 u0 2 cs_45 hv_45)
  replace h := ob h; obtain ⟨w_48, hw_48, h⟩ := h
  replace h := ob h; obtain ⟨cs_47, hv_47, h⟩ := h
  replace hq := hq.trans (hM_X9_readSources cs_45 u0 u2 cs_47 hv_47)
  have k9 := rb_c_X9_readSelect_b93 c K F T hM_X9_readQuery hM_X9_readSelect hM_X9_readSources hM_X9_readSource cs_47 u0 u1 u2 cs9 r9 h
  exact (hq.trans k9).le (Nat.zero_le _)
theorem rb_c_X9_readSelect_L50 (c K : Nat) (F : Nat) (T : TC_X9_readQuery) (hM_X9_readQuery : ∀ (cs : CS) (x0 : Nat) (cs9 : CS) (r9 : Nat), T.1 cs x0 = some (cs9, r9) → RBX x0 c K 0 0 false cs cs9) (hM_X9_readSelect : ∀ (cs : CS) (x0 : Nat) (cs9 : CS) (r9 : Nat), T.2.1 cs x0 = some (cs9, r9) → RBX x0 c K 0 0 false cs cs9) (hM_X9_readSources : ∀ (cs : CS) (x0 : Nat) (x1 : Nat) (cs9 : CS), T.2.2.1 cs x0 x1 = some cs9 → RBX x0 c K 0 0 false cs cs9) (hM_X9_readSource : ∀ (cs : CS) (x0 : Nat) (cs9 : CS) (r9 : Nat), T.2.2.2 cs x0 = some (cs9, r9) → RBX x0 c K 0 0 false cs cs9) : ∀ (lf_50 : Nat) (cs1 : CS) (u0 : Nat) (u1 : Option Nat) (u2 : Nat) (u3 : Int32) (u4 : Int32) (cs9 : CS) (r9 : Nat), c_X9_readSelect_L50 F T lf_50 cs1 u0 u1 u2 u3 u4 = some (cs9, r9) → RBX u0 c K 0 0 false cs1 cs9 := by
  intro lf_50
  induction lf_50 with
  | zero => intro cs1 u0 u1 u2 u3 u4 cs9 r9 h; cases (show (none : Option (CS × Nat)) = _ from h)
  | succ lf_50 ih_50 =>
    intro cs1 u0 u1 u2 u3 u4 cs9 r9 h
    rw [c_X9_readSelect_L50] at h
    have hq : RBX u0 c K 0 0 false cs1 cs1 := RBX.refl
    by_cases c_45 : 2000 ≤ u4
    · skip
      replace h := (if_pos c_45).symm.trans h
      have k9 := rb_c_X9_readSelect_b83 c K F T hM_X9_readQuery hM_X9_readSelect hM_X9_readSources hM_X9_readSource cs1 u0 u1 u2 cs9 r9 h
      exact (hq.trans k9).le (Nat.zero_le _)
    · skip
      replace h := (if_neg c_45).symm.trans h
      by_cases c_46 : u3 = 0
      · skip
        replace h := (if_pos c_46).symm.trans h
        have k9 := rb_c_X9_readSelect_b83 c K F T hM_X9_readQuery hM_X9_readSelect hM_X9_readSources hM_X9_readSource cs1 u0 u1 u2 cs9 r9 h
        exact (hq.trans k9).le (Nat.zero_le _)
      · skip
        replace h := (if_neg c_46).symm.trans h
        replace h := ob h; obtain ⟨v_47, hv_47, h⟩ := h
        replace h := ob h; obtain ⟨i_48, hi_48, h⟩ := h
        subst hi_48
        replace h := ob h; obtain ⟨w_50, hw_50, h⟩ := h
        replace h := ob h; obtain ⟨cs_49, hv_49, h⟩ := h
        replace hq := hq.trans (rb_c_X9_readItem c K F cs1 u0 i_48 cs_49 hv_49)
        replace h := ob h; obtain ⟨w_52, hw_52, h⟩ := h
        replace h := ob h; obtain ⟨z_51, hv_51, h⟩ := h
        replace hq := hq.trans (rb_c_X9_accept c K false 0 F cs_49 u0 43 z_51.1 z_51.2 hv_51)
        have k9 := ih_50 z_51.1 u0 u1 u2 z_51.2 (u4 + 1) cs9 r9 h
        exact (hq.trans k9).le (Nat.zero_le _)
theorem rb_c_X9_readSelect_b12 (c K : Nat) (F : Nat) (T : TC_X9_readQuery) (hM_X9_readQuery : ∀ (cs : CS) (x0 : Nat) (cs9 : CS) (r9 : Nat), T.1 cs x0 = some (cs9, r9) → RBX x0 c K 0 0 false cs cs9) (hM_X9_readSelect : ∀ (cs : CS) (x0 : Nat) (cs9 : CS) (r9 : Nat), T.2.1 cs x0 = some (cs9, r9) → RBX x0 c K 0 0 false cs cs9) (hM_X9_readSources : ∀ (cs : CS) (x0 : Nat) (x1 : Nat) (cs9 : CS), T.2.2.1 cs x0 x1 = some cs9 → RBX x0 c K 0 0 false cs cs9) (hM_X9_readSource : ∀ (cs : CS) (x0 : Nat) (cs9 : CS) (r9 : Nat), T.2.2.2 cs x0 = some (cs9, r9) → RBX x0 c K 0 0 false cs cs9) (cs1 : CS) (u0 : Nat) (u1 : Option Nat) (y0 : Nat) (cs9 : CS) (r9 : Nat) (h : c_X9_readSelect_b12 F T cs1 u0 u1 y0 = some (cs9, r9)) : RBX u0 c K 0 0 false cs1 cs9 := by
  unfold c_X9_readSelect_b12 at h
  have hq : RBX u0 c K 0 0 false cs1 cs1 := RBX.refl
  replace h := ob h; obtain ⟨cs_45, hv_45, h⟩ := h
  replace hq := hq.trans (RBX.pR (by decide) hv_45)
  replace h := ob h; obtain ⟨w_47, hw_47, h⟩ := h
  replace h := ob h; obtain ⟨cs_46, hv_46, h⟩ := h
  replace hq := hq.trans (rb_c_X9_expect c K false 0 F cs_45 u0 0 cs_46 hv_46)
  replace h := ob h; obtain ⟨w_49, hw_49, h⟩ := h
  replace h := ob h; obtain ⟨v_48, hv_48, h⟩ := h
  replace h := ob h; obtain ⟨cs_50, hv_50, h⟩ := h
  replace hq := hq.trans (RBX.pI (by decide) hv_50)
  replace h := ob h; obtain ⟨w_52, hw_52, h⟩ := h
  replace h := ob h; obtain ⟨z_51, hv_51, h⟩ := h
  replace hq := hq.trans (rb_c_X9_accept c K false 0 F cs_50 u0 1 z_51.1 z_51.2 hv_51)
  replace h := ob h; obtain ⟨w_54, hw_54, h⟩ := h
  replace h := ob h; obtain ⟨cs_53, hv_53, h⟩ := h
  replace hq := hq.trans (RBX.pI (by decide) hv_53)
  replace h := ob h; obtain ⟨cs_55, hv_55, h⟩ := h
  replace hq := hq.trans (RBX.pI (by decide) hv_55)
  have k9 := rb_c_X9_readSelect_L50 c K F T hM_X9_readQuery hM_X9_readSelect hM_X9_readSources hM_X9_readSource F cs_55 u0 u1 y0 1 0 cs9 r9 h
  exact (hq.trans k9).le (Nat.zero_le _)
theorem rb_c_X9_readSelect_b8 (c K : Nat) (F : Nat) (T : TC_X9_readQuery) (hM_X9_readQuery : ∀ (cs : CS) (x0 : Nat) (cs9 : CS) (r9 : Nat), T.1 cs x0 = some (cs9, r9) → RBX x0 c K 0 0 false cs cs9) (hM_X9_readSelect : ∀ (cs : CS) (x0 : Nat) (cs9 : CS) (r9 : Nat), T.2.1 cs x0 = some (cs9, r9) → RBX x0 c K 0 0 false cs cs9) (hM_X9_readSources : ∀ (cs : CS) (x0 : Nat) (x1 : Nat) (cs9 : CS), T.2.2.1 cs x0 x1 = some cs9 → RBX x0 c K 0 0 false cs cs9) (hM_X9_readSource : ∀ (cs : CS) (x0 : Nat) (cs9 : CS) (r9 : Nat), T.2.2.2 cs x0 = some (cs9, r9) → RBX x0 c K 0 0 false cs cs9) (cs1 : CS) (u0 : Nat) (u1 : Option Nat) (y0 : Nat) (cs9 : CS) (r9 : Nat) (h : c_X9_readSelect_b8 F T cs1 u0 u1 y0 = some (cs9, r9)) (hz : kI cs1 203 y0 = 0) : RBX u0 c K 0 0 false cs1 cs9 := by
  unfold c_X9_readSelect_b8 at h
  have hq : RBX u0 c K 0 0 false cs1 cs1 := RBX.refl
  replace h := ob h; obtain ⟨cs_45, hv_45, h⟩ := h
  replace hq := hq.trans (x5_rb hz hv_45)
  have k9 := rb_c_X9_readSelect_b12 c K F T hM_X9_readQuery hM_X9_readSelect hM_X9_readSources hM_X9_readSource cs_45 u0 u1 y0 cs9 r9 h
  exact (hq.trans k9).le (Nat.zero_le _)
theorem rb_cb_X9_readSelect (c K : Nat) (F : Nat) (T : TC_X9_readQuery) (hM_X9_readQuery : ∀ (cs : CS) (x0 : Nat) (cs9 : CS) (r9 : Nat), T.1 cs x0 = some (cs9, r9) → RBX x0 c K 0 0 false cs cs9) (hM_X9_readSelect : ∀ (cs : CS) (x0 : Nat) (cs9 : CS) (r9 : Nat), T.2.1 cs x0 = some (cs9, r9) → RBX x0 c K 0 0 false cs cs9) (hM_X9_readSources : ∀ (cs : CS) (x0 : Nat) (x1 : Nat) (cs9 : CS), T.2.2.1 cs x0 x1 = some cs9 → RBX x0 c K 0 0 false cs cs9) (hM_X9_readSource : ∀ (cs : CS) (x0 : Nat) (cs9 : CS) (r9 : Nat), T.2.2.2 cs x0 = some (cs9, r9) → RBX x0 c K 0 0 false cs cs9) (cs : CS) (x0 : Nat) (cs9 : CS) (r9 : Nat) (h : cb_X9_readSelect F T cs x0 = some (cs9, r9)) : RBX x0 c K 0 0 false cs cs9 := by
  unfold cb_X9_readSelect at h
  have hq : RBX x0 c K 0 0 false cs cs := RBX.refl
  replace h := ob h; obtain ⟨v_45, hv_45, h⟩ := h
  replace h := ob h; obtain ⟨cs_46, hv_46, h⟩ := h
  replace hq := hq.trans (RBX.nwO (by decide) hv_46)
  have k9 := rb_c_X9_readSelect_b8 c K F T hM_X9_readQuery hM_X9_readSelect hM_X9_readSources hM_X9_readSource cs_46 x0 v_45 (kK cs) cs9 r9 h (nwO_z rfl hv_46)
  exact (hq.trans k9).le (Nat.zero_le _)
theorem rb_c_X9_readSources_b100 (c K : Nat) (t : Nat) (F : Nat) (T : TC_X9_readQuery) (hM_X9_readQuery : ∀ (cs : CS) (x0 : Nat) (cs9 : CS) (r9 : Nat), T.1 cs x0 = some (cs9, r9) → RBX x0 c K 0 0 false cs cs9) (hM_X9_readSelect : ∀ (cs : CS) (x0 : Nat) (cs9 : CS) (r9 : Nat), T.2.1 cs x0 = some (cs9, r9) → RBX x0 c K 0 0 false cs cs9) (hM_X9_readSources : ∀ (cs : CS) (x0 : Nat) (x1 : Nat) (cs9 : CS), T.2.2.1 cs x0 x1 = some cs9 → RBX x0 c K 0 0 false cs cs9) (hM_X9_readSource : ∀ (cs : CS) (x0 : Nat) (cs9 : CS) (r9 : Nat), T.2.2.2 cs x0 = some (cs9, r9) → RBX x0 c K 0 0 false cs cs9) (cs1 : CS) (cs9 : CS) (h : c_X9_readSources_b100 F T cs1 = some cs9) : RBX t c K 0 0 false cs1 cs9 := by
  unfold c_X9_readSources_b100 at h
  have hq : RBX t c K 0 0 false cs1 cs1 := RBX.refl
  have h9 := Option.some.inj h
  exact (hq.to h9).le (Nat.zero_le _)
theorem rb_c_X9_readSources_b54 (c K : Nat) (F : Nat) (T : TC_X9_readQuery) (hM_X9_readQuery : ∀ (cs : CS) (x0 : Nat) (cs9 : CS) (r9 : Nat), T.1 cs x0 = some (cs9, r9) → RBX x0 c K 0 0 false cs cs9) (hM_X9_readSelect : ∀ (cs : CS) (x0 : Nat) (cs9 : CS) (r9 : Nat), T.2.1 cs x0 = some (cs9, r9) → RBX x0 c K 0 0 false cs cs9) (hM_X9_readSources : ∀ (cs : CS) (x0 : Nat) (x1 : Nat) (cs9 : CS), T.2.2.1 cs x0 x1 = some cs9 → RBX x0 c K 0 0 false cs cs9) (hM_X9_readSource : ∀ (cs : CS) (x0 : Nat) (cs9 : CS) (r9 : Nat), T.2.2.2 cs x0 = some (cs9, r9) → RBX x0 c K 0 0 false cs cs9) (rc10 : CS → Nat → Nat → Int32 → Option CS) (hrc10 : ∀ (cs1 : CS) (u0 : Nat) (u1 : Nat) (u2 : Int32) (cs9 : CS), rc10 cs1 u0 u1 u2 = some cs9 → RBX u0 c K 0 0 false cs1 cs9) (cs1 : CS) (u0 : Nat) (u1 : Nat) (u2 : Int32) (u3 : Int32) (u4 : Int32) (y0 : Nat) (cs9 : CS) (h : c_X9_readSources_b54 F T rc10 cs1 u0 u1 u2 u3 u4 y0 = some cs9) : RBX u0 c K 0 0 false cs1 cs9 := by
  unfold c_X9_readSources_b54 at h
  have hq : RBX u0 c K 0 0 false cs1 cs1 := RBX.refl
  replace h := ob h; obtain ⟨w_28, hw_28, h⟩ := h
  replace h := ob h; obtain ⟨cs_27, hv_27, h⟩ := h
  replace hq := hq.trans (RBX.pI (by decide) hv_27)
  replace h := ob h; obtain ⟨cs_29, hv_29, h⟩ := h
  replace hq := hq.trans (RBX.pI (by decide) hv_29)
  replace h := ob h; obtain ⟨w_31, hw_31, h⟩ := h
  replace h := ob h; obtain ⟨cs_30, hv_30, h⟩ := h
  replace hq := hq.trans (rb_c_X9_expect c K false 0 F cs_29 u0 5 cs_30 hv_30)
  replace h := ob h; obtain ⟨cs_32, hv_32, h⟩ := h
  replace hq := hq.trans (RBX.pI (by decide) hv_32)
  replace h := ob h; obtain ⟨w_34, hw_34, h⟩ := h
  replace h := ob h; obtain ⟨z_33, hv_33, h⟩ := h
  have hr := rt_ex (cs9 := z_33.1) (r9 := z_33.2) hv_33
  have hE := fun b => rb_c_X9_readExpr c K true b F 300 cs_32 u0 z_33.1 z_33.2 hv_33
  have he : RBX u0 c K 0 0 true z_33.1 z_33.1 := RBX.refl
  replace h := ob h; obtain ⟨cs_35, hv_35, h⟩ := h
  replace hq := hq.trans (sto_rb hr hE he (sto_I (by decide) hv_35))
  replace h := ob h; obtain ⟨cs_36, hv_36, h⟩ := h
  replace hq := hq.trans (rb_c_X9_addSource c K u0 F cs_35 u1 y0 cs_36 hv_36)
  have k9 := hrc10 cs_36 u0 u1 (u2 + 1) cs9 h
  exact (hq.trans k9).le (Nat.zero_le _)
theorem rb_c_X9_readSources_b33 (c K : Nat) (F : Nat) (T : TC_X9_readQuery) (hM_X9_readQuery : ∀ (cs : CS) (x0 : Nat) (cs9 : CS) (r9 : Nat), T.1 cs x0 = some (cs9, r9) → RBX x0 c K 0 0 false cs cs9) (hM_X9_readSelect : ∀ (cs : CS) (x0 : Nat) (cs9 : CS) (r9 : Nat), T.2.1 cs x0 = some (cs9, r9) → RBX x0 c K 0 0 false cs cs9) (hM_X9_readSources : ∀ (cs : CS) (x0 : Nat) (x1 : Nat) (cs9 : CS), T.2.2.1 cs x0 x1 = some cs9 → RBX x0 c K 0 0 false cs cs9) (hM_X9_readSource : ∀ (cs : CS) (x0 : Nat) (cs9 : CS) (r9 : Nat), T.2.2.2 cs x0 = some (cs9, r9) → RBX x0 c K 0 0 false cs cs9) (rc10 : CS → Nat → Nat → Int32 → Option CS) (hrc10 : ∀ (cs1 : CS) (u0 : Nat) (u1 : Nat) (u2 : Int32) (cs9 : CS), rc10 cs1 u0 u1 u2 = some cs9 → RBX u0 c K 0 0 false cs1 cs9) (cs1 : CS) (u0 : Nat) (u1 : Nat) (u2 : Int32) (cs9 : CS) (h : c_X9_readSources_b33 F T rc10 cs1 u0 u1 u2 = some cs9) : RBX u0 c K 0 0 false cs1 cs9 := by
  unfold c_X9_readSources_b33 at h
  have hq : RBX u0 c K 0 0 false cs1 cs1 := RBX.refl
  replace h := ob h; obtain ⟨w_28, hw_28, h⟩ := h
  replace h := ob h; obtain ⟨z_27, hv_27, h⟩ := h
  replace hq := hq.trans (rb_c_X9_accept c K false 0 F cs1 u0 4 z_27.1 z_27.2 hv_27)
  replace h := ob h; obtain ⟨w_30, hw_30, h⟩ := h
  replace h := ob h; obtain ⟨v_29, hv_29, h⟩ := h
  replace h := ob h; obtain ⟨w_32, hw_32, h⟩ := h
  replace h := ob h; obtain ⟨cs_31, hv_31, h⟩ := h
  replace hq := hq.trans (rb_c_X9_expect c K false 0 F z_27.1 u0 3 cs_31 hv_31)
  replace h := ob h; obtain ⟨w_34, hw_34, h⟩ := h
  replace h := ob h; obtain ⟨z_33, hv_33, h⟩ := h
  replace hq := hq.trans (hM_X9_readSource cs_31 u0 z_33.1 z_33.2 hv_33)
  have k9 := rb_c_X9_readSources_b54 c K F T hM_X9_readQuery hM_X9_readSelect hM_X9_readSources hM_X9_readSource rc10 hrc10 z_33.1 u0 u1 u2 z_27.2 v_29 z_33.2 cs9 h
  exact (hq.trans k9).le (Nat.zero_le _)
theorem rb_c_X9_readSources_L10 (c K : Nat) (F : Nat) (T : TC_X9_readQuery) (hM_X9_readQuery : ∀ (cs : CS) (x0 : Nat) (cs9 : CS) (r9 : Nat), T.1 cs x0 = some (cs9, r9) → RBX x0 c K 0 0 false cs cs9) (hM_X9_readSelect : ∀ (cs : CS) (x0 : Nat) (cs9 : CS) (r9 : Nat), T.2.1 cs x0 = some (cs9, r9) → RBX x0 c K 0 0 false cs cs9) (hM_X9_readSources : ∀ (cs : CS) (x0 : Nat) (x1 : Nat) (cs9 : CS), T.2.2.1 cs x0 x1 = some cs9 → RBX x0 c K 0 0 false cs cs9) (hM_X9_readSource : ∀ (cs : CS) (x0 : Nat) (cs9 : CS) (r9 : Nat), T.2.2.2 cs x0 = some (cs9, r9) → RBX x0 c K 0 0 false cs cs9) : ∀ (lf_10 : Nat) (cs1 : CS) (u0 : Nat) (u1 : Nat) (u2 : Int32) (cs9 : CS), c_X9_readSources_L10 F T lf_10 cs1 u0 u1 u2 = some cs9 → RBX u0 c K 0 0 false cs1 cs9 := by
  intro lf_10
  induction lf_10 with
  | zero => intro cs1 u0 u1 u2 cs9 h; cases (show (none : Option CS) = _ from h)
  | succ lf_10 ih_10 =>
    intro cs1 u0 u1 u2 cs9 h
    rw [c_X9_readSources_L10] at h
    have hq : RBX u0 c K 0 0 false cs1 cs1 := RBX.refl
    by_cases c_27 : 2000 ≤ u2
    · skip
      replace h := (if_pos c_27).symm.trans h
      have k9 := rb_c_X9_readSources_b100 c K u0 F T hM_X9_readQuery hM_X9_readSelect hM_X9_readSources hM_X9_readSource cs1 cs9 h
      exact (hq.trans k9).le (Nat.zero_le _)
    · skip
      replace h := (if_neg c_27).symm.trans h
      replace h := ob h; obtain ⟨w_29, hw_29, h⟩ := h
      replace h := ob h; obtain ⟨v_28, hv_28, h⟩ := h
      by_cases c_30 : v_28 = 3
      · skip
        replace h := (if_pos c_30).symm.trans h
        have k9 := rb_c_X9_readSources_b33 c K F T hM_X9_readQuery hM_X9_readSelect hM_X9_readSources hM_X9_readSource (c_X9_readSources_L10 F T lf_10) ih_10 cs1 u0 u1 u2 cs9 h
        exact (hq.trans k9).le (Nat.zero_le _)
      · skip
        replace h := (if_neg c_30).symm.trans h
        replace h := ob h; obtain ⟨w_32, hw_32, h⟩ := h
        replace h := ob h; obtain ⟨v_31, hv_31, h⟩ := h
        by_cases c_33 : v_31 = 4
        · skip
          replace h := (if_pos c_33).symm.trans h
          have k9 := rb_c_X9_readSources_b33 c K F T hM_X9_readQuery hM_X9_readSelect hM_X9_readSources hM_X9_readSource (c_X9_readSources_L10 F T lf_10) ih_10 cs1 u0 u1 u2 cs9 h
          exact (hq.trans k9).le (Nat.zero_le _)
        · skip
          replace h := (if_neg c_33).symm.trans h
          have k9 := rb_c_X9_readSources_b100 c K u0 F T hM_X9_readQuery hM_X9_readSelect hM_X9_readSources hM_X9_readSource cs1 cs9 h
          exact (hq.trans k9).le (Nat.zero_le _)
theorem rb_c_X9_readSources_b5 (c K : Nat) (F : Nat) (T : TC_X9_readQuery) (hM_X9_readQuery : ∀ (cs : CS) (x0 : Nat) (cs9 : CS) (r9 : Nat), T.1 cs x0 = some (cs9, r9) → RBX x0 c K 0 0 false cs cs9) (hM_X9_readSelect : ∀ (cs : CS) (x0 : Nat) (cs9 : CS) (r9 : Nat), T.2.1 cs x0 = some (cs9, r9) → RBX x0 c K 0 0 false cs cs9) (hM_X9_readSources : ∀ (cs : CS) (x0 : Nat) (x1 : Nat) (cs9 : CS), T.2.2.1 cs x0 x1 = some cs9 → RBX x0 c K 0 0 false cs cs9) (hM_X9_readSource : ∀ (cs : CS) (x0 : Nat) (cs9 : CS) (r9 : Nat), T.2.2.2 cs x0 = some (cs9, r9) → RBX x0 c K 0 0 false cs cs9) (cs1 : CS) (u0 : Nat) (u1 : Nat) (y0 : Nat) (y1 : Nat) (cs9 : CS) (h : c_X9_readSources_b5 F T cs1 u0 u1 y0 y1 = some cs9) : RBX u0 c K 0 0 false cs1 cs9 := by
  unfold c_X9_readSources_b5 at h
  have hq : RBX u0 c K 0 0 false cs1 cs1 := RBX.refl
  replace h := ob h; obtain ⟨cs_27, hv_27, h⟩ := h
  replace hq := hq.trans (rb_c_X9_addSource c K u0 F cs1 y1 y0 cs_27 hv_27)
  have k9 := rb_c_X9_readSources_L10 c K F T hM_X9_readQuery hM_X9_readSelect hM_X9_readSources hM_X9_readSource F cs_27 u0 u1 0 cs9 h
  exact (hq.trans k9).le (Nat.zero_le _)
theorem rb_cb_X9_readSources (c K : Nat) (F : Nat) (T : TC_X9_readQuery) (hM_X9_readQuery : ∀ (cs : CS) (x0 : Nat) (cs9 : CS) (r9 : Nat), T.1 cs x0 = some (cs9, r9) → RBX x0 c K 0 0 false cs cs9) (hM_X9_readSelect : ∀ (cs : CS) (x0 : Nat) (cs9 : CS) (r9 : Nat), T.2.1 cs x0 = some (cs9, r9) → RBX x0 c K 0 0 false cs cs9) (hM_X9_readSources : ∀ (cs : CS) (x0 : Nat) (x1 : Nat) (cs9 : CS), T.2.2.1 cs x0 x1 = some cs9 → RBX x0 c K 0 0 false cs cs9) (hM_X9_readSource : ∀ (cs : CS) (x0 : Nat) (cs9 : CS) (r9 : Nat), T.2.2.2 cs x0 = some (cs9, r9) → RBX x0 c K 0 0 false cs cs9) (cs : CS) (x0 : Nat) (x1 : Nat) (cs9 : CS) (h : cb_X9_readSources F T cs x0 x1 = some cs9) : RBX x0 c K 0 0 false cs cs9 := by
  unfold cb_X9_readSources at h
  have hq : RBX x0 c K 0 0 false cs cs := RBX.refl
  replace h := ob h; obtain ⟨w_28, hw_28, h⟩ := h
  replace h := ob h; obtain ⟨z_27, hv_27, h⟩ := h
  replace hq := hq.trans (hM_X9_readSource cs x0 z_27.1 z_27.2 hv_27)
  have k9 := rb_c_X9_readSources_b5 c K F T hM_X9_readQuery hM_X9_readSelect hM_X9_readSources hM_X9_readSource z_27.1 x0 x1 z_27.2 x1 cs9 h
  exact (hq.trans k9).le (Nat.zero_le _)
theorem rb_c_X9_readSource_b124 (c K : Nat) (t : Nat) (F : Nat) (T : TC_X9_readQuery) (hM_X9_readQuery : ∀ (cs : CS) (x0 : Nat) (cs9 : CS) (r9 : Nat), T.1 cs x0 = some (cs9, r9) → RBX x0 c K 0 0 false cs cs9) (hM_X9_readSelect : ∀ (cs : CS) (x0 : Nat) (cs9 : CS) (r9 : Nat), T.2.1 cs x0 = some (cs9, r9) → RBX x0 c K 0 0 false cs cs9) (hM_X9_readSources : ∀ (cs : CS) (x0 : Nat) (x1 : Nat) (cs9 : CS), T.2.2.1 cs x0 x1 = some cs9 → RBX x0 c K 0 0 false cs cs9) (hM_X9_readSource : ∀ (cs : CS) (x0 : Nat) (cs9 : CS) (r9 : Nat), T.2.2.2 cs x0 = some (cs9, r9) → RBX x0 c K 0 0 false cs cs9) (cs1 : CS) (u1 : Nat) (cs9 : CS) (r9 : Nat) (h : c_X9_readSource_b124 F T cs1 u1 = some (cs9, r9)) : RBX t c K 0 0 false cs1 cs9 := by
  unfold c_X9_readSource_b124 at h
  have hq : RBX t c K 0 0 false cs1 cs1 := RBX.refl
  have h9 := (Prod.mk.inj (Option.some.inj h)).1
  exact (hq.to h9).le (Nat.zero_le _)
theorem rb_c_X9_readSource_b75 (c K : Nat) (F : Nat) (T : TC_X9_readQuery) (hM_X9_readQuery : ∀ (cs : CS) (x0 : Nat) (cs9 : CS) (r9 : Nat), T.1 cs x0 = some (cs9, r9) → RBX x0 c K 0 0 false cs cs9) (hM_X9_readSelect : ∀ (cs : CS) (x0 : Nat) (cs9 : CS) (r9 : Nat), T.2.1 cs x0 = some (cs9, r9) → RBX x0 c K 0 0 false cs cs9) (hM_X9_readSources : ∀ (cs : CS) (x0 : Nat) (x1 : Nat) (cs9 : CS), T.2.2.1 cs x0 x1 = some cs9 → RBX x0 c K 0 0 false cs cs9) (hM_X9_readSource : ∀ (cs : CS) (x0 : Nat) (cs9 : CS) (r9 : Nat), T.2.2.2 cs x0 = some (cs9, r9) → RBX x0 c K 0 0 false cs cs9) (cs1 : CS) (u0 : Nat) (u1 : Nat) (cs9 : CS) (r9 : Nat) (h : c_X9_readSource_b75 F T cs1 u0 u1 = some (cs9, r9)) : RBX u0 c K 0 0 false cs1 cs9 := by
  unfold c_X9_readSource_b75 at h
  have hq : RBX u0 c K 0 0 false cs1 cs1 := RBX.refl
  replace h := ob h; obtain ⟨w_41, hw_41, h⟩ := h
  replace h := ob h; obtain ⟨cs_40, hv_40, h⟩ := h
  replace hq := hq.trans (rb_c_X9_expect c K false 0 F cs1 u0 17 cs_40 hv_40)
  replace h := ob h; obtain ⟨w_43, hw_43, h⟩ := h
  replace h := ob h; obtain ⟨v_42, hv_42, h⟩ := h
  replace h := ob h; obtain ⟨cs_44, hv_44, h⟩ := h
  replace hq := hq.trans (RBX.pI (by decide) hv_44)
  replace h := ob h; obtain ⟨w_46, hw_46, h⟩ := h
  replace h := ob h; obtain ⟨z_45, hv_45, h⟩ := h
  replace hq := hq.trans (rb_c_X9_readName c K false 0 F cs_44 u0 z_45.1 z_45.2 hv_45)
  replace h := ob h; obtain ⟨cs_47, hv_47, h⟩ := h
  replace hq := hq.trans (RBX.pJ (by decide) hv_47)
  replace h := ob h; obtain ⟨v_48, hv_48, h⟩ := h
  cases v_48 with
  | none =>
    replace h := oc_n.symm.trans h
    replace h := ob h; obtain ⟨w_51, hw_51, h⟩ := h
    replace h := ob h; obtain ⟨z_50, hv_50, h⟩ := h
    replace hq := hq.trans (rb_c_X9_accept c K false 0 F cs_47 u0 18 z_50.1 z_50.2 hv_50)
    by_cases c_52 : z_50.2 = 0
    · skip
      replace h := (if_pos c_52).symm.trans h
      have k9 := rb_c_X9_readSource_b124 c K u0 F T hM_X9_readQuery hM_X9_readSelect hM_X9_readSources hM_X9_readSource z_50.1 u1 cs9 r9 h
      exact (hq.trans k9).le (Nat.zero_le _)
    · skip
      replace h := (if_neg c_52).symm.trans h
      replace h := ob h; obtain ⟨w_54, hw_54, h⟩ := h
      replace h := ob h; obtain ⟨z_53, hv_53, h⟩ := h
      replace hq := hq.trans (rb_c_X9_readNumber c K false 0 F z_50.1 u0 (9223372036854775807) z_53.1 z_53.2 hv_53)
      replace h := ob h; obtain ⟨cs_55, hv_55, h⟩ := h
      replace hq := hq.trans (RBX.pJ (by decide) hv_55)
      have k9 := rb_c_X9_readSource_b124 c K u0 F T hM_X9_readQuery hM_X9_readSelect hM_X9_readSources hM_X9_readSource cs_55 u1 cs9 r9 h
      exact (hq.trans k9).le (Nat.zero_le _)
  | some i_49 =>
    replace h := oc_s.symm.trans h
    have k9 := rb_c_X9_readSource_b124 c K u0 F T hM_X9_readQuery hM_X9_readSelect hM_X9_readSources hM_X9_readSource cs_47 u1 cs9 r9 h
    exact (hq.trans k9).le (Nat.zero_le _)
theorem rb_c_X9_readSource_b40 (c K : Nat) (F : Nat) (T : TC_X9_readQuery) (hM_X9_readQuery : ∀ (cs : CS) (x0 : Nat) (cs9 : CS) (r9 : Nat), T.1 cs x0 = some (cs9, r9) → RBX x0 c K 0 0 false cs cs9) (hM_X9_readSelect : ∀ (cs : CS) (x0 : Nat) (cs9 : CS) (r9 : Nat), T.2.1 cs x0 = some (cs9, r9) → RBX x0 c K 0 0 false cs cs9) (hM_X9_readSources : ∀ (cs : CS) (x0 : Nat) (x1 : Nat) (cs9 : CS), T.2.2.1 cs x0 x1 = some cs9 → RBX x0 c K 0 0 false cs cs9) (hM_X9_readSource : ∀ (cs : CS) (x0 : Nat) (cs9 : CS) (r9 : Nat), T.2.2.2 cs x0 = some (cs9, r9) → RBX x0 c K 0 0 false cs cs9) (cs1 : CS) (u0 : Nat) (u1 : Nat) (y0 : Nat) (y1 : Nat) (cs9 : CS) (r9 : Nat) (h : c_X9_readSource_b40 F T cs1 u0 u1 y0 y1 = some (cs9, r9)) : RBX u0 c K 0 0 false cs1 cs9 := by
  unfold c_X9_readSource_b40 at h
  have hq : RBX u0 c K 0 0 false cs1 cs1 := RBX.refl
  replace h := ob h; obtain ⟨cs_40, hv_40, h⟩ := h
  replace hq := hq.trans (RBX.pR (by decide) hv_40)
  replace h := ob h; obtain ⟨w_42, hw_42, h⟩ := h
  replace h := ob h; obtain ⟨v_41, hv_41, h⟩ := h
  replace h := ob h; obtain ⟨cs_43, hv_43, h⟩ := h
  replace hq := hq.trans (RBX.pI (by decide) hv_43)
  replace h := ob h; obtain ⟨w_45, hw_45, h⟩ := h
  replace h := ob h; obtain ⟨cs_44, hv_44, h⟩ := h
  replace hq := hq.trans (rb_c_X9_expect c K false 0 F cs_43 u0 42 cs_44 hv_44)
  replace h := ob h; obtain ⟨v_46, hv_46, h⟩ := h
  replace h := ob h; obtain ⟨cs_47, hv_47, h⟩ := h
  replace hq := hq.trans (RBX.pI (by decide) hv_47)
  have k9 := rb_c_X9_readSource_b75 c K F T hM_X9_readQuery hM_X9_readSelect hM_X9_readSources hM_X9_readSource cs_47 u0 u1 cs9 r9 h
  exact (hq.trans k9).le (Nat.zero_le _)
theorem rb_c_X9_readSource_b7 (c K : Nat) (F : Nat) (T : TC_X9_readQuery) (hM_X9_readQuery : ∀ (cs : CS) (x0 : Nat) (cs9 : CS) (r9 : Nat), T.1 cs x0 = some (cs9, r9) → RBX x0 c K 0 0 false cs cs9) (hM_X9_readSelect : ∀ (cs : CS) (x0 : Nat) (cs9 : CS) (r9 : Nat), T.2.1 cs x0 = some (cs9, r9) → RBX x0 c K 0 0 false cs cs9) (hM_X9_readSources : ∀ (cs : CS) (x0 : Nat) (x1 : Nat) (cs9 : CS), T.2.2.1 cs x0 x1 = some cs9 → RBX x0 c K 0 0 false cs cs9) (hM_X9_readSource : ∀ (cs : CS) (x0 : Nat) (cs9 : CS) (r9 : Nat), T.2.2.2 cs x0 = some (cs9, r9) → RBX x0 c K 0 0 false cs cs9) (cs1 : CS) (u0 : Nat) (y0 : Nat) (cs9 : CS) (r9 : Nat) (h : c_X9_readSource_b7 F T cs1 u0 y0 = some (cs9, r9)) : RBX u0 c K 0 0 false cs1 cs9 := by
  unfold c_X9_readSource_b7 at h
  have hq : RBX u0 c K 0 0 false cs1 cs1 := RBX.refl
  replace h := ob h; obtain ⟨w_41, hw_41, h⟩ := h
  replace h := ob h; obtain ⟨v_40, hv_40, h⟩ := h
  replace h := ob h; obtain ⟨cs_42, hv_42, h⟩ := h
  replace hq := hq.trans (RBX.pI (by decide) hv_42)
  replace h := ob h; obtain ⟨w_44, hw_44, h⟩ := h
  replace h := ob h; obtain ⟨v_43, hv_43, h⟩ := h
  by_cases c_45 : v_43 = 41
  · skip
    replace h := (if_pos c_45).symm.trans h
    replace h := ob h; obtain ⟨w_47, hw_47, h⟩ := h
    replace h := ob h; obtain ⟨cs_46, hv_46, h⟩ := h
    replace hq := hq.trans (rb_c_X9_deepen c K false 0 F cs_42 u0 cs_46 hv_46)
    replace h := ob h; obtain ⟨w_49, hw_49, h⟩ := h
    replace h := ob h; obtain ⟨cs_48, hv_48, h⟩ := h
    replace hq := hq.trans (rb_c_X9_expect c K false 0 F cs_46 u0 41 cs_48 hv_48)
    replace h := ob h; obtain ⟨w_51, hw_51, h⟩ := h
    replace h := ob h; obtain ⟨z_50, hv_50, h⟩ := h
    replace hq := hq.trans (hM_X9_readQuery cs_48 u0 z_50.1 z_50.2 hv_50)
    have k9 := rb_c_X9_readSource_b40 c K F T hM_X9_readQuery hM_X9_readSelect hM_X9_readSources hM_X9_readSource z_50.1 u0 y0 z_50.2 y0 cs9 r9 h
    exact (hq.trans k9).le (Nat.zero_le _)
  · skip
    replace h := (if_neg c_45).symm.trans h
    replace h := ob h; obtain ⟨w_53, hw_53, h⟩ := h
    replace h := ob h; obtain ⟨cs_52, hv_52, h⟩ := h
    replace hq := hq.trans (rb_c_X9_readLeaf c K F cs_42 u0 y0 cs_52 hv_52)
    have k9 := rb_c_X9_readSource_b75 c K F T hM_X9_readQuery hM_X9_readSelect hM_X9_readSources hM_X9_readSource cs_52 u0 y0 cs9 r9 h
    exact (hq.trans k9).le (Nat.zero_le _)
theorem rb_c_X9_readSource_b3 (c K : Nat) (F : Nat) (T : TC_X9_readQuery) (hM_X9_readQuery : ∀ (cs : CS) (x0 : Nat) (cs9 : CS) (r9 : Nat), T.1 cs x0 = some (cs9, r9) → RBX x0 c K 0 0 false cs cs9) (hM_X9_readSelect : ∀ (cs : CS) (x0 : Nat) (cs9 : CS) (r9 : Nat), T.2.1 cs x0 = some (cs9, r9) → RBX x0 c K 0 0 false cs cs9) (hM_X9_readSources : ∀ (cs : CS) (x0 : Nat) (x1 : Nat) (cs9 : CS), T.2.2.1 cs x0 x1 = some cs9 → RBX x0 c K 0 0 false cs cs9) (hM_X9_readSource : ∀ (cs : CS) (x0 : Nat) (cs9 : CS) (r9 : Nat), T.2.2.2 cs x0 = some (cs9, r9) → RBX x0 c K 0 0 false cs cs9) (cs1 : CS) (u0 : Nat) (y0 : Nat) (cs9 : CS) (r9 : Nat) (h : c_X9_readSource_b3 F T cs1 u0 y0 = some (cs9, r9)) : RBX u0 c K 0 0 false cs1 cs9 := by
  unfold c_X9_readSource_b3 at h
  have hq : RBX u0 c K 0 0 false cs1 cs1 := RBX.refl
  replace h := ob h; obtain ⟨cs_40, hv_40, h⟩ := h
  replace hq := hq.trans (x6_rb hv_40)
  have k9 := rb_c_X9_readSource_b7 c K F T hM_X9_readQuery hM_X9_readSelect hM_X9_readSources hM_X9_readSource cs_40 u0 y0 cs9 r9 h
  exact (hq.trans k9).le (Nat.zero_le _)
theorem rb_cb_X9_readSource (c K : Nat) (F : Nat) (T : TC_X9_readQuery) (hM_X9_readQuery : ∀ (cs : CS) (x0 : Nat) (cs9 : CS) (r9 : Nat), T.1 cs x0 = some (cs9, r9) → RBX x0 c K 0 0 false cs cs9) (hM_X9_readSelect : ∀ (cs : CS) (x0 : Nat) (cs9 : CS) (r9 : Nat), T.2.1 cs x0 = some (cs9, r9) → RBX x0 c K 0 0 false cs cs9) (hM_X9_readSources : ∀ (cs : CS) (x0 : Nat) (x1 : Nat) (cs9 : CS), T.2.2.1 cs x0 x1 = some cs9 → RBX x0 c K 0 0 false cs cs9) (hM_X9_readSource : ∀ (cs : CS) (x0 : Nat) (cs9 : CS) (r9 : Nat), T.2.2.2 cs x0 = some (cs9, r9) → RBX x0 c K 0 0 false cs cs9) (cs : CS) (x0 : Nat) (cs9 : CS) (r9 : Nat) (h : cb_X9_readSource F T cs x0 = some (cs9, r9)) : RBX x0 c K 0 0 false cs cs9 := by
  unfold cb_X9_readSource at h
  have hq : RBX x0 c K 0 0 false cs cs := RBX.refl
  replace h := ob h; obtain ⟨cs_40, hv_40, h⟩ := h
  replace hq := hq.trans (RBX.nwO (by decide) hv_40)
  have k9 := rb_c_X9_readSource_b3 c K F T hM_X9_readQuery hM_X9_readSelect hM_X9_readSources hM_X9_readSource cs_40 x0 (kK cs) cs9 r9 h
  exact (hq.trans k9).le (Nat.zero_le _)
theorem rbg_X9_readQuery (c K : Nat) (F : Nat) : ∀ n : Nat, (∀ (cs : CS) (x0 : Nat) (cs9 : CS) (r9 : Nat), (tabc_X9_readQuery F n).1 cs x0 = some (cs9, r9) → RBX x0 c K 0 0 false cs cs9) ∧ (∀ (cs : CS) (x0 : Nat) (cs9 : CS) (r9 : Nat), (tabc_X9_readQuery F n).2.1 cs x0 = some (cs9, r9) → RBX x0 c K 0 0 false cs cs9) ∧ (∀ (cs : CS) (x0 : Nat) (x1 : Nat) (cs9 : CS), (tabc_X9_readQuery F n).2.2.1 cs x0 x1 = some cs9 → RBX x0 c K 0 0 false cs cs9) ∧ (∀ (cs : CS) (x0 : Nat) (cs9 : CS) (r9 : Nat), (tabc_X9_readQuery F n).2.2.2 cs x0 = some (cs9, r9) → RBX x0 c K 0 0 false cs cs9) := by
  intro n
  induction n with
  | zero => exact ⟨fun _ _ _ _ h => (by cases (show (none : Option (CS × Nat)) = _ from h)), fun _ _ _ _ h => (by cases (show (none : Option (CS × Nat)) = _ from h)), fun _ _ _ _ h => (by cases (show (none : Option CS) = _ from h)), fun _ _ _ _ h => (by cases (show (none : Option (CS × Nat)) = _ from h))⟩
  | succ n ih =>
    obtain ⟨hh0, hh1, hh2, hh3⟩ := ih
    exact ⟨fun cs w0 w1 w2 h => rb_cb_X9_readQuery c K F (tabc_X9_readQuery F n) hh0 hh1 hh2 hh3 cs w0 w1 w2 h, fun cs w0 w1 w2 h => rb_cb_X9_readSelect c K F (tabc_X9_readQuery F n) hh0 hh1 hh2 hh3 cs w0 w1 w2 h, fun cs w0 w1 w2 h => rb_cb_X9_readSources c K F (tabc_X9_readQuery F n) hh0 hh1 hh2 hh3 cs w0 w1 w2 h, fun cs w0 w1 w2 h => rb_cb_X9_readSource c K F (tabc_X9_readQuery F n) hh0 hh1 hh2 hh3 cs w0 w1 w2 h⟩
theorem rb_c_X9_readQuery (c K : Nat) (F n : Nat) (cs : CS) (x0 : Nat) (cs9 : CS) (r9 : Nat) (h : c_X9_readQuery F n cs x0 = some (cs9, r9)) : RBX x0 c K 0 0 false cs cs9 := (rbg_X9_readQuery c K F n).1 cs x0 cs9 r9 h
theorem rb_c_X9_read_b15 (c K : Nat) (F : Nat) (cs1 : CS) (u0 : Nat) (y0 : Nat) (y1 : Nat) (cs9 : CS) (h : c_X9_read_b15 F cs1 u0 y0 y1 = some cs9) : RBX u0 c K 0 0 false cs1 cs9 := by
  unfold c_X9_read_b15 at h
  have hq : RBX u0 c K 0 0 false cs1 cs1 := RBX.refl
  replace h := ob h; obtain ⟨cs_4, hv_4, h⟩ := h
  replace hq := hq.trans (RBX.pR (by decide) hv_4)
  replace h := ob h; obtain ⟨w_6, hw_6, h⟩ := h
  replace h := ob h; obtain ⟨cs_5, hv_5, h⟩ := h
  replace hq := hq.trans (rb_c_X9_expect c K false 0 F cs_4 u0 56 cs_5 hv_5)
  have h9 := Option.some.inj h
  exact (hq.to h9).le (Nat.zero_le _)
theorem rb_c_X9_read (c K : Nat) (F : Nat) (cs : CS) (x0 : Nat) (cs9 : CS) (h : c_X9_read F cs x0 = some cs9) : RBX x0 c K 0 0 false cs cs9 := by
  unfold c_X9_read at h
  have hq : RBX x0 c K 0 0 false cs cs := RBX.refl
  replace h := ob h; obtain ⟨w_5, hw_5, h⟩ := h
  replace h := ob h; obtain ⟨z_4, hv_4, h⟩ := h
  replace hq := hq.trans (rb_c_X9_accept c K false 0 F cs x0 37 z_4.1 z_4.2 hv_4)
  replace h := ob h; obtain ⟨w_7, hw_7, h⟩ := h
  replace h := ob h; obtain ⟨cs_6, hv_6, h⟩ := h
  replace hq := hq.trans (RBX.pI (by decide) hv_6)
  replace h := ob h; obtain ⟨w_9, hw_9, h⟩ := h
  replace h := ob h; obtain ⟨z_8, hv_8, h⟩ := h
  replace hq := hq.trans (rb_c_X9_readQuery c K F 300 cs_6 x0 z_8.1 z_8.2 hv_8)
  have k9 := rb_c_X9_read_b15 c K F z_8.1 x0 z_8.2 x0 cs9 h
  exact (hq.trans k9).le (Nat.zero_le _)

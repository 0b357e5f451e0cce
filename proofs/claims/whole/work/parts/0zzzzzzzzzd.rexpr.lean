/-! the EXPR methods of the parser: sizes, first nodes, aggregates -/
theorem rb_c_X9_accept_b28 (c K : Nat) (β : Bool) (b : Nat) (t : Nat) (F : Nat) (cs1 : CS) (u2 : Int32) (y0 : Int32) (y1 : Int32) (y2 : Nat) (cs9 : CS) (r9 : Int32) (h : c_X9_accept_b28 F cs1 u2 y0 y1 y2 = some (cs9, r9)) : RBX t c K b 0 β cs1 cs9 := by
  unfold c_X9_accept_b28 at h
  have hq : RBX t c K b 0 β cs1 cs1 := RBX.refl
  replace h := ob h; obtain ⟨cs_1, hv_1, h⟩ := h
  replace hq := hq.trans (RBX.pI (by decide) hv_1)
  replace h := ob h; obtain ⟨w_2, hw_2, h⟩ := h
  have h9 := (Prod.mk.inj (Option.some.inj h)).1
  exact (hq.to h9).le (by decide)
theorem rb_c_X9_accept_b13 (c K : Nat) (β : Bool) (b : Nat) (F : Nat) (cs1 : CS) (u0 : Nat) (y0 : Int32) (cs9 : CS) (r9 : Int32) (h : c_X9_accept_b13 F cs1 u0 y0 = some (cs9, r9)) : RBX u0 c K b 0 β cs1 cs9 := by
  unfold c_X9_accept_b13 at h
  have hq : RBX u0 c K b 0 β cs1 cs1 := RBX.refl
  replace h := ob h; obtain ⟨v_1, hv_1, h⟩ := h
  by_cases c_2 : y0 = 0
  · skip
    replace h := (if_pos c_2).symm.trans h
    have k9 := rb_c_X9_accept_b28 c K β b u0 F cs1 y0 0 v_1 u0 cs9 r9 h
    exact (hq.trans k9).le (by decide)
  · skip
    replace h := (if_neg c_2).symm.trans h
    have k9 := rb_c_X9_accept_b28 c K β b u0 F cs1 y0 1 v_1 u0 cs9 r9 h
    exact (hq.trans k9).le (by decide)
theorem rb_c_X9_accept (c K : Nat) (β : Bool) (b : Nat) (F : Nat) (cs : CS) (x0 : Nat) (x1 : Int32) (cs9 : CS) (r9 : Int32) (h : c_X9_accept F cs x0 x1 = some (cs9, r9)) : RBX x0 c K b 0 β cs cs9 := by
  unfold c_X9_accept at h
  have hq : RBX x0 c K b 0 β cs cs := RBX.refl
  replace h := ob h; obtain ⟨w_2, hw_2, h⟩ := h
  replace h := ob h; obtain ⟨v_1, hv_1, h⟩ := h
  by_cases c_3 : v_1 = x1
  · skip
    replace h := (if_pos c_3).symm.trans h
    have k9 := rb_c_X9_accept_b13 c K β b F cs x0 1 cs9 r9 h
    exact (hq.trans k9).le (by decide)
  · skip
    replace h := (if_neg c_3).symm.trans h
    have k9 := rb_c_X9_accept_b13 c K β b F cs x0 0 cs9 r9 h
    exact (hq.trans k9).le (by decide)
theorem rb_c_X9_expect_b30 (c K : Nat) (β : Bool) (b : Nat) (t : Nat) (F : Nat) (cs1 : CS) (cs9 : CS) (h : c_X9_expect_b30 F cs1 = some cs9) : RBX t c K b 0 β cs1 cs9 := by
  unfold c_X9_expect_b30 at h
  have hq : RBX t c K b 0 β cs1 cs1 := RBX.refl
  have h9 := Option.some.inj h
  exact (hq.to h9).le (by decide)
theorem rb_c_X9_expect (c K : Nat) (β : Bool) (b : Nat) (F : Nat) (cs : CS) (x0 : Nat) (x1 : Int32) (cs9 : CS) (h : c_X9_expect F cs x0 x1 = some cs9) : RBX x0 c K b 0 β cs cs9 := by
  unfold c_X9_expect at h
  have hq : RBX x0 c K b 0 β cs cs := RBX.refl
  replace h := ob h; obtain ⟨w_2, hw_2, h⟩ := h
  replace h := ob h; obtain ⟨v_1, hv_1, h⟩ := h
  by_cases c_3 : v_1 = x1
  · skip
    replace h := (if_pos c_3).symm.trans h
    replace h := ob h; obtain ⟨v_4, hv_4, h⟩ := h
    replace h := ob h; obtain ⟨cs_5, hv_5, h⟩ := h
    replace hq := hq.trans (RBX.pI (by decide) hv_5)
    have k9 := rb_c_X9_expect_b30 c K β b x0 F cs_5 cs9 h
    exact (hq.trans k9).le (by decide)
  · skip
    replace h := (if_neg c_3).symm.trans h
    replace h := ob h; obtain ⟨w_7, hw_7, h⟩ := h
    replace h := ob h; obtain ⟨v_6, hv_6, h⟩ := h
    replace h := ob h; obtain ⟨w_9, hw_9, h⟩ := h
    replace h := ob h; obtain ⟨cs_8, hv_8, h⟩ := h
    replace hq := hq.trans (ref_rb (by decide) hv_8)
    have k9 := rb_c_X9_expect_b30 c K β b x0 F cs_8 cs9 h
    exact (hq.trans k9).le (by decide)
theorem rb_c_X9_readLiteral_b65 (c K : Nat) (β : Bool) (b : Nat) (t : Nat) (F : Nat) (cs1 : CS) (cs9 : CS) (h : c_X9_readLiteral_b65 F cs1 = some cs9) : RBX t c K b 0 β cs1 cs9 := by
  unfold c_X9_readLiteral_b65 at h
  have hq : RBX t c K b 0 β cs1 cs1 := RBX.refl
  have h9 := Option.some.inj h
  exact (hq.to h9).le (by decide)
theorem rb_c_X9_readLiteral (c K : Nat) (β : Bool) (b : Nat) (F : Nat) (cs : CS) (x0 : Nat) (cs9 : CS) (h : c_X9_readLiteral F cs x0 = some cs9) : RBX x0 c K b 1 β cs cs9 := by
  unfold c_X9_readLiteral at h
  have hq : RBX x0 c K b 0 β cs cs := RBX.refl
  replace h := ob h; obtain ⟨w_2, hw_2, h⟩ := h
  replace h := ob h; obtain ⟨v_1, hv_1, h⟩ := h
  replace h := ob h; obtain ⟨w_4, hw_4, h⟩ := h
  replace h := ob h; obtain ⟨v_3, hv_3, h⟩ := h
  replace h := ob h; obtain ⟨w_6, hw_6, h⟩ := h
  replace h := ob h; obtain ⟨v_5, hv_5, h⟩ := h
  replace h := ob h; obtain ⟨v_7, hv_7, h⟩ := h
  replace h := ob h; obtain ⟨cs_8, hv_8, h⟩ := h
  replace hq := hq.trans (RBX.pI (by decide) hv_8)
  replace h := ob h; obtain ⟨v_9, hv_9, h⟩ := h
  replace h := ob h; obtain ⟨i_10, hi_10, h⟩ := h
  subst hi_10
  replace h := ob h; obtain ⟨v_11, hv_11, h⟩ := h
  replace h := ob h; obtain ⟨w_13, hw_13, h⟩ := h
  replace h := ob h; obtain ⟨z_12, hv_12, h⟩ := h
  replace hq := hq.trans ((cpl_rb (fun hk hb => FST.sz hk hb hv_9 hv_11) hv_12).1)
  replace h := ob h; obtain ⟨v_14, hv_14, h⟩ := h
  replace h := ob h; obtain ⟨i_16, hi_16, h⟩ := h
  subst hi_16
  replace h := ob h; obtain ⟨w_17, hw_17, h⟩ := h
  replace h := ob h; obtain ⟨v_15, hv_15, h⟩ := h
  by_cases c_18 : v_15 = 0
  · skip
    replace h := (if_pos c_18).symm.trans h
    have k9 := rb_c_X9_readLiteral_b65 c K β b x0 F z_12.1 cs9 h
    exact (hq.trans k9).le (by decide)
  · skip
    replace h := (if_neg c_18).symm.trans h
    replace h := ob h; obtain ⟨v_19, hv_19, h⟩ := h
    replace h := ob h; obtain ⟨i_20, hi_20, h⟩ := h
    subst hi_20
    replace h := ob h; obtain ⟨v_21, hv_21, h⟩ := h
    replace h := ob h; obtain ⟨cs_22, hv_22, h⟩ := h
    replace hq := hq.trans (RBX.wB rfl hv_22)
    have k9 := rb_c_X9_readLiteral_b65 c K β b x0 F cs_22 cs9 h
    exact (hq.trans k9).le (by decide)
theorem rb_c_X9_readColumn_b150 (c K : Nat) (β : Bool) (b : Nat) (t : Nat) (F : Nat) (cs1 : CS) (cs9 : CS) (h : c_X9_readColumn_b150 F cs1 = some cs9) : RBX t c K b 0 β cs1 cs9 := by
  unfold c_X9_readColumn_b150 at h
  have hq : RBX t c K b 0 β cs1 cs1 := RBX.refl
  have h9 := Option.some.inj h
  exact (hq.to h9).le (by decide)
theorem rb_c_X9_readColumn_b97 (c K : Nat) (β : Bool) (b : Nat) (F : Nat) (cs1 : CS) (u0 : Nat) (u1 : Int32) (u3 : Int64) (u5 : Int64) (cs9 : CS) (h : c_X9_readColumn_b97 F cs1 u0 u1 u3 u5 = some cs9) : RBX u0 c K b 1 β cs1 cs9 := by
  unfold c_X9_readColumn_b97 at h
  have hq : RBX u0 c K b 0 β cs1 cs1 := RBX.refl
  replace h := ob h; obtain ⟨v_1, hv_1, h⟩ := h
  replace h := ob h; obtain ⟨i_2, hi_2, h⟩ := h
  subst hi_2
  replace h := ob h; obtain ⟨v_3, hv_3, h⟩ := h
  replace h := ob h; obtain ⟨w_5, hw_5, h⟩ := h
  replace h := ob h; obtain ⟨z_4, hv_4, h⟩ := h
  replace hq := hq.trans ((cpl_rb (fun hk hb => FST.sz hk hb hv_1 hv_3) hv_4).1)
  replace h := ob h; obtain ⟨v_6, hv_6, h⟩ := h
  replace h := ob h; obtain ⟨i_8, hi_8, h⟩ := h
  subst hi_8
  replace h := ob h; obtain ⟨w_9, hw_9, h⟩ := h
  replace h := ob h; obtain ⟨v_7, hv_7, h⟩ := h
  by_cases c_10 : v_7 = 0
  · skip
    replace h := (if_pos c_10).symm.trans h
    have k9 := rb_c_X9_readColumn_b150 c K β b u0 F z_4.1 cs9 h
    exact (hq.trans k9).le (by decide)
  · skip
    replace h := (if_neg c_10).symm.trans h
    replace h := ob h; obtain ⟨v_11, hv_11, h⟩ := h
    replace h := ob h; obtain ⟨i_12, hi_12, h⟩ := h
    subst hi_12
    replace h := ob h; obtain ⟨v_13, hv_13, h⟩ := h
    replace h := ob h; obtain ⟨cs_14, hv_14, h⟩ := h
    replace hq := hq.trans (RBX.wB rfl hv_14)
    replace h := ob h; obtain ⟨v_15, hv_15, h⟩ := h
    replace h := ob h; obtain ⟨i_16, hi_16, h⟩ := h
    subst hi_16
    replace h := ob h; obtain ⟨v_17, hv_17, h⟩ := h
    replace h := ob h; obtain ⟨cs_18, hv_18, h⟩ := h
    replace hq := hq.trans (RBX.wB rfl hv_18)
    have k9 := rb_c_X9_readColumn_b150 c K β b u0 F cs_18 cs9 h
    exact (hq.trans k9).le (by decide)
theorem rb_c_X9_readColumn_b81 (c K : Nat) (β : Bool) (b : Nat) (F : Nat) (cs1 : CS) (u0 : Nat) (u1 : Int32) (u5 : Int64) (y0 : Int64) (cs9 : CS) (h : c_X9_readColumn_b81 F cs1 u0 u1 u5 y0 = some cs9) : RBX u0 c K b 1 β cs1 cs9 := by
  unfold c_X9_readColumn_b81 at h
  have hq : RBX u0 c K b 0 β cs1 cs1 := RBX.refl
  replace h := ob h; obtain ⟨w_2, hw_2, h⟩ := h
  replace h := ob h; obtain ⟨z_1, hv_1, h⟩ := h
  replace hq := hq.trans (rb_c_X9_accept c K β b F cs1 u0 38 z_1.1 z_1.2 hv_1)
  by_cases c_3 : z_1.2 = 0
  · skip
    replace h := (if_pos c_3).symm.trans h
    replace h := ob h; obtain ⟨w_5, hw_5, h⟩ := h
    replace h := ob h; obtain ⟨cs_4, hv_4, h⟩ := h
    replace hq := hq.trans (rb_c_X9_expect c K β b F z_1.1 u0 39 cs_4 hv_4)
    have k9 := rb_c_X9_readColumn_b97 c K β b F cs_4 u0 u1 y0 u5 cs9 h
    exact (hq.trans k9).le (by decide)
  · skip
    replace h := (if_neg c_3).symm.trans h
    have k9 := rb_c_X9_readColumn_b97 c K β b F z_1.1 u0 u1 y0 u5 cs9 h
    exact (hq.trans k9).le (by decide)
theorem rb_c_X9_readColumn_b32 (c K : Nat) (β : Bool) (b : Nat) (F : Nat) (cs1 : CS) (u0 : Nat) (u1 : Int32) (u2 : Int32) (y0 : Int64) (cs9 : CS) (h : c_X9_readColumn_b32 F cs1 u0 u1 u2 y0 = some cs9) : RBX u0 c K b 1 β cs1 cs9 := by
  unfold c_X9_readColumn_b32 at h
  have hq : RBX u0 c K b 0 β cs1 cs1 := RBX.refl
  replace h := ob h; obtain ⟨v_1, hv_1, h⟩ := h
  replace h := ob h; obtain ⟨cs_2, hv_2, h⟩ := h
  replace hq := hq.trans (RBX.pI (by decide) hv_2)
  by_cases c_3 : u2 = 0
  · skip
    replace h := (if_pos c_3).symm.trans h
    replace h := ob h; obtain ⟨w_5, hw_5, h⟩ := h
    replace h := ob h; obtain ⟨z_4, hv_4, h⟩ := h
    replace hq := hq.trans (rb_c_X9_accept c K β b F cs_2 u0 44 z_4.1 z_4.2 hv_4)
    by_cases c_6 : z_4.2 = 0
    · skip
      replace h := (if_pos c_6).symm.trans h
      have k9 := rb_c_X9_readColumn_b97 c K β b F z_4.1 u0 u1 y0 (-1) cs9 h
      exact (hq.trans k9).le (by decide)
    · skip
      replace h := (if_neg c_6).symm.trans h
      replace h := ob h; obtain ⟨w_8, hw_8, h⟩ := h
      replace h := ob h; obtain ⟨v_7, hv_7, h⟩ := h
      by_cases c_9 : v_7 = 38
      · skip
        replace h := (if_pos c_9).symm.trans h
        have k9 := rb_c_X9_readColumn_b81 c K β b F z_4.1 u0 u1 y0 0 cs9 h
        exact (hq.trans k9).le (by decide)
      · skip
        replace h := (if_neg c_9).symm.trans h
        replace h := ob h; obtain ⟨w_11, hw_11, h⟩ := h
        replace h := ob h; obtain ⟨v_10, hv_10, h⟩ := h
        have k9 := rb_c_X9_readColumn_b81 c K β b F z_4.1 u0 u1 y0 v_10 cs9 h
        exact (hq.trans k9).le (by decide)
  · skip
    replace h := (if_neg c_3).symm.trans h
    have k9 := rb_c_X9_readColumn_b97 c K β b F cs_2 u0 u1 y0 (-1) cs9 h
    exact (hq.trans k9).le (by decide)
theorem rb_c_X9_readColumn_b19 (c K : Nat) (β : Bool) (b : Nat) (F : Nat) (cs1 : CS) (u0 : Nat) (u1 : Int32) (y0 : Int32) (cs9 : CS) (h : c_X9_readColumn_b19 F cs1 u0 u1 y0 = some cs9) : RBX u0 c K b 1 β cs1 cs9 := by
  unfold c_X9_readColumn_b19 at h
  have hq : RBX u0 c K b 0 β cs1 cs1 := RBX.refl
  by_cases c_1 : y0 = 0
  · skip
    replace h := (if_pos c_1).symm.trans h
    replace h := ob h; obtain ⟨w_3, hw_3, h⟩ := h
    replace h := ob h; obtain ⟨v_2, hv_2, h⟩ := h
    have k9 := rb_c_X9_readColumn_b32 c K β b F cs1 u0 u1 y0 v_2 cs9 h
    exact (hq.trans k9).le (by decide)
  · skip
    replace h := (if_neg c_1).symm.trans h
    have k9 := rb_c_X9_readColumn_b32 c K β b F cs1 u0 u1 y0 0 cs9 h
    exact (hq.trans k9).le (by decide)
theorem rb_c_X9_readColumn (c K : Nat) (β : Bool) (b : Nat) (F : Nat) (cs : CS) (x0 : Nat) (cs9 : CS) (h : c_X9_readColumn F cs x0 = some cs9) : RBX x0 c K b 1 β cs cs9 := by
  unfold c_X9_readColumn at h
  have hq : RBX x0 c K b 0 β cs cs := RBX.refl
  replace h := ob h; obtain ⟨w_2, hw_2, h⟩ := h
  replace h := ob h; obtain ⟨v_1, hv_1, h⟩ := h
  replace h := ob h; obtain ⟨w_4, hw_4, h⟩ := h
  replace h := ob h; obtain ⟨v_3, hv_3, h⟩ := h
  by_cases c_5 : v_3 = 38
  · skip
    replace h := (if_pos c_5).symm.trans h
    have k9 := rb_c_X9_readColumn_b19 c K β b F cs x0 v_1 1 cs9 h
    exact (hq.trans k9).le (by decide)
  · skip
    replace h := (if_neg c_5).symm.trans h
    have k9 := rb_c_X9_readColumn_b19 c K β b F cs x0 v_1 0 cs9 h
    exact (hq.trans k9).le (by decide)
theorem rb_c_X9_deepen_b19 (c K : Nat) (β : Bool) (b : Nat) (F : Nat) (cs1 : CS) (u0 : Nat) (cs9 : CS) (h : c_X9_deepen_b19 F cs1 u0 = some cs9) : RBX u0 c K b 0 β cs1 cs9 := by
  unfold c_X9_deepen_b19 at h
  have hq : RBX u0 c K b 0 β cs1 cs1 := RBX.refl
  replace h := ob h; obtain ⟨v_1, hv_1, h⟩ := h
  replace h := ob h; obtain ⟨cs_2, hv_2, h⟩ := h
  replace hq := hq.trans (RBX.pI (by decide) hv_2)
  have h9 := Option.some.inj h
  exact (hq.to h9).le (by decide)
theorem rb_c_X9_deepen (c K : Nat) (β : Bool) (b : Nat) (F : Nat) (cs : CS) (x0 : Nat) (cs9 : CS) (h : c_X9_deepen F cs x0 = some cs9) : RBX x0 c K b 0 β cs cs9 := by
  unfold c_X9_deepen at h
  have hq : RBX x0 c K b 0 β cs cs := RBX.refl
  replace h := ob h; obtain ⟨v_1, hv_1, h⟩ := h
  by_cases c_2 : v_1 < 12
  · skip
    replace h := (if_pos c_2).symm.trans h
    have k9 := rb_c_X9_deepen_b19 c K β b F cs x0 cs9 h
    exact (hq.trans k9).le (by decide)
  · skip
    replace h := (if_neg c_2).symm.trans h
    replace h := ob h; obtain ⟨w_4, hw_4, h⟩ := h
    replace h := ob h; obtain ⟨v_3, hv_3, h⟩ := h
    replace h := ob h; obtain ⟨w_6, hw_6, h⟩ := h
    replace h := ob h; obtain ⟨cs_5, hv_5, h⟩ := h
    replace hq := hq.trans (ref_rb (by decide) hv_5)
    have k9 := rb_c_X9_deepen_b19 c K β b F cs_5 x0 cs9 h
    exact (hq.trans k9).le (by decide)
theorem rb_c_X9_readExpr_b73 (c K : Nat) (β : Bool) (b : Nat) (F : Nat) (T : TC_X9_readExpr) (hM_X9_readExpr : ∀ (cs : CS) (x0 : Nat) (cs9 : CS) (r9 : Int32), T.1 cs x0 = some (cs9, r9) → ∀ b, RBX x0 c K b 1 β cs cs9) (hM_X9_readConjunction : ∀ (cs : CS) (x0 : Nat) (cs9 : CS), T.2.1 cs x0 = some cs9 → ∀ b, RBX x0 c K b 1 β cs cs9) (hM_X9_readNegation : ∀ (cs : CS) (x0 : Nat) (cs9 : CS), T.2.2.1 cs x0 = some cs9 → ∀ b, RBX x0 c K b 1 β cs cs9) (hM_X9_readTest : ∀ (cs : CS) (x0 : Nat) (cs9 : CS), T.2.2.2.1 cs x0 = some cs9 → ∀ b, RBX x0 c K b 1 β cs cs9) (hM_X9_readSum : ∀ (cs : CS) (x0 : Nat) (cs9 : CS), T.2.2.2.2.1 cs x0 = some cs9 → ∀ b, RBX x0 c K b 1 β cs cs9) (hM_X9_readPart : ∀ (cs : CS) (x0 : Nat) (cs9 : CS), T.2.2.2.2.2.1 cs x0 = some cs9 → ∀ b, RBX x0 c K b 1 β cs cs9) (hM_X9_readSign : ∀ (cs : CS) (x0 : Nat) (cs9 : CS), T.2.2.2.2.2.2.1 cs x0 = some cs9 → ∀ b, RBX x0 c K b 1 β cs cs9) (hM_X9_readOne : ∀ (cs : CS) (x0 : Nat) (cs9 : CS), T.2.2.2.2.2.2.2.1 cs x0 = some cs9 → ∀ b, RBX x0 c K b 1 β cs cs9) (hM_X9_readCase : ∀ (cs : CS) (x0 : Nat) (cs9 : CS), T.2.2.2.2.2.2.2.2.1 cs x0 = some cs9 → ∀ b, RBX x0 c K b 1 β cs cs9) (hM_X9_readSpan : ∀ (cs : CS) (x0 : Nat) (cs9 : CS), T.2.2.2.2.2.2.2.2.2.1 cs x0 = some cs9 → ∀ b, RBX x0 c K b 1 β cs cs9) (hM_X9_readAggregate : ∀ (cs : CS) (x0 : Nat) (cs9 : CS), T.2.2.2.2.2.2.2.2.2.2.1 cs x0 = some cs9 → (∀ v, c_X9_kind F cs x0 = some v → AGC v) → ∀ b, RBX x0 c K b 1 β cs cs9) (hM_X9_readList : ∀ (cs : CS) (x0 : Nat) (x1 : Int32) (x2 : Int32) (x3 : Int32) (x4 : Int32) (cs9 : CS), T.2.2.2.2.2.2.2.2.2.2.2 cs x0 x1 x2 x3 x4 = some cs9 → ∀ b, FST b x2 → RBX x0 c K b 1 β cs cs9) (cs1 : CS) (u0 : Nat) (cs9 : CS) (r9 : Int32) (h : c_X9_readExpr_b73 F T cs1 u0 = some (cs9, r9)) : RBX u0 c K b 0 β cs1 cs9 := by
  unfold c_X9_readExpr_b73 at h
  have hq : RBX u0 c K b 0 β cs1 cs1 := RBX.refl
  replace h := ob h; obtain ⟨v_1, hv_1, h⟩ := h
  replace h := ob h; obtain ⟨i_2, hi_2, h⟩ := h
  subst hi_2
  replace h := ob h; obtain ⟨v_3, hv_3, h⟩ := h
  have h9 := (Prod.mk.inj (Option.some.inj h)).1
  exact (hq.to h9).le (by decide)
theorem rb_c_X9_readExpr_L19 (c K : Nat) (β : Bool) (b : Nat) (F : Nat) (T : TC_X9_readExpr) (hM_X9_readExpr : ∀ (cs : CS) (x0 : Nat) (cs9 : CS) (r9 : Int32), T.1 cs x0 = some (cs9, r9) → ∀ b, RBX x0 c K b 1 β cs cs9) (hM_X9_readConjunction : ∀ (cs : CS) (x0 : Nat) (cs9 : CS), T.2.1 cs x0 = some cs9 → ∀ b, RBX x0 c K b 1 β cs cs9) (hM_X9_readNegation : ∀ (cs : CS) (x0 : Nat) (cs9 : CS), T.2.2.1 cs x0 = some cs9 → ∀ b, RBX x0 c K b 1 β cs cs9) (hM_X9_readTest : ∀ (cs : CS) (x0 : Nat) (cs9 : CS), T.2.2.2.1 cs x0 = some cs9 → ∀ b, RBX x0 c K b 1 β cs cs9) (hM_X9_readSum : ∀ (cs : CS) (x0 : Nat) (cs9 : CS), T.2.2.2.2.1 cs x0 = some cs9 → ∀ b, RBX x0 c K b 1 β cs cs9) (hM_X9_readPart : ∀ (cs : CS) (x0 : Nat) (cs9 : CS), T.2.2.2.2.2.1 cs x0 = some cs9 → ∀ b, RBX x0 c K b 1 β cs cs9) (hM_X9_readSign : ∀ (cs : CS) (x0 : Nat) (cs9 : CS), T.2.2.2.2.2.2.1 cs x0 = some cs9 → ∀ b, RBX x0 c K b 1 β cs cs9) (hM_X9_readOne : ∀ (cs : CS) (x0 : Nat) (cs9 : CS), T.2.2.2.2.2.2.2.1 cs x0 = some cs9 → ∀ b, RBX x0 c K b 1 β cs cs9) (hM_X9_readCase : ∀ (cs : CS) (x0 : Nat) (cs9 : CS), T.2.2.2.2.2.2.2.2.1 cs x0 = some cs9 → ∀ b, RBX x0 c K b 1 β cs cs9) (hM_X9_readSpan : ∀ (cs : CS) (x0 : Nat) (cs9 : CS), T.2.2.2.2.2.2.2.2.2.1 cs x0 = some cs9 → ∀ b, RBX x0 c K b 1 β cs cs9) (hM_X9_readAggregate : ∀ (cs : CS) (x0 : Nat) (cs9 : CS), T.2.2.2.2.2.2.2.2.2.2.1 cs x0 = some cs9 → (∀ v, c_X9_kind F cs x0 = some v → AGC v) → ∀ b, RBX x0 c K b 1 β cs cs9) (hM_X9_readList : ∀ (cs : CS) (x0 : Nat) (x1 : Int32) (x2 : Int32) (x3 : Int32) (x4 : Int32) (cs9 : CS), T.2.2.2.2.2.2.2.2.2.2.2 cs x0 x1 x2 x3 x4 = some cs9 → ∀ b, FST b x2 → RBX x0 c K b 1 β cs cs9) : ∀ (lf_19 : Nat) (cs1 : CS) (u0 : Nat) (u1 : Int32) (u2 : Int32) (u3 : Int32) (cs9 : CS) (r9 : Int32), c_X9_readExpr_L19 F T lf_19 cs1 u0 u1 u2 u3 = some (cs9, r9) → FST b u1 → RBX u0 c K b 0 β cs1 cs9 := by
  intro lf_19
  induction lf_19 with
  | zero => intro cs1 u0 u1 u2 u3 cs9 r9 h hf; cases (show (none : Option (CS × Int32)) = _ from h)
  | succ lf_19 ih_19 =>
    intro cs1 u0 u1 u2 u3 cs9 r9 h hf
    rw [c_X9_readExpr_L19] at h
    have hq : RBX u0 c K b 0 β cs1 cs1 := RBX.refl
    by_cases c_1 : 2000 ≤ u3
    · skip
      replace h := (if_pos c_1).symm.trans h
      have k9 := rb_c_X9_readExpr_b73 c K β b F T hM_X9_readExpr hM_X9_readConjunction hM_X9_readNegation hM_X9_readTest hM_X9_readSum hM_X9_readPart hM_X9_readSign hM_X9_readOne hM_X9_readCase hM_X9_readSpan hM_X9_readAggregate hM_X9_readList cs1 u0 cs9 r9 h
      exact (hq.trans k9).le (by decide)
    · skip
      replace h := (if_neg c_1).symm.trans h
      replace h := ob h; obtain ⟨w_3, hw_3, h⟩ := h
      replace h := ob h; obtain ⟨v_2, hv_2, h⟩ := h
      by_cases c_4 : v_2 = 29
      · skip
        replace h := (if_pos c_4).symm.trans h
        replace h := ob h; obtain ⟨w_6, hw_6, h⟩ := h
        replace h := ob h; obtain ⟨v_5, hv_5, h⟩ := h
        replace h := ob h; obtain ⟨v_7, hv_7, h⟩ := h
        replace h := ob h; obtain ⟨cs_8, hv_8, h⟩ := h
        replace hq := hq.trans (RBX.pI (by decide) hv_8)
        replace h := ob h; obtain ⟨w_10, hw_10, h⟩ := h
        replace h := ob h; obtain ⟨cs_9, hv_9, h⟩ := h
        replace hq := hq.trans (hM_X9_readConjunction cs_8 u0 cs_9 hv_9 b)
        replace h := ob h; obtain ⟨w_12, hw_12, h⟩ := h
        replace h := ob h; obtain ⟨z_11, hv_11, h⟩ := h
        replace hq := hq.trans ((cpl_rb (fun _ _ => hf) hv_11).1)
        have k9 := ih_19 z_11.1 u0 u1 u2 (u3 + 1) cs9 r9 h hf
        exact (hq.trans k9).le (by decide)
      · skip
        replace h := (if_neg c_4).symm.trans h
        have k9 := rb_c_X9_readExpr_b73 c K β b F T hM_X9_readExpr hM_X9_readConjunction hM_X9_readNegation hM_X9_readTest hM_X9_readSum hM_X9_readPart hM_X9_readSign hM_X9_readOne hM_X9_readCase hM_X9_readSpan hM_X9_readAggregate hM_X9_readList cs1 u0 cs9 r9 h
        exact (hq.trans k9).le (by decide)
theorem rb_cb_X9_readExpr (c K : Nat) (β : Bool) (b : Nat) (F : Nat) (T : TC_X9_readExpr) (hM_X9_readExpr : ∀ (cs : CS) (x0 : Nat) (cs9 : CS) (r9 : Int32), T.1 cs x0 = some (cs9, r9) → ∀ b, RBX x0 c K b 1 β cs cs9) (hM_X9_readConjunction : ∀ (cs : CS) (x0 : Nat) (cs9 : CS), T.2.1 cs x0 = some cs9 → ∀ b, RBX x0 c K b 1 β cs cs9) (hM_X9_readNegation : ∀ (cs : CS) (x0 : Nat) (cs9 : CS), T.2.2.1 cs x0 = some cs9 → ∀ b, RBX x0 c K b 1 β cs cs9) (hM_X9_readTest : ∀ (cs : CS) (x0 : Nat) (cs9 : CS), T.2.2.2.1 cs x0 = some cs9 → ∀ b, RBX x0 c K b 1 β cs cs9) (hM_X9_readSum : ∀ (cs : CS) (x0 : Nat) (cs9 : CS), T.2.2.2.2.1 cs x0 = some cs9 → ∀ b, RBX x0 c K b 1 β cs cs9) (hM_X9_readPart : ∀ (cs : CS) (x0 : Nat) (cs9 : CS), T.2.2.2.2.2.1 cs x0 = some cs9 → ∀ b, RBX x0 c K b 1 β cs cs9) (hM_X9_readSign : ∀ (cs : CS) (x0 : Nat) (cs9 : CS), T.2.2.2.2.2.2.1 cs x0 = some cs9 → ∀ b, RBX x0 c K b 1 β cs cs9) (hM_X9_readOne : ∀ (cs : CS) (x0 : Nat) (cs9 : CS), T.2.2.2.2.2.2.2.1 cs x0 = some cs9 → ∀ b, RBX x0 c K b 1 β cs cs9) (hM_X9_readCase : ∀ (cs : CS) (x0 : Nat) (cs9 : CS), T.2.2.2.2.2.2.2.2.1 cs x0 = some cs9 → ∀ b, RBX x0 c K b 1 β cs cs9) (hM_X9_readSpan : ∀ (cs : CS) (x0 : Nat) (cs9 : CS), T.2.2.2.2.2.2.2.2.2.1 cs x0 = some cs9 → ∀ b, RBX x0 c K b 1 β cs cs9) (hM_X9_readAggregate : ∀ (cs : CS) (x0 : Nat) (cs9 : CS), T.2.2.2.2.2.2.2.2.2.2.1 cs x0 = some cs9 → (∀ v, c_X9_kind F cs x0 = some v → AGC v) → ∀ b, RBX x0 c K b 1 β cs cs9) (hM_X9_readList : ∀ (cs : CS) (x0 : Nat) (x1 : Int32) (x2 : Int32) (x3 : Int32) (x4 : Int32) (cs9 : CS), T.2.2.2.2.2.2.2.2.2.2.2 cs x0 x1 x2 x3 x4 = some cs9 → ∀ b, FST b x2 → RBX x0 c K b 1 β cs cs9) (cs : CS) (x0 : Nat) (cs9 : CS) (r9 : Int32) (h : cb_X9_readExpr F T cs x0 = some (cs9, r9)) : RBX x0 c K b 1 β cs cs9 := by
  refine RBX.ent (fun b hb hR => ?_)
  unfold cb_X9_readExpr at h
  have hq : RBX x0 c K b 0 β cs cs := RBX.refl
  replace h := ob h; obtain ⟨v_1, hv_1, h⟩ := h
  replace h := ob h; obtain ⟨i_2, hi_2, h⟩ := h
  subst hi_2
  replace h := ob h; obtain ⟨v_3, hv_3, h⟩ := h
  have hf : FST b v_3 := FST.sz hR hb hv_1 hv_3
  replace h := ob h; obtain ⟨w_5, hw_5, h⟩ := h
  replace h := ob h; obtain ⟨v_4, hv_4, h⟩ := h
  replace h := ob h; obtain ⟨w_7, hw_7, h⟩ := h
  replace h := ob h; obtain ⟨cs_6, hv_6, h⟩ := h
  replace hq := hq.trans (hM_X9_readConjunction cs x0 cs_6 hv_6 b)
  have k9 := rb_c_X9_readExpr_L19 c K β b F T hM_X9_readExpr hM_X9_readConjunction hM_X9_readNegation hM_X9_readTest hM_X9_readSum hM_X9_readPart hM_X9_readSign hM_X9_readOne hM_X9_readCase hM_X9_readSpan hM_X9_readAggregate hM_X9_readList F cs_6 x0 v_3 v_4 0 cs9 r9 h hf
  exact (hq.trans k9).le (by decide)
theorem rb_c_X9_readConjunction_b73 (c K : Nat) (β : Bool) (b : Nat) (t : Nat) (F : Nat) (T : TC_X9_readExpr) (hM_X9_readExpr : ∀ (cs : CS) (x0 : Nat) (cs9 : CS) (r9 : Int32), T.1 cs x0 = some (cs9, r9) → ∀ b, RBX x0 c K b 1 β cs cs9) (hM_X9_readConjunction : ∀ (cs : CS) (x0 : Nat) (cs9 : CS), T.2.1 cs x0 = some cs9 → ∀ b, RBX x0 c K b 1 β cs cs9) (hM_X9_readNegation : ∀ (cs : CS) (x0 : Nat) (cs9 : CS), T.2.2.1 cs x0 = some cs9 → ∀ b, RBX x0 c K b 1 β cs cs9) (hM_X9_readTest : ∀ (cs : CS) (x0 : Nat) (cs9 : CS), T.2.2.2.1 cs x0 = some cs9 → ∀ b, RBX x0 c K b 1 β cs cs9) (hM_X9_readSum : ∀ (cs : CS) (x0 : Nat) (cs9 : CS), T.2.2.2.2.1 cs x0 = some cs9 → ∀ b, RBX x0 c K b 1 β cs cs9) (hM_X9_readPart : ∀ (cs : CS) (x0 : Nat) (cs9 : CS), T.2.2.2.2.2.1 cs x0 = some cs9 → ∀ b, RBX x0 c K b 1 β cs cs9) (hM_X9_readSign : ∀ (cs : CS) (x0 : Nat) (cs9 : CS), T.2.2.2.2.2.2.1 cs x0 = some cs9 → ∀ b, RBX x0 c K b 1 β cs cs9) (hM_X9_readOne : ∀ (cs : CS) (x0 : Nat) (cs9 : CS), T.2.2.2.2.2.2.2.1 cs x0 = some cs9 → ∀ b, RBX x0 c K b 1 β cs cs9) (hM_X9_readCase : ∀ (cs : CS) (x0 : Nat) (cs9 : CS), T.2.2.2.2.2.2.2.2.1 cs x0 = some cs9 → ∀ b, RBX x0 c K b 1 β cs cs9) (hM_X9_readSpan : ∀ (cs : CS) (x0 : Nat) (cs9 : CS), T.2.2.2.2.2.2.2.2.2.1 cs x0 = some cs9 → ∀ b, RBX x0 c K b 1 β cs cs9) (hM_X9_readAggregate : ∀ (cs : CS) (x0 : Nat) (cs9 : CS), T.2.2.2.2.2.2.2.2.2.2.1 cs x0 = some cs9 → (∀ v, c_X9_kind F cs x0 = some v → AGC v) → ∀ b, RBX x0 c K b 1 β cs cs9) (hM_X9_readList : ∀ (cs : CS) (x0 : Nat) (x1 : Int32) (x2 : Int32) (x3 : Int32) (x4 : Int32) (cs9 : CS), T.2.2.2.2.2.2.2.2.2.2.2 cs x0 x1 x2 x3 x4 = some cs9 → ∀ b, FST b x2 → RBX x0 c K b 1 β cs cs9) (cs1 : CS) (cs9 : CS) (h : c_X9_readConjunction_b73 F T cs1 = some cs9) : RBX t c K b 0 β cs1 cs9 := by
  unfold c_X9_readConjunction_b73 at h
  have hq : RBX t c K b 0 β cs1 cs1 := RBX.refl
  have h9 := Option.some.inj h
  exact (hq.to h9).le (by decide)
theorem rb_c_X9_readConjunction_L19 (c K : Nat) (β : Bool) (b : Nat) (F : Nat) (T : TC_X9_readExpr) (hM_X9_readExpr : ∀ (cs : CS) (x0 : Nat) (cs9 : CS) (r9 : Int32), T.1 cs x0 = some (cs9, r9) → ∀ b, RBX x0 c K b 1 β cs cs9) (hM_X9_readConjunction : ∀ (cs : CS) (x0 : Nat) (cs9 : CS), T.2.1 cs x0 = some cs9 → ∀ b, RBX x0 c K b 1 β cs cs9) (hM_X9_readNegation : ∀ (cs : CS) (x0 : Nat) (cs9 : CS), T.2.2.1 cs x0 = some cs9 → ∀ b, RBX x0 c K b 1 β cs cs9) (hM_X9_readTest : ∀ (cs : CS) (x0 : Nat) (cs9 : CS), T.2.2.2.1 cs x0 = some cs9 → ∀ b, RBX x0 c K b 1 β cs cs9) (hM_X9_readSum : ∀ (cs : CS) (x0 : Nat) (cs9 : CS), T.2.2.2.2.1 cs x0 = some cs9 → ∀ b, RBX x0 c K b 1 β cs cs9) (hM_X9_readPart : ∀ (cs : CS) (x0 : Nat) (cs9 : CS), T.2.2.2.2.2.1 cs x0 = some cs9 → ∀ b, RBX x0 c K b 1 β cs cs9) (hM_X9_readSign : ∀ (cs : CS) (x0 : Nat) (cs9 : CS), T.2.2.2.2.2.2.1 cs x0 = some cs9 → ∀ b, RBX x0 c K b 1 β cs cs9) (hM_X9_readOne : ∀ (cs : CS) (x0 : Nat) (cs9 : CS), T.2.2.2.2.2.2.2.1 cs x0 = some cs9 → ∀ b, RBX x0 c K b 1 β cs cs9) (hM_X9_readCase : ∀ (cs : CS) (x0 : Nat) (cs9 : CS), T.2.2.2.2.2.2.2.2.1 cs x0 = some cs9 → ∀ b, RBX x0 c K b 1 β cs cs9) (hM_X9_readSpan : ∀ (cs : CS) (x0 : Nat) (cs9 : CS), T.2.2.2.2.2.2.2.2.2.1 cs x0 = some cs9 → ∀ b, RBX x0 c K b 1 β cs cs9) (hM_X9_readAggregate : ∀ (cs : CS) (x0 : Nat) (cs9 : CS), T.2.2.2.2.2.2.2.2.2.2.1 cs x0 = some cs9 → (∀ v, c_X9_kind F cs x0 = some v → AGC v) → ∀ b, RBX x0 c K b 1 β cs cs9) (hM_X9_readList : ∀ (cs : CS) (x0 : Nat) (x1 : Int32) (x2 : Int32) (x3 : Int32) (x4 : Int32) (cs9 : CS), T.2.2.2.2.2.2.2.2.2.2.2 cs x0 x1 x2 x3 x4 = some cs9 → ∀ b, FST b x2 → RBX x0 c K b 1 β cs cs9) : ∀ (lf_19 : Nat) (cs1 : CS) (u0 : Nat) (u1 : Int32) (u2 : Int32) (u3 : Int32) (cs9 : CS), c_X9_readConjunction_L19 F T lf_19 cs1 u0 u1 u2 u3 = some cs9 → FST b u1 → RBX u0 c K b 0 β cs1 cs9 := by
  intro lf_19
  induction lf_19 with
  | zero => intro cs1 u0 u1 u2 u3 cs9 h hf; cases (show (none : Option CS) = _ from h)
  | succ lf_19 ih_19 =>
    intro cs1 u0 u1 u2 u3 cs9 h hf
    rw [c_X9_readConjunction_L19] at h
    have hq : RBX u0 c K b 0 β cs1 cs1 := RBX.refl
    by_cases c_1 : 2000 ≤ u3
    · skip
      replace h := (if_pos c_1).symm.trans h
      have k9 := rb_c_X9_readConjunction_b73 c K β b u0 F T hM_X9_readExpr hM_X9_readConjunction hM_X9_readNegation hM_X9_readTest hM_X9_readSum hM_X9_readPart hM_X9_readSign hM_X9_readOne hM_X9_readCase hM_X9_readSpan hM_X9_readAggregate hM_X9_readList cs1 cs9 h
      exact (hq.trans k9).le (by decide)
    · skip
      replace h := (if_neg c_1).symm.trans h
      replace h := ob h; obtain ⟨w_3, hw_3, h⟩ := h
      replace h := ob h; obtain ⟨v_2, hv_2, h⟩ := h
      by_cases c_4 : v_2 = 28
      · skip
        replace h := (if_pos c_4).symm.trans h
        replace h := ob h; obtain ⟨w_6, hw_6, h⟩ := h
        replace h := ob h; obtain ⟨v_5, hv_5, h⟩ := h
        replace h := ob h; obtain ⟨v_7, hv_7, h⟩ := h
        replace h := ob h; obtain ⟨cs_8, hv_8, h⟩ := h
        replace hq := hq.trans (RBX.pI (by decide) hv_8)
        replace h := ob h; obtain ⟨w_10, hw_10, h⟩ := h
        replace h := ob h; obtain ⟨cs_9, hv_9, h⟩ := h
        replace hq := hq.trans (hM_X9_readNegation cs_8 u0 cs_9 hv_9 b)
        replace h := ob h; obtain ⟨w_12, hw_12, h⟩ := h
        replace h := ob h; obtain ⟨z_11, hv_11, h⟩ := h
        replace hq := hq.trans ((cpl_rb (fun _ _ => hf) hv_11).1)
        have k9 := ih_19 z_11.1 u0 u1 u2 (u3 + 1) cs9 h hf
        exact (hq.trans k9).le (by decide)
      · skip
        replace h := (if_neg c_4).symm.trans h
        have k9 := rb_c_X9_readConjunction_b73 c K β b u0 F T hM_X9_readExpr hM_X9_readConjunction hM_X9_readNegation hM_X9_readTest hM_X9_readSum hM_X9_readPart hM_X9_readSign hM_X9_readOne hM_X9_readCase hM_X9_readSpan hM_X9_readAggregate hM_X9_readList cs1 cs9 h
        exact (hq.trans k9).le (by decide)
theorem rb_cb_X9_readConjunction (c K : Nat) (β : Bool) (b : Nat) (F : Nat) (T : TC_X9_readExpr) (hM_X9_readExpr : ∀ (cs : CS) (x0 : Nat) (cs9 : CS) (r9 : Int32), T.1 cs x0 = some (cs9, r9) → ∀ b, RBX x0 c K b 1 β cs cs9) (hM_X9_readConjunction : ∀ (cs : CS) (x0 : Nat) (cs9 : CS), T.2.1 cs x0 = some cs9 → ∀ b, RBX x0 c K b 1 β cs cs9) (hM_X9_readNegation : ∀ (cs : CS) (x0 : Nat) (cs9 : CS), T.2.2.1 cs x0 = some cs9 → ∀ b, RBX x0 c K b 1 β cs cs9) (hM_X9_readTest : ∀ (cs : CS) (x0 : Nat) (cs9 : CS), T.2.2.2.1 cs x0 = some cs9 → ∀ b, RBX x0 c K b 1 β cs cs9) (hM_X9_readSum : ∀ (cs : CS) (x0 : Nat) (cs9 : CS), T.2.2.2.2.1 cs x0 = some cs9 → ∀ b, RBX x0 c K b 1 β cs cs9) (hM_X9_readPart : ∀ (cs : CS) (x0 : Nat) (cs9 : CS), T.2.2.2.2.2.1 cs x0 = some cs9 → ∀ b, RBX x0 c K b 1 β cs cs9) (hM_X9_readSign : ∀ (cs : CS) (x0 : Nat) (cs9 : CS), T.2.2.2.2.2.2.1 cs x0 = some cs9 → ∀ b, RBX x0 c K b 1 β cs cs9) (hM_X9_readOne : ∀ (cs : CS) (x0 : Nat) (cs9 : CS), T.2.2.2.2.2.2.2.1 cs x0 = some cs9 → ∀ b, RBX x0 c K b 1 β cs cs9) (hM_X9_readCase : ∀ (cs : CS) (x0 : Nat) (cs9 : CS), T.2.2.2.2.2.2.2.2.1 cs x0 = some cs9 → ∀ b, RBX x0 c K b 1 β cs cs9) (hM_X9_readSpan : ∀ (cs : CS) (x0 : Nat) (cs9 : CS), T.2.2.2.2.2.2.2.2.2.1 cs x0 = some cs9 → ∀ b, RBX x0 c K b 1 β cs cs9) (hM_X9_readAggregate : ∀ (cs : CS) (x0 : Nat) (cs9 : CS), T.2.2.2.2.2.2.2.2.2.2.1 cs x0 = some cs9 → (∀ v, c_X9_kind F cs x0 = some v → AGC v) → ∀ b, RBX x0 c K b 1 β cs cs9) (hM_X9_readList : ∀ (cs : CS) (x0 : Nat) (x1 : Int32) (x2 : Int32) (x3 : Int32) (x4 : Int32) (cs9 : CS), T.2.2.2.2.2.2.2.2.2.2.2 cs x0 x1 x2 x3 x4 = some cs9 → ∀ b, FST b x2 → RBX x0 c K b 1 β cs cs9) (cs : CS) (x0 : Nat) (cs9 : CS) (h : cb_X9_readConjunction F T cs x0 = some cs9) : RBX x0 c K b 1 β cs cs9 := by
  refine RBX.ent (fun b hb hR => ?_)
  unfold cb_X9_readConjunction at h
  have hq : RBX x0 c K b 0 β cs cs := RBX.refl
  replace h := ob h; obtain ⟨v_1, hv_1, h⟩ := h
  replace h := ob h; obtain ⟨i_2, hi_2, h⟩ := h
  subst hi_2
  replace h := ob h; obtain ⟨v_3, hv_3, h⟩ := h
  have hf : FST b v_3 := FST.sz hR hb hv_1 hv_3
  replace h := ob h; obtain ⟨w_5, hw_5, h⟩ := h
  replace h := ob h; obtain ⟨v_4, hv_4, h⟩ := h
  replace h := ob h; obtain ⟨w_7, hw_7, h⟩ := h
  replace h := ob h; obtain ⟨cs_6, hv_6, h⟩ := h
  replace hq := hq.trans (hM_X9_readNegation cs x0 cs_6 hv_6 b)
  have k9 := rb_c_X9_readConjunction_L19 c K β b F T hM_X9_readExpr hM_X9_readConjunction hM_X9_readNegation hM_X9_readTest hM_X9_readSum hM_X9_readPart hM_X9_readSign hM_X9_readOne hM_X9_readCase hM_X9_readSpan hM_X9_readAggregate hM_X9_readList F cs_6 x0 v_3 v_4 0 cs9 h hf
  exact (hq.trans k9).le (by decide)
theorem rb_c_X9_readNegation_b49 (c K : Nat) (β : Bool) (b : Nat) (F : Nat) (T : TC_X9_readExpr) (hM_X9_readExpr : ∀ (cs : CS) (x0 : Nat) (cs9 : CS) (r9 : Int32), T.1 cs x0 = some (cs9, r9) → ∀ b, RBX x0 c K b 1 β cs cs9) (hM_X9_readConjunction : ∀ (cs : CS) (x0 : Nat) (cs9 : CS), T.2.1 cs x0 = some cs9 → ∀ b, RBX x0 c K b 1 β cs cs9) (hM_X9_readNegation : ∀ (cs : CS) (x0 : Nat) (cs9 : CS), T.2.2.1 cs x0 = some cs9 → ∀ b, RBX x0 c K b 1 β cs cs9) (hM_X9_readTest : ∀ (cs : CS) (x0 : Nat) (cs9 : CS), T.2.2.2.1 cs x0 = some cs9 → ∀ b, RBX x0 c K b 1 β cs cs9) (hM_X9_readSum : ∀ (cs : CS) (x0 : Nat) (cs9 : CS), T.2.2.2.2.1 cs x0 = some cs9 → ∀ b, RBX x0 c K b 1 β cs cs9) (hM_X9_readPart : ∀ (cs : CS) (x0 : Nat) (cs9 : CS), T.2.2.2.2.2.1 cs x0 = some cs9 → ∀ b, RBX x0 c K b 1 β cs cs9) (hM_X9_readSign : ∀ (cs : CS) (x0 : Nat) (cs9 : CS), T.2.2.2.2.2.2.1 cs x0 = some cs9 → ∀ b, RBX x0 c K b 1 β cs cs9) (hM_X9_readOne : ∀ (cs : CS) (x0 : Nat) (cs9 : CS), T.2.2.2.2.2.2.2.1 cs x0 = some cs9 → ∀ b, RBX x0 c K b 1 β cs cs9) (hM_X9_readCase : ∀ (cs : CS) (x0 : Nat) (cs9 : CS), T.2.2.2.2.2.2.2.2.1 cs x0 = some cs9 → ∀ b, RBX x0 c K b 1 β cs cs9) (hM_X9_readSpan : ∀ (cs : CS) (x0 : Nat) (cs9 : CS), T.2.2.2.2.2.2.2.2.2.1 cs x0 = some cs9 → ∀ b, RBX x0 c K b 1 β cs cs9) (hM_X9_readAggregate : ∀ (cs : CS) (x0 : Nat) (cs9 : CS), T.2.2.2.2.2.2.2.2.2.2.1 cs x0 = some cs9 → (∀ v, c_X9_kind F cs x0 = some v → AGC v) → ∀ b, RBX x0 c K b 1 β cs cs9) (hM_X9_readList : ∀ (cs : CS) (x0 : Nat) (x1 : Int32) (x2 : Int32) (x3 : Int32) (x4 : Int32) (cs9 : CS), T.2.2.2.2.2.2.2.2.2.2.2 cs x0 x1 x2 x3 x4 = some cs9 → ∀ b, FST b x2 → RBX x0 c K b 1 β cs cs9) (cs1 : CS) (u0 : Nat) (u1 : Int32) (u2 : Int32) (cs9 : CS) (h : c_X9_readNegation_b49 F T cs1 u0 u1 u2 = some cs9) (hf : FST b u1) : RBX u0 c K b 1 β cs1 cs9 := by
  unfold c_X9_readNegation_b49 at h
  have hq : RBX u0 c K b 0 β cs1 cs1 := RBX.refl
  replace h := ob h; obtain ⟨v_1, hv_1, h⟩ := h
  replace h := ob h; obtain ⟨cs_2, hv_2, h⟩ := h
  replace hq := hq.trans (RBX.pI (by decide) hv_2)
  replace h := ob h; obtain ⟨w_4, hw_4, h⟩ := h
  replace h := ob h; obtain ⟨z_3, hv_3, h⟩ := h
  replace hq := hq.trans ((cpl_rb (fun _ _ => hf) hv_3).1)
  have h9 := Option.some.inj h
  exact (hq.to h9).le (by decide)
theorem rb_cb_X9_readNegation (c K : Nat) (β : Bool) (b : Nat) (F : Nat) (T : TC_X9_readExpr) (hM_X9_readExpr : ∀ (cs : CS) (x0 : Nat) (cs9 : CS) (r9 : Int32), T.1 cs x0 = some (cs9, r9) → ∀ b, RBX x0 c K b 1 β cs cs9) (hM_X9_readConjunction : ∀ (cs : CS) (x0 : Nat) (cs9 : CS), T.2.1 cs x0 = some cs9 → ∀ b, RBX x0 c K b 1 β cs cs9) (hM_X9_readNegation : ∀ (cs : CS) (x0 : Nat) (cs9 : CS), T.2.2.1 cs x0 = some cs9 → ∀ b, RBX x0 c K b 1 β cs cs9) (hM_X9_readTest : ∀ (cs : CS) (x0 : Nat) (cs9 : CS), T.2.2.2.1 cs x0 = some cs9 → ∀ b, RBX x0 c K b 1 β cs cs9) (hM_X9_readSum : ∀ (cs : CS) (x0 : Nat) (cs9 : CS), T.2.2.2.2.1 cs x0 = some cs9 → ∀ b, RBX x0 c K b 1 β cs cs9) (hM_X9_readPart : ∀ (cs : CS) (x0 : Nat) (cs9 : CS), T.2.2.2.2.2.1 cs x0 = some cs9 → ∀ b, RBX x0 c K b 1 β cs cs9) (hM_X9_readSign : ∀ (cs : CS) (x0 : Nat) (cs9 : CS), T.2.2.2.2.2.2.1 cs x0 = some cs9 → ∀ b, RBX x0 c K b 1 β cs cs9) (hM_X9_readOne : ∀ (cs : CS) (x0 : Nat) (cs9 : CS), T.2.2.2.2.2.2.2.1 cs x0 = some cs9 → ∀ b, RBX x0 c K b 1 β cs cs9) (hM_X9_readCase : ∀ (cs : CS) (x0 : Nat) (cs9 : CS), T.2.2.2.2.2.2.2.2.1 cs x0 = some cs9 → ∀ b, RBX x0 c K b 1 β cs cs9) (hM_X9_readSpan : ∀ (cs : CS) (x0 : Nat) (cs9 : CS), T.2.2.2.2.2.2.2.2.2.1 cs x0 = some cs9 → ∀ b, RBX x0 c K b 1 β cs cs9) (hM_X9_readAggregate : ∀ (cs : CS) (x0 : Nat) (cs9 : CS), T.2.2.2.2.2.2.2.2.2.2.1 cs x0 = some cs9 → (∀ v, c_X9_kind F cs x0 = some v → AGC v) → ∀ b, RBX x0 c K b 1 β cs cs9) (hM_X9_readList : ∀ (cs : CS) (x0 : Nat) (x1 : Int32) (x2 : Int32) (x3 : Int32) (x4 : Int32) (cs9 : CS), T.2.2.2.2.2.2.2.2.2.2.2 cs x0 x1 x2 x3 x4 = some cs9 → ∀ b, FST b x2 → RBX x0 c K b 1 β cs cs9) (cs : CS) (x0 : Nat) (cs9 : CS) (h : cb_X9_readNegation F T cs x0 = some cs9) : RBX x0 c K b 1 β cs cs9 := by
  refine RBX.ent (fun b hb hR => ?_)
  unfold cb_X9_readNegation at h
  have hq : RBX x0 c K b 0 β cs cs := RBX.refl
  replace h := ob h; obtain ⟨w_2, hw_2, h⟩ := h
  replace h := ob h; obtain ⟨v_1, hv_1, h⟩ := h
  by_cases c_3 : v_1 = 25
  · skip
    replace h := (if_pos c_3).symm.trans h
    replace h := ob h; obtain ⟨v_4, hv_4, h⟩ := h
    replace h := ob h; obtain ⟨i_5, hi_5, h⟩ := h
    subst hi_5
    replace h := ob h; obtain ⟨v_6, hv_6, h⟩ := h
    have hf : FST b v_6 := FST.sz hR hb hv_4 hv_6
    replace h := ob h; obtain ⟨w_8, hw_8, h⟩ := h
    replace h := ob h; obtain ⟨v_7, hv_7, h⟩ := h
    replace h := ob h; obtain ⟨w_10, hw_10, h⟩ := h
    replace h := ob h; obtain ⟨cs_9, hv_9, h⟩ := h
    replace hq := hq.trans (rb_c_X9_deepen c K β b F cs x0 cs_9 hv_9)
    replace h := ob h; obtain ⟨w_12, hw_12, h⟩ := h
    replace h := ob h; obtain ⟨z_11, hv_11, h⟩ := h
    replace hq := hq.trans (rb_c_X9_accept c K β b F cs_9 x0 25 z_11.1 z_11.2 hv_11)
    replace h := ob h; obtain ⟨v_13, hv_13, h⟩ := h
    by_cases c_14 : v_13 = 0
    · skip
      replace h := (if_pos c_14).symm.trans h
      replace h := ob h; obtain ⟨w_16, hw_16, h⟩ := h
      replace h := ob h; obtain ⟨cs_15, hv_15, h⟩ := h
      replace hq := hq.trans (hM_X9_readNegation z_11.1 x0 cs_15 hv_15 b)
      have k9 := rb_c_X9_readNegation_b49 c K β b F T hM_X9_readExpr hM_X9_readConjunction hM_X9_readNegation hM_X9_readTest hM_X9_readSum hM_X9_readPart hM_X9_readSign hM_X9_readOne hM_X9_readCase hM_X9_readSpan hM_X9_readAggregate hM_X9_readList cs_15 x0 v_6 v_7 cs9 h hf
      exact (hq.trans k9).le (by decide)
    · skip
      replace h := (if_neg c_14).symm.trans h
      have k9 := rb_c_X9_readNegation_b49 c K β b F T hM_X9_readExpr hM_X9_readConjunction hM_X9_readNegation hM_X9_readTest hM_X9_readSum hM_X9_readPart hM_X9_readSign hM_X9_readOne hM_X9_readCase hM_X9_readSpan hM_X9_readAggregate hM_X9_readList z_11.1 x0 v_6 v_7 cs9 h hf
      exact (hq.trans k9).le (by decide)
  · skip
    replace h := (if_neg c_3).symm.trans h
    replace h := ob h; obtain ⟨w_18, hw_18, h⟩ := h
    replace h := ob h; obtain ⟨cs_17, hv_17, h⟩ := h
    replace hq := hq.trans (hM_X9_readTest cs x0 cs_17 hv_17 b)
    have h9 := Option.some.inj h
    exact (hq.to h9).le (by decide)
theorem rb_c_X9_readTest_b282 (c K : Nat) (β : Bool) (b : Nat) (t : Nat) (F : Nat) (T : TC_X9_readExpr) (hM_X9_readExpr : ∀ (cs : CS) (x0 : Nat) (cs9 : CS) (r9 : Int32), T.1 cs x0 = some (cs9, r9) → ∀ b, RBX x0 c K b 1 β cs cs9) (hM_X9_readConjunction : ∀ (cs : CS) (x0 : Nat) (cs9 : CS), T.2.1 cs x0 = some cs9 → ∀ b, RBX x0 c K b 1 β cs cs9) (hM_X9_readNegation : ∀ (cs : CS) (x0 : Nat) (cs9 : CS), T.2.2.1 cs x0 = some cs9 → ∀ b, RBX x0 c K b 1 β cs cs9) (hM_X9_readTest : ∀ (cs : CS) (x0 : Nat) (cs9 : CS), T.2.2.2.1 cs x0 = some cs9 → ∀ b, RBX x0 c K b 1 β cs cs9) (hM_X9_readSum : ∀ (cs : CS) (x0 : Nat) (cs9 : CS), T.2.2.2.2.1 cs x0 = some cs9 → ∀ b, RBX x0 c K b 1 β cs cs9) (hM_X9_readPart : ∀ (cs : CS) (x0 : Nat) (cs9 : CS), T.2.2.2.2.2.1 cs x0 = some cs9 → ∀ b, RBX x0 c K b 1 β cs cs9) (hM_X9_readSign : ∀ (cs : CS) (x0 : Nat) (cs9 : CS), T.2.2.2.2.2.2.1 cs x0 = some cs9 → ∀ b, RBX x0 c K b 1 β cs cs9) (hM_X9_readOne : ∀ (cs : CS) (x0 : Nat) (cs9 : CS), T.2.2.2.2.2.2.2.1 cs x0 = some cs9 → ∀ b, RBX x0 c K b 1 β cs cs9) (hM_X9_readCase : ∀ (cs : CS) (x0 : Nat) (cs9 : CS), T.2.2.2.2.2.2.2.2.1 cs x0 = some cs9 → ∀ b, RBX x0 c K b 1 β cs cs9) (hM_X9_readSpan : ∀ (cs : CS) (x0 : Nat) (cs9 : CS), T.2.2.2.2.2.2.2.2.2.1 cs x0 = some cs9 → ∀ b, RBX x0 c K b 1 β cs cs9) (hM_X9_readAggregate : ∀ (cs : CS) (x0 : Nat) (cs9 : CS), T.2.2.2.2.2.2.2.2.2.2.1 cs x0 = some cs9 → (∀ v, c_X9_kind F cs x0 = some v → AGC v) → ∀ b, RBX x0 c K b 1 β cs cs9) (hM_X9_readList : ∀ (cs : CS) (x0 : Nat) (x1 : Int32) (x2 : Int32) (x3 : Int32) (x4 : Int32) (cs9 : CS), T.2.2.2.2.2.2.2.2.2.2.2 cs x0 x1 x2 x3 x4 = some cs9 → ∀ b, FST b x2 → RBX x0 c K b 1 β cs cs9) (cs1 : CS) (cs9 : CS) (h : c_X9_readTest_b282 F T cs1 = some cs9) : RBX t c K b 0 β cs1 cs9 := by
  unfold c_X9_readTest_b282 at h
  have hq : RBX t c K b 0 β cs1 cs1 := RBX.refl
  have h9 := Option.some.inj h
  exact (hq.to h9).le (by decide)
theorem rb_c_X9_readTest_b172 (c K : Nat) (β : Bool) (b : Nat) (F : Nat) (T : TC_X9_readExpr) (hM_X9_readExpr : ∀ (cs : CS) (x0 : Nat) (cs9 : CS) (r9 : Int32), T.1 cs x0 = some (cs9, r9) → ∀ b, RBX x0 c K b 1 β cs cs9) (hM_X9_readConjunction : ∀ (cs : CS) (x0 : Nat) (cs9 : CS), T.2.1 cs x0 = some cs9 → ∀ b, RBX x0 c K b 1 β cs cs9) (hM_X9_readNegation : ∀ (cs : CS) (x0 : Nat) (cs9 : CS), T.2.2.1 cs x0 = some cs9 → ∀ b, RBX x0 c K b 1 β cs cs9) (hM_X9_readTest : ∀ (cs : CS) (x0 : Nat) (cs9 : CS), T.2.2.2.1 cs x0 = some cs9 → ∀ b, RBX x0 c K b 1 β cs cs9) (hM_X9_readSum : ∀ (cs : CS) (x0 : Nat) (cs9 : CS), T.2.2.2.2.1 cs x0 = some cs9 → ∀ b, RBX x0 c K b 1 β cs cs9) (hM_X9_readPart : ∀ (cs : CS) (x0 : Nat) (cs9 : CS), T.2.2.2.2.2.1 cs x0 = some cs9 → ∀ b, RBX x0 c K b 1 β cs cs9) (hM_X9_readSign : ∀ (cs : CS) (x0 : Nat) (cs9 : CS), T.2.2.2.2.2.2.1 cs x0 = some cs9 → ∀ b, RBX x0 c K b 1 β cs cs9) (hM_X9_readOne : ∀ (cs : CS) (x0 : Nat) (cs9 : CS), T.2.2.2.2.2.2.2.1 cs x0 = some cs9 → ∀ b, RBX x0 c K b 1 β cs cs9) (hM_X9_readCase : ∀ (cs : CS) (x0 : Nat) (cs9 : CS), T.2.2.2.2.2.2.2.2.1 cs x0 = some cs9 → ∀ b, RBX x0 c K b 1 β cs cs9) (hM_X9_readSpan : ∀ (cs : CS) (x0 : Nat) (cs9 : CS), T.2.2.2.2.2.2.2.2.2.1 cs x0 = some cs9 → ∀ b, RBX x0 c K b 1 β cs cs9) (hM_X9_readAggregate : ∀ (cs : CS) (x0 : Nat) (cs9 : CS), T.2.2.2.2.2.2.2.2.2.2.1 cs x0 = some cs9 → (∀ v, c_X9_kind F cs x0 = some v → AGC v) → ∀ b, RBX x0 c K b 1 β cs cs9) (hM_X9_readList : ∀ (cs : CS) (x0 : Nat) (x1 : Int32) (x2 : Int32) (x3 : Int32) (x4 : Int32) (cs9 : CS), T.2.2.2.2.2.2.2.2.2.2.2 cs x0 x1 x2 x3 x4 = some cs9 → ∀ b, FST b x2 → RBX x0 c K b 1 β cs cs9) (cs1 : CS) (u0 : Nat) (u1 : Int32) (u2 : Int32) (u3 : Int32) (u4 : Int32) (cs9 : CS) (h : c_X9_readTest_b172 F T cs1 u0 u1 u2 u3 u4 = some cs9) (hf : FST b u1) : RBX u0 c K b 1 β cs1 cs9 := by
  unfold c_X9_readTest_b172 at h
  have hq : RBX u0 c K b 0 β cs1 cs1 := RBX.refl
  replace h := ob h; obtain ⟨v_1, hv_1, h⟩ := h
  replace h := ob h; obtain ⟨cs_2, hv_2, h⟩ := h
  replace hq := hq.trans (RBX.pI (by decide) hv_2)
  replace h := ob h; obtain ⟨w_4, hw_4, h⟩ := h
  replace h := ob h; obtain ⟨cs_3, hv_3, h⟩ := h
  replace hq := hq.trans (hM_X9_readSum cs_2 u0 cs_3 hv_3 b)
  replace h := ob h; obtain ⟨w_6, hw_6, h⟩ := h
  replace h := ob h; obtain ⟨z_5, hv_5, h⟩ := h
  replace hq := hq.trans ((cpl_rb (fun _ _ => hf) hv_5).1)
  have k9 := rb_c_X9_readTest_b282 c K β b u0 F T hM_X9_readExpr hM_X9_readConjunction hM_X9_readNegation hM_X9_readTest hM_X9_readSum hM_X9_readPart hM_X9_readSign hM_X9_readOne hM_X9_readCase hM_X9_readSpan hM_X9_readAggregate hM_X9_readList z_5.1 cs9 h
  exact (hq.trans k9).le (by decide)
theorem rb_c_X9_readTest_b226 (c K : Nat) (β : Bool) (b : Nat) (F : Nat) (T : TC_X9_readExpr) (hM_X9_readExpr : ∀ (cs : CS) (x0 : Nat) (cs9 : CS) (r9 : Int32), T.1 cs x0 = some (cs9, r9) → ∀ b, RBX x0 c K b 1 β cs cs9) (hM_X9_readConjunction : ∀ (cs : CS) (x0 : Nat) (cs9 : CS), T.2.1 cs x0 = some cs9 → ∀ b, RBX x0 c K b 1 β cs cs9) (hM_X9_readNegation : ∀ (cs : CS) (x0 : Nat) (cs9 : CS), T.2.2.1 cs x0 = some cs9 → ∀ b, RBX x0 c K b 1 β cs cs9) (hM_X9_readTest : ∀ (cs : CS) (x0 : Nat) (cs9 : CS), T.2.2.2.1 cs x0 = some cs9 → ∀ b, RBX x0 c K b 1 β cs cs9) (hM_X9_readSum : ∀ (cs : CS) (x0 : Nat) (cs9 : CS), T.2.2.2.2.1 cs x0 = some cs9 → ∀ b, RBX x0 c K b 1 β cs cs9) (hM_X9_readPart : ∀ (cs : CS) (x0 : Nat) (cs9 : CS), T.2.2.2.2.2.1 cs x0 = some cs9 → ∀ b, RBX x0 c K b 1 β cs cs9) (hM_X9_readSign : ∀ (cs : CS) (x0 : Nat) (cs9 : CS), T.2.2.2.2.2.2.1 cs x0 = some cs9 → ∀ b, RBX x0 c K b 1 β cs cs9) (hM_X9_readOne : ∀ (cs : CS) (x0 : Nat) (cs9 : CS), T.2.2.2.2.2.2.2.1 cs x0 = some cs9 → ∀ b, RBX x0 c K b 1 β cs cs9) (hM_X9_readCase : ∀ (cs : CS) (x0 : Nat) (cs9 : CS), T.2.2.2.2.2.2.2.2.1 cs x0 = some cs9 → ∀ b, RBX x0 c K b 1 β cs cs9) (hM_X9_readSpan : ∀ (cs : CS) (x0 : Nat) (cs9 : CS), T.2.2.2.2.2.2.2.2.2.1 cs x0 = some cs9 → ∀ b, RBX x0 c K b 1 β cs cs9) (hM_X9_readAggregate : ∀ (cs : CS) (x0 : Nat) (cs9 : CS), T.2.2.2.2.2.2.2.2.2.2.1 cs x0 = some cs9 → (∀ v, c_X9_kind F cs x0 = some v → AGC v) → ∀ b, RBX x0 c K b 1 β cs cs9) (hM_X9_readList : ∀ (cs : CS) (x0 : Nat) (x1 : Int32) (x2 : Int32) (x3 : Int32) (x4 : Int32) (cs9 : CS), T.2.2.2.2.2.2.2.2.2.2.2 cs x0 x1 x2 x3 x4 = some cs9 → ∀ b, FST b x2 → RBX x0 c K b 1 β cs cs9) (cs1 : CS) (u0 : Nat) (u1 : Int32) (u2 : Int32) (u3 : Int32) (y0 : Int32) (cs9 : CS) (h : c_X9_readTest_b226 F T cs1 u0 u1 u2 u3 y0 = some cs9) (hf : FST b u1) : RBX u0 c K b 1 β cs1 cs9 := by
  unfold c_X9_readTest_b226 at h
  have hq : RBX u0 c K b 0 β cs1 cs1 := RBX.refl
  replace h := ob h; obtain ⟨w_2, hw_2, h⟩ := h
  replace h := ob h; obtain ⟨cs_1, hv_1, h⟩ := h
  replace hq := hq.trans (rb_c_X9_expect c K β b F cs1 u0 26 cs_1 hv_1)
  replace h := ob h; obtain ⟨w_4, hw_4, h⟩ := h
  replace h := ob h; obtain ⟨z_3, hv_3, h⟩ := h
  replace hq := hq.trans ((cpl_rb (fun _ _ => hf) hv_3).1)
  have k9 := rb_c_X9_readTest_b282 c K β b u0 F T hM_X9_readExpr hM_X9_readConjunction hM_X9_readNegation hM_X9_readTest hM_X9_readSum hM_X9_readPart hM_X9_readSign hM_X9_readOne hM_X9_readCase hM_X9_readSpan hM_X9_readAggregate hM_X9_readList z_3.1 cs9 h
  exact (hq.trans k9).le (by decide)
theorem rb_cb_X9_readTest (c K : Nat) (β : Bool) (b : Nat) (F : Nat) (T : TC_X9_readExpr) (hM_X9_readExpr : ∀ (cs : CS) (x0 : Nat) (cs9 : CS) (r9 : Int32), T.1 cs x0 = some (cs9, r9) → ∀ b, RBX x0 c K b 1 β cs cs9) (hM_X9_readConjunction : ∀ (cs : CS) (x0 : Nat) (cs9 : CS), T.2.1 cs x0 = some cs9 → ∀ b, RBX x0 c K b 1 β cs cs9) (hM_X9_readNegation : ∀ (cs : CS) (x0 : Nat) (cs9 : CS), T.2.2.1 cs x0 = some cs9 → ∀ b, RBX x0 c K b 1 β cs cs9) (hM_X9_readTest : ∀ (cs : CS) (x0 : Nat) (cs9 : CS), T.2.2.2.1 cs x0 = some cs9 → ∀ b, RBX x0 c K b 1 β cs cs9) (hM_X9_readSum : ∀ (cs : CS) (x0 : Nat) (cs9 : CS), T.2.2.2.2.1 cs x0 = some cs9 → ∀ b, RBX x0 c K b 1 β cs cs9) (hM_X9_readPart : ∀ (cs : CS) (x0 : Nat) (cs9 : CS), T.2.2.2.2.2.1 cs x0 = some cs9 → ∀ b, RBX x0 c K b 1 β cs cs9) (hM_X9_readSign : ∀ (cs : CS) (x0 : Nat) (cs9 : CS), T.2.2.2.2.2.2.1 cs x0 = some cs9 → ∀ b, RBX x0 c K b 1 β cs cs9) (hM_X9_readOne : ∀ (cs : CS) (x0 : Nat) (cs9 : CS), T.2.2.2.2.2.2.2.1 cs x0 = some cs9 → ∀ b, RBX x0 c K b 1 β cs cs9) (hM_X9_readCase : ∀ (cs : CS) (x0 : Nat) (cs9 : CS), T.2.2.2.2.2.2.2.2.1 cs x0 = some cs9 → ∀ b, RBX x0 c K b 1 β cs cs9) (hM_X9_readSpan : ∀ (cs : CS) (x0 : Nat) (cs9 : CS), T.2.2.2.2.2.2.2.2.2.1 cs x0 = some cs9 → ∀ b, RBX x0 c K b 1 β cs cs9) (hM_X9_readAggregate : ∀ (cs : CS) (x0 : Nat) (cs9 : CS), T.2.2.2.2.2.2.2.2.2.2.1 cs x0 = some cs9 → (∀ v, c_X9_kind F cs x0 = some v → AGC v) → ∀ b, RBX x0 c K b 1 β cs cs9) (hM_X9_readList : ∀ (cs : CS) (x0 : Nat) (x1 : Int32) (x2 : Int32) (x3 : Int32) (x4 : Int32) (cs9 : CS), T.2.2.2.2.2.2.2.2.2.2.2 cs x0 x1 x2 x3 x4 = some cs9 → ∀ b, FST b x2 → RBX x0 c K b 1 β cs cs9) (cs : CS) (x0 : Nat) (cs9 : CS) (h : cb_X9_readTest F T cs x0 = some cs9) : RBX x0 c K b 1 β cs cs9 := by
  refine RBX.ent (fun b hb hR => ?_)
  unfold cb_X9_readTest at h
  have hq : RBX x0 c K b 0 β cs cs := RBX.refl
  replace h := ob h; obtain ⟨v_1, hv_1, h⟩ := h
  replace h := ob h; obtain ⟨i_2, hi_2, h⟩ := h
  subst hi_2
  replace h := ob h; obtain ⟨v_3, hv_3, h⟩ := h
  have hf : FST b v_3 := FST.sz hR hb hv_1 hv_3
  replace h := ob h; obtain ⟨w_5, hw_5, h⟩ := h
  replace h := ob h; obtain ⟨v_4, hv_4, h⟩ := h
  replace h := ob h; obtain ⟨w_7, hw_7, h⟩ := h
  replace h := ob h; obtain ⟨cs_6, hv_6, h⟩ := h
  replace hq := hq.trans (hM_X9_readSum cs x0 cs_6 hv_6 b)
  replace h := ob h; obtain ⟨w_9, hw_9, h⟩ := h
  replace h := ob h; obtain ⟨v_8, hv_8, h⟩ := h
  replace h := ob h; obtain ⟨w_11, hw_11, h⟩ := h
  replace h := ob h; obtain ⟨v_10, hv_10, h⟩ := h
  by_cases c_12 : v_10 = 24
  · skip
    replace h := (if_pos c_12).symm.trans h
    replace h := ob h; obtain ⟨v_13, hv_13, h⟩ := h
    replace h := ob h; obtain ⟨cs_14, hv_14, h⟩ := h
    replace hq := hq.trans (RBX.pI (by decide) hv_14)
    replace h := ob h; obtain ⟨w_16, hw_16, h⟩ := h
    replace h := ob h; obtain ⟨z_15, hv_15, h⟩ := h
    replace hq := hq.trans (rb_c_X9_accept c K β b F cs_14 x0 25 z_15.1 z_15.2 hv_15)
    by_cases c_17 : z_15.2 = 0
    · skip
      replace h := (if_pos c_17).symm.trans h
      have k9 := rb_c_X9_readTest_b226 c K β b F T hM_X9_readExpr hM_X9_readConjunction hM_X9_readNegation hM_X9_readTest hM_X9_readSum hM_X9_readPart hM_X9_readSign hM_X9_readOne hM_X9_readCase hM_X9_readSpan hM_X9_readAggregate hM_X9_readList z_15.1 x0 v_3 v_4 v_8 24 cs9 h hf
      exact (hq.trans k9).le (by decide)
    · skip
      replace h := (if_neg c_17).symm.trans h
      have k9 := rb_c_X9_readTest_b226 c K β b F T hM_X9_readExpr hM_X9_readConjunction hM_X9_readNegation hM_X9_readTest hM_X9_readSum hM_X9_readPart hM_X9_readSign hM_X9_readOne hM_X9_readCase hM_X9_readSpan hM_X9_readAggregate hM_X9_readList z_15.1 x0 v_3 v_4 v_8 59 cs9 h hf
      exact (hq.trans k9).le (by decide)
  replace h := (if_neg c_12).symm.trans h
  by_cases c_18 : v_10 = 25
  · skip
    replace h := (if_pos c_18).symm.trans h
    replace h := ob h; obtain ⟨v_19, hv_19, h⟩ := h
    replace h := ob h; obtain ⟨cs_20, hv_20, h⟩ := h
    replace hq := hq.trans (RBX.pI (by decide) hv_20)
    replace h := ob h; obtain ⟨w_22, hw_22, h⟩ := h
    replace h := ob h; obtain ⟨cs_21, hv_21, h⟩ := h
    replace hq := hq.trans (hM_X9_readList cs_20 x0 60 v_3 v_4 v_8 cs_21 hv_21 b hf)
    have k9 := rb_c_X9_readTest_b282 c K β b x0 F T hM_X9_readExpr hM_X9_readConjunction hM_X9_readNegation hM_X9_readTest hM_X9_readSum hM_X9_readPart hM_X9_readSign hM_X9_readOne hM_X9_readCase hM_X9_readSpan hM_X9_readAggregate hM_X9_readList cs_21 cs9 h
    exact (hq.trans k9).le (by decide)
  replace h := (if_neg c_18).symm.trans h
  by_cases c_23 : v_10 = 27
  · skip
    replace h := (if_pos c_23).symm.trans h
    replace h := ob h; obtain ⟨w_25, hw_25, h⟩ := h
    replace h := ob h; obtain ⟨cs_24, hv_24, h⟩ := h
    replace hq := hq.trans (hM_X9_readList cs_6 x0 27 v_3 v_4 v_8 cs_24 hv_24 b hf)
    have k9 := rb_c_X9_readTest_b282 c K β b x0 F T hM_X9_readExpr hM_X9_readConjunction hM_X9_readNegation hM_X9_readTest hM_X9_readSum hM_X9_readPart hM_X9_readSign hM_X9_readOne hM_X9_readCase hM_X9_readSpan hM_X9_readAggregate hM_X9_readList cs_24 cs9 h
    exact (hq.trans k9).le (by decide)
  replace h := (if_neg c_23).symm.trans h
  by_cases c_26 : v_10 = 50
  · skip
    replace h := (if_pos c_26).symm.trans h
    have k9 := rb_c_X9_readTest_b172 c K β b F T hM_X9_readExpr hM_X9_readConjunction hM_X9_readNegation hM_X9_readTest hM_X9_readSum hM_X9_readPart hM_X9_readSign hM_X9_readOne hM_X9_readCase hM_X9_readSpan hM_X9_readAggregate hM_X9_readList cs_6 x0 v_3 v_4 v_8 v_10 cs9 h hf
    exact (hq.trans k9).le (by decide)
  replace h := (if_neg c_26).symm.trans h
  by_cases c_27 : v_10 = 51
  · skip
    replace h := (if_pos c_27).symm.trans h
    have k9 := rb_c_X9_readTest_b172 c K β b F T hM_X9_readExpr hM_X9_readConjunction hM_X9_readNegation hM_X9_readTest hM_X9_readSum hM_X9_readPart hM_X9_readSign hM_X9_readOne hM_X9_readCase hM_X9_readSpan hM_X9_readAggregate hM_X9_readList cs_6 x0 v_3 v_4 v_8 v_10 cs9 h hf
    exact (hq.trans k9).le (by decide)
  replace h := (if_neg c_27).symm.trans h
  by_cases c_28 : v_10 = 52
  · skip
    replace h := (if_pos c_28).symm.trans h
    have k9 := rb_c_X9_readTest_b172 c K β b F T hM_X9_readExpr hM_X9_readConjunction hM_X9_readNegation hM_X9_readTest hM_X9_readSum hM_X9_readPart hM_X9_readSign hM_X9_readOne hM_X9_readCase hM_X9_readSpan hM_X9_readAggregate hM_X9_readList cs_6 x0 v_3 v_4 v_8 v_10 cs9 h hf
    exact (hq.trans k9).le (by decide)
  replace h := (if_neg c_28).symm.trans h
  by_cases c_29 : v_10 = 53
  · skip
    replace h := (if_pos c_29).symm.trans h
    have k9 := rb_c_X9_readTest_b172 c K β b F T hM_X9_readExpr hM_X9_readConjunction hM_X9_readNegation hM_X9_readTest hM_X9_readSum hM_X9_readPart hM_X9_readSign hM_X9_readOne hM_X9_readCase hM_X9_readSpan hM_X9_readAggregate hM_X9_readList cs_6 x0 v_3 v_4 v_8 v_10 cs9 h hf
    exact (hq.trans k9).le (by decide)
  replace h := (if_neg c_29).symm.trans h
  by_cases c_30 : v_10 = 54
  · skip
    replace h := (if_pos c_30).symm.trans h
    have k9 := rb_c_X9_readTest_b172 c K β b F T hM_X9_readExpr hM_X9_readConjunction hM_X9_readNegation hM_X9_readTest hM_X9_readSum hM_X9_readPart hM_X9_readSign hM_X9_readOne hM_X9_readCase hM_X9_readSpan hM_X9_readAggregate hM_X9_readList cs_6 x0 v_3 v_4 v_8 v_10 cs9 h hf
    exact (hq.trans k9).le (by decide)
  replace h := (if_neg c_30).symm.trans h
  by_cases c_31 : v_10 = 55
  · skip
    replace h := (if_pos c_31).symm.trans h
    have k9 := rb_c_X9_readTest_b172 c K β b F T hM_X9_readExpr hM_X9_readConjunction hM_X9_readNegation hM_X9_readTest hM_X9_readSum hM_X9_readPart hM_X9_readSign hM_X9_readOne hM_X9_readCase hM_X9_readSpan hM_X9_readAggregate hM_X9_readList cs_6 x0 v_3 v_4 v_8 v_10 cs9 h hf
    exact (hq.trans k9).le (by decide)
  replace h := (if_neg c_31).symm.trans h
  have k9 := rb_c_X9_readTest_b282 c K β b x0 F T hM_X9_readExpr hM_X9_readConjunction hM_X9_readNegation hM_X9_readTest hM_X9_readSum hM_X9_readPart hM_X9_readSign hM_X9_readOne hM_X9_readCase hM_X9_readSpan hM_X9_readAggregate hM_X9_readList cs_6 cs9 h
  exact (hq.trans k9).le (by decide)
theorem rb_c_X9_readSum_b88 (c K : Nat) (β : Bool) (b : Nat) (t : Nat) (F : Nat) (T : TC_X9_readExpr) (hM_X9_readExpr : ∀ (cs : CS) (x0 : Nat) (cs9 : CS) (r9 : Int32), T.1 cs x0 = some (cs9, r9) → ∀ b, RBX x0 c K b 1 β cs cs9) (hM_X9_readConjunction : ∀ (cs : CS) (x0 : Nat) (cs9 : CS), T.2.1 cs x0 = some cs9 → ∀ b, RBX x0 c K b 1 β cs cs9) (hM_X9_readNegation : ∀ (cs : CS) (x0 : Nat) (cs9 : CS), T.2.2.1 cs x0 = some cs9 → ∀ b, RBX x0 c K b 1 β cs cs9) (hM_X9_readTest : ∀ (cs : CS) (x0 : Nat) (cs9 : CS), T.2.2.2.1 cs x0 = some cs9 → ∀ b, RBX x0 c K b 1 β cs cs9) (hM_X9_readSum : ∀ (cs : CS) (x0 : Nat) (cs9 : CS), T.2.2.2.2.1 cs x0 = some cs9 → ∀ b, RBX x0 c K b 1 β cs cs9) (hM_X9_readPart : ∀ (cs : CS) (x0 : Nat) (cs9 : CS), T.2.2.2.2.2.1 cs x0 = some cs9 → ∀ b, RBX x0 c K b 1 β cs cs9) (hM_X9_readSign : ∀ (cs : CS) (x0 : Nat) (cs9 : CS), T.2.2.2.2.2.2.1 cs x0 = some cs9 → ∀ b, RBX x0 c K b 1 β cs cs9) (hM_X9_readOne : ∀ (cs : CS) (x0 : Nat) (cs9 : CS), T.2.2.2.2.2.2.2.1 cs x0 = some cs9 → ∀ b, RBX x0 c K b 1 β cs cs9) (hM_X9_readCase : ∀ (cs : CS) (x0 : Nat) (cs9 : CS), T.2.2.2.2.2.2.2.2.1 cs x0 = some cs9 → ∀ b, RBX x0 c K b 1 β cs cs9) (hM_X9_readSpan : ∀ (cs : CS) (x0 : Nat) (cs9 : CS), T.2.2.2.2.2.2.2.2.2.1 cs x0 = some cs9 → ∀ b, RBX x0 c K b 1 β cs cs9) (hM_X9_readAggregate : ∀ (cs : CS) (x0 : Nat) (cs9 : CS), T.2.2.2.2.2.2.2.2.2.2.1 cs x0 = some cs9 → (∀ v, c_X9_kind F cs x0 = some v → AGC v) → ∀ b, RBX x0 c K b 1 β cs cs9) (hM_X9_readList : ∀ (cs : CS) (x0 : Nat) (x1 : Int32) (x2 : Int32) (x3 : Int32) (x4 : Int32) (cs9 : CS), T.2.2.2.2.2.2.2.2.2.2.2 cs x0 x1 x2 x3 x4 = some cs9 → ∀ b, FST b x2 → RBX x0 c K b 1 β cs cs9) (cs1 : CS) (cs9 : CS) (h : c_X9_readSum_b88 F T cs1 = some cs9) : RBX t c K b 0 β cs1 cs9 := by
  unfold c_X9_readSum_b88 at h
  have hq : RBX t c K b 0 β cs1 cs1 := RBX.refl
  have h9 := Option.some.inj h
  exact (hq.to h9).le (by decide)
theorem rb_c_X9_readSum_b44 (c K : Nat) (β : Bool) (b : Nat) (F : Nat) (T : TC_X9_readExpr) (hM_X9_readExpr : ∀ (cs : CS) (x0 : Nat) (cs9 : CS) (r9 : Int32), T.1 cs x0 = some (cs9, r9) → ∀ b, RBX x0 c K b 1 β cs cs9) (hM_X9_readConjunction : ∀ (cs : CS) (x0 : Nat) (cs9 : CS), T.2.1 cs x0 = some cs9 → ∀ b, RBX x0 c K b 1 β cs cs9) (hM_X9_readNegation : ∀ (cs : CS) (x0 : Nat) (cs9 : CS), T.2.2.1 cs x0 = some cs9 → ∀ b, RBX x0 c K b 1 β cs cs9) (hM_X9_readTest : ∀ (cs : CS) (x0 : Nat) (cs9 : CS), T.2.2.2.1 cs x0 = some cs9 → ∀ b, RBX x0 c K b 1 β cs cs9) (hM_X9_readSum : ∀ (cs : CS) (x0 : Nat) (cs9 : CS), T.2.2.2.2.1 cs x0 = some cs9 → ∀ b, RBX x0 c K b 1 β cs cs9) (hM_X9_readPart : ∀ (cs : CS) (x0 : Nat) (cs9 : CS), T.2.2.2.2.2.1 cs x0 = some cs9 → ∀ b, RBX x0 c K b 1 β cs cs9) (hM_X9_readSign : ∀ (cs : CS) (x0 : Nat) (cs9 : CS), T.2.2.2.2.2.2.1 cs x0 = some cs9 → ∀ b, RBX x0 c K b 1 β cs cs9) (hM_X9_readOne : ∀ (cs : CS) (x0 : Nat) (cs9 : CS), T.2.2.2.2.2.2.2.1 cs x0 = some cs9 → ∀ b, RBX x0 c K b 1 β cs cs9) (hM_X9_readCase : ∀ (cs : CS) (x0 : Nat) (cs9 : CS), T.2.2.2.2.2.2.2.2.1 cs x0 = some cs9 → ∀ b, RBX x0 c K b 1 β cs cs9) (hM_X9_readSpan : ∀ (cs : CS) (x0 : Nat) (cs9 : CS), T.2.2.2.2.2.2.2.2.2.1 cs x0 = some cs9 → ∀ b, RBX x0 c K b 1 β cs cs9) (hM_X9_readAggregate : ∀ (cs : CS) (x0 : Nat) (cs9 : CS), T.2.2.2.2.2.2.2.2.2.2.1 cs x0 = some cs9 → (∀ v, c_X9_kind F cs x0 = some v → AGC v) → ∀ b, RBX x0 c K b 1 β cs cs9) (hM_X9_readList : ∀ (cs : CS) (x0 : Nat) (x1 : Int32) (x2 : Int32) (x3 : Int32) (x4 : Int32) (cs9 : CS), T.2.2.2.2.2.2.2.2.2.2.2 cs x0 x1 x2 x3 x4 = some cs9 → ∀ b, FST b x2 → RBX x0 c K b 1 β cs cs9) (rc19 : CS → Nat → Int32 → Int32 → Int32 → Option CS) (hrc19 : ∀ (cs1 : CS) (u0 : Nat) (u1 : Int32) (u2 : Int32) (u3 : Int32) (cs9 : CS), rc19 cs1 u0 u1 u2 u3 = some cs9 → FST b u1 → RBX u0 c K b 0 β cs1 cs9) (cs1 : CS) (u0 : Nat) (u1 : Int32) (u2 : Int32) (u3 : Int32) (cs9 : CS) (h : c_X9_readSum_b44 F T rc19 cs1 u0 u1 u2 u3 = some cs9) (hf : FST b u1) : RBX u0 c K b 0 β cs1 cs9 := by
  unfold c_X9_readSum_b44 at h
  have hq : RBX u0 c K b 0 β cs1 cs1 := RBX.refl
  replace h := ob h; obtain ⟨w_2, hw_2, h⟩ := h
  replace h := ob h; obtain ⟨v_1, hv_1, h⟩ := h
  replace h := ob h; obtain ⟨w_4, hw_4, h⟩ := h
  replace h := ob h; obtain ⟨v_3, hv_3, h⟩ := h
  replace h := ob h; obtain ⟨v_5, hv_5, h⟩ := h
  replace h := ob h; obtain ⟨cs_6, hv_6, h⟩ := h
  replace hq := hq.trans (RBX.pI (by decide) hv_6)
  replace h := ob h; obtain ⟨w_8, hw_8, h⟩ := h
  replace h := ob h; obtain ⟨cs_7, hv_7, h⟩ := h
  replace hq := hq.trans (hM_X9_readPart cs_6 u0 cs_7 hv_7 b)
  replace h := ob h; obtain ⟨w_10, hw_10, h⟩ := h
  replace h := ob h; obtain ⟨z_9, hv_9, h⟩ := h
  replace hq := hq.trans ((cpl_rb (fun _ _ => hf) hv_9).1)
  have k9 := hrc19 z_9.1 u0 u1 u2 (u3 + 1) cs9 h hf
  exact (hq.trans k9).le (by decide)
theorem rb_c_X9_readSum_L19 (c K : Nat) (β : Bool) (b : Nat) (F : Nat) (T : TC_X9_readExpr) (hM_X9_readExpr : ∀ (cs : CS) (x0 : Nat) (cs9 : CS) (r9 : Int32), T.1 cs x0 = some (cs9, r9) → ∀ b, RBX x0 c K b 1 β cs cs9) (hM_X9_readConjunction : ∀ (cs : CS) (x0 : Nat) (cs9 : CS), T.2.1 cs x0 = some cs9 → ∀ b, RBX x0 c K b 1 β cs cs9) (hM_X9_readNegation : ∀ (cs : CS) (x0 : Nat) (cs9 : CS), T.2.2.1 cs x0 = some cs9 → ∀ b, RBX x0 c K b 1 β cs cs9) (hM_X9_readTest : ∀ (cs : CS) (x0 : Nat) (cs9 : CS), T.2.2.2.1 cs x0 = some cs9 → ∀ b, RBX x0 c K b 1 β cs cs9) (hM_X9_readSum : ∀ (cs : CS) (x0 : Nat) (cs9 : CS), T.2.2.2.2.1 cs x0 = some cs9 → ∀ b, RBX x0 c K b 1 β cs cs9) (hM_X9_readPart : ∀ (cs : CS) (x0 : Nat) (cs9 : CS), T.2.2.2.2.2.1 cs x0 = some cs9 → ∀ b, RBX x0 c K b 1 β cs cs9) (hM_X9_readSign : ∀ (cs : CS) (x0 : Nat) (cs9 : CS), T.2.2.2.2.2.2.1 cs x0 = some cs9 → ∀ b, RBX x0 c K b 1 β cs cs9) (hM_X9_readOne : ∀ (cs : CS) (x0 : Nat) (cs9 : CS), T.2.2.2.2.2.2.2.1 cs x0 = some cs9 → ∀ b, RBX x0 c K b 1 β cs cs9) (hM_X9_readCase : ∀ (cs : CS) (x0 : Nat) (cs9 : CS), T.2.2.2.2.2.2.2.2.1 cs x0 = some cs9 → ∀ b, RBX x0 c K b 1 β cs cs9) (hM_X9_readSpan : ∀ (cs : CS) (x0 : Nat) (cs9 : CS), T.2.2.2.2.2.2.2.2.2.1 cs x0 = some cs9 → ∀ b, RBX x0 c K b 1 β cs cs9) (hM_X9_readAggregate : ∀ (cs : CS) (x0 : Nat) (cs9 : CS), T.2.2.2.2.2.2.2.2.2.2.1 cs x0 = some cs9 → (∀ v, c_X9_kind F cs x0 = some v → AGC v) → ∀ b, RBX x0 c K b 1 β cs cs9) (hM_X9_readList : ∀ (cs : CS) (x0 : Nat) (x1 : Int32) (x2 : Int32) (x3 : Int32) (x4 : Int32) (cs9 : CS), T.2.2.2.2.2.2.2.2.2.2.2 cs x0 x1 x2 x3 x4 = some cs9 → ∀ b, FST b x2 → RBX x0 c K b 1 β cs cs9) : ∀ (lf_19 : Nat) (cs1 : CS) (u0 : Nat) (u1 : Int32) (u2 : Int32) (u3 : Int32) (cs9 : CS), c_X9_readSum_L19 F T lf_19 cs1 u0 u1 u2 u3 = some cs9 → FST b u1 → RBX u0 c K b 0 β cs1 cs9 := by
  intro lf_19
  induction lf_19 with
  | zero => intro cs1 u0 u1 u2 u3 cs9 h hf; cases (show (none : Option CS) = _ from h)
  | succ lf_19 ih_19 =>
    intro cs1 u0 u1 u2 u3 cs9 h hf
    rw [c_X9_readSum_L19] at h
    have hq : RBX u0 c K b 0 β cs1 cs1 := RBX.refl
    by_cases c_1 : 2000 ≤ u3
    · skip
      replace h := (if_pos c_1).symm.trans h
      have k9 := rb_c_X9_readSum_b88 c K β b u0 F T hM_X9_readExpr hM_X9_readConjunction hM_X9_readNegation hM_X9_readTest hM_X9_readSum hM_X9_readPart hM_X9_readSign hM_X9_readOne hM_X9_readCase hM_X9_readSpan hM_X9_readAggregate hM_X9_readList cs1 cs9 h
      exact (hq.trans k9).le (by decide)
    · skip
      replace h := (if_neg c_1).symm.trans h
      replace h := ob h; obtain ⟨w_3, hw_3, h⟩ := h
      replace h := ob h; obtain ⟨v_2, hv_2, h⟩ := h
      by_cases c_4 : v_2 = 45
      · skip
        replace h := (if_pos c_4).symm.trans h
        have k9 := rb_c_X9_readSum_b44 c K β b F T hM_X9_readExpr hM_X9_readConjunction hM_X9_readNegation hM_X9_readTest hM_X9_readSum hM_X9_readPart hM_X9_readSign hM_X9_readOne hM_X9_readCase hM_X9_readSpan hM_X9_readAggregate hM_X9_readList (c_X9_readSum_L19 F T lf_19) ih_19 cs1 u0 u1 u2 u3 cs9 h hf
        exact (hq.trans k9).le (by decide)
      · skip
        replace h := (if_neg c_4).symm.trans h
        replace h := ob h; obtain ⟨w_6, hw_6, h⟩ := h
        replace h := ob h; obtain ⟨v_5, hv_5, h⟩ := h
        by_cases c_7 : v_5 = 46
        · skip
          replace h := (if_pos c_7).symm.trans h
          have k9 := rb_c_X9_readSum_b44 c K β b F T hM_X9_readExpr hM_X9_readConjunction hM_X9_readNegation hM_X9_readTest hM_X9_readSum hM_X9_readPart hM_X9_readSign hM_X9_readOne hM_X9_readCase hM_X9_readSpan hM_X9_readAggregate hM_X9_readList (c_X9_readSum_L19 F T lf_19) ih_19 cs1 u0 u1 u2 u3 cs9 h hf
          exact (hq.trans k9).le (by decide)
        · skip
          replace h := (if_neg c_7).symm.trans h
          have k9 := rb_c_X9_readSum_b88 c K β b u0 F T hM_X9_readExpr hM_X9_readConjunction hM_X9_readNegation hM_X9_readTest hM_X9_readSum hM_X9_readPart hM_X9_readSign hM_X9_readOne hM_X9_readCase hM_X9_readSpan hM_X9_readAggregate hM_X9_readList cs1 cs9 h
          exact (hq.trans k9).le (by decide)
theorem rb_cb_X9_readSum (c K : Nat) (β : Bool) (b : Nat) (F : Nat) (T : TC_X9_readExpr) (hM_X9_readExpr : ∀ (cs : CS) (x0 : Nat) (cs9 : CS) (r9 : Int32), T.1 cs x0 = some (cs9, r9) → ∀ b, RBX x0 c K b 1 β cs cs9) (hM_X9_readConjunction : ∀ (cs : CS) (x0 : Nat) (cs9 : CS), T.2.1 cs x0 = some cs9 → ∀ b, RBX x0 c K b 1 β cs cs9) (hM_X9_readNegation : ∀ (cs : CS) (x0 : Nat) (cs9 : CS), T.2.2.1 cs x0 = some cs9 → ∀ b, RBX x0 c K b 1 β cs cs9) (hM_X9_readTest : ∀ (cs : CS) (x0 : Nat) (cs9 : CS), T.2.2.2.1 cs x0 = some cs9 → ∀ b, RBX x0 c K b 1 β cs cs9) (hM_X9_readSum : ∀ (cs : CS) (x0 : Nat) (cs9 : CS), T.2.2.2.2.1 cs x0 = some cs9 → ∀ b, RBX x0 c K b 1 β cs cs9) (hM_X9_readPart : ∀ (cs : CS) (x0 : Nat) (cs9 : CS), T.2.2.2.2.2.1 cs x0 = some cs9 → ∀ b, RBX x0 c K b 1 β cs cs9) (hM_X9_readSign : ∀ (cs : CS) (x0 : Nat) (cs9 : CS), T.2.2.2.2.2.2.1 cs x0 = some cs9 → ∀ b, RBX x0 c K b 1 β cs cs9) (hM_X9_readOne : ∀ (cs : CS) (x0 : Nat) (cs9 : CS), T.2.2.2.2.2.2.2.1 cs x0 = some cs9 → ∀ b, RBX x0 c K b 1 β cs cs9) (hM_X9_readCase : ∀ (cs : CS) (x0 : Nat) (cs9 : CS), T.2.2.2.2.2.2.2.2.1 cs x0 = some cs9 → ∀ b, RBX x0 c K b 1 β cs cs9) (hM_X9_readSpan : ∀ (cs : CS) (x0 : Nat) (cs9 : CS), T.2.2.2.2.2.2.2.2.2.1 cs x0 = some cs9 → ∀ b, RBX x0 c K b 1 β cs cs9) (hM_X9_readAggregate : ∀ (cs : CS) (x0 : Nat) (cs9 : CS), T.2.2.2.2.2.2.2.2.2.2.1 cs x0 = some cs9 → (∀ v, c_X9_kind F cs x0 = some v → AGC v) → ∀ b, RBX x0 c K b 1 β cs cs9) (hM_X9_readList : ∀ (cs : CS) (x0 : Nat) (x1 : Int32) (x2 : Int32) (x3 : Int32) (x4 : Int32) (cs9 : CS), T.2.2.2.2.2.2.2.2.2.2.2 cs x0 x1 x2 x3 x4 = some cs9 → ∀ b, FST b x2 → RBX x0 c K b 1 β cs cs9) (cs : CS) (x0 : Nat) (cs9 : CS) (h : cb_X9_readSum F T cs x0 = some cs9) : RBX x0 c K b 1 β cs cs9 := by
  refine RBX.ent (fun b hb hR => ?_)
  unfold cb_X9_readSum at h
  have hq : RBX x0 c K b 0 β cs cs := RBX.refl
  replace h := ob h; obtain ⟨v_1, hv_1, h⟩ := h
  replace h := ob h; obtain ⟨i_2, hi_2, h⟩ := h
  subst hi_2
  replace h := ob h; obtain ⟨v_3, hv_3, h⟩ := h
  have hf : FST b v_3 := FST.sz hR hb hv_1 hv_3
  replace h := ob h; obtain ⟨w_5, hw_5, h⟩ := h
  replace h := ob h; obtain ⟨v_4, hv_4, h⟩ := h
  replace h := ob h; obtain ⟨w_7, hw_7, h⟩ := h
  replace h := ob h; obtain ⟨cs_6, hv_6, h⟩ := h
  replace hq := hq.trans (hM_X9_readPart cs x0 cs_6 hv_6 b)
  have k9 := rb_c_X9_readSum_L19 c K β b F T hM_X9_readExpr hM_X9_readConjunction hM_X9_readNegation hM_X9_readTest hM_X9_readSum hM_X9_readPart hM_X9_readSign hM_X9_readOne hM_X9_readCase hM_X9_readSpan hM_X9_readAggregate hM_X9_readList F cs_6 x0 v_3 v_4 0 cs9 h hf
  exact (hq.trans k9).le (by decide)
theorem rb_c_X9_readPart_b97 (c K : Nat) (β : Bool) (b : Nat) (t : Nat) (F : Nat) (T : TC_X9_readExpr) (hM_X9_readExpr : ∀ (cs : CS) (x0 : Nat) (cs9 : CS) (r9 : Int32), T.1 cs x0 = some (cs9, r9) → ∀ b, RBX x0 c K b 1 β cs cs9) (hM_X9_readConjunction : ∀ (cs : CS) (x0 : Nat) (cs9 : CS), T.2.1 cs x0 = some cs9 → ∀ b, RBX x0 c K b 1 β cs cs9) (hM_X9_readNegation : ∀ (cs : CS) (x0 : Nat) (cs9 : CS), T.2.2.1 cs x0 = some cs9 → ∀ b, RBX x0 c K b 1 β cs cs9) (hM_X9_readTest : ∀ (cs : CS) (x0 : Nat) (cs9 : CS), T.2.2.2.1 cs x0 = some cs9 → ∀ b, RBX x0 c K b 1 β cs cs9) (hM_X9_readSum : ∀ (cs : CS) (x0 : Nat) (cs9 : CS), T.2.2.2.2.1 cs x0 = some cs9 → ∀ b, RBX x0 c K b 1 β cs cs9) (hM_X9_readPart : ∀ (cs : CS) (x0 : Nat) (cs9 : CS), T.2.2.2.2.2.1 cs x0 = some cs9 → ∀ b, RBX x0 c K b 1 β cs cs9) (hM_X9_readSign : ∀ (cs : CS) (x0 : Nat) (cs9 : CS), T.2.2.2.2.2.2.1 cs x0 = some cs9 → ∀ b, RBX x0 c K b 1 β cs cs9) (hM_X9_readOne : ∀ (cs : CS) (x0 : Nat) (cs9 : CS), T.2.2.2.2.2.2.2.1 cs x0 = some cs9 → ∀ b, RBX x0 c K b 1 β cs cs9) (hM_X9_readCase : ∀ (cs : CS) (x0 : Nat) (cs9 : CS), T.2.2.2.2.2.2.2.2.1 cs x0 = some cs9 → ∀ b, RBX x0 c K b 1 β cs cs9) (hM_X9_readSpan : ∀ (cs : CS) (x0 : Nat) (cs9 : CS), T.2.2.2.2.2.2.2.2.2.1 cs x0 = some cs9 → ∀ b, RBX x0 c K b 1 β cs cs9) (hM_X9_readAggregate : ∀ (cs : CS) (x0 : Nat) (cs9 : CS), T.2.2.2.2.2.2.2.2.2.2.1 cs x0 = some cs9 → (∀ v, c_X9_kind F cs x0 = some v → AGC v) → ∀ b, RBX x0 c K b 1 β cs cs9) (hM_X9_readList : ∀ (cs : CS) (x0 : Nat) (x1 : Int32) (x2 : Int32) (x3 : Int32) (x4 : Int32) (cs9 : CS), T.2.2.2.2.2.2.2.2.2.2.2 cs x0 x1 x2 x3 x4 = some cs9 → ∀ b, FST b x2 → RBX x0 c K b 1 β cs cs9) (cs1 : CS) (cs9 : CS) (h : c_X9_readPart_b97 F T cs1 = some cs9) : RBX t c K b 0 β cs1 cs9 := by
  unfold c_X9_readPart_b97 at h
  have hq : RBX t c K b 0 β cs1 cs1 := RBX.refl
  have h9 := Option.some.inj h
  exact (hq.to h9).le (by decide)
theorem rb_c_X9_readPart_b53 (c K : Nat) (β : Bool) (b : Nat) (F : Nat) (T : TC_X9_readExpr) (hM_X9_readExpr : ∀ (cs : CS) (x0 : Nat) (cs9 : CS) (r9 : Int32), T.1 cs x0 = some (cs9, r9) → ∀ b, RBX x0 c K b 1 β cs cs9) (hM_X9_readConjunction : ∀ (cs : CS) (x0 : Nat) (cs9 : CS), T.2.1 cs x0 = some cs9 → ∀ b, RBX x0 c K b 1 β cs cs9) (hM_X9_readNegation : ∀ (cs : CS) (x0 : Nat) (cs9 : CS), T.2.2.1 cs x0 = some cs9 → ∀ b, RBX x0 c K b 1 β cs cs9) (hM_X9_readTest : ∀ (cs : CS) (x0 : Nat) (cs9 : CS), T.2.2.2.1 cs x0 = some cs9 → ∀ b, RBX x0 c K b 1 β cs cs9) (hM_X9_readSum : ∀ (cs : CS) (x0 : Nat) (cs9 : CS), T.2.2.2.2.1 cs x0 = some cs9 → ∀ b, RBX x0 c K b 1 β cs cs9) (hM_X9_readPart : ∀ (cs : CS) (x0 : Nat) (cs9 : CS), T.2.2.2.2.2.1 cs x0 = some cs9 → ∀ b, RBX x0 c K b 1 β cs cs9) (hM_X9_readSign : ∀ (cs : CS) (x0 : Nat) (cs9 : CS), T.2.2.2.2.2.2.1 cs x0 = some cs9 → ∀ b, RBX x0 c K b 1 β cs cs9) (hM_X9_readOne : ∀ (cs : CS) (x0 : Nat) (cs9 : CS), T.2.2.2.2.2.2.2.1 cs x0 = some cs9 → ∀ b, RBX x0 c K b 1 β cs cs9) (hM_X9_readCase : ∀ (cs : CS) (x0 : Nat) (cs9 : CS), T.2.2.2.2.2.2.2.2.1 cs x0 = some cs9 → ∀ b, RBX x0 c K b 1 β cs cs9) (hM_X9_readSpan : ∀ (cs : CS) (x0 : Nat) (cs9 : CS), T.2.2.2.2.2.2.2.2.2.1 cs x0 = some cs9 → ∀ b, RBX x0 c K b 1 β cs cs9) (hM_X9_readAggregate : ∀ (cs : CS) (x0 : Nat) (cs9 : CS), T.2.2.2.2.2.2.2.2.2.2.1 cs x0 = some cs9 → (∀ v, c_X9_kind F cs x0 = some v → AGC v) → ∀ b, RBX x0 c K b 1 β cs cs9) (hM_X9_readList : ∀ (cs : CS) (x0 : Nat) (x1 : Int32) (x2 : Int32) (x3 : Int32) (x4 : Int32) (cs9 : CS), T.2.2.2.2.2.2.2.2.2.2.2 cs x0 x1 x2 x3 x4 = some cs9 → ∀ b, FST b x2 → RBX x0 c K b 1 β cs cs9) (rc19 : CS → Nat → Int32 → Int32 → Int32 → Option CS) (hrc19 : ∀ (cs1 : CS) (u0 : Nat) (u1 : Int32) (u2 : Int32) (u3 : Int32) (cs9 : CS), rc19 cs1 u0 u1 u2 u3 = some cs9 → FST b u1 → RBX u0 c K b 0 β cs1 cs9) (cs1 : CS) (u0 : Nat) (u1 : Int32) (u2 : Int32) (u3 : Int32) (cs9 : CS) (h : c_X9_readPart_b53 F T rc19 cs1 u0 u1 u2 u3 = some cs9) (hf : FST b u1) : RBX u0 c K b 0 β cs1 cs9 := by
  unfold c_X9_readPart_b53 at h
  have hq : RBX u0 c K b 0 β cs1 cs1 := RBX.refl
  replace h := ob h; obtain ⟨w_2, hw_2, h⟩ := h
  replace h := ob h; obtain ⟨v_1, hv_1, h⟩ := h
  replace h := ob h; obtain ⟨w_4, hw_4, h⟩ := h
  replace h := ob h; obtain ⟨v_3, hv_3, h⟩ := h
  replace h := ob h; obtain ⟨v_5, hv_5, h⟩ := h
  replace h := ob h; obtain ⟨cs_6, hv_6, h⟩ := h
  replace hq := hq.trans (RBX.pI (by decide) hv_6)
  replace h := ob h; obtain ⟨w_8, hw_8, h⟩ := h
  replace h := ob h; obtain ⟨cs_7, hv_7, h⟩ := h
  replace hq := hq.trans (hM_X9_readSign cs_6 u0 cs_7 hv_7 b)
  replace h := ob h; obtain ⟨w_10, hw_10, h⟩ := h
  replace h := ob h; obtain ⟨z_9, hv_9, h⟩ := h
  replace hq := hq.trans ((cpl_rb (fun _ _ => hf) hv_9).1)
  have k9 := hrc19 z_9.1 u0 u1 u2 (u3 + 1) cs9 h hf
  exact (hq.trans k9).le (by decide)
theorem rb_c_X9_readPart_L19 (c K : Nat) (β : Bool) (b : Nat) (F : Nat) (T : TC_X9_readExpr) (hM_X9_readExpr : ∀ (cs : CS) (x0 : Nat) (cs9 : CS) (r9 : Int32), T.1 cs x0 = some (cs9, r9) → ∀ b, RBX x0 c K b 1 β cs cs9) (hM_X9_readConjunction : ∀ (cs : CS) (x0 : Nat) (cs9 : CS), T.2.1 cs x0 = some cs9 → ∀ b, RBX x0 c K b 1 β cs cs9) (hM_X9_readNegation : ∀ (cs : CS) (x0 : Nat) (cs9 : CS), T.2.2.1 cs x0 = some cs9 → ∀ b, RBX x0 c K b 1 β cs cs9) (hM_X9_readTest : ∀ (cs : CS) (x0 : Nat) (cs9 : CS), T.2.2.2.1 cs x0 = some cs9 → ∀ b, RBX x0 c K b 1 β cs cs9) (hM_X9_readSum : ∀ (cs : CS) (x0 : Nat) (cs9 : CS), T.2.2.2.2.1 cs x0 = some cs9 → ∀ b, RBX x0 c K b 1 β cs cs9) (hM_X9_readPart : ∀ (cs : CS) (x0 : Nat) (cs9 : CS), T.2.2.2.2.2.1 cs x0 = some cs9 → ∀ b, RBX x0 c K b 1 β cs cs9) (hM_X9_readSign : ∀ (cs : CS) (x0 : Nat) (cs9 : CS), T.2.2.2.2.2.2.1 cs x0 = some cs9 → ∀ b, RBX x0 c K b 1 β cs cs9) (hM_X9_readOne : ∀ (cs : CS) (x0 : Nat) (cs9 : CS), T.2.2.2.2.2.2.2.1 cs x0 = some cs9 → ∀ b, RBX x0 c K b 1 β cs cs9) (hM_X9_readCase : ∀ (cs : CS) (x0 : Nat) (cs9 : CS), T.2.2.2.2.2.2.2.2.1 cs x0 = some cs9 → ∀ b, RBX x0 c K b 1 β cs cs9) (hM_X9_readSpan : ∀ (cs : CS) (x0 : Nat) (cs9 : CS), T.2.2.2.2.2.2.2.2.2.1 cs x0 = some cs9 → ∀ b, RBX x0 c K b 1 β cs cs9) (hM_X9_readAggregate : ∀ (cs : CS) (x0 : Nat) (cs9 : CS), T.2.2.2.2.2.2.2.2.2.2.1 cs x0 = some cs9 → (∀ v, c_X9_kind F cs x0 = some v → AGC v) → ∀ b, RBX x0 c K b 1 β cs cs9) (hM_X9_readList : ∀ (cs : CS) (x0 : Nat) (x1 : Int32) (x2 : Int32) (x3 : Int32) (x4 : Int32) (cs9 : CS), T.2.2.2.2.2.2.2.2.2.2.2 cs x0 x1 x2 x3 x4 = some cs9 → ∀ b, FST b x2 → RBX x0 c K b 1 β cs cs9) : ∀ (lf_19 : Nat) (cs1 : CS) (u0 : Nat) (u1 : Int32) (u2 : Int32) (u3 : Int32) (cs9 : CS), c_X9_readPart_L19 F T lf_19 cs1 u0 u1 u2 u3 = some cs9 → FST b u1 → RBX u0 c K b 0 β cs1 cs9 := by
  intro lf_19
  induction lf_19 with
  | zero => intro cs1 u0 u1 u2 u3 cs9 h hf; cases (show (none : Option CS) = _ from h)
  | succ lf_19 ih_19 =>
    intro cs1 u0 u1 u2 u3 cs9 h hf
    rw [c_X9_readPart_L19] at h
    have hq : RBX u0 c K b 0 β cs1 cs1 := RBX.refl
    by_cases c_1 : 2000 ≤ u3
    · skip
      replace h := (if_pos c_1).symm.trans h
      have k9 := rb_c_X9_readPart_b97 c K β b u0 F T hM_X9_readExpr hM_X9_readConjunction hM_X9_readNegation hM_X9_readTest hM_X9_readSum hM_X9_readPart hM_X9_readSign hM_X9_readOne hM_X9_readCase hM_X9_readSpan hM_X9_readAggregate hM_X9_readList cs1 cs9 h
      exact (hq.trans k9).le (by decide)
    · skip
      replace h := (if_neg c_1).symm.trans h
      replace h := ob h; obtain ⟨w_3, hw_3, h⟩ := h
      replace h := ob h; obtain ⟨v_2, hv_2, h⟩ := h
      by_cases c_4 : v_2 = 47
      · skip
        replace h := (if_pos c_4).symm.trans h
        have k9 := rb_c_X9_readPart_b53 c K β b F T hM_X9_readExpr hM_X9_readConjunction hM_X9_readNegation hM_X9_readTest hM_X9_readSum hM_X9_readPart hM_X9_readSign hM_X9_readOne hM_X9_readCase hM_X9_readSpan hM_X9_readAggregate hM_X9_readList (c_X9_readPart_L19 F T lf_19) ih_19 cs1 u0 u1 u2 u3 cs9 h hf
        exact (hq.trans k9).le (by decide)
      · skip
        replace h := (if_neg c_4).symm.trans h
        replace h := ob h; obtain ⟨w_6, hw_6, h⟩ := h
        replace h := ob h; obtain ⟨v_5, hv_5, h⟩ := h
        by_cases c_7 : v_5 = 48
        · skip
          replace h := (if_pos c_7).symm.trans h
          have k9 := rb_c_X9_readPart_b53 c K β b F T hM_X9_readExpr hM_X9_readConjunction hM_X9_readNegation hM_X9_readTest hM_X9_readSum hM_X9_readPart hM_X9_readSign hM_X9_readOne hM_X9_readCase hM_X9_readSpan hM_X9_readAggregate hM_X9_readList (c_X9_readPart_L19 F T lf_19) ih_19 cs1 u0 u1 u2 u3 cs9 h hf
          exact (hq.trans k9).le (by decide)
        · skip
          replace h := (if_neg c_7).symm.trans h
          replace h := ob h; obtain ⟨w_9, hw_9, h⟩ := h
          replace h := ob h; obtain ⟨v_8, hv_8, h⟩ := h
          by_cases c_10 : v_8 = 49
          · skip
            replace h := (if_pos c_10).symm.trans h
            have k9 := rb_c_X9_readPart_b53 c K β b F T hM_X9_readExpr hM_X9_readConjunction hM_X9_readNegation hM_X9_readTest hM_X9_readSum hM_X9_readPart hM_X9_readSign hM_X9_readOne hM_X9_readCase hM_X9_readSpan hM_X9_readAggregate hM_X9_readList (c_X9_readPart_L19 F T lf_19) ih_19 cs1 u0 u1 u2 u3 cs9 h hf
            exact (hq.trans k9).le (by decide)
          · skip
            replace h := (if_neg c_10).symm.trans h
            have k9 := rb_c_X9_readPart_b97 c K β b u0 F T hM_X9_readExpr hM_X9_readConjunction hM_X9_readNegation hM_X9_readTest hM_X9_readSum hM_X9_readPart hM_X9_readSign hM_X9_readOne hM_X9_readCase hM_X9_readSpan hM_X9_readAggregate hM_X9_readList cs1 cs9 h
            exact (hq.trans k9).le (by decide)
theorem rb_cb_X9_readPart (c K : Nat) (β : Bool) (b : Nat) (F : Nat) (T : TC_X9_readExpr) (hM_X9_readExpr : ∀ (cs : CS) (x0 : Nat) (cs9 : CS) (r9 : Int32), T.1 cs x0 = some (cs9, r9) → ∀ b, RBX x0 c K b 1 β cs cs9) (hM_X9_readConjunction : ∀ (cs : CS) (x0 : Nat) (cs9 : CS), T.2.1 cs x0 = some cs9 → ∀ b, RBX x0 c K b 1 β cs cs9) (hM_X9_readNegation : ∀ (cs : CS) (x0 : Nat) (cs9 : CS), T.2.2.1 cs x0 = some cs9 → ∀ b, RBX x0 c K b 1 β cs cs9) (hM_X9_readTest : ∀ (cs : CS) (x0 : Nat) (cs9 : CS), T.2.2.2.1 cs x0 = some cs9 → ∀ b, RBX x0 c K b 1 β cs cs9) (hM_X9_readSum : ∀ (cs : CS) (x0 : Nat) (cs9 : CS), T.2.2.2.2.1 cs x0 = some cs9 → ∀ b, RBX x0 c K b 1 β cs cs9) (hM_X9_readPart : ∀ (cs : CS) (x0 : Nat) (cs9 : CS), T.2.2.2.2.2.1 cs x0 = some cs9 → ∀ b, RBX x0 c K b 1 β cs cs9) (hM_X9_readSign : ∀ (cs : CS) (x0 : Nat) (cs9 : CS), T.2.2.2.2.2.2.1 cs x0 = some cs9 → ∀ b, RBX x0 c K b 1 β cs cs9) (hM_X9_readOne : ∀ (cs : CS) (x0 : Nat) (cs9 : CS), T.2.2.2.2.2.2.2.1 cs x0 = some cs9 → ∀ b, RBX x0 c K b 1 β cs cs9) (hM_X9_readCase : ∀ (cs : CS) (x0 : Nat) (cs9 : CS), T.2.2.2.2.2.2.2.2.1 cs x0 = some cs9 → ∀ b, RBX x0 c K b 1 β cs cs9) (hM_X9_readSpan : ∀ (cs : CS) (x0 : Nat) (cs9 : CS), T.2.2.2.2.2.2.2.2.2.1 cs x0 = some cs9 → ∀ b, RBX x0 c K b 1 β cs cs9) (hM_X9_readAggregate : ∀ (cs : CS) (x0 : Nat) (cs9 : CS), T.2.2.2.2.2.2.2.2.2.2.1 cs x0 = some cs9 → (∀ v, c_X9_kind F cs x0 = some v → AGC v) → ∀ b, RBX x0 c K b 1 β cs cs9) (hM_X9_readList : ∀ (cs : CS) (x0 : Nat) (x1 : Int32) (x2 : Int32) (x3 : Int32) (x4 : Int32) (cs9 : CS), T.2.2.2.2.2.2.2.2.2.2.2 cs x0 x1 x2 x3 x4 = some cs9 → ∀ b, FST b x2 → RBX x0 c K b 1 β cs cs9) (cs : CS) (x0 : Nat) (cs9 : CS) (h : cb_X9_readPart F T cs x0 = some cs9) : RBX x0 c K b 1 β cs cs9 := by
  refine RBX.ent (fun b hb hR => ?_)
  unfold cb_X9_readPart at h
  have hq : RBX x0 c K b 0 β cs cs := RBX.refl
  replace h := ob h; obtain ⟨v_1, hv_1, h⟩ := h
  replace h := ob h; obtain ⟨i_2, hi_2, h⟩ := h
  subst hi_2
  replace h := ob h; obtain ⟨v_3, hv_3, h⟩ := h
  have hf : FST b v_3 := FST.sz hR hb hv_1 hv_3
  replace h := ob h; obtain ⟨w_5, hw_5, h⟩ := h
  replace h := ob h; obtain ⟨v_4, hv_4, h⟩ := h
  replace h := ob h; obtain ⟨w_7, hw_7, h⟩ := h
  replace h := ob h; obtain ⟨cs_6, hv_6, h⟩ := h
  replace hq := hq.trans (hM_X9_readSign cs x0 cs_6 hv_6 b)
  have k9 := rb_c_X9_readPart_L19 c K β b F T hM_X9_readExpr hM_X9_readConjunction hM_X9_readNegation hM_X9_readTest hM_X9_readSum hM_X9_readPart hM_X9_readSign hM_X9_readOne hM_X9_readCase hM_X9_readSpan hM_X9_readAggregate hM_X9_readList F cs_6 x0 v_3 v_4 0 cs9 h hf
  exact (hq.trans k9).le (by decide)
theorem rb_c_X9_readSign_b49 (c K : Nat) (β : Bool) (b : Nat) (F : Nat) (T : TC_X9_readExpr) (hM_X9_readExpr : ∀ (cs : CS) (x0 : Nat) (cs9 : CS) (r9 : Int32), T.1 cs x0 = some (cs9, r9) → ∀ b, RBX x0 c K b 1 β cs cs9) (hM_X9_readConjunction : ∀ (cs : CS) (x0 : Nat) (cs9 : CS), T.2.1 cs x0 = some cs9 → ∀ b, RBX x0 c K b 1 β cs cs9) (hM_X9_readNegation : ∀ (cs : CS) (x0 : Nat) (cs9 : CS), T.2.2.1 cs x0 = some cs9 → ∀ b, RBX x0 c K b 1 β cs cs9) (hM_X9_readTest : ∀ (cs : CS) (x0 : Nat) (cs9 : CS), T.2.2.2.1 cs x0 = some cs9 → ∀ b, RBX x0 c K b 1 β cs cs9) (hM_X9_readSum : ∀ (cs : CS) (x0 : Nat) (cs9 : CS), T.2.2.2.2.1 cs x0 = some cs9 → ∀ b, RBX x0 c K b 1 β cs cs9) (hM_X9_readPart : ∀ (cs : CS) (x0 : Nat) (cs9 : CS), T.2.2.2.2.2.1 cs x0 = some cs9 → ∀ b, RBX x0 c K b 1 β cs cs9) (hM_X9_readSign : ∀ (cs : CS) (x0 : Nat) (cs9 : CS), T.2.2.2.2.2.2.1 cs x0 = some cs9 → ∀ b, RBX x0 c K b 1 β cs cs9) (hM_X9_readOne : ∀ (cs : CS) (x0 : Nat) (cs9 : CS), T.2.2.2.2.2.2.2.1 cs x0 = some cs9 → ∀ b, RBX x0 c K b 1 β cs cs9) (hM_X9_readCase : ∀ (cs : CS) (x0 : Nat) (cs9 : CS), T.2.2.2.2.2.2.2.2.1 cs x0 = some cs9 → ∀ b, RBX x0 c K b 1 β cs cs9) (hM_X9_readSpan : ∀ (cs : CS) (x0 : Nat) (cs9 : CS), T.2.2.2.2.2.2.2.2.2.1 cs x0 = some cs9 → ∀ b, RBX x0 c K b 1 β cs cs9) (hM_X9_readAggregate : ∀ (cs : CS) (x0 : Nat) (cs9 : CS), T.2.2.2.2.2.2.2.2.2.2.1 cs x0 = some cs9 → (∀ v, c_X9_kind F cs x0 = some v → AGC v) → ∀ b, RBX x0 c K b 1 β cs cs9) (hM_X9_readList : ∀ (cs : CS) (x0 : Nat) (x1 : Int32) (x2 : Int32) (x3 : Int32) (x4 : Int32) (cs9 : CS), T.2.2.2.2.2.2.2.2.2.2.2 cs x0 x1 x2 x3 x4 = some cs9 → ∀ b, FST b x2 → RBX x0 c K b 1 β cs cs9) (cs1 : CS) (u0 : Nat) (u1 : Int32) (u2 : Int32) (cs9 : CS) (h : c_X9_readSign_b49 F T cs1 u0 u1 u2 = some cs9) (hf : FST b u1) : RBX u0 c K b 1 β cs1 cs9 := by
  unfold c_X9_readSign_b49 at h
  have hq : RBX u0 c K b 0 β cs1 cs1 := RBX.refl
  replace h := ob h; obtain ⟨v_1, hv_1, h⟩ := h
  replace h := ob h; obtain ⟨cs_2, hv_2, h⟩ := h
  replace hq := hq.trans (RBX.pI (by decide) hv_2)
  replace h := ob h; obtain ⟨w_4, hw_4, h⟩ := h
  replace h := ob h; obtain ⟨z_3, hv_3, h⟩ := h
  replace hq := hq.trans ((cpl_rb (fun _ _ => hf) hv_3).1)
  have h9 := Option.some.inj h
  exact (hq.to h9).le (by decide)
theorem rb_cb_X9_readSign (c K : Nat) (β : Bool) (b : Nat) (F : Nat) (T : TC_X9_readExpr) (hM_X9_readExpr : ∀ (cs : CS) (x0 : Nat) (cs9 : CS) (r9 : Int32), T.1 cs x0 = some (cs9, r9) → ∀ b, RBX x0 c K b 1 β cs cs9) (hM_X9_readConjunction : ∀ (cs : CS) (x0 : Nat) (cs9 : CS), T.2.1 cs x0 = some cs9 → ∀ b, RBX x0 c K b 1 β cs cs9) (hM_X9_readNegation : ∀ (cs : CS) (x0 : Nat) (cs9 : CS), T.2.2.1 cs x0 = some cs9 → ∀ b, RBX x0 c K b 1 β cs cs9) (hM_X9_readTest : ∀ (cs : CS) (x0 : Nat) (cs9 : CS), T.2.2.2.1 cs x0 = some cs9 → ∀ b, RBX x0 c K b 1 β cs cs9) (hM_X9_readSum : ∀ (cs : CS) (x0 : Nat) (cs9 : CS), T.2.2.2.2.1 cs x0 = some cs9 → ∀ b, RBX x0 c K b 1 β cs cs9) (hM_X9_readPart : ∀ (cs : CS) (x0 : Nat) (cs9 : CS), T.2.2.2.2.2.1 cs x0 = some cs9 → ∀ b, RBX x0 c K b 1 β cs cs9) (hM_X9_readSign : ∀ (cs : CS) (x0 : Nat) (cs9 : CS), T.2.2.2.2.2.2.1 cs x0 = some cs9 → ∀ b, RBX x0 c K b 1 β cs cs9) (hM_X9_readOne : ∀ (cs : CS) (x0 : Nat) (cs9 : CS), T.2.2.2.2.2.2.2.1 cs x0 = some cs9 → ∀ b, RBX x0 c K b 1 β cs cs9) (hM_X9_readCase : ∀ (cs : CS) (x0 : Nat) (cs9 : CS), T.2.2.2.2.2.2.2.2.1 cs x0 = some cs9 → ∀ b, RBX x0 c K b 1 β cs cs9) (hM_X9_readSpan : ∀ (cs : CS) (x0 : Nat) (cs9 : CS), T.2.2.2.2.2.2.2.2.2.1 cs x0 = some cs9 → ∀ b, RBX x0 c K b 1 β cs cs9) (hM_X9_readAggregate : ∀ (cs : CS) (x0 : Nat) (cs9 : CS), T.2.2.2.2.2.2.2.2.2.2.1 cs x0 = some cs9 → (∀ v, c_X9_kind F cs x0 = some v → AGC v) → ∀ b, RBX x0 c K b 1 β cs cs9) (hM_X9_readList : ∀ (cs : CS) (x0 : Nat) (x1 : Int32) (x2 : Int32) (x3 : Int32) (x4 : Int32) (cs9 : CS), T.2.2.2.2.2.2.2.2.2.2.2 cs x0 x1 x2 x3 x4 = some cs9 → ∀ b, FST b x2 → RBX x0 c K b 1 β cs cs9) (cs : CS) (x0 : Nat) (cs9 : CS) (h : cb_X9_readSign F T cs x0 = some cs9) : RBX x0 c K b 1 β cs cs9 := by
  refine RBX.ent (fun b hb hR => ?_)
  unfold cb_X9_readSign at h
  have hq : RBX x0 c K b 0 β cs cs := RBX.refl
  replace h := ob h; obtain ⟨w_2, hw_2, h⟩ := h
  replace h := ob h; obtain ⟨v_1, hv_1, h⟩ := h
  by_cases c_3 : v_1 = 46
  · skip
    replace h := (if_pos c_3).symm.trans h
    replace h := ob h; obtain ⟨v_4, hv_4, h⟩ := h
    replace h := ob h; obtain ⟨i_5, hi_5, h⟩ := h
    subst hi_5
    replace h := ob h; obtain ⟨v_6, hv_6, h⟩ := h
    have hf : FST b v_6 := FST.sz hR hb hv_4 hv_6
    replace h := ob h; obtain ⟨w_8, hw_8, h⟩ := h
    replace h := ob h; obtain ⟨v_7, hv_7, h⟩ := h
    replace h := ob h; obtain ⟨w_10, hw_10, h⟩ := h
    replace h := ob h; obtain ⟨cs_9, hv_9, h⟩ := h
    replace hq := hq.trans (rb_c_X9_deepen c K β b F cs x0 cs_9 hv_9)
    replace h := ob h; obtain ⟨w_12, hw_12, h⟩ := h
    replace h := ob h; obtain ⟨z_11, hv_11, h⟩ := h
    replace hq := hq.trans (rb_c_X9_accept c K β b F cs_9 x0 46 z_11.1 z_11.2 hv_11)
    replace h := ob h; obtain ⟨v_13, hv_13, h⟩ := h
    by_cases c_14 : v_13 = 0
    · skip
      replace h := (if_pos c_14).symm.trans h
      replace h := ob h; obtain ⟨w_16, hw_16, h⟩ := h
      replace h := ob h; obtain ⟨cs_15, hv_15, h⟩ := h
      replace hq := hq.trans (hM_X9_readSign z_11.1 x0 cs_15 hv_15 b)
      have k9 := rb_c_X9_readSign_b49 c K β b F T hM_X9_readExpr hM_X9_readConjunction hM_X9_readNegation hM_X9_readTest hM_X9_readSum hM_X9_readPart hM_X9_readSign hM_X9_readOne hM_X9_readCase hM_X9_readSpan hM_X9_readAggregate hM_X9_readList cs_15 x0 v_6 v_7 cs9 h hf
      exact (hq.trans k9).le (by decide)
    · skip
      replace h := (if_neg c_14).symm.trans h
      have k9 := rb_c_X9_readSign_b49 c K β b F T hM_X9_readExpr hM_X9_readConjunction hM_X9_readNegation hM_X9_readTest hM_X9_readSum hM_X9_readPart hM_X9_readSign hM_X9_readOne hM_X9_readCase hM_X9_readSpan hM_X9_readAggregate hM_X9_readList z_11.1 x0 v_6 v_7 cs9 h hf
      exact (hq.trans k9).le (by decide)
  · skip
    replace h := (if_neg c_3).symm.trans h
    replace h := ob h; obtain ⟨w_18, hw_18, h⟩ := h
    replace h := ob h; obtain ⟨cs_17, hv_17, h⟩ := h
    replace hq := hq.trans (hM_X9_readOne cs x0 cs_17 hv_17 b)
    have h9 := Option.some.inj h
    exact (hq.to h9).le (by decide)
theorem rb_c_X9_readOne_b191 (c K : Nat) (β : Bool) (b : Nat) (t : Nat) (F : Nat) (T : TC_X9_readExpr) (hM_X9_readExpr : ∀ (cs : CS) (x0 : Nat) (cs9 : CS) (r9 : Int32), T.1 cs x0 = some (cs9, r9) → ∀ b, RBX x0 c K b 1 β cs cs9) (hM_X9_readConjunction : ∀ (cs : CS) (x0 : Nat) (cs9 : CS), T.2.1 cs x0 = some cs9 → ∀ b, RBX x0 c K b 1 β cs cs9) (hM_X9_readNegation : ∀ (cs : CS) (x0 : Nat) (cs9 : CS), T.2.2.1 cs x0 = some cs9 → ∀ b, RBX x0 c K b 1 β cs cs9) (hM_X9_readTest : ∀ (cs : CS) (x0 : Nat) (cs9 : CS), T.2.2.2.1 cs x0 = some cs9 → ∀ b, RBX x0 c K b 1 β cs cs9) (hM_X9_readSum : ∀ (cs : CS) (x0 : Nat) (cs9 : CS), T.2.2.2.2.1 cs x0 = some cs9 → ∀ b, RBX x0 c K b 1 β cs cs9) (hM_X9_readPart : ∀ (cs : CS) (x0 : Nat) (cs9 : CS), T.2.2.2.2.2.1 cs x0 = some cs9 → ∀ b, RBX x0 c K b 1 β cs cs9) (hM_X9_readSign : ∀ (cs : CS) (x0 : Nat) (cs9 : CS), T.2.2.2.2.2.2.1 cs x0 = some cs9 → ∀ b, RBX x0 c K b 1 β cs cs9) (hM_X9_readOne : ∀ (cs : CS) (x0 : Nat) (cs9 : CS), T.2.2.2.2.2.2.2.1 cs x0 = some cs9 → ∀ b, RBX x0 c K b 1 β cs cs9) (hM_X9_readCase : ∀ (cs : CS) (x0 : Nat) (cs9 : CS), T.2.2.2.2.2.2.2.2.1 cs x0 = some cs9 → ∀ b, RBX x0 c K b 1 β cs cs9) (hM_X9_readSpan : ∀ (cs : CS) (x0 : Nat) (cs9 : CS), T.2.2.2.2.2.2.2.2.2.1 cs x0 = some cs9 → ∀ b, RBX x0 c K b 1 β cs cs9) (hM_X9_readAggregate : ∀ (cs : CS) (x0 : Nat) (cs9 : CS), T.2.2.2.2.2.2.2.2.2.2.1 cs x0 = some cs9 → (∀ v, c_X9_kind F cs x0 = some v → AGC v) → ∀ b, RBX x0 c K b 1 β cs cs9) (hM_X9_readList : ∀ (cs : CS) (x0 : Nat) (x1 : Int32) (x2 : Int32) (x3 : Int32) (x4 : Int32) (cs9 : CS), T.2.2.2.2.2.2.2.2.2.2.2 cs x0 x1 x2 x3 x4 = some cs9 → ∀ b, FST b x2 → RBX x0 c K b 1 β cs cs9) (cs1 : CS) (cs9 : CS) (h : c_X9_readOne_b191 F T cs1 = some cs9) : RBX t c K b 0 β cs1 cs9 := by
  unfold c_X9_readOne_b191 at h
  have hq : RBX t c K b 0 β cs1 cs1 := RBX.refl
  have h9 := Option.some.inj h
  exact (hq.to h9).le (by decide)
theorem rb_c_X9_readOne_b112 (c K : Nat) (β : Bool) (b : Nat) (F : Nat) (T : TC_X9_readExpr) (hM_X9_readExpr : ∀ (cs : CS) (x0 : Nat) (cs9 : CS) (r9 : Int32), T.1 cs x0 = some (cs9, r9) → ∀ b, RBX x0 c K b 1 β cs cs9) (hM_X9_readConjunction : ∀ (cs : CS) (x0 : Nat) (cs9 : CS), T.2.1 cs x0 = some cs9 → ∀ b, RBX x0 c K b 1 β cs cs9) (hM_X9_readNegation : ∀ (cs : CS) (x0 : Nat) (cs9 : CS), T.2.2.1 cs x0 = some cs9 → ∀ b, RBX x0 c K b 1 β cs cs9) (hM_X9_readTest : ∀ (cs : CS) (x0 : Nat) (cs9 : CS), T.2.2.2.1 cs x0 = some cs9 → ∀ b, RBX x0 c K b 1 β cs cs9) (hM_X9_readSum : ∀ (cs : CS) (x0 : Nat) (cs9 : CS), T.2.2.2.2.1 cs x0 = some cs9 → ∀ b, RBX x0 c K b 1 β cs cs9) (hM_X9_readPart : ∀ (cs : CS) (x0 : Nat) (cs9 : CS), T.2.2.2.2.2.1 cs x0 = some cs9 → ∀ b, RBX x0 c K b 1 β cs cs9) (hM_X9_readSign : ∀ (cs : CS) (x0 : Nat) (cs9 : CS), T.2.2.2.2.2.2.1 cs x0 = some cs9 → ∀ b, RBX x0 c K b 1 β cs cs9) (hM_X9_readOne : ∀ (cs : CS) (x0 : Nat) (cs9 : CS), T.2.2.2.2.2.2.2.1 cs x0 = some cs9 → ∀ b, RBX x0 c K b 1 β cs cs9) (hM_X9_readCase : ∀ (cs : CS) (x0 : Nat) (cs9 : CS), T.2.2.2.2.2.2.2.2.1 cs x0 = some cs9 → ∀ b, RBX x0 c K b 1 β cs cs9) (hM_X9_readSpan : ∀ (cs : CS) (x0 : Nat) (cs9 : CS), T.2.2.2.2.2.2.2.2.2.1 cs x0 = some cs9 → ∀ b, RBX x0 c K b 1 β cs cs9) (hM_X9_readAggregate : ∀ (cs : CS) (x0 : Nat) (cs9 : CS), T.2.2.2.2.2.2.2.2.2.2.1 cs x0 = some cs9 → (∀ v, c_X9_kind F cs x0 = some v → AGC v) → ∀ b, RBX x0 c K b 1 β cs cs9) (hM_X9_readList : ∀ (cs : CS) (x0 : Nat) (x1 : Int32) (x2 : Int32) (x3 : Int32) (x4 : Int32) (cs9 : CS), T.2.2.2.2.2.2.2.2.2.2.2 cs x0 x1 x2 x3 x4 = some cs9 → ∀ b, FST b x2 → RBX x0 c K b 1 β cs cs9) (cs1 : CS) (u0 : Nat) (cs9 : CS) (h : c_X9_readOne_b112 F T cs1 u0 = some cs9) : RBX u0 c K b 1 β cs1 cs9 := by
  unfold c_X9_readOne_b112 at h
  have hq : RBX u0 c K b 0 β cs1 cs1 := RBX.refl
  replace h := ob h; obtain ⟨w_2, hw_2, h⟩ := h
  replace h := ob h; obtain ⟨cs_1, hv_1, h⟩ := h
  replace hq := hq.trans (rb_c_X9_readLiteral c K β b F cs1 u0 cs_1 hv_1)
  have k9 := rb_c_X9_readOne_b191 c K β b u0 F T hM_X9_readExpr hM_X9_readConjunction hM_X9_readNegation hM_X9_readTest hM_X9_readSum hM_X9_readPart hM_X9_readSign hM_X9_readOne hM_X9_readCase hM_X9_readSpan hM_X9_readAggregate hM_X9_readList cs_1 cs9 h
  exact (hq.trans k9).le (by decide)
theorem rb_c_X9_readOne_b119 (c K : Nat) (β : Bool) (b : Nat) (F : Nat) (T : TC_X9_readExpr) (hM_X9_readExpr : ∀ (cs : CS) (x0 : Nat) (cs9 : CS) (r9 : Int32), T.1 cs x0 = some (cs9, r9) → ∀ b, RBX x0 c K b 1 β cs cs9) (hM_X9_readConjunction : ∀ (cs : CS) (x0 : Nat) (cs9 : CS), T.2.1 cs x0 = some cs9 → ∀ b, RBX x0 c K b 1 β cs cs9) (hM_X9_readNegation : ∀ (cs : CS) (x0 : Nat) (cs9 : CS), T.2.2.1 cs x0 = some cs9 → ∀ b, RBX x0 c K b 1 β cs cs9) (hM_X9_readTest : ∀ (cs : CS) (x0 : Nat) (cs9 : CS), T.2.2.2.1 cs x0 = some cs9 → ∀ b, RBX x0 c K b 1 β cs cs9) (hM_X9_readSum : ∀ (cs : CS) (x0 : Nat) (cs9 : CS), T.2.2.2.2.1 cs x0 = some cs9 → ∀ b, RBX x0 c K b 1 β cs cs9) (hM_X9_readPart : ∀ (cs : CS) (x0 : Nat) (cs9 : CS), T.2.2.2.2.2.1 cs x0 = some cs9 → ∀ b, RBX x0 c K b 1 β cs cs9) (hM_X9_readSign : ∀ (cs : CS) (x0 : Nat) (cs9 : CS), T.2.2.2.2.2.2.1 cs x0 = some cs9 → ∀ b, RBX x0 c K b 1 β cs cs9) (hM_X9_readOne : ∀ (cs : CS) (x0 : Nat) (cs9 : CS), T.2.2.2.2.2.2.2.1 cs x0 = some cs9 → ∀ b, RBX x0 c K b 1 β cs cs9) (hM_X9_readCase : ∀ (cs : CS) (x0 : Nat) (cs9 : CS), T.2.2.2.2.2.2.2.2.1 cs x0 = some cs9 → ∀ b, RBX x0 c K b 1 β cs cs9) (hM_X9_readSpan : ∀ (cs : CS) (x0 : Nat) (cs9 : CS), T.2.2.2.2.2.2.2.2.2.1 cs x0 = some cs9 → ∀ b, RBX x0 c K b 1 β cs cs9) (hM_X9_readAggregate : ∀ (cs : CS) (x0 : Nat) (cs9 : CS), T.2.2.2.2.2.2.2.2.2.2.1 cs x0 = some cs9 → (∀ v, c_X9_kind F cs x0 = some v → AGC v) → ∀ b, RBX x0 c K b 1 β cs cs9) (hM_X9_readList : ∀ (cs : CS) (x0 : Nat) (x1 : Int32) (x2 : Int32) (x3 : Int32) (x4 : Int32) (cs9 : CS), T.2.2.2.2.2.2.2.2.2.2.2 cs x0 x1 x2 x3 x4 = some cs9 → ∀ b, FST b x2 → RBX x0 c K b 1 β cs cs9) (cs1 : CS) (u0 : Nat) (cs9 : CS) (h : c_X9_readOne_b119 F T cs1 u0 = some cs9) : RBX u0 c K b 1 β cs1 cs9 := by
  unfold c_X9_readOne_b119 at h
  have hq : RBX u0 c K b 0 β cs1 cs1 := RBX.refl
  replace h := ob h; obtain ⟨w_2, hw_2, h⟩ := h
  replace h := ob h; obtain ⟨cs_1, hv_1, h⟩ := h
  replace hq := hq.trans (rb_c_X9_readColumn c K β b F cs1 u0 cs_1 hv_1)
  have k9 := rb_c_X9_readOne_b191 c K β b u0 F T hM_X9_readExpr hM_X9_readConjunction hM_X9_readNegation hM_X9_readTest hM_X9_readSum hM_X9_readPart hM_X9_readSign hM_X9_readOne hM_X9_readCase hM_X9_readSpan hM_X9_readAggregate hM_X9_readList cs_1 cs9 h
  exact (hq.trans k9).le (by decide)
theorem rb_c_X9_readOne_b175 (c K : Nat) (β : Bool) (b : Nat) (F : Nat) (T : TC_X9_readExpr) (hM_X9_readExpr : ∀ (cs : CS) (x0 : Nat) (cs9 : CS) (r9 : Int32), T.1 cs x0 = some (cs9, r9) → ∀ b, RBX x0 c K b 1 β cs cs9) (hM_X9_readConjunction : ∀ (cs : CS) (x0 : Nat) (cs9 : CS), T.2.1 cs x0 = some cs9 → ∀ b, RBX x0 c K b 1 β cs cs9) (hM_X9_readNegation : ∀ (cs : CS) (x0 : Nat) (cs9 : CS), T.2.2.1 cs x0 = some cs9 → ∀ b, RBX x0 c K b 1 β cs cs9) (hM_X9_readTest : ∀ (cs : CS) (x0 : Nat) (cs9 : CS), T.2.2.2.1 cs x0 = some cs9 → ∀ b, RBX x0 c K b 1 β cs cs9) (hM_X9_readSum : ∀ (cs : CS) (x0 : Nat) (cs9 : CS), T.2.2.2.2.1 cs x0 = some cs9 → ∀ b, RBX x0 c K b 1 β cs cs9) (hM_X9_readPart : ∀ (cs : CS) (x0 : Nat) (cs9 : CS), T.2.2.2.2.2.1 cs x0 = some cs9 → ∀ b, RBX x0 c K b 1 β cs cs9) (hM_X9_readSign : ∀ (cs : CS) (x0 : Nat) (cs9 : CS), T.2.2.2.2.2.2.1 cs x0 = some cs9 → ∀ b, RBX x0 c K b 1 β cs cs9) (hM_X9_readOne : ∀ (cs : CS) (x0 : Nat) (cs9 : CS), T.2.2.2.2.2.2.2.1 cs x0 = some cs9 → ∀ b, RBX x0 c K b 1 β cs cs9) (hM_X9_readCase : ∀ (cs : CS) (x0 : Nat) (cs9 : CS), T.2.2.2.2.2.2.2.2.1 cs x0 = some cs9 → ∀ b, RBX x0 c K b 1 β cs cs9) (hM_X9_readSpan : ∀ (cs : CS) (x0 : Nat) (cs9 : CS), T.2.2.2.2.2.2.2.2.2.1 cs x0 = some cs9 → ∀ b, RBX x0 c K b 1 β cs cs9) (hM_X9_readAggregate : ∀ (cs : CS) (x0 : Nat) (cs9 : CS), T.2.2.2.2.2.2.2.2.2.2.1 cs x0 = some cs9 → (∀ v, c_X9_kind F cs x0 = some v → AGC v) → ∀ b, RBX x0 c K b 1 β cs cs9) (hM_X9_readList : ∀ (cs : CS) (x0 : Nat) (x1 : Int32) (x2 : Int32) (x3 : Int32) (x4 : Int32) (cs9 : CS), T.2.2.2.2.2.2.2.2.2.2.2 cs x0 x1 x2 x3 x4 = some cs9 → ∀ b, FST b x2 → RBX x0 c K b 1 β cs cs9) (cs1 : CS) (u0 : Nat) (cs9 : CS) (h : c_X9_readOne_b175 F T cs1 u0 = some cs9) (hk : ∀ v, c_X9_kind F cs1 u0 = some v → AGC v) : RBX u0 c K b 1 β cs1 cs9 := by
  unfold c_X9_readOne_b175 at h
  have hq : RBX u0 c K b 0 β cs1 cs1 := RBX.refl
  replace h := ob h; obtain ⟨w_2, hw_2, h⟩ := h
  replace h := ob h; obtain ⟨cs_1, hv_1, h⟩ := h
  replace hq := hq.trans (hM_X9_readAggregate cs1 u0 cs_1 hv_1 hk b)
  have k9 := rb_c_X9_readOne_b191 c K β b u0 F T hM_X9_readExpr hM_X9_readConjunction hM_X9_readNegation hM_X9_readTest hM_X9_readSum hM_X9_readPart hM_X9_readSign hM_X9_readOne hM_X9_readCase hM_X9_readSpan hM_X9_readAggregate hM_X9_readList cs_1 cs9 h
  exact (hq.trans k9).le (by decide)
theorem rb_c_X9_readOne_b182 (c K : Nat) (β : Bool) (b : Nat) (F : Nat) (T : TC_X9_readExpr) (hM_X9_readExpr : ∀ (cs : CS) (x0 : Nat) (cs9 : CS) (r9 : Int32), T.1 cs x0 = some (cs9, r9) → ∀ b, RBX x0 c K b 1 β cs cs9) (hM_X9_readConjunction : ∀ (cs : CS) (x0 : Nat) (cs9 : CS), T.2.1 cs x0 = some cs9 → ∀ b, RBX x0 c K b 1 β cs cs9) (hM_X9_readNegation : ∀ (cs : CS) (x0 : Nat) (cs9 : CS), T.2.2.1 cs x0 = some cs9 → ∀ b, RBX x0 c K b 1 β cs cs9) (hM_X9_readTest : ∀ (cs : CS) (x0 : Nat) (cs9 : CS), T.2.2.2.1 cs x0 = some cs9 → ∀ b, RBX x0 c K b 1 β cs cs9) (hM_X9_readSum : ∀ (cs : CS) (x0 : Nat) (cs9 : CS), T.2.2.2.2.1 cs x0 = some cs9 → ∀ b, RBX x0 c K b 1 β cs cs9) (hM_X9_readPart : ∀ (cs : CS) (x0 : Nat) (cs9 : CS), T.2.2.2.2.2.1 cs x0 = some cs9 → ∀ b, RBX x0 c K b 1 β cs cs9) (hM_X9_readSign : ∀ (cs : CS) (x0 : Nat) (cs9 : CS), T.2.2.2.2.2.2.1 cs x0 = some cs9 → ∀ b, RBX x0 c K b 1 β cs cs9) (hM_X9_readOne : ∀ (cs : CS) (x0 : Nat) (cs9 : CS), T.2.2.2.2.2.2.2.1 cs x0 = some cs9 → ∀ b, RBX x0 c K b 1 β cs cs9) (hM_X9_readCase : ∀ (cs : CS) (x0 : Nat) (cs9 : CS), T.2.2.2.2.2.2.2.2.1 cs x0 = some cs9 → ∀ b, RBX x0 c K b 1 β cs cs9) (hM_X9_readSpan : ∀ (cs : CS) (x0 : Nat) (cs9 : CS), T.2.2.2.2.2.2.2.2.2.1 cs x0 = some cs9 → ∀ b, RBX x0 c K b 1 β cs cs9) (hM_X9_readAggregate : ∀ (cs : CS) (x0 : Nat) (cs9 : CS), T.2.2.2.2.2.2.2.2.2.2.1 cs x0 = some cs9 → (∀ v, c_X9_kind F cs x0 = some v → AGC v) → ∀ b, RBX x0 c K b 1 β cs cs9) (hM_X9_readList : ∀ (cs : CS) (x0 : Nat) (x1 : Int32) (x2 : Int32) (x3 : Int32) (x4 : Int32) (cs9 : CS), T.2.2.2.2.2.2.2.2.2.2.2 cs x0 x1 x2 x3 x4 = some cs9 → ∀ b, FST b x2 → RBX x0 c K b 1 β cs cs9) (cs1 : CS) (u0 : Nat) (cs9 : CS) (h : c_X9_readOne_b182 F T cs1 u0 = some cs9) : RBX u0 c K b 1 β cs1 cs9 := by
  unfold c_X9_readOne_b182 at h
  have hq : RBX u0 c K b 0 β cs1 cs1 := RBX.refl
  replace h := ob h; obtain ⟨w_2, hw_2, h⟩ := h
  replace h := ob h; obtain ⟨v_1, hv_1, h⟩ := h
  replace h := ob h; obtain ⟨w_4, hw_4, h⟩ := h
  replace h := ob h; obtain ⟨cs_3, hv_3, h⟩ := h
  replace hq := hq.trans (ref_rb (by decide) hv_3)
  have k9 := rb_c_X9_readOne_b191 c K β b u0 F T hM_X9_readExpr hM_X9_readConjunction hM_X9_readNegation hM_X9_readTest hM_X9_readSum hM_X9_readPart hM_X9_readSign hM_X9_readOne hM_X9_readCase hM_X9_readSpan hM_X9_readAggregate hM_X9_readList cs_3 cs9 h
  exact (hq.trans k9).le (by decide)
theorem rb_cb_X9_readOne (c K : Nat) (β : Bool) (b : Nat) (F : Nat) (T : TC_X9_readExpr) (hM_X9_readExpr : ∀ (cs : CS) (x0 : Nat) (cs9 : CS) (r9 : Int32), T.1 cs x0 = some (cs9, r9) → ∀ b, RBX x0 c K b 1 β cs cs9) (hM_X9_readConjunction : ∀ (cs : CS) (x0 : Nat) (cs9 : CS), T.2.1 cs x0 = some cs9 → ∀ b, RBX x0 c K b 1 β cs cs9) (hM_X9_readNegation : ∀ (cs : CS) (x0 : Nat) (cs9 : CS), T.2.2.1 cs x0 = some cs9 → ∀ b, RBX x0 c K b 1 β cs cs9) (hM_X9_readTest : ∀ (cs : CS) (x0 : Nat) (cs9 : CS), T.2.2.2.1 cs x0 = some cs9 → ∀ b, RBX x0 c K b 1 β cs cs9) (hM_X9_readSum : ∀ (cs : CS) (x0 : Nat) (cs9 : CS), T.2.2.2.2.1 cs x0 = some cs9 → ∀ b, RBX x0 c K b 1 β cs cs9) (hM_X9_readPart : ∀ (cs : CS) (x0 : Nat) (cs9 : CS), T.2.2.2.2.2.1 cs x0 = some cs9 → ∀ b, RBX x0 c K b 1 β cs cs9) (hM_X9_readSign : ∀ (cs : CS) (x0 : Nat) (cs9 : CS), T.2.2.2.2.2.2.1 cs x0 = some cs9 → ∀ b, RBX x0 c K b 1 β cs cs9) (hM_X9_readOne : ∀ (cs : CS) (x0 : Nat) (cs9 : CS), T.2.2.2.2.2.2.2.1 cs x0 = some cs9 → ∀ b, RBX x0 c K b 1 β cs cs9) (hM_X9_readCase : ∀ (cs : CS) (x0 : Nat) (cs9 : CS), T.2.2.2.2.2.2.2.2.1 cs x0 = some cs9 → ∀ b, RBX x0 c K b 1 β cs cs9) (hM_X9_readSpan : ∀ (cs : CS) (x0 : Nat) (cs9 : CS), T.2.2.2.2.2.2.2.2.2.1 cs x0 = some cs9 → ∀ b, RBX x0 c K b 1 β cs cs9) (hM_X9_readAggregate : ∀ (cs : CS) (x0 : Nat) (cs9 : CS), T.2.2.2.2.2.2.2.2.2.2.1 cs x0 = some cs9 → (∀ v, c_X9_kind F cs x0 = some v → AGC v) → ∀ b, RBX x0 c K b 1 β cs cs9) (hM_X9_readList : ∀ (cs : CS) (x0 : Nat) (x1 : Int32) (x2 : Int32) (x3 : Int32) (x4 : Int32) (cs9 : CS), T.2.2.2.2.2.2.2.2.2.2.2 cs x0 x1 x2 x3 x4 = some cs9 → ∀ b, FST b x2 → RBX x0 c K b 1 β cs cs9) (cs : CS) (x0 : Nat) (cs9 : CS) (h : cb_X9_readOne F T cs x0 = some cs9) : RBX x0 c K b 1 β cs cs9 := by
  unfold cb_X9_readOne at h
  have hq : RBX x0 c K b 0 β cs cs := RBX.refl
  replace h := ob h; obtain ⟨w_2, hw_2, h⟩ := h
  replace h := ob h; obtain ⟨v_1, hv_1, h⟩ := h
  by_cases c_3 : v_1 = 19
  · skip
    replace h := (if_pos c_3).symm.trans h
    replace h := ob h; obtain ⟨w_5, hw_5, h⟩ := h
    replace h := ob h; obtain ⟨cs_4, hv_4, h⟩ := h
    replace hq := hq.trans (hM_X9_readCase cs x0 cs_4 hv_4 b)
    have k9 := rb_c_X9_readOne_b191 c K β b x0 F T hM_X9_readExpr hM_X9_readConjunction hM_X9_readNegation hM_X9_readTest hM_X9_readSum hM_X9_readPart hM_X9_readSign hM_X9_readOne hM_X9_readCase hM_X9_readSpan hM_X9_readAggregate hM_X9_readList cs_4 cs9 h
    exact (hq.trans k9).le (by decide)
  replace h := (if_neg c_3).symm.trans h
  by_cases c_6 : v_1 = 26
  · skip
    replace h := (if_pos c_6).symm.trans h
    have k9 := rb_c_X9_readOne_b112 c K β b F T hM_X9_readExpr hM_X9_readConjunction hM_X9_readNegation hM_X9_readTest hM_X9_readSum hM_X9_readPart hM_X9_readSign hM_X9_readOne hM_X9_readCase hM_X9_readSpan hM_X9_readAggregate hM_X9_readList cs x0 cs9 h
    exact (hq.trans k9).le (by decide)
  replace h := (if_neg c_6).symm.trans h
  by_cases c_7 : v_1 = 30
  · skip
    replace h := (if_pos c_7).symm.trans h
    have k9 := rb_c_X9_readOne_b112 c K β b F T hM_X9_readExpr hM_X9_readConjunction hM_X9_readNegation hM_X9_readTest hM_X9_readSum hM_X9_readPart hM_X9_readSign hM_X9_readOne hM_X9_readCase hM_X9_readSpan hM_X9_readAggregate hM_X9_readList cs x0 cs9 h
    exact (hq.trans k9).le (by decide)
  replace h := (if_neg c_7).symm.trans h
  by_cases c_8 : v_1 = 31
  · skip
    replace h := (if_pos c_8).symm.trans h
    have k9 := rb_c_X9_readOne_b112 c K β b F T hM_X9_readExpr hM_X9_readConjunction hM_X9_readNegation hM_X9_readTest hM_X9_readSum hM_X9_readPart hM_X9_readSign hM_X9_readOne hM_X9_readCase hM_X9_readSpan hM_X9_readAggregate hM_X9_readList cs x0 cs9 h
    exact (hq.trans k9).le (by decide)
  replace h := (if_neg c_8).symm.trans h
  by_cases c_9 : v_1 = 32
  · skip
    replace h := (if_pos c_9).symm.trans h
    have k9 := rb_c_X9_readOne_b175 c K β b F T hM_X9_readExpr hM_X9_readConjunction hM_X9_readNegation hM_X9_readTest hM_X9_readSum hM_X9_readPart hM_X9_readSign hM_X9_readOne hM_X9_readCase hM_X9_readSpan hM_X9_readAggregate hM_X9_readList cs x0 cs9 h (fun v hv => by have e := Option.some.inj (hv_1.symm.trans hv); rw [← e, c_9]; unfold AGC; decide)
    exact (hq.trans k9).le (by decide)
  replace h := (if_neg c_9).symm.trans h
  by_cases c_10 : v_1 = 33
  · skip
    replace h := (if_pos c_10).symm.trans h
    have k9 := rb_c_X9_readOne_b175 c K β b F T hM_X9_readExpr hM_X9_readConjunction hM_X9_readNegation hM_X9_readTest hM_X9_readSum hM_X9_readPart hM_X9_readSign hM_X9_readOne hM_X9_readCase hM_X9_readSpan hM_X9_readAggregate hM_X9_readList cs x0 cs9 h (fun v hv => by have e := Option.some.inj (hv_1.symm.trans hv); rw [← e, c_10]; unfold AGC; decide)
    exact (hq.trans k9).le (by decide)
  replace h := (if_neg c_10).symm.trans h
  by_cases c_11 : v_1 = 34
  · skip
    replace h := (if_pos c_11).symm.trans h
    have k9 := rb_c_X9_readOne_b175 c K β b F T hM_X9_readExpr hM_X9_readConjunction hM_X9_readNegation hM_X9_readTest hM_X9_readSum hM_X9_readPart hM_X9_readSign hM_X9_readOne hM_X9_readCase hM_X9_readSpan hM_X9_readAggregate hM_X9_readList cs x0 cs9 h (fun v hv => by have e := Option.some.inj (hv_1.symm.trans hv); rw [← e, c_11]; unfold AGC; decide)
    exact (hq.trans k9).le (by decide)
  replace h := (if_neg c_11).symm.trans h
  by_cases c_12 : v_1 = 35
  · skip
    replace h := (if_pos c_12).symm.trans h
    have k9 := rb_c_X9_readOne_b175 c K β b F T hM_X9_readExpr hM_X9_readConjunction hM_X9_readNegation hM_X9_readTest hM_X9_readSum hM_X9_readPart hM_X9_readSign hM_X9_readOne hM_X9_readCase hM_X9_readSpan hM_X9_readAggregate hM_X9_readList cs x0 cs9 h (fun v hv => by have e := Option.some.inj (hv_1.symm.trans hv); rw [← e, c_12]; unfold AGC; decide)
    exact (hq.trans k9).le (by decide)
  replace h := (if_neg c_12).symm.trans h
  by_cases c_13 : v_1 = 36
  · skip
    replace h := (if_pos c_13).symm.trans h
    replace h := ob h; obtain ⟨w_15, hw_15, h⟩ := h
    replace h := ob h; obtain ⟨cs_14, hv_14, h⟩ := h
    replace hq := hq.trans (hM_X9_readSpan cs x0 cs_14 hv_14 b)
    have k9 := rb_c_X9_readOne_b191 c K β b x0 F T hM_X9_readExpr hM_X9_readConjunction hM_X9_readNegation hM_X9_readTest hM_X9_readSum hM_X9_readPart hM_X9_readSign hM_X9_readOne hM_X9_readCase hM_X9_readSpan hM_X9_readAggregate hM_X9_readList cs_14 cs9 h
    exact (hq.trans k9).le (by decide)
  replace h := (if_neg c_13).symm.trans h
  by_cases c_16 : v_1 = 38
  · skip
    replace h := (if_pos c_16).symm.trans h
    have k9 := rb_c_X9_readOne_b119 c K β b F T hM_X9_readExpr hM_X9_readConjunction hM_X9_readNegation hM_X9_readTest hM_X9_readSum hM_X9_readPart hM_X9_readSign hM_X9_readOne hM_X9_readCase hM_X9_readSpan hM_X9_readAggregate hM_X9_readList cs x0 cs9 h
    exact (hq.trans k9).le (by decide)
  replace h := (if_neg c_16).symm.trans h
  by_cases c_17 : v_1 = 39
  · skip
    replace h := (if_pos c_17).symm.trans h
    have k9 := rb_c_X9_readOne_b119 c K β b F T hM_X9_readExpr hM_X9_readConjunction hM_X9_readNegation hM_X9_readTest hM_X9_readSum hM_X9_readPart hM_X9_readSign hM_X9_readOne hM_X9_readCase hM_X9_readSpan hM_X9_readAggregate hM_X9_readList cs x0 cs9 h
    exact (hq.trans k9).le (by decide)
  replace h := (if_neg c_17).symm.trans h
  by_cases c_18 : v_1 = 40
  · skip
    replace h := (if_pos c_18).symm.trans h
    have k9 := rb_c_X9_readOne_b112 c K β b F T hM_X9_readExpr hM_X9_readConjunction hM_X9_readNegation hM_X9_readTest hM_X9_readSum hM_X9_readPart hM_X9_readSign hM_X9_readOne hM_X9_readCase hM_X9_readSpan hM_X9_readAggregate hM_X9_readList cs x0 cs9 h
    exact (hq.trans k9).le (by decide)
  replace h := (if_neg c_18).symm.trans h
  by_cases c_19 : v_1 = 41
  · skip
    replace h := (if_pos c_19).symm.trans h
    replace h := ob h; obtain ⟨w_21, hw_21, h⟩ := h
    replace h := ob h; obtain ⟨cs_20, hv_20, h⟩ := h
    replace hq := hq.trans (rb_c_X9_deepen c K β b F cs x0 cs_20 hv_20)
    replace h := ob h; obtain ⟨w_23, hw_23, h⟩ := h
    replace h := ob h; obtain ⟨z_22, hv_22, h⟩ := h
    replace hq := hq.trans (rb_c_X9_accept c K β b F cs_20 x0 41 z_22.1 z_22.2 hv_22)
    replace h := ob h; obtain ⟨w_25, hw_25, h⟩ := h
    replace h := ob h; obtain ⟨z_24, hv_24, h⟩ := h
    replace hq := hq.trans (hM_X9_readExpr z_22.1 x0 z_24.1 z_24.2 hv_24 b)
    replace h := ob h; obtain ⟨w_27, hw_27, h⟩ := h
    replace h := ob h; obtain ⟨cs_26, hv_26, h⟩ := h
    replace hq := hq.trans (rb_c_X9_expect c K β b F z_24.1 x0 42 cs_26 hv_26)
    replace h := ob h; obtain ⟨v_28, hv_28, h⟩ := h
    replace h := ob h; obtain ⟨cs_29, hv_29, h⟩ := h
    replace hq := hq.trans (RBX.pI (by decide) hv_29)
    have k9 := rb_c_X9_readOne_b191 c K β b x0 F T hM_X9_readExpr hM_X9_readConjunction hM_X9_readNegation hM_X9_readTest hM_X9_readSum hM_X9_readPart hM_X9_readSign hM_X9_readOne hM_X9_readCase hM_X9_readSpan hM_X9_readAggregate hM_X9_readList cs_29 cs9 h
    exact (hq.trans k9).le (by decide)
  replace h := (if_neg c_19).symm.trans h
  have k9 := rb_c_X9_readOne_b182 c K β b F T hM_X9_readExpr hM_X9_readConjunction hM_X9_readNegation hM_X9_readTest hM_X9_readSum hM_X9_readPart hM_X9_readSign hM_X9_readOne hM_X9_readCase hM_X9_readSpan hM_X9_readAggregate hM_X9_readList cs x0 cs9 h
  exact (hq.trans k9).le (by decide)
theorem rb_cb_X9_readCase (c K : Nat) (β : Bool) (b : Nat) (F : Nat) (T : TC_X9_readExpr) (hM_X9_readExpr : ∀ (cs : CS) (x0 : Nat) (cs9 : CS) (r9 : Int32), T.1 cs x0 = some (cs9, r9) → ∀ b, RBX x0 c K b 1 β cs cs9) (hM_X9_readConjunction : ∀ (cs : CS) (x0 : Nat) (cs9 : CS), T.2.1 cs x0 = some cs9 → ∀ b, RBX x0 c K b 1 β cs cs9) (hM_X9_readNegation : ∀ (cs : CS) (x0 : Nat) (cs9 : CS), T.2.2.1 cs x0 = some cs9 → ∀ b, RBX x0 c K b 1 β cs cs9) (hM_X9_readTest : ∀ (cs : CS) (x0 : Nat) (cs9 : CS), T.2.2.2.1 cs x0 = some cs9 → ∀ b, RBX x0 c K b 1 β cs cs9) (hM_X9_readSum : ∀ (cs : CS) (x0 : Nat) (cs9 : CS), T.2.2.2.2.1 cs x0 = some cs9 → ∀ b, RBX x0 c K b 1 β cs cs9) (hM_X9_readPart : ∀ (cs : CS) (x0 : Nat) (cs9 : CS), T.2.2.2.2.2.1 cs x0 = some cs9 → ∀ b, RBX x0 c K b 1 β cs cs9) (hM_X9_readSign : ∀ (cs : CS) (x0 : Nat) (cs9 : CS), T.2.2.2.2.2.2.1 cs x0 = some cs9 → ∀ b, RBX x0 c K b 1 β cs cs9) (hM_X9_readOne : ∀ (cs : CS) (x0 : Nat) (cs9 : CS), T.2.2.2.2.2.2.2.1 cs x0 = some cs9 → ∀ b, RBX x0 c K b 1 β cs cs9) (hM_X9_readCase : ∀ (cs : CS) (x0 : Nat) (cs9 : CS), T.2.2.2.2.2.2.2.2.1 cs x0 = some cs9 → ∀ b, RBX x0 c K b 1 β cs cs9) (hM_X9_readSpan : ∀ (cs : CS) (x0 : Nat) (cs9 : CS), T.2.2.2.2.2.2.2.2.2.1 cs x0 = some cs9 → ∀ b, RBX x0 c K b 1 β cs cs9) (hM_X9_readAggregate : ∀ (cs : CS) (x0 : Nat) (cs9 : CS), T.2.2.2.2.2.2.2.2.2.2.1 cs x0 = some cs9 → (∀ v, c_X9_kind F cs x0 = some v → AGC v) → ∀ b, RBX x0 c K b 1 β cs cs9) (hM_X9_readList : ∀ (cs : CS) (x0 : Nat) (x1 : Int32) (x2 : Int32) (x3 : Int32) (x4 : Int32) (cs9 : CS), T.2.2.2.2.2.2.2.2.2.2.2 cs x0 x1 x2 x3 x4 = some cs9 → ∀ b, FST b x2 → RBX x0 c K b 1 β cs cs9) (cs : CS) (x0 : Nat) (cs9 : CS) (h : cb_X9_readCase F T cs x0 = some cs9) : RBX x0 c K b 1 β cs cs9 := by
  refine RBX.ent (fun b hb hR => ?_)
  unfold cb_X9_readCase at h
  have hq : RBX x0 c K b 0 β cs cs := RBX.refl
  replace h := ob h; obtain ⟨v_1, hv_1, h⟩ := h
  replace h := ob h; obtain ⟨i_2, hi_2, h⟩ := h
  subst hi_2
  replace h := ob h; obtain ⟨v_3, hv_3, h⟩ := h
  have hf : FST b v_3 := FST.sz hR hb hv_1 hv_3
  replace h := ob h; obtain ⟨w_5, hw_5, h⟩ := h
  replace h := ob h; obtain ⟨v_4, hv_4, h⟩ := h
  replace h := ob h; obtain ⟨w_7, hw_7, h⟩ := h
  replace h := ob h; obtain ⟨cs_6, hv_6, h⟩ := h
  replace hq := hq.trans (rb_c_X9_deepen c K β b F cs x0 cs_6 hv_6)
  replace h := ob h; obtain ⟨w_9, hw_9, h⟩ := h
  replace h := ob h; obtain ⟨z_8, hv_8, h⟩ := h
  replace hq := hq.trans (rb_c_X9_accept c K β b F cs_6 x0 19 z_8.1 z_8.2 hv_8)
  replace h := ob h; obtain ⟨w_11, hw_11, h⟩ := h
  replace h := ob h; obtain ⟨cs_10, hv_10, h⟩ := h
  replace hq := hq.trans (rb_c_X9_expect c K β b F z_8.1 x0 20 cs_10 hv_10)
  replace h := ob h; obtain ⟨w_13, hw_13, h⟩ := h
  replace h := ob h; obtain ⟨z_12, hv_12, h⟩ := h
  replace hq := hq.trans (hM_X9_readExpr cs_10 x0 z_12.1 z_12.2 hv_12 b)
  replace h := ob h; obtain ⟨w_15, hw_15, h⟩ := h
  replace h := ob h; obtain ⟨cs_14, hv_14, h⟩ := h
  replace hq := hq.trans (rb_c_X9_expect c K β b F z_12.1 x0 21 cs_14 hv_14)
  replace h := ob h; obtain ⟨w_17, hw_17, h⟩ := h
  replace h := ob h; obtain ⟨z_16, hv_16, h⟩ := h
  replace hq := hq.trans (hM_X9_readExpr cs_14 x0 z_16.1 z_16.2 hv_16 b)
  replace h := ob h; obtain ⟨w_19, hw_19, h⟩ := h
  replace h := ob h; obtain ⟨cs_18, hv_18, h⟩ := h
  replace hq := hq.trans (rb_c_X9_expect c K β b F z_16.1 x0 22 cs_18 hv_18)
  replace h := ob h; obtain ⟨w_21, hw_21, h⟩ := h
  replace h := ob h; obtain ⟨z_20, hv_20, h⟩ := h
  replace hq := hq.trans (hM_X9_readExpr cs_18 x0 z_20.1 z_20.2 hv_20 b)
  replace h := ob h; obtain ⟨w_23, hw_23, h⟩ := h
  replace h := ob h; obtain ⟨cs_22, hv_22, h⟩ := h
  replace hq := hq.trans (rb_c_X9_expect c K β b F z_20.1 x0 23 cs_22 hv_22)
  replace h := ob h; obtain ⟨v_24, hv_24, h⟩ := h
  replace h := ob h; obtain ⟨cs_25, hv_25, h⟩ := h
  replace hq := hq.trans (RBX.pI (by decide) hv_25)
  replace h := ob h; obtain ⟨w_27, hw_27, h⟩ := h
  replace h := ob h; obtain ⟨z_26, hv_26, h⟩ := h
  replace hq := hq.trans ((cpl_rb (fun _ _ => hf) hv_26).1)
  have h9 := Option.some.inj h
  exact (hq.to h9).le (by decide)
theorem rb_cb_X9_readSpan (c K : Nat) (β : Bool) (b : Nat) (F : Nat) (T : TC_X9_readExpr) (hM_X9_readExpr : ∀ (cs : CS) (x0 : Nat) (cs9 : CS) (r9 : Int32), T.1 cs x0 = some (cs9, r9) → ∀ b, RBX x0 c K b 1 β cs cs9) (hM_X9_readConjunction : ∀ (cs : CS) (x0 : Nat) (cs9 : CS), T.2.1 cs x0 = some cs9 → ∀ b, RBX x0 c K b 1 β cs cs9) (hM_X9_readNegation : ∀ (cs : CS) (x0 : Nat) (cs9 : CS), T.2.2.1 cs x0 = some cs9 → ∀ b, RBX x0 c K b 1 β cs cs9) (hM_X9_readTest : ∀ (cs : CS) (x0 : Nat) (cs9 : CS), T.2.2.2.1 cs x0 = some cs9 → ∀ b, RBX x0 c K b 1 β cs cs9) (hM_X9_readSum : ∀ (cs : CS) (x0 : Nat) (cs9 : CS), T.2.2.2.2.1 cs x0 = some cs9 → ∀ b, RBX x0 c K b 1 β cs cs9) (hM_X9_readPart : ∀ (cs : CS) (x0 : Nat) (cs9 : CS), T.2.2.2.2.2.1 cs x0 = some cs9 → ∀ b, RBX x0 c K b 1 β cs cs9) (hM_X9_readSign : ∀ (cs : CS) (x0 : Nat) (cs9 : CS), T.2.2.2.2.2.2.1 cs x0 = some cs9 → ∀ b, RBX x0 c K b 1 β cs cs9) (hM_X9_readOne : ∀ (cs : CS) (x0 : Nat) (cs9 : CS), T.2.2.2.2.2.2.2.1 cs x0 = some cs9 → ∀ b, RBX x0 c K b 1 β cs cs9) (hM_X9_readCase : ∀ (cs : CS) (x0 : Nat) (cs9 : CS), T.2.2.2.2.2.2.2.2.1 cs x0 = some cs9 → ∀ b, RBX x0 c K b 1 β cs cs9) (hM_X9_readSpan : ∀ (cs : CS) (x0 : Nat) (cs9 : CS), T.2.2.2.2.2.2.2.2.2.1 cs x0 = some cs9 → ∀ b, RBX x0 c K b 1 β cs cs9) (hM_X9_readAggregate : ∀ (cs : CS) (x0 : Nat) (cs9 : CS), T.2.2.2.2.2.2.2.2.2.2.1 cs x0 = some cs9 → (∀ v, c_X9_kind F cs x0 = some v → AGC v) → ∀ b, RBX x0 c K b 1 β cs cs9) (hM_X9_readList : ∀ (cs : CS) (x0 : Nat) (x1 : Int32) (x2 : Int32) (x3 : Int32) (x4 : Int32) (cs9 : CS), T.2.2.2.2.2.2.2.2.2.2.2 cs x0 x1 x2 x3 x4 = some cs9 → ∀ b, FST b x2 → RBX x0 c K b 1 β cs cs9) (cs : CS) (x0 : Nat) (cs9 : CS) (h : cb_X9_readSpan F T cs x0 = some cs9) : RBX x0 c K b 1 β cs cs9 := by
  refine RBX.ent (fun b hb hR => ?_)
  unfold cb_X9_readSpan at h
  have hq : RBX x0 c K b 0 β cs cs := RBX.refl
  replace h := ob h; obtain ⟨v_1, hv_1, h⟩ := h
  replace h := ob h; obtain ⟨i_2, hi_2, h⟩ := h
  subst hi_2
  replace h := ob h; obtain ⟨v_3, hv_3, h⟩ := h
  have hf : FST b v_3 := FST.sz hR hb hv_1 hv_3
  replace h := ob h; obtain ⟨w_5, hw_5, h⟩ := h
  replace h := ob h; obtain ⟨v_4, hv_4, h⟩ := h
  replace h := ob h; obtain ⟨w_7, hw_7, h⟩ := h
  replace h := ob h; obtain ⟨cs_6, hv_6, h⟩ := h
  replace hq := hq.trans (rb_c_X9_deepen c K β b F cs x0 cs_6 hv_6)
  replace h := ob h; obtain ⟨w_9, hw_9, h⟩ := h
  replace h := ob h; obtain ⟨z_8, hv_8, h⟩ := h
  replace hq := hq.trans (rb_c_X9_accept c K β b F cs_6 x0 36 z_8.1 z_8.2 hv_8)
  replace h := ob h; obtain ⟨w_11, hw_11, h⟩ := h
  replace h := ob h; obtain ⟨cs_10, hv_10, h⟩ := h
  replace hq := hq.trans (rb_c_X9_expect c K β b F z_8.1 x0 41 cs_10 hv_10)
  replace h := ob h; obtain ⟨w_13, hw_13, h⟩ := h
  replace h := ob h; obtain ⟨z_12, hv_12, h⟩ := h
  replace hq := hq.trans (hM_X9_readExpr cs_10 x0 z_12.1 z_12.2 hv_12 b)
  replace h := ob h; obtain ⟨w_15, hw_15, h⟩ := h
  replace h := ob h; obtain ⟨cs_14, hv_14, h⟩ := h
  replace hq := hq.trans (rb_c_X9_expect c K β b F z_12.1 x0 43 cs_14 hv_14)
  replace h := ob h; obtain ⟨w_17, hw_17, h⟩ := h
  replace h := ob h; obtain ⟨z_16, hv_16, h⟩ := h
  replace hq := hq.trans (hM_X9_readExpr cs_14 x0 z_16.1 z_16.2 hv_16 b)
  replace h := ob h; obtain ⟨w_19, hw_19, h⟩ := h
  replace h := ob h; obtain ⟨cs_18, hv_18, h⟩ := h
  replace hq := hq.trans (rb_c_X9_expect c K β b F z_16.1 x0 42 cs_18 hv_18)
  replace h := ob h; obtain ⟨v_20, hv_20, h⟩ := h
  replace h := ob h; obtain ⟨cs_21, hv_21, h⟩ := h
  replace hq := hq.trans (RBX.pI (by decide) hv_21)
  replace h := ob h; obtain ⟨w_23, hw_23, h⟩ := h
  replace h := ob h; obtain ⟨z_22, hv_22, h⟩ := h
  replace hq := hq.trans ((cpl_rb (fun _ _ => hf) hv_22).1)
  have h9 := Option.some.inj h
  exact (hq.to h9).le (by decide)
theorem rb_c_X9_readAggregate_b36 (c K : Nat) (β : Bool) (b : Nat) (F : Nat) (T : TC_X9_readExpr) (hM_X9_readExpr : ∀ (cs : CS) (x0 : Nat) (cs9 : CS) (r9 : Int32), T.1 cs x0 = some (cs9, r9) → ∀ b, RBX x0 c K b 1 β cs cs9) (hM_X9_readConjunction : ∀ (cs : CS) (x0 : Nat) (cs9 : CS), T.2.1 cs x0 = some cs9 → ∀ b, RBX x0 c K b 1 β cs cs9) (hM_X9_readNegation : ∀ (cs : CS) (x0 : Nat) (cs9 : CS), T.2.2.1 cs x0 = some cs9 → ∀ b, RBX x0 c K b 1 β cs cs9) (hM_X9_readTest : ∀ (cs : CS) (x0 : Nat) (cs9 : CS), T.2.2.2.1 cs x0 = some cs9 → ∀ b, RBX x0 c K b 1 β cs cs9) (hM_X9_readSum : ∀ (cs : CS) (x0 : Nat) (cs9 : CS), T.2.2.2.2.1 cs x0 = some cs9 → ∀ b, RBX x0 c K b 1 β cs cs9) (hM_X9_readPart : ∀ (cs : CS) (x0 : Nat) (cs9 : CS), T.2.2.2.2.2.1 cs x0 = some cs9 → ∀ b, RBX x0 c K b 1 β cs cs9) (hM_X9_readSign : ∀ (cs : CS) (x0 : Nat) (cs9 : CS), T.2.2.2.2.2.2.1 cs x0 = some cs9 → ∀ b, RBX x0 c K b 1 β cs cs9) (hM_X9_readOne : ∀ (cs : CS) (x0 : Nat) (cs9 : CS), T.2.2.2.2.2.2.2.1 cs x0 = some cs9 → ∀ b, RBX x0 c K b 1 β cs cs9) (hM_X9_readCase : ∀ (cs : CS) (x0 : Nat) (cs9 : CS), T.2.2.2.2.2.2.2.2.1 cs x0 = some cs9 → ∀ b, RBX x0 c K b 1 β cs cs9) (hM_X9_readSpan : ∀ (cs : CS) (x0 : Nat) (cs9 : CS), T.2.2.2.2.2.2.2.2.2.1 cs x0 = some cs9 → ∀ b, RBX x0 c K b 1 β cs cs9) (hM_X9_readAggregate : ∀ (cs : CS) (x0 : Nat) (cs9 : CS), T.2.2.2.2.2.2.2.2.2.2.1 cs x0 = some cs9 → (∀ v, c_X9_kind F cs x0 = some v → AGC v) → ∀ b, RBX x0 c K b 1 β cs cs9) (hM_X9_readList : ∀ (cs : CS) (x0 : Nat) (x1 : Int32) (x2 : Int32) (x3 : Int32) (x4 : Int32) (cs9 : CS), T.2.2.2.2.2.2.2.2.2.2.2 cs x0 x1 x2 x3 x4 = some cs9 → ∀ b, FST b x2 → RBX x0 c K b 1 β cs cs9) (cs1 : CS) (u0 : Nat) (u3 : Int32) (cs9 : CS) (h : c_X9_readAggregate_b36 F T cs1 u0 u3 = some cs9) : RBX u0 c K b 1 β cs1 cs9 := by
  unfold c_X9_readAggregate_b36 at h
  have hq : RBX u0 c K b 0 β cs1 cs1 := RBX.refl
  replace h := ob h; obtain ⟨w_2, hw_2, h⟩ := h
  replace h := ob h; obtain ⟨cs_1, hv_1, h⟩ := h
  replace hq := hq.trans (ref_rb (by decide) hv_1)
  have h9 := Option.some.inj h
  exact (hq.to h9).le (by decide)
theorem rb_c_X9_readAggregate_b146 (c K : Nat) (β : Bool) (b : Nat) (F : Nat) (T : TC_X9_readExpr) (hM_X9_readExpr : ∀ (cs : CS) (x0 : Nat) (cs9 : CS) (r9 : Int32), T.1 cs x0 = some (cs9, r9) → ∀ b, RBX x0 c K b 1 β cs cs9) (hM_X9_readConjunction : ∀ (cs : CS) (x0 : Nat) (cs9 : CS), T.2.1 cs x0 = some cs9 → ∀ b, RBX x0 c K b 1 β cs cs9) (hM_X9_readNegation : ∀ (cs : CS) (x0 : Nat) (cs9 : CS), T.2.2.1 cs x0 = some cs9 → ∀ b, RBX x0 c K b 1 β cs cs9) (hM_X9_readTest : ∀ (cs : CS) (x0 : Nat) (cs9 : CS), T.2.2.2.1 cs x0 = some cs9 → ∀ b, RBX x0 c K b 1 β cs cs9) (hM_X9_readSum : ∀ (cs : CS) (x0 : Nat) (cs9 : CS), T.2.2.2.2.1 cs x0 = some cs9 → ∀ b, RBX x0 c K b 1 β cs cs9) (hM_X9_readPart : ∀ (cs : CS) (x0 : Nat) (cs9 : CS), T.2.2.2.2.2.1 cs x0 = some cs9 → ∀ b, RBX x0 c K b 1 β cs cs9) (hM_X9_readSign : ∀ (cs : CS) (x0 : Nat) (cs9 : CS), T.2.2.2.2.2.2.1 cs x0 = some cs9 → ∀ b, RBX x0 c K b 1 β cs cs9) (hM_X9_readOne : ∀ (cs : CS) (x0 : Nat) (cs9 : CS), T.2.2.2.2.2.2.2.1 cs x0 = some cs9 → ∀ b, RBX x0 c K b 1 β cs cs9) (hM_X9_readCase : ∀ (cs : CS) (x0 : Nat) (cs9 : CS), T.2.2.2.2.2.2.2.2.1 cs x0 = some cs9 → ∀ b, RBX x0 c K b 1 β cs cs9) (hM_X9_readSpan : ∀ (cs : CS) (x0 : Nat) (cs9 : CS), T.2.2.2.2.2.2.2.2.2.1 cs x0 = some cs9 → ∀ b, RBX x0 c K b 1 β cs cs9) (hM_X9_readAggregate : ∀ (cs : CS) (x0 : Nat) (cs9 : CS), T.2.2.2.2.2.2.2.2.2.2.1 cs x0 = some cs9 → (∀ v, c_X9_kind F cs x0 = some v → AGC v) → ∀ b, RBX x0 c K b 1 β cs cs9) (hM_X9_readList : ∀ (cs : CS) (x0 : Nat) (x1 : Int32) (x2 : Int32) (x3 : Int32) (x4 : Int32) (cs9 : CS), T.2.2.2.2.2.2.2.2.2.2.2 cs x0 x1 x2 x3 x4 = some cs9 → ∀ b, FST b x2 → RBX x0 c K b 1 β cs cs9) (cs1 : CS) (u0 : Nat) (u2 : Int32) (u3 : Int32) (u4 : Nat) (u5 : Int32) (y0 : Int32) (cs9 : CS) (h : c_X9_readAggregate_b146 F T cs1 u0 u2 u3 u4 u5 y0 u0 = some cs9) (hf : FST b u2) (hk : AGC y0) : RBX u0 c K b 1 β cs1 cs9 := by
  unfold c_X9_readAggregate_b146 at h
  have hq : RBX u0 c K b 0 β cs1 cs1 := RBX.refl
  by_cases c_1 : u5 = 0
  · skip
    replace h := (if_pos c_1).symm.trans h
    have k9 := note_rb (β := β) (c := c) (K := K) hk hf h
    exact (hq.trans k9).le (by decide)
  · skip
    replace h := (if_neg c_1).symm.trans h
    have k9 := note_rb (β := β) (c := c) (K := K) hk hf h
    exact (hq.trans k9).le (by decide)
theorem rb_c_X9_readAggregate_b113 (c K : Nat) (β : Bool) (b : Nat) (F : Nat) (T : TC_X9_readExpr) (hM_X9_readExpr : ∀ (cs : CS) (x0 : Nat) (cs9 : CS) (r9 : Int32), T.1 cs x0 = some (cs9, r9) → ∀ b, RBX x0 c K b 1 β cs cs9) (hM_X9_readConjunction : ∀ (cs : CS) (x0 : Nat) (cs9 : CS), T.2.1 cs x0 = some cs9 → ∀ b, RBX x0 c K b 1 β cs cs9) (hM_X9_readNegation : ∀ (cs : CS) (x0 : Nat) (cs9 : CS), T.2.2.1 cs x0 = some cs9 → ∀ b, RBX x0 c K b 1 β cs cs9) (hM_X9_readTest : ∀ (cs : CS) (x0 : Nat) (cs9 : CS), T.2.2.2.1 cs x0 = some cs9 → ∀ b, RBX x0 c K b 1 β cs cs9) (hM_X9_readSum : ∀ (cs : CS) (x0 : Nat) (cs9 : CS), T.2.2.2.2.1 cs x0 = some cs9 → ∀ b, RBX x0 c K b 1 β cs cs9) (hM_X9_readPart : ∀ (cs : CS) (x0 : Nat) (cs9 : CS), T.2.2.2.2.2.1 cs x0 = some cs9 → ∀ b, RBX x0 c K b 1 β cs cs9) (hM_X9_readSign : ∀ (cs : CS) (x0 : Nat) (cs9 : CS), T.2.2.2.2.2.2.1 cs x0 = some cs9 → ∀ b, RBX x0 c K b 1 β cs cs9) (hM_X9_readOne : ∀ (cs : CS) (x0 : Nat) (cs9 : CS), T.2.2.2.2.2.2.2.1 cs x0 = some cs9 → ∀ b, RBX x0 c K b 1 β cs cs9) (hM_X9_readCase : ∀ (cs : CS) (x0 : Nat) (cs9 : CS), T.2.2.2.2.2.2.2.2.1 cs x0 = some cs9 → ∀ b, RBX x0 c K b 1 β cs cs9) (hM_X9_readSpan : ∀ (cs : CS) (x0 : Nat) (cs9 : CS), T.2.2.2.2.2.2.2.2.2.1 cs x0 = some cs9 → ∀ b, RBX x0 c K b 1 β cs cs9) (hM_X9_readAggregate : ∀ (cs : CS) (x0 : Nat) (cs9 : CS), T.2.2.2.2.2.2.2.2.2.2.1 cs x0 = some cs9 → (∀ v, c_X9_kind F cs x0 = some v → AGC v) → ∀ b, RBX x0 c K b 1 β cs cs9) (hM_X9_readList : ∀ (cs : CS) (x0 : Nat) (x1 : Int32) (x2 : Int32) (x3 : Int32) (x4 : Int32) (cs9 : CS), T.2.2.2.2.2.2.2.2.2.2.2 cs x0 x1 x2 x3 x4 = some cs9 → ∀ b, FST b x2 → RBX x0 c K b 1 β cs cs9) (cs1 : CS) (u0 : Nat) (u1 : Int32) (u2 : Int32) (u3 : Int32) (u4 : Nat) (u5 : Int32) (cs9 : CS) (h : c_X9_readAggregate_b113 F T cs1 u0 u1 u2 u3 u4 u5 = some cs9) (hf : FST b u2) (hk : AGC u1) : RBX u0 c K b 1 β cs1 cs9 := by
  unfold c_X9_readAggregate_b113 at h
  have hq : RBX u0 c K b 0 β cs1 cs1 := RBX.refl
  replace h := ob h; obtain ⟨cs_1, hv_1, h⟩ := h
  replace hq := hq.trans (RBX.pI (by decide) hv_1)
  replace h := ob h; obtain ⟨w_3, hw_3, h⟩ := h
  replace h := ob h; obtain ⟨cs_2, hv_2, h⟩ := h
  replace hq := hq.trans (rb_c_X9_expect c K β b F cs_1 u0 42 cs_2 hv_2)
  replace h := ob h; obtain ⟨v_4, hv_4, h⟩ := h
  replace h := ob h; obtain ⟨cs_5, hv_5, h⟩ := h
  replace hq := hq.trans (RBX.pI (by decide) hv_5)
  by_cases c_6 : u5 = 0
  · skip
    replace h := (if_pos c_6).symm.trans h
    have k9 := rb_c_X9_readAggregate_b146 c K β b F T hM_X9_readExpr hM_X9_readConjunction hM_X9_readNegation hM_X9_readTest hM_X9_readSum hM_X9_readPart hM_X9_readSign hM_X9_readOne hM_X9_readCase hM_X9_readSpan hM_X9_readAggregate hM_X9_readList cs_5 u0 u2 u3 u4 u5 u1 cs9 h hf hk
    exact (hq.trans k9).le (by decide)
  · skip
    replace h := (if_neg c_6).symm.trans h
    have k9 := rb_c_X9_readAggregate_b146 c K β b F T hM_X9_readExpr hM_X9_readConjunction hM_X9_readNegation hM_X9_readTest hM_X9_readSum hM_X9_readPart hM_X9_readSign hM_X9_readOne hM_X9_readCase hM_X9_readSpan hM_X9_readAggregate hM_X9_readList cs_5 u0 u2 u3 u4 u5 61 cs9 h hf (Or.inr (Or.inr (Or.inr (Or.inr rfl))))
    exact (hq.trans k9).le (by decide)
theorem rb_c_X9_readAggregate_b101 (c K : Nat) (β : Bool) (b : Nat) (F : Nat) (T : TC_X9_readExpr) (hM_X9_readExpr : ∀ (cs : CS) (x0 : Nat) (cs9 : CS) (r9 : Int32), T.1 cs x0 = some (cs9, r9) → ∀ b, RBX x0 c K b 1 β cs cs9) (hM_X9_readConjunction : ∀ (cs : CS) (x0 : Nat) (cs9 : CS), T.2.1 cs x0 = some cs9 → ∀ b, RBX x0 c K b 1 β cs cs9) (hM_X9_readNegation : ∀ (cs : CS) (x0 : Nat) (cs9 : CS), T.2.2.1 cs x0 = some cs9 → ∀ b, RBX x0 c K b 1 β cs cs9) (hM_X9_readTest : ∀ (cs : CS) (x0 : Nat) (cs9 : CS), T.2.2.2.1 cs x0 = some cs9 → ∀ b, RBX x0 c K b 1 β cs cs9) (hM_X9_readSum : ∀ (cs : CS) (x0 : Nat) (cs9 : CS), T.2.2.2.2.1 cs x0 = some cs9 → ∀ b, RBX x0 c K b 1 β cs cs9) (hM_X9_readPart : ∀ (cs : CS) (x0 : Nat) (cs9 : CS), T.2.2.2.2.2.1 cs x0 = some cs9 → ∀ b, RBX x0 c K b 1 β cs cs9) (hM_X9_readSign : ∀ (cs : CS) (x0 : Nat) (cs9 : CS), T.2.2.2.2.2.2.1 cs x0 = some cs9 → ∀ b, RBX x0 c K b 1 β cs cs9) (hM_X9_readOne : ∀ (cs : CS) (x0 : Nat) (cs9 : CS), T.2.2.2.2.2.2.2.1 cs x0 = some cs9 → ∀ b, RBX x0 c K b 1 β cs cs9) (hM_X9_readCase : ∀ (cs : CS) (x0 : Nat) (cs9 : CS), T.2.2.2.2.2.2.2.2.1 cs x0 = some cs9 → ∀ b, RBX x0 c K b 1 β cs cs9) (hM_X9_readSpan : ∀ (cs : CS) (x0 : Nat) (cs9 : CS), T.2.2.2.2.2.2.2.2.2.1 cs x0 = some cs9 → ∀ b, RBX x0 c K b 1 β cs cs9) (hM_X9_readAggregate : ∀ (cs : CS) (x0 : Nat) (cs9 : CS), T.2.2.2.2.2.2.2.2.2.2.1 cs x0 = some cs9 → (∀ v, c_X9_kind F cs x0 = some v → AGC v) → ∀ b, RBX x0 c K b 1 β cs cs9) (hM_X9_readList : ∀ (cs : CS) (x0 : Nat) (x1 : Int32) (x2 : Int32) (x3 : Int32) (x4 : Int32) (cs9 : CS), T.2.2.2.2.2.2.2.2.2.2.2 cs x0 x1 x2 x3 x4 = some cs9 → ∀ b, FST b x2 → RBX x0 c K b 1 β cs cs9) (cs1 : CS) (u0 : Nat) (u1 : Int32) (u2 : Int32) (u3 : Int32) (u4 : Nat) (y0 : Int32) (cs9 : CS) (h : c_X9_readAggregate_b101 F T cs1 u0 u1 u2 u3 u4 y0 = some cs9) (hf : FST b u2) (hk : AGC u1) : RBX u0 c K b 1 β cs1 cs9 := by
  unfold c_X9_readAggregate_b101 at h
  have hq : RBX u0 c K b 0 β cs1 cs1 := RBX.refl
  by_cases c_1 : y0 = 0
  · skip
    replace h := (if_pos c_1).symm.trans h
    replace h := ob h; obtain ⟨w_3, hw_3, h⟩ := h
    replace h := ob h; obtain ⟨z_2, hv_2, h⟩ := h
    replace hq := hq.trans (hM_X9_readExpr cs1 u0 z_2.1 z_2.2 hv_2 b)
    have k9 := rb_c_X9_readAggregate_b113 c K β b F T hM_X9_readExpr hM_X9_readConjunction hM_X9_readNegation hM_X9_readTest hM_X9_readSum hM_X9_readPart hM_X9_readSign hM_X9_readOne hM_X9_readCase hM_X9_readSpan hM_X9_readAggregate hM_X9_readList z_2.1 u0 u1 u2 u3 u4 y0 cs9 h hf hk
    exact (hq.trans k9).le (by decide)
  · skip
    replace h := (if_neg c_1).symm.trans h
    have k9 := rb_c_X9_readAggregate_b113 c K β b F T hM_X9_readExpr hM_X9_readConjunction hM_X9_readNegation hM_X9_readTest hM_X9_readSum hM_X9_readPart hM_X9_readSign hM_X9_readOne hM_X9_readCase hM_X9_readSpan hM_X9_readAggregate hM_X9_readList cs1 u0 u1 u2 u3 u4 y0 cs9 h hf hk
    exact (hq.trans k9).le (by decide)
theorem rb_c_X9_readAggregate_b100 (c K : Nat) (β : Bool) (b : Nat) (F : Nat) (T : TC_X9_readExpr) (hM_X9_readExpr : ∀ (cs : CS) (x0 : Nat) (cs9 : CS) (r9 : Int32), T.1 cs x0 = some (cs9, r9) → ∀ b, RBX x0 c K b 1 β cs cs9) (hM_X9_readConjunction : ∀ (cs : CS) (x0 : Nat) (cs9 : CS), T.2.1 cs x0 = some cs9 → ∀ b, RBX x0 c K b 1 β cs cs9) (hM_X9_readNegation : ∀ (cs : CS) (x0 : Nat) (cs9 : CS), T.2.2.1 cs x0 = some cs9 → ∀ b, RBX x0 c K b 1 β cs cs9) (hM_X9_readTest : ∀ (cs : CS) (x0 : Nat) (cs9 : CS), T.2.2.2.1 cs x0 = some cs9 → ∀ b, RBX x0 c K b 1 β cs cs9) (hM_X9_readSum : ∀ (cs : CS) (x0 : Nat) (cs9 : CS), T.2.2.2.2.1 cs x0 = some cs9 → ∀ b, RBX x0 c K b 1 β cs cs9) (hM_X9_readPart : ∀ (cs : CS) (x0 : Nat) (cs9 : CS), T.2.2.2.2.2.1 cs x0 = some cs9 → ∀ b, RBX x0 c K b 1 β cs cs9) (hM_X9_readSign : ∀ (cs : CS) (x0 : Nat) (cs9 : CS), T.2.2.2.2.2.2.1 cs x0 = some cs9 → ∀ b, RBX x0 c K b 1 β cs cs9) (hM_X9_readOne : ∀ (cs : CS) (x0 : Nat) (cs9 : CS), T.2.2.2.2.2.2.2.1 cs x0 = some cs9 → ∀ b, RBX x0 c K b 1 β cs cs9) (hM_X9_readCase : ∀ (cs : CS) (x0 : Nat) (cs9 : CS), T.2.2.2.2.2.2.2.2.1 cs x0 = some cs9 → ∀ b, RBX x0 c K b 1 β cs cs9) (hM_X9_readSpan : ∀ (cs : CS) (x0 : Nat) (cs9 : CS), T.2.2.2.2.2.2.2.2.2.1 cs x0 = some cs9 → ∀ b, RBX x0 c K b 1 β cs cs9) (hM_X9_readAggregate : ∀ (cs : CS) (x0 : Nat) (cs9 : CS), T.2.2.2.2.2.2.2.2.2.2.1 cs x0 = some cs9 → (∀ v, c_X9_kind F cs x0 = some v → AGC v) → ∀ b, RBX x0 c K b 1 β cs cs9) (hM_X9_readList : ∀ (cs : CS) (x0 : Nat) (x1 : Int32) (x2 : Int32) (x3 : Int32) (x4 : Int32) (cs9 : CS), T.2.2.2.2.2.2.2.2.2.2.2 cs x0 x1 x2 x3 x4 = some cs9 → ∀ b, FST b x2 → RBX x0 c K b 1 β cs cs9) (cs1 : CS) (u0 : Nat) (u1 : Int32) (u2 : Int32) (u3 : Int32) (u4 : Nat) (cs9 : CS) (h : c_X9_readAggregate_b100 F T cs1 u0 u1 u2 u3 u4 = some cs9) (hf : FST b u2) (hk : AGC u1) : RBX u0 c K b 1 β cs1 cs9 := by
  unfold c_X9_readAggregate_b100 at h
  have hq : RBX u0 c K b 0 β cs1 cs1 := RBX.refl
  have k9 := rb_c_X9_readAggregate_b101 c K β b F T hM_X9_readExpr hM_X9_readConjunction hM_X9_readNegation hM_X9_readTest hM_X9_readSum hM_X9_readPart hM_X9_readSign hM_X9_readOne hM_X9_readCase hM_X9_readSpan hM_X9_readAggregate hM_X9_readList cs1 u0 u1 u2 u3 u4 0 cs9 h hf hk
  exact (hq.trans k9).le (by decide)
theorem rb_c_X9_readAggregate_b60 (c K : Nat) (β : Bool) (b : Nat) (F : Nat) (T : TC_X9_readExpr) (hM_X9_readExpr : ∀ (cs : CS) (x0 : Nat) (cs9 : CS) (r9 : Int32), T.1 cs x0 = some (cs9, r9) → ∀ b, RBX x0 c K b 1 β cs cs9) (hM_X9_readConjunction : ∀ (cs : CS) (x0 : Nat) (cs9 : CS), T.2.1 cs x0 = some cs9 → ∀ b, RBX x0 c K b 1 β cs cs9) (hM_X9_readNegation : ∀ (cs : CS) (x0 : Nat) (cs9 : CS), T.2.2.1 cs x0 = some cs9 → ∀ b, RBX x0 c K b 1 β cs cs9) (hM_X9_readTest : ∀ (cs : CS) (x0 : Nat) (cs9 : CS), T.2.2.2.1 cs x0 = some cs9 → ∀ b, RBX x0 c K b 1 β cs cs9) (hM_X9_readSum : ∀ (cs : CS) (x0 : Nat) (cs9 : CS), T.2.2.2.2.1 cs x0 = some cs9 → ∀ b, RBX x0 c K b 1 β cs cs9) (hM_X9_readPart : ∀ (cs : CS) (x0 : Nat) (cs9 : CS), T.2.2.2.2.2.1 cs x0 = some cs9 → ∀ b, RBX x0 c K b 1 β cs cs9) (hM_X9_readSign : ∀ (cs : CS) (x0 : Nat) (cs9 : CS), T.2.2.2.2.2.2.1 cs x0 = some cs9 → ∀ b, RBX x0 c K b 1 β cs cs9) (hM_X9_readOne : ∀ (cs : CS) (x0 : Nat) (cs9 : CS), T.2.2.2.2.2.2.2.1 cs x0 = some cs9 → ∀ b, RBX x0 c K b 1 β cs cs9) (hM_X9_readCase : ∀ (cs : CS) (x0 : Nat) (cs9 : CS), T.2.2.2.2.2.2.2.2.1 cs x0 = some cs9 → ∀ b, RBX x0 c K b 1 β cs cs9) (hM_X9_readSpan : ∀ (cs : CS) (x0 : Nat) (cs9 : CS), T.2.2.2.2.2.2.2.2.2.1 cs x0 = some cs9 → ∀ b, RBX x0 c K b 1 β cs cs9) (hM_X9_readAggregate : ∀ (cs : CS) (x0 : Nat) (cs9 : CS), T.2.2.2.2.2.2.2.2.2.2.1 cs x0 = some cs9 → (∀ v, c_X9_kind F cs x0 = some v → AGC v) → ∀ b, RBX x0 c K b 1 β cs cs9) (hM_X9_readList : ∀ (cs : CS) (x0 : Nat) (x1 : Int32) (x2 : Int32) (x3 : Int32) (x4 : Int32) (cs9 : CS), T.2.2.2.2.2.2.2.2.2.2.2 cs x0 x1 x2 x3 x4 = some cs9 → ∀ b, FST b x2 → RBX x0 c K b 1 β cs cs9) (cs1 : CS) (u0 : Nat) (u1 : Int32) (u2 : Int32) (u3 : Int32) (u4 : Nat) (cs9 : CS) (h : c_X9_readAggregate_b60 F T cs1 u0 u1 u2 u3 u4 = some cs9) (hf : FST b u2) (hk : AGC u1) : RBX u0 c K b 1 β cs1 cs9 := by
  unfold c_X9_readAggregate_b60 at h
  have hq : RBX u0 c K b 0 β cs1 cs1 := RBX.refl
  replace h := ob h; obtain ⟨w_2, hw_2, h⟩ := h
  replace h := ob h; obtain ⟨cs_1, hv_1, h⟩ := h
  replace hq := hq.trans (rb_c_X9_deepen c K β b F cs1 u0 cs_1 hv_1)
  replace h := ob h; obtain ⟨w_4, hw_4, h⟩ := h
  replace h := ob h; obtain ⟨z_3, hv_3, h⟩ := h
  replace hq := hq.trans (rb_c_X9_accept c K β b F cs_1 u0 u1 z_3.1 z_3.2 hv_3)
  replace h := ob h; obtain ⟨w_6, hw_6, h⟩ := h
  replace h := ob h; obtain ⟨cs_5, hv_5, h⟩ := h
  replace hq := hq.trans (rb_c_X9_expect c K β b F z_3.1 u0 41 cs_5 hv_5)
  replace h := ob h; obtain ⟨cs_7, hv_7, h⟩ := h
  replace hq := hq.trans (RBX.pI (by decide) hv_7)
  by_cases c_8 : u1 = 32
  · skip
    replace h := (if_pos c_8).symm.trans h
    replace h := ob h; obtain ⟨w_10, hw_10, h⟩ := h
    replace h := ob h; obtain ⟨z_9, hv_9, h⟩ := h
    replace hq := hq.trans (rb_c_X9_accept c K β b F cs_7 u0 47 z_9.1 z_9.2 hv_9)
    by_cases c_11 : z_9.2 = 0
    · skip
      replace h := (if_pos c_11).symm.trans h
      have k9 := rb_c_X9_readAggregate_b100 c K β b F T hM_X9_readExpr hM_X9_readConjunction hM_X9_readNegation hM_X9_readTest hM_X9_readSum hM_X9_readPart hM_X9_readSign hM_X9_readOne hM_X9_readCase hM_X9_readSpan hM_X9_readAggregate hM_X9_readList z_9.1 u0 u1 u2 u3 u4 cs9 h hf hk
      exact (hq.trans k9).le (by decide)
    · skip
      replace h := (if_neg c_11).symm.trans h
      have k9 := rb_c_X9_readAggregate_b101 c K β b F T hM_X9_readExpr hM_X9_readConjunction hM_X9_readNegation hM_X9_readTest hM_X9_readSum hM_X9_readPart hM_X9_readSign hM_X9_readOne hM_X9_readCase hM_X9_readSpan hM_X9_readAggregate hM_X9_readList z_9.1 u0 u1 u2 u3 u4 1 cs9 h hf hk
      exact (hq.trans k9).le (by decide)
  · skip
    replace h := (if_neg c_8).symm.trans h
    have k9 := rb_c_X9_readAggregate_b100 c K β b F T hM_X9_readExpr hM_X9_readConjunction hM_X9_readNegation hM_X9_readTest hM_X9_readSum hM_X9_readPart hM_X9_readSign hM_X9_readOne hM_X9_readCase hM_X9_readSpan hM_X9_readAggregate hM_X9_readList cs_7 u0 u1 u2 u3 u4 cs9 h hf hk
    exact (hq.trans k9).le (by decide)
theorem rb_cb_X9_readAggregate (c K : Nat) (β : Bool) (b : Nat) (F : Nat) (T : TC_X9_readExpr) (hM_X9_readExpr : ∀ (cs : CS) (x0 : Nat) (cs9 : CS) (r9 : Int32), T.1 cs x0 = some (cs9, r9) → ∀ b, RBX x0 c K b 1 β cs cs9) (hM_X9_readConjunction : ∀ (cs : CS) (x0 : Nat) (cs9 : CS), T.2.1 cs x0 = some cs9 → ∀ b, RBX x0 c K b 1 β cs cs9) (hM_X9_readNegation : ∀ (cs : CS) (x0 : Nat) (cs9 : CS), T.2.2.1 cs x0 = some cs9 → ∀ b, RBX x0 c K b 1 β cs cs9) (hM_X9_readTest : ∀ (cs : CS) (x0 : Nat) (cs9 : CS), T.2.2.2.1 cs x0 = some cs9 → ∀ b, RBX x0 c K b 1 β cs cs9) (hM_X9_readSum : ∀ (cs : CS) (x0 : Nat) (cs9 : CS), T.2.2.2.2.1 cs x0 = some cs9 → ∀ b, RBX x0 c K b 1 β cs cs9) (hM_X9_readPart : ∀ (cs : CS) (x0 : Nat) (cs9 : CS), T.2.2.2.2.2.1 cs x0 = some cs9 → ∀ b, RBX x0 c K b 1 β cs cs9) (hM_X9_readSign : ∀ (cs : CS) (x0 : Nat) (cs9 : CS), T.2.2.2.2.2.2.1 cs x0 = some cs9 → ∀ b, RBX x0 c K b 1 β cs cs9) (hM_X9_readOne : ∀ (cs : CS) (x0 : Nat) (cs9 : CS), T.2.2.2.2.2.2.2.1 cs x0 = some cs9 → ∀ b, RBX x0 c K b 1 β cs cs9) (hM_X9_readCase : ∀ (cs : CS) (x0 : Nat) (cs9 : CS), T.2.2.2.2.2.2.2.2.1 cs x0 = some cs9 → ∀ b, RBX x0 c K b 1 β cs cs9) (hM_X9_readSpan : ∀ (cs : CS) (x0 : Nat) (cs9 : CS), T.2.2.2.2.2.2.2.2.2.1 cs x0 = some cs9 → ∀ b, RBX x0 c K b 1 β cs cs9) (hM_X9_readAggregate : ∀ (cs : CS) (x0 : Nat) (cs9 : CS), T.2.2.2.2.2.2.2.2.2.2.1 cs x0 = some cs9 → (∀ v, c_X9_kind F cs x0 = some v → AGC v) → ∀ b, RBX x0 c K b 1 β cs cs9) (hM_X9_readList : ∀ (cs : CS) (x0 : Nat) (x1 : Int32) (x2 : Int32) (x3 : Int32) (x4 : Int32) (cs9 : CS), T.2.2.2.2.2.2.2.2.2.2.2 cs x0 x1 x2 x3 x4 = some cs9 → ∀ b, FST b x2 → RBX x0 c K b 1 β cs cs9) (cs : CS) (x0 : Nat) (cs9 : CS) (h : cb_X9_readAggregate F T cs x0 = some cs9) (hk : ∀ v, c_X9_kind F cs x0 = some v → AGC v) : RBX x0 c K b 1 β cs cs9 := by
  refine RBX.ent (fun b hb hR => ?_)
  unfold cb_X9_readAggregate at h
  have hq : RBX x0 c K b 0 β cs cs := RBX.refl
  replace h := ob h; obtain ⟨w_2, hw_2, h⟩ := h
  replace h := ob h; obtain ⟨v_1, hv_1, h⟩ := h
  replace h := ob h; obtain ⟨v_3, hv_3, h⟩ := h
  replace h := ob h; obtain ⟨i_4, hi_4, h⟩ := h
  subst hi_4
  replace h := ob h; obtain ⟨v_5, hv_5, h⟩ := h
  have hf : FST b v_5 := FST.sz hR hb hv_3 hv_5
  replace h := ob h; obtain ⟨w_7, hw_7, h⟩ := h
  replace h := ob h; obtain ⟨v_6, hv_6, h⟩ := h
  replace h := ob h; obtain ⟨v_8, hv_8, h⟩ := h
  replace h := ob h; obtain ⟨v_9, hv_9, h⟩ := h
  by_cases c_10 : v_9 = 0
  · skip
    replace h := (if_pos c_10).symm.trans h
    have k9 := rb_c_X9_readAggregate_b36 c K β b F T hM_X9_readExpr hM_X9_readConjunction hM_X9_readNegation hM_X9_readTest hM_X9_readSum hM_X9_readPart hM_X9_readSign hM_X9_readOne hM_X9_readCase hM_X9_readSpan hM_X9_readAggregate hM_X9_readList cs x0 v_6 cs9 h
    exact (hq.trans k9).le (by decide)
  · skip
    replace h := (if_neg c_10).symm.trans h
    cases v_8 with
    | none =>
      replace h := oc_n.symm.trans h
      have k9 := rb_c_X9_readAggregate_b36 c K β b F T hM_X9_readExpr hM_X9_readConjunction hM_X9_readNegation hM_X9_readTest hM_X9_readSum hM_X9_readPart hM_X9_readSign hM_X9_readOne hM_X9_readCase hM_X9_readSpan hM_X9_readAggregate hM_X9_readList cs x0 v_6 cs9 h
      exact (hq.trans k9).le (by decide)
    | some i_11 =>
      replace h := oc_s.symm.trans h
      replace h := ob h; obtain ⟨v_12, hv_12, h⟩ := h
      by_cases c_13 : v_12 < 12
      · skip
        replace h := (if_pos c_13).symm.trans h
        have k9 := rb_c_X9_readAggregate_b60 c K β b F T hM_X9_readExpr hM_X9_readConjunction hM_X9_readNegation hM_X9_readTest hM_X9_readSum hM_X9_readPart hM_X9_readSign hM_X9_readOne hM_X9_readCase hM_X9_readSpan hM_X9_readAggregate hM_X9_readList cs x0 v_1 v_5 v_6 i_11 cs9 h hf (hk v_1 hv_1)
        exact (hq.trans k9).le (by decide)
      · skip
        replace h := (if_neg c_13).symm.trans h
        replace h := ob h; obtain ⟨w_15, hw_15, h⟩ := h
        replace h := ob h; obtain ⟨cs_14, hv_14, h⟩ := h
        replace hq := hq.trans (ref_rb (by decide) hv_14)
        have k9 := rb_c_X9_readAggregate_b60 c K β b F T hM_X9_readExpr hM_X9_readConjunction hM_X9_readNegation hM_X9_readTest hM_X9_readSum hM_X9_readPart hM_X9_readSign hM_X9_readOne hM_X9_readCase hM_X9_readSpan hM_X9_readAggregate hM_X9_readList cs_14 x0 v_1 v_5 v_6 i_11 cs9 h hf (hk v_1 hv_1)
        exact (hq.trans k9).le (by decide)
theorem rb_c_X9_readList_b72 (c K : Nat) (β : Bool) (b : Nat) (F : Nat) (T : TC_X9_readExpr) (hM_X9_readExpr : ∀ (cs : CS) (x0 : Nat) (cs9 : CS) (r9 : Int32), T.1 cs x0 = some (cs9, r9) → ∀ b, RBX x0 c K b 1 β cs cs9) (hM_X9_readConjunction : ∀ (cs : CS) (x0 : Nat) (cs9 : CS), T.2.1 cs x0 = some cs9 → ∀ b, RBX x0 c K b 1 β cs cs9) (hM_X9_readNegation : ∀ (cs : CS) (x0 : Nat) (cs9 : CS), T.2.2.1 cs x0 = some cs9 → ∀ b, RBX x0 c K b 1 β cs cs9) (hM_X9_readTest : ∀ (cs : CS) (x0 : Nat) (cs9 : CS), T.2.2.2.1 cs x0 = some cs9 → ∀ b, RBX x0 c K b 1 β cs cs9) (hM_X9_readSum : ∀ (cs : CS) (x0 : Nat) (cs9 : CS), T.2.2.2.2.1 cs x0 = some cs9 → ∀ b, RBX x0 c K b 1 β cs cs9) (hM_X9_readPart : ∀ (cs : CS) (x0 : Nat) (cs9 : CS), T.2.2.2.2.2.1 cs x0 = some cs9 → ∀ b, RBX x0 c K b 1 β cs cs9) (hM_X9_readSign : ∀ (cs : CS) (x0 : Nat) (cs9 : CS), T.2.2.2.2.2.2.1 cs x0 = some cs9 → ∀ b, RBX x0 c K b 1 β cs cs9) (hM_X9_readOne : ∀ (cs : CS) (x0 : Nat) (cs9 : CS), T.2.2.2.2.2.2.2.1 cs x0 = some cs9 → ∀ b, RBX x0 c K b 1 β cs cs9) (hM_X9_readCase : ∀ (cs : CS) (x0 : Nat) (cs9 : CS), T.2.2.2.2.2.2.2.2.1 cs x0 = some cs9 → ∀ b, RBX x0 c K b 1 β cs cs9) (hM_X9_readSpan : ∀ (cs : CS) (x0 : Nat) (cs9 : CS), T.2.2.2.2.2.2.2.2.2.1 cs x0 = some cs9 → ∀ b, RBX x0 c K b 1 β cs cs9) (hM_X9_readAggregate : ∀ (cs : CS) (x0 : Nat) (cs9 : CS), T.2.2.2.2.2.2.2.2.2.2.1 cs x0 = some cs9 → (∀ v, c_X9_kind F cs x0 = some v → AGC v) → ∀ b, RBX x0 c K b 1 β cs cs9) (hM_X9_readList : ∀ (cs : CS) (x0 : Nat) (x1 : Int32) (x2 : Int32) (x3 : Int32) (x4 : Int32) (cs9 : CS), T.2.2.2.2.2.2.2.2.2.2.2 cs x0 x1 x2 x3 x4 = some cs9 → ∀ b, FST b x2 → RBX x0 c K b 1 β cs cs9) (cs1 : CS) (u0 : Nat) (u1 : Int32) (u2 : Int32) (u3 : Int32) (u4 : Int32) (u5 : Int32) (cs9 : CS) (h : c_X9_readList_b72 F T cs1 u0 u1 u2 u3 u4 u5 = some cs9) (hf : FST b u2) : RBX u0 c K b 1 β cs1 cs9 := by
  unfold c_X9_readList_b72 at h
  have hq : RBX u0 c K b 0 β cs1 cs1 := RBX.refl
  replace h := ob h; obtain ⟨w_2, hw_2, h⟩ := h
  replace h := ob h; obtain ⟨cs_1, hv_1, h⟩ := h
  replace hq := hq.trans (rb_c_X9_expect c K β b F cs1 u0 42 cs_1 hv_1)
  replace h := ob h; obtain ⟨w_4, hw_4, h⟩ := h
  replace h := ob h; obtain ⟨z_3, hv_3, h⟩ := h
  replace hq := hq.trans ((cpl_rb (fun _ _ => hf) hv_3).1)
  have h9 := Option.some.inj h
  exact (hq.to h9).le (by decide)
theorem rb_c_X9_readList_b47 (c K : Nat) (β : Bool) (b : Nat) (F : Nat) (T : TC_X9_readExpr) (hM_X9_readExpr : ∀ (cs : CS) (x0 : Nat) (cs9 : CS) (r9 : Int32), T.1 cs x0 = some (cs9, r9) → ∀ b, RBX x0 c K b 1 β cs cs9) (hM_X9_readConjunction : ∀ (cs : CS) (x0 : Nat) (cs9 : CS), T.2.1 cs x0 = some cs9 → ∀ b, RBX x0 c K b 1 β cs cs9) (hM_X9_readNegation : ∀ (cs : CS) (x0 : Nat) (cs9 : CS), T.2.2.1 cs x0 = some cs9 → ∀ b, RBX x0 c K b 1 β cs cs9) (hM_X9_readTest : ∀ (cs : CS) (x0 : Nat) (cs9 : CS), T.2.2.2.1 cs x0 = some cs9 → ∀ b, RBX x0 c K b 1 β cs cs9) (hM_X9_readSum : ∀ (cs : CS) (x0 : Nat) (cs9 : CS), T.2.2.2.2.1 cs x0 = some cs9 → ∀ b, RBX x0 c K b 1 β cs cs9) (hM_X9_readPart : ∀ (cs : CS) (x0 : Nat) (cs9 : CS), T.2.2.2.2.2.1 cs x0 = some cs9 → ∀ b, RBX x0 c K b 1 β cs cs9) (hM_X9_readSign : ∀ (cs : CS) (x0 : Nat) (cs9 : CS), T.2.2.2.2.2.2.1 cs x0 = some cs9 → ∀ b, RBX x0 c K b 1 β cs cs9) (hM_X9_readOne : ∀ (cs : CS) (x0 : Nat) (cs9 : CS), T.2.2.2.2.2.2.2.1 cs x0 = some cs9 → ∀ b, RBX x0 c K b 1 β cs cs9) (hM_X9_readCase : ∀ (cs : CS) (x0 : Nat) (cs9 : CS), T.2.2.2.2.2.2.2.2.1 cs x0 = some cs9 → ∀ b, RBX x0 c K b 1 β cs cs9) (hM_X9_readSpan : ∀ (cs : CS) (x0 : Nat) (cs9 : CS), T.2.2.2.2.2.2.2.2.2.1 cs x0 = some cs9 → ∀ b, RBX x0 c K b 1 β cs cs9) (hM_X9_readAggregate : ∀ (cs : CS) (x0 : Nat) (cs9 : CS), T.2.2.2.2.2.2.2.2.2.2.1 cs x0 = some cs9 → (∀ v, c_X9_kind F cs x0 = some v → AGC v) → ∀ b, RBX x0 c K b 1 β cs cs9) (hM_X9_readList : ∀ (cs : CS) (x0 : Nat) (x1 : Int32) (x2 : Int32) (x3 : Int32) (x4 : Int32) (cs9 : CS), T.2.2.2.2.2.2.2.2.2.2.2 cs x0 x1 x2 x3 x4 = some cs9 → ∀ b, FST b x2 → RBX x0 c K b 1 β cs cs9) (rc21 : CS → Nat → Int32 → Int32 → Int32 → Int32 → Int32 → Int32 → Int32 → Option CS) (hrc21 : ∀ (cs1 : CS) (u0 : Nat) (u1 : Int32) (u2 : Int32) (u3 : Int32) (u4 : Int32) (u5 : Int32) (u6 : Int32) (u7 : Int32) (cs9 : CS), rc21 cs1 u0 u1 u2 u3 u4 u5 u6 u7 = some cs9 → FST b u2 → RBX u0 c K b 1 β cs1 cs9) (cs1 : CS) (u0 : Nat) (u1 : Int32) (u2 : Int32) (u3 : Int32) (u4 : Int32) (u5 : Int32) (u7 : Int32) (y0 : Int32) (cs9 : CS) (h : c_X9_readList_b47 F T rc21 cs1 u0 u1 u2 u3 u4 u5 u7 y0 u0 = some cs9) (hf : FST b u2) : RBX u0 c K b 1 β cs1 cs9 := by
  unfold c_X9_readList_b47 at h
  have hq : RBX u0 c K b 0 β cs1 cs1 := RBX.refl
  replace h := ob h; obtain ⟨w_2, hw_2, h⟩ := h
  replace h := ob h; obtain ⟨cs_1, hv_1, h⟩ := h
  replace hq := hq.trans (ninth_rb hv_1)
  replace h := ob h; obtain ⟨w_4, hw_4, h⟩ := h
  replace h := ob h; obtain ⟨cs_3, hv_3, h⟩ := h
  replace hq := hq.trans (hM_X9_readSum cs_1 u0 cs_3 hv_3 b)
  replace h := ob h; obtain ⟨w_6, hw_6, h⟩ := h
  replace h := ob h; obtain ⟨z_5, hv_5, h⟩ := h
  replace hq := hq.trans (rb_c_X9_accept c K β b F cs_3 u0 43 z_5.1 z_5.2 hv_5)
  have k9 := hrc21 z_5.1 u0 u1 u2 u3 u4 (u5 + 1) z_5.2 (u7 + 1) cs9 h hf
  exact (hq.trans k9).le (by decide)
theorem rb_c_X9_readList_L21 (c K : Nat) (β : Bool) (b : Nat) (F : Nat) (T : TC_X9_readExpr) (hM_X9_readExpr : ∀ (cs : CS) (x0 : Nat) (cs9 : CS) (r9 : Int32), T.1 cs x0 = some (cs9, r9) → ∀ b, RBX x0 c K b 1 β cs cs9) (hM_X9_readConjunction : ∀ (cs : CS) (x0 : Nat) (cs9 : CS), T.2.1 cs x0 = some cs9 → ∀ b, RBX x0 c K b 1 β cs cs9) (hM_X9_readNegation : ∀ (cs : CS) (x0 : Nat) (cs9 : CS), T.2.2.1 cs x0 = some cs9 → ∀ b, RBX x0 c K b 1 β cs cs9) (hM_X9_readTest : ∀ (cs : CS) (x0 : Nat) (cs9 : CS), T.2.2.2.1 cs x0 = some cs9 → ∀ b, RBX x0 c K b 1 β cs cs9) (hM_X9_readSum : ∀ (cs : CS) (x0 : Nat) (cs9 : CS), T.2.2.2.2.1 cs x0 = some cs9 → ∀ b, RBX x0 c K b 1 β cs cs9) (hM_X9_readPart : ∀ (cs : CS) (x0 : Nat) (cs9 : CS), T.2.2.2.2.2.1 cs x0 = some cs9 → ∀ b, RBX x0 c K b 1 β cs cs9) (hM_X9_readSign : ∀ (cs : CS) (x0 : Nat) (cs9 : CS), T.2.2.2.2.2.2.1 cs x0 = some cs9 → ∀ b, RBX x0 c K b 1 β cs cs9) (hM_X9_readOne : ∀ (cs : CS) (x0 : Nat) (cs9 : CS), T.2.2.2.2.2.2.2.1 cs x0 = some cs9 → ∀ b, RBX x0 c K b 1 β cs cs9) (hM_X9_readCase : ∀ (cs : CS) (x0 : Nat) (cs9 : CS), T.2.2.2.2.2.2.2.2.1 cs x0 = some cs9 → ∀ b, RBX x0 c K b 1 β cs cs9) (hM_X9_readSpan : ∀ (cs : CS) (x0 : Nat) (cs9 : CS), T.2.2.2.2.2.2.2.2.2.1 cs x0 = some cs9 → ∀ b, RBX x0 c K b 1 β cs cs9) (hM_X9_readAggregate : ∀ (cs : CS) (x0 : Nat) (cs9 : CS), T.2.2.2.2.2.2.2.2.2.2.1 cs x0 = some cs9 → (∀ v, c_X9_kind F cs x0 = some v → AGC v) → ∀ b, RBX x0 c K b 1 β cs cs9) (hM_X9_readList : ∀ (cs : CS) (x0 : Nat) (x1 : Int32) (x2 : Int32) (x3 : Int32) (x4 : Int32) (cs9 : CS), T.2.2.2.2.2.2.2.2.2.2.2 cs x0 x1 x2 x3 x4 = some cs9 → ∀ b, FST b x2 → RBX x0 c K b 1 β cs cs9) : ∀ (lf_21 : Nat) (cs1 : CS) (u0 : Nat) (u1 : Int32) (u2 : Int32) (u3 : Int32) (u4 : Int32) (u5 : Int32) (u6 : Int32) (u7 : Int32) (cs9 : CS), c_X9_readList_L21 F T lf_21 cs1 u0 u1 u2 u3 u4 u5 u6 u7 = some cs9 → FST b u2 → RBX u0 c K b 1 β cs1 cs9 := by
  intro lf_21
  induction lf_21 with
  | zero => intro cs1 u0 u1 u2 u3 u4 u5 u6 u7 cs9 h hf; cases (show (none : Option CS) = _ from h)
  | succ lf_21 ih_21 =>
    intro cs1 u0 u1 u2 u3 u4 u5 u6 u7 cs9 h hf
    rw [c_X9_readList_L21] at h
    have hq : RBX u0 c K b 0 β cs1 cs1 := RBX.refl
    by_cases c_1 : 2000 ≤ u7
    · skip
      replace h := (if_pos c_1).symm.trans h
      have k9 := rb_c_X9_readList_b72 c K β b F T hM_X9_readExpr hM_X9_readConjunction hM_X9_readNegation hM_X9_readTest hM_X9_readSum hM_X9_readPart hM_X9_readSign hM_X9_readOne hM_X9_readCase hM_X9_readSpan hM_X9_readAggregate hM_X9_readList cs1 u0 u1 u2 u3 u4 u5 cs9 h hf
      exact (hq.trans k9).le (by decide)
    · skip
      replace h := (if_neg c_1).symm.trans h
      by_cases c_2 : u6 = 0
      · skip
        replace h := (if_pos c_2).symm.trans h
        have k9 := rb_c_X9_readList_b72 c K β b F T hM_X9_readExpr hM_X9_readConjunction hM_X9_readNegation hM_X9_readTest hM_X9_readSum hM_X9_readPart hM_X9_readSign hM_X9_readOne hM_X9_readCase hM_X9_readSpan hM_X9_readAggregate hM_X9_readList cs1 u0 u1 u2 u3 u4 u5 cs9 h hf
        exact (hq.trans k9).le (by decide)
      · skip
        replace h := (if_neg c_2).symm.trans h
        by_cases c_3 : u5 < 8
        · skip
          replace h := (if_pos c_3).symm.trans h
          have k9 := rb_c_X9_readList_b47 c K β b F T hM_X9_readExpr hM_X9_readConjunction hM_X9_readNegation hM_X9_readTest hM_X9_readSum hM_X9_readPart hM_X9_readSign hM_X9_readOne hM_X9_readCase hM_X9_readSpan hM_X9_readAggregate hM_X9_readList (c_X9_readList_L21 F T lf_21) ih_21 cs1 u0 u1 u2 u3 u4 u5 u7 0 cs9 h hf
          exact (hq.trans k9).le (by decide)
        · skip
          replace h := (if_neg c_3).symm.trans h
          have k9 := rb_c_X9_readList_b47 c K β b F T hM_X9_readExpr hM_X9_readConjunction hM_X9_readNegation hM_X9_readTest hM_X9_readSum hM_X9_readPart hM_X9_readSign hM_X9_readOne hM_X9_readCase hM_X9_readSpan hM_X9_readAggregate hM_X9_readList (c_X9_readList_L21 F T lf_21) ih_21 cs1 u0 u1 u2 u3 u4 u5 u7 1 cs9 h hf
          exact (hq.trans k9).le (by decide)
theorem rb_cb_X9_readList (c K : Nat) (β : Bool) (b : Nat) (F : Nat) (T : TC_X9_readExpr) (hM_X9_readExpr : ∀ (cs : CS) (x0 : Nat) (cs9 : CS) (r9 : Int32), T.1 cs x0 = some (cs9, r9) → ∀ b, RBX x0 c K b 1 β cs cs9) (hM_X9_readConjunction : ∀ (cs : CS) (x0 : Nat) (cs9 : CS), T.2.1 cs x0 = some cs9 → ∀ b, RBX x0 c K b 1 β cs cs9) (hM_X9_readNegation : ∀ (cs : CS) (x0 : Nat) (cs9 : CS), T.2.2.1 cs x0 = some cs9 → ∀ b, RBX x0 c K b 1 β cs cs9) (hM_X9_readTest : ∀ (cs : CS) (x0 : Nat) (cs9 : CS), T.2.2.2.1 cs x0 = some cs9 → ∀ b, RBX x0 c K b 1 β cs cs9) (hM_X9_readSum : ∀ (cs : CS) (x0 : Nat) (cs9 : CS), T.2.2.2.2.1 cs x0 = some cs9 → ∀ b, RBX x0 c K b 1 β cs cs9) (hM_X9_readPart : ∀ (cs : CS) (x0 : Nat) (cs9 : CS), T.2.2.2.2.2.1 cs x0 = some cs9 → ∀ b, RBX x0 c K b 1 β cs cs9) (hM_X9_readSign : ∀ (cs : CS) (x0 : Nat) (cs9 : CS), T.2.2.2.2.2.2.1 cs x0 = some cs9 → ∀ b, RBX x0 c K b 1 β cs cs9) (hM_X9_readOne : ∀ (cs : CS) (x0 : Nat) (cs9 : CS), T.2.2.2.2.2.2.2.1 cs x0 = some cs9 → ∀ b, RBX x0 c K b 1 β cs cs9) (hM_X9_readCase : ∀ (cs : CS) (x0 : Nat) (cs9 : CS), T.2.2.2.2.2.2.2.2.1 cs x0 = some cs9 → ∀ b, RBX x0 c K b 1 β cs cs9) (hM_X9_readSpan : ∀ (cs : CS) (x0 : Nat) (cs9 : CS), T.2.2.2.2.2.2.2.2.2.1 cs x0 = some cs9 → ∀ b, RBX x0 c K b 1 β cs cs9) (hM_X9_readAggregate : ∀ (cs : CS) (x0 : Nat) (cs9 : CS), T.2.2.2.2.2.2.2.2.2.2.1 cs x0 = some cs9 → (∀ v, c_X9_kind F cs x0 = some v → AGC v) → ∀ b, RBX x0 c K b 1 β cs cs9) (hM_X9_readList : ∀ (cs : CS) (x0 : Nat) (x1 : Int32) (x2 : Int32) (x3 : Int32) (x4 : Int32) (cs9 : CS), T.2.2.2.2.2.2.2.2.2.2.2 cs x0 x1 x2 x3 x4 = some cs9 → ∀ b, FST b x2 → RBX x0 c K b 1 β cs cs9) (cs : CS) (x0 : Nat) (x1 : Int32) (x2 : Int32) (x3 : Int32) (x4 : Int32) (cs9 : CS) (h : cb_X9_readList F T cs x0 x1 x2 x3 x4 = some cs9) (hf : FST b x2) : RBX x0 c K b 1 β cs cs9 := by
  unfold cb_X9_readList at h
  have hq : RBX x0 c K b 0 β cs cs := RBX.refl
  replace h := ob h; obtain ⟨w_2, hw_2, h⟩ := h
  replace h := ob h; obtain ⟨cs_1, hv_1, h⟩ := h
  replace hq := hq.trans (rb_c_X9_expect c K β b F cs x0 27 cs_1 hv_1)
  replace h := ob h; obtain ⟨w_4, hw_4, h⟩ := h
  replace h := ob h; obtain ⟨cs_3, hv_3, h⟩ := h
  replace hq := hq.trans (rb_c_X9_expect c K β b F cs_1 x0 41 cs_3 hv_3)
  have k9 := rb_c_X9_readList_L21 c K β b F T hM_X9_readExpr hM_X9_readConjunction hM_X9_readNegation hM_X9_readTest hM_X9_readSum hM_X9_readPart hM_X9_readSign hM_X9_readOne hM_X9_readCase hM_X9_readSpan hM_X9_readAggregate hM_X9_readList F cs_3 x0 x1 x2 x3 x4 0 1 0 cs9 h hf
  exact (hq.trans k9).le (by decide)
theorem rb_c_X9_readName (c K : Nat) (β : Bool) (b : Nat) (F : Nat) (cs : CS) (x0 : Nat) (cs9 : CS) (r9 : Int64) (h : c_X9_readName F cs x0 = some (cs9, r9)) : RBX x0 c K b 0 β cs cs9 := by
  unfold c_X9_readName at h
  have hq : RBX x0 c K b 0 β cs cs := RBX.refl
  replace h := ob h; obtain ⟨w_2, hw_2, h⟩ := h
  replace h := ob h; obtain ⟨v_1, hv_1, h⟩ := h
  replace h := ob h; obtain ⟨w_4, hw_4, h⟩ := h
  replace h := ob h; obtain ⟨cs_3, hv_3, h⟩ := h
  replace hq := hq.trans (rb_c_X9_expect c K β b F cs x0 39 cs_3 hv_3)
  have h9 := (Prod.mk.inj (Option.some.inj h)).1
  exact (hq.to h9).le (by decide)
theorem rb_c_X9_readNumber_b29 (c K : Nat) (β : Bool) (b : Nat) (F : Nat) (cs1 : CS) (u0 : Nat) (u3 : Int64) (cs9 : CS) (r9 : Int64) (h : c_X9_readNumber_b29 F cs1 u0 u3 = some (cs9, r9)) : RBX u0 c K b 0 β cs1 cs9 := by
  unfold c_X9_readNumber_b29 at h
  have hq : RBX u0 c K b 0 β cs1 cs1 := RBX.refl
  replace h := ob h; obtain ⟨w_2, hw_2, h⟩ := h
  replace h := ob h; obtain ⟨cs_1, hv_1, h⟩ := h
  replace hq := hq.trans (rb_c_X9_expect c K β b F cs1 u0 40 cs_1 hv_1)
  have h9 := (Prod.mk.inj (Option.some.inj h)).1
  exact (hq.to h9).le (by decide)
theorem rb_c_X9_readNumber (c K : Nat) (β : Bool) (b : Nat) (F : Nat) (cs : CS) (x0 : Nat) (x1 : Int64) (cs9 : CS) (r9 : Int64) (h : c_X9_readNumber F cs x0 x1 = some (cs9, r9)) : RBX x0 c K b 0 β cs cs9 := by
  unfold c_X9_readNumber at h
  have hq : RBX x0 c K b 0 β cs cs := RBX.refl
  replace h := ob h; obtain ⟨w_2, hw_2, h⟩ := h
  replace h := ob h; obtain ⟨v_1, hv_1, h⟩ := h
  replace h := ob h; obtain ⟨w_4, hw_4, h⟩ := h
  replace h := ob h; obtain ⟨v_3, hv_3, h⟩ := h
  by_cases c_5 : v_3 = 40
  · skip
    replace h := (if_pos c_5).symm.trans h
    by_cases c_6 : v_1 ≤ x1
    · skip
      replace h := (if_pos c_6).symm.trans h
      have k9 := rb_c_X9_readNumber_b29 c K β b F cs x0 v_1 cs9 r9 h
      exact (hq.trans k9).le (by decide)
    · skip
      replace h := (if_neg c_6).symm.trans h
      replace h := ob h; obtain ⟨w_8, hw_8, h⟩ := h
      replace h := ob h; obtain ⟨v_7, hv_7, h⟩ := h
      replace h := ob h; obtain ⟨w_10, hw_10, h⟩ := h
      replace h := ob h; obtain ⟨cs_9, hv_9, h⟩ := h
      replace hq := hq.trans (ref_rb (by decide) hv_9)
      have k9 := rb_c_X9_readNumber_b29 c K β b F cs_9 x0 v_1 cs9 r9 h
      exact (hq.trans k9).le (by decide)
  · skip
    replace h := (if_neg c_5).symm.trans h
    have k9 := rb_c_X9_readNumber_b29 c K β b F cs x0 v_1 cs9 r9 h
    exact (hq.trans k9).le (by decide)
theorem rbg_X9_readExpr (c K : Nat) (β : Bool) (F : Nat) : ∀ n : Nat, (∀ (cs : CS) (x0 : Nat) (cs9 : CS) (r9 : Int32), (tabc_X9_readExpr F n).1 cs x0 = some (cs9, r9) → ∀ b, RBX x0 c K b 1 β cs cs9) ∧ (∀ (cs : CS) (x0 : Nat) (cs9 : CS), (tabc_X9_readExpr F n).2.1 cs x0 = some cs9 → ∀ b, RBX x0 c K b 1 β cs cs9) ∧ (∀ (cs : CS) (x0 : Nat) (cs9 : CS), (tabc_X9_readExpr F n).2.2.1 cs x0 = some cs9 → ∀ b, RBX x0 c K b 1 β cs cs9) ∧ (∀ (cs : CS) (x0 : Nat) (cs9 : CS), (tabc_X9_readExpr F n).2.2.2.1 cs x0 = some cs9 → ∀ b, RBX x0 c K b 1 β cs cs9) ∧ (∀ (cs : CS) (x0 : Nat) (cs9 : CS), (tabc_X9_readExpr F n).2.2.2.2.1 cs x0 = some cs9 → ∀ b, RBX x0 c K b 1 β cs cs9) ∧ (∀ (cs : CS) (x0 : Nat) (cs9 : CS), (tabc_X9_readExpr F n).2.2.2.2.2.1 cs x0 = some cs9 → ∀ b, RBX x0 c K b 1 β cs cs9) ∧ (∀ (cs : CS) (x0 : Nat) (cs9 : CS), (tabc_X9_readExpr F n).2.2.2.2.2.2.1 cs x0 = some cs9 → ∀ b, RBX x0 c K b 1 β cs cs9) ∧ (∀ (cs : CS) (x0 : Nat) (cs9 : CS), (tabc_X9_readExpr F n).2.2.2.2.2.2.2.1 cs x0 = some cs9 → ∀ b, RBX x0 c K b 1 β cs cs9) ∧ (∀ (cs : CS) (x0 : Nat) (cs9 : CS), (tabc_X9_readExpr F n).2.2.2.2.2.2.2.2.1 cs x0 = some cs9 → ∀ b, RBX x0 c K b 1 β cs cs9) ∧ (∀ (cs : CS) (x0 : Nat) (cs9 : CS), (tabc_X9_readExpr F n).2.2.2.2.2.2.2.2.2.1 cs x0 = some cs9 → ∀ b, RBX x0 c K b 1 β cs cs9) ∧ (∀ (cs : CS) (x0 : Nat) (cs9 : CS), (tabc_X9_readExpr F n).2.2.2.2.2.2.2.2.2.2.1 cs x0 = some cs9 → (∀ v, c_X9_kind F cs x0 = some v → AGC v) → ∀ b, RBX x0 c K b 1 β cs cs9) ∧ (∀ (cs : CS) (x0 : Nat) (x1 : Int32) (x2 : Int32) (x3 : Int32) (x4 : Int32) (cs9 : CS), (tabc_X9_readExpr F n).2.2.2.2.2.2.2.2.2.2.2 cs x0 x1 x2 x3 x4 = some cs9 → ∀ b, FST b x2 → RBX x0 c K b 1 β cs cs9) := by
  intro n
  induction n with
  | zero => exact ⟨fun _ _ _ _ h => (by cases (show (none : Option (CS × Int32)) = _ from h)), fun _ _ _ h => (by cases (show (none : Option CS) = _ from h)), fun _ _ _ h => (by cases (show (none : Option CS) = _ from h)), fun _ _ _ h => (by cases (show (none : Option CS) = _ from h)), fun _ _ _ h => (by cases (show (none : Option CS) = _ from h)), fun _ _ _ h => (by cases (show (none : Option CS) = _ from h)), fun _ _ _ h => (by cases (show (none : Option CS) = _ from h)), fun _ _ _ h => (by cases (show (none : Option CS) = _ from h)), fun _ _ _ h => (by cases (show (none : Option CS) = _ from h)), fun _ _ _ h => (by cases (show (none : Option CS) = _ from h)), fun _ _ _ h => (by cases (show (none : Option CS) = _ from h)), fun _ _ _ _ _ _ _ h => (by cases (show (none : Option CS) = _ from h))⟩
  | succ n ih =>
    obtain ⟨hh0, hh1, hh2, hh3, hh4, hh5, hh6, hh7, hh8, hh9, hh10, hh11⟩ := ih
    exact ⟨fun cs w0 w1 w2 h b => rb_cb_X9_readExpr c K β b F (tabc_X9_readExpr F n) hh0 hh1 hh2 hh3 hh4 hh5 hh6 hh7 hh8 hh9 hh10 hh11 cs w0 w1 w2 h, fun cs w0 w1 h b => rb_cb_X9_readConjunction c K β b F (tabc_X9_readExpr F n) hh0 hh1 hh2 hh3 hh4 hh5 hh6 hh7 hh8 hh9 hh10 hh11 cs w0 w1 h, fun cs w0 w1 h b => rb_cb_X9_readNegation c K β b F (tabc_X9_readExpr F n) hh0 hh1 hh2 hh3 hh4 hh5 hh6 hh7 hh8 hh9 hh10 hh11 cs w0 w1 h, fun cs w0 w1 h b => rb_cb_X9_readTest c K β b F (tabc_X9_readExpr F n) hh0 hh1 hh2 hh3 hh4 hh5 hh6 hh7 hh8 hh9 hh10 hh11 cs w0 w1 h, fun cs w0 w1 h b => rb_cb_X9_readSum c K β b F (tabc_X9_readExpr F n) hh0 hh1 hh2 hh3 hh4 hh5 hh6 hh7 hh8 hh9 hh10 hh11 cs w0 w1 h, fun cs w0 w1 h b => rb_cb_X9_readPart c K β b F (tabc_X9_readExpr F n) hh0 hh1 hh2 hh3 hh4 hh5 hh6 hh7 hh8 hh9 hh10 hh11 cs w0 w1 h, fun cs w0 w1 h b => rb_cb_X9_readSign c K β b F (tabc_X9_readExpr F n) hh0 hh1 hh2 hh3 hh4 hh5 hh6 hh7 hh8 hh9 hh10 hh11 cs w0 w1 h, fun cs w0 w1 h b => rb_cb_X9_readOne c K β b F (tabc_X9_readExpr F n) hh0 hh1 hh2 hh3 hh4 hh5 hh6 hh7 hh8 hh9 hh10 hh11 cs w0 w1 h, fun cs w0 w1 h b => rb_cb_X9_readCase c K β b F (tabc_X9_readExpr F n) hh0 hh1 hh2 hh3 hh4 hh5 hh6 hh7 hh8 hh9 hh10 hh11 cs w0 w1 h, fun cs w0 w1 h b => rb_cb_X9_readSpan c K β b F (tabc_X9_readExpr F n) hh0 hh1 hh2 hh3 hh4 hh5 hh6 hh7 hh8 hh9 hh10 hh11 cs w0 w1 h, fun cs w0 w1 h hk b => rb_cb_X9_readAggregate c K β b F (tabc_X9_readExpr F n) hh0 hh1 hh2 hh3 hh4 hh5 hh6 hh7 hh8 hh9 hh10 hh11 cs w0 w1 h hk, fun cs w0 w1 w2 w3 w4 w5 h b hf => rb_cb_X9_readList c K β b F (tabc_X9_readExpr F n) hh0 hh1 hh2 hh3 hh4 hh5 hh6 hh7 hh8 hh9 hh10 hh11 cs w0 w1 w2 w3 w4 w5 h hf⟩
theorem rb_c_X9_readExpr (c K : Nat) (β : Bool) (b : Nat) (F n : Nat) (cs : CS) (x0 : Nat) (cs9 : CS) (r9 : Int32) (h : c_X9_readExpr F n cs x0 = some (cs9, r9)) : RBX x0 c K b 1 β cs cs9 := (rbg_X9_readExpr c K β F n).1 cs x0 cs9 r9 h b

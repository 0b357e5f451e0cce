/-! the class, mirrored: what makes cells -/
theorem mo_c_X8_mergeRuns_b170 (F : Nat) (rc6 : CS → Nat → Int32 → Int32 → Int32 → Int32 → Int32 → Int32 → Option CS) (hrc6 : ∀ (cs1 : CS) (u0 : Nat) (u1 : Int32) (u2 : Int32) (u3 : Int32) (u4 : Int32) (u5 : Int32) (u6 : Int32) (cs9 : CS), rc6 cs1 u0 u1 u2 u3 u4 u5 u6 = some cs9 → cs9.1 = cs1.1) (cs1 : CS) (u0 : Nat) (u1 : Int32) (u2 : Int32) (u3 : Int32) (u4 : Int32) (u5 : Int32) (u6 : Int32) (cs9 : CS) (h : c_X8_mergeRuns_b170 F rc6 cs1 u0 u1 u2 u3 u4 u5 u6 = some cs9) : cs9.1 = cs1.1 := by
  unfold c_X8_mergeRuns_b170 at h
  have hq : cs1.1 = cs1.1 := rfl
  obtain k9 := hrc6 cs1 u0 u1 u2 u3 u4 u5 (u6 + (2 * u1)) cs9 h
  exact k9.trans hq
theorem mo_c_X8_mergeRuns_b161 (F : Nat) (rc6 : CS → Nat → Int32 → Int32 → Int32 → Int32 → Int32 → Int32 → Option CS) (hrc6 : ∀ (cs1 : CS) (u0 : Nat) (u1 : Int32) (u2 : Int32) (u3 : Int32) (u4 : Int32) (u5 : Int32) (u6 : Int32) (cs9 : CS), rc6 cs1 u0 u1 u2 u3 u4 u5 u6 = some cs9 → cs9.1 = cs1.1) (rc42 : CS → Nat → Int32 → Int32 → Int32 → Int32 → Int32 → Int32 → Int32 → Int32 → Int32 → Int32 → Option CS) (hrc42 : ∀ (cs1 : CS) (u0 : Nat) (u1 : Int32) (u2 : Int32) (u3 : Int32) (u4 : Int32) (u5 : Int32) (u6 : Int32) (u7 : Int32) (u8 : Int32) (u9 : Int32) (u10 : Int32) (cs9 : CS), rc42 cs1 u0 u1 u2 u3 u4 u5 u6 u7 u8 u9 u10 = some cs9 → cs9.1 = cs1.1) (cs1 : CS) (u0 : Nat) (u1 : Int32) (u2 : Int32) (u3 : Int32) (u4 : Int32) (u5 : Int32) (u6 : Int32) (u7 : Int32) (u8 : Int32) (u10 : Int32) (y0 : Int32) (y1 : Int32) (cs9 : CS) (h : c_X8_mergeRuns_b161 F rc6 rc42 cs1 u0 u1 u2 u3 u4 u5 u6 u7 u8 u10 y0 y1 = some cs9) : cs9.1 = cs1.1 := by
  unfold c_X8_mergeRuns_b161 at h
  have hq : cs1.1 = cs1.1 := rfl
  obtain k9 := hrc42 cs1 u0 u1 u2 u3 u4 (u5 + 1) u6 u7 u8 (y1 + y0) u10 cs9 h
  exact k9.trans hq
theorem mo_c_X8_mergeRuns_b146 (F : Nat) (rc6 : CS → Nat → Int32 → Int32 → Int32 → Int32 → Int32 → Int32 → Option CS) (hrc6 : ∀ (cs1 : CS) (u0 : Nat) (u1 : Int32) (u2 : Int32) (u3 : Int32) (u4 : Int32) (u5 : Int32) (u6 : Int32) (cs9 : CS), rc6 cs1 u0 u1 u2 u3 u4 u5 u6 = some cs9 → cs9.1 = cs1.1) (rc42 : CS → Nat → Int32 → Int32 → Int32 → Int32 → Int32 → Int32 → Int32 → Int32 → Int32 → Int32 → Option CS) (hrc42 : ∀ (cs1 : CS) (u0 : Nat) (u1 : Int32) (u2 : Int32) (u3 : Int32) (u4 : Int32) (u5 : Int32) (u6 : Int32) (u7 : Int32) (u8 : Int32) (u9 : Int32) (u10 : Int32) (cs9 : CS), rc42 cs1 u0 u1 u2 u3 u4 u5 u6 u7 u8 u9 u10 = some cs9 → cs9.1 = cs1.1) (cs1 : CS) (u0 : Nat) (u1 : Int32) (u2 : Int32) (u3 : Int32) (u4 : Int32) (u5 : Int32) (u6 : Int32) (u7 : Int32) (u8 : Int32) (u9 : Int32) (u11 : Int32) (y0 : Int32) (y1 : Int32) (cs9 : CS) (h : c_X8_mergeRuns_b146 F rc6 rc42 cs1 u0 u1 u2 u3 u4 u5 u6 u7 u8 u9 u11 y0 y1 = some cs9) : cs9.1 = cs1.1 := by
  unfold c_X8_mergeRuns_b146 at h
  have hq : cs1.1 = cs1.1 := rfl
  by_cases c_1 : u11 = 0
  · skip
    replace h := (if_pos c_1).symm.trans h
    obtain k9 := mo_c_X8_mergeRuns_b161 F rc6 hrc6 rc42 hrc42 cs1 u0 u1 u2 u3 u4 u5 u6 u7 u8 (y1 + y0) 1 u9 cs9 h
    exact k9.trans hq
  · skip
    replace h := (if_neg c_1).symm.trans h
    obtain k9 := mo_c_X8_mergeRuns_b161 F rc6 hrc6 rc42 hrc42 cs1 u0 u1 u2 u3 u4 u5 u6 u7 u8 (y1 + y0) 0 u9 cs9 h
    exact k9.trans hq
theorem mo_c_X8_mergeRuns_b133 (F : Nat) (rc6 : CS → Nat → Int32 → Int32 → Int32 → Int32 → Int32 → Int32 → Option CS) (hrc6 : ∀ (cs1 : CS) (u0 : Nat) (u1 : Int32) (u2 : Int32) (u3 : Int32) (u4 : Int32) (u5 : Int32) (u6 : Int32) (cs9 : CS), rc6 cs1 u0 u1 u2 u3 u4 u5 u6 = some cs9 → cs9.1 = cs1.1) (rc42 : CS → Nat → Int32 → Int32 → Int32 → Int32 → Int32 → Int32 → Int32 → Int32 → Int32 → Int32 → Option CS) (hrc42 : ∀ (cs1 : CS) (u0 : Nat) (u1 : Int32) (u2 : Int32) (u3 : Int32) (u4 : Int32) (u5 : Int32) (u6 : Int32) (u7 : Int32) (u8 : Int32) (u9 : Int32) (u10 : Int32) (cs9 : CS), rc42 cs1 u0 u1 u2 u3 u4 u5 u6 u7 u8 u9 u10 = some cs9 → cs9.1 = cs1.1) (cs1 : CS) (u0 : Nat) (u1 : Int32) (u2 : Int32) (u3 : Int32) (u4 : Int32) (u5 : Int32) (u6 : Int32) (u7 : Int32) (u8 : Int32) (u9 : Int32) (u10 : Int32) (u11 : Int32) (y0 : Int32) (y1 : Int32) (y2 : Nat) (wy2 : Nat) (cs9 : CS) (h : c_X8_mergeRuns_b133 F rc6 rc42 cs1 u0 u1 u2 u3 u4 u5 u6 u7 u8 u9 u10 u11 y0 y1 y2 wy2 = some cs9) : cs9.1 = cs1.1 := by
  unfold c_X8_mergeRuns_b133 at h
  have hq : cs1.1 = cs1.1 := rfl
  replace h := ob h; obtain ⟨cs_1, hv_1, h⟩ := h
  replace hq := (wA_1 hv_1).trans hq
  by_cases c_2 : u11 = 0
  · skip
    replace h := (if_pos c_2).symm.trans h
    obtain k9 := mo_c_X8_mergeRuns_b146 F rc6 hrc6 rc42 hrc42 cs_1 u0 u1 u2 u3 u4 u5 u6 u7 u8 u9 u11 0 u10 cs9 h
    exact k9.trans hq
  · skip
    replace h := (if_neg c_2).symm.trans h
    obtain k9 := mo_c_X8_mergeRuns_b146 F rc6 hrc6 rc42 hrc42 cs_1 u0 u1 u2 u3 u4 u5 u6 u7 u8 u9 u11 1 u10 cs9 h
    exact k9.trans hq
theorem mo_c_X8_mergeRuns_b103 (F : Nat) (rc6 : CS → Nat → Int32 → Int32 → Int32 → Int32 → Int32 → Int32 → Option CS) (hrc6 : ∀ (cs1 : CS) (u0 : Nat) (u1 : Int32) (u2 : Int32) (u3 : Int32) (u4 : Int32) (u5 : Int32) (u6 : Int32) (cs9 : CS), rc6 cs1 u0 u1 u2 u3 u4 u5 u6 = some cs9 → cs9.1 = cs1.1) (rc42 : CS → Nat → Int32 → Int32 → Int32 → Int32 → Int32 → Int32 → Int32 → Int32 → Int32 → Int32 → Option CS) (hrc42 : ∀ (cs1 : CS) (u0 : Nat) (u1 : Int32) (u2 : Int32) (u3 : Int32) (u4 : Int32) (u5 : Int32) (u6 : Int32) (u7 : Int32) (u8 : Int32) (u9 : Int32) (u10 : Int32) (cs9 : CS), rc42 cs1 u0 u1 u2 u3 u4 u5 u6 u7 u8 u9 u10 = some cs9 → cs9.1 = cs1.1) (cs1 : CS) (u0 : Nat) (u1 : Int32) (u2 : Int32) (u3 : Int32) (u4 : Int32) (u5 : Int32) (u6 : Int32) (u7 : Int32) (u8 : Int32) (u9 : Int32) (u10 : Int32) (y0 : Int32) (cs9 : CS) (h : c_X8_mergeRuns_b103 F rc6 rc42 cs1 u0 u1 u2 u3 u4 u5 u6 u7 u8 u9 u10 y0 = some cs9) : cs9.1 = cs1.1 := by
  unfold c_X8_mergeRuns_b103 at h
  have hq : cs1.1 = cs1.1 := rfl
  replace h := ob h; obtain ⟨v_1, hv_1, h⟩ := h
  by_cases c_2 : y0 = 0
  · skip
    replace h := (if_pos c_2).symm.trans h
    replace h := ob h; obtain ⟨v_3, hv_3, h⟩ := h
    replace h := ob h; obtain ⟨v_4, hv_4, h⟩ := h
    obtain k9 := mo_c_X8_mergeRuns_b133 F rc6 hrc6 rc42 hrc42 cs1 u0 u1 u2 u3 u4 u5 u6 u7 u8 u9 u10 y0 v_4 u5 u0 v_1 cs9 h
    exact k9.trans hq
  · skip
    replace h := (if_neg c_2).symm.trans h
    replace h := ob h; obtain ⟨v_5, hv_5, h⟩ := h
    replace h := ob h; obtain ⟨v_6, hv_6, h⟩ := h
    obtain k9 := mo_c_X8_mergeRuns_b133 F rc6 hrc6 rc42 hrc42 cs1 u0 u1 u2 u3 u4 u5 u6 u7 u8 u9 u10 y0 v_6 u5 u0 v_1 cs9 h
    exact k9.trans hq
theorem mo_c_X8_mergeRuns_b98 (F : Nat) (rc6 : CS → Nat → Int32 → Int32 → Int32 → Int32 → Int32 → Int32 → Option CS) (hrc6 : ∀ (cs1 : CS) (u0 : Nat) (u1 : Int32) (u2 : Int32) (u3 : Int32) (u4 : Int32) (u5 : Int32) (u6 : Int32) (cs9 : CS), rc6 cs1 u0 u1 u2 u3 u4 u5 u6 = some cs9 → cs9.1 = cs1.1) (rc42 : CS → Nat → Int32 → Int32 → Int32 → Int32 → Int32 → Int32 → Int32 → Int32 → Int32 → Int32 → Option CS) (hrc42 : ∀ (cs1 : CS) (u0 : Nat) (u1 : Int32) (u2 : Int32) (u3 : Int32) (u4 : Int32) (u5 : Int32) (u6 : Int32) (u7 : Int32) (u8 : Int32) (u9 : Int32) (u10 : Int32) (cs9 : CS), rc42 cs1 u0 u1 u2 u3 u4 u5 u6 u7 u8 u9 u10 = some cs9 → cs9.1 = cs1.1) (cs1 : CS) (u0 : Nat) (u1 : Int32) (u2 : Int32) (u3 : Int32) (u4 : Int32) (u5 : Int32) (u6 : Int32) (u7 : Int32) (u8 : Int32) (u9 : Int32) (u10 : Int32) (cs9 : CS) (h : c_X8_mergeRuns_b98 F rc6 rc42 cs1 u0 u1 u2 u3 u4 u5 u6 u7 u8 u9 u10 = some cs9) : cs9.1 = cs1.1 := by
  unfold c_X8_mergeRuns_b98 at h
  have hq : cs1.1 = cs1.1 := rfl
  obtain k9 := mo_c_X8_mergeRuns_b103 F rc6 hrc6 rc42 hrc42 cs1 u0 u1 u2 u3 u4 u5 u6 u7 u8 u9 u10 1 cs9 h
  exact k9.trans hq
theorem mo_c_X8_mergeRuns_b102 (F : Nat) (rc6 : CS → Nat → Int32 → Int32 → Int32 → Int32 → Int32 → Int32 → Option CS) (hrc6 : ∀ (cs1 : CS) (u0 : Nat) (u1 : Int32) (u2 : Int32) (u3 : Int32) (u4 : Int32) (u5 : Int32) (u6 : Int32) (cs9 : CS), rc6 cs1 u0 u1 u2 u3 u4 u5 u6 = some cs9 → cs9.1 = cs1.1) (rc42 : CS → Nat → Int32 → Int32 → Int32 → Int32 → Int32 → Int32 → Int32 → Int32 → Int32 → Int32 → Option CS) (hrc42 : ∀ (cs1 : CS) (u0 : Nat) (u1 : Int32) (u2 : Int32) (u3 : Int32) (u4 : Int32) (u5 : Int32) (u6 : Int32) (u7 : Int32) (u8 : Int32) (u9 : Int32) (u10 : Int32) (cs9 : CS), rc42 cs1 u0 u1 u2 u3 u4 u5 u6 u7 u8 u9 u10 = some cs9 → cs9.1 = cs1.1) (cs1 : CS) (u0 : Nat) (u1 : Int32) (u2 : Int32) (u3 : Int32) (u4 : Int32) (u5 : Int32) (u6 : Int32) (u7 : Int32) (u8 : Int32) (u9 : Int32) (u10 : Int32) (cs9 : CS) (h : c_X8_mergeRuns_b102 F rc6 rc42 cs1 u0 u1 u2 u3 u4 u5 u6 u7 u8 u9 u10 = some cs9) : cs9.1 = cs1.1 := by
  unfold c_X8_mergeRuns_b102 at h
  have hq : cs1.1 = cs1.1 := rfl
  obtain k9 := mo_c_X8_mergeRuns_b103 F rc6 hrc6 rc42 hrc42 cs1 u0 u1 u2 u3 u4 u5 u6 u7 u8 u9 u10 0 cs9 h
  exact k9.trans hq
theorem mo_c_X8_mergeRuns_L42 (F : Nat) (rc6 : CS → Nat → Int32 → Int32 → Int32 → Int32 → Int32 → Int32 → Option CS) (hrc6 : ∀ (cs1 : CS) (u0 : Nat) (u1 : Int32) (u2 : Int32) (u3 : Int32) (u4 : Int32) (u5 : Int32) (u6 : Int32) (cs9 : CS), rc6 cs1 u0 u1 u2 u3 u4 u5 u6 = some cs9 → cs9.1 = cs1.1) : ∀ (lf_42 : Nat) (cs1 : CS) (u0 : Nat) (u1 : Int32) (u2 : Int32) (u3 : Int32) (u4 : Int32) (u5 : Int32) (u6 : Int32) (u7 : Int32) (u8 : Int32) (u9 : Int32) (u10 : Int32) (cs9 : CS), c_X8_mergeRuns_L42 F rc6 lf_42 cs1 u0 u1 u2 u3 u4 u5 u6 u7 u8 u9 u10 = some cs9 → cs9.1 = cs1.1 := by
  intro lf_42
  induction lf_42 with
  | zero => intro cs1 u0 u1 u2 u3 u4 u5 u6 u7 u8 u9 u10 cs9 h; cases (show (none : Option CS) = _ from h)
  | succ lf_42 ih_42 =>
    intro cs1 u0 u1 u2 u3 u4 u5 u6 u7 u8 u9 u10 cs9 h
    rw [c_X8_mergeRuns_L42] at h
    have hq : cs1.1 = cs1.1 := rfl
    by_cases c_1 : u8 ≤ u5
    · skip
      replace h := (if_pos c_1).symm.trans h
      obtain k9 := mo_c_X8_mergeRuns_b170 F rc6 hrc6 cs1 u0 u1 u2 u3 u4 u5 u6 cs9 h
      exact k9.trans hq
    · skip
      replace h := (if_neg c_1).symm.trans h
      replace h := ob h; obtain ⟨v_2, hv_2, h⟩ := h
      replace h := ob h; obtain ⟨v_3, hv_3, h⟩ := h
      by_cases c_4 : v_3 ≤ u5
      · skip
        replace h := (if_pos c_4).symm.trans h
        obtain k9 := mo_c_X8_mergeRuns_b170 F rc6 hrc6 cs1 u0 u1 u2 u3 u4 u5 u6 cs9 h
        exact k9.trans hq
      · skip
        replace h := (if_neg c_4).symm.trans h
        by_cases c_5 : u7 ≤ u9
        · skip
          replace h := (if_pos c_5).symm.trans h
          obtain k9 := mo_c_X8_mergeRuns_b98 F rc6 hrc6 (c_X8_mergeRuns_L42 F rc6 lf_42) ih_42 cs1 u0 u1 u2 u3 u4 u5 u6 u7 u8 u9 u10 cs9 h
          exact k9.trans hq
        · skip
          replace h := (if_neg c_5).symm.trans h
          by_cases c_6 : u8 ≤ u10
          · skip
            replace h := (if_pos c_6).symm.trans h
            obtain k9 := mo_c_X8_mergeRuns_b102 F rc6 hrc6 (c_X8_mergeRuns_L42 F rc6 lf_42) ih_42 cs1 u0 u1 u2 u3 u4 u5 u6 u7 u8 u9 u10 cs9 h
            exact k9.trans hq
          · skip
            replace h := (if_neg c_6).symm.trans h
            replace h := ob h; obtain ⟨v_7, hv_7, h⟩ := h
            replace h := ob h; obtain ⟨v_8, hv_8, h⟩ := h
            replace h := ob h; obtain ⟨v_9, hv_9, h⟩ := h
            replace h := ob h; obtain ⟨v_10, hv_10, h⟩ := h
            replace h := ob h; obtain ⟨w_12, hw_12, h⟩ := h
            replace h := ob h; obtain ⟨v_11, hv_11, h⟩ := h
            by_cases c_13 : 0 ≤ v_11
            · skip
              replace h := (if_pos c_13).symm.trans h
              obtain k9 := mo_c_X8_mergeRuns_b102 F rc6 hrc6 (c_X8_mergeRuns_L42 F rc6 lf_42) ih_42 cs1 u0 u1 u2 u3 u4 u5 u6 u7 u8 u9 u10 cs9 h
              exact k9.trans hq
            · skip
              replace h := (if_neg c_13).symm.trans h
              obtain k9 := mo_c_X8_mergeRuns_b98 F rc6 hrc6 (c_X8_mergeRuns_L42 F rc6 lf_42) ih_42 cs1 u0 u1 u2 u3 u4 u5 u6 u7 u8 u9 u10 cs9 h
              exact k9.trans hq
theorem mo_c_X8_mergeRuns_L6 (F : Nat) : ∀ (lf_6 : Nat) (cs1 : CS) (u0 : Nat) (u1 : Int32) (u2 : Int32) (u3 : Int32) (u4 : Int32) (u5 : Int32) (u6 : Int32) (cs9 : CS), c_X8_mergeRuns_L6 F lf_6 cs1 u0 u1 u2 u3 u4 u5 u6 = some cs9 → cs9.1 = cs1.1 := by
  intro lf_6
  induction lf_6 with
  | zero => intro cs1 u0 u1 u2 u3 u4 u5 u6 cs9 h; cases (show (none : Option CS) = _ from h)
  | succ lf_6 ih_6 =>
    intro cs1 u0 u1 u2 u3 u4 u5 u6 cs9 h
    rw [c_X8_mergeRuns_L6] at h
    have hq : cs1.1 = cs1.1 := rfl
    by_cases c_1 : u2 ≤ u6
    · skip
      replace h := (if_pos c_1).symm.trans h
      replace h := ob h; obtain ⟨v_2, hv_2, h⟩ := h
      replace h := ob h; obtain ⟨cs_3, hv_3, h⟩ := h
      replace hq := (swp_1 hv_3).trans hq
      have h9 := Option.some.inj h
      exact (congrArg (fun z => z.1) h9).symm.trans hq
    · skip
      replace h := (if_neg c_1).symm.trans h
      obtain k9 := mo_c_X8_mergeRuns_L42 F (c_X8_mergeRuns_L6 F lf_6) ih_6 F cs1 u0 u1 u2 u3 u4 u5 u6 (if u2 < (u6 + u1) then u2 else u6 + u1) (if u2 < (u6 + (2 * u1)) then u2 else u6 + (2 * u1)) u6 (if u2 < (u6 + u1) then u2 else u6 + u1) cs9 h
      exact k9.trans hq
theorem mo_c_X8_mergeRuns (F : Nat) (cs : CS) (x0 : Nat) (x1 : Int32) (x2 : Int32) (x3 : Int32) (x4 : Int32) (cs9 : CS) (h : c_X8_mergeRuns F cs x0 x1 x2 x3 x4 = some cs9) : cs9.1 = cs.1 := by
  unfold c_X8_mergeRuns at h
  have hq : cs.1 = cs.1 := rfl
  obtain k9 := mo_c_X8_mergeRuns_L6 F F cs x0 x1 x2 x3 x4 0 0 cs9 h
  exact k9.trans hq
theorem dX1_init_0 : decode cX1_init 0 = .ok (.aload_n 0, 1) := by decide +kernel
theorem dX1_init_1 : decode cX1_init 1 = .ok (.invokespecial 3, 3) := by decide +kernel
theorem dX1_init_4 : decode cX1_init 4 = .ok (.iload_n 1, 1) := by decide +kernel
theorem dX1_init_5 : decode cX1_init 5 = .ok (.iconst 0, 1) := by decide +kernel
theorem dX1_init_6 : decode cX1_init 6 = .ok (.invokestatic 9, 3) := by decide +kernel
theorem dX1_init_9 : decode cX1_init 9 = .ok (.istore_n 2, 1) := by decide +kernel
theorem dX1_init_10 : decode cX1_init 10 = .ok (.aload_n 0, 1) := by decide +kernel
theorem dX1_init_11 : decode cX1_init 11 = .ok (.iload_n 2, 1) := by decide +kernel
theorem dX1_init_12 : decode cX1_init 12 = .ok (.newarray .int, 2) := by decide +kernel
theorem dX1_init_14 : decode cX1_init 14 = .ok (.putfield 15, 3) := by decide +kernel
theorem dX1_init_17 : decode cX1_init 17 = .ok (.aload_n 0, 1) := by decide +kernel
theorem dX1_init_18 : decode cX1_init 18 = .ok (.iload_n 2, 1) := by decide +kernel
theorem dX1_init_19 : decode cX1_init 19 = .ok (.newarray .int, 2) := by decide +kernel
theorem dX1_init_21 : decode cX1_init 21 = .ok (.putfield 21, 3) := by decide +kernel
theorem dX1_init_24 : decode cX1_init 24 = .ok (.aload_n 0, 1) := by decide +kernel
theorem dX1_init_25 : decode cX1_init 25 = .ok (.iload_n 2, 1) := by decide +kernel
theorem dX1_init_26 : decode cX1_init 26 = .ok (.newarray .int, 2) := by decide +kernel
theorem dX1_init_28 : decode cX1_init 28 = .ok (.putfield 24, 3) := by decide +kernel
theorem dX1_init_31 : decode cX1_init 31 = .ok (.aload_n 0, 1) := by decide +kernel
theorem dX1_init_32 : decode cX1_init 32 = .ok (.iload_n 2, 1) := by decide +kernel
theorem dX1_init_33 : decode cX1_init 33 = .ok (.newarray .int, 2) := by decide +kernel
theorem dX1_init_35 : decode cX1_init 35 = .ok (.putfield 27, 3) := by decide +kernel
theorem dX1_init_38 : decode cX1_init 38 = .ok (.aload_n 0, 1) := by decide +kernel
theorem dX1_init_39 : decode cX1_init 39 = .ok (.iload_n 2, 1) := by decide +kernel
theorem dX1_init_40 : decode cX1_init 40 = .ok (.newarray .long, 2) := by decide +kernel
theorem dX1_init_42 : decode cX1_init 42 = .ok (.putfield 30, 3) := by decide +kernel
theorem dX1_init_45 : decode cX1_init 45 = .ok (.aload_n 0, 1) := by decide +kernel
theorem dX1_init_46 : decode cX1_init 46 = .ok (.iload_n 2, 1) := by decide +kernel
theorem dX1_init_47 : decode cX1_init 47 = .ok (.newarray .long, 2) := by decide +kernel
theorem dX1_init_49 : decode cX1_init 49 = .ok (.putfield 34, 3) := by decide +kernel
theorem dX1_init_52 : decode cX1_init 52 = .ok (.aload_n 0, 1) := by decide +kernel
theorem dX1_init_53 : decode cX1_init 53 = .ok (.iload_n 2, 1) := by decide +kernel
theorem dX1_init_54 : decode cX1_init 54 = .ok (.newarray .int, 2) := by decide +kernel
theorem dX1_init_56 : decode cX1_init 56 = .ok (.putfield 37, 3) := by decide +kernel
theorem dX1_init_59 : decode cX1_init 59 = .ok (.aload_n 0, 1) := by decide +kernel
theorem dX1_init_60 : decode cX1_init 60 = .ok (.iload_n 2, 1) := by decide +kernel
theorem dX1_init_61 : decode cX1_init 61 = .ok (.newarray .int, 2) := by decide +kernel
theorem dX1_init_63 : decode cX1_init 63 = .ok (.putfield 40, 3) := by decide +kernel
theorem dX1_init_66 : decode cX1_init 66 = .ok (.aload_n 0, 1) := by decide +kernel
theorem dX1_init_67 : decode cX1_init 67 = .ok (.iload_n 2, 1) := by decide +kernel
theorem dX1_init_68 : decode cX1_init 68 = .ok (.newarray .int, 2) := by decide +kernel
theorem dX1_init_70 : decode cX1_init 70 = .ok (.putfield 43, 3) := by decide +kernel
theorem dX1_init_73 : decode cX1_init 73 = .ok (.aload_n 0, 1) := by decide +kernel
theorem dX1_init_74 : decode cX1_init 74 = .ok (.iload_n 2, 1) := by decide +kernel
theorem dX1_init_75 : decode cX1_init 75 = .ok (.newarray .long, 2) := by decide +kernel
theorem dX1_init_77 : decode cX1_init 77 = .ok (.putfield 46, 3) := by decide +kernel
theorem dX1_init_80 : decode cX1_init 80 = .ok (.aload_n 0, 1) := by decide +kernel
theorem dX1_init_81 : decode cX1_init 81 = .ok (.iload_n 2, 1) := by decide +kernel
theorem dX1_init_82 : decode cX1_init 82 = .ok (.newarray .byte, 2) := by decide +kernel
theorem dX1_init_84 : decode cX1_init 84 = .ok (.putfield 49, 3) := by decide +kernel
theorem dX1_init_87 : decode cX1_init 87 = .ok (.return_, 1) := by decide +kernel
def c_X1_init_b87 (F : Nat) (cs1 : CS) : Option CS := some cs1
def c_X1_init_b80 (F : Nat) (cs1 : CS) (u0 : Nat) (u2 : Int32) : Option CS := Option.bind (nwA cs1 2 75 u0 u2) fun cs_1 => c_X1_init_b87 F cs_1
def c_X1_init_b73 (F : Nat) (cs1 : CS) (u0 : Nat) (u2 : Int32) : Option CS := Option.bind (nwA cs1 2 74 u0 u2) fun cs_2 => c_X1_init_b80 F cs_2 u0 u2
def c_X1_init_b66 (F : Nat) (cs1 : CS) (u0 : Nat) (u2 : Int32) : Option CS := Option.bind (nwA cs1 2 73 u0 u2) fun cs_3 => c_X1_init_b73 F cs_3 u0 u2
def c_X1_init_b59 (F : Nat) (cs1 : CS) (u0 : Nat) (u2 : Int32) : Option CS := Option.bind (nwA cs1 2 72 u0 u2) fun cs_4 => c_X1_init_b66 F cs_4 u0 u2
def c_X1_init_b52 (F : Nat) (cs1 : CS) (u0 : Nat) (u2 : Int32) : Option CS := Option.bind (nwA cs1 2 71 u0 u2) fun cs_5 => c_X1_init_b59 F cs_5 u0 u2
def c_X1_init_b45 (F : Nat) (cs1 : CS) (u0 : Nat) (u2 : Int32) : Option CS := Option.bind (nwA cs1 2 70 u0 u2) fun cs_6 => c_X1_init_b52 F cs_6 u0 u2
def c_X1_init_b38 (F : Nat) (cs1 : CS) (u0 : Nat) (u2 : Int32) : Option CS := Option.bind (nwA cs1 2 69 u0 u2) fun cs_7 => c_X1_init_b45 F cs_7 u0 u2
def c_X1_init_b31 (F : Nat) (cs1 : CS) (u0 : Nat) (u2 : Int32) : Option CS := Option.bind (nwA cs1 2 68 u0 u2) fun cs_8 => c_X1_init_b38 F cs_8 u0 u2
def c_X1_init_b24 (F : Nat) (cs1 : CS) (u0 : Nat) (u2 : Int32) : Option CS := Option.bind (nwA cs1 2 67 u0 u2) fun cs_9 => c_X1_init_b31 F cs_9 u0 u2
def c_X1_init_b17 (F : Nat) (cs1 : CS) (u0 : Nat) (u2 : Int32) : Option CS := Option.bind (nwA cs1 2 66 u0 u2) fun cs_10 => c_X1_init_b24 F cs_10 u0 u2
def c_X1_init (F : Nat) (cs : CS) (x0 : Nat) (x1 : Int32) : Option CS := Option.bind (nwA cs 2 65 x0 (if x1 < 0 then 0 else x1)) fun cs_11 => c_X1_init_b17 F cs_11 x0 (if x1 < 0 then 0 else x1)
theorem cw_X9_X1_init {R : Room} {s : State} {args : Array Value} {y0 : MethodName} {c0 : ByteArray} {n0 : Nat} {r0 : Option FieldType} (hts : ∀ w ∈ wsOf y0 c0 n0 r0, w.before args s = true) {fr mc ms : Nat} (h1 : fr + 1 ≤ R.frames) (h2 : 8 + (3 + 11) + 60 * fr ≤ R.locals) : CallB R s args RX9 23 yX1_init cX1_init 3 none (wsOf yX1_init cX1_init 3 none) ({ frames := fr, cells := mc, slots := ms, locals := 60 * fr } : Room) mc ms 1 ∧ yX1_init.name = "<init>" ∧ (Cond.instanceMethod yX1_init).before args s = true := cwI 1 hts (gd_all (in_I kc_X1_init)) rfl rfl rfl (hts _ (List.mem_cons_of_mem _ kw_189)) (hts _ (List.mem_cons_of_mem _ kw_611)) (hts _ (List.mem_cons_of_mem _ kw_365)) rfl (by decide +kernel) ⟨h1, h2⟩
theorem cw_X11_X1_init {R : Room} {s : State} {args : Array Value} {y0 : MethodName} {c0 : ByteArray} {n0 : Nat} {r0 : Option FieldType} (hts : ∀ w ∈ wsOf y0 c0 n0 r0, w.before args s = true) {fr mc ms : Nat} (h1 : fr + 1 ≤ R.frames) (h2 : 8 + (3 + 11) + 60 * fr ≤ R.locals) : CallB R s args RX11 52 yX1_init cX1_init 3 none (wsOf yX1_init cX1_init 3 none) ({ frames := fr, cells := mc, slots := ms, locals := 60 * fr } : Room) mc ms 1 ∧ yX1_init.name = "<init>" ∧ (Cond.instanceMethod yX1_init).before args s = true := cwI 1 hts (gd_all (in_I kc_X1_init)) rfl rfl rfl (hts _ (List.mem_cons_of_mem _ kw_189)) (hts _ (List.mem_cons_of_mem _ kw_364)) (hts _ (List.mem_cons_of_mem _ kw_365)) rfl (by decide +kernel) ⟨h1, h2⟩
theorem mo_c_X1_init_b87 (F : Nat) (cs1 : CS) (cs9 : CS) (h : c_X1_init_b87 F cs1 = some cs9) : kK cs1 ≤ kK cs9 ∧ kM cs1 ≤ kM cs9 := by
  unfold c_X1_init_b87 at h
  have h9 := Option.some.inj h
  have k9 := congrArg kK h9; have m9 := congrArg kM h9; exact ⟨by omega, by omega⟩
theorem mo_c_X1_init_b80 (F : Nat) (cs1 : CS) (u0 : Nat) (u2 : Int32) (cs9 : CS) (h : c_X1_init_b80 F cs1 u0 u2 = some cs9) : kK cs1 ≤ kK cs9 ∧ kM cs1 ≤ kM cs9 := by
  unfold c_X1_init_b80 at h
  replace h := ob h; obtain ⟨cs_11, hv_11, h⟩ := h
  obtain ⟨qk_11, qm_11⟩ := nwA_k hv_11
  obtain ⟨k9, m9⟩ := mo_c_X1_init_b87 F cs_11 cs9 h
  exact ⟨by omega, by omega⟩
theorem mo_c_X1_init_b73 (F : Nat) (cs1 : CS) (u0 : Nat) (u2 : Int32) (cs9 : CS) (h : c_X1_init_b73 F cs1 u0 u2 = some cs9) : kK cs1 ≤ kK cs9 ∧ kM cs1 ≤ kM cs9 := by
  unfold c_X1_init_b73 at h
  replace h := ob h; obtain ⟨cs_11, hv_11, h⟩ := h
  obtain ⟨qk_11, qm_11⟩ := nwA_k hv_11
  obtain ⟨k9, m9⟩ := mo_c_X1_init_b80 F cs_11 u0 u2 cs9 h
  exact ⟨by omega, by omega⟩
theorem mo_c_X1_init_b66 (F : Nat) (cs1 : CS) (u0 : Nat) (u2 : Int32) (cs9 : CS) (h : c_X1_init_b66 F cs1 u0 u2 = some cs9) : kK cs1 ≤ kK cs9 ∧ kM cs1 ≤ kM cs9 := by
  unfold c_X1_init_b66 at h
  replace h := ob h; obtain ⟨cs_11, hv_11, h⟩ := h
  obtain ⟨qk_11, qm_11⟩ := nwA_k hv_11
  obtain ⟨k9, m9⟩ := mo_c_X1_init_b73 F cs_11 u0 u2 cs9 h
  exact ⟨by omega, by omega⟩
theorem mo_c_X1_init_b59 (F : Nat) (cs1 : CS) (u0 : Nat) (u2 : Int32) (cs9 : CS) (h : c_X1_init_b59 F cs1 u0 u2 = some cs9) : kK cs1 ≤ kK cs9 ∧ kM cs1 ≤ kM cs9 := by
  unfold c_X1_init_b59 at h
  replace h := ob h; obtain ⟨cs_11, hv_11, h⟩ := h
  obtain ⟨qk_11, qm_11⟩ := nwA_k hv_11
  obtain ⟨k9, m9⟩ := mo_c_X1_init_b66 F cs_11 u0 u2 cs9 h
  exact ⟨by omega, by omega⟩
theorem mo_c_X1_init_b52 (F : Nat) (cs1 : CS) (u0 : Nat) (u2 : Int32) (cs9 : CS) (h : c_X1_init_b52 F cs1 u0 u2 = some cs9) : kK cs1 ≤ kK cs9 ∧ kM cs1 ≤ kM cs9 := by
  unfold c_X1_init_b52 at h
  replace h := ob h; obtain ⟨cs_11, hv_11, h⟩ := h
  obtain ⟨qk_11, qm_11⟩ := nwA_k hv_11
  obtain ⟨k9, m9⟩ := mo_c_X1_init_b59 F cs_11 u0 u2 cs9 h
  exact ⟨by omega, by omega⟩
theorem mo_c_X1_init_b45 (F : Nat) (cs1 : CS) (u0 : Nat) (u2 : Int32) (cs9 : CS) (h : c_X1_init_b45 F cs1 u0 u2 = some cs9) : kK cs1 ≤ kK cs9 ∧ kM cs1 ≤ kM cs9 := by
  unfold c_X1_init_b45 at h
  replace h := ob h; obtain ⟨cs_11, hv_11, h⟩ := h
  obtain ⟨qk_11, qm_11⟩ := nwA_k hv_11
  obtain ⟨k9, m9⟩ := mo_c_X1_init_b52 F cs_11 u0 u2 cs9 h
  exact ⟨by omega, by omega⟩
theorem mo_c_X1_init_b38 (F : Nat) (cs1 : CS) (u0 : Nat) (u2 : Int32) (cs9 : CS) (h : c_X1_init_b38 F cs1 u0 u2 = some cs9) : kK cs1 ≤ kK cs9 ∧ kM cs1 ≤ kM cs9 := by
  unfold c_X1_init_b38 at h
  replace h := ob h; obtain ⟨cs_11, hv_11, h⟩ := h
  obtain ⟨qk_11, qm_11⟩ := nwA_k hv_11
  obtain ⟨k9, m9⟩ := mo_c_X1_init_b45 F cs_11 u0 u2 cs9 h
  exact ⟨by omega, by omega⟩
theorem mo_c_X1_init_b31 (F : Nat) (cs1 : CS) (u0 : Nat) (u2 : Int32) (cs9 : CS) (h : c_X1_init_b31 F cs1 u0 u2 = some cs9) : kK cs1 ≤ kK cs9 ∧ kM cs1 ≤ kM cs9 := by
  unfold c_X1_init_b31 at h
  replace h := ob h; obtain ⟨cs_11, hv_11, h⟩ := h
  obtain ⟨qk_11, qm_11⟩ := nwA_k hv_11
  obtain ⟨k9, m9⟩ := mo_c_X1_init_b38 F cs_11 u0 u2 cs9 h
  exact ⟨by omega, by omega⟩
theorem mo_c_X1_init_b24 (F : Nat) (cs1 : CS) (u0 : Nat) (u2 : Int32) (cs9 : CS) (h : c_X1_init_b24 F cs1 u0 u2 = some cs9) : kK cs1 ≤ kK cs9 ∧ kM cs1 ≤ kM cs9 := by
  unfold c_X1_init_b24 at h
  replace h := ob h; obtain ⟨cs_11, hv_11, h⟩ := h
  obtain ⟨qk_11, qm_11⟩ := nwA_k hv_11
  obtain ⟨k9, m9⟩ := mo_c_X1_init_b31 F cs_11 u0 u2 cs9 h
  exact ⟨by omega, by omega⟩
theorem mo_c_X1_init_b17 (F : Nat) (cs1 : CS) (u0 : Nat) (u2 : Int32) (cs9 : CS) (h : c_X1_init_b17 F cs1 u0 u2 = some cs9) : kK cs1 ≤ kK cs9 ∧ kM cs1 ≤ kM cs9 := by
  unfold c_X1_init_b17 at h
  replace h := ob h; obtain ⟨cs_11, hv_11, h⟩ := h
  obtain ⟨qk_11, qm_11⟩ := nwA_k hv_11
  obtain ⟨k9, m9⟩ := mo_c_X1_init_b24 F cs_11 u0 u2 cs9 h
  exact ⟨by omega, by omega⟩
theorem mo_c_X1_init (F : Nat) (cs : CS) (x0 : Nat) (x1 : Int32) (cs9 : CS) (h : c_X1_init F cs x0 x1 = some cs9) : kK cs ≤ kK cs9 ∧ kM cs ≤ kM cs9 := by
  unfold c_X1_init at h
  replace h := ob h; obtain ⟨cs_11, hv_11, h⟩ := h
  obtain ⟨qk_11, qm_11⟩ := nwA_k hv_11
  obtain ⟨k9, m9⟩ := mo_c_X1_init_b17 F cs_11 x0 (if x1 < 0 then 0 else x1) cs9 h
  exact ⟨by omega, by omega⟩
set_option maxHeartbeats 4000000 in
set_option maxRecDepth 100000 in
theorem sa_X1_init (l : Launch) (dC : Nat → ClassId) (dI : Nat → Nat → Nat) (cB cI cJ cZ cS cO : ClassId) (b : Nat) (K V : Nat → Nat) (fz : Value) (F : Nat) (cs : CS) (x0 : Nat) (x1 : Int32) (cs9 : CS) (hf : c_X1_init F cs x0 x1 = some cs9) : oaV l dC dI cB cI cJ cZ cS cO b K V fz yX1_init (wsOf yX1_init cX1_init 3 none) (1) [.ref (b + x0), .int x1] cs cs9 := by
  obtain ⟨kb9, mb9⟩ := mo_c_X1_init F cs x0 x1 cs9 hf
  refine ⟨⟨kb9, mb9⟩, ?_⟩
  refine Met.ofW (cc := cX1_init) (maxL := 3) (ret := none) (by decide) rfl ?_
  intro p e s m args below meth c s₁ B hml hv
  obtain ⟨rfl, hsz, hP, hK, hD0, hZ⟩ := hv
  have hx := B.exec
  have hb := B.bytes
  have hr := B.returns
  have hts := atoms_spec (ws := (wsOf yX1_init cX1_init 3 none)) B.pre
  have hown : s.vm.findClass RX1 = some m.cls := findClass_of_methodNamed B.named
  have hin : meth.name = "<init>" := (name_of_methodNamed B.named B.method).1
  have hlocks := B.notSynchronized
  have hD := hD0.self (sz := b + kK cs)
  generalize hAe : va_A (cW cB cI cJ cZ cS cO b cs) (b + kK cs) = A at hD hZ ⊢
  have hA : ∀ q : Nat, s.heap.size ≤ q → A q := fun q h => by rw [← hAe]; exact Or.inr (by omega)
  have hS : va_S A s.heap s.heap [] := va_S.rf
  have hG : va_S A s.heap s.heap [] := va_S.rf
  have hgz : s.heap.size = b + kK cs := hsz
  have hl := lv_entry ([.ref (b + x0), .int x1]) (n := 3) (Nat.le_of_ble_eq_true rfl)
  rw [lg_entry_eq]
  generalize (lg_sl ([.ref (b + x0), .int x1]) ++ List.replicate (3 - (lg_sl ([.ref (b + x0), .int x1])).length) Slot.unset).toArray = ls at hl ⊢
  have hl : lv_has ls 3 [(0, .ref (b + x0)), (1, .int x1)] := hl
  have B_87 : ∀ (cs1 : CS) , c_X1_init_b87 F cs1 = some cs9 → kK cs ≤ kK cs1 → kM cs ≤ kM cs1 → ∀ (Gh H : Heap) (locs : List Loc) (ls : Array Slot), va_P (dC, dI) vwCl (cW cB cI cJ cZ cS cO b cs1) H → va_D A (cW cB cI cJ cZ cS cO b cs1) → va_S A s.heap Gh [] → Gh.size = b + kK cs1 → va_S A Gh H locs → lv_has ls 3 [] → W p l e (headSpec (wsOf yX1_init cX1_init 3 none) ({ frames := 1, cells := kK cs9 - kK cs, slots := kM cs9 - kM cs, locals := 60 * (1) } : Room)).room s m ([.ref (b + x0), .int x1] : List Value).toArray below meth c H locs (kK cs1 - kK cs) (kM cs1 - kM cs) (MQ below (va_Qv (fun (_ : Unit) => True) (fun _ t_ => va_P (dC, dI) vwCl (cW cB cI cJ cZ cS cO b cs9) t_.heap ∧ va_D A (cW cB cI cJ cZ cS cO b cs9) ∧ b + kK cs9 ≤ t_.heap.size) A) ([.ref (b + x0), .int x1] : List Value).toArray s (kK cs9 - kK cs) (kM cs9 - kM cs) A) (F0 m 87 ls []) := by
    intro cs1  h hmk hmm Gh H locs ls hP hD hG hgz hS hl
    obtain ⟨kb9, mb9⟩ := mo_c_X1_init_b87 F cs1  cs9 h
    unfold c_X1_init_b87 at h
    have e1 := Option.some.inj h
    rw [e1] at hP hD
    have e3 := congrArg kK e1
    have e4 := congrArg kM e1
    refine W_cnt (c2 := kK cs9 - kK cs) (n2 := kM cs9 - kM cs) (by omega) (by omega) ?_
    exact W.vret hx hb hr (fun t_ ht hW => ⟨⟨(), rfl, trivial, by rw [ht]; exact hP, hD, by rw [ht]; have := hS.1; omega⟩, (hG.comp hS).F ht⟩) (hG.comp hS).2.2 dX1_init_87
  have B_80 : ∀ (cs1 : CS) (u0 : Nat) (u2 : Int32), c_X1_init_b80 F cs1 u0 u2 = some cs9 → kK cs ≤ kK cs1 → kM cs ≤ kM cs1 → ∀ (Gh H : Heap) (locs : List Loc) (ls : Array Slot), va_P (dC, dI) vwCl (cW cB cI cJ cZ cS cO b cs1) H → va_D A (cW cB cI cJ cZ cS cO b cs1) → va_S A s.heap Gh [] → Gh.size = b + kK cs1 → va_S A Gh H locs → lv_has ls 3 [(0, .ref (b + u0)), (2, .int u2)] → W p l e (headSpec (wsOf yX1_init cX1_init 3 none) ({ frames := 1, cells := kK cs9 - kK cs, slots := kM cs9 - kM cs, locals := 60 * (1) } : Room)).room s m ([.ref (b + x0), .int x1] : List Value).toArray below meth c H locs (kK cs1 - kK cs) (kM cs1 - kM cs) (MQ below (va_Qv (fun (_ : Unit) => True) (fun _ t_ => va_P (dC, dI) vwCl (cW cB cI cJ cZ cS cO b cs9) t_.heap ∧ va_D A (cW cB cI cJ cZ cS cO b cs9) ∧ b + kK cs9 ≤ t_.heap.size) A) ([.ref (b + x0), .int x1] : List Value).toArray s (kK cs9 - kK cs) (kM cs9 - kM cs) A) (F0 m 80 ls []) := by
    intro cs1 u0 u2 h hmk hmm Gh H locs ls hP hD hG hgz hS hl
    obtain ⟨kb9, mb9⟩ := mo_c_X1_init_b80 F cs1 u0 u2 cs9 h
    unfold c_X1_init_b80 at h
    refine lv_aload_n hx hb dX1_init_80 rfl (lv_at hl 0 rfl) ?_
    refine lv_iload_n hx hb dX1_init_81 rfl (lv_at hl 1 rfl) ?_
    replace h := ob h; obtain ⟨cs_1, hv_1, h⟩ := h
    obtain ⟨qk_1, qm_1⟩ := nwA_k hv_1
    obtain ⟨k9_1, m9_1⟩ := mo_c_X1_init_b87 F cs_1 cs9 h
    refine nar_X1_49 hx hb hts hown hK hP hD hS hG hA (by omega) (by omega) hin ⟨by show kK cs1 - kK cs + 1 ≤ kK cs9 - kK cs; omega, by show kM cs1 - kM cs + u2.toNatClampNeg ≤ kM cs9 - kM cs; omega⟩ hv_1 dX1_init_82 dX1_init_84 (fun H locs hP hD hG hgz hS => ?_)
    refine W_cnt (c2 := kK cs_1 - kK cs) (n2 := kM cs_1 - kM cs) (by omega) (by omega) ?_
    exact B_87 cs_1 h (by omega) (by omega) _ _ _ _ hP hD hG (by omega) hS (lv_sub hl [] rfl)
  have B_73 : ∀ (cs1 : CS) (u0 : Nat) (u2 : Int32), c_X1_init_b73 F cs1 u0 u2 = some cs9 → kK cs ≤ kK cs1 → kM cs ≤ kM cs1 → ∀ (Gh H : Heap) (locs : List Loc) (ls : Array Slot), va_P (dC, dI) vwCl (cW cB cI cJ cZ cS cO b cs1) H → va_D A (cW cB cI cJ cZ cS cO b cs1) → va_S A s.heap Gh [] → Gh.size = b + kK cs1 → va_S A Gh H locs → lv_has ls 3 [(0, .ref (b + u0)), (2, .int u2)] → W p l e (headSpec (wsOf yX1_init cX1_init 3 none) ({ frames := 1, cells := kK cs9 - kK cs, slots := kM cs9 - kM cs, locals := 60 * (1) } : Room)).room s m ([.ref (b + x0), .int x1] : List Value).toArray below meth c H locs (kK cs1 - kK cs) (kM cs1 - kM cs) (MQ below (va_Qv (fun (_ : Unit) => True) (fun _ t_ => va_P (dC, dI) vwCl (cW cB cI cJ cZ cS cO b cs9) t_.heap ∧ va_D A (cW cB cI cJ cZ cS cO b cs9) ∧ b + kK cs9 ≤ t_.heap.size) A) ([.ref (b + x0), .int x1] : List Value).toArray s (kK cs9 - kK cs) (kM cs9 - kM cs) A) (F0 m 73 ls []) := by
    intro cs1 u0 u2 h hmk hmm Gh H locs ls hP hD hG hgz hS hl
    obtain ⟨kb9, mb9⟩ := mo_c_X1_init_b73 F cs1 u0 u2 cs9 h
    unfold c_X1_init_b73 at h
    refine lv_aload_n hx hb dX1_init_73 rfl (lv_at hl 0 rfl) ?_
    refine lv_iload_n hx hb dX1_init_74 rfl (lv_at hl 1 rfl) ?_
    replace h := ob h; obtain ⟨cs_2, hv_2, h⟩ := h
    obtain ⟨qk_2, qm_2⟩ := nwA_k hv_2
    obtain ⟨k9_2, m9_2⟩ := mo_c_X1_init_b80 F cs_2 u0 u2 cs9 h
    refine nar_X1_46 hx hb hts hown hK hP hD hS hG hA (by omega) (by omega) hin ⟨by show kK cs1 - kK cs + 1 ≤ kK cs9 - kK cs; omega, by show kM cs1 - kM cs + u2.toNatClampNeg ≤ kM cs9 - kM cs; omega⟩ hv_2 dX1_init_75 dX1_init_77 (fun H locs hP hD hG hgz hS => ?_)
    refine W_cnt (c2 := kK cs_2 - kK cs) (n2 := kM cs_2 - kM cs) (by omega) (by omega) ?_
    exact B_80 cs_2 u0 u2 h (by omega) (by omega) _ _ _ _ hP hD hG (by omega) hS (lv_sub hl [0, 1] rfl)
  have B_66 : ∀ (cs1 : CS) (u0 : Nat) (u2 : Int32), c_X1_init_b66 F cs1 u0 u2 = some cs9 → kK cs ≤ kK cs1 → kM cs ≤ kM cs1 → ∀ (Gh H : Heap) (locs : List Loc) (ls : Array Slot), va_P (dC, dI) vwCl (cW cB cI cJ cZ cS cO b cs1) H → va_D A (cW cB cI cJ cZ cS cO b cs1) → va_S A s.heap Gh [] → Gh.size = b + kK cs1 → va_S A Gh H locs → lv_has ls 3 [(0, .ref (b + u0)), (2, .int u2)] → W p l e (headSpec (wsOf yX1_init cX1_init 3 none) ({ frames := 1, cells := kK cs9 - kK cs, slots := kM cs9 - kM cs, locals := 60 * (1) } : Room)).room s m ([.ref (b + x0), .int x1] : List Value).toArray below meth c H locs (kK cs1 - kK cs) (kM cs1 - kM cs) (MQ below (va_Qv (fun (_ : Unit) => True) (fun _ t_ => va_P (dC, dI) vwCl (cW cB cI cJ cZ cS cO b cs9) t_.heap ∧ va_D A (cW cB cI cJ cZ cS cO b cs9) ∧ b + kK cs9 ≤ t_.heap.size) A) ([.ref (b + x0), .int x1] : List Value).toArray s (kK cs9 - kK cs) (kM cs9 - kM cs) A) (F0 m 66 ls []) := by
    intro cs1 u0 u2 h hmk hmm Gh H locs ls hP hD hG hgz hS hl
    obtain ⟨kb9, mb9⟩ := mo_c_X1_init_b66 F cs1 u0 u2 cs9 h
    unfold c_X1_init_b66 at h
    refine lv_aload_n hx hb dX1_init_66 rfl (lv_at hl 0 rfl) ?_
    refine lv_iload_n hx hb dX1_init_67 rfl (lv_at hl 1 rfl) ?_
    replace h := ob h; obtain ⟨cs_3, hv_3, h⟩ := h
    obtain ⟨qk_3, qm_3⟩ := nwA_k hv_3
    obtain ⟨k9_3, m9_3⟩ := mo_c_X1_init_b73 F cs_3 u0 u2 cs9 h
    refine nar_X1_43 hx hb hts hown hK hP hD hS hG hA (by omega) (by omega) hin ⟨by show kK cs1 - kK cs + 1 ≤ kK cs9 - kK cs; omega, by show kM cs1 - kM cs + u2.toNatClampNeg ≤ kM cs9 - kM cs; omega⟩ hv_3 dX1_init_68 dX1_init_70 (fun H locs hP hD hG hgz hS => ?_)
    refine W_cnt (c2 := kK cs_3 - kK cs) (n2 := kM cs_3 - kM cs) (by omega) (by omega) ?_
    exact B_73 cs_3 u0 u2 h (by omega) (by omega) _ _ _ _ hP hD hG (by omega) hS (lv_sub hl [0, 1] rfl)
  have B_59 : ∀ (cs1 : CS) (u0 : Nat) (u2 : Int32), c_X1_init_b59 F cs1 u0 u2 = some cs9 → kK cs ≤ kK cs1 → kM cs ≤ kM cs1 → ∀ (Gh H : Heap) (locs : List Loc) (ls : Array Slot), va_P (dC, dI) vwCl (cW cB cI cJ cZ cS cO b cs1) H → va_D A (cW cB cI cJ cZ cS cO b cs1) → va_S A s.heap Gh [] → Gh.size = b + kK cs1 → va_S A Gh H locs → lv_has ls 3 [(0, .ref (b + u0)), (2, .int u2)] → W p l e (headSpec (wsOf yX1_init cX1_init 3 none) ({ frames := 1, cells := kK cs9 - kK cs, slots := kM cs9 - kM cs, locals := 60 * (1) } : Room)).room s m ([.ref (b + x0), .int x1] : List Value).toArray below meth c H locs (kK cs1 - kK cs) (kM cs1 - kM cs) (MQ below (va_Qv (fun (_ : Unit) => True) (fun _ t_ => va_P (dC, dI) vwCl (cW cB cI cJ cZ cS cO b cs9) t_.heap ∧ va_D A (cW cB cI cJ cZ cS cO b cs9) ∧ b + kK cs9 ≤ t_.heap.size) A) ([.ref (b + x0), .int x1] : List Value).toArray s (kK cs9 - kK cs) (kM cs9 - kM cs) A) (F0 m 59 ls []) := by
    intro cs1 u0 u2 h hmk hmm Gh H locs ls hP hD hG hgz hS hl
    obtain ⟨kb9, mb9⟩ := mo_c_X1_init_b59 F cs1 u0 u2 cs9 h
    unfold c_X1_init_b59 at h
    refine lv_aload_n hx hb dX1_init_59 rfl (lv_at hl 0 rfl) ?_
    refine lv_iload_n hx hb dX1_init_60 rfl (lv_at hl 1 rfl) ?_
    replace h := ob h; obtain ⟨cs_4, hv_4, h⟩ := h
    obtain ⟨qk_4, qm_4⟩ := nwA_k hv_4
    obtain ⟨k9_4, m9_4⟩ := mo_c_X1_init_b66 F cs_4 u0 u2 cs9 h
    refine nar_X1_40 hx hb hts hown hK hP hD hS hG hA (by omega) (by omega) hin ⟨by show kK cs1 - kK cs + 1 ≤ kK cs9 - kK cs; omega, by show kM cs1 - kM cs + u2.toNatClampNeg ≤ kM cs9 - kM cs; omega⟩ hv_4 dX1_init_61 dX1_init_63 (fun H locs hP hD hG hgz hS => ?_)
    refine W_cnt (c2 := kK cs_4 - kK cs) (n2 := kM cs_4 - kM cs) (by omega) (by omega) ?_
    exact B_66 cs_4 u0 u2 h (by omega) (by omega) _ _ _ _ hP hD hG (by omega) hS (lv_sub hl [0, 1] rfl)
  have B_52 : ∀ (cs1 : CS) (u0 : Nat) (u2 : Int32), c_X1_init_b52 F cs1 u0 u2 = some cs9 → kK cs ≤ kK cs1 → kM cs ≤ kM cs1 → ∀ (Gh H : Heap) (locs : List Loc) (ls : Array Slot), va_P (dC, dI) vwCl (cW cB cI cJ cZ cS cO b cs1) H → va_D A (cW cB cI cJ cZ cS cO b cs1) → va_S A s.heap Gh [] → Gh.size = b + kK cs1 → va_S A Gh H locs → lv_has ls 3 [(0, .ref (b + u0)), (2, .int u2)] → W p l e (headSpec (wsOf yX1_init cX1_init 3 none) ({ frames := 1, cells := kK cs9 - kK cs, slots := kM cs9 - kM cs, locals := 60 * (1) } : Room)).room s m ([.ref (b + x0), .int x1] : List Value).toArray below meth c H locs (kK cs1 - kK cs) (kM cs1 - kM cs) (MQ below (va_Qv (fun (_ : Unit) => True) (fun _ t_ => va_P (dC, dI) vwCl (cW cB cI cJ cZ cS cO b cs9) t_.heap ∧ va_D A (cW cB cI cJ cZ cS cO b cs9) ∧ b + kK cs9 ≤ t_.heap.size) A) ([.ref (b + x0), .int x1] : List Value).toArray s (kK cs9 - kK cs) (kM cs9 - kM cs) A) (F0 m 52 ls []) := by
    intro cs1 u0 u2 h hmk hmm Gh H locs ls hP hD hG hgz hS hl
    obtain ⟨kb9, mb9⟩ := mo_c_X1_init_b52 F cs1 u0 u2 cs9 h
    unfold c_X1_init_b52 at h
    refine lv_aload_n hx hb dX1_init_52 rfl (lv_at hl 0 rfl) ?_
    refine lv_iload_n hx hb dX1_init_53 rfl (lv_at hl 1 rfl) ?_
    replace h := ob h; obtain ⟨cs_5, hv_5, h⟩ := h
    obtain ⟨qk_5, qm_5⟩ := nwA_k hv_5
    obtain ⟨k9_5, m9_5⟩ := mo_c_X1_init_b59 F cs_5 u0 u2 cs9 h
    refine nar_X1_37 hx hb hts hown hK hP hD hS hG hA (by omega) (by omega) hin ⟨by show kK cs1 - kK cs + 1 ≤ kK cs9 - kK cs; omega, by show kM cs1 - kM cs + u2.toNatClampNeg ≤ kM cs9 - kM cs; omega⟩ hv_5 dX1_init_54 dX1_init_56 (fun H locs hP hD hG hgz hS => ?_)
    refine W_cnt (c2 := kK cs_5 - kK cs) (n2 := kM cs_5 - kM cs) (by omega) (by omega) ?_
    exact B_59 cs_5 u0 u2 h (by omega) (by omega) _ _ _ _ hP hD hG (by omega) hS (lv_sub hl [0, 1] rfl)
  have B_45 : ∀ (cs1 : CS) (u0 : Nat) (u2 : Int32), c_X1_init_b45 F cs1 u0 u2 = some cs9 → kK cs ≤ kK cs1 → kM cs ≤ kM cs1 → ∀ (Gh H : Heap) (locs : List Loc) (ls : Array Slot), va_P (dC, dI) vwCl (cW cB cI cJ cZ cS cO b cs1) H → va_D A (cW cB cI cJ cZ cS cO b cs1) → va_S A s.heap Gh [] → Gh.size = b + kK cs1 → va_S A Gh H locs → lv_has ls 3 [(0, .ref (b + u0)), (2, .int u2)] → W p l e (headSpec (wsOf yX1_init cX1_init 3 none) ({ frames := 1, cells := kK cs9 - kK cs, slots := kM cs9 - kM cs, locals := 60 * (1) } : Room)).room s m ([.ref (b + x0), .int x1] : List Value).toArray below meth c H locs (kK cs1 - kK cs) (kM cs1 - kM cs) (MQ below (va_Qv (fun (_ : Unit) => True) (fun _ t_ => va_P (dC, dI) vwCl (cW cB cI cJ cZ cS cO b cs9) t_.heap ∧ va_D A (cW cB cI cJ cZ cS cO b cs9) ∧ b + kK cs9 ≤ t_.heap.size) A) ([.ref (b + x0), .int x1] : List Value).toArray s (kK cs9 - kK cs) (kM cs9 - kM cs) A) (F0 m 45 ls []) := by
    intro cs1 u0 u2 h hmk hmm Gh H locs ls hP hD hG hgz hS hl
    obtain ⟨kb9, mb9⟩ := mo_c_X1_init_b45 F cs1 u0 u2 cs9 h
    unfold c_X1_init_b45 at h
    refine lv_aload_n hx hb dX1_init_45 rfl (lv_at hl 0 rfl) ?_
    refine lv_iload_n hx hb dX1_init_46 rfl (lv_at hl 1 rfl) ?_
    replace h := ob h; obtain ⟨cs_6, hv_6, h⟩ := h
    obtain ⟨qk_6, qm_6⟩ := nwA_k hv_6
    obtain ⟨k9_6, m9_6⟩ := mo_c_X1_init_b52 F cs_6 u0 u2 cs9 h
    refine nar_X1_34 hx hb hts hown hK hP hD hS hG hA (by omega) (by omega) hin ⟨by show kK cs1 - kK cs + 1 ≤ kK cs9 - kK cs; omega, by show kM cs1 - kM cs + u2.toNatClampNeg ≤ kM cs9 - kM cs; omega⟩ hv_6 dX1_init_47 dX1_init_49 (fun H locs hP hD hG hgz hS => ?_)
    refine W_cnt (c2 := kK cs_6 - kK cs) (n2 := kM cs_6 - kM cs) (by omega) (by omega) ?_
    exact B_52 cs_6 u0 u2 h (by omega) (by omega) _ _ _ _ hP hD hG (by omega) hS (lv_sub hl [0, 1] rfl)
  have B_38 : ∀ (cs1 : CS) (u0 : Nat) (u2 : Int32), c_X1_init_b38 F cs1 u0 u2 = some cs9 → kK cs ≤ kK cs1 → kM cs ≤ kM cs1 → ∀ (Gh H : Heap) (locs : List Loc) (ls : Array Slot), va_P (dC, dI) vwCl (cW cB cI cJ cZ cS cO b cs1) H → va_D A (cW cB cI cJ cZ cS cO b cs1) → va_S A s.heap Gh [] → Gh.size = b + kK cs1 → va_S A Gh H locs → lv_has ls 3 [(0, .ref (b + u0)), (2, .int u2)] → W p l e (headSpec (wsOf yX1_init cX1_init 3 none) ({ frames := 1, cells := kK cs9 - kK cs, slots := kM cs9 - kM cs, locals := 60 * (1) } : Room)).room s m ([.ref (b + x0), .int x1] : List Value).toArray below meth c H locs (kK cs1 - kK cs) (kM cs1 - kM cs) (MQ below (va_Qv (fun (_ : Unit) => True) (fun _ t_ => va_P (dC, dI) vwCl (cW cB cI cJ cZ cS cO b cs9) t_.heap ∧ va_D A (cW cB cI cJ cZ cS cO b cs9) ∧ b + kK cs9 ≤ t_.heap.size) A) ([.ref (b + x0), .int x1] : List Value).toArray s (kK cs9 - kK cs) (kM cs9 - kM cs) A) (F0 m 38 ls []) := by
    intro cs1 u0 u2 h hmk hmm Gh H locs ls hP hD hG hgz hS hl
    obtain ⟨kb9, mb9⟩ := mo_c_X1_init_b38 F cs1 u0 u2 cs9 h
    unfold c_X1_init_b38 at h
    refine lv_aload_n hx hb dX1_init_38 rfl (lv_at hl 0 rfl) ?_
    refine lv_iload_n hx hb dX1_init_39 rfl (lv_at hl 1 rfl) ?_
    replace h := ob h; obtain ⟨cs_7, hv_7, h⟩ := h
    obtain ⟨qk_7, qm_7⟩ := nwA_k hv_7
    obtain ⟨k9_7, m9_7⟩ := mo_c_X1_init_b45 F cs_7 u0 u2 cs9 h
    refine nar_X1_30 hx hb hts hown hK hP hD hS hG hA (by omega) (by omega) hin ⟨by show kK cs1 - kK cs + 1 ≤ kK cs9 - kK cs; omega, by show kM cs1 - kM cs + u2.toNatClampNeg ≤ kM cs9 - kM cs; omega⟩ hv_7 dX1_init_40 dX1_init_42 (fun H locs hP hD hG hgz hS => ?_)
    refine W_cnt (c2 := kK cs_7 - kK cs) (n2 := kM cs_7 - kM cs) (by omega) (by omega) ?_
    exact B_45 cs_7 u0 u2 h (by omega) (by omega) _ _ _ _ hP hD hG (by omega) hS (lv_sub hl [0, 1] rfl)
  have B_31 : ∀ (cs1 : CS) (u0 : Nat) (u2 : Int32), c_X1_init_b31 F cs1 u0 u2 = some cs9 → kK cs ≤ kK cs1 → kM cs ≤ kM cs1 → ∀ (Gh H : Heap) (locs : List Loc) (ls : Array Slot), va_P (dC, dI) vwCl (cW cB cI cJ cZ cS cO b cs1) H → va_D A (cW cB cI cJ cZ cS cO b cs1) → va_S A s.heap Gh [] → Gh.size = b + kK cs1 → va_S A Gh H locs → lv_has ls 3 [(0, .ref (b + u0)), (2, .int u2)] → W p l e (headSpec (wsOf yX1_init cX1_init 3 none) ({ frames := 1, cells := kK cs9 - kK cs, slots := kM cs9 - kM cs, locals := 60 * (1) } : Room)).room s m ([.ref (b + x0), .int x1] : List Value).toArray below meth c H locs (kK cs1 - kK cs) (kM cs1 - kM cs) (MQ below (va_Qv (fun (_ : Unit) => True) (fun _ t_ => va_P (dC, dI) vwCl (cW cB cI cJ cZ cS cO b cs9) t_.heap ∧ va_D A (cW cB cI cJ cZ cS cO b cs9) ∧ b + kK cs9 ≤ t_.heap.size) A) ([.ref (b + x0), .int x1] : List Value).toArray s (kK cs9 - kK cs) (kM cs9 - kM cs) A) (F0 m 31 ls []) := by
    intro cs1 u0 u2 h hmk hmm Gh H locs ls hP hD hG hgz hS hl
    obtain ⟨kb9, mb9⟩ := mo_c_X1_init_b31 F cs1 u0 u2 cs9 h
    unfold c_X1_init_b31 at h
    refine lv_aload_n hx hb dX1_init_31 rfl (lv_at hl 0 rfl) ?_
    refine lv_iload_n hx hb dX1_init_32 rfl (lv_at hl 1 rfl) ?_
    replace h := ob h; obtain ⟨cs_8, hv_8, h⟩ := h
    obtain ⟨qk_8, qm_8⟩ := nwA_k hv_8
    obtain ⟨k9_8, m9_8⟩ := mo_c_X1_init_b38 F cs_8 u0 u2 cs9 h
    refine nar_X1_27 hx hb hts hown hK hP hD hS hG hA (by omega) (by omega) hin ⟨by show kK cs1 - kK cs + 1 ≤ kK cs9 - kK cs; omega, by show kM cs1 - kM cs + u2.toNatClampNeg ≤ kM cs9 - kM cs; omega⟩ hv_8 dX1_init_33 dX1_init_35 (fun H locs hP hD hG hgz hS => ?_)
    refine W_cnt (c2 := kK cs_8 - kK cs) (n2 := kM cs_8 - kM cs) (by omega) (by omega) ?_
    exact B_38 cs_8 u0 u2 h (by omega) (by omega) _ _ _ _ hP hD hG (by omega) hS (lv_sub hl [0, 1] rfl)
  have B_24 : ∀ (cs1 : CS) (u0 : Nat) (u2 : Int32), c_X1_init_b24 F cs1 u0 u2 = some cs9 → kK cs ≤ kK cs1 → kM cs ≤ kM cs1 → ∀ (Gh H : Heap) (locs : List Loc) (ls : Array Slot), va_P (dC, dI) vwCl (cW cB cI cJ cZ cS cO b cs1) H → va_D A (cW cB cI cJ cZ cS cO b cs1) → va_S A s.heap Gh [] → Gh.size = b + kK cs1 → va_S A Gh H locs → lv_has ls 3 [(0, .ref (b + u0)), (2, .int u2)] → W p l e (headSpec (wsOf yX1_init cX1_init 3 none) ({ frames := 1, cells := kK cs9 - kK cs, slots := kM cs9 - kM cs, locals := 60 * (1) } : Room)).room s m ([.ref (b + x0), .int x1] : List Value).toArray below meth c H locs (kK cs1 - kK cs) (kM cs1 - kM cs) (MQ below (va_Qv (fun (_ : Unit) => True) (fun _ t_ => va_P (dC, dI) vwCl (cW cB cI cJ cZ cS cO b cs9) t_.heap ∧ va_D A (cW cB cI cJ cZ cS cO b cs9) ∧ b + kK cs9 ≤ t_.heap.size) A) ([.ref (b + x0), .int x1] : List Value).toArray s (kK cs9 - kK cs) (kM cs9 - kM cs) A) (F0 m 24 ls []) := by
    intro cs1 u0 u2 h hmk hmm Gh H locs ls hP hD hG hgz hS hl
    obtain ⟨kb9, mb9⟩ := mo_c_X1_init_b24 F cs1 u0 u2 cs9 h
    unfold c_X1_init_b24 at h
    refine lv_aload_n hx hb dX1_init_24 rfl (lv_at hl 0 rfl) ?_
    refine lv_iload_n hx hb dX1_init_25 rfl (lv_at hl 1 rfl) ?_
    replace h := ob h; obtain ⟨cs_9, hv_9, h⟩ := h
    obtain ⟨qk_9, qm_9⟩ := nwA_k hv_9
    obtain ⟨k9_9, m9_9⟩ := mo_c_X1_init_b31 F cs_9 u0 u2 cs9 h
    refine nar_X1_24 hx hb hts hown hK hP hD hS hG hA (by omega) (by omega) hin ⟨by show kK cs1 - kK cs + 1 ≤ kK cs9 - kK cs; omega, by show kM cs1 - kM cs + u2.toNatClampNeg ≤ kM cs9 - kM cs; omega⟩ hv_9 dX1_init_26 dX1_init_28 (fun H locs hP hD hG hgz hS => ?_)
    refine W_cnt (c2 := kK cs_9 - kK cs) (n2 := kM cs_9 - kM cs) (by omega) (by omega) ?_
    exact B_31 cs_9 u0 u2 h (by omega) (by omega) _ _ _ _ hP hD hG (by omega) hS (lv_sub hl [0, 1] rfl)
  have B_17 : ∀ (cs1 : CS) (u0 : Nat) (u2 : Int32), c_X1_init_b17 F cs1 u0 u2 = some cs9 → kK cs ≤ kK cs1 → kM cs ≤ kM cs1 → ∀ (Gh H : Heap) (locs : List Loc) (ls : Array Slot), va_P (dC, dI) vwCl (cW cB cI cJ cZ cS cO b cs1) H → va_D A (cW cB cI cJ cZ cS cO b cs1) → va_S A s.heap Gh [] → Gh.size = b + kK cs1 → va_S A Gh H locs → lv_has ls 3 [(0, .ref (b + u0)), (2, .int u2)] → W p l e (headSpec (wsOf yX1_init cX1_init 3 none) ({ frames := 1, cells := kK cs9 - kK cs, slots := kM cs9 - kM cs, locals := 60 * (1) } : Room)).room s m ([.ref (b + x0), .int x1] : List Value).toArray below meth c H locs (kK cs1 - kK cs) (kM cs1 - kM cs) (MQ below (va_Qv (fun (_ : Unit) => True) (fun _ t_ => va_P (dC, dI) vwCl (cW cB cI cJ cZ cS cO b cs9) t_.heap ∧ va_D A (cW cB cI cJ cZ cS cO b cs9) ∧ b + kK cs9 ≤ t_.heap.size) A) ([.ref (b + x0), .int x1] : List Value).toArray s (kK cs9 - kK cs) (kM cs9 - kM cs) A) (F0 m 17 ls []) := by
    intro cs1 u0 u2 h hmk hmm Gh H locs ls hP hD hG hgz hS hl
    obtain ⟨kb9, mb9⟩ := mo_c_X1_init_b17 F cs1 u0 u2 cs9 h
    unfold c_X1_init_b17 at h
    refine lv_aload_n hx hb dX1_init_17 rfl (lv_at hl 0 rfl) ?_
    refine lv_iload_n hx hb dX1_init_18 rfl (lv_at hl 1 rfl) ?_
    replace h := ob h; obtain ⟨cs_10, hv_10, h⟩ := h
    obtain ⟨qk_10, qm_10⟩ := nwA_k hv_10
    obtain ⟨k9_10, m9_10⟩ := mo_c_X1_init_b24 F cs_10 u0 u2 cs9 h
    refine nar_X1_21 hx hb hts hown hK hP hD hS hG hA (by omega) (by omega) hin ⟨by show kK cs1 - kK cs + 1 ≤ kK cs9 - kK cs; omega, by show kM cs1 - kM cs + u2.toNatClampNeg ≤ kM cs9 - kM cs; omega⟩ hv_10 dX1_init_19 dX1_init_21 (fun H locs hP hD hG hgz hS => ?_)
    refine W_cnt (c2 := kK cs_10 - kK cs) (n2 := kM cs_10 - kM cs) (by omega) (by omega) ?_
    exact B_24 cs_10 u0 u2 h (by omega) (by omega) _ _ _ _ hP hD hG (by omega) hS (lv_sub hl [0, 1] rfl)
  have h := hf
  unfold c_X1_init at h
  refine W_cnt (c2 := kK cs - kK cs) (n2 := kM cs - kM cs) (by omega) (by omega) ?_
  refine lv_aload_n hx hb dX1_init_0 rfl (lv_at hl 0 rfl) ?_
  refine W.objInit hx hb hown (hts _ (List.mem_cons_of_mem _ kw_367)) (hts _ (List.mem_cons_of_mem _ kw_214)) (hts _ (List.mem_cons_of_mem _ kc_objectInit)) rfl (by rw [hml]; exact hl.1) rfl dX1_init_1 (Nat.le_of_ble_eq_true rfl) (Nat.le_of_ble_eq_true rfl) ?_
  refine W.eq (g2 := F0 m 4 ls []) rfl ?_
  refine lv_iload_n hx hb dX1_init_4 rfl (lv_at hl 1 rfl) ?_
  refine lv_iconst (v := 0) hx hb dX1_init_5 (by decide) ?_
  refine va_mmax (x := x1) (y := 0) hx hb (hml.trans hl.1.symm) hown (hts _ (List.mem_cons_of_mem _ kw_368)) (hts _ (List.mem_cons_of_mem _ kw_369)) (hts _ (List.mem_cons_of_mem _ kw_190)) (hts _ (List.mem_cons_of_mem _ kc_max)) (Nat.le_of_ble_eq_true rfl) (Nat.le_of_ble_eq_true rfl) (by show kK cs - kK cs ≤ kK cs9 - kK cs; omega) (by show kM cs - kM cs ≤ kM cs9 - kM cs; omega) dX1_init_6 ?_
  refine lv_istore_n (lv' := [(2, .int (if x1 < 0 then 0 else x1)), (0, .ref (b + x0)), (1, .int x1)]) hx hb dX1_init_9 rfl hl (by decide) rfl (fun ls hl => ?_)
  refine lv_aload_n hx hb dX1_init_10 rfl (lv_at hl 1 rfl) ?_
  refine lv_iload_n hx hb dX1_init_11 rfl (lv_at hl 0 rfl) ?_
  replace h := ob h; obtain ⟨cs_11, hv_11, h⟩ := h
  obtain ⟨qk_11, qm_11⟩ := nwA_k hv_11
  obtain ⟨k9_11, m9_11⟩ := mo_c_X1_init_b17 F cs_11 x0 (if x1 < 0 then 0 else x1) cs9 h
  refine nar_X1_15 hx hb hts hown hK hP hD hS hG hA (by omega) (by omega) hin ⟨by show kK cs - kK cs + 1 ≤ kK cs9 - kK cs; omega, by show kM cs - kM cs + (if x1 < 0 then 0 else x1).toNatClampNeg ≤ kM cs9 - kM cs; omega⟩ hv_11 dX1_init_12 dX1_init_14 (fun H locs hP hD hG hgz hS => ?_)
  refine W_cnt (c2 := kK cs_11 - kK cs) (n2 := kM cs_11 - kM cs) (by omega) (by omega) ?_
  exact B_17 cs_11 x0 (if x1 < 0 then 0 else x1) h (by omega) (by omega) _ _ _ _ hP hD hG (by omega) hS (lv_sub hl [1, 0] rfl)
theorem dX2_init_0 : decode cX2_init 0 = .ok (.aload_n 0, 1) := by decide +kernel
theorem dX2_init_1 : decode cX2_init 1 = .ok (.invokespecial 3, 3) := by decide +kernel
theorem dX2_init_4 : decode cX2_init 4 = .ok (.aload_n 0, 1) := by decide +kernel
theorem dX2_init_5 : decode cX2_init 5 = .ok (.bipush 8, 2) := by decide +kernel
theorem dX2_init_7 : decode cX2_init 7 = .ok (.newarray .int, 2) := by decide +kernel
theorem dX2_init_9 : decode cX2_init 9 = .ok (.putfield 9, 3) := by decide +kernel
theorem dX2_init_12 : decode cX2_init 12 = .ok (.aload_n 0, 1) := by decide +kernel
theorem dX2_init_13 : decode cX2_init 13 = .ok (.bipush 8, 2) := by decide +kernel
theorem dX2_init_15 : decode cX2_init 15 = .ok (.newarray .long, 2) := by decide +kernel
theorem dX2_init_17 : decode cX2_init 17 = .ok (.putfield 15, 3) := by decide +kernel
theorem dX2_init_20 : decode cX2_init 20 = .ok (.aload_n 0, 1) := by decide +kernel
theorem dX2_init_21 : decode cX2_init 21 = .ok (.bipush 8, 2) := by decide +kernel
theorem dX2_init_23 : decode cX2_init 23 = .ok (.newarray .int, 2) := by decide +kernel
theorem dX2_init_25 : decode cX2_init 25 = .ok (.putfield 19, 3) := by decide +kernel
theorem dX2_init_28 : decode cX2_init 28 = .ok (.aload_n 0, 1) := by decide +kernel
theorem dX2_init_29 : decode cX2_init 29 = .ok (.bipush 8, 2) := by decide +kernel
theorem dX2_init_31 : decode cX2_init 31 = .ok (.newarray .int, 2) := by decide +kernel
theorem dX2_init_33 : decode cX2_init 33 = .ok (.putfield 22, 3) := by decide +kernel
theorem dX2_init_36 : decode cX2_init 36 = .ok (.return_, 1) := by decide +kernel
def c_X2_init_b36 (F : Nat) (cs1 : CS) : Option CS := some cs1
def c_X2_init_b28 (F : Nat) (cs1 : CS) (u0 : Nat) : Option CS := Option.bind (nwA cs1 3 100 u0 8) fun cs_1 => c_X2_init_b36 F cs_1
def c_X2_init_b20 (F : Nat) (cs1 : CS) (u0 : Nat) : Option CS := Option.bind (nwA cs1 3 99 u0 8) fun cs_2 => c_X2_init_b28 F cs_2 u0
def c_X2_init_b12 (F : Nat) (cs1 : CS) (u0 : Nat) : Option CS := Option.bind (nwA cs1 3 98 u0 8) fun cs_3 => c_X2_init_b20 F cs_3 u0
def c_X2_init (F : Nat) (cs : CS) (x0 : Nat) : Option CS := Option.bind (nwA cs 3 97 x0 8) fun cs_4 => c_X2_init_b12 F cs_4 x0
theorem cw_X5_X2_init {R : Room} {s : State} {args : Array Value} {y0 : MethodName} {c0 : ByteArray} {n0 : Nat} {r0 : Option FieldType} (hts : ∀ w ∈ wsOf y0 c0 n0 r0, w.before args s = true) {fr mc ms : Nat} (h1 : fr + 1 ≤ R.frames) (h2 : 8 + (1 + 11) + 60 * fr ≤ R.locals) : CallB R s args RX5 11 yX2_init cX2_init 1 none (wsOf yX2_init cX2_init 1 none) ({ frames := fr, cells := mc, slots := ms, locals := 60 * fr } : Room) mc ms 0 ∧ yX2_init.name = "<init>" ∧ (Cond.instanceMethod yX2_init).before args s = true := cwI 0 hts (gd_all (in_I kc_X2_init)) rfl rfl rfl (hts _ (List.mem_cons_of_mem _ kw_196)) (hts _ (List.mem_cons_of_mem _ kw_624)) (hts _ (List.mem_cons_of_mem _ kw_625)) rfl (by decide +kernel) ⟨h1, h2⟩
theorem cw_X6_X2_init {R : Room} {s : State} {args : Array Value} {y0 : MethodName} {c0 : ByteArray} {n0 : Nat} {r0 : Option FieldType} (hts : ∀ w ∈ wsOf y0 c0 n0 r0, w.before args s = true) {fr mc ms : Nat} (h1 : fr + 1 ≤ R.frames) (h2 : 8 + (1 + 11) + 60 * fr ≤ R.locals) : CallB R s args RX6 29 yX2_init cX2_init 1 none (wsOf yX2_init cX2_init 1 none) ({ frames := fr, cells := mc, slots := ms, locals := 60 * fr } : Room) mc ms 0 ∧ yX2_init.name = "<init>" ∧ (Cond.instanceMethod yX2_init).before args s = true := cwI 0 hts (gd_all (in_I kc_X2_init)) rfl rfl rfl (hts _ (List.mem_cons_of_mem _ kw_196)) (hts _ (List.mem_cons_of_mem _ kw_1053)) (hts _ (List.mem_cons_of_mem _ kw_625)) rfl (by decide +kernel) ⟨h1, h2⟩
theorem cw_X9_X2_init {R : Room} {s : State} {args : Array Value} {y0 : MethodName} {c0 : ByteArray} {n0 : Nat} {r0 : Option FieldType} (hts : ∀ w ∈ wsOf y0 c0 n0 r0, w.before args s = true) {fr mc ms : Nat} (h1 : fr + 1 ≤ R.frames) (h2 : 8 + (1 + 11) + 60 * fr ≤ R.locals) : CallB R s args RX9 156 yX2_init cX2_init 1 none (wsOf yX2_init cX2_init 1 none) ({ frames := fr, cells := mc, slots := ms, locals := 60 * fr } : Room) mc ms 0 ∧ yX2_init.name = "<init>" ∧ (Cond.instanceMethod yX2_init).before args s = true := cwI 0 hts (gd_all (in_I kc_X2_init)) rfl rfl rfl (hts _ (List.mem_cons_of_mem _ kw_196)) (hts _ (List.mem_cons_of_mem _ kw_1140)) (hts _ (List.mem_cons_of_mem _ kw_625)) rfl (by decide +kernel) ⟨h1, h2⟩
theorem mo_c_X2_init_b36 (F : Nat) (cs1 : CS) (cs9 : CS) (h : c_X2_init_b36 F cs1 = some cs9) : kK cs1 ≤ kK cs9 ∧ kM cs1 ≤ kM cs9 := by
  unfold c_X2_init_b36 at h
  have h9 := Option.some.inj h
  have k9 := congrArg kK h9; have m9 := congrArg kM h9; exact ⟨by omega, by omega⟩
theorem mo_c_X2_init_b28 (F : Nat) (cs1 : CS) (u0 : Nat) (cs9 : CS) (h : c_X2_init_b28 F cs1 u0 = some cs9) : kK cs1 ≤ kK cs9 ∧ kM cs1 ≤ kM cs9 := by
  unfold c_X2_init_b28 at h
  replace h := ob h; obtain ⟨cs_4, hv_4, h⟩ := h
  obtain ⟨qk_4, qm_4⟩ := nwA_k hv_4
  obtain ⟨k9, m9⟩ := mo_c_X2_init_b36 F cs_4 cs9 h
  exact ⟨by omega, by omega⟩
theorem mo_c_X2_init_b20 (F : Nat) (cs1 : CS) (u0 : Nat) (cs9 : CS) (h : c_X2_init_b20 F cs1 u0 = some cs9) : kK cs1 ≤ kK cs9 ∧ kM cs1 ≤ kM cs9 := by
  unfold c_X2_init_b20 at h
  replace h := ob h; obtain ⟨cs_4, hv_4, h⟩ := h
  obtain ⟨qk_4, qm_4⟩ := nwA_k hv_4
  obtain ⟨k9, m9⟩ := mo_c_X2_init_b28 F cs_4 u0 cs9 h
  exact ⟨by omega, by omega⟩
theorem mo_c_X2_init_b12 (F : Nat) (cs1 : CS) (u0 : Nat) (cs9 : CS) (h : c_X2_init_b12 F cs1 u0 = some cs9) : kK cs1 ≤ kK cs9 ∧ kM cs1 ≤ kM cs9 := by
  unfold c_X2_init_b12 at h
  replace h := ob h; obtain ⟨cs_4, hv_4, h⟩ := h
  obtain ⟨qk_4, qm_4⟩ := nwA_k hv_4
  obtain ⟨k9, m9⟩ := mo_c_X2_init_b20 F cs_4 u0 cs9 h
  exact ⟨by omega, by omega⟩
theorem mo_c_X2_init (F : Nat) (cs : CS) (x0 : Nat) (cs9 : CS) (h : c_X2_init F cs x0 = some cs9) : kK cs ≤ kK cs9 ∧ kM cs ≤ kM cs9 := by
  unfold c_X2_init at h
  replace h := ob h; obtain ⟨cs_4, hv_4, h⟩ := h
  obtain ⟨qk_4, qm_4⟩ := nwA_k hv_4
  obtain ⟨k9, m9⟩ := mo_c_X2_init_b12 F cs_4 x0 cs9 h
  exact ⟨by omega, by omega⟩
set_option maxHeartbeats 4000000 in
set_option maxRecDepth 100000 in
theorem sa_X2_init (l : Launch) (dC : Nat → ClassId) (dI : Nat → Nat → Nat) (cB cI cJ cZ cS cO : ClassId) (b : Nat) (K V : Nat → Nat) (fz : Value) (F : Nat) (cs : CS) (x0 : Nat) (cs9 : CS) (hf : c_X2_init F cs x0 = some cs9) : oaV l dC dI cB cI cJ cZ cS cO b K V fz yX2_init (wsOf yX2_init cX2_init 1 none) (1) [.ref (b + x0)] cs cs9 := by
  obtain ⟨kb9, mb9⟩ := mo_c_X2_init F cs x0 cs9 hf
  refine ⟨⟨kb9, mb9⟩, ?_⟩
  refine Met.ofW (cc := cX2_init) (maxL := 1) (ret := none) (by decide) rfl ?_
  intro p e s m args below meth c s₁ B hml hv
  obtain ⟨rfl, hsz, hP, hK, hD0, hZ⟩ := hv
  have hx := B.exec
  have hb := B.bytes
  have hr := B.returns
  have hts := atoms_spec (ws := (wsOf yX2_init cX2_init 1 none)) B.pre
  have hown : s.vm.findClass RX2 = some m.cls := findClass_of_methodNamed B.named
  have hin : meth.name = "<init>" := (name_of_methodNamed B.named B.method).1
  have hlocks := B.notSynchronized
  have hD := hD0.self (sz := b + kK cs)
  generalize hAe : va_A (cW cB cI cJ cZ cS cO b cs) (b + kK cs) = A at hD hZ ⊢
  have hA : ∀ q : Nat, s.heap.size ≤ q → A q := fun q h => by rw [← hAe]; exact Or.inr (by omega)
  have hS : va_S A s.heap s.heap [] := va_S.rf
  have hG : va_S A s.heap s.heap [] := va_S.rf
  have hgz : s.heap.size = b + kK cs := hsz
  have hl := lv_entry ([.ref (b + x0)]) (n := 1) (Nat.le_of_ble_eq_true rfl)
  rw [lg_entry_eq]
  generalize (lg_sl ([.ref (b + x0)]) ++ List.replicate (1 - (lg_sl ([.ref (b + x0)])).length) Slot.unset).toArray = ls at hl ⊢
  have hl : lv_has ls 1 [(0, .ref (b + x0))] := hl
  have B_36 : ∀ (cs1 : CS) , c_X2_init_b36 F cs1 = some cs9 → kK cs ≤ kK cs1 → kM cs ≤ kM cs1 → ∀ (Gh H : Heap) (locs : List Loc) (ls : Array Slot), va_P (dC, dI) vwCl (cW cB cI cJ cZ cS cO b cs1) H → va_D A (cW cB cI cJ cZ cS cO b cs1) → va_S A s.heap Gh [] → Gh.size = b + kK cs1 → va_S A Gh H locs → lv_has ls 1 [] → W p l e (headSpec (wsOf yX2_init cX2_init 1 none) ({ frames := 1, cells := kK cs9 - kK cs, slots := kM cs9 - kM cs, locals := 60 * (1) } : Room)).room s m ([.ref (b + x0)] : List Value).toArray below meth c H locs (kK cs1 - kK cs) (kM cs1 - kM cs) (MQ below (va_Qv (fun (_ : Unit) => True) (fun _ t_ => va_P (dC, dI) vwCl (cW cB cI cJ cZ cS cO b cs9) t_.heap ∧ va_D A (cW cB cI cJ cZ cS cO b cs9) ∧ b + kK cs9 ≤ t_.heap.size) A) ([.ref (b + x0)] : List Value).toArray s (kK cs9 - kK cs) (kM cs9 - kM cs) A) (F0 m 36 ls []) := by
    intro cs1  h hmk hmm Gh H locs ls hP hD hG hgz hS hl
    obtain ⟨kb9, mb9⟩ := mo_c_X2_init_b36 F cs1  cs9 h
    unfold c_X2_init_b36 at h
    have e1 := Option.some.inj h
    rw [e1] at hP hD
    have e3 := congrArg kK e1
    have e4 := congrArg kM e1
    refine W_cnt (c2 := kK cs9 - kK cs) (n2 := kM cs9 - kM cs) (by omega) (by omega) ?_
    exact W.vret hx hb hr (fun t_ ht hW => ⟨⟨(), rfl, trivial, by rw [ht]; exact hP, hD, by rw [ht]; have := hS.1; omega⟩, (hG.comp hS).F ht⟩) (hG.comp hS).2.2 dX2_init_36
  have B_28 : ∀ (cs1 : CS) (u0 : Nat), c_X2_init_b28 F cs1 u0 = some cs9 → kK cs ≤ kK cs1 → kM cs ≤ kM cs1 → ∀ (Gh H : Heap) (locs : List Loc) (ls : Array Slot), va_P (dC, dI) vwCl (cW cB cI cJ cZ cS cO b cs1) H → va_D A (cW cB cI cJ cZ cS cO b cs1) → va_S A s.heap Gh [] → Gh.size = b + kK cs1 → va_S A Gh H locs → lv_has ls 1 [(0, .ref (b + u0))] → W p l e (headSpec (wsOf yX2_init cX2_init 1 none) ({ frames := 1, cells := kK cs9 - kK cs, slots := kM cs9 - kM cs, locals := 60 * (1) } : Room)).room s m ([.ref (b + x0)] : List Value).toArray below meth c H locs (kK cs1 - kK cs) (kM cs1 - kM cs) (MQ below (va_Qv (fun (_ : Unit) => True) (fun _ t_ => va_P (dC, dI) vwCl (cW cB cI cJ cZ cS cO b cs9) t_.heap ∧ va_D A (cW cB cI cJ cZ cS cO b cs9) ∧ b + kK cs9 ≤ t_.heap.size) A) ([.ref (b + x0)] : List Value).toArray s (kK cs9 - kK cs) (kM cs9 - kM cs) A) (F0 m 28 ls []) := by
    intro cs1 u0 h hmk hmm Gh H locs ls hP hD hG hgz hS hl
    obtain ⟨kb9, mb9⟩ := mo_c_X2_init_b28 F cs1 u0 cs9 h
    unfold c_X2_init_b28 at h
    refine lv_aload_n hx hb dX2_init_28 rfl (lv_at hl 0 rfl) ?_
    refine lv_bipush (v := 8) hx hb dX2_init_29 (by decide) ?_
    replace h := ob h; obtain ⟨cs_1, hv_1, h⟩ := h
    obtain ⟨qk_1, qm_1⟩ := nwA_k hv_1
    obtain ⟨k9_1, m9_1⟩ := mo_c_X2_init_b36 F cs_1 cs9 h
    refine nar_X2_22 hx hb hts hown hK hP hD hS hG hA (by omega) (by omega) hin ⟨by show kK cs1 - kK cs + 1 ≤ kK cs9 - kK cs; omega, by show kM cs1 - kM cs + (8 : Int32).toNatClampNeg ≤ kM cs9 - kM cs; omega⟩ hv_1 dX2_init_31 dX2_init_33 (fun H locs hP hD hG hgz hS => ?_)
    refine W_cnt (c2 := kK cs_1 - kK cs) (n2 := kM cs_1 - kM cs) (by omega) (by omega) ?_
    exact B_36 cs_1 h (by omega) (by omega) _ _ _ _ hP hD hG (by omega) hS (lv_sub hl [] rfl)
  have B_20 : ∀ (cs1 : CS) (u0 : Nat), c_X2_init_b20 F cs1 u0 = some cs9 → kK cs ≤ kK cs1 → kM cs ≤ kM cs1 → ∀ (Gh H : Heap) (locs : List Loc) (ls : Array Slot), va_P (dC, dI) vwCl (cW cB cI cJ cZ cS cO b cs1) H → va_D A (cW cB cI cJ cZ cS cO b cs1) → va_S A s.heap Gh [] → Gh.size = b + kK cs1 → va_S A Gh H locs → lv_has ls 1 [(0, .ref (b + u0))] → W p l e (headSpec (wsOf yX2_init cX2_init 1 none) ({ frames := 1, cells := kK cs9 - kK cs, slots := kM cs9 - kM cs, locals := 60 * (1) } : Room)).room s m ([.ref (b + x0)] : List Value).toArray below meth c H locs (kK cs1 - kK cs) (kM cs1 - kM cs) (MQ below (va_Qv (fun (_ : Unit) => True) (fun _ t_ => va_P (dC, dI) vwCl (cW cB cI cJ cZ cS cO b cs9) t_.heap ∧ va_D A (cW cB cI cJ cZ cS cO b cs9) ∧ b + kK cs9 ≤ t_.heap.size) A) ([.ref (b + x0)] : List Value).toArray s (kK cs9 - kK cs) (kM cs9 - kM cs) A) (F0 m 20 ls []) := by
    intro cs1 u0 h hmk hmm Gh H locs ls hP hD hG hgz hS hl
    obtain ⟨kb9, mb9⟩ := mo_c_X2_init_b20 F cs1 u0 cs9 h
    unfold c_X2_init_b20 at h
    refine lv_aload_n hx hb dX2_init_20 rfl (lv_at hl 0 rfl) ?_
    refine lv_bipush (v := 8) hx hb dX2_init_21 (by decide) ?_
    replace h := ob h; obtain ⟨cs_2, hv_2, h⟩ := h
    obtain ⟨qk_2, qm_2⟩ := nwA_k hv_2
    obtain ⟨k9_2, m9_2⟩ := mo_c_X2_init_b28 F cs_2 u0 cs9 h
    refine nar_X2_19 hx hb hts hown hK hP hD hS hG hA (by omega) (by omega) hin ⟨by show kK cs1 - kK cs + 1 ≤ kK cs9 - kK cs; omega, by show kM cs1 - kM cs + (8 : Int32).toNatClampNeg ≤ kM cs9 - kM cs; omega⟩ hv_2 dX2_init_23 dX2_init_25 (fun H locs hP hD hG hgz hS => ?_)
    refine W_cnt (c2 := kK cs_2 - kK cs) (n2 := kM cs_2 - kM cs) (by omega) (by omega) ?_
    exact B_28 cs_2 u0 h (by omega) (by omega) _ _ _ _ hP hD hG (by omega) hS (lv_sub hl [0] rfl)
  have B_12 : ∀ (cs1 : CS) (u0 : Nat), c_X2_init_b12 F cs1 u0 = some cs9 → kK cs ≤ kK cs1 → kM cs ≤ kM cs1 → ∀ (Gh H : Heap) (locs : List Loc) (ls : Array Slot), va_P (dC, dI) vwCl (cW cB cI cJ cZ cS cO b cs1) H → va_D A (cW cB cI cJ cZ cS cO b cs1) → va_S A s.heap Gh [] → Gh.size = b + kK cs1 → va_S A Gh H locs → lv_has ls 1 [(0, .ref (b + u0))] → W p l e (headSpec (wsOf yX2_init cX2_init 1 none) ({ frames := 1, cells := kK cs9 - kK cs, slots := kM cs9 - kM cs, locals := 60 * (1) } : Room)).room s m ([.ref (b + x0)] : List Value).toArray below meth c H locs (kK cs1 - kK cs) (kM cs1 - kM cs) (MQ below (va_Qv (fun (_ : Unit) => True) (fun _ t_ => va_P (dC, dI) vwCl (cW cB cI cJ cZ cS cO b cs9) t_.heap ∧ va_D A (cW cB cI cJ cZ cS cO b cs9) ∧ b + kK cs9 ≤ t_.heap.size) A) ([.ref (b + x0)] : List Value).toArray s (kK cs9 - kK cs) (kM cs9 - kM cs) A) (F0 m 12 ls []) := by
    intro cs1 u0 h hmk hmm Gh H locs ls hP hD hG hgz hS hl
    obtain ⟨kb9, mb9⟩ := mo_c_X2_init_b12 F cs1 u0 cs9 h
    unfold c_X2_init_b12 at h
    refine lv_aload_n hx hb dX2_init_12 rfl (lv_at hl 0 rfl) ?_
    refine lv_bipush (v := 8) hx hb dX2_init_13 (by decide) ?_
    replace h := ob h; obtain ⟨cs_3, hv_3, h⟩ := h
    obtain ⟨qk_3, qm_3⟩ := nwA_k hv_3
    obtain ⟨k9_3, m9_3⟩ := mo_c_X2_init_b20 F cs_3 u0 cs9 h
    refine nar_X2_15 hx hb hts hown hK hP hD hS hG hA (by omega) (by omega) hin ⟨by show kK cs1 - kK cs + 1 ≤ kK cs9 - kK cs; omega, by show kM cs1 - kM cs + (8 : Int32).toNatClampNeg ≤ kM cs9 - kM cs; omega⟩ hv_3 dX2_init_15 dX2_init_17 (fun H locs hP hD hG hgz hS => ?_)
    refine W_cnt (c2 := kK cs_3 - kK cs) (n2 := kM cs_3 - kM cs) (by omega) (by omega) ?_
    exact B_20 cs_3 u0 h (by omega) (by omega) _ _ _ _ hP hD hG (by omega) hS (lv_sub hl [0] rfl)
  have h := hf
  unfold c_X2_init at h
  refine W_cnt (c2 := kK cs - kK cs) (n2 := kM cs - kM cs) (by omega) (by omega) ?_
  refine lv_aload_n hx hb dX2_init_0 rfl (lv_at hl 0 rfl) ?_
  refine W.objInit hx hb hown (hts _ (List.mem_cons_of_mem _ kw_627)) (hts _ (List.mem_cons_of_mem _ kw_214)) (hts _ (List.mem_cons_of_mem _ kc_objectInit)) rfl (by rw [hml]; exact hl.1) rfl dX2_init_1 (Nat.le_of_ble_eq_true rfl) (Nat.le_of_ble_eq_true rfl) ?_
  refine W.eq (g2 := F0 m 4 ls []) rfl ?_
  refine lv_aload_n hx hb dX2_init_4 rfl (lv_at hl 0 rfl) ?_
  refine lv_bipush (v := 8) hx hb dX2_init_5 (by decide) ?_
  replace h := ob h; obtain ⟨cs_4, hv_4, h⟩ := h
  obtain ⟨qk_4, qm_4⟩ := nwA_k hv_4
  obtain ⟨k9_4, m9_4⟩ := mo_c_X2_init_b12 F cs_4 x0 cs9 h
  refine nar_X2_9 hx hb hts hown hK hP hD hS hG hA (by omega) (by omega) hin ⟨by show kK cs - kK cs + 1 ≤ kK cs9 - kK cs; omega, by show kM cs - kM cs + (8 : Int32).toNatClampNeg ≤ kM cs9 - kM cs; omega⟩ hv_4 dX2_init_7 dX2_init_9 (fun H locs hP hD hG hgz hS => ?_)
  refine W_cnt (c2 := kK cs_4 - kK cs) (n2 := kM cs_4 - kM cs) (by omega) (by omega) ?_
  exact B_12 cs_4 x0 h (by omega) (by omega) _ _ _ _ hP hD hG (by omega) hS (lv_sub hl [0] rfl)
theorem dX8_reserve_0 : decode cX8_reserve 0 = .ok (.iload_n 1, 1) := by decide +kernel
theorem dX8_reserve_1 : decode cX8_reserve 1 = .ok (.aload_n 0, 1) := by decide +kernel
theorem dX8_reserve_2 : decode cX8_reserve 2 = .ok (.getfield 11, 3) := by decide +kernel
theorem dX8_reserve_5 : decode cX8_reserve 5 = .ok (.arraylength, 1) := by decide +kernel
theorem dX8_reserve_6 : decode cX8_reserve 6 = .ok (.if_icmp .le 31, 3) := by decide +kernel
theorem dX8_reserve_9 : decode cX8_reserve 9 = .ok (.aload_n 0, 1) := by decide +kernel
theorem dX8_reserve_10 : decode cX8_reserve 10 = .ok (.aload_n 0, 1) := by decide +kernel
theorem dX8_reserve_11 : decode cX8_reserve 11 = .ok (.getfield 11, 3) := by decide +kernel
theorem dX8_reserve_14 : decode cX8_reserve 14 = .ok (.iconst 2, 1) := by decide +kernel
theorem dX8_reserve_15 : decode cX8_reserve 15 = .ok (.iload_n 1, 1) := by decide +kernel
theorem dX8_reserve_16 : decode cX8_reserve 16 = .ok (.imul, 1) := by decide +kernel
theorem dX8_reserve_17 : decode cX8_reserve 17 = .ok (.invokestatic 26, 3) := by decide +kernel
theorem dX8_reserve_20 : decode cX8_reserve 20 = .ok (.putfield 11, 3) := by decide +kernel
theorem dX8_reserve_23 : decode cX8_reserve 23 = .ok (.aload_n 0, 1) := by decide +kernel
theorem dX8_reserve_24 : decode cX8_reserve 24 = .ok (.aload_n 0, 1) := by decide +kernel
theorem dX8_reserve_25 : decode cX8_reserve 25 = .ok (.getfield 15, 3) := by decide +kernel
theorem dX8_reserve_28 : decode cX8_reserve 28 = .ok (.iconst 2, 1) := by decide +kernel
theorem dX8_reserve_29 : decode cX8_reserve 29 = .ok (.iload_n 1, 1) := by decide +kernel
theorem dX8_reserve_30 : decode cX8_reserve 30 = .ok (.imul, 1) := by decide +kernel
theorem dX8_reserve_31 : decode cX8_reserve 31 = .ok (.invokestatic 32, 3) := by decide +kernel
theorem dX8_reserve_34 : decode cX8_reserve 34 = .ok (.putfield 15, 3) := by decide +kernel
theorem dX8_reserve_37 : decode cX8_reserve 37 = .ok (.return_, 1) := by decide +kernel
def c_X8_reserve_b37 (F : Nat) (cs1 : CS) : Option CS := some cs1
def c_X8_reserve_b23 (F : Nat) (cs1 : CS) (u0 : Nat) (u1 : Int32) : Option CS := Option.bind (gA cs1 9 289 u0) fun v_1 => Option.bind (gwA cs1 9 289 u0 v_1 (2 * u1)) fun cs_2 => c_X8_reserve_b37 F cs_2
def c_X8_reserve (F : Nat) (cs : CS) (x0 : Nat) (x1 : Int32) : Option CS := Option.bind (gA cs 9 288 x0) fun v_3 => Option.bind (lnA cs 288 x0 v_3) fun v_4 => if x1 ≤ v_4 then (c_X8_reserve_b37 F cs) else (Option.bind (gA cs 9 288 x0) fun v_6 => Option.bind (gwB cs 9 288 x0 v_6 (2 * x1)) fun cs_7 => c_X8_reserve_b23 F cs_7 x0 x1)
theorem cw_X4_X8_reserve {R : Room} {s : State} {args : Array Value} {y0 : MethodName} {c0 : ByteArray} {n0 : Nat} {r0 : Option FieldType} (hts : ∀ w ∈ wsOf y0 c0 n0 r0, w.before args s = true) {fr mc ms : Nat} (h1 : fr + 1 ≤ R.frames) (h2 : 8 + (2 + 11) + 60 * fr ≤ R.locals) : CallW R s args RX4 RX8 236 yX8_reserve cX8_reserve 2 none (wsOf yX8_reserve cX8_reserve 2 none) ({ frames := fr, cells := mc, slots := ms, locals := 60 * fr } : Room) mc ms 1 := cwV 1 hts (gd_all (in_V kw_1506 kw_1338 kw_1339 kw_188 kc_X8_reserve)) rfl rfl rfl (by decide +kernel) ⟨h1, h2⟩
theorem cw_X8_X8_reserve {R : Room} {s : State} {args : Array Value} {y0 : MethodName} {c0 : ByteArray} {n0 : Nat} {r0 : Option FieldType} (hts : ∀ w ∈ wsOf y0 c0 n0 r0, w.before args s = true) {fr mc ms : Nat} (h1 : fr + 1 ≤ R.frames) (h2 : 8 + (2 + 11) + 60 * fr ≤ R.locals) : CallW R s args RX8 RX8 39 yX8_reserve cX8_reserve 2 none (wsOf yX8_reserve cX8_reserve 2 none) ({ frames := fr, cells := mc, slots := ms, locals := 60 * fr } : Room) mc ms 1 := cwV 1 hts (gd_all (in_V kw_1337 kw_1338 kw_1339 kw_188 kc_X8_reserve)) rfl rfl rfl (by decide +kernel) ⟨h1, h2⟩
theorem mo_c_X8_reserve_b37 (F : Nat) (cs1 : CS) (cs9 : CS) (h : c_X8_reserve_b37 F cs1 = some cs9) : kK cs1 ≤ kK cs9 ∧ kM cs1 ≤ kM cs9 := by
  unfold c_X8_reserve_b37 at h
  have h9 := Option.some.inj h
  have k9 := congrArg kK h9; have m9 := congrArg kM h9; exact ⟨by omega, by omega⟩
theorem mo_c_X8_reserve_b23 (F : Nat) (cs1 : CS) (u0 : Nat) (u1 : Int32) (cs9 : CS) (h : c_X8_reserve_b23 F cs1 u0 u1 = some cs9) : kK cs1 ≤ kK cs9 ∧ kM cs1 ≤ kM cs9 := by
  unfold c_X8_reserve_b23 at h
  replace h := ob h; obtain ⟨v_3, hv_3, h⟩ := h
  replace h := ob h; obtain ⟨cs_4, hv_4, h⟩ := h
  obtain ⟨qk_4, qm_4⟩ := gwA_k hv_4
  obtain ⟨k9, m9⟩ := mo_c_X8_reserve_b37 F cs_4 cs9 h
  exact ⟨by omega, by omega⟩
theorem mo_c_X8_reserve (F : Nat) (cs : CS) (x0 : Nat) (x1 : Int32) (cs9 : CS) (h : c_X8_reserve F cs x0 x1 = some cs9) : kK cs ≤ kK cs9 ∧ kM cs ≤ kM cs9 := by
  unfold c_X8_reserve at h
  replace h := ob h; obtain ⟨v_3, hv_3, h⟩ := h
  replace h := ob h; obtain ⟨v_4, hv_4, h⟩ := h
  by_cases c_5 : x1 ≤ v_4
  · skip
    replace h := (if_pos c_5).symm.trans h
    obtain ⟨k9, m9⟩ := mo_c_X8_reserve_b37 F cs cs9 h
    exact ⟨by omega, by omega⟩
  · skip
    replace h := (if_neg c_5).symm.trans h
    replace h := ob h; obtain ⟨v_6, hv_6, h⟩ := h
    replace h := ob h; obtain ⟨cs_7, hv_7, h⟩ := h
    obtain ⟨qk_7, qm_7⟩ := gwB_k hv_7
    obtain ⟨k9, m9⟩ := mo_c_X8_reserve_b23 F cs_7 x0 x1 cs9 h
    exact ⟨by omega, by omega⟩
set_option maxHeartbeats 4000000 in
set_option maxRecDepth 100000 in
theorem sa_X8_reserve (l : Launch) (dC : Nat → ClassId) (dI : Nat → Nat → Nat) (cB cI cJ cZ cS cO : ClassId) (b : Nat) (K V : Nat → Nat) (fz : Value) (F : Nat) (cs : CS) (x0 : Nat) (x1 : Int32) (cs9 : CS) (hf : c_X8_reserve F cs x0 x1 = some cs9) : oaV l dC dI cB cI cJ cZ cS cO b K V fz yX8_reserve (wsOf yX8_reserve cX8_reserve 2 none) (3) [.ref (b + x0), .int x1] cs cs9 := by
  obtain ⟨kb9, mb9⟩ := mo_c_X8_reserve F cs x0 x1 cs9 hf
  refine ⟨⟨kb9, mb9⟩, ?_⟩
  refine Met.ofW (cc := cX8_reserve) (maxL := 2) (ret := none) (by decide) rfl ?_
  intro p e s m args below meth c s₁ B hml hv
  obtain ⟨rfl, hsz, hP, hK, hD0, hZ⟩ := hv
  have hx := B.exec
  have hb := B.bytes
  have hr := B.returns
  have hts := atoms_spec (ws := (wsOf yX8_reserve cX8_reserve 2 none)) B.pre
  have hown : s.vm.findClass RX8 = some m.cls := findClass_of_methodNamed B.named
  have hlocks := B.notSynchronized
  have hD := hD0.self (sz := b + kK cs)
  generalize hAe : va_A (cW cB cI cJ cZ cS cO b cs) (b + kK cs) = A at hD hZ ⊢
  have hA : ∀ q : Nat, s.heap.size ≤ q → A q := fun q h => by rw [← hAe]; exact Or.inr (by omega)
  have hS : va_S A s.heap s.heap [] := va_S.rf
  have hG : va_S A s.heap s.heap [] := va_S.rf
  have hgz : s.heap.size = b + kK cs := hsz
  have hl := lv_entry ([.ref (b + x0), .int x1]) (n := 2) (Nat.le_of_ble_eq_true rfl)
  rw [lg_entry_eq]
  generalize (lg_sl ([.ref (b + x0), .int x1]) ++ List.replicate (2 - (lg_sl ([.ref (b + x0), .int x1])).length) Slot.unset).toArray = ls at hl ⊢
  have hl : lv_has ls 2 [(0, .ref (b + x0)), (1, .int x1)] := hl
  have B_37 : ∀ (cs1 : CS) , c_X8_reserve_b37 F cs1 = some cs9 → kK cs ≤ kK cs1 → kM cs ≤ kM cs1 → ∀ (Gh H : Heap) (locs : List Loc) (ls : Array Slot), va_P (dC, dI) vwCl (cW cB cI cJ cZ cS cO b cs1) H → va_D A (cW cB cI cJ cZ cS cO b cs1) → va_S A s.heap Gh [] → Gh.size = b + kK cs1 → va_S A Gh H locs → lv_has ls 2 [] → W p l e (headSpec (wsOf yX8_reserve cX8_reserve 2 none) ({ frames := 3, cells := kK cs9 - kK cs, slots := kM cs9 - kM cs, locals := 60 * (3) } : Room)).room s m ([.ref (b + x0), .int x1] : List Value).toArray below meth c H locs (kK cs1 - kK cs) (kM cs1 - kM cs) (MQ below (va_Qv (fun (_ : Unit) => True) (fun _ t_ => va_P (dC, dI) vwCl (cW cB cI cJ cZ cS cO b cs9) t_.heap ∧ va_D A (cW cB cI cJ cZ cS cO b cs9) ∧ b + kK cs9 ≤ t_.heap.size) A) ([.ref (b + x0), .int x1] : List Value).toArray s (kK cs9 - kK cs) (kM cs9 - kM cs) A) (F0 m 37 ls []) := by
    intro cs1  h hmk hmm Gh H locs ls hP hD hG hgz hS hl
    obtain ⟨kb9, mb9⟩ := mo_c_X8_reserve_b37 F cs1  cs9 h
    unfold c_X8_reserve_b37 at h
    have e1 := Option.some.inj h
    rw [e1] at hP hD
    have e3 := congrArg kK e1
    have e4 := congrArg kM e1
    refine W_cnt (c2 := kK cs9 - kK cs) (n2 := kM cs9 - kM cs) (by omega) (by omega) ?_
    exact W.vret hx hb hr (fun t_ ht hW => ⟨⟨(), rfl, trivial, by rw [ht]; exact hP, hD, by rw [ht]; have := hS.1; omega⟩, (hG.comp hS).F ht⟩) (hG.comp hS).2.2 dX8_reserve_37
  have B_23 : ∀ (cs1 : CS) (u0 : Nat) (u1 : Int32), c_X8_reserve_b23 F cs1 u0 u1 = some cs9 → kK cs ≤ kK cs1 → kM cs ≤ kM cs1 → ∀ (Gh H : Heap) (locs : List Loc) (ls : Array Slot), va_P (dC, dI) vwCl (cW cB cI cJ cZ cS cO b cs1) H → va_D A (cW cB cI cJ cZ cS cO b cs1) → va_S A s.heap Gh [] → Gh.size = b + kK cs1 → va_S A Gh H locs → lv_has ls 2 [(0, .ref (b + u0)), (1, .int u1)] → W p l e (headSpec (wsOf yX8_reserve cX8_reserve 2 none) ({ frames := 3, cells := kK cs9 - kK cs, slots := kM cs9 - kM cs, locals := 60 * (3) } : Room)).room s m ([.ref (b + x0), .int x1] : List Value).toArray below meth c H locs (kK cs1 - kK cs) (kM cs1 - kM cs) (MQ below (va_Qv (fun (_ : Unit) => True) (fun _ t_ => va_P (dC, dI) vwCl (cW cB cI cJ cZ cS cO b cs9) t_.heap ∧ va_D A (cW cB cI cJ cZ cS cO b cs9) ∧ b + kK cs9 ≤ t_.heap.size) A) ([.ref (b + x0), .int x1] : List Value).toArray s (kK cs9 - kK cs) (kM cs9 - kM cs) A) (F0 m 23 ls []) := by
    intro cs1 u0 u1 h hmk hmm Gh H locs ls hP hD hG hgz hS hl
    obtain ⟨kb9, mb9⟩ := mo_c_X8_reserve_b23 F cs1 u0 u1 cs9 h
    unfold c_X8_reserve_b23 at h
    refine lv_aload_n hx hb dX8_reserve_23 rfl (lv_at hl 0 rfl) ?_
    refine lv_aload_n hx hb dX8_reserve_24 rfl (lv_at hl 0 rfl) ?_
    replace h := ob h; obtain ⟨v_1, hv_1, h⟩ := h
    refine fg_X8_15 hx hb hts hown hK hP hv_1 dX8_reserve_25 ?_
    refine lv_iconst (v := 2) hx hb dX8_reserve_28 (by decide) ?_
    refine lv_iload_n hx hb dX8_reserve_29 rfl (lv_at hl 1 rfl) ?_
    refine lv_imul hx hb dX8_reserve_30 ?_
    replace h := ob h; obtain ⟨cs_2, hv_2, h⟩ := h
    obtain ⟨qk_2, qm_2⟩ := gwA_k hv_2
    obtain ⟨k9_2, m9_2⟩ := mo_c_X8_reserve_b37 F cs_2 cs9 h
    refine grw_X8_15 hx hb hml hts hown hK hP hD hS hG hA (by omega) (by omega) ⟨by show kK cs1 - kK cs + 1 ≤ kK cs9 - kK cs; omega, by show kM cs1 - kM cs + (2 * u1).toNatClampNeg ≤ kM cs9 - kM cs; omega⟩ hv_2 hl.1 (Nat.le_of_ble_eq_true rfl) (Nat.le_of_ble_eq_true rfl) (Nat.le_of_ble_eq_true rfl) dX8_reserve_31 dX8_reserve_34 (fun H locs hP hD hG hgz hS => ?_)
    refine W_cnt (c2 := kK cs_2 - kK cs) (n2 := kM cs_2 - kM cs) (by omega) (by omega) ?_
    exact B_37 cs_2 h (by omega) (by omega) _ _ _ _ hP hD hG (by omega) hS (lv_sub hl [] rfl)
  have h := hf
  unfold c_X8_reserve at h
  refine W_cnt (c2 := kK cs - kK cs) (n2 := kM cs - kM cs) (by omega) (by omega) ?_
  refine lv_iload_n hx hb dX8_reserve_0 rfl (lv_at hl 1 rfl) ?_
  refine lv_aload_n hx hb dX8_reserve_1 rfl (lv_at hl 0 rfl) ?_
  replace h := ob h; obtain ⟨v_3, hv_3, h⟩ := h
  refine fg_X8_11 hx hb hts hown hK hP hv_3 dX8_reserve_2 ?_
  replace h := ob h; obtain ⟨v_4, hv_4, h⟩ := h
  refine alen2 hx hb hK hP rfl hv_4 dX8_reserve_5 ?_
  refine lv_icmp_le (tgt := 37) hx hb dX8_reserve_6 (by decide) (fun c_5 => ?_) (fun c_5 => ?_)
  · skip
    replace h := (if_pos c_5).symm.trans h
    refine W_cnt (c2 := kK cs - kK cs) (n2 := kM cs - kM cs) (by omega) (by omega) ?_
    exact B_37 cs h (by omega) (by omega) _ _ _ _ hP hD hG (by omega) hS (lv_sub hl [] rfl)
  · skip
    replace h := (if_neg c_5).symm.trans h
    refine lv_aload_n hx hb dX8_reserve_9 rfl (lv_at hl 0 rfl) ?_
    refine lv_aload_n hx hb dX8_reserve_10 rfl (lv_at hl 0 rfl) ?_
    replace h := ob h; obtain ⟨v_6, hv_6, h⟩ := h
    refine fg_X8_11 hx hb hts hown hK hP hv_6 dX8_reserve_11 ?_
    refine lv_iconst (v := 2) hx hb dX8_reserve_14 (by decide) ?_
    refine lv_iload_n hx hb dX8_reserve_15 rfl (lv_at hl 1 rfl) ?_
    refine lv_imul hx hb dX8_reserve_16 ?_
    replace h := ob h; obtain ⟨cs_7, hv_7, h⟩ := h
    obtain ⟨qk_7, qm_7⟩ := gwB_k hv_7
    obtain ⟨k9_7, m9_7⟩ := mo_c_X8_reserve_b23 F cs_7 x0 x1 cs9 h
    refine grw_X8_11 hx hb hml hts hown hK hP hD hS hG hA (by omega) (by omega) ⟨by show kK cs - kK cs + 1 ≤ kK cs9 - kK cs; omega, by show kM cs - kM cs + (2 * x1).toNatClampNeg ≤ kM cs9 - kM cs; omega⟩ hv_7 hl.1 (Nat.le_of_ble_eq_true rfl) (Nat.le_of_ble_eq_true rfl) (Nat.le_of_ble_eq_true rfl) dX8_reserve_17 dX8_reserve_20 (fun H locs hP hD hG hgz hS => ?_)
    refine W_cnt (c2 := kK cs_7 - kK cs) (n2 := kM cs_7 - kM cs) (by omega) (by omega) ?_
    exact B_23 cs_7 x0 x1 h (by omega) (by omega) _ _ _ _ hP hD hG (by omega) hS (lv_sub hl [0, 1] rfl)
theorem dX5_init_0 : decode cX5_init 0 = .ok (.aload_n 0, 1) := by decide +kernel
theorem dX5_init_1 : decode cX5_init 1 = .ok (.invokespecial 3, 3) := by decide +kernel
theorem dX5_init_4 : decode cX5_init 4 = .ok (.aload_n 0, 1) := by decide +kernel
theorem dX5_init_5 : decode cX5_init 5 = .ok (.new 9, 3) := by decide +kernel
theorem dX5_init_8 : decode cX5_init 8 = .ok (.dup, 1) := by decide +kernel
theorem dX5_init_9 : decode cX5_init 9 = .ok (.invokespecial 11, 3) := by decide +kernel
theorem dX5_init_12 : decode cX5_init 12 = .ok (.putfield 12, 3) := by decide +kernel
theorem dX5_init_15 : decode cX5_init 15 = .ok (.aload_n 0, 1) := by decide +kernel
theorem dX5_init_16 : decode cX5_init 16 = .ok (.iconst 3, 1) := by decide +kernel
theorem dX5_init_17 : decode cX5_init 17 = .ok (.anewarray 18, 3) := by decide +kernel
theorem dX5_init_20 : decode cX5_init 20 = .ok (.putfield 20, 3) := by decide +kernel
theorem dX5_init_23 : decode cX5_init 23 = .ok (.aload_n 0, 1) := by decide +kernel
theorem dX5_init_24 : decode cX5_init 24 = .ok (.iconst (-1), 1) := by decide +kernel
theorem dX5_init_25 : decode cX5_init 25 = .ok (.putfield 24, 3) := by decide +kernel
theorem dX5_init_28 : decode cX5_init 28 = .ok (.aload_n 0, 1) := by decide +kernel
theorem dX5_init_29 : decode cX5_init 29 = .ok (.new 9, 3) := by decide +kernel
theorem dX5_init_32 : decode cX5_init 32 = .ok (.dup, 1) := by decide +kernel
theorem dX5_init_33 : decode cX5_init 33 = .ok (.invokespecial 11, 3) := by decide +kernel
theorem dX5_init_36 : decode cX5_init 36 = .ok (.putfield 28, 3) := by decide +kernel
theorem dX5_init_39 : decode cX5_init 39 = .ok (.aload_n 0, 1) := by decide +kernel
theorem dX5_init_40 : decode cX5_init 40 = .ok (.iconst (-1), 1) := by decide +kernel
theorem dX5_init_41 : decode cX5_init 41 = .ok (.putfield 31, 3) := by decide +kernel
theorem dX5_init_44 : decode cX5_init 44 = .ok (.aload_n 0, 1) := by decide +kernel
theorem dX5_init_45 : decode cX5_init 45 = .ok (.bipush 12, 2) := by decide +kernel
theorem dX5_init_47 : decode cX5_init 47 = .ok (.newarray .int, 2) := by decide +kernel
theorem dX5_init_49 : decode cX5_init 49 = .ok (.putfield 34, 3) := by decide +kernel
theorem dX5_init_52 : decode cX5_init 52 = .ok (.aload_n 0, 1) := by decide +kernel
theorem dX5_init_53 : decode cX5_init 53 = .ok (.bipush 10, 2) := by decide +kernel
theorem dX5_init_55 : decode cX5_init 55 = .ok (.putfield 38, 3) := by decide +kernel
theorem dX5_init_58 : decode cX5_init 58 = .ok (.return_, 1) := by decide +kernel
def c_X5_init_b52 (F : Nat) (cs1 : CS) (u0 : Nat) : Option CS := Option.bind (pI cs1 6 204 u0 10) fun cs_1 => some cs_1
def c_X5_init_b36 (F : Nat) (cs1 : CS) (u0 : Nat) (y0 : Nat) (y1 : Nat) : Option CS := Option.bind (pR cs1 6 200 y1 (some y0)) fun cs_2 => Option.bind (pI cs_2 6 201 u0 (-1)) fun cs_3 => Option.bind (nwA cs_3 6 202 u0 12) fun cs_4 => c_X5_init_b52 F cs_4 u0
def c_X5_init_b32 (F : Nat) (cs1 : CS) (u0 : Nat) (y0 : Nat) (y1 : Nat) : Option CS := Option.bind (c_X2_init F cs1 y0) fun cs_5 => c_X5_init_b36 F cs_5 u0 y0 y1
def c_X5_init_b23 (F : Nat) (cs1 : CS) (u0 : Nat) : Option CS := Option.bind (pI cs1 6 197 u0 (-1)) fun cs_6 => Option.bind (nwO cs_6 3 5) fun cs_7 => c_X5_init_b32 F cs_7 u0 (kK cs_6) u0
def c_X5_init_b12 (F : Nat) (cs1 : CS) (u0 : Nat) (y0 : Nat) (y1 : Nat) : Option CS := Option.bind (pR cs1 6 194 y1 (some y0)) fun cs_8 => Option.bind (nwA cs_8 6 195 u0 3) fun cs_9 => c_X5_init_b23 F cs_9 u0
def c_X5_init_b8 (F : Nat) (cs1 : CS) (u0 : Nat) (y0 : Nat) (y1 : Nat) : Option CS := Option.bind (c_X2_init F cs1 y0) fun cs_10 => c_X5_init_b12 F cs_10 u0 y0 y1
def c_X5_init (F : Nat) (cs : CS) (x0 : Nat) : Option CS := Option.bind (nwO cs 3 5) fun cs_11 => c_X5_init_b8 F cs_11 x0 (kK cs) x0
theorem cw_X9_X5_init {R : Room} {s : State} {args : Array Value} {y0 : MethodName} {c0 : ByteArray} {n0 : Nat} {r0 : Option FieldType} {K V : Nat → Nat} {fz : Value} {A : Nat → Prop} (hZ : zE K V fz A s) (hts : ∀ w ∈ wsOf y0 c0 n0 r0, w.before args s = true) {fr mc ms : Nat} (h1 : fr + 1 ≤ R.frames) (h2 : 8 + (1 + 11) + 60 * fr ≤ R.locals) : va_CN R s args RX9 40 yX5_init "StreamQueries" cX5_init 1 none (wsOf yX5_init cX5_init 1 none) ({ frames := fr, cells := mc, slots := ms, locals := 60 * fr } : Room) mc ms 0 ∧ yX5_init.name = "<init>" ∧ (Cond.instanceMethod yX5_init).before args s = true := ⟨va_cnB 0 hts (gd_all (in_I kc_X5_init)) rfl rfl rfl hZ.n1 (hts _ (List.mem_cons_of_mem _ kw_195)) (by decide +kernel) ⟨h1, h2⟩, rfl, (hts _ (List.mem_cons_of_mem _ kw_619))⟩
theorem mo_c_X5_init_b52 (F : Nat) (cs1 : CS) (u0 : Nat) (cs9 : CS) (h : c_X5_init_b52 F cs1 u0 = some cs9) : kK cs1 ≤ kK cs9 ∧ kM cs1 ≤ kM cs9 := by
  unfold c_X5_init_b52 at h
  replace h := ob h; obtain ⟨cs_11, hv_11, h⟩ := h
  obtain ⟨qk_11, qm_11⟩ := pI_k hv_11
  have h9 := Option.some.inj h
  have k9 := congrArg kK h9; have m9 := congrArg kM h9; exact ⟨by omega, by omega⟩
theorem mo_c_X5_init_b36 (F : Nat) (cs1 : CS) (u0 : Nat) (y0 : Nat) (y1 : Nat) (cs9 : CS) (h : c_X5_init_b36 F cs1 u0 y0 y1 = some cs9) : kK cs1 ≤ kK cs9 ∧ kM cs1 ≤ kM cs9 := by
  unfold c_X5_init_b36 at h
  replace h := ob h; obtain ⟨cs_11, hv_11, h⟩ := h
  obtain ⟨qk_11, qm_11⟩ := pR_k hv_11
  replace h := ob h; obtain ⟨cs_12, hv_12, h⟩ := h
  obtain ⟨qk_12, qm_12⟩ := pI_k hv_12
  replace h := ob h; obtain ⟨cs_13, hv_13, h⟩ := h
  obtain ⟨qk_13, qm_13⟩ := nwA_k hv_13
  obtain ⟨k9, m9⟩ := mo_c_X5_init_b52 F cs_13 u0 cs9 h
  exact ⟨by omega, by omega⟩
theorem mo_c_X5_init_b32 (F : Nat) (cs1 : CS) (u0 : Nat) (y0 : Nat) (y1 : Nat) (cs9 : CS) (h : c_X5_init_b32 F cs1 u0 y0 y1 = some cs9) : kK cs1 ≤ kK cs9 ∧ kM cs1 ≤ kM cs9 := by
  unfold c_X5_init_b32 at h
  replace h := ob h; obtain ⟨cs_11, hv_11, h⟩ := h
  obtain ⟨qk_11, qm_11⟩ := mo_c_X2_init F cs1 y0 cs_11 hv_11
  obtain ⟨k9, m9⟩ := mo_c_X5_init_b36 F cs_11 u0 y0 y1 cs9 h
  exact ⟨by omega, by omega⟩
theorem mo_c_X5_init_b23 (F : Nat) (cs1 : CS) (u0 : Nat) (cs9 : CS) (h : c_X5_init_b23 F cs1 u0 = some cs9) : kK cs1 ≤ kK cs9 ∧ kM cs1 ≤ kM cs9 := by
  unfold c_X5_init_b23 at h
  replace h := ob h; obtain ⟨cs_11, hv_11, h⟩ := h
  obtain ⟨qk_11, qm_11⟩ := pI_k hv_11
  replace h := ob h; obtain ⟨cs_12, hv_12, h⟩ := h
  obtain ⟨qk_12, qm_12⟩ := nwO_k hv_12
  obtain ⟨k9, m9⟩ := mo_c_X5_init_b32 F cs_12 u0 (kK cs_11) u0 cs9 h
  exact ⟨by omega, by omega⟩
theorem mo_c_X5_init_b12 (F : Nat) (cs1 : CS) (u0 : Nat) (y0 : Nat) (y1 : Nat) (cs9 : CS) (h : c_X5_init_b12 F cs1 u0 y0 y1 = some cs9) : kK cs1 ≤ kK cs9 ∧ kM cs1 ≤ kM cs9 := by
  unfold c_X5_init_b12 at h
  replace h := ob h; obtain ⟨cs_11, hv_11, h⟩ := h
  obtain ⟨qk_11, qm_11⟩ := pR_k hv_11
  replace h := ob h; obtain ⟨cs_12, hv_12, h⟩ := h
  obtain ⟨qk_12, qm_12⟩ := nwA_k hv_12
  obtain ⟨k9, m9⟩ := mo_c_X5_init_b23 F cs_12 u0 cs9 h
  exact ⟨by omega, by omega⟩
theorem mo_c_X5_init_b8 (F : Nat) (cs1 : CS) (u0 : Nat) (y0 : Nat) (y1 : Nat) (cs9 : CS) (h : c_X5_init_b8 F cs1 u0 y0 y1 = some cs9) : kK cs1 ≤ kK cs9 ∧ kM cs1 ≤ kM cs9 := by
  unfold c_X5_init_b8 at h
  replace h := ob h; obtain ⟨cs_11, hv_11, h⟩ := h
  obtain ⟨qk_11, qm_11⟩ := mo_c_X2_init F cs1 y0 cs_11 hv_11
  obtain ⟨k9, m9⟩ := mo_c_X5_init_b12 F cs_11 u0 y0 y1 cs9 h
  exact ⟨by omega, by omega⟩
theorem mo_c_X5_init (F : Nat) (cs : CS) (x0 : Nat) (cs9 : CS) (h : c_X5_init F cs x0 = some cs9) : kK cs ≤ kK cs9 ∧ kM cs ≤ kM cs9 := by
  unfold c_X5_init at h
  replace h := ob h; obtain ⟨cs_11, hv_11, h⟩ := h
  obtain ⟨qk_11, qm_11⟩ := nwO_k hv_11
  obtain ⟨k9, m9⟩ := mo_c_X5_init_b8 F cs_11 x0 (kK cs) x0 cs9 h
  exact ⟨by omega, by omega⟩
set_option maxHeartbeats 4000000 in
set_option maxRecDepth 100000 in
theorem sa_X5_init (l : Launch) (dC : Nat → ClassId) (dI : Nat → Nat → Nat) (cB cI cJ cZ cS cO : ClassId) (b : Nat) (K V : Nat → Nat) (fz : Value) (F : Nat) (cs : CS) (x0 : Nat) (cs9 : CS) (hf : c_X5_init F cs x0 = some cs9) : oaV l dC dI cB cI cJ cZ cS cO b K V fz yX5_init (wsOf yX5_init cX5_init 1 none) (2) [.ref (b + x0)] cs cs9 := by
  obtain ⟨kb9, mb9⟩ := mo_c_X5_init F cs x0 cs9 hf
  refine ⟨⟨kb9, mb9⟩, ?_⟩
  refine Met.ofW (cc := cX5_init) (maxL := 1) (ret := none) (by decide) rfl ?_
  intro p e s m args below meth c s₁ B hml hv
  obtain ⟨rfl, hsz, hP, hK, hD0, hZ⟩ := hv
  have hx := B.exec
  have hb := B.bytes
  have hr := B.returns
  have hts := atoms_spec (ws := (wsOf yX5_init cX5_init 1 none)) B.pre
  have hown : s.vm.findClass RX5 = some m.cls := findClass_of_methodNamed B.named
  have hin : meth.name = "<init>" := (name_of_methodNamed B.named B.method).1
  have hlocks := B.notSynchronized
  have hD := hD0.self (sz := b + kK cs)
  generalize hAe : va_A (cW cB cI cJ cZ cS cO b cs) (b + kK cs) = A at hD hZ ⊢
  have hA : ∀ q : Nat, s.heap.size ≤ q → A q := fun q h => by rw [← hAe]; exact Or.inr (by omega)
  have hS : va_S A s.heap s.heap [] := va_S.rf
  have hG : va_S A s.heap s.heap [] := va_S.rf
  have hgz : s.heap.size = b + kK cs := hsz
  have hl := lv_entry ([.ref (b + x0)]) (n := 1) (Nat.le_of_ble_eq_true rfl)
  rw [lg_entry_eq]
  generalize (lg_sl ([.ref (b + x0)]) ++ List.replicate (1 - (lg_sl ([.ref (b + x0)])).length) Slot.unset).toArray = ls at hl ⊢
  have hl : lv_has ls 1 [(0, .ref (b + x0))] := hl
  have B_52 : ∀ (cs1 : CS) (u0 : Nat), c_X5_init_b52 F cs1 u0 = some cs9 → kK cs ≤ kK cs1 → kM cs ≤ kM cs1 → ∀ (Gh H : Heap) (locs : List Loc) (ls : Array Slot), va_P (dC, dI) vwCl (cW cB cI cJ cZ cS cO b cs1) H → va_D A (cW cB cI cJ cZ cS cO b cs1) → va_S A s.heap Gh [] → Gh.size = b + kK cs1 → va_S A Gh H locs → lv_has ls 1 [(0, .ref (b + u0))] → W p l e (headSpec (wsOf yX5_init cX5_init 1 none) ({ frames := 2, cells := kK cs9 - kK cs, slots := kM cs9 - kM cs, locals := 60 * (2) } : Room)).room s m ([.ref (b + x0)] : List Value).toArray below meth c H locs (kK cs1 - kK cs) (kM cs1 - kM cs) (MQ below (va_Qv (fun (_ : Unit) => True) (fun _ t_ => va_P (dC, dI) vwCl (cW cB cI cJ cZ cS cO b cs9) t_.heap ∧ va_D A (cW cB cI cJ cZ cS cO b cs9) ∧ b + kK cs9 ≤ t_.heap.size) A) ([.ref (b + x0)] : List Value).toArray s (kK cs9 - kK cs) (kM cs9 - kM cs) A) (F0 m 52 ls []) := by
    intro cs1 u0 h hmk hmm Gh H locs ls hP hD hG hgz hS hl
    obtain ⟨kb9, mb9⟩ := mo_c_X5_init_b52 F cs1 u0 cs9 h
    unfold c_X5_init_b52 at h
    refine lv_aload_n hx hb dX5_init_52 rfl (lv_at hl 0 rfl) ?_
    refine lv_bipush (v := 10) hx hb dX5_init_53 (by decide) ?_
    replace h := ob h; obtain ⟨cs_1, hv_1, h⟩ := h
    obtain ⟨qk_1, qm_1⟩ := pI_k hv_1
    refine fp_X5_38 hx hb hts hown hK hP hD hS hv_1 dX5_init_55 (fun H locs hP hD hS => ?_)
    have e1 := Option.some.inj h
    rw [e1] at hP hD
    have e3 := congrArg kK e1
    have e4 := congrArg kM e1
    refine W_cnt (c2 := kK cs9 - kK cs) (n2 := kM cs9 - kM cs) (by omega) (by omega) ?_
    exact W.vret hx hb hr (fun t_ ht hW => ⟨⟨(), rfl, trivial, by rw [ht]; exact hP, hD, by rw [ht]; have := hS.1; omega⟩, (hG.comp hS).F ht⟩) (hG.comp hS).2.2 dX5_init_58
  have B_36 : ∀ (cs1 : CS) (u0 : Nat) (y0 : Nat) (y1 : Nat), c_X5_init_b36 F cs1 u0 y0 y1 = some cs9 → kK cs ≤ kK cs1 → kM cs ≤ kM cs1 → ∀ (Gh H : Heap) (locs : List Loc) (ls : Array Slot), va_P (dC, dI) vwCl (cW cB cI cJ cZ cS cO b cs1) H → va_D A (cW cB cI cJ cZ cS cO b cs1) → va_S A s.heap Gh [] → Gh.size = b + kK cs1 → va_S A Gh H locs → lv_has ls 1 [(0, .ref (b + u0))] → W p l e (headSpec (wsOf yX5_init cX5_init 1 none) ({ frames := 2, cells := kK cs9 - kK cs, slots := kM cs9 - kM cs, locals := 60 * (2) } : Room)).room s m ([.ref (b + x0)] : List Value).toArray below meth c H locs (kK cs1 - kK cs) (kM cs1 - kM cs) (MQ below (va_Qv (fun (_ : Unit) => True) (fun _ t_ => va_P (dC, dI) vwCl (cW cB cI cJ cZ cS cO b cs9) t_.heap ∧ va_D A (cW cB cI cJ cZ cS cO b cs9) ∧ b + kK cs9 ≤ t_.heap.size) A) ([.ref (b + x0)] : List Value).toArray s (kK cs9 - kK cs) (kM cs9 - kM cs) A) (F0 m 36 ls [.ref (b + y0), .ref (b + y1)]) := by
    intro cs1 u0 y0 y1 h hmk hmm Gh H locs ls hP hD hG hgz hS hl
    obtain ⟨kb9, mb9⟩ := mo_c_X5_init_b36 F cs1 u0 y0 y1 cs9 h
    unfold c_X5_init_b36 at h
    replace h := ob h; obtain ⟨cs_2, hv_2, h⟩ := h
    obtain ⟨qk_2, qm_2⟩ := pR_k hv_2
    refine fp_X5_28 (v := (some y0)) hx hb hts hown hK hP hD hS hin hv_2 dX5_init_36 (fun H locs hP hD hS => ?_)
    refine lv_aload_n hx hb dX5_init_39 rfl (lv_at hl 0 rfl) ?_
    refine lv_iconst (v := (-1)) hx hb dX5_init_40 (by decide) ?_
    replace h := ob h; obtain ⟨cs_3, hv_3, h⟩ := h
    obtain ⟨qk_3, qm_3⟩ := pI_k hv_3
    refine fp_X5_31 hx hb hts hown hK hP hD hS hv_3 dX5_init_41 (fun H locs hP hD hS => ?_)
    refine lv_aload_n hx hb dX5_init_44 rfl (lv_at hl 0 rfl) ?_
    refine lv_bipush (v := 12) hx hb dX5_init_45 (by decide) ?_
    replace h := ob h; obtain ⟨cs_4, hv_4, h⟩ := h
    obtain ⟨qk_4, qm_4⟩ := nwA_k hv_4
    obtain ⟨k9_4, m9_4⟩ := mo_c_X5_init_b52 F cs_4 u0 cs9 h
    refine nar_X5_34 hx hb hts hown hK hP hD hS hG hA (by omega) (by omega) hin ⟨by show kK cs1 - kK cs + 1 ≤ kK cs9 - kK cs; omega, by show kM cs1 - kM cs + (12 : Int32).toNatClampNeg ≤ kM cs9 - kM cs; omega⟩ hv_4 dX5_init_47 dX5_init_49 (fun H locs hP hD hG hgz hS => ?_)
    refine W_cnt (c2 := kK cs_4 - kK cs) (n2 := kM cs_4 - kM cs) (by omega) (by omega) ?_
    exact B_52 cs_4 u0 h (by omega) (by omega) _ _ _ _ hP hD hG (by omega) hS (lv_sub hl [0] rfl)
  have B_32 : ∀ (cs1 : CS) (u0 : Nat) (y0 : Nat) (y1 : Nat), c_X5_init_b32 F cs1 u0 y0 y1 = some cs9 → kK cs ≤ kK cs1 → kM cs ≤ kM cs1 → ∀ (Gh H : Heap) (locs : List Loc) (ls : Array Slot), va_P (dC, dI) vwCl (cW cB cI cJ cZ cS cO b cs1) H → va_D A (cW cB cI cJ cZ cS cO b cs1) → va_S A s.heap Gh [] → Gh.size = b + kK cs1 → va_S A Gh H locs → lv_has ls 1 [(0, .ref (b + u0))] → W p l e (headSpec (wsOf yX5_init cX5_init 1 none) ({ frames := 2, cells := kK cs9 - kK cs, slots := kM cs9 - kM cs, locals := 60 * (2) } : Room)).room s m ([.ref (b + x0)] : List Value).toArray below meth c H locs (kK cs1 - kK cs) (kM cs1 - kM cs) (MQ below (va_Qv (fun (_ : Unit) => True) (fun _ t_ => va_P (dC, dI) vwCl (cW cB cI cJ cZ cS cO b cs9) t_.heap ∧ va_D A (cW cB cI cJ cZ cS cO b cs9) ∧ b + kK cs9 ≤ t_.heap.size) A) ([.ref (b + x0)] : List Value).toArray s (kK cs9 - kK cs) (kM cs9 - kM cs) A) (F0 m 32 ls [.ref (b + y0), .ref (b + y1)]) := by
    intro cs1 u0 y0 y1 h hmk hmm Gh H locs ls hP hD hG hgz hS hl
    obtain ⟨kb9, mb9⟩ := mo_c_X5_init_b32 F cs1 u0 y0 y1 cs9 h
    unfold c_X5_init_b32 at h
    refine lv_dup hx hb dX5_init_32 rfl ?_
    replace h := ob h; obtain ⟨cs_5, hv_5, h⟩ := h
    obtain ⟨qk_5, qm_5⟩ := mo_c_X2_init F cs1 y0 cs_5 hv_5
    obtain ⟨k9_5, m9_5⟩ := mo_c_X5_init_b36 F cs_5 u0 y0 y1 cs9 h
    refine caiV (As := []) hx hb hml hts hown hK hP hD hS hG hA (by omega) (by omega) hZ (sa_X2_init l dC dI cB cI cJ cZ cS cO b K V fz F cs1 y0 cs_5 hv_5) (cw_X5_X2_init hts (fr := 1) (Nat.le_of_ble_eq_true rfl) (Nat.le_of_ble_eq_true rfl)) rfl hl.1 (Nat.le_of_ble_eq_true rfl) ⟨by show kK cs1 - kK cs + (kK cs_5 - kK cs1) ≤ kK cs9 - kK cs; omega, by show kM cs1 - kM cs + (kM cs_5 - kM cs1) ≤ kM cs9 - kM cs; omega⟩ dX5_init_33 (fun H locs hP hD hG hgz hS => ?_)
    refine W_cnt (c2 := kK cs_5 - kK cs) (n2 := kM cs_5 - kM cs) (by omega) (by omega) ?_
    exact B_36 cs_5 u0 y0 y1 h (by omega) (by omega) _ _ _ _ hP hD hG (by omega) hS (lv_sub hl [0] rfl)
  have B_23 : ∀ (cs1 : CS) (u0 : Nat), c_X5_init_b23 F cs1 u0 = some cs9 → kK cs ≤ kK cs1 → kM cs ≤ kM cs1 → ∀ (Gh H : Heap) (locs : List Loc) (ls : Array Slot), va_P (dC, dI) vwCl (cW cB cI cJ cZ cS cO b cs1) H → va_D A (cW cB cI cJ cZ cS cO b cs1) → va_S A s.heap Gh [] → Gh.size = b + kK cs1 → va_S A Gh H locs → lv_has ls 1 [(0, .ref (b + u0))] → W p l e (headSpec (wsOf yX5_init cX5_init 1 none) ({ frames := 2, cells := kK cs9 - kK cs, slots := kM cs9 - kM cs, locals := 60 * (2) } : Room)).room s m ([.ref (b + x0)] : List Value).toArray below meth c H locs (kK cs1 - kK cs) (kM cs1 - kM cs) (MQ below (va_Qv (fun (_ : Unit) => True) (fun _ t_ => va_P (dC, dI) vwCl (cW cB cI cJ cZ cS cO b cs9) t_.heap ∧ va_D A (cW cB cI cJ cZ cS cO b cs9) ∧ b + kK cs9 ≤ t_.heap.size) A) ([.ref (b + x0)] : List Value).toArray s (kK cs9 - kK cs) (kM cs9 - kM cs) A) (F0 m 23 ls []) := by
    intro cs1 u0 h hmk hmm Gh H locs ls hP hD hG hgz hS hl
    obtain ⟨kb9, mb9⟩ := mo_c_X5_init_b23 F cs1 u0 cs9 h
    unfold c_X5_init_b23 at h
    refine lv_aload_n hx hb dX5_init_23 rfl (lv_at hl 0 rfl) ?_
    refine lv_iconst (v := (-1)) hx hb dX5_init_24 (by decide) ?_
    replace h := ob h; obtain ⟨cs_6, hv_6, h⟩ := h
    obtain ⟨qk_6, qm_6⟩ := pI_k hv_6
    refine fp_X5_24 hx hb hts hown hK hP hD hS hv_6 dX5_init_25 (fun H locs hP hD hS => ?_)
    refine lv_aload_n hx hb dX5_init_28 rfl (lv_at hl 0 rfl) ?_
    replace h := ob h; obtain ⟨cs_7, hv_7, h⟩ := h
    obtain ⟨qk_7, qm_7⟩ := nwO_k hv_7
    obtain ⟨k9_7, m9_7⟩ := mo_c_X5_init_b32 F cs_7 u0 (kK cs_6) u0 cs9 h
    refine new_X5_9 hx hb hts hown hK hP hD hS hG hA (by omega) (by omega) ⟨by show kK cs1 - kK cs + 1 ≤ kK cs9 - kK cs; omega, by show kM cs1 - kM cs + 5 ≤ kM cs9 - kM cs; omega⟩ hv_7 dX5_init_29 (fun H locs hP hD hG hgz hS => ?_)
    refine W_cnt (c2 := kK cs_7 - kK cs) (n2 := kM cs_7 - kM cs) (by omega) (by omega) ?_
    exact B_32 cs_7 u0 (kK cs_6) u0 h (by omega) (by omega) _ _ _ _ hP hD hG (by omega) hS (lv_sub hl [0] rfl)
  have B_12 : ∀ (cs1 : CS) (u0 : Nat) (y0 : Nat) (y1 : Nat), c_X5_init_b12 F cs1 u0 y0 y1 = some cs9 → kK cs ≤ kK cs1 → kM cs ≤ kM cs1 → ∀ (Gh H : Heap) (locs : List Loc) (ls : Array Slot), va_P (dC, dI) vwCl (cW cB cI cJ cZ cS cO b cs1) H → va_D A (cW cB cI cJ cZ cS cO b cs1) → va_S A s.heap Gh [] → Gh.size = b + kK cs1 → va_S A Gh H locs → lv_has ls 1 [(0, .ref (b + u0))] → W p l e (headSpec (wsOf yX5_init cX5_init 1 none) ({ frames := 2, cells := kK cs9 - kK cs, slots := kM cs9 - kM cs, locals := 60 * (2) } : Room)).room s m ([.ref (b + x0)] : List Value).toArray below meth c H locs (kK cs1 - kK cs) (kM cs1 - kM cs) (MQ below (va_Qv (fun (_ : Unit) => True) (fun _ t_ => va_P (dC, dI) vwCl (cW cB cI cJ cZ cS cO b cs9) t_.heap ∧ va_D A (cW cB cI cJ cZ cS cO b cs9) ∧ b + kK cs9 ≤ t_.heap.size) A) ([.ref (b + x0)] : List Value).toArray s (kK cs9 - kK cs) (kM cs9 - kM cs) A) (F0 m 12 ls [.ref (b + y0), .ref (b + y1)]) := by
    intro cs1 u0 y0 y1 h hmk hmm Gh H locs ls hP hD hG hgz hS hl
    obtain ⟨kb9, mb9⟩ := mo_c_X5_init_b12 F cs1 u0 y0 y1 cs9 h
    unfold c_X5_init_b12 at h
    replace h := ob h; obtain ⟨cs_8, hv_8, h⟩ := h
    obtain ⟨qk_8, qm_8⟩ := pR_k hv_8
    refine fp_X5_12 (v := (some y0)) hx hb hts hown hK hP hD hS hin hv_8 dX5_init_12 (fun H locs hP hD hS => ?_)
    refine lv_aload_n hx hb dX5_init_15 rfl (lv_at hl 0 rfl) ?_
    refine lv_iconst (v := 3) hx hb dX5_init_16 (by decide) ?_
    replace h := ob h; obtain ⟨cs_9, hv_9, h⟩ := h
    obtain ⟨qk_9, qm_9⟩ := nwA_k hv_9
    obtain ⟨k9_9, m9_9⟩ := mo_c_X5_init_b23 F cs_9 u0 cs9 h
    refine nar_X5_20 hx hb hts hown hK hP hD hS hG hA (by omega) (by omega) hin ⟨by show kK cs1 - kK cs + 1 ≤ kK cs9 - kK cs; omega, by show kM cs1 - kM cs + (3 : Int32).toNatClampNeg ≤ kM cs9 - kM cs; omega⟩ hv_9 (hts _ (List.mem_cons_of_mem _ kw_654)) hZ.aoS dX5_init_17 dX5_init_20 (fun H locs hP hD hG hgz hS => ?_)
    refine W_cnt (c2 := kK cs_9 - kK cs) (n2 := kM cs_9 - kM cs) (by omega) (by omega) ?_
    exact B_23 cs_9 u0 h (by omega) (by omega) _ _ _ _ hP hD hG (by omega) hS (lv_sub hl [0] rfl)
  have B_8 : ∀ (cs1 : CS) (u0 : Nat) (y0 : Nat) (y1 : Nat), c_X5_init_b8 F cs1 u0 y0 y1 = some cs9 → kK cs ≤ kK cs1 → kM cs ≤ kM cs1 → ∀ (Gh H : Heap) (locs : List Loc) (ls : Array Slot), va_P (dC, dI) vwCl (cW cB cI cJ cZ cS cO b cs1) H → va_D A (cW cB cI cJ cZ cS cO b cs1) → va_S A s.heap Gh [] → Gh.size = b + kK cs1 → va_S A Gh H locs → lv_has ls 1 [(0, .ref (b + u0))] → W p l e (headSpec (wsOf yX5_init cX5_init 1 none) ({ frames := 2, cells := kK cs9 - kK cs, slots := kM cs9 - kM cs, locals := 60 * (2) } : Room)).room s m ([.ref (b + x0)] : List Value).toArray below meth c H locs (kK cs1 - kK cs) (kM cs1 - kM cs) (MQ below (va_Qv (fun (_ : Unit) => True) (fun _ t_ => va_P (dC, dI) vwCl (cW cB cI cJ cZ cS cO b cs9) t_.heap ∧ va_D A (cW cB cI cJ cZ cS cO b cs9) ∧ b + kK cs9 ≤ t_.heap.size) A) ([.ref (b + x0)] : List Value).toArray s (kK cs9 - kK cs) (kM cs9 - kM cs) A) (F0 m 8 ls [.ref (b + y0), .ref (b + y1)]) := by
    intro cs1 u0 y0 y1 h hmk hmm Gh H locs ls hP hD hG hgz hS hl
    obtain ⟨kb9, mb9⟩ := mo_c_X5_init_b8 F cs1 u0 y0 y1 cs9 h
    unfold c_X5_init_b8 at h
    refine lv_dup hx hb dX5_init_8 rfl ?_
    replace h := ob h; obtain ⟨cs_10, hv_10, h⟩ := h
    obtain ⟨qk_10, qm_10⟩ := mo_c_X2_init F cs1 y0 cs_10 hv_10
    obtain ⟨k9_10, m9_10⟩ := mo_c_X5_init_b12 F cs_10 u0 y0 y1 cs9 h
    refine caiV (As := []) hx hb hml hts hown hK hP hD hS hG hA (by omega) (by omega) hZ (sa_X2_init l dC dI cB cI cJ cZ cS cO b K V fz F cs1 y0 cs_10 hv_10) (cw_X5_X2_init hts (fr := 1) (Nat.le_of_ble_eq_true rfl) (Nat.le_of_ble_eq_true rfl)) rfl hl.1 (Nat.le_of_ble_eq_true rfl) ⟨by show kK cs1 - kK cs + (kK cs_10 - kK cs1) ≤ kK cs9 - kK cs; omega, by show kM cs1 - kM cs + (kM cs_10 - kM cs1) ≤ kM cs9 - kM cs; omega⟩ dX5_init_9 (fun H locs hP hD hG hgz hS => ?_)
    refine W_cnt (c2 := kK cs_10 - kK cs) (n2 := kM cs_10 - kM cs) (by omega) (by omega) ?_
    exact B_12 cs_10 u0 y0 y1 h (by omega) (by omega) _ _ _ _ hP hD hG (by omega) hS (lv_sub hl [0] rfl)
  have h := hf
  unfold c_X5_init at h
  refine W_cnt (c2 := kK cs - kK cs) (n2 := kM cs - kM cs) (by omega) (by omega) ?_
  refine lv_aload_n hx hb dX5_init_0 rfl (lv_at hl 0 rfl) ?_
  refine W.objInit hx hb hown (hts _ (List.mem_cons_of_mem _ kw_621)) (hts _ (List.mem_cons_of_mem _ kw_214)) (hts _ (List.mem_cons_of_mem _ kc_objectInit)) rfl (by rw [hml]; exact hl.1) rfl dX5_init_1 (Nat.le_of_ble_eq_true rfl) (Nat.le_of_ble_eq_true rfl) ?_
  refine W.eq (g2 := F0 m 4 ls []) rfl ?_
  refine lv_aload_n hx hb dX5_init_4 rfl (lv_at hl 0 rfl) ?_
  replace h := ob h; obtain ⟨cs_11, hv_11, h⟩ := h
  obtain ⟨qk_11, qm_11⟩ := nwO_k hv_11
  obtain ⟨k9_11, m9_11⟩ := mo_c_X5_init_b8 F cs_11 x0 (kK cs) x0 cs9 h
  refine new_X5_9 hx hb hts hown hK hP hD hS hG hA (by omega) (by omega) ⟨by show kK cs - kK cs + 1 ≤ kK cs9 - kK cs; omega, by show kM cs - kM cs + 5 ≤ kM cs9 - kM cs; omega⟩ hv_11 dX5_init_5 (fun H locs hP hD hG hgz hS => ?_)
  refine W_cnt (c2 := kK cs_11 - kK cs) (n2 := kM cs_11 - kM cs) (by omega) (by omega) ?_
  exact B_8 cs_11 x0 (kK cs) x0 h (by omega) (by omega) _ _ _ _ hP hD hG (by omega) hS (lv_sub hl [0] rfl)
theorem dX6_init_0 : decode cX6_init 0 = .ok (.aload_n 0, 1) := by decide +kernel
theorem dX6_init_1 : decode cX6_init 1 = .ok (.invokespecial 3, 3) := by decide +kernel
theorem dX6_init_4 : decode cX6_init 4 = .ok (.aload_n 0, 1) := by decide +kernel
theorem dX6_init_5 : decode cX6_init 5 = .ok (.iconst (-1), 1) := by decide +kernel
theorem dX6_init_6 : decode cX6_init 6 = .ok (.putfield 9, 3) := by decide +kernel
theorem dX6_init_9 : decode cX6_init 9 = .ok (.aload_n 0, 1) := by decide +kernel
theorem dX6_init_10 : decode cX6_init 10 = .ok (.ldc2_w 15, 3) := by decide +kernel
theorem dX6_init_13 : decode cX6_init 13 = .ok (.putfield 17, 3) := by decide +kernel
theorem dX6_init_16 : decode cX6_init 16 = .ok (.aload_n 0, 1) := by decide +kernel
theorem dX6_init_17 : decode cX6_init 17 = .ok (.ldc2_w 15, 3) := by decide +kernel
theorem dX6_init_20 : decode cX6_init 20 = .ok (.putfield 21, 3) := by decide +kernel
theorem dX6_init_23 : decode cX6_init 23 = .ok (.aload_n 0, 1) := by decide +kernel
theorem dX6_init_24 : decode cX6_init 24 = .ok (.iconst (-1), 1) := by decide +kernel
theorem dX6_init_25 : decode cX6_init 25 = .ok (.putfield 24, 3) := by decide +kernel
theorem dX6_init_28 : decode cX6_init 28 = .ok (.aload_n 0, 1) := by decide +kernel
theorem dX6_init_29 : decode cX6_init 29 = .ok (.new 27, 3) := by decide +kernel
theorem dX6_init_32 : decode cX6_init 32 = .ok (.dup, 1) := by decide +kernel
theorem dX6_init_33 : decode cX6_init 33 = .ok (.invokespecial 29, 3) := by decide +kernel
theorem dX6_init_36 : decode cX6_init 36 = .ok (.putfield 30, 3) := by decide +kernel
theorem dX6_init_39 : decode cX6_init 39 = .ok (.return_, 1) := by decide +kernel
def c_X6_init_b36 (F : Nat) (cs1 : CS) (y0 : Nat) (y1 : Nat) : Option CS := Option.bind (pR cs1 7 235 y1 (some y0)) fun cs_1 => some cs_1
def c_X6_init_b32 (F : Nat) (cs1 : CS) (y0 : Nat) (y1 : Nat) : Option CS := Option.bind (c_X2_init F cs1 y0) fun cs_2 => c_X6_init_b36 F cs_2 y0 y1
def c_X6_init (F : Nat) (cs : CS) (x0 : Nat) : Option CS := Option.bind (pI cs 7 224 x0 (-1)) fun cs_3 => Option.bind (pJ cs_3 7 228 x0 (-1)) fun cs_4 => Option.bind (pJ cs_4 7 230 x0 (-1)) fun cs_5 => Option.bind (pI cs_5 7 233 x0 (-1)) fun cs_6 => Option.bind (nwO cs_6 3 5) fun cs_7 => c_X6_init_b32 F cs_7 (kK cs_6) x0
theorem cw_X9_X6_init {R : Room} {s : State} {args : Array Value} {y0 : MethodName} {c0 : ByteArray} {n0 : Nat} {r0 : Option FieldType} {K V : Nat → Nat} {fz : Value} {A : Nat → Prop} (hZ : zE K V fz A s) (hts : ∀ w ∈ wsOf y0 c0 n0 r0, w.before args s = true) {fr mc ms : Nat} (h1 : fr + 1 ≤ R.frames) (h2 : 8 + (1 + 11) + 60 * fr ≤ R.locals) : va_CN R s args RX9 264 yX6_init "StreamQueries" cX6_init 1 none (wsOf yX6_init cX6_init 1 none) ({ frames := fr, cells := mc, slots := ms, locals := 60 * fr } : Room) mc ms 0 ∧ yX6_init.name = "<init>" ∧ (Cond.instanceMethod yX6_init).before args s = true := ⟨va_cnB 0 hts (gd_all (in_I kc_X6_init)) rfl rfl rfl hZ.n2 (hts _ (List.mem_cons_of_mem _ kw_203)) (by decide +kernel) ⟨h1, h2⟩, rfl, (hts _ (List.mem_cons_of_mem _ kw_1048))⟩
theorem mo_c_X6_init_b36 (F : Nat) (cs1 : CS) (y0 : Nat) (y1 : Nat) (cs9 : CS) (h : c_X6_init_b36 F cs1 y0 y1 = some cs9) : kK cs1 ≤ kK cs9 ∧ kM cs1 ≤ kM cs9 := by
  unfold c_X6_init_b36 at h
  replace h := ob h; obtain ⟨cs_3, hv_3, h⟩ := h
  obtain ⟨qk_3, qm_3⟩ := pR_k hv_3
  have h9 := Option.some.inj h
  have k9 := congrArg kK h9; have m9 := congrArg kM h9; exact ⟨by omega, by omega⟩
theorem mo_c_X6_init_b32 (F : Nat) (cs1 : CS) (y0 : Nat) (y1 : Nat) (cs9 : CS) (h : c_X6_init_b32 F cs1 y0 y1 = some cs9) : kK cs1 ≤ kK cs9 ∧ kM cs1 ≤ kM cs9 := by
  unfold c_X6_init_b32 at h
  replace h := ob h; obtain ⟨cs_3, hv_3, h⟩ := h
  obtain ⟨qk_3, qm_3⟩ := mo_c_X2_init F cs1 y0 cs_3 hv_3
  obtain ⟨k9, m9⟩ := mo_c_X6_init_b36 F cs_3 y0 y1 cs9 h
  exact ⟨by omega, by omega⟩
theorem mo_c_X6_init (F : Nat) (cs : CS) (x0 : Nat) (cs9 : CS) (h : c_X6_init F cs x0 = some cs9) : kK cs ≤ kK cs9 ∧ kM cs ≤ kM cs9 := by
  unfold c_X6_init at h
  replace h := ob h; obtain ⟨cs_3, hv_3, h⟩ := h
  obtain ⟨qk_3, qm_3⟩ := pI_k hv_3
  replace h := ob h; obtain ⟨cs_4, hv_4, h⟩ := h
  obtain ⟨qk_4, qm_4⟩ := pJ_k hv_4
  replace h := ob h; obtain ⟨cs_5, hv_5, h⟩ := h
  obtain ⟨qk_5, qm_5⟩ := pJ_k hv_5
  replace h := ob h; obtain ⟨cs_6, hv_6, h⟩ := h
  obtain ⟨qk_6, qm_6⟩ := pI_k hv_6
  replace h := ob h; obtain ⟨cs_7, hv_7, h⟩ := h
  obtain ⟨qk_7, qm_7⟩ := nwO_k hv_7
  obtain ⟨k9, m9⟩ := mo_c_X6_init_b32 F cs_7 (kK cs_6) x0 cs9 h
  exact ⟨by omega, by omega⟩
set_option maxHeartbeats 4000000 in
set_option maxRecDepth 100000 in
theorem sa_X6_init (l : Launch) (dC : Nat → ClassId) (dI : Nat → Nat → Nat) (cB cI cJ cZ cS cO : ClassId) (b : Nat) (K V : Nat → Nat) (fz : Value) (F : Nat) (cs : CS) (x0 : Nat) (cs9 : CS) (hf : c_X6_init F cs x0 = some cs9) : oaV l dC dI cB cI cJ cZ cS cO b K V fz yX6_init (wsOf yX6_init cX6_init 1 none) (2) [.ref (b + x0)] cs cs9 := by
  obtain ⟨kb9, mb9⟩ := mo_c_X6_init F cs x0 cs9 hf
  refine ⟨⟨kb9, mb9⟩, ?_⟩
  refine Met.ofW (cc := cX6_init) (maxL := 1) (ret := none) (by decide) rfl ?_
  intro p e s m args below meth c s₁ B hml hv
  obtain ⟨rfl, hsz, hP, hK, hD0, hZ⟩ := hv
  have hx := B.exec
  have hb := B.bytes
  have hr := B.returns
  have hts := atoms_spec (ws := (wsOf yX6_init cX6_init 1 none)) B.pre
  have hown : s.vm.findClass RX6 = some m.cls := findClass_of_methodNamed B.named
  have hin : meth.name = "<init>" := (name_of_methodNamed B.named B.method).1
  have hlocks := B.notSynchronized
  have hD := hD0.self (sz := b + kK cs)
  generalize hAe : va_A (cW cB cI cJ cZ cS cO b cs) (b + kK cs) = A at hD hZ ⊢
  have hA : ∀ q : Nat, s.heap.size ≤ q → A q := fun q h => by rw [← hAe]; exact Or.inr (by omega)
  have hS : va_S A s.heap s.heap [] := va_S.rf
  have hG : va_S A s.heap s.heap [] := va_S.rf
  have hgz : s.heap.size = b + kK cs := hsz
  have hl := lv_entry ([.ref (b + x0)]) (n := 1) (Nat.le_of_ble_eq_true rfl)
  rw [lg_entry_eq]
  generalize (lg_sl ([.ref (b + x0)]) ++ List.replicate (1 - (lg_sl ([.ref (b + x0)])).length) Slot.unset).toArray = ls at hl ⊢
  have hl : lv_has ls 1 [(0, .ref (b + x0))] := hl
  have B_36 : ∀ (cs1 : CS) (y0 : Nat) (y1 : Nat), c_X6_init_b36 F cs1 y0 y1 = some cs9 → kK cs ≤ kK cs1 → kM cs ≤ kM cs1 → ∀ (Gh H : Heap) (locs : List Loc) (ls : Array Slot), va_P (dC, dI) vwCl (cW cB cI cJ cZ cS cO b cs1) H → va_D A (cW cB cI cJ cZ cS cO b cs1) → va_S A s.heap Gh [] → Gh.size = b + kK cs1 → va_S A Gh H locs → lv_has ls 1 [] → W p l e (headSpec (wsOf yX6_init cX6_init 1 none) ({ frames := 2, cells := kK cs9 - kK cs, slots := kM cs9 - kM cs, locals := 60 * (2) } : Room)).room s m ([.ref (b + x0)] : List Value).toArray below meth c H locs (kK cs1 - kK cs) (kM cs1 - kM cs) (MQ below (va_Qv (fun (_ : Unit) => True) (fun _ t_ => va_P (dC, dI) vwCl (cW cB cI cJ cZ cS cO b cs9) t_.heap ∧ va_D A (cW cB cI cJ cZ cS cO b cs9) ∧ b + kK cs9 ≤ t_.heap.size) A) ([.ref (b + x0)] : List Value).toArray s (kK cs9 - kK cs) (kM cs9 - kM cs) A) (F0 m 36 ls [.ref (b + y0), .ref (b + y1)]) := by
    intro cs1 y0 y1 h hmk hmm Gh H locs ls hP hD hG hgz hS hl
    obtain ⟨kb9, mb9⟩ := mo_c_X6_init_b36 F cs1 y0 y1 cs9 h
    unfold c_X6_init_b36 at h
    replace h := ob h; obtain ⟨cs_1, hv_1, h⟩ := h
    obtain ⟨qk_1, qm_1⟩ := pR_k hv_1
    refine fp_X6_30 (v := (some y0)) hx hb hts hown hK hP hD hS hin hv_1 dX6_init_36 (fun H locs hP hD hS => ?_)
    have e1 := Option.some.inj h
    rw [e1] at hP hD
    have e3 := congrArg kK e1
    have e4 := congrArg kM e1
    refine W_cnt (c2 := kK cs9 - kK cs) (n2 := kM cs9 - kM cs) (by omega) (by omega) ?_
    exact W.vret hx hb hr (fun t_ ht hW => ⟨⟨(), rfl, trivial, by rw [ht]; exact hP, hD, by rw [ht]; have := hS.1; omega⟩, (hG.comp hS).F ht⟩) (hG.comp hS).2.2 dX6_init_39
  have B_32 : ∀ (cs1 : CS) (y0 : Nat) (y1 : Nat), c_X6_init_b32 F cs1 y0 y1 = some cs9 → kK cs ≤ kK cs1 → kM cs ≤ kM cs1 → ∀ (Gh H : Heap) (locs : List Loc) (ls : Array Slot), va_P (dC, dI) vwCl (cW cB cI cJ cZ cS cO b cs1) H → va_D A (cW cB cI cJ cZ cS cO b cs1) → va_S A s.heap Gh [] → Gh.size = b + kK cs1 → va_S A Gh H locs → lv_has ls 1 [] → W p l e (headSpec (wsOf yX6_init cX6_init 1 none) ({ frames := 2, cells := kK cs9 - kK cs, slots := kM cs9 - kM cs, locals := 60 * (2) } : Room)).room s m ([.ref (b + x0)] : List Value).toArray below meth c H locs (kK cs1 - kK cs) (kM cs1 - kM cs) (MQ below (va_Qv (fun (_ : Unit) => True) (fun _ t_ => va_P (dC, dI) vwCl (cW cB cI cJ cZ cS cO b cs9) t_.heap ∧ va_D A (cW cB cI cJ cZ cS cO b cs9) ∧ b + kK cs9 ≤ t_.heap.size) A) ([.ref (b + x0)] : List Value).toArray s (kK cs9 - kK cs) (kM cs9 - kM cs) A) (F0 m 32 ls [.ref (b + y0), .ref (b + y1)]) := by
    intro cs1 y0 y1 h hmk hmm Gh H locs ls hP hD hG hgz hS hl
    obtain ⟨kb9, mb9⟩ := mo_c_X6_init_b32 F cs1 y0 y1 cs9 h
    unfold c_X6_init_b32 at h
    refine lv_dup hx hb dX6_init_32 rfl ?_
    replace h := ob h; obtain ⟨cs_2, hv_2, h⟩ := h
    obtain ⟨qk_2, qm_2⟩ := mo_c_X2_init F cs1 y0 cs_2 hv_2
    obtain ⟨k9_2, m9_2⟩ := mo_c_X6_init_b36 F cs_2 y0 y1 cs9 h
    refine caiV (As := []) hx hb hml hts hown hK hP hD hS hG hA (by omega) (by omega) hZ (sa_X2_init l dC dI cB cI cJ cZ cS cO b K V fz F cs1 y0 cs_2 hv_2) (cw_X6_X2_init hts (fr := 1) (Nat.le_of_ble_eq_true rfl) (Nat.le_of_ble_eq_true rfl)) rfl hl.1 (Nat.le_of_ble_eq_true rfl) ⟨by show kK cs1 - kK cs + (kK cs_2 - kK cs1) ≤ kK cs9 - kK cs; omega, by show kM cs1 - kM cs + (kM cs_2 - kM cs1) ≤ kM cs9 - kM cs; omega⟩ dX6_init_33 (fun H locs hP hD hG hgz hS => ?_)
    refine W_cnt (c2 := kK cs_2 - kK cs) (n2 := kM cs_2 - kM cs) (by omega) (by omega) ?_
    exact B_36 cs_2 y0 y1 h (by omega) (by omega) _ _ _ _ hP hD hG (by omega) hS (lv_sub hl [] rfl)
  have h := hf
  unfold c_X6_init at h
  refine W_cnt (c2 := kK cs - kK cs) (n2 := kM cs - kM cs) (by omega) (by omega) ?_
  refine lv_aload_n hx hb dX6_init_0 rfl (lv_at hl 0 rfl) ?_
  refine W.objInit hx hb hown (hts _ (List.mem_cons_of_mem _ kw_1050)) (hts _ (List.mem_cons_of_mem _ kw_214)) (hts _ (List.mem_cons_of_mem _ kc_objectInit)) rfl (by rw [hml]; exact hl.1) rfl dX6_init_1 (Nat.le_of_ble_eq_true rfl) (Nat.le_of_ble_eq_true rfl) ?_
  refine W.eq (g2 := F0 m 4 ls []) rfl ?_
  refine lv_aload_n hx hb dX6_init_4 rfl (lv_at hl 0 rfl) ?_
  refine lv_iconst (v := (-1)) hx hb dX6_init_5 (by decide) ?_
  replace h := ob h; obtain ⟨cs_3, hv_3, h⟩ := h
  obtain ⟨qk_3, qm_3⟩ := pI_k hv_3
  refine fp_X6_9 hx hb hts hown hK hP hD hS hv_3 dX6_init_6 (fun H locs hP hD hS => ?_)
  refine lv_aload_n hx hb dX6_init_9 rfl (lv_at hl 0 rfl) ?_
  refine lv_ldc2 hx hb hown (hts _ (List.mem_cons_of_mem _ kw_1051)) dX6_init_10 ?_
  replace h := ob h; obtain ⟨cs_4, hv_4, h⟩ := h
  obtain ⟨qk_4, qm_4⟩ := pJ_k hv_4
  refine fp_X6_17 hx hb hts hown hK hP hD hS hv_4 dX6_init_13 (fun H locs hP hD hS => ?_)
  refine lv_aload_n hx hb dX6_init_16 rfl (lv_at hl 0 rfl) ?_
  refine lv_ldc2 hx hb hown (hts _ (List.mem_cons_of_mem _ kw_1051)) dX6_init_17 ?_
  replace h := ob h; obtain ⟨cs_5, hv_5, h⟩ := h
  obtain ⟨qk_5, qm_5⟩ := pJ_k hv_5
  refine fp_X6_21 hx hb hts hown hK hP hD hS hv_5 dX6_init_20 (fun H locs hP hD hS => ?_)
  refine lv_aload_n hx hb dX6_init_23 rfl (lv_at hl 0 rfl) ?_
  refine lv_iconst (v := (-1)) hx hb dX6_init_24 (by decide) ?_
  replace h := ob h; obtain ⟨cs_6, hv_6, h⟩ := h
  obtain ⟨qk_6, qm_6⟩ := pI_k hv_6
  refine fp_X6_24 hx hb hts hown hK hP hD hS hv_6 dX6_init_25 (fun H locs hP hD hS => ?_)
  refine lv_aload_n hx hb dX6_init_28 rfl (lv_at hl 0 rfl) ?_
  replace h := ob h; obtain ⟨cs_7, hv_7, h⟩ := h
  obtain ⟨qk_7, qm_7⟩ := nwO_k hv_7
  obtain ⟨k9_7, m9_7⟩ := mo_c_X6_init_b32 F cs_7 (kK cs_6) x0 cs9 h
  refine new_X6_27 hx hb hts hown hK hP hD hS hG hA (by omega) (by omega) ⟨by show kK cs - kK cs + 1 ≤ kK cs9 - kK cs; omega, by show kM cs - kM cs + 5 ≤ kM cs9 - kM cs; omega⟩ hv_7 dX6_init_29 (fun H locs hP hD hG hgz hS => ?_)
  refine W_cnt (c2 := kK cs_7 - kK cs) (n2 := kM cs_7 - kM cs) (by omega) (by omega) ?_
  exact B_32 cs_7 (kK cs_6) x0 h (by omega) (by omega) _ _ _ _ hP hD hG (by omega) hS (lv_sub hl [] rfl)
theorem dX7_init_0 : decode cX7_init 0 = .ok (.aload_n 0, 1) := by decide +kernel
theorem dX7_init_1 : decode cX7_init 1 = .ok (.invokespecial 3, 3) := by decide +kernel
theorem dX7_init_4 : decode cX7_init 4 = .ok (.aload_n 0, 1) := by decide +kernel
theorem dX7_init_5 : decode cX7_init 5 = .ok (.ldc2_w 11, 3) := by decide +kernel
theorem dX7_init_8 : decode cX7_init 8 = .ok (.putfield 13, 3) := by decide +kernel
theorem dX7_init_11 : decode cX7_init 11 = .ok (.aload_n 0, 1) := by decide +kernel
theorem dX7_init_12 : decode cX7_init 12 = .ok (.bipush 6, 2) := by decide +kernel
theorem dX7_init_14 : decode cX7_init 14 = .ok (.newarray .int, 2) := by decide +kernel
theorem dX7_init_16 : decode cX7_init 16 = .ok (.putfield 19, 3) := by decide +kernel
theorem dX7_init_19 : decode cX7_init 19 = .ok (.aload_n 0, 1) := by decide +kernel
theorem dX7_init_20 : decode cX7_init 20 = .ok (.sipush 240, 3) := by decide +kernel
theorem dX7_init_23 : decode cX7_init 23 = .ok (.newarray .long, 2) := by decide +kernel
theorem dX7_init_25 : decode cX7_init 25 = .ok (.putfield 23, 3) := by decide +kernel
theorem dX7_init_28 : decode cX7_init 28 = .ok (.aload_n 0, 1) := by decide +kernel
theorem dX7_init_29 : decode cX7_init 29 = .ok (.sipush 240, 3) := by decide +kernel
theorem dX7_init_32 : decode cX7_init 32 = .ok (.newarray .byte, 2) := by decide +kernel
theorem dX7_init_34 : decode cX7_init 34 = .ok (.putfield 27, 3) := by decide +kernel
theorem dX7_init_37 : decode cX7_init 37 = .ok (.aload_n 0, 1) := by decide +kernel
theorem dX7_init_38 : decode cX7_init 38 = .ok (.bipush 48, 2) := by decide +kernel
theorem dX7_init_40 : decode cX7_init 40 = .ok (.newarray .byte, 2) := by decide +kernel
theorem dX7_init_42 : decode cX7_init 42 = .ok (.putfield 31, 3) := by decide +kernel
theorem dX7_init_45 : decode cX7_init 45 = .ok (.aload_n 0, 1) := by decide +kernel
theorem dX7_init_46 : decode cX7_init 46 = .ok (.iconst 4, 1) := by decide +kernel
theorem dX7_init_47 : decode cX7_init 47 = .ok (.newarray .long, 2) := by decide +kernel
theorem dX7_init_49 : decode cX7_init 49 = .ok (.putfield 34, 3) := by decide +kernel
theorem dX7_init_52 : decode cX7_init 52 = .ok (.aload_n 0, 1) := by decide +kernel
theorem dX7_init_53 : decode cX7_init 53 = .ok (.iconst 4, 1) := by decide +kernel
theorem dX7_init_54 : decode cX7_init 54 = .ok (.newarray .byte, 2) := by decide +kernel
theorem dX7_init_56 : decode cX7_init 56 = .ok (.putfield 37, 3) := by decide +kernel
theorem dX7_init_59 : decode cX7_init 59 = .ok (.return_, 1) := by decide +kernel
def c_X7_init_b59 (F : Nat) (cs1 : CS) : Option CS := some cs1
def c_X7_init_b52 (F : Nat) (cs1 : CS) (u0 : Nat) : Option CS := Option.bind (nwA cs1 8 263 u0 4) fun cs_1 => c_X7_init_b59 F cs_1
def c_X7_init_b45 (F : Nat) (cs1 : CS) (u0 : Nat) : Option CS := Option.bind (nwA cs1 8 262 u0 4) fun cs_2 => c_X7_init_b52 F cs_2 u0
def c_X7_init_b37 (F : Nat) (cs1 : CS) (u0 : Nat) : Option CS := Option.bind (nwA cs1 8 261 u0 48) fun cs_3 => c_X7_init_b45 F cs_3 u0
def c_X7_init_b28 (F : Nat) (cs1 : CS) (u0 : Nat) : Option CS := Option.bind (nwA cs1 8 260 u0 240) fun cs_4 => c_X7_init_b37 F cs_4 u0
def c_X7_init_b19 (F : Nat) (cs1 : CS) (u0 : Nat) : Option CS := Option.bind (nwA cs1 8 259 u0 240) fun cs_5 => c_X7_init_b28 F cs_5 u0
def c_X7_init (F : Nat) (cs : CS) (x0 : Nat) : Option CS := Option.bind (pJ cs 8 257 x0 (-9223372036854775808)) fun cs_6 => Option.bind (nwA cs_6 8 258 x0 6) fun cs_7 => c_X7_init_b19 F cs_7 x0
theorem cw_X11_X7_init {R : Room} {s : State} {args : Array Value} {y0 : MethodName} {c0 : ByteArray} {n0 : Nat} {r0 : Option FieldType} (hts : ∀ w ∈ wsOf y0 c0 n0 r0, w.before args s = true) {fr mc ms : Nat} (h1 : fr + 1 ≤ R.frames) (h2 : 8 + (1 + 11) + 60 * fr ≤ R.locals) : CallB R s args RX11 15 yX7_init cX7_init 1 none (wsOf yX7_init cX7_init 1 none) ({ frames := fr, cells := mc, slots := ms, locals := 60 * fr } : Room) mc ms 0 ∧ yX7_init.name = "<init>" ∧ (Cond.instanceMethod yX7_init).before args s = true := cwI 0 hts (gd_all (in_I kc_X7_init)) rfl rfl rfl (hts _ (List.mem_cons_of_mem _ kw_182)) (hts _ (List.mem_cons_of_mem _ kw_218)) (hts _ (List.mem_cons_of_mem _ kw_219)) rfl (by decide +kernel) ⟨h1, h2⟩
theorem mo_c_X7_init_b59 (F : Nat) (cs1 : CS) (cs9 : CS) (h : c_X7_init_b59 F cs1 = some cs9) : kK cs1 ≤ kK cs9 ∧ kM cs1 ≤ kM cs9 := by
  unfold c_X7_init_b59 at h
  have h9 := Option.some.inj h
  have k9 := congrArg kK h9; have m9 := congrArg kM h9; exact ⟨by omega, by omega⟩
theorem mo_c_X7_init_b52 (F : Nat) (cs1 : CS) (u0 : Nat) (cs9 : CS) (h : c_X7_init_b52 F cs1 u0 = some cs9) : kK cs1 ≤ kK cs9 ∧ kM cs1 ≤ kM cs9 := by
  unfold c_X7_init_b52 at h
  replace h := ob h; obtain ⟨cs_6, hv_6, h⟩ := h
  obtain ⟨qk_6, qm_6⟩ := nwA_k hv_6
  obtain ⟨k9, m9⟩ := mo_c_X7_init_b59 F cs_6 cs9 h
  exact ⟨by omega, by omega⟩
theorem mo_c_X7_init_b45 (F : Nat) (cs1 : CS) (u0 : Nat) (cs9 : CS) (h : c_X7_init_b45 F cs1 u0 = some cs9) : kK cs1 ≤ kK cs9 ∧ kM cs1 ≤ kM cs9 := by
  unfold c_X7_init_b45 at h
  replace h := ob h; obtain ⟨cs_6, hv_6, h⟩ := h
  obtain ⟨qk_6, qm_6⟩ := nwA_k hv_6
  obtain ⟨k9, m9⟩ := mo_c_X7_init_b52 F cs_6 u0 cs9 h
  exact ⟨by omega, by omega⟩
theorem mo_c_X7_init_b37 (F : Nat) (cs1 : CS) (u0 : Nat) (cs9 : CS) (h : c_X7_init_b37 F cs1 u0 = some cs9) : kK cs1 ≤ kK cs9 ∧ kM cs1 ≤ kM cs9 := by
  unfold c_X7_init_b37 at h
  replace h := ob h; obtain ⟨cs_6, hv_6, h⟩ := h
  obtain ⟨qk_6, qm_6⟩ := nwA_k hv_6
  obtain ⟨k9, m9⟩ := mo_c_X7_init_b45 F cs_6 u0 cs9 h
  exact ⟨by omega, by omega⟩
theorem mo_c_X7_init_b28 (F : Nat) (cs1 : CS) (u0 : Nat) (cs9 : CS) (h : c_X7_init_b28 F cs1 u0 = some cs9) : kK cs1 ≤ kK cs9 ∧ kM cs1 ≤ kM cs9 := by
  unfold c_X7_init_b28 at h
  replace h := ob h; obtain ⟨cs_6, hv_6, h⟩ := h
  obtain ⟨qk_6, qm_6⟩ := nwA_k hv_6
  obtain ⟨k9, m9⟩ := mo_c_X7_init_b37 F cs_6 u0 cs9 h
  exact ⟨by omega, by omega⟩
theorem mo_c_X7_init_b19 (F : Nat) (cs1 : CS) (u0 : Nat) (cs9 : CS) (h : c_X7_init_b19 F cs1 u0 = some cs9) : kK cs1 ≤ kK cs9 ∧ kM cs1 ≤ kM cs9 := by
  unfold c_X7_init_b19 at h
  replace h := ob h; obtain ⟨cs_6, hv_6, h⟩ := h
  obtain ⟨qk_6, qm_6⟩ := nwA_k hv_6
  obtain ⟨k9, m9⟩ := mo_c_X7_init_b28 F cs_6 u0 cs9 h
  exact ⟨by omega, by omega⟩
theorem mo_c_X7_init (F : Nat) (cs : CS) (x0 : Nat) (cs9 : CS) (h : c_X7_init F cs x0 = some cs9) : kK cs ≤ kK cs9 ∧ kM cs ≤ kM cs9 := by
  unfold c_X7_init at h
  replace h := ob h; obtain ⟨cs_6, hv_6, h⟩ := h
  obtain ⟨qk_6, qm_6⟩ := pJ_k hv_6
  replace h := ob h; obtain ⟨cs_7, hv_7, h⟩ := h
  obtain ⟨qk_7, qm_7⟩ := nwA_k hv_7
  obtain ⟨k9, m9⟩ := mo_c_X7_init_b19 F cs_7 x0 cs9 h
  exact ⟨by omega, by omega⟩
set_option maxHeartbeats 4000000 in
set_option maxRecDepth 100000 in
theorem sa_X7_init (l : Launch) (dC : Nat → ClassId) (dI : Nat → Nat → Nat) (cB cI cJ cZ cS cO : ClassId) (b : Nat) (K V : Nat → Nat) (fz : Value) (F : Nat) (cs : CS) (x0 : Nat) (cs9 : CS) (hf : c_X7_init F cs x0 = some cs9) : oaV l dC dI cB cI cJ cZ cS cO b K V fz yX7_init (wsOf yX7_init cX7_init 1 none) (1) [.ref (b + x0)] cs cs9 := by
  obtain ⟨kb9, mb9⟩ := mo_c_X7_init F cs x0 cs9 hf
  refine ⟨⟨kb9, mb9⟩, ?_⟩
  refine Met.ofW (cc := cX7_init) (maxL := 1) (ret := none) (by decide) rfl ?_
  intro p e s m args below meth c s₁ B hml hv
  obtain ⟨rfl, hsz, hP, hK, hD0, hZ⟩ := hv
  have hx := B.exec
  have hb := B.bytes
  have hr := B.returns
  have hts := atoms_spec (ws := (wsOf yX7_init cX7_init 1 none)) B.pre
  have hown : s.vm.findClass RX7 = some m.cls := findClass_of_methodNamed B.named
  have hin : meth.name = "<init>" := (name_of_methodNamed B.named B.method).1
  have hlocks := B.notSynchronized
  have hD := hD0.self (sz := b + kK cs)
  generalize hAe : va_A (cW cB cI cJ cZ cS cO b cs) (b + kK cs) = A at hD hZ ⊢
  have hA : ∀ q : Nat, s.heap.size ≤ q → A q := fun q h => by rw [← hAe]; exact Or.inr (by omega)
  have hS : va_S A s.heap s.heap [] := va_S.rf
  have hG : va_S A s.heap s.heap [] := va_S.rf
  have hgz : s.heap.size = b + kK cs := hsz
  have hl := lv_entry ([.ref (b + x0)]) (n := 1) (Nat.le_of_ble_eq_true rfl)
  rw [lg_entry_eq]
  generalize (lg_sl ([.ref (b + x0)]) ++ List.replicate (1 - (lg_sl ([.ref (b + x0)])).length) Slot.unset).toArray = ls at hl ⊢
  have hl : lv_has ls 1 [(0, .ref (b + x0))] := hl
  have B_59 : ∀ (cs1 : CS) , c_X7_init_b59 F cs1 = some cs9 → kK cs ≤ kK cs1 → kM cs ≤ kM cs1 → ∀ (Gh H : Heap) (locs : List Loc) (ls : Array Slot), va_P (dC, dI) vwCl (cW cB cI cJ cZ cS cO b cs1) H → va_D A (cW cB cI cJ cZ cS cO b cs1) → va_S A s.heap Gh [] → Gh.size = b + kK cs1 → va_S A Gh H locs → lv_has ls 1 [] → W p l e (headSpec (wsOf yX7_init cX7_init 1 none) ({ frames := 1, cells := kK cs9 - kK cs, slots := kM cs9 - kM cs, locals := 60 * (1) } : Room)).room s m ([.ref (b + x0)] : List Value).toArray below meth c H locs (kK cs1 - kK cs) (kM cs1 - kM cs) (MQ below (va_Qv (fun (_ : Unit) => True) (fun _ t_ => va_P (dC, dI) vwCl (cW cB cI cJ cZ cS cO b cs9) t_.heap ∧ va_D A (cW cB cI cJ cZ cS cO b cs9) ∧ b + kK cs9 ≤ t_.heap.size) A) ([.ref (b + x0)] : List Value).toArray s (kK cs9 - kK cs) (kM cs9 - kM cs) A) (F0 m 59 ls []) := by
    intro cs1  h hmk hmm Gh H locs ls hP hD hG hgz hS hl
    obtain ⟨kb9, mb9⟩ := mo_c_X7_init_b59 F cs1  cs9 h
    unfold c_X7_init_b59 at h
    have e1 := Option.some.inj h
    rw [e1] at hP hD
    have e3 := congrArg kK e1
    have e4 := congrArg kM e1
    refine W_cnt (c2 := kK cs9 - kK cs) (n2 := kM cs9 - kM cs) (by omega) (by omega) ?_
    exact W.vret hx hb hr (fun t_ ht hW => ⟨⟨(), rfl, trivial, by rw [ht]; exact hP, hD, by rw [ht]; have := hS.1; omega⟩, (hG.comp hS).F ht⟩) (hG.comp hS).2.2 dX7_init_59
  have B_52 : ∀ (cs1 : CS) (u0 : Nat), c_X7_init_b52 F cs1 u0 = some cs9 → kK cs ≤ kK cs1 → kM cs ≤ kM cs1 → ∀ (Gh H : Heap) (locs : List Loc) (ls : Array Slot), va_P (dC, dI) vwCl (cW cB cI cJ cZ cS cO b cs1) H → va_D A (cW cB cI cJ cZ cS cO b cs1) → va_S A s.heap Gh [] → Gh.size = b + kK cs1 → va_S A Gh H locs → lv_has ls 1 [(0, .ref (b + u0))] → W p l e (headSpec (wsOf yX7_init cX7_init 1 none) ({ frames := 1, cells := kK cs9 - kK cs, slots := kM cs9 - kM cs, locals := 60 * (1) } : Room)).room s m ([.ref (b + x0)] : List Value).toArray below meth c H locs (kK cs1 - kK cs) (kM cs1 - kM cs) (MQ below (va_Qv (fun (_ : Unit) => True) (fun _ t_ => va_P (dC, dI) vwCl (cW cB cI cJ cZ cS cO b cs9) t_.heap ∧ va_D A (cW cB cI cJ cZ cS cO b cs9) ∧ b + kK cs9 ≤ t_.heap.size) A) ([.ref (b + x0)] : List Value).toArray s (kK cs9 - kK cs) (kM cs9 - kM cs) A) (F0 m 52 ls []) := by
    intro cs1 u0 h hmk hmm Gh H locs ls hP hD hG hgz hS hl
    obtain ⟨kb9, mb9⟩ := mo_c_X7_init_b52 F cs1 u0 cs9 h
    unfold c_X7_init_b52 at h
    refine lv_aload_n hx hb dX7_init_52 rfl (lv_at hl 0 rfl) ?_
    refine lv_iconst (v := 4) hx hb dX7_init_53 (by decide) ?_
    replace h := ob h; obtain ⟨cs_1, hv_1, h⟩ := h
    obtain ⟨qk_1, qm_1⟩ := nwA_k hv_1
    obtain ⟨k9_1, m9_1⟩ := mo_c_X7_init_b59 F cs_1 cs9 h
    refine nar_X7_37 hx hb hts hown hK hP hD hS hG hA (by omega) (by omega) hin ⟨by show kK cs1 - kK cs + 1 ≤ kK cs9 - kK cs; omega, by show kM cs1 - kM cs + (4 : Int32).toNatClampNeg ≤ kM cs9 - kM cs; omega⟩ hv_1 dX7_init_54 dX7_init_56 (fun H locs hP hD hG hgz hS => ?_)
    refine W_cnt (c2 := kK cs_1 - kK cs) (n2 := kM cs_1 - kM cs) (by omega) (by omega) ?_
    exact B_59 cs_1 h (by omega) (by omega) _ _ _ _ hP hD hG (by omega) hS (lv_sub hl [] rfl)
  have B_45 : ∀ (cs1 : CS) (u0 : Nat), c_X7_init_b45 F cs1 u0 = some cs9 → kK cs ≤ kK cs1 → kM cs ≤ kM cs1 → ∀ (Gh H : Heap) (locs : List Loc) (ls : Array Slot), va_P (dC, dI) vwCl (cW cB cI cJ cZ cS cO b cs1) H → va_D A (cW cB cI cJ cZ cS cO b cs1) → va_S A s.heap Gh [] → Gh.size = b + kK cs1 → va_S A Gh H locs → lv_has ls 1 [(0, .ref (b + u0))] → W p l e (headSpec (wsOf yX7_init cX7_init 1 none) ({ frames := 1, cells := kK cs9 - kK cs, slots := kM cs9 - kM cs, locals := 60 * (1) } : Room)).room s m ([.ref (b + x0)] : List Value).toArray below meth c H locs (kK cs1 - kK cs) (kM cs1 - kM cs) (MQ below (va_Qv (fun (_ : Unit) => True) (fun _ t_ => va_P (dC, dI) vwCl (cW cB cI cJ cZ cS cO b cs9) t_.heap ∧ va_D A (cW cB cI cJ cZ cS cO b cs9) ∧ b + kK cs9 ≤ t_.heap.size) A) ([.ref (b + x0)] : List Value).toArray s (kK cs9 - kK cs) (kM cs9 - kM cs) A) (F0 m 45 ls []) := by
    intro cs1 u0 h hmk hmm Gh H locs ls hP hD hG hgz hS hl
    obtain ⟨kb9, mb9⟩ := mo_c_X7_init_b45 F cs1 u0 cs9 h
    unfold c_X7_init_b45 at h
    refine lv_aload_n hx hb dX7_init_45 rfl (lv_at hl 0 rfl) ?_
    refine lv_iconst (v := 4) hx hb dX7_init_46 (by decide) ?_
    replace h := ob h; obtain ⟨cs_2, hv_2, h⟩ := h
    obtain ⟨qk_2, qm_2⟩ := nwA_k hv_2
    obtain ⟨k9_2, m9_2⟩ := mo_c_X7_init_b52 F cs_2 u0 cs9 h
    refine nar_X7_34 hx hb hts hown hK hP hD hS hG hA (by omega) (by omega) hin ⟨by show kK cs1 - kK cs + 1 ≤ kK cs9 - kK cs; omega, by show kM cs1 - kM cs + (4 : Int32).toNatClampNeg ≤ kM cs9 - kM cs; omega⟩ hv_2 dX7_init_47 dX7_init_49 (fun H locs hP hD hG hgz hS => ?_)
    refine W_cnt (c2 := kK cs_2 - kK cs) (n2 := kM cs_2 - kM cs) (by omega) (by omega) ?_
    exact B_52 cs_2 u0 h (by omega) (by omega) _ _ _ _ hP hD hG (by omega) hS (lv_sub hl [0] rfl)
  have B_37 : ∀ (cs1 : CS) (u0 : Nat), c_X7_init_b37 F cs1 u0 = some cs9 → kK cs ≤ kK cs1 → kM cs ≤ kM cs1 → ∀ (Gh H : Heap) (locs : List Loc) (ls : Array Slot), va_P (dC, dI) vwCl (cW cB cI cJ cZ cS cO b cs1) H → va_D A (cW cB cI cJ cZ cS cO b cs1) → va_S A s.heap Gh [] → Gh.size = b + kK cs1 → va_S A Gh H locs → lv_has ls 1 [(0, .ref (b + u0))] → W p l e (headSpec (wsOf yX7_init cX7_init 1 none) ({ frames := 1, cells := kK cs9 - kK cs, slots := kM cs9 - kM cs, locals := 60 * (1) } : Room)).room s m ([.ref (b + x0)] : List Value).toArray below meth c H locs (kK cs1 - kK cs) (kM cs1 - kM cs) (MQ below (va_Qv (fun (_ : Unit) => True) (fun _ t_ => va_P (dC, dI) vwCl (cW cB cI cJ cZ cS cO b cs9) t_.heap ∧ va_D A (cW cB cI cJ cZ cS cO b cs9) ∧ b + kK cs9 ≤ t_.heap.size) A) ([.ref (b + x0)] : List Value).toArray s (kK cs9 - kK cs) (kM cs9 - kM cs) A) (F0 m 37 ls []) := by
    intro cs1 u0 h hmk hmm Gh H locs ls hP hD hG hgz hS hl
    obtain ⟨kb9, mb9⟩ := mo_c_X7_init_b37 F cs1 u0 cs9 h
    unfold c_X7_init_b37 at h
    refine lv_aload_n hx hb dX7_init_37 rfl (lv_at hl 0 rfl) ?_
    refine lv_bipush (v := 48) hx hb dX7_init_38 (by decide) ?_
    replace h := ob h; obtain ⟨cs_3, hv_3, h⟩ := h
    obtain ⟨qk_3, qm_3⟩ := nwA_k hv_3
    obtain ⟨k9_3, m9_3⟩ := mo_c_X7_init_b45 F cs_3 u0 cs9 h
    refine nar_X7_31 hx hb hts hown hK hP hD hS hG hA (by omega) (by omega) hin ⟨by show kK cs1 - kK cs + 1 ≤ kK cs9 - kK cs; omega, by show kM cs1 - kM cs + (48 : Int32).toNatClampNeg ≤ kM cs9 - kM cs; omega⟩ hv_3 dX7_init_40 dX7_init_42 (fun H locs hP hD hG hgz hS => ?_)
    refine W_cnt (c2 := kK cs_3 - kK cs) (n2 := kM cs_3 - kM cs) (by omega) (by omega) ?_
    exact B_45 cs_3 u0 h (by omega) (by omega) _ _ _ _ hP hD hG (by omega) hS (lv_sub hl [0] rfl)
  have B_28 : ∀ (cs1 : CS) (u0 : Nat), c_X7_init_b28 F cs1 u0 = some cs9 → kK cs ≤ kK cs1 → kM cs ≤ kM cs1 → ∀ (Gh H : Heap) (locs : List Loc) (ls : Array Slot), va_P (dC, dI) vwCl (cW cB cI cJ cZ cS cO b cs1) H → va_D A (cW cB cI cJ cZ cS cO b cs1) → va_S A s.heap Gh [] → Gh.size = b + kK cs1 → va_S A Gh H locs → lv_has ls 1 [(0, .ref (b + u0))] → W p l e (headSpec (wsOf yX7_init cX7_init 1 none) ({ frames := 1, cells := kK cs9 - kK cs, slots := kM cs9 - kM cs, locals := 60 * (1) } : Room)).room s m ([.ref (b + x0)] : List Value).toArray below meth c H locs (kK cs1 - kK cs) (kM cs1 - kM cs) (MQ below (va_Qv (fun (_ : Unit) => True) (fun _ t_ => va_P (dC, dI) vwCl (cW cB cI cJ cZ cS cO b cs9) t_.heap ∧ va_D A (cW cB cI cJ cZ cS cO b cs9) ∧ b + kK cs9 ≤ t_.heap.size) A) ([.ref (b + x0)] : List Value).toArray s (kK cs9 - kK cs) (kM cs9 - kM cs) A) (F0 m 28 ls []) := by
    intro cs1 u0 h hmk hmm Gh H locs ls hP hD hG hgz hS hl
    obtain ⟨kb9, mb9⟩ := mo_c_X7_init_b28 F cs1 u0 cs9 h
    unfold c_X7_init_b28 at h
    refine lv_aload_n hx hb dX7_init_28 rfl (lv_at hl 0 rfl) ?_
    refine lv_sipush (v := 240) hx hb dX7_init_29 (by decide) ?_
    replace h := ob h; obtain ⟨cs_4, hv_4, h⟩ := h
    obtain ⟨qk_4, qm_4⟩ := nwA_k hv_4
    obtain ⟨k9_4, m9_4⟩ := mo_c_X7_init_b37 F cs_4 u0 cs9 h
    refine nar_X7_27 hx hb hts hown hK hP hD hS hG hA (by omega) (by omega) hin ⟨by show kK cs1 - kK cs + 1 ≤ kK cs9 - kK cs; omega, by show kM cs1 - kM cs + (240 : Int32).toNatClampNeg ≤ kM cs9 - kM cs; omega⟩ hv_4 dX7_init_32 dX7_init_34 (fun H locs hP hD hG hgz hS => ?_)
    refine W_cnt (c2 := kK cs_4 - kK cs) (n2 := kM cs_4 - kM cs) (by omega) (by omega) ?_
    exact B_37 cs_4 u0 h (by omega) (by omega) _ _ _ _ hP hD hG (by omega) hS (lv_sub hl [0] rfl)
  have B_19 : ∀ (cs1 : CS) (u0 : Nat), c_X7_init_b19 F cs1 u0 = some cs9 → kK cs ≤ kK cs1 → kM cs ≤ kM cs1 → ∀ (Gh H : Heap) (locs : List Loc) (ls : Array Slot), va_P (dC, dI) vwCl (cW cB cI cJ cZ cS cO b cs1) H → va_D A (cW cB cI cJ cZ cS cO b cs1) → va_S A s.heap Gh [] → Gh.size = b + kK cs1 → va_S A Gh H locs → lv_has ls 1 [(0, .ref (b + u0))] → W p l e (headSpec (wsOf yX7_init cX7_init 1 none) ({ frames := 1, cells := kK cs9 - kK cs, slots := kM cs9 - kM cs, locals := 60 * (1) } : Room)).room s m ([.ref (b + x0)] : List Value).toArray below meth c H locs (kK cs1 - kK cs) (kM cs1 - kM cs) (MQ below (va_Qv (fun (_ : Unit) => True) (fun _ t_ => va_P (dC, dI) vwCl (cW cB cI cJ cZ cS cO b cs9) t_.heap ∧ va_D A (cW cB cI cJ cZ cS cO b cs9) ∧ b + kK cs9 ≤ t_.heap.size) A) ([.ref (b + x0)] : List Value).toArray s (kK cs9 - kK cs) (kM cs9 - kM cs) A) (F0 m 19 ls []) := by
    intro cs1 u0 h hmk hmm Gh H locs ls hP hD hG hgz hS hl
    obtain ⟨kb9, mb9⟩ := mo_c_X7_init_b19 F cs1 u0 cs9 h
    unfold c_X7_init_b19 at h
    refine lv_aload_n hx hb dX7_init_19 rfl (lv_at hl 0 rfl) ?_
    refine lv_sipush (v := 240) hx hb dX7_init_20 (by decide) ?_
    replace h := ob h; obtain ⟨cs_5, hv_5, h⟩ := h
    obtain ⟨qk_5, qm_5⟩ := nwA_k hv_5
    obtain ⟨k9_5, m9_5⟩ := mo_c_X7_init_b28 F cs_5 u0 cs9 h
    refine nar_X7_23 hx hb hts hown hK hP hD hS hG hA (by omega) (by omega) hin ⟨by show kK cs1 - kK cs + 1 ≤ kK cs9 - kK cs; omega, by show kM cs1 - kM cs + (240 : Int32).toNatClampNeg ≤ kM cs9 - kM cs; omega⟩ hv_5 dX7_init_23 dX7_init_25 (fun H locs hP hD hG hgz hS => ?_)
    refine W_cnt (c2 := kK cs_5 - kK cs) (n2 := kM cs_5 - kM cs) (by omega) (by omega) ?_
    exact B_28 cs_5 u0 h (by omega) (by omega) _ _ _ _ hP hD hG (by omega) hS (lv_sub hl [0] rfl)
  have h := hf
  unfold c_X7_init at h
  refine W_cnt (c2 := kK cs - kK cs) (n2 := kM cs - kM cs) (by omega) (by omega) ?_
  refine lv_aload_n hx hb dX7_init_0 rfl (lv_at hl 0 rfl) ?_
  refine W.objInit hx hb hown (hts _ (List.mem_cons_of_mem _ kw_221)) (hts _ (List.mem_cons_of_mem _ kw_214)) (hts _ (List.mem_cons_of_mem _ kc_objectInit)) rfl (by rw [hml]; exact hl.1) rfl dX7_init_1 (Nat.le_of_ble_eq_true rfl) (Nat.le_of_ble_eq_true rfl) ?_
  refine W.eq (g2 := F0 m 4 ls []) rfl ?_
  refine lv_aload_n hx hb dX7_init_4 rfl (lv_at hl 0 rfl) ?_
  refine lv_ldc2 hx hb hown (hts _ (List.mem_cons_of_mem _ kw_222)) dX7_init_5 ?_
  replace h := ob h; obtain ⟨cs_6, hv_6, h⟩ := h
  obtain ⟨qk_6, qm_6⟩ := pJ_k hv_6
  refine fp_X7_13 hx hb hts hown hK hP hD hS hv_6 dX7_init_8 (fun H locs hP hD hS => ?_)
  refine lv_aload_n hx hb dX7_init_11 rfl (lv_at hl 0 rfl) ?_
  refine lv_bipush (v := 6) hx hb dX7_init_12 (by decide) ?_
  replace h := ob h; obtain ⟨cs_7, hv_7, h⟩ := h
  obtain ⟨qk_7, qm_7⟩ := nwA_k hv_7
  obtain ⟨k9_7, m9_7⟩ := mo_c_X7_init_b19 F cs_7 x0 cs9 h
  refine nar_X7_19 hx hb hts hown hK hP hD hS hG hA (by omega) (by omega) hin ⟨by show kK cs - kK cs + 1 ≤ kK cs9 - kK cs; omega, by show kM cs - kM cs + (6 : Int32).toNatClampNeg ≤ kM cs9 - kM cs; omega⟩ hv_7 dX7_init_14 dX7_init_16 (fun H locs hP hD hG hgz hS => ?_)
  refine W_cnt (c2 := kK cs_7 - kK cs) (n2 := kM cs_7 - kM cs) (by omega) (by omega) ?_
  exact B_19 cs_7 x0 h (by omega) (by omega) _ _ _ _ hP hD hG (by omega) hS (lv_sub hl [0] rfl)
theorem dX8_init_0 : decode cX8_init 0 = .ok (.aload_n 0, 1) := by decide +kernel
theorem dX8_init_1 : decode cX8_init 1 = .ok (.invokespecial 3, 3) := by decide +kernel
theorem dX8_init_4 : decode cX8_init 4 = .ok (.aload_n 0, 1) := by decide +kernel
theorem dX8_init_5 : decode cX8_init 5 = .ok (.bipush 64, 2) := by decide +kernel
theorem dX8_init_7 : decode cX8_init 7 = .ok (.newarray .long, 2) := by decide +kernel
theorem dX8_init_9 : decode cX8_init 9 = .ok (.putfield 11, 3) := by decide +kernel
theorem dX8_init_12 : decode cX8_init 12 = .ok (.aload_n 0, 1) := by decide +kernel
theorem dX8_init_13 : decode cX8_init 13 = .ok (.bipush 64, 2) := by decide +kernel
theorem dX8_init_15 : decode cX8_init 15 = .ok (.newarray .byte, 2) := by decide +kernel
theorem dX8_init_17 : decode cX8_init 17 = .ok (.putfield 15, 3) := by decide +kernel
theorem dX8_init_20 : decode cX8_init 20 = .ok (.aload_n 0, 1) := by decide +kernel
theorem dX8_init_21 : decode cX8_init 21 = .ok (.bipush 8, 2) := by decide +kernel
theorem dX8_init_23 : decode cX8_init 23 = .ok (.newarray .int, 2) := by decide +kernel
theorem dX8_init_25 : decode cX8_init 25 = .ok (.putfield 19, 3) := by decide +kernel
theorem dX8_init_28 : decode cX8_init 28 = .ok (.aload_n 0, 1) := by decide +kernel
theorem dX8_init_29 : decode cX8_init 29 = .ok (.bipush 8, 2) := by decide +kernel
theorem dX8_init_31 : decode cX8_init 31 = .ok (.newarray .int, 2) := by decide +kernel
theorem dX8_init_33 : decode cX8_init 33 = .ok (.putfield 23, 3) := by decide +kernel
theorem dX8_init_36 : decode cX8_init 36 = .ok (.return_, 1) := by decide +kernel
def c_X8_init_b36 (F : Nat) (cs1 : CS) : Option CS := some cs1
def c_X8_init_b28 (F : Nat) (cs1 : CS) (u0 : Nat) : Option CS := Option.bind (nwA cs1 9 291 u0 8) fun cs_1 => c_X8_init_b36 F cs_1
def c_X8_init_b20 (F : Nat) (cs1 : CS) (u0 : Nat) : Option CS := Option.bind (nwA cs1 9 290 u0 8) fun cs_2 => c_X8_init_b28 F cs_2 u0
def c_X8_init_b12 (F : Nat) (cs1 : CS) (u0 : Nat) : Option CS := Option.bind (nwA cs1 9 289 u0 64) fun cs_3 => c_X8_init_b20 F cs_3 u0
def c_X8_init (F : Nat) (cs : CS) (x0 : Nat) : Option CS := Option.bind (nwA cs 9 288 x0 64) fun cs_4 => c_X8_init_b12 F cs_4 x0
theorem cw_X11_X8_init {R : Room} {s : State} {args : Array Value} {y0 : MethodName} {c0 : ByteArray} {n0 : Nat} {r0 : Option FieldType} (hts : ∀ w ∈ wsOf y0 c0 n0 r0, w.before args s = true) {fr mc ms : Nat} (h1 : fr + 1 ≤ R.frames) (h2 : 8 + (1 + 11) + 60 * fr ≤ R.locals) : CallB R s args RX11 29 yX8_init cX8_init 1 none (wsOf yX8_init cX8_init 1 none) ({ frames := fr, cells := mc, slots := ms, locals := 60 * fr } : Room) mc ms 0 ∧ yX8_init.name = "<init>" ∧ (Cond.instanceMethod yX8_init).before args s = true := cwI 0 hts (gd_all (in_I kc_X8_init)) rfl rfl rfl (hts _ (List.mem_cons_of_mem _ kw_188)) (hts _ (List.mem_cons_of_mem _ kw_345)) (hts _ (List.mem_cons_of_mem _ kw_346)) rfl (by decide +kernel) ⟨h1, h2⟩
theorem mo_c_X8_init_b36 (F : Nat) (cs1 : CS) (cs9 : CS) (h : c_X8_init_b36 F cs1 = some cs9) : kK cs1 ≤ kK cs9 ∧ kM cs1 ≤ kM cs9 := by
  unfold c_X8_init_b36 at h
  have h9 := Option.some.inj h
  have k9 := congrArg kK h9; have m9 := congrArg kM h9; exact ⟨by omega, by omega⟩
theorem mo_c_X8_init_b28 (F : Nat) (cs1 : CS) (u0 : Nat) (cs9 : CS) (h : c_X8_init_b28 F cs1 u0 = some cs9) : kK cs1 ≤ kK cs9 ∧ kM cs1 ≤ kM cs9 := by
  unfold c_X8_init_b28 at h
  replace h := ob h; obtain ⟨cs_4, hv_4, h⟩ := h
  obtain ⟨qk_4, qm_4⟩ := nwA_k hv_4
  obtain ⟨k9, m9⟩ := mo_c_X8_init_b36 F cs_4 cs9 h
  exact ⟨by omega, by omega⟩
theorem mo_c_X8_init_b20 (F : Nat) (cs1 : CS) (u0 : Nat) (cs9 : CS) (h : c_X8_init_b20 F cs1 u0 = some cs9) : kK cs1 ≤ kK cs9 ∧ kM cs1 ≤ kM cs9 := by
  unfold c_X8_init_b20 at h
  replace h := ob h; obtain ⟨cs_4, hv_4, h⟩ := h
  obtain ⟨qk_4, qm_4⟩ := nwA_k hv_4
  obtain ⟨k9, m9⟩ := mo_c_X8_init_b28 F cs_4 u0 cs9 h
  exact ⟨by omega, by omega⟩
theorem mo_c_X8_init_b12 (F : Nat) (cs1 : CS) (u0 : Nat) (cs9 : CS) (h : c_X8_init_b12 F cs1 u0 = some cs9) : kK cs1 ≤ kK cs9 ∧ kM cs1 ≤ kM cs9 := by
  unfold c_X8_init_b12 at h
  replace h := ob h; obtain ⟨cs_4, hv_4, h⟩ := h
  obtain ⟨qk_4, qm_4⟩ := nwA_k hv_4
  obtain ⟨k9, m9⟩ := mo_c_X8_init_b20 F cs_4 u0 cs9 h
  exact ⟨by omega, by omega⟩
theorem mo_c_X8_init (F : Nat) (cs : CS) (x0 : Nat) (cs9 : CS) (h : c_X8_init F cs x0 = some cs9) : kK cs ≤ kK cs9 ∧ kM cs ≤ kM cs9 := by
  unfold c_X8_init at h
  replace h := ob h; obtain ⟨cs_4, hv_4, h⟩ := h
  obtain ⟨qk_4, qm_4⟩ := nwA_k hv_4
  obtain ⟨k9, m9⟩ := mo_c_X8_init_b12 F cs_4 x0 cs9 h
  exact ⟨by omega, by omega⟩
set_option maxHeartbeats 4000000 in
set_option maxRecDepth 100000 in
theorem sa_X8_init (l : Launch) (dC : Nat → ClassId) (dI : Nat → Nat → Nat) (cB cI cJ cZ cS cO : ClassId) (b : Nat) (K V : Nat → Nat) (fz : Value) (F : Nat) (cs : CS) (x0 : Nat) (cs9 : CS) (hf : c_X8_init F cs x0 = some cs9) : oaV l dC dI cB cI cJ cZ cS cO b K V fz yX8_init (wsOf yX8_init cX8_init 1 none) (1) [.ref (b + x0)] cs cs9 := by
  obtain ⟨kb9, mb9⟩ := mo_c_X8_init F cs x0 cs9 hf
  refine ⟨⟨kb9, mb9⟩, ?_⟩
  refine Met.ofW (cc := cX8_init) (maxL := 1) (ret := none) (by decide) rfl ?_
  intro p e s m args below meth c s₁ B hml hv
  obtain ⟨rfl, hsz, hP, hK, hD0, hZ⟩ := hv
  have hx := B.exec
  have hb := B.bytes
  have hr := B.returns
  have hts := atoms_spec (ws := (wsOf yX8_init cX8_init 1 none)) B.pre
  have hown : s.vm.findClass RX8 = some m.cls := findClass_of_methodNamed B.named
  have hin : meth.name = "<init>" := (name_of_methodNamed B.named B.method).1
  have hlocks := B.notSynchronized
  have hD := hD0.self (sz := b + kK cs)
  generalize hAe : va_A (cW cB cI cJ cZ cS cO b cs) (b + kK cs) = A at hD hZ ⊢
  have hA : ∀ q : Nat, s.heap.size ≤ q → A q := fun q h => by rw [← hAe]; exact Or.inr (by omega)
  have hS : va_S A s.heap s.heap [] := va_S.rf
  have hG : va_S A s.heap s.heap [] := va_S.rf
  have hgz : s.heap.size = b + kK cs := hsz
  have hl := lv_entry ([.ref (b + x0)]) (n := 1) (Nat.le_of_ble_eq_true rfl)
  rw [lg_entry_eq]
  generalize (lg_sl ([.ref (b + x0)]) ++ List.replicate (1 - (lg_sl ([.ref (b + x0)])).length) Slot.unset).toArray = ls at hl ⊢
  have hl : lv_has ls 1 [(0, .ref (b + x0))] := hl
  have B_36 : ∀ (cs1 : CS) , c_X8_init_b36 F cs1 = some cs9 → kK cs ≤ kK cs1 → kM cs ≤ kM cs1 → ∀ (Gh H : Heap) (locs : List Loc) (ls : Array Slot), va_P (dC, dI) vwCl (cW cB cI cJ cZ cS cO b cs1) H → va_D A (cW cB cI cJ cZ cS cO b cs1) → va_S A s.heap Gh [] → Gh.size = b + kK cs1 → va_S A Gh H locs → lv_has ls 1 [] → W p l e (headSpec (wsOf yX8_init cX8_init 1 none) ({ frames := 1, cells := kK cs9 - kK cs, slots := kM cs9 - kM cs, locals := 60 * (1) } : Room)).room s m ([.ref (b + x0)] : List Value).toArray below meth c H locs (kK cs1 - kK cs) (kM cs1 - kM cs) (MQ below (va_Qv (fun (_ : Unit) => True) (fun _ t_ => va_P (dC, dI) vwCl (cW cB cI cJ cZ cS cO b cs9) t_.heap ∧ va_D A (cW cB cI cJ cZ cS cO b cs9) ∧ b + kK cs9 ≤ t_.heap.size) A) ([.ref (b + x0)] : List Value).toArray s (kK cs9 - kK cs) (kM cs9 - kM cs) A) (F0 m 36 ls []) := by
    intro cs1  h hmk hmm Gh H locs ls hP hD hG hgz hS hl
    obtain ⟨kb9, mb9⟩ := mo_c_X8_init_b36 F cs1  cs9 h
    unfold c_X8_init_b36 at h
    have e1 := Option.some.inj h
    rw [e1] at hP hD
    have e3 := congrArg kK e1
    have e4 := congrArg kM e1
    refine W_cnt (c2 := kK cs9 - kK cs) (n2 := kM cs9 - kM cs) (by omega) (by omega) ?_
    exact W.vret hx hb hr (fun t_ ht hW => ⟨⟨(), rfl, trivial, by rw [ht]; exact hP, hD, by rw [ht]; have := hS.1; omega⟩, (hG.comp hS).F ht⟩) (hG.comp hS).2.2 dX8_init_36
  have B_28 : ∀ (cs1 : CS) (u0 : Nat), c_X8_init_b28 F cs1 u0 = some cs9 → kK cs ≤ kK cs1 → kM cs ≤ kM cs1 → ∀ (Gh H : Heap) (locs : List Loc) (ls : Array Slot), va_P (dC, dI) vwCl (cW cB cI cJ cZ cS cO b cs1) H → va_D A (cW cB cI cJ cZ cS cO b cs1) → va_S A s.heap Gh [] → Gh.size = b + kK cs1 → va_S A Gh H locs → lv_has ls 1 [(0, .ref (b + u0))] → W p l e (headSpec (wsOf yX8_init cX8_init 1 none) ({ frames := 1, cells := kK cs9 - kK cs, slots := kM cs9 - kM cs, locals := 60 * (1) } : Room)).room s m ([.ref (b + x0)] : List Value).toArray below meth c H locs (kK cs1 - kK cs) (kM cs1 - kM cs) (MQ below (va_Qv (fun (_ : Unit) => True) (fun _ t_ => va_P (dC, dI) vwCl (cW cB cI cJ cZ cS cO b cs9) t_.heap ∧ va_D A (cW cB cI cJ cZ cS cO b cs9) ∧ b + kK cs9 ≤ t_.heap.size) A) ([.ref (b + x0)] : List Value).toArray s (kK cs9 - kK cs) (kM cs9 - kM cs) A) (F0 m 28 ls []) := by
    intro cs1 u0 h hmk hmm Gh H locs ls hP hD hG hgz hS hl
    obtain ⟨kb9, mb9⟩ := mo_c_X8_init_b28 F cs1 u0 cs9 h
    unfold c_X8_init_b28 at h
    refine lv_aload_n hx hb dX8_init_28 rfl (lv_at hl 0 rfl) ?_
    refine lv_bipush (v := 8) hx hb dX8_init_29 (by decide) ?_
    replace h := ob h; obtain ⟨cs_1, hv_1, h⟩ := h
    obtain ⟨qk_1, qm_1⟩ := nwA_k hv_1
    obtain ⟨k9_1, m9_1⟩ := mo_c_X8_init_b36 F cs_1 cs9 h
    refine nar_X8_23 hx hb hts hown hK hP hD hS hG hA (by omega) (by omega) ⟨by show kK cs1 - kK cs + 1 ≤ kK cs9 - kK cs; omega, by show kM cs1 - kM cs + (8 : Int32).toNatClampNeg ≤ kM cs9 - kM cs; omega⟩ hv_1 dX8_init_31 dX8_init_33 (fun H locs hP hD hG hgz hS => ?_)
    refine W_cnt (c2 := kK cs_1 - kK cs) (n2 := kM cs_1 - kM cs) (by omega) (by omega) ?_
    exact B_36 cs_1 h (by omega) (by omega) _ _ _ _ hP hD hG (by omega) hS (lv_sub hl [] rfl)
  have B_20 : ∀ (cs1 : CS) (u0 : Nat), c_X8_init_b20 F cs1 u0 = some cs9 → kK cs ≤ kK cs1 → kM cs ≤ kM cs1 → ∀ (Gh H : Heap) (locs : List Loc) (ls : Array Slot), va_P (dC, dI) vwCl (cW cB cI cJ cZ cS cO b cs1) H → va_D A (cW cB cI cJ cZ cS cO b cs1) → va_S A s.heap Gh [] → Gh.size = b + kK cs1 → va_S A Gh H locs → lv_has ls 1 [(0, .ref (b + u0))] → W p l e (headSpec (wsOf yX8_init cX8_init 1 none) ({ frames := 1, cells := kK cs9 - kK cs, slots := kM cs9 - kM cs, locals := 60 * (1) } : Room)).room s m ([.ref (b + x0)] : List Value).toArray below meth c H locs (kK cs1 - kK cs) (kM cs1 - kM cs) (MQ below (va_Qv (fun (_ : Unit) => True) (fun _ t_ => va_P (dC, dI) vwCl (cW cB cI cJ cZ cS cO b cs9) t_.heap ∧ va_D A (cW cB cI cJ cZ cS cO b cs9) ∧ b + kK cs9 ≤ t_.heap.size) A) ([.ref (b + x0)] : List Value).toArray s (kK cs9 - kK cs) (kM cs9 - kM cs) A) (F0 m 20 ls []) := by
    intro cs1 u0 h hmk hmm Gh H locs ls hP hD hG hgz hS hl
    obtain ⟨kb9, mb9⟩ := mo_c_X8_init_b20 F cs1 u0 cs9 h
    unfold c_X8_init_b20 at h
    refine lv_aload_n hx hb dX8_init_20 rfl (lv_at hl 0 rfl) ?_
    refine lv_bipush (v := 8) hx hb dX8_init_21 (by decide) ?_
    replace h := ob h; obtain ⟨cs_2, hv_2, h⟩ := h
    obtain ⟨qk_2, qm_2⟩ := nwA_k hv_2
    obtain ⟨k9_2, m9_2⟩ := mo_c_X8_init_b28 F cs_2 u0 cs9 h
    refine nar_X8_19 hx hb hts hown hK hP hD hS hG hA (by omega) (by omega) ⟨by show kK cs1 - kK cs + 1 ≤ kK cs9 - kK cs; omega, by show kM cs1 - kM cs + (8 : Int32).toNatClampNeg ≤ kM cs9 - kM cs; omega⟩ hv_2 dX8_init_23 dX8_init_25 (fun H locs hP hD hG hgz hS => ?_)
    refine W_cnt (c2 := kK cs_2 - kK cs) (n2 := kM cs_2 - kM cs) (by omega) (by omega) ?_
    exact B_28 cs_2 u0 h (by omega) (by omega) _ _ _ _ hP hD hG (by omega) hS (lv_sub hl [0] rfl)
  have B_12 : ∀ (cs1 : CS) (u0 : Nat), c_X8_init_b12 F cs1 u0 = some cs9 → kK cs ≤ kK cs1 → kM cs ≤ kM cs1 → ∀ (Gh H : Heap) (locs : List Loc) (ls : Array Slot), va_P (dC, dI) vwCl (cW cB cI cJ cZ cS cO b cs1) H → va_D A (cW cB cI cJ cZ cS cO b cs1) → va_S A s.heap Gh [] → Gh.size = b + kK cs1 → va_S A Gh H locs → lv_has ls 1 [(0, .ref (b + u0))] → W p l e (headSpec (wsOf yX8_init cX8_init 1 none) ({ frames := 1, cells := kK cs9 - kK cs, slots := kM cs9 - kM cs, locals := 60 * (1) } : Room)).room s m ([.ref (b + x0)] : List Value).toArray below meth c H locs (kK cs1 - kK cs) (kM cs1 - kM cs) (MQ below (va_Qv (fun (_ : Unit) => True) (fun _ t_ => va_P (dC, dI) vwCl (cW cB cI cJ cZ cS cO b cs9) t_.heap ∧ va_D A (cW cB cI cJ cZ cS cO b cs9) ∧ b + kK cs9 ≤ t_.heap.size) A) ([.ref (b + x0)] : List Value).toArray s (kK cs9 - kK cs) (kM cs9 - kM cs) A) (F0 m 12 ls []) := by
    intro cs1 u0 h hmk hmm Gh H locs ls hP hD hG hgz hS hl
    obtain ⟨kb9, mb9⟩ := mo_c_X8_init_b12 F cs1 u0 cs9 h
    unfold c_X8_init_b12 at h
    refine lv_aload_n hx hb dX8_init_12 rfl (lv_at hl 0 rfl) ?_
    refine lv_bipush (v := 64) hx hb dX8_init_13 (by decide) ?_
    replace h := ob h; obtain ⟨cs_3, hv_3, h⟩ := h
    obtain ⟨qk_3, qm_3⟩ := nwA_k hv_3
    obtain ⟨k9_3, m9_3⟩ := mo_c_X8_init_b20 F cs_3 u0 cs9 h
    refine nar_X8_15 hx hb hts hown hK hP hD hS hG hA (by omega) (by omega) ⟨by show kK cs1 - kK cs + 1 ≤ kK cs9 - kK cs; omega, by show kM cs1 - kM cs + (64 : Int32).toNatClampNeg ≤ kM cs9 - kM cs; omega⟩ hv_3 dX8_init_15 dX8_init_17 (fun H locs hP hD hG hgz hS => ?_)
    refine W_cnt (c2 := kK cs_3 - kK cs) (n2 := kM cs_3 - kM cs) (by omega) (by omega) ?_
    exact B_20 cs_3 u0 h (by omega) (by omega) _ _ _ _ hP hD hG (by omega) hS (lv_sub hl [0] rfl)
  have h := hf
  unfold c_X8_init at h
  refine W_cnt (c2 := kK cs - kK cs) (n2 := kM cs - kM cs) (by omega) (by omega) ?_
  refine lv_aload_n hx hb dX8_init_0 rfl (lv_at hl 0 rfl) ?_
  refine W.objInit hx hb hown (hts _ (List.mem_cons_of_mem _ kw_348)) (hts _ (List.mem_cons_of_mem _ kw_214)) (hts _ (List.mem_cons_of_mem _ kc_objectInit)) rfl (by rw [hml]; exact hl.1) rfl dX8_init_1 (Nat.le_of_ble_eq_true rfl) (Nat.le_of_ble_eq_true rfl) ?_
  refine W.eq (g2 := F0 m 4 ls []) rfl ?_
  refine lv_aload_n hx hb dX8_init_4 rfl (lv_at hl 0 rfl) ?_
  refine lv_bipush (v := 64) hx hb dX8_init_5 (by decide) ?_
  replace h := ob h; obtain ⟨cs_4, hv_4, h⟩ := h
  obtain ⟨qk_4, qm_4⟩ := nwA_k hv_4
  obtain ⟨k9_4, m9_4⟩ := mo_c_X8_init_b12 F cs_4 x0 cs9 h
  refine nar_X8_11 hx hb hts hown hK hP hD hS hG hA (by omega) (by omega) ⟨by show kK cs - kK cs + 1 ≤ kK cs9 - kK cs; omega, by show kM cs - kM cs + (64 : Int32).toNatClampNeg ≤ kM cs9 - kM cs; omega⟩ hv_4 dX8_init_7 dX8_init_9 (fun H locs hP hD hG hgz hS => ?_)
  refine W_cnt (c2 := kK cs_4 - kK cs) (n2 := kM cs_4 - kM cs) (by omega) (by omega) ?_
  exact B_12 cs_4 x0 h (by omega) (by omega) _ _ _ _ hP hD hG (by omega) hS (lv_sub hl [0] rfl)

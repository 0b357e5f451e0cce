/-! the check with more streams -/
def HT_TC_X0_checkQuery (n9 : Int32) (a9 : Nat → Int32) (s9 k9 t9 : Nat) (T : TC_X0_checkQuery) : Prop := (∀ (cs : CS) (a2 : Nat) (cs9 : CS), SGH n9 a9 s9 k9 t9 cs → T.1 cs k9 a2 = some cs9 → HSG n9 a9 s9 k9 t9 cs cs9 (T.1 (sgX n9 a9 cs) k9 a2 = some (sgX n9 a9 cs9))) ∧ (∀ (cs : CS) (a2 : Nat) (cs9 : CS), SGH n9 a9 s9 k9 t9 cs → T.2.1 cs k9 a2 = some cs9 → HSG n9 a9 s9 k9 t9 cs cs9 (T.2.1 (sgX n9 a9 cs) k9 a2 = some (sgX n9 a9 cs9))) ∧ (∀ (cs : CS) (a2 : Nat) (a3 : Int32) (cs9 : CS), SGH n9 a9 s9 k9 t9 cs → T.2.2.1 cs k9 a2 a3 = some cs9 → HSG n9 a9 s9 k9 t9 cs cs9 (T.2.2.1 (sgX n9 a9 cs) k9 a2 a3 = some (sgX n9 a9 cs9))) ∧ (∀ (cs : CS) (a2 : Nat) (a3 : Nat) (cs9 : CS), SGH n9 a9 s9 k9 t9 cs → T.2.2.2 cs k9 a2 a3 = some cs9 → HSG n9 a9 s9 k9 t9 cs cs9 (T.2.2.2 (sgX n9 a9 cs) k9 a2 a3 = some (sgX n9 a9 cs9)))
theorem hs_c_X0_checkBound_b23 {n9 : Int32} {a9 : Nat → Int32} {s9 k9 t9 : Nat} {F : Nat} {cs1 : CS} {cs9 : CS} (H : SGH n9 a9 s9 k9 t9 cs1) (h : c_X0_checkBound_b23 F cs1 = some cs9) : HSG n9 a9 s9 k9 t9 cs1 cs9 (c_X0_checkBound_b23 F (sgX n9 a9 cs1) = some (sgX n9 a9 cs9)) := by
  unfold c_X0_checkBound_b23 at h
  rw [← Option.some.inj h]
  refine ⟨H, fun z => ?_⟩
  refine ⟨z, ?_⟩
  unfold c_X0_checkBound_b23
  rfl
theorem hs_c_X0_checkBound {n9 : Int32} {a9 : Nat → Int32} {s9 k9 t9 : Nat} {F : Nat} {cs : CS} {x1 : Int32} {x2 : Int32} {cs9 : CS} (H : SGH n9 a9 s9 k9 t9 cs) (h : c_X0_checkBound F cs k9 x1 x2 = some cs9) : HSG n9 a9 s9 k9 t9 cs cs9 (c_X0_checkBound F (sgX n9 a9 cs) k9 x1 x2 = some (sgX n9 a9 cs9)) := by
  unfold c_X0_checkBound at h
  by_cases c1 : x1 = 0
  · replace h := (if_pos c1).symm.trans h
    have s2 := hs_c_X0_checkBound_b23 H h
    refine ⟨s2.1, fun z => ?_⟩
    obtain ⟨z9, e9⟩ := s2.2 z
    refine ⟨z9, ?_⟩
    unfold c_X0_checkBound
    refine (if_pos c1).trans ?_
    exact e9
  · replace h := (if_neg c1).symm.trans h
    replace h := ob h
    obtain ⟨v_2, g3, h⟩ := h
    replace h := ob h
    obtain ⟨i_3, g4, h⟩ := h
    replace h := ob h
    obtain ⟨v_4, g5, h⟩ := h
    by_cases c6 : v_4 = 0
    · replace h := (if_pos c6).symm.trans h
      replace h := ob h
      obtain ⟨v_6, g7, h⟩ := h
      replace h := ob h
      obtain ⟨i_8, g8, h⟩ := h
      replace h := ob h
      obtain ⟨w9, g10, h⟩ := h
      replace h := ob h
      obtain ⟨cs_7, g11, h⟩ := h
      have s12 := hs_c_X9_refuse H g11
      have s15 := hs_c_X0_checkBound_b23 s12.1 h
      refine ⟨s15.1, fun z => ?_⟩
      obtain ⟨z9, e9⟩ := s15.2 z
      obtain ⟨z14, e13⟩ := s12.2 z9
      refine ⟨z14, ?_⟩
      unfold c_X0_checkBound
      refine (if_neg c1).trans ?_
      refine (bd_s (sgR g3)).trans ?_
      refine (bd_s (g4)).trans ?_
      refine (bd_s (sgI (by decide) g5)).trans ?_
      refine (if_pos c6).trans ?_
      refine (bd_s (sgR g7)).trans ?_
      refine (bd_s (g8)).trans ?_
      refine (bd_s (sgck g10)).trans ?_
      refine (bd_s (e13)).trans ?_
      exact e9
    · replace h := (if_neg c6).symm.trans h
      have s16 := hs_c_X0_checkBound_b23 H h
      refine ⟨s16.1, fun z => ?_⟩
      obtain ⟨z9, e9⟩ := s16.2 z
      refine ⟨z9, ?_⟩
      unfold c_X0_checkBound
      refine (if_neg c1).trans ?_
      refine (bd_s (sgR g3)).trans ?_
      refine (bd_s (g4)).trans ?_
      refine (bd_s (sgI (by decide) g5)).trans ?_
      refine (if_neg c6).trans ?_
      exact e9
theorem hs_c_X0_wantParts_b106 {n9 : Int32} {a9 : Nat → Int32} {s9 k9 t9 : Nat} {F : Nat} {cs1 : CS} {u1 : Int32} {u3 : Int32} {cs9 : CS} (H : SGH n9 a9 s9 k9 t9 cs1) (h : c_X0_wantParts_b106 F cs1 k9 u1 u3 = some cs9) : HSG n9 a9 s9 k9 t9 cs1 cs9 (c_X0_wantParts_b106 F (sgX n9 a9 cs1) k9 u1 u3 = some (sgX n9 a9 cs9)) := by
  unfold c_X0_wantParts_b106 at h
  replace h := ob h
  obtain ⟨v_1, g1, h⟩ := h
  replace h := ob h
  obtain ⟨i_2, g2, h⟩ := h
  replace h := ob h
  obtain ⟨v_3, g3, h⟩ := h
  replace h := ob h
  obtain ⟨cs_4, g4, h⟩ := h
  have s5 := hs_wA (by decide) H g4
  rw [← Option.some.inj h]
  refine ⟨s5.1, fun z => ?_⟩
  obtain ⟨z7, e6⟩ := s5.2 z
  refine ⟨z7, ?_⟩
  unfold c_X0_wantParts_b106
  refine (bd_s (sgR g1)).trans ?_
  refine (bd_s (g2)).trans ?_
  refine (bd_s (sgA g3)).trans ?_
  refine (bd_s (e6)).trans ?_
  rfl
theorem hs_c_X0_wantParts_b76 {n9 : Int32} {a9 : Nat → Int32} {s9 k9 t9 : Nat} {F : Nat} {cs1 : CS} {u1 : Int32} {u3 : Int32} {u4 : Int32} {cs9 : CS} (H : SGH n9 a9 s9 k9 t9 cs1) (h : c_X0_wantParts_b76 F cs1 k9 u1 u3 u4 = some cs9) : HSG n9 a9 s9 k9 t9 cs1 cs9 (c_X0_wantParts_b76 F (sgX n9 a9 cs1) k9 u1 u3 u4 = some (sgX n9 a9 cs9)) := by
  unfold c_X0_wantParts_b76 at h
  replace h := ob h
  obtain ⟨v_5, g1, h⟩ := h
  replace h := ob h
  obtain ⟨i_7, g2, h⟩ := h
  replace h := ob h
  obtain ⟨w3, g4, h⟩ := h
  replace h := ob h
  obtain ⟨v_6, g5, h⟩ := h
  by_cases c6 : v_6 = 0
  · replace h := (if_pos c6).symm.trans h
    have s7 := hs_c_X0_wantParts_b106 H h
    refine ⟨s7.1, fun z => ?_⟩
    obtain ⟨z9, e9⟩ := s7.2 z
    refine ⟨z9, ?_⟩
    unfold c_X0_wantParts_b76
    refine (bd_s (sgR g1)).trans ?_
    refine (bd_s (g2)).trans ?_
    refine (bd_s (sgck g4)).trans ?_
    refine (bd_s (sv_c_X1_has g5)).trans ?_
    refine (if_pos c6).trans ?_
    exact e9
  · replace h := (if_neg c6).symm.trans h
    replace h := ob h
    obtain ⟨v_10, g8, h⟩ := h
    replace h := ob h
    obtain ⟨v_11, g9, h⟩ := h
    replace h := ob h
    obtain ⟨i_12, g10, h⟩ := h
    replace h := ob h
    obtain ⟨v_13, g11, h⟩ := h
    replace h := ob h
    obtain ⟨v_14, g12, h⟩ := h
    replace h := ob h
    obtain ⟨i_16, g13, h⟩ := h
    replace h := ob h
    obtain ⟨w14, g15, h⟩ := h
    replace h := ob h
    obtain ⟨cs_15, g16, h⟩ := h
    have s17 := hs_c_X9_refuse H g16
    have s20 := hs_c_X0_wantParts_b106 s17.1 h
    refine ⟨s20.1, fun z => ?_⟩
    obtain ⟨z9, e9⟩ := s20.2 z
    obtain ⟨z19, e18⟩ := s17.2 z9
    refine ⟨z19, ?_⟩
    unfold c_X0_wantParts_b76
    refine (bd_s (sgR g1)).trans ?_
    refine (bd_s (g2)).trans ?_
    refine (bd_s (sgck g4)).trans ?_
    refine (bd_s (sv_c_X1_has g5)).trans ?_
    refine (if_neg c6).trans ?_
    refine (bd_s (sgR g8)).trans ?_
    refine (bd_s (sgR g9)).trans ?_
    refine (bd_s (g10)).trans ?_
    refine (bd_s (sgA g11)).trans ?_
    refine (bd_s (sgrA (by decide) g12)).trans ?_
    refine (bd_s (g13)).trans ?_
    refine (bd_s (sgck g15)).trans ?_
    refine (bd_s (e18)).trans ?_
    exact e9
theorem hs_c_X0_wantParts_b56 {n9 : Int32} {a9 : Nat → Int32} {s9 k9 t9 : Nat} {F : Nat} {rc11 : CS → Nat → Int32 → Int32 → Int32 → Int32 → Int32 → Int32 → Option CS} {cs1 : CS} {u1 : Int32} {u2 : Int32} {u3 : Int32} {u4 : Int32} {u5 : Int32} {u6 : Int32} {cs9 : CS} (hrc11 : ∀ (cs1 : CS) (a2 : Int32) (a3 : Int32) (a4 : Int32) (a5 : Int32) (a6 : Int32) (a7 : Int32) (cs9 : CS), SGH n9 a9 s9 k9 t9 cs1 → rc11 cs1 k9 a2 a3 a4 a5 a6 a7 = some cs9 → HSG n9 a9 s9 k9 t9 cs1 cs9 (rc11 (sgX n9 a9 cs1) k9 a2 a3 a4 a5 a6 a7 = some (sgX n9 a9 cs9))) (H : SGH n9 a9 s9 k9 t9 cs1) (h : c_X0_wantParts_b56 F rc11 cs1 k9 u1 u2 u3 u4 u5 u6 = some cs9) : HSG n9 a9 s9 k9 t9 cs1 cs9 (c_X0_wantParts_b56 F rc11 (sgX n9 a9 cs1) k9 u1 u2 u3 u4 u5 u6 = some (sgX n9 a9 cs9)) := by
  unfold c_X0_wantParts_b56 at h
  replace h := ob h
  obtain ⟨v_18, g1, h⟩ := h
  replace h := ob h
  obtain ⟨i_19, g2, h⟩ := h
  replace h := ob h
  obtain ⟨v_20, g3, h⟩ := h
  replace h := ob h
  obtain ⟨v_21, g4, h⟩ := h
  have s5 := hrc11 _ _ _ _ _ _ _ _ H h
  refine ⟨s5.1, fun z => ?_⟩
  obtain ⟨z9, e9⟩ := s5.2 z
  refine ⟨z9, ?_⟩
  unfold c_X0_wantParts_b56
  refine (bd_s (sgR g1)).trans ?_
  refine (bd_s (g2)).trans ?_
  refine (bd_s (sgA g3)).trans ?_
  refine (bd_s (sgrA (by decide) g4)).trans ?_
  exact e9
theorem hs_c_X0_wantParts_L11 {n9 : Int32} {a9 : Nat → Int32} {s9 k9 t9 : Nat} {F : Nat} : ∀ (lf : Nat) (cs1 : CS) (u1 : Int32) (u2 : Int32) (u3 : Int32) (u4 : Int32) (u5 : Int32) (u6 : Int32) (cs9 : CS), SGH n9 a9 s9 k9 t9 cs1 → c_X0_wantParts_L11 F lf cs1 k9 u1 u2 u3 u4 u5 u6 = some cs9 → HSG n9 a9 s9 k9 t9 cs1 cs9 (c_X0_wantParts_L11 F lf (sgX n9 a9 cs1) k9 u1 u2 u3 u4 u5 u6 = some (sgX n9 a9 cs9)) := by
  intro lf
  induction lf with
  | zero => intro cs1 u1 u2 u3 u4 u5 u6 cs9 H h; cases (show (none : Option CS) = _ from h)
  | succ lf ih =>
    intro cs1 u1 u2 u3 u4 u5 u6 cs9 H h
    rw [c_X0_wantParts_L11] at h
    replace h := ob h
    obtain ⟨v_22, g1, h⟩ := h
    replace h := ob h
    obtain ⟨i_23, g2, h⟩ := h
    replace h := ob h
    obtain ⟨v_24, g3, h⟩ := h
    replace h := ob h
    obtain ⟨v_25, g4, h⟩ := h
    by_cases c5 : v_25 ≤ u6
    · replace h := (if_pos c5).symm.trans h
      have s6 := hs_c_X0_wantParts_b76 H h
      refine ⟨s6.1, fun z => ?_⟩
      obtain ⟨z9, e9⟩ := s6.2 z
      refine ⟨z9, ?_⟩
      rw [c_X0_wantParts_L11]
      refine (bd_s (sgR g1)).trans ?_
      refine (bd_s (g2)).trans ?_
      refine (bd_s (sgA g3)).trans ?_
      refine (bd_s (sgrA (by decide) g4)).trans ?_
      refine (if_pos c5).trans ?_
      exact e9
    · replace h := (if_neg c5).symm.trans h
      replace h := ob h
      obtain ⟨v_27, g7, h⟩ := h
      replace h := ob h
      obtain ⟨i_29, g8, h⟩ := h
      replace h := ob h
      obtain ⟨w9, g10, h⟩ := h
      replace h := ob h
      obtain ⟨v_28, g11, h⟩ := h
      by_cases c12 : v_28 = 0
      · replace h := (if_pos c12).symm.trans h
        have s13 := hs_c_X0_wantParts_b76 H h
        refine ⟨s13.1, fun z => ?_⟩
        obtain ⟨z9, e9⟩ := s13.2 z
        refine ⟨z9, ?_⟩
        rw [c_X0_wantParts_L11]
        refine (bd_s (sgR g1)).trans ?_
        refine (bd_s (g2)).trans ?_
        refine (bd_s (sgA g3)).trans ?_
        refine (bd_s (sgrA (by decide) g4)).trans ?_
        refine (if_neg c5).trans ?_
        refine (bd_s (sgR g7)).trans ?_
        refine (bd_s (g8)).trans ?_
        refine (bd_s (sgck g10)).trans ?_
        refine (bd_s (sv_c_X1_has g11)).trans ?_
        refine (if_pos c12).trans ?_
        exact e9
      · replace h := (if_neg c12).symm.trans h
        replace h := ob h
        obtain ⟨v_32, g14, h⟩ := h
        replace h := ob h
        obtain ⟨i_33, g15, h⟩ := h
        replace h := ob h
        obtain ⟨v_34, g16, h⟩ := h
        replace h := ob h
        obtain ⟨v_35, g17, h⟩ := h
        by_cases c18 : (v_35 &&& u2) = 0
        · replace h := (if_pos c18).symm.trans h
          have s19 := hs_c_X0_wantParts_b56 ih H h
          refine ⟨s19.1, fun z => ?_⟩
          obtain ⟨z9, e9⟩ := s19.2 z
          refine ⟨z9, ?_⟩
          rw [c_X0_wantParts_L11]
          refine (bd_s (sgR g1)).trans ?_
          refine (bd_s (g2)).trans ?_
          refine (bd_s (sgA g3)).trans ?_
          refine (bd_s (sgrA (by decide) g4)).trans ?_
          refine (if_neg c5).trans ?_
          refine (bd_s (sgR g7)).trans ?_
          refine (bd_s (g8)).trans ?_
          refine (bd_s (sgck g10)).trans ?_
          refine (bd_s (sv_c_X1_has g11)).trans ?_
          refine (if_neg c12).trans ?_
          refine (bd_s (sgR g14)).trans ?_
          refine (bd_s (g15)).trans ?_
          refine (bd_s (sgA g16)).trans ?_
          refine (bd_s (sgrA (by decide) g17)).trans ?_
          refine (if_pos c18).trans ?_
          exact e9
        · replace h := (if_neg c18).symm.trans h
          have s20 := hs_c_X0_wantParts_b56 ih H h
          refine ⟨s20.1, fun z => ?_⟩
          obtain ⟨z9, e9⟩ := s20.2 z
          refine ⟨z9, ?_⟩
          rw [c_X0_wantParts_L11]
          refine (bd_s (sgR g1)).trans ?_
          refine (bd_s (g2)).trans ?_
          refine (bd_s (sgA g3)).trans ?_
          refine (bd_s (sgrA (by decide) g4)).trans ?_
          refine (if_neg c5).trans ?_
          refine (bd_s (sgR g7)).trans ?_
          refine (bd_s (g8)).trans ?_
          refine (bd_s (sgck g10)).trans ?_
          refine (bd_s (sv_c_X1_has g11)).trans ?_
          refine (if_neg c12).trans ?_
          refine (bd_s (sgR g14)).trans ?_
          refine (bd_s (g15)).trans ?_
          refine (bd_s (sgA g16)).trans ?_
          refine (bd_s (sgrA (by decide) g17)).trans ?_
          refine (if_neg c18).trans ?_
          exact e9
theorem hs_c_X0_wantParts {n9 : Int32} {a9 : Nat → Int32} {s9 k9 t9 : Nat} {F : Nat} {cs : CS} {x1 : Int32} {x2 : Int32} {x3 : Int32} {cs9 : CS} (H : SGH n9 a9 s9 k9 t9 cs) (h : c_X0_wantParts F cs k9 x1 x2 x3 = some cs9) : HSG n9 a9 s9 k9 t9 cs cs9 (c_X0_wantParts F (sgX n9 a9 cs) k9 x1 x2 x3 = some (sgX n9 a9 cs9)) := by
  unfold c_X0_wantParts at h
  have s1 := hs_c_X0_wantParts_L11 _ _ _ _ _ _ _ _ _ H h
  refine ⟨s1.1, fun z => ?_⟩
  obtain ⟨z9, e9⟩ := s1.2 z
  refine ⟨z9, ?_⟩
  unfold c_X0_wantParts
  exact e9
theorem hs_c_X0_checkCase_b144 {n9 : Int32} {a9 : Nat → Int32} {s9 k9 t9 : Nat} {F : Nat} {cs1 : CS} {u1 : Int32} {u2 : Int32} {u3 : Int32} {cs9 : CS} (H : SGH n9 a9 s9 k9 t9 cs1) (h : c_X0_checkCase_b144 F cs1 k9 u1 u2 u3 = some cs9) : HSG n9 a9 s9 k9 t9 cs1 cs9 (c_X0_checkCase_b144 F (sgX n9 a9 cs1) k9 u1 u2 u3 = some (sgX n9 a9 cs9)) := by
  unfold c_X0_checkCase_b144 at h
  replace h := ob h
  obtain ⟨v_1, g1, h⟩ := h
  replace h := ob h
  obtain ⟨i_2, g2, h⟩ := h
  replace h := ob h
  obtain ⟨v_3, g3, h⟩ := h
  replace h := ob h
  obtain ⟨v_4, g4, h⟩ := h
  replace h := ob h
  obtain ⟨i_5, g5, h⟩ := h
  replace h := ob h
  obtain ⟨v_6, g6, h⟩ := h
  replace h := ob h
  obtain ⟨v_7, g7, h⟩ := h
  replace h := ob h
  obtain ⟨v_8, g8, h⟩ := h
  replace h := ob h
  obtain ⟨i_9, g9, h⟩ := h
  replace h := ob h
  obtain ⟨v_10, g10, h⟩ := h
  replace h := ob h
  obtain ⟨v_11, g11, h⟩ := h
  replace h := ob h
  obtain ⟨cs_12, g12, h⟩ := h
  have s13 := hs_wA (by decide) H g12
  rw [← Option.some.inj h]
  refine ⟨s13.1, fun z => ?_⟩
  obtain ⟨z15, e14⟩ := s13.2 z
  refine ⟨z15, ?_⟩
  unfold c_X0_checkCase_b144
  refine (bd_s (sgR g1)).trans ?_
  refine (bd_s (g2)).trans ?_
  refine (bd_s (sgA g3)).trans ?_
  refine (bd_s (sgR g4)).trans ?_
  refine (bd_s (g5)).trans ?_
  refine (bd_s (sgA g6)).trans ?_
  refine (bd_s (sgrA (by decide) g7)).trans ?_
  refine (bd_s (sgR g8)).trans ?_
  refine (bd_s (g9)).trans ?_
  refine (bd_s (sgA g10)).trans ?_
  refine (bd_s (sgrA (by decide) g11)).trans ?_
  refine (bd_s (e14)).trans ?_
  rfl
theorem hs_c_X0_checkCase_b105 {n9 : Int32} {a9 : Nat → Int32} {s9 k9 t9 : Nat} {F : Nat} {cs1 : CS} {u1 : Int32} {u2 : Int32} {u3 : Int32} {cs9 : CS} (H : SGH n9 a9 s9 k9 t9 cs1) (h : c_X0_checkCase_b105 F cs1 k9 u1 u2 u3 = some cs9) : HSG n9 a9 s9 k9 t9 cs1 cs9 (c_X0_checkCase_b105 F (sgX n9 a9 cs1) k9 u1 u2 u3 = some (sgX n9 a9 cs9)) := by
  unfold c_X0_checkCase_b105 at h
  replace h := ob h
  obtain ⟨v_13, g1, h⟩ := h
  replace h := ob h
  obtain ⟨i_14, g2, h⟩ := h
  replace h := ob h
  obtain ⟨v_15, g3, h⟩ := h
  replace h := ob h
  obtain ⟨v_16, g4, h⟩ := h
  replace h := ob h
  obtain ⟨v_17, g5, h⟩ := h
  replace h := ob h
  obtain ⟨i_18, g6, h⟩ := h
  replace h := ob h
  obtain ⟨v_19, g7, h⟩ := h
  replace h := ob h
  obtain ⟨v_20, g8, h⟩ := h
  by_cases c9 : (v_16 &&& v_20) = 0
  · replace h := (if_pos c9).symm.trans h
    replace h := ob h
    obtain ⟨v_22, g10, h⟩ := h
    replace h := ob h
    obtain ⟨v_23, g11, h⟩ := h
    replace h := ob h
    obtain ⟨i_24, g12, h⟩ := h
    replace h := ob h
    obtain ⟨v_25, g13, h⟩ := h
    replace h := ob h
    obtain ⟨v_26, g14, h⟩ := h
    replace h := ob h
    obtain ⟨i_28, g15, h⟩ := h
    replace h := ob h
    obtain ⟨w16, g17, h⟩ := h
    replace h := ob h
    obtain ⟨cs_27, g18, h⟩ := h
    have s19 := hs_c_X9_refuse H g18
    have s22 := hs_c_X0_checkCase_b144 s19.1 h
    refine ⟨s22.1, fun z => ?_⟩
    obtain ⟨z9, e9⟩ := s22.2 z
    obtain ⟨z21, e20⟩ := s19.2 z9
    refine ⟨z21, ?_⟩
    unfold c_X0_checkCase_b105
    refine (bd_s (sgR g1)).trans ?_
    refine (bd_s (g2)).trans ?_
    refine (bd_s (sgA g3)).trans ?_
    refine (bd_s (sgrA (by decide) g4)).trans ?_
    refine (bd_s (sgR g5)).trans ?_
    refine (bd_s (g6)).trans ?_
    refine (bd_s (sgA g7)).trans ?_
    refine (bd_s (sgrA (by decide) g8)).trans ?_
    refine (if_pos c9).trans ?_
    refine (bd_s (sgR g10)).trans ?_
    refine (bd_s (sgR g11)).trans ?_
    refine (bd_s (g12)).trans ?_
    refine (bd_s (sgA g13)).trans ?_
    refine (bd_s (sgrA (by decide) g14)).trans ?_
    refine (bd_s (g15)).trans ?_
    refine (bd_s (sgck g17)).trans ?_
    refine (bd_s (e20)).trans ?_
    exact e9
  · replace h := (if_neg c9).symm.trans h
    have s23 := hs_c_X0_checkCase_b144 H h
    refine ⟨s23.1, fun z => ?_⟩
    obtain ⟨z9, e9⟩ := s23.2 z
    refine ⟨z9, ?_⟩
    unfold c_X0_checkCase_b105
    refine (bd_s (sgR g1)).trans ?_
    refine (bd_s (g2)).trans ?_
    refine (bd_s (sgA g3)).trans ?_
    refine (bd_s (sgrA (by decide) g4)).trans ?_
    refine (bd_s (sgR g5)).trans ?_
    refine (bd_s (g6)).trans ?_
    refine (bd_s (sgA g7)).trans ?_
    refine (bd_s (sgrA (by decide) g8)).trans ?_
    refine (if_neg c9).trans ?_
    exact e9
theorem hs_c_X0_checkCase_b57 {n9 : Int32} {a9 : Nat → Int32} {s9 k9 t9 : Nat} {F : Nat} {cs1 : CS} {u1 : Int32} {u2 : Int32} {u3 : Int32} {y0 : Int32} {cs9 : CS} (H : SGH n9 a9 s9 k9 t9 cs1) (h : c_X0_checkCase_b57 F cs1 k9 u1 u2 u3 y0 = some cs9) : HSG n9 a9 s9 k9 t9 cs1 cs9 (c_X0_checkCase_b57 F (sgX n9 a9 cs1) k9 u1 u2 u3 y0 = some (sgX n9 a9 cs9)) := by
  unfold c_X0_checkCase_b57 at h
  replace h := ob h
  obtain ⟨v_30, g1, h⟩ := h
  replace h := ob h
  obtain ⟨i_32, g2, h⟩ := h
  replace h := ob h
  obtain ⟨w3, g4, h⟩ := h
  replace h := ob h
  obtain ⟨v_31, g5, h⟩ := h
  by_cases c6 : v_31 = 0
  · replace h := (if_pos c6).symm.trans h
    rw [← Option.some.inj h]
    refine ⟨H, fun z => ?_⟩
    refine ⟨z, ?_⟩
    unfold c_X0_checkCase_b57
    refine (bd_s (sgR g1)).trans ?_
    refine (bd_s (g2)).trans ?_
    refine (bd_s (sgck g4)).trans ?_
    refine (bd_s (sv_c_X1_has g5)).trans ?_
    refine (if_pos c6).trans ?_
    rfl
  · replace h := (if_neg c6).symm.trans h
    replace h := ob h
    obtain ⟨v_35, g7, h⟩ := h
    replace h := ob h
    obtain ⟨i_36, g8, h⟩ := h
    replace h := ob h
    obtain ⟨v_37, g9, h⟩ := h
    replace h := ob h
    obtain ⟨v_38, g10, h⟩ := h
    by_cases c11 : (v_38 &&& 2) = 0
    · replace h := (if_pos c11).symm.trans h
      replace h := ob h
      obtain ⟨v_40, g12, h⟩ := h
      replace h := ob h
      obtain ⟨v_41, g13, h⟩ := h
      replace h := ob h
      obtain ⟨i_42, g14, h⟩ := h
      replace h := ob h
      obtain ⟨v_43, g15, h⟩ := h
      replace h := ob h
      obtain ⟨v_44, g16, h⟩ := h
      replace h := ob h
      obtain ⟨i_46, g17, h⟩ := h
      replace h := ob h
      obtain ⟨w18, g19, h⟩ := h
      replace h := ob h
      obtain ⟨cs_45, g20, h⟩ := h
      have s21 := hs_c_X9_refuse H g20
      have s24 := hs_c_X0_checkCase_b105 s21.1 h
      refine ⟨s24.1, fun z => ?_⟩
      obtain ⟨z9, e9⟩ := s24.2 z
      obtain ⟨z23, e22⟩ := s21.2 z9
      refine ⟨z23, ?_⟩
      unfold c_X0_checkCase_b57
      refine (bd_s (sgR g1)).trans ?_
      refine (bd_s (g2)).trans ?_
      refine (bd_s (sgck g4)).trans ?_
      refine (bd_s (sv_c_X1_has g5)).trans ?_
      refine (if_neg c6).trans ?_
      refine (bd_s (sgR g7)).trans ?_
      refine (bd_s (g8)).trans ?_
      refine (bd_s (sgA g9)).trans ?_
      refine (bd_s (sgrA (by decide) g10)).trans ?_
      refine (if_pos c11).trans ?_
      refine (bd_s (sgR g12)).trans ?_
      refine (bd_s (sgR g13)).trans ?_
      refine (bd_s (g14)).trans ?_
      refine (bd_s (sgA g15)).trans ?_
      refine (bd_s (sgrA (by decide) g16)).trans ?_
      refine (bd_s (g17)).trans ?_
      refine (bd_s (sgck g19)).trans ?_
      refine (bd_s (e22)).trans ?_
      exact e9
    · replace h := (if_neg c11).symm.trans h
      have s25 := hs_c_X0_checkCase_b105 H h
      refine ⟨s25.1, fun z => ?_⟩
      obtain ⟨z9, e9⟩ := s25.2 z
      refine ⟨z9, ?_⟩
      unfold c_X0_checkCase_b57
      refine (bd_s (sgR g1)).trans ?_
      refine (bd_s (g2)).trans ?_
      refine (bd_s (sgck g4)).trans ?_
      refine (bd_s (sv_c_X1_has g5)).trans ?_
      refine (if_neg c6).trans ?_
      refine (bd_s (sgR g7)).trans ?_
      refine (bd_s (g8)).trans ?_
      refine (bd_s (sgA g9)).trans ?_
      refine (bd_s (sgrA (by decide) g10)).trans ?_
      refine (if_neg c11).trans ?_
      exact e9
theorem hs_c_X0_checkCase_b30 {n9 : Int32} {a9 : Nat → Int32} {s9 k9 t9 : Nat} {F : Nat} {cs1 : CS} {u1 : Int32} {u2 : Int32} {y0 : Int32} {cs9 : CS} (H : SGH n9 a9 s9 k9 t9 cs1) (h : c_X0_checkCase_b30 F cs1 k9 u1 u2 y0 = some cs9) : HSG n9 a9 s9 k9 t9 cs1 cs9 (c_X0_checkCase_b30 F (sgX n9 a9 cs1) k9 u1 u2 y0 = some (sgX n9 a9 cs9)) := by
  unfold c_X0_checkCase_b30 at h
  replace h := ob h
  obtain ⟨v_48, g1, h⟩ := h
  replace h := ob h
  obtain ⟨i_50, g2, h⟩ := h
  replace h := ob h
  obtain ⟨w3, g4, h⟩ := h
  replace h := ob h
  obtain ⟨v_49, g5, h⟩ := h
  by_cases c6 : v_49 = 0
  · replace h := (if_pos c6).symm.trans h
    have s7 := hs_c_X0_checkCase_b57 H h
    refine ⟨s7.1, fun z => ?_⟩
    obtain ⟨z9, e9⟩ := s7.2 z
    refine ⟨z9, ?_⟩
    unfold c_X0_checkCase_b30
    refine (bd_s (sgR g1)).trans ?_
    refine (bd_s (g2)).trans ?_
    refine (bd_s (sgck g4)).trans ?_
    refine (bd_s (sv_c_X1_has g5)).trans ?_
    refine (if_pos c6).trans ?_
    exact e9
  · replace h := (if_neg c6).symm.trans h
    replace h := ob h
    obtain ⟨v_53, g8, h⟩ := h
    replace h := ob h
    obtain ⟨i_54, g9, h⟩ := h
    replace h := ob h
    obtain ⟨v_55, g10, h⟩ := h
    replace h := ob h
    obtain ⟨v_56, g11, h⟩ := h
    have s12 := hs_c_X0_checkCase_b57 H h
    refine ⟨s12.1, fun z => ?_⟩
    obtain ⟨z9, e9⟩ := s12.2 z
    refine ⟨z9, ?_⟩
    unfold c_X0_checkCase_b30
    refine (bd_s (sgR g1)).trans ?_
    refine (bd_s (g2)).trans ?_
    refine (bd_s (sgck g4)).trans ?_
    refine (bd_s (sv_c_X1_has g5)).trans ?_
    refine (if_neg c6).trans ?_
    refine (bd_s (sgR g8)).trans ?_
    refine (bd_s (g9)).trans ?_
    refine (bd_s (sgA g10)).trans ?_
    refine (bd_s (sgrA (by decide) g11)).trans ?_
    exact e9
theorem hs_c_X0_checkCase {n9 : Int32} {a9 : Nat → Int32} {s9 k9 t9 : Nat} {F : Nat} {cs : CS} {x1 : Int32} {cs9 : CS} (H : SGH n9 a9 s9 k9 t9 cs) (h : c_X0_checkCase F cs k9 x1 = some cs9) : HSG n9 a9 s9 k9 t9 cs cs9 (c_X0_checkCase F (sgX n9 a9 cs) k9 x1 = some (sgX n9 a9 cs9)) := by
  unfold c_X0_checkCase at h
  replace h := ob h
  obtain ⟨v_57, g1, h⟩ := h
  replace h := ob h
  obtain ⟨i_59, g2, h⟩ := h
  replace h := ob h
  obtain ⟨w3, g4, h⟩ := h
  replace h := ob h
  obtain ⟨v_58, g5, h⟩ := h
  by_cases c6 : v_58 = 0
  · replace h := (if_pos c6).symm.trans h
    have s7 := hs_c_X0_checkCase_b30 H h
    refine ⟨s7.1, fun z => ?_⟩
    obtain ⟨z9, e9⟩ := s7.2 z
    refine ⟨z9, ?_⟩
    unfold c_X0_checkCase
    refine (bd_s (sgR g1)).trans ?_
    refine (bd_s (g2)).trans ?_
    refine (bd_s (sgck g4)).trans ?_
    refine (bd_s (sv_c_X1_has g5)).trans ?_
    refine (if_pos c6).trans ?_
    exact e9
  · replace h := (if_neg c6).symm.trans h
    replace h := ob h
    obtain ⟨v_62, g8, h⟩ := h
    replace h := ob h
    obtain ⟨i_63, g9, h⟩ := h
    replace h := ob h
    obtain ⟨v_64, g10, h⟩ := h
    replace h := ob h
    obtain ⟨v_65, g11, h⟩ := h
    have s12 := hs_c_X0_checkCase_b30 H h
    refine ⟨s12.1, fun z => ?_⟩
    obtain ⟨z9, e9⟩ := s12.2 z
    refine ⟨z9, ?_⟩
    unfold c_X0_checkCase
    refine (bd_s (sgR g1)).trans ?_
    refine (bd_s (g2)).trans ?_
    refine (bd_s (sgck g4)).trans ?_
    refine (bd_s (sv_c_X1_has g5)).trans ?_
    refine (if_neg c6).trans ?_
    refine (bd_s (sgR g8)).trans ?_
    refine (bd_s (g9)).trans ?_
    refine (bd_s (sgA g10)).trans ?_
    refine (bd_s (sgrA (by decide) g11)).trans ?_
    exact e9
theorem hs_c_X0_checkAct_b270 {n9 : Int32} {a9 : Nat → Int32} {s9 k9 t9 : Nat} {F : Nat} {cs1 : CS} {cs9 : CS} (H : SGH n9 a9 s9 k9 t9 cs1) (h : c_X0_checkAct_b270 F cs1 = some cs9) : HSG n9 a9 s9 k9 t9 cs1 cs9 (c_X0_checkAct_b270 F (sgX n9 a9 cs1) = some (sgX n9 a9 cs9)) := by
  unfold c_X0_checkAct_b270 at h
  rw [← Option.some.inj h]
  refine ⟨H, fun z => ?_⟩
  refine ⟨z, ?_⟩
  unfold c_X0_checkAct_b270
  rfl
theorem hs_c_X0_checkAct_b196 {n9 : Int32} {a9 : Nat → Int32} {s9 k9 t9 : Nat} {F : Nat} {cs1 : CS} {u1 : Int32} {cs9 : CS} (H : SGH n9 a9 s9 k9 t9 cs1) (h : c_X0_checkAct_b196 F cs1 k9 u1 = some cs9) : HSG n9 a9 s9 k9 t9 cs1 cs9 (c_X0_checkAct_b196 F (sgX n9 a9 cs1) k9 u1 = some (sgX n9 a9 cs9)) := by
  unfold c_X0_checkAct_b196 at h
  replace h := ob h
  obtain ⟨v_1, g1, h⟩ := h
  replace h := ob h
  obtain ⟨i_2, g2, h⟩ := h
  replace h := ob h
  obtain ⟨v_3, g3, h⟩ := h
  replace h := ob h
  obtain ⟨cs_4, g4, h⟩ := h
  have s5 := hs_wA (by decide) H g4
  have s8 := hs_c_X0_checkAct_b270 s5.1 h
  refine ⟨s8.1, fun z => ?_⟩
  obtain ⟨z9, e9⟩ := s8.2 z
  obtain ⟨z7, e6⟩ := s5.2 z9
  refine ⟨z7, ?_⟩
  unfold c_X0_checkAct_b196
  refine (bd_s (sgR g1)).trans ?_
  refine (bd_s (g2)).trans ?_
  refine (bd_s (sgA g3)).trans ?_
  refine (bd_s (e6)).trans ?_
  exact e9
theorem hs_c_X0_checkAct_b222 {n9 : Int32} {a9 : Nat → Int32} {s9 k9 t9 : Nat} {F : Nat} {cs1 : CS} {u1 : Int32} {cs9 : CS} (H : SGH n9 a9 s9 k9 t9 cs1) (h : c_X0_checkAct_b222 F cs1 k9 u1 = some cs9) : HSG n9 a9 s9 k9 t9 cs1 cs9 (c_X0_checkAct_b222 F (sgX n9 a9 cs1) k9 u1 = some (sgX n9 a9 cs9)) := by
  unfold c_X0_checkAct_b222 at h
  replace h := ob h
  obtain ⟨v_5, g1, h⟩ := h
  replace h := ob h
  obtain ⟨i_6, g2, h⟩ := h
  replace h := ob h
  obtain ⟨v_7, g3, h⟩ := h
  replace h := ob h
  obtain ⟨cs_8, g4, h⟩ := h
  have s5 := hs_wA (by decide) H g4
  have s8 := hs_c_X0_checkAct_b270 s5.1 h
  refine ⟨s8.1, fun z => ?_⟩
  obtain ⟨z9, e9⟩ := s8.2 z
  obtain ⟨z7, e6⟩ := s5.2 z9
  refine ⟨z7, ?_⟩
  unfold c_X0_checkAct_b222
  refine (bd_s (sgR g1)).trans ?_
  refine (bd_s (g2)).trans ?_
  refine (bd_s (sgA g3)).trans ?_
  refine (bd_s (e6)).trans ?_
  exact e9
theorem hs_c_X0_checkAct_b235 {n9 : Int32} {a9 : Nat → Int32} {s9 k9 t9 : Nat} {F : Nat} {cs1 : CS} {u1 : Int32} {cs9 : CS} (H : SGH n9 a9 s9 k9 t9 cs1) (h : c_X0_checkAct_b235 F cs1 k9 u1 = some cs9) : HSG n9 a9 s9 k9 t9 cs1 cs9 (c_X0_checkAct_b235 F (sgX n9 a9 cs1) k9 u1 = some (sgX n9 a9 cs9)) := by
  unfold c_X0_checkAct_b235 at h
  replace h := ob h
  obtain ⟨w1, g2, h⟩ := h
  replace h := ob h
  obtain ⟨cs_9, g3, h⟩ := h
  have s4 := hs_c_X0_wantParts H g3
  have s7 := hs_c_X0_checkAct_b270 s4.1 h
  refine ⟨s7.1, fun z => ?_⟩
  obtain ⟨z9, e9⟩ := s7.2 z
  obtain ⟨z6, e5⟩ := s4.2 z9
  refine ⟨z6, ?_⟩
  unfold c_X0_checkAct_b235
  refine (bd_s (sgck g2)).trans ?_
  refine (bd_s (e5)).trans ?_
  exact e9
theorem hs_c_X0_checkAct_b253 {n9 : Int32} {a9 : Nat → Int32} {s9 k9 t9 : Nat} {F : Nat} {cs1 : CS} {u1 : Int32} {cs9 : CS} (H : SGH n9 a9 s9 k9 t9 cs1) (h : c_X0_checkAct_b253 F cs1 k9 u1 = some cs9) : HSG n9 a9 s9 k9 t9 cs1 cs9 (c_X0_checkAct_b253 F (sgX n9 a9 cs1) k9 u1 = some (sgX n9 a9 cs9)) := by
  unfold c_X0_checkAct_b253 at h
  replace h := ob h
  obtain ⟨w1, g2, h⟩ := h
  replace h := ob h
  obtain ⟨cs_11, g3, h⟩ := h
  have s4 := hs_c_X0_wantParts H g3
  have s7 := hs_c_X0_checkAct_b270 s4.1 h
  refine ⟨s7.1, fun z => ?_⟩
  obtain ⟨z9, e9⟩ := s7.2 z
  obtain ⟨z6, e5⟩ := s4.2 z9
  refine ⟨z6, ?_⟩
  unfold c_X0_checkAct_b253
  refine (bd_s (sgck g2)).trans ?_
  refine (bd_s (e5)).trans ?_
  exact e9
theorem hs_c_X0_checkAct_b263 {n9 : Int32} {a9 : Nat → Int32} {s9 k9 t9 : Nat} {F : Nat} {cs1 : CS} {u1 : Int32} {cs9 : CS} (H : SGH n9 a9 s9 k9 t9 cs1) (h : c_X0_checkAct_b263 F cs1 k9 u1 = some cs9) : HSG n9 a9 s9 k9 t9 cs1 cs9 (c_X0_checkAct_b263 F (sgX n9 a9 cs1) k9 u1 = some (sgX n9 a9 cs9)) := by
  unfold c_X0_checkAct_b263 at h
  replace h := ob h
  obtain ⟨w1, g2, h⟩ := h
  replace h := ob h
  obtain ⟨cs_13, g3, h⟩ := h
  have s4 := hs_c_X0_wantParts H g3
  have s7 := hs_c_X0_checkAct_b270 s4.1 h
  refine ⟨s7.1, fun z => ?_⟩
  obtain ⟨z9, e9⟩ := s7.2 z
  obtain ⟨z6, e5⟩ := s4.2 z9
  refine ⟨z6, ?_⟩
  unfold c_X0_checkAct_b263
  refine (bd_s (sgck g2)).trans ?_
  refine (bd_s (e5)).trans ?_
  exact e9
theorem hs_c_X0_checkAct {n9 : Int32} {a9 : Nat → Int32} {s9 k9 t9 : Nat} {F : Nat} {cs : CS} {x1 : Int32} {cs9 : CS} (H : SGH n9 a9 s9 k9 t9 cs) (h : c_X0_checkAct F cs k9 x1 = some cs9) : HSG n9 a9 s9 k9 t9 cs cs9 (c_X0_checkAct F (sgX n9 a9 cs) k9 x1 = some (sgX n9 a9 cs9)) := by
  unfold c_X0_checkAct at h
  replace h := ob h
  obtain ⟨v_15, g1, h⟩ := h
  replace h := ob h
  obtain ⟨i_16, g2, h⟩ := h
  replace h := ob h
  obtain ⟨v_17, g3, h⟩ := h
  replace h := ob h
  obtain ⟨v_18, g4, h⟩ := h
  by_cases c5 : v_18 = 19
  · replace h := (if_pos c5).symm.trans h
    replace h := ob h
    obtain ⟨w6, g7, h⟩ := h
    replace h := ob h
    obtain ⟨cs_20, g8, h⟩ := h
    have s9 := hs_c_X0_checkCase H g8
    have s12 := hs_c_X0_checkAct_b270 s9.1 h
    refine ⟨s12.1, fun z => ?_⟩
    obtain ⟨z9, e9⟩ := s12.2 z
    obtain ⟨z11, e10⟩ := s9.2 z9
    refine ⟨z11, ?_⟩
    unfold c_X0_checkAct
    refine (bd_s (sgR g1)).trans ?_
    refine (bd_s (g2)).trans ?_
    refine (bd_s (sgA g3)).trans ?_
    refine (bd_s (sgrA (by decide) g4)).trans ?_
    refine (if_pos c5).trans ?_
    refine (bd_s (sgck g7)).trans ?_
    refine (bd_s (e10)).trans ?_
    exact e9
  · replace h := (if_neg c5).symm.trans h
    by_cases c13 : v_18 = 24
    · replace h := (if_pos c13).symm.trans h
      have s14 := hs_c_X0_checkAct_b222 H h
      refine ⟨s14.1, fun z => ?_⟩
      obtain ⟨z9, e9⟩ := s14.2 z
      refine ⟨z9, ?_⟩
      unfold c_X0_checkAct
      refine (bd_s (sgR g1)).trans ?_
      refine (bd_s (g2)).trans ?_
      refine (bd_s (sgA g3)).trans ?_
      refine (bd_s (sgrA (by decide) g4)).trans ?_
      refine (if_neg c5).trans ?_
      refine (if_pos c13).trans ?_
      exact e9
    · replace h := (if_neg c13).symm.trans h
      by_cases c15 : v_18 = 25
      · replace h := (if_pos c15).symm.trans h
        have s16 := hs_c_X0_checkAct_b235 H h
        refine ⟨s16.1, fun z => ?_⟩
        obtain ⟨z9, e9⟩ := s16.2 z
        refine ⟨z9, ?_⟩
        unfold c_X0_checkAct
        refine (bd_s (sgR g1)).trans ?_
        refine (bd_s (g2)).trans ?_
        refine (bd_s (sgA g3)).trans ?_
        refine (bd_s (sgrA (by decide) g4)).trans ?_
        refine (if_neg c5).trans ?_
        refine (if_neg c13).trans ?_
        refine (if_pos c15).trans ?_
        exact e9
      · replace h := (if_neg c15).symm.trans h
        by_cases c17 : v_18 = 26
        · replace h := (if_pos c17).symm.trans h
          replace h := ob h
          obtain ⟨v_25, g18, h⟩ := h
          replace h := ob h
          obtain ⟨i_26, g19, h⟩ := h
          replace h := ob h
          obtain ⟨v_27, g20, h⟩ := h
          replace h := ob h
          obtain ⟨cs_28, g21, h⟩ := h
          have s22 := hs_wA (by decide) H g21
          have s25 := hs_c_X0_checkAct_b270 s22.1 h
          refine ⟨s25.1, fun z => ?_⟩
          obtain ⟨z9, e9⟩ := s25.2 z
          obtain ⟨z24, e23⟩ := s22.2 z9
          refine ⟨z24, ?_⟩
          unfold c_X0_checkAct
          refine (bd_s (sgR g1)).trans ?_
          refine (bd_s (g2)).trans ?_
          refine (bd_s (sgA g3)).trans ?_
          refine (bd_s (sgrA (by decide) g4)).trans ?_
          refine (if_neg c5).trans ?_
          refine (if_neg c13).trans ?_
          refine (if_neg c15).trans ?_
          refine (if_pos c17).trans ?_
          refine (bd_s (sgR g18)).trans ?_
          refine (bd_s (g19)).trans ?_
          refine (bd_s (sgA g20)).trans ?_
          refine (bd_s (e23)).trans ?_
          exact e9
        · replace h := (if_neg c17).symm.trans h
          by_cases c26 : v_18 = 27
          · replace h := (if_pos c26).symm.trans h
            have s27 := hs_c_X0_checkAct_b253 H h
            refine ⟨s27.1, fun z => ?_⟩
            obtain ⟨z9, e9⟩ := s27.2 z
            refine ⟨z9, ?_⟩
            unfold c_X0_checkAct
            refine (bd_s (sgR g1)).trans ?_
            refine (bd_s (g2)).trans ?_
            refine (bd_s (sgA g3)).trans ?_
            refine (bd_s (sgrA (by decide) g4)).trans ?_
            refine (if_neg c5).trans ?_
            refine (if_neg c13).trans ?_
            refine (if_neg c15).trans ?_
            refine (if_neg c17).trans ?_
            refine (if_pos c26).trans ?_
            exact e9
          · replace h := (if_neg c26).symm.trans h
            by_cases c28 : v_18 = 28
            · replace h := (if_pos c28).symm.trans h
              have s29 := hs_c_X0_checkAct_b235 H h
              refine ⟨s29.1, fun z => ?_⟩
              obtain ⟨z9, e9⟩ := s29.2 z
              refine ⟨z9, ?_⟩
              unfold c_X0_checkAct
              refine (bd_s (sgR g1)).trans ?_
              refine (bd_s (g2)).trans ?_
              refine (bd_s (sgA g3)).trans ?_
              refine (bd_s (sgrA (by decide) g4)).trans ?_
              refine (if_neg c5).trans ?_
              refine (if_neg c13).trans ?_
              refine (if_neg c15).trans ?_
              refine (if_neg c17).trans ?_
              refine (if_neg c26).trans ?_
              refine (if_pos c28).trans ?_
              exact e9
            · replace h := (if_neg c28).symm.trans h
              by_cases c30 : v_18 = 29
              · replace h := (if_pos c30).symm.trans h
                have s31 := hs_c_X0_checkAct_b235 H h
                refine ⟨s31.1, fun z => ?_⟩
                obtain ⟨z9, e9⟩ := s31.2 z
                refine ⟨z9, ?_⟩
                unfold c_X0_checkAct
                refine (bd_s (sgR g1)).trans ?_
                refine (bd_s (g2)).trans ?_
                refine (bd_s (sgA g3)).trans ?_
                refine (bd_s (sgrA (by decide) g4)).trans ?_
                refine (if_neg c5).trans ?_
                refine (if_neg c13).trans ?_
                refine (if_neg c15).trans ?_
                refine (if_neg c17).trans ?_
                refine (if_neg c26).trans ?_
                refine (if_neg c28).trans ?_
                refine (if_pos c30).trans ?_
                exact e9
              · replace h := (if_neg c30).symm.trans h
                by_cases c32 : v_18 = 30
                · replace h := (if_pos c32).symm.trans h
                  have s33 := hs_c_X0_checkAct_b222 H h
                  refine ⟨s33.1, fun z => ?_⟩
                  obtain ⟨z9, e9⟩ := s33.2 z
                  refine ⟨z9, ?_⟩
                  unfold c_X0_checkAct
                  refine (bd_s (sgR g1)).trans ?_
                  refine (bd_s (g2)).trans ?_
                  refine (bd_s (sgA g3)).trans ?_
                  refine (bd_s (sgrA (by decide) g4)).trans ?_
                  refine (if_neg c5).trans ?_
                  refine (if_neg c13).trans ?_
                  refine (if_neg c15).trans ?_
                  refine (if_neg c17).trans ?_
                  refine (if_neg c26).trans ?_
                  refine (if_neg c28).trans ?_
                  refine (if_neg c30).trans ?_
                  refine (if_pos c32).trans ?_
                  exact e9
                · replace h := (if_neg c32).symm.trans h
                  by_cases c34 : v_18 = 31
                  · replace h := (if_pos c34).symm.trans h
                    have s35 := hs_c_X0_checkAct_b222 H h
                    refine ⟨s35.1, fun z => ?_⟩
                    obtain ⟨z9, e9⟩ := s35.2 z
                    refine ⟨z9, ?_⟩
                    unfold c_X0_checkAct
                    refine (bd_s (sgR g1)).trans ?_
                    refine (bd_s (g2)).trans ?_
                    refine (bd_s (sgA g3)).trans ?_
                    refine (bd_s (sgrA (by decide) g4)).trans ?_
                    refine (if_neg c5).trans ?_
                    refine (if_neg c13).trans ?_
                    refine (if_neg c15).trans ?_
                    refine (if_neg c17).trans ?_
                    refine (if_neg c26).trans ?_
                    refine (if_neg c28).trans ?_
                    refine (if_neg c30).trans ?_
                    refine (if_neg c32).trans ?_
                    refine (if_pos c34).trans ?_
                    exact e9
                  · replace h := (if_neg c34).symm.trans h
                    by_cases c36 : v_18 = 32
                    · replace h := (if_pos c36).symm.trans h
                      have s37 := hs_c_X0_checkAct_b196 H h
                      refine ⟨s37.1, fun z => ?_⟩
                      obtain ⟨z9, e9⟩ := s37.2 z
                      refine ⟨z9, ?_⟩
                      unfold c_X0_checkAct
                      refine (bd_s (sgR g1)).trans ?_
                      refine (bd_s (g2)).trans ?_
                      refine (bd_s (sgA g3)).trans ?_
                      refine (bd_s (sgrA (by decide) g4)).trans ?_
                      refine (if_neg c5).trans ?_
                      refine (if_neg c13).trans ?_
                      refine (if_neg c15).trans ?_
                      refine (if_neg c17).trans ?_
                      refine (if_neg c26).trans ?_
                      refine (if_neg c28).trans ?_
                      refine (if_neg c30).trans ?_
                      refine (if_neg c32).trans ?_
                      refine (if_neg c34).trans ?_
                      refine (if_pos c36).trans ?_
                      exact e9
                    · replace h := (if_neg c36).symm.trans h
                      by_cases c38 : v_18 = 40
                      · replace h := (if_pos c38).symm.trans h
                        have s39 := hs_c_X0_checkAct_b196 H h
                        refine ⟨s39.1, fun z => ?_⟩
                        obtain ⟨z9, e9⟩ := s39.2 z
                        refine ⟨z9, ?_⟩
                        unfold c_X0_checkAct
                        refine (bd_s (sgR g1)).trans ?_
                        refine (bd_s (g2)).trans ?_
                        refine (bd_s (sgA g3)).trans ?_
                        refine (bd_s (sgrA (by decide) g4)).trans ?_
                        refine (if_neg c5).trans ?_
                        refine (if_neg c13).trans ?_
                        refine (if_neg c15).trans ?_
                        refine (if_neg c17).trans ?_
                        refine (if_neg c26).trans ?_
                        refine (if_neg c28).trans ?_
                        refine (if_neg c30).trans ?_
                        refine (if_neg c32).trans ?_
                        refine (if_neg c34).trans ?_
                        refine (if_neg c36).trans ?_
                        refine (if_pos c38).trans ?_
                        exact e9
                      · replace h := (if_neg c38).symm.trans h
                        by_cases c40 : v_18 = 50
                        · replace h := (if_pos c40).symm.trans h
                          have s41 := hs_c_X0_checkAct_b253 H h
                          refine ⟨s41.1, fun z => ?_⟩
                          obtain ⟨z9, e9⟩ := s41.2 z
                          refine ⟨z9, ?_⟩
                          unfold c_X0_checkAct
                          refine (bd_s (sgR g1)).trans ?_
                          refine (bd_s (g2)).trans ?_
                          refine (bd_s (sgA g3)).trans ?_
                          refine (bd_s (sgrA (by decide) g4)).trans ?_
                          refine (if_neg c5).trans ?_
                          refine (if_neg c13).trans ?_
                          refine (if_neg c15).trans ?_
                          refine (if_neg c17).trans ?_
                          refine (if_neg c26).trans ?_
                          refine (if_neg c28).trans ?_
                          refine (if_neg c30).trans ?_
                          refine (if_neg c32).trans ?_
                          refine (if_neg c34).trans ?_
                          refine (if_neg c36).trans ?_
                          refine (if_neg c38).trans ?_
                          refine (if_pos c40).trans ?_
                          exact e9
                        · replace h := (if_neg c40).symm.trans h
                          by_cases c42 : v_18 = 51
                          · replace h := (if_pos c42).symm.trans h
                            have s43 := hs_c_X0_checkAct_b253 H h
                            refine ⟨s43.1, fun z => ?_⟩
                            obtain ⟨z9, e9⟩ := s43.2 z
                            refine ⟨z9, ?_⟩
                            unfold c_X0_checkAct
                            refine (bd_s (sgR g1)).trans ?_
                            refine (bd_s (g2)).trans ?_
                            refine (bd_s (sgA g3)).trans ?_
                            refine (bd_s (sgrA (by decide) g4)).trans ?_
                            refine (if_neg c5).trans ?_
                            refine (if_neg c13).trans ?_
                            refine (if_neg c15).trans ?_
                            refine (if_neg c17).trans ?_
                            refine (if_neg c26).trans ?_
                            refine (if_neg c28).trans ?_
                            refine (if_neg c30).trans ?_
                            refine (if_neg c32).trans ?_
                            refine (if_neg c34).trans ?_
                            refine (if_neg c36).trans ?_
                            refine (if_neg c38).trans ?_
                            refine (if_neg c40).trans ?_
                            refine (if_pos c42).trans ?_
                            exact e9
                          · replace h := (if_neg c42).symm.trans h
                            by_cases c44 : v_18 = 52
                            · replace h := (if_pos c44).symm.trans h
                              have s45 := hs_c_X0_checkAct_b253 H h
                              refine ⟨s45.1, fun z => ?_⟩
                              obtain ⟨z9, e9⟩ := s45.2 z
                              refine ⟨z9, ?_⟩
                              unfold c_X0_checkAct
                              refine (bd_s (sgR g1)).trans ?_
                              refine (bd_s (g2)).trans ?_
                              refine (bd_s (sgA g3)).trans ?_
                              refine (bd_s (sgrA (by decide) g4)).trans ?_
                              refine (if_neg c5).trans ?_
                              refine (if_neg c13).trans ?_
                              refine (if_neg c15).trans ?_
                              refine (if_neg c17).trans ?_
                              refine (if_neg c26).trans ?_
                              refine (if_neg c28).trans ?_
                              refine (if_neg c30).trans ?_
                              refine (if_neg c32).trans ?_
                              refine (if_neg c34).trans ?_
                              refine (if_neg c36).trans ?_
                              refine (if_neg c38).trans ?_
                              refine (if_neg c40).trans ?_
                              refine (if_neg c42).trans ?_
                              refine (if_pos c44).trans ?_
                              exact e9
                            · replace h := (if_neg c44).symm.trans h
                              by_cases c46 : v_18 = 53
                              · replace h := (if_pos c46).symm.trans h
                                have s47 := hs_c_X0_checkAct_b253 H h
                                refine ⟨s47.1, fun z => ?_⟩
                                obtain ⟨z9, e9⟩ := s47.2 z
                                refine ⟨z9, ?_⟩
                                unfold c_X0_checkAct
                                refine (bd_s (sgR g1)).trans ?_
                                refine (bd_s (g2)).trans ?_
                                refine (bd_s (sgA g3)).trans ?_
                                refine (bd_s (sgrA (by decide) g4)).trans ?_
                                refine (if_neg c5).trans ?_
                                refine (if_neg c13).trans ?_
                                refine (if_neg c15).trans ?_
                                refine (if_neg c17).trans ?_
                                refine (if_neg c26).trans ?_
                                refine (if_neg c28).trans ?_
                                refine (if_neg c30).trans ?_
                                refine (if_neg c32).trans ?_
                                refine (if_neg c34).trans ?_
                                refine (if_neg c36).trans ?_
                                refine (if_neg c38).trans ?_
                                refine (if_neg c40).trans ?_
                                refine (if_neg c42).trans ?_
                                refine (if_neg c44).trans ?_
                                refine (if_pos c46).trans ?_
                                exact e9
                              · replace h := (if_neg c46).symm.trans h
                                by_cases c48 : v_18 = 54
                                · replace h := (if_pos c48).symm.trans h
                                  have s49 := hs_c_X0_checkAct_b253 H h
                                  refine ⟨s49.1, fun z => ?_⟩
                                  obtain ⟨z9, e9⟩ := s49.2 z
                                  refine ⟨z9, ?_⟩
                                  unfold c_X0_checkAct
                                  refine (bd_s (sgR g1)).trans ?_
                                  refine (bd_s (g2)).trans ?_
                                  refine (bd_s (sgA g3)).trans ?_
                                  refine (bd_s (sgrA (by decide) g4)).trans ?_
                                  refine (if_neg c5).trans ?_
                                  refine (if_neg c13).trans ?_
                                  refine (if_neg c15).trans ?_
                                  refine (if_neg c17).trans ?_
                                  refine (if_neg c26).trans ?_
                                  refine (if_neg c28).trans ?_
                                  refine (if_neg c30).trans ?_
                                  refine (if_neg c32).trans ?_
                                  refine (if_neg c34).trans ?_
                                  refine (if_neg c36).trans ?_
                                  refine (if_neg c38).trans ?_
                                  refine (if_neg c40).trans ?_
                                  refine (if_neg c42).trans ?_
                                  refine (if_neg c44).trans ?_
                                  refine (if_neg c46).trans ?_
                                  refine (if_pos c48).trans ?_
                                  exact e9
                                · replace h := (if_neg c48).symm.trans h
                                  by_cases c50 : v_18 = 55
                                  · replace h := (if_pos c50).symm.trans h
                                    have s51 := hs_c_X0_checkAct_b253 H h
                                    refine ⟨s51.1, fun z => ?_⟩
                                    obtain ⟨z9, e9⟩ := s51.2 z
                                    refine ⟨z9, ?_⟩
                                    unfold c_X0_checkAct
                                    refine (bd_s (sgR g1)).trans ?_
                                    refine (bd_s (g2)).trans ?_
                                    refine (bd_s (sgA g3)).trans ?_
                                    refine (bd_s (sgrA (by decide) g4)).trans ?_
                                    refine (if_neg c5).trans ?_
                                    refine (if_neg c13).trans ?_
                                    refine (if_neg c15).trans ?_
                                    refine (if_neg c17).trans ?_
                                    refine (if_neg c26).trans ?_
                                    refine (if_neg c28).trans ?_
                                    refine (if_neg c30).trans ?_
                                    refine (if_neg c32).trans ?_
                                    refine (if_neg c34).trans ?_
                                    refine (if_neg c36).trans ?_
                                    refine (if_neg c38).trans ?_
                                    refine (if_neg c40).trans ?_
                                    refine (if_neg c42).trans ?_
                                    refine (if_neg c44).trans ?_
                                    refine (if_neg c46).trans ?_
                                    refine (if_neg c48).trans ?_
                                    refine (if_pos c50).trans ?_
                                    exact e9
                                  · replace h := (if_neg c50).symm.trans h
                                    by_cases c52 : v_18 = 59
                                    · replace h := (if_pos c52).symm.trans h
                                      have s53 := hs_c_X0_checkAct_b222 H h
                                      refine ⟨s53.1, fun z => ?_⟩
                                      obtain ⟨z9, e9⟩ := s53.2 z
                                      refine ⟨z9, ?_⟩
                                      unfold c_X0_checkAct
                                      refine (bd_s (sgR g1)).trans ?_
                                      refine (bd_s (g2)).trans ?_
                                      refine (bd_s (sgA g3)).trans ?_
                                      refine (bd_s (sgrA (by decide) g4)).trans ?_
                                      refine (if_neg c5).trans ?_
                                      refine (if_neg c13).trans ?_
                                      refine (if_neg c15).trans ?_
                                      refine (if_neg c17).trans ?_
                                      refine (if_neg c26).trans ?_
                                      refine (if_neg c28).trans ?_
                                      refine (if_neg c30).trans ?_
                                      refine (if_neg c32).trans ?_
                                      refine (if_neg c34).trans ?_
                                      refine (if_neg c36).trans ?_
                                      refine (if_neg c38).trans ?_
                                      refine (if_neg c40).trans ?_
                                      refine (if_neg c42).trans ?_
                                      refine (if_neg c44).trans ?_
                                      refine (if_neg c46).trans ?_
                                      refine (if_neg c48).trans ?_
                                      refine (if_neg c50).trans ?_
                                      refine (if_pos c52).trans ?_
                                      exact e9
                                    · replace h := (if_neg c52).symm.trans h
                                      by_cases c54 : v_18 = 60
                                      · replace h := (if_pos c54).symm.trans h
                                        have s55 := hs_c_X0_checkAct_b253 H h
                                        refine ⟨s55.1, fun z => ?_⟩
                                        obtain ⟨z9, e9⟩ := s55.2 z
                                        refine ⟨z9, ?_⟩
                                        unfold c_X0_checkAct
                                        refine (bd_s (sgR g1)).trans ?_
                                        refine (bd_s (g2)).trans ?_
                                        refine (bd_s (sgA g3)).trans ?_
                                        refine (bd_s (sgrA (by decide) g4)).trans ?_
                                        refine (if_neg c5).trans ?_
                                        refine (if_neg c13).trans ?_
                                        refine (if_neg c15).trans ?_
                                        refine (if_neg c17).trans ?_
                                        refine (if_neg c26).trans ?_
                                        refine (if_neg c28).trans ?_
                                        refine (if_neg c30).trans ?_
                                        refine (if_neg c32).trans ?_
                                        refine (if_neg c34).trans ?_
                                        refine (if_neg c36).trans ?_
                                        refine (if_neg c38).trans ?_
                                        refine (if_neg c40).trans ?_
                                        refine (if_neg c42).trans ?_
                                        refine (if_neg c44).trans ?_
                                        refine (if_neg c46).trans ?_
                                        refine (if_neg c48).trans ?_
                                        refine (if_neg c50).trans ?_
                                        refine (if_neg c52).trans ?_
                                        refine (if_pos c54).trans ?_
                                        exact e9
                                      · replace h := (if_neg c54).symm.trans h
                                        by_cases c56 : v_18 = 61
                                        · replace h := (if_pos c56).symm.trans h
                                          have s57 := hs_c_X0_checkAct_b196 H h
                                          refine ⟨s57.1, fun z => ?_⟩
                                          obtain ⟨z9, e9⟩ := s57.2 z
                                          refine ⟨z9, ?_⟩
                                          unfold c_X0_checkAct
                                          refine (bd_s (sgR g1)).trans ?_
                                          refine (bd_s (g2)).trans ?_
                                          refine (bd_s (sgA g3)).trans ?_
                                          refine (bd_s (sgrA (by decide) g4)).trans ?_
                                          refine (if_neg c5).trans ?_
                                          refine (if_neg c13).trans ?_
                                          refine (if_neg c15).trans ?_
                                          refine (if_neg c17).trans ?_
                                          refine (if_neg c26).trans ?_
                                          refine (if_neg c28).trans ?_
                                          refine (if_neg c30).trans ?_
                                          refine (if_neg c32).trans ?_
                                          refine (if_neg c34).trans ?_
                                          refine (if_neg c36).trans ?_
                                          refine (if_neg c38).trans ?_
                                          refine (if_neg c40).trans ?_
                                          refine (if_neg c42).trans ?_
                                          refine (if_neg c44).trans ?_
                                          refine (if_neg c46).trans ?_
                                          refine (if_neg c48).trans ?_
                                          refine (if_neg c50).trans ?_
                                          refine (if_neg c52).trans ?_
                                          refine (if_neg c54).trans ?_
                                          refine (if_pos c56).trans ?_
                                          exact e9
                                        · replace h := (if_neg c56).symm.trans h
                                          have s58 := hs_c_X0_checkAct_b263 H h
                                          refine ⟨s58.1, fun z => ?_⟩
                                          obtain ⟨z9, e9⟩ := s58.2 z
                                          refine ⟨z9, ?_⟩
                                          unfold c_X0_checkAct
                                          refine (bd_s (sgR g1)).trans ?_
                                          refine (bd_s (g2)).trans ?_
                                          refine (bd_s (sgA g3)).trans ?_
                                          refine (bd_s (sgrA (by decide) g4)).trans ?_
                                          refine (if_neg c5).trans ?_
                                          refine (if_neg c13).trans ?_
                                          refine (if_neg c15).trans ?_
                                          refine (if_neg c17).trans ?_
                                          refine (if_neg c26).trans ?_
                                          refine (if_neg c28).trans ?_
                                          refine (if_neg c30).trans ?_
                                          refine (if_neg c32).trans ?_
                                          refine (if_neg c34).trans ?_
                                          refine (if_neg c36).trans ?_
                                          refine (if_neg c38).trans ?_
                                          refine (if_neg c40).trans ?_
                                          refine (if_neg c42).trans ?_
                                          refine (if_neg c44).trans ?_
                                          refine (if_neg c46).trans ?_
                                          refine (if_neg c48).trans ?_
                                          refine (if_neg c50).trans ?_
                                          refine (if_neg c52).trans ?_
                                          refine (if_neg c54).trans ?_
                                          refine (if_neg c56).trans ?_
                                          exact e9
theorem hs_c_X0_refuseUnlessOne_b30 {n9 : Int32} {a9 : Nat → Int32} {s9 k9 t9 : Nat} {F : Nat} {cs1 : CS} {cs9 : CS} (H : SGH n9 a9 s9 k9 t9 cs1) (h : c_X0_refuseUnlessOne_b30 F cs1 = some cs9) : HSG n9 a9 s9 k9 t9 cs1 cs9 (c_X0_refuseUnlessOne_b30 F (sgX n9 a9 cs1) = some (sgX n9 a9 cs9)) := by
  unfold c_X0_refuseUnlessOne_b30 at h
  rw [← Option.some.inj h]
  refine ⟨H, fun z => ?_⟩
  refine ⟨z, ?_⟩
  unfold c_X0_refuseUnlessOne_b30
  rfl
theorem hs_c_X0_refuseUnlessOne_b18 {n9 : Int32} {a9 : Nat → Int32} {s9 k9 t9 : Nat} {F : Nat} {cs1 : CS} {u2 : Int32} {y0 : Int32} {y1 : Option Nat} {cs9 : CS} (H : SGH n9 a9 s9 k9 t9 cs1) (h : c_X0_refuseUnlessOne_b18 F cs1 k9 u2 y0 y1 = some cs9) : HSG n9 a9 s9 k9 t9 cs1 cs9 (c_X0_refuseUnlessOne_b18 F (sgX n9 a9 cs1) k9 u2 y0 y1 = some (sgX n9 a9 cs9)) := by
  unfold c_X0_refuseUnlessOne_b18 at h
  replace h := ob h
  obtain ⟨v_1, g1, h⟩ := h
  replace h := ob h
  obtain ⟨i_2, g2, h⟩ := h
  replace h := ob h
  obtain ⟨v_3, g3, h⟩ := h
  replace h := ob h
  obtain ⟨v_4, g4, h⟩ := h
  replace h := ob h
  obtain ⟨i_6, g5, h⟩ := h
  replace h := ob h
  obtain ⟨w6, g7, h⟩ := h
  replace h := ob h
  obtain ⟨cs_5, g8, h⟩ := h
  have s9 := hs_c_X9_refuse H g8
  have s12 := hs_c_X0_refuseUnlessOne_b30 s9.1 h
  refine ⟨s12.1, fun z => ?_⟩
  obtain ⟨z9, e9⟩ := s12.2 z
  obtain ⟨z11, e10⟩ := s9.2 z9
  refine ⟨z11, ?_⟩
  unfold c_X0_refuseUnlessOne_b18
  refine (bd_s (sgR g1)).trans ?_
  refine (bd_s (g2)).trans ?_
  refine (bd_s (sgA g3)).trans ?_
  refine (bd_s (sgrA (by decide) g4)).trans ?_
  refine (bd_s (g5)).trans ?_
  refine (bd_s (sgck g7)).trans ?_
  refine (bd_s (e10)).trans ?_
  exact e9
theorem hs_c_X0_refuseUnlessOne {n9 : Int32} {a9 : Nat → Int32} {s9 k9 t9 : Nat} {F : Nat} {cs : CS} {x1 : Int32} {x2 : Int32} {cs9 : CS} (H : SGH n9 a9 s9 k9 t9 cs) (h : c_X0_refuseUnlessOne F cs k9 x1 x2 = some cs9) : HSG n9 a9 s9 k9 t9 cs cs9 (c_X0_refuseUnlessOne F (sgX n9 a9 cs) k9 x1 x2 = some (sgX n9 a9 cs9)) := by
  unfold c_X0_refuseUnlessOne at h
  by_cases c1 : x1 = 1
  · replace h := (if_pos c1).symm.trans h
    have s2 := hs_c_X0_refuseUnlessOne_b30 H h
    refine ⟨s2.1, fun z => ?_⟩
    obtain ⟨z9, e9⟩ := s2.2 z
    refine ⟨z9, ?_⟩
    unfold c_X0_refuseUnlessOne
    refine (if_pos c1).trans ?_
    exact e9
  · replace h := (if_neg c1).symm.trans h
    replace h := ob h
    obtain ⟨v_9, g3, h⟩ := h
    by_cases c4 : x1 = 0
    · replace h := (if_pos c4).symm.trans h
      have s5 := hs_c_X0_refuseUnlessOne_b18 H h
      refine ⟨s5.1, fun z => ?_⟩
      obtain ⟨z9, e9⟩ := s5.2 z
      refine ⟨z9, ?_⟩
      unfold c_X0_refuseUnlessOne
      refine (if_neg c1).trans ?_
      refine (bd_s (sgR g3)).trans ?_
      refine (if_pos c4).trans ?_
      exact e9
    · replace h := (if_neg c4).symm.trans h
      have s6 := hs_c_X0_refuseUnlessOne_b18 H h
      refine ⟨s6.1, fun z => ?_⟩
      obtain ⟨z9, e9⟩ := s6.2 z
      refine ⟨z9, ?_⟩
      unfold c_X0_refuseUnlessOne
      refine (if_neg c1).trans ?_
      refine (bd_s (sgR g3)).trans ?_
      refine (if_neg c4).trans ?_
      exact e9
theorem hs_c_X0_findInSources_b181 {n9 : Int32} {a9 : Nat → Int32} {s9 k9 t9 : Nat} {F : Nat} {cs1 : CS} {u1 : Int32} {u2 : Int32} {cs9 : CS} (H : SGH n9 a9 s9 k9 t9 cs1) (h : c_X0_findInSources_b181 F cs1 k9 u1 u2 = some cs9) : HSG n9 a9 s9 k9 t9 cs1 cs9 (c_X0_findInSources_b181 F (sgX n9 a9 cs1) k9 u1 u2 = some (sgX n9 a9 cs9)) := by
  unfold c_X0_findInSources_b181 at h
  replace h := ob h
  obtain ⟨w1, g2, h⟩ := h
  replace h := ob h
  obtain ⟨cs_1, g3, h⟩ := h
  have s4 := hs_c_X0_refuseUnlessOne H g3
  rw [← Option.some.inj h]
  refine ⟨s4.1, fun z => ?_⟩
  obtain ⟨z6, e5⟩ := s4.2 z
  refine ⟨z6, ?_⟩
  unfold c_X0_findInSources_b181
  refine (bd_s (sgck g2)).trans ?_
  refine (bd_s (e5)).trans ?_
  rfl
theorem hs_c_X0_findInSources_b175 {n9 : Int32} {a9 : Nat → Int32} {s9 k9 t9 : Nat} {F : Nat} {rc4 : CS → Nat → Int32 → Int32 → Int32 → Option CS} {cs1 : CS} {u1 : Int32} {u2 : Int32} {u3 : Int32} {cs9 : CS} (hrc4 : ∀ (cs1 : CS) (a2 : Int32) (a3 : Int32) (a4 : Int32) (cs9 : CS), SGH n9 a9 s9 k9 t9 cs1 → rc4 cs1 k9 a2 a3 a4 = some cs9 → HSG n9 a9 s9 k9 t9 cs1 cs9 (rc4 (sgX n9 a9 cs1) k9 a2 a3 a4 = some (sgX n9 a9 cs9))) (H : SGH n9 a9 s9 k9 t9 cs1) (h : c_X0_findInSources_b175 F rc4 cs1 k9 u1 u2 u3 = some cs9) : HSG n9 a9 s9 k9 t9 cs1 cs9 (c_X0_findInSources_b175 F rc4 (sgX n9 a9 cs1) k9 u1 u2 u3 = some (sgX n9 a9 cs9)) := by
  unfold c_X0_findInSources_b175 at h
  have s1 := hrc4 _ _ _ _ _ H h
  refine ⟨s1.1, fun z => ?_⟩
  obtain ⟨z9, e9⟩ := s1.2 z
  refine ⟨z9, ?_⟩
  unfold c_X0_findInSources_b175
  exact e9
theorem hs_c_X0_findInSources_b115 {n9 : Int32} {a9 : Nat → Int32} {s9 k9 t9 : Nat} {F : Nat} {rc4 : CS → Nat → Int32 → Int32 → Int32 → Option CS} {cs1 : CS} {u1 : Int32} {u2 : Int32} {u3 : Int32} {u4 : Option Nat} {u5 : Int32} {y0 : Int32} {cs9 : CS} (hrc4 : ∀ (cs1 : CS) (a2 : Int32) (a3 : Int32) (a4 : Int32) (cs9 : CS), SGH n9 a9 s9 k9 t9 cs1 → rc4 cs1 k9 a2 a3 a4 = some cs9 → HSG n9 a9 s9 k9 t9 cs1 cs9 (rc4 (sgX n9 a9 cs1) k9 a2 a3 a4 = some (sgX n9 a9 cs9))) (H : SGH n9 a9 s9 k9 t9 cs1) (h : c_X0_findInSources_b115 F rc4 cs1 k9 u1 u2 u3 u4 u5 y0 = some cs9) : HSG n9 a9 s9 k9 t9 cs1 cs9 (c_X0_findInSources_b115 F rc4 (sgX n9 a9 cs1) k9 u1 u2 u3 u4 u5 y0 = some (sgX n9 a9 cs9)) := by
  unfold c_X0_findInSources_b115 at h
  by_cases c1 : u5 = 0
  · replace h := (if_pos c1).symm.trans h
    have s2 := hs_c_X0_findInSources_b175 hrc4 H h
    refine ⟨s2.1, fun z => ?_⟩
    obtain ⟨z9, e9⟩ := s2.2 z
    refine ⟨z9, ?_⟩
    unfold c_X0_findInSources_b115
    refine (if_pos c1).trans ?_
    exact e9
  · replace h := (if_neg c1).symm.trans h
    replace h := ob h
    obtain ⟨i_4, g3, h⟩ := h
    replace h := ob h
    obtain ⟨v_5, g4, h⟩ := h
    replace h := ob h
    obtain ⟨i_7, g5, h⟩ := h
    replace h := ob h
    obtain ⟨w6, g7, h⟩ := h
    replace h := ob h
    obtain ⟨v_6, g8, h⟩ := h
    by_cases c9 : v_6 = 0
    · replace h := (if_pos c9).symm.trans h
      have s10 := hs_c_X0_findInSources_b175 hrc4 H h
      refine ⟨s10.1, fun z => ?_⟩
      obtain ⟨z9, e9⟩ := s10.2 z
      refine ⟨z9, ?_⟩
      unfold c_X0_findInSources_b115
      refine (if_neg c1).trans ?_
      refine (bd_s (g3)).trans ?_
      refine (bd_s (sgR g4)).trans ?_
      refine (bd_s (g5)).trans ?_
      refine (bd_s (sgck g7)).trans ?_
      refine (bd_s (sv_c_X2_has g8)).trans ?_
      refine (if_pos c9).trans ?_
      exact e9
    · replace h := (if_neg c9).symm.trans h
      replace h := ob h
      obtain ⟨v_10, g11, h⟩ := h
      replace h := ob h
      obtain ⟨i_11, g12, h⟩ := h
      replace h := ob h
      obtain ⟨v_12, g13, h⟩ := h
      replace h := ob h
      obtain ⟨v_13, g14, h⟩ := h
      replace h := ob h
      obtain ⟨cs_14, g15, h⟩ := h
      have s16 := hs_wA (by decide) H g15
      replace h := ob h
      obtain ⟨v_15, g19, h⟩ := h
      replace h := ob h
      obtain ⟨i_16, g20, h⟩ := h
      replace h := ob h
      obtain ⟨v_17, g21, h⟩ := h
      replace h := ob h
      obtain ⟨v_18, g22, h⟩ := h
      replace h := ob h
      obtain ⟨i_19, g23, h⟩ := h
      replace h := ob h
      obtain ⟨v_20, g24, h⟩ := h
      replace h := ob h
      obtain ⟨v_21, g25, h⟩ := h
      replace h := ob h
      obtain ⟨cs_22, g26, h⟩ := h
      have s27 := hs_wA (by decide) s16.1 g26
      have s30 := hs_c_X0_findInSources_b175 hrc4 s27.1 h
      refine ⟨s30.1, fun z => ?_⟩
      obtain ⟨z9, e9⟩ := s30.2 z
      obtain ⟨z29, e28⟩ := s27.2 z9
      obtain ⟨z18, e17⟩ := s16.2 z29
      refine ⟨z18, ?_⟩
      unfold c_X0_findInSources_b115
      refine (if_neg c1).trans ?_
      refine (bd_s (g3)).trans ?_
      refine (bd_s (sgR g4)).trans ?_
      refine (bd_s (g5)).trans ?_
      refine (bd_s (sgck g7)).trans ?_
      refine (bd_s (sv_c_X2_has g8)).trans ?_
      refine (if_neg c9).trans ?_
      refine (bd_s (sgR g11)).trans ?_
      refine (bd_s (g12)).trans ?_
      refine (bd_s (sgA g13)).trans ?_
      refine (bd_s (sgI (by decide) g14)).trans ?_
      refine (bd_s (e17)).trans ?_
      refine (bd_s (sgR g19)).trans ?_
      refine (bd_s (g20)).trans ?_
      refine (bd_s (sgA g21)).trans ?_
      refine (bd_s (sgR g22)).trans ?_
      refine (bd_s (g23)).trans ?_
      refine (bd_s (sgA g24)).trans ?_
      refine (bd_s (sgrA (by decide) g25)).trans ?_
      refine (bd_s (e28)).trans ?_
      exact e9
theorem hs_c_X0_findInSources_b86 {n9 : Int32} {a9 : Nat → Int32} {s9 k9 t9 : Nat} {F : Nat} {rc4 : CS → Nat → Int32 → Int32 → Int32 → Option CS} {cs1 : CS} {u1 : Int32} {u2 : Int32} {u3 : Int32} {u4 : Option Nat} {y0 : Int32} {cs9 : CS} (hrc4 : ∀ (cs1 : CS) (a2 : Int32) (a3 : Int32) (a4 : Int32) (cs9 : CS), SGH n9 a9 s9 k9 t9 cs1 → rc4 cs1 k9 a2 a3 a4 = some cs9 → HSG n9 a9 s9 k9 t9 cs1 cs9 (rc4 (sgX n9 a9 cs1) k9 a2 a3 a4 = some (sgX n9 a9 cs9))) (H : SGH n9 a9 s9 k9 t9 cs1) (h : c_X0_findInSources_b86 F rc4 cs1 k9 u1 u2 u3 u4 y0 = some cs9) : HSG n9 a9 s9 k9 t9 cs1 cs9 (c_X0_findInSources_b86 F rc4 (sgX n9 a9 cs1) k9 u1 u2 u3 u4 y0 = some (sgX n9 a9 cs9)) := by
  unfold c_X0_findInSources_b86 at h
  by_cases c1 : y0 = 0
  · replace h := (if_pos c1).symm.trans h
    have s2 := hs_c_X0_findInSources_b115 hrc4 H h
    refine ⟨s2.1, fun z => ?_⟩
    obtain ⟨z9, e9⟩ := s2.2 z
    refine ⟨z9, ?_⟩
    unfold c_X0_findInSources_b86
    refine (if_pos c1).trans ?_
    exact e9
  · replace h := (if_neg c1).symm.trans h
    replace h := ob h
    obtain ⟨i_24, g3, h⟩ := h
    replace h := ob h
    obtain ⟨v_25, g4, h⟩ := h
    replace h := ob h
    obtain ⟨v_26, g5, h⟩ := h
    replace h := ob h
    obtain ⟨i_27, g6, h⟩ := h
    replace h := ob h
    obtain ⟨v_28, g7, h⟩ := h
    replace h := ob h
    obtain ⟨v_29, g8, h⟩ := h
    replace h := ob h
    obtain ⟨i_31, g9, h⟩ := h
    replace h := ob h
    obtain ⟨w10, g11, h⟩ := h
    replace h := ob h
    obtain ⟨v_30, g12, h⟩ := h
    have s13 := hs_c_X0_findInSources_b115 hrc4 H h
    refine ⟨s13.1, fun z => ?_⟩
    obtain ⟨z9, e9⟩ := s13.2 z
    refine ⟨z9, ?_⟩
    unfold c_X0_findInSources_b86
    refine (if_neg c1).trans ?_
    refine (bd_s (g3)).trans ?_
    refine (bd_s (sgR g4)).trans ?_
    refine (bd_s (sgR g5)).trans ?_
    refine (bd_s (g6)).trans ?_
    refine (bd_s (sgA g7)).trans ?_
    refine (bd_s (sgrB g8)).trans ?_
    refine (bd_s (g9)).trans ?_
    refine (bd_s (sgck g11)).trans ?_
    refine (bd_s (sv_c_X2_find g12)).trans ?_
    exact e9
theorem hs_c_X0_findInSources_b81 {n9 : Int32} {a9 : Nat → Int32} {s9 k9 t9 : Nat} {F : Nat} {rc4 : CS → Nat → Int32 → Int32 → Int32 → Option CS} {cs1 : CS} {u1 : Int32} {u2 : Int32} {u3 : Int32} {u4 : Nat} {cs9 : CS} (hrc4 : ∀ (cs1 : CS) (a2 : Int32) (a3 : Int32) (a4 : Int32) (cs9 : CS), SGH n9 a9 s9 k9 t9 cs1 → rc4 cs1 k9 a2 a3 a4 = some cs9 → HSG n9 a9 s9 k9 t9 cs1 cs9 (rc4 (sgX n9 a9 cs1) k9 a2 a3 a4 = some (sgX n9 a9 cs9))) (H : SGH n9 a9 s9 k9 t9 cs1) (h : c_X0_findInSources_b81 F rc4 cs1 k9 u1 u2 u3 u4 = some cs9) : HSG n9 a9 s9 k9 t9 cs1 cs9 (c_X0_findInSources_b81 F rc4 (sgX n9 a9 cs1) k9 u1 u2 u3 u4 = some (sgX n9 a9 cs9)) := by
  unfold c_X0_findInSources_b81 at h
  have s1 := hs_c_X0_findInSources_b86 hrc4 H h
  refine ⟨s1.1, fun z => ?_⟩
  obtain ⟨z9, e9⟩ := s1.2 z
  refine ⟨z9, ?_⟩
  unfold c_X0_findInSources_b81
  exact e9
theorem hs_c_X0_findInSources_b85 {n9 : Int32} {a9 : Nat → Int32} {s9 k9 t9 : Nat} {F : Nat} {rc4 : CS → Nat → Int32 → Int32 → Int32 → Option CS} {cs1 : CS} {u1 : Int32} {u2 : Int32} {u3 : Int32} {u4 : Option Nat} {cs9 : CS} (hrc4 : ∀ (cs1 : CS) (a2 : Int32) (a3 : Int32) (a4 : Int32) (cs9 : CS), SGH n9 a9 s9 k9 t9 cs1 → rc4 cs1 k9 a2 a3 a4 = some cs9 → HSG n9 a9 s9 k9 t9 cs1 cs9 (rc4 (sgX n9 a9 cs1) k9 a2 a3 a4 = some (sgX n9 a9 cs9))) (H : SGH n9 a9 s9 k9 t9 cs1) (h : c_X0_findInSources_b85 F rc4 cs1 k9 u1 u2 u3 u4 = some cs9) : HSG n9 a9 s9 k9 t9 cs1 cs9 (c_X0_findInSources_b85 F rc4 (sgX n9 a9 cs1) k9 u1 u2 u3 u4 = some (sgX n9 a9 cs9)) := by
  unfold c_X0_findInSources_b85 at h
  have s1 := hs_c_X0_findInSources_b86 hrc4 H h
  refine ⟨s1.1, fun z => ?_⟩
  obtain ⟨z9, e9⟩ := s1.2 z
  refine ⟨z9, ?_⟩
  unfold c_X0_findInSources_b85
  exact e9
theorem hs_c_X0_findInSources_L4 {n9 : Int32} {a9 : Nat → Int32} {s9 k9 t9 : Nat} {F : Nat} : ∀ (lf : Nat) (cs1 : CS) (u1 : Int32) (u2 : Int32) (u3 : Int32) (cs9 : CS), SGH n9 a9 s9 k9 t9 cs1 → c_X0_findInSources_L4 F lf cs1 k9 u1 u2 u3 = some cs9 → HSG n9 a9 s9 k9 t9 cs1 cs9 (c_X0_findInSources_L4 F lf (sgX n9 a9 cs1) k9 u1 u2 u3 = some (sgX n9 a9 cs9)) := by
  intro lf
  induction lf with
  | zero => intro cs1 u1 u2 u3 cs9 H h; cases (show (none : Option CS) = _ from h)
  | succ lf ih =>
    intro cs1 u1 u2 u3 cs9 H h
    rw [c_X0_findInSources_L4] at h
    replace h := ob h
    obtain ⟨v_33, g1, h⟩ := h
    cases v_33 with
    | none =>
      replace h := oc_n.symm.trans h
      have s2 := hs_c_X0_findInSources_b181 H h
      refine ⟨s2.1, fun z => ?_⟩
      obtain ⟨z9, e9⟩ := s2.2 z
      refine ⟨z9, ?_⟩
      rw [c_X0_findInSources_L4]
      refine (bd_s (sgR g1)).trans ?_
      refine (oc_n).trans ?_
      exact e9
    | some i_34 =>
      replace h := oc_s.symm.trans h
      replace h := ob h
      obtain ⟨v_35, g3, h⟩ := h
      by_cases c4 : v_35 ≤ u3
      · replace h := (if_pos c4).symm.trans h
        have s5 := hs_c_X0_findInSources_b181 H h
        refine ⟨s5.1, fun z => ?_⟩
        obtain ⟨z9, e9⟩ := s5.2 z
        refine ⟨z9, ?_⟩
        rw [c_X0_findInSources_L4]
        refine (bd_s (sgR g1)).trans ?_
        refine (oc_s).trans ?_
        refine (bd_s (sgI (by decide) g3)).trans ?_
        refine (if_pos c4).trans ?_
        exact e9
      · replace h := (if_neg c4).symm.trans h
        replace h := ob h
        obtain ⟨v_37, g6, h⟩ := h
        replace h := ob h
        obtain ⟨i_38, g7, h⟩ := h
        replace h := ob h
        obtain ⟨v_39, g8, h⟩ := h
        replace h := ob h
        obtain ⟨v_40, g9, h⟩ := h
        by_cases c10 : v_40 ≤ u3
        · replace h := (if_pos c10).symm.trans h
          have s11 := hs_c_X0_findInSources_b181 H h
          refine ⟨s11.1, fun z => ?_⟩
          obtain ⟨z9, e9⟩ := s11.2 z
          refine ⟨z9, ?_⟩
          rw [c_X0_findInSources_L4]
          refine (bd_s (sgR g1)).trans ?_
          refine (oc_s).trans ?_
          refine (bd_s (sgI (by decide) g3)).trans ?_
          refine (if_neg c4).trans ?_
          refine (bd_s (sgR g6)).trans ?_
          refine (bd_s (g7)).trans ?_
          refine (bd_s (sgA g8)).trans ?_
          refine (bd_s (sgLn g9)).trans ?_
          refine (if_pos c10).trans ?_
          exact e9
        · replace h := (if_neg c10).symm.trans h
          replace h := ob h
          obtain ⟨v_42, g12, h⟩ := h
          replace h := ob h
          obtain ⟨i_43, g13, h⟩ := h
          replace h := ob h
          obtain ⟨v_44, g14, h⟩ := h
          replace h := ob h
          obtain ⟨v_45, g15, h⟩ := h
          cases v_45 with
          | none =>
            replace h := oc_n.symm.trans h
            have s16 := hs_c_X0_findInSources_b85 ih H h
            refine ⟨s16.1, fun z => ?_⟩
            obtain ⟨z9, e9⟩ := s16.2 z
            refine ⟨z9, ?_⟩
            rw [c_X0_findInSources_L4]
            refine (bd_s (sgR g1)).trans ?_
            refine (oc_s).trans ?_
            refine (bd_s (sgI (by decide) g3)).trans ?_
            refine (if_neg c4).trans ?_
            refine (bd_s (sgR g6)).trans ?_
            refine (bd_s (g7)).trans ?_
            refine (bd_s (sgA g8)).trans ?_
            refine (bd_s (sgLn g9)).trans ?_
            refine (if_neg c10).trans ?_
            refine (bd_s (sgR g12)).trans ?_
            refine (bd_s (g13)).trans ?_
            refine (bd_s (sgA g14)).trans ?_
            refine (bd_s (sgrQ g15)).trans ?_
            refine (oc_n).trans ?_
            exact e9
          | some i_46 =>
            replace h := oc_s.symm.trans h
            replace h := ob h
            obtain ⟨v_47, g17, h⟩ := h
            replace h := ob h
            obtain ⟨i_48, g18, h⟩ := h
            replace h := ob h
            obtain ⟨v_49, g19, h⟩ := h
            replace h := ob h
            obtain ⟨v_50, g20, h⟩ := h
            by_cases c21 : v_50 = (-1)
            · replace h := (if_pos c21).symm.trans h
              have s22 := hs_c_X0_findInSources_b81 ih H h
              refine ⟨s22.1, fun z => ?_⟩
              obtain ⟨z9, e9⟩ := s22.2 z
              refine ⟨z9, ?_⟩
              rw [c_X0_findInSources_L4]
              refine (bd_s (sgR g1)).trans ?_
              refine (oc_s).trans ?_
              refine (bd_s (sgI (by decide) g3)).trans ?_
              refine (if_neg c4).trans ?_
              refine (bd_s (sgR g6)).trans ?_
              refine (bd_s (g7)).trans ?_
              refine (bd_s (sgA g8)).trans ?_
              refine (bd_s (sgLn g9)).trans ?_
              refine (if_neg c10).trans ?_
              refine (bd_s (sgR g12)).trans ?_
              refine (bd_s (g13)).trans ?_
              refine (bd_s (sgA g14)).trans ?_
              refine (bd_s (sgrQ g15)).trans ?_
              refine (oc_s).trans ?_
              refine (bd_s (sgR g17)).trans ?_
              refine (bd_s (g18)).trans ?_
              refine (bd_s (sgA g19)).trans ?_
              refine (bd_s (sgrB g20)).trans ?_
              refine (if_pos c21).trans ?_
              exact e9
            · replace h := (if_neg c21).symm.trans h
              replace h := ob h
              obtain ⟨v_52, g23, h⟩ := h
              replace h := ob h
              obtain ⟨i_53, g24, h⟩ := h
              replace h := ob h
              obtain ⟨v_54, g25, h⟩ := h
              replace h := ob h
              obtain ⟨v_55, g26, h⟩ := h
              replace h := ob h
              obtain ⟨v_56, g27, h⟩ := h
              by_cases c28 : v_55 = v_56
              · replace h := (if_pos c28).symm.trans h
                have s29 := hs_c_X0_findInSources_b81 ih H h
                refine ⟨s29.1, fun z => ?_⟩
                obtain ⟨z9, e9⟩ := s29.2 z
                refine ⟨z9, ?_⟩
                rw [c_X0_findInSources_L4]
                refine (bd_s (sgR g1)).trans ?_
                refine (oc_s).trans ?_
                refine (bd_s (sgI (by decide) g3)).trans ?_
                refine (if_neg c4).trans ?_
                refine (bd_s (sgR g6)).trans ?_
                refine (bd_s (g7)).trans ?_
                refine (bd_s (sgA g8)).trans ?_
                refine (bd_s (sgLn g9)).trans ?_
                refine (if_neg c10).trans ?_
                refine (bd_s (sgR g12)).trans ?_
                refine (bd_s (g13)).trans ?_
                refine (bd_s (sgA g14)).trans ?_
                refine (bd_s (sgrQ g15)).trans ?_
                refine (oc_s).trans ?_
                refine (bd_s (sgR g17)).trans ?_
                refine (bd_s (g18)).trans ?_
                refine (bd_s (sgA g19)).trans ?_
                refine (bd_s (sgrB g20)).trans ?_
                refine (if_neg c21).trans ?_
                refine (bd_s (sgR g23)).trans ?_
                refine (bd_s (g24)).trans ?_
                refine (bd_s (sgA g25)).trans ?_
                refine (bd_s (sgrB g26)).trans ?_
                refine (bd_s (sgJ g27)).trans ?_
                refine (if_pos c28).trans ?_
                exact e9
              · replace h := (if_neg c28).symm.trans h
                have s30 := hs_c_X0_findInSources_b85 ih H h
                refine ⟨s30.1, fun z => ?_⟩
                obtain ⟨z9, e9⟩ := s30.2 z
                refine ⟨z9, ?_⟩
                rw [c_X0_findInSources_L4]
                refine (bd_s (sgR g1)).trans ?_
                refine (oc_s).trans ?_
                refine (bd_s (sgI (by decide) g3)).trans ?_
                refine (if_neg c4).trans ?_
                refine (bd_s (sgR g6)).trans ?_
                refine (bd_s (g7)).trans ?_
                refine (bd_s (sgA g8)).trans ?_
                refine (bd_s (sgLn g9)).trans ?_
                refine (if_neg c10).trans ?_
                refine (bd_s (sgR g12)).trans ?_
                refine (bd_s (g13)).trans ?_
                refine (bd_s (sgA g14)).trans ?_
                refine (bd_s (sgrQ g15)).trans ?_
                refine (oc_s).trans ?_
                refine (bd_s (sgR g17)).trans ?_
                refine (bd_s (g18)).trans ?_
                refine (bd_s (sgA g19)).trans ?_
                refine (bd_s (sgrB g20)).trans ?_
                refine (if_neg c21).trans ?_
                refine (bd_s (sgR g23)).trans ?_
                refine (bd_s (g24)).trans ?_
                refine (bd_s (sgA g25)).trans ?_
                refine (bd_s (sgrB g26)).trans ?_
                refine (bd_s (sgJ g27)).trans ?_
                refine (if_neg c28).trans ?_
                exact e9
theorem hs_c_X0_findInSources {n9 : Int32} {a9 : Nat → Int32} {s9 k9 t9 : Nat} {F : Nat} {cs : CS} {x1 : Int32} {cs9 : CS} (H : SGH n9 a9 s9 k9 t9 cs) (h : c_X0_findInSources F cs k9 x1 = some cs9) : HSG n9 a9 s9 k9 t9 cs cs9 (c_X0_findInSources F (sgX n9 a9 cs) k9 x1 = some (sgX n9 a9 cs9)) := by
  unfold c_X0_findInSources at h
  have s1 := hs_c_X0_findInSources_L4 _ _ _ _ _ _ H h
  refine ⟨s1.1, fun z => ?_⟩
  obtain ⟨z9, e9⟩ := s1.2 z
  refine ⟨z9, ?_⟩
  unfold c_X0_findInSources
  exact e9
theorem hs_c_X0_findInNames_b101 {n9 : Int32} {a9 : Nat → Int32} {s9 k9 t9 : Nat} {F : Nat} {cs1 : CS} {u1 : Int32} {y0 : Int32} {cs9 : CS} (H : SGH n9 a9 s9 k9 t9 cs1) (h : c_X0_findInNames_b101 F cs1 u1 y0 k9 = some cs9) : HSG n9 a9 s9 k9 t9 cs1 cs9 (c_X0_findInNames_b101 F (sgX n9 a9 cs1) u1 y0 k9 = some (sgX n9 a9 cs9)) := by
  unfold c_X0_findInNames_b101 at h
  replace h := ob h
  obtain ⟨w1, g2, h⟩ := h
  replace h := ob h
  obtain ⟨cs_1, g3, h⟩ := h
  have s4 := hs_c_X0_refuseUnlessOne H g3
  rw [← Option.some.inj h]
  refine ⟨s4.1, fun z => ?_⟩
  obtain ⟨z6, e5⟩ := s4.2 z
  refine ⟨z6, ?_⟩
  unfold c_X0_findInNames_b101
  refine (bd_s (sgck g2)).trans ?_
  refine (bd_s (e5)).trans ?_
  rfl
theorem hs_c_X0_findInNames_b34 {n9 : Int32} {a9 : Nat → Int32} {s9 k9 t9 : Nat} {F : Nat} {cs1 : CS} {u1 : Int32} {u2 : Nat} {y0 : Int32} {cs9 : CS} (H : SGH n9 a9 s9 k9 t9 cs1) (h : c_X0_findInNames_b34 F cs1 k9 u1 u2 y0 = some cs9) : HSG n9 a9 s9 k9 t9 cs1 cs9 (c_X0_findInNames_b34 F (sgX n9 a9 cs1) k9 u1 u2 y0 = some (sgX n9 a9 cs9)) := by
  unfold c_X0_findInNames_b34 at h
  replace h := ob h
  obtain ⟨w1, g2, h⟩ := h
  replace h := ob h
  obtain ⟨v_3, g3, h⟩ := h
  by_cases c4 : v_3 = 0
  · replace h := (if_pos c4).symm.trans h
    replace h := ob h
    obtain ⟨w5, g6, h⟩ := h
    replace h := ob h
    obtain ⟨cs_23, g7, h⟩ := h
    have s8 := hs_c_X0_refuseUnlessOne H g7
    rw [← Option.some.inj h]
    refine ⟨s8.1, fun z => ?_⟩
    obtain ⟨z10, e9⟩ := s8.2 z
    refine ⟨z10, ?_⟩
    unfold c_X0_findInNames_b34
    refine (bd_s (sgck g2)).trans ?_
    refine (bd_s (sv_c_X2_has g3)).trans ?_
    refine (if_pos c4).trans ?_
    refine (bd_s (sgck g6)).trans ?_
    refine (bd_s (e9)).trans ?_
    rfl
  · replace h := (if_neg c4).symm.trans h
    replace h := ob h
    obtain ⟨v_6, g11, h⟩ := h
    replace h := ob h
    obtain ⟨i_7, g12, h⟩ := h
    replace h := ob h
    obtain ⟨v_8, g13, h⟩ := h
    replace h := ob h
    obtain ⟨cs_9, g14, h⟩ := h
    have s15 := hs_wA (by decide) H g14
    replace h := ob h
    obtain ⟨v_10, g18, h⟩ := h
    replace h := ob h
    obtain ⟨i_11, g19, h⟩ := h
    replace h := ob h
    obtain ⟨v_12, g20, h⟩ := h
    replace h := ob h
    obtain ⟨v_13, g21, h⟩ := h
    replace h := ob h
    obtain ⟨v_14, g22, h⟩ := h
    replace h := ob h
    obtain ⟨cs_15, g23, h⟩ := h
    have s24 := hs_wA (by decide) s15.1 g23
    replace h := ob h
    obtain ⟨v_16, g27, h⟩ := h
    replace h := ob h
    obtain ⟨i_17, g28, h⟩ := h
    replace h := ob h
    obtain ⟨v_18, g29, h⟩ := h
    replace h := ob h
    obtain ⟨v_19, g30, h⟩ := h
    replace h := ob h
    obtain ⟨w31, g32, h⟩ := h
    replace h := ob h
    obtain ⟨v_20, g33, h⟩ := h
    by_cases c34 : v_20 = (-1)
    · replace h := (if_pos c34).symm.trans h
      have s35 := hs_c_X0_findInNames_b101 s24.1 h
      refine ⟨s35.1, fun z => ?_⟩
      obtain ⟨z9, e9⟩ := s35.2 z
      obtain ⟨z26, e25⟩ := s24.2 z9
      obtain ⟨z17, e16⟩ := s15.2 z26
      refine ⟨z17, ?_⟩
      unfold c_X0_findInNames_b34
      refine (bd_s (sgck g2)).trans ?_
      refine (bd_s (sv_c_X2_has g3)).trans ?_
      refine (if_neg c4).trans ?_
      refine (bd_s (sgR g11)).trans ?_
      refine (bd_s (g12)).trans ?_
      refine (bd_s (sgA g13)).trans ?_
      refine (bd_s (e16)).trans ?_
      refine (bd_s (sgR g18)).trans ?_
      refine (bd_s (g19)).trans ?_
      refine (bd_s (sgA g20)).trans ?_
      refine (bd_s (sgA g21)).trans ?_
      refine (bd_s (sgrA (by decide) g22)).trans ?_
      refine (bd_s (e25)).trans ?_
      refine (bd_s (sgR g27)).trans ?_
      refine (bd_s (g28)).trans ?_
      refine (bd_s (sgA g29)).trans ?_
      refine (bd_s (sgrB g30)).trans ?_
      refine (bd_s (sgck g32)).trans ?_
      refine (bd_s (sv_c_X2_find g33)).trans ?_
      refine (if_pos c34).trans ?_
      exact e9
    · replace h := (if_neg c34).symm.trans h
      have s36 := hs_c_X0_findInNames_b101 s24.1 h
      refine ⟨s36.1, fun z => ?_⟩
      obtain ⟨z9, e9⟩ := s36.2 z
      obtain ⟨z26, e25⟩ := s24.2 z9
      obtain ⟨z17, e16⟩ := s15.2 z26
      refine ⟨z17, ?_⟩
      unfold c_X0_findInNames_b34
      refine (bd_s (sgck g2)).trans ?_
      refine (bd_s (sv_c_X2_has g3)).trans ?_
      refine (if_neg c4).trans ?_
      refine (bd_s (sgR g11)).trans ?_
      refine (bd_s (g12)).trans ?_
      refine (bd_s (sgA g13)).trans ?_
      refine (bd_s (e16)).trans ?_
      refine (bd_s (sgR g18)).trans ?_
      refine (bd_s (g19)).trans ?_
      refine (bd_s (sgA g20)).trans ?_
      refine (bd_s (sgA g21)).trans ?_
      refine (bd_s (sgrA (by decide) g22)).trans ?_
      refine (bd_s (e25)).trans ?_
      refine (bd_s (sgR g27)).trans ?_
      refine (bd_s (g28)).trans ?_
      refine (bd_s (sgA g29)).trans ?_
      refine (bd_s (sgrB g30)).trans ?_
      refine (bd_s (sgck g32)).trans ?_
      refine (bd_s (sv_c_X2_find g33)).trans ?_
      refine (if_neg c34).trans ?_
      exact e9
theorem hs_c_X0_findInNames {n9 : Int32} {a9 : Nat → Int32} {s9 k9 t9 : Nat} {F : Nat} {cs : CS} {x1 : Int32} {x2 : Nat} {cs9 : CS} (H : SGH n9 a9 s9 k9 t9 cs) (h : c_X0_findInNames F cs k9 x1 x2 = some cs9) : HSG n9 a9 s9 k9 t9 cs cs9 (c_X0_findInNames F (sgX n9 a9 cs) k9 x1 x2 = some (sgX n9 a9 cs9)) := by
  unfold c_X0_findInNames at h
  replace h := ob h
  obtain ⟨v_25, g1, h⟩ := h
  replace h := ob h
  obtain ⟨i_26, g2, h⟩ := h
  replace h := ob h
  obtain ⟨v_27, g3, h⟩ := h
  replace h := ob h
  obtain ⟨v_28, g4, h⟩ := h
  by_cases c5 : v_28 = (-1)
  · replace h := (if_pos c5).symm.trans h
    replace h := ob h
    obtain ⟨v_30, g6, h⟩ := h
    replace h := ob h
    obtain ⟨i_31, g7, h⟩ := h
    replace h := ob h
    obtain ⟨v_32, g8, h⟩ := h
    replace h := ob h
    obtain ⟨v_33, g9, h⟩ := h
    replace h := ob h
    obtain ⟨w10, g11, h⟩ := h
    replace h := ob h
    obtain ⟨v_34, g12, h⟩ := h
    have s13 := hs_c_X0_findInNames_b34 H h
    refine ⟨s13.1, fun z => ?_⟩
    obtain ⟨z9, e9⟩ := s13.2 z
    refine ⟨z9, ?_⟩
    unfold c_X0_findInNames
    refine (bd_s (sgR g1)).trans ?_
    refine (bd_s (g2)).trans ?_
    refine (bd_s (sgA g3)).trans ?_
    refine (bd_s (sgrB g4)).trans ?_
    refine (if_pos c5).trans ?_
    refine (bd_s (sgR g6)).trans ?_
    refine (bd_s (g7)).trans ?_
    refine (bd_s (sgA g8)).trans ?_
    refine (bd_s (sgrB g9)).trans ?_
    refine (bd_s (sgck g11)).trans ?_
    refine (bd_s (sv_c_X2_find g12)).trans ?_
    exact e9
  · replace h := (if_neg c5).symm.trans h
    have s14 := hs_c_X0_findInNames_b34 H h
    refine ⟨s14.1, fun z => ?_⟩
    obtain ⟨z9, e9⟩ := s14.2 z
    refine ⟨z9, ?_⟩
    unfold c_X0_findInNames
    refine (bd_s (sgR g1)).trans ?_
    refine (bd_s (g2)).trans ?_
    refine (bd_s (sgA g3)).trans ?_
    refine (bd_s (sgrB g4)).trans ?_
    refine (if_neg c5).trans ?_
    exact e9
theorem hs_c_X0_checkExpr_b129 {n9 : Int32} {a9 : Nat → Int32} {s9 k9 t9 : Nat} {F : Nat} {cs1 : CS} {cs9 : CS} (H : SGH n9 a9 s9 k9 t9 cs1) (h : c_X0_checkExpr_b129 F cs1 = some cs9) : HSG n9 a9 s9 k9 t9 cs1 cs9 (c_X0_checkExpr_b129 F (sgX n9 a9 cs1) = some (sgX n9 a9 cs9)) := by
  unfold c_X0_checkExpr_b129 at h
  rw [← Option.some.inj h]
  refine ⟨H, fun z => ?_⟩
  refine ⟨z, ?_⟩
  unfold c_X0_checkExpr_b129
  rfl
theorem hs_c_X0_checkExpr_b123 {n9 : Int32} {a9 : Nat → Int32} {s9 k9 t9 : Nat} {F : Nat} {rc24 : CS → Nat → Int32 → Int32 → Int32 → Option CS} {cs1 : CS} {u1 : Int32} {u2 : Int32} {u3 : Int32} {cs9 : CS} (hrc24 : ∀ (cs1 : CS) (a2 : Int32) (a3 : Int32) (a4 : Int32) (cs9 : CS), SGH n9 a9 s9 k9 t9 cs1 → rc24 cs1 k9 a2 a3 a4 = some cs9 → HSG n9 a9 s9 k9 t9 cs1 cs9 (rc24 (sgX n9 a9 cs1) k9 a2 a3 a4 = some (sgX n9 a9 cs9))) (H : SGH n9 a9 s9 k9 t9 cs1) (h : c_X0_checkExpr_b123 F rc24 cs1 k9 u1 u2 u3 = some cs9) : HSG n9 a9 s9 k9 t9 cs1 cs9 (c_X0_checkExpr_b123 F rc24 (sgX n9 a9 cs1) k9 u1 u2 u3 = some (sgX n9 a9 cs9)) := by
  unfold c_X0_checkExpr_b123 at h
  have s1 := hrc24 _ _ _ _ _ H h
  refine ⟨s1.1, fun z => ?_⟩
  obtain ⟨z9, e9⟩ := s1.2 z
  refine ⟨z9, ?_⟩
  unfold c_X0_checkExpr_b123
  exact e9
theorem hs_c_X0_checkExpr_b106 {n9 : Int32} {a9 : Nat → Int32} {s9 k9 t9 : Nat} {F : Nat} {rc24 : CS → Nat → Int32 → Int32 → Int32 → Option CS} {cs1 : CS} {u1 : Int32} {u2 : Int32} {u3 : Int32} {cs9 : CS} (hrc24 : ∀ (cs1 : CS) (a2 : Int32) (a3 : Int32) (a4 : Int32) (cs9 : CS), SGH n9 a9 s9 k9 t9 cs1 → rc24 cs1 k9 a2 a3 a4 = some cs9 → HSG n9 a9 s9 k9 t9 cs1 cs9 (rc24 (sgX n9 a9 cs1) k9 a2 a3 a4 = some (sgX n9 a9 cs9))) (H : SGH n9 a9 s9 k9 t9 cs1) (h : c_X0_checkExpr_b106 F rc24 cs1 k9 u1 u2 u3 = some cs9) : HSG n9 a9 s9 k9 t9 cs1 cs9 (c_X0_checkExpr_b106 F rc24 (sgX n9 a9 cs1) k9 u1 u2 u3 = some (sgX n9 a9 cs9)) := by
  unfold c_X0_checkExpr_b106 at h
  replace h := ob h
  obtain ⟨w1, g2, h⟩ := h
  replace h := ob h
  obtain ⟨cs_1, g3, h⟩ := h
  have s4 := hs_c_X0_findInSources H g3
  have s7 := hs_c_X0_checkExpr_b123 hrc24 s4.1 h
  refine ⟨s7.1, fun z => ?_⟩
  obtain ⟨z9, e9⟩ := s7.2 z
  obtain ⟨z6, e5⟩ := s4.2 z9
  refine ⟨z6, ?_⟩
  unfold c_X0_checkExpr_b106
  refine (bd_s (sgck g2)).trans ?_
  refine (bd_s (e5)).trans ?_
  exact e9
theorem hs_c_X0_checkExpr_b72 {n9 : Int32} {a9 : Nat → Int32} {s9 k9 t9 : Nat} {F : Nat} {rc24 : CS → Nat → Int32 → Int32 → Int32 → Option CS} {cs1 : CS} {u1 : Int32} {u2 : Int32} {u3 : Int32} {cs9 : CS} (hrc24 : ∀ (cs1 : CS) (a2 : Int32) (a3 : Int32) (a4 : Int32) (cs9 : CS), SGH n9 a9 s9 k9 t9 cs1 → rc24 cs1 k9 a2 a3 a4 = some cs9 → HSG n9 a9 s9 k9 t9 cs1 cs9 (rc24 (sgX n9 a9 cs1) k9 a2 a3 a4 = some (sgX n9 a9 cs9))) (H : SGH n9 a9 s9 k9 t9 cs1) (h : c_X0_checkExpr_b72 F rc24 cs1 k9 u1 u2 u3 = some cs9) : HSG n9 a9 s9 k9 t9 cs1 cs9 (c_X0_checkExpr_b72 F rc24 (sgX n9 a9 cs1) k9 u1 u2 u3 = some (sgX n9 a9 cs9)) := by
  unfold c_X0_checkExpr_b72 at h
  replace h := ob h
  obtain ⟨v_3, g1, h⟩ := h
  replace h := ob h
  obtain ⟨i_4, g2, h⟩ := h
  replace h := ob h
  obtain ⟨v_5, g3, h⟩ := h
  replace h := ob h
  obtain ⟨v_6, g4, h⟩ := h
  by_cases c5 : v_6 = 39
  · replace h := (if_pos c5).symm.trans h
    replace h := ob h
    obtain ⟨v_8, g6, h⟩ := h
    cases v_8 with
    | none =>
      replace h := oc_n.symm.trans h
      have s7 := hs_c_X0_checkExpr_b106 hrc24 H h
      refine ⟨s7.1, fun z => ?_⟩
      obtain ⟨z9, e9⟩ := s7.2 z
      refine ⟨z9, ?_⟩
      unfold c_X0_checkExpr_b72
      refine (bd_s (sgR g1)).trans ?_
      refine (bd_s (g2)).trans ?_
      refine (bd_s (sgA g3)).trans ?_
      refine (bd_s (sgrA (by decide) g4)).trans ?_
      refine (if_pos c5).trans ?_
      refine (bd_s (sgR g6)).trans ?_
      refine (oc_n).trans ?_
      exact e9
    | some i_9 =>
      replace h := oc_s.symm.trans h
      by_cases c8 : u2 ≤ u3
      · replace h := (if_pos c8).symm.trans h
        replace h := ob h
        obtain ⟨v_11, g9, h⟩ := h
        replace h := ob h
        obtain ⟨i_12, g10, h⟩ := h
        replace h := ob h
        obtain ⟨w11, g12, h⟩ := h
        replace h := ob h
        obtain ⟨cs_13, g13, h⟩ := h
        have s14 := hs_c_X0_findInNames H g13
        have s17 := hs_c_X0_checkExpr_b123 hrc24 s14.1 h
        refine ⟨s17.1, fun z => ?_⟩
        obtain ⟨z9, e9⟩ := s17.2 z
        obtain ⟨z16, e15⟩ := s14.2 z9
        refine ⟨z16, ?_⟩
        unfold c_X0_checkExpr_b72
        refine (bd_s (sgR g1)).trans ?_
        refine (bd_s (g2)).trans ?_
        refine (bd_s (sgA g3)).trans ?_
        refine (bd_s (sgrA (by decide) g4)).trans ?_
        refine (if_pos c5).trans ?_
        refine (bd_s (sgR g6)).trans ?_
        refine (oc_s).trans ?_
        refine (if_pos c8).trans ?_
        refine (bd_s (sgR g9)).trans ?_
        refine (bd_s (g10)).trans ?_
        refine (bd_s (sgck g12)).trans ?_
        refine (bd_s (e15)).trans ?_
        exact e9
      · replace h := (if_neg c8).symm.trans h
        have s18 := hs_c_X0_checkExpr_b106 hrc24 H h
        refine ⟨s18.1, fun z => ?_⟩
        obtain ⟨z9, e9⟩ := s18.2 z
        refine ⟨z9, ?_⟩
        unfold c_X0_checkExpr_b72
        refine (bd_s (sgR g1)).trans ?_
        refine (bd_s (g2)).trans ?_
        refine (bd_s (sgA g3)).trans ?_
        refine (bd_s (sgrA (by decide) g4)).trans ?_
        refine (if_pos c5).trans ?_
        refine (bd_s (sgR g6)).trans ?_
        refine (oc_s).trans ?_
        refine (if_neg c8).trans ?_
        exact e9
  · replace h := (if_neg c5).symm.trans h
    replace h := ob h
    obtain ⟨w19, g20, h⟩ := h
    replace h := ob h
    obtain ⟨cs_15, g21, h⟩ := h
    have s22 := hs_c_X0_checkAct H g21
    have s25 := hs_c_X0_checkExpr_b123 hrc24 s22.1 h
    refine ⟨s25.1, fun z => ?_⟩
    obtain ⟨z9, e9⟩ := s25.2 z
    obtain ⟨z24, e23⟩ := s22.2 z9
    refine ⟨z24, ?_⟩
    unfold c_X0_checkExpr_b72
    refine (bd_s (sgR g1)).trans ?_
    refine (bd_s (g2)).trans ?_
    refine (bd_s (sgA g3)).trans ?_
    refine (bd_s (sgrA (by decide) g4)).trans ?_
    refine (if_neg c5).trans ?_
    refine (bd_s (sgck g20)).trans ?_
    refine (bd_s (e23)).trans ?_
    exact e9
theorem hs_c_X0_checkExpr_L24 {n9 : Int32} {a9 : Nat → Int32} {s9 k9 t9 : Nat} {F : Nat} : ∀ (lf : Nat) (cs1 : CS) (u1 : Int32) (u2 : Int32) (u3 : Int32) (cs9 : CS), SGH n9 a9 s9 k9 t9 cs1 → c_X0_checkExpr_L24 F lf cs1 k9 u1 u2 u3 = some cs9 → HSG n9 a9 s9 k9 t9 cs1 cs9 (c_X0_checkExpr_L24 F lf (sgX n9 a9 cs1) k9 u1 u2 u3 = some (sgX n9 a9 cs9)) := by
  intro lf
  induction lf with
  | zero => intro cs1 u1 u2 u3 cs9 H h; cases (show (none : Option CS) = _ from h)
  | succ lf ih =>
    intro cs1 u1 u2 u3 cs9 H h
    rw [c_X0_checkExpr_L24] at h
    by_cases c1 : u1 < u3
    · replace h := (if_pos c1).symm.trans h
      have s2 := hs_c_X0_checkExpr_b129 H h
      refine ⟨s2.1, fun z => ?_⟩
      obtain ⟨z9, e9⟩ := s2.2 z
      refine ⟨z9, ?_⟩
      rw [c_X0_checkExpr_L24]
      refine (if_pos c1).trans ?_
      exact e9
    · replace h := (if_neg c1).symm.trans h
      replace h := ob h
      obtain ⟨w3, g4, h⟩ := h
      replace h := ob h
      obtain ⟨v_18, g5, h⟩ := h
      by_cases c6 : v_18 = 0
      · replace h := (if_pos c6).symm.trans h
        replace h := ob h
        obtain ⟨v_21, g7, h⟩ := h
        replace h := ob h
        obtain ⟨i_22, g8, h⟩ := h
        replace h := ob h
        obtain ⟨v_23, g9, h⟩ := h
        replace h := ob h
        obtain ⟨v_24, g10, h⟩ := h
        by_cases c11 : v_24 ≤ u3
        · replace h := (if_pos c11).symm.trans h
          have s12 := hs_c_X0_checkExpr_b72 ih H h
          refine ⟨s12.1, fun z => ?_⟩
          obtain ⟨z9, e9⟩ := s12.2 z
          refine ⟨z9, ?_⟩
          rw [c_X0_checkExpr_L24]
          refine (if_neg c1).trans ?_
          refine (bd_s (sgck g4)).trans ?_
          refine (bd_s (sv_c_X0_isFaulty g5)).trans ?_
          refine (if_pos c6).trans ?_
          refine (bd_s (sgR g7)).trans ?_
          refine (bd_s (g8)).trans ?_
          refine (bd_s (sgA g9)).trans ?_
          refine (bd_s (sgrA (by decide) g10)).trans ?_
          refine (if_pos c11).trans ?_
          exact e9
        · replace h := (if_neg c11).symm.trans h
          replace h := ob h
          obtain ⟨v_26, g13, h⟩ := h
          replace h := ob h
          obtain ⟨i_27, g14, h⟩ := h
          replace h := ob h
          obtain ⟨v_28, g15, h⟩ := h
          replace h := ob h
          obtain ⟨v_29, g16, h⟩ := h
          by_cases c17 : u1 < v_29
          · replace h := (if_pos c17).symm.trans h
            have s18 := hs_c_X0_checkExpr_b72 ih H h
            refine ⟨s18.1, fun z => ?_⟩
            obtain ⟨z9, e9⟩ := s18.2 z
            refine ⟨z9, ?_⟩
            rw [c_X0_checkExpr_L24]
            refine (if_neg c1).trans ?_
            refine (bd_s (sgck g4)).trans ?_
            refine (bd_s (sv_c_X0_isFaulty g5)).trans ?_
            refine (if_pos c6).trans ?_
            refine (bd_s (sgR g7)).trans ?_
            refine (bd_s (g8)).trans ?_
            refine (bd_s (sgA g9)).trans ?_
            refine (bd_s (sgrA (by decide) g10)).trans ?_
            refine (if_neg c11).trans ?_
            refine (bd_s (sgR g13)).trans ?_
            refine (bd_s (g14)).trans ?_
            refine (bd_s (sgA g15)).trans ?_
            refine (bd_s (sgrA (by decide) g16)).trans ?_
            refine (if_pos c17).trans ?_
            exact e9
          · replace h := (if_neg c17).symm.trans h
            replace h := ob h
            obtain ⟨v_31, g19, h⟩ := h
            replace h := ob h
            obtain ⟨i_32, g20, h⟩ := h
            replace h := ob h
            obtain ⟨v_33, g21, h⟩ := h
            replace h := ob h
            obtain ⟨v_34, g22, h⟩ := h
            have s23 := hs_c_X0_checkExpr_b72 ih H h
            refine ⟨s23.1, fun z => ?_⟩
            obtain ⟨z9, e9⟩ := s23.2 z
            refine ⟨z9, ?_⟩
            rw [c_X0_checkExpr_L24]
            refine (if_neg c1).trans ?_
            refine (bd_s (sgck g4)).trans ?_
            refine (bd_s (sv_c_X0_isFaulty g5)).trans ?_
            refine (if_pos c6).trans ?_
            refine (bd_s (sgR g7)).trans ?_
            refine (bd_s (g8)).trans ?_
            refine (bd_s (sgA g9)).trans ?_
            refine (bd_s (sgrA (by decide) g10)).trans ?_
            refine (if_neg c11).trans ?_
            refine (bd_s (sgR g13)).trans ?_
            refine (bd_s (g14)).trans ?_
            refine (bd_s (sgA g15)).trans ?_
            refine (bd_s (sgrA (by decide) g16)).trans ?_
            refine (if_neg c17).trans ?_
            refine (bd_s (sgR g19)).trans ?_
            refine (bd_s (g20)).trans ?_
            refine (bd_s (sgA g21)).trans ?_
            refine (bd_s (sgrA (by decide) g22)).trans ?_
            exact e9
      · replace h := (if_neg c6).symm.trans h
        have s24 := hs_c_X0_checkExpr_b129 H h
        refine ⟨s24.1, fun z => ?_⟩
        obtain ⟨z9, e9⟩ := s24.2 z
        refine ⟨z9, ?_⟩
        rw [c_X0_checkExpr_L24]
        refine (if_neg c1).trans ?_
        refine (bd_s (sgck g4)).trans ?_
        refine (bd_s (sv_c_X0_isFaulty g5)).trans ?_
        refine (if_neg c6).trans ?_
        exact e9
theorem hs_c_X0_checkExpr {n9 : Int32} {a9 : Nat → Int32} {s9 k9 t9 : Nat} {F : Nat} {cs : CS} {x1 : Int32} {cs9 : CS} (H : SGH n9 a9 s9 k9 t9 cs) (h : c_X0_checkExpr F cs k9 x1 = some cs9) : HSG n9 a9 s9 k9 t9 cs cs9 (c_X0_checkExpr F (sgX n9 a9 cs) k9 x1 = some (sgX n9 a9 cs9)) := by
  unfold c_X0_checkExpr at h
  replace h := ob h
  obtain ⟨v_35, g1, h⟩ := h
  replace h := ob h
  obtain ⟨i_37, g2, h⟩ := h
  replace h := ob h
  obtain ⟨w3, g4, h⟩ := h
  replace h := ob h
  obtain ⟨v_36, g5, h⟩ := h
  by_cases c6 : v_36 = 0
  · replace h := (if_pos c6).symm.trans h
    rw [← Option.some.inj h]
    refine ⟨H, fun z => ?_⟩
    refine ⟨z, ?_⟩
    unfold c_X0_checkExpr
    refine (bd_s (sgR g1)).trans ?_
    refine (bd_s (g2)).trans ?_
    refine (bd_s (sgck g4)).trans ?_
    refine (bd_s (sv_c_X1_has g5)).trans ?_
    refine (if_pos c6).trans ?_
    rfl
  · replace h := (if_neg c6).symm.trans h
    replace h := ob h
    obtain ⟨v_40, g7, h⟩ := h
    replace h := ob h
    obtain ⟨i_41, g8, h⟩ := h
    replace h := ob h
    obtain ⟨v_42, g9, h⟩ := h
    replace h := ob h
    obtain ⟨v_43, g10, h⟩ := h
    have s11 := hs_c_X0_checkExpr_L24 _ _ _ _ _ _ H h
    refine ⟨s11.1, fun z => ?_⟩
    obtain ⟨z9, e9⟩ := s11.2 z
    refine ⟨z9, ?_⟩
    unfold c_X0_checkExpr
    refine (bd_s (sgR g1)).trans ?_
    refine (bd_s (g2)).trans ?_
    refine (bd_s (sgck g4)).trans ?_
    refine (bd_s (sv_c_X1_has g5)).trans ?_
    refine (if_neg c6).trans ?_
    refine (bd_s (sgR g7)).trans ?_
    refine (bd_s (g8)).trans ?_
    refine (bd_s (sgA g9)).trans ?_
    refine (bd_s (sgrA (by decide) g10)).trans ?_
    exact e9
theorem sv_c_X0_typeOf_b24 {n9 : Int32} {a9 : Nat → Int32} {F : Nat} {cs : CS} {y0 : Int32} {r9 : Int32} (h : c_X0_typeOf_b24 F cs y0 = some r9) : c_X0_typeOf_b24 F (sgX n9 a9 cs) y0 = some r9 := by
  unfold c_X0_typeOf_b24 at h
  unfold c_X0_typeOf_b24
  exact h
theorem sv_c_X0_typeOf {n9 : Int32} {a9 : Nat → Int32} {F : Nat} {cs : CS} {k9 : Nat} {x1 : Int32} {r9 : Int32} (h : c_X0_typeOf F cs k9 x1 = some r9) : c_X0_typeOf F (sgX n9 a9 cs) k9 x1 = some r9 := by
  unfold c_X0_typeOf at h
  replace h := ob h
  obtain ⟨v_1, g1, h⟩ := h
  replace h := ob h
  obtain ⟨i_3, g2, h⟩ := h
  replace h := ob h
  obtain ⟨w3, g4, h⟩ := h
  replace h := ob h
  obtain ⟨v_2, g5, h⟩ := h
  by_cases c6 : v_2 = 0
  · replace h := (if_pos c6).symm.trans h
    unfold c_X0_typeOf
    refine (bd_s (sgR g1)).trans ?_
    refine (bd_s (g2)).trans ?_
    refine (bd_s (sgck g4)).trans ?_
    refine (bd_s (sv_c_X1_has g5)).trans ?_
    refine (if_pos c6).trans ?_
    exact sv_c_X0_typeOf_b24 h
  · replace h := (if_neg c6).symm.trans h
    replace h := ob h
    obtain ⟨v_6, g7, h⟩ := h
    replace h := ob h
    obtain ⟨i_7, g8, h⟩ := h
    replace h := ob h
    obtain ⟨v_8, g9, h⟩ := h
    replace h := ob h
    obtain ⟨v_9, g10, h⟩ := h
    unfold c_X0_typeOf
    refine (bd_s (sgR g1)).trans ?_
    refine (bd_s (g2)).trans ?_
    refine (bd_s (sgck g4)).trans ?_
    refine (bd_s (sv_c_X1_has g5)).trans ?_
    refine (if_neg c6).trans ?_
    refine (bd_s (sgR g7)).trans ?_
    refine (bd_s (g8)).trans ?_
    refine (bd_s (sgA g9)).trans ?_
    refine (bd_s (sgrA (by decide) g10)).trans ?_
    exact sv_c_X0_typeOf_b24 h
theorem hs_c_X0_checkTruth_b43 {n9 : Int32} {a9 : Nat → Int32} {s9 k9 t9 : Nat} {F : Nat} {cs1 : CS} {cs9 : CS} (H : SGH n9 a9 s9 k9 t9 cs1) (h : c_X0_checkTruth_b43 F cs1 = some cs9) : HSG n9 a9 s9 k9 t9 cs1 cs9 (c_X0_checkTruth_b43 F (sgX n9 a9 cs1) = some (sgX n9 a9 cs9)) := by
  unfold c_X0_checkTruth_b43 at h
  rw [← Option.some.inj h]
  refine ⟨H, fun z => ?_⟩
  refine ⟨z, ?_⟩
  unfold c_X0_checkTruth_b43
  rfl
theorem hs_c_X0_checkTruth {n9 : Int32} {a9 : Nat → Int32} {s9 k9 t9 : Nat} {F : Nat} {cs : CS} {x1 : Int32} {cs9 : CS} (H : SGH n9 a9 s9 k9 t9 cs) (h : c_X0_checkTruth F cs k9 x1 = some cs9) : HSG n9 a9 s9 k9 t9 cs cs9 (c_X0_checkTruth F (sgX n9 a9 cs) k9 x1 = some (sgX n9 a9 cs9)) := by
  unfold c_X0_checkTruth at h
  replace h := ob h
  obtain ⟨w1, g2, h⟩ := h
  replace h := ob h
  obtain ⟨cs_1, g3, h⟩ := h
  have s4 := hs_c_X0_checkExpr H g3
  replace h := ob h
  obtain ⟨v_3, g7, h⟩ := h
  replace h := ob h
  obtain ⟨i_5, g8, h⟩ := h
  replace h := ob h
  obtain ⟨w9, g10, h⟩ := h
  replace h := ob h
  obtain ⟨v_4, g11, h⟩ := h
  by_cases c12 : v_4 = 0
  · replace h := (if_pos c12).symm.trans h
    have s13 := hs_c_X0_checkTruth_b43 s4.1 h
    refine ⟨s13.1, fun z => ?_⟩
    obtain ⟨z9, e9⟩ := s13.2 z
    obtain ⟨z6, e5⟩ := s4.2 z9
    refine ⟨z6, ?_⟩
    unfold c_X0_checkTruth
    refine (bd_s (sgck g2)).trans ?_
    refine (bd_s (e5)).trans ?_
    refine (bd_s (sgR g7)).trans ?_
    refine (bd_s (g8)).trans ?_
    refine (bd_s (sgck g10)).trans ?_
    refine (bd_s (sv_c_X1_has g11)).trans ?_
    refine (if_pos c12).trans ?_
    exact e9
  · replace h := (if_neg c12).symm.trans h
    replace h := ob h
    obtain ⟨w14, g15, h⟩ := h
    replace h := ob h
    obtain ⟨v_8, g16, h⟩ := h
    by_cases c17 : (v_8 &&& 2) = 0
    · replace h := (if_pos c17).symm.trans h
      replace h := ob h
      obtain ⟨v_11, g18, h⟩ := h
      replace h := ob h
      obtain ⟨v_12, g19, h⟩ := h
      replace h := ob h
      obtain ⟨i_13, g20, h⟩ := h
      replace h := ob h
      obtain ⟨v_14, g21, h⟩ := h
      replace h := ob h
      obtain ⟨v_15, g22, h⟩ := h
      replace h := ob h
      obtain ⟨i_17, g23, h⟩ := h
      replace h := ob h
      obtain ⟨w24, g25, h⟩ := h
      replace h := ob h
      obtain ⟨cs_16, g26, h⟩ := h
      have s27 := hs_c_X9_refuse s4.1 g26
      have s30 := hs_c_X0_checkTruth_b43 s27.1 h
      refine ⟨s30.1, fun z => ?_⟩
      obtain ⟨z9, e9⟩ := s30.2 z
      obtain ⟨z29, e28⟩ := s27.2 z9
      obtain ⟨z6, e5⟩ := s4.2 z29
      refine ⟨z6, ?_⟩
      unfold c_X0_checkTruth
      refine (bd_s (sgck g2)).trans ?_
      refine (bd_s (e5)).trans ?_
      refine (bd_s (sgR g7)).trans ?_
      refine (bd_s (g8)).trans ?_
      refine (bd_s (sgck g10)).trans ?_
      refine (bd_s (sv_c_X1_has g11)).trans ?_
      refine (if_neg c12).trans ?_
      refine (bd_s (sgck g15)).trans ?_
      refine (bd_s (sv_c_X0_typeOf g16)).trans ?_
      refine (if_pos c17).trans ?_
      refine (bd_s (sgR g18)).trans ?_
      refine (bd_s (sgR g19)).trans ?_
      refine (bd_s (g20)).trans ?_
      refine (bd_s (sgA g21)).trans ?_
      refine (bd_s (sgrA (by decide) g22)).trans ?_
      refine (bd_s (g23)).trans ?_
      refine (bd_s (sgck g25)).trans ?_
      refine (bd_s (e28)).trans ?_
      exact e9
    · replace h := (if_neg c17).symm.trans h
      have s31 := hs_c_X0_checkTruth_b43 s4.1 h
      refine ⟨s31.1, fun z => ?_⟩
      obtain ⟨z9, e9⟩ := s31.2 z
      obtain ⟨z6, e5⟩ := s4.2 z9
      refine ⟨z6, ?_⟩
      unfold c_X0_checkTruth
      refine (bd_s (sgck g2)).trans ?_
      refine (bd_s (e5)).trans ?_
      refine (bd_s (sgR g7)).trans ?_
      refine (bd_s (g8)).trans ?_
      refine (bd_s (sgck g10)).trans ?_
      refine (bd_s (sv_c_X1_has g11)).trans ?_
      refine (if_neg c12).trans ?_
      refine (bd_s (sgck g15)).trans ?_
      refine (bd_s (sv_c_X0_typeOf g16)).trans ?_
      refine (if_neg c17).trans ?_
      exact e9
theorem hs_c_X0_checkGroups_b211 {n9 : Int32} {a9 : Nat → Int32} {s9 k9 t9 : Nat} {F : Nat} {cs1 : CS} {cs9 : CS} (H : SGH n9 a9 s9 k9 t9 cs1) (h : c_X0_checkGroups_b211 F cs1 = some cs9) : HSG n9 a9 s9 k9 t9 cs1 cs9 (c_X0_checkGroups_b211 F (sgX n9 a9 cs1) = some (sgX n9 a9 cs9)) := by
  unfold c_X0_checkGroups_b211 at h
  rw [← Option.some.inj h]
  refine ⟨H, fun z => ?_⟩
  refine ⟨z, ?_⟩
  unfold c_X0_checkGroups_b211
  rfl
theorem hs_c_X0_checkGroups_b205 {n9 : Int32} {a9 : Nat → Int32} {s9 k9 t9 : Nat} {F : Nat} {rc152 : CS → Nat → Nat → Nat → Int32 → Option CS} {cs1 : CS} {u1 : Nat} {u2 : Nat} {u3 : Int32} {cs9 : CS} (hrc152 : ∀ (cs1 : CS) (a2 : Nat) (a3 : Nat) (a4 : Int32) (cs9 : CS), SGH n9 a9 s9 k9 t9 cs1 → rc152 cs1 k9 a2 a3 a4 = some cs9 → HSG n9 a9 s9 k9 t9 cs1 cs9 (rc152 (sgX n9 a9 cs1) k9 a2 a3 a4 = some (sgX n9 a9 cs9))) (H : SGH n9 a9 s9 k9 t9 cs1) (h : c_X0_checkGroups_b205 F rc152 cs1 k9 u1 u2 u3 = some cs9) : HSG n9 a9 s9 k9 t9 cs1 cs9 (c_X0_checkGroups_b205 F rc152 (sgX n9 a9 cs1) k9 u1 u2 u3 = some (sgX n9 a9 cs9)) := by
  unfold c_X0_checkGroups_b205 at h
  have s1 := hrc152 _ _ _ _ _ H h
  refine ⟨s1.1, fun z => ?_⟩
  obtain ⟨z9, e9⟩ := s1.2 z
  refine ⟨z9, ?_⟩
  unfold c_X0_checkGroups_b205
  exact e9
theorem hs_c_X0_checkGroups_L152 {n9 : Int32} {a9 : Nat → Int32} {s9 k9 t9 : Nat} {F : Nat} : ∀ (lf : Nat) (cs1 : CS) (u1 : Nat) (u2 : Nat) (u3 : Int32) (cs9 : CS), SGH n9 a9 s9 k9 t9 cs1 → c_X0_checkGroups_L152 F lf cs1 k9 u1 u2 u3 = some cs9 → HSG n9 a9 s9 k9 t9 cs1 cs9 (c_X0_checkGroups_L152 F lf (sgX n9 a9 cs1) k9 u1 u2 u3 = some (sgX n9 a9 cs9)) := by
  intro lf
  induction lf with
  | zero => intro cs1 u1 u2 u3 cs9 H h; cases (show (none : Option CS) = _ from h)
  | succ lf ih =>
    intro cs1 u1 u2 u3 cs9 H h
    rw [c_X0_checkGroups_L152] at h
    replace h := ob h
    obtain ⟨v_1, g1, h⟩ := h
    by_cases c2 : v_1 ≤ u3
    · replace h := (if_pos c2).symm.trans h
      have s3 := hs_c_X0_checkGroups_b211 H h
      refine ⟨s3.1, fun z => ?_⟩
      obtain ⟨z9, e9⟩ := s3.2 z
      refine ⟨z9, ?_⟩
      rw [c_X0_checkGroups_L152]
      refine (bd_s (sgI (by decide) g1)).trans ?_
      refine (if_pos c2).trans ?_
      exact e9
    · replace h := (if_neg c2).symm.trans h
      replace h := ob h
      obtain ⟨v_3, g4, h⟩ := h
      replace h := ob h
      obtain ⟨v_4, g5, h⟩ := h
      by_cases c6 : v_4 ≤ u3
      · replace h := (if_pos c6).symm.trans h
        have s7 := hs_c_X0_checkGroups_b211 H h
        refine ⟨s7.1, fun z => ?_⟩
        obtain ⟨z9, e9⟩ := s7.2 z
        refine ⟨z9, ?_⟩
        rw [c_X0_checkGroups_L152]
        refine (bd_s (sgI (by decide) g1)).trans ?_
        refine (if_neg c2).trans ?_
        refine (bd_s (sgA g4)).trans ?_
        refine (bd_s (sgLn g5)).trans ?_
        refine (if_pos c6).trans ?_
        exact e9
      · replace h := (if_neg c6).symm.trans h
        replace h := ob h
        obtain ⟨v_6, g8, h⟩ := h
        replace h := ob h
        obtain ⟨v_7, g9, h⟩ := h
        replace h := ob h
        obtain ⟨v_8, g10, h⟩ := h
        replace h := ob h
        obtain ⟨i_10, g11, h⟩ := h
        replace h := ob h
        obtain ⟨w12, g13, h⟩ := h
        replace h := ob h
        obtain ⟨v_9, g14, h⟩ := h
        by_cases c15 : v_9 = 0
        · replace h := (if_pos c15).symm.trans h
          have s16 := hs_c_X0_checkGroups_b205 ih H h
          refine ⟨s16.1, fun z => ?_⟩
          obtain ⟨z9, e9⟩ := s16.2 z
          refine ⟨z9, ?_⟩
          rw [c_X0_checkGroups_L152]
          refine (bd_s (sgI (by decide) g1)).trans ?_
          refine (if_neg c2).trans ?_
          refine (bd_s (sgA g4)).trans ?_
          refine (bd_s (sgLn g5)).trans ?_
          refine (if_neg c6).trans ?_
          refine (bd_s (sgR g8)).trans ?_
          refine (bd_s (sgA g9)).trans ?_
          refine (bd_s (sgrA (by decide) g10)).trans ?_
          refine (bd_s (g11)).trans ?_
          refine (bd_s (sgck g13)).trans ?_
          refine (bd_s (sv_c_X1_has g14)).trans ?_
          refine (if_pos c15).trans ?_
          exact e9
        · replace h := (if_neg c15).symm.trans h
          replace h := ob h
          obtain ⟨v_13, g17, h⟩ := h
          replace h := ob h
          obtain ⟨i_14, g18, h⟩ := h
          replace h := ob h
          obtain ⟨v_15, g19, h⟩ := h
          replace h := ob h
          obtain ⟨v_16, g20, h⟩ := h
          replace h := ob h
          obtain ⟨v_17, g21, h⟩ := h
          replace h := ob h
          obtain ⟨v_18, g22, h⟩ := h
          replace h := ob h
          obtain ⟨cs_19, g23, h⟩ := h
          have s24 := hs_wA (by decide) H g23
          have s27 := hs_c_X0_checkGroups_b205 ih s24.1 h
          refine ⟨s27.1, fun z => ?_⟩
          obtain ⟨z9, e9⟩ := s27.2 z
          obtain ⟨z26, e25⟩ := s24.2 z9
          refine ⟨z26, ?_⟩
          rw [c_X0_checkGroups_L152]
          refine (bd_s (sgI (by decide) g1)).trans ?_
          refine (if_neg c2).trans ?_
          refine (bd_s (sgA g4)).trans ?_
          refine (bd_s (sgLn g5)).trans ?_
          refine (if_neg c6).trans ?_
          refine (bd_s (sgR g8)).trans ?_
          refine (bd_s (sgA g9)).trans ?_
          refine (bd_s (sgrA (by decide) g10)).trans ?_
          refine (bd_s (g11)).trans ?_
          refine (bd_s (sgck g13)).trans ?_
          refine (bd_s (sv_c_X1_has g14)).trans ?_
          refine (if_neg c15).trans ?_
          refine (bd_s (sgR g17)).trans ?_
          refine (bd_s (g18)).trans ?_
          refine (bd_s (sgA g19)).trans ?_
          refine (bd_s (sgA g20)).trans ?_
          refine (bd_s (sgrA (by decide) g21)).trans ?_
          refine (bd_s (sgI (by decide) g22)).trans ?_
          refine (bd_s (e25)).trans ?_
          exact e9
theorem hs_c_X0_checkGroups_b150 {n9 : Int32} {a9 : Nat → Int32} {s9 k9 t9 : Nat} {F : Nat} {cs1 : CS} {u1 : Nat} {u2 : Nat} {cs9 : CS} (H : SGH n9 a9 s9 k9 t9 cs1) (h : c_X0_checkGroups_b150 F cs1 k9 u1 u2 = some cs9) : HSG n9 a9 s9 k9 t9 cs1 cs9 (c_X0_checkGroups_b150 F (sgX n9 a9 cs1) k9 u1 u2 = some (sgX n9 a9 cs9)) := by
  unfold c_X0_checkGroups_b150 at h
  have s1 := hs_c_X0_checkGroups_L152 _ _ _ _ _ _ H h
  refine ⟨s1.1, fun z => ?_⟩
  obtain ⟨z9, e9⟩ := s1.2 z
  refine ⟨z9, ?_⟩
  unfold c_X0_checkGroups_b150
  exact e9
theorem hs_c_X0_checkGroups_b144 {n9 : Int32} {a9 : Nat → Int32} {s9 k9 t9 : Nat} {F : Nat} {rc74 : CS → Nat → Nat → Option Nat → Int32 → Option CS} {cs1 : CS} {u1 : Nat} {u2 : Nat} {u3 : Int32} {cs9 : CS} (hrc74 : ∀ (cs1 : CS) (a2 : Nat) (a3 : Option Nat) (a4 : Int32) (cs9 : CS), SGH n9 a9 s9 k9 t9 cs1 → rc74 cs1 k9 a2 a3 a4 = some cs9 → HSG n9 a9 s9 k9 t9 cs1 cs9 (rc74 (sgX n9 a9 cs1) k9 a2 a3 a4 = some (sgX n9 a9 cs9))) (H : SGH n9 a9 s9 k9 t9 cs1) (h : c_X0_checkGroups_b144 F rc74 cs1 k9 u1 u2 u3 = some cs9) : HSG n9 a9 s9 k9 t9 cs1 cs9 (c_X0_checkGroups_b144 F rc74 (sgX n9 a9 cs1) k9 u1 u2 u3 = some (sgX n9 a9 cs9)) := by
  unfold c_X0_checkGroups_b144 at h
  have s1 := hrc74 _ _ _ _ _ H h
  refine ⟨s1.1, fun z => ?_⟩
  obtain ⟨z9, e9⟩ := s1.2 z
  refine ⟨z9, ?_⟩
  unfold c_X0_checkGroups_b144
  exact e9
theorem hs_c_X0_checkGroups_L74 {n9 : Int32} {a9 : Nat → Int32} {s9 k9 t9 : Nat} {F : Nat} : ∀ (lf : Nat) (cs1 : CS) (u1 : Nat) (u2 : Option Nat) (u3 : Int32) (cs9 : CS), SGH n9 a9 s9 k9 t9 cs1 → c_X0_checkGroups_L74 F lf cs1 k9 u1 u2 u3 = some cs9 → HSG n9 a9 s9 k9 t9 cs1 cs9 (c_X0_checkGroups_L74 F lf (sgX n9 a9 cs1) k9 u1 u2 u3 = some (sgX n9 a9 cs9)) := by
  intro lf
  induction lf with
  | zero => intro cs1 u1 u2 u3 cs9 H h; cases (show (none : Option CS) = _ from h)
  | succ lf ih =>
    intro cs1 u1 u2 u3 cs9 H h
    rw [c_X0_checkGroups_L74] at h
    replace h := ob h
    obtain ⟨i_20, g1, h⟩ := h
    replace h := ob h
    obtain ⟨v_21, g2, h⟩ := h
    by_cases c3 : v_21 ≤ u3
    · replace h := (if_pos c3).symm.trans h
      have s4 := hs_c_X0_checkGroups_b150 H h
      refine ⟨s4.1, fun z => ?_⟩
      obtain ⟨z9, e9⟩ := s4.2 z
      refine ⟨z9, ?_⟩
      rw [c_X0_checkGroups_L74]
      refine (bd_s (g1)).trans ?_
      refine (bd_s (sgI (by decide) g2)).trans ?_
      refine (if_pos c3).trans ?_
      exact e9
    · replace h := (if_neg c3).symm.trans h
      replace h := ob h
      obtain ⟨w5, g6, h⟩ := h
      replace h := ob h
      obtain ⟨v_23, g7, h⟩ := h
      by_cases c8 : v_23 = 0
      · replace h := (if_pos c8).symm.trans h
        have s9 := hs_c_X0_checkGroups_b150 H h
        refine ⟨s9.1, fun z => ?_⟩
        obtain ⟨z9, e9⟩ := s9.2 z
        refine ⟨z9, ?_⟩
        rw [c_X0_checkGroups_L74]
        refine (bd_s (g1)).trans ?_
        refine (bd_s (sgI (by decide) g2)).trans ?_
        refine (if_neg c3).trans ?_
        refine (bd_s (sgck g6)).trans ?_
        refine (bd_s (sv_c_X2_has g7)).trans ?_
        refine (if_pos c8).trans ?_
        exact e9
      · replace h := (if_neg c8).symm.trans h
        replace h := ob h
        obtain ⟨v_26, g10, h⟩ := h
        replace h := ob h
        obtain ⟨v_27, g11, h⟩ := h
        replace h := ob h
        obtain ⟨w12, g13, h⟩ := h
        replace h := ob h
        obtain ⟨cs_28, g14, h⟩ := h
        have s15 := hs_c_X0_checkExpr H g14
        replace h := ob h
        obtain ⟨v_30, g18, h⟩ := h
        replace h := ob h
        obtain ⟨v_31, g19, h⟩ := h
        replace h := ob h
        obtain ⟨w20, g21, h⟩ := h
        replace h := ob h
        obtain ⟨v_32, g22, h⟩ := h
        replace h := ob h
        obtain ⟨w23, g24, h⟩ := h
        replace h := ob h
        obtain ⟨cs_34, g25, h⟩ := h
        have s26 := hs_c_X2_settleType s15.1 g25
        replace h := ob h
        obtain ⟨v_36, g29, h⟩ := h
        replace h := ob h
        obtain ⟨v_37, g30, h⟩ := h
        replace h := ob h
        obtain ⟨w31, g32, h⟩ := h
        replace h := ob h
        obtain ⟨v_38, g33, h⟩ := h
        by_cases c34 : u3 ≤ v_38
        · replace h := (if_pos c34).symm.trans h
          have s35 := hs_c_X0_checkGroups_b144 ih s26.1 h
          refine ⟨s35.1, fun z => ?_⟩
          obtain ⟨z9, e9⟩ := s35.2 z
          obtain ⟨z28, e27⟩ := s26.2 z9
          obtain ⟨z17, e16⟩ := s15.2 z28
          refine ⟨z17, ?_⟩
          rw [c_X0_checkGroups_L74]
          refine (bd_s (g1)).trans ?_
          refine (bd_s (sgI (by decide) g2)).trans ?_
          refine (if_neg c3).trans ?_
          refine (bd_s (sgck g6)).trans ?_
          refine (bd_s (sv_c_X2_has g7)).trans ?_
          refine (if_neg c8).trans ?_
          refine (bd_s (sgA g10)).trans ?_
          refine (bd_s (sgrA (by decide) g11)).trans ?_
          refine (bd_s (sgck g13)).trans ?_
          refine (bd_s (e16)).trans ?_
          refine (bd_s (sgA g18)).trans ?_
          refine (bd_s (sgrA (by decide) g19)).trans ?_
          refine (bd_s (sgck g21)).trans ?_
          refine (bd_s (sv_c_X0_typeOf g22)).trans ?_
          refine (bd_s (sgck g24)).trans ?_
          refine (bd_s (e27)).trans ?_
          refine (bd_s (sgA g29)).trans ?_
          refine (bd_s (sgrB g30)).trans ?_
          refine (bd_s (sgck g32)).trans ?_
          refine (bd_s (sv_c_X2_find g33)).trans ?_
          refine (if_pos c34).trans ?_
          exact e9
        · replace h := (if_neg c34).symm.trans h
          replace h := ob h
          obtain ⟨v_41, g36, h⟩ := h
          replace h := ob h
          obtain ⟨v_42, g37, h⟩ := h
          replace h := ob h
          obtain ⟨v_43, g38, h⟩ := h
          replace h := ob h
          obtain ⟨i_45, g39, h⟩ := h
          replace h := ob h
          obtain ⟨w40, g41, h⟩ := h
          replace h := ob h
          obtain ⟨cs_44, g42, h⟩ := h
          have s43 := hs_c_X9_refuse s26.1 g42
          have s46 := hs_c_X0_checkGroups_b144 ih s43.1 h
          refine ⟨s46.1, fun z => ?_⟩
          obtain ⟨z9, e9⟩ := s46.2 z
          obtain ⟨z45, e44⟩ := s43.2 z9
          obtain ⟨z28, e27⟩ := s26.2 z45
          obtain ⟨z17, e16⟩ := s15.2 z28
          refine ⟨z17, ?_⟩
          rw [c_X0_checkGroups_L74]
          refine (bd_s (g1)).trans ?_
          refine (bd_s (sgI (by decide) g2)).trans ?_
          refine (if_neg c3).trans ?_
          refine (bd_s (sgck g6)).trans ?_
          refine (bd_s (sv_c_X2_has g7)).trans ?_
          refine (if_neg c8).trans ?_
          refine (bd_s (sgA g10)).trans ?_
          refine (bd_s (sgrA (by decide) g11)).trans ?_
          refine (bd_s (sgck g13)).trans ?_
          refine (bd_s (e16)).trans ?_
          refine (bd_s (sgA g18)).trans ?_
          refine (bd_s (sgrA (by decide) g19)).trans ?_
          refine (bd_s (sgck g21)).trans ?_
          refine (bd_s (sv_c_X0_typeOf g22)).trans ?_
          refine (bd_s (sgck g24)).trans ?_
          refine (bd_s (e27)).trans ?_
          refine (bd_s (sgA g29)).trans ?_
          refine (bd_s (sgrB g30)).trans ?_
          refine (bd_s (sgck g32)).trans ?_
          refine (bd_s (sv_c_X2_find g33)).trans ?_
          refine (if_neg c34).trans ?_
          refine (bd_s (sgR g36)).trans ?_
          refine (bd_s (sgA g37)).trans ?_
          refine (bd_s (sgrA (by decide) g38)).trans ?_
          refine (bd_s (g39)).trans ?_
          refine (bd_s (sgck g41)).trans ?_
          refine (bd_s (e44)).trans ?_
          exact e9
theorem hs_c_X0_checkGroups_b72 {n9 : Int32} {a9 : Nat → Int32} {s9 k9 t9 : Nat} {F : Nat} {cs1 : CS} {u1 : Nat} {u2 : Option Nat} {cs9 : CS} (H : SGH n9 a9 s9 k9 t9 cs1) (h : c_X0_checkGroups_b72 F cs1 k9 u1 u2 = some cs9) : HSG n9 a9 s9 k9 t9 cs1 cs9 (c_X0_checkGroups_b72 F (sgX n9 a9 cs1) k9 u1 u2 = some (sgX n9 a9 cs9)) := by
  unfold c_X0_checkGroups_b72 at h
  have s1 := hs_c_X0_checkGroups_L74 _ _ _ _ _ _ H h
  refine ⟨s1.1, fun z => ?_⟩
  obtain ⟨z9, e9⟩ := s1.2 z
  refine ⟨z9, ?_⟩
  unfold c_X0_checkGroups_b72
  exact e9
theorem hs_c_X0_checkGroups {n9 : Int32} {a9 : Nat → Int32} {s9 k9 t9 : Nat} {F : Nat} {cs : CS} {x1 : Nat} {cs9 : CS} (H : SGH n9 a9 s9 k9 t9 cs) (h : c_X0_checkGroups F cs k9 x1 = some cs9) : HSG n9 a9 s9 k9 t9 cs cs9 (c_X0_checkGroups F (sgX n9 a9 cs) k9 x1 = some (sgX n9 a9 cs9)) := by
  unfold c_X0_checkGroups at h
  replace h := ob h
  obtain ⟨v_47, g1, h⟩ := h
  replace h := ob h
  obtain ⟨v_48, g2, h⟩ := h
  by_cases c3 : v_48 = 0
  · replace h := (if_pos c3).symm.trans h
    replace h := ob h
    obtain ⟨v_50, g4, h⟩ := h
    by_cases c5 : v_50 ≤ 0
    · replace h := (if_pos c5).symm.trans h
      have s6 := hs_c_X0_checkGroups_b72 H h
      refine ⟨s6.1, fun z => ?_⟩
      obtain ⟨z9, e9⟩ := s6.2 z
      refine ⟨z9, ?_⟩
      unfold c_X0_checkGroups
      refine (bd_s (sgR g1)).trans ?_
      refine (bd_s (sgI (by decide) g2)).trans ?_
      refine (if_pos c3).trans ?_
      refine (bd_s (sgI (by decide) g4)).trans ?_
      refine (if_pos c5).trans ?_
      exact e9
    · replace h := (if_neg c5).symm.trans h
      replace h := ob h
      obtain ⟨v_52, g7, h⟩ := h
      replace h := ob h
      obtain ⟨v_53, g8, h⟩ := h
      replace h := ob h
      obtain ⟨v_54, g9, h⟩ := h
      replace h := ob h
      obtain ⟨i_56, g10, h⟩ := h
      replace h := ob h
      obtain ⟨w11, g12, h⟩ := h
      replace h := ob h
      obtain ⟨v_55, g13, h⟩ := h
      by_cases c14 : v_55 = 0
      · replace h := (if_pos c14).symm.trans h
        have s15 := hs_c_X0_checkGroups_b72 H h
        refine ⟨s15.1, fun z => ?_⟩
        obtain ⟨z9, e9⟩ := s15.2 z
        refine ⟨z9, ?_⟩
        unfold c_X0_checkGroups
        refine (bd_s (sgR g1)).trans ?_
        refine (bd_s (sgI (by decide) g2)).trans ?_
        refine (if_pos c3).trans ?_
        refine (bd_s (sgI (by decide) g4)).trans ?_
        refine (if_neg c5).trans ?_
        refine (bd_s (sgR g7)).trans ?_
        refine (bd_s (sgA g8)).trans ?_
        refine (bd_s (sgrA (by decide) g9)).trans ?_
        refine (bd_s (g10)).trans ?_
        refine (bd_s (sgck g12)).trans ?_
        refine (bd_s (sv_c_X1_has g13)).trans ?_
        refine (if_pos c14).trans ?_
        exact e9
      · replace h := (if_neg c14).symm.trans h
        replace h := ob h
        obtain ⟨v_59, g16, h⟩ := h
        replace h := ob h
        obtain ⟨v_60, g17, h⟩ := h
        replace h := ob h
        obtain ⟨i_61, g18, h⟩ := h
        replace h := ob h
        obtain ⟨v_62, g19, h⟩ := h
        replace h := ob h
        obtain ⟨v_63, g20, h⟩ := h
        replace h := ob h
        obtain ⟨v_64, g21, h⟩ := h
        replace h := ob h
        obtain ⟨v_65, g22, h⟩ := h
        replace h := ob h
        obtain ⟨w23, g24, h⟩ := h
        replace h := ob h
        obtain ⟨cs_66, g25, h⟩ := h
        have s26 := hs_c_X0_checkBound H g25
        have s29 := hs_c_X0_checkGroups_b72 s26.1 h
        refine ⟨s29.1, fun z => ?_⟩
        obtain ⟨z9, e9⟩ := s29.2 z
        obtain ⟨z28, e27⟩ := s26.2 z9
        refine ⟨z28, ?_⟩
        unfold c_X0_checkGroups
        refine (bd_s (sgR g1)).trans ?_
        refine (bd_s (sgI (by decide) g2)).trans ?_
        refine (if_pos c3).trans ?_
        refine (bd_s (sgI (by decide) g4)).trans ?_
        refine (if_neg c5).trans ?_
        refine (bd_s (sgR g7)).trans ?_
        refine (bd_s (sgA g8)).trans ?_
        refine (bd_s (sgrA (by decide) g9)).trans ?_
        refine (bd_s (g10)).trans ?_
        refine (bd_s (sgck g12)).trans ?_
        refine (bd_s (sv_c_X1_has g13)).trans ?_
        refine (if_neg c14).trans ?_
        refine (bd_s (sgI (by decide) g16)).trans ?_
        refine (bd_s (sgR g17)).trans ?_
        refine (bd_s (g18)).trans ?_
        refine (bd_s (sgA g19)).trans ?_
        refine (bd_s (sgA g20)).trans ?_
        refine (bd_s (sgrA (by decide) g21)).trans ?_
        refine (bd_s (sgrA (by decide) g22)).trans ?_
        refine (bd_s (sgck g24)).trans ?_
        refine (bd_s (e27)).trans ?_
        exact e9
  · replace h := (if_neg c3).symm.trans h
    replace h := ob h
    obtain ⟨v_68, g30, h⟩ := h
    replace h := ob h
    obtain ⟨v_69, g31, h⟩ := h
    replace h := ob h
    obtain ⟨w32, g33, h⟩ := h
    replace h := ob h
    obtain ⟨cs_70, g34, h⟩ := h
    have s35 := hs_c_X0_checkBound H g34
    have s38 := hs_c_X0_checkGroups_b72 s35.1 h
    refine ⟨s38.1, fun z => ?_⟩
    obtain ⟨z9, e9⟩ := s38.2 z
    obtain ⟨z37, e36⟩ := s35.2 z9
    refine ⟨z37, ?_⟩
    unfold c_X0_checkGroups
    refine (bd_s (sgR g1)).trans ?_
    refine (bd_s (sgI (by decide) g2)).trans ?_
    refine (if_neg c3).trans ?_
    refine (bd_s (sgI (by decide) g30)).trans ?_
    refine (bd_s (sgI (by decide) g31)).trans ?_
    refine (bd_s (sgck g33)).trans ?_
    refine (bd_s (e36)).trans ?_
    exact e9
theorem hs_c_X0_checkColumns_b49 {n9 : Int32} {a9 : Nat → Int32} {s9 k9 t9 : Nat} {F : Nat} {cs1 : CS} {cs9 : CS} (H : SGH n9 a9 s9 k9 t9 cs1) (h : c_X0_checkColumns_b49 F cs1 = some cs9) : HSG n9 a9 s9 k9 t9 cs1 cs9 (c_X0_checkColumns_b49 F (sgX n9 a9 cs1) = some (sgX n9 a9 cs9)) := by
  unfold c_X0_checkColumns_b49 at h
  rw [← Option.some.inj h]
  refine ⟨H, fun z => ?_⟩
  refine ⟨z, ?_⟩
  unfold c_X0_checkColumns_b49
  rfl
theorem hs_c_X0_checkColumns_L2 {n9 : Int32} {a9 : Nat → Int32} {s9 k9 t9 : Nat} {F : Nat} : ∀ (lf : Nat) (cs1 : CS) (u1 : Nat) (u2 : Int32) (cs9 : CS), SGH n9 a9 s9 k9 t9 cs1 → c_X0_checkColumns_L2 F lf cs1 k9 u1 u2 = some cs9 → HSG n9 a9 s9 k9 t9 cs1 cs9 (c_X0_checkColumns_L2 F lf (sgX n9 a9 cs1) k9 u1 u2 = some (sgX n9 a9 cs9)) := by
  intro lf
  induction lf with
  | zero => intro cs1 u1 u2 cs9 H h; cases (show (none : Option CS) = _ from h)
  | succ lf ih =>
    intro cs1 u1 u2 cs9 H h
    rw [c_X0_checkColumns_L2] at h
    replace h := ob h
    obtain ⟨v_1, g1, h⟩ := h
    by_cases c2 : v_1 ≤ u2
    · replace h := (if_pos c2).symm.trans h
      have s3 := hs_c_X0_checkColumns_b49 H h
      refine ⟨s3.1, fun z => ?_⟩
      obtain ⟨z9, e9⟩ := s3.2 z
      refine ⟨z9, ?_⟩
      rw [c_X0_checkColumns_L2]
      refine (bd_s (sgI (by decide) g1)).trans ?_
      refine (if_pos c2).trans ?_
      exact e9
    · replace h := (if_neg c2).symm.trans h
      replace h := ob h
      obtain ⟨w4, g5, h⟩ := h
      replace h := ob h
      obtain ⟨v_3, g6, h⟩ := h
      by_cases c7 : v_3 = 0
      · replace h := (if_pos c7).symm.trans h
        have s8 := hs_c_X0_checkColumns_b49 H h
        refine ⟨s8.1, fun z => ?_⟩
        obtain ⟨z9, e9⟩ := s8.2 z
        refine ⟨z9, ?_⟩
        rw [c_X0_checkColumns_L2]
        refine (bd_s (sgI (by decide) g1)).trans ?_
        refine (if_neg c2).trans ?_
        refine (bd_s (sgck g5)).trans ?_
        refine (bd_s (sv_c_X2_has g6)).trans ?_
        refine (if_pos c7).trans ?_
        exact e9
      · replace h := (if_neg c7).symm.trans h
        replace h := ob h
        obtain ⟨v_6, g9, h⟩ := h
        replace h := ob h
        obtain ⟨v_7, g10, h⟩ := h
        replace h := ob h
        obtain ⟨w11, g12, h⟩ := h
        replace h := ob h
        obtain ⟨cs_8, g13, h⟩ := h
        have s14 := hs_c_X0_checkExpr H g13
        replace h := ob h
        obtain ⟨v_10, g17, h⟩ := h
        replace h := ob h
        obtain ⟨v_11, g18, h⟩ := h
        replace h := ob h
        obtain ⟨w19, g20, h⟩ := h
        replace h := ob h
        obtain ⟨v_12, g21, h⟩ := h
        replace h := ob h
        obtain ⟨w22, g23, h⟩ := h
        replace h := ob h
        obtain ⟨cs_14, g24, h⟩ := h
        have s25 := hs_c_X2_settleType s14.1 g24
        have s28 := ih _ _ _ _ s25.1 h
        refine ⟨s28.1, fun z => ?_⟩
        obtain ⟨z9, e9⟩ := s28.2 z
        obtain ⟨z27, e26⟩ := s25.2 z9
        obtain ⟨z16, e15⟩ := s14.2 z27
        refine ⟨z16, ?_⟩
        rw [c_X0_checkColumns_L2]
        refine (bd_s (sgI (by decide) g1)).trans ?_
        refine (if_neg c2).trans ?_
        refine (bd_s (sgck g5)).trans ?_
        refine (bd_s (sv_c_X2_has g6)).trans ?_
        refine (if_neg c7).trans ?_
        refine (bd_s (sgA g9)).trans ?_
        refine (bd_s (sgrA (by decide) g10)).trans ?_
        refine (bd_s (sgck g12)).trans ?_
        refine (bd_s (e15)).trans ?_
        refine (bd_s (sgA g17)).trans ?_
        refine (bd_s (sgrA (by decide) g18)).trans ?_
        refine (bd_s (sgck g20)).trans ?_
        refine (bd_s (sv_c_X0_typeOf g21)).trans ?_
        refine (bd_s (sgck g23)).trans ?_
        refine (bd_s (e26)).trans ?_
        exact e9
theorem hs_c_X0_checkColumns {n9 : Int32} {a9 : Nat → Int32} {s9 k9 t9 : Nat} {F : Nat} {cs : CS} {x1 : Nat} {cs9 : CS} (H : SGH n9 a9 s9 k9 t9 cs) (h : c_X0_checkColumns F cs k9 x1 = some cs9) : HSG n9 a9 s9 k9 t9 cs cs9 (c_X0_checkColumns F (sgX n9 a9 cs) k9 x1 = some (sgX n9 a9 cs9)) := by
  unfold c_X0_checkColumns at h
  have s1 := hs_c_X0_checkColumns_L2 _ _ _ _ _ H h
  refine ⟨s1.1, fun z => ?_⟩
  obtain ⟨z9, e9⟩ := s1.2 z
  refine ⟨z9, ?_⟩
  unfold c_X0_checkColumns
  exact e9
theorem hs_c_X0_checkSet_b48 {n9 : Int32} {a9 : Nat → Int32} {s9 k9 t9 : Nat} {F : Nat} {cs1 : CS} {cs9 : CS} (H : SGH n9 a9 s9 k9 t9 cs1) (h : c_X0_checkSet_b48 F cs1 = some cs9) : HSG n9 a9 s9 k9 t9 cs1 cs9 (c_X0_checkSet_b48 F (sgX n9 a9 cs1) = some (sgX n9 a9 cs9)) := by
  unfold c_X0_checkSet_b48 at h
  rw [← Option.some.inj h]
  refine ⟨H, fun z => ?_⟩
  refine ⟨z, ?_⟩
  unfold c_X0_checkSet_b48
  rfl
theorem hs_c_X0_checkSet_b21 {n9 : Int32} {a9 : Nat → Int32} {s9 k9 t9 : Nat} {F : Nat} {cs1 : CS} {u1 : Nat} {u2 : Nat} {cs9 : CS} (H : SGH n9 a9 s9 k9 t9 cs1) (h : c_X0_checkSet_b21 F cs1 k9 u1 u2 = some cs9) : HSG n9 a9 s9 k9 t9 cs1 cs9 (c_X0_checkSet_b21 F (sgX n9 a9 cs1) k9 u1 u2 = some (sgX n9 a9 cs9)) := by
  unfold c_X0_checkSet_b21 at h
  replace h := ob h
  obtain ⟨v_1, g1, h⟩ := h
  replace h := ob h
  obtain ⟨v_2, g2, h⟩ := h
  replace h := ob h
  obtain ⟨i_3, g3, h⟩ := h
  replace h := ob h
  obtain ⟨i_5, g4, h⟩ := h
  replace h := ob h
  obtain ⟨w5, g6, h⟩ := h
  replace h := ob h
  obtain ⟨v_4, g7, h⟩ := h
  by_cases c8 : v_4 = 0
  · replace h := (if_pos c8).symm.trans h
    replace h := ob h
    obtain ⟨v_8, g9, h⟩ := h
    replace h := ob h
    obtain ⟨v_9, g10, h⟩ := h
    replace h := ob h
    obtain ⟨i_11, g11, h⟩ := h
    replace h := ob h
    obtain ⟨w12, g13, h⟩ := h
    replace h := ob h
    obtain ⟨cs_10, g14, h⟩ := h
    have s15 := hs_c_X9_refuse H g14
    have s18 := hs_c_X0_checkSet_b48 s15.1 h
    refine ⟨s18.1, fun z => ?_⟩
    obtain ⟨z9, e9⟩ := s18.2 z
    obtain ⟨z17, e16⟩ := s15.2 z9
    refine ⟨z17, ?_⟩
    unfold c_X0_checkSet_b21
    refine (bd_s (sgR g1)).trans ?_
    refine (bd_s (sgR g2)).trans ?_
    refine (bd_s (g3)).trans ?_
    refine (bd_s (g4)).trans ?_
    refine (bd_s (sgck g6)).trans ?_
    refine (bd_s (sv_c_X2_sameTypes g7)).trans ?_
    refine (if_pos c8).trans ?_
    refine (bd_s (sgR g9)).trans ?_
    refine (bd_s (sgI (by decide) g10)).trans ?_
    refine (bd_s (g11)).trans ?_
    refine (bd_s (sgck g13)).trans ?_
    refine (bd_s (e16)).trans ?_
    exact e9
  · replace h := (if_neg c8).symm.trans h
    have s19 := hs_c_X0_checkSet_b48 H h
    refine ⟨s19.1, fun z => ?_⟩
    obtain ⟨z9, e9⟩ := s19.2 z
    refine ⟨z9, ?_⟩
    unfold c_X0_checkSet_b21
    refine (bd_s (sgR g1)).trans ?_
    refine (bd_s (sgR g2)).trans ?_
    refine (bd_s (g3)).trans ?_
    refine (bd_s (g4)).trans ?_
    refine (bd_s (sgck g6)).trans ?_
    refine (bd_s (sv_c_X2_sameTypes g7)).trans ?_
    refine (if_neg c8).trans ?_
    exact e9
theorem hs_c_X0_checkSet {n9 : Int32} {a9 : Nat → Int32} {s9 k9 t9 : Nat} {F : Nat} {cs : CS} {x1 : Nat} {x2 : Nat} {cs9 : CS} (H : SGH n9 a9 s9 k9 t9 cs) (h : c_X0_checkSet F cs k9 x1 x2 = some cs9) : HSG n9 a9 s9 k9 t9 cs cs9 (c_X0_checkSet F (sgX n9 a9 cs) k9 x1 x2 = some (sgX n9 a9 cs9)) := by
  unfold c_X0_checkSet at h
  replace h := ob h
  obtain ⟨v_13, g1, h⟩ := h
  by_cases c2 : v_13 = 11
  · replace h := (if_pos c2).symm.trans h
    have s3 := hs_c_X0_checkSet_b21 H h
    refine ⟨s3.1, fun z => ?_⟩
    obtain ⟨z9, e9⟩ := s3.2 z
    refine ⟨z9, ?_⟩
    unfold c_X0_checkSet
    refine (bd_s (sgI (by decide) g1)).trans ?_
    refine (if_pos c2).trans ?_
    exact e9
  · replace h := (if_neg c2).symm.trans h
    replace h := ob h
    obtain ⟨v_15, g4, h⟩ := h
    replace h := ob h
    obtain ⟨v_16, g5, h⟩ := h
    replace h := ob h
    obtain ⟨w6, g7, h⟩ := h
    replace h := ob h
    obtain ⟨cs_17, g8, h⟩ := h
    have s9 := hs_c_X0_checkBound H g8
    have s12 := hs_c_X0_checkSet_b21 s9.1 h
    refine ⟨s12.1, fun z => ?_⟩
    obtain ⟨z9, e9⟩ := s12.2 z
    obtain ⟨z11, e10⟩ := s9.2 z9
    refine ⟨z11, ?_⟩
    unfold c_X0_checkSet
    refine (bd_s (sgI (by decide) g1)).trans ?_
    refine (if_neg c2).trans ?_
    refine (bd_s (sgI (by decide) g4)).trans ?_
    refine (bd_s (sgI (by decide) g5)).trans ?_
    refine (bd_s (sgck g7)).trans ?_
    refine (bd_s (e10)).trans ?_
    exact e9
theorem hs_c_X0_checkOrder {n9 : Int32} {a9 : Nat → Int32} {s9 k9 t9 : Nat} {F : Nat} {cs : CS} {x1 : Nat} {x2 : Nat} {cs9 : CS} (H : SGH n9 a9 s9 k9 t9 cs) (h : c_X0_checkOrder F cs k9 x1 x2 = some cs9) : HSG n9 a9 s9 k9 t9 cs cs9 (c_X0_checkOrder F (sgX n9 a9 cs) k9 x1 x2 = some (sgX n9 a9 cs9)) := by
  unfold c_X0_checkOrder at h
  replace h := ob h
  obtain ⟨v_1, g1, h⟩ := h
  replace h := ob h
  obtain ⟨v_2, g2, h⟩ := h
  replace h := ob h
  obtain ⟨w3, g4, h⟩ := h
  replace h := ob h
  obtain ⟨cs_3, g5, h⟩ := h
  have s6 := hs_c_X0_checkBound H g5
  replace h := ob h
  obtain ⟨v_5, g9, h⟩ := h
  replace h := ob h
  obtain ⟨cs_6, g10, h⟩ := h
  have s11 := hs_pR (by decide) s6.1 g10
  replace h := ob h
  obtain ⟨w14, g15, h⟩ := h
  replace h := ob h
  obtain ⟨cs_7, g16, h⟩ := h
  have s17 := hs_c_X0_checkColumns s11.1 g16
  rw [← Option.some.inj h]
  refine ⟨s17.1, fun z => ?_⟩
  obtain ⟨z19, e18⟩ := s17.2 z
  obtain ⟨z13, e12⟩ := s11.2 z19
  obtain ⟨z8, e7⟩ := s6.2 z13
  refine ⟨z8, ?_⟩
  unfold c_X0_checkOrder
  refine (bd_s (sgI (by decide) g1)).trans ?_
  refine (bd_s (sgI (by decide) g2)).trans ?_
  refine (bd_s (sgck g4)).trans ?_
  refine (bd_s (e7)).trans ?_
  refine (bd_s (sgR g9)).trans ?_
  refine (bd_s (e12)).trans ?_
  refine (bd_s (sgck g15)).trans ?_
  refine (bd_s (e18)).trans ?_
  rfl
theorem hs_c_X0_checkQuery_b99 {n9 : Int32} {a9 : Nat → Int32} {s9 k9 t9 : Nat} {F : Nat} {T : TC_X0_checkQuery} {cs1 : CS} {cs9 : CS} (hT : HT_TC_X0_checkQuery n9 a9 s9 k9 t9 T) (H : SGH n9 a9 s9 k9 t9 cs1) (h : c_X0_checkQuery_b99 F T cs1 = some cs9) : HSG n9 a9 s9 k9 t9 cs1 cs9 (c_X0_checkQuery_b99 F T (sgX n9 a9 cs1) = some (sgX n9 a9 cs9)) := by
  unfold c_X0_checkQuery_b99 at h
  rw [← Option.some.inj h]
  refine ⟨H, fun z => ?_⟩
  refine ⟨z, ?_⟩
  unfold c_X0_checkQuery_b99
  rfl
theorem hs_c_X0_checkQuery_b76 {n9 : Int32} {a9 : Nat → Int32} {s9 k9 t9 : Nat} {F : Nat} {T : TC_X0_checkQuery} {cs1 : CS} {u1 : Nat} {cs9 : CS} (hT : HT_TC_X0_checkQuery n9 a9 s9 k9 t9 T) (H : SGH n9 a9 s9 k9 t9 cs1) (h : c_X0_checkQuery_b76 F T cs1 k9 u1 = some cs9) : HSG n9 a9 s9 k9 t9 cs1 cs9 (c_X0_checkQuery_b76 F T (sgX n9 a9 cs1) k9 u1 = some (sgX n9 a9 cs9)) := by
  unfold c_X0_checkQuery_b76 at h
  replace h := ob h
  obtain ⟨v_1, g1, h⟩ := h
  cases v_1 with
  | none =>
    replace h := oc_n.symm.trans h
    have s2 := hs_c_X0_checkQuery_b99 hT H h
    refine ⟨s2.1, fun z => ?_⟩
    obtain ⟨z9, e9⟩ := s2.2 z
    refine ⟨z9, ?_⟩
    unfold c_X0_checkQuery_b76
    refine (bd_s (sgR g1)).trans ?_
    refine (oc_n).trans ?_
    exact e9
  | some i_2 =>
    replace h := oc_s.symm.trans h
    replace h := ob h
    obtain ⟨w3, g4, h⟩ := h
    replace h := ob h
    obtain ⟨v_3, g5, h⟩ := h
    by_cases c6 : v_3 = 0
    · replace h := (if_pos c6).symm.trans h
      replace h := ob h
      obtain ⟨v_6, g7, h⟩ := h
      replace h := ob h
      obtain ⟨i_7, g8, h⟩ := h
      replace h := ob h
      obtain ⟨w9, g10, h⟩ := h
      replace h := ob h
      obtain ⟨cs_8, g11, h⟩ := h
      have s12 := hs_c_X0_checkOrder H g11
      have s15 := hs_c_X0_checkQuery_b99 hT s12.1 h
      refine ⟨s15.1, fun z => ?_⟩
      obtain ⟨z9, e9⟩ := s15.2 z
      obtain ⟨z14, e13⟩ := s12.2 z9
      refine ⟨z14, ?_⟩
      unfold c_X0_checkQuery_b76
      refine (bd_s (sgR g1)).trans ?_
      refine (oc_s).trans ?_
      refine (bd_s (sgck g4)).trans ?_
      refine (bd_s (sv_c_X0_isFaulty g5)).trans ?_
      refine (if_pos c6).trans ?_
      refine (bd_s (sgR g7)).trans ?_
      refine (bd_s (g8)).trans ?_
      refine (bd_s (sgck g10)).trans ?_
      refine (bd_s (e13)).trans ?_
      exact e9
    · replace h := (if_neg c6).symm.trans h
      have s16 := hs_c_X0_checkQuery_b99 hT H h
      refine ⟨s16.1, fun z => ?_⟩
      obtain ⟨z9, e9⟩ := s16.2 z
      refine ⟨z9, ?_⟩
      unfold c_X0_checkQuery_b76
      refine (bd_s (sgR g1)).trans ?_
      refine (oc_s).trans ?_
      refine (bd_s (sgck g4)).trans ?_
      refine (bd_s (sv_c_X0_isFaulty g5)).trans ?_
      refine (if_neg c6).trans ?_
      exact e9
theorem hs_c_X0_checkQuery_b70 {n9 : Int32} {a9 : Nat → Int32} {s9 k9 t9 : Nat} {F : Nat} {T : TC_X0_checkQuery} {rc2 : CS → Nat → Nat → Int32 → Option CS} {cs1 : CS} {u1 : Nat} {u2 : Int32} {cs9 : CS} (hT : HT_TC_X0_checkQuery n9 a9 s9 k9 t9 T) (hrc2 : ∀ (cs1 : CS) (a2 : Nat) (a3 : Int32) (cs9 : CS), SGH n9 a9 s9 k9 t9 cs1 → rc2 cs1 k9 a2 a3 = some cs9 → HSG n9 a9 s9 k9 t9 cs1 cs9 (rc2 (sgX n9 a9 cs1) k9 a2 a3 = some (sgX n9 a9 cs9))) (H : SGH n9 a9 s9 k9 t9 cs1) (h : c_X0_checkQuery_b70 F T rc2 cs1 k9 u1 u2 = some cs9) : HSG n9 a9 s9 k9 t9 cs1 cs9 (c_X0_checkQuery_b70 F T rc2 (sgX n9 a9 cs1) k9 u1 u2 = some (sgX n9 a9 cs9)) := by
  unfold c_X0_checkQuery_b70 at h
  have s1 := hrc2 _ _ _ _ H h
  refine ⟨s1.1, fun z => ?_⟩
  obtain ⟨z9, e9⟩ := s1.2 z
  refine ⟨z9, ?_⟩
  unfold c_X0_checkQuery_b70
  exact e9
theorem hs_c_X0_checkQuery_b57 {n9 : Int32} {a9 : Nat → Int32} {s9 k9 t9 : Nat} {F : Nat} {T : TC_X0_checkQuery} {rc2 : CS → Nat → Nat → Int32 → Option CS} {cs1 : CS} {u1 : Nat} {u2 : Int32} {u3 : Nat} {y0 : Int32} {y1 : Nat} {cs9 : CS} (hT : HT_TC_X0_checkQuery n9 a9 s9 k9 t9 T) (hrc2 : ∀ (cs1 : CS) (a2 : Nat) (a3 : Int32) (cs9 : CS), SGH n9 a9 s9 k9 t9 cs1 → rc2 cs1 k9 a2 a3 = some cs9 → HSG n9 a9 s9 k9 t9 cs1 cs9 (rc2 (sgX n9 a9 cs1) k9 a2 a3 = some (sgX n9 a9 cs9))) (H : SGH n9 a9 s9 k9 t9 cs1) (h : c_X0_checkQuery_b57 F T rc2 cs1 k9 u1 u2 u3 y0 y1 = some cs9) : HSG n9 a9 s9 k9 t9 cs1 cs9 (c_X0_checkQuery_b57 F T rc2 (sgX n9 a9 cs1) k9 u1 u2 u3 y0 y1 = some (sgX n9 a9 cs9)) := by
  unfold c_X0_checkQuery_b57 at h
  replace h := ob h
  obtain ⟨w1, g2, h⟩ := h
  replace h := ob h
  obtain ⟨cs_10, g3, h⟩ := h
  have s4 := hs_pI (by decide) H g3
  by_cases c7 : u2 ≤ 0
  · replace h := (if_pos c7).symm.trans h
    have s8 := hs_c_X0_checkQuery_b70 hT hrc2 s4.1 h
    refine ⟨s8.1, fun z => ?_⟩
    obtain ⟨z9, e9⟩ := s8.2 z
    obtain ⟨z6, e5⟩ := s4.2 z9
    refine ⟨z6, ?_⟩
    unfold c_X0_checkQuery_b57
    refine (bd_s (g2)).trans ?_
    refine (bd_s (e5)).trans ?_
    refine (if_pos c7).trans ?_
    exact e9
  · replace h := (if_neg c7).symm.trans h
    replace h := ob h
    obtain ⟨w9, g10, h⟩ := h
    replace h := ob h
    obtain ⟨cs_13, g11, h⟩ := h
    have s12 := hs_c_X0_checkSet s4.1 g11
    have s15 := hs_c_X0_checkQuery_b70 hT hrc2 s12.1 h
    refine ⟨s15.1, fun z => ?_⟩
    obtain ⟨z9, e9⟩ := s15.2 z
    obtain ⟨z14, e13⟩ := s12.2 z9
    obtain ⟨z6, e5⟩ := s4.2 z14
    refine ⟨z6, ?_⟩
    unfold c_X0_checkQuery_b57
    refine (bd_s (g2)).trans ?_
    refine (bd_s (e5)).trans ?_
    refine (if_neg c7).trans ?_
    refine (bd_s (sgck g10)).trans ?_
    refine (bd_s (e13)).trans ?_
    exact e9
theorem hs_c_X0_checkQuery_b52 {n9 : Int32} {a9 : Nat → Int32} {s9 k9 t9 : Nat} {F : Nat} {T : TC_X0_checkQuery} {rc2 : CS → Nat → Nat → Int32 → Option CS} {cs1 : CS} {u1 : Nat} {u2 : Int32} {u3 : Nat} {y0 : Nat} {cs9 : CS} (hT : HT_TC_X0_checkQuery n9 a9 s9 k9 t9 T) (hrc2 : ∀ (cs1 : CS) (a2 : Nat) (a3 : Int32) (cs9 : CS), SGH n9 a9 s9 k9 t9 cs1 → rc2 cs1 k9 a2 a3 = some cs9 → HSG n9 a9 s9 k9 t9 cs1 cs9 (rc2 (sgX n9 a9 cs1) k9 a2 a3 = some (sgX n9 a9 cs9))) (H : SGH n9 a9 s9 k9 t9 cs1) (h : c_X0_checkQuery_b52 F T rc2 cs1 k9 u1 u2 u3 y0 = some cs9) : HSG n9 a9 s9 k9 t9 cs1 cs9 (c_X0_checkQuery_b52 F T rc2 (sgX n9 a9 cs1) k9 u1 u2 u3 y0 = some (sgX n9 a9 cs9)) := by
  unfold c_X0_checkQuery_b52 at h
  have s1 := hs_c_X0_checkQuery_b57 hT hrc2 H h
  refine ⟨s1.1, fun z => ?_⟩
  obtain ⟨z9, e9⟩ := s1.2 z
  refine ⟨z9, ?_⟩
  unfold c_X0_checkQuery_b52
  exact e9
theorem hs_c_X0_checkQuery_L2 {n9 : Int32} {a9 : Nat → Int32} {s9 k9 t9 : Nat} {F : Nat} {T : TC_X0_checkQuery} (hT : HT_TC_X0_checkQuery n9 a9 s9 k9 t9 T) : ∀ (lf : Nat) (cs1 : CS) (u1 : Nat) (u2 : Int32) (cs9 : CS), SGH n9 a9 s9 k9 t9 cs1 → c_X0_checkQuery_L2 F T lf cs1 k9 u1 u2 = some cs9 → HSG n9 a9 s9 k9 t9 cs1 cs9 (c_X0_checkQuery_L2 F T lf (sgX n9 a9 cs1) k9 u1 u2 = some (sgX n9 a9 cs9)) := by
  intro lf
  induction lf with
  | zero => intro cs1 u1 u2 cs9 H h; cases (show (none : Option CS) = _ from h)
  | succ lf ih =>
    intro cs1 u1 u2 cs9 H h
    rw [c_X0_checkQuery_L2] at h
    replace h := ob h
    obtain ⟨v_15, g1, h⟩ := h
    replace h := ob h
    obtain ⟨i_17, g2, h⟩ := h
    replace h := ob h
    obtain ⟨w3, g4, h⟩ := h
    replace h := ob h
    obtain ⟨v_16, g5, h⟩ := h
    by_cases c6 : v_16 ≤ u2
    · replace h := (if_pos c6).symm.trans h
      have s7 := hs_c_X0_checkQuery_b76 hT H h
      refine ⟨s7.1, fun z => ?_⟩
      obtain ⟨z9, e9⟩ := s7.2 z
      refine ⟨z9, ?_⟩
      rw [c_X0_checkQuery_L2]
      refine (bd_s (sgR g1)).trans ?_
      refine (bd_s (g2)).trans ?_
      refine (bd_s (sgck g4)).trans ?_
      refine (bd_s (sv_c_Jx4a65c_size_8abf5 g5)).trans ?_
      refine (if_pos c6).trans ?_
      exact e9
    · replace h := (if_neg c6).symm.trans h
      replace h := ob h
      obtain ⟨w8, g9, h⟩ := h
      replace h := ob h
      obtain ⟨v_20, g10, h⟩ := h
      by_cases c11 : v_20 = 0
      · replace h := (if_pos c11).symm.trans h
        replace h := ob h
        obtain ⟨v_23, g12, h⟩ := h
        replace h := ob h
        obtain ⟨i_25, g13, h⟩ := h
        replace h := ob h
        obtain ⟨w14, g15, h⟩ := h
        replace h := ob h
        obtain ⟨v_24, g16, h⟩ := h
        replace h := ob h
        obtain ⟨w17, g18, h⟩ := h
        replace h := ob h
        obtain ⟨w19, g20, h⟩ := h
        replace h := ob h
        obtain ⟨cs_28, g21, h⟩ := h
        have s22 := hT.2.1 _ _ _ H g21
        replace h := ob h
        obtain ⟨v_30, g25, h⟩ := h
        by_cases c26 : v_30 = 0
        · replace h := (if_pos c26).symm.trans h
          replace h := ob h
          obtain ⟨v_32, g27, h⟩ := h
          by_cases c28 : v_32 = 0
          · replace h := (if_pos c28).symm.trans h
            have s29 := hs_c_X0_checkQuery_b57 hT ih s22.1 h
            refine ⟨s29.1, fun z => ?_⟩
            obtain ⟨z9, e9⟩ := s29.2 z
            obtain ⟨z24, e23⟩ := s22.2 z9
            refine ⟨z24, ?_⟩
            rw [c_X0_checkQuery_L2]
            refine (bd_s (sgR g1)).trans ?_
            refine (bd_s (g2)).trans ?_
            refine (bd_s (sgck g4)).trans ?_
            refine (bd_s (sv_c_Jx4a65c_size_8abf5 g5)).trans ?_
            refine (if_neg c6).trans ?_
            refine (bd_s (sgck g9)).trans ?_
            refine (bd_s (sv_c_X0_isFaulty g10)).trans ?_
            refine (if_pos c11).trans ?_
            refine (bd_s (sgR g12)).trans ?_
            refine (bd_s (g13)).trans ?_
            refine (bd_s (sgck g15)).trans ?_
            refine (bd_s (sv_c_Jx4a65c_get_915e3 g16)).trans ?_
            refine (bd_s (sgck g18)).trans ?_
            refine (bd_s (sgck g20)).trans ?_
            refine (bd_s (e23)).trans ?_
            refine (bd_s (sgI (by decide) g25)).trans ?_
            refine (if_pos c26).trans ?_
            refine (bd_s (sgI (by decide) g27)).trans ?_
            refine (if_pos c28).trans ?_
            exact e9
          · replace h := (if_neg c28).symm.trans h
            have s30 := hs_c_X0_checkQuery_b52 hT ih s22.1 h
            refine ⟨s30.1, fun z => ?_⟩
            obtain ⟨z9, e9⟩ := s30.2 z
            obtain ⟨z24, e23⟩ := s22.2 z9
            refine ⟨z24, ?_⟩
            rw [c_X0_checkQuery_L2]
            refine (bd_s (sgR g1)).trans ?_
            refine (bd_s (g2)).trans ?_
            refine (bd_s (sgck g4)).trans ?_
            refine (bd_s (sv_c_Jx4a65c_size_8abf5 g5)).trans ?_
            refine (if_neg c6).trans ?_
            refine (bd_s (sgck g9)).trans ?_
            refine (bd_s (sv_c_X0_isFaulty g10)).trans ?_
            refine (if_pos c11).trans ?_
            refine (bd_s (sgR g12)).trans ?_
            refine (bd_s (g13)).trans ?_
            refine (bd_s (sgck g15)).trans ?_
            refine (bd_s (sv_c_Jx4a65c_get_915e3 g16)).trans ?_
            refine (bd_s (sgck g18)).trans ?_
            refine (bd_s (sgck g20)).trans ?_
            refine (bd_s (e23)).trans ?_
            refine (bd_s (sgI (by decide) g25)).trans ?_
            refine (if_pos c26).trans ?_
            refine (bd_s (sgI (by decide) g27)).trans ?_
            refine (if_neg c28).trans ?_
            exact e9
        · replace h := (if_neg c26).symm.trans h
          have s31 := hs_c_X0_checkQuery_b52 hT ih s22.1 h
          refine ⟨s31.1, fun z => ?_⟩
          obtain ⟨z9, e9⟩ := s31.2 z
          obtain ⟨z24, e23⟩ := s22.2 z9
          refine ⟨z24, ?_⟩
          rw [c_X0_checkQuery_L2]
          refine (bd_s (sgR g1)).trans ?_
          refine (bd_s (g2)).trans ?_
          refine (bd_s (sgck g4)).trans ?_
          refine (bd_s (sv_c_Jx4a65c_size_8abf5 g5)).trans ?_
          refine (if_neg c6).trans ?_
          refine (bd_s (sgck g9)).trans ?_
          refine (bd_s (sv_c_X0_isFaulty g10)).trans ?_
          refine (if_pos c11).trans ?_
          refine (bd_s (sgR g12)).trans ?_
          refine (bd_s (g13)).trans ?_
          refine (bd_s (sgck g15)).trans ?_
          refine (bd_s (sv_c_Jx4a65c_get_915e3 g16)).trans ?_
          refine (bd_s (sgck g18)).trans ?_
          refine (bd_s (sgck g20)).trans ?_
          refine (bd_s (e23)).trans ?_
          refine (bd_s (sgI (by decide) g25)).trans ?_
          refine (if_neg c26).trans ?_
          exact e9
      · replace h := (if_neg c11).symm.trans h
        have s32 := hs_c_X0_checkQuery_b76 hT H h
        refine ⟨s32.1, fun z => ?_⟩
        obtain ⟨z9, e9⟩ := s32.2 z
        refine ⟨z9, ?_⟩
        rw [c_X0_checkQuery_L2]
        refine (bd_s (sgR g1)).trans ?_
        refine (bd_s (g2)).trans ?_
        refine (bd_s (sgck g4)).trans ?_
        refine (bd_s (sv_c_Jx4a65c_size_8abf5 g5)).trans ?_
        refine (if_neg c6).trans ?_
        refine (bd_s (sgck g9)).trans ?_
        refine (bd_s (sv_c_X0_isFaulty g10)).trans ?_
        refine (if_neg c11).trans ?_
        exact e9
theorem hs_cb_X0_checkQuery {n9 : Int32} {a9 : Nat → Int32} {s9 k9 t9 : Nat} {F : Nat} {T : TC_X0_checkQuery} {cs : CS} {x1 : Nat} {cs9 : CS} (hT : HT_TC_X0_checkQuery n9 a9 s9 k9 t9 T) (H : SGH n9 a9 s9 k9 t9 cs) (h : cb_X0_checkQuery F T cs k9 x1 = some cs9) : HSG n9 a9 s9 k9 t9 cs cs9 (cb_X0_checkQuery F T (sgX n9 a9 cs) k9 x1 = some (sgX n9 a9 cs9)) := by
  unfold cb_X0_checkQuery at h
  have s1 := hs_c_X0_checkQuery_L2 hT _ _ _ _ _ H h
  refine ⟨s1.1, fun z => ?_⟩
  obtain ⟨z9, e9⟩ := s1.2 z
  refine ⟨z9, ?_⟩
  unfold cb_X0_checkQuery
  exact e9
theorem hs_c_X0_checkSelect_b119 {n9 : Int32} {a9 : Nat → Int32} {s9 k9 t9 : Nat} {F : Nat} {T : TC_X0_checkQuery} {cs1 : CS} {cs9 : CS} (hT : HT_TC_X0_checkQuery n9 a9 s9 k9 t9 T) (H : SGH n9 a9 s9 k9 t9 cs1) (h : c_X0_checkSelect_b119 F T cs1 = some cs9) : HSG n9 a9 s9 k9 t9 cs1 cs9 (c_X0_checkSelect_b119 F T (sgX n9 a9 cs1) = some (sgX n9 a9 cs9)) := by
  unfold c_X0_checkSelect_b119 at h
  rw [← Option.some.inj h]
  refine ⟨H, fun z => ?_⟩
  refine ⟨z, ?_⟩
  unfold c_X0_checkSelect_b119
  rfl
theorem hs_c_X0_checkSelect_b84 {n9 : Int32} {a9 : Nat → Int32} {s9 k9 t9 : Nat} {F : Nat} {T : TC_X0_checkQuery} {cs1 : CS} {u1 : Nat} {cs9 : CS} (hT : HT_TC_X0_checkQuery n9 a9 s9 k9 t9 T) (H : SGH n9 a9 s9 k9 t9 cs1) (h : c_X0_checkSelect_b84 F T cs1 k9 u1 = some cs9) : HSG n9 a9 s9 k9 t9 cs1 cs9 (c_X0_checkSelect_b84 F T (sgX n9 a9 cs1) k9 u1 = some (sgX n9 a9 cs9)) := by
  unfold c_X0_checkSelect_b84 at h
  replace h := ob h
  obtain ⟨v_1, g1, h⟩ := h
  replace h := ob h
  obtain ⟨w2, g3, h⟩ := h
  replace h := ob h
  obtain ⟨cs_2, g4, h⟩ := h
  have s5 := hs_c_X0_checkTruth H g4
  replace h := ob h
  obtain ⟨v_4, g8, h⟩ := h
  replace h := ob h
  obtain ⟨i_5, g9, h⟩ := h
  replace h := ob h
  obtain ⟨w10, g11, h⟩ := h
  replace h := ob h
  obtain ⟨cs_6, g12, h⟩ := h
  have s13 := hs_c_X0_checkColumns s5.1 g12
  replace h := ob h
  obtain ⟨v_8, g16, h⟩ := h
  by_cases c17 : v_8 = 0
  · replace h := (if_pos c17).symm.trans h
    have s18 := hs_c_X0_checkSelect_b119 hT s13.1 h
    refine ⟨s18.1, fun z => ?_⟩
    obtain ⟨z9, e9⟩ := s18.2 z
    obtain ⟨z15, e14⟩ := s13.2 z9
    obtain ⟨z7, e6⟩ := s5.2 z15
    refine ⟨z7, ?_⟩
    unfold c_X0_checkSelect_b84
    refine (bd_s (sgI (by decide) g1)).trans ?_
    refine (bd_s (sgck g3)).trans ?_
    refine (bd_s (e6)).trans ?_
    refine (bd_s (sgR g8)).trans ?_
    refine (bd_s (g9)).trans ?_
    refine (bd_s (sgck g11)).trans ?_
    refine (bd_s (e14)).trans ?_
    refine (bd_s (sgI (by decide) g16)).trans ?_
    refine (if_pos c17).trans ?_
    exact e9
  · replace h := (if_neg c17).symm.trans h
    replace h := ob h
    obtain ⟨v_10, g19, h⟩ := h
    replace h := ob h
    obtain ⟨v_11, g20, h⟩ := h
    replace h := ob h
    obtain ⟨w21, g22, h⟩ := h
    replace h := ob h
    obtain ⟨cs_12, g23, h⟩ := h
    have s24 := hs_c_X0_checkBound s13.1 g23
    have s27 := hs_c_X0_checkSelect_b119 hT s24.1 h
    refine ⟨s27.1, fun z => ?_⟩
    obtain ⟨z9, e9⟩ := s27.2 z
    obtain ⟨z26, e25⟩ := s24.2 z9
    obtain ⟨z15, e14⟩ := s13.2 z26
    obtain ⟨z7, e6⟩ := s5.2 z15
    refine ⟨z7, ?_⟩
    unfold c_X0_checkSelect_b84
    refine (bd_s (sgI (by decide) g1)).trans ?_
    refine (bd_s (sgck g3)).trans ?_
    refine (bd_s (e6)).trans ?_
    refine (bd_s (sgR g8)).trans ?_
    refine (bd_s (g9)).trans ?_
    refine (bd_s (sgck g11)).trans ?_
    refine (bd_s (e14)).trans ?_
    refine (bd_s (sgI (by decide) g16)).trans ?_
    refine (if_neg c17).trans ?_
    refine (bd_s (sgI (by decide) g19)).trans ?_
    refine (bd_s (sgI (by decide) g20)).trans ?_
    refine (bd_s (sgck g22)).trans ?_
    refine (bd_s (e25)).trans ?_
    exact e9
theorem hs_c_X0_checkSelect_b38 {n9 : Int32} {a9 : Nat → Int32} {s9 k9 t9 : Nat} {F : Nat} {T : TC_X0_checkQuery} {cs1 : CS} {u1 : Nat} {cs9 : CS} (hT : HT_TC_X0_checkQuery n9 a9 s9 k9 t9 T) (H : SGH n9 a9 s9 k9 t9 cs1) (h : c_X0_checkSelect_b38 F T cs1 k9 u1 = some cs9) : HSG n9 a9 s9 k9 t9 cs1 cs9 (c_X0_checkSelect_b38 F T (sgX n9 a9 cs1) k9 u1 = some (sgX n9 a9 cs9)) := by
  unfold c_X0_checkSelect_b38 at h
  replace h := ob h
  obtain ⟨cs_14, g1, h⟩ := h
  have s2 := hs_pR (by decide) H g1
  replace h := ob h
  obtain ⟨v_15, g5, h⟩ := h
  replace h := ob h
  obtain ⟨cs_16, g6, h⟩ := h
  have s7 := hs_pI (by decide) s2.1 g6
  replace h := ob h
  obtain ⟨cs_17, g10, h⟩ := h
  have s11 := hs_pR (by decide) s7.1 g10
  replace h := ob h
  obtain ⟨v_18, g14, h⟩ := h
  replace h := ob h
  obtain ⟨w15, g16, h⟩ := h
  replace h := ob h
  obtain ⟨cs_19, g17, h⟩ := h
  have s18 := hs_c_X0_checkTruth s11.1 g17
  replace h := ob h
  obtain ⟨w21, g22, h⟩ := h
  replace h := ob h
  obtain ⟨cs_21, g23, h⟩ := h
  have s24 := hs_c_X0_checkGroups s18.1 g23
  replace h := ob h
  obtain ⟨w27, g28, h⟩ := h
  replace h := ob h
  obtain ⟨v_23, g29, h⟩ := h
  by_cases c30 : v_23 = 0
  · replace h := (if_pos c30).symm.trans h
    have s31 := hs_c_X0_checkSelect_b84 hT s24.1 h
    refine ⟨s31.1, fun z => ?_⟩
    obtain ⟨z9, e9⟩ := s31.2 z
    obtain ⟨z26, e25⟩ := s24.2 z9
    obtain ⟨z20, e19⟩ := s18.2 z26
    obtain ⟨z13, e12⟩ := s11.2 z20
    obtain ⟨z9, e8⟩ := s7.2 z13
    obtain ⟨z4, e3⟩ := s2.2 z9
    refine ⟨z4, ?_⟩
    unfold c_X0_checkSelect_b38
    refine (bd_s (e3)).trans ?_
    refine (bd_s (sgI (by decide) g5)).trans ?_
    refine (bd_s (e8)).trans ?_
    refine (bd_s (e12)).trans ?_
    refine (bd_s (sgI (by decide) g14)).trans ?_
    refine (bd_s (sgck g16)).trans ?_
    refine (bd_s (e19)).trans ?_
    refine (bd_s (sgck g22)).trans ?_
    refine (bd_s (e25)).trans ?_
    refine (bd_s (sgck g28)).trans ?_
    refine (bd_s (sv_c_X5_isGrouped g29)).trans ?_
    refine (if_pos c30).trans ?_
    exact e9
  · replace h := (if_neg c30).symm.trans h
    replace h := ob h
    obtain ⟨v_26, g32, h⟩ := h
    replace h := ob h
    obtain ⟨cs_27, g33, h⟩ := h
    have s34 := hs_pR (by decide) s24.1 g33
    have s37 := hs_c_X0_checkSelect_b84 hT s34.1 h
    refine ⟨s37.1, fun z => ?_⟩
    obtain ⟨z9, e9⟩ := s37.2 z
    obtain ⟨z36, e35⟩ := s34.2 z9
    obtain ⟨z26, e25⟩ := s24.2 z36
    obtain ⟨z20, e19⟩ := s18.2 z26
    obtain ⟨z13, e12⟩ := s11.2 z20
    obtain ⟨z9, e8⟩ := s7.2 z13
    obtain ⟨z4, e3⟩ := s2.2 z9
    refine ⟨z4, ?_⟩
    unfold c_X0_checkSelect_b38
    refine (bd_s (e3)).trans ?_
    refine (bd_s (sgI (by decide) g5)).trans ?_
    refine (bd_s (e8)).trans ?_
    refine (bd_s (e12)).trans ?_
    refine (bd_s (sgI (by decide) g14)).trans ?_
    refine (bd_s (sgck g16)).trans ?_
    refine (bd_s (e19)).trans ?_
    refine (bd_s (sgck g22)).trans ?_
    refine (bd_s (e25)).trans ?_
    refine (bd_s (sgck g28)).trans ?_
    refine (bd_s (sv_c_X5_isGrouped g29)).trans ?_
    refine (if_neg c30).trans ?_
    refine (bd_s (sgR g32)).trans ?_
    refine (bd_s (e35)).trans ?_
    exact e9
theorem hs_c_X0_checkSelect_L2 {n9 : Int32} {a9 : Nat → Int32} {s9 k9 t9 : Nat} {F : Nat} {T : TC_X0_checkQuery} (hT : HT_TC_X0_checkQuery n9 a9 s9 k9 t9 T) : ∀ (lf : Nat) (cs1 : CS) (u1 : Nat) (u2 : Int32) (cs9 : CS), SGH n9 a9 s9 k9 t9 cs1 → c_X0_checkSelect_L2 F T lf cs1 k9 u1 u2 = some cs9 → HSG n9 a9 s9 k9 t9 cs1 cs9 (c_X0_checkSelect_L2 F T lf (sgX n9 a9 cs1) k9 u1 u2 = some (sgX n9 a9 cs9)) := by
  intro lf
  induction lf with
  | zero => intro cs1 u1 u2 cs9 H h; cases (show (none : Option CS) = _ from h)
  | succ lf ih =>
    intro cs1 u1 u2 cs9 H h
    rw [c_X0_checkSelect_L2] at h
    replace h := ob h
    obtain ⟨v_28, g1, h⟩ := h
    by_cases c2 : v_28 ≤ u2
    · replace h := (if_pos c2).symm.trans h
      have s3 := hs_c_X0_checkSelect_b38 hT H h
      refine ⟨s3.1, fun z => ?_⟩
      obtain ⟨z9, e9⟩ := s3.2 z
      refine ⟨z9, ?_⟩
      rw [c_X0_checkSelect_L2]
      refine (bd_s (sgI (by decide) g1)).trans ?_
      refine (if_pos c2).trans ?_
      exact e9
    · replace h := (if_neg c2).symm.trans h
      replace h := ob h
      obtain ⟨v_30, g4, h⟩ := h
      replace h := ob h
      obtain ⟨v_31, g5, h⟩ := h
      by_cases c6 : v_31 ≤ u2
      · replace h := (if_pos c6).symm.trans h
        have s7 := hs_c_X0_checkSelect_b38 hT H h
        refine ⟨s7.1, fun z => ?_⟩
        obtain ⟨z9, e9⟩ := s7.2 z
        refine ⟨z9, ?_⟩
        rw [c_X0_checkSelect_L2]
        refine (bd_s (sgI (by decide) g1)).trans ?_
        refine (if_neg c2).trans ?_
        refine (bd_s (sgA g4)).trans ?_
        refine (bd_s (sgLn g5)).trans ?_
        refine (if_pos c6).trans ?_
        exact e9
      · replace h := (if_neg c6).symm.trans h
        replace h := ob h
        obtain ⟨w8, g9, h⟩ := h
        replace h := ob h
        obtain ⟨v_33, g10, h⟩ := h
        by_cases c11 : v_33 = 0
        · replace h := (if_pos c11).symm.trans h
          replace h := ob h
          obtain ⟨w12, g13, h⟩ := h
          replace h := ob h
          obtain ⟨cs_36, g14, h⟩ := h
          have s15 := hT.2.2.1 _ _ _ _ H g14
          have s18 := ih _ _ _ _ s15.1 h
          refine ⟨s18.1, fun z => ?_⟩
          obtain ⟨z9, e9⟩ := s18.2 z
          obtain ⟨z17, e16⟩ := s15.2 z9
          refine ⟨z17, ?_⟩
          rw [c_X0_checkSelect_L2]
          refine (bd_s (sgI (by decide) g1)).trans ?_
          refine (if_neg c2).trans ?_
          refine (bd_s (sgA g4)).trans ?_
          refine (bd_s (sgLn g5)).trans ?_
          refine (if_neg c6).trans ?_
          refine (bd_s (sgck g9)).trans ?_
          refine (bd_s (sv_c_X0_isFaulty g10)).trans ?_
          refine (if_pos c11).trans ?_
          refine (bd_s (sgck g13)).trans ?_
          refine (bd_s (e16)).trans ?_
          exact e9
        · replace h := (if_neg c11).symm.trans h
          have s19 := hs_c_X0_checkSelect_b38 hT H h
          refine ⟨s19.1, fun z => ?_⟩
          obtain ⟨z9, e9⟩ := s19.2 z
          refine ⟨z9, ?_⟩
          rw [c_X0_checkSelect_L2]
          refine (bd_s (sgI (by decide) g1)).trans ?_
          refine (if_neg c2).trans ?_
          refine (bd_s (sgA g4)).trans ?_
          refine (bd_s (sgLn g5)).trans ?_
          refine (if_neg c6).trans ?_
          refine (bd_s (sgck g9)).trans ?_
          refine (bd_s (sv_c_X0_isFaulty g10)).trans ?_
          refine (if_neg c11).trans ?_
          exact e9
theorem hs_cb_X0_checkSelect {n9 : Int32} {a9 : Nat → Int32} {s9 k9 t9 : Nat} {F : Nat} {T : TC_X0_checkQuery} {cs : CS} {x1 : Nat} {cs9 : CS} (hT : HT_TC_X0_checkQuery n9 a9 s9 k9 t9 T) (H : SGH n9 a9 s9 k9 t9 cs) (h : cb_X0_checkSelect F T cs k9 x1 = some cs9) : HSG n9 a9 s9 k9 t9 cs cs9 (cb_X0_checkSelect F T (sgX n9 a9 cs) k9 x1 = some (sgX n9 a9 cs9)) := by
  unfold cb_X0_checkSelect at h
  have s1 := hs_c_X0_checkSelect_L2 hT _ _ _ _ _ H h
  refine ⟨s1.1, fun z => ?_⟩
  obtain ⟨z9, e9⟩ := s1.2 z
  refine ⟨z9, ?_⟩
  unfold cb_X0_checkSelect
  exact e9
theorem hs_c_X0_checkSource_b219 {n9 : Int32} {a9 : Nat → Int32} {s9 k9 t9 : Nat} {F : Nat} {T : TC_X0_checkQuery} {cs1 : CS} {cs9 : CS} (hT : HT_TC_X0_checkQuery n9 a9 s9 k9 t9 T) (H : SGH n9 a9 s9 k9 t9 cs1) (h : c_X0_checkSource_b219 F T cs1 = some cs9) : HSG n9 a9 s9 k9 t9 cs1 cs9 (c_X0_checkSource_b219 F T (sgX n9 a9 cs1) = some (sgX n9 a9 cs9)) := by
  unfold c_X0_checkSource_b219 at h
  rw [← Option.some.inj h]
  refine ⟨H, fun z => ?_⟩
  refine ⟨z, ?_⟩
  unfold c_X0_checkSource_b219
  rfl
theorem hs_c_X0_checkSource_b191 {n9 : Int32} {a9 : Nat → Int32} {s9 k9 t9 : Nat} {F : Nat} {T : TC_X0_checkQuery} {cs1 : CS} {u1 : Nat} {u2 : Int32} {u3 : Nat} {y0 : Int32} {y1 : Nat} {cs9 : CS} (hT : HT_TC_X0_checkQuery n9 a9 s9 k9 t9 T) (H : SGH n9 a9 s9 k9 t9 cs1) (h : c_X0_checkSource_b191 F T cs1 k9 u1 u2 u3 y0 y1 = some cs9) : HSG n9 a9 s9 k9 t9 cs1 cs9 (c_X0_checkSource_b191 F T (sgX n9 a9 cs1) k9 u1 u2 u3 y0 y1 = some (sgX n9 a9 cs9)) := by
  unfold c_X0_checkSource_b191 at h
  replace h := ob h
  obtain ⟨cs_1, g1, h⟩ := h
  have s2 := hs_pI (by decide) H g1
  replace h := ob h
  obtain ⟨cs_2, g5, h⟩ := h
  have s6 := hs_pR (by decide) s2.1 g5
  replace h := ob h
  obtain ⟨cs_3, g9, h⟩ := h
  have s10 := hs_pI (by decide) s6.1 g9
  replace h := ob h
  obtain ⟨cs_4, g13, h⟩ := h
  have s14 := hs_pR (by decide) s10.1 g13
  replace h := ob h
  obtain ⟨v_5, g17, h⟩ := h
  replace h := ob h
  obtain ⟨w18, g19, h⟩ := h
  replace h := ob h
  obtain ⟨cs_6, g20, h⟩ := h
  have s21 := hs_c_X0_checkTruth s14.1 g20
  have s24 := hs_c_X0_checkSource_b219 hT s21.1 h
  refine ⟨s24.1, fun z => ?_⟩
  obtain ⟨z9, e9⟩ := s24.2 z
  obtain ⟨z23, e22⟩ := s21.2 z9
  obtain ⟨z16, e15⟩ := s14.2 z23
  obtain ⟨z12, e11⟩ := s10.2 z16
  obtain ⟨z8, e7⟩ := s6.2 z12
  obtain ⟨z4, e3⟩ := s2.2 z8
  refine ⟨z4, ?_⟩
  unfold c_X0_checkSource_b191
  refine (bd_s (e3)).trans ?_
  refine (bd_s (e7)).trans ?_
  refine (bd_s (e11)).trans ?_
  refine (bd_s (e15)).trans ?_
  refine (bd_s (sgI (by decide) g17)).trans ?_
  refine (bd_s (sgck g19)).trans ?_
  refine (bd_s (e22)).trans ?_
  exact e9
theorem hs_c_X0_checkSource_b135 {n9 : Int32} {a9 : Nat → Int32} {s9 k9 t9 : Nat} {F : Nat} {T : TC_X0_checkQuery} {rc90 : CS → Nat → Nat → Int32 → Nat → Int32 → Option CS} {cs1 : CS} {u1 : Nat} {u2 : Int32} {u3 : Nat} {u4 : Int32} {cs9 : CS} (hT : HT_TC_X0_checkQuery n9 a9 s9 k9 t9 T) (hrc90 : ∀ (cs1 : CS) (a2 : Nat) (a3 : Int32) (a4 : Nat) (a5 : Int32) (cs9 : CS), SGH n9 a9 s9 k9 t9 cs1 → rc90 cs1 k9 a2 a3 a4 a5 = some cs9 → HSG n9 a9 s9 k9 t9 cs1 cs9 (rc90 (sgX n9 a9 cs1) k9 a2 a3 a4 a5 = some (sgX n9 a9 cs9))) (H : SGH n9 a9 s9 k9 t9 cs1) (h : c_X0_checkSource_b135 F T rc90 cs1 k9 u1 u2 u3 u4 = some cs9) : HSG n9 a9 s9 k9 t9 cs1 cs9 (c_X0_checkSource_b135 F T rc90 (sgX n9 a9 cs1) k9 u1 u2 u3 u4 = some (sgX n9 a9 cs9)) := by
  unfold c_X0_checkSource_b135 at h
  have s1 := hrc90 _ _ _ _ _ _ H h
  refine ⟨s1.1, fun z => ?_⟩
  obtain ⟨z9, e9⟩ := s1.2 z
  refine ⟨z9, ?_⟩
  unfold c_X0_checkSource_b135
  exact e9
theorem hs_c_X0_checkSource_L90 {n9 : Int32} {a9 : Nat → Int32} {s9 k9 t9 : Nat} {F : Nat} {T : TC_X0_checkQuery} (hT : HT_TC_X0_checkQuery n9 a9 s9 k9 t9 T) : ∀ (lf : Nat) (cs1 : CS) (u1 : Nat) (u2 : Int32) (u3 : Nat) (u4 : Int32) (cs9 : CS), SGH n9 a9 s9 k9 t9 cs1 → c_X0_checkSource_L90 F T lf cs1 k9 u1 u2 u3 u4 = some cs9 → HSG n9 a9 s9 k9 t9 cs1 cs9 (c_X0_checkSource_L90 F T lf (sgX n9 a9 cs1) k9 u1 u2 u3 u4 = some (sgX n9 a9 cs9)) := by
  intro lf
  induction lf with
  | zero => intro cs1 u1 u2 u3 u4 cs9 H h; cases (show (none : Option CS) = _ from h)
  | succ lf ih =>
    intro cs1 u1 u2 u3 u4 cs9 H h
    rw [c_X0_checkSource_L90] at h
    by_cases c1 : u2 ≤ u4
    · replace h := (if_pos c1).symm.trans h
      by_cases c2 : u2 ≤ 0
      · replace h := (if_pos c2).symm.trans h
        have s3 := hs_c_X0_checkSource_b219 hT H h
        refine ⟨s3.1, fun z => ?_⟩
        obtain ⟨z9, e9⟩ := s3.2 z
        refine ⟨z9, ?_⟩
        rw [c_X0_checkSource_L90]
        refine (if_pos c1).trans ?_
        refine (if_pos c2).trans ?_
        exact e9
      · replace h := (if_neg c2).symm.trans h
        replace h := ob h
        obtain ⟨v_10, g4, h⟩ := h
        replace h := ob h
        obtain ⟨v_11, g5, h⟩ := h
        replace h := ob h
        obtain ⟨w6, g7, h⟩ := h
        replace h := ob h
        obtain ⟨cs_12, g8, h⟩ := h
        have s9 := hs_c_X0_checkBound H g8
        replace h := ob h
        obtain ⟨v_14, g12, h⟩ := h
        replace h := ob h
        obtain ⟨v_15, g13, h⟩ := h
        cases v_15 with
        | none =>
          replace h := oc_n.symm.trans h
          have s14 := hs_c_X0_checkSource_b191 hT s9.1 h
          refine ⟨s14.1, fun z => ?_⟩
          obtain ⟨z9, e9⟩ := s14.2 z
          obtain ⟨z11, e10⟩ := s9.2 z9
          refine ⟨z11, ?_⟩
          rw [c_X0_checkSource_L90]
          refine (if_pos c1).trans ?_
          refine (if_neg c2).trans ?_
          refine (bd_s (sgI (by decide) g4)).trans ?_
          refine (bd_s (sgI (by decide) g5)).trans ?_
          refine (bd_s (sgck g7)).trans ?_
          refine (bd_s (e10)).trans ?_
          refine (bd_s (sgA g12)).trans ?_
          refine (bd_s (sgrQ g13)).trans ?_
          refine (oc_n).trans ?_
          exact e9
        | some i_16 =>
          replace h := oc_s.symm.trans h
          replace h := ob h
          obtain ⟨v_17, g15, h⟩ := h
          replace h := ob h
          obtain ⟨v_18, g16, h⟩ := h
          replace h := ob h
          obtain ⟨i_19, g17, h⟩ := h
          replace h := ob h
          obtain ⟨v_20, g18, h⟩ := h
          have s19 := hs_c_X0_checkSource_b191 hT s9.1 h
          refine ⟨s19.1, fun z => ?_⟩
          obtain ⟨z9, e9⟩ := s19.2 z
          obtain ⟨z11, e10⟩ := s9.2 z9
          refine ⟨z11, ?_⟩
          rw [c_X0_checkSource_L90]
          refine (if_pos c1).trans ?_
          refine (if_neg c2).trans ?_
          refine (bd_s (sgI (by decide) g4)).trans ?_
          refine (bd_s (sgI (by decide) g5)).trans ?_
          refine (bd_s (sgck g7)).trans ?_
          refine (bd_s (e10)).trans ?_
          refine (bd_s (sgA g12)).trans ?_
          refine (bd_s (sgrQ g13)).trans ?_
          refine (oc_s).trans ?_
          refine (bd_s (sgI (by decide) g15)).trans ?_
          refine (bd_s (sgR g16)).trans ?_
          refine (bd_s (g17)).trans ?_
          refine (bd_s (sgI (by decide) g18)).trans ?_
          exact e9
    · replace h := (if_neg c1).symm.trans h
      replace h := ob h
      obtain ⟨v_21, g20, h⟩ := h
      replace h := ob h
      obtain ⟨v_22, g21, h⟩ := h
      cases v_22 with
      | none =>
        replace h := oc_n.symm.trans h
        have s22 := hs_c_X0_checkSource_b135 hT ih H h
        refine ⟨s22.1, fun z => ?_⟩
        obtain ⟨z9, e9⟩ := s22.2 z
        refine ⟨z9, ?_⟩
        rw [c_X0_checkSource_L90]
        refine (if_neg c1).trans ?_
        refine (bd_s (sgA g20)).trans ?_
        refine (bd_s (sgrQ g21)).trans ?_
        refine (oc_n).trans ?_
        exact e9
      | some i_23 =>
        replace h := oc_s.symm.trans h
        replace h := ob h
        obtain ⟨v_24, g23, h⟩ := h
        replace h := ob h
        obtain ⟨v_25, g24, h⟩ := h
        by_cases c25 : v_24 = v_25
        · replace h := (if_pos c25).symm.trans h
          replace h := ob h
          obtain ⟨v_27, g26, h⟩ := h
          replace h := ob h
          obtain ⟨v_28, g27, h⟩ := h
          replace h := ob h
          obtain ⟨i_30, g28, h⟩ := h
          replace h := ob h
          obtain ⟨w29, g30, h⟩ := h
          replace h := ob h
          obtain ⟨cs_29, g31, h⟩ := h
          have s32 := hs_c_X9_refuse H g31
          have s35 := hs_c_X0_checkSource_b135 hT ih s32.1 h
          refine ⟨s35.1, fun z => ?_⟩
          obtain ⟨z9, e9⟩ := s35.2 z
          obtain ⟨z34, e33⟩ := s32.2 z9
          refine ⟨z34, ?_⟩
          rw [c_X0_checkSource_L90]
          refine (if_neg c1).trans ?_
          refine (bd_s (sgA g20)).trans ?_
          refine (bd_s (sgrQ g21)).trans ?_
          refine (oc_s).trans ?_
          refine (bd_s (sgJ g23)).trans ?_
          refine (bd_s (sgJ g24)).trans ?_
          refine (if_pos c25).trans ?_
          refine (bd_s (sgR g26)).trans ?_
          refine (bd_s (sgI (by decide) g27)).trans ?_
          refine (bd_s (g28)).trans ?_
          refine (bd_s (sgck g30)).trans ?_
          refine (bd_s (e33)).trans ?_
          exact e9
        · replace h := (if_neg c25).symm.trans h
          have s36 := hs_c_X0_checkSource_b135 hT ih H h
          refine ⟨s36.1, fun z => ?_⟩
          obtain ⟨z9, e9⟩ := s36.2 z
          refine ⟨z9, ?_⟩
          rw [c_X0_checkSource_L90]
          refine (if_neg c1).trans ?_
          refine (bd_s (sgA g20)).trans ?_
          refine (bd_s (sgrQ g21)).trans ?_
          refine (oc_s).trans ?_
          refine (bd_s (sgJ g23)).trans ?_
          refine (bd_s (sgJ g24)).trans ?_
          refine (if_neg c25).trans ?_
          exact e9
theorem hs_c_X0_checkSource_b87 {n9 : Int32} {a9 : Nat → Int32} {s9 k9 t9 : Nat} {F : Nat} {T : TC_X0_checkQuery} {cs1 : CS} {u1 : Nat} {u2 : Int32} {u3 : Nat} {cs9 : CS} (hT : HT_TC_X0_checkQuery n9 a9 s9 k9 t9 T) (H : SGH n9 a9 s9 k9 t9 cs1) (h : c_X0_checkSource_b87 F T cs1 k9 u1 u2 u3 = some cs9) : HSG n9 a9 s9 k9 t9 cs1 cs9 (c_X0_checkSource_b87 F T (sgX n9 a9 cs1) k9 u1 u2 u3 = some (sgX n9 a9 cs9)) := by
  unfold c_X0_checkSource_b87 at h
  have s1 := hs_c_X0_checkSource_L90 hT _ _ _ _ _ _ _ H h
  refine ⟨s1.1, fun z => ?_⟩
  obtain ⟨z9, e9⟩ := s1.2 z
  refine ⟨z9, ?_⟩
  unfold c_X0_checkSource_b87
  exact e9
theorem hs_c_X0_checkSource_b51 {n9 : Int32} {a9 : Nat → Int32} {s9 k9 t9 : Nat} {F : Nat} {T : TC_X0_checkQuery} {cs1 : CS} {u1 : Nat} {u2 : Int32} {u3 : Nat} {y0 : Int32} {y1 : Nat} {cs9 : CS} (hT : HT_TC_X0_checkQuery n9 a9 s9 k9 t9 T) (H : SGH n9 a9 s9 k9 t9 cs1) (h : c_X0_checkSource_b51 F T cs1 k9 u1 u2 u3 y0 y1 = some cs9) : HSG n9 a9 s9 k9 t9 cs1 cs9 (c_X0_checkSource_b51 F T (sgX n9 a9 cs1) k9 u1 u2 u3 y0 y1 = some (sgX n9 a9 cs9)) := by
  unfold c_X0_checkSource_b51 at h
  replace h := ob h
  obtain ⟨w1, g2, h⟩ := h
  replace h := ob h
  obtain ⟨cs_32, g3, h⟩ := h
  have s4 := hs_pI (by decide) H g3
  have s7 := hs_c_X0_checkSource_b87 hT s4.1 h
  refine ⟨s7.1, fun z => ?_⟩
  obtain ⟨z9, e9⟩ := s7.2 z
  obtain ⟨z6, e5⟩ := s4.2 z9
  refine ⟨z6, ?_⟩
  unfold c_X0_checkSource_b51
  refine (bd_s (g2)).trans ?_
  refine (bd_s (e5)).trans ?_
  exact e9
theorem hs_c_X0_checkSource_b46 {n9 : Int32} {a9 : Nat → Int32} {s9 k9 t9 : Nat} {F : Nat} {T : TC_X0_checkQuery} {cs1 : CS} {u1 : Nat} {u2 : Int32} {u3 : Nat} {y0 : Nat} {cs9 : CS} (hT : HT_TC_X0_checkQuery n9 a9 s9 k9 t9 T) (H : SGH n9 a9 s9 k9 t9 cs1) (h : c_X0_checkSource_b46 F T cs1 k9 u1 u2 u3 y0 = some cs9) : HSG n9 a9 s9 k9 t9 cs1 cs9 (c_X0_checkSource_b46 F T (sgX n9 a9 cs1) k9 u1 u2 u3 y0 = some (sgX n9 a9 cs9)) := by
  unfold c_X0_checkSource_b46 at h
  have s1 := hs_c_X0_checkSource_b51 hT H h
  refine ⟨s1.1, fun z => ?_⟩
  obtain ⟨z9, e9⟩ := s1.2 z
  refine ⟨z9, ?_⟩
  unfold c_X0_checkSource_b46
  exact e9
theorem hs_c_X0_checkSource_b84 {n9 : Int32} {a9 : Nat → Int32} {s9 k9 t9 : Nat} {F : Nat} {T : TC_X0_checkQuery} {cs1 : CS} {u1 : Nat} {u2 : Int32} {u3 : Nat} {y0 : Int32} {y1 : Nat} {cs9 : CS} (hT : HT_TC_X0_checkQuery n9 a9 s9 k9 t9 T) (H : SGH n9 a9 s9 k9 t9 cs1) (h : c_X0_checkSource_b84 F T cs1 k9 u1 u2 u3 y0 y1 = some cs9) : HSG n9 a9 s9 k9 t9 cs1 cs9 (c_X0_checkSource_b84 F T (sgX n9 a9 cs1) k9 u1 u2 u3 y0 y1 = some (sgX n9 a9 cs9)) := by
  unfold c_X0_checkSource_b84 at h
  replace h := ob h
  obtain ⟨w1, g2, h⟩ := h
  replace h := ob h
  obtain ⟨cs_34, g3, h⟩ := h
  have s4 := hs_pI (by decide) H g3
  have s7 := hs_c_X0_checkSource_b87 hT s4.1 h
  refine ⟨s7.1, fun z => ?_⟩
  obtain ⟨z9, e9⟩ := s7.2 z
  obtain ⟨z6, e5⟩ := s4.2 z9
  refine ⟨z6, ?_⟩
  unfold c_X0_checkSource_b84
  refine (bd_s (g2)).trans ?_
  refine (bd_s (e5)).trans ?_
  exact e9
theorem hs_c_X0_checkSource_b79 {n9 : Int32} {a9 : Nat → Int32} {s9 k9 t9 : Nat} {F : Nat} {T : TC_X0_checkQuery} {cs1 : CS} {u1 : Nat} {u2 : Int32} {u3 : Nat} {y0 : Nat} {cs9 : CS} (hT : HT_TC_X0_checkQuery n9 a9 s9 k9 t9 T) (H : SGH n9 a9 s9 k9 t9 cs1) (h : c_X0_checkSource_b79 F T cs1 k9 u1 u2 u3 y0 = some cs9) : HSG n9 a9 s9 k9 t9 cs1 cs9 (c_X0_checkSource_b79 F T (sgX n9 a9 cs1) k9 u1 u2 u3 y0 = some (sgX n9 a9 cs9)) := by
  unfold c_X0_checkSource_b79 at h
  have s1 := hs_c_X0_checkSource_b84 hT H h
  refine ⟨s1.1, fun z => ?_⟩
  obtain ⟨z9, e9⟩ := s1.2 z
  refine ⟨z9, ?_⟩
  unfold c_X0_checkSource_b79
  exact e9
theorem hs_cb_X0_checkSource {n9 : Int32} {a9 : Nat → Int32} {s9 k9 t9 : Nat} {F : Nat} {T : TC_X0_checkQuery} {cs : CS} {x1 : Nat} {x2 : Int32} {cs9 : CS} (hT : HT_TC_X0_checkQuery n9 a9 s9 k9 t9 T) (H : SGH n9 a9 s9 k9 t9 cs) (h : cb_X0_checkSource F T cs k9 x1 x2 = some cs9) : HSG n9 a9 s9 k9 t9 cs cs9 (cb_X0_checkSource F T (sgX n9 a9 cs) k9 x1 x2 = some (sgX n9 a9 cs9)) := by
  unfold cb_X0_checkSource at h
  replace h := ob h
  obtain ⟨v_36, g1, h⟩ := h
  replace h := ob h
  obtain ⟨v_37, g2, h⟩ := h
  cases v_37 with
  | none =>
    replace h := oc_n.symm.trans h
    rw [← Option.some.inj h]
    refine ⟨H, fun z => ?_⟩
    refine ⟨z, ?_⟩
    unfold cb_X0_checkSource
    refine (bd_s (sgA g1)).trans ?_
    refine (bd_s (sgrQ g2)).trans ?_
    refine (oc_n).trans ?_
    rfl
  | some i_38 =>
    replace h := oc_s.symm.trans h
    replace h := ob h
    obtain ⟨v_39, g3, h⟩ := h
    cases v_39 with
    | none =>
      replace h := oc_n.symm.trans h
      replace h := ob h
      obtain ⟨w4, g5, h⟩ := h
      replace h := ob h
      obtain ⟨cs_41, g6, h⟩ := h
      have s7 := hs_c_X0_checkLeaf H g6
      replace h := ob h
      obtain ⟨v_43, g10, h⟩ := h
      by_cases c11 : v_43 = 0
      · replace h := (if_pos c11).symm.trans h
        replace h := ob h
        obtain ⟨v_45, g12, h⟩ := h
        by_cases c13 : 0 ≤ v_45
        · replace h := (if_pos c13).symm.trans h
          have s14 := hs_c_X0_checkSource_b84 hT s7.1 h
          refine ⟨s14.1, fun z => ?_⟩
          obtain ⟨z9, e9⟩ := s14.2 z
          obtain ⟨z9, e8⟩ := s7.2 z9
          refine ⟨z9, ?_⟩
          unfold cb_X0_checkSource
          refine (bd_s (sgA g1)).trans ?_
          refine (bd_s (sgrQ g2)).trans ?_
          refine (oc_s).trans ?_
          refine (bd_s (sgR g3)).trans ?_
          refine (oc_n).trans ?_
          refine (bd_s (sgck g5)).trans ?_
          refine (bd_s (e8)).trans ?_
          refine (bd_s (sgI (by decide) g10)).trans ?_
          refine (if_pos c11).trans ?_
          refine (bd_s (sgJ g12)).trans ?_
          refine (if_pos c13).trans ?_
          exact e9
        · replace h := (if_neg c13).symm.trans h
          have s15 := hs_c_X0_checkSource_b79 hT s7.1 h
          refine ⟨s15.1, fun z => ?_⟩
          obtain ⟨z9, e9⟩ := s15.2 z
          obtain ⟨z9, e8⟩ := s7.2 z9
          refine ⟨z9, ?_⟩
          unfold cb_X0_checkSource
          refine (bd_s (sgA g1)).trans ?_
          refine (bd_s (sgrQ g2)).trans ?_
          refine (oc_s).trans ?_
          refine (bd_s (sgR g3)).trans ?_
          refine (oc_n).trans ?_
          refine (bd_s (sgck g5)).trans ?_
          refine (bd_s (e8)).trans ?_
          refine (bd_s (sgI (by decide) g10)).trans ?_
          refine (if_pos c11).trans ?_
          refine (bd_s (sgJ g12)).trans ?_
          refine (if_neg c13).trans ?_
          exact e9
      · replace h := (if_neg c11).symm.trans h
        have s16 := hs_c_X0_checkSource_b79 hT s7.1 h
        refine ⟨s16.1, fun z => ?_⟩
        obtain ⟨z9, e9⟩ := s16.2 z
        obtain ⟨z9, e8⟩ := s7.2 z9
        refine ⟨z9, ?_⟩
        unfold cb_X0_checkSource
        refine (bd_s (sgA g1)).trans ?_
        refine (bd_s (sgrQ g2)).trans ?_
        refine (oc_s).trans ?_
        refine (bd_s (sgR g3)).trans ?_
        refine (oc_n).trans ?_
        refine (bd_s (sgck g5)).trans ?_
        refine (bd_s (e8)).trans ?_
        refine (bd_s (sgI (by decide) g10)).trans ?_
        refine (if_neg c11).trans ?_
        exact e9
    | some i_40 =>
      replace h := oc_s.symm.trans h
      replace h := ob h
      obtain ⟨v_47, g17, h⟩ := h
      replace h := ob h
      obtain ⟨i_48, g18, h⟩ := h
      replace h := ob h
      obtain ⟨w19, g20, h⟩ := h
      replace h := ob h
      obtain ⟨cs_49, g21, h⟩ := h
      have s22 := hT.2.2.2 _ _ _ _ H g21
      replace h := ob h
      obtain ⟨v_51, g25, h⟩ := h
      by_cases c26 : v_51 = 0
      · replace h := (if_pos c26).symm.trans h
        replace h := ob h
        obtain ⟨v_53, g27, h⟩ := h
        replace h := ob h
        obtain ⟨i_54, g28, h⟩ := h
        replace h := ob h
        obtain ⟨v_55, g29, h⟩ := h
        by_cases c30 : v_55 = 0
        · replace h := (if_pos c30).symm.trans h
          have s31 := hs_c_X0_checkSource_b51 hT s22.1 h
          refine ⟨s31.1, fun z => ?_⟩
          obtain ⟨z9, e9⟩ := s31.2 z
          obtain ⟨z24, e23⟩ := s22.2 z9
          refine ⟨z24, ?_⟩
          unfold cb_X0_checkSource
          refine (bd_s (sgA g1)).trans ?_
          refine (bd_s (sgrQ g2)).trans ?_
          refine (oc_s).trans ?_
          refine (bd_s (sgR g3)).trans ?_
          refine (oc_s).trans ?_
          refine (bd_s (sgR g17)).trans ?_
          refine (bd_s (g18)).trans ?_
          refine (bd_s (sgck g20)).trans ?_
          refine (bd_s (e23)).trans ?_
          refine (bd_s (sgI (by decide) g25)).trans ?_
          refine (if_pos c26).trans ?_
          refine (bd_s (sgR g27)).trans ?_
          refine (bd_s (g28)).trans ?_
          refine (bd_s (sgI (by decide) g29)).trans ?_
          refine (if_pos c30).trans ?_
          exact e9
        · replace h := (if_neg c30).symm.trans h
          have s32 := hs_c_X0_checkSource_b46 hT s22.1 h
          refine ⟨s32.1, fun z => ?_⟩
          obtain ⟨z9, e9⟩ := s32.2 z
          obtain ⟨z24, e23⟩ := s22.2 z9
          refine ⟨z24, ?_⟩
          unfold cb_X0_checkSource
          refine (bd_s (sgA g1)).trans ?_
          refine (bd_s (sgrQ g2)).trans ?_
          refine (oc_s).trans ?_
          refine (bd_s (sgR g3)).trans ?_
          refine (oc_s).trans ?_
          refine (bd_s (sgR g17)).trans ?_
          refine (bd_s (g18)).trans ?_
          refine (bd_s (sgck g20)).trans ?_
          refine (bd_s (e23)).trans ?_
          refine (bd_s (sgI (by decide) g25)).trans ?_
          refine (if_pos c26).trans ?_
          refine (bd_s (sgR g27)).trans ?_
          refine (bd_s (g28)).trans ?_
          refine (bd_s (sgI (by decide) g29)).trans ?_
          refine (if_neg c30).trans ?_
          exact e9
      · replace h := (if_neg c26).symm.trans h
        have s33 := hs_c_X0_checkSource_b46 hT s22.1 h
        refine ⟨s33.1, fun z => ?_⟩
        obtain ⟨z9, e9⟩ := s33.2 z
        obtain ⟨z24, e23⟩ := s22.2 z9
        refine ⟨z24, ?_⟩
        unfold cb_X0_checkSource
        refine (bd_s (sgA g1)).trans ?_
        refine (bd_s (sgrQ g2)).trans ?_
        refine (oc_s).trans ?_
        refine (bd_s (sgR g3)).trans ?_
        refine (oc_s).trans ?_
        refine (bd_s (sgR g17)).trans ?_
        refine (bd_s (g18)).trans ?_
        refine (bd_s (sgck g20)).trans ?_
        refine (bd_s (e23)).trans ?_
        refine (bd_s (sgI (by decide) g25)).trans ?_
        refine (if_neg c26).trans ?_
        exact e9
theorem hs_c_X0_checkInner_b87 {n9 : Int32} {a9 : Nat → Int32} {s9 k9 t9 : Nat} {F : Nat} {T : TC_X0_checkQuery} {cs1 : CS} {cs9 : CS} (hT : HT_TC_X0_checkQuery n9 a9 s9 k9 t9 T) (H : SGH n9 a9 s9 k9 t9 cs1) (h : c_X0_checkInner_b87 F T cs1 = some cs9) : HSG n9 a9 s9 k9 t9 cs1 cs9 (c_X0_checkInner_b87 F T (sgX n9 a9 cs1) = some (sgX n9 a9 cs9)) := by
  unfold c_X0_checkInner_b87 at h
  rw [← Option.some.inj h]
  refine ⟨H, fun z => ?_⟩
  refine ⟨z, ?_⟩
  unfold c_X0_checkInner_b87
  rfl
theorem hs_c_X0_checkInner_L40 {n9 : Int32} {a9 : Nat → Int32} {s9 k9 t9 : Nat} {F : Nat} {T : TC_X0_checkQuery} (hT : HT_TC_X0_checkQuery n9 a9 s9 k9 t9 T) : ∀ (lf : Nat) (cs1 : CS) (u1 : Nat) (u3 : Nat) (u4 : Int32) (cs9 : CS), SGH n9 a9 s9 k9 t9 cs1 → c_X0_checkInner_L40 F T lf cs1 u1 u3 u4 = some cs9 → HSG n9 a9 s9 k9 t9 cs1 cs9 (c_X0_checkInner_L40 F T lf (sgX n9 a9 cs1) u1 u3 u4 = some (sgX n9 a9 cs9)) := by
  intro lf
  induction lf with
  | zero => intro cs1 u1 u3 u4 cs9 H h; cases (show (none : Option CS) = _ from h)
  | succ lf ih =>
    intro cs1 u1 u3 u4 cs9 H h
    rw [c_X0_checkInner_L40] at h
    replace h := ob h
    obtain ⟨v_1, g1, h⟩ := h
    by_cases c2 : v_1 ≤ u4
    · replace h := (if_pos c2).symm.trans h
      have s3 := hs_c_X0_checkInner_b87 hT H h
      refine ⟨s3.1, fun z => ?_⟩
      obtain ⟨z9, e9⟩ := s3.2 z
      refine ⟨z9, ?_⟩
      rw [c_X0_checkInner_L40]
      refine (bd_s (sgI (by decide) g1)).trans ?_
      refine (if_pos c2).trans ?_
      exact e9
    · replace h := (if_neg c2).symm.trans h
      replace h := ob h
      obtain ⟨w4, g5, h⟩ := h
      replace h := ob h
      obtain ⟨v_3, g6, h⟩ := h
      by_cases c7 : v_3 = 0
      · replace h := (if_pos c7).symm.trans h
        have s8 := hs_c_X0_checkInner_b87 hT H h
        refine ⟨s8.1, fun z => ?_⟩
        obtain ⟨z9, e9⟩ := s8.2 z
        refine ⟨z9, ?_⟩
        rw [c_X0_checkInner_L40]
        refine (bd_s (sgI (by decide) g1)).trans ?_
        refine (if_neg c2).trans ?_
        refine (bd_s (sgck g5)).trans ?_
        refine (bd_s (sv_c_X2_has g6)).trans ?_
        refine (if_pos c7).trans ?_
        exact e9
      · replace h := (if_neg c7).symm.trans h
        replace h := ob h
        obtain ⟨v_6, g9, h⟩ := h
        replace h := ob h
        obtain ⟨v_7, g10, h⟩ := h
        replace h := ob h
        obtain ⟨v_8, g11, h⟩ := h
        replace h := ob h
        obtain ⟨v_9, g12, h⟩ := h
        replace h := ob h
        obtain ⟨v_10, g13, h⟩ := h
        replace h := ob h
        obtain ⟨i_12, g14, h⟩ := h
        replace h := ob h
        obtain ⟨w15, g16, h⟩ := h
        replace h := ob h
        obtain ⟨cs_11, g17, h⟩ := h
        have s18 := hs_c_X2_add H g17
        have s21 := ih _ _ _ _ _ s18.1 h
        refine ⟨s21.1, fun z => ?_⟩
        obtain ⟨z9, e9⟩ := s21.2 z
        obtain ⟨z20, e19⟩ := s18.2 z9
        refine ⟨z20, ?_⟩
        rw [c_X0_checkInner_L40]
        refine (bd_s (sgI (by decide) g1)).trans ?_
        refine (if_neg c2).trans ?_
        refine (bd_s (sgck g5)).trans ?_
        refine (bd_s (sv_c_X2_has g6)).trans ?_
        refine (if_neg c7).trans ?_
        refine (bd_s (sgR g9)).trans ?_
        refine (bd_s (sgA g10)).trans ?_
        refine (bd_s (sgrB g11)).trans ?_
        refine (bd_s (sgA g12)).trans ?_
        refine (bd_s (sgrA (by decide) g13)).trans ?_
        refine (bd_s (g14)).trans ?_
        refine (bd_s (sgck g16)).trans ?_
        refine (bd_s (e19)).trans ?_
        exact e9
theorem hs_c_X0_checkInner_b37 {n9 : Int32} {a9 : Nat → Int32} {s9 k9 t9 : Nat} {F : Nat} {T : TC_X0_checkQuery} {cs1 : CS} {u1 : Nat} {u3 : Nat} {cs9 : CS} (hT : HT_TC_X0_checkQuery n9 a9 s9 k9 t9 T) (H : SGH n9 a9 s9 k9 t9 cs1) (h : c_X0_checkInner_b37 F T cs1 u1 u3 = some cs9) : HSG n9 a9 s9 k9 t9 cs1 cs9 (c_X0_checkInner_b37 F T (sgX n9 a9 cs1) u1 u3 = some (sgX n9 a9 cs9)) := by
  unfold c_X0_checkInner_b37 at h
  have s1 := hs_c_X0_checkInner_L40 hT _ _ _ _ _ _ H h
  refine ⟨s1.1, fun z => ?_⟩
  obtain ⟨z9, e9⟩ := s1.2 z
  refine ⟨z9, ?_⟩
  unfold c_X0_checkInner_b37
  exact e9
theorem hs_cb_X0_checkInner {n9 : Int32} {a9 : Nat → Int32} {s9 k9 t9 : Nat} {F : Nat} {T : TC_X0_checkQuery} {cs : CS} {x1 : Nat} {x2 : Nat} {cs9 : CS} (hT : HT_TC_X0_checkQuery n9 a9 s9 k9 t9 T) (H : SGH n9 a9 s9 k9 t9 cs) (h : cb_X0_checkInner F T cs k9 x1 x2 = some cs9) : HSG n9 a9 s9 k9 t9 cs cs9 (cb_X0_checkInner F T (sgX n9 a9 cs) k9 x1 x2 = some (sgX n9 a9 cs9)) := by
  unfold cb_X0_checkInner at h
  replace h := ob h
  obtain ⟨w1, g2, h⟩ := h
  replace h := ob h
  obtain ⟨cs_14, g3, h⟩ := h
  have s4 := hT.1 _ _ _ H g3
  replace h := ob h
  obtain ⟨w7, g8, h⟩ := h
  replace h := ob h
  obtain ⟨v_16, g9, h⟩ := h
  by_cases c10 : v_16 = 0
  · replace h := (if_pos c10).symm.trans h
    replace h := ob h
    obtain ⟨v_19, g11, h⟩ := h
    replace h := ob h
    obtain ⟨i_21, g12, h⟩ := h
    replace h := ob h
    obtain ⟨w13, g14, h⟩ := h
    replace h := ob h
    obtain ⟨v_20, g15, h⟩ := h
    by_cases c16 : v_20 = 0
    · replace h := (if_pos c16).symm.trans h
      replace h := ob h
      obtain ⟨v_24, g17, h⟩ := h
      replace h := ob h
      obtain ⟨v_25, g18, h⟩ := h
      replace h := ob h
      obtain ⟨i_27, g19, h⟩ := h
      replace h := ob h
      obtain ⟨w20, g21, h⟩ := h
      replace h := ob h
      obtain ⟨cs_26, g22, h⟩ := h
      have s23 := hs_c_X9_refuse s4.1 g22
      have s26 := hs_c_X0_checkInner_b37 hT s23.1 h
      refine ⟨s26.1, fun z => ?_⟩
      obtain ⟨z9, e9⟩ := s26.2 z
      obtain ⟨z25, e24⟩ := s23.2 z9
      obtain ⟨z6, e5⟩ := s4.2 z25
      refine ⟨z6, ?_⟩
      unfold cb_X0_checkInner
      refine (bd_s (sgck g2)).trans ?_
      refine (bd_s (e5)).trans ?_
      refine (bd_s (sgck g8)).trans ?_
      refine (bd_s (sv_c_X0_isFaulty g9)).trans ?_
      refine (if_pos c10).trans ?_
      refine (bd_s (sgR g11)).trans ?_
      refine (bd_s (g12)).trans ?_
      refine (bd_s (sgck g14)).trans ?_
      refine (bd_s (sv_c_X2_allNamedApart g15)).trans ?_
      refine (if_pos c16).trans ?_
      refine (bd_s (sgR g17)).trans ?_
      refine (bd_s (sgI (by decide) g18)).trans ?_
      refine (bd_s (g19)).trans ?_
      refine (bd_s (sgck g21)).trans ?_
      refine (bd_s (e24)).trans ?_
      exact e9
    · replace h := (if_neg c16).symm.trans h
      have s27 := hs_c_X0_checkInner_b37 hT s4.1 h
      refine ⟨s27.1, fun z => ?_⟩
      obtain ⟨z9, e9⟩ := s27.2 z
      obtain ⟨z6, e5⟩ := s4.2 z9
      refine ⟨z6, ?_⟩
      unfold cb_X0_checkInner
      refine (bd_s (sgck g2)).trans ?_
      refine (bd_s (e5)).trans ?_
      refine (bd_s (sgck g8)).trans ?_
      refine (bd_s (sv_c_X0_isFaulty g9)).trans ?_
      refine (if_pos c10).trans ?_
      refine (bd_s (sgR g11)).trans ?_
      refine (bd_s (g12)).trans ?_
      refine (bd_s (sgck g14)).trans ?_
      refine (bd_s (sv_c_X2_allNamedApart g15)).trans ?_
      refine (if_neg c16).trans ?_
      exact e9
  · replace h := (if_neg c10).symm.trans h
    rw [← Option.some.inj h]
    refine ⟨s4.1, fun z => ?_⟩
    obtain ⟨z6, e5⟩ := s4.2 z
    refine ⟨z6, ?_⟩
    unfold cb_X0_checkInner
    refine (bd_s (sgck g2)).trans ?_
    refine (bd_s (e5)).trans ?_
    refine (bd_s (sgck g8)).trans ?_
    refine (bd_s (sv_c_X0_isFaulty g9)).trans ?_
    refine (if_neg c10).trans ?_
    rfl
theorem hs_tab {n9 : Int32} {a9 : Nat → Int32} {s9 k9 t9 : Nat} (F : Nat) : ∀ n, HT_TC_X0_checkQuery n9 a9 s9 k9 t9 (tabc_X0_checkQuery F n)
  | 0 => ⟨fun _ _ _ _ h => (by cases (show (none : Option CS) = _ from h)), fun _ _ _ _ h => (by cases (show (none : Option CS) = _ from h)), fun _ _ _ _ _ h => (by cases (show (none : Option CS) = _ from h)), fun _ _ _ _ _ h => (by cases (show (none : Option CS) = _ from h))⟩
  | n + 1 => ⟨fun _ _ _ H h => hs_cb_X0_checkQuery (hs_tab F n) H h, fun _ _ _ H h => hs_cb_X0_checkSelect (hs_tab F n) H h, fun _ _ _ _ H h => hs_cb_X0_checkSource (hs_tab F n) H h, fun _ _ _ _ H h => hs_cb_X0_checkInner (hs_tab F n) H h⟩
theorem hs_c_X0_checkQuery {n9 : Int32} {a9 : Nat → Int32} {s9 k9 t9 : Nat} {F n : Nat} {cs cs9 : CS} {x1 : Nat} (H : SGH n9 a9 s9 k9 t9 cs) (h : c_X0_checkQuery F n cs k9 x1 = some cs9) : HSG n9 a9 s9 k9 t9 cs cs9 (c_X0_checkQuery F n (sgX n9 a9 cs) k9 x1 = some (sgX n9 a9 cs9)) := (hs_tab F n).1 _ _ _ H h

/-! the reference's parser: what it may write -/
def exR (k : Nat) : Prop := (18 ≤ k ∧ k ≤ 33) ∨ k = 42 ∨ k = 43 ∨ (70 ≤ k ∧ k ≤ 75)
def FE_TG_expr (T : TG_expr) : Prop := (∀ (cs : RS) (cs9 : RS) (r9 : Int32), T.1 cs = some (cs9, r9) → FR exR cs cs9) ∧ (∀ (cs : RS) (cs9 : RS) (r9 : Int32), T.2.1 cs = some (cs9, r9) → FR exR cs cs9) ∧ (∀ (cs : RS) (cs9 : RS) (r9 : Int32), T.2.2.1 cs = some (cs9, r9) → FR exR cs cs9) ∧ (∀ (cs : RS) (cs9 : RS) (r9 : Int32), T.2.2.2.1 cs = some (cs9, r9) → FR exR cs cs9) ∧ (∀ (cs : RS) (cs9 : RS) (r9 : Int32), T.2.2.2.2.1 cs = some (cs9, r9) → FR exR cs cs9) ∧ (∀ (cs : RS) (cs9 : RS) (r9 : Int32), T.2.2.2.2.2.1 cs = some (cs9, r9) → FR exR cs cs9) ∧ (∀ (cs : RS) (cs9 : RS) (r9 : Int32), T.2.2.2.2.2.2.1 cs = some (cs9, r9) → FR exR cs cs9) ∧ (∀ (cs : RS) (cs9 : RS) (r9 : Int32), T.2.2.2.2.2.2.2.1 cs = some (cs9, r9) → FR exR cs cs9) ∧ (∀ (cs : RS) (a1 : Int32) (cs9 : RS) (r9 : Int32), T.2.2.2.2.2.2.2.2 cs a1 = some (cs9, r9) → FR exR cs cs9)
theorem fe_m_tell_b22 {F : Nat} {cs1 : RS} {cs9 : RS} (h : m_tell_b22 F cs1 = some cs9) : FR exR cs1 cs9 := by
  unfold m_tell_b22 at h
  exact (FR.refl cs1).to (Option.some.inj h)
theorem fe_m_tell {F : Nat} {cs : RS} {x1 : Int32} {x2 : Int32} {cs9 : RS} (h : m_tell F cs x1 x2 = some cs9) : FR exR cs cs9 := by
  unfold m_tell at h
  rcases ite_or h with h | h
  · exact (FR.refl cs).trans (fe_m_tell_b22 h)
  · exact ((((FR.refl cs).trans (FR.setF (by unfold exR; omega))).trans (FR.setF (by unfold exR; omega))).trans (FR.setF (by unfold exR; omega))).trans (fe_m_tell_b22 h)
theorem fe_m_wrong {F : Nat} {cs : RS} {cs9 : RS} (h : m_wrong F cs = some cs9) : FR exR cs cs9 := by
  unfold m_wrong at h
  replace h := ob h
  obtain ⟨v_1, g1, h⟩ := h
  replace h := ob h
  obtain ⟨cs_2, g2, h⟩ := h
  have q3 : FR exR cs cs_2 := (FR.refl cs).trans (fe_m_tell g2)
  exact (q3).to (Option.some.inj h)
theorem fe_m_takeWord_b20 {F : Nat} {x1 : Nat} {cs1 : RS} {u2 : Int32} {y0 : Int32} {y1 : Int32} {cs9 : RS} {r9 : Int32} (h : m_takeWord_b20 F x1 cs1 u2 y0 y1 = some (cs9, r9)) : FR exR cs1 cs9 := by
  unfold m_takeWord_b20 at h
  replace h := ob h
  obtain ⟨_, g1, h⟩ := h
  exact ((FR.refl cs1).trans (FR.setF (by unfold exR; omega))).to (Prod.mk.inj (Option.some.inj h)).1
theorem fe_m_takeWord {F : Nat} {cs : RS} {x1 : Nat} {cs9 : RS} {r9 : Int32} (h : m_takeWord F cs x1 = some (cs9, r9)) : FR exR cs cs9 := by
  unfold m_takeWord at h
  replace h := ob h
  obtain ⟨v_2, g1, h⟩ := h
  rcases ite_or h with h | h
  · exact (FR.refl cs).trans (fe_m_takeWord_b20 h)
  · exact (FR.refl cs).trans (fe_m_takeWord_b20 h)
theorem fe_m_needWord_b12 {F : Nat} {x1 : Nat} {cs1 : RS} {cs9 : RS} (h : m_needWord_b12 F x1 cs1 = some cs9) : FR exR cs1 cs9 := by
  unfold m_needWord_b12 at h
  exact (FR.refl cs1).to (Option.some.inj h)
theorem fe_m_needWord {F : Nat} {cs : RS} {x1 : Nat} {cs9 : RS} (h : m_needWord F cs x1 = some cs9) : FR exR cs cs9 := by
  unfold m_needWord at h
  replace h := ob h
  obtain ⟨z_1, g1, h⟩ := h
  have q2 : FR exR cs z_1.1 := (FR.refl cs).trans (fe_m_takeWord g1)
  rcases ite_or h with h | h
  · replace h := ob h
    obtain ⟨cs_3, g3, h⟩ := h
    have q4 : FR exR cs cs_3 := (q2).trans (fe_m_wrong g3)
    exact (q4).trans (fe_m_needWord_b12 h)
  · exact (q2).trans (fe_m_needWord_b12 h)
theorem fe_m_takeSign_b20 {F : Nat} {cs1 : RS} {u2 : Int32} {y0 : Int32} {y1 : Int32} {cs9 : RS} {r9 : Int32} (h : m_takeSign_b20 F cs1 u2 y0 y1 = some (cs9, r9)) : FR exR cs1 cs9 := by
  unfold m_takeSign_b20 at h
  replace h := ob h
  obtain ⟨_, g1, h⟩ := h
  exact ((FR.refl cs1).trans (FR.setF (by unfold exR; omega))).to (Prod.mk.inj (Option.some.inj h)).1
theorem fe_m_takeSign {F : Nat} {cs : RS} {x1 : Int32} {cs9 : RS} {r9 : Int32} (h : m_takeSign F cs x1 = some (cs9, r9)) : FR exR cs cs9 := by
  unfold m_takeSign at h
  replace h := ob h
  obtain ⟨v_2, g1, h⟩ := h
  rcases ite_or h with h | h
  · exact (FR.refl cs).trans (fe_m_takeSign_b20 h)
  · exact (FR.refl cs).trans (fe_m_takeSign_b20 h)
theorem fe_m_needSign_b12 {F : Nat} {cs1 : RS} {cs9 : RS} (h : m_needSign_b12 F cs1 = some cs9) : FR exR cs1 cs9 := by
  unfold m_needSign_b12 at h
  exact (FR.refl cs1).to (Option.some.inj h)
theorem fe_m_needSign {F : Nat} {cs : RS} {x1 : Int32} {cs9 : RS} (h : m_needSign F cs x1 = some cs9) : FR exR cs cs9 := by
  unfold m_needSign at h
  replace h := ob h
  obtain ⟨z_1, g1, h⟩ := h
  have q2 : FR exR cs z_1.1 := (FR.refl cs).trans (fe_m_takeSign g1)
  rcases ite_or h with h | h
  · replace h := ob h
    obtain ⟨cs_3, g3, h⟩ := h
    have q4 : FR exR cs cs_3 := (q2).trans (fe_m_wrong g3)
    exact (q4).trans (fe_m_needSign_b12 h)
  · exact (q2).trans (fe_m_needSign_b12 h)
theorem fe_m_name {F : Nat} {cs : RS} {cs9 : RS} {r9 : Int32} (h : m_name F cs = some (cs9, r9)) : FR exR cs cs9 := by
  unfold m_name at h
  replace h := ob h
  obtain ⟨v_1, g1, h⟩ := h
  rcases ite_or h with h | h
  · replace h := ob h
    obtain ⟨cs_3, g2, h⟩ := h
    have q3 : FR exR cs cs_3 := (FR.refl cs).trans (fe_m_wrong g2)
    exact (q3).to (Prod.mk.inj (Option.some.inj h)).1
  · exact ((FR.refl cs).trans (FR.setF (by unfold exR; omega))).to (Prod.mk.inj (Option.some.inj h)).1
theorem fe_m_deeper_b26 {F : Nat} {cs1 : RS} {cs9 : RS} (h : m_deeper_b26 F cs1 = some cs9) : FR exR cs1 cs9 := by
  unfold m_deeper_b26 at h
  exact (FR.refl cs1).to (Option.some.inj h)
theorem fe_m_deeper {F : Nat} {cs : RS} {x1 : Int32} {cs9 : RS} (h : m_deeper F cs x1 = some cs9) : FR exR cs cs9 := by
  unfold m_deeper at h
  rcases ite_or h with h | h
  · exact ((FR.refl cs).trans (FR.setF (by unfold exR; omega))).trans (fe_m_deeper_b26 h)
  · replace h := ob h
    obtain ⟨cs_2, g1, h⟩ := h
    have q2 : FR exR cs cs_2 := ((FR.refl cs).trans (FR.setF (by unfold exR; omega))).trans (fe_m_tell g1)
    exact (q2).trans (fe_m_deeper_b26 h)
theorem fe_m_make {F : Nat} {cs : RS} {x1 : Int32} {x2 : Int32} {x3 : Int32} {x4 : Int32} {x5 : Int32} {x6 : Int32} {cs9 : RS} {r9 : Int32} (h : m_make F cs x1 x2 x3 x4 x5 x6 = some (cs9, r9)) : FR exR cs cs9 := by
  unfold m_make at h
  rcases ite_or h with h | h
  · exact (FR.refl cs).to (Prod.mk.inj (Option.some.inj h)).1
  · rcases ite_or h with h | h
    · replace h := ob h
      obtain ⟨cs_12, g1, h⟩ := h
      have q2 : FR exR cs cs_12 := (FR.refl cs).trans (fe_m_tell g1)
      exact (q2).to (Prod.mk.inj (Option.some.inj h)).1
    · replace h := ob h
      obtain ⟨cs_3, g3, h⟩ := h
      have q4 : FR exR cs cs_3 := ((FR.refl cs).trans (FR.setF (by unfold exR; omega))).trans (fw_I (by unfold exR; omega) g3)
      replace h := ob h
      obtain ⟨cs_4, g5, h⟩ := h
      have q6 : FR exR cs cs_4 := (q4).trans (fw_I (by unfold exR; omega) g5)
      replace h := ob h
      obtain ⟨cs_5, g7, h⟩ := h
      have q8 : FR exR cs cs_5 := (q6).trans (fw_I (by unfold exR; omega) g7)
      replace h := ob h
      obtain ⟨cs_6, g9, h⟩ := h
      have q10 : FR exR cs cs_6 := (q8).trans (fw_I (by unfold exR; omega) g9)
      replace h := ob h
      obtain ⟨cs_7, g11, h⟩ := h
      have q12 : FR exR cs cs_7 := (q10).trans (fw_I (by unfold exR; omega) g11)
      replace h := ob h
      obtain ⟨cs_8, g13, h⟩ := h
      have q14 : FR exR cs cs_8 := (q12).trans (fw_L (by unfold exR; omega) g13)
      replace h := ob h
      obtain ⟨cs_9, g15, h⟩ := h
      have q16 : FR exR cs cs_9 := (q14).trans (fw_I (by unfold exR; omega) g15)
      replace h := ob h
      obtain ⟨cs_10, g17, h⟩ := h
      have q18 : FR exR cs cs_10 := (q16).trans (fw_I (by unfold exR; omega) g17)
      replace h := ob h
      obtain ⟨cs_11, g19, h⟩ := h
      have q20 : FR exR cs cs_11 := (q18).trans (fw_I (by unfold exR; omega) g19)
      exact (q20).to (Prod.mk.inj (Option.some.inj h)).1
theorem fe_m_columnOf_b56 {F : Nat} {cs1 : RS} {u1 : Int32} {u2 : Int32} {u3 : Int32} {cs9 : RS} {r9 : Int32} (h : m_columnOf_b56 F cs1 u1 u2 u3 = some (cs9, r9)) : FR exR cs1 cs9 := by
  unfold m_columnOf_b56 at h
  replace h := ob h
  obtain ⟨z_1, g1, h⟩ := h
  have q2 : FR exR cs1 z_1.1 := (FR.refl cs1).trans (fe_m_make g1)
  replace h := ob h
  obtain ⟨cs_2, g3, h⟩ := h
  have q4 : FR exR cs1 cs_2 := (q2).trans (fw_I (by unfold exR; omega) g3)
  replace h := ob h
  obtain ⟨cs_3, g5, h⟩ := h
  have q6 : FR exR cs1 cs_3 := (q4).trans (fw_I (by unfold exR; omega) g5)
  exact (q6).to (Prod.mk.inj (Option.some.inj h)).1
theorem fe_m_columnOf {F : Nat} {cs : RS} {x1 : Int32} {cs9 : RS} {r9 : Int32} (h : m_columnOf F cs x1 = some (cs9, r9)) : FR exR cs cs9 := by
  unfold m_columnOf at h
  replace h := ob h
  obtain ⟨z_4, g1, h⟩ := h
  have q2 : FR exR cs z_4.1 := (FR.refl cs).trans (fe_m_takeWord g1)
  rcases ite_or h with h | h
  · replace h := ob h
    obtain ⟨z_6, g3, h⟩ := h
    have q4 : FR exR cs z_6.1 := (q2).trans (fe_m_name g3)
    replace h := ob h
    obtain ⟨z_7, g5, h⟩ := h
    have q6 : FR exR cs z_7.1 := (q4).trans (fe_m_takeSign g5)
    rcases ite_or h with h | h
    · exact (q6).trans (fe_m_columnOf_b56 h)
    · replace h := ob h
      obtain ⟨z_9, g7, h⟩ := h
      have q8 : FR exR cs z_9.1 := (q6).trans (fe_m_takeWord g7)
      rcases ite_or h with h | h
      · replace h := ob h
        obtain ⟨z_11, g9, h⟩ := h
        have q10 : FR exR cs z_11.1 := (q8).trans (fe_m_name g9)
        exact (q10).trans (fe_m_columnOf_b56 h)
      · exact (q8).trans (fe_m_columnOf_b56 h)
  · exact (q2).trans (fe_m_columnOf_b56 h)
theorem fe_m_expr_b69 {F : Nat} {T : TG_expr} {cs1 : RS} {u1 : Int32} {u2 : Int32} {cs9 : RS} {r9 : Int32} (hT : FE_TG_expr T) (h : m_expr_b69 F T cs1 u1 u2 = some (cs9, r9)) : FR exR cs1 cs9 := by
  unfold m_expr_b69 at h
  exact ((FR.refl cs1).trans (FR.setF (by unfold exR; omega))).to (Prod.mk.inj (Option.some.inj h)).1
theorem fe_m_expr_L10 {F : Nat} {T : TG_expr} (hT : FE_TG_expr T) : ∀ (lf : Nat) (cs1 : RS) (u1 : Int32) (u2 : Int32) (cs9 : RS) (r9 : Int32), m_expr_L10 F T lf cs1 u1 u2 = some (cs9, r9) → FR exR cs1 cs9 := by
  intro lf
  induction lf with
  | zero => intro cs1 u1 u2 cs9 r9 h; cases (show (none : Option (RS × Int32)) = _ from h)
  | succ lf ih =>
    intro cs1 u1 u2 cs9 r9 h
    rw [m_expr_L10] at h
    rcases ite_or h with h | h
    · exact (FR.refl cs1).trans (fe_m_expr_b69 hT h)
    · replace h := ob h
      obtain ⟨v_2, g1, h⟩ := h
      rcases ite_or h with h | h
      · exact (FR.refl cs1).trans (fe_m_expr_b69 hT h)
      · replace h := ob h
        obtain ⟨v_4, g2, h⟩ := h
        replace h := ob h
        obtain ⟨z_5, g3, h⟩ := h
        have q4 : FR exR cs1 z_5.1 := ((FR.refl cs1).trans (FR.setF (by unfold exR; omega))).trans (hT.2.1 _ _ _ g3)
        replace h := ob h
        obtain ⟨z_6, g5, h⟩ := h
        have q6 : FR exR cs1 z_6.1 := (q4).trans (fe_m_make g5)
        exact (q6).trans (ih _ _ _ _ _ h)
theorem fe_b_expr {F : Nat} {T : TG_expr} {cs : RS} {cs9 : RS} {r9 : Int32} (hT : FE_TG_expr T) (h : b_expr F T cs = some (cs9, r9)) : FR exR cs cs9 := by
  unfold b_expr at h
  replace h := ob h
  obtain ⟨z_7, g1, h⟩ := h
  have q2 : FR exR cs z_7.1 := (FR.refl cs).trans (hT.2.1 _ _ _ g1)
  exact (q2).trans (fe_m_expr_L10 hT _ _ _ _ _ _ h)
theorem fe_m_andExpr_b69 {F : Nat} {T : TG_expr} {cs1 : RS} {u1 : Int32} {u2 : Int32} {cs9 : RS} {r9 : Int32} (hT : FE_TG_expr T) (h : m_andExpr_b69 F T cs1 u1 u2 = some (cs9, r9)) : FR exR cs1 cs9 := by
  unfold m_andExpr_b69 at h
  exact ((FR.refl cs1).trans (FR.setF (by unfold exR; omega))).to (Prod.mk.inj (Option.some.inj h)).1
theorem fe_m_andExpr_L10 {F : Nat} {T : TG_expr} (hT : FE_TG_expr T) : ∀ (lf : Nat) (cs1 : RS) (u1 : Int32) (u2 : Int32) (cs9 : RS) (r9 : Int32), m_andExpr_L10 F T lf cs1 u1 u2 = some (cs9, r9) → FR exR cs1 cs9 := by
  intro lf
  induction lf with
  | zero => intro cs1 u1 u2 cs9 r9 h; cases (show (none : Option (RS × Int32)) = _ from h)
  | succ lf ih =>
    intro cs1 u1 u2 cs9 r9 h
    rw [m_andExpr_L10] at h
    rcases ite_or h with h | h
    · exact (FR.refl cs1).trans (fe_m_andExpr_b69 hT h)
    · replace h := ob h
      obtain ⟨v_2, g1, h⟩ := h
      rcases ite_or h with h | h
      · exact (FR.refl cs1).trans (fe_m_andExpr_b69 hT h)
      · replace h := ob h
        obtain ⟨v_4, g2, h⟩ := h
        replace h := ob h
        obtain ⟨z_5, g3, h⟩ := h
        have q4 : FR exR cs1 z_5.1 := ((FR.refl cs1).trans (FR.setF (by unfold exR; omega))).trans (hT.2.2.1 _ _ _ g3)
        replace h := ob h
        obtain ⟨z_6, g5, h⟩ := h
        have q6 : FR exR cs1 z_6.1 := (q4).trans (fe_m_make g5)
        exact (q6).trans (ih _ _ _ _ _ h)
theorem fe_b_andExpr {F : Nat} {T : TG_expr} {cs : RS} {cs9 : RS} {r9 : Int32} (hT : FE_TG_expr T) (h : b_andExpr F T cs = some (cs9, r9)) : FR exR cs cs9 := by
  unfold b_andExpr at h
  replace h := ob h
  obtain ⟨z_7, g1, h⟩ := h
  have q2 : FR exR cs z_7.1 := (FR.refl cs).trans (hT.2.2.1 _ _ _ g1)
  exact (q2).trans (fe_m_andExpr_L10 hT _ _ _ _ _ _ h)
theorem fe_m_notExpr_b55 {F : Nat} {T : TG_expr} {cs1 : RS} {u1 : Int32} {y0 : Int32} {cs9 : RS} {r9 : Int32} (hT : FE_TG_expr T) (h : m_notExpr_b55 F T cs1 u1 y0 = some (cs9, r9)) : FR exR cs1 cs9 := by
  unfold m_notExpr_b55 at h
  replace h := ob h
  obtain ⟨z_1, g1, h⟩ := h
  have q2 : FR exR cs1 z_1.1 := ((FR.refl cs1).trans (FR.setF (by unfold exR; omega))).trans (fe_m_make g1)
  exact ((q2).trans (FR.setF (by unfold exR; omega))).to (Prod.mk.inj (Option.some.inj h)).1
theorem fe_b_notExpr {F : Nat} {T : TG_expr} {cs : RS} {cs9 : RS} {r9 : Int32} (hT : FE_TG_expr T) (h : b_notExpr F T cs = some (cs9, r9)) : FR exR cs cs9 := by
  unfold b_notExpr at h
  replace h := ob h
  obtain ⟨v_2, g1, h⟩ := h
  rcases ite_or h with h | h
  · replace h := ob h
    obtain ⟨z_8, g2, h⟩ := h
    have q3 : FR exR cs z_8.1 := (FR.refl cs).trans (hT.2.2.2.1 _ _ _ g2)
    exact (q3).to (Prod.mk.inj (Option.some.inj h)).1
  · replace h := ob h
    obtain ⟨v_4, g4, h⟩ := h
    replace h := ob h
    obtain ⟨cs_5, g5, h⟩ := h
    have q6 : FR exR cs cs_5 := (FR.refl cs).trans (fe_m_deeper g5)
    rcases ite_or h with h | h
    · exact ((q6).trans (FR.setF (by unfold exR; omega))).trans (fe_m_notExpr_b55 hT h)
    · replace h := ob h
      obtain ⟨z_7, g7, h⟩ := h
      have q8 : FR exR cs z_7.1 := ((q6).trans (FR.setF (by unfold exR; omega))).trans (hT.2.2.1 _ _ _ g7)
      exact (q8).trans (fe_m_notExpr_b55 hT h)
theorem fe_m_test_b371 {F : Nat} {T : TG_expr} {cs1 : RS} {u1 : Int32} {u2 : Int32} {cs9 : RS} {r9 : Int32} (hT : FE_TG_expr T) (h : m_test_b371 F T cs1 u1 u2 = some (cs9, r9)) : FR exR cs1 cs9 := by
  unfold m_test_b371 at h
  exact ((FR.refl cs1).trans (FR.setF (by unfold exR; omega))).to (Prod.mk.inj (Option.some.inj h)).1
theorem fe_m_test_b83 {F : Nat} {T : TG_expr} {cs1 : RS} {u1 : Int32} {u2 : Int32} {u3 : Int32} {u4 : Int32} {cs9 : RS} {r9 : Int32} (hT : FE_TG_expr T) (h : m_test_b83 F T cs1 u1 u2 u3 u4 = some (cs9, r9)) : FR exR cs1 cs9 := by
  unfold m_test_b83 at h
  replace h := ob h
  obtain ⟨z_1, g1, h⟩ := h
  have q2 : FR exR cs1 z_1.1 := ((FR.refl cs1).trans (FR.setF (by unfold exR; omega))).trans (hT.2.2.2.2.1 _ _ _ g1)
  replace h := ob h
  obtain ⟨z_2, g3, h⟩ := h
  have q4 : FR exR cs1 z_2.1 := (q2).trans (fe_m_make g3)
  replace h := ob h
  obtain ⟨cs_3, g5, h⟩ := h
  have q6 : FR exR cs1 cs_3 := (q4).trans (fw_I (by unfold exR; omega) g5)
  exact (q6).trans (fe_m_test_b371 hT h)
theorem fe_m_test_b176 {F : Nat} {T : TG_expr} {cs1 : RS} {u1 : Int32} {u2 : Int32} {y0 : Int32} {y1 : Int32} {cs9 : RS} {r9 : Int32} (hT : FE_TG_expr T) (h : m_test_b176 F T cs1 u1 u2 y0 y1 = some (cs9, r9)) : FR exR cs1 cs9 := by
  unfold m_test_b176 at h
  replace h := ob h
  obtain ⟨cs_4, g1, h⟩ := h
  have q2 : FR exR cs1 cs_4 := (FR.refl cs1).trans (fw_I (by unfold exR; omega) g1)
  exact (q2).trans (fe_m_test_b371 hT h)
theorem fe_m_test_b370 {F : Nat} {T : TG_expr} {cs1 : RS} {u1 : Int32} {u2 : Int32} {y0 : Int32} {y1 : Int32} {cs9 : RS} {r9 : Int32} (hT : FE_TG_expr T) (h : m_test_b370 F T cs1 u1 u2 y0 y1 = some (cs9, r9)) : FR exR cs1 cs9 := by
  unfold m_test_b370 at h
  replace h := ob h
  obtain ⟨cs_5, g1, h⟩ := h
  have q2 : FR exR cs1 cs_5 := (FR.refl cs1).trans (fw_I (by unfold exR; omega) g1)
  exact (q2).trans (fe_m_test_b371 hT h)
theorem fe_m_test_b336 {F : Nat} {T : TG_expr} {cs1 : RS} {u1 : Int32} {u2 : Int32} {u3 : Int32} {u5 : Int32} {u6 : Int32} {cs9 : RS} {r9 : Int32} (hT : FE_TG_expr T) (h : m_test_b336 F T cs1 u1 u2 u3 u5 u6 = some (cs9, r9)) : FR exR cs1 cs9 := by
  unfold m_test_b336 at h
  replace h := ob h
  obtain ⟨cs_6, g1, h⟩ := h
  have q2 : FR exR cs1 cs_6 := (FR.refl cs1).trans (fe_m_needSign g1)
  replace h := ob h
  obtain ⟨z_7, g3, h⟩ := h
  have q4 : FR exR cs1 z_7.1 := (q2).trans (fe_m_make g3)
  rcases ite_or h with h | h
  · exact (q4).trans (fe_m_test_b370 hT h)
  · exact (q4).trans (fe_m_test_b370 hT h)
theorem fe_m_test_b321 {F : Nat} {T : TG_expr} {rc234 : RS → Int32 → Int32 → Int32 → Int32 → Int32 → Int32 → Int32 → Int32 → Option (RS × Int32)} {cs1 : RS} {u1 : Int32} {u2 : Int32} {u3 : Int32} {u5 : Int32} {u6 : Int32} {u8 : Int32} {u10 : Int32} {cs9 : RS} {r9 : Int32} (hT : FE_TG_expr T) (hrc234 : ∀ (cs1 : RS) (a1 : Int32) (a2 : Int32) (a3 : Int32) (a4 : Int32) (a5 : Int32) (a6 : Int32) (a7 : Int32) (a8 : Int32) (cs9 : RS) (r9 : Int32), rc234 cs1 a1 a2 a3 a4 a5 a6 a7 a8 = some (cs9, r9) → FR exR cs1 cs9) (h : m_test_b321 F T rc234 cs1 u1 u2 u3 u5 u6 u8 u10 = some (cs9, r9)) : FR exR cs1 cs9 := by
  unfold m_test_b321 at h
  replace h := ob h
  obtain ⟨z_9, g1, h⟩ := h
  have q2 : FR exR cs1 z_9.1 := (FR.refl cs1).trans (fe_m_takeSign g1)
  exact (q2).trans (hrc234 _ _ _ _ _ _ _ _ _ _ _ h)
theorem fe_m_test_b305 {F : Nat} {T : TG_expr} {rc234 : RS → Int32 → Int32 → Int32 → Int32 → Int32 → Int32 → Int32 → Int32 → Option (RS × Int32)} {cs1 : RS} {u1 : Int32} {u2 : Int32} {u3 : Int32} {u5 : Int32} {u6 : Int32} {u7 : Int32} {u8 : Int32} {u10 : Int32} {cs9 : RS} {r9 : Int32} (hT : FE_TG_expr T) (hrc234 : ∀ (cs1 : RS) (a1 : Int32) (a2 : Int32) (a3 : Int32) (a4 : Int32) (a5 : Int32) (a6 : Int32) (a7 : Int32) (a8 : Int32) (cs9 : RS) (r9 : Int32), rc234 cs1 a1 a2 a3 a4 a5 a6 a7 a8 = some (cs9, r9) → FR exR cs1 cs9) (h : m_test_b305 F T rc234 cs1 u1 u2 u3 u5 u6 u7 u8 u10 = some (cs9, r9)) : FR exR cs1 cs9 := by
  unfold m_test_b305 at h
  rcases ite_or h with h | h
  · exact (FR.refl cs1).trans (fe_m_test_b321 hT hrc234 h)
  · replace h := ob h
    obtain ⟨cs_11, g1, h⟩ := h
    have q2 : FR exR cs1 cs_11 := (FR.refl cs1).trans (fw_I (by unfold exR; omega) g1)
    exact (q2).trans (fe_m_test_b321 hT hrc234 h)
theorem fe_m_test_b279 {F : Nat} {T : TG_expr} {rc234 : RS → Int32 → Int32 → Int32 → Int32 → Int32 → Int32 → Int32 → Int32 → Option (RS × Int32)} {cs1 : RS} {u1 : Int32} {u2 : Int32} {u3 : Int32} {u5 : Int32} {u6 : Int32} {u7 : Int32} {u8 : Int32} {cs9 : RS} {r9 : Int32} (hT : FE_TG_expr T) (hrc234 : ∀ (cs1 : RS) (a1 : Int32) (a2 : Int32) (a3 : Int32) (a4 : Int32) (a5 : Int32) (a6 : Int32) (a7 : Int32) (a8 : Int32) (cs9 : RS) (r9 : Int32), rc234 cs1 a1 a2 a3 a4 a5 a6 a7 a8 = some (cs9, r9) → FR exR cs1 cs9) (h : m_test_b279 F T rc234 cs1 u1 u2 u3 u5 u6 u7 u8 = some (cs9, r9)) : FR exR cs1 cs9 := by
  unfold m_test_b279 at h
  replace h := ob h
  obtain ⟨z_12, g1, h⟩ := h
  have q2 : FR exR cs1 z_12.1 := (FR.refl cs1).trans (hT.2.2.2.2.1 _ _ _ g1)
  rcases ite_or h with h | h
  · exact (q2).trans (fe_m_test_b305 hT hrc234 h)
  · rcases ite_or h with h | h
    · exact (q2).trans (fe_m_test_b321 hT hrc234 h)
    · exact (q2).trans (fe_m_test_b305 hT hrc234 h)
theorem fe_m_test_L234 {F : Nat} {T : TG_expr} (hT : FE_TG_expr T) : ∀ (lf : Nat) (cs1 : RS) (u1 : Int32) (u2 : Int32) (u3 : Int32) (u5 : Int32) (u6 : Int32) (u7 : Int32) (u8 : Int32) (u9 : Int32) (cs9 : RS) (r9 : Int32), m_test_L234 F T lf cs1 u1 u2 u3 u5 u6 u7 u8 u9 = some (cs9, r9) → FR exR cs1 cs9 := by
  intro lf
  induction lf with
  | zero => intro cs1 u1 u2 u3 u5 u6 u7 u8 u9 cs9 r9 h; cases (show (none : Option (RS × Int32)) = _ from h)
  | succ lf ih =>
    intro cs1 u1 u2 u3 u5 u6 u7 u8 u9 cs9 r9 h
    rw [m_test_L234] at h
    rcases ite_or h with h | h
    · exact (FR.refl cs1).trans (fe_m_test_b336 hT h)
    · rcases ite_or h with h | h
      · exact (FR.refl cs1).trans (fe_m_test_b336 hT h)
      · rcases ite_or h with h | h
        · replace h := ob h
          obtain ⟨v_18, g1, h⟩ := h
          rcases ite_or h with h | h
          · exact (FR.refl cs1).trans (fe_m_test_b279 hT ih h)
          · replace h := ob h
            obtain ⟨v_20, g2, h⟩ := h
            replace h := ob h
            obtain ⟨cs_21, g3, h⟩ := h
            have q4 : FR exR cs1 cs_21 := (FR.refl cs1).trans (fe_m_tell g3)
            exact (q4).trans (fe_m_test_b279 hT ih h)
        · exact (FR.refl cs1).trans (fe_m_test_b279 hT ih h)
theorem fe_m_test_b200 {F : Nat} {T : TG_expr} {cs1 : RS} {u1 : Int32} {u2 : Int32} {u3 : Int32} {cs9 : RS} {r9 : Int32} (hT : FE_TG_expr T) (h : m_test_b200 F T cs1 u1 u2 u3 = some (cs9, r9)) : FR exR cs1 cs9 := by
  unfold m_test_b200 at h
  replace h := ob h
  obtain ⟨z_22, g1, h⟩ := h
  have q2 : FR exR cs1 z_22.1 := (FR.refl cs1).trans (fe_m_takeWord g1)
  replace h := ob h
  obtain ⟨cs_23, g3, h⟩ := h
  have q4 : FR exR cs1 cs_23 := (q2).trans (fe_m_needWord g3)
  replace h := ob h
  obtain ⟨cs_24, g5, h⟩ := h
  have q6 : FR exR cs1 cs_24 := (q4).trans (fe_m_needSign g5)
  exact (q6).trans (fe_m_test_L234 hT _ _ _ _ _ _ _ _ _ _ _ _ h)
theorem fe_m_test_b123 {F : Nat} {T : TG_expr} {cs1 : RS} {u1 : Int32} {u2 : Int32} {u3 : Int32} {cs9 : RS} {r9 : Int32} (hT : FE_TG_expr T) (h : m_test_b123 F T cs1 u1 u2 u3 = some (cs9, r9)) : FR exR cs1 cs9 := by
  unfold m_test_b123 at h
  replace h := ob h
  obtain ⟨z_25, g1, h⟩ := h
  have q2 : FR exR cs1 z_25.1 := (FR.refl cs1).trans (fe_m_takeWord g1)
  rcases ite_or h with h | h
  · replace h := ob h
    obtain ⟨v_27, g3, h⟩ := h
    rcases ite_or h with h | h
    · replace h := ob h
      obtain ⟨v_29, g4, h⟩ := h
      rcases ite_or h with h | h
      · exact (q2).trans (fe_m_test_b371 hT h)
      · exact (q2).trans (fe_m_test_b200 hT h)
    · exact (q2).trans (fe_m_test_b200 hT h)
  · replace h := ob h
    obtain ⟨z_31, g5, h⟩ := h
    have q6 : FR exR cs1 z_31.1 := (q2).trans (fe_m_takeWord g5)
    replace h := ob h
    obtain ⟨cs_32, g7, h⟩ := h
    have q8 : FR exR cs1 cs_32 := (q6).trans (fe_m_needWord g7)
    replace h := ob h
    obtain ⟨z_33, g9, h⟩ := h
    have q10 : FR exR cs1 z_33.1 := (q8).trans (fe_m_make g9)
    rcases ite_or h with h | h
    · exact (q10).trans (fe_m_test_b176 hT h)
    · exact (q10).trans (fe_m_test_b176 hT h)
theorem fe_b_test {F : Nat} {T : TG_expr} {cs : RS} {cs9 : RS} {r9 : Int32} (hT : FE_TG_expr T) (h : b_test F T cs = some (cs9, r9)) : FR exR cs cs9 := by
  unfold b_test at h
  replace h := ob h
  obtain ⟨z_35, g1, h⟩ := h
  have q2 : FR exR cs z_35.1 := (FR.refl cs).trans (hT.2.2.2.2.1 _ _ _ g1)
  replace h := ob h
  obtain ⟨v_36, g3, h⟩ := h
  replace h := ob h
  obtain ⟨v_37, g4, h⟩ := h
  rcases ite_or h with h | h
  · exact (q2).trans (fe_m_test_b123 hT h)
  · rcases ite_or h with h | h
    · exact (q2).trans (fe_m_test_b83 hT h)
    · rcases ite_or h with h | h
      · exact (q2).trans (fe_m_test_b83 hT h)
      · rcases ite_or h with h | h
        · exact (q2).trans (fe_m_test_b83 hT h)
        · rcases ite_or h with h | h
          · exact (q2).trans (fe_m_test_b83 hT h)
          · rcases ite_or h with h | h
            · exact (q2).trans (fe_m_test_b83 hT h)
            · rcases ite_or h with h | h
              · exact (q2).trans (fe_m_test_b83 hT h)
              · exact (q2).trans (fe_m_test_b123 hT h)
theorem fe_m_sum_b59 {F : Nat} {T : TG_expr} {rc10 : RS → Int32 → Int32 → Option (RS × Int32)} {cs1 : RS} {u1 : Int32} {u2 : Int32} {u3 : Int32} {y0 : Int32} {cs9 : RS} {r9 : Int32} (hT : FE_TG_expr T) (hrc10 : ∀ (cs1 : RS) (a1 : Int32) (a2 : Int32) (cs9 : RS) (r9 : Int32), rc10 cs1 a1 a2 = some (cs9, r9) → FR exR cs1 cs9) (h : m_sum_b59 F T rc10 cs1 u1 u2 u3 y0 = some (cs9, r9)) : FR exR cs1 cs9 := by
  unfold m_sum_b59 at h
  replace h := ob h
  obtain ⟨z_1, g1, h⟩ := h
  have q2 : FR exR cs1 z_1.1 := ((FR.refl cs1).trans (FR.setF (by unfold exR; omega))).trans (hT.2.2.2.2.2.1 _ _ _ g1)
  replace h := ob h
  obtain ⟨z_2, g3, h⟩ := h
  have q4 : FR exR cs1 z_2.1 := (q2).trans (fe_m_make g3)
  exact (q4).trans (hrc10 _ _ _ _ _ h)
theorem fe_m_sum_b28 {F : Nat} {T : TG_expr} {rc10 : RS → Int32 → Int32 → Option (RS × Int32)} {cs1 : RS} {u1 : Int32} {u2 : Int32} {cs9 : RS} {r9 : Int32} (hT : FE_TG_expr T) (hrc10 : ∀ (cs1 : RS) (a1 : Int32) (a2 : Int32) (cs9 : RS) (r9 : Int32), rc10 cs1 a1 a2 = some (cs9, r9) → FR exR cs1 cs9) (h : m_sum_b28 F T rc10 cs1 u1 u2 = some (cs9, r9)) : FR exR cs1 cs9 := by
  unfold m_sum_b28 at h
  replace h := ob h
  obtain ⟨v_3, g1, h⟩ := h
  replace h := ob h
  obtain ⟨v_4, g2, h⟩ := h
  rcases ite_or h with h | h
  · exact (FR.refl cs1).trans (fe_m_sum_b59 hT hrc10 h)
  · exact (FR.refl cs1).trans (fe_m_sum_b59 hT hrc10 h)
theorem fe_m_sum_L10 {F : Nat} {T : TG_expr} (hT : FE_TG_expr T) : ∀ (lf : Nat) (cs1 : RS) (u1 : Int32) (u2 : Int32) (cs9 : RS) (r9 : Int32), m_sum_L10 F T lf cs1 u1 u2 = some (cs9, r9) → FR exR cs1 cs9 := by
  intro lf
  induction lf with
  | zero => intro cs1 u1 u2 cs9 r9 h; cases (show (none : Option (RS × Int32)) = _ from h)
  | succ lf ih =>
    intro cs1 u1 u2 cs9 r9 h
    rw [m_sum_L10] at h
    replace h := ob h
    obtain ⟨v_6, g1, h⟩ := h
    rcases ite_or h with h | h
    · replace h := ob h
      obtain ⟨v_8, g2, h⟩ := h
      rcases ite_or h with h | h
      · exact ((FR.refl cs1).trans (FR.setF (by unfold exR; omega))).to (Prod.mk.inj (Option.some.inj h)).1
      · exact (FR.refl cs1).trans (fe_m_sum_b28 hT ih h)
    · exact (FR.refl cs1).trans (fe_m_sum_b28 hT ih h)
theorem fe_b_sum {F : Nat} {T : TG_expr} {cs : RS} {cs9 : RS} {r9 : Int32} (hT : FE_TG_expr T) (h : b_sum F T cs = some (cs9, r9)) : FR exR cs cs9 := by
  unfold b_sum at h
  replace h := ob h
  obtain ⟨z_10, g1, h⟩ := h
  have q2 : FR exR cs z_10.1 := (FR.refl cs).trans (hT.2.2.2.2.2.1 _ _ _ g1)
  exact (q2).trans (fe_m_sum_L10 hT _ _ _ _ _ _ h)
theorem fe_m_part_b87 {F : Nat} {T : TG_expr} {rc10 : RS → Int32 → Int32 → Option (RS × Int32)} {cs1 : RS} {u1 : Int32} {u2 : Int32} {u3 : Int32} {y0 : Int32} {cs9 : RS} {r9 : Int32} (hT : FE_TG_expr T) (hrc10 : ∀ (cs1 : RS) (a1 : Int32) (a2 : Int32) (cs9 : RS) (r9 : Int32), rc10 cs1 a1 a2 = some (cs9, r9) → FR exR cs1 cs9) (h : m_part_b87 F T rc10 cs1 u1 u2 u3 y0 = some (cs9, r9)) : FR exR cs1 cs9 := by
  unfold m_part_b87 at h
  replace h := ob h
  obtain ⟨z_1, g1, h⟩ := h
  have q2 : FR exR cs1 z_1.1 := ((FR.refl cs1).trans (FR.setF (by unfold exR; omega))).trans (hT.2.2.2.2.2.2.1 _ _ _ g1)
  replace h := ob h
  obtain ⟨z_2, g3, h⟩ := h
  have q4 : FR exR cs1 z_2.1 := (q2).trans (fe_m_make g3)
  exact (q4).trans (hrc10 _ _ _ _ _ h)
theorem fe_m_part_b37 {F : Nat} {T : TG_expr} {rc10 : RS → Int32 → Int32 → Option (RS × Int32)} {cs1 : RS} {u1 : Int32} {u2 : Int32} {cs9 : RS} {r9 : Int32} (hT : FE_TG_expr T) (hrc10 : ∀ (cs1 : RS) (a1 : Int32) (a2 : Int32) (cs9 : RS) (r9 : Int32), rc10 cs1 a1 a2 = some (cs9, r9) → FR exR cs1 cs9) (h : m_part_b37 F T rc10 cs1 u1 u2 = some (cs9, r9)) : FR exR cs1 cs9 := by
  unfold m_part_b37 at h
  replace h := ob h
  obtain ⟨v_3, g1, h⟩ := h
  replace h := ob h
  obtain ⟨v_4, g2, h⟩ := h
  rcases ite_or h with h | h
  · exact (FR.refl cs1).trans (fe_m_part_b87 hT hrc10 h)
  · replace h := ob h
    obtain ⟨v_6, g3, h⟩ := h
    rcases ite_or h with h | h
    · exact (FR.refl cs1).trans (fe_m_part_b87 hT hrc10 h)
    · exact (FR.refl cs1).trans (fe_m_part_b87 hT hrc10 h)
theorem fe_m_part_L10 {F : Nat} {T : TG_expr} (hT : FE_TG_expr T) : ∀ (lf : Nat) (cs1 : RS) (u1 : Int32) (u2 : Int32) (cs9 : RS) (r9 : Int32), m_part_L10 F T lf cs1 u1 u2 = some (cs9, r9) → FR exR cs1 cs9 := by
  intro lf
  induction lf with
  | zero => intro cs1 u1 u2 cs9 r9 h; cases (show (none : Option (RS × Int32)) = _ from h)
  | succ lf ih =>
    intro cs1 u1 u2 cs9 r9 h
    rw [m_part_L10] at h
    replace h := ob h
    obtain ⟨v_8, g1, h⟩ := h
    rcases ite_or h with h | h
    · replace h := ob h
      obtain ⟨v_10, g2, h⟩ := h
      rcases ite_or h with h | h
      · replace h := ob h
        obtain ⟨v_12, g3, h⟩ := h
        rcases ite_or h with h | h
        · exact ((FR.refl cs1).trans (FR.setF (by unfold exR; omega))).to (Prod.mk.inj (Option.some.inj h)).1
        · exact (FR.refl cs1).trans (fe_m_part_b37 hT ih h)
      · exact (FR.refl cs1).trans (fe_m_part_b37 hT ih h)
    · exact (FR.refl cs1).trans (fe_m_part_b37 hT ih h)
theorem fe_b_part {F : Nat} {T : TG_expr} {cs : RS} {cs9 : RS} {r9 : Int32} (hT : FE_TG_expr T) (h : b_part F T cs = some (cs9, r9)) : FR exR cs cs9 := by
  unfold b_part at h
  replace h := ob h
  obtain ⟨z_14, g1, h⟩ := h
  have q2 : FR exR cs z_14.1 := (FR.refl cs).trans (hT.2.2.2.2.2.2.1 _ _ _ g1)
  exact (q2).trans (fe_m_part_L10 hT _ _ _ _ _ _ h)
theorem fe_m_sign_b54 {F : Nat} {T : TG_expr} {cs1 : RS} {u1 : Int32} {y0 : Int32} {cs9 : RS} {r9 : Int32} (hT : FE_TG_expr T) (h : m_sign_b54 F T cs1 u1 y0 = some (cs9, r9)) : FR exR cs1 cs9 := by
  unfold m_sign_b54 at h
  replace h := ob h
  obtain ⟨z_1, g1, h⟩ := h
  have q2 : FR exR cs1 z_1.1 := ((FR.refl cs1).trans (FR.setF (by unfold exR; omega))).trans (fe_m_make g1)
  exact ((q2).trans (FR.setF (by unfold exR; omega))).to (Prod.mk.inj (Option.some.inj h)).1
theorem fe_b_sign {F : Nat} {T : TG_expr} {cs : RS} {cs9 : RS} {r9 : Int32} (hT : FE_TG_expr T) (h : b_sign F T cs = some (cs9, r9)) : FR exR cs cs9 := by
  unfold b_sign at h
  replace h := ob h
  obtain ⟨v_2, g1, h⟩ := h
  rcases ite_or h with h | h
  · replace h := ob h
    obtain ⟨z_8, g2, h⟩ := h
    have q3 : FR exR cs z_8.1 := (FR.refl cs).trans (hT.2.2.2.2.2.2.2.1 _ _ _ g2)
    exact (q3).to (Prod.mk.inj (Option.some.inj h)).1
  · replace h := ob h
    obtain ⟨v_4, g4, h⟩ := h
    replace h := ob h
    obtain ⟨cs_5, g5, h⟩ := h
    have q6 : FR exR cs cs_5 := (FR.refl cs).trans (fe_m_deeper g5)
    rcases ite_or h with h | h
    · exact ((q6).trans (FR.setF (by unfold exR; omega))).trans (fe_m_sign_b54 hT h)
    · replace h := ob h
      obtain ⟨z_7, g7, h⟩ := h
      have q8 : FR exR cs z_7.1 := ((q6).trans (FR.setF (by unfold exR; omega))).trans (hT.2.2.2.2.2.2.1 _ _ _ g7)
      exact (q8).trans (fe_m_sign_b54 hT h)
theorem fe_m_one_b493 {F : Nat} {T : TG_expr} {cs1 : RS} {u1 : Int32} {u2 : Int32} {cs9 : RS} {r9 : Int32} (hT : FE_TG_expr T) (h : m_one_b493 F T cs1 u1 u2 = some (cs9, r9)) : FR exR cs1 cs9 := by
  unfold m_one_b493 at h
  exact ((FR.refl cs1).trans (FR.setF (by unfold exR; omega))).to (Prod.mk.inj (Option.some.inj h)).1
theorem fe_m_one_b186 {F : Nat} {T : TG_expr} {cs1 : RS} {u1 : Int32} {y0 : Int32} {cs9 : RS} {r9 : Int32} (hT : FE_TG_expr T) (h : m_one_b186 F T cs1 u1 y0 = some (cs9, r9)) : FR exR cs1 cs9 := by
  unfold m_one_b186 at h
  replace h := ob h
  obtain ⟨cs_1, g1, h⟩ := h
  have q2 : FR exR cs1 cs_1 := ((FR.refl cs1).trans (FR.setF (by unfold exR; omega))).trans (fe_m_needSign g1)
  exact (q2).trans (fe_m_one_b493 hT h)
theorem fe_m_one_b300 {F : Nat} {T : TG_expr} {cs1 : RS} {u1 : Int32} {u3 : Int32} {u4 : Int32} {y0 : Int32} {cs9 : RS} {r9 : Int32} (hT : FE_TG_expr T) (h : m_one_b300 F T cs1 u1 u3 u4 y0 = some (cs9, r9)) : FR exR cs1 cs9 := by
  unfold m_one_b300 at h
  replace h := ob h
  obtain ⟨cs_2, g1, h⟩ := h
  have q2 : FR exR cs1 cs_2 := (FR.refl cs1).trans (fe_m_needWord g1)
  replace h := ob h
  obtain ⟨z_3, g3, h⟩ := h
  have q4 : FR exR cs1 z_3.1 := ((q2).trans (FR.setF (by unfold exR; omega))).trans (fe_m_make g3)
  exact (q4).trans (fe_m_one_b493 hT h)
theorem fe_m_one_b276 {F : Nat} {T : TG_expr} {cs1 : RS} {u1 : Int32} {u3 : Int32} {y0 : Int32} {cs9 : RS} {r9 : Int32} (hT : FE_TG_expr T) (h : m_one_b276 F T cs1 u1 u3 y0 = some (cs9, r9)) : FR exR cs1 cs9 := by
  unfold m_one_b276 at h
  replace h := ob h
  obtain ⟨cs_4, g1, h⟩ := h
  have q2 : FR exR cs1 cs_4 := (FR.refl cs1).trans (fe_m_needWord g1)
  rcases ite_or h with h | h
  · exact (q2).trans (fe_m_one_b300 hT h)
  · replace h := ob h
    obtain ⟨z_6, g3, h⟩ := h
    have q4 : FR exR cs1 z_6.1 := (q2).trans (hT.1 _ _ _ g3)
    exact (q4).trans (fe_m_one_b300 hT h)
theorem fe_m_one_b253 {F : Nat} {T : TG_expr} {cs1 : RS} {u1 : Int32} {y0 : Int32} {cs9 : RS} {r9 : Int32} (hT : FE_TG_expr T) (h : m_one_b253 F T cs1 u1 y0 = some (cs9, r9)) : FR exR cs1 cs9 := by
  unfold m_one_b253 at h
  replace h := ob h
  obtain ⟨cs_7, g1, h⟩ := h
  have q2 : FR exR cs1 cs_7 := (FR.refl cs1).trans (fe_m_needWord g1)
  rcases ite_or h with h | h
  · exact (q2).trans (fe_m_one_b276 hT h)
  · replace h := ob h
    obtain ⟨z_9, g3, h⟩ := h
    have q4 : FR exR cs1 z_9.1 := (q2).trans (hT.1 _ _ _ g3)
    exact (q4).trans (fe_m_one_b276 hT h)
theorem fe_m_one_b404 {F : Nat} {T : TG_expr} {cs1 : RS} {u1 : Int32} {u3 : Int32} {y0 : Int32} {cs9 : RS} {r9 : Int32} (hT : FE_TG_expr T) (h : m_one_b404 F T cs1 u1 u3 y0 = some (cs9, r9)) : FR exR cs1 cs9 := by
  unfold m_one_b404 at h
  replace h := ob h
  obtain ⟨cs_10, g1, h⟩ := h
  have q2 : FR exR cs1 cs_10 := (FR.refl cs1).trans (fe_m_needSign g1)
  replace h := ob h
  obtain ⟨z_11, g3, h⟩ := h
  have q4 : FR exR cs1 z_11.1 := ((q2).trans (FR.setF (by unfold exR; omega))).trans (fe_m_make g3)
  exact (q4).trans (fe_m_one_b493 hT h)
theorem fe_m_one_b382 {F : Nat} {T : TG_expr} {cs1 : RS} {u1 : Int32} {y0 : Int32} {cs9 : RS} {r9 : Int32} (hT : FE_TG_expr T) (h : m_one_b382 F T cs1 u1 y0 = some (cs9, r9)) : FR exR cs1 cs9 := by
  unfold m_one_b382 at h
  replace h := ob h
  obtain ⟨cs_12, g1, h⟩ := h
  have q2 : FR exR cs1 cs_12 := (FR.refl cs1).trans (fe_m_needSign g1)
  rcases ite_or h with h | h
  · exact (q2).trans (fe_m_one_b404 hT h)
  · replace h := ob h
    obtain ⟨z_14, g3, h⟩ := h
    have q4 : FR exR cs1 z_14.1 := (q2).trans (hT.1 _ _ _ g3)
    exact (q4).trans (fe_m_one_b404 hT h)
theorem fe_m_one_b478 {F : Nat} {T : TG_expr} {cs1 : RS} {u1 : Int32} {cs9 : RS} {r9 : Int32} (hT : FE_TG_expr T) (h : m_one_b478 F T cs1 u1 = some (cs9, r9)) : FR exR cs1 cs9 := by
  unfold m_one_b478 at h
  replace h := ob h
  obtain ⟨z_15, g1, h⟩ := h
  have q2 : FR exR cs1 z_15.1 := (FR.refl cs1).trans (hT.2.2.2.2.2.2.2.2 _ _ _ _ g1)
  exact (q2).trans (fe_m_one_b493 hT h)
theorem fe_b_one {F : Nat} {T : TG_expr} {cs : RS} {cs9 : RS} {r9 : Int32} (hT : FE_TG_expr T) (h : b_one F T cs = some (cs9, r9)) : FR exR cs cs9 := by
  unfold b_one at h
  replace h := ob h
  obtain ⟨v_16, g1, h⟩ := h
  rcases ite_or h with h | h
  · exact (FR.refl cs).to (Prod.mk.inj (Option.some.inj h)).1
  · replace h := ob h
    obtain ⟨v_18, g2, h⟩ := h
    rcases ite_or h with h | h
    · replace h := ob h
      obtain ⟨v_55, g3, h⟩ := h
      replace h := ob h
      obtain ⟨z_56, g4, h⟩ := h
      have q5 : FR exR cs z_56.1 := ((FR.refl cs).trans (FR.setF (by unfold exR; omega))).trans (fe_m_make g4)
      replace h := ob h
      obtain ⟨cs_57, g6, h⟩ := h
      have q7 : FR exR cs cs_57 := (q5).trans (fw_L (by unfold exR; omega) g6)
      exact (q7).trans (fe_m_one_b493 hT h)
    · replace h := ob h
      obtain ⟨z_20, g8, h⟩ := h
      have q9 : FR exR cs z_20.1 := (FR.refl cs).trans (fe_m_takeWord g8)
      rcases ite_or h with h | h
      · replace h := ob h
        obtain ⟨z_22, g10, h⟩ := h
        have q11 : FR exR cs z_22.1 := (q9).trans (fe_m_takeWord g10)
        rcases ite_or h with h | h
        · replace h := ob h
          obtain ⟨z_24, g12, h⟩ := h
          have q13 : FR exR cs z_24.1 := (q11).trans (fe_m_takeWord g12)
          rcases ite_or h with h | h
          · replace h := ob h
            obtain ⟨v_26, g14, h⟩ := h
            rcases ite_or h with h | h
            · replace h := ob h
              obtain ⟨v_28, g15, h⟩ := h
              rcases ite_or h with h | h
              · replace h := ob h
                obtain ⟨v_30, g16, h⟩ := h
                rcases ite_or h with h | h
                · replace h := ob h
                  obtain ⟨v_32, g17, h⟩ := h
                  rcases ite_or h with h | h
                  · replace h := ob h
                    obtain ⟨v_34, g18, h⟩ := h
                    rcases ite_or h with h | h
                    · replace h := ob h
                      obtain ⟨v_36, g19, h⟩ := h
                      rcases ite_or h with h | h
                      · replace h := ob h
                        obtain ⟨v_38, g20, h⟩ := h
                        rcases ite_or h with h | h
                        · replace h := ob h
                          obtain ⟨z_40, g21, h⟩ := h
                          have q22 : FR exR cs z_40.1 := (q13).trans (fe_m_columnOf g21)
                          exact (q22).trans (fe_m_one_b493 hT h)
                        · exact (q13).trans (fe_m_one_b478 hT h)
                      · exact (q13).trans (fe_m_one_b478 hT h)
                    · exact (q13).trans (fe_m_one_b478 hT h)
                  · exact (q13).trans (fe_m_one_b478 hT h)
                · replace h := ob h
                  obtain ⟨cs_41, g23, h⟩ := h
                  have q24 : FR exR cs cs_41 := (q13).trans (fe_m_deeper g23)
                  replace h := ob h
                  obtain ⟨cs_42, g25, h⟩ := h
                  have q26 : FR exR cs cs_42 := ((q24).trans (FR.setF (by unfold exR; omega))).trans (fe_m_needSign g25)
                  rcases ite_or h with h | h
                  · exact (q26).trans (fe_m_one_b382 hT h)
                  · replace h := ob h
                    obtain ⟨z_44, g27, h⟩ := h
                    have q28 : FR exR cs z_44.1 := (q26).trans (hT.1 _ _ _ g27)
                    exact (q28).trans (fe_m_one_b382 hT h)
              · replace h := ob h
                obtain ⟨cs_45, g29, h⟩ := h
                have q30 : FR exR cs cs_45 := (q13).trans (fe_m_deeper g29)
                replace h := ob h
                obtain ⟨cs_46, g31, h⟩ := h
                have q32 : FR exR cs cs_46 := ((q30).trans (FR.setF (by unfold exR; omega))).trans (fe_m_needWord g31)
                rcases ite_or h with h | h
                · exact (q32).trans (fe_m_one_b253 hT h)
                · replace h := ob h
                  obtain ⟨z_48, g33, h⟩ := h
                  have q34 : FR exR cs z_48.1 := (q32).trans (hT.1 _ _ _ g33)
                  exact (q34).trans (fe_m_one_b253 hT h)
            · replace h := ob h
              obtain ⟨cs_49, g35, h⟩ := h
              have q36 : FR exR cs cs_49 := (q13).trans (fe_m_deeper g35)
              rcases ite_or h with h | h
              · exact ((q36).trans (FR.setF (by unfold exR; omega))).trans (fe_m_one_b186 hT h)
              · replace h := ob h
                obtain ⟨z_51, g37, h⟩ := h
                have q38 : FR exR cs z_51.1 := ((q36).trans (FR.setF (by unfold exR; omega))).trans (hT.1 _ _ _ g37)
                exact (q38).trans (fe_m_one_b186 hT h)
          · replace h := ob h
            obtain ⟨z_52, g39, h⟩ := h
            have q40 : FR exR cs z_52.1 := (q13).trans (fe_m_make g39)
            exact (q40).trans (fe_m_one_b493 hT h)
        · replace h := ob h
          obtain ⟨z_53, g41, h⟩ := h
          have q42 : FR exR cs z_53.1 := (q11).trans (fe_m_make g41)
          exact (q42).trans (fe_m_one_b493 hT h)
      · replace h := ob h
        obtain ⟨z_54, g43, h⟩ := h
        have q44 : FR exR cs z_54.1 := (q9).trans (fe_m_make g43)
        exact (q44).trans (fe_m_one_b493 hT h)
theorem fe_m_aggregate_b14 {F : Nat} {T : TG_expr} {cs1 : RS} {cs9 : RS} {r9 : Int32} (hT : FE_TG_expr T) (h : m_aggregate_b14 F T cs1 = some (cs9, r9)) : FR exR cs1 cs9 := by
  unfold m_aggregate_b14 at h
  replace h := ob h
  obtain ⟨cs_1, g1, h⟩ := h
  have q2 : FR exR cs1 cs_1 := (FR.refl cs1).trans (fe_m_wrong g1)
  exact (q2).to (Prod.mk.inj (Option.some.inj h)).1
theorem fe_m_aggregate_b195 {F : Nat} {T : TG_expr} {cs1 : RS} {u1 : Int32} {u2 : Int32} {u3 : Int32} {cs9 : RS} {r9 : Int32} (hT : FE_TG_expr T) (h : m_aggregate_b195 F T cs1 u1 u2 u3 = some (cs9, r9)) : FR exR cs1 cs9 := by
  unfold m_aggregate_b195 at h
  replace h := ob h
  obtain ⟨cs_2, g1, h⟩ := h
  have q2 : FR exR cs1 cs_2 := (FR.refl cs1).trans (fe_m_needSign g1)
  replace h := ob h
  obtain ⟨z_3, g3, h⟩ := h
  have q4 : FR exR cs1 z_3.1 := ((q2).trans (FR.setF (by unfold exR; omega))).trans (fe_m_make g3)
  exact (q4).to (Prod.mk.inj (Option.some.inj h)).1
theorem fe_m_aggregate_b189 {F : Nat} {T : TG_expr} {cs1 : RS} {u1 : Int32} {u2 : Int32} {y0 : Int32} {cs9 : RS} {r9 : Int32} (hT : FE_TG_expr T) (h : m_aggregate_b189 F T cs1 u1 u2 y0 = some (cs9, r9)) : FR exR cs1 cs9 := by
  unfold m_aggregate_b189 at h
  exact ((FR.refl cs1).trans (FR.setF (by unfold exR; omega))).trans (fe_m_aggregate_b195 hT h)
theorem fe_m_aggregate_b169 {F : Nat} {T : TG_expr} {cs1 : RS} {u1 : Int32} {u2 : Int32} {cs9 : RS} {r9 : Int32} (hT : FE_TG_expr T) (h : m_aggregate_b169 F T cs1 u1 u2 = some (cs9, r9)) : FR exR cs1 cs9 := by
  unfold m_aggregate_b169 at h
  rcases ite_or h with h | h
  · exact ((FR.refl cs1).trans (FR.setF (by unfold exR; omega))).trans (fe_m_aggregate_b189 hT h)
  · replace h := ob h
    obtain ⟨z_5, g1, h⟩ := h
    have q2 : FR exR cs1 z_5.1 := ((FR.refl cs1).trans (FR.setF (by unfold exR; omega))).trans (hT.1 _ _ _ g1)
    exact (q2).trans (fe_m_aggregate_b189 hT h)
theorem fe_m_aggregate_b129 {F : Nat} {T : TG_expr} {cs1 : RS} {u1 : Int32} {y0 : Int32} {cs9 : RS} {r9 : Int32} (hT : FE_TG_expr T) (h : m_aggregate_b129 F T cs1 u1 y0 = some (cs9, r9)) : FR exR cs1 cs9 := by
  unfold m_aggregate_b129 at h
  replace h := ob h
  obtain ⟨cs_6, g1, h⟩ := h
  have q2 : FR exR cs1 cs_6 := ((FR.refl cs1).trans (FR.setF (by unfold exR; omega))).trans (fe_m_needSign g1)
  rcases ite_or h with h | h
  · replace h := ob h
    obtain ⟨z_8, g3, h⟩ := h
    have q4 : FR exR cs1 z_8.1 := (q2).trans (fe_m_takeSign g3)
    rcases ite_or h with h | h
    · exact (q4).trans (fe_m_aggregate_b169 hT h)
    · exact (q4).trans (fe_m_aggregate_b195 hT h)
  · exact (q2).trans (fe_m_aggregate_b169 hT h)
theorem fe_m_aggregate_b77 {F : Nat} {T : TG_expr} {cs1 : RS} {u1 : Int32} {cs9 : RS} {r9 : Int32} (hT : FE_TG_expr T) (h : m_aggregate_b77 F T cs1 u1 = some (cs9, r9)) : FR exR cs1 cs9 := by
  unfold m_aggregate_b77 at h
  replace h := ob h
  obtain ⟨cs_10, g1, h⟩ := h
  have q2 : FR exR cs1 cs_10 := (FR.refl cs1).trans (fe_m_deeper g1)
  replace h := ob h
  obtain ⟨v_11, g3, h⟩ := h
  rcases ite_or h with h | h
  · replace h := ob h
    obtain ⟨v_13, g4, h⟩ := h
    rcases ite_or h with h | h
    · replace h := ob h
      obtain ⟨v_15, g5, h⟩ := h
      rcases ite_or h with h | h
      · exact (q2).trans (fe_m_aggregate_b129 hT h)
      · exact (q2).trans (fe_m_aggregate_b129 hT h)
    · exact (q2).trans (fe_m_aggregate_b129 hT h)
  · exact (q2).trans (fe_m_aggregate_b129 hT h)
theorem fe_m_aggregate_b54 {F : Nat} {T : TG_expr} {cs1 : RS} {u1 : Int32} {cs9 : RS} {r9 : Int32} (hT : FE_TG_expr T) (h : m_aggregate_b54 F T cs1 u1 = some (cs9, r9)) : FR exR cs1 cs9 := by
  unfold m_aggregate_b54 at h
  replace h := ob h
  obtain ⟨v_17, g1, h⟩ := h
  rcases ite_or h with h | h
  · replace h := ob h
    obtain ⟨cs_19, g2, h⟩ := h
    have q3 : FR exR cs1 cs_19 := (FR.refl cs1).trans (fw_I (by unfold exR; omega) g2)
    exact (q3).trans (fe_m_aggregate_b77 hT h)
  · exact (FR.refl cs1).trans (fe_m_aggregate_b77 hT h)
theorem fe_b_aggregate {F : Nat} {T : TG_expr} {cs : RS} {x1 : Int32} {cs9 : RS} {r9 : Int32} (hT : FE_TG_expr T) (h : b_aggregate F T cs x1 = some (cs9, r9)) : FR exR cs cs9 := by
  unfold b_aggregate at h
  rcases ite_or h with h | h
  · exact (FR.refl cs).trans (fe_m_aggregate_b14 hT h)
  · rcases ite_or h with h | h
    · replace h := ob h
      obtain ⟨v_22, g1, h⟩ := h
      replace h := ob h
      obtain ⟨cs_23, g2, h⟩ := h
      have q3 : FR exR cs cs_23 := (FR.refl cs).trans (fw_I (by unfold exR; omega) g2)
      replace h := ob h
      obtain ⟨v_24, g4, h⟩ := h
      rcases ite_or h with h | h
      · replace h := ob h
        obtain ⟨cs_26, g5, h⟩ := h
        have q6 : FR exR cs cs_26 := (q3).trans (fe_m_tell g5)
        exact (q6).trans (fe_m_aggregate_b54 hT h)
      · exact (q3).trans (fe_m_aggregate_b54 hT h)
    · exact (FR.refl cs).trans (fe_m_aggregate_b14 hT h)
theorem fe_tab_expr (F : Nat) : ∀ n, FE_TG_expr (tab_expr F n)
  | 0 => ⟨fun _ _ _ h => (by cases (show (none : Option (RS × Int32)) = _ from h)), fun _ _ _ h => (by cases (show (none : Option (RS × Int32)) = _ from h)), fun _ _ _ h => (by cases (show (none : Option (RS × Int32)) = _ from h)), fun _ _ _ h => (by cases (show (none : Option (RS × Int32)) = _ from h)), fun _ _ _ h => (by cases (show (none : Option (RS × Int32)) = _ from h)), fun _ _ _ h => (by cases (show (none : Option (RS × Int32)) = _ from h)), fun _ _ _ h => (by cases (show (none : Option (RS × Int32)) = _ from h)), fun _ _ _ h => (by cases (show (none : Option (RS × Int32)) = _ from h)), fun _ _ _ _ h => (by cases (show (none : Option (RS × Int32)) = _ from h))⟩
  | n + 1 => ⟨fun _ _ _ h => fe_b_expr (fe_tab_expr F n) h, fun _ _ _ h => fe_b_andExpr (fe_tab_expr F n) h, fun _ _ _ h => fe_b_notExpr (fe_tab_expr F n) h, fun _ _ _ h => fe_b_test (fe_tab_expr F n) h, fun _ _ _ h => fe_b_sum (fe_tab_expr F n) h, fun _ _ _ h => fe_b_part (fe_tab_expr F n) h, fun _ _ _ h => fe_b_sign (fe_tab_expr F n) h, fun _ _ _ h => fe_b_one (fe_tab_expr F n) h, fun _ _ _ _ h => fe_b_aggregate (fe_tab_expr F n) h⟩
theorem fe_m_expr {F n : Nat} {cs cs9 : RS} {r9 : Int32} (h : m_expr F n cs = some (cs9, r9)) : FR exR cs cs9 := (fe_tab_expr F n).1 _ _ _ h

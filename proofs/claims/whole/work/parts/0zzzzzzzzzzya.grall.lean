/-! the reference: while all is good no fault is told -/
def GR (a b : RS) : Prop := b.1 21 ≠ 0 → a.1 21 ≠ 0 ∧ b.1 19 = a.1 19
theorem GR.refl (a : RS) : GR a a := fun h => ⟨h, rfl⟩
theorem GR.trans {a b d : RS} (h : GR a b) (g : GR b d) : GR a d := fun z => by
  obtain ⟨g1, g2⟩ := g z
  obtain ⟨h1, h2⟩ := h g1
  exact ⟨h1, g2.trans h2⟩
theorem GR.to {a b d : RS} (h : GR a b) (e : b = d) : GR a d := e ▸ h
theorem GR.sF {rs : RS} {k : Nat} {v : Int32} (h : k ≠ 19 ∧ k ≠ 21) : GR rs (setF rs k v) := fun z => by
  have e1 : (setF rs k v).1 21 = rs.1 21 := pk_un (fun w => h.2 w.symm)
  have e2 : (setF rs k v).1 19 = rs.1 19 := pk_un (fun w => h.1 w.symm)
  rw [e1] at z
  exact ⟨z, e2⟩
theorem GR.sI {rs : RS} {k i : Nat} {v : Int32} (_ : k ≠ 19 ∧ k ≠ 21) : GR rs (setI rs k i v) := fun z => ⟨z, rfl⟩
theorem GR.sL {rs : RS} {k i : Nat} {v : Int64} (_ : k ≠ 19 ∧ k ≠ 21) : GR rs (setL rs k i v) := fun z => ⟨z, rfl⟩
theorem gw_I {cs cs1 : RS} {k n : Nat} {i v : Int32} (hk : k ≠ 19 ∧ k ≠ 21) (h : wrI cs k n i v = some cs1) : GR cs cs1 := (GR.sI hk).to (wrI_some h).2
theorem gw_L {cs cs1 : RS} {k n : Nat} {i : Int32} {v : Int64} (hk : k ≠ 19 ∧ k ≠ 21) (h : wrL cs k n i v = some cs1) : GR cs cs1 := (GR.sL hk).to (wrL_some h).2
theorem gp_m_tell {F : Nat} {cs : RS} {x1 : Int32} {x2 : Int32} {cs9 : RS} (h : m_tell F cs x1 x2 = some cs9) : GR cs cs9 := by
  unfold m_tell m_tell_b22 at h
  rcases ite_or h with h | h
  · exact (GR.refl cs).to (Option.some.inj h)
  · rw [← Option.some.inj h]
    exact fun z => absurd (show (setF (setF (setF cs 21 0) 19 x1) 20 x2).1 21 = 0 from rfl) z
def GPT_TG_expr (T : TG_expr) : Prop := (∀ (cs : RS) (cs9 : RS) (r9 : Int32), T.1 cs = some (cs9, r9) → GR cs cs9) ∧ (∀ (cs : RS) (cs9 : RS) (r9 : Int32), T.2.1 cs = some (cs9, r9) → GR cs cs9) ∧ (∀ (cs : RS) (cs9 : RS) (r9 : Int32), T.2.2.1 cs = some (cs9, r9) → GR cs cs9) ∧ (∀ (cs : RS) (cs9 : RS) (r9 : Int32), T.2.2.2.1 cs = some (cs9, r9) → GR cs cs9) ∧ (∀ (cs : RS) (cs9 : RS) (r9 : Int32), T.2.2.2.2.1 cs = some (cs9, r9) → GR cs cs9) ∧ (∀ (cs : RS) (cs9 : RS) (r9 : Int32), T.2.2.2.2.2.1 cs = some (cs9, r9) → GR cs cs9) ∧ (∀ (cs : RS) (cs9 : RS) (r9 : Int32), T.2.2.2.2.2.2.1 cs = some (cs9, r9) → GR cs cs9) ∧ (∀ (cs : RS) (cs9 : RS) (r9 : Int32), T.2.2.2.2.2.2.2.1 cs = some (cs9, r9) → GR cs cs9) ∧ (∀ (cs : RS) (a1 : Int32) (cs9 : RS) (r9 : Int32), T.2.2.2.2.2.2.2.2 cs a1 = some (cs9, r9) → GR cs cs9)
def GPT_TG_queryOf (T : TG_queryOf) : Prop := (∀ (cs : RS) (cs9 : RS) (r9 : Int32), T.1 cs = some (cs9, r9) → GR cs cs9) ∧ (∀ (cs : RS) (cs9 : RS) (r9 : Int32), T.2.1 cs = some (cs9, r9) → GR cs cs9) ∧ (∀ (cs : RS) (a1 : Int32) (a2 : Int32) (a3 : Int32) (cs9 : RS), T.2.2 cs a1 a2 a3 = some cs9 → GR cs cs9)
def GPT_TG_judge (T : TG_judge) : Prop := (∀ (cs : RS) (a1 : Int32) (cs9 : RS), T cs a1 = some cs9 → GR cs cs9)
def GPT_TG_isKept (T : TG_isKept) : Prop := True ∧ True ∧ True
def GPT_TG_judgeQuery (T : TG_judgeQuery) : Prop := (∀ (cs : RS) (a1 : Int32) (cs9 : RS), T.1 cs a1 = some cs9 → GR cs cs9) ∧ (∀ (cs : RS) (a1 : Int32) (cs9 : RS), T.2 cs a1 = some cs9 → GR cs cs9)
theorem gp_m_wrong {F : Nat} {cs : RS} {cs9 : RS} (h : m_wrong F cs = some cs9) : GR cs cs9 := by
  unfold m_wrong at h
  replace h := ob h
  obtain ⟨v_1, g1, h⟩ := h
  replace h := ob h
  obtain ⟨cs_2, g2, h⟩ := h
  have q3 : GR cs cs_2 := (GR.refl cs).trans (gp_m_tell g2)
  exact (q3).to (Option.some.inj h)
theorem gp_m_want_b37 {F : Nat} {cs1 : RS} {cs9 : RS} (h : m_want_b37 F cs1 = some cs9) : GR cs1 cs9 := by
  unfold m_want_b37 at h
  exact (GR.refl cs1).to (Option.some.inj h)
theorem gp_m_want {F : Nat} {cs : RS} {x1 : Int32} {x2 : Int32} {cs9 : RS} (h : m_want F cs x1 x2 = some cs9) : GR cs cs9 := by
  unfold m_want at h
  rcases ite_or h with h | h
  · exact (GR.refl cs).trans (gp_m_want_b37 h)
  · replace h := ob h
    obtain ⟨v_2, g1, h⟩ := h
    rcases ite_or h with h | h
    · exact (GR.refl cs).trans (gp_m_want_b37 h)
    · replace h := ob h
      obtain ⟨v_4, g2, h⟩ := h
      rcases ite_or h with h | h
      · exact (GR.refl cs).trans (gp_m_want_b37 h)
      · replace h := ob h
        obtain ⟨v_6, g3, h⟩ := h
        replace h := ob h
        obtain ⟨cs_7, g4, h⟩ := h
        have q5 : GR cs cs_7 := (GR.refl cs).trans (gp_m_tell g4)
        exact (q5).trans (gp_m_want_b37 h)
theorem gp_m_bounded_b17 {F : Nat} {cs1 : RS} {cs9 : RS} (h : m_bounded_b17 F cs1 = some cs9) : GR cs1 cs9 := by
  unfold m_bounded_b17 at h
  exact (GR.refl cs1).to (Option.some.inj h)
theorem gp_m_bounded {F : Nat} {cs : RS} {x1 : Int32} {x2 : Int32} {cs9 : RS} (h : m_bounded F cs x1 x2 = some cs9) : GR cs cs9 := by
  unfold m_bounded at h
  rcases ite_or h with h | h
  · rcases ite_or h with h | h
    · replace h := ob h
      obtain ⟨cs_3, g1, h⟩ := h
      have q2 : GR cs cs_3 := (GR.refl cs).trans (gp_m_tell g1)
      exact (q2).trans (gp_m_bounded_b17 h)
    · exact (GR.refl cs).trans (gp_m_bounded_b17 h)
  · exact (GR.refl cs).trans (gp_m_bounded_b17 h)
theorem gp_m_sourcesOf {F : Nat} {cs : RS} {x1 : Int32} {x2 : Int32} {cs9 : RS} (h : m_sourcesOf F cs x1 x2 = some cs9) : GR cs cs9 := by
  unfold m_sourcesOf at h
  exact ((((GR.refl cs).trans (GR.sF (by decide))).trans (GR.sF (by decide))).trans (GR.sF (by decide))).to (Option.some.inj h)
theorem gp_m_takeWord_b20 {F : Nat} {x1 : Nat} {cs1 : RS} {u2 : Int32} {y0 : Int32} {y1 : Int32} {cs9 : RS} {r9 : Int32} (h : m_takeWord_b20 F x1 cs1 u2 y0 y1 = some (cs9, r9)) : GR cs1 cs9 := by
  unfold m_takeWord_b20 at h
  replace h := ob h
  obtain ⟨_, g1, h⟩ := h
  exact ((GR.refl cs1).trans (GR.sF (by decide))).to (Prod.mk.inj (Option.some.inj h)).1
theorem gp_m_takeWord {F : Nat} {cs : RS} {x1 : Nat} {cs9 : RS} {r9 : Int32} (h : m_takeWord F cs x1 = some (cs9, r9)) : GR cs cs9 := by
  unfold m_takeWord at h
  replace h := ob h
  obtain ⟨v_2, g1, h⟩ := h
  rcases ite_or h with h | h
  · exact (GR.refl cs).trans (gp_m_takeWord_b20 h)
  · exact (GR.refl cs).trans (gp_m_takeWord_b20 h)
theorem gp_m_needWord_b12 {F : Nat} {x1 : Nat} {cs1 : RS} {cs9 : RS} (h : m_needWord_b12 F x1 cs1 = some cs9) : GR cs1 cs9 := by
  unfold m_needWord_b12 at h
  exact (GR.refl cs1).to (Option.some.inj h)
theorem gp_m_needWord {F : Nat} {cs : RS} {x1 : Nat} {cs9 : RS} (h : m_needWord F cs x1 = some cs9) : GR cs cs9 := by
  unfold m_needWord at h
  replace h := ob h
  obtain ⟨z_1, g1, h⟩ := h
  have q2 : GR cs z_1.1 := (GR.refl cs).trans (gp_m_takeWord g1)
  rcases ite_or h with h | h
  · replace h := ob h
    obtain ⟨cs_3, g3, h⟩ := h
    have q4 : GR cs cs_3 := (q2).trans (gp_m_wrong g3)
    exact (q4).trans (gp_m_needWord_b12 h)
  · exact (q2).trans (gp_m_needWord_b12 h)
theorem gp_m_takeSign_b20 {F : Nat} {cs1 : RS} {u2 : Int32} {y0 : Int32} {y1 : Int32} {cs9 : RS} {r9 : Int32} (h : m_takeSign_b20 F cs1 u2 y0 y1 = some (cs9, r9)) : GR cs1 cs9 := by
  unfold m_takeSign_b20 at h
  replace h := ob h
  obtain ⟨_, g1, h⟩ := h
  exact ((GR.refl cs1).trans (GR.sF (by decide))).to (Prod.mk.inj (Option.some.inj h)).1
theorem gp_m_takeSign {F : Nat} {cs : RS} {x1 : Int32} {cs9 : RS} {r9 : Int32} (h : m_takeSign F cs x1 = some (cs9, r9)) : GR cs cs9 := by
  unfold m_takeSign at h
  replace h := ob h
  obtain ⟨v_2, g1, h⟩ := h
  rcases ite_or h with h | h
  · exact (GR.refl cs).trans (gp_m_takeSign_b20 h)
  · exact (GR.refl cs).trans (gp_m_takeSign_b20 h)
theorem gp_m_needSign_b12 {F : Nat} {cs1 : RS} {cs9 : RS} (h : m_needSign_b12 F cs1 = some cs9) : GR cs1 cs9 := by
  unfold m_needSign_b12 at h
  exact (GR.refl cs1).to (Option.some.inj h)
theorem gp_m_needSign {F : Nat} {cs : RS} {x1 : Int32} {cs9 : RS} (h : m_needSign F cs x1 = some cs9) : GR cs cs9 := by
  unfold m_needSign at h
  replace h := ob h
  obtain ⟨z_1, g1, h⟩ := h
  have q2 : GR cs z_1.1 := (GR.refl cs).trans (gp_m_takeSign g1)
  rcases ite_or h with h | h
  · replace h := ob h
    obtain ⟨cs_3, g3, h⟩ := h
    have q4 : GR cs cs_3 := (q2).trans (gp_m_wrong g3)
    exact (q4).trans (gp_m_needSign_b12 h)
  · exact (q2).trans (gp_m_needSign_b12 h)
theorem gp_m_name {F : Nat} {cs : RS} {cs9 : RS} {r9 : Int32} (h : m_name F cs = some (cs9, r9)) : GR cs cs9 := by
  unfold m_name at h
  replace h := ob h
  obtain ⟨v_1, g1, h⟩ := h
  rcases ite_or h with h | h
  · replace h := ob h
    obtain ⟨cs_3, g2, h⟩ := h
    have q3 : GR cs cs_3 := (GR.refl cs).trans (gp_m_wrong g2)
    exact (q3).to (Prod.mk.inj (Option.some.inj h)).1
  · exact ((GR.refl cs).trans (GR.sF (by decide))).to (Prod.mk.inj (Option.some.inj h)).1
theorem gp_m_deeper_b26 {F : Nat} {cs1 : RS} {cs9 : RS} (h : m_deeper_b26 F cs1 = some cs9) : GR cs1 cs9 := by
  unfold m_deeper_b26 at h
  exact (GR.refl cs1).to (Option.some.inj h)
theorem gp_m_deeper {F : Nat} {cs : RS} {x1 : Int32} {cs9 : RS} (h : m_deeper F cs x1 = some cs9) : GR cs cs9 := by
  unfold m_deeper at h
  rcases ite_or h with h | h
  · exact ((GR.refl cs).trans (GR.sF (by decide))).trans (gp_m_deeper_b26 h)
  · replace h := ob h
    obtain ⟨cs_2, g1, h⟩ := h
    have q2 : GR cs cs_2 := ((GR.refl cs).trans (GR.sF (by decide))).trans (gp_m_tell g1)
    exact (q2).trans (gp_m_deeper_b26 h)
theorem gp_m_make {F : Nat} {cs : RS} {x1 : Int32} {x2 : Int32} {x3 : Int32} {x4 : Int32} {x5 : Int32} {x6 : Int32} {cs9 : RS} {r9 : Int32} (h : m_make F cs x1 x2 x3 x4 x5 x6 = some (cs9, r9)) : GR cs cs9 := by
  unfold m_make at h
  rcases ite_or h with h | h
  · exact (GR.refl cs).to (Prod.mk.inj (Option.some.inj h)).1
  · rcases ite_or h with h | h
    · replace h := ob h
      obtain ⟨cs_12, g1, h⟩ := h
      have q2 : GR cs cs_12 := (GR.refl cs).trans (gp_m_tell g1)
      exact (q2).to (Prod.mk.inj (Option.some.inj h)).1
    · replace h := ob h
      obtain ⟨cs_3, g3, h⟩ := h
      have q4 : GR cs cs_3 := ((GR.refl cs).trans (GR.sF (by decide))).trans (gw_I (by decide) g3)
      replace h := ob h
      obtain ⟨cs_4, g5, h⟩ := h
      have q6 : GR cs cs_4 := (q4).trans (gw_I (by decide) g5)
      replace h := ob h
      obtain ⟨cs_5, g7, h⟩ := h
      have q8 : GR cs cs_5 := (q6).trans (gw_I (by decide) g7)
      replace h := ob h
      obtain ⟨cs_6, g9, h⟩ := h
      have q10 : GR cs cs_6 := (q8).trans (gw_I (by decide) g9)
      replace h := ob h
      obtain ⟨cs_7, g11, h⟩ := h
      have q12 : GR cs cs_7 := (q10).trans (gw_I (by decide) g11)
      replace h := ob h
      obtain ⟨cs_8, g13, h⟩ := h
      have q14 : GR cs cs_8 := (q12).trans (gw_L (by decide) g13)
      replace h := ob h
      obtain ⟨cs_9, g15, h⟩ := h
      have q16 : GR cs cs_9 := (q14).trans (gw_I (by decide) g15)
      replace h := ob h
      obtain ⟨cs_10, g17, h⟩ := h
      have q18 : GR cs cs_10 := (q16).trans (gw_I (by decide) g17)
      replace h := ob h
      obtain ⟨cs_11, g19, h⟩ := h
      have q20 : GR cs cs_11 := (q18).trans (gw_I (by decide) g19)
      exact (q20).to (Prod.mk.inj (Option.some.inj h)).1
theorem gp_m_columnOf_b56 {F : Nat} {cs1 : RS} {u1 : Int32} {u2 : Int32} {u3 : Int32} {cs9 : RS} {r9 : Int32} (h : m_columnOf_b56 F cs1 u1 u2 u3 = some (cs9, r9)) : GR cs1 cs9 := by
  unfold m_columnOf_b56 at h
  replace h := ob h
  obtain ⟨z_1, g1, h⟩ := h
  have q2 : GR cs1 z_1.1 := (GR.refl cs1).trans (gp_m_make g1)
  replace h := ob h
  obtain ⟨cs_2, g3, h⟩ := h
  have q4 : GR cs1 cs_2 := (q2).trans (gw_I (by decide) g3)
  replace h := ob h
  obtain ⟨cs_3, g5, h⟩ := h
  have q6 : GR cs1 cs_3 := (q4).trans (gw_I (by decide) g5)
  exact (q6).to (Prod.mk.inj (Option.some.inj h)).1
theorem gp_m_columnOf {F : Nat} {cs : RS} {x1 : Int32} {cs9 : RS} {r9 : Int32} (h : m_columnOf F cs x1 = some (cs9, r9)) : GR cs cs9 := by
  unfold m_columnOf at h
  replace h := ob h
  obtain ⟨z_4, g1, h⟩ := h
  have q2 : GR cs z_4.1 := (GR.refl cs).trans (gp_m_takeWord g1)
  rcases ite_or h with h | h
  · replace h := ob h
    obtain ⟨z_6, g3, h⟩ := h
    have q4 : GR cs z_6.1 := (q2).trans (gp_m_name g3)
    replace h := ob h
    obtain ⟨z_7, g5, h⟩ := h
    have q6 : GR cs z_7.1 := (q4).trans (gp_m_takeSign g5)
    rcases ite_or h with h | h
    · exact (q6).trans (gp_m_columnOf_b56 h)
    · replace h := ob h
      obtain ⟨z_9, g7, h⟩ := h
      have q8 : GR cs z_9.1 := (q6).trans (gp_m_takeWord g7)
      rcases ite_or h with h | h
      · replace h := ob h
        obtain ⟨z_11, g9, h⟩ := h
        have q10 : GR cs z_11.1 := (q8).trans (gp_m_name g9)
        exact (q10).trans (gp_m_columnOf_b56 h)
      · exact (q8).trans (gp_m_columnOf_b56 h)
  · exact (q2).trans (gp_m_columnOf_b56 h)
theorem gp_m_expr_b69 {F : Nat} {T : TG_expr} {cs1 : RS} {u1 : Int32} {u2 : Int32} {cs9 : RS} {r9 : Int32} (hT : GPT_TG_expr T) (h : m_expr_b69 F T cs1 u1 u2 = some (cs9, r9)) : GR cs1 cs9 := by
  unfold m_expr_b69 at h
  exact ((GR.refl cs1).trans (GR.sF (by decide))).to (Prod.mk.inj (Option.some.inj h)).1
theorem gp_m_expr_L10 {F : Nat} {T : TG_expr} (hT : GPT_TG_expr T) : ∀ (lf : Nat) (cs1 : RS) (u1 : Int32) (u2 : Int32) (cs9 : RS) (r9 : Int32), m_expr_L10 F T lf cs1 u1 u2 = some (cs9, r9) → GR cs1 cs9 := by
  intro lf
  induction lf with
  | zero => intro cs1 u1 u2 cs9 r9 h; cases (show (none : Option (RS × Int32)) = _ from h)
  | succ lf ih =>
    intro cs1 u1 u2 cs9 r9 h
    rw [m_expr_L10] at h
    rcases ite_or h with h | h
    · exact (GR.refl cs1).trans (gp_m_expr_b69 hT h)
    · replace h := ob h
      obtain ⟨v_2, g1, h⟩ := h
      rcases ite_or h with h | h
      · exact (GR.refl cs1).trans (gp_m_expr_b69 hT h)
      · replace h := ob h
        obtain ⟨v_4, g2, h⟩ := h
        replace h := ob h
        obtain ⟨z_5, g3, h⟩ := h
        have q4 : GR cs1 z_5.1 := ((GR.refl cs1).trans (GR.sF (by decide))).trans (hT.2.1 _ _ _ g3)
        replace h := ob h
        obtain ⟨z_6, g5, h⟩ := h
        have q6 : GR cs1 z_6.1 := (q4).trans (gp_m_make g5)
        exact (q6).trans (ih _ _ _ _ _ h)
theorem gp_b_expr {F : Nat} {T : TG_expr} {cs : RS} {cs9 : RS} {r9 : Int32} (hT : GPT_TG_expr T) (h : b_expr F T cs = some (cs9, r9)) : GR cs cs9 := by
  unfold b_expr at h
  replace h := ob h
  obtain ⟨z_7, g1, h⟩ := h
  have q2 : GR cs z_7.1 := (GR.refl cs).trans (hT.2.1 _ _ _ g1)
  exact (q2).trans (gp_m_expr_L10 hT _ _ _ _ _ _ h)
theorem gp_m_andExpr_b69 {F : Nat} {T : TG_expr} {cs1 : RS} {u1 : Int32} {u2 : Int32} {cs9 : RS} {r9 : Int32} (hT : GPT_TG_expr T) (h : m_andExpr_b69 F T cs1 u1 u2 = some (cs9, r9)) : GR cs1 cs9 := by
  unfold m_andExpr_b69 at h
  exact ((GR.refl cs1).trans (GR.sF (by decide))).to (Prod.mk.inj (Option.some.inj h)).1
theorem gp_m_andExpr_L10 {F : Nat} {T : TG_expr} (hT : GPT_TG_expr T) : ∀ (lf : Nat) (cs1 : RS) (u1 : Int32) (u2 : Int32) (cs9 : RS) (r9 : Int32), m_andExpr_L10 F T lf cs1 u1 u2 = some (cs9, r9) → GR cs1 cs9 := by
  intro lf
  induction lf with
  | zero => intro cs1 u1 u2 cs9 r9 h; cases (show (none : Option (RS × Int32)) = _ from h)
  | succ lf ih =>
    intro cs1 u1 u2 cs9 r9 h
    rw [m_andExpr_L10] at h
    rcases ite_or h with h | h
    · exact (GR.refl cs1).trans (gp_m_andExpr_b69 hT h)
    · replace h := ob h
      obtain ⟨v_2, g1, h⟩ := h
      rcases ite_or h with h | h
      · exact (GR.refl cs1).trans (gp_m_andExpr_b69 hT h)
      · replace h := ob h
        obtain ⟨v_4, g2, h⟩ := h
        replace h := ob h
        obtain ⟨z_5, g3, h⟩ := h
        have q4 : GR cs1 z_5.1 := ((GR.refl cs1).trans (GR.sF (by decide))).trans (hT.2.2.1 _ _ _ g3)
        replace h := ob h
        obtain ⟨z_6, g5, h⟩ := h
        have q6 : GR cs1 z_6.1 := (q4).trans (gp_m_make g5)
        exact (q6).trans (ih _ _ _ _ _ h)
theorem gp_b_andExpr {F : Nat} {T : TG_expr} {cs : RS} {cs9 : RS} {r9 : Int32} (hT : GPT_TG_expr T) (h : b_andExpr F T cs = some (cs9, r9)) : GR cs cs9 := by
  unfold b_andExpr at h
  replace h := ob h
  obtain ⟨z_7, g1, h⟩ := h
  have q2 : GR cs z_7.1 := (GR.refl cs).trans (hT.2.2.1 _ _ _ g1)
  exact (q2).trans (gp_m_andExpr_L10 hT _ _ _ _ _ _ h)
theorem gp_m_notExpr_b55 {F : Nat} {T : TG_expr} {cs1 : RS} {u1 : Int32} {y0 : Int32} {cs9 : RS} {r9 : Int32} (hT : GPT_TG_expr T) (h : m_notExpr_b55 F T cs1 u1 y0 = some (cs9, r9)) : GR cs1 cs9 := by
  unfold m_notExpr_b55 at h
  replace h := ob h
  obtain ⟨z_1, g1, h⟩ := h
  have q2 : GR cs1 z_1.1 := ((GR.refl cs1).trans (GR.sF (by decide))).trans (gp_m_make g1)
  exact ((q2).trans (GR.sF (by decide))).to (Prod.mk.inj (Option.some.inj h)).1
theorem gp_b_notExpr {F : Nat} {T : TG_expr} {cs : RS} {cs9 : RS} {r9 : Int32} (hT : GPT_TG_expr T) (h : b_notExpr F T cs = some (cs9, r9)) : GR cs cs9 := by
  unfold b_notExpr at h
  replace h := ob h
  obtain ⟨v_2, g1, h⟩ := h
  rcases ite_or h with h | h
  · replace h := ob h
    obtain ⟨z_8, g2, h⟩ := h
    have q3 : GR cs z_8.1 := (GR.refl cs).trans (hT.2.2.2.1 _ _ _ g2)
    exact (q3).to (Prod.mk.inj (Option.some.inj h)).1
  · replace h := ob h
    obtain ⟨v_4, g4, h⟩ := h
    replace h := ob h
    obtain ⟨cs_5, g5, h⟩ := h
    have q6 : GR cs cs_5 := (GR.refl cs).trans (gp_m_deeper g5)
    rcases ite_or h with h | h
    · exact ((q6).trans (GR.sF (by decide))).trans (gp_m_notExpr_b55 hT h)
    · replace h := ob h
      obtain ⟨z_7, g7, h⟩ := h
      have q8 : GR cs z_7.1 := ((q6).trans (GR.sF (by decide))).trans (hT.2.2.1 _ _ _ g7)
      exact (q8).trans (gp_m_notExpr_b55 hT h)
theorem gp_m_test_b371 {F : Nat} {T : TG_expr} {cs1 : RS} {u1 : Int32} {u2 : Int32} {cs9 : RS} {r9 : Int32} (hT : GPT_TG_expr T) (h : m_test_b371 F T cs1 u1 u2 = some (cs9, r9)) : GR cs1 cs9 := by
  unfold m_test_b371 at h
  exact ((GR.refl cs1).trans (GR.sF (by decide))).to (Prod.mk.inj (Option.some.inj h)).1
theorem gp_m_test_b83 {F : Nat} {T : TG_expr} {cs1 : RS} {u1 : Int32} {u2 : Int32} {u3 : Int32} {u4 : Int32} {cs9 : RS} {r9 : Int32} (hT : GPT_TG_expr T) (h : m_test_b83 F T cs1 u1 u2 u3 u4 = some (cs9, r9)) : GR cs1 cs9 := by
  unfold m_test_b83 at h
  replace h := ob h
  obtain ⟨z_1, g1, h⟩ := h
  have q2 : GR cs1 z_1.1 := ((GR.refl cs1).trans (GR.sF (by decide))).trans (hT.2.2.2.2.1 _ _ _ g1)
  replace h := ob h
  obtain ⟨z_2, g3, h⟩ := h
  have q4 : GR cs1 z_2.1 := (q2).trans (gp_m_make g3)
  replace h := ob h
  obtain ⟨cs_3, g5, h⟩ := h
  have q6 : GR cs1 cs_3 := (q4).trans (gw_I (by decide) g5)
  exact (q6).trans (gp_m_test_b371 hT h)
theorem gp_m_test_b176 {F : Nat} {T : TG_expr} {cs1 : RS} {u1 : Int32} {u2 : Int32} {y0 : Int32} {y1 : Int32} {cs9 : RS} {r9 : Int32} (hT : GPT_TG_expr T) (h : m_test_b176 F T cs1 u1 u2 y0 y1 = some (cs9, r9)) : GR cs1 cs9 := by
  unfold m_test_b176 at h
  replace h := ob h
  obtain ⟨cs_4, g1, h⟩ := h
  have q2 : GR cs1 cs_4 := (GR.refl cs1).trans (gw_I (by decide) g1)
  exact (q2).trans (gp_m_test_b371 hT h)
theorem gp_m_test_b370 {F : Nat} {T : TG_expr} {cs1 : RS} {u1 : Int32} {u2 : Int32} {y0 : Int32} {y1 : Int32} {cs9 : RS} {r9 : Int32} (hT : GPT_TG_expr T) (h : m_test_b370 F T cs1 u1 u2 y0 y1 = some (cs9, r9)) : GR cs1 cs9 := by
  unfold m_test_b370 at h
  replace h := ob h
  obtain ⟨cs_5, g1, h⟩ := h
  have q2 : GR cs1 cs_5 := (GR.refl cs1).trans (gw_I (by decide) g1)
  exact (q2).trans (gp_m_test_b371 hT h)
theorem gp_m_test_b336 {F : Nat} {T : TG_expr} {cs1 : RS} {u1 : Int32} {u2 : Int32} {u3 : Int32} {u5 : Int32} {u6 : Int32} {cs9 : RS} {r9 : Int32} (hT : GPT_TG_expr T) (h : m_test_b336 F T cs1 u1 u2 u3 u5 u6 = some (cs9, r9)) : GR cs1 cs9 := by
  unfold m_test_b336 at h
  replace h := ob h
  obtain ⟨cs_6, g1, h⟩ := h
  have q2 : GR cs1 cs_6 := (GR.refl cs1).trans (gp_m_needSign g1)
  replace h := ob h
  obtain ⟨z_7, g3, h⟩ := h
  have q4 : GR cs1 z_7.1 := (q2).trans (gp_m_make g3)
  rcases ite_or h with h | h
  · exact (q4).trans (gp_m_test_b370 hT h)
  · exact (q4).trans (gp_m_test_b370 hT h)
theorem gp_m_test_b321 {F : Nat} {T : TG_expr} {rc234 : RS → Int32 → Int32 → Int32 → Int32 → Int32 → Int32 → Int32 → Int32 → Option (RS × Int32)} {cs1 : RS} {u1 : Int32} {u2 : Int32} {u3 : Int32} {u5 : Int32} {u6 : Int32} {u8 : Int32} {u10 : Int32} {cs9 : RS} {r9 : Int32} (hT : GPT_TG_expr T) (hrc234 : ∀ (cs1 : RS) (a1 : Int32) (a2 : Int32) (a3 : Int32) (a4 : Int32) (a5 : Int32) (a6 : Int32) (a7 : Int32) (a8 : Int32) (cs9 : RS) (r9 : Int32), rc234 cs1 a1 a2 a3 a4 a5 a6 a7 a8 = some (cs9, r9) → GR cs1 cs9) (h : m_test_b321 F T rc234 cs1 u1 u2 u3 u5 u6 u8 u10 = some (cs9, r9)) : GR cs1 cs9 := by
  unfold m_test_b321 at h
  replace h := ob h
  obtain ⟨z_9, g1, h⟩ := h
  have q2 : GR cs1 z_9.1 := (GR.refl cs1).trans (gp_m_takeSign g1)
  exact (q2).trans (hrc234 _ _ _ _ _ _ _ _ _ _ _ h)
theorem gp_m_test_b305 {F : Nat} {T : TG_expr} {rc234 : RS → Int32 → Int32 → Int32 → Int32 → Int32 → Int32 → Int32 → Int32 → Option (RS × Int32)} {cs1 : RS} {u1 : Int32} {u2 : Int32} {u3 : Int32} {u5 : Int32} {u6 : Int32} {u7 : Int32} {u8 : Int32} {u10 : Int32} {cs9 : RS} {r9 : Int32} (hT : GPT_TG_expr T) (hrc234 : ∀ (cs1 : RS) (a1 : Int32) (a2 : Int32) (a3 : Int32) (a4 : Int32) (a5 : Int32) (a6 : Int32) (a7 : Int32) (a8 : Int32) (cs9 : RS) (r9 : Int32), rc234 cs1 a1 a2 a3 a4 a5 a6 a7 a8 = some (cs9, r9) → GR cs1 cs9) (h : m_test_b305 F T rc234 cs1 u1 u2 u3 u5 u6 u7 u8 u10 = some (cs9, r9)) : GR cs1 cs9 := by
  unfold m_test_b305 at h
  rcases ite_or h with h | h
  · exact (GR.refl cs1).trans (gp_m_test_b321 hT hrc234 h)
  · replace h := ob h
    obtain ⟨cs_11, g1, h⟩ := h
    have q2 : GR cs1 cs_11 := (GR.refl cs1).trans (gw_I (by decide) g1)
    exact (q2).trans (gp_m_test_b321 hT hrc234 h)
theorem gp_m_test_b279 {F : Nat} {T : TG_expr} {rc234 : RS → Int32 → Int32 → Int32 → Int32 → Int32 → Int32 → Int32 → Int32 → Option (RS × Int32)} {cs1 : RS} {u1 : Int32} {u2 : Int32} {u3 : Int32} {u5 : Int32} {u6 : Int32} {u7 : Int32} {u8 : Int32} {cs9 : RS} {r9 : Int32} (hT : GPT_TG_expr T) (hrc234 : ∀ (cs1 : RS) (a1 : Int32) (a2 : Int32) (a3 : Int32) (a4 : Int32) (a5 : Int32) (a6 : Int32) (a7 : Int32) (a8 : Int32) (cs9 : RS) (r9 : Int32), rc234 cs1 a1 a2 a3 a4 a5 a6 a7 a8 = some (cs9, r9) → GR cs1 cs9) (h : m_test_b279 F T rc234 cs1 u1 u2 u3 u5 u6 u7 u8 = some (cs9, r9)) : GR cs1 cs9 := by
  unfold m_test_b279 at h
  replace h := ob h
  obtain ⟨z_12, g1, h⟩ := h
  have q2 : GR cs1 z_12.1 := (GR.refl cs1).trans (hT.2.2.2.2.1 _ _ _ g1)
  rcases ite_or h with h | h
  · exact (q2).trans (gp_m_test_b305 hT hrc234 h)
  · rcases ite_or h with h | h
    · exact (q2).trans (gp_m_test_b321 hT hrc234 h)
    · exact (q2).trans (gp_m_test_b305 hT hrc234 h)
theorem gp_m_test_L234 {F : Nat} {T : TG_expr} (hT : GPT_TG_expr T) : ∀ (lf : Nat) (cs1 : RS) (u1 : Int32) (u2 : Int32) (u3 : Int32) (u5 : Int32) (u6 : Int32) (u7 : Int32) (u8 : Int32) (u9 : Int32) (cs9 : RS) (r9 : Int32), m_test_L234 F T lf cs1 u1 u2 u3 u5 u6 u7 u8 u9 = some (cs9, r9) → GR cs1 cs9 := by
  intro lf
  induction lf with
  | zero => intro cs1 u1 u2 u3 u5 u6 u7 u8 u9 cs9 r9 h; cases (show (none : Option (RS × Int32)) = _ from h)
  | succ lf ih =>
    intro cs1 u1 u2 u3 u5 u6 u7 u8 u9 cs9 r9 h
    rw [m_test_L234] at h
    rcases ite_or h with h | h
    · exact (GR.refl cs1).trans (gp_m_test_b336 hT h)
    · rcases ite_or h with h | h
      · exact (GR.refl cs1).trans (gp_m_test_b336 hT h)
      · rcases ite_or h with h | h
        · replace h := ob h
          obtain ⟨v_18, g1, h⟩ := h
          rcases ite_or h with h | h
          · exact (GR.refl cs1).trans (gp_m_test_b279 hT ih h)
          · replace h := ob h
            obtain ⟨v_20, g2, h⟩ := h
            replace h := ob h
            obtain ⟨cs_21, g3, h⟩ := h
            have q4 : GR cs1 cs_21 := (GR.refl cs1).trans (gp_m_tell g3)
            exact (q4).trans (gp_m_test_b279 hT ih h)
        · exact (GR.refl cs1).trans (gp_m_test_b279 hT ih h)
theorem gp_m_test_b200 {F : Nat} {T : TG_expr} {cs1 : RS} {u1 : Int32} {u2 : Int32} {u3 : Int32} {cs9 : RS} {r9 : Int32} (hT : GPT_TG_expr T) (h : m_test_b200 F T cs1 u1 u2 u3 = some (cs9, r9)) : GR cs1 cs9 := by
  unfold m_test_b200 at h
  replace h := ob h
  obtain ⟨z_22, g1, h⟩ := h
  have q2 : GR cs1 z_22.1 := (GR.refl cs1).trans (gp_m_takeWord g1)
  replace h := ob h
  obtain ⟨cs_23, g3, h⟩ := h
  have q4 : GR cs1 cs_23 := (q2).trans (gp_m_needWord g3)
  replace h := ob h
  obtain ⟨cs_24, g5, h⟩ := h
  have q6 : GR cs1 cs_24 := (q4).trans (gp_m_needSign g5)
  exact (q6).trans (gp_m_test_L234 hT _ _ _ _ _ _ _ _ _ _ _ _ h)
theorem gp_m_test_b123 {F : Nat} {T : TG_expr} {cs1 : RS} {u1 : Int32} {u2 : Int32} {u3 : Int32} {cs9 : RS} {r9 : Int32} (hT : GPT_TG_expr T) (h : m_test_b123 F T cs1 u1 u2 u3 = some (cs9, r9)) : GR cs1 cs9 := by
  unfold m_test_b123 at h
  replace h := ob h
  obtain ⟨z_25, g1, h⟩ := h
  have q2 : GR cs1 z_25.1 := (GR.refl cs1).trans (gp_m_takeWord g1)
  rcases ite_or h with h | h
  · replace h := ob h
    obtain ⟨v_27, g3, h⟩ := h
    rcases ite_or h with h | h
    · replace h := ob h
      obtain ⟨v_29, g4, h⟩ := h
      rcases ite_or h with h | h
      · exact (q2).trans (gp_m_test_b371 hT h)
      · exact (q2).trans (gp_m_test_b200 hT h)
    · exact (q2).trans (gp_m_test_b200 hT h)
  · replace h := ob h
    obtain ⟨z_31, g5, h⟩ := h
    have q6 : GR cs1 z_31.1 := (q2).trans (gp_m_takeWord g5)
    replace h := ob h
    obtain ⟨cs_32, g7, h⟩ := h
    have q8 : GR cs1 cs_32 := (q6).trans (gp_m_needWord g7)
    replace h := ob h
    obtain ⟨z_33, g9, h⟩ := h
    have q10 : GR cs1 z_33.1 := (q8).trans (gp_m_make g9)
    rcases ite_or h with h | h
    · exact (q10).trans (gp_m_test_b176 hT h)
    · exact (q10).trans (gp_m_test_b176 hT h)
theorem gp_b_test {F : Nat} {T : TG_expr} {cs : RS} {cs9 : RS} {r9 : Int32} (hT : GPT_TG_expr T) (h : b_test F T cs = some (cs9, r9)) : GR cs cs9 := by
  unfold b_test at h
  replace h := ob h
  obtain ⟨z_35, g1, h⟩ := h
  have q2 : GR cs z_35.1 := (GR.refl cs).trans (hT.2.2.2.2.1 _ _ _ g1)
  replace h := ob h
  obtain ⟨v_36, g3, h⟩ := h
  replace h := ob h
  obtain ⟨v_37, g4, h⟩ := h
  rcases ite_or h with h | h
  · exact (q2).trans (gp_m_test_b123 hT h)
  · rcases ite_or h with h | h
    · exact (q2).trans (gp_m_test_b83 hT h)
    · rcases ite_or h with h | h
      · exact (q2).trans (gp_m_test_b83 hT h)
      · rcases ite_or h with h | h
        · exact (q2).trans (gp_m_test_b83 hT h)
        · rcases ite_or h with h | h
          · exact (q2).trans (gp_m_test_b83 hT h)
          · rcases ite_or h with h | h
            · exact (q2).trans (gp_m_test_b83 hT h)
            · rcases ite_or h with h | h
              · exact (q2).trans (gp_m_test_b83 hT h)
              · exact (q2).trans (gp_m_test_b123 hT h)
theorem gp_m_sum_b59 {F : Nat} {T : TG_expr} {rc10 : RS → Int32 → Int32 → Option (RS × Int32)} {cs1 : RS} {u1 : Int32} {u2 : Int32} {u3 : Int32} {y0 : Int32} {cs9 : RS} {r9 : Int32} (hT : GPT_TG_expr T) (hrc10 : ∀ (cs1 : RS) (a1 : Int32) (a2 : Int32) (cs9 : RS) (r9 : Int32), rc10 cs1 a1 a2 = some (cs9, r9) → GR cs1 cs9) (h : m_sum_b59 F T rc10 cs1 u1 u2 u3 y0 = some (cs9, r9)) : GR cs1 cs9 := by
  unfold m_sum_b59 at h
  replace h := ob h
  obtain ⟨z_1, g1, h⟩ := h
  have q2 : GR cs1 z_1.1 := ((GR.refl cs1).trans (GR.sF (by decide))).trans (hT.2.2.2.2.2.1 _ _ _ g1)
  replace h := ob h
  obtain ⟨z_2, g3, h⟩ := h
  have q4 : GR cs1 z_2.1 := (q2).trans (gp_m_make g3)
  exact (q4).trans (hrc10 _ _ _ _ _ h)
theorem gp_m_sum_b28 {F : Nat} {T : TG_expr} {rc10 : RS → Int32 → Int32 → Option (RS × Int32)} {cs1 : RS} {u1 : Int32} {u2 : Int32} {cs9 : RS} {r9 : Int32} (hT : GPT_TG_expr T) (hrc10 : ∀ (cs1 : RS) (a1 : Int32) (a2 : Int32) (cs9 : RS) (r9 : Int32), rc10 cs1 a1 a2 = some (cs9, r9) → GR cs1 cs9) (h : m_sum_b28 F T rc10 cs1 u1 u2 = some (cs9, r9)) : GR cs1 cs9 := by
  unfold m_sum_b28 at h
  replace h := ob h
  obtain ⟨v_3, g1, h⟩ := h
  replace h := ob h
  obtain ⟨v_4, g2, h⟩ := h
  rcases ite_or h with h | h
  · exact (GR.refl cs1).trans (gp_m_sum_b59 hT hrc10 h)
  · exact (GR.refl cs1).trans (gp_m_sum_b59 hT hrc10 h)
theorem gp_m_sum_L10 {F : Nat} {T : TG_expr} (hT : GPT_TG_expr T) : ∀ (lf : Nat) (cs1 : RS) (u1 : Int32) (u2 : Int32) (cs9 : RS) (r9 : Int32), m_sum_L10 F T lf cs1 u1 u2 = some (cs9, r9) → GR cs1 cs9 := by
  intro lf
  induction lf with
  | zero => intro cs1 u1 u2 cs9 r9 h; cases (show (none : Option (RS × Int32)) = _ from h)
  | succ lf ih =>
    intro cs1 u1 u2 cs9 r9 h
    rw [m_sum_L10] at h
    replace h := ob h
    obtain ⟨v_6, g1, h⟩ := h
    rcases ite_or h with h | h
    · replace h := ob h
      obtain ⟨v_8, g2, h⟩ := h
      rcases ite_or h with h | h
      · exact ((GR.refl cs1).trans (GR.sF (by decide))).to (Prod.mk.inj (Option.some.inj h)).1
      · exact (GR.refl cs1).trans (gp_m_sum_b28 hT ih h)
    · exact (GR.refl cs1).trans (gp_m_sum_b28 hT ih h)
theorem gp_b_sum {F : Nat} {T : TG_expr} {cs : RS} {cs9 : RS} {r9 : Int32} (hT : GPT_TG_expr T) (h : b_sum F T cs = some (cs9, r9)) : GR cs cs9 := by
  unfold b_sum at h
  replace h := ob h
  obtain ⟨z_10, g1, h⟩ := h
  have q2 : GR cs z_10.1 := (GR.refl cs).trans (hT.2.2.2.2.2.1 _ _ _ g1)
  exact (q2).trans (gp_m_sum_L10 hT _ _ _ _ _ _ h)
theorem gp_m_part_b87 {F : Nat} {T : TG_expr} {rc10 : RS → Int32 → Int32 → Option (RS × Int32)} {cs1 : RS} {u1 : Int32} {u2 : Int32} {u3 : Int32} {y0 : Int32} {cs9 : RS} {r9 : Int32} (hT : GPT_TG_expr T) (hrc10 : ∀ (cs1 : RS) (a1 : Int32) (a2 : Int32) (cs9 : RS) (r9 : Int32), rc10 cs1 a1 a2 = some (cs9, r9) → GR cs1 cs9) (h : m_part_b87 F T rc10 cs1 u1 u2 u3 y0 = some (cs9, r9)) : GR cs1 cs9 := by
  unfold m_part_b87 at h
  replace h := ob h
  obtain ⟨z_1, g1, h⟩ := h
  have q2 : GR cs1 z_1.1 := ((GR.refl cs1).trans (GR.sF (by decide))).trans (hT.2.2.2.2.2.2.1 _ _ _ g1)
  replace h := ob h
  obtain ⟨z_2, g3, h⟩ := h
  have q4 : GR cs1 z_2.1 := (q2).trans (gp_m_make g3)
  exact (q4).trans (hrc10 _ _ _ _ _ h)
theorem gp_m_part_b37 {F : Nat} {T : TG_expr} {rc10 : RS → Int32 → Int32 → Option (RS × Int32)} {cs1 : RS} {u1 : Int32} {u2 : Int32} {cs9 : RS} {r9 : Int32} (hT : GPT_TG_expr T) (hrc10 : ∀ (cs1 : RS) (a1 : Int32) (a2 : Int32) (cs9 : RS) (r9 : Int32), rc10 cs1 a1 a2 = some (cs9, r9) → GR cs1 cs9) (h : m_part_b37 F T rc10 cs1 u1 u2 = some (cs9, r9)) : GR cs1 cs9 := by
  unfold m_part_b37 at h
  replace h := ob h
  obtain ⟨v_3, g1, h⟩ := h
  replace h := ob h
  obtain ⟨v_4, g2, h⟩ := h
  rcases ite_or h with h | h
  · exact (GR.refl cs1).trans (gp_m_part_b87 hT hrc10 h)
  · replace h := ob h
    obtain ⟨v_6, g3, h⟩ := h
    rcases ite_or h with h | h
    · exact (GR.refl cs1).trans (gp_m_part_b87 hT hrc10 h)
    · exact (GR.refl cs1).trans (gp_m_part_b87 hT hrc10 h)
theorem gp_m_part_L10 {F : Nat} {T : TG_expr} (hT : GPT_TG_expr T) : ∀ (lf : Nat) (cs1 : RS) (u1 : Int32) (u2 : Int32) (cs9 : RS) (r9 : Int32), m_part_L10 F T lf cs1 u1 u2 = some (cs9, r9) → GR cs1 cs9 := by
  intro lf
  induction lf with
  | zero => intro cs1 u1 u2 cs9 r9 h; cases (show (none : Option (RS × Int32)) = _ from h)
  | succ lf ih =>
    intro cs1 u1 u2 cs9 r9 h
    rw [m_part_L10] at h
    replace h := ob h
    obtain ⟨v_8, g1, h⟩ := h
    rcases ite_or h with h | h
    · replace h := ob h
      obtain ⟨v_10, g2, h⟩ := h
      rcases ite_or h with h | h
      · replace h := ob h
        obtain ⟨v_12, g3, h⟩ := h
        rcases ite_or h with h | h
        · exact ((GR.refl cs1).trans (GR.sF (by decide))).to (Prod.mk.inj (Option.some.inj h)).1
        · exact (GR.refl cs1).trans (gp_m_part_b37 hT ih h)
      · exact (GR.refl cs1).trans (gp_m_part_b37 hT ih h)
    · exact (GR.refl cs1).trans (gp_m_part_b37 hT ih h)
theorem gp_b_part {F : Nat} {T : TG_expr} {cs : RS} {cs9 : RS} {r9 : Int32} (hT : GPT_TG_expr T) (h : b_part F T cs = some (cs9, r9)) : GR cs cs9 := by
  unfold b_part at h
  replace h := ob h
  obtain ⟨z_14, g1, h⟩ := h
  have q2 : GR cs z_14.1 := (GR.refl cs).trans (hT.2.2.2.2.2.2.1 _ _ _ g1)
  exact (q2).trans (gp_m_part_L10 hT _ _ _ _ _ _ h)
theorem gp_m_sign_b54 {F : Nat} {T : TG_expr} {cs1 : RS} {u1 : Int32} {y0 : Int32} {cs9 : RS} {r9 : Int32} (hT : GPT_TG_expr T) (h : m_sign_b54 F T cs1 u1 y0 = some (cs9, r9)) : GR cs1 cs9 := by
  unfold m_sign_b54 at h
  replace h := ob h
  obtain ⟨z_1, g1, h⟩ := h
  have q2 : GR cs1 z_1.1 := ((GR.refl cs1).trans (GR.sF (by decide))).trans (gp_m_make g1)
  exact ((q2).trans (GR.sF (by decide))).to (Prod.mk.inj (Option.some.inj h)).1
theorem gp_b_sign {F : Nat} {T : TG_expr} {cs : RS} {cs9 : RS} {r9 : Int32} (hT : GPT_TG_expr T) (h : b_sign F T cs = some (cs9, r9)) : GR cs cs9 := by
  unfold b_sign at h
  replace h := ob h
  obtain ⟨v_2, g1, h⟩ := h
  rcases ite_or h with h | h
  · replace h := ob h
    obtain ⟨z_8, g2, h⟩ := h
    have q3 : GR cs z_8.1 := (GR.refl cs).trans (hT.2.2.2.2.2.2.2.1 _ _ _ g2)
    exact (q3).to (Prod.mk.inj (Option.some.inj h)).1
  · replace h := ob h
    obtain ⟨v_4, g4, h⟩ := h
    replace h := ob h
    obtain ⟨cs_5, g5, h⟩ := h
    have q6 : GR cs cs_5 := (GR.refl cs).trans (gp_m_deeper g5)
    rcases ite_or h with h | h
    · exact ((q6).trans (GR.sF (by decide))).trans (gp_m_sign_b54 hT h)
    · replace h := ob h
      obtain ⟨z_7, g7, h⟩ := h
      have q8 : GR cs z_7.1 := ((q6).trans (GR.sF (by decide))).trans (hT.2.2.2.2.2.2.1 _ _ _ g7)
      exact (q8).trans (gp_m_sign_b54 hT h)
theorem gp_m_one_b493 {F : Nat} {T : TG_expr} {cs1 : RS} {u1 : Int32} {u2 : Int32} {cs9 : RS} {r9 : Int32} (hT : GPT_TG_expr T) (h : m_one_b493 F T cs1 u1 u2 = some (cs9, r9)) : GR cs1 cs9 := by
  unfold m_one_b493 at h
  exact ((GR.refl cs1).trans (GR.sF (by decide))).to (Prod.mk.inj (Option.some.inj h)).1
theorem gp_m_one_b186 {F : Nat} {T : TG_expr} {cs1 : RS} {u1 : Int32} {y0 : Int32} {cs9 : RS} {r9 : Int32} (hT : GPT_TG_expr T) (h : m_one_b186 F T cs1 u1 y0 = some (cs9, r9)) : GR cs1 cs9 := by
  unfold m_one_b186 at h
  replace h := ob h
  obtain ⟨cs_1, g1, h⟩ := h
  have q2 : GR cs1 cs_1 := ((GR.refl cs1).trans (GR.sF (by decide))).trans (gp_m_needSign g1)
  exact (q2).trans (gp_m_one_b493 hT h)
theorem gp_m_one_b300 {F : Nat} {T : TG_expr} {cs1 : RS} {u1 : Int32} {u3 : Int32} {u4 : Int32} {y0 : Int32} {cs9 : RS} {r9 : Int32} (hT : GPT_TG_expr T) (h : m_one_b300 F T cs1 u1 u3 u4 y0 = some (cs9, r9)) : GR cs1 cs9 := by
  unfold m_one_b300 at h
  replace h := ob h
  obtain ⟨cs_2, g1, h⟩ := h
  have q2 : GR cs1 cs_2 := (GR.refl cs1).trans (gp_m_needWord g1)
  replace h := ob h
  obtain ⟨z_3, g3, h⟩ := h
  have q4 : GR cs1 z_3.1 := ((q2).trans (GR.sF (by decide))).trans (gp_m_make g3)
  exact (q4).trans (gp_m_one_b493 hT h)
theorem gp_m_one_b276 {F : Nat} {T : TG_expr} {cs1 : RS} {u1 : Int32} {u3 : Int32} {y0 : Int32} {cs9 : RS} {r9 : Int32} (hT : GPT_TG_expr T) (h : m_one_b276 F T cs1 u1 u3 y0 = some (cs9, r9)) : GR cs1 cs9 := by
  unfold m_one_b276 at h
  replace h := ob h
  obtain ⟨cs_4, g1, h⟩ := h
  have q2 : GR cs1 cs_4 := (GR.refl cs1).trans (gp_m_needWord g1)
  rcases ite_or h with h | h
  · exact (q2).trans (gp_m_one_b300 hT h)
  · replace h := ob h
    obtain ⟨z_6, g3, h⟩ := h
    have q4 : GR cs1 z_6.1 := (q2).trans (hT.1 _ _ _ g3)
    exact (q4).trans (gp_m_one_b300 hT h)
theorem gp_m_one_b253 {F : Nat} {T : TG_expr} {cs1 : RS} {u1 : Int32} {y0 : Int32} {cs9 : RS} {r9 : Int32} (hT : GPT_TG_expr T) (h : m_one_b253 F T cs1 u1 y0 = some (cs9, r9)) : GR cs1 cs9 := by
  unfold m_one_b253 at h
  replace h := ob h
  obtain ⟨cs_7, g1, h⟩ := h
  have q2 : GR cs1 cs_7 := (GR.refl cs1).trans (gp_m_needWord g1)
  rcases ite_or h with h | h
  · exact (q2).trans (gp_m_one_b276 hT h)
  · replace h := ob h
    obtain ⟨z_9, g3, h⟩ := h
    have q4 : GR cs1 z_9.1 := (q2).trans (hT.1 _ _ _ g3)
    exact (q4).trans (gp_m_one_b276 hT h)
theorem gp_m_one_b404 {F : Nat} {T : TG_expr} {cs1 : RS} {u1 : Int32} {u3 : Int32} {y0 : Int32} {cs9 : RS} {r9 : Int32} (hT : GPT_TG_expr T) (h : m_one_b404 F T cs1 u1 u3 y0 = some (cs9, r9)) : GR cs1 cs9 := by
  unfold m_one_b404 at h
  replace h := ob h
  obtain ⟨cs_10, g1, h⟩ := h
  have q2 : GR cs1 cs_10 := (GR.refl cs1).trans (gp_m_needSign g1)
  replace h := ob h
  obtain ⟨z_11, g3, h⟩ := h
  have q4 : GR cs1 z_11.1 := ((q2).trans (GR.sF (by decide))).trans (gp_m_make g3)
  exact (q4).trans (gp_m_one_b493 hT h)
theorem gp_m_one_b382 {F : Nat} {T : TG_expr} {cs1 : RS} {u1 : Int32} {y0 : Int32} {cs9 : RS} {r9 : Int32} (hT : GPT_TG_expr T) (h : m_one_b382 F T cs1 u1 y0 = some (cs9, r9)) : GR cs1 cs9 := by
  unfold m_one_b382 at h
  replace h := ob h
  obtain ⟨cs_12, g1, h⟩ := h
  have q2 : GR cs1 cs_12 := (GR.refl cs1).trans (gp_m_needSign g1)
  rcases ite_or h with h | h
  · exact (q2).trans (gp_m_one_b404 hT h)
  · replace h := ob h
    obtain ⟨z_14, g3, h⟩ := h
    have q4 : GR cs1 z_14.1 := (q2).trans (hT.1 _ _ _ g3)
    exact (q4).trans (gp_m_one_b404 hT h)
theorem gp_m_one_b478 {F : Nat} {T : TG_expr} {cs1 : RS} {u1 : Int32} {cs9 : RS} {r9 : Int32} (hT : GPT_TG_expr T) (h : m_one_b478 F T cs1 u1 = some (cs9, r9)) : GR cs1 cs9 := by
  unfold m_one_b478 at h
  replace h := ob h
  obtain ⟨z_15, g1, h⟩ := h
  have q2 : GR cs1 z_15.1 := (GR.refl cs1).trans (hT.2.2.2.2.2.2.2.2 _ _ _ _ g1)
  exact (q2).trans (gp_m_one_b493 hT h)
theorem gp_b_one {F : Nat} {T : TG_expr} {cs : RS} {cs9 : RS} {r9 : Int32} (hT : GPT_TG_expr T) (h : b_one F T cs = some (cs9, r9)) : GR cs cs9 := by
  unfold b_one at h
  replace h := ob h
  obtain ⟨v_16, g1, h⟩ := h
  rcases ite_or h with h | h
  · exact (GR.refl cs).to (Prod.mk.inj (Option.some.inj h)).1
  · replace h := ob h
    obtain ⟨v_18, g2, h⟩ := h
    rcases ite_or h with h | h
    · replace h := ob h
      obtain ⟨v_55, g3, h⟩ := h
      replace h := ob h
      obtain ⟨z_56, g4, h⟩ := h
      have q5 : GR cs z_56.1 := ((GR.refl cs).trans (GR.sF (by decide))).trans (gp_m_make g4)
      replace h := ob h
      obtain ⟨cs_57, g6, h⟩ := h
      have q7 : GR cs cs_57 := (q5).trans (gw_L (by decide) g6)
      exact (q7).trans (gp_m_one_b493 hT h)
    · replace h := ob h
      obtain ⟨z_20, g8, h⟩ := h
      have q9 : GR cs z_20.1 := (GR.refl cs).trans (gp_m_takeWord g8)
      rcases ite_or h with h | h
      · replace h := ob h
        obtain ⟨z_22, g10, h⟩ := h
        have q11 : GR cs z_22.1 := (q9).trans (gp_m_takeWord g10)
        rcases ite_or h with h | h
        · replace h := ob h
          obtain ⟨z_24, g12, h⟩ := h
          have q13 : GR cs z_24.1 := (q11).trans (gp_m_takeWord g12)
          rcases ite_or h with h | h
          · replace h := ob h
            obtain ⟨v_26, g14, h⟩ := h
            rcases ite_or h with h | h
            · replace h := ob h
              obtain ⟨v_28, g15, h⟩ := h
              rcases ite_or h with h | h
              · replace h := ob h
                obtain ⟨v_30, g16, h⟩ := h
                rcases ite_or h with h | h
                · replace h := ob h
                  obtain ⟨v_32, g17, h⟩ := h
                  rcases ite_or h with h | h
                  · replace h := ob h
                    obtain ⟨v_34, g18, h⟩ := h
                    rcases ite_or h with h | h
                    · replace h := ob h
                      obtain ⟨v_36, g19, h⟩ := h
                      rcases ite_or h with h | h
                      · replace h := ob h
                        obtain ⟨v_38, g20, h⟩ := h
                        rcases ite_or h with h | h
                        · replace h := ob h
                          obtain ⟨z_40, g21, h⟩ := h
                          have q22 : GR cs z_40.1 := (q13).trans (gp_m_columnOf g21)
                          exact (q22).trans (gp_m_one_b493 hT h)
                        · exact (q13).trans (gp_m_one_b478 hT h)
                      · exact (q13).trans (gp_m_one_b478 hT h)
                    · exact (q13).trans (gp_m_one_b478 hT h)
                  · exact (q13).trans (gp_m_one_b478 hT h)
                · replace h := ob h
                  obtain ⟨cs_41, g23, h⟩ := h
                  have q24 : GR cs cs_41 := (q13).trans (gp_m_deeper g23)
                  replace h := ob h
                  obtain ⟨cs_42, g25, h⟩ := h
                  have q26 : GR cs cs_42 := ((q24).trans (GR.sF (by decide))).trans (gp_m_needSign g25)
                  rcases ite_or h with h | h
                  · exact (q26).trans (gp_m_one_b382 hT h)
                  · replace h := ob h
                    obtain ⟨z_44, g27, h⟩ := h
                    have q28 : GR cs z_44.1 := (q26).trans (hT.1 _ _ _ g27)
                    exact (q28).trans (gp_m_one_b382 hT h)
              · replace h := ob h
                obtain ⟨cs_45, g29, h⟩ := h
                have q30 : GR cs cs_45 := (q13).trans (gp_m_deeper g29)
                replace h := ob h
                obtain ⟨cs_46, g31, h⟩ := h
                have q32 : GR cs cs_46 := ((q30).trans (GR.sF (by decide))).trans (gp_m_needWord g31)
                rcases ite_or h with h | h
                · exact (q32).trans (gp_m_one_b253 hT h)
                · replace h := ob h
                  obtain ⟨z_48, g33, h⟩ := h
                  have q34 : GR cs z_48.1 := (q32).trans (hT.1 _ _ _ g33)
                  exact (q34).trans (gp_m_one_b253 hT h)
            · replace h := ob h
              obtain ⟨cs_49, g35, h⟩ := h
              have q36 : GR cs cs_49 := (q13).trans (gp_m_deeper g35)
              rcases ite_or h with h | h
              · exact ((q36).trans (GR.sF (by decide))).trans (gp_m_one_b186 hT h)
              · replace h := ob h
                obtain ⟨z_51, g37, h⟩ := h
                have q38 : GR cs z_51.1 := ((q36).trans (GR.sF (by decide))).trans (hT.1 _ _ _ g37)
                exact (q38).trans (gp_m_one_b186 hT h)
          · replace h := ob h
            obtain ⟨z_52, g39, h⟩ := h
            have q40 : GR cs z_52.1 := (q13).trans (gp_m_make g39)
            exact (q40).trans (gp_m_one_b493 hT h)
        · replace h := ob h
          obtain ⟨z_53, g41, h⟩ := h
          have q42 : GR cs z_53.1 := (q11).trans (gp_m_make g41)
          exact (q42).trans (gp_m_one_b493 hT h)
      · replace h := ob h
        obtain ⟨z_54, g43, h⟩ := h
        have q44 : GR cs z_54.1 := (q9).trans (gp_m_make g43)
        exact (q44).trans (gp_m_one_b493 hT h)
theorem gp_m_aggregate_b14 {F : Nat} {T : TG_expr} {cs1 : RS} {cs9 : RS} {r9 : Int32} (hT : GPT_TG_expr T) (h : m_aggregate_b14 F T cs1 = some (cs9, r9)) : GR cs1 cs9 := by
  unfold m_aggregate_b14 at h
  replace h := ob h
  obtain ⟨cs_1, g1, h⟩ := h
  have q2 : GR cs1 cs_1 := (GR.refl cs1).trans (gp_m_wrong g1)
  exact (q2).to (Prod.mk.inj (Option.some.inj h)).1
theorem gp_m_aggregate_b195 {F : Nat} {T : TG_expr} {cs1 : RS} {u1 : Int32} {u2 : Int32} {u3 : Int32} {cs9 : RS} {r9 : Int32} (hT : GPT_TG_expr T) (h : m_aggregate_b195 F T cs1 u1 u2 u3 = some (cs9, r9)) : GR cs1 cs9 := by
  unfold m_aggregate_b195 at h
  replace h := ob h
  obtain ⟨cs_2, g1, h⟩ := h
  have q2 : GR cs1 cs_2 := (GR.refl cs1).trans (gp_m_needSign g1)
  replace h := ob h
  obtain ⟨z_3, g3, h⟩ := h
  have q4 : GR cs1 z_3.1 := ((q2).trans (GR.sF (by decide))).trans (gp_m_make g3)
  exact (q4).to (Prod.mk.inj (Option.some.inj h)).1
theorem gp_m_aggregate_b189 {F : Nat} {T : TG_expr} {cs1 : RS} {u1 : Int32} {u2 : Int32} {y0 : Int32} {cs9 : RS} {r9 : Int32} (hT : GPT_TG_expr T) (h : m_aggregate_b189 F T cs1 u1 u2 y0 = some (cs9, r9)) : GR cs1 cs9 := by
  unfold m_aggregate_b189 at h
  exact ((GR.refl cs1).trans (GR.sF (by decide))).trans (gp_m_aggregate_b195 hT h)
theorem gp_m_aggregate_b169 {F : Nat} {T : TG_expr} {cs1 : RS} {u1 : Int32} {u2 : Int32} {cs9 : RS} {r9 : Int32} (hT : GPT_TG_expr T) (h : m_aggregate_b169 F T cs1 u1 u2 = some (cs9, r9)) : GR cs1 cs9 := by
  unfold m_aggregate_b169 at h
  rcases ite_or h with h | h
  · exact ((GR.refl cs1).trans (GR.sF (by decide))).trans (gp_m_aggregate_b189 hT h)
  · replace h := ob h
    obtain ⟨z_5, g1, h⟩ := h
    have q2 : GR cs1 z_5.1 := ((GR.refl cs1).trans (GR.sF (by decide))).trans (hT.1 _ _ _ g1)
    exact (q2).trans (gp_m_aggregate_b189 hT h)
theorem gp_m_aggregate_b129 {F : Nat} {T : TG_expr} {cs1 : RS} {u1 : Int32} {y0 : Int32} {cs9 : RS} {r9 : Int32} (hT : GPT_TG_expr T) (h : m_aggregate_b129 F T cs1 u1 y0 = some (cs9, r9)) : GR cs1 cs9 := by
  unfold m_aggregate_b129 at h
  replace h := ob h
  obtain ⟨cs_6, g1, h⟩ := h
  have q2 : GR cs1 cs_6 := ((GR.refl cs1).trans (GR.sF (by decide))).trans (gp_m_needSign g1)
  rcases ite_or h with h | h
  · replace h := ob h
    obtain ⟨z_8, g3, h⟩ := h
    have q4 : GR cs1 z_8.1 := (q2).trans (gp_m_takeSign g3)
    rcases ite_or h with h | h
    · exact (q4).trans (gp_m_aggregate_b169 hT h)
    · exact (q4).trans (gp_m_aggregate_b195 hT h)
  · exact (q2).trans (gp_m_aggregate_b169 hT h)
theorem gp_m_aggregate_b77 {F : Nat} {T : TG_expr} {cs1 : RS} {u1 : Int32} {cs9 : RS} {r9 : Int32} (hT : GPT_TG_expr T) (h : m_aggregate_b77 F T cs1 u1 = some (cs9, r9)) : GR cs1 cs9 := by
  unfold m_aggregate_b77 at h
  replace h := ob h
  obtain ⟨cs_10, g1, h⟩ := h
  have q2 : GR cs1 cs_10 := (GR.refl cs1).trans (gp_m_deeper g1)
  replace h := ob h
  obtain ⟨v_11, g3, h⟩ := h
  rcases ite_or h with h | h
  · replace h := ob h
    obtain ⟨v_13, g4, h⟩ := h
    rcases ite_or h with h | h
    · replace h := ob h
      obtain ⟨v_15, g5, h⟩ := h
      rcases ite_or h with h | h
      · exact (q2).trans (gp_m_aggregate_b129 hT h)
      · exact (q2).trans (gp_m_aggregate_b129 hT h)
    · exact (q2).trans (gp_m_aggregate_b129 hT h)
  · exact (q2).trans (gp_m_aggregate_b129 hT h)
theorem gp_m_aggregate_b54 {F : Nat} {T : TG_expr} {cs1 : RS} {u1 : Int32} {cs9 : RS} {r9 : Int32} (hT : GPT_TG_expr T) (h : m_aggregate_b54 F T cs1 u1 = some (cs9, r9)) : GR cs1 cs9 := by
  unfold m_aggregate_b54 at h
  replace h := ob h
  obtain ⟨v_17, g1, h⟩ := h
  rcases ite_or h with h | h
  · replace h := ob h
    obtain ⟨cs_19, g2, h⟩ := h
    have q3 : GR cs1 cs_19 := (GR.refl cs1).trans (gw_I (by decide) g2)
    exact (q3).trans (gp_m_aggregate_b77 hT h)
  · exact (GR.refl cs1).trans (gp_m_aggregate_b77 hT h)
theorem gp_b_aggregate {F : Nat} {T : TG_expr} {cs : RS} {x1 : Int32} {cs9 : RS} {r9 : Int32} (hT : GPT_TG_expr T) (h : b_aggregate F T cs x1 = some (cs9, r9)) : GR cs cs9 := by
  unfold b_aggregate at h
  rcases ite_or h with h | h
  · exact (GR.refl cs).trans (gp_m_aggregate_b14 hT h)
  · rcases ite_or h with h | h
    · replace h := ob h
      obtain ⟨v_22, g1, h⟩ := h
      replace h := ob h
      obtain ⟨cs_23, g2, h⟩ := h
      have q3 : GR cs cs_23 := (GR.refl cs).trans (gw_I (by decide) g2)
      replace h := ob h
      obtain ⟨v_24, g4, h⟩ := h
      rcases ite_or h with h | h
      · replace h := ob h
        obtain ⟨cs_26, g5, h⟩ := h
        have q6 : GR cs cs_26 := (q3).trans (gp_m_tell g5)
        exact (q6).trans (gp_m_aggregate_b54 hT h)
      · exact (q3).trans (gp_m_aggregate_b54 hT h)
    · exact (GR.refl cs).trans (gp_m_aggregate_b14 hT h)
theorem gp_tab_expr (F : Nat) : ∀ n, GPT_TG_expr (tab_expr F n)
  | 0 => ⟨fun _ _ _ h => (by cases (show (none : Option (RS × Int32)) = _ from h)), fun _ _ _ h => (by cases (show (none : Option (RS × Int32)) = _ from h)), fun _ _ _ h => (by cases (show (none : Option (RS × Int32)) = _ from h)), fun _ _ _ h => (by cases (show (none : Option (RS × Int32)) = _ from h)), fun _ _ _ h => (by cases (show (none : Option (RS × Int32)) = _ from h)), fun _ _ _ h => (by cases (show (none : Option (RS × Int32)) = _ from h)), fun _ _ _ h => (by cases (show (none : Option (RS × Int32)) = _ from h)), fun _ _ _ h => (by cases (show (none : Option (RS × Int32)) = _ from h)), fun _ _ _ _ h => (by cases (show (none : Option (RS × Int32)) = _ from h))⟩
  | n + 1 => ⟨fun _ _ _ h => gp_b_expr (gp_tab_expr F n) h, fun _ _ _ h => gp_b_andExpr (gp_tab_expr F n) h, fun _ _ _ h => gp_b_notExpr (gp_tab_expr F n) h, fun _ _ _ h => gp_b_test (gp_tab_expr F n) h, fun _ _ _ h => gp_b_sum (gp_tab_expr F n) h, fun _ _ _ h => gp_b_part (gp_tab_expr F n) h, fun _ _ _ h => gp_b_sign (gp_tab_expr F n) h, fun _ _ _ h => gp_b_one (gp_tab_expr F n) h, fun _ _ _ _ h => gp_b_aggregate (gp_tab_expr F n) h⟩
theorem gp_m_expr {F n : Nat} {cs : RS} {cs9 : RS} {r9 : Int32} (h : m_expr F n cs = some (cs9, r9)) : GR cs cs9 := (gp_tab_expr F n).1 _ _ _ h
theorem gp_m_queryOf_b456 {F : Nat} {T : TG_queryOf} {cs1 : RS} {u1 : Int32} {cs9 : RS} {r9 : Int32} (hT : GPT_TG_queryOf T) (h : m_queryOf_b456 F T cs1 u1 = some (cs9, r9)) : GR cs1 cs9 := by
  unfold m_queryOf_b456 at h
  exact (GR.refl cs1).to (Prod.mk.inj (Option.some.inj h)).1
theorem gp_m_queryOf_b423 {F : Nat} {T : TG_queryOf} {cs1 : RS} {u1 : Int32} {cs9 : RS} {r9 : Int32} (hT : GPT_TG_queryOf T) (h : m_queryOf_b423 F T cs1 u1 = some (cs9, r9)) : GR cs1 cs9 := by
  unfold m_queryOf_b423 at h
  rcases ite_or h with h | h
  · exact (GR.refl cs1).trans (gp_m_queryOf_b456 hT h)
  · replace h := ob h
    obtain ⟨v_2, g1, h⟩ := h
    replace h := ob h
    obtain ⟨cs_3, g2, h⟩ := h
    have q3 : GR cs1 cs_3 := (GR.refl cs1).trans (gw_I (by decide) g2)
    exact ((q3).trans (GR.sF (by decide))).trans (gp_m_queryOf_b456 hT h)
theorem gp_m_queryOf_b419 {F : Nat} {T : TG_queryOf} {cs1 : RS} {u1 : Int32} {cs9 : RS} {r9 : Int32} (hT : GPT_TG_queryOf T) (h : m_queryOf_b419 F T cs1 u1 = some (cs9, r9)) : GR cs1 cs9 := by
  unfold m_queryOf_b419 at h
  replace h := ob h
  obtain ⟨cs_4, g1, h⟩ := h
  have q2 : GR cs1 cs_4 := (GR.refl cs1).trans (gp_m_wrong g1)
  exact (q2).trans (gp_m_queryOf_b423 hT h)
theorem gp_m_queryOf_b376 {F : Nat} {T : TG_queryOf} {cs1 : RS} {u1 : Int32} {cs9 : RS} {r9 : Int32} (hT : GPT_TG_queryOf T) (h : m_queryOf_b376 F T cs1 u1 = some (cs9, r9)) : GR cs1 cs9 := by
  unfold m_queryOf_b376 at h
  replace h := ob h
  obtain ⟨cs_5, g1, h⟩ := h
  have q2 : GR cs1 cs_5 := (GR.refl cs1).trans (gp_m_needWord g1)
  rcases ite_or h with h | h
  · exact (q2).trans (gp_m_queryOf_b423 hT h)
  · replace h := ob h
    obtain ⟨v_7, g3, h⟩ := h
    rcases ite_or h with h | h
    · replace h := ob h
      obtain ⟨v_9, g4, h⟩ := h
      rcases ite_or h with h | h
      · exact (q2).trans (gp_m_queryOf_b423 hT h)
      · exact (q2).trans (gp_m_queryOf_b419 hT h)
    · exact (q2).trans (gp_m_queryOf_b419 hT h)
theorem gp_m_queryOf_b366 {F : Nat} {T : TG_queryOf} {rc246 : RS → Int32 → Int32 → Option (RS × Int32)} {cs1 : RS} {u1 : Int32} {cs9 : RS} {r9 : Int32} (hT : GPT_TG_queryOf T) (hrc246 : ∀ (cs1 : RS) (a1 : Int32) (a2 : Int32) (cs9 : RS) (r9 : Int32), rc246 cs1 a1 a2 = some (cs9, r9) → GR cs1 cs9) (h : m_queryOf_b366 F T rc246 cs1 u1 = some (cs9, r9)) : GR cs1 cs9 := by
  unfold m_queryOf_b366 at h
  replace h := ob h
  obtain ⟨z_11, g1, h⟩ := h
  have q2 : GR cs1 z_11.1 := (GR.refl cs1).trans (gp_m_takeSign g1)
  exact (q2).trans (hrc246 _ _ _ _ _ h)
theorem gp_m_queryOf_b310 {F : Nat} {T : TG_queryOf} {rc246 : RS → Int32 → Int32 → Option (RS × Int32)} {cs1 : RS} {u1 : Int32} {u5 : Int32} {y0 : Int32} {cs9 : RS} {r9 : Int32} (hT : GPT_TG_queryOf T) (hrc246 : ∀ (cs1 : RS) (a1 : Int32) (a2 : Int32) (cs9 : RS) (r9 : Int32), rc246 cs1 a1 a2 = some (cs9, r9) → GR cs1 cs9) (h : m_queryOf_b310 F T rc246 cs1 u1 u5 y0 = some (cs9, r9)) : GR cs1 cs9 := by
  unfold m_queryOf_b310 at h
  replace h := ob h
  obtain ⟨z_12, g1, h⟩ := h
  have q2 : GR cs1 z_12.1 := (GR.refl cs1).trans (gp_m_takeWord g1)
  rcases ite_or h with h | h
  · exact (q2).trans (gp_m_queryOf_b366 hT hrc246 h)
  · replace h := ob h
    obtain ⟨cs_14, g3, h⟩ := h
    have q4 : GR cs1 cs_14 := (q2).trans (gw_I (by decide) g3)
    replace h := ob h
    obtain ⟨cs_15, g5, h⟩ := h
    have q6 : GR cs1 cs_15 := (q4).trans (gw_I (by decide) g5)
    replace h := ob h
    obtain ⟨v_16, g7, h⟩ := h
    replace h := ob h
    obtain ⟨cs_17, g8, h⟩ := h
    have q9 : GR cs1 cs_17 := (q6).trans (gw_I (by decide) g8)
    exact (q9).trans (gp_m_queryOf_b366 hT hrc246 h)
theorem gp_m_queryOf_b295 {F : Nat} {T : TG_queryOf} {rc246 : RS → Int32 → Int32 → Option (RS × Int32)} {cs1 : RS} {u1 : Int32} {u5 : Int32} {cs9 : RS} {r9 : Int32} (hT : GPT_TG_queryOf T) (hrc246 : ∀ (cs1 : RS) (a1 : Int32) (a2 : Int32) (cs9 : RS) (r9 : Int32), rc246 cs1 a1 a2 = some (cs9, r9) → GR cs1 cs9) (h : m_queryOf_b295 F T rc246 cs1 u1 u5 = some (cs9, r9)) : GR cs1 cs9 := by
  unfold m_queryOf_b295 at h
  rcases ite_or h with h | h
  · exact (GR.refl cs1).trans (gp_m_queryOf_b310 hT hrc246 h)
  · replace h := ob h
    obtain ⟨z_19, g1, h⟩ := h
    have q2 : GR cs1 z_19.1 := (GR.refl cs1).trans (gp_m_expr g1)
    exact (q2).trans (gp_m_queryOf_b310 hT hrc246 h)
theorem gp_m_queryOf_L246 {F : Nat} {T : TG_queryOf} (hT : GPT_TG_queryOf T) : ∀ (lf : Nat) (cs1 : RS) (u1 : Int32) (u2 : Int32) (cs9 : RS) (r9 : Int32), m_queryOf_L246 F T lf cs1 u1 u2 = some (cs9, r9) → GR cs1 cs9 := by
  intro lf
  induction lf with
  | zero => intro cs1 u1 u2 cs9 r9 h; cases (show (none : Option (RS × Int32)) = _ from h)
  | succ lf ih =>
    intro cs1 u1 u2 cs9 r9 h
    rw [m_queryOf_L246] at h
    rcases ite_or h with h | h
    · exact (GR.refl cs1).trans (gp_m_queryOf_b376 hT h)
    · rcases ite_or h with h | h
      · exact (GR.refl cs1).trans (gp_m_queryOf_b376 hT h)
      · replace h := ob h
        obtain ⟨v_22, g1, h⟩ := h
        rcases ite_or h with h | h
        · replace h := ob h
          obtain ⟨v_24, g2, h⟩ := h
          rcases ite_or h with h | h
          · exact (GR.refl cs1).trans (gp_m_queryOf_b295 hT ih h)
          · replace h := ob h
            obtain ⟨v_26, g3, h⟩ := h
            replace h := ob h
            obtain ⟨cs_27, g4, h⟩ := h
            have q5 : GR cs1 cs_27 := (GR.refl cs1).trans (gp_m_tell g4)
            exact (q5).trans (gp_m_queryOf_b295 hT ih h)
        · exact (GR.refl cs1).trans (gp_m_queryOf_b295 hT ih h)
theorem gp_m_queryOf_b197 {F : Nat} {T : TG_queryOf} {cs1 : RS} {u1 : Int32} {cs9 : RS} {r9 : Int32} (hT : GPT_TG_queryOf T) (h : m_queryOf_b197 F T cs1 u1 = some (cs9, r9)) : GR cs1 cs9 := by
  unfold m_queryOf_b197 at h
  replace h := ob h
  obtain ⟨v_28, g1, h⟩ := h
  rcases ite_or h with h | h
  · exact (GR.refl cs1).trans (gp_m_queryOf_b456 hT h)
  · replace h := ob h
    obtain ⟨v_30, g2, h⟩ := h
    replace h := ob h
    obtain ⟨cs_31, g3, h⟩ := h
    have q4 : GR cs1 cs_31 := (GR.refl cs1).trans (gw_I (by decide) g3)
    replace h := ob h
    obtain ⟨cs_32, g5, h⟩ := h
    have q6 : GR cs1 cs_32 := ((q4).trans (GR.sF (by decide))).trans (gp_m_needWord g5)
    exact ((q6).trans (GR.sF (by decide))).trans (gp_m_queryOf_L246 hT _ _ _ _ _ _ h)
theorem gp_m_queryOf_b194 {F : Nat} {T : TG_queryOf} {rc50 : RS → Int32 → Int32 → Int32 → Int32 → Option (RS × Int32)} {cs1 : RS} {u1 : Int32} {u2 : Int32} {u3 : Int32} {u4 : Int32} {cs9 : RS} {r9 : Int32} (hT : GPT_TG_queryOf T) (hrc50 : ∀ (cs1 : RS) (a1 : Int32) (a2 : Int32) (a3 : Int32) (a4 : Int32) (cs9 : RS) (r9 : Int32), rc50 cs1 a1 a2 a3 a4 = some (cs9, r9) → GR cs1 cs9) (h : m_queryOf_b194 F T rc50 cs1 u1 u2 u3 u4 = some (cs9, r9)) : GR cs1 cs9 := by
  unfold m_queryOf_b194 at h
  exact (GR.refl cs1).trans (hrc50 _ _ _ _ _ _ _ h)
theorem gp_m_queryOf_b158 {F : Nat} {T : TG_queryOf} {rc50 : RS → Int32 → Int32 → Int32 → Int32 → Option (RS × Int32)} {cs1 : RS} {u1 : Int32} {u2 : Int32} {u4 : Int32} {y0 : Int32} {cs9 : RS} {r9 : Int32} (hT : GPT_TG_queryOf T) (hrc50 : ∀ (cs1 : RS) (a1 : Int32) (a2 : Int32) (a3 : Int32) (a4 : Int32) (cs9 : RS) (r9 : Int32), rc50 cs1 a1 a2 a3 a4 = some (cs9, r9) → GR cs1 cs9) (h : m_queryOf_b158 F T rc50 cs1 u1 u2 u4 y0 = some (cs9, r9)) : GR cs1 cs9 := by
  unfold m_queryOf_b158 at h
  exact (GR.refl cs1).trans (gp_m_queryOf_b194 hT hrc50 h)
theorem gp_m_queryOf_b122 {F : Nat} {T : TG_queryOf} {rc50 : RS → Int32 → Int32 → Int32 → Int32 → Option (RS × Int32)} {cs1 : RS} {u1 : Int32} {u2 : Int32} {u3 : Int32} {cs9 : RS} {r9 : Int32} (hT : GPT_TG_queryOf T) (hrc50 : ∀ (cs1 : RS) (a1 : Int32) (a2 : Int32) (a3 : Int32) (a4 : Int32) (cs9 : RS) (r9 : Int32), rc50 cs1 a1 a2 a3 a4 = some (cs9, r9) → GR cs1 cs9) (h : m_queryOf_b122 F T rc50 cs1 u1 u2 u3 = some (cs9, r9)) : GR cs1 cs9 := by
  unfold m_queryOf_b122 at h
  replace h := ob h
  obtain ⟨v_33, g1, h⟩ := h
  replace h := ob h
  obtain ⟨z_34, g2, h⟩ := h
  have q3 : GR cs1 z_34.1 := (GR.refl cs1).trans (gp_m_takeWord g2)
  rcases ite_or h with h | h
  · replace h := ob h
    obtain ⟨z_36, g4, h⟩ := h
    have q5 : GR cs1 z_36.1 := (q3).trans (gp_m_takeWord g4)
    rcases ite_or h with h | h
    · replace h := ob h
      obtain ⟨z_38, g6, h⟩ := h
      have q7 : GR cs1 z_38.1 := (q5).trans (gp_m_takeWord g6)
      rcases ite_or h with h | h
      · exact (q7).trans (gp_m_queryOf_b194 hT hrc50 h)
      · exact (q7).trans (gp_m_queryOf_b194 hT hrc50 h)
    · exact (q5).trans (gp_m_queryOf_b194 hT hrc50 h)
  · replace h := ob h
    obtain ⟨z_40, g8, h⟩ := h
    have q9 : GR cs1 z_40.1 := (q3).trans (gp_m_takeWord g8)
    rcases ite_or h with h | h
    · exact (q9).trans (gp_m_queryOf_b158 hT hrc50 h)
    · exact (q9).trans (gp_m_queryOf_b158 hT hrc50 h)
theorem gp_m_queryOf_L50 {F : Nat} {T : TG_queryOf} (hT : GPT_TG_queryOf T) : ∀ (lf : Nat) (cs1 : RS) (u1 : Int32) (u2 : Int32) (u3 : Int32) (u4 : Int32) (cs9 : RS) (r9 : Int32), m_queryOf_L50 F T lf cs1 u1 u2 u3 u4 = some (cs9, r9) → GR cs1 cs9 := by
  intro lf
  induction lf with
  | zero => intro cs1 u1 u2 u3 u4 cs9 r9 h; cases (show (none : Option (RS × Int32)) = _ from h)
  | succ lf ih =>
    intro cs1 u1 u2 u3 u4 cs9 r9 h
    rw [m_queryOf_L50] at h
    rcases ite_or h with h | h
    · exact (GR.refl cs1).trans (gp_m_queryOf_b197 hT h)
    · rcases ite_or h with h | h
      · exact (GR.refl cs1).trans (gp_m_queryOf_b197 hT h)
      · replace h := ob h
        obtain ⟨z_44, g1, h⟩ := h
        have q2 : GR cs1 z_44.1 := (GR.refl cs1).trans (hT.2.1 _ _ _ g1)
        replace h := ob h
        obtain ⟨v_45, g3, h⟩ := h
        rcases ite_or h with h | h
        · exact (q2).trans (gp_m_queryOf_b122 hT ih h)
        · replace h := ob h
          obtain ⟨cs_47, g4, h⟩ := h
          have q5 : GR cs1 cs_47 := (q2).trans (gw_I (by decide) g4)
          replace h := ob h
          obtain ⟨cs_48, g6, h⟩ := h
          have q7 : GR cs1 cs_48 := (q5).trans (gw_I (by decide) g6)
          replace h := ob h
          obtain ⟨cs_49, g8, h⟩ := h
          have q9 : GR cs1 cs_49 := (q7).trans (gw_I (by decide) g8)
          replace h := ob h
          obtain ⟨v_50, g10, h⟩ := h
          replace h := ob h
          obtain ⟨cs_51, g11, h⟩ := h
          have q12 : GR cs1 cs_51 := (q9).trans (gw_I (by decide) g11)
          exact (q12).trans (gp_m_queryOf_b122 hT ih h)
theorem gp_b_queryOf {F : Nat} {T : TG_queryOf} {cs : RS} {cs9 : RS} {r9 : Int32} (hT : GPT_TG_queryOf T) (h : b_queryOf F T cs = some (cs9, r9)) : GR cs cs9 := by
  unfold b_queryOf at h
  replace h := ob h
  obtain ⟨cs_52, g1, h⟩ := h
  have q2 : GR cs cs_52 := ((GR.refl cs).trans (GR.sF (by decide))).trans (gw_I (by decide) g1)
  replace h := ob h
  obtain ⟨cs_53, g3, h⟩ := h
  have q4 : GR cs cs_53 := (q2).trans (gw_I (by decide) g3)
  replace h := ob h
  obtain ⟨cs_54, g5, h⟩ := h
  have q6 : GR cs cs_54 := (q4).trans (gw_I (by decide) g5)
  replace h := ob h
  obtain ⟨cs_55, g7, h⟩ := h
  have q8 : GR cs cs_55 := (q6).trans (gw_I (by decide) g7)
  exact (q8).trans (gp_m_queryOf_L50 hT _ _ _ _ _ _ _ _ h)
theorem gp_m_selectOf_b777 {F : Nat} {T : TG_queryOf} {cs1 : RS} {u1 : Int32} {u2 : Int32} {cs9 : RS} {r9 : Int32} (hT : GPT_TG_queryOf T) (h : m_selectOf_b777 F T cs1 u1 u2 = some (cs9, r9)) : GR cs1 cs9 := by
  unfold m_selectOf_b777 at h
  exact ((GR.refl cs1).trans (GR.sF (by decide))).to (Prod.mk.inj (Option.some.inj h)).1
theorem gp_m_selectOf_b771 {F : Nat} {T : TG_queryOf} {cs1 : RS} {u1 : Int32} {u2 : Int32} {y0 : Int32} {y1 : Int32} {cs9 : RS} {r9 : Int32} (hT : GPT_TG_queryOf T) (h : m_selectOf_b771 F T cs1 u1 u2 y0 y1 = some (cs9, r9)) : GR cs1 cs9 := by
  unfold m_selectOf_b771 at h
  replace h := ob h
  obtain ⟨cs_1, g1, h⟩ := h
  have q2 : GR cs1 cs_1 := (GR.refl cs1).trans (gw_I (by decide) g1)
  exact ((q2).trans (GR.sF (by decide))).trans (gp_m_selectOf_b777 hT h)
theorem gp_m_selectOf_b736 {F : Nat} {T : TG_queryOf} {cs1 : RS} {u1 : Int32} {u2 : Int32} {cs9 : RS} {r9 : Int32} (hT : GPT_TG_queryOf T) (h : m_selectOf_b736 F T cs1 u1 u2 = some (cs9, r9)) : GR cs1 cs9 := by
  unfold m_selectOf_b736 at h
  replace h := ob h
  obtain ⟨z_2, g1, h⟩ := h
  have q2 : GR cs1 z_2.1 := (GR.refl cs1).trans (gp_m_takeWord g1)
  rcases ite_or h with h | h
  · exact (q2).trans (gp_m_selectOf_b777 hT h)
  · rcases ite_or h with h | h
    · exact ((q2).trans (GR.sF (by decide))).trans (gp_m_selectOf_b771 hT h)
    · replace h := ob h
      obtain ⟨z_5, g3, h⟩ := h
      have q4 : GR cs1 z_5.1 := ((q2).trans (GR.sF (by decide))).trans (gp_m_expr g3)
      exact (q4).trans (gp_m_selectOf_b771 hT h)
theorem gp_m_selectOf_b725 {F : Nat} {T : TG_queryOf} {rc589 : RS → Int32 → Int32 → Int32 → Option (RS × Int32)} {cs1 : RS} {u1 : Int32} {u2 : Int32} {cs9 : RS} {r9 : Int32} (hT : GPT_TG_queryOf T) (hrc589 : ∀ (cs1 : RS) (a1 : Int32) (a2 : Int32) (a3 : Int32) (cs9 : RS) (r9 : Int32), rc589 cs1 a1 a2 a3 = some (cs9, r9) → GR cs1 cs9) (h : m_selectOf_b725 F T rc589 cs1 u1 u2 = some (cs9, r9)) : GR cs1 cs9 := by
  unfold m_selectOf_b725 at h
  replace h := ob h
  obtain ⟨z_6, g1, h⟩ := h
  have q2 : GR cs1 z_6.1 := (GR.refl cs1).trans (gp_m_takeSign g1)
  exact (q2).trans (hrc589 _ _ _ _ _ _ h)
theorem gp_m_selectOf_b678 {F : Nat} {T : TG_queryOf} {rc589 : RS → Int32 → Int32 → Int32 → Option (RS × Int32)} {cs1 : RS} {u1 : Int32} {u2 : Int32} {u5 : Int32} {u6 : Int32} {y0 : Int32} {cs9 : RS} {r9 : Int32} (hT : GPT_TG_queryOf T) (hrc589 : ∀ (cs1 : RS) (a1 : Int32) (a2 : Int32) (a3 : Int32) (cs9 : RS) (r9 : Int32), rc589 cs1 a1 a2 a3 = some (cs9, r9) → GR cs1 cs9) (h : m_selectOf_b678 F T rc589 cs1 u1 u2 u5 u6 y0 = some (cs9, r9)) : GR cs1 cs9 := by
  unfold m_selectOf_b678 at h
  rcases ite_or h with h | h
  · exact (GR.refl cs1).trans (gp_m_selectOf_b725 hT hrc589 h)
  · replace h := ob h
    obtain ⟨cs_8, g1, h⟩ := h
    have q2 : GR cs1 cs_8 := (GR.refl cs1).trans (gw_I (by decide) g1)
    replace h := ob h
    obtain ⟨cs_9, g3, h⟩ := h
    have q4 : GR cs1 cs_9 := (q2).trans (gw_I (by decide) g3)
    replace h := ob h
    obtain ⟨v_10, g5, h⟩ := h
    replace h := ob h
    obtain ⟨cs_11, g6, h⟩ := h
    have q7 : GR cs1 cs_11 := (q4).trans (gw_I (by decide) g6)
    exact (q7).trans (gp_m_selectOf_b725 hT hrc589 h)
theorem gp_m_selectOf_b654 {F : Nat} {T : TG_queryOf} {rc589 : RS → Int32 → Int32 → Int32 → Option (RS × Int32)} {cs1 : RS} {u1 : Int32} {u2 : Int32} {u5 : Int32} {y0 : Int32} {cs9 : RS} {r9 : Int32} (hT : GPT_TG_queryOf T) (hrc589 : ∀ (cs1 : RS) (a1 : Int32) (a2 : Int32) (a3 : Int32) (cs9 : RS) (r9 : Int32), rc589 cs1 a1 a2 a3 = some (cs9, r9) → GR cs1 cs9) (h : m_selectOf_b654 F T rc589 cs1 u1 u2 u5 y0 = some (cs9, r9)) : GR cs1 cs9 := by
  unfold m_selectOf_b654 at h
  replace h := ob h
  obtain ⟨cs_12, g1, h⟩ := h
  have q2 : GR cs1 cs_12 := (GR.refl cs1).trans (gp_m_needWord g1)
  rcases ite_or h with h | h
  · exact (q2).trans (gp_m_selectOf_b678 hT hrc589 h)
  · replace h := ob h
    obtain ⟨z_14, g3, h⟩ := h
    have q4 : GR cs1 z_14.1 := (q2).trans (gp_m_name g3)
    exact (q4).trans (gp_m_selectOf_b678 hT hrc589 h)
theorem gp_m_selectOf_b639 {F : Nat} {T : TG_queryOf} {rc589 : RS → Int32 → Int32 → Int32 → Option (RS × Int32)} {cs1 : RS} {u1 : Int32} {u2 : Int32} {u5 : Int32} {cs9 : RS} {r9 : Int32} (hT : GPT_TG_queryOf T) (hrc589 : ∀ (cs1 : RS) (a1 : Int32) (a2 : Int32) (a3 : Int32) (cs9 : RS) (r9 : Int32), rc589 cs1 a1 a2 a3 = some (cs9, r9) → GR cs1 cs9) (h : m_selectOf_b639 F T rc589 cs1 u1 u2 u5 = some (cs9, r9)) : GR cs1 cs9 := by
  unfold m_selectOf_b639 at h
  rcases ite_or h with h | h
  · exact (GR.refl cs1).trans (gp_m_selectOf_b654 hT hrc589 h)
  · replace h := ob h
    obtain ⟨z_16, g1, h⟩ := h
    have q2 : GR cs1 z_16.1 := (GR.refl cs1).trans (gp_m_expr g1)
    exact (q2).trans (gp_m_selectOf_b654 hT hrc589 h)
theorem gp_m_selectOf_L589 {F : Nat} {T : TG_queryOf} (hT : GPT_TG_queryOf T) : ∀ (lf : Nat) (cs1 : RS) (u1 : Int32) (u2 : Int32) (u4 : Int32) (cs9 : RS) (r9 : Int32), m_selectOf_L589 F T lf cs1 u1 u2 u4 = some (cs9, r9) → GR cs1 cs9 := by
  intro lf
  induction lf with
  | zero => intro cs1 u1 u2 u4 cs9 r9 h; cases (show (none : Option (RS × Int32)) = _ from h)
  | succ lf ih =>
    intro cs1 u1 u2 u4 cs9 r9 h
    rw [m_selectOf_L589] at h
    rcases ite_or h with h | h
    · exact (GR.refl cs1).trans (gp_m_selectOf_b736 hT h)
    · rcases ite_or h with h | h
      · exact (GR.refl cs1).trans (gp_m_selectOf_b736 hT h)
      · replace h := ob h
        obtain ⟨v_19, g1, h⟩ := h
        rcases ite_or h with h | h
        · replace h := ob h
          obtain ⟨v_21, g2, h⟩ := h
          rcases ite_or h with h | h
          · exact (GR.refl cs1).trans (gp_m_selectOf_b639 hT ih h)
          · replace h := ob h
            obtain ⟨v_23, g3, h⟩ := h
            replace h := ob h
            obtain ⟨cs_24, g4, h⟩ := h
            have q5 : GR cs1 cs_24 := (GR.refl cs1).trans (gp_m_tell g4)
            exact (q5).trans (gp_m_selectOf_b639 hT ih h)
        · exact (GR.refl cs1).trans (gp_m_selectOf_b639 hT ih h)
theorem gp_m_selectOf_b544 {F : Nat} {T : TG_queryOf} {cs1 : RS} {u1 : Int32} {u2 : Int32} {cs9 : RS} {r9 : Int32} (hT : GPT_TG_queryOf T) (h : m_selectOf_b544 F T cs1 u1 u2 = some (cs9, r9)) : GR cs1 cs9 := by
  unfold m_selectOf_b544 at h
  replace h := ob h
  obtain ⟨v_25, g1, h⟩ := h
  rcases ite_or h with h | h
  · exact (GR.refl cs1).trans (gp_m_selectOf_b736 hT h)
  · replace h := ob h
    obtain ⟨v_27, g2, h⟩ := h
    replace h := ob h
    obtain ⟨cs_28, g3, h⟩ := h
    have q4 : GR cs1 cs_28 := (GR.refl cs1).trans (gw_I (by decide) g3)
    replace h := ob h
    obtain ⟨cs_29, g5, h⟩ := h
    have q6 : GR cs1 cs_29 := ((q4).trans (GR.sF (by decide))).trans (gp_m_needWord g5)
    exact (q6).trans (gp_m_selectOf_L589 hT _ _ _ _ _ _ _ h)
theorem gp_m_selectOf_b543 {F : Nat} {T : TG_queryOf} {cs1 : RS} {u1 : Int32} {u2 : Int32} {y0 : Int32} {y1 : Int32} {cs9 : RS} {r9 : Int32} (hT : GPT_TG_queryOf T) (h : m_selectOf_b543 F T cs1 u1 u2 y0 y1 = some (cs9, r9)) : GR cs1 cs9 := by
  unfold m_selectOf_b543 at h
  replace h := ob h
  obtain ⟨cs_30, g1, h⟩ := h
  have q2 : GR cs1 cs_30 := (GR.refl cs1).trans (gw_I (by decide) g1)
  exact (q2).trans (gp_m_selectOf_b544 hT h)
theorem gp_m_selectOf_b503 {F : Nat} {T : TG_queryOf} {cs1 : RS} {u1 : Int32} {u2 : Int32} {cs9 : RS} {r9 : Int32} (hT : GPT_TG_queryOf T) (h : m_selectOf_b503 F T cs1 u1 u2 = some (cs9, r9)) : GR cs1 cs9 := by
  unfold m_selectOf_b503 at h
  replace h := ob h
  obtain ⟨z_31, g1, h⟩ := h
  have q2 : GR cs1 z_31.1 := (((GR.refl cs1).trans (GR.sF (by decide))).trans (GR.sF (by decide))).trans (gp_m_takeWord g1)
  rcases ite_or h with h | h
  · exact (q2).trans (gp_m_selectOf_b544 hT h)
  · rcases ite_or h with h | h
    · exact (q2).trans (gp_m_selectOf_b543 hT h)
    · replace h := ob h
      obtain ⟨z_34, g3, h⟩ := h
      have q4 : GR cs1 z_34.1 := (q2).trans (gp_m_expr g3)
      exact (q4).trans (gp_m_selectOf_b543 hT h)
theorem gp_m_selectOf_b500 {F : Nat} {T : TG_queryOf} {rc375 : RS → Int32 → Int32 → Option (RS × Int32)} {cs1 : RS} {u1 : Int32} {u2 : Int32} {cs9 : RS} {r9 : Int32} (hT : GPT_TG_queryOf T) (hrc375 : ∀ (cs1 : RS) (a1 : Int32) (a2 : Int32) (cs9 : RS) (r9 : Int32), rc375 cs1 a1 a2 = some (cs9, r9) → GR cs1 cs9) (h : m_selectOf_b500 F T rc375 cs1 u1 u2 = some (cs9, r9)) : GR cs1 cs9 := by
  unfold m_selectOf_b500 at h
  exact (GR.refl cs1).trans (hrc375 _ _ _ _ _ h)
theorem gp_m_selectOf_b482 {F : Nat} {T : TG_queryOf} {rc375 : RS → Int32 → Int32 → Option (RS × Int32)} {cs1 : RS} {u1 : Int32} {u2 : Int32} {u7 : Int32} {y0 : Int32} {cs9 : RS} {r9 : Int32} (hT : GPT_TG_queryOf T) (hrc375 : ∀ (cs1 : RS) (a1 : Int32) (a2 : Int32) (cs9 : RS) (r9 : Int32), rc375 cs1 a1 a2 = some (cs9, r9) → GR cs1 cs9) (h : m_selectOf_b482 F T rc375 cs1 u1 u2 u7 y0 = some (cs9, r9)) : GR cs1 cs9 := by
  unfold m_selectOf_b482 at h
  rcases ite_or h with h | h
  · exact (GR.refl cs1).trans (gp_m_selectOf_b500 hT hrc375 h)
  · replace h := ob h
    obtain ⟨cs_36, g1, h⟩ := h
    have q2 : GR cs1 cs_36 := (GR.refl cs1).trans (gw_I (by decide) g1)
    exact (q2).trans (gp_m_selectOf_b500 hT hrc375 h)
theorem gp_m_selectOf_b402 {F : Nat} {T : TG_queryOf} {rc375 : RS → Int32 → Int32 → Option (RS × Int32)} {cs1 : RS} {u1 : Int32} {u2 : Int32} {cs9 : RS} {r9 : Int32} (hT : GPT_TG_queryOf T) (hrc375 : ∀ (cs1 : RS) (a1 : Int32) (a2 : Int32) (cs9 : RS) (r9 : Int32), rc375 cs1 a1 a2 = some (cs9, r9) → GR cs1 cs9) (h : m_selectOf_b402 F T rc375 cs1 u1 u2 = some (cs9, r9)) : GR cs1 cs9 := by
  unfold m_selectOf_b402 at h
  replace h := ob h
  obtain ⟨z_37, g1, h⟩ := h
  have q2 : GR cs1 z_37.1 := (GR.refl cs1).trans (gp_m_takeWord g1)
  replace h := ob h
  obtain ⟨v_38, g3, h⟩ := h
  replace h := ob h
  obtain ⟨cs_39, g4, h⟩ := h
  have q5 : GR cs1 cs_39 := (q2).trans (gp_m_needWord g4)
  replace h := ob h
  obtain ⟨v_40, g6, h⟩ := h
  replace h := ob h
  obtain ⟨cs_41, g7, h⟩ := h
  have q8 : GR cs1 cs_41 := (q5).trans (hT.2.2 _ _ _ _ _ g7)
  replace h := ob h
  obtain ⟨cs_42, g9, h⟩ := h
  have q10 : GR cs1 cs_42 := (((q8).trans (GR.sF (by decide))).trans (GR.sF (by decide))).trans (gp_m_needWord g9)
  rcases ite_or h with h | h
  · exact (q10).trans (gp_m_selectOf_b482 hT hrc375 h)
  · replace h := ob h
    obtain ⟨z_44, g11, h⟩ := h
    have q12 : GR cs1 z_44.1 := (q10).trans (gp_m_expr g11)
    exact (q12).trans (gp_m_selectOf_b482 hT hrc375 h)
theorem gp_m_selectOf_L375 {F : Nat} {T : TG_queryOf} (hT : GPT_TG_queryOf T) : ∀ (lf : Nat) (cs1 : RS) (u1 : Int32) (u2 : Int32) (cs9 : RS) (r9 : Int32), m_selectOf_L375 F T lf cs1 u1 u2 = some (cs9, r9) → GR cs1 cs9 := by
  intro lf
  induction lf with
  | zero => intro cs1 u1 u2 cs9 r9 h; cases (show (none : Option (RS × Int32)) = _ from h)
  | succ lf ih =>
    intro cs1 u1 u2 cs9 r9 h
    rw [m_selectOf_L375] at h
    rcases ite_or h with h | h
    · exact (GR.refl cs1).trans (gp_m_selectOf_b503 hT h)
    · replace h := ob h
      obtain ⟨v_46, g1, h⟩ := h
      rcases ite_or h with h | h
      · replace h := ob h
        obtain ⟨v_48, g2, h⟩ := h
        rcases ite_or h with h | h
        · exact (GR.refl cs1).trans (gp_m_selectOf_b503 hT h)
        · exact (GR.refl cs1).trans (gp_m_selectOf_b402 hT ih h)
      · exact (GR.refl cs1).trans (gp_m_selectOf_b402 hT ih h)
theorem gp_m_selectOf_b356 {F : Nat} {T : TG_queryOf} {cs1 : RS} {u1 : Int32} {u2 : Int32} {cs9 : RS} {r9 : Int32} (hT : GPT_TG_queryOf T) (h : m_selectOf_b356 F T cs1 u1 u2 = some (cs9, r9)) : GR cs1 cs9 := by
  unfold m_selectOf_b356 at h
  replace h := ob h
  obtain ⟨cs_50, g1, h⟩ := h
  have q2 : GR cs1 cs_50 := ((GR.refl cs1).trans (GR.sF (by decide))).trans (gp_m_needWord g1)
  replace h := ob h
  obtain ⟨cs_51, g3, h⟩ := h
  have q4 : GR cs1 cs_51 := (q2).trans (hT.2.2 _ _ _ _ _ g3)
  exact (q4).trans (gp_m_selectOf_L375 hT _ _ _ _ _ _ h)
theorem gp_m_selectOf_b345 {F : Nat} {T : TG_queryOf} {rc133 : RS → Int32 → Int32 → Int32 → Option (RS × Int32)} {cs1 : RS} {u1 : Int32} {u2 : Int32} {cs9 : RS} {r9 : Int32} (hT : GPT_TG_queryOf T) (hrc133 : ∀ (cs1 : RS) (a1 : Int32) (a2 : Int32) (a3 : Int32) (cs9 : RS) (r9 : Int32), rc133 cs1 a1 a2 a3 = some (cs9, r9) → GR cs1 cs9) (h : m_selectOf_b345 F T rc133 cs1 u1 u2 = some (cs9, r9)) : GR cs1 cs9 := by
  unfold m_selectOf_b345 at h
  replace h := ob h
  obtain ⟨z_52, g1, h⟩ := h
  have q2 : GR cs1 z_52.1 := (GR.refl cs1).trans (gp_m_takeSign g1)
  exact (q2).trans (hrc133 _ _ _ _ _ _ h)
theorem gp_m_selectOf_b300 {F : Nat} {T : TG_queryOf} {rc133 : RS → Int32 → Int32 → Int32 → Option (RS × Int32)} {cs1 : RS} {u1 : Int32} {u2 : Int32} {u5 : Int32} {u7 : Int32} {u8 : Int32} {cs9 : RS} {r9 : Int32} (hT : GPT_TG_queryOf T) (hrc133 : ∀ (cs1 : RS) (a1 : Int32) (a2 : Int32) (a3 : Int32) (cs9 : RS) (r9 : Int32), rc133 cs1 a1 a2 a3 = some (cs9, r9) → GR cs1 cs9) (h : m_selectOf_b300 F T rc133 cs1 u1 u2 u5 u7 u8 = some (cs9, r9)) : GR cs1 cs9 := by
  unfold m_selectOf_b300 at h
  rcases ite_or h with h | h
  · exact (GR.refl cs1).trans (gp_m_selectOf_b345 hT hrc133 h)
  · replace h := ob h
    obtain ⟨cs_54, g1, h⟩ := h
    have q2 : GR cs1 cs_54 := (GR.refl cs1).trans (gw_I (by decide) g1)
    replace h := ob h
    obtain ⟨cs_55, g3, h⟩ := h
    have q4 : GR cs1 cs_55 := (q2).trans (gw_I (by decide) g3)
    replace h := ob h
    obtain ⟨v_56, g5, h⟩ := h
    replace h := ob h
    obtain ⟨cs_57, g6, h⟩ := h
    have q7 : GR cs1 cs_57 := (q4).trans (gw_I (by decide) g6)
    exact (q7).trans (gp_m_selectOf_b345 hT hrc133 h)
theorem gp_m_selectOf_b282 {F : Nat} {T : TG_queryOf} {rc133 : RS → Int32 → Int32 → Int32 → Option (RS × Int32)} {cs1 : RS} {u1 : Int32} {u2 : Int32} {u5 : Int32} {u7 : Int32} {y0 : Int32} {cs9 : RS} {r9 : Int32} (hT : GPT_TG_queryOf T) (hrc133 : ∀ (cs1 : RS) (a1 : Int32) (a2 : Int32) (a3 : Int32) (cs9 : RS) (r9 : Int32), rc133 cs1 a1 a2 a3 = some (cs9, r9) → GR cs1 cs9) (h : m_selectOf_b282 F T rc133 cs1 u1 u2 u5 u7 y0 = some (cs9, r9)) : GR cs1 cs9 := by
  unfold m_selectOf_b282 at h
  replace h := ob h
  obtain ⟨z_58, g1, h⟩ := h
  have q2 : GR cs1 z_58.1 := (GR.refl cs1).trans (gp_m_takeWord g1)
  rcases ite_or h with h | h
  · exact (q2).trans (gp_m_selectOf_b300 hT hrc133 h)
  · replace h := ob h
    obtain ⟨z_60, g3, h⟩ := h
    have q4 : GR cs1 z_60.1 := (q2).trans (gp_m_name g3)
    exact (q4).trans (gp_m_selectOf_b300 hT hrc133 h)
theorem gp_m_selectOf_b281 {F : Nat} {T : TG_queryOf} {rc133 : RS → Int32 → Int32 → Int32 → Option (RS × Int32)} {cs1 : RS} {u1 : Int32} {u2 : Int32} {u5 : Int32} {u7 : Int32} {cs9 : RS} {r9 : Int32} (hT : GPT_TG_queryOf T) (hrc133 : ∀ (cs1 : RS) (a1 : Int32) (a2 : Int32) (a3 : Int32) (cs9 : RS) (r9 : Int32), rc133 cs1 a1 a2 a3 = some (cs9, r9) → GR cs1 cs9) (h : m_selectOf_b281 F T rc133 cs1 u1 u2 u5 u7 = some (cs9, r9)) : GR cs1 cs9 := by
  unfold m_selectOf_b281 at h
  exact (GR.refl cs1).trans (gp_m_selectOf_b282 hT hrc133 h)
theorem gp_m_selectOf_b246 {F : Nat} {T : TG_queryOf} {rc133 : RS → Int32 → Int32 → Int32 → Option (RS × Int32)} {cs1 : RS} {u1 : Int32} {u2 : Int32} {u5 : Int32} {u7 : Int32} {y0 : Int32} {y1 : Int32} {y2 : Int32} {cs9 : RS} {r9 : Int32} (hT : GPT_TG_queryOf T) (hrc133 : ∀ (cs1 : RS) (a1 : Int32) (a2 : Int32) (a3 : Int32) (cs9 : RS) (r9 : Int32), rc133 cs1 a1 a2 a3 = some (cs9, r9) → GR cs1 cs9) (h : m_selectOf_b246 F T rc133 cs1 u1 u2 u5 u7 y0 y1 y2 = some (cs9, r9)) : GR cs1 cs9 := by
  unfold m_selectOf_b246 at h
  rcases ite_or h with h | h
  · replace h := ob h
    obtain ⟨v_62, g1, h⟩ := h
    rcases ite_or h with h | h
    · replace h := ob h
      obtain ⟨v_65, g2, h⟩ := h
      exact (GR.refl cs1).trans (gp_m_selectOf_b282 hT hrc133 h)
    · replace h := ob h
      obtain ⟨v_64, g3, h⟩ := h
      exact (GR.refl cs1).trans (gp_m_selectOf_b282 hT hrc133 h)
  · exact (GR.refl cs1).trans (gp_m_selectOf_b281 hT hrc133 h)
theorem gp_m_selectOf_b204 {F : Nat} {T : TG_queryOf} {rc133 : RS → Int32 → Int32 → Int32 → Option (RS × Int32)} {cs1 : RS} {u1 : Int32} {u2 : Int32} {u5 : Int32} {u6 : Int32} {y0 : Int32} {cs9 : RS} {r9 : Int32} (hT : GPT_TG_queryOf T) (hrc133 : ∀ (cs1 : RS) (a1 : Int32) (a2 : Int32) (a3 : Int32) (cs9 : RS) (r9 : Int32), rc133 cs1 a1 a2 a3 = some (cs9, r9) → GR cs1 cs9) (h : m_selectOf_b204 F T rc133 cs1 u1 u2 u5 u6 y0 = some (cs9, r9)) : GR cs1 cs9 := by
  unfold m_selectOf_b204 at h
  rcases ite_or h with h | h
  · exact (GR.refl cs1).trans (gp_m_selectOf_b281 hT hrc133 h)
  · replace h := ob h
    obtain ⟨v_67, g1, h⟩ := h
    rcases ite_or h with h | h
    · replace h := ob h
      obtain ⟨v_69, g2, h⟩ := h
      rcases ite_or h with h | h
      · exact (GR.refl cs1).trans (gp_m_selectOf_b246 hT hrc133 h)
      · exact (GR.refl cs1).trans (gp_m_selectOf_b246 hT hrc133 h)
    · exact (GR.refl cs1).trans (gp_m_selectOf_b281 hT hrc133 h)
theorem gp_m_selectOf_b183 {F : Nat} {T : TG_queryOf} {rc133 : RS → Int32 → Int32 → Int32 → Option (RS × Int32)} {cs1 : RS} {u1 : Int32} {u2 : Int32} {u5 : Int32} {cs9 : RS} {r9 : Int32} (hT : GPT_TG_queryOf T) (hrc133 : ∀ (cs1 : RS) (a1 : Int32) (a2 : Int32) (a3 : Int32) (cs9 : RS) (r9 : Int32), rc133 cs1 a1 a2 a3 = some (cs9, r9) → GR cs1 cs9) (h : m_selectOf_b183 F T rc133 cs1 u1 u2 u5 = some (cs9, r9)) : GR cs1 cs9 := by
  unfold m_selectOf_b183 at h
  rcases ite_or h with h | h
  · exact (GR.refl cs1).trans (gp_m_selectOf_b204 hT hrc133 h)
  · replace h := ob h
    obtain ⟨z_72, g1, h⟩ := h
    have q2 : GR cs1 z_72.1 := (GR.refl cs1).trans (gp_m_expr g1)
    exact (q2).trans (gp_m_selectOf_b204 hT hrc133 h)
theorem gp_m_selectOf_L133 {F : Nat} {T : TG_queryOf} (hT : GPT_TG_queryOf T) : ∀ (lf : Nat) (cs1 : RS) (u1 : Int32) (u2 : Int32) (u4 : Int32) (cs9 : RS) (r9 : Int32), m_selectOf_L133 F T lf cs1 u1 u2 u4 = some (cs9, r9) → GR cs1 cs9 := by
  intro lf
  induction lf with
  | zero => intro cs1 u1 u2 u4 cs9 r9 h; cases (show (none : Option (RS × Int32)) = _ from h)
  | succ lf ih =>
    intro cs1 u1 u2 u4 cs9 r9 h
    rw [m_selectOf_L133] at h
    rcases ite_or h with h | h
    · exact (GR.refl cs1).trans (gp_m_selectOf_b356 hT h)
    · rcases ite_or h with h | h
      · exact (GR.refl cs1).trans (gp_m_selectOf_b356 hT h)
      · replace h := ob h
        obtain ⟨v_75, g1, h⟩ := h
        rcases ite_or h with h | h
        · replace h := ob h
          obtain ⟨v_77, g2, h⟩ := h
          rcases ite_or h with h | h
          · exact (GR.refl cs1).trans (gp_m_selectOf_b183 hT ih h)
          · replace h := ob h
            obtain ⟨v_79, g3, h⟩ := h
            replace h := ob h
            obtain ⟨cs_80, g4, h⟩ := h
            have q5 : GR cs1 cs_80 := (GR.refl cs1).trans (gp_m_tell g4)
            exact (q5).trans (gp_m_selectOf_b183 hT ih h)
        · exact (GR.refl cs1).trans (gp_m_selectOf_b183 hT ih h)
theorem gp_m_selectOf_b116 {F : Nat} {T : TG_queryOf} {cs1 : RS} {u1 : Int32} {u2 : Int32} {y0 : Int32} {y1 : Int32} {cs9 : RS} {r9 : Int32} (hT : GPT_TG_queryOf T) (h : m_selectOf_b116 F T cs1 u1 u2 y0 y1 = some (cs9, r9)) : GR cs1 cs9 := by
  unfold m_selectOf_b116 at h
  replace h := ob h
  obtain ⟨cs_81, g1, h⟩ := h
  have q2 : GR cs1 cs_81 := (GR.refl cs1).trans (gw_I (by decide) g1)
  replace h := ob h
  obtain ⟨z_82, g3, h⟩ := h
  have q4 : GR cs1 z_82.1 := (q2).trans (gp_m_takeWord g3)
  exact ((q4).trans (GR.sF (by decide))).trans (gp_m_selectOf_L133 hT _ _ _ _ _ _ _ h)
theorem gp_b_selectOf {F : Nat} {T : TG_queryOf} {cs : RS} {cs9 : RS} {r9 : Int32} (hT : GPT_TG_queryOf T) (h : b_selectOf F T cs = some (cs9, r9)) : GR cs cs9 := by
  unfold b_selectOf at h
  replace h := ob h
  obtain ⟨cs_83, g1, h⟩ := h
  have q2 : GR cs cs_83 := (GR.refl cs).trans (gp_m_needWord g1)
  replace h := ob h
  obtain ⟨cs_84, g3, h⟩ := h
  have q4 : GR cs cs_84 := (((q2).trans (GR.sF (by decide))).trans (GR.sF (by decide))).trans (gw_I (by decide) g3)
  replace h := ob h
  obtain ⟨cs_85, g5, h⟩ := h
  have q6 : GR cs cs_85 := (q4).trans (gw_I (by decide) g5)
  replace h := ob h
  obtain ⟨cs_86, g7, h⟩ := h
  have q8 : GR cs cs_86 := (q6).trans (gw_I (by decide) g7)
  replace h := ob h
  obtain ⟨cs_87, g9, h⟩ := h
  have q10 : GR cs cs_87 := (q8).trans (gw_I (by decide) g9)
  replace h := ob h
  obtain ⟨cs_88, g11, h⟩ := h
  have q12 : GR cs cs_88 := (q10).trans (gw_I (by decide) g11)
  replace h := ob h
  obtain ⟨cs_89, g13, h⟩ := h
  have q14 : GR cs cs_89 := (q12).trans (gw_I (by decide) g13)
  replace h := ob h
  obtain ⟨cs_90, g15, h⟩ := h
  have q16 : GR cs cs_90 := (q14).trans (gw_I (by decide) g15)
  replace h := ob h
  obtain ⟨cs_91, g17, h⟩ := h
  have q18 : GR cs cs_91 := (q16).trans (gw_I (by decide) g17)
  replace h := ob h
  obtain ⟨v_92, g19, h⟩ := h
  rcases ite_or h with h | h
  · exact (q18).trans (gp_m_selectOf_b116 hT h)
  · replace h := ob h
    obtain ⟨v_94, g20, h⟩ := h
    exact (q18).trans (gp_m_selectOf_b116 hT h)
theorem gp_m_source_b446 {F : Nat} {T : TG_queryOf} {cs1 : RS} {u1 : Int32} {cs9 : RS} (hT : GPT_TG_queryOf T) (h : m_source_b446 F T cs1 u1 = some cs9) : GR cs1 cs9 := by
  unfold m_source_b446 at h
  replace h := ob h
  obtain ⟨v_1, g1, h⟩ := h
  replace h := ob h
  obtain ⟨cs_2, g2, h⟩ := h
  have q3 : GR cs1 cs_2 := (GR.refl cs1).trans (gw_I (by decide) g2)
  exact (q3).to (Option.some.inj h)
theorem gp_m_source_b322 {F : Nat} {T : TG_queryOf} {cs1 : RS} {u1 : Int32} {u2 : Int32} {u3 : Int32} {u4 : Int32} {y0 : Int32} {cs9 : RS} (hT : GPT_TG_queryOf T) (h : m_source_b322 F T cs1 u1 u2 u3 u4 y0 = some cs9) : GR cs1 cs9 := by
  unfold m_source_b322 at h
  rcases ite_or h with h | h
  · exact (GR.refl cs1).to (Option.some.inj h)
  · replace h := ob h
    obtain ⟨cs_4, g1, h⟩ := h
    have q2 : GR cs1 cs_4 := (GR.refl cs1).trans (gw_I (by decide) g1)
    replace h := ob h
    obtain ⟨cs_5, g3, h⟩ := h
    have q4 : GR cs1 cs_5 := (q2).trans (gw_I (by decide) g3)
    replace h := ob h
    obtain ⟨cs_6, g5, h⟩ := h
    have q6 : GR cs1 cs_6 := (q4).trans (gw_I (by decide) g5)
    replace h := ob h
    obtain ⟨cs_7, g7, h⟩ := h
    have q8 : GR cs1 cs_7 := (q6).trans (gw_I (by decide) g7)
    replace h := ob h
    obtain ⟨cs_8, g9, h⟩ := h
    have q10 : GR cs1 cs_8 := (q8).trans (gw_I (by decide) g9)
    replace h := ob h
    obtain ⟨v_9, g11, h⟩ := h
    rcases ite_or h with h | h
    · exact (q10).trans (gp_m_source_b446 hT h)
    · replace h := ob h
      obtain ⟨z_11, g12, h⟩ := h
      have q13 : GR cs1 z_11.1 := (q10).trans (gp_m_takeWord g12)
      rcases ite_or h with h | h
      · exact (q13).trans (gp_m_source_b446 hT h)
      · replace h := ob h
        obtain ⟨v_13, g14, h⟩ := h
        rcases ite_or h with h | h
        · replace h := ob h
          obtain ⟨cs_15, g15, h⟩ := h
          have q16 : GR cs1 cs_15 := (q13).trans (gw_I (by decide) g15)
          replace h := ob h
          obtain ⟨v_16, g17, h⟩ := h
          replace h := ob h
          obtain ⟨cs_17, g18, h⟩ := h
          have q19 : GR cs1 cs_17 := (q16).trans (gw_L (by decide) g18)
          exact ((q19).trans (GR.sF (by decide))).trans (gp_m_source_b446 hT h)
        · replace h := ob h
          obtain ⟨cs_18, g20, h⟩ := h
          have q21 : GR cs1 cs_18 := (q13).trans (gp_m_wrong g20)
          exact (q21).to (Option.some.inj h)
theorem gp_m_source_b300 {F : Nat} {T : TG_queryOf} {cs1 : RS} {u1 : Int32} {u2 : Int32} {u3 : Int32} {u4 : Int32} {cs9 : RS} (hT : GPT_TG_queryOf T) (h : m_source_b300 F T cs1 u1 u2 u3 u4 = some cs9) : GR cs1 cs9 := by
  unfold m_source_b300 at h
  replace h := ob h
  obtain ⟨cs_19, g1, h⟩ := h
  have q2 : GR cs1 cs_19 := (GR.refl cs1).trans (gp_m_needWord g1)
  rcases ite_or h with h | h
  · exact (q2).trans (gp_m_source_b322 hT h)
  · replace h := ob h
    obtain ⟨z_21, g3, h⟩ := h
    have q4 : GR cs1 z_21.1 := (q2).trans (gp_m_name g3)
    exact (q4).trans (gp_m_source_b322 hT h)
theorem gp_m_source_b129 {F : Nat} {T : TG_queryOf} {cs1 : RS} {u1 : Int32} {u2 : Int32} {u3 : Int32} {u4 : Int32} {cs9 : RS} (hT : GPT_TG_queryOf T) (h : m_source_b129 F T cs1 u1 u2 u3 u4 = some cs9) : GR cs1 cs9 := by
  unfold m_source_b129 at h
  exact (GR.refl cs1).trans (gp_m_source_b300 hT h)
theorem gp_m_source_b67 {F : Nat} {T : TG_queryOf} {cs1 : RS} {u1 : Int32} {u2 : Int32} {u3 : Int32} {u4 : Int32} {y0 : Int32} {cs9 : RS} (hT : GPT_TG_queryOf T) (h : m_source_b67 F T cs1 u1 u2 u3 u4 y0 = some cs9) : GR cs1 cs9 := by
  unfold m_source_b67 at h
  replace h := ob h
  obtain ⟨v_22, g1, h⟩ := h
  replace h := ob h
  obtain ⟨cs_23, g2, h⟩ := h
  have q3 : GR cs1 cs_23 := ((GR.refl cs1).trans (GR.sF (by decide))).trans (gp_m_needSign g2)
  rcases ite_or h with h | h
  · exact (q3).trans (gp_m_source_b129 hT h)
  · replace h := ob h
    obtain ⟨cs_25, g4, h⟩ := h
    have q5 : GR cs1 cs_25 := (q3).trans (gw_I (by decide) g4)
    replace h := ob h
    obtain ⟨cs_26, g6, h⟩ := h
    have q7 : GR cs1 cs_26 := (q5).trans (gw_I (by decide) g6)
    replace h := ob h
    obtain ⟨cs_27, g8, h⟩ := h
    have q9 : GR cs1 cs_27 := (q7).trans (gw_I (by decide) g8)
    exact (q9).trans (gp_m_source_b129 hT h)
theorem gp_m_source_b226 {F : Nat} {T : TG_queryOf} {cs1 : RS} {u1 : Int32} {u2 : Int32} {u3 : Int32} {u4 : Int32} {cs9 : RS} (hT : GPT_TG_queryOf T) (h : m_source_b226 F T cs1 u1 u2 u3 u4 = some cs9) : GR cs1 cs9 := by
  unfold m_source_b226 at h
  rcases ite_or h with h | h
  · exact (GR.refl cs1).trans (gp_m_source_b300 hT h)
  · replace h := ob h
    obtain ⟨v_29, g1, h⟩ := h
    replace h := ob h
    obtain ⟨v_30, g2, h⟩ := h
    replace h := ob h
    obtain ⟨cs_31, g3, h⟩ := h
    have q4 : GR cs1 cs_31 := (GR.refl cs1).trans (gw_I (by decide) g3)
    replace h := ob h
    obtain ⟨v_32, g5, h⟩ := h
    replace h := ob h
    obtain ⟨cs_33, g6, h⟩ := h
    have q7 : GR cs1 cs_33 := (q4).trans (gw_I (by decide) g6)
    replace h := ob h
    obtain ⟨cs_34, g8, h⟩ := h
    have q9 : GR cs1 cs_34 := (q7).trans (gw_I (by decide) g8)
    exact ((q9).trans (GR.sF (by decide))).trans (gp_m_source_b300 hT h)
theorem gp_m_source_b296 {F : Nat} {T : TG_queryOf} {cs1 : RS} {u1 : Int32} {u2 : Int32} {u3 : Int32} {u4 : Int32} {cs9 : RS} (hT : GPT_TG_queryOf T) (h : m_source_b296 F T cs1 u1 u2 u3 u4 = some cs9) : GR cs1 cs9 := by
  unfold m_source_b296 at h
  replace h := ob h
  obtain ⟨cs_35, g1, h⟩ := h
  have q2 : GR cs1 cs_35 := (GR.refl cs1).trans (gp_m_wrong g1)
  exact (q2).trans (gp_m_source_b300 hT h)
theorem gp_b_source {F : Nat} {T : TG_queryOf} {cs : RS} {x1 : Int32} {x2 : Int32} {x3 : Int32} {cs9 : RS} (hT : GPT_TG_queryOf T) (h : b_source F T cs x1 x2 x3 = some cs9) : GR cs cs9 := by
  unfold b_source at h
  rcases ite_or h with h | h
  · exact (GR.refl cs).to (Option.some.inj h)
  · replace h := ob h
    obtain ⟨v_37, g1, h⟩ := h
    replace h := ob h
    obtain ⟨v_38, g2, h⟩ := h
    rcases ite_or h with h | h
    · replace h := ob h
      obtain ⟨v_40, g3, h⟩ := h
      rcases ite_or h with h | h
      · exact (GR.refl cs).trans (gp_m_source_b296 hT h)
      · replace h := ob h
        obtain ⟨v_42, g4, h⟩ := h
        rcases ite_or h with h | h
        · replace h := ob h
          obtain ⟨v_44, g5, h⟩ := h
          replace h := ob h
          obtain ⟨v_45, g6, h⟩ := h
          rcases ite_or h with h | h
          · replace h := ob h
            obtain ⟨v_47, g7, h⟩ := h
            replace h := ob h
            obtain ⟨v_48, g8, h⟩ := h
            replace h := ob h
            obtain ⟨v_49, g9, h⟩ := h
            rcases ite_or h with h | h
            · exact (GR.refl cs).trans (gp_m_source_b296 hT h)
            · rcases ite_or h with h | h
              · replace h := ob h
                obtain ⟨v_52, g10, h⟩ := h
                replace h := ob h
                obtain ⟨cs_53, g11, h⟩ := h
                have q12 : GR cs cs_53 := ((GR.refl cs).trans (GR.sF (by decide))).trans (gp_m_tell g11)
                exact (q12).trans (gp_m_source_b226 hT h)
              · exact ((GR.refl cs).trans (GR.sF (by decide))).trans (gp_m_source_b226 hT h)
          · exact (GR.refl cs).trans (gp_m_source_b296 hT h)
        · exact (GR.refl cs).trans (gp_m_source_b296 hT h)
    · replace h := ob h
      obtain ⟨v_54, g13, h⟩ := h
      replace h := ob h
      obtain ⟨cs_55, g14, h⟩ := h
      have q15 : GR cs cs_55 := (GR.refl cs).trans (gp_m_deeper g14)
      rcases ite_or h with h | h
      · exact ((q15).trans (GR.sF (by decide))).trans (gp_m_source_b67 hT h)
      · replace h := ob h
        obtain ⟨z_57, g16, h⟩ := h
        have q17 : GR cs z_57.1 := ((q15).trans (GR.sF (by decide))).trans (hT.1 _ _ _ g16)
        exact (q17).trans (gp_m_source_b67 hT h)
theorem gp_tab_queryOf (F : Nat) : ∀ n, GPT_TG_queryOf (tab_queryOf F n)
  | 0 => ⟨fun _ _ _ h => (by cases (show (none : Option (RS × Int32)) = _ from h)), fun _ _ _ h => (by cases (show (none : Option (RS × Int32)) = _ from h)), fun _ _ _ _ _ h => (by cases (show (none : Option RS) = _ from h))⟩
  | n + 1 => ⟨fun _ _ _ h => gp_b_queryOf (gp_tab_queryOf F n) h, fun _ _ _ h => gp_b_selectOf (gp_tab_queryOf F n) h, fun _ _ _ _ _ h => gp_b_source (gp_tab_queryOf F n) h⟩
theorem gp_m_queryOf {F n : Nat} {cs : RS} {cs9 : RS} {r9 : Int32} (h : m_queryOf F n cs = some (cs9, r9)) : GR cs cs9 := (gp_tab_queryOf F n).1 _ _ _ h
theorem gp_m_find_b352 {F : Nat} {cs1 : RS} {u5 : Int32} {cs9 : RS} {r9 : Int32} (h : m_find_b352 F cs1 u5 = some (cs9, r9)) : GR cs1 cs9 := by
  unfold m_find_b352 at h
  exact (GR.refl cs1).to (Prod.mk.inj (Option.some.inj h)).1
theorem gp_m_find_b316 {F : Nat} {cs1 : RS} {u2 : Int32} {u4 : Int32} {u5 : Int32} {cs9 : RS} {r9 : Int32} (h : m_find_b316 F cs1 u2 u4 u5 = some (cs9, r9)) : GR cs1 cs9 := by
  unfold m_find_b316 at h
  rcases ite_or h with h | h
  · replace h := ob h
    obtain ⟨v_5, g1, h⟩ := h
    replace h := ob h
    obtain ⟨cs_6, g2, h⟩ := h
    have q3 : GR cs1 cs_6 := (GR.refl cs1).trans (gp_m_tell g2)
    exact (q3).trans (gp_m_find_b352 h)
  · rcases ite_or h with h | h
    · exact (GR.refl cs1).trans (gp_m_find_b352 h)
    · replace h := ob h
      obtain ⟨v_3, g4, h⟩ := h
      replace h := ob h
      obtain ⟨cs_4, g5, h⟩ := h
      have q6 : GR cs1 cs_4 := (GR.refl cs1).trans (gp_m_tell g5)
      exact (q6).trans (gp_m_find_b352 h)
theorem gp_m_find_b148 {F : Nat} {rc30 : RS → Int32 → Int32 → Int32 → Int32 → Int32 → Int32 → Option (RS × Int32)} {cs1 : RS} {u1 : Int32} {u2 : Int32} {u3 : Int32} {u4 : Int32} {u5 : Int32} {u6 : Int32} {cs9 : RS} {r9 : Int32} (hrc30 : ∀ (cs1 : RS) (a1 : Int32) (a2 : Int32) (a3 : Int32) (a4 : Int32) (a5 : Int32) (a6 : Int32) (cs9 : RS) (r9 : Int32), rc30 cs1 a1 a2 a3 a4 a5 a6 = some (cs9, r9) → GR cs1 cs9) (h : m_find_b148 F rc30 cs1 u1 u2 u3 u4 u5 u6 = some (cs9, r9)) : GR cs1 cs9 := by
  unfold m_find_b148 at h
  exact (GR.refl cs1).trans (hrc30 _ _ _ _ _ _ _ _ _ h)
theorem gp_m_find_b142 {F : Nat} {rc30 : RS → Int32 → Int32 → Int32 → Int32 → Int32 → Int32 → Option (RS × Int32)} {rc85 : RS → Int32 → Int32 → Int32 → Int32 → Int32 → Int32 → Int32 → Int32 → Int32 → Option (RS × Int32)} {cs1 : RS} {u1 : Int32} {u2 : Int32} {u3 : Int32} {u4 : Int32} {u5 : Int32} {u6 : Int32} {u7 : Int32} {u8 : Int32} {u9 : Int32} {cs9 : RS} {r9 : Int32} (hrc30 : ∀ (cs1 : RS) (a1 : Int32) (a2 : Int32) (a3 : Int32) (a4 : Int32) (a5 : Int32) (a6 : Int32) (cs9 : RS) (r9 : Int32), rc30 cs1 a1 a2 a3 a4 a5 a6 = some (cs9, r9) → GR cs1 cs9) (hrc85 : ∀ (cs1 : RS) (a1 : Int32) (a2 : Int32) (a3 : Int32) (a4 : Int32) (a5 : Int32) (a6 : Int32) (a7 : Int32) (a8 : Int32) (a9 : Int32) (cs9 : RS) (r9 : Int32), rc85 cs1 a1 a2 a3 a4 a5 a6 a7 a8 a9 = some (cs9, r9) → GR cs1 cs9) (h : m_find_b142 F rc30 rc85 cs1 u1 u2 u3 u4 u5 u6 u7 u8 u9 = some (cs9, r9)) : GR cs1 cs9 := by
  unfold m_find_b142 at h
  exact (GR.refl cs1).trans (hrc85 _ _ _ _ _ _ _ _ _ _ _ _ h)
theorem gp_m_find_L85 {F : Nat} {rc30 : RS → Int32 → Int32 → Int32 → Int32 → Int32 → Int32 → Option (RS × Int32)} (hrc30 : ∀ (cs1 : RS) (a1 : Int32) (a2 : Int32) (a3 : Int32) (a4 : Int32) (a5 : Int32) (a6 : Int32) (cs9 : RS) (r9 : Int32), rc30 cs1 a1 a2 a3 a4 a5 a6 = some (cs9, r9) → GR cs1 cs9) : ∀ (lf : Nat) (cs1 : RS) (u1 : Int32) (u2 : Int32) (u3 : Int32) (u4 : Int32) (u5 : Int32) (u6 : Int32) (u7 : Int32) (u8 : Int32) (u9 : Int32) (cs9 : RS) (r9 : Int32), m_find_L85 F rc30 lf cs1 u1 u2 u3 u4 u5 u6 u7 u8 u9 = some (cs9, r9) → GR cs1 cs9 := by
  intro lf
  induction lf with
  | zero => intro cs1 u1 u2 u3 u4 u5 u6 u7 u8 u9 cs9 r9 h; cases (show (none : Option (RS × Int32)) = _ from h)
  | succ lf ih =>
    intro cs1 u1 u2 u3 u4 u5 u6 u7 u8 u9 cs9 r9 h
    rw [m_find_L85] at h
    replace h := ob h
    obtain ⟨v_7, g1, h⟩ := h
    rcases ite_or h with h | h
    · exact (GR.refl cs1).trans (gp_m_find_b148 hrc30 h)
    · replace h := ob h
      obtain ⟨v_9, g2, h⟩ := h
      replace h := ob h
      obtain ⟨v_10, g3, h⟩ := h
      rcases ite_or h with h | h
      · exact (GR.refl cs1).trans (gp_m_find_b142 hrc30 ih h)
      · replace h := ob h
        obtain ⟨v_12, g4, h⟩ := h
        replace h := ob h
        obtain ⟨cs_13, g5, h⟩ := h
        have q6 : GR cs1 cs_13 := (GR.refl cs1).trans (gw_I (by decide) g5)
        replace h := ob h
        obtain ⟨v_14, g7, h⟩ := h
        exact (q6).trans (gp_m_find_b142 hrc30 ih h)
theorem gp_m_find_b80 {F : Nat} {rc30 : RS → Int32 → Int32 → Int32 → Int32 → Int32 → Int32 → Option (RS × Int32)} {cs1 : RS} {u1 : Int32} {u2 : Int32} {u3 : Int32} {u4 : Int32} {u5 : Int32} {u6 : Int32} {u7 : Int32} {y0 : Int32} {cs9 : RS} {r9 : Int32} (hrc30 : ∀ (cs1 : RS) (a1 : Int32) (a2 : Int32) (a3 : Int32) (a4 : Int32) (a5 : Int32) (a6 : Int32) (cs9 : RS) (r9 : Int32), rc30 cs1 a1 a2 a3 a4 a5 a6 = some (cs9, r9) → GR cs1 cs9) (h : m_find_b80 F rc30 cs1 u1 u2 u3 u4 u5 u6 u7 y0 = some (cs9, r9)) : GR cs1 cs9 := by
  unfold m_find_b80 at h
  exact (GR.refl cs1).trans (gp_m_find_L85 hrc30 _ _ _ _ _ _ _ _ _ _ _ _ _ h)
theorem gp_m_find_b70 {F : Nat} {rc30 : RS → Int32 → Int32 → Int32 → Int32 → Int32 → Int32 → Option (RS × Int32)} {cs1 : RS} {u1 : Int32} {u2 : Int32} {u3 : Int32} {u4 : Int32} {u5 : Int32} {u6 : Int32} {u7 : Int32} {cs9 : RS} {r9 : Int32} (hrc30 : ∀ (cs1 : RS) (a1 : Int32) (a2 : Int32) (a3 : Int32) (a4 : Int32) (a5 : Int32) (a6 : Int32) (cs9 : RS) (r9 : Int32), rc30 cs1 a1 a2 a3 a4 a5 a6 = some (cs9, r9) → GR cs1 cs9) (h : m_find_b70 F rc30 cs1 u1 u2 u3 u4 u5 u6 u7 = some (cs9, r9)) : GR cs1 cs9 := by
  unfold m_find_b70 at h
  rcases ite_or h with h | h
  · exact (GR.refl cs1).trans (gp_m_find_b80 hrc30 h)
  · exact (GR.refl cs1).trans (gp_m_find_b80 hrc30 h)
theorem gp_m_find_L30 {F : Nat} : ∀ (lf : Nat) (cs1 : RS) (u1 : Int32) (u2 : Int32) (u3 : Int32) (u4 : Int32) (u5 : Int32) (u6 : Int32) (cs9 : RS) (r9 : Int32), m_find_L30 F lf cs1 u1 u2 u3 u4 u5 u6 = some (cs9, r9) → GR cs1 cs9 := by
  intro lf
  induction lf with
  | zero => intro cs1 u1 u2 u3 u4 u5 u6 cs9 r9 h; cases (show (none : Option (RS × Int32)) = _ from h)
  | succ lf ih =>
    intro cs1 u1 u2 u3 u4 u5 u6 cs9 r9 h
    rw [m_find_L30] at h
    rcases ite_or h with h | h
    · exact (GR.refl cs1).trans (gp_m_find_b316 h)
    · rcases ite_or h with h | h
      · exact (GR.refl cs1).trans (gp_m_find_b70 ih h)
      · replace h := ob h
        obtain ⟨v_18, g1, h⟩ := h
        replace h := ob h
        obtain ⟨v_19, g2, h⟩ := h
        rcases ite_or h with h | h
        · exact (GR.refl cs1).trans (gp_m_find_b148 ih h)
        · exact (GR.refl cs1).trans (gp_m_find_b70 ih h)
theorem gp_m_find_b310 {F : Nat} {rc198 : RS → Int32 → Int32 → Int32 → Int32 → Int32 → Int32 → Int32 → Option (RS × Int32)} {cs1 : RS} {u1 : Int32} {u2 : Int32} {u4 : Int32} {u5 : Int32} {u6 : Int32} {u7 : Int32} {u8 : Int32} {cs9 : RS} {r9 : Int32} (hrc198 : ∀ (cs1 : RS) (a1 : Int32) (a2 : Int32) (a3 : Int32) (a4 : Int32) (a5 : Int32) (a6 : Int32) (a7 : Int32) (cs9 : RS) (r9 : Int32), rc198 cs1 a1 a2 a3 a4 a5 a6 a7 = some (cs9, r9) → GR cs1 cs9) (h : m_find_b310 F rc198 cs1 u1 u2 u4 u5 u6 u7 u8 = some (cs9, r9)) : GR cs1 cs9 := by
  unfold m_find_b310 at h
  exact (GR.refl cs1).trans (hrc198 _ _ _ _ _ _ _ _ _ _ h)
theorem gp_m_find_b308 {F : Nat} {rc198 : RS → Int32 → Int32 → Int32 → Int32 → Int32 → Int32 → Int32 → Option (RS × Int32)} {cs1 : RS} {u1 : Int32} {u2 : Int32} {u4 : Int32} {u6 : Int32} {u7 : Int32} {u8 : Int32} {y0 : Int32} {cs9 : RS} {r9 : Int32} (hrc198 : ∀ (cs1 : RS) (a1 : Int32) (a2 : Int32) (a3 : Int32) (a4 : Int32) (a5 : Int32) (a6 : Int32) (a7 : Int32) (cs9 : RS) (r9 : Int32), rc198 cs1 a1 a2 a3 a4 a5 a6 a7 = some (cs9, r9) → GR cs1 cs9) (h : m_find_b308 F rc198 cs1 u1 u2 u4 u6 u7 u8 y0 = some (cs9, r9)) : GR cs1 cs9 := by
  unfold m_find_b308 at h
  exact (GR.refl cs1).trans (gp_m_find_b310 hrc198 h)
theorem gp_m_find_b242 {F : Nat} {rc198 : RS → Int32 → Int32 → Int32 → Int32 → Int32 → Int32 → Int32 → Option (RS × Int32)} {cs1 : RS} {u1 : Int32} {u2 : Int32} {u4 : Int32} {u5 : Int32} {u6 : Int32} {u7 : Int32} {u8 : Int32} {y0 : Int32} {cs9 : RS} {r9 : Int32} (hrc198 : ∀ (cs1 : RS) (a1 : Int32) (a2 : Int32) (a3 : Int32) (a4 : Int32) (a5 : Int32) (a6 : Int32) (a7 : Int32) (cs9 : RS) (r9 : Int32), rc198 cs1 a1 a2 a3 a4 a5 a6 a7 = some (cs9, r9) → GR cs1 cs9) (h : m_find_b242 F rc198 cs1 u1 u2 u4 u5 u6 u7 u8 y0 = some (cs9, r9)) : GR cs1 cs9 := by
  unfold m_find_b242 at h
  rcases ite_or h with h | h
  · exact (GR.refl cs1).trans (gp_m_find_b310 hrc198 h)
  · replace h := ob h
    obtain ⟨v_22, g1, h⟩ := h
    rcases ite_or h with h | h
    · exact (GR.refl cs1).trans (gp_m_find_b310 hrc198 h)
    · replace h := ob h
      obtain ⟨cs_24, g2, h⟩ := h
      have q3 : GR cs1 cs_24 := (GR.refl cs1).trans (gw_I (by decide) g2)
      rcases ite_or h with h | h
      · replace h := ob h
        obtain ⟨v_27, g4, h⟩ := h
        exact (q3).trans (gp_m_find_b308 hrc198 h)
      · replace h := ob h
        obtain ⟨v_26, g5, h⟩ := h
        exact (q3).trans (gp_m_find_b308 hrc198 h)
theorem gp_m_find_L198 {F : Nat} : ∀ (lf : Nat) (cs1 : RS) (u1 : Int32) (u2 : Int32) (u4 : Int32) (u5 : Int32) (u6 : Int32) (u7 : Int32) (u8 : Int32) (cs9 : RS) (r9 : Int32), m_find_L198 F lf cs1 u1 u2 u4 u5 u6 u7 u8 = some (cs9, r9) → GR cs1 cs9 := by
  intro lf
  induction lf with
  | zero => intro cs1 u1 u2 u4 u5 u6 u7 u8 cs9 r9 h; cases (show (none : Option (RS × Int32)) = _ from h)
  | succ lf ih =>
    intro cs1 u1 u2 u4 u5 u6 u7 u8 cs9 r9 h
    rw [m_find_L198] at h
    rcases ite_or h with h | h
    · exact (GR.refl cs1).trans (gp_m_find_b316 h)
    · rcases ite_or h with h | h
      · replace h := ob h
        obtain ⟨v_31, g1, h⟩ := h
        exact (GR.refl cs1).trans (gp_m_find_b242 ih h)
      · replace h := ob h
        obtain ⟨v_30, g2, h⟩ := h
        exact (GR.refl cs1).trans (gp_m_find_b242 ih h)
theorem gp_m_find_b193 {F : Nat} {cs1 : RS} {u1 : Int32} {u2 : Int32} {u4 : Int32} {u5 : Int32} {u6 : Int32} {y0 : Int32} {cs9 : RS} {r9 : Int32} (h : m_find_b193 F cs1 u1 u2 u4 u5 u6 y0 = some (cs9, r9)) : GR cs1 cs9 := by
  unfold m_find_b193 at h
  exact (GR.refl cs1).trans (gp_m_find_L198 _ _ _ _ _ _ _ _ _ _ _ h)
theorem gp_m_find {F : Nat} {cs : RS} {x1 : Int32} {cs9 : RS} {r9 : Int32} (h : m_find F cs x1 = some (cs9, r9)) : GR cs cs9 := by
  unfold m_find at h
  replace h := ob h
  obtain ⟨v_32, g1, h⟩ := h
  replace h := ob h
  obtain ⟨v_33, g2, h⟩ := h
  rcases ite_or h with h | h
  · exact (GR.refl cs).trans (gp_m_find_L30 _ _ _ _ _ _ _ _ _ _ h)
  · rcases ite_or h with h | h
    · rcases ite_or h with h | h
      · replace h := ob h
        obtain ⟨v_38, g3, h⟩ := h
        exact (GR.refl cs).trans (gp_m_find_b193 h)
      · replace h := ob h
        obtain ⟨v_37, g4, h⟩ := h
        exact (GR.refl cs).trans (gp_m_find_b193 h)
    · exact (GR.refl cs).trans (gp_m_find_b316 h)
theorem gp_m_judge_b539 {F : Nat} {T : TG_judge} {cs1 : RS} {u1 : Int32} {u3 : Int32} {cs9 : RS} (hT : GPT_TG_judge T) (h : m_judge_b539 F T cs1 u1 u3 = some cs9) : GR cs1 cs9 := by
  unfold m_judge_b539 at h
  replace h := ob h
  obtain ⟨cs_1, g1, h⟩ := h
  have q2 : GR cs1 cs_1 := (GR.refl cs1).trans (gw_I (by decide) g1)
  exact (q2).to (Option.some.inj h)
theorem gp_m_judge_b37 {F : Nat} {T : TG_judge} {cs1 : RS} {u1 : Int32} {cs9 : RS} (hT : GPT_TG_judge T) (h : m_judge_b37 F T cs1 u1 = some cs9) : GR cs1 cs9 := by
  unfold m_judge_b37 at h
  exact (GR.refl cs1).trans (gp_m_judge_b539 hT h)
theorem gp_m_judge_b106 {F : Nat} {T : TG_judge} {cs1 : RS} {u1 : Int32} {u3 : Int32} {cs9 : RS} (hT : GPT_TG_judge T) (h : m_judge_b106 F T cs1 u1 u3 = some cs9) : GR cs1 cs9 := by
  unfold m_judge_b106 at h
  exact (GR.refl cs1).trans (gp_m_judge_b539 hT h)
theorem gp_m_judge_b256 {F : Nat} {T : TG_judge} {cs1 : RS} {u1 : Int32} {y0 : Int32} {cs9 : RS} (hT : GPT_TG_judge T) (h : m_judge_b256 F T cs1 u1 y0 = some cs9) : GR cs1 cs9 := by
  unfold m_judge_b256 at h
  exact (GR.refl cs1).trans (gp_m_judge_b539 hT h)
theorem gp_m_judge_b244 {F : Nat} {T : TG_judge} {cs1 : RS} {u1 : Int32} {u4 : Int32} {u5 : Int32} {cs9 : RS} (hT : GPT_TG_judge T) (h : m_judge_b244 F T cs1 u1 u4 u5 = some cs9) : GR cs1 cs9 := by
  unfold m_judge_b244 at h
  rcases ite_or h with h | h
  · exact (GR.refl cs1).trans (gp_m_judge_b256 hT h)
  · exact (GR.refl cs1).trans (gp_m_judge_b256 hT h)
theorem gp_m_judge_b202 {F : Nat} {T : TG_judge} {cs1 : RS} {u1 : Int32} {u4 : Int32} {y0 : Int32} {cs9 : RS} (hT : GPT_TG_judge T) (h : m_judge_b202 F T cs1 u1 u4 y0 = some cs9) : GR cs1 cs9 := by
  unfold m_judge_b202 at h
  rcases ite_or h with h | h
  · exact (GR.refl cs1).trans (gp_m_judge_b244 hT h)
  · rcases ite_or h with h | h
    · exact (GR.refl cs1).trans (gp_m_judge_b244 hT h)
    · rcases ite_or h with h | h
      · exact (GR.refl cs1).trans (gp_m_judge_b244 hT h)
      · rcases ite_or h with h | h
        · exact (GR.refl cs1).trans (gp_m_judge_b244 hT h)
        · replace h := ob h
          obtain ⟨v_7, g1, h⟩ := h
          replace h := ob h
          obtain ⟨v_8, g2, h⟩ := h
          replace h := ob h
          obtain ⟨cs_9, g3, h⟩ := h
          have q4 : GR cs1 cs_9 := (GR.refl cs1).trans (gp_m_tell g3)
          exact (q4).trans (gp_m_judge_b244 hT h)
theorem gp_m_judge_b178 {F : Nat} {T : TG_judge} {cs1 : RS} {u1 : Int32} {y0 : Int32} {cs9 : RS} (hT : GPT_TG_judge T) (h : m_judge_b178 F T cs1 u1 y0 = some cs9) : GR cs1 cs9 := by
  unfold m_judge_b178 at h
  rcases ite_or h with h | h
  · exact (GR.refl cs1).trans (gp_m_judge_b202 hT h)
  · replace h := ob h
    obtain ⟨v_11, g1, h⟩ := h
    replace h := ob h
    obtain ⟨v_12, g2, h⟩ := h
    exact (GR.refl cs1).trans (gp_m_judge_b202 hT h)
theorem gp_m_judge_b366 {F : Nat} {T : TG_judge} {cs1 : RS} {u1 : Int32} {cs9 : RS} (hT : GPT_TG_judge T) (h : m_judge_b366 F T cs1 u1 = some cs9) : GR cs1 cs9 := by
  unfold m_judge_b366 at h
  exact (GR.refl cs1).trans (gp_m_judge_b539 hT h)
theorem gp_m_judge_L334 {F : Nat} {T : TG_judge} (hT : GPT_TG_judge T) : ∀ (lf : Nat) (cs1 : RS) (u1 : Int32) (u4 : Int32) (cs9 : RS), m_judge_L334 F T lf cs1 u1 u4 = some cs9 → GR cs1 cs9 := by
  intro lf
  induction lf with
  | zero => intro cs1 u1 u4 cs9 h; cases (show (none : Option RS) = _ from h)
  | succ lf ih =>
    intro cs1 u1 u4 cs9 h
    rw [m_judge_L334] at h
    rcases ite_or h with h | h
    · exact (GR.refl cs1).trans (gp_m_judge_b366 hT h)
    · rcases ite_or h with h | h
      · exact (GR.refl cs1).trans (gp_m_judge_b366 hT h)
      · replace h := ob h
        obtain ⟨cs_15, g1, h⟩ := h
        have q2 : GR cs1 cs_15 := (GR.refl cs1).trans (gp_m_want g1)
        replace h := ob h
        obtain ⟨v_16, g3, h⟩ := h
        exact (q2).trans (ih _ _ _ _ h)
theorem gp_m_judge_b315 {F : Nat} {T : TG_judge} {cs1 : RS} {u1 : Int32} {cs9 : RS} (hT : GPT_TG_judge T) (h : m_judge_b315 F T cs1 u1 = some cs9) : GR cs1 cs9 := by
  unfold m_judge_b315 at h
  replace h := ob h
  obtain ⟨v_17, g1, h⟩ := h
  replace h := ob h
  obtain ⟨cs_18, g2, h⟩ := h
  have q3 : GR cs1 cs_18 := (GR.refl cs1).trans (gp_m_want g2)
  replace h := ob h
  obtain ⟨v_19, g4, h⟩ := h
  exact (q3).trans (gp_m_judge_L334 hT _ _ _ _ _ h)
theorem gp_m_judge_L284 {F : Nat} {T : TG_judge} (hT : GPT_TG_judge T) : ∀ (lf : Nat) (cs1 : RS) (u1 : Int32) (u4 : Int32) (cs9 : RS), m_judge_L284 F T lf cs1 u1 u4 = some cs9 → GR cs1 cs9 := by
  intro lf
  induction lf with
  | zero => intro cs1 u1 u4 cs9 h; cases (show (none : Option RS) = _ from h)
  | succ lf ih =>
    intro cs1 u1 u4 cs9 h
    rw [m_judge_L284] at h
    rcases ite_or h with h | h
    · exact (GR.refl cs1).trans (gp_m_judge_b315 hT h)
    · rcases ite_or h with h | h
      · exact (GR.refl cs1).trans (gp_m_judge_b315 hT h)
      · replace h := ob h
        obtain ⟨cs_22, g1, h⟩ := h
        have q2 : GR cs1 cs_22 := (GR.refl cs1).trans (hT _ _ _ g1)
        replace h := ob h
        obtain ⟨v_23, g3, h⟩ := h
        exact (q2).trans (ih _ _ _ _ h)
theorem gp_m_judge_b437 {F : Nat} {T : TG_judge} {cs1 : RS} {u1 : Int32} {y0 : Int32} {cs9 : RS} (hT : GPT_TG_judge T) (h : m_judge_b437 F T cs1 u1 y0 = some cs9) : GR cs1 cs9 := by
  unfold m_judge_b437 at h
  exact (GR.refl cs1).trans (gp_m_judge_b539 hT h)
theorem gp_m_judge_b426 {F : Nat} {T : TG_judge} {cs1 : RS} {u1 : Int32} {u2 : Int32} {cs9 : RS} (hT : GPT_TG_judge T) (h : m_judge_b426 F T cs1 u1 u2 = some cs9) : GR cs1 cs9 := by
  unfold m_judge_b426 at h
  rcases ite_or h with h | h
  · exact (GR.refl cs1).trans (gp_m_judge_b437 hT h)
  · exact (GR.refl cs1).trans (gp_m_judge_b437 hT h)
theorem gp_m_judge_b423 {F : Nat} {T : TG_judge} {cs1 : RS} {u1 : Int32} {u2 : Int32} {y0 : Int32} {y1 : Int32} {cs9 : RS} (hT : GPT_TG_judge T) (h : m_judge_b423 F T cs1 u1 u2 y0 y1 = some cs9) : GR cs1 cs9 := by
  unfold m_judge_b423 at h
  replace h := ob h
  obtain ⟨cs_25, g1, h⟩ := h
  have q2 : GR cs1 cs_25 := (GR.refl cs1).trans (gp_m_want g1)
  exact (q2).trans (gp_m_judge_b426 hT h)
theorem gp_m_judge_b389 {F : Nat} {T : TG_judge} {cs1 : RS} {u1 : Int32} {u2 : Int32} {cs9 : RS} (hT : GPT_TG_judge T) (h : m_judge_b389 F T cs1 u1 u2 = some cs9) : GR cs1 cs9 := by
  unfold m_judge_b389 at h
  replace h := ob h
  obtain ⟨v_26, g1, h⟩ := h
  replace h := ob h
  obtain ⟨cs_27, g2, h⟩ := h
  have q3 : GR cs1 cs_27 := (GR.refl cs1).trans (hT _ _ _ g2)
  rcases ite_or h with h | h
  · exact (q3).trans (gp_m_judge_b426 hT h)
  · replace h := ob h
    obtain ⟨v_29, g4, h⟩ := h
    rcases ite_or h with h | h
    · exact (q3).trans (gp_m_judge_b423 hT h)
    · exact (q3).trans (gp_m_judge_b423 hT h)
theorem gp_m_judge_b538 {F : Nat} {T : TG_judge} {cs1 : RS} {u1 : Int32} {y0 : Int32} {cs9 : RS} (hT : GPT_TG_judge T) (h : m_judge_b538 F T cs1 u1 y0 = some cs9) : GR cs1 cs9 := by
  unfold m_judge_b538 at h
  exact (GR.refl cs1).trans (gp_m_judge_b539 hT h)
theorem gp_m_judge_b533 {F : Nat} {T : TG_judge} {cs1 : RS} {u1 : Int32} {cs9 : RS} (hT : GPT_TG_judge T) (h : m_judge_b533 F T cs1 u1 = some cs9) : GR cs1 cs9 := by
  unfold m_judge_b533 at h
  exact (GR.refl cs1).trans (gp_m_judge_b538 hT h)
theorem gp_m_judge_b489 {F : Nat} {T : TG_judge} {cs1 : RS} {u1 : Int32} {u2 : Int32} {y0 : Int32} {cs9 : RS} (hT : GPT_TG_judge T) (h : m_judge_b489 F T cs1 u1 u2 y0 = some cs9) : GR cs1 cs9 := by
  unfold m_judge_b489 at h
  replace h := ob h
  obtain ⟨v_31, g1, h⟩ := h
  replace h := ob h
  obtain ⟨cs_32, g2, h⟩ := h
  have q3 : GR cs1 cs_32 := (GR.refl cs1).trans (gp_m_want g2)
  replace h := ob h
  obtain ⟨v_33, g4, h⟩ := h
  replace h := ob h
  obtain ⟨cs_34, g5, h⟩ := h
  have q6 : GR cs1 cs_34 := (q3).trans (gp_m_want g5)
  rcases ite_or h with h | h
  · exact (q6).trans (gp_m_judge_b533 hT h)
  · rcases ite_or h with h | h
    · exact (q6).trans (gp_m_judge_b533 hT h)
    · rcases ite_or h with h | h
      · exact (q6).trans (gp_m_judge_b533 hT h)
      · exact (q6).trans (gp_m_judge_b538 hT h)
theorem gp_m_judge_b484 {F : Nat} {T : TG_judge} {cs1 : RS} {u1 : Int32} {u2 : Int32} {cs9 : RS} (hT : GPT_TG_judge T) (h : m_judge_b484 F T cs1 u1 u2 = some cs9) : GR cs1 cs9 := by
  unfold m_judge_b484 at h
  exact (GR.refl cs1).trans (gp_m_judge_b489 hT h)
theorem gp_b_judge {F : Nat} {T : TG_judge} {cs : RS} {x1 : Int32} {cs9 : RS} (hT : GPT_TG_judge T) (h : b_judge F T cs x1 = some cs9) : GR cs cs9 := by
  unfold b_judge at h
  rcases ite_or h with h | h
  · exact (GR.refl cs).to (Option.some.inj h)
  · replace h := ob h
    obtain ⟨v_39, g1, h⟩ := h
    rcases ite_or h with h | h
    · exact (GR.refl cs).trans (gp_m_judge_b539 hT h)
    · rcases ite_or h with h | h
      · exact (GR.refl cs).trans (gp_m_judge_b37 hT h)
      · rcases ite_or h with h | h
        · exact (GR.refl cs).trans (gp_m_judge_b37 hT h)
        · rcases ite_or h with h | h
          · replace h := ob h
            obtain ⟨z_77, g2, h⟩ := h
            have q3 : GR cs z_77.1 := (GR.refl cs).trans (gp_m_find g2)
            exact (q3).trans (gp_m_judge_b539 hT h)
          · rcases ite_or h with h | h
            · rcases ite_or h with h | h
              · replace h := ob h
                obtain ⟨v_61, g4, h⟩ := h
                replace h := ob h
                obtain ⟨cs_62, g5, h⟩ := h
                have q6 : GR cs cs_62 := (GR.refl cs).trans (hT _ _ _ g5)
                replace h := ob h
                obtain ⟨v_63, g7, h⟩ := h
                replace h := ob h
                obtain ⟨cs_64, g8, h⟩ := h
                have q9 : GR cs cs_64 := (q6).trans (hT _ _ _ g8)
                replace h := ob h
                obtain ⟨v_65, g10, h⟩ := h
                replace h := ob h
                obtain ⟨cs_66, g11, h⟩ := h
                have q12 : GR cs cs_66 := (q9).trans (hT _ _ _ g11)
                replace h := ob h
                obtain ⟨v_67, g13, h⟩ := h
                replace h := ob h
                obtain ⟨cs_68, g14, h⟩ := h
                have q15 : GR cs cs_68 := (q12).trans (gp_m_want g14)
                rcases ite_or h with h | h
                · exact (q15).trans (gp_m_judge_b178 hT h)
                · replace h := ob h
                  obtain ⟨v_70, g16, h⟩ := h
                  replace h := ob h
                  obtain ⟨v_71, g17, h⟩ := h
                  exact (q15).trans (gp_m_judge_b178 hT h)
              · rcases ite_or h with h | h
                · replace h := ob h
                  obtain ⟨v_58, g18, h⟩ := h
                  replace h := ob h
                  obtain ⟨cs_59, g19, h⟩ := h
                  have q20 : GR cs cs_59 := (GR.refl cs).trans (hT _ _ _ g19)
                  replace h := ob h
                  obtain ⟨v_60, g21, h⟩ := h
                  exact (q20).trans (gp_m_judge_L284 hT _ _ _ _ _ h)
                · rcases ite_or h with h | h
                  · exact (GR.refl cs).trans (gp_m_judge_b389 hT h)
                  · rcases ite_or h with h | h
                    · exact (GR.refl cs).trans (gp_m_judge_b389 hT h)
                    · rcases ite_or h with h | h
                      · exact (GR.refl cs).trans (gp_m_judge_b389 hT h)
                      · rcases ite_or h with h | h
                        · exact (GR.refl cs).trans (gp_m_judge_b539 hT h)
                        · rcases ite_or h with h | h
                          · exact (GR.refl cs).trans (gp_m_judge_b539 hT h)
                          · replace h := ob h
                            obtain ⟨v_52, g22, h⟩ := h
                            replace h := ob h
                            obtain ⟨cs_53, g23, h⟩ := h
                            have q24 : GR cs cs_53 := (GR.refl cs).trans (hT _ _ _ g23)
                            replace h := ob h
                            obtain ⟨v_54, g25, h⟩ := h
                            replace h := ob h
                            obtain ⟨cs_55, g26, h⟩ := h
                            have q27 : GR cs cs_55 := (q24).trans (hT _ _ _ g26)
                            rcases ite_or h with h | h
                            · exact (q27).trans (gp_m_judge_b484 hT h)
                            · rcases ite_or h with h | h
                              · exact (q27).trans (gp_m_judge_b484 hT h)
                              · exact (q27).trans (gp_m_judge_b489 hT h)
            · replace h := ob h
              obtain ⟨v_72, g28, h⟩ := h
              replace h := ob h
              obtain ⟨cs_73, g29, h⟩ := h
              have q30 : GR cs cs_73 := ((GR.refl cs).trans (GR.sF (by decide))).trans (hT _ _ _ g29)
              rcases ite_or h with h | h
              · exact ((q30).trans (GR.sF (by decide))).trans (gp_m_judge_b106 hT h)
              · replace h := ob h
                obtain ⟨v_75, g31, h⟩ := h
                replace h := ob h
                obtain ⟨cs_76, g32, h⟩ := h
                have q33 : GR cs cs_76 := ((q30).trans (GR.sF (by decide))).trans (gp_m_want g32)
                exact (q33).trans (gp_m_judge_b106 hT h)
theorem gp_tab_judge (F : Nat) : ∀ n, GPT_TG_judge (tab_judge F n)
  | 0 => fun _ _ _ h => (by cases (show (none : Option RS) = _ from h))
  | n + 1 => fun _ _ _ h => gp_b_judge (gp_tab_judge F n) h
theorem gp_m_judge {F n : Nat} {cs : RS} {x1 : Int32} {cs9 : RS} (h : m_judge F n cs x1 = some cs9) : GR cs cs9 := (gp_tab_judge F n) _ _ _ h
theorem gp_tab_isKept (F : Nat) : ∀ n, GPT_TG_isKept (tab_isKept F n)
  | 0 => ⟨trivial, trivial, trivial⟩
  | n + 1 => ⟨trivial, trivial, trivial⟩
theorem gp_m_judgeQuery_b308 {F : Nat} {T : TG_judgeQuery} {cs1 : RS} {cs9 : RS} (hT : GPT_TG_judgeQuery T) (h : m_judgeQuery_b308 F T cs1 = some cs9) : GR cs1 cs9 := by
  unfold m_judgeQuery_b308 at h
  exact (GR.refl cs1).to (Option.some.inj h)
theorem gp_m_judgeQuery_L258 {F : Nat} {T : TG_judgeQuery} (hT : GPT_TG_judgeQuery T) : ∀ (lf : Nat) (cs1 : RS) (u1 : Int32) (u2 : Int32) (u4 : Int32) (cs9 : RS), m_judgeQuery_L258 F T lf cs1 u1 u2 u4 = some cs9 → GR cs1 cs9 := by
  intro lf
  induction lf with
  | zero => intro cs1 u1 u2 u4 cs9 h; cases (show (none : Option RS) = _ from h)
  | succ lf ih =>
    intro cs1 u1 u2 u4 cs9 h
    rw [m_judgeQuery_L258] at h
    replace h := ob h
    obtain ⟨v_1, g1, h⟩ := h
    rcases ite_or h with h | h
    · exact (GR.refl cs1).trans (gp_m_judgeQuery_b308 hT h)
    · rcases ite_or h with h | h
      · exact (GR.refl cs1).trans (gp_m_judgeQuery_b308 hT h)
      · replace h := ob h
        obtain ⟨v_4, g2, h⟩ := h
        replace h := ob h
        obtain ⟨cs_5, g3, h⟩ := h
        have q4 : GR cs1 cs_5 := (((GR.refl cs1).trans (GR.sF (by decide))).trans (GR.sF (by decide))).trans (gp_m_judge g3)
        exact (q4).trans (ih _ _ _ _ _ h)
theorem gp_m_judgeQuery_b227 {F : Nat} {T : TG_judgeQuery} {cs1 : RS} {u1 : Int32} {u2 : Int32} {u3 : Int32} {cs9 : RS} (hT : GPT_TG_judgeQuery T) (h : m_judgeQuery_b227 F T cs1 u1 u2 u3 = some cs9) : GR cs1 cs9 := by
  unfold m_judgeQuery_b227 at h
  rcases ite_or h with h | h
  · exact (GR.refl cs1).trans (gp_m_judgeQuery_b308 hT h)
  · replace h := ob h
    obtain ⟨v_7, g1, h⟩ := h
    rcases ite_or h with h | h
    · exact (GR.refl cs1).trans (gp_m_judgeQuery_b308 hT h)
    · replace h := ob h
      obtain ⟨v_9, g2, h⟩ := h
      replace h := ob h
      obtain ⟨cs_10, g3, h⟩ := h
      have q4 : GR cs1 cs_10 := (GR.refl cs1).trans (gp_m_bounded g3)
      exact (q4).trans (gp_m_judgeQuery_L258 hT _ _ _ _ _ _ h)
theorem gp_m_judgeQuery_b221 {F : Nat} {T : TG_judgeQuery} {rc14 : RS → Int32 → Int32 → Int32 → Int32 → Option RS} {cs1 : RS} {u1 : Int32} {u2 : Int32} {u3 : Int32} {u4 : Int32} {cs9 : RS} (hT : GPT_TG_judgeQuery T) (hrc14 : ∀ (cs1 : RS) (a1 : Int32) (a2 : Int32) (a3 : Int32) (a4 : Int32) (cs9 : RS), rc14 cs1 a1 a2 a3 a4 = some cs9 → GR cs1 cs9) (h : m_judgeQuery_b221 F T rc14 cs1 u1 u2 u3 u4 = some cs9) : GR cs1 cs9 := by
  unfold m_judgeQuery_b221 at h
  exact (GR.refl cs1).trans (hrc14 _ _ _ _ _ _ h)
theorem gp_m_judgeQuery_b208 {F : Nat} {T : TG_judgeQuery} {rc14 : RS → Int32 → Int32 → Int32 → Int32 → Option RS} {cs1 : RS} {u1 : Int32} {u2 : Int32} {u3 : Int32} {u4 : Int32} {u6 : Int32} {u7 : Int32} {cs9 : RS} (hT : GPT_TG_judgeQuery T) (hrc14 : ∀ (cs1 : RS) (a1 : Int32) (a2 : Int32) (a3 : Int32) (a4 : Int32) (cs9 : RS), rc14 cs1 a1 a2 a3 a4 = some cs9 → GR cs1 cs9) (h : m_judgeQuery_b208 F T rc14 cs1 u1 u2 u3 u4 u6 u7 = some cs9) : GR cs1 cs9 := by
  unfold m_judgeQuery_b208 at h
  rcases ite_or h with h | h
  · replace h := ob h
    obtain ⟨cs_12, g1, h⟩ := h
    have q2 : GR cs1 cs_12 := (GR.refl cs1).trans (gp_m_tell g1)
    exact (q2).trans (gp_m_judgeQuery_b221 hT hrc14 h)
  · exact (GR.refl cs1).trans (gp_m_judgeQuery_b221 hT hrc14 h)
theorem gp_m_judgeQuery_b200 {F : Nat} {T : TG_judgeQuery} {rc14 : RS → Int32 → Int32 → Int32 → Int32 → Option RS} {rc150 : RS → Int32 → Int32 → Int32 → Int32 → Int32 → Int32 → Int32 → Int32 → Option RS} {cs1 : RS} {u1 : Int32} {u2 : Int32} {u3 : Int32} {u4 : Int32} {u5 : Int32} {u6 : Int32} {u8 : Int32} {y0 : Int32} {cs9 : RS} (hT : GPT_TG_judgeQuery T) (hrc14 : ∀ (cs1 : RS) (a1 : Int32) (a2 : Int32) (a3 : Int32) (a4 : Int32) (cs9 : RS), rc14 cs1 a1 a2 a3 a4 = some cs9 → GR cs1 cs9) (hrc150 : ∀ (cs1 : RS) (a1 : Int32) (a2 : Int32) (a3 : Int32) (a4 : Int32) (a5 : Int32) (a6 : Int32) (a7 : Int32) (a8 : Int32) (cs9 : RS), rc150 cs1 a1 a2 a3 a4 a5 a6 a7 a8 = some cs9 → GR cs1 cs9) (h : m_judgeQuery_b200 F T rc14 rc150 cs1 u1 u2 u3 u4 u5 u6 u8 y0 = some cs9) : GR cs1 cs9 := by
  unfold m_judgeQuery_b200 at h
  exact (GR.refl cs1).trans (hrc150 _ _ _ _ _ _ _ _ _ _ h)
theorem gp_m_judgeQuery_L150 {F : Nat} {T : TG_judgeQuery} {rc14 : RS → Int32 → Int32 → Int32 → Int32 → Option RS} (hT : GPT_TG_judgeQuery T) (hrc14 : ∀ (cs1 : RS) (a1 : Int32) (a2 : Int32) (a3 : Int32) (a4 : Int32) (cs9 : RS), rc14 cs1 a1 a2 a3 a4 = some cs9 → GR cs1 cs9) : ∀ (lf : Nat) (cs1 : RS) (u1 : Int32) (u2 : Int32) (u3 : Int32) (u4 : Int32) (u5 : Int32) (u6 : Int32) (u7 : Int32) (u8 : Int32) (cs9 : RS), m_judgeQuery_L150 F T rc14 lf cs1 u1 u2 u3 u4 u5 u6 u7 u8 = some cs9 → GR cs1 cs9 := by
  intro lf
  induction lf with
  | zero => intro cs1 u1 u2 u3 u4 u5 u6 u7 u8 cs9 h; cases (show (none : Option RS) = _ from h)
  | succ lf ih =>
    intro cs1 u1 u2 u3 u4 u5 u6 u7 u8 cs9 h
    rw [m_judgeQuery_L150] at h
    rcases ite_or h with h | h
    · exact (GR.refl cs1).trans (gp_m_judgeQuery_b208 hT hrc14 h)
    · replace h := ob h
      obtain ⟨v_14, g1, h⟩ := h
      rcases ite_or h with h | h
      · exact (GR.refl cs1).trans (gp_m_judgeQuery_b208 hT hrc14 h)
      · replace h := ob h
        obtain ⟨v_16, g2, h⟩ := h
        replace h := ob h
        obtain ⟨v_17, g3, h⟩ := h
        rcases ite_or h with h | h
        · exact (GR.refl cs1).trans (gp_m_judgeQuery_b200 hT hrc14 ih h)
        · exact (GR.refl cs1).trans (gp_m_judgeQuery_b200 hT hrc14 ih h)
theorem gp_m_judgeQuery_b145 {F : Nat} {T : TG_judgeQuery} {rc14 : RS → Int32 → Int32 → Int32 → Int32 → Option RS} {cs1 : RS} {u1 : Int32} {u2 : Int32} {u3 : Int32} {u4 : Int32} {u5 : Int32} {u6 : Int32} {y0 : Int32} {cs9 : RS} (hT : GPT_TG_judgeQuery T) (hrc14 : ∀ (cs1 : RS) (a1 : Int32) (a2 : Int32) (a3 : Int32) (a4 : Int32) (cs9 : RS), rc14 cs1 a1 a2 a3 a4 = some cs9 → GR cs1 cs9) (h : m_judgeQuery_b145 F T rc14 cs1 u1 u2 u3 u4 u5 u6 y0 = some cs9) : GR cs1 cs9 := by
  unfold m_judgeQuery_b145 at h
  exact (GR.refl cs1).trans (gp_m_judgeQuery_L150 hT hrc14 _ _ _ _ _ _ _ _ _ _ _ h)
theorem gp_m_judgeQuery_b124 {F : Nat} {T : TG_judgeQuery} {rc14 : RS → Int32 → Int32 → Int32 → Int32 → Option RS} {cs1 : RS} {u1 : Int32} {u2 : Int32} {u3 : Int32} {u4 : Int32} {u5 : Int32} {u6 : Int32} {cs9 : RS} (hT : GPT_TG_judgeQuery T) (hrc14 : ∀ (cs1 : RS) (a1 : Int32) (a2 : Int32) (a3 : Int32) (a4 : Int32) (cs9 : RS), rc14 cs1 a1 a2 a3 a4 = some cs9 → GR cs1 cs9) (h : m_judgeQuery_b124 F T rc14 cs1 u1 u2 u3 u4 u5 u6 = some cs9) : GR cs1 cs9 := by
  unfold m_judgeQuery_b124 at h
  replace h := ob h
  obtain ⟨v_19, g1, h⟩ := h
  replace h := ob h
  obtain ⟨v_20, g2, h⟩ := h
  rcases ite_or h with h | h
  · exact (GR.refl cs1).trans (gp_m_judgeQuery_b145 hT hrc14 h)
  · exact (GR.refl cs1).trans (gp_m_judgeQuery_b145 hT hrc14 h)
theorem gp_m_judgeQuery_b76 {F : Nat} {T : TG_judgeQuery} {rc14 : RS → Int32 → Int32 → Int32 → Int32 → Option RS} {cs1 : RS} {u1 : Int32} {u2 : Int32} {u4 : Int32} {u5 : Int32} {y0 : Int32} {cs9 : RS} (hT : GPT_TG_judgeQuery T) (hrc14 : ∀ (cs1 : RS) (a1 : Int32) (a2 : Int32) (a3 : Int32) (a4 : Int32) (cs9 : RS), rc14 cs1 a1 a2 a3 a4 = some cs9 → GR cs1 cs9) (h : m_judgeQuery_b76 F T rc14 cs1 u1 u2 u4 u5 y0 = some cs9) : GR cs1 cs9 := by
  unfold m_judgeQuery_b76 at h
  rcases ite_or h with h | h
  · exact (GR.refl cs1).trans (gp_m_judgeQuery_b221 hT hrc14 h)
  · rcases ite_or h with h | h
    · exact (GR.refl cs1).trans (gp_m_judgeQuery_b221 hT hrc14 h)
    · replace h := ob h
      obtain ⟨v_24, g1, h⟩ := h
      replace h := ob h
      obtain ⟨v_25, g2, h⟩ := h
      rcases ite_or h with h | h
      · exact (GR.refl cs1).trans (gp_m_judgeQuery_b124 hT hrc14 h)
      · replace h := ob h
        obtain ⟨cs_27, g3, h⟩ := h
        have q4 : GR cs1 cs_27 := (GR.refl cs1).trans (gp_m_bounded g3)
        exact (q4).trans (gp_m_judgeQuery_b124 hT hrc14 h)
theorem gp_m_judgeQuery_b75 {F : Nat} {T : TG_judgeQuery} {rc14 : RS → Int32 → Int32 → Int32 → Int32 → Option RS} {cs1 : RS} {u1 : Int32} {u2 : Int32} {u4 : Int32} {u5 : Int32} {cs9 : RS} (hT : GPT_TG_judgeQuery T) (hrc14 : ∀ (cs1 : RS) (a1 : Int32) (a2 : Int32) (a3 : Int32) (a4 : Int32) (cs9 : RS), rc14 cs1 a1 a2 a3 a4 = some cs9 → GR cs1 cs9) (h : m_judgeQuery_b75 F T rc14 cs1 u1 u2 u4 u5 = some cs9) : GR cs1 cs9 := by
  unfold m_judgeQuery_b75 at h
  exact (GR.refl cs1).trans (gp_m_judgeQuery_b76 hT hrc14 h)
theorem gp_m_judgeQuery_L14 {F : Nat} {T : TG_judgeQuery} (hT : GPT_TG_judgeQuery T) : ∀ (lf : Nat) (cs1 : RS) (u1 : Int32) (u2 : Int32) (u3 : Int32) (u4 : Int32) (cs9 : RS), m_judgeQuery_L14 F T lf cs1 u1 u2 u3 u4 = some cs9 → GR cs1 cs9 := by
  intro lf
  induction lf with
  | zero => intro cs1 u1 u2 u3 u4 cs9 h; cases (show (none : Option RS) = _ from h)
  | succ lf ih =>
    intro cs1 u1 u2 u3 u4 cs9 h
    rw [m_judgeQuery_L14] at h
    replace h := ob h
    obtain ⟨v_28, g1, h⟩ := h
    rcases ite_or h with h | h
    · exact (GR.refl cs1).trans (gp_m_judgeQuery_b227 hT h)
    · rcases ite_or h with h | h
      · exact (GR.refl cs1).trans (gp_m_judgeQuery_b227 hT h)
      · replace h := ob h
        obtain ⟨v_31, g2, h⟩ := h
        replace h := ob h
        obtain ⟨cs_32, g3, h⟩ := h
        have q4 : GR cs1 cs_32 := (GR.refl cs1).trans (hT.2 _ _ _ g3)
        rcases ite_or h with h | h
        · exact (q4).trans (gp_m_judgeQuery_b75 hT ih h)
        · replace h := ob h
          obtain ⟨v_34, g5, h⟩ := h
          replace h := ob h
          obtain ⟨v_35, g6, h⟩ := h
          rcases ite_or h with h | h
          · exact (q4).trans (gp_m_judgeQuery_b75 hT ih h)
          · exact (q4).trans (gp_m_judgeQuery_b76 hT ih h)
theorem gp_b_judgeQuery {F : Nat} {T : TG_judgeQuery} {cs : RS} {x1 : Int32} {cs9 : RS} (hT : GPT_TG_judgeQuery T) (h : b_judgeQuery F T cs x1 = some cs9) : GR cs cs9 := by
  unfold b_judgeQuery at h
  replace h := ob h
  obtain ⟨v_37, g1, h⟩ := h
  exact (GR.refl cs).trans (gp_m_judgeQuery_L14 hT _ _ _ _ _ _ _ h)
theorem gp_m_judgeSelect_b732 {F : Nat} {T : TG_judgeQuery} {cs1 : RS} {cs9 : RS} (hT : GPT_TG_judgeQuery T) (h : m_judgeSelect_b732 F T cs1 = some cs9) : GR cs1 cs9 := by
  unfold m_judgeSelect_b732 at h
  exact (GR.refl cs1).to (Option.some.inj h)
theorem gp_m_judgeSelect_b704 {F : Nat} {T : TG_judgeQuery} {cs1 : RS} {u1 : Int32} {u3 : Int32} {cs9 : RS} (hT : GPT_TG_judgeQuery T) (h : m_judgeSelect_b704 F T cs1 u1 u3 = some cs9) : GR cs1 cs9 := by
  unfold m_judgeSelect_b704 at h
  replace h := ob h
  obtain ⟨v_1, g1, h⟩ := h
  rcases ite_or h with h | h
  · exact (GR.refl cs1).trans (gp_m_judgeSelect_b732 hT h)
  · rcases ite_or h with h | h
    · exact (GR.refl cs1).trans (gp_m_judgeSelect_b732 hT h)
    · replace h := ob h
      obtain ⟨v_4, g2, h⟩ := h
      replace h := ob h
      obtain ⟨cs_5, g3, h⟩ := h
      have q4 : GR cs1 cs_5 := (GR.refl cs1).trans (gp_m_bounded g3)
      exact (q4).trans (gp_m_judgeSelect_b732 hT h)
theorem gp_m_judgeSelect_b697 {F : Nat} {T : TG_judgeQuery} {rc627 : RS → Int32 → Int32 → Int32 → Option RS} {cs1 : RS} {u1 : Int32} {u3 : Int32} {u4 : Int32} {y0 : Int32} {y1 : Int32} {cs9 : RS} (hT : GPT_TG_judgeQuery T) (hrc627 : ∀ (cs1 : RS) (a1 : Int32) (a2 : Int32) (a3 : Int32) (cs9 : RS), rc627 cs1 a1 a2 a3 = some cs9 → GR cs1 cs9) (h : m_judgeSelect_b697 F T rc627 cs1 u1 u3 u4 y0 y1 = some cs9) : GR cs1 cs9 := by
  unfold m_judgeSelect_b697 at h
  replace h := ob h
  obtain ⟨cs_6, g1, h⟩ := h
  have q2 : GR cs1 cs_6 := (GR.refl cs1).trans (gw_I (by decide) g1)
  exact (q2).trans (hrc627 _ _ _ _ _ h)
theorem gp_m_judgeSelect_L627 {F : Nat} {T : TG_judgeQuery} (hT : GPT_TG_judgeQuery T) : ∀ (lf : Nat) (cs1 : RS) (u1 : Int32) (u3 : Int32) (u4 : Int32) (cs9 : RS), m_judgeSelect_L627 F T lf cs1 u1 u3 u4 = some cs9 → GR cs1 cs9 := by
  intro lf
  induction lf with
  | zero => intro cs1 u1 u3 u4 cs9 h; cases (show (none : Option RS) = _ from h)
  | succ lf ih =>
    intro cs1 u1 u3 u4 cs9 h
    rw [m_judgeSelect_L627] at h
    replace h := ob h
    obtain ⟨v_7, g1, h⟩ := h
    rcases ite_or h with h | h
    · exact (GR.refl cs1).trans (gp_m_judgeSelect_b704 hT h)
    · rcases ite_or h with h | h
      · exact (GR.refl cs1).trans (gp_m_judgeSelect_b704 hT h)
      · replace h := ob h
        obtain ⟨v_10, g2, h⟩ := h
        replace h := ob h
        obtain ⟨cs_11, g3, h⟩ := h
        have q4 : GR cs1 cs_11 := (GR.refl cs1).trans (gp_m_judge g3)
        replace h := ob h
        obtain ⟨v_12, g5, h⟩ := h
        rcases ite_or h with h | h
        · exact (q4).trans (gp_m_judgeSelect_b697 hT ih h)
        · replace h := ob h
          obtain ⟨v_14, g6, h⟩ := h
          exact (q4).trans (gp_m_judgeSelect_b697 hT ih h)
theorem gp_m_judgeSelect_b624 {F : Nat} {T : TG_judgeQuery} {cs1 : RS} {u1 : Int32} {u3 : Int32} {cs9 : RS} (hT : GPT_TG_judgeQuery T) (h : m_judgeSelect_b624 F T cs1 u1 u3 = some cs9) : GR cs1 cs9 := by
  unfold m_judgeSelect_b624 at h
  exact (GR.refl cs1).trans (gp_m_judgeSelect_L627 hT _ _ _ _ _ _ h)
theorem gp_m_judgeSelect_b568 {F : Nat} {T : TG_judgeQuery} {cs1 : RS} {u1 : Int32} {u3 : Int32} {y0 : Int32} {cs9 : RS} (hT : GPT_TG_judgeQuery T) (h : m_judgeSelect_b568 F T cs1 u1 u3 y0 = some cs9) : GR cs1 cs9 := by
  unfold m_judgeSelect_b568 at h
  replace h := ob h
  obtain ⟨v_15, g1, h⟩ := h
  replace h := ob h
  obtain ⟨v_16, g2, h⟩ := h
  rcases ite_or h with h | h
  · exact ((((GR.refl cs1).trans (GR.sF (by decide))).trans (GR.sF (by decide))).trans (GR.sF (by decide))).trans (gp_m_judgeSelect_b624 hT h)
  · rcases ite_or h with h | h
    · exact ((((GR.refl cs1).trans (GR.sF (by decide))).trans (GR.sF (by decide))).trans (GR.sF (by decide))).trans (gp_m_judgeSelect_b624 hT h)
    · replace h := ob h
      obtain ⟨v_19, g3, h⟩ := h
      replace h := ob h
      obtain ⟨cs_20, g4, h⟩ := h
      have q5 : GR cs1 cs_20 := ((((GR.refl cs1).trans (GR.sF (by decide))).trans (GR.sF (by decide))).trans (GR.sF (by decide))).trans (gp_m_judge g4)
      replace h := ob h
      obtain ⟨v_21, g6, h⟩ := h
      replace h := ob h
      obtain ⟨cs_22, g7, h⟩ := h
      have q8 : GR cs1 cs_22 := (q5).trans (gp_m_want g7)
      exact (q8).trans (gp_m_judgeSelect_b624 hT h)
theorem gp_m_judgeSelect_b554 {F : Nat} {T : TG_judgeQuery} {cs1 : RS} {u1 : Int32} {u3 : Int32} {cs9 : RS} (hT : GPT_TG_judgeQuery T) (h : m_judgeSelect_b554 F T cs1 u1 u3 = some cs9) : GR cs1 cs9 := by
  unfold m_judgeSelect_b554 at h
  replace h := ob h
  obtain ⟨v_23, g1, h⟩ := h
  rcases ite_or h with h | h
  · exact (GR.refl cs1).trans (gp_m_judgeSelect_b568 hT h)
  · exact (GR.refl cs1).trans (gp_m_judgeSelect_b568 hT h)
theorem gp_m_judgeSelect_b524 {F : Nat} {T : TG_judgeQuery} {cs1 : RS} {u1 : Int32} {u3 : Int32} {cs9 : RS} (hT : GPT_TG_judgeQuery T) (h : m_judgeSelect_b524 F T cs1 u1 u3 = some cs9) : GR cs1 cs9 := by
  unfold m_judgeSelect_b524 at h
  exact (GR.refl cs1).trans (gp_m_judgeSelect_b554 hT h)
theorem gp_m_judgeSelect_b512 {F : Nat} {T : TG_judgeQuery} {rc378 : RS → Int32 → Int32 → Int32 → Option RS} {rc452 : RS → Int32 → Int32 → Int32 → Int32 → Option RS} {cs1 : RS} {u1 : Int32} {u3 : Int32} {u4 : Int32} {u6 : Int32} {cs9 : RS} (hT : GPT_TG_judgeQuery T) (hrc378 : ∀ (cs1 : RS) (a1 : Int32) (a2 : Int32) (a3 : Int32) (cs9 : RS), rc378 cs1 a1 a2 a3 = some cs9 → GR cs1 cs9) (hrc452 : ∀ (cs1 : RS) (a1 : Int32) (a2 : Int32) (a3 : Int32) (a4 : Int32) (cs9 : RS), rc452 cs1 a1 a2 a3 a4 = some cs9 → GR cs1 cs9) (h : m_judgeSelect_b512 F T rc378 rc452 cs1 u1 u3 u4 u6 = some cs9) : GR cs1 cs9 := by
  unfold m_judgeSelect_b512 at h
  exact (GR.refl cs1).trans (hrc452 _ _ _ _ _ _ h)
theorem gp_m_judgeSelect_L452 {F : Nat} {T : TG_judgeQuery} {rc378 : RS → Int32 → Int32 → Int32 → Option RS} (hT : GPT_TG_judgeQuery T) (hrc378 : ∀ (cs1 : RS) (a1 : Int32) (a2 : Int32) (a3 : Int32) (cs9 : RS), rc378 cs1 a1 a2 a3 = some cs9 → GR cs1 cs9) : ∀ (lf : Nat) (cs1 : RS) (u1 : Int32) (u3 : Int32) (u4 : Int32) (u6 : Int32) (cs9 : RS), m_judgeSelect_L452 F T rc378 lf cs1 u1 u3 u4 u6 = some cs9 → GR cs1 cs9 := by
  intro lf
  induction lf with
  | zero => intro cs1 u1 u3 u4 u6 cs9 h; cases (show (none : Option RS) = _ from h)
  | succ lf ih =>
    intro cs1 u1 u3 u4 u6 cs9 h
    rw [m_judgeSelect_L452] at h
    rcases ite_or h with h | h
    · exact (GR.refl cs1).trans (hrc378 _ _ _ _ _ h)
    · replace h := ob h
      obtain ⟨v_26, g1, h⟩ := h
      replace h := ob h
      obtain ⟨v_27, g2, h⟩ := h
      replace h := ob h
      obtain ⟨v_28, g3, h⟩ := h
      rcases ite_or h with h | h
      · exact (GR.refl cs1).trans (gp_m_judgeSelect_b512 hT hrc378 ih h)
      · replace h := ob h
        obtain ⟨v_30, g4, h⟩ := h
        replace h := ob h
        obtain ⟨v_31, g5, h⟩ := h
        replace h := ob h
        obtain ⟨cs_32, g6, h⟩ := h
        have q7 : GR cs1 cs_32 := (GR.refl cs1).trans (gp_m_tell g6)
        exact (q7).trans (gp_m_judgeSelect_b512 hT hrc378 ih h)
theorem gp_m_judgeSelect_b448 {F : Nat} {T : TG_judgeQuery} {rc378 : RS → Int32 → Int32 → Int32 → Option RS} {cs1 : RS} {u1 : Int32} {u3 : Int32} {u4 : Int32} {y0 : Int32} {y1 : Int32} {cs9 : RS} (hT : GPT_TG_judgeQuery T) (hrc378 : ∀ (cs1 : RS) (a1 : Int32) (a2 : Int32) (a3 : Int32) (cs9 : RS), rc378 cs1 a1 a2 a3 = some cs9 → GR cs1 cs9) (h : m_judgeSelect_b448 F T rc378 cs1 u1 u3 u4 y0 y1 = some cs9) : GR cs1 cs9 := by
  unfold m_judgeSelect_b448 at h
  replace h := ob h
  obtain ⟨cs_33, g1, h⟩ := h
  have q2 : GR cs1 cs_33 := (GR.refl cs1).trans (gw_I (by decide) g1)
  exact (q2).trans (gp_m_judgeSelect_L452 hT hrc378 _ _ _ _ _ _ _ h)
theorem gp_m_judgeSelect_L378 {F : Nat} {T : TG_judgeQuery} (hT : GPT_TG_judgeQuery T) : ∀ (lf : Nat) (cs1 : RS) (u1 : Int32) (u3 : Int32) (u4 : Int32) (cs9 : RS), m_judgeSelect_L378 F T lf cs1 u1 u3 u4 = some cs9 → GR cs1 cs9 := by
  intro lf
  induction lf with
  | zero => intro cs1 u1 u3 u4 cs9 h; cases (show (none : Option RS) = _ from h)
  | succ lf ih =>
    intro cs1 u1 u3 u4 cs9 h
    rw [m_judgeSelect_L378] at h
    replace h := ob h
    obtain ⟨v_34, g1, h⟩ := h
    rcases ite_or h with h | h
    · exact (GR.refl cs1).trans (gp_m_judgeSelect_b524 hT h)
    · rcases ite_or h with h | h
      · exact (GR.refl cs1).trans (gp_m_judgeSelect_b524 hT h)
      · replace h := ob h
        obtain ⟨v_37, g2, h⟩ := h
        replace h := ob h
        obtain ⟨cs_38, g3, h⟩ := h
        have q4 : GR cs1 cs_38 := (GR.refl cs1).trans (gp_m_judge g3)
        replace h := ob h
        obtain ⟨v_39, g5, h⟩ := h
        rcases ite_or h with h | h
        · exact (q4).trans (gp_m_judgeSelect_b448 hT ih h)
        · replace h := ob h
          obtain ⟨v_41, g6, h⟩ := h
          exact (q4).trans (gp_m_judgeSelect_b448 hT ih h)
theorem gp_m_judgeSelect_b527 {F : Nat} {T : TG_judgeQuery} {cs1 : RS} {u1 : Int32} {u3 : Int32} {cs9 : RS} (hT : GPT_TG_judgeQuery T) (h : m_judgeSelect_b527 F T cs1 u1 u3 = some cs9) : GR cs1 cs9 := by
  unfold m_judgeSelect_b527 at h
  replace h := ob h
  obtain ⟨v_42, g1, h⟩ := h
  rcases ite_or h with h | h
  · exact (GR.refl cs1).trans (gp_m_judgeSelect_b554 hT h)
  · rcases ite_or h with h | h
    · exact (GR.refl cs1).trans (gp_m_judgeSelect_b554 hT h)
    · replace h := ob h
      obtain ⟨v_45, g2, h⟩ := h
      replace h := ob h
      obtain ⟨cs_46, g3, h⟩ := h
      have q4 : GR cs1 cs_46 := (GR.refl cs1).trans (gp_m_bounded g3)
      exact (q4).trans (gp_m_judgeSelect_b554 hT h)
theorem gp_m_judgeSelect_b346 {F : Nat} {T : TG_judgeQuery} {cs1 : RS} {u1 : Int32} {y0 : Int32} {cs9 : RS} (hT : GPT_TG_judgeQuery T) (h : m_judgeSelect_b346 F T cs1 u1 y0 = some cs9) : GR cs1 cs9 := by
  unfold m_judgeSelect_b346 at h
  replace h := ob h
  obtain ⟨v_47, g1, h⟩ := h
  rcases ite_or h with h | h
  · exact (GR.refl cs1).trans (gp_m_judgeSelect_b527 hT h)
  · rcases ite_or h with h | h
    · exact (GR.refl cs1).trans (gp_m_judgeSelect_b527 hT h)
    · replace h := ob h
      obtain ⟨v_50, g2, h⟩ := h
      replace h := ob h
      obtain ⟨cs_51, g3, h⟩ := h
      have q4 : GR cs1 cs_51 := (GR.refl cs1).trans (gp_m_bounded g3)
      exact (q4).trans (gp_m_judgeSelect_L378 hT _ _ _ _ _ _ h)
theorem gp_m_judgeSelect_b345 {F : Nat} {T : TG_judgeQuery} {cs1 : RS} {u1 : Int32} {cs9 : RS} (hT : GPT_TG_judgeQuery T) (h : m_judgeSelect_b345 F T cs1 u1 = some cs9) : GR cs1 cs9 := by
  unfold m_judgeSelect_b345 at h
  exact (GR.refl cs1).trans (gp_m_judgeSelect_b346 hT h)
theorem gp_m_judgeSelect_b320 {F : Nat} {T : TG_judgeQuery} {cs1 : RS} {u1 : Int32} {cs9 : RS} (hT : GPT_TG_judgeQuery T) (h : m_judgeSelect_b320 F T cs1 u1 = some cs9) : GR cs1 cs9 := by
  unfold m_judgeSelect_b320 at h
  rcases ite_or h with h | h
  · exact (GR.refl cs1).trans (gp_m_judgeSelect_b345 hT h)
  · replace h := ob h
    obtain ⟨v_53, g1, h⟩ := h
    replace h := ob h
    obtain ⟨v_54, g2, h⟩ := h
    rcases ite_or h with h | h
    · exact (GR.refl cs1).trans (gp_m_judgeSelect_b345 hT h)
    · exact (GR.refl cs1).trans (gp_m_judgeSelect_b346 hT h)
theorem gp_m_judgeSelect_b271 {F : Nat} {T : TG_judgeQuery} {cs1 : RS} {u1 : Int32} {cs9 : RS} (hT : GPT_TG_judgeQuery T) (h : m_judgeSelect_b271 F T cs1 u1 = some cs9) : GR cs1 cs9 := by
  unfold m_judgeSelect_b271 at h
  replace h := ob h
  obtain ⟨v_56, g1, h⟩ := h
  replace h := ob h
  obtain ⟨cs_57, g2, h⟩ := h
  have q3 : GR cs1 cs_57 := (GR.refl cs1).trans (gp_m_sourcesOf g2)
  replace h := ob h
  obtain ⟨v_58, g4, h⟩ := h
  rcases ite_or h with h | h
  · exact (q3).trans (gp_m_judgeSelect_b320 hT h)
  · rcases ite_or h with h | h
    · exact (q3).trans (gp_m_judgeSelect_b320 hT h)
    · replace h := ob h
      obtain ⟨v_61, g5, h⟩ := h
      replace h := ob h
      obtain ⟨cs_62, g6, h⟩ := h
      have q7 : GR cs1 cs_62 := (q3).trans (gp_m_judge g6)
      replace h := ob h
      obtain ⟨v_63, g8, h⟩ := h
      replace h := ob h
      obtain ⟨cs_64, g9, h⟩ := h
      have q10 : GR cs1 cs_64 := (q7).trans (gp_m_want g9)
      exact (q10).trans (gp_m_judgeSelect_b320 hT h)
theorem gp_m_judgeSelect_b265 {F : Nat} {T : TG_judgeQuery} {rc4 : RS → Int32 → Int32 → Int32 → Option RS} {cs1 : RS} {u1 : Int32} {u2 : Int32} {u3 : Int32} {cs9 : RS} (hT : GPT_TG_judgeQuery T) (hrc4 : ∀ (cs1 : RS) (a1 : Int32) (a2 : Int32) (a3 : Int32) (cs9 : RS), rc4 cs1 a1 a2 a3 = some cs9 → GR cs1 cs9) (h : m_judgeSelect_b265 F T rc4 cs1 u1 u2 u3 = some cs9) : GR cs1 cs9 := by
  unfold m_judgeSelect_b265 at h
  exact (GR.refl cs1).trans (hrc4 _ _ _ _ _ h)
theorem gp_m_judgeSelect_b202 {F : Nat} {T : TG_judgeQuery} {rc4 : RS → Int32 → Int32 → Int32 → Option RS} {cs1 : RS} {u1 : Int32} {u3 : Int32} {u4 : Int32} {y0 : Int32} {y1 : Int32} {cs9 : RS} (hT : GPT_TG_judgeQuery T) (hrc4 : ∀ (cs1 : RS) (a1 : Int32) (a2 : Int32) (a3 : Int32) (cs9 : RS), rc4 cs1 a1 a2 a3 = some cs9 → GR cs1 cs9) (h : m_judgeSelect_b202 F T rc4 cs1 u1 u3 u4 y0 y1 = some cs9) : GR cs1 cs9 := by
  unfold m_judgeSelect_b202 at h
  rcases ite_or h with h | h
  · exact (GR.refl cs1).trans (gp_m_judgeSelect_b265 hT hrc4 h)
  · rcases ite_or h with h | h
    · exact (GR.refl cs1).trans (gp_m_judgeSelect_b265 hT hrc4 h)
    · replace h := ob h
      obtain ⟨v_67, g1, h⟩ := h
      replace h := ob h
      obtain ⟨v_68, g2, h⟩ := h
      replace h := ob h
      obtain ⟨cs_69, g3, h⟩ := h
      have q4 : GR cs1 cs_69 := (GR.refl cs1).trans (gp_m_bounded g3)
      replace h := ob h
      obtain ⟨cs_70, g5, h⟩ := h
      have q6 : GR cs1 cs_70 := (q4).trans (gp_m_sourcesOf g5)
      replace h := ob h
      obtain ⟨v_71, g7, h⟩ := h
      replace h := ob h
      obtain ⟨cs_72, g8, h⟩ := h
      have q9 : GR cs1 cs_72 := (q6).trans (gp_m_judge g8)
      replace h := ob h
      obtain ⟨v_73, g10, h⟩ := h
      replace h := ob h
      obtain ⟨cs_74, g11, h⟩ := h
      have q12 : GR cs1 cs_74 := (q9).trans (gp_m_want g11)
      exact (q12).trans (gp_m_judgeSelect_b265 hT hrc4 h)
theorem gp_m_judgeSelect_b170 {F : Nat} {T : TG_judgeQuery} {rc4 : RS → Int32 → Int32 → Int32 → Option RS} {rc122 : RS → Int32 → Int32 → Int32 → Int32 → Int32 → Option RS} {cs1 : RS} {u1 : Int32} {u2 : Int32} {u3 : Int32} {u4 : Int32} {u5 : Int32} {cs9 : RS} (hT : GPT_TG_judgeQuery T) (hrc4 : ∀ (cs1 : RS) (a1 : Int32) (a2 : Int32) (a3 : Int32) (cs9 : RS), rc4 cs1 a1 a2 a3 = some cs9 → GR cs1 cs9) (hrc122 : ∀ (cs1 : RS) (a1 : Int32) (a2 : Int32) (a3 : Int32) (a4 : Int32) (a5 : Int32) (cs9 : RS), rc122 cs1 a1 a2 a3 a4 a5 = some cs9 → GR cs1 cs9) (h : m_judgeSelect_b170 F T rc4 rc122 cs1 u1 u2 u3 u4 u5 = some cs9) : GR cs1 cs9 := by
  unfold m_judgeSelect_b170 at h
  exact (GR.refl cs1).trans (hrc122 _ _ _ _ _ _ _ h)
theorem gp_m_judgeSelect_L122 {F : Nat} {T : TG_judgeQuery} {rc4 : RS → Int32 → Int32 → Int32 → Option RS} (hT : GPT_TG_judgeQuery T) (hrc4 : ∀ (cs1 : RS) (a1 : Int32) (a2 : Int32) (a3 : Int32) (cs9 : RS), rc4 cs1 a1 a2 a3 = some cs9 → GR cs1 cs9) : ∀ (lf : Nat) (cs1 : RS) (u1 : Int32) (u2 : Int32) (u3 : Int32) (u4 : Int32) (u5 : Int32) (cs9 : RS), m_judgeSelect_L122 F T rc4 lf cs1 u1 u2 u3 u4 u5 = some cs9 → GR cs1 cs9 := by
  intro lf
  induction lf with
  | zero => intro cs1 u1 u2 u3 u4 u5 cs9 h; cases (show (none : Option RS) = _ from h)
  | succ lf ih =>
    intro cs1 u1 u2 u3 u4 u5 cs9 h
    rw [m_judgeSelect_L122] at h
    rcases ite_or h with h | h
    · replace h := ob h
      obtain ⟨cs_76, g1, h⟩ := h
      have q2 : GR cs1 cs_76 := (GR.refl cs1).trans (gw_I (by decide) g1)
      rcases ite_or h with h | h
      · exact (q2).trans (gp_m_judgeSelect_b202 hT hrc4 h)
      · replace h := ob h
        obtain ⟨v_78, g3, h⟩ := h
        exact (q2).trans (gp_m_judgeSelect_b202 hT hrc4 h)
    · replace h := ob h
      obtain ⟨v_79, g4, h⟩ := h
      replace h := ob h
      obtain ⟨v_80, g5, h⟩ := h
      replace h := ob h
      obtain ⟨v_81, g6, h⟩ := h
      rcases ite_or h with h | h
      · exact (GR.refl cs1).trans (gp_m_judgeSelect_b170 hT hrc4 ih h)
      · replace h := ob h
        obtain ⟨v_83, g7, h⟩ := h
        replace h := ob h
        obtain ⟨v_84, g8, h⟩ := h
        replace h := ob h
        obtain ⟨cs_85, g9, h⟩ := h
        have q10 : GR cs1 cs_85 := (GR.refl cs1).trans (gp_m_tell g9)
        exact (q10).trans (gp_m_judgeSelect_b170 hT hrc4 ih h)
theorem gp_m_judgeSelect_b119 {F : Nat} {T : TG_judgeQuery} {rc4 : RS → Int32 → Int32 → Int32 → Option RS} {cs1 : RS} {u1 : Int32} {u2 : Int32} {u3 : Int32} {u4 : Int32} {cs9 : RS} (hT : GPT_TG_judgeQuery T) (hrc4 : ∀ (cs1 : RS) (a1 : Int32) (a2 : Int32) (a3 : Int32) (cs9 : RS), rc4 cs1 a1 a2 a3 = some cs9 → GR cs1 cs9) (h : m_judgeSelect_b119 F T rc4 cs1 u1 u2 u3 u4 = some cs9) : GR cs1 cs9 := by
  unfold m_judgeSelect_b119 at h
  exact (GR.refl cs1).trans (gp_m_judgeSelect_L122 hT hrc4 _ _ _ _ _ _ _ _ h)
theorem gp_m_judgeSelect_L4 {F : Nat} {T : TG_judgeQuery} (hT : GPT_TG_judgeQuery T) : ∀ (lf : Nat) (cs1 : RS) (u1 : Int32) (u2 : Int32) (u3 : Int32) (cs9 : RS), m_judgeSelect_L4 F T lf cs1 u1 u2 u3 = some cs9 → GR cs1 cs9 := by
  intro lf
  induction lf with
  | zero => intro cs1 u1 u2 u3 cs9 h; cases (show (none : Option RS) = _ from h)
  | succ lf ih =>
    intro cs1 u1 u2 u3 cs9 h
    rw [m_judgeSelect_L4] at h
    replace h := ob h
    obtain ⟨v_86, g1, h⟩ := h
    rcases ite_or h with h | h
    · exact (GR.refl cs1).trans (gp_m_judgeSelect_b271 hT h)
    · rcases ite_or h with h | h
      · exact (GR.refl cs1).trans (gp_m_judgeSelect_b271 hT h)
      · replace h := ob h
        obtain ⟨v_89, g2, h⟩ := h
        rcases ite_or h with h | h
        · replace h := ob h
          obtain ⟨v_91, g3, h⟩ := h
          replace h := ob h
          obtain ⟨cs_92, g4, h⟩ := h
          have q5 : GR cs1 cs_92 := (GR.refl cs1).trans (hT.1 _ _ _ g4)
          rcases ite_or h with h | h
          · exact (q5).trans (gp_m_judgeSelect_b119 hT ih h)
          · replace h := ob h
            obtain ⟨v_94, g6, h⟩ := h
            replace h := ob h
            obtain ⟨v_95, g7, h⟩ := h
            replace h := ob h
            obtain ⟨v_96, g8, h⟩ := h
            rcases ite_or h with h | h
            · replace h := ob h
              obtain ⟨v_98, g9, h⟩ := h
              replace h := ob h
              obtain ⟨cs_99, g10, h⟩ := h
              have q11 : GR cs1 cs_99 := (q5).trans (gp_m_tell g10)
              exact (q11).trans (gp_m_judgeSelect_b119 hT ih h)
            · exact (q5).trans (gp_m_judgeSelect_b119 hT ih h)
        · replace h := ob h
          obtain ⟨v_100, g12, h⟩ := h
          rcases ite_or h with h | h
          · exact (GR.refl cs1).trans (gp_m_judgeSelect_b119 hT ih h)
          · replace h := ob h
            obtain ⟨v_102, g13, h⟩ := h
            replace h := ob h
            obtain ⟨cs_103, g14, h⟩ := h
            have q15 : GR cs1 cs_103 := (GR.refl cs1).trans (gp_m_tell g14)
            exact (q15).trans (gp_m_judgeSelect_b119 hT ih h)
theorem gp_b_judgeSelect {F : Nat} {T : TG_judgeQuery} {cs : RS} {x1 : Int32} {cs9 : RS} (hT : GPT_TG_judgeQuery T) (h : b_judgeSelect F T cs x1 = some cs9) : GR cs cs9 := by
  unfold b_judgeSelect at h
  exact (GR.refl cs).trans (gp_m_judgeSelect_L4 hT _ _ _ _ _ _ h)
theorem gp_tab_judgeQuery (F : Nat) : ∀ n, GPT_TG_judgeQuery (tab_judgeQuery F n)
  | 0 => ⟨fun _ _ _ h => (by cases (show (none : Option RS) = _ from h)), fun _ _ _ h => (by cases (show (none : Option RS) = _ from h))⟩
  | n + 1 => ⟨fun _ _ _ h => gp_b_judgeQuery (gp_tab_judgeQuery F n) h, fun _ _ _ h => gp_b_judgeSelect (gp_tab_judgeQuery F n) h⟩
theorem gp_m_judgeQuery {F n : Nat} {cs : RS} {x1 : Int32} {cs9 : RS} (h : m_judgeQuery F n cs x1 = some cs9) : GR cs cs9 := (gp_tab_judgeQuery F n).1 _ _ _ h

/-! counts and lists that a step leaves alone -/
def E7 (a b : RS) : Prop := (b.1 34 = a.1 34 ∧ b.1 59 = a.1 59 ∧ b.1 69 = a.1 69) ∧ b.2.2.1 37 = a.2.2.1 37 ∧ b.2.2.1 49 = a.2.2.1 49 ∧ b.2.2.1 53 = a.2.2.1 53 ∧ b.2.2.1 60 = a.2.2.1 60 ∧ b.2.2.1 61 = a.2.2.1 61
theorem E7.refl (a : RS) : E7 a a := ⟨⟨rfl, rfl, rfl⟩, rfl, rfl, rfl, rfl, rfl⟩
theorem E7.trans {a b c : RS} (h : E7 a b) (g : E7 b c) : E7 a c := ⟨⟨g.1.1.trans h.1.1, g.1.2.1.trans h.1.2.1, g.1.2.2.trans h.1.2.2⟩, g.2.1.trans h.2.1, g.2.2.1.trans h.2.2.1, g.2.2.2.1.trans h.2.2.2.1, g.2.2.2.2.1.trans h.2.2.2.2.1, g.2.2.2.2.2.trans h.2.2.2.2.2⟩
theorem E7.to {a b d : RS} (h : E7 a b) (e : b = d) : E7 a d := e ▸ h
theorem E7.fr {S : Nat → Prop} {a b : RS} (h : FR S a b) (n : ∀ k, k = 34 ∨ k = 59 ∨ k = 69 ∨ k = 37 ∨ k = 49 ∨ k = 53 ∨ k = 60 ∨ k = 61 → ¬ S k) : E7 a b := ⟨⟨h.f (n 34 (by omega)), h.f (n 59 (by omega)), h.f (n 69 (by omega))⟩, h.a (n 37 (by omega)), h.a (n 49 (by omega)), h.a (n 53 (by omega)), h.a (n 60 (by omega)), h.a (n 61 (by omega))⟩
theorem E7.fe {a b : RS} (h : FR exR a b) : E7 a b := E7.fr h (fun k hk w => by unfold exR at w; omega)
theorem E7.setF {a : RS} {k : Nat} {v : Int32} (h : k ≠ 34 ∧ k ≠ 59 ∧ k ≠ 69) : E7 a (setF a k v) := ⟨⟨sF_n (by omega), sF_n (by omega), sF_n (by omega)⟩, rfl, rfl, rfl, rfl, rfl⟩
theorem E7.setI {a : RS} {k i : Nat} {v : Int32} (h : k ≠ 37 ∧ k ≠ 49 ∧ k ≠ 53 ∧ k ≠ 60 ∧ k ≠ 61) : E7 a (setI a k i v) := ⟨⟨rfl, rfl, rfl⟩, (FR.setI (S := fun q => q = k) rfl).a (by omega), (FR.setI (S := fun q => q = k) rfl).a (by omega), (FR.setI (S := fun q => q = k) rfl).a (by omega), (FR.setI (S := fun q => q = k) rfl).a (by omega), (FR.setI (S := fun q => q = k) rfl).a (by omega)⟩
theorem E7.setL {a : RS} {k i : Nat} {v : Int64} : E7 a (setL a k i v) := ⟨⟨rfl, rfl, rfl⟩, rfl, rfl, rfl, rfl, rfl⟩
theorem e7_I {cs cs1 : RS} {k n : Nat} {i v : Int32} (hk : k ≠ 37 ∧ k ≠ 49 ∧ k ≠ 53 ∧ k ≠ 60 ∧ k ≠ 61) (h : wrI cs k n i v = some cs1) : E7 cs cs1 := (E7.setI hk).to (wrI_some h).2
theorem e7_L {cs cs1 : RS} {k n : Nat} {i : Int32} {v : Int64} (h : wrL cs k n i v = some cs1) : E7 cs cs1 := E7.setL.to (wrL_some h).2
theorem E7.f7 {a b c : RS} {P : Prop} (h : E7 a b) (g : E7 b c ∧ P) : E7 a c ∧ P := ⟨h.trans g.1, g.2⟩
theorem E7.r7 {a b : RS} {P : RS → Prop} (h : E7 a b) (g : ∃ r2, E7 b r2 ∧ P r2) : ∃ r2, E7 a r2 ∧ P r2 := by
  obtain ⟨r2, g1, g2⟩ := g
  exact ⟨r2, h.trans g1, g2⟩
theorem rz_m_selectOf_b345 {F : Nat} {T : TG_queryOf} {rc133 : RS → Int32 → Int32 → Int32 → Option (RS × Int32)} {cs1 : RS} {u1 : Int32} {u2 : Int32} {cs9 : RS} {r9 : Int32} (hrc133 : ∀ (cs1 : RS) (a1 : Int32) (a2 : Int32) (a3 : Int32) (cs9 : RS) (r9 : Int32), rc133 cs1 a1 a2 a3 = some (cs9, r9) → ∃ r2, E7 cs1 r2 ∧ m_selectOf_b356 F T r2 a1 a2 = some (cs9, r9)) (h : m_selectOf_b345 F T rc133 cs1 u1 u2 = some (cs9, r9)) : ∃ r2, E7 cs1 r2 ∧ m_selectOf_b356 F T r2 u1 u2 = some (cs9, r9) := by
  unfold m_selectOf_b345 at h
  replace h := ob h
  obtain ⟨z_52, g1, h⟩ := h
  have q2 : E7 cs1 z_52.1 := (E7.refl cs1).trans (E7.fe <| fe_m_takeSign g1)
  exact (q2).r7 (hrc133 _ _ _ _ _ _ h)
theorem rz_m_selectOf_b300 {F : Nat} {T : TG_queryOf} {rc133 : RS → Int32 → Int32 → Int32 → Option (RS × Int32)} {cs1 : RS} {u1 : Int32} {u2 : Int32} {u5 : Int32} {u7 : Int32} {u8 : Int32} {cs9 : RS} {r9 : Int32} (hrc133 : ∀ (cs1 : RS) (a1 : Int32) (a2 : Int32) (a3 : Int32) (cs9 : RS) (r9 : Int32), rc133 cs1 a1 a2 a3 = some (cs9, r9) → ∃ r2, E7 cs1 r2 ∧ m_selectOf_b356 F T r2 a1 a2 = some (cs9, r9)) (h : m_selectOf_b300 F T rc133 cs1 u1 u2 u5 u7 u8 = some (cs9, r9)) : ∃ r2, E7 cs1 r2 ∧ m_selectOf_b356 F T r2 u1 u2 = some (cs9, r9) := by
  unfold m_selectOf_b300 at h
  rcases ite_or h with h | h
  · exact (E7.refl cs1).r7 (rz_m_selectOf_b345 hrc133 h)
  · replace h := ob h
    obtain ⟨cs_54, g1, h⟩ := h
    have q2 : E7 cs1 cs_54 := (E7.refl cs1).trans (e7_I (by omega) g1)
    replace h := ob h
    obtain ⟨cs_55, g3, h⟩ := h
    have q4 : E7 cs1 cs_55 := (q2).trans (e7_I (by omega) g3)
    replace h := ob h
    obtain ⟨v_56, g5, h⟩ := h
    replace h := ob h
    obtain ⟨cs_57, g6, h⟩ := h
    have q7 : E7 cs1 cs_57 := (q4).trans (e7_I (by omega) g6)
    exact (q7).r7 (rz_m_selectOf_b345 hrc133 h)
theorem rz_m_selectOf_b282 {F : Nat} {T : TG_queryOf} {rc133 : RS → Int32 → Int32 → Int32 → Option (RS × Int32)} {cs1 : RS} {u1 : Int32} {u2 : Int32} {u5 : Int32} {u7 : Int32} {y0 : Int32} {cs9 : RS} {r9 : Int32} (hrc133 : ∀ (cs1 : RS) (a1 : Int32) (a2 : Int32) (a3 : Int32) (cs9 : RS) (r9 : Int32), rc133 cs1 a1 a2 a3 = some (cs9, r9) → ∃ r2, E7 cs1 r2 ∧ m_selectOf_b356 F T r2 a1 a2 = some (cs9, r9)) (h : m_selectOf_b282 F T rc133 cs1 u1 u2 u5 u7 y0 = some (cs9, r9)) : ∃ r2, E7 cs1 r2 ∧ m_selectOf_b356 F T r2 u1 u2 = some (cs9, r9) := by
  unfold m_selectOf_b282 at h
  replace h := ob h
  obtain ⟨z_58, g1, h⟩ := h
  have q2 : E7 cs1 z_58.1 := (E7.refl cs1).trans (E7.fe <| fe_m_takeWord g1)
  rcases ite_or h with h | h
  · exact (q2).r7 (rz_m_selectOf_b300 hrc133 h)
  · replace h := ob h
    obtain ⟨z_60, g3, h⟩ := h
    have q4 : E7 cs1 z_60.1 := (q2).trans (E7.fe <| fe_m_name g3)
    exact (q4).r7 (rz_m_selectOf_b300 hrc133 h)
theorem rz_m_selectOf_b281 {F : Nat} {T : TG_queryOf} {rc133 : RS → Int32 → Int32 → Int32 → Option (RS × Int32)} {cs1 : RS} {u1 : Int32} {u2 : Int32} {u5 : Int32} {u7 : Int32} {cs9 : RS} {r9 : Int32} (hrc133 : ∀ (cs1 : RS) (a1 : Int32) (a2 : Int32) (a3 : Int32) (cs9 : RS) (r9 : Int32), rc133 cs1 a1 a2 a3 = some (cs9, r9) → ∃ r2, E7 cs1 r2 ∧ m_selectOf_b356 F T r2 a1 a2 = some (cs9, r9)) (h : m_selectOf_b281 F T rc133 cs1 u1 u2 u5 u7 = some (cs9, r9)) : ∃ r2, E7 cs1 r2 ∧ m_selectOf_b356 F T r2 u1 u2 = some (cs9, r9) := by
  unfold m_selectOf_b281 at h
  exact (E7.refl cs1).r7 (rz_m_selectOf_b282 hrc133 h)
theorem rz_m_selectOf_b246 {F : Nat} {T : TG_queryOf} {rc133 : RS → Int32 → Int32 → Int32 → Option (RS × Int32)} {cs1 : RS} {u1 : Int32} {u2 : Int32} {u5 : Int32} {u7 : Int32} {y0 : Int32} {y1 : Int32} {y2 : Int32} {cs9 : RS} {r9 : Int32} (hrc133 : ∀ (cs1 : RS) (a1 : Int32) (a2 : Int32) (a3 : Int32) (cs9 : RS) (r9 : Int32), rc133 cs1 a1 a2 a3 = some (cs9, r9) → ∃ r2, E7 cs1 r2 ∧ m_selectOf_b356 F T r2 a1 a2 = some (cs9, r9)) (h : m_selectOf_b246 F T rc133 cs1 u1 u2 u5 u7 y0 y1 y2 = some (cs9, r9)) : ∃ r2, E7 cs1 r2 ∧ m_selectOf_b356 F T r2 u1 u2 = some (cs9, r9) := by
  unfold m_selectOf_b246 at h
  rcases ite_or h with h | h
  · replace h := ob h
    obtain ⟨v_62, g1, h⟩ := h
    rcases ite_or h with h | h
    · replace h := ob h
      obtain ⟨v_65, g2, h⟩ := h
      exact (E7.refl cs1).r7 (rz_m_selectOf_b282 hrc133 h)
    · replace h := ob h
      obtain ⟨v_64, g3, h⟩ := h
      exact (E7.refl cs1).r7 (rz_m_selectOf_b282 hrc133 h)
  · exact (E7.refl cs1).r7 (rz_m_selectOf_b281 hrc133 h)
theorem rz_m_selectOf_b204 {F : Nat} {T : TG_queryOf} {rc133 : RS → Int32 → Int32 → Int32 → Option (RS × Int32)} {cs1 : RS} {u1 : Int32} {u2 : Int32} {u5 : Int32} {u6 : Int32} {y0 : Int32} {cs9 : RS} {r9 : Int32} (hrc133 : ∀ (cs1 : RS) (a1 : Int32) (a2 : Int32) (a3 : Int32) (cs9 : RS) (r9 : Int32), rc133 cs1 a1 a2 a3 = some (cs9, r9) → ∃ r2, E7 cs1 r2 ∧ m_selectOf_b356 F T r2 a1 a2 = some (cs9, r9)) (h : m_selectOf_b204 F T rc133 cs1 u1 u2 u5 u6 y0 = some (cs9, r9)) : ∃ r2, E7 cs1 r2 ∧ m_selectOf_b356 F T r2 u1 u2 = some (cs9, r9) := by
  unfold m_selectOf_b204 at h
  rcases ite_or h with h | h
  · exact (E7.refl cs1).r7 (rz_m_selectOf_b281 hrc133 h)
  · replace h := ob h
    obtain ⟨v_67, g1, h⟩ := h
    rcases ite_or h with h | h
    · replace h := ob h
      obtain ⟨v_69, g2, h⟩ := h
      rcases ite_or h with h | h
      · exact (E7.refl cs1).r7 (rz_m_selectOf_b246 hrc133 h)
      · exact (E7.refl cs1).r7 (rz_m_selectOf_b246 hrc133 h)
    · exact (E7.refl cs1).r7 (rz_m_selectOf_b281 hrc133 h)
theorem rz_m_selectOf_b183 {F : Nat} {T : TG_queryOf} {rc133 : RS → Int32 → Int32 → Int32 → Option (RS × Int32)} {cs1 : RS} {u1 : Int32} {u2 : Int32} {u5 : Int32} {cs9 : RS} {r9 : Int32} (hrc133 : ∀ (cs1 : RS) (a1 : Int32) (a2 : Int32) (a3 : Int32) (cs9 : RS) (r9 : Int32), rc133 cs1 a1 a2 a3 = some (cs9, r9) → ∃ r2, E7 cs1 r2 ∧ m_selectOf_b356 F T r2 a1 a2 = some (cs9, r9)) (h : m_selectOf_b183 F T rc133 cs1 u1 u2 u5 = some (cs9, r9)) : ∃ r2, E7 cs1 r2 ∧ m_selectOf_b356 F T r2 u1 u2 = some (cs9, r9) := by
  unfold m_selectOf_b183 at h
  rcases ite_or h with h | h
  · exact (E7.refl cs1).r7 (rz_m_selectOf_b204 hrc133 h)
  · replace h := ob h
    obtain ⟨z_72, g1, h⟩ := h
    have q2 : E7 cs1 z_72.1 := (E7.refl cs1).trans (E7.fe <| fe_m_expr g1)
    exact (q2).r7 (rz_m_selectOf_b204 hrc133 h)
theorem rz_m_selectOf_L133 {F : Nat} {T : TG_queryOf} : ∀ (lf : Nat) (cs1 : RS) (u1 : Int32) (u2 : Int32) (u4 : Int32) (cs9 : RS) (r9 : Int32), m_selectOf_L133 F T lf cs1 u1 u2 u4 = some (cs9, r9) → ∃ r2, E7 cs1 r2 ∧ m_selectOf_b356 F T r2 u1 u2 = some (cs9, r9) := by
  intro lf
  induction lf with
  | zero => intro cs1 u1 u2 u4 cs9 r9 h; cases (show (none : Option (RS × Int32)) = _ from h)
  | succ lf ih =>
    intro cs1 u1 u2 u4 cs9 r9 h
    rw [m_selectOf_L133] at h
    rcases ite_or h with h | h
    · exact ⟨_, E7.refl cs1, h⟩
    · rcases ite_or h with h | h
      · exact ⟨_, E7.refl cs1, h⟩
      · replace h := ob h
        obtain ⟨v_75, g1, h⟩ := h
        rcases ite_or h with h | h
        · replace h := ob h
          obtain ⟨v_77, g2, h⟩ := h
          rcases ite_or h with h | h
          · exact (E7.refl cs1).r7 (rz_m_selectOf_b183 ih h)
          · replace h := ob h
            obtain ⟨v_79, g3, h⟩ := h
            replace h := ob h
            obtain ⟨cs_80, g4, h⟩ := h
            have q5 : E7 cs1 cs_80 := (E7.refl cs1).trans (E7.fe <| fe_m_tell g4)
            exact (q5).r7 (rz_m_selectOf_b183 ih h)
        · exact (E7.refl cs1).r7 (rz_m_selectOf_b183 ih h)
theorem rz_m_selectOf_b116 {F : Nat} {T : TG_queryOf} {cs1 : RS} {u1 : Int32} {u2 : Int32} {y0 : Int32} {y1 : Int32} {cs9 : RS} {r9 : Int32} (h : m_selectOf_b116 F T cs1 u1 u2 y0 y1 = some (cs9, r9)) : ∃ r2, E7 cs1 r2 ∧ m_selectOf_b356 F T r2 u1 u2 = some (cs9, r9) := by
  unfold m_selectOf_b116 at h
  replace h := ob h
  obtain ⟨cs_81, g1, h⟩ := h
  have q2 : E7 cs1 cs_81 := (E7.refl cs1).trans (e7_I (by omega) g1)
  replace h := ob h
  obtain ⟨z_82, g3, h⟩ := h
  have q4 : E7 cs1 z_82.1 := (q2).trans (E7.fe <| fe_m_takeWord g3)
  exact ((q4).trans (E7.setF (by omega))).r7 (rz_m_selectOf_L133 _ _ _ _ _ _ _ h)
theorem rz_m_selectOf_b777 {F : Nat} {T : TG_queryOf} {cs1 : RS} {u1 : Int32} {u2 : Int32} {cs9 : RS} {r9 : Int32} (h : m_selectOf_b777 F T cs1 u1 u2 = some (cs9, r9)) : E7 cs1 cs9 ∧ r9 = u1 := by
  unfold m_selectOf_b777 at h
  exact ⟨((E7.refl cs1).trans (E7.setF (by omega))).to (Prod.mk.inj (Option.some.inj h)).1, (Prod.mk.inj (Option.some.inj h)).2.symm⟩
theorem rz_m_selectOf_b771 {F : Nat} {T : TG_queryOf} {cs1 : RS} {u1 : Int32} {u2 : Int32} {y0 : Int32} {y1 : Int32} {cs9 : RS} {r9 : Int32} (h : m_selectOf_b771 F T cs1 u1 u2 y0 y1 = some (cs9, r9)) : E7 cs1 cs9 ∧ r9 = u1 := by
  unfold m_selectOf_b771 at h
  replace h := ob h
  obtain ⟨cs_1, g1, h⟩ := h
  have q2 : E7 cs1 cs_1 := (E7.refl cs1).trans (e7_I (by omega) g1)
  exact ((q2).trans (E7.setF (by omega))).f7 (rz_m_selectOf_b777 h)
theorem rz_m_selectOf_b736 {F : Nat} {T : TG_queryOf} {cs1 : RS} {u1 : Int32} {u2 : Int32} {cs9 : RS} {r9 : Int32} (h : m_selectOf_b736 F T cs1 u1 u2 = some (cs9, r9)) : E7 cs1 cs9 ∧ r9 = u1 := by
  unfold m_selectOf_b736 at h
  replace h := ob h
  obtain ⟨z_2, g1, h⟩ := h
  have q2 : E7 cs1 z_2.1 := (E7.refl cs1).trans (E7.fe <| fe_m_takeWord g1)
  rcases ite_or h with h | h
  · exact (q2).f7 (rz_m_selectOf_b777 h)
  · rcases ite_or h with h | h
    · exact ((q2).trans (E7.setF (by omega))).f7 (rz_m_selectOf_b771 h)
    · replace h := ob h
      obtain ⟨z_5, g3, h⟩ := h
      have q4 : E7 cs1 z_5.1 := ((q2).trans (E7.setF (by omega))).trans (E7.fe <| fe_m_expr g3)
      exact (q4).f7 (rz_m_selectOf_b771 h)
theorem rz_m_selectOf_b725 {F : Nat} {T : TG_queryOf} {rc589 : RS → Int32 → Int32 → Int32 → Option (RS × Int32)} {cs1 : RS} {u1 : Int32} {u2 : Int32} {cs9 : RS} {r9 : Int32} (hrc589 : ∀ (cs1 : RS) (a1 : Int32) (a2 : Int32) (a3 : Int32) (cs9 : RS) (r9 : Int32), rc589 cs1 a1 a2 a3 = some (cs9, r9) → E7 cs1 cs9 ∧ r9 = a1) (h : m_selectOf_b725 F T rc589 cs1 u1 u2 = some (cs9, r9)) : E7 cs1 cs9 ∧ r9 = u1 := by
  unfold m_selectOf_b725 at h
  replace h := ob h
  obtain ⟨z_6, g1, h⟩ := h
  have q2 : E7 cs1 z_6.1 := (E7.refl cs1).trans (E7.fe <| fe_m_takeSign g1)
  exact (q2).f7 (hrc589 _ _ _ _ _ _ h)
theorem rz_m_selectOf_b678 {F : Nat} {T : TG_queryOf} {rc589 : RS → Int32 → Int32 → Int32 → Option (RS × Int32)} {cs1 : RS} {u1 : Int32} {u2 : Int32} {u5 : Int32} {u6 : Int32} {y0 : Int32} {cs9 : RS} {r9 : Int32} (hrc589 : ∀ (cs1 : RS) (a1 : Int32) (a2 : Int32) (a3 : Int32) (cs9 : RS) (r9 : Int32), rc589 cs1 a1 a2 a3 = some (cs9, r9) → E7 cs1 cs9 ∧ r9 = a1) (h : m_selectOf_b678 F T rc589 cs1 u1 u2 u5 u6 y0 = some (cs9, r9)) : E7 cs1 cs9 ∧ r9 = u1 := by
  unfold m_selectOf_b678 at h
  rcases ite_or h with h | h
  · exact (E7.refl cs1).f7 (rz_m_selectOf_b725 hrc589 h)
  · replace h := ob h
    obtain ⟨cs_8, g1, h⟩ := h
    have q2 : E7 cs1 cs_8 := (E7.refl cs1).trans (e7_I (by omega) g1)
    replace h := ob h
    obtain ⟨cs_9, g3, h⟩ := h
    have q4 : E7 cs1 cs_9 := (q2).trans (e7_I (by omega) g3)
    replace h := ob h
    obtain ⟨v_10, g5, h⟩ := h
    replace h := ob h
    obtain ⟨cs_11, g6, h⟩ := h
    have q7 : E7 cs1 cs_11 := (q4).trans (e7_I (by omega) g6)
    exact (q7).f7 (rz_m_selectOf_b725 hrc589 h)
theorem rz_m_selectOf_b654 {F : Nat} {T : TG_queryOf} {rc589 : RS → Int32 → Int32 → Int32 → Option (RS × Int32)} {cs1 : RS} {u1 : Int32} {u2 : Int32} {u5 : Int32} {y0 : Int32} {cs9 : RS} {r9 : Int32} (hrc589 : ∀ (cs1 : RS) (a1 : Int32) (a2 : Int32) (a3 : Int32) (cs9 : RS) (r9 : Int32), rc589 cs1 a1 a2 a3 = some (cs9, r9) → E7 cs1 cs9 ∧ r9 = a1) (h : m_selectOf_b654 F T rc589 cs1 u1 u2 u5 y0 = some (cs9, r9)) : E7 cs1 cs9 ∧ r9 = u1 := by
  unfold m_selectOf_b654 at h
  replace h := ob h
  obtain ⟨cs_12, g1, h⟩ := h
  have q2 : E7 cs1 cs_12 := (E7.refl cs1).trans (E7.fe <| fe_m_needWord g1)
  rcases ite_or h with h | h
  · exact (q2).f7 (rz_m_selectOf_b678 hrc589 h)
  · replace h := ob h
    obtain ⟨z_14, g3, h⟩ := h
    have q4 : E7 cs1 z_14.1 := (q2).trans (E7.fe <| fe_m_name g3)
    exact (q4).f7 (rz_m_selectOf_b678 hrc589 h)
theorem rz_m_selectOf_b639 {F : Nat} {T : TG_queryOf} {rc589 : RS → Int32 → Int32 → Int32 → Option (RS × Int32)} {cs1 : RS} {u1 : Int32} {u2 : Int32} {u5 : Int32} {cs9 : RS} {r9 : Int32} (hrc589 : ∀ (cs1 : RS) (a1 : Int32) (a2 : Int32) (a3 : Int32) (cs9 : RS) (r9 : Int32), rc589 cs1 a1 a2 a3 = some (cs9, r9) → E7 cs1 cs9 ∧ r9 = a1) (h : m_selectOf_b639 F T rc589 cs1 u1 u2 u5 = some (cs9, r9)) : E7 cs1 cs9 ∧ r9 = u1 := by
  unfold m_selectOf_b639 at h
  rcases ite_or h with h | h
  · exact (E7.refl cs1).f7 (rz_m_selectOf_b654 hrc589 h)
  · replace h := ob h
    obtain ⟨z_16, g1, h⟩ := h
    have q2 : E7 cs1 z_16.1 := (E7.refl cs1).trans (E7.fe <| fe_m_expr g1)
    exact (q2).f7 (rz_m_selectOf_b654 hrc589 h)
theorem rz_m_selectOf_L589 {F : Nat} {T : TG_queryOf} : ∀ (lf : Nat) (cs1 : RS) (u1 : Int32) (u2 : Int32) (u4 : Int32) (cs9 : RS) (r9 : Int32), m_selectOf_L589 F T lf cs1 u1 u2 u4 = some (cs9, r9) → E7 cs1 cs9 ∧ r9 = u1 := by
  intro lf
  induction lf with
  | zero => intro cs1 u1 u2 u4 cs9 r9 h; cases (show (none : Option (RS × Int32)) = _ from h)
  | succ lf ih =>
    intro cs1 u1 u2 u4 cs9 r9 h
    rw [m_selectOf_L589] at h
    rcases ite_or h with h | h
    · exact (E7.refl cs1).f7 (rz_m_selectOf_b736 h)
    · rcases ite_or h with h | h
      · exact (E7.refl cs1).f7 (rz_m_selectOf_b736 h)
      · replace h := ob h
        obtain ⟨v_19, g1, h⟩ := h
        rcases ite_or h with h | h
        · replace h := ob h
          obtain ⟨v_21, g2, h⟩ := h
          rcases ite_or h with h | h
          · exact (E7.refl cs1).f7 (rz_m_selectOf_b639 ih h)
          · replace h := ob h
            obtain ⟨v_23, g3, h⟩ := h
            replace h := ob h
            obtain ⟨cs_24, g4, h⟩ := h
            have q5 : E7 cs1 cs_24 := (E7.refl cs1).trans (E7.fe <| fe_m_tell g4)
            exact (q5).f7 (rz_m_selectOf_b639 ih h)
        · exact (E7.refl cs1).f7 (rz_m_selectOf_b639 ih h)
theorem rz_m_selectOf_b544 {F : Nat} {T : TG_queryOf} {cs1 : RS} {u1 : Int32} {u2 : Int32} {cs9 : RS} {r9 : Int32} (h : m_selectOf_b544 F T cs1 u1 u2 = some (cs9, r9)) : E7 cs1 cs9 ∧ r9 = u1 := by
  unfold m_selectOf_b544 at h
  replace h := ob h
  obtain ⟨v_25, g1, h⟩ := h
  rcases ite_or h with h | h
  · exact (E7.refl cs1).f7 (rz_m_selectOf_b736 h)
  · replace h := ob h
    obtain ⟨v_27, g2, h⟩ := h
    replace h := ob h
    obtain ⟨cs_28, g3, h⟩ := h
    have q4 : E7 cs1 cs_28 := (E7.refl cs1).trans (e7_I (by omega) g3)
    replace h := ob h
    obtain ⟨cs_29, g5, h⟩ := h
    have q6 : E7 cs1 cs_29 := ((q4).trans (E7.setF (by omega))).trans (E7.fe <| fe_m_needWord g5)
    exact (q6).f7 (rz_m_selectOf_L589 _ _ _ _ _ _ _ h)
theorem rz_m_selectOf_b543 {F : Nat} {T : TG_queryOf} {cs1 : RS} {u1 : Int32} {u2 : Int32} {y0 : Int32} {y1 : Int32} {cs9 : RS} {r9 : Int32} (h : m_selectOf_b543 F T cs1 u1 u2 y0 y1 = some (cs9, r9)) : E7 cs1 cs9 ∧ r9 = u1 := by
  unfold m_selectOf_b543 at h
  replace h := ob h
  obtain ⟨cs_30, g1, h⟩ := h
  have q2 : E7 cs1 cs_30 := (E7.refl cs1).trans (e7_I (by omega) g1)
  exact (q2).f7 (rz_m_selectOf_b544 h)
theorem rz_m_selectOf_b503 {F : Nat} {T : TG_queryOf} {cs1 : RS} {u1 : Int32} {u2 : Int32} {cs9 : RS} {r9 : Int32} (h : m_selectOf_b503 F T cs1 u1 u2 = some (cs9, r9)) : E7 cs1 cs9 ∧ r9 = u1 := by
  unfold m_selectOf_b503 at h
  replace h := ob h
  obtain ⟨z_31, g1, h⟩ := h
  have q2 : E7 cs1 z_31.1 := (((E7.refl cs1).trans (E7.setF (by omega))).trans (E7.setF (by omega))).trans (E7.fe <| fe_m_takeWord g1)
  rcases ite_or h with h | h
  · exact (q2).f7 (rz_m_selectOf_b544 h)
  · rcases ite_or h with h | h
    · exact (q2).f7 (rz_m_selectOf_b543 h)
    · replace h := ob h
      obtain ⟨z_34, g3, h⟩ := h
      have q4 : E7 cs1 z_34.1 := (q2).trans (E7.fe <| fe_m_expr g3)
      exact (q4).f7 (rz_m_selectOf_b543 h)
theorem rz_m_queryOf_b456 {F : Nat} {T : TG_queryOf} {cs1 : RS} {u1 : Int32} {cs9 : RS} {r9 : Int32} (h : m_queryOf_b456 F T cs1 u1 = some (cs9, r9)) : E7 cs1 cs9 ∧ r9 = u1 := by
  unfold m_queryOf_b456 at h
  exact ⟨(E7.refl cs1).to (Prod.mk.inj (Option.some.inj h)).1, (Prod.mk.inj (Option.some.inj h)).2.symm⟩
theorem rz_m_queryOf_b423 {F : Nat} {T : TG_queryOf} {cs1 : RS} {u1 : Int32} {cs9 : RS} {r9 : Int32} (h : m_queryOf_b423 F T cs1 u1 = some (cs9, r9)) : E7 cs1 cs9 ∧ r9 = u1 := by
  unfold m_queryOf_b423 at h
  rcases ite_or h with h | h
  · exact (E7.refl cs1).f7 (rz_m_queryOf_b456 h)
  · replace h := ob h
    obtain ⟨v_2, g1, h⟩ := h
    replace h := ob h
    obtain ⟨cs_3, g2, h⟩ := h
    have q3 : E7 cs1 cs_3 := (E7.refl cs1).trans (e7_I (by omega) g2)
    exact ((q3).trans (E7.setF (by omega))).f7 (rz_m_queryOf_b456 h)
theorem rz_m_queryOf_b419 {F : Nat} {T : TG_queryOf} {cs1 : RS} {u1 : Int32} {cs9 : RS} {r9 : Int32} (h : m_queryOf_b419 F T cs1 u1 = some (cs9, r9)) : E7 cs1 cs9 ∧ r9 = u1 := by
  unfold m_queryOf_b419 at h
  replace h := ob h
  obtain ⟨cs_4, g1, h⟩ := h
  have q2 : E7 cs1 cs_4 := (E7.refl cs1).trans (E7.fe <| fe_m_wrong g1)
  exact (q2).f7 (rz_m_queryOf_b423 h)
theorem rz_m_queryOf_b376 {F : Nat} {T : TG_queryOf} {cs1 : RS} {u1 : Int32} {cs9 : RS} {r9 : Int32} (h : m_queryOf_b376 F T cs1 u1 = some (cs9, r9)) : E7 cs1 cs9 ∧ r9 = u1 := by
  unfold m_queryOf_b376 at h
  replace h := ob h
  obtain ⟨cs_5, g1, h⟩ := h
  have q2 : E7 cs1 cs_5 := (E7.refl cs1).trans (E7.fe <| fe_m_needWord g1)
  rcases ite_or h with h | h
  · exact (q2).f7 (rz_m_queryOf_b423 h)
  · replace h := ob h
    obtain ⟨v_7, g3, h⟩ := h
    rcases ite_or h with h | h
    · replace h := ob h
      obtain ⟨v_9, g4, h⟩ := h
      rcases ite_or h with h | h
      · exact (q2).f7 (rz_m_queryOf_b423 h)
      · exact (q2).f7 (rz_m_queryOf_b419 h)
    · exact (q2).f7 (rz_m_queryOf_b419 h)
theorem rz_m_queryOf_b366 {F : Nat} {T : TG_queryOf} {rc246 : RS → Int32 → Int32 → Option (RS × Int32)} {cs1 : RS} {u1 : Int32} {cs9 : RS} {r9 : Int32} (hrc246 : ∀ (cs1 : RS) (a1 : Int32) (a2 : Int32) (cs9 : RS) (r9 : Int32), rc246 cs1 a1 a2 = some (cs9, r9) → E7 cs1 cs9 ∧ r9 = a1) (h : m_queryOf_b366 F T rc246 cs1 u1 = some (cs9, r9)) : E7 cs1 cs9 ∧ r9 = u1 := by
  unfold m_queryOf_b366 at h
  replace h := ob h
  obtain ⟨z_11, g1, h⟩ := h
  have q2 : E7 cs1 z_11.1 := (E7.refl cs1).trans (E7.fe <| fe_m_takeSign g1)
  exact (q2).f7 (hrc246 _ _ _ _ _ h)
theorem rz_m_queryOf_b310 {F : Nat} {T : TG_queryOf} {rc246 : RS → Int32 → Int32 → Option (RS × Int32)} {cs1 : RS} {u1 : Int32} {u5 : Int32} {y0 : Int32} {cs9 : RS} {r9 : Int32} (hrc246 : ∀ (cs1 : RS) (a1 : Int32) (a2 : Int32) (cs9 : RS) (r9 : Int32), rc246 cs1 a1 a2 = some (cs9, r9) → E7 cs1 cs9 ∧ r9 = a1) (h : m_queryOf_b310 F T rc246 cs1 u1 u5 y0 = some (cs9, r9)) : E7 cs1 cs9 ∧ r9 = u1 := by
  unfold m_queryOf_b310 at h
  replace h := ob h
  obtain ⟨z_12, g1, h⟩ := h
  have q2 : E7 cs1 z_12.1 := (E7.refl cs1).trans (E7.fe <| fe_m_takeWord g1)
  rcases ite_or h with h | h
  · exact (q2).f7 (rz_m_queryOf_b366 hrc246 h)
  · replace h := ob h
    obtain ⟨cs_14, g3, h⟩ := h
    have q4 : E7 cs1 cs_14 := (q2).trans (e7_I (by omega) g3)
    replace h := ob h
    obtain ⟨cs_15, g5, h⟩ := h
    have q6 : E7 cs1 cs_15 := (q4).trans (e7_I (by omega) g5)
    replace h := ob h
    obtain ⟨v_16, g7, h⟩ := h
    replace h := ob h
    obtain ⟨cs_17, g8, h⟩ := h
    have q9 : E7 cs1 cs_17 := (q6).trans (e7_I (by omega) g8)
    exact (q9).f7 (rz_m_queryOf_b366 hrc246 h)
theorem rz_m_queryOf_b295 {F : Nat} {T : TG_queryOf} {rc246 : RS → Int32 → Int32 → Option (RS × Int32)} {cs1 : RS} {u1 : Int32} {u5 : Int32} {cs9 : RS} {r9 : Int32} (hrc246 : ∀ (cs1 : RS) (a1 : Int32) (a2 : Int32) (cs9 : RS) (r9 : Int32), rc246 cs1 a1 a2 = some (cs9, r9) → E7 cs1 cs9 ∧ r9 = a1) (h : m_queryOf_b295 F T rc246 cs1 u1 u5 = some (cs9, r9)) : E7 cs1 cs9 ∧ r9 = u1 := by
  unfold m_queryOf_b295 at h
  rcases ite_or h with h | h
  · exact (E7.refl cs1).f7 (rz_m_queryOf_b310 hrc246 h)
  · replace h := ob h
    obtain ⟨z_19, g1, h⟩ := h
    have q2 : E7 cs1 z_19.1 := (E7.refl cs1).trans (E7.fe <| fe_m_expr g1)
    exact (q2).f7 (rz_m_queryOf_b310 hrc246 h)
theorem rz_m_queryOf_L246 {F : Nat} {T : TG_queryOf} : ∀ (lf : Nat) (cs1 : RS) (u1 : Int32) (u2 : Int32) (cs9 : RS) (r9 : Int32), m_queryOf_L246 F T lf cs1 u1 u2 = some (cs9, r9) → E7 cs1 cs9 ∧ r9 = u1 := by
  intro lf
  induction lf with
  | zero => intro cs1 u1 u2 cs9 r9 h; cases (show (none : Option (RS × Int32)) = _ from h)
  | succ lf ih =>
    intro cs1 u1 u2 cs9 r9 h
    rw [m_queryOf_L246] at h
    rcases ite_or h with h | h
    · exact (E7.refl cs1).f7 (rz_m_queryOf_b376 h)
    · rcases ite_or h with h | h
      · exact (E7.refl cs1).f7 (rz_m_queryOf_b376 h)
      · replace h := ob h
        obtain ⟨v_22, g1, h⟩ := h
        rcases ite_or h with h | h
        · replace h := ob h
          obtain ⟨v_24, g2, h⟩ := h
          rcases ite_or h with h | h
          · exact (E7.refl cs1).f7 (rz_m_queryOf_b295 ih h)
          · replace h := ob h
            obtain ⟨v_26, g3, h⟩ := h
            replace h := ob h
            obtain ⟨cs_27, g4, h⟩ := h
            have q5 : E7 cs1 cs_27 := (E7.refl cs1).trans (E7.fe <| fe_m_tell g4)
            exact (q5).f7 (rz_m_queryOf_b295 ih h)
        · exact (E7.refl cs1).f7 (rz_m_queryOf_b295 ih h)
theorem rz_m_queryOf_b197 {F : Nat} {T : TG_queryOf} {cs1 : RS} {u1 : Int32} {cs9 : RS} {r9 : Int32} (h : m_queryOf_b197 F T cs1 u1 = some (cs9, r9)) : E7 cs1 cs9 ∧ r9 = u1 := by
  unfold m_queryOf_b197 at h
  replace h := ob h
  obtain ⟨v_28, g1, h⟩ := h
  rcases ite_or h with h | h
  · exact (E7.refl cs1).f7 (rz_m_queryOf_b456 h)
  · replace h := ob h
    obtain ⟨v_30, g2, h⟩ := h
    replace h := ob h
    obtain ⟨cs_31, g3, h⟩ := h
    have q4 : E7 cs1 cs_31 := (E7.refl cs1).trans (e7_I (by omega) g3)
    replace h := ob h
    obtain ⟨cs_32, g5, h⟩ := h
    have q6 : E7 cs1 cs_32 := ((q4).trans (E7.setF (by omega))).trans (E7.fe <| fe_m_needWord g5)
    exact ((q6).trans (E7.setF (by omega))).f7 (rz_m_queryOf_L246 _ _ _ _ _ _ h)

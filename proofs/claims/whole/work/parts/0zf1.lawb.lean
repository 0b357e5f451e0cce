theorem mo_lk_0 {F : Nat} {cs cs9 : CS} {rs rs9 : RS} {x1 x2 x3 x4 x5 : Int32} (hf : lk_0 F cs rs x1 x2 x3 x4 x5 = some (cs9, rs9)) : kK cs ≤ kK cs9 ∧ kM cs ≤ kM cs9 := by
  unfold lk_0 at hf
  obtain ⟨u0, e0, hf⟩ := ob hf
  obtain ⟨⟨cs1, r1⟩, e1, hf⟩ := ob hf
  obtain ⟨⟨rs1, r2⟩, e2, hf⟩ := ob hf
  have hf : (if r1 = r2 then some (cs1, rs1) else none) = some (cs9, rs9) := hf
  by_cases hq : r1 = r2
  case neg => rw [if_neg hq] at hf; cases hf
  rw [if_pos hq] at hf
  have hc9 : cs1 = cs9 := congrArg Prod.fst (Option.some.inj hf)
  subst hc9
  have h0 := mo_c_X11_feed F cs 0 x1 x2 x3 x4 x5 cs1 r1 e1
  exact ⟨Nat.le_of_eq (congrArg Prod.fst h0).symm, Nat.le_of_eq (congrArg (fun z => z.2.1) h0).symm⟩
theorem mo_lk_1 {F : Nat} {cs cs9 : CS} {rs rs9 : RS} {x1 x2 x3 x4 x5 : Int32} (hf : lk_1 F cs rs x1 x2 x3 x4 x5 = some (cs9, rs9)) : kK cs ≤ kK cs9 ∧ kM cs ≤ kM cs9 := by
  unfold lk_1 at hf
  obtain ⟨u0, e0, hf⟩ := ob hf
  obtain ⟨⟨cs1, r1⟩, e1, hf⟩ := ob hf
  obtain ⟨⟨rs1, r2⟩, e2, hf⟩ := ob hf
  have hf : (if r1 = r2 then some (cs1, rs1) else none) = some (cs9, rs9) := hf
  by_cases hq : r1 = r2
  case neg => rw [if_neg hq] at hf; cases hf
  rw [if_pos hq] at hf
  have hc9 : cs1 = cs9 := congrArg Prod.fst (Option.some.inj hf)
  subst hc9
  have h0 := mo_c_X11_cut F cs 0 x1 cs1 r1 e1
  exact ⟨Nat.le_of_eq (congrArg Prod.fst h0).symm, Nat.le_of_eq (congrArg (fun z => z.2.1) h0).symm⟩
theorem mo_lk_2 {F : Nat} {cs cs9 : CS} {rs rs9 : RS} {x1 x2 x3 x4 x5 : Int32} (hf : lk_2 F cs rs x1 x2 x3 x4 x5 = some (cs9, rs9)) : kK cs ≤ kK cs9 ∧ kM cs ≤ kM cs9 := by
  unfold lk_2 at hf
  obtain ⟨u0, e0, hf⟩ := ob hf
  obtain ⟨⟨cs1, r1⟩, e1, hf⟩ := ob hf
  obtain ⟨⟨rs1, r2⟩, e2, hf⟩ := ob hf
  have hf : (if r1 = r2 then some (cs1, rs1) else none) = some (cs9, rs9) := hf
  by_cases hq : r1 = r2
  case neg => rw [if_neg hq] at hf; cases hf
  rw [if_pos hq] at hf
  have hc9 : cs1 = cs9 := congrArg Prod.fst (Option.some.inj hf)
  subst hc9
  have h0 := mo_c_X11_stream F cs 0 x1 cs1 r1 e1
  exact ⟨Nat.le_of_eq (congrArg Prod.fst h0).symm, Nat.le_of_eq (congrArg (fun z => z.2.1) h0).symm⟩
theorem mo_lk_3 {F : Nat} {cs cs9 : CS} {rs rs9 : RS} {x1 x2 x3 x4 x5 : Int32} (hf : lk_3 F cs rs x1 x2 x3 x4 x5 = some (cs9, rs9)) : kK cs ≤ kK cs9 ∧ kM cs ≤ kM cs9 := by
  unfold lk_3 at hf
  obtain ⟨u0, e0, hf⟩ := ob hf
  obtain ⟨⟨cs1, r1⟩, e1, hf⟩ := ob hf
  obtain ⟨⟨rs1, r2⟩, e2, hf⟩ := ob hf
  have hf : (if r1 = r2 then some (cs1, rs1) else none) = some (cs9, rs9) := hf
  by_cases hq : r1 = r2
  case neg => rw [if_neg hq] at hf; cases hf
  rw [if_pos hq] at hf
  have hc9 : cs1 = cs9 := congrArg Prod.fst (Option.some.inj hf)
  subst hc9
  exact mo_c_X11_query F cs 0  cs1 r1 e1
theorem mo_lk_4 {F : Nat} {cs cs9 : CS} {rs rs9 : RS} {x1 x2 x3 x4 x5 : Int32} (hf : lk_4 F cs rs x1 x2 x3 x4 x5 = some (cs9, rs9)) : kK cs ≤ kK cs9 ∧ kM cs ≤ kM cs9 := by
  unfold lk_4 at hf
  obtain ⟨u0, e0, hf⟩ := ob hf
  obtain ⟨r1, e1, hf⟩ := ob hf
  obtain ⟨r2, e2, hf⟩ := ob hf
  have hf : (if r1 = r2 then some (cs, rs) else none) = some (cs9, rs9) := hf
  by_cases hq : r1 = r2
  case neg => rw [if_neg hq] at hf; cases hf
  rw [if_pos hq] at hf
  have hc9 : cs = cs9 := congrArg Prod.fst (Option.some.inj hf)
  subst hc9
  exact ⟨Nat.le_refl _, Nat.le_refl _⟩
theorem mo_lk_5 {F : Nat} {cs cs9 : CS} {rs rs9 : RS} {x1 x2 x3 x4 x5 : Int32} (hf : lk_5 F cs rs x1 x2 x3 x4 x5 = some (cs9, rs9)) : kK cs ≤ kK cs9 ∧ kM cs ≤ kM cs9 := by
  unfold lk_5 at hf
  obtain ⟨u0, e0, hf⟩ := ob hf
  obtain ⟨⟨cs1, r1⟩, e1, hf⟩ := ob hf
  obtain ⟨⟨rs1, r2⟩, e2, hf⟩ := ob hf
  have hf : (if r1 = r2 then some (cs1, rs1) else none) = some (cs9, rs9) := hf
  by_cases hq : r1 = r2
  case neg => rw [if_neg hq] at hf; cases hf
  rw [if_pos hq] at hf
  have hc9 : cs1 = cs9 := congrArg Prod.fst (Option.some.inj hf)
  subst hc9
  have h0 := mo_c_X11_value F cs 0 (((x1).toInt64 <<< ((32 : Int32).toInt64 &&& 63)) ||| ((x2).toInt64 &&& 4294967295)) cs1 r1 e1
  exact ⟨Nat.le_of_eq (congrArg Prod.fst h0).symm, Nat.le_of_eq (congrArg (fun z => z.2.1) h0).symm⟩
theorem mo_lk_6 {F : Nat} {cs cs9 : CS} {rs rs9 : RS} {x1 x2 x3 x4 x5 : Int32} (hf : lk_6 F cs rs x1 x2 x3 x4 x5 = some (cs9, rs9)) : kK cs ≤ kK cs9 ∧ kM cs ≤ kM cs9 := by
  unfold lk_6 at hf
  obtain ⟨u0, e0, hf⟩ := ob hf
  obtain ⟨⟨cs1, r1⟩, e1, hf⟩ := ob hf
  obtain ⟨⟨rs1, r2⟩, e2, hf⟩ := ob hf
  have hf : (if r1 = r2 then some (cs1, rs1) else none) = some (cs9, rs9) := hf
  by_cases hq : r1 = r2
  case neg => rw [if_neg hq] at hf; cases hf
  rw [if_pos hq] at hf
  have hc9 : cs1 = cs9 := congrArg Prod.fst (Option.some.inj hf)
  subst hc9
  have h0 := mo_c_X11_nothing F cs 0  cs1 r1 e1
  exact ⟨Nat.le_of_eq (congrArg Prod.fst h0).symm, Nat.le_of_eq (congrArg (fun z => z.2.1) h0).symm⟩
theorem mo_lk_7 {F : Nat} {cs cs9 : CS} {rs rs9 : RS} {x1 x2 x3 x4 x5 : Int32} (hf : lk_7 F cs rs x1 x2 x3 x4 x5 = some (cs9, rs9)) : kK cs ≤ kK cs9 ∧ kM cs ≤ kM cs9 := by
  unfold lk_7 at hf
  obtain ⟨u0, e0, hf⟩ := ob hf
  obtain ⟨⟨cs1, r1⟩, e1, hf⟩ := ob hf
  obtain ⟨⟨rs1, r2⟩, e2, hf⟩ := ob hf
  have hf : (if r1 = r2 then some (cs1, rs1) else none) = some (cs9, rs9) := hf
  by_cases hq : r1 = r2
  case neg => rw [if_neg hq] at hf; cases hf
  rw [if_pos hq] at hf
  have hc9 : cs1 = cs9 := congrArg Prod.fst (Option.some.inj hf)
  subst hc9
  exact mo_c_X11_row F cs 0 x1 (((x2).toInt64 <<< ((32 : Int32).toInt64 &&& 63)) ||| ((x3).toInt64 &&& 4294967295)) cs1 r1 e1
theorem mo_lk_8 {F : Nat} {cs cs9 : CS} {rs rs9 : RS} {x1 x2 x3 x4 x5 : Int32} (hf : lk_8 F cs rs x1 x2 x3 x4 x5 = some (cs9, rs9)) : kK cs ≤ kK cs9 ∧ kM cs ≤ kM cs9 := by
  unfold lk_8 at hf
  obtain ⟨u0, e0, hf⟩ := ob hf
  obtain ⟨⟨cs1, r1⟩, e1, hf⟩ := ob hf
  obtain ⟨⟨rs1, r2⟩, e2, hf⟩ := ob hf
  have hf : (if r1 = r2 then some (cs1, rs1) else none) = some (cs9, rs9) := hf
  by_cases hq : r1 = r2
  case neg => rw [if_neg hq] at hf; cases hf
  rw [if_pos hq] at hf
  have hc9 : cs1 = cs9 := congrArg Prod.fst (Option.some.inj hf)
  subst hc9
  exact mo_c_X11_back F cs 0 x1 x2 cs1 r1 e1
theorem mo_lk_9 {F : Nat} {cs cs9 : CS} {rs rs9 : RS} {x1 x2 x3 x4 x5 : Int32} (hf : lk_9 F cs rs x1 x2 x3 x4 x5 = some (cs9, rs9)) : kK cs ≤ kK cs9 ∧ kM cs ≤ kM cs9 := by
  unfold lk_9 at hf
  obtain ⟨u0, e0, hf⟩ := ob hf
  obtain ⟨⟨cs1, r1⟩, e1, hf⟩ := ob hf
  obtain ⟨⟨rs1, r2⟩, e2, hf⟩ := ob hf
  have hf : (if r1 = r2 then some (cs1, rs1) else none) = some (cs9, rs9) := hf
  by_cases hq : r1 = r2
  case neg => rw [if_neg hq] at hf; cases hf
  rw [if_pos hq] at hf
  have hc9 : cs1 = cs9 := congrArg Prod.fst (Option.some.inj hf)
  subst hc9
  exact mo_c_X11_watermark F cs 0 (((x1).toInt64 <<< ((32 : Int32).toInt64 &&& 63)) ||| ((x2).toInt64 &&& 4294967295)) cs1 r1 e1
theorem mo_lk_10 {F : Nat} {cs cs9 : CS} {rs rs9 : RS} {x1 x2 x3 x4 x5 : Int32} (hf : lk_10 F cs rs x1 x2 x3 x4 x5 = some (cs9, rs9)) : kK cs ≤ kK cs9 ∧ kM cs ≤ kM cs9 := by
  unfold lk_10 at hf
  obtain ⟨u0, e0, hf⟩ := ob hf
  obtain ⟨r1, e1, hf⟩ := ob hf
  obtain ⟨r2, e2, hf⟩ := ob hf
  have hf : (if r1 = r2 then some (cs, rs) else none) = some (cs9, rs9) := hf
  by_cases hq : r1 = r2
  case neg => rw [if_neg hq] at hf; cases hf
  rw [if_pos hq] at hf
  have hc9 : cs = cs9 := congrArg Prod.fst (Option.some.inj hf)
  subst hc9
  exact ⟨Nat.le_refl _, Nat.le_refl _⟩
theorem mo_lk_11 {F : Nat} {cs cs9 : CS} {rs rs9 : RS} {x1 x2 x3 x4 x5 : Int32} (hf : lk_11 F cs rs x1 x2 x3 x4 x5 = some (cs9, rs9)) : kK cs ≤ kK cs9 ∧ kM cs ≤ kM cs9 := by
  unfold lk_11 at hf
  obtain ⟨u0, e0, hf⟩ := ob hf
  obtain ⟨r1, e1, hf⟩ := ob hf
  obtain ⟨r2, e2, hf⟩ := ob hf
  have hf : (if r1 = r2 then some (cs, rs) else none) = some (cs9, rs9) := hf
  by_cases hq : r1 = r2
  case neg => rw [if_neg hq] at hf; cases hf
  rw [if_pos hq] at hf
  have hc9 : cs = cs9 := congrArg Prod.fst (Option.some.inj hf)
  subst hc9
  exact ⟨Nat.le_refl _, Nat.le_refl _⟩
theorem mo_lk_12 {F : Nat} {cs cs9 : CS} {rs rs9 : RS} {x1 x2 x3 x4 x5 : Int32} (hf : lk_12 F cs rs x1 x2 x3 x4 x5 = some (cs9, rs9)) : kK cs ≤ kK cs9 ∧ kM cs ≤ kM cs9 := by
  unfold lk_12 at hf
  obtain ⟨u0, e0, hf⟩ := ob hf
  obtain ⟨r1, e1, hf⟩ := ob hf
  obtain ⟨r2, e2, hf⟩ := ob hf
  have hf : (if r1 = r2 then some (cs, rs) else none) = some (cs9, rs9) := hf
  by_cases hq : r1 = r2
  case neg => rw [if_neg hq] at hf; cases hf
  rw [if_pos hq] at hf
  have hc9 : cs = cs9 := congrArg Prod.fst (Option.some.inj hf)
  subst hc9
  exact ⟨Nat.le_refl _, Nat.le_refl _⟩
theorem mo_lk_13 {F : Nat} {cs cs9 : CS} {rs rs9 : RS} {x1 x2 x3 x4 x5 : Int32} (hf : lk_13 F cs rs x1 x2 x3 x4 x5 = some (cs9, rs9)) : kK cs ≤ kK cs9 ∧ kM cs ≤ kM cs9 := by
  unfold lk_13 at hf
  obtain ⟨u0, e0, hf⟩ := ob hf
  obtain ⟨r1, e1, hf⟩ := ob hf
  obtain ⟨r2, e2, hf⟩ := ob hf
  have hf : (if r1 = r2 then some (cs, rs) else none) = some (cs9, rs9) := hf
  by_cases hq : r1 = r2
  case neg => rw [if_neg hq] at hf; cases hf
  rw [if_pos hq] at hf
  have hc9 : cs = cs9 := congrArg Prod.fst (Option.some.inj hf)
  subst hc9
  exact ⟨Nat.le_refl _, Nat.le_refl _⟩
theorem mo_lk_14 {F : Nat} {cs cs9 : CS} {rs rs9 : RS} {x1 x2 x3 x4 x5 : Int32} (hf : lk_14 F cs rs x1 x2 x3 x4 x5 = some (cs9, rs9)) : kK cs ≤ kK cs9 ∧ kM cs ≤ kM cs9 := by
  unfold lk_14 at hf
  obtain ⟨u0, e0, hf⟩ := ob hf
  obtain ⟨r1, e1, hf⟩ := ob hf
  obtain ⟨r2, e2, hf⟩ := ob hf
  have hf : (if r1 = r2 then some (cs, rs) else none) = some (cs9, rs9) := hf
  by_cases hq : r1 = r2
  case neg => rw [if_neg hq] at hf; cases hf
  rw [if_pos hq] at hf
  have hc9 : cs = cs9 := congrArg Prod.fst (Option.some.inj hf)
  subst hc9
  exact ⟨Nat.le_refl _, Nat.le_refl _⟩
theorem mo_lk_15 {F : Nat} {cs cs9 : CS} {rs rs9 : RS} {x1 x2 x3 x4 x5 : Int32} (hf : lk_15 F cs rs x1 x2 x3 x4 x5 = some (cs9, rs9)) : kK cs ≤ kK cs9 ∧ kM cs ≤ kM cs9 := by
  unfold lk_15 at hf
  obtain ⟨u0, e0, hf⟩ := ob hf
  obtain ⟨r1, e1, hf⟩ := ob hf
  obtain ⟨r2, e2, hf⟩ := ob hf
  have hf : (if r1 = r2 then some (cs, rs) else none) = some (cs9, rs9) := hf
  by_cases hq : r1 = r2
  case neg => rw [if_neg hq] at hf; cases hf
  rw [if_pos hq] at hf
  have hc9 : cs = cs9 := congrArg Prod.fst (Option.some.inj hf)
  subst hc9
  exact ⟨Nat.le_refl _, Nat.le_refl _⟩
theorem mo_lk_16 {F : Nat} {cs cs9 : CS} {rs rs9 : RS} {x1 x2 x3 x4 x5 : Int32} (hf : lk_16 F cs rs x1 x2 x3 x4 x5 = some (cs9, rs9)) : kK cs ≤ kK cs9 ∧ kM cs ≤ kM cs9 := by
  unfold lk_16 at hf
  obtain ⟨u0, e0, hf⟩ := ob hf
  obtain ⟨r1, e1, hf⟩ := ob hf
  obtain ⟨r2, e2, hf⟩ := ob hf
  have hf : (if r1 = r2 then some (cs, rs) else none) = some (cs9, rs9) := hf
  by_cases hq : r1 = r2
  case neg => rw [if_neg hq] at hf; cases hf
  rw [if_pos hq] at hf
  have hc9 : cs = cs9 := congrArg Prod.fst (Option.some.inj hf)
  subst hc9
  exact ⟨Nat.le_refl _, Nat.le_refl _⟩
theorem mo_lk_17 {F : Nat} {cs cs9 : CS} {rs rs9 : RS} {x1 x2 x3 x4 x5 : Int32} (hf : lk_17 F cs rs x1 x2 x3 x4 x5 = some (cs9, rs9)) : kK cs ≤ kK cs9 ∧ kM cs ≤ kM cs9 := by
  unfold lk_17 at hf
  obtain ⟨u0, e0, hf⟩ := ob hf
  obtain ⟨r1, e1, hf⟩ := ob hf
  obtain ⟨r2, e2, hf⟩ := ob hf
  have hf : (if r1 = r2 then some (cs, rs) else none) = some (cs9, rs9) := hf
  by_cases hq : r1 = r2
  case neg => rw [if_neg hq] at hf; cases hf
  rw [if_pos hq] at hf
  have hc9 : cs = cs9 := congrArg Prod.fst (Option.some.inj hf)
  subst hc9
  exact ⟨Nat.le_refl _, Nat.le_refl _⟩
theorem mo_lk_18 {F : Nat} {cs cs9 : CS} {rs rs9 : RS} {x1 x2 x3 x4 x5 : Int32} (hf : lk_18 F cs rs x1 x2 x3 x4 x5 = some (cs9, rs9)) : kK cs ≤ kK cs9 ∧ kM cs ≤ kM cs9 := by
  unfold lk_18 at hf
  obtain ⟨u0, e0, hf⟩ := ob hf
  obtain ⟨⟨cs1, r1⟩, e1, hf⟩ := ob hf
  obtain ⟨r2, e2, hf⟩ := ob hf
  have hf : (if r1 = r2 then some (cs1, rs) else none) = some (cs9, rs9) := hf
  by_cases hq : r1 = r2
  case neg => rw [if_neg hq] at hf; cases hf
  rw [if_pos hq] at hf
  have hc9 : cs1 = cs9 := congrArg Prod.fst (Option.some.inj hf)
  subst hc9
  have h0 := mo_c_X11_three F cs 0 x1 x2 x3 cs1 r1 e1
  exact ⟨Nat.le_of_eq (congrArg Prod.fst h0).symm, Nat.le_of_eq (congrArg (fun z => z.2.1) h0).symm⟩
theorem mo_lk_19 {F : Nat} {cs cs9 : CS} {rs rs9 : RS} {x1 x2 x3 x4 x5 : Int32} (hf : lk_19 F cs rs x1 x2 x3 x4 x5 = some (cs9, rs9)) : kK cs ≤ kK cs9 ∧ kM cs ≤ kM cs9 := by
  unfold lk_19 at hf
  obtain ⟨u0, e0, hf⟩ := ob hf
  obtain ⟨r1, e1, hf⟩ := ob hf
  obtain ⟨r2, e2, hf⟩ := ob hf
  have hf : (if r1 = r2 then some (cs, rs) else none) = some (cs9, rs9) := hf
  by_cases hq : r1 = r2
  case neg => rw [if_neg hq] at hf; cases hf
  rw [if_pos hq] at hf
  have hc9 : cs = cs9 := congrArg Prod.fst (Option.some.inj hf)
  subst hc9
  exact ⟨Nat.le_refl _, Nat.le_refl _⟩
theorem mo_LK {F j : Nat} {cs cs9 : CS} {rs rs9 : RS} {x1 x2 x3 x4 x5 : Int32} (hf : LK F cs rs j x1 x2 x3 x4 x5 = some (cs9, rs9)) : kK cs ≤ kK cs9 ∧ kM cs ≤ kM cs9 := by
  rcases Nat.lt_or_ge j 20 with h20 | h20
  · have hc : j = 0 ∨ j = 1 ∨ j = 2 ∨ j = 3 ∨ j = 4 ∨ j = 5 ∨ j = 6 ∨ j = 7 ∨ j = 8 ∨ j = 9 ∨ j = 10 ∨ j = 11 ∨ j = 12 ∨ j = 13 ∨ j = 14 ∨ j = 15 ∨ j = 16 ∨ j = 17 ∨ j = 18 ∨ j = 19 := by omega
    rcases hc with rfl | rfl | rfl | rfl | rfl | rfl | rfl | rfl | rfl | rfl | rfl | rfl | rfl | rfl | rfl | rfl | rfl | rfl | rfl | rfl
    · rw [LK_0] at hf
      exact mo_lk_0 hf
    · rw [LK_1] at hf
      exact mo_lk_1 hf
    · rw [LK_2] at hf
      exact mo_lk_2 hf
    · rw [LK_3] at hf
      exact mo_lk_3 hf
    · rw [LK_4] at hf
      exact mo_lk_4 hf
    · rw [LK_5] at hf
      exact mo_lk_5 hf
    · rw [LK_6] at hf
      exact mo_lk_6 hf
    · rw [LK_7] at hf
      exact mo_lk_7 hf
    · rw [LK_8] at hf
      exact mo_lk_8 hf
    · rw [LK_9] at hf
      exact mo_lk_9 hf
    · rw [LK_10] at hf
      exact mo_lk_10 hf
    · rw [LK_11] at hf
      exact mo_lk_11 hf
    · rw [LK_12] at hf
      exact mo_lk_12 hf
    · rw [LK_13] at hf
      exact mo_lk_13 hf
    · rw [LK_14] at hf
      exact mo_lk_14 hf
    · rw [LK_15] at hf
      exact mo_lk_15 hf
    · rw [LK_16] at hf
      exact mo_lk_16 hf
    · rw [LK_17] at hf
      exact mo_lk_17 hf
    · rw [LK_18] at hf
      exact mo_lk_18 hf
    · rw [LK_19] at hf
      exact mo_lk_19 hf
  · obtain ⟨q, rfl⟩ : ∃ q, j = q + 20 := ⟨j - 20, by omega⟩
    rw [LK_o] at hf
    cases hf
    exact ⟨Nat.le_refl _, Nat.le_refl _⟩
theorem mo_LW {F : Nat} {xs : Nat → Int32} (n : Nat) : ∀ (i : Nat) {cs cs9 : CS} {rs rs9 : RS}, LW F xs n i cs rs = some (cs9, rs9) → kK cs ≤ kK cs9 ∧ kM cs ≤ kM cs9 := by
  induction n with
  | zero =>
    intro i cs cs9 rs rs9 h
    rw [LW_0] at h
    cases h
    exact ⟨Nat.le_refl _, Nat.le_refl _⟩
  | succ n ih =>
    intro i cs cs9 rs rs9 h
    rw [LW_s] at h
    obtain ⟨⟨cs1, rs1⟩, e1, h⟩ := ob h
    have h1 := mo_LK e1
    have h2 := ih (i + 6) h
    exact ⟨Nat.le_trans h1.1 h2.1, Nat.le_trans h1.2 h2.2⟩
theorem lw_sub6 : ∀ L, L < 385 → (nI L - 6).toInt = (L : Int) - 6 := by decide +kernel
theorem lw_toI : ∀ i, i < 400 → (nI i).toInt = (i : Int) := by decide +kernel
theorem lw_cmp {i L : Nat} (hL : L ≤ 384) (hi : i ≤ 390) : nI L - 6 < nI i ↔ L < i + 6 := by
  rw [Int32.lt_iff_toInt_lt, lw_sub6 L (by omega), lw_toI i (by omega)]
  omega
theorem nI_inc (i : Nat) : nI i + Int32.ofInt 6 = nI (i + 6) := by rw [show Int32.ofInt 6 = nI 6 by decide]; exact nI_add i 6
theorem pg_1 {h0 : Nat} : ∀ (l : List Nat), l.Nodup → (∀ x ∈ l, x = h0) → l.length ≤ 1
  | [], _, _ => by simp
  | [a], _, _ => by simp
  | a :: b :: t, hn, h => by
    have e1 := h a (by simp)
    have e2 := h b (by simp)
    simp [e1, e2] at hn
theorem pg_n {h0 sz : Nat} : ∀ (n : Nat) (l : List Nat), l.Nodup → (∀ x ∈ l, x = h0 ∨ (sz ≤ x ∧ x < sz + n)) → l.length ≤ n + 1
  | 0, l, hn, h => pg_1 (h0 := h0) l hn (fun x hx => (h x hx).elim id (fun h => by omega))
  | n + 1, l, hn, h => by
    by_cases hm : sz + n ∈ l
    · have h1 := pg_n (h0 := h0) (sz := sz) n (l.erase (sz + n)) (hn.erase _) (fun x hx => by
        have hx2 := (List.Nodup.mem_erase_iff hn).mp hx
        rcases h x hx2.2 with e | e
        · exact Or.inl e
        · have := hx2.1
          exact Or.inr ⟨e.1, by omega⟩)
      have h2 := List.length_erase_of_mem hm
      have h3 : 0 < l.length := List.length_pos_of_mem hm
      omega
    · have h1 := pg_n (h0 := h0) (sz := sz) n l hn (fun x hx => by
        rcases h x hx with e | e
        · exact Or.inl e
        · have : x ≠ sz + n := fun e2 => hm (e2 ▸ hx)
          exact Or.inr ⟨e.1, by omega⟩)
      omega
theorem va_D.nodup {A : Nat → Prop} {w : va_W} (h : va_D A w) : (w.map Prod.fst).Nodup := by
  refine List.pairwise_iff_getElem.mpr (fun i j hi hj hij e => ?_)
  have hi2 : i < w.length := by simpa using hi
  have hj2 : j < w.length := by simpa using hj
  have := h.1 i j w[i] w[j] (List.getElem?_eq_getElem hi2) (List.getElem?_eq_getElem hj2) (by simpa using e)
  omega
theorem va_grown {D : va_G} {cl : List vw_C} {A : Nat → Prop} {w : va_W} {H : Heap} {h0 sz : Nat} (hP : va_P D cl w H) (hD : va_D A w) (hA : ∀ q, A q → q = h0 ∨ sz ≤ q) (hs : sz ≤ H.size) : sz + w.length ≤ H.size + 1 := by
  have h1 := pg_n (h0 := h0) (sz := sz) (H.size - sz) (w.map Prod.fst) hD.nodup (fun x hx => by
    obtain ⟨y, hy, rfl⟩ := List.mem_map.mp hx
    obtain ⟨k, hk⟩ := List.getElem?_of_mem hy
    have lt := (hP k y hk).lt
    rcases hA _ (hD.2 k y hk) with e | e
    · exact Or.inl e
    · exact Or.inr ⟨e, by omega⟩)
  rw [List.length_map] at h1
  omega

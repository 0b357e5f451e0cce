/-! the law: start and loop -/
def csE : CS := ((0, 0, []), fun _ _ => 0, fun _ _ => 0, fun _ _ => none, fun _ _ => none, fun _ _ _ => 0, fun _ _ _ => 0, fun _ _ _ => none, fun _ _ => 0)
def rsE : RS := (fun _ => 0, -9223372036854775808, fun _ _ => 0, fun _ _ => 0)
def kJmp (cs : CS) : CS := ((kK cs + 78, kM cs + 877544, kE cs), cs.2)
def LW (F : Nat) (xs : Nat → Int32) : Nat → Nat → CS → RS → Option (CS × RS)
  | 0, _, cs, rs => some (cs, rs)
  | n + 1, i, cs, rs => Option.bind (LK F cs rs ((xs i &&& 31).toNatClampNeg) (xs (i + 1)) (xs (i + 2)) (xs (i + 3)) (xs (i + 4)) (xs (i + 5))) fun z => LW F xs n (i + 6) z.1 z.2
theorem mo_lk_0 {F : Nat} {cs cs9 : CS} {rs rs9 : RS} {x1 x2 x3 x4 x5 : Int32} (hf : lk_0 F cs rs x1 x2 x3 x4 x5 = some (cs9, rs9)) : kK cs ≤ kK cs9 ∧ kM cs ≤ kM cs9 := by
  unfold lk_0 at hf
  obtain ⟨u0, e0, hf⟩ := ob hf
  obtain ⟨⟨cs1, r1⟩, e1, hf⟩ := ob hf
  obtain ⟨⟨rs1, r2⟩, e2, hf⟩ := ob hf
  have hf : (if r1 = r2 then some (cs1, rs1) else none) = some (cs9, rs9) := hf
  by_cases hq : r1 = r2
  case neg => rw [if_neg hq] at hf; cases hf
  rw [if_pos hq] at hf
  cases hf
  have h0 := mo_c_X11_feed F cs 0 x1 x2 x3 x4 x5 cs1 r1 e1
  exact ⟨Nat.le_of_eq (congrArg Prod.fst h0).symm, Nat.le_of_eq (congrArg (fun z => z.2.1) h0).symm⟩
theorem mo_lk_1 {F : Nat} {cs cs9 : CS} {rs rs9 : RS} {x1 x2 x3 x4 x5 : Int32} (hf : lk_1 F cs rs x1 x2 x3 x4 x5 = some (cs9, rs9)) : kK cs ≤ kK cs9 ∧ kM cs ≤ kM cs9 := by
  unfold lk_1 at hf
  obtain ⟨u0, e0, hf⟩ := ob hf
  obtain ⟨⟨cs1, r1⟩, e1, hf⟩ := ob hf
  obtain ⟨⟨rs1, r2⟩, e2, hf⟩ := ob hf
  have hf : (if r1 = r2 then some (cs1, rs1) else none) = some (cs9, rs9) := hf
  by_cases hq : r1 = r2
  case neg => rw [if_neg hq] at hf; cases hf
  rw [if_pos hq] at hf
  cases hf
  have h0 := mo_c_X11_cut F cs 0 x1 cs1 r1 e1
  exact ⟨Nat.le_of_eq (congrArg Prod.fst h0).symm, Nat.le_of_eq (congrArg (fun z => z.2.1) h0).symm⟩
theorem mo_lk_2 {F : Nat} {cs cs9 : CS} {rs rs9 : RS} {x1 x2 x3 x4 x5 : Int32} (hf : lk_2 F cs rs x1 x2 x3 x4 x5 = some (cs9, rs9)) : kK cs ≤ kK cs9 ∧ kM cs ≤ kM cs9 := by
  unfold lk_2 at hf
  obtain ⟨u0, e0, hf⟩ := ob hf
  obtain ⟨⟨cs1, r1⟩, e1, hf⟩ := ob hf
  obtain ⟨⟨rs1, r2⟩, e2, hf⟩ := ob hf
  have hf : (if r1 = r2 then some (cs1, rs1) else none) = some (cs9, rs9) := hf
  by_cases hq : r1 = r2
  case neg => rw [if_neg hq] at hf; cases hf
  rw [if_pos hq] at hf
  cases hf
  have h0 := mo_c_X11_stream F cs 0 x1 cs1 r1 e1
  exact ⟨Nat.le_of_eq (congrArg Prod.fst h0).symm, Nat.le_of_eq (congrArg (fun z => z.2.1) h0).symm⟩
theorem mo_lk_3 {F : Nat} {cs cs9 : CS} {rs rs9 : RS} {x1 x2 x3 x4 x5 : Int32} (hf : lk_3 F cs rs x1 x2 x3 x4 x5 = some (cs9, rs9)) : kK cs ≤ kK cs9 ∧ kM cs ≤ kM cs9 := by
  unfold lk_3 at hf
  obtain ⟨u0, e0, hf⟩ := ob hf
  obtain ⟨⟨cs1, r1⟩, e1, hf⟩ := ob hf
  obtain ⟨⟨rs1, r2⟩, e2, hf⟩ := ob hf
  have hf : (if r1 = r2 then some (cs1, rs1) else none) = some (cs9, rs9) := hf
  by_cases hq : r1 = r2
  case neg => rw [if_neg hq] at hf; cases hf
  rw [if_pos hq] at hf
  cases hf
  exact mo_c_X11_query F cs 0  cs1 r1 e1
theorem mo_lk_4 {F : Nat} {cs cs9 : CS} {rs rs9 : RS} {x1 x2 x3 x4 x5 : Int32} (hf : lk_4 F cs rs x1 x2 x3 x4 x5 = some (cs9, rs9)) : kK cs ≤ kK cs9 ∧ kM cs ≤ kM cs9 := by
  unfold lk_4 at hf
  obtain ⟨u0, e0, hf⟩ := ob hf
  obtain ⟨r1, e1, hf⟩ := ob hf
  obtain ⟨r2, e2, hf⟩ := ob hf
  have hf : (if r1 = r2 then some (cs, rs) else none) = some (cs9, rs9) := hf
  by_cases hq : r1 = r2
  case neg => rw [if_neg hq] at hf; cases hf
  rw [if_pos hq] at hf
  cases hf
  exact ⟨Nat.le_refl _, Nat.le_refl _⟩
theorem mo_lk_5 {F : Nat} {cs cs9 : CS} {rs rs9 : RS} {x1 x2 x3 x4 x5 : Int32} (hf : lk_5 F cs rs x1 x2 x3 x4 x5 = some (cs9, rs9)) : kK cs ≤ kK cs9 ∧ kM cs ≤ kM cs9 := by
  unfold lk_5 at hf
  obtain ⟨u0, e0, hf⟩ := ob hf
  obtain ⟨⟨cs1, r1⟩, e1, hf⟩ := ob hf
  obtain ⟨⟨rs1, r2⟩, e2, hf⟩ := ob hf
  have hf : (if r1 = r2 then some (cs1, rs1) else none) = some (cs9, rs9) := hf
  by_cases hq : r1 = r2
  case neg => rw [if_neg hq] at hf; cases hf
  rw [if_pos hq] at hf
  cases hf
  have h0 := mo_c_X11_value F cs 0 (((x1).toInt64 <<< ((32 : Int32).toInt64 &&& 63)) ||| ((x2).toInt64 &&& 4294967295)) cs1 r1 e1
  exact ⟨Nat.le_of_eq (congrArg Prod.fst h0).symm, Nat.le_of_eq (congrArg (fun z => z.2.1) h0).symm⟩
theorem mo_lk_6 {F : Nat} {cs cs9 : CS} {rs rs9 : RS} {x1 x2 x3 x4 x5 : Int32} (hf : lk_6 F cs rs x1 x2 x3 x4 x5 = some (cs9, rs9)) : kK cs ≤ kK cs9 ∧ kM cs ≤ kM cs9 := by
  unfold lk_6 at hf
  obtain ⟨u0, e0, hf⟩ := ob hf
  obtain ⟨⟨cs1, r1⟩, e1, hf⟩ := ob hf
  obtain ⟨⟨rs1, r2⟩, e2, hf⟩ := ob hf
  have hf : (if r1 = r2 then some (cs1, rs1) else none) = some (cs9, rs9) := hf
  by_cases hq : r1 = r2
  case neg => rw [if_neg hq] at hf; cases hf
  rw [if_pos hq] at hf
  cases hf
  have h0 := mo_c_X11_nothing F cs 0  cs1 r1 e1
  exact ⟨Nat.le_of_eq (congrArg Prod.fst h0).symm, Nat.le_of_eq (congrArg (fun z => z.2.1) h0).symm⟩
theorem mo_lk_7 {F : Nat} {cs cs9 : CS} {rs rs9 : RS} {x1 x2 x3 x4 x5 : Int32} (hf : lk_7 F cs rs x1 x2 x3 x4 x5 = some (cs9, rs9)) : kK cs ≤ kK cs9 ∧ kM cs ≤ kM cs9 := by
  unfold lk_7 at hf
  obtain ⟨u0, e0, hf⟩ := ob hf
  obtain ⟨⟨cs1, r1⟩, e1, hf⟩ := ob hf
  obtain ⟨⟨rs1, r2⟩, e2, hf⟩ := ob hf
  have hf : (if r1 = r2 then some (cs1, rs1) else none) = some (cs9, rs9) := hf
  by_cases hq : r1 = r2
  case neg => rw [if_neg hq] at hf; cases hf
  rw [if_pos hq] at hf
  cases hf
  exact mo_c_X11_row F cs 0 x1 (((x2).toInt64 <<< ((32 : Int32).toInt64 &&& 63)) ||| ((x3).toInt64 &&& 4294967295)) cs1 r1 e1
theorem mo_lk_8 {F : Nat} {cs cs9 : CS} {rs rs9 : RS} {x1 x2 x3 x4 x5 : Int32} (hf : lk_8 F cs rs x1 x2 x3 x4 x5 = some (cs9, rs9)) : kK cs ≤ kK cs9 ∧ kM cs ≤ kM cs9 := by
  unfold lk_8 at hf
  obtain ⟨u0, e0, hf⟩ := ob hf
  obtain ⟨⟨cs1, r1⟩, e1, hf⟩ := ob hf
  obtain ⟨⟨rs1, r2⟩, e2, hf⟩ := ob hf
  have hf : (if r1 = r2 then some (cs1, rs1) else none) = some (cs9, rs9) := hf
  by_cases hq : r1 = r2
  case neg => rw [if_neg hq] at hf; cases hf
  rw [if_pos hq] at hf
  cases hf
  exact mo_c_X11_back F cs 0 x1 x2 cs1 r1 e1
theorem mo_lk_9 {F : Nat} {cs cs9 : CS} {rs rs9 : RS} {x1 x2 x3 x4 x5 : Int32} (hf : lk_9 F cs rs x1 x2 x3 x4 x5 = some (cs9, rs9)) : kK cs ≤ kK cs9 ∧ kM cs ≤ kM cs9 := by
  unfold lk_9 at hf
  obtain ⟨u0, e0, hf⟩ := ob hf
  obtain ⟨⟨cs1, r1⟩, e1, hf⟩ := ob hf
  obtain ⟨⟨rs1, r2⟩, e2, hf⟩ := ob hf
  have hf : (if r1 = r2 then some (cs1, rs1) else none) = some (cs9, rs9) := hf
  by_cases hq : r1 = r2
  case neg => rw [if_neg hq] at hf; cases hf
  rw [if_pos hq] at hf
  cases hf
  exact mo_c_X11_watermark F cs 0 (((x1).toInt64 <<< ((32 : Int32).toInt64 &&& 63)) ||| ((x2).toInt64 &&& 4294967295)) cs1 r1 e1
theorem mo_lk_10 {F : Nat} {cs cs9 : CS} {rs rs9 : RS} {x1 x2 x3 x4 x5 : Int32} (hf : lk_10 F cs rs x1 x2 x3 x4 x5 = some (cs9, rs9)) : kK cs ≤ kK cs9 ∧ kM cs ≤ kM cs9 := by
  unfold lk_10 at hf
  obtain ⟨u0, e0, hf⟩ := ob hf
  obtain ⟨r1, e1, hf⟩ := ob hf
  obtain ⟨r2, e2, hf⟩ := ob hf
  have hf : (if r1 = r2 then some (cs, rs) else none) = some (cs9, rs9) := hf
  by_cases hq : r1 = r2
  case neg => rw [if_neg hq] at hf; cases hf
  rw [if_pos hq] at hf
  cases hf
  exact ⟨Nat.le_refl _, Nat.le_refl _⟩
theorem mo_lk_11 {F : Nat} {cs cs9 : CS} {rs rs9 : RS} {x1 x2 x3 x4 x5 : Int32} (hf : lk_11 F cs rs x1 x2 x3 x4 x5 = some (cs9, rs9)) : kK cs ≤ kK cs9 ∧ kM cs ≤ kM cs9 := by
  unfold lk_11 at hf
  obtain ⟨u0, e0, hf⟩ := ob hf
  obtain ⟨r1, e1, hf⟩ := ob hf
  obtain ⟨r2, e2, hf⟩ := ob hf
  have hf : (if r1 = r2 then some (cs, rs) else none) = some (cs9, rs9) := hf
  by_cases hq : r1 = r2
  case neg => rw [if_neg hq] at hf; cases hf
  rw [if_pos hq] at hf
  cases hf
  exact ⟨Nat.le_refl _, Nat.le_refl _⟩
theorem mo_lk_12 {F : Nat} {cs cs9 : CS} {rs rs9 : RS} {x1 x2 x3 x4 x5 : Int32} (hf : lk_12 F cs rs x1 x2 x3 x4 x5 = some (cs9, rs9)) : kK cs ≤ kK cs9 ∧ kM cs ≤ kM cs9 := by
  unfold lk_12 at hf
  obtain ⟨u0, e0, hf⟩ := ob hf
  obtain ⟨r1, e1, hf⟩ := ob hf
  obtain ⟨r2, e2, hf⟩ := ob hf
  have hf : (if r1 = r2 then some (cs, rs) else none) = some (cs9, rs9) := hf
  by_cases hq : r1 = r2
  case neg => rw [if_neg hq] at hf; cases hf
  rw [if_pos hq] at hf
  cases hf
  exact ⟨Nat.le_refl _, Nat.le_refl _⟩
theorem mo_lk_13 {F : Nat} {cs cs9 : CS} {rs rs9 : RS} {x1 x2 x3 x4 x5 : Int32} (hf : lk_13 F cs rs x1 x2 x3 x4 x5 = some (cs9, rs9)) : kK cs ≤ kK cs9 ∧ kM cs ≤ kM cs9 := by
  unfold lk_13 at hf
  obtain ⟨u0, e0, hf⟩ := ob hf
  obtain ⟨r1, e1, hf⟩ := ob hf
  obtain ⟨r2, e2, hf⟩ := ob hf
  have hf : (if r1 = r2 then some (cs, rs) else none) = some (cs9, rs9) := hf
  by_cases hq : r1 = r2
  case neg => rw [if_neg hq] at hf; cases hf
  rw [if_pos hq] at hf
  cases hf
  exact ⟨Nat.le_refl _, Nat.le_refl _⟩
theorem mo_lk_14 {F : Nat} {cs cs9 : CS} {rs rs9 : RS} {x1 x2 x3 x4 x5 : Int32} (hf : lk_14 F cs rs x1 x2 x3 x4 x5 = some (cs9, rs9)) : kK cs ≤ kK cs9 ∧ kM cs ≤ kM cs9 := by
  unfold lk_14 at hf
  obtain ⟨u0, e0, hf⟩ := ob hf
  obtain ⟨r1, e1, hf⟩ := ob hf
  obtain ⟨r2, e2, hf⟩ := ob hf
  have hf : (if r1 = r2 then some (cs, rs) else none) = some (cs9, rs9) := hf
  by_cases hq : r1 = r2
  case neg => rw [if_neg hq] at hf; cases hf
  rw [if_pos hq] at hf
  cases hf
  exact ⟨Nat.le_refl _, Nat.le_refl _⟩
theorem mo_lk_15 {F : Nat} {cs cs9 : CS} {rs rs9 : RS} {x1 x2 x3 x4 x5 : Int32} (hf : lk_15 F cs rs x1 x2 x3 x4 x5 = some (cs9, rs9)) : kK cs ≤ kK cs9 ∧ kM cs ≤ kM cs9 := by
  unfold lk_15 at hf
  obtain ⟨u0, e0, hf⟩ := ob hf
  obtain ⟨r1, e1, hf⟩ := ob hf
  obtain ⟨r2, e2, hf⟩ := ob hf
  have hf : (if r1 = r2 then some (cs, rs) else none) = some (cs9, rs9) := hf
  by_cases hq : r1 = r2
  case neg => rw [if_neg hq] at hf; cases hf
  rw [if_pos hq] at hf
  cases hf
  exact ⟨Nat.le_refl _, Nat.le_refl _⟩
theorem mo_lk_16 {F : Nat} {cs cs9 : CS} {rs rs9 : RS} {x1 x2 x3 x4 x5 : Int32} (hf : lk_16 F cs rs x1 x2 x3 x4 x5 = some (cs9, rs9)) : kK cs ≤ kK cs9 ∧ kM cs ≤ kM cs9 := by
  unfold lk_16 at hf
  obtain ⟨u0, e0, hf⟩ := ob hf
  obtain ⟨r1, e1, hf⟩ := ob hf
  obtain ⟨r2, e2, hf⟩ := ob hf
  have hf : (if r1 = r2 then some (cs, rs) else none) = some (cs9, rs9) := hf
  by_cases hq : r1 = r2
  case neg => rw [if_neg hq] at hf; cases hf
  rw [if_pos hq] at hf
  cases hf
  exact ⟨Nat.le_refl _, Nat.le_refl _⟩
theorem mo_lk_17 {F : Nat} {cs cs9 : CS} {rs rs9 : RS} {x1 x2 x3 x4 x5 : Int32} (hf : lk_17 F cs rs x1 x2 x3 x4 x5 = some (cs9, rs9)) : kK cs ≤ kK cs9 ∧ kM cs ≤ kM cs9 := by
  unfold lk_17 at hf
  obtain ⟨u0, e0, hf⟩ := ob hf
  obtain ⟨r1, e1, hf⟩ := ob hf
  obtain ⟨r2, e2, hf⟩ := ob hf
  have hf : (if r1 = r2 then some (cs, rs) else none) = some (cs9, rs9) := hf
  by_cases hq : r1 = r2
  case neg => rw [if_neg hq] at hf; cases hf
  rw [if_pos hq] at hf
  cases hf
  exact ⟨Nat.le_refl _, Nat.le_refl _⟩
theorem mo_lk_18 {F : Nat} {cs cs9 : CS} {rs rs9 : RS} {x1 x2 x3 x4 x5 : Int32} (hf : lk_18 F cs rs x1 x2 x3 x4 x5 = some (cs9, rs9)) : kK cs ≤ kK cs9 ∧ kM cs ≤ kM cs9 := by
  unfold lk_18 at hf
  obtain ⟨u0, e0, hf⟩ := ob hf
  obtain ⟨⟨cs1, r1⟩, e1, hf⟩ := ob hf
  obtain ⟨r2, e2, hf⟩ := ob hf
  have hf : (if r1 = r2 then some (cs1, rs) else none) = some (cs9, rs9) := hf
  by_cases hq : r1 = r2
  case neg => rw [if_neg hq] at hf; cases hf
  rw [if_pos hq] at hf
  cases hf
  have h0 := mo_c_X11_three F cs 0 x1 x2 x3 cs1 r1 e1
  exact ⟨Nat.le_of_eq (congrArg Prod.fst h0).symm, Nat.le_of_eq (congrArg (fun z => z.2.1) h0).symm⟩
theorem mo_lk_19 {F : Nat} {cs cs9 : CS} {rs rs9 : RS} {x1 x2 x3 x4 x5 : Int32} (hf : lk_19 F cs rs x1 x2 x3 x4 x5 = some (cs9, rs9)) : kK cs ≤ kK cs9 ∧ kM cs ≤ kM cs9 := by
  unfold lk_19 at hf
  obtain ⟨u0, e0, hf⟩ := ob hf
  obtain ⟨r1, e1, hf⟩ := ob hf
  obtain ⟨r2, e2, hf⟩ := ob hf
  have hf : (if r1 = r2 then some (cs, rs) else none) = some (cs9, rs9) := hf
  by_cases hq : r1 = r2
  case neg => rw [if_neg hq] at hf; cases hf
  rw [if_pos hq] at hf
  cases hf
  exact ⟨Nat.le_refl _, Nat.le_refl _⟩
theorem mo_LK {F j : Nat} {cs cs9 : CS} {rs rs9 : RS} {x1 x2 x3 x4 x5 : Int32} (hf : LK F cs rs j x1 x2 x3 x4 x5 = some (cs9, rs9)) : kK cs ≤ kK cs9 ∧ kM cs ≤ kM cs9 := by
  match j, hf with
  | 0, hf => exact mo_lk_0 hf
  | 1, hf => exact mo_lk_1 hf
  | 2, hf => exact mo_lk_2 hf
  | 3, hf => exact mo_lk_3 hf
  | 4, hf => exact mo_lk_4 hf
  | 5, hf => exact mo_lk_5 hf
  | 6, hf => exact mo_lk_6 hf
  | 7, hf => exact mo_lk_7 hf
  | 8, hf => exact mo_lk_8 hf
  | 9, hf => exact mo_lk_9 hf
  | 10, hf => exact mo_lk_10 hf
  | 11, hf => exact mo_lk_11 hf
  | 12, hf => exact mo_lk_12 hf
  | 13, hf => exact mo_lk_13 hf
  | 14, hf => exact mo_lk_14 hf
  | 15, hf => exact mo_lk_15 hf
  | 16, hf => exact mo_lk_16 hf
  | 17, hf => exact mo_lk_17 hf
  | 18, hf => exact mo_lk_18 hf
  | 19, hf => exact mo_lk_19 hf
  | k + 20, hf =>
    have hf : some (cs, rs) = some (cs9, rs9) := hf
    cases hf
    exact ⟨Nat.le_refl _, Nat.le_refl _⟩
theorem mo_LW {F : Nat} {xs : Nat → Int32} : ∀ (n i : Nat) {cs cs9 : CS} {rs rs9 : RS}, LW F xs n i cs rs = some (cs9, rs9) → kK cs ≤ kK cs9 ∧ kM cs ≤ kM cs9
  | 0, i, cs, cs9, rs, rs9, h => by
    have h : some (cs, rs) = some (cs9, rs9) := h
    cases h
    exact ⟨Nat.le_refl _, Nat.le_refl _⟩
  | n + 1, i, cs, cs9, rs, rs9, h => by
    obtain ⟨⟨cs1, rs1⟩, e1, h⟩ := ob h
    have h1 := mo_LK e1
    have h2 := mo_LW n (i + 6) (cs := cs1) (rs := rs1) h
    exact ⟨Nat.le_trans h1.1 h2.1, Nat.le_trans h1.2 h2.2⟩
theorem lw_sub6 : ∀ L, L < 385 → (nI L - 6).toInt = (L : Int) - 6 := by decide +kernel
theorem lw_toI : ∀ i, i < 400 → (nI i).toInt = (i : Int) := by decide +kernel
theorem lw_cmp {i L : Nat} (hL : L ≤ 384) (hi : i ≤ 390) : nI L - 6 < nI i ↔ L < i + 6 := by
  rw [Int32.lt_iff_toInt_lt, lw_sub6 L (by omega), lw_toI i (by omega)]
  omega
theorem nI_inc (i : Nat) : nI i + Int32.ofInt 6 = nI (i + 6) := (nI_add i 6)
theorem pg_1 {h0 : Nat} : ∀ (l : List Nat), l.Nodup → (∀ x ∈ l, x = h0) → l.length ≤ 1
  | [], _, _ => by simp
  | [a], _, _ => by simp
  | a :: b :: t, hn, h => by
    have e1 := h a (by simp)
    have e2 := h b (by simp)
    simp [e1, e2] at hn
theorem pg_n {h0 sz : Nat} : ∀ (n : Nat) (l : List Nat), l.Nodup → (∀ x ∈ l, x = h0 ∨ (sz ≤ x ∧ x < sz + n)) → l.length ≤ n + 1
  | 0, l, hn, h => pg_1 (h0 := h0) l hn (fun x hx => (h x hx).elim id (fun h => by omega))
  | n + 1, l, hn, h => by
    by_cases hm : sz + n ∈ l
    · have h1 := pg_n (h0 := h0) (sz := sz) n (l.erase (sz + n)) (hn.erase _) (fun x hx => by
        have hx2 := (List.Nodup.mem_erase_iff hn).mp hx
        rcases h x hx2.2 with e | e
        · exact Or.inl e
        · have := hx2.1
          exact Or.inr ⟨e.1, by omega⟩)
      have h2 := List.length_erase_of_mem hm
      have h3 : 0 < l.length := List.length_pos_of_mem hm
      omega
    · have h1 := pg_n (h0 := h0) (sz := sz) n l hn (fun x hx => by
        rcases h x hx with e | e
        · exact Or.inl e
        · have : x ≠ sz + n := fun e2 => hm (e2 ▸ hx)
          exact Or.inr ⟨e.1, by omega⟩)
      omega
theorem va_D.nodup {A : Nat → Prop} {w : va_W} (h : va_D A w) : (w.map Prod.fst).Nodup := by
  refine List.pairwise_iff_getElem.mpr (fun i j hi hj hij e => ?_)
  have hi2 : i < w.length := by simpa using hi
  have hj2 : j < w.length := by simpa using hj
  have := h.1 i j w[i] w[j] (List.getElem?_eq_getElem hi2) (List.getElem?_eq_getElem hj2) (by simpa using e)
  omega
theorem va_grown {D : va_G} {cl : List vw_C} {A : Nat → Prop} {w : va_W} {H : Heap} {h0 sz : Nat} (hP : va_P D cl w H) (hD : va_D A w) (hA : ∀ q, A q → q = h0 ∨ sz ≤ q) (hs : sz ≤ H.size) : sz + w.length ≤ H.size + 1 := by
  have h1 := pg_n (h0 := h0) (sz := sz) (H.size - sz) (w.map Prod.fst) hD.nodup (fun x hx => by
    obtain ⟨y, hy, rfl⟩ := List.mem_map.mp hx
    obtain ⟨k, hk⟩ := List.getElem?_of_mem hy
    have lt := (hP k y hk).lt
    rcases hA _ (hD.2 k y hk) with e | e
    · exact Or.inl e
    · exact Or.inr ⟨e, by omega⟩)
  rw [List.length_map] at h1
  omega
theorem lw_new {p : Program} {l : Launch} {e : Env} {R : Room} {s : State} {m : MethodId} {args : Array Value} {below : List Frame} {meth : Method} {c : Code} {H : Heap} {locs : List Loc} {cells slots : Nat} {Q : State → Prop} {cc : ByteArray} {pc : Nat} {ls : Array Slot} {rest : List Value} {D : va_G} {cl : List vw_C} {tys : List (ClassId × FieldType)} {ws : va_W} {A : Nat → Prop} {own C : String} {T : u_T} {N ci index : Nat} {Ts : List Cond} {q0 : Nat} (hx : p.tables.exec = Jvm.exec) (hb : c.code = cc) (hts : ∀ w ∈ Ts, w.before args s = true) (hin : ∀ w ∈ u_ws C T N, w ∈ Ts) (ty : Nat → FieldType) (hty : ∀ k, k < N → parseFieldDescriptor (T k).2.2.1 = some (ty k)) (hown : s.vm.findClass own = some m.cls) (hcl : (Cond.classLink own index C).before args s = true) (hinst : (Cond.instantiable C N).before args s = true) (hini : (Cond.initialized C).before args s = true) (hK : va_K D cl tys s) (hP : va_P D cl ws H) (hD : va_D A ws) (hS : va_S A s.heap H locs) (hA : ∀ q, s.heap.size ≤ q → A q) (hc : cl[ci]? = some (C, T, N)) {fs : List Value} (hfs : ∀ j, j < N → defaultValue (ty j) = vp_V fs j) (hq : H.size = q0) (hR : cells + 1 ≤ R.cells ∧ slots + N ≤ R.slots) (hdg : decode cc pc = .ok (.new index, 3)) (kk : ∀ (H1 : Heap), va_P D cl (ws ++ [(q0, .inr (ci, fs))]) H1 → va_D A (ws ++ [(q0, .inr (ci, fs))]) → va_S A s.heap H1 locs → H1.size = q0 + 1 → W p l e R s m args below meth c H1 locs (cells + 1) (slots + N) Q (F0 m (pc + 3) ls (.ref q0 :: rest))) : W p l e R s m args below meth c H locs cells slots Q (F0 m pc ls rest) := by
  subst hq
  have hKn := hK.1 ci _ hc
  refine W.newcK hx hb hown hcl hinst hini rfl hdg hR.1 hR.2 hKn.2.1 rfl fun H1 kC hkC e1 z1 o1 => ?_
  have hk : ∀ (k : Nat) (x : Nat × va_E), ws[k]? = some x → H1[x.1]? = H[x.1]? := fun k x hx => o1 x.1 ((hP k x hx).lt)
  refine kk H1 ((hP.kept hk).app (fun k x hx => ?_)) (hD.push hP rfl (hA _ hS.1)) ⟨Nat.le_trans hS.1 (by omega), fun x h1 h2 => (o1 x (Nat.lt_of_lt_of_le h1 hS.1)).trans (hS.2.1 x h1 h2), hS.2.2⟩ z1
  have hz : k < 1 := (List.getElem?_eq_some_iff.mp hx).1
  rw [show k = 0 by omega] at hx
  cases hx
  exact ⟨_, hc, (u_born ty hts hin hKn hkC e1 hty).to hfs⟩
theorem jiV {p : Program} {l : Launch} {e : Env} {R : Room} {s : State} {m : MethodId} {args : Array Value} {below : List Frame} {meth : Method} {c : Code} {H : Heap} {locs : List Loc} {cells slots : Nat} {Q : State → Prop} {cc : ByteArray} {pc : Nat} {ls : Array Slot} {rest : List Value} {ws0 : List Cond} {dC : Nat → ClassId} {dI : Nat → Nat → Nat} {cB cI cJ cZ cS cO : ClassId} {b : Nat} {cs : CS} {A : Nat → Prop} {y : MethodName} {bytes : ByteArray} {maxL n fr nL index : Nat} {ws : List Cond} {As : List Value} {K V : Nat → Nat} {fz : Value} {own : String} {i : Nat} {cs9 : CS} (hx : p.tables.exec = Jvm.exec) (hb : c.code = cc) (hml : c.maxLocals = nL) (hts : ∀ w ∈ ws0, w.before args s = true) (hown : s.vm.findClass own = some m.cls) (hK : va_K (dC, dI) vwCl [(cB, .byte), (cI, .int), (cJ, .long), (cZ, .boolean), (cS, .object "StreamQueries$Source"), (cO, .object "java/lang/Object")] s) (hP : va_P (dC, dI) vwCl (cW cB cI cJ cZ cS cO b cs) H) (hD : va_D A (cW cB cI cJ cZ cS cO b cs)) (hS : va_S A s.heap H locs) (hA : ∀ q, s.heap.size ≤ q → A q) (hz : H.size = b + kK cs) (hcc : s.heap.size + cells = b + kK cs) (hZ : zE K V fz A s) (hok : oaV l dC dI cB cI cJ cZ cS cO b K V fz y ws fr (.ref (b + i) :: As) cs cs9) (cw : CallB R s args own index y bytes maxL none ws ({ frames := fr, cells := kK cs9 - kK cs, slots := kM cs9 - kM cs, locals := 60 * fr } : Room) (kK cs9 - kK cs) (kM cs9 - kM cs) n ∧ y.name = "<init>" ∧ (Cond.instanceMethod y).before args s = true) (hn : As.length = n) (hsz : ls.size = nL) (h8 : (rest.map fun v => v.category).sum ≤ 8) (hR : cells + (kK cs9 - kK cs) ≤ R.cells ∧ slots + (kM cs9 - kM cs) ≤ R.slots) (hdg : decode cc pc = .ok (.invokespecial index, 3)) (kk : ∀ (H1 : Heap) (locs1 : List Loc), va_P (dC, dI) vwCl (cW cB cI cJ cZ cS cO b cs9) H1 → va_D A (cW cB cI cJ cZ cS cO b cs9) → va_S A s.heap H1 locs1 → H1.size = b + kK cs9 → W p l e R s m args below meth c H1 locs1 (cells + (kK cs9 - kK cs)) (slots + (kM cs9 - kM cs)) Q (F0 m (pc + 3) ls rest)) : W p l e R s m args below meth c H locs cells slots Q (F0 m pc ls (As.reverse ++ .ref (b + i) :: rest)) := by
  refine va_callv (va_runI (As := As) (rest := rest) (b := b + i) ⟨hx, hb, hml, hown, hts⟩ hok.2 cw ⟨pcC_blind, (by rw [← hz]; exact pcC_pre hK hP hD hS hA hZ)⟩ (g := F0 m pc ls (As.reverse ++ .ref (b + i) :: rest)) rfl hn hsz rfl (lv_room h8) hdg hR) hS (fun q _ h => (fun q h => va_freeAll hD hS hA q (by rw [hz]; exact h)) q h) (fun q h => va_freeAll hD hS hA q (by rw [hz]; exact h)) (fun u t_ H1 locs1 ht hvm hw hB hz1 hk1 hS1 => ?_)
  refine W_sz (fun hu2 => ?_)
  obtain ⟨hP1, hD1, hge⟩ := hB
  rw [ht] at hge
  have hmo := hok.1.1
  exact kk H1 locs1 (by rw [← ht]; exact hP1) (hD1.weaken (fun _ q _ h => (fun q h => va_freeAll hD hS hA q (by rw [hz]; exact h)) q.1 h)) hS1 (by omega)
set_option maxRecDepth 100000 in
theorem law_loop {p : Program} {l : Launch} {e : Env} {s : State} {m : MethodId} {below : List Frame} {meth : Method} {c : Code} {dC : Nat → ClassId} {dI : Nat → Nat → Nat} {cB cI cJ cZ cS cO : ClassId} {bb L : Nat} {xs : Nat → Int32} {K V : Nat → Nat} {fz : Value} {A : Nat → Prop} {b h0 : Nat} {a : Nat → Nat} (C0 : lw_At p s m meth c bb L xs) (hZ : zE K V fz A s) (hA : ∀ q : Nat, s.heap.size ≤ q → A q) (hbA : ¬ A bb) (hbe : s.heap.size = b) (hK : va_K (dC, dI) vwCl [(cB, .byte), (cI, .int), (cJ, .long), (cZ, .boolean), (cS, .object "StreamQueries$Source"), (cO, .object "java/lang/Object")] s) {F : Nat} (hAf : ∀ q : Nat, A q → s.heap.size ≤ q) (hL : L ≤ 384) : ∀ (n i : Nat) {cs cs9 : CS} {rs rs9 : RS} {H : Heap} {locs : List Loc} {ls : Array Slot}, i + 6 * n ≤ L → L < i + 6 * n + 6 → va_P (dC, dI) vwCl (cW cB cI cJ cZ cS cO b cs ++ mW cB cI cJ cZ h0 a rs) H → va_D A (cW cB cI cJ cZ cS cO b cs ++ mW cB cI cJ cZ h0 a rs) → va_S A s.heap H locs → H.size = b + kK cs → LW F xs n i cs rs = some (cs9, rs9) → kK cs9 ≤ 600000 → kM cs9 ≤ 7302250 → lv_has ls 4 [(3, .int (nI i)), (2, .ref h0), (1, .ref (b + 0)), (0, .ref bb)] → W p l e room_1 s m #[Value.ref bb] below meth c H locs (kK cs) (kM cs) (lw_Z below #[Value.ref bb] s) (F0 m 18 ls [])
  | 0, i, cs, cs9, rs, rs9, H, locs, ls, hi, hi2, hP, hD, hS, hz, hf, hR1, hR2, hl => by
    have hf : some (cs, rs) = some (cs9, rs9) := hf
    cases hf
    obtain ⟨hx, hb, hr, hml, hown, hts, hX, hbl, hlocks, hgv⟩ := id C0
    refine lv_iload_n hx hb dL_law_18 rfl (lv_at hl 0 rfl) ?_
    refine lv_aload_n hx hb dL_law_19 rfl (lv_at hl 3 rfl) ?_
    refine va_slen hx hb hX hbl hbA hS dL_law_20 ?_
    refine lv_bipush (v := 6) hx hb dL_law_21 (by decide) ?_
    refine lv_isub hx hb dL_law_23 ?_
    refine lv_icmp_gt (tgt := 756) hx hb dL_law_24 (by decide) (fun c_ => ?_) (fun c_ => absurd ((lw_cmp hL (by omega)).mpr (by omega)) c_)
    refine lv_iconst (v := 1) hx hb dL_law_756 (by decide) ?_
    refine va_forget (fun q hq => hAf _ (hS.2.2 q hq)) ?_
    refine W.widen (k := 600000) (n := 7302250) hR1 hR2 ?_
    exact lw_ret hx hb hr hlocks dL_law_757
  | n + 1, i, cs, cs9, rs, rs9, H, locs, ls, hi, hi2, hP, hD, hS, hz, hf, hR1, hR2, hl => by
    obtain ⟨⟨cs1, rs1⟩, e1, hf⟩ := ob hf
    have hf : LW F xs n (i + 6) cs1 rs1 = some (cs9, rs9) := hf
    have hm := mo_LW n (i + 6) hf
    obtain ⟨hx, hb, hr, hml, hown, hts, hX, hbl, hlocks, hgv⟩ := id C0
    refine lv_iload_n hx hb dL_law_18 rfl (lv_at hl 0 rfl) ?_
    refine lv_aload_n hx hb dL_law_19 rfl (lv_at hl 3 rfl) ?_
    refine va_slen hx hb hX hbl hbA hS dL_law_20 ?_
    refine lv_bipush (v := 6) hx hb dL_law_21 (by decide) ?_
    refine lv_isub hx hb dL_law_23 ?_
    refine lv_icmp_gt (tgt := 756) hx hb dL_law_24 (by decide) (fun c_ => absurd ((lw_cmp hL (by omega)).mp c_) (by omega)) (fun c_ => ?_)
    refine lv_aload_n hx hb dL_law_27 rfl (lv_at hl 3 rfl) ?_
    refine lv_iload_n hx hb dL_law_28 rfl (lv_at hl 0 rfl) ?_
    refine va_sld hx hb hX hbl hbA hS (i := i) (vp_in_nI (n := i) (N := L) (by omega) (by omega)) dL_law_29 ?_
    refine lv_topi (fun y_ ey_ => ?_)
    have ey_ : y_ = xs i := ey_.trans (congrArg xs (nI_clamp (n := i) (by omega)))
    subst ey_
    refine lv_bipush (v := 31) hx hb dL_law_30 (by decide) ?_
    refine lv_iand hx hb dL_law_32 ?_
    obtain ⟨j, hj, ej⟩ := pk_andE (xs i) (m := 31) 5 (by decide)
    rw [ej]
    rw [ej, nI_clamp (n := j) (by omega)] at e1
    have kk : ∀ (H1 : Heap) (locs1 : List Loc), va_P (dC, dI) vwCl (cW cB cI cJ cZ cS cO b cs1 ++ mW cB cI cJ cZ h0 a rs1) H1 → va_D A (cW cB cI cJ cZ cS cO b cs1 ++ mW cB cI cJ cZ h0 a rs1) → va_S A s.heap H1 locs1 → H1.size = b + kK cs1 → W p l e room_1 s m #[Value.ref bb] below meth c H1 locs1 (kK cs1) (kM cs1) (lw_Z below #[Value.ref bb] s) (F0 m 750 ls []) := fun H1 locs1 hP1 hD1 hS1 hz1 => by
      refine lv_iinc (v := nI (i + 6)) (lv' := [(3, .int (nI (i + 6))), (2, .ref h0), (1, .ref (b + 0)), (0, .ref bb)]) hx hb dL_law_750 hl (k := 0) rfl (nI_inc i) (by decide) rfl (fun ls hl => ?_)
      refine lv_goto (tgt := 18) hx hb dL_law_753 (by decide) ?_
      exact law_loop C0 hZ hA hbA hbe hK hAf hL n (i + 6) (by omega) (by omega) hP1 hD1 hS1 hz1 hf hR1 hR2 hl
    match j, hj, e1 with
    | 0, _, e1 =>
      refine lv_tableIn (tgt := 128) (off := 95) hx hb dL_law_33 (by decide) (by decide) (by decide) (by decide) ?_
      exact ls_0 C0 hZ hA hbA hbe hK (by omega) hL hP hD hS hz e1 (by omega) (by omega) hl kk
    | 1, _, e1 =>
      refine lv_tableIn (tgt := 191) (off := 158) hx hb dL_law_33 (by decide) (by decide) (by decide) (by decide) ?_
      exact ls_1 C0 hZ hA hbA hbe hK (by omega) hL hP hD hS hz e1 (by omega) (by omega) hl kk
    | 2, _, e1 =>
      refine lv_tableIn (tgt := 214) (off := 181) hx hb dL_law_33 (by decide) (by decide) (by decide) (by decide) ?_
      exact ls_2 C0 hZ hA hbA hbe hK (by omega) hL hP hD hS hz e1 (by omega) (by omega) hl kk
    | 3, _, e1 =>
      refine lv_tableIn (tgt := 237) (off := 204) hx hb dL_law_33 (by decide) (by decide) (by decide) (by decide) ?_
      exact ls_3 C0 hZ hA hbA hbe hK (by omega) hL hP hD hS hz e1 (by omega) (by omega) hl kk
    | 4, _, e1 =>
      refine lv_tableIn (tgt := 250) (off := 217) hx hb dL_law_33 (by decide) (by decide) (by decide) (by decide) ?_
      exact ls_4 C0 hZ hA hbA hbe hK (by omega) hL hP hD hS hz e1 (by omega) (by omega) hl kk
    | 5, _, e1 =>
      refine lv_tableIn (tgt := 263) (off := 230) hx hb dL_law_33 (by decide) (by decide) (by decide) (by decide) ?_
      exact ls_5 C0 hZ hA hbA hbe hK (by omega) hL hP hD hS hz e1 (by omega) (by omega) hl kk
    | 6, _, e1 =>
      refine lv_tableIn (tgt := 316) (off := 283) hx hb dL_law_33 (by decide) (by decide) (by decide) (by decide) ?_
      exact ls_6 C0 hZ hA hbA hbe hK (by omega) hL hP hD hS hz e1 (by omega) (by omega) hl kk
    | 7, _, e1 =>
      refine lv_tableIn (tgt := 329) (off := 296) hx hb dL_law_33 (by decide) (by decide) (by decide) (by decide) ?_
      exact ls_7 C0 hZ hA hbA hbe hK (by omega) hL hP hD hS hz e1 (by omega) (by omega) hl kk
    | 8, _, e1 =>
      refine lv_tableIn (tgt := 392) (off := 359) hx hb dL_law_33 (by decide) (by decide) (by decide) (by decide) ?_
      exact ls_8 C0 hZ hA hbA hbe hK (by omega) hL hP hD hS hz e1 (by omega) (by omega) hl kk
    | 9, _, e1 =>
      refine lv_tableIn (tgt := 425) (off := 392) hx hb dL_law_33 (by decide) (by decide) (by decide) (by decide) ?_
      exact ls_9 C0 hZ hA hbA hbe hK (by omega) hL hP hD hS hz e1 (by omega) (by omega) hl kk
    | 10, _, e1 =>
      refine lv_tableIn (tgt := 478) (off := 445) hx hb dL_law_33 (by decide) (by decide) (by decide) (by decide) ?_
      exact ls_10 C0 hZ hA hbA hbe hK (by omega) hL hP hD hS hz e1 (by omega) (by omega) hl kk
    | 11, _, e1 =>
      refine lv_tableIn (tgt := 491) (off := 458) hx hb dL_law_33 (by decide) (by decide) (by decide) (by decide) ?_
      exact ls_11 C0 hZ hA hbA hbe hK (by omega) hL hP hD hS hz e1 (by omega) (by omega) hl kk
    | 12, _, e1 =>
      refine lv_tableIn (tgt := 514) (off := 481) hx hb dL_law_33 (by decide) (by decide) (by decide) (by decide) ?_
      exact ls_12 C0 hZ hA hbA hbe hK (by omega) hL hP hD hS hz e1 (by omega) (by omega) hl kk
    | 13, _, e1 =>
      refine lv_tableIn (tgt := 548) (off := 515) hx hb dL_law_33 (by decide) (by decide) (by decide) (by decide) ?_
      exact ls_13 C0 hZ hA hbA hbe hK (by omega) hL hP hD hS hz e1 (by omega) (by omega) hl kk
    | 14, _, e1 =>
      refine lv_tableIn (tgt := 581) (off := 548) hx hb dL_law_33 (by decide) (by decide) (by decide) (by decide) ?_
      exact ls_14 C0 hZ hA hbA hbe hK (by omega) hL hP hD hS hz e1 (by omega) (by omega) hl kk
    | 15, _, e1 =>
      refine lv_tableIn (tgt := 594) (off := 561) hx hb dL_law_33 (by decide) (by decide) (by decide) (by decide) ?_
      exact ls_15 C0 hZ hA hbA hbe hK (by omega) hL hP hD hS hz e1 (by omega) (by omega) hl kk
    | 16, _, e1 =>
      refine lv_tableIn (tgt := 628) (off := 595) hx hb dL_law_33 (by decide) (by decide) (by decide) (by decide) ?_
      exact ls_16 C0 hZ hA hbA hbe hK (by omega) hL hP hD hS hz e1 (by omega) (by omega) hl kk
    | 17, _, e1 =>
      refine lv_tableIn (tgt := 661) (off := 628) hx hb dL_law_33 (by decide) (by decide) (by decide) (by decide) ?_
      exact ls_17 C0 hZ hA hbA hbe hK (by omega) hL hP hD hS hz e1 (by omega) (by omega) hl kk
    | 18, _, e1 =>
      refine lv_tableIn (tgt := 684) (off := 651) hx hb dL_law_33 (by decide) (by decide) (by decide) (by decide) ?_
      exact ls_18 C0 hZ hA hbA hbe hK (by omega) hL hP hD hS hz e1 (by omega) (by omega) hl kk
    | 19, _, e1 =>
      refine lv_tableIn (tgt := 727) (off := 694) hx hb dL_law_33 (by decide) (by decide) (by decide) (by decide) ?_
      exact ls_19 C0 hZ hA hbA hbe hK (by omega) hL hP hD hS hz e1 (by omega) (by omega) hl kk
    | 20, _, e1 =>
      have e1 : some (cs, rs) = some (cs1, rs1) := e1
      cases e1
      refine lv_tableOut (tgt := 750) hx hb dL_law_33 (by decide) (by decide) ?_
      exact kk H locs hP hD hS hz
    | 21, _, e1 =>
      have e1 : some (cs, rs) = some (cs1, rs1) := e1
      cases e1
      refine lv_tableOut (tgt := 750) hx hb dL_law_33 (by decide) (by decide) ?_
      exact kk H locs hP hD hS hz
    | 22, _, e1 =>
      have e1 : some (cs, rs) = some (cs1, rs1) := e1
      cases e1
      refine lv_tableOut (tgt := 750) hx hb dL_law_33 (by decide) (by decide) ?_
      exact kk H locs hP hD hS hz
    | 23, _, e1 =>
      have e1 : some (cs, rs) = some (cs1, rs1) := e1
      cases e1
      refine lv_tableOut (tgt := 750) hx hb dL_law_33 (by decide) (by decide) ?_
      exact kk H locs hP hD hS hz
    | 24, _, e1 =>
      have e1 : some (cs, rs) = some (cs1, rs1) := e1
      cases e1
      refine lv_tableOut (tgt := 750) hx hb dL_law_33 (by decide) (by decide) ?_
      exact kk H locs hP hD hS hz
    | 25, _, e1 =>
      have e1 : some (cs, rs) = some (cs1, rs1) := e1
      cases e1
      refine lv_tableOut (tgt := 750) hx hb dL_law_33 (by decide) (by decide) ?_
      exact kk H locs hP hD hS hz
    | 26, _, e1 =>
      have e1 : some (cs, rs) = some (cs1, rs1) := e1
      cases e1
      refine lv_tableOut (tgt := 750) hx hb dL_law_33 (by decide) (by decide) ?_
      exact kk H locs hP hD hS hz
    | 27, _, e1 =>
      have e1 : some (cs, rs) = some (cs1, rs1) := e1
      cases e1
      refine lv_tableOut (tgt := 750) hx hb dL_law_33 (by decide) (by decide) ?_
      exact kk H locs hP hD hS hz
    | 28, _, e1 =>
      have e1 : some (cs, rs) = some (cs1, rs1) := e1
      cases e1
      refine lv_tableOut (tgt := 750) hx hb dL_law_33 (by decide) (by decide) ?_
      exact kk H locs hP hD hS hz
    | 29, _, e1 =>
      have e1 : some (cs, rs) = some (cs1, rs1) := e1
      cases e1
      refine lv_tableOut (tgt := 750) hx hb dL_law_33 (by decide) (by decide) ?_
      exact kk H locs hP hD hS hz
    | 30, _, e1 =>
      have e1 : some (cs, rs) = some (cs1, rs1) := e1
      cases e1
      refine lv_tableOut (tgt := 750) hx hb dL_law_33 (by decide) (by decide) ?_
      exact kk H locs hP hD hS hz
    | 31, _, e1 =>
      have e1 : some (cs, rs) = some (cs1, rs1) := e1
      cases e1
      refine lv_tableOut (tgt := 750) hx hb dL_law_33 (by decide) (by decide) ?_
      exact kk H locs hP hD hS hz
    | k + 32, h, _ => exact absurd h (by omega)
set_option maxRecDepth 100000 in
theorem law_from {p : Program} {e : Env} {s : State} {m : MethodId} {below : List Frame} {meth : Method} {c : Code} (l : Launch) {bb L : Nat} {xs : Nat → Int32} (hL : L ≤ 384) (C0 : lw_At p s m meth c bb L xs) {F n : Nat} {cs1 cs9 : CS} {rs9 : RS} (hI : c_X11_init F (nO csE 12 16) 0 = some cs1) (h1 : 6 * n ≤ L) (h2 : L < 6 * n + 6) (hf : LW F xs n 0 (kJmp cs1) rsE = some (cs9, rs9)) (hR1 : kK cs9 ≤ 600000) (hR2 : kM cs9 ≤ 7302250) : W p l e room_1 s m #[Value.ref bb] below meth c s.heap [] 0 0 (lw_Z below #[Value.ref bb] s) (entryFrame m ([Value.ref bb] : List Value).toArray 4) := by
  obtain ⟨hx, hb, hr, hml, hown, hts, hX, hbl, hlocks, hgv⟩ := id C0
  obtain ⟨K, V, fz, hZ⟩ := zE_start hts hgv
  obtain ⟨dC, dI, cB, cI, cJ, cZ, cS, cO, hK⟩ := ks_start hts
  obtain ⟨A, hAe⟩ : ∃ A : Nat → Prop, A = fun q : Nat => s.heap.size ≤ q := ⟨_, rfl⟩
  rw [← hAe] at hZ
  have hA : ∀ q : Nat, s.heap.size ≤ q → A q := by rw [hAe]; exact fun _ h => h
  have hAf : ∀ q : Nat, A q → s.heap.size ≤ q := by rw [hAe]; exact fun _ h => h
  have hbA : ¬ A bb := fun h => absurd (hAf bb h) (Nat.not_le.mpr hbl)
  have hS : va_S A s.heap s.heap [] := va_S.rf
  obtain ⟨b, hbe⟩ : ∃ b, s.heap.size = b := ⟨_, rfl⟩
  have hw0 : cW cB cI cJ cZ cS cO b csE = [] := rfl
  have hP : va_P (dC, dI) vwCl (cW cB cI cJ cZ cS cO b csE) s.heap := fun k q h => by rw [hw0] at h; simp at h
  have hD : va_D A (cW cB cI cJ cZ cS cO b csE) := ⟨fun i j p q h => by rw [hw0] at h; simp at h, fun k q h => by rw [hw0] at h; simp at h⟩
  have hmoL := mo_LW n 0 hf
  have hkJ1 : kK (kJmp cs1) = kK cs1 + 78 := rfl
  have hkJ2 : kM (kJmp cs1) = kM cs1 + 877544 := rfl
  have hokI := sa_X11_init l dC dI cB cI cJ cZ cS cO b K V fz F (nO csE 12 16) 0 cs1 hI
  have hmo := hokI.1
  have hk0 : kK (nO csE 12 16) = 1 := rfl
  have hk1 : kM (nO csE 12 16) = 16 := rfl
  have hl := lv_entry ([.ref bb]) (n := 4) (Nat.le_of_ble_eq_true rfl)
  rw [lg_entry_eq]
  generalize (lg_sl ([.ref bb]) ++ List.replicate (4 - (lg_sl ([.ref bb])).length) Slot.unset).toArray = ls at hl ⊢
  have hl : lv_has ls 4 [(0, .ref bb)] := hl
  refine lw_new (ci := 12) (fs := (tyX 12).map dv) (C := RX11) (T := TX11) (N := 16) (q0 := b) hx hb hts (fun w h => kG_in (uG_X11 w h)) tyX11 tyX11_ok hown (hts _ (kG_in kw_208)) (hts _ (kG_in kw_209)) (hts _ (kG_in kw_181)) hK hP hD hS hA rfl (by decide +kernel) hbe ⟨Nat.le_of_ble_eq_true rfl, Nat.le_of_ble_eq_true rfl⟩ dL_law_0 (fun H hP hD hS hz => ?_)
  have hew : cW cB cI cJ cZ cS cO b (nO csE 12 16) = cW cB cI cJ cZ cS cO b csE ++ [(b, .inr (12, (tyX 12).map dv))] := cW_new (by decide) (fun q h => by cases h)
  rw [← hew] at hP hD
  refine lv_dup hx hb dL_law_3 rfl ?_
  refine jiV (nL := 4) (As := []) (rest := [.ref b]) (i := 0) hx hb hml hts hown hK hP hD hS hA hz (by rw [hbe]; rfl) hZ hokI (cwI 0 hts (gd_law (in_I kc_X11_init)) rfl rfl rfl (hts _ (kG_in kw_181)) (hts _ (kG_in kw_210)) (hts _ (kG_in kw_211)) rfl (by decide +kernel) ⟨Nat.le_of_ble_eq_true rfl, Nat.le_of_ble_eq_true rfl⟩) rfl hl.1 (Nat.le_of_ble_eq_true rfl) ⟨by show 0 + 1 + (kK cs1 - kK (nO csE 12 16)) ≤ 600000; omega, by show 0 + 16 + (kM cs1 - kM (nO csE 12 16)) ≤ 7302250; omega⟩ dL_law_4 (fun H1 locs1 hP hD hS hz => ?_)
  rw [show 0 + 1 + (kK cs1 - kK (nO csE 12 16)) = kK cs1 by omega, show 0 + 16 + (kM cs1 - kM (nO csE 12 16)) = kM cs1 by omega]
  refine lv_astore_n (lv' := [(1, .ref b), (0, .ref bb)]) hx hb dL_law_7 rfl hl (by decide) rfl (fun ls hl => ?_)
  obtain ⟨h0, hh0⟩ : ∃ h0, b + kK cs1 = h0 := ⟨_, rfl⟩
  rw [hh0] at hz
  refine lw_new (ci := 13) (fs := [.null, .int 0, .null, .int 0, .int 0, .null, .null, .null, .null, .null, .long 0, .int 0, .null, .null, .null, .null, .null, .null, .int 0, .int 0, .int 0, .int 0, .int 0, .null, .null, .null, .null, .null, .null, .null, .null, .null, .null, .null, .int 0, .null, .null, .null, .null, .null, .null, .null, .null, .null, .null, .null, .null, .null, .null, .null, .null, .null, .null, .null, .null, .null, .null, .null, .null, .int 0, .null, .null, .null, .null, .null, .null, .null, .null, .null, .int 0, .int 0, .int 0, .int 0, .int 0, .int 0, .int 0, .int 0, .int 0, .int 0, .null, .null, .int 0, .int 0, .null, .int 0, .null, .null, .int 0, .null, .null, .null, .int 0, .int 0, .int 0, .int 0, .int 0, .int 0, .int 0, .null, .null, .int 0, .int 0, .null, .null, .int 0, .null, .null, .int 0, .null, .null, .int 0, .null, .null, .null, .null]) (C := RX12) (T := TX12) (N := 115) (q0 := h0) hx hb hts (fun w h => kG_in (uG_X12 w h)) tyX12 tyX12_ok hown (hts _ (kG_in kw_1683)) (hts _ (kG_in kw_1684)) (hts _ (kG_in kw_191)) hK hP hD hS hA rfl (by decide +kernel) hz ⟨by show kK cs1 + 1 ≤ 600000; omega, by show kM cs1 + 115 ≤ 7302250; omega⟩ dL_law_8 (fun H2 hP hD hS hz2 => ?_)
  refine lv_dup hx hb dL_law_11 rfl ?_
  have hPc := hP.right
  have hDc := hD.right
  have hKc := hK.sub (tys' := [(cB, .byte), (cI, .int), (cJ, .long), (cZ, .boolean)]) [0, 1, 2, 3] rfl
  have hFc := va_freeAll hDc hS hA
  refine va_callv (va_runI (As := []) (rest := [.ref h0]) ⟨hx, hb, hml, hown, hts⟩ (t_X12_init l dC dI H2.size cB cI cJ cZ h0) (cwI 0 hts (gd_law (in_I kc_X12_init)) rfl rfl rfl (hts _ (kG_in kw_191)) (hts _ (kG_in kw_1685)) (hts _ (kG_in kw_1686)) rfl (by decide +kernel) ⟨Nat.le_of_ble_eq_true rfl, Nat.le_of_ble_eq_true rfl⟩) ⟨fun a U g mk q => by obtain ⟨q0, q1, qP, qK, qD⟩ := q; exact ⟨q0, q1, qP, va_K.moved (u := U) (U := U.calling g mk a) (Vm.Alike.refl U.vm) qK, qD⟩, fun U hU hW => ⟨rfl, by rw [hU], by rw [hU]; exact hPc, va_K.moved hW.alike hKc, hDc.weaken (fun _ _ _ _ => trivial)⟩⟩ rfl rfl hl.1 rfl (lv_room (Nat.le_of_ble_eq_true rfl)) dL_law_12 ⟨by show kK cs1 + 1 + 77 ≤ 600000; omega, by show kM cs1 + 115 + 877429 ≤ 7302250; omega⟩) hS (fun q _ h => hFc q h) hFc (fun u t_ H3 locs3 ht hvm hw hB hz3 hk3 hS3 => ?_)
  obtain ⟨a, hP1, hK1, hD1⟩ := hB
  rw [ht] at hP1
  have hP1 : va_P (dC, dI) vwCl (mW cB cI cJ cZ h0 a rsE) H3 := hP1
  have hD1 : va_D (va_A [(h0, .inr (13, [.null, .int 0, .null, .int 0, .int 0, .null, .null, .null, .null, .null, .long 0, .int 0, .null, .null, .null, .null, .null, .null, .int 0, .int 0, .int 0, .int 0, .int 0, .null, .null, .null, .null, .null, .null, .null, .null, .null, .null, .null, .int 0, .null, .null, .null, .null, .null, .null, .null, .null, .null, .null, .null, .null, .null, .null, .null, .null, .null, .null, .null, .null, .null, .null, .null, .null, .int 0, .null, .null, .null, .null, .null, .null, .null, .null, .null, .int 0, .int 0, .int 0, .int 0, .int 0, .int 0, .int 0, .int 0, .int 0, .int 0, .null, .null, .int 0, .int 0, .null, .int 0, .null, .null, .int 0, .null, .null, .null, .int 0, .int 0, .int 0, .int 0, .int 0, .int 0, .int 0, .null, .null, .int 0, .int 0, .null, .null, .int 0, .null, .null, .int 0, .null, .null, .int 0, .null, .null, .null, .null]))] H2.size) (mW cB cI cJ cZ h0 a rsE) := hD1
  have hj := joinF (va_P_sw hP) (va_D_sw hD) (Nat.le_refl _) hk3 hP1 hD1 hFc
  refine W_sz (fun hu => ?_)
  have hgr := va_grown (h0 := h0) (sz := H2.size) hP1 hD1 (fun q hq => by
    rcases hq with ⟨k, e, hk⟩ | h
    · have hk1 : k < 1 := (List.getElem?_eq_some_iff.mp hk).1
      rw [show k = 0 by omega] at hk
      cases hk
      exact Or.inl rfl
    · exact Or.inr h) (by have := hS3.1; omega)
  have hlen : (mW cB cI cJ cZ h0 a rsE).length = 78 := rfl
  have hz4 : H3.size = b + kK (kJmp cs1) := by omega
  rw [show kK cs1 + 1 + 77 = kK (kJmp cs1) by omega, show kM cs1 + 115 + 877429 = kM (kJmp cs1) by omega]
  refine lv_astore_n (lv' := [(2, .ref h0), (1, .ref b), (0, .ref bb)]) hx hb dL_law_15 rfl hl (by decide) rfl (fun ls hl => ?_)
  refine lv_iconst (v := 0) hx hb dL_law_16 (by decide) ?_
  refine lv_istore_n (lv' := [(3, .int 0), (2, .ref h0), (1, .ref b), (0, .ref bb)]) hx hb dL_law_17 rfl hl (by decide) rfl (fun ls hl => ?_)
  have hl : lv_has ls 4 [(3, .int (nI 0)), (2, .ref h0), (1, .ref (b + 0)), (0, .ref bb)] := hl
  have hPf : va_P (dC, dI) vwCl (cW cB cI cJ cZ cS cO b (kJmp cs1) ++ mW cB cI cJ cZ h0 a rsE) H3 := va_P_sw hj.1
  have hDf : va_D A (cW cB cI cJ cZ cS cO b (kJmp cs1) ++ mW cB cI cJ cZ h0 a rsE) := va_D_sw hj.2
  exact law_loop C0 hZ hA hbA hbe hK hAf hL n 0 (by omega) (by omega) hPf hDf hS3 hz4 hf hR1 hR2 hl

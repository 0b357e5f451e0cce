/-! the law: start and loop -/
noncomputable def csE : CS := ((0, 0, []), fun _ _ => 0, fun _ _ => 0, fun _ _ => none, fun _ _ => none, fun _ _ _ => 0, fun _ _ _ => 0, fun _ _ _ => none, fun _ _ => 0)
noncomputable def rsE : RS := (fun _ => 0, -9223372036854775808, fun _ _ => 0, fun _ _ => 0)
noncomputable def kJmp (cs : CS) : CS := ((kK cs + 78, kM cs + 877544, kE cs), cs.2)
noncomputable def LW (F : Nat) (xs : Nat → Int32) : Nat → Nat → CS → RS → Option (CS × RS)
  | 0, _, cs, rs => some (cs, rs)
  | n + 1, i, cs, rs => Option.bind (LK F cs rs ((xs i &&& 31).toNatClampNeg) (xs (i + 1)) (xs (i + 2)) (xs (i + 3)) (xs (i + 4)) (xs (i + 5))) fun z => LW F xs n (i + 6) z.1 z.2
theorem LK_0 (F : Nat) (cs : CS) (rs : RS) (x1 x2 x3 x4 x5 : Int32) : LK F cs rs 0 x1 x2 x3 x4 x5 = lk_0 F cs rs x1 x2 x3 x4 x5 := rfl
theorem LK_1 (F : Nat) (cs : CS) (rs : RS) (x1 x2 x3 x4 x5 : Int32) : LK F cs rs 1 x1 x2 x3 x4 x5 = lk_1 F cs rs x1 x2 x3 x4 x5 := rfl
theorem LK_2 (F : Nat) (cs : CS) (rs : RS) (x1 x2 x3 x4 x5 : Int32) : LK F cs rs 2 x1 x2 x3 x4 x5 = lk_2 F cs rs x1 x2 x3 x4 x5 := rfl
theorem LK_3 (F : Nat) (cs : CS) (rs : RS) (x1 x2 x3 x4 x5 : Int32) : LK F cs rs 3 x1 x2 x3 x4 x5 = lk_3 F cs rs x1 x2 x3 x4 x5 := rfl
theorem LK_4 (F : Nat) (cs : CS) (rs : RS) (x1 x2 x3 x4 x5 : Int32) : LK F cs rs 4 x1 x2 x3 x4 x5 = lk_4 F cs rs x1 x2 x3 x4 x5 := rfl
theorem LK_5 (F : Nat) (cs : CS) (rs : RS) (x1 x2 x3 x4 x5 : Int32) : LK F cs rs 5 x1 x2 x3 x4 x5 = lk_5 F cs rs x1 x2 x3 x4 x5 := rfl
theorem LK_6 (F : Nat) (cs : CS) (rs : RS) (x1 x2 x3 x4 x5 : Int32) : LK F cs rs 6 x1 x2 x3 x4 x5 = lk_6 F cs rs x1 x2 x3 x4 x5 := rfl
theorem LK_7 (F : Nat) (cs : CS) (rs : RS) (x1 x2 x3 x4 x5 : Int32) : LK F cs rs 7 x1 x2 x3 x4 x5 = lk_7 F cs rs x1 x2 x3 x4 x5 := rfl
theorem LK_8 (F : Nat) (cs : CS) (rs : RS) (x1 x2 x3 x4 x5 : Int32) : LK F cs rs 8 x1 x2 x3 x4 x5 = lk_8 F cs rs x1 x2 x3 x4 x5 := rfl
theorem LK_9 (F : Nat) (cs : CS) (rs : RS) (x1 x2 x3 x4 x5 : Int32) : LK F cs rs 9 x1 x2 x3 x4 x5 = lk_9 F cs rs x1 x2 x3 x4 x5 := rfl
theorem LK_10 (F : Nat) (cs : CS) (rs : RS) (x1 x2 x3 x4 x5 : Int32) : LK F cs rs 10 x1 x2 x3 x4 x5 = lk_10 F cs rs x1 x2 x3 x4 x5 := rfl
theorem LK_11 (F : Nat) (cs : CS) (rs : RS) (x1 x2 x3 x4 x5 : Int32) : LK F cs rs 11 x1 x2 x3 x4 x5 = lk_11 F cs rs x1 x2 x3 x4 x5 := rfl
theorem LK_12 (F : Nat) (cs : CS) (rs : RS) (x1 x2 x3 x4 x5 : Int32) : LK F cs rs 12 x1 x2 x3 x4 x5 = lk_12 F cs rs x1 x2 x3 x4 x5 := rfl
theorem LK_13 (F : Nat) (cs : CS) (rs : RS) (x1 x2 x3 x4 x5 : Int32) : LK F cs rs 13 x1 x2 x3 x4 x5 = lk_13 F cs rs x1 x2 x3 x4 x5 := rfl
theorem LK_14 (F : Nat) (cs : CS) (rs : RS) (x1 x2 x3 x4 x5 : Int32) : LK F cs rs 14 x1 x2 x3 x4 x5 = lk_14 F cs rs x1 x2 x3 x4 x5 := rfl
theorem LK_15 (F : Nat) (cs : CS) (rs : RS) (x1 x2 x3 x4 x5 : Int32) : LK F cs rs 15 x1 x2 x3 x4 x5 = lk_15 F cs rs x1 x2 x3 x4 x5 := rfl
theorem LK_16 (F : Nat) (cs : CS) (rs : RS) (x1 x2 x3 x4 x5 : Int32) : LK F cs rs 16 x1 x2 x3 x4 x5 = lk_16 F cs rs x1 x2 x3 x4 x5 := rfl
theorem LK_17 (F : Nat) (cs : CS) (rs : RS) (x1 x2 x3 x4 x5 : Int32) : LK F cs rs 17 x1 x2 x3 x4 x5 = lk_17 F cs rs x1 x2 x3 x4 x5 := rfl
theorem LK_18 (F : Nat) (cs : CS) (rs : RS) (x1 x2 x3 x4 x5 : Int32) : LK F cs rs 18 x1 x2 x3 x4 x5 = lk_18 F cs rs x1 x2 x3 x4 x5 := rfl
theorem LK_19 (F : Nat) (cs : CS) (rs : RS) (x1 x2 x3 x4 x5 : Int32) : LK F cs rs 19 x1 x2 x3 x4 x5 = lk_19 F cs rs x1 x2 x3 x4 x5 := rfl
theorem LK_o (F : Nat) (cs : CS) (rs : RS) (k : Nat) (x1 x2 x3 x4 x5 : Int32) : LK F cs rs (k + 20) x1 x2 x3 x4 x5 = some (cs, rs) := rfl
theorem LW_0 (F : Nat) (xs : Nat → Int32) (i : Nat) (cs : CS) (rs : RS) : LW F xs 0 i cs rs = some (cs, rs) := rfl
theorem LW_s (F : Nat) (xs : Nat → Int32) (n i : Nat) (cs : CS) (rs : RS) : LW F xs (n + 1) i cs rs = Option.bind (LK F cs rs ((xs i &&& 31).toNatClampNeg) (xs (i + 1)) (xs (i + 2)) (xs (i + 3)) (xs (i + 4)) (xs (i + 5))) fun z => LW F xs n (i + 6) z.1 z.2 := rfl

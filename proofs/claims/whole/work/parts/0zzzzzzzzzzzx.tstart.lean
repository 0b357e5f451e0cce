/-! the start -/
noncomputable def z0 : CS := nO csE 12 16
theorem zE0 : kE z0 = [(12, 0)] := rfl
theorem zK0 : kK z0 = 1 := rfl
theorem zM0 : kM z0 = 16 := rfl
theorem nwA_z {cs : CS} {X t i n : Nat} {x : Int32} (h : (X, i) ∈ kE cs) (h1 : ¬ x < 0) (h2 : x.toNatClampNeg = n) (h3 : n ≤ 10000000) : nwA cs X t i x = some (nA cs t i n (fun _ => 0) (fun _ => 0)) := by
  unfold nwA
  rw [h2]
  exact if_pos ⟨h, h1, h3⟩
theorem zE_nA {cs : CS} {t i n : Nat} {f : Nat → Int32} {g : Nat → Int64} {L : List (Nat × Nat)} (h : kE cs = L) (hn : (32 + t, i) ∉ L) : kE (nA cs t i n f g) = L ++ [(32 + t, i)] := by
  show (if (32 + t, i) ∈ kE cs then kE cs else kE cs ++ [(32 + t, i)]) = _
  rw [h]
  exact if_neg hn
theorem zE_nO {cs : CS} {X n k : Nat} {L : List (Nat × Nat)} (h : kE cs = L) (hk : kK cs = k) : kE (nO cs X n) = L ++ [(X, k)] := by
  show kE cs ++ [(X, kK cs)] = _
  rw [h, hk]
theorem zK_nA {cs : CS} {t i n k : Nat} {f : Nat → Int32} {g : Nat → Int64} (hk : kK cs = k) : kK (nA cs t i n f g) = k + 1 := by
  show kK cs + 1 = _
  rw [hk]
theorem zM_nA {cs : CS} {t i n k : Nat} {f : Nat → Int32} {g : Nat → Int64} (hk : kM cs = k) : kM (nA cs t i n f g) = k + n := by
  show kM cs + n = _
  rw [hk]
theorem zK_nO {cs : CS} {X n k : Nat} (hk : kK cs = k) : kK (nO cs X n) = k + 1 := by
  show kK cs + 1 = _
  rw [hk]
theorem zM_nO {cs : CS} {X n k : Nat} (hk : kM cs = k) : kM (nO cs X n) = k + n := by
  show kM cs + n = _
  rw [hk]
noncomputable def z1 : CS := nA z0 384 0 2000 (fun _ => 0) (fun _ => 0)
theorem n_z1 : nwA z0 12 384 0 2000 = some z1 := nwA_z (by rw [zE0]; decide) (by decide) (by decide) (by decide)
theorem zE1 : kE z1 = [(12, 0), (416, 0)] := zE_nA zE0 (by decide)
theorem zK1 : kK z1 = 2 := zK_nA zK0
theorem zM1 : kM z1 = 2016 := zM_nA zM0
noncomputable def z2 : CS := nO z1 8 9
theorem n_z2 : nwO z1 8 9 = some z2 := if_pos (by rw [zE1, zK1]; decide)
theorem zE2 : kE z2 = [(12, 0), (416, 0), (8, 2)] := zE_nO zE1 zK1
theorem zK2 : kK z2 = 3 := zK_nO zK1
theorem zM2 : kM z2 = 2025 := zM_nO zM1
noncomputable def z3 : CS := sJ z2 257 2 (-9223372036854775808)
theorem n_z3 : pJ z2 8 257 2 (-9223372036854775808) = some z3 := pJ_ok (by rw [zE2]; decide)
theorem zE3 : kE z3 = [(12, 0), (416, 0), (8, 2)] := zE2
theorem zK3 : kK z3 = 3 := zK2
theorem zM3 : kM z3 = 2025 := zM2
noncomputable def z4 : CS := nA z3 258 2 6 (fun _ => 0) (fun _ => 0)
theorem n_z4 : nwA z3 8 258 2 6 = some z4 := nwA_z (by rw [zE3]; decide) (by decide) (by decide) (by decide)
theorem zE4 : kE z4 = [(12, 0), (416, 0), (8, 2), (290, 2)] := zE_nA zE3 (by decide)
theorem zK4 : kK z4 = 4 := zK_nA zK3
theorem zM4 : kM z4 = 2031 := zM_nA zM3
noncomputable def z5 : CS := nA z4 259 2 240 (fun _ => 0) (fun _ => 0)
theorem n_z5 : nwA z4 8 259 2 240 = some z5 := nwA_z (by rw [zE4]; decide) (by decide) (by decide) (by decide)
theorem zE5 : kE z5 = [(12, 0), (416, 0), (8, 2), (290, 2), (291, 2)] := zE_nA zE4 (by decide)
theorem zK5 : kK z5 = 5 := zK_nA zK4
theorem zM5 : kM z5 = 2271 := zM_nA zM4
noncomputable def z6 : CS := nA z5 260 2 240 (fun _ => 0) (fun _ => 0)
theorem n_z6 : nwA z5 8 260 2 240 = some z6 := nwA_z (by rw [zE5]; decide) (by decide) (by decide) (by decide)
theorem zE6 : kE z6 = [(12, 0), (416, 0), (8, 2), (290, 2), (291, 2), (292, 2)] := zE_nA zE5 (by decide)
theorem zK6 : kK z6 = 6 := zK_nA zK5
theorem zM6 : kM z6 = 2511 := zM_nA zM5
noncomputable def z7 : CS := nA z6 261 2 48 (fun _ => 0) (fun _ => 0)
theorem n_z7 : nwA z6 8 261 2 48 = some z7 := nwA_z (by rw [zE6]; decide) (by decide) (by decide) (by decide)
theorem zE7 : kE z7 = [(12, 0), (416, 0), (8, 2), (290, 2), (291, 2), (292, 2), (293, 2)] := zE_nA zE6 (by decide)
theorem zK7 : kK z7 = 7 := zK_nA zK6
theorem zM7 : kM z7 = 2559 := zM_nA zM6
noncomputable def z8 : CS := nA z7 262 2 4 (fun _ => 0) (fun _ => 0)
theorem n_z8 : nwA z7 8 262 2 4 = some z8 := nwA_z (by rw [zE7]; decide) (by decide) (by decide) (by decide)
theorem zE8 : kE z8 = [(12, 0), (416, 0), (8, 2), (290, 2), (291, 2), (292, 2), (293, 2), (294, 2)] := zE_nA zE7 (by decide)
theorem zK8 : kK z8 = 8 := zK_nA zK7
theorem zM8 : kM z8 = 2563 := zM_nA zM7
noncomputable def z9 : CS := nA z8 263 2 4 (fun _ => 0) (fun _ => 0)
theorem n_z9 : nwA z8 8 263 2 4 = some z9 := nwA_z (by rw [zE8]; decide) (by decide) (by decide) (by decide)
theorem zE9 : kE z9 = [(12, 0), (416, 0), (8, 2), (290, 2), (291, 2), (292, 2), (293, 2), (294, 2), (295, 2)] := zE_nA zE8 (by decide)
theorem zK9 : kK z9 = 9 := zK_nA zK8
theorem zM9 : kM z9 = 2567 := zM_nA zM8
noncomputable def z10 : CS := sR z9 386 0 (some 2)
theorem n_z10 : pR z9 12 386 0 (some 2) = some z10 := pR_ok (by rw [zE9]; decide)
theorem zE10 : kE z10 = [(12, 0), (416, 0), (8, 2), (290, 2), (291, 2), (292, 2), (293, 2), (294, 2), (295, 2)] := zE9
theorem zK10 : kK z10 = 9 := zK9
theorem zM10 : kM z10 = 2567 := zM9
noncomputable def z11 : CS := nO z10 11 7
theorem n_z11 : nwO z10 11 7 = some z11 := if_pos (by rw [zE10, zK10]; decide)
theorem zE11 : kE z11 = [(12, 0), (416, 0), (8, 2), (290, 2), (291, 2), (292, 2), (293, 2), (294, 2), (295, 2), (11, 9)] := zE_nO zE10 zK10
theorem zK11 : kK z11 = 10 := zK_nO zK10
theorem zM11 : kM z11 = 2574 := zM_nO zM10
noncomputable def z12 : CS := nA z11 352 9 2001 (fun _ => 0) (fun _ => 0)
theorem n_z12 : nwA z11 11 352 9 2001 = some z12 := nwA_z (by rw [zE11]; decide) (by decide) (by decide) (by decide)
theorem zE12 : kE z12 = [(12, 0), (416, 0), (8, 2), (290, 2), (291, 2), (292, 2), (293, 2), (294, 2), (295, 2), (11, 9), (384, 9)] := zE_nA zE11 (by decide)
theorem zK12 : kK z12 = 11 := zK_nA zK11
theorem zM12 : kM z12 = 4575 := zM_nA zM11
noncomputable def z13 : CS := nA z12 353 9 2001 (fun _ => 0) (fun _ => 0)
theorem n_z13 : nwA z12 11 353 9 2001 = some z13 := nwA_z (by rw [zE12]; decide) (by decide) (by decide) (by decide)
theorem zE13 : kE z13 = [(12, 0), (416, 0), (8, 2), (290, 2), (291, 2), (292, 2), (293, 2), (294, 2), (295, 2), (11, 9), (384, 9), (385, 9)] := zE_nA zE12 (by decide)
theorem zK13 : kK z13 = 12 := zK_nA zK12
theorem zM13 : kM z13 = 6576 := zM_nA zM12
noncomputable def z14 : CS := nA z13 354 9 2001 (fun _ => 0) (fun _ => 0)
theorem n_z14 : nwA z13 11 354 9 2001 = some z14 := nwA_z (by rw [zE13]; decide) (by decide) (by decide) (by decide)
theorem zE14 : kE z14 = [(12, 0), (416, 0), (8, 2), (290, 2), (291, 2), (292, 2), (293, 2), (294, 2), (295, 2), (11, 9), (384, 9), (385, 9), (386, 9)] := zE_nA zE13 (by decide)
theorem zK14 : kK z14 = 13 := zK_nA zK13
theorem zM14 : kM z14 = 8577 := zM_nA zM13
noncomputable def z15 : CS := nA z14 355 9 0 (fun _ => 0) (fun _ => 0)
theorem n_z15 : nwA z14 11 355 9 0 = some z15 := nwA_z (by rw [zE14]; decide) (by decide) (by decide) (by decide)
theorem zE15 : kE z15 = [(12, 0), (416, 0), (8, 2), (290, 2), (291, 2), (292, 2), (293, 2), (294, 2), (295, 2), (11, 9), (384, 9), (385, 9), (386, 9), (387, 9)] := zE_nA zE14 (by decide)
theorem zK15 : kK z15 = 14 := zK_nA zK14
theorem zM15 : kM z15 = 8577 := zM_nA zM14
noncomputable def z16 : CS := nA z15 358 9 39 (fun _ => 0) (fun _ => 0)
theorem n_z16 : nwA z15 11 358 9 39 = some z16 := nwA_z (by rw [zE15]; decide) (by decide) (by decide) (by decide)
theorem zE16 : kE z16 = [(12, 0), (416, 0), (8, 2), (290, 2), (291, 2), (292, 2), (293, 2), (294, 2), (295, 2), (11, 9), (384, 9), (385, 9), (386, 9), (387, 9), (390, 9)] := zE_nA zE15 (by decide)
theorem zK16 : kK z16 = 15 := zK_nA zK15
theorem zM16 : kM z16 = 8616 := zM_nA zM15
def wsL : List Int64 := (List.range 39).map (fun j => lN (tn j))
noncomputable def z17 : CS := xB z16 358 9 (fun x => if x < 39 then wsL.getD x 0 else 0)
theorem zE17 : kE z17 = [(12, 0), (416, 0), (8, 2), (290, 2), (291, 2), (292, 2), (293, 2), (294, 2), (295, 2), (11, 9), (384, 9), (385, 9), (386, 9), (387, 9), (390, 9)] := zE16
theorem zK17 : kK z17 = 15 := zK16
theorem zM17 : kM z17 = 8616 := zM16
noncomputable def z18 : CS := sR z17 387 0 (some 9)
theorem n_z18 : pR z17 12 387 0 (some 9) = some z18 := pR_ok (by rw [zE17]; decide)
theorem zE18 : kE z18 = [(12, 0), (416, 0), (8, 2), (290, 2), (291, 2), (292, 2), (293, 2), (294, 2), (295, 2), (11, 9), (384, 9), (385, 9), (386, 9), (387, 9), (390, 9)] := zE17
theorem zK18 : kK z18 = 15 := zK17
theorem zM18 : kM z18 = 8616 := zM17
noncomputable def z19 : CS := nO z18 9 4
theorem n_z19 : nwO z18 9 4 = some z19 := if_pos (by rw [zE18, zK18]; decide)
theorem zE19 : kE z19 = [(12, 0), (416, 0), (8, 2), (290, 2), (291, 2), (292, 2), (293, 2), (294, 2), (295, 2), (11, 9), (384, 9), (385, 9), (386, 9), (387, 9), (390, 9), (9, 15)] := zE_nO zE18 zK18
theorem zK19 : kK z19 = 16 := zK_nO zK18
theorem zM19 : kM z19 = 8620 := zM_nO zM18
noncomputable def z20 : CS := nA z19 288 15 64 (fun _ => 0) (fun _ => 0)
theorem n_z20 : nwA z19 9 288 15 64 = some z20 := nwA_z (by rw [zE19]; decide) (by decide) (by decide) (by decide)
theorem zE20 : kE z20 = [(12, 0), (416, 0), (8, 2), (290, 2), (291, 2), (292, 2), (293, 2), (294, 2), (295, 2), (11, 9), (384, 9), (385, 9), (386, 9), (387, 9), (390, 9), (9, 15), (320, 15)] := zE_nA zE19 (by decide)
theorem zK20 : kK z20 = 17 := zK_nA zK19
theorem zM20 : kM z20 = 8684 := zM_nA zM19
noncomputable def z21 : CS := nA z20 289 15 64 (fun _ => 0) (fun _ => 0)
theorem n_z21 : nwA z20 9 289 15 64 = some z21 := nwA_z (by rw [zE20]; decide) (by decide) (by decide) (by decide)
theorem zE21 : kE z21 = [(12, 0), (416, 0), (8, 2), (290, 2), (291, 2), (292, 2), (293, 2), (294, 2), (295, 2), (11, 9), (384, 9), (385, 9), (386, 9), (387, 9), (390, 9), (9, 15), (320, 15), (321, 15)] := zE_nA zE20 (by decide)
theorem zK21 : kK z21 = 18 := zK_nA zK20
theorem zM21 : kM z21 = 8748 := zM_nA zM20
noncomputable def z22 : CS := nA z21 290 15 8 (fun _ => 0) (fun _ => 0)
theorem n_z22 : nwA z21 9 290 15 8 = some z22 := nwA_z (by rw [zE21]; decide) (by decide) (by decide) (by decide)
theorem zE22 : kE z22 = [(12, 0), (416, 0), (8, 2), (290, 2), (291, 2), (292, 2), (293, 2), (294, 2), (295, 2), (11, 9), (384, 9), (385, 9), (386, 9), (387, 9), (390, 9), (9, 15), (320, 15), (321, 15), (322, 15)] := zE_nA zE21 (by decide)
theorem zK22 : kK z22 = 19 := zK_nA zK21
theorem zM22 : kM z22 = 8756 := zM_nA zM21
noncomputable def z23 : CS := nA z22 291 15 8 (fun _ => 0) (fun _ => 0)
theorem n_z23 : nwA z22 9 291 15 8 = some z23 := nwA_z (by rw [zE22]; decide) (by decide) (by decide) (by decide)
theorem zE23 : kE z23 = [(12, 0), (416, 0), (8, 2), (290, 2), (291, 2), (292, 2), (293, 2), (294, 2), (295, 2), (11, 9), (384, 9), (385, 9), (386, 9), (387, 9), (390, 9), (9, 15), (320, 15), (321, 15), (322, 15), (323, 15)] := zE_nA zE22 (by decide)
theorem zK23 : kK z23 = 20 := zK_nA zK22
theorem zM23 : kM z23 = 8764 := zM_nA zM22
noncomputable def z24 : CS := sR z23 391 0 (some 15)
theorem n_z24 : pR z23 12 391 0 (some 15) = some z24 := pR_ok (by rw [zE23]; decide)
theorem zE24 : kE z24 = [(12, 0), (416, 0), (8, 2), (290, 2), (291, 2), (292, 2), (293, 2), (294, 2), (295, 2), (11, 9), (384, 9), (385, 9), (386, 9), (387, 9), (390, 9), (9, 15), (320, 15), (321, 15), (322, 15), (323, 15)] := zE23
theorem zK24 : kK z24 = 20 := zK23
theorem zM24 : kM z24 = 8764 := zM23
noncomputable def z25 : CS := nO z24 9 4
theorem n_z25 : nwO z24 9 4 = some z25 := if_pos (by rw [zE24, zK24]; decide)
theorem zE25 : kE z25 = [(12, 0), (416, 0), (8, 2), (290, 2), (291, 2), (292, 2), (293, 2), (294, 2), (295, 2), (11, 9), (384, 9), (385, 9), (386, 9), (387, 9), (390, 9), (9, 15), (320, 15), (321, 15), (322, 15), (323, 15), (9, 20)] := zE_nO zE24 zK24
theorem zK25 : kK z25 = 21 := zK_nO zK24
theorem zM25 : kM z25 = 8768 := zM_nO zM24
noncomputable def z26 : CS := nA z25 288 20 64 (fun _ => 0) (fun _ => 0)
theorem n_z26 : nwA z25 9 288 20 64 = some z26 := nwA_z (by rw [zE25]; decide) (by decide) (by decide) (by decide)
theorem zE26 : kE z26 = [(12, 0), (416, 0), (8, 2), (290, 2), (291, 2), (292, 2), (293, 2), (294, 2), (295, 2), (11, 9), (384, 9), (385, 9), (386, 9), (387, 9), (390, 9), (9, 15), (320, 15), (321, 15), (322, 15), (323, 15), (9, 20), (320, 20)] := zE_nA zE25 (by decide)
theorem zK26 : kK z26 = 22 := zK_nA zK25
theorem zM26 : kM z26 = 8832 := zM_nA zM25
noncomputable def z27 : CS := nA z26 289 20 64 (fun _ => 0) (fun _ => 0)
theorem n_z27 : nwA z26 9 289 20 64 = some z27 := nwA_z (by rw [zE26]; decide) (by decide) (by decide) (by decide)
theorem zE27 : kE z27 = [(12, 0), (416, 0), (8, 2), (290, 2), (291, 2), (292, 2), (293, 2), (294, 2), (295, 2), (11, 9), (384, 9), (385, 9), (386, 9), (387, 9), (390, 9), (9, 15), (320, 15), (321, 15), (322, 15), (323, 15), (9, 20), (320, 20), (321, 20)] := zE_nA zE26 (by decide)
theorem zK27 : kK z27 = 23 := zK_nA zK26
theorem zM27 : kM z27 = 8896 := zM_nA zM26
noncomputable def z28 : CS := nA z27 290 20 8 (fun _ => 0) (fun _ => 0)
theorem n_z28 : nwA z27 9 290 20 8 = some z28 := nwA_z (by rw [zE27]; decide) (by decide) (by decide) (by decide)
theorem zE28 : kE z28 = [(12, 0), (416, 0), (8, 2), (290, 2), (291, 2), (292, 2), (293, 2), (294, 2), (295, 2), (11, 9), (384, 9), (385, 9), (386, 9), (387, 9), (390, 9), (9, 15), (320, 15), (321, 15), (322, 15), (323, 15), (9, 20), (320, 20), (321, 20), (322, 20)] := zE_nA zE27 (by decide)
theorem zK28 : kK z28 = 24 := zK_nA zK27
theorem zM28 : kM z28 = 8904 := zM_nA zM27
noncomputable def z29 : CS := nA z28 291 20 8 (fun _ => 0) (fun _ => 0)
theorem n_z29 : nwA z28 9 291 20 8 = some z29 := nwA_z (by rw [zE28]; decide) (by decide) (by decide) (by decide)
theorem zE29 : kE z29 = [(12, 0), (416, 0), (8, 2), (290, 2), (291, 2), (292, 2), (293, 2), (294, 2), (295, 2), (11, 9), (384, 9), (385, 9), (386, 9), (387, 9), (390, 9), (9, 15), (320, 15), (321, 15), (322, 15), (323, 15), (9, 20), (320, 20), (321, 20), (322, 20), (323, 20)] := zE_nA zE28 (by decide)
theorem zK29 : kK z29 = 25 := zK_nA zK28
theorem zM29 : kM z29 = 8912 := zM_nA zM28
noncomputable def z30 : CS := sR z29 392 0 (some 20)
theorem n_z30 : pR z29 12 392 0 (some 20) = some z30 := pR_ok (by rw [zE29]; decide)
theorem zE30 : kE z30 = [(12, 0), (416, 0), (8, 2), (290, 2), (291, 2), (292, 2), (293, 2), (294, 2), (295, 2), (11, 9), (384, 9), (385, 9), (386, 9), (387, 9), (390, 9), (9, 15), (320, 15), (321, 15), (322, 15), (323, 15), (9, 20), (320, 20), (321, 20), (322, 20), (323, 20)] := zE29
theorem zK30 : kK z30 = 25 := zK29
theorem zM30 : kM z30 = 8912 := zM29
noncomputable def z31 : CS := nO z30 9 4
theorem n_z31 : nwO z30 9 4 = some z31 := if_pos (by rw [zE30, zK30]; decide)
theorem zE31 : kE z31 = [(12, 0), (416, 0), (8, 2), (290, 2), (291, 2), (292, 2), (293, 2), (294, 2), (295, 2), (11, 9), (384, 9), (385, 9), (386, 9), (387, 9), (390, 9), (9, 15), (320, 15), (321, 15), (322, 15), (323, 15), (9, 20), (320, 20), (321, 20), (322, 20), (323, 20), (9, 25)] := zE_nO zE30 zK30
theorem zK31 : kK z31 = 26 := zK_nO zK30
theorem zM31 : kM z31 = 8916 := zM_nO zM30
noncomputable def z32 : CS := nA z31 288 25 64 (fun _ => 0) (fun _ => 0)
theorem n_z32 : nwA z31 9 288 25 64 = some z32 := nwA_z (by rw [zE31]; decide) (by decide) (by decide) (by decide)
theorem zE32 : kE z32 = [(12, 0), (416, 0), (8, 2), (290, 2), (291, 2), (292, 2), (293, 2), (294, 2), (295, 2), (11, 9), (384, 9), (385, 9), (386, 9), (387, 9), (390, 9), (9, 15), (320, 15), (321, 15), (322, 15), (323, 15), (9, 20), (320, 20), (321, 20), (322, 20), (323, 20), (9, 25), (320, 25)] := zE_nA zE31 (by decide)
theorem zK32 : kK z32 = 27 := zK_nA zK31
theorem zM32 : kM z32 = 8980 := zM_nA zM31
noncomputable def z33 : CS := nA z32 289 25 64 (fun _ => 0) (fun _ => 0)
theorem n_z33 : nwA z32 9 289 25 64 = some z33 := nwA_z (by rw [zE32]; decide) (by decide) (by decide) (by decide)
theorem zE33 : kE z33 = [(12, 0), (416, 0), (8, 2), (290, 2), (291, 2), (292, 2), (293, 2), (294, 2), (295, 2), (11, 9), (384, 9), (385, 9), (386, 9), (387, 9), (390, 9), (9, 15), (320, 15), (321, 15), (322, 15), (323, 15), (9, 20), (320, 20), (321, 20), (322, 20), (323, 20), (9, 25), (320, 25), (321, 25)] := zE_nA zE32 (by decide)
theorem zK33 : kK z33 = 28 := zK_nA zK32
theorem zM33 : kM z33 = 9044 := zM_nA zM32
noncomputable def z34 : CS := nA z33 290 25 8 (fun _ => 0) (fun _ => 0)
theorem n_z34 : nwA z33 9 290 25 8 = some z34 := nwA_z (by rw [zE33]; decide) (by decide) (by decide) (by decide)
theorem zE34 : kE z34 = [(12, 0), (416, 0), (8, 2), (290, 2), (291, 2), (292, 2), (293, 2), (294, 2), (295, 2), (11, 9), (384, 9), (385, 9), (386, 9), (387, 9), (390, 9), (9, 15), (320, 15), (321, 15), (322, 15), (323, 15), (9, 20), (320, 20), (321, 20), (322, 20), (323, 20), (9, 25), (320, 25), (321, 25), (322, 25)] := zE_nA zE33 (by decide)
theorem zK34 : kK z34 = 29 := zK_nA zK33
theorem zM34 : kM z34 = 9052 := zM_nA zM33
noncomputable def z35 : CS := nA z34 291 25 8 (fun _ => 0) (fun _ => 0)
theorem n_z35 : nwA z34 9 291 25 8 = some z35 := nwA_z (by rw [zE34]; decide) (by decide) (by decide) (by decide)
theorem zE35 : kE z35 = [(12, 0), (416, 0), (8, 2), (290, 2), (291, 2), (292, 2), (293, 2), (294, 2), (295, 2), (11, 9), (384, 9), (385, 9), (386, 9), (387, 9), (390, 9), (9, 15), (320, 15), (321, 15), (322, 15), (323, 15), (9, 20), (320, 20), (321, 20), (322, 20), (323, 20), (9, 25), (320, 25), (321, 25), (322, 25), (323, 25)] := zE_nA zE34 (by decide)
theorem zK35 : kK z35 = 30 := zK_nA zK34
theorem zM35 : kM z35 = 9060 := zM_nA zM34
noncomputable def z36 : CS := sR z35 393 0 (some 25)
theorem n_z36 : pR z35 12 393 0 (some 25) = some z36 := pR_ok (by rw [zE35]; decide)
theorem zE36 : kE z36 = [(12, 0), (416, 0), (8, 2), (290, 2), (291, 2), (292, 2), (293, 2), (294, 2), (295, 2), (11, 9), (384, 9), (385, 9), (386, 9), (387, 9), (390, 9), (9, 15), (320, 15), (321, 15), (322, 15), (323, 15), (9, 20), (320, 20), (321, 20), (322, 20), (323, 20), (9, 25), (320, 25), (321, 25), (322, 25), (323, 25)] := zE35
theorem zK36 : kK z36 = 30 := zK35
theorem zM36 : kM z36 = 9060 := zM35
noncomputable def z37 : CS := nO z36 9 4
theorem n_z37 : nwO z36 9 4 = some z37 := if_pos (by rw [zE36, zK36]; decide)
theorem zE37 : kE z37 = [(12, 0), (416, 0), (8, 2), (290, 2), (291, 2), (292, 2), (293, 2), (294, 2), (295, 2), (11, 9), (384, 9), (385, 9), (386, 9), (387, 9), (390, 9), (9, 15), (320, 15), (321, 15), (322, 15), (323, 15), (9, 20), (320, 20), (321, 20), (322, 20), (323, 20), (9, 25), (320, 25), (321, 25), (322, 25), (323, 25), (9, 30)] := zE_nO zE36 zK36
theorem zK37 : kK z37 = 31 := zK_nO zK36
theorem zM37 : kM z37 = 9064 := zM_nO zM36
noncomputable def z38 : CS := nA z37 288 30 64 (fun _ => 0) (fun _ => 0)
theorem n_z38 : nwA z37 9 288 30 64 = some z38 := nwA_z (by rw [zE37]; decide) (by decide) (by decide) (by decide)
theorem zE38 : kE z38 = [(12, 0), (416, 0), (8, 2), (290, 2), (291, 2), (292, 2), (293, 2), (294, 2), (295, 2), (11, 9), (384, 9), (385, 9), (386, 9), (387, 9), (390, 9), (9, 15), (320, 15), (321, 15), (322, 15), (323, 15), (9, 20), (320, 20), (321, 20), (322, 20), (323, 20), (9, 25), (320, 25), (321, 25), (322, 25), (323, 25), (9, 30), (320, 30)] := zE_nA zE37 (by decide)
theorem zK38 : kK z38 = 32 := zK_nA zK37
theorem zM38 : kM z38 = 9128 := zM_nA zM37
noncomputable def z39 : CS := nA z38 289 30 64 (fun _ => 0) (fun _ => 0)
theorem n_z39 : nwA z38 9 289 30 64 = some z39 := nwA_z (by rw [zE38]; decide) (by decide) (by decide) (by decide)
theorem zE39 : kE z39 = [(12, 0), (416, 0), (8, 2), (290, 2), (291, 2), (292, 2), (293, 2), (294, 2), (295, 2), (11, 9), (384, 9), (385, 9), (386, 9), (387, 9), (390, 9), (9, 15), (320, 15), (321, 15), (322, 15), (323, 15), (9, 20), (320, 20), (321, 20), (322, 20), (323, 20), (9, 25), (320, 25), (321, 25), (322, 25), (323, 25), (9, 30), (320, 30), (321, 30)] := zE_nA zE38 (by decide)
theorem zK39 : kK z39 = 33 := zK_nA zK38
theorem zM39 : kM z39 = 9192 := zM_nA zM38
noncomputable def z40 : CS := nA z39 290 30 8 (fun _ => 0) (fun _ => 0)
theorem n_z40 : nwA z39 9 290 30 8 = some z40 := nwA_z (by rw [zE39]; decide) (by decide) (by decide) (by decide)
theorem zE40 : kE z40 = [(12, 0), (416, 0), (8, 2), (290, 2), (291, 2), (292, 2), (293, 2), (294, 2), (295, 2), (11, 9), (384, 9), (385, 9), (386, 9), (387, 9), (390, 9), (9, 15), (320, 15), (321, 15), (322, 15), (323, 15), (9, 20), (320, 20), (321, 20), (322, 20), (323, 20), (9, 25), (320, 25), (321, 25), (322, 25), (323, 25), (9, 30), (320, 30), (321, 30), (322, 30)] := zE_nA zE39 (by decide)
theorem zK40 : kK z40 = 34 := zK_nA zK39
theorem zM40 : kM z40 = 9200 := zM_nA zM39
noncomputable def z41 : CS := nA z40 291 30 8 (fun _ => 0) (fun _ => 0)
theorem n_z41 : nwA z40 9 291 30 8 = some z41 := nwA_z (by rw [zE40]; decide) (by decide) (by decide) (by decide)
theorem zE41 : kE z41 = [(12, 0), (416, 0), (8, 2), (290, 2), (291, 2), (292, 2), (293, 2), (294, 2), (295, 2), (11, 9), (384, 9), (385, 9), (386, 9), (387, 9), (390, 9), (9, 15), (320, 15), (321, 15), (322, 15), (323, 15), (9, 20), (320, 20), (321, 20), (322, 20), (323, 20), (9, 25), (320, 25), (321, 25), (322, 25), (323, 25), (9, 30), (320, 30), (321, 30), (322, 30), (323, 30)] := zE_nA zE40 (by decide)
theorem zK41 : kK z41 = 35 := zK_nA zK40
theorem zM41 : kM z41 = 9208 := zM_nA zM40
noncomputable def z42 : CS := sR z41 394 0 (some 30)
theorem n_z42 : pR z41 12 394 0 (some 30) = some z42 := pR_ok (by rw [zE41]; decide)
theorem zE42 : kE z42 = [(12, 0), (416, 0), (8, 2), (290, 2), (291, 2), (292, 2), (293, 2), (294, 2), (295, 2), (11, 9), (384, 9), (385, 9), (386, 9), (387, 9), (390, 9), (9, 15), (320, 15), (321, 15), (322, 15), (323, 15), (9, 20), (320, 20), (321, 20), (322, 20), (323, 20), (9, 25), (320, 25), (321, 25), (322, 25), (323, 25), (9, 30), (320, 30), (321, 30), (322, 30), (323, 30)] := zE41
theorem zK42 : kK z42 = 35 := zK41
theorem zM42 : kM z42 = 9208 := zM41
noncomputable def z43 : CS := nA z42 396 0 8 (fun _ => 0) (fun _ => 0)
theorem n_z43 : nwA z42 12 396 0 8 = some z43 := nwA_z (by rw [zE42]; decide) (by decide) (by decide) (by decide)
theorem zE43 : kE z43 = [(12, 0), (416, 0), (8, 2), (290, 2), (291, 2), (292, 2), (293, 2), (294, 2), (295, 2), (11, 9), (384, 9), (385, 9), (386, 9), (387, 9), (390, 9), (9, 15), (320, 15), (321, 15), (322, 15), (323, 15), (9, 20), (320, 20), (321, 20), (322, 20), (323, 20), (9, 25), (320, 25), (321, 25), (322, 25), (323, 25), (9, 30), (320, 30), (321, 30), (322, 30), (323, 30), (428, 0)] := zE_nA zE42 (by decide)
theorem zK43 : kK z43 = 36 := zK_nA zK42
theorem zM43 : kM z43 = 9216 := zM_nA zM42
noncomputable def z44 : CS := nA z43 397 0 8 (fun _ => 0) (fun _ => 0)
theorem n_z44 : nwA z43 12 397 0 8 = some z44 := nwA_z (by rw [zE43]; decide) (by decide) (by decide) (by decide)
theorem zE44 : kE z44 = [(12, 0), (416, 0), (8, 2), (290, 2), (291, 2), (292, 2), (293, 2), (294, 2), (295, 2), (11, 9), (384, 9), (385, 9), (386, 9), (387, 9), (390, 9), (9, 15), (320, 15), (321, 15), (322, 15), (323, 15), (9, 20), (320, 20), (321, 20), (322, 20), (323, 20), (9, 25), (320, 25), (321, 25), (322, 25), (323, 25), (9, 30), (320, 30), (321, 30), (322, 30), (323, 30), (428, 0), (429, 0)] := zE_nA zE43 (by decide)
theorem zK44 : kK z44 = 37 := zK_nA zK43
theorem zM44 : kM z44 = 9224 := zM_nA zM43
noncomputable def z45 : CS := nO z44 2 13
theorem n_z45 : nwO z44 2 13 = some z45 := if_pos (by rw [zE44, zK44]; decide)
theorem zE45 : kE z45 = [(12, 0), (416, 0), (8, 2), (290, 2), (291, 2), (292, 2), (293, 2), (294, 2), (295, 2), (11, 9), (384, 9), (385, 9), (386, 9), (387, 9), (390, 9), (9, 15), (320, 15), (321, 15), (322, 15), (323, 15), (9, 20), (320, 20), (321, 20), (322, 20), (323, 20), (9, 25), (320, 25), (321, 25), (322, 25), (323, 25), (9, 30), (320, 30), (321, 30), (322, 30), (323, 30), (428, 0), (429, 0), (2, 37)] := zE_nO zE44 zK44
theorem zK45 : kK z45 = 38 := zK_nO zK44
theorem zM45 : kM z45 = 9237 := zM_nO zM44
noncomputable def z46 : CS := nA z45 65 37 2 (fun _ => 0) (fun _ => 0)
theorem n_z46 : nwA z45 2 65 37 2 = some z46 := nwA_z (by rw [zE45]; decide) (by decide) (by decide) (by decide)
theorem zE46 : kE z46 = [(12, 0), (416, 0), (8, 2), (290, 2), (291, 2), (292, 2), (293, 2), (294, 2), (295, 2), (11, 9), (384, 9), (385, 9), (386, 9), (387, 9), (390, 9), (9, 15), (320, 15), (321, 15), (322, 15), (323, 15), (9, 20), (320, 20), (321, 20), (322, 20), (323, 20), (9, 25), (320, 25), (321, 25), (322, 25), (323, 25), (9, 30), (320, 30), (321, 30), (322, 30), (323, 30), (428, 0), (429, 0), (2, 37), (97, 37)] := zE_nA zE45 (by decide)
theorem zK46 : kK z46 = 39 := zK_nA zK45
theorem zM46 : kM z46 = 9239 := zM_nA zM45
noncomputable def z47 : CS := nA z46 66 37 2 (fun _ => 0) (fun _ => 0)
theorem n_z47 : nwA z46 2 66 37 2 = some z47 := nwA_z (by rw [zE46]; decide) (by decide) (by decide) (by decide)
theorem zE47 : kE z47 = [(12, 0), (416, 0), (8, 2), (290, 2), (291, 2), (292, 2), (293, 2), (294, 2), (295, 2), (11, 9), (384, 9), (385, 9), (386, 9), (387, 9), (390, 9), (9, 15), (320, 15), (321, 15), (322, 15), (323, 15), (9, 20), (320, 20), (321, 20), (322, 20), (323, 20), (9, 25), (320, 25), (321, 25), (322, 25), (323, 25), (9, 30), (320, 30), (321, 30), (322, 30), (323, 30), (428, 0), (429, 0), (2, 37), (97, 37), (98, 37)] := zE_nA zE46 (by decide)
theorem zK47 : kK z47 = 40 := zK_nA zK46
theorem zM47 : kM z47 = 9241 := zM_nA zM46
noncomputable def z48 : CS := nA z47 67 37 2 (fun _ => 0) (fun _ => 0)
theorem n_z48 : nwA z47 2 67 37 2 = some z48 := nwA_z (by rw [zE47]; decide) (by decide) (by decide) (by decide)
theorem zE48 : kE z48 = [(12, 0), (416, 0), (8, 2), (290, 2), (291, 2), (292, 2), (293, 2), (294, 2), (295, 2), (11, 9), (384, 9), (385, 9), (386, 9), (387, 9), (390, 9), (9, 15), (320, 15), (321, 15), (322, 15), (323, 15), (9, 20), (320, 20), (321, 20), (322, 20), (323, 20), (9, 25), (320, 25), (321, 25), (322, 25), (323, 25), (9, 30), (320, 30), (321, 30), (322, 30), (323, 30), (428, 0), (429, 0), (2, 37), (97, 37), (98, 37), (99, 37)] := zE_nA zE47 (by decide)
theorem zK48 : kK z48 = 41 := zK_nA zK47
theorem zM48 : kM z48 = 9243 := zM_nA zM47
noncomputable def z49 : CS := nA z48 68 37 2 (fun _ => 0) (fun _ => 0)
theorem n_z49 : nwA z48 2 68 37 2 = some z49 := nwA_z (by rw [zE48]; decide) (by decide) (by decide) (by decide)
theorem zE49 : kE z49 = [(12, 0), (416, 0), (8, 2), (290, 2), (291, 2), (292, 2), (293, 2), (294, 2), (295, 2), (11, 9), (384, 9), (385, 9), (386, 9), (387, 9), (390, 9), (9, 15), (320, 15), (321, 15), (322, 15), (323, 15), (9, 20), (320, 20), (321, 20), (322, 20), (323, 20), (9, 25), (320, 25), (321, 25), (322, 25), (323, 25), (9, 30), (320, 30), (321, 30), (322, 30), (323, 30), (428, 0), (429, 0), (2, 37), (97, 37), (98, 37), (99, 37), (100, 37)] := zE_nA zE48 (by decide)
theorem zK49 : kK z49 = 42 := zK_nA zK48
theorem zM49 : kM z49 = 9245 := zM_nA zM48
noncomputable def z50 : CS := nA z49 69 37 2 (fun _ => 0) (fun _ => 0)
theorem n_z50 : nwA z49 2 69 37 2 = some z50 := nwA_z (by rw [zE49]; decide) (by decide) (by decide) (by decide)
theorem zE50 : kE z50 = [(12, 0), (416, 0), (8, 2), (290, 2), (291, 2), (292, 2), (293, 2), (294, 2), (295, 2), (11, 9), (384, 9), (385, 9), (386, 9), (387, 9), (390, 9), (9, 15), (320, 15), (321, 15), (322, 15), (323, 15), (9, 20), (320, 20), (321, 20), (322, 20), (323, 20), (9, 25), (320, 25), (321, 25), (322, 25), (323, 25), (9, 30), (320, 30), (321, 30), (322, 30), (323, 30), (428, 0), (429, 0), (2, 37), (97, 37), (98, 37), (99, 37), (100, 37), (101, 37)] := zE_nA zE49 (by decide)
theorem zK50 : kK z50 = 43 := zK_nA zK49
theorem zM50 : kM z50 = 9247 := zM_nA zM49
noncomputable def z51 : CS := nA z50 70 37 2 (fun _ => 0) (fun _ => 0)
theorem n_z51 : nwA z50 2 70 37 2 = some z51 := nwA_z (by rw [zE50]; decide) (by decide) (by decide) (by decide)
theorem zE51 : kE z51 = [(12, 0), (416, 0), (8, 2), (290, 2), (291, 2), (292, 2), (293, 2), (294, 2), (295, 2), (11, 9), (384, 9), (385, 9), (386, 9), (387, 9), (390, 9), (9, 15), (320, 15), (321, 15), (322, 15), (323, 15), (9, 20), (320, 20), (321, 20), (322, 20), (323, 20), (9, 25), (320, 25), (321, 25), (322, 25), (323, 25), (9, 30), (320, 30), (321, 30), (322, 30), (323, 30), (428, 0), (429, 0), (2, 37), (97, 37), (98, 37), (99, 37), (100, 37), (101, 37), (102, 37)] := zE_nA zE50 (by decide)
theorem zK51 : kK z51 = 44 := zK_nA zK50
theorem zM51 : kM z51 = 9249 := zM_nA zM50
noncomputable def z52 : CS := nA z51 71 37 2 (fun _ => 0) (fun _ => 0)
theorem n_z52 : nwA z51 2 71 37 2 = some z52 := nwA_z (by rw [zE51]; decide) (by decide) (by decide) (by decide)
theorem zE52 : kE z52 = [(12, 0), (416, 0), (8, 2), (290, 2), (291, 2), (292, 2), (293, 2), (294, 2), (295, 2), (11, 9), (384, 9), (385, 9), (386, 9), (387, 9), (390, 9), (9, 15), (320, 15), (321, 15), (322, 15), (323, 15), (9, 20), (320, 20), (321, 20), (322, 20), (323, 20), (9, 25), (320, 25), (321, 25), (322, 25), (323, 25), (9, 30), (320, 30), (321, 30), (322, 30), (323, 30), (428, 0), (429, 0), (2, 37), (97, 37), (98, 37), (99, 37), (100, 37), (101, 37), (102, 37), (103, 37)] := zE_nA zE51 (by decide)
theorem zK52 : kK z52 = 45 := zK_nA zK51
theorem zM52 : kM z52 = 9251 := zM_nA zM51
noncomputable def z53 : CS := nA z52 72 37 2 (fun _ => 0) (fun _ => 0)
theorem n_z53 : nwA z52 2 72 37 2 = some z53 := nwA_z (by rw [zE52]; decide) (by decide) (by decide) (by decide)
theorem zE53 : kE z53 = [(12, 0), (416, 0), (8, 2), (290, 2), (291, 2), (292, 2), (293, 2), (294, 2), (295, 2), (11, 9), (384, 9), (385, 9), (386, 9), (387, 9), (390, 9), (9, 15), (320, 15), (321, 15), (322, 15), (323, 15), (9, 20), (320, 20), (321, 20), (322, 20), (323, 20), (9, 25), (320, 25), (321, 25), (322, 25), (323, 25), (9, 30), (320, 30), (321, 30), (322, 30), (323, 30), (428, 0), (429, 0), (2, 37), (97, 37), (98, 37), (99, 37), (100, 37), (101, 37), (102, 37), (103, 37), (104, 37)] := zE_nA zE52 (by decide)
theorem zK53 : kK z53 = 46 := zK_nA zK52
theorem zM53 : kM z53 = 9253 := zM_nA zM52
noncomputable def z54 : CS := nA z53 73 37 2 (fun _ => 0) (fun _ => 0)
theorem n_z54 : nwA z53 2 73 37 2 = some z54 := nwA_z (by rw [zE53]; decide) (by decide) (by decide) (by decide)
theorem zE54 : kE z54 = [(12, 0), (416, 0), (8, 2), (290, 2), (291, 2), (292, 2), (293, 2), (294, 2), (295, 2), (11, 9), (384, 9), (385, 9), (386, 9), (387, 9), (390, 9), (9, 15), (320, 15), (321, 15), (322, 15), (323, 15), (9, 20), (320, 20), (321, 20), (322, 20), (323, 20), (9, 25), (320, 25), (321, 25), (322, 25), (323, 25), (9, 30), (320, 30), (321, 30), (322, 30), (323, 30), (428, 0), (429, 0), (2, 37), (97, 37), (98, 37), (99, 37), (100, 37), (101, 37), (102, 37), (103, 37), (104, 37), (105, 37)] := zE_nA zE53 (by decide)
theorem zK54 : kK z54 = 47 := zK_nA zK53
theorem zM54 : kM z54 = 9255 := zM_nA zM53
noncomputable def z55 : CS := nA z54 74 37 2 (fun _ => 0) (fun _ => 0)
theorem n_z55 : nwA z54 2 74 37 2 = some z55 := nwA_z (by rw [zE54]; decide) (by decide) (by decide) (by decide)
theorem zE55 : kE z55 = [(12, 0), (416, 0), (8, 2), (290, 2), (291, 2), (292, 2), (293, 2), (294, 2), (295, 2), (11, 9), (384, 9), (385, 9), (386, 9), (387, 9), (390, 9), (9, 15), (320, 15), (321, 15), (322, 15), (323, 15), (9, 20), (320, 20), (321, 20), (322, 20), (323, 20), (9, 25), (320, 25), (321, 25), (322, 25), (323, 25), (9, 30), (320, 30), (321, 30), (322, 30), (323, 30), (428, 0), (429, 0), (2, 37), (97, 37), (98, 37), (99, 37), (100, 37), (101, 37), (102, 37), (103, 37), (104, 37), (105, 37), (106, 37)] := zE_nA zE54 (by decide)
theorem zK55 : kK z55 = 48 := zK_nA zK54
theorem zM55 : kM z55 = 9257 := zM_nA zM54
noncomputable def z56 : CS := nA z55 75 37 2 (fun _ => 0) (fun _ => 0)
theorem n_z56 : nwA z55 2 75 37 2 = some z56 := nwA_z (by rw [zE55]; decide) (by decide) (by decide) (by decide)
theorem zE56 : kE z56 = [(12, 0), (416, 0), (8, 2), (290, 2), (291, 2), (292, 2), (293, 2), (294, 2), (295, 2), (11, 9), (384, 9), (385, 9), (386, 9), (387, 9), (390, 9), (9, 15), (320, 15), (321, 15), (322, 15), (323, 15), (9, 20), (320, 20), (321, 20), (322, 20), (323, 20), (9, 25), (320, 25), (321, 25), (322, 25), (323, 25), (9, 30), (320, 30), (321, 30), (322, 30), (323, 30), (428, 0), (429, 0), (2, 37), (97, 37), (98, 37), (99, 37), (100, 37), (101, 37), (102, 37), (103, 37), (104, 37), (105, 37), (106, 37), (107, 37)] := zE_nA zE55 (by decide)
theorem zK56 : kK z56 = 49 := zK_nA zK55
theorem zM56 : kM z56 = 9259 := zM_nA zM55
noncomputable def z57 : CS := sR z56 399 0 (some 37)
theorem n_z57 : pR z56 12 399 0 (some 37) = some z57 := pR_ok (by rw [zE56]; decide)
theorem zE57 : kE z57 = [(12, 0), (416, 0), (8, 2), (290, 2), (291, 2), (292, 2), (293, 2), (294, 2), (295, 2), (11, 9), (384, 9), (385, 9), (386, 9), (387, 9), (390, 9), (9, 15), (320, 15), (321, 15), (322, 15), (323, 15), (9, 20), (320, 20), (321, 20), (322, 20), (323, 20), (9, 25), (320, 25), (321, 25), (322, 25), (323, 25), (9, 30), (320, 30), (321, 30), (322, 30), (323, 30), (428, 0), (429, 0), (2, 37), (97, 37), (98, 37), (99, 37), (100, 37), (101, 37), (102, 37), (103, 37), (104, 37), (105, 37), (106, 37), (107, 37)] := zE56
theorem zK57 : kK z57 = 49 := zK56
theorem zM57 : kM z57 = 9259 := zM56
theorem xB_self {cs : CS} {t i : Nat} : xB cs t i (kB cs t i) = cs := by
  have z : u2 (kB cs) t i (kB cs t i) = kB cs := by
    funext x y
    by_cases q : x = t ∧ y = i
    · rw [q.1, q.2]
      exact u2_s
    · exact u2_n q
  show (cs.1, cs.2.1, cs.2.2.1, cs.2.2.2.1, cs.2.2.2.2.1, cs.2.2.2.2.2.1, u2 (kB cs) t i (kB cs t i), cs.2.2.2.2.2.2.2.1, cs.2.2.2.2.2.2.2.2) = cs
  rw [z]
  rfl
theorem xB_sB {cs : CS} {t i x : Nat} {v : Int64} {f : Nat → Int64} : xB (sB cs t i x v) t i f = xB cs t i f := by
  have z : u2 (kB (sB cs t i x v)) t i f = u2 (kB cs) t i f := by
    funext a b
    by_cases q : a = t ∧ b = i
    · rw [q.1, q.2, u2_s, u2_s]
    · rw [u2_n q, u2_n q]
      exact u2_n q
  show (cs.1, cs.2.1, cs.2.2.1, cs.2.2.2.1, cs.2.2.2.2.1, cs.2.2.2.2.2.1, u2 (kB (sB cs t i x v)) t i f, cs.2.2.2.2.2.2.2.1, cs.2.2.2.2.2.2.2.2) = _
  rw [z]
  rfl
/-- the words, as numbers -/
def wlp : Nat → Int64 → Nat → Nat → Option (List Int64)
  | 0, _, _, _ => none
  | f + 1, u, j, p => if (lnS 0) ≤ nI p then some [] else if 39 ≤ j then some [] else Option.bind (chS 0 (nI p)) fun c => if c = 32 then Option.map (fun l => u :: l) (wlp f 0 (j + 1) (p + 1)) else Option.bind (c_X10_letterCode 0 ((0, 0, []), fun _ _ => 0, fun _ _ => 0, fun _ _ => none, fun _ _ => none, fun _ _ _ => 0, fun _ _ _ => 0, fun _ _ _ => none, fun _ _ => 0) c) fun v => wlp f ((u * (37)) + ((v : Int32).toInt64)) j (p + 1)
theorem wlp_ok : wlp 300 0 0 0 = some wsL := by decide +kernel
theorem lc_any {F : Nat} {cs cs' : CS} {v : Int32} : c_X10_letterCode F cs v = c_X10_letterCode 0 cs' v := rfl
theorem loop_z {F : Nat} : ∀ (f u : Nat) (cs : CS) (a : Int64) (j p : Nat) (ws : List Int64), wlp f a j p = some ws → f ≤ u → j ≤ 39 → p + f ≤ 1000 → (11, 9) ∈ kE cs → (32 + 358, 9) ∈ kE cs → kP cs 358 9 = some 14 → kL cs 358 9 = 39 → c_X10_init_L53 F u cs 9 a (nI j) (nI p) = some (xB cs 358 9 (fun x => if j ≤ x ∧ x < j + ws.length then ws.getD (x - j) 0 else kB cs 358 9 x)) := by
  intro f
  induction f with
  | zero => exact fun _ _ _ _ _ _ h => (by cases h)
  | succ f ih =>
    intro u cs a j p ws h hu hj hp o e pp ll
    obtain ⟨u, rfl⟩ : ∃ z, u = z + 1 := ⟨u - 1, by omega⟩
    have stop : ws = [] → xB cs 358 9 (fun x => if j ≤ x ∧ x < j + ws.length then ws.getD (x - j) 0 else kB cs 358 9 x) = cs := fun hw => by
      have z : (fun x => if j ≤ x ∧ x < j + ws.length then ws.getD (x - j) 0 else kB cs 358 9 x) = kB cs 358 9 := funext (fun x => if_neg (by rw [hw, List.length_nil]; omega))
      rw [z]
      exact xB_self
    rw [wlp] at h
    rw [c_X10_init_L53]
    by_cases h1 : (lnS 0) ≤ nI p
    · rw [if_pos h1] at h ⊢
      rw [stop (Option.some.inj h).symm]
      rfl
    · rw [if_neg h1] at h ⊢
      rw [gA_ok o, pp, ob_s, lnA_n e pp, ob_s, ll]
      by_cases h2 : 39 ≤ j
      · rw [if_pos h2] at h
        rw [if_pos (nI_le h2 (by omega)), stop (Option.some.inj h).symm]
        rfl
      · rw [if_neg h2] at h
        rw [if_neg (nI_ge (by omega) (by omega))]
        obtain ⟨c, g1, h⟩ := ob h
        rw [g1, ob_s]
        by_cases h3 : c = 32
        · rw [if_pos h3] at h ⊢
          obtain ⟨l, g2, g3⟩ : ∃ l, wlp f 0 (j + 1) (p + 1) = some l ∧ a :: l = ws := by
            cases hq : wlp f 0 (j + 1) (p + 1) with
            | none => rw [hq] at h; cases h
            | some l => rw [hq] at h; exact ⟨l, rfl, Option.some.inj h⟩
          rw [ob_s, wB_n e pp (by rw [ll]; omega) (by rw [ll]; omega), ob_s]
          unfold c_X10_init_b116
          rw [nI_1, nI_1, ih u (sB cs 358 9 j a) 0 (j + 1) (p + 1) l g2 (by omega) (by omega) (by omega) o e pp ll]
          have z : (fun x => if j + 1 ≤ x ∧ x < j + 1 + l.length then l.getD (x - (j + 1)) 0 else kB (sB cs 358 9 j a) 358 9 x) = (fun x => if j ≤ x ∧ x < j + ws.length then ws.getD (x - j) 0 else kB cs 358 9 x) := funext (fun x => by
            rw [← g3, List.length_cons]
            by_cases q : x = j
            · rw [if_neg (by omega), if_pos (by omega), q, Nat.sub_self]
              show vp_updL (kB cs 358 9) j a j = a
              exact pk_uLs
            · have e0 : kB (sB cs 358 9 j a) 358 9 x = kB cs 358 9 x := by
                show vp_updL (kB cs 358 9) j a x = _
                exact pk_uLn q
              by_cases q2 : j + 1 ≤ x ∧ x < j + 1 + l.length
              · rw [if_pos q2, if_pos (by omega), show x - j = (x - (j + 1)) + 1 by omega]
                rfl
              · rw [if_neg q2, if_neg (by omega), e0])
          rw [z]
          exact congrArg some xB_sB
        · rw [if_neg h3] at h ⊢
          obtain ⟨v, g2, h⟩ := ob h
          rw [show c_X10_letterCode F cs c = some v from lc_any.trans g2, ob_s]
          unfold c_X10_init_b116
          rw [nI_1]
          exact ih u cs _ j (p + 1) ws h (by omega) (by omega) (by omega) o e pp ll

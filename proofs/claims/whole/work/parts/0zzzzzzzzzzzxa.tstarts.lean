/-! the start, in both -/
theorem kJ_E {cs : CS} : kE (kJmp cs) = kE cs := rfl
theorem kJ_K {cs : CS} : kK (kJmp cs) = kK cs + 78 := rfl
theorem kJ_M {cs : CS} : kM (kJmp cs) = kM cs + 877544 := rfl
theorem zEJ : kE (kJmp z57) = kE z57 := kJ_E
theorem zKJ : kK (kJmp z57) = 127 := by
  rw [kJ_K, zK57]
theorem zMJ : kM (kJmp z57) = 886803 := by
  rw [kJ_M, zM57]
theorem loop_17 {F : Nat} (hF : 10000 ≤ F) : c_X10_init_L53 F F z16 9 0 0 0 = some z17 := by
  have h := loop_z (F := F) 300 F z16 0 0 0 wsL wlp_ok (by omega) (by omega) (by omega) (by rw [zE16]; decide) (by rw [zE16]; decide) (by decide +kernel) (by decide +kernel)
  refine h.trans (congrArg some ?_)
  have z : (fun x => if 0 ≤ x ∧ x < 0 + wsL.length then wsL.getD (x - 0) 0 else kB z16 358 9 x) = (fun x => if x < 39 then wsL.getD x 0 else 0) := funext (fun x => by
    have l : wsL.length = 39 := by decide +kernel
    rw [l]
    by_cases q : x < 39
    · rw [if_pos (by omega), if_pos q]
      rfl
    · rw [if_neg (by omega), if_neg q]
      rfl)
  show xB z16 358 9 _ = xB z16 358 9 _
  rw [z]
theorem init_z {F : Nat} (hF : 10000 ≤ F) : c_X11_init F (nO csE 12 16) 0 = some z57 := by
  have x7 : c_X7_init F z2 2 = some z9 := by
    unfold c_X7_init c_X7_init_b19 c_X7_init_b28 c_X7_init_b37 c_X7_init_b45 c_X7_init_b52 c_X7_init_b59
    rw [n_z3, ob_s, n_z4, ob_s, n_z5, ob_s, n_z6, ob_s, n_z7, ob_s, n_z8, ob_s, n_z9, ob_s]
  have x10 : c_X10_init F z11 9 = some z17 := by
    unfold c_X10_init c_X10_init_b13 c_X10_init_b22 c_X10_init_b31 c_X10_init_b38 c_X10_init_b46
    rw [n_z12, ob_s, n_z13, ob_s, n_z14, ob_s, n_z15, ob_s, n_z16, ob_s]
    exact loop_17 hF
  have x8a : c_X8_init F z19 15 = some z23 := by
    unfold c_X8_init c_X8_init_b12 c_X8_init_b20 c_X8_init_b28 c_X8_init_b36
    rw [n_z20, ob_s, n_z21, ob_s, n_z22, ob_s, n_z23, ob_s]
  have x8b : c_X8_init F z25 20 = some z29 := by
    unfold c_X8_init c_X8_init_b12 c_X8_init_b20 c_X8_init_b28 c_X8_init_b36
    rw [n_z26, ob_s, n_z27, ob_s, n_z28, ob_s, n_z29, ob_s]
  have x8c : c_X8_init F z31 25 = some z35 := by
    unfold c_X8_init c_X8_init_b12 c_X8_init_b20 c_X8_init_b28 c_X8_init_b36
    rw [n_z32, ob_s, n_z33, ob_s, n_z34, ob_s, n_z35, ob_s]
  have x8d : c_X8_init F z37 30 = some z41 := by
    unfold c_X8_init c_X8_init_b12 c_X8_init_b20 c_X8_init_b28 c_X8_init_b36
    rw [n_z38, ob_s, n_z39, ob_s, n_z40, ob_s, n_z41, ob_s]
  have x1 : c_X1_init F z45 37 2 = some z56 := by
    unfold c_X1_init c_X1_init_b17 c_X1_init_b24 c_X1_init_b31 c_X1_init_b38 c_X1_init_b45 c_X1_init_b52 c_X1_init_b59 c_X1_init_b66 c_X1_init_b73 c_X1_init_b80 c_X1_init_b87
    rw [if_neg (by decide), n_z46, ob_s, n_z47, ob_s, n_z48, ob_s, n_z49, ob_s, n_z50, ob_s, n_z51, ob_s, n_z52, ob_s, n_z53, ob_s, n_z54, ob_s, n_z55, ob_s, n_z56, ob_s]
  show c_X11_init F z0 0 = some z57
  unfold c_X11_init
  rw [n_z1, ob_s]
  unfold c_X11_init_b13
  rw [n_z2, ob_s, zK1]
  unfold c_X11_init_b17
  rw [x7, ob_s]
  unfold c_X11_init_b21
  rw [n_z10, ob_s, n_z11, ob_s, zK10]
  unfold c_X11_init_b28
  rw [x10, ob_s]
  unfold c_X11_init_b32
  rw [n_z18, ob_s, n_z19, ob_s, zK18]
  unfold c_X11_init_b39
  rw [x8a, ob_s]
  unfold c_X11_init_b43
  rw [n_z24, ob_s, n_z25, ob_s, zK24]
  unfold c_X11_init_b50
  rw [x8b, ob_s]
  unfold c_X11_init_b54
  rw [n_z30, ob_s, n_z31, ob_s, zK30]
  unfold c_X11_init_b61
  rw [x8c, ob_s]
  unfold c_X11_init_b65
  rw [n_z36, ob_s, n_z37, ob_s, zK36]
  unfold c_X11_init_b72
  rw [x8d, ob_s]
  unfold c_X11_init_b76
  rw [n_z42, ob_s, n_z43, ob_s]
  unfold c_X11_init_b87
  rw [n_z44, ob_s]
  unfold c_X11_init_b95
  rw [n_z45, ob_s, zK44]
  unfold c_X11_init_b99
  rw [x1, ob_s]
  unfold c_X11_init_b104
  rw [n_z57, ob_s]
theorem bas_z : Bas (kJmp z57) := ⟨by rw [zEJ, zE57]; decide, by rw [zEJ, zE57]; decide, by decide +kernel, by decide +kernel, by decide +kernel, by rw [zEJ, zE57]; decide, by rw [zEJ, zE57]; decide, by decide +kernel, by decide +kernel, by rw [zEJ, zE57]; decide, by decide +kernel, by decide +kernel, by rw [zEJ, zE57]; decide, by decide +kernel, by decide +kernel, by rw [zEJ, zE57]; decide, by decide +kernel, by decide +kernel, by rw [zEJ, zE57]; decide, by decide +kernel, by decide +kernel, by rw [zEJ, zE57]; decide, by decide +kernel, by decide +kernel, by decide +kernel, by rw [zEJ, zE57]; decide, by rw [zEJ, zE57]; decide, by decide +kernel, by decide +kernel, by rw [zEJ, zE57]; decide, by decide +kernel, by decide +kernel, by rw [zEJ, zE57]; decide, by decide +kernel, by decide +kernel, by rw [zEJ, zE57]; decide, by decide +kernel, by decide +kernel, by decide +kernel, by rw [zEJ, zE57]; decide, by rw [zEJ, zE57]; decide, by decide +kernel, by decide +kernel, by rw [zEJ, zE57]; decide, by decide +kernel, by decide +kernel⟩
theorem dfc_j {cs : CS} (h : DFC cs) : DFC (kJmp cs) := ⟨fun p hp => Nat.lt_of_lt_of_le (h.1 p hp) (Nat.le_add_right _ _), fun x j hj => h.2 x j (Nat.le_trans (Nat.le_add_right _ _) hj)⟩
theorem dfc_z {F : Nat} (hF : 10000 ≤ F) : DFC (kJmp z57) := by
  have h0 : DFC (nO csE 12 16) := ⟨fun p hp => by
    have e := List.mem_singleton.mp (show p ∈ [(12, 0)] from hp)
    rw [e]
    exact Nat.zero_lt_one, fun x j hj => by
    have hj' : 1 ≤ j := hj
    have n0 : ¬ (x / 32 = 12 ∧ j = 0) := by omega
    exact ⟨if_neg n0, if_neg n0, if_neg n0⟩⟩
  have h1 : DFC z57 := dg_c_X11_init F _ 0 z57 (init_z hF) h0
  exact dfc_j h1
theorem sts_z15 {B : Nat} (hB : 32 ≤ B) : STS 15 B (kJmp z57) := by
  have l8 : kL (kJmp z57) 288 15 = 64 := by decide +kernel
  have l0 : kL (kJmp z57) 290 15 = 8 := by decide +kernel
  exact ⟨⟨by rw [zEJ, zE57]; decide, by rw [zEJ, zE57]; decide, ⟨16, by decide +kernel⟩, rfl, by rw [zEJ, zE57]; decide, ⟨17, by decide +kernel⟩, by decide +kernel, by omega, fun i _ => Or.inl rfl⟩, by omega, by omega, by rw [zEJ, zE57]; decide, ⟨18, by decide +kernel⟩, by rw [zEJ, zE57]; decide, ⟨19, by decide +kernel⟩, by decide +kernel, by omega, by omega⟩
theorem sts_z20 {B : Nat} (hB : 32 ≤ B) : STS 20 B (kJmp z57) := by
  have l8 : kL (kJmp z57) 288 20 = 64 := by decide +kernel
  have l0 : kL (kJmp z57) 290 20 = 8 := by decide +kernel
  exact ⟨⟨by rw [zEJ, zE57]; decide, by rw [zEJ, zE57]; decide, ⟨21, by decide +kernel⟩, rfl, by rw [zEJ, zE57]; decide, ⟨22, by decide +kernel⟩, by decide +kernel, by omega, fun i _ => Or.inl rfl⟩, by omega, by omega, by rw [zEJ, zE57]; decide, ⟨23, by decide +kernel⟩, by rw [zEJ, zE57]; decide, ⟨24, by decide +kernel⟩, by decide +kernel, by omega, by omega⟩
theorem sts_z25 {B : Nat} (hB : 32 ≤ B) : STS 25 B (kJmp z57) := by
  have l8 : kL (kJmp z57) 288 25 = 64 := by decide +kernel
  have l0 : kL (kJmp z57) 290 25 = 8 := by decide +kernel
  exact ⟨⟨by rw [zEJ, zE57]; decide, by rw [zEJ, zE57]; decide, ⟨26, by decide +kernel⟩, rfl, by rw [zEJ, zE57]; decide, ⟨27, by decide +kernel⟩, by decide +kernel, by omega, fun i _ => Or.inl rfl⟩, by omega, by omega, by rw [zEJ, zE57]; decide, ⟨28, by decide +kernel⟩, by rw [zEJ, zE57]; decide, ⟨29, by decide +kernel⟩, by decide +kernel, by omega, by omega⟩
theorem sts_z30 {B : Nat} (hB : 32 ≤ B) : STS 30 B (kJmp z57) := by
  have l8 : kL (kJmp z57) 288 30 = 64 := by decide +kernel
  have l0 : kL (kJmp z57) 290 30 = 8 := by decide +kernel
  exact ⟨⟨by rw [zEJ, zE57]; decide, by rw [zEJ, zE57]; decide, ⟨31, by decide +kernel⟩, rfl, by rw [zEJ, zE57]; decide, ⟨32, by decide +kernel⟩, by decide +kernel, by omega, fun i _ => Or.inl rfl⟩, by omega, by omega, by rw [zEJ, zE57]; decide, ⟨33, by decide +kernel⟩, by rw [zEJ, zE57]; decide, ⟨34, by decide +kernel⟩, by decide +kernel, by omega, by omega⟩
theorem ca_z : CA 37 2 (kJmp z57) := ⟨by rw [zEJ, zE57]; decide, ⟨38, by decide +kernel⟩, by decide +kernel, by rw [zEJ, zE57]; decide, ⟨39, by decide +kernel⟩, by decide +kernel, by rw [zEJ, zE57]; decide, ⟨40, by decide +kernel⟩, by decide +kernel, by rw [zEJ, zE57]; decide, ⟨41, by decide +kernel⟩, by decide +kernel, by rw [zEJ, zE57]; decide, ⟨42, by decide +kernel⟩, by decide +kernel, by rw [zEJ, zE57]; decide, ⟨43, by decide +kernel⟩, by decide +kernel, by rw [zEJ, zE57]; decide, ⟨44, by decide +kernel⟩, by decide +kernel, by rw [zEJ, zE57]; decide, ⟨45, by decide +kernel⟩, by decide +kernel, by rw [zEJ, zE57]; decide, ⟨46, by decide +kernel⟩, by decide +kernel, by rw [zEJ, zE57]; decide, ⟨47, by decide +kernel⟩, by decide +kernel, by rw [zEJ, zE57]; decide, ⟨48, by decide +kernel⟩, by decide +kernel⟩
theorem wd_z : ∀ j, j < 39 → wsL.getD j 0 = lN (tn j) := by decide +kernel
theorem sim_start {F : Nat} (hF : 10000 ≤ F) : SIM F 0 (kJmp z57) rsE := by
  have l6 : kL (kJmp z57) 396 0 = 8 := by decide +kernel
  have l7 : kL (kJmp z57) 397 0 = 8 := by decide +kernel
  have km := zMJ
  have kk := zKJ
  have st : ST 0 (kJmp z57) rsE := ⟨rfl, rfl, by omega, fun k hk => absurd hk (Nat.not_lt_zero _), rfl, fun r _ => ⟨rfl, Or.inl rfl⟩, fun r _ _ => rfl, fun s c p hs => absurd hs (Nat.not_lt_zero _)⟩
  refine ⟨bas_z, dfc_z hF, by omega, fun j hj => ?_, ⟨0, rfl, rfl, by omega, fun k hk => absurd hk (Nat.not_lt_zero _), fun k hk => absurd hk (Nat.not_lt_zero _)⟩, ⟨0, rfl, rfl, by omega, fun k hk => absurd hk (Nat.not_lt_zero _)⟩, fun _ => Or.inl rfl, fun _ => Or.inl rfl, rfl, rfl, by decide +kernel, by decide +kernel, by decide +kernel, by decide +kernel, sts_z15 (by omega), sts_z20 (by omega), sts_z25 (by omega), sts_z30 (by omega), by rw [l6, l7], by omega, by omega, by omega, by omega, ca_z, ⟨0, 0, rfl, rfl, by omega, fun j hj => absurd hj (Nat.not_lt_zero _)⟩, 0, st, fun _ _ _ => rfl, Or.inl ⟨by decide +kernel, by decide +kernel, rfl, rfl, ⟨by rw [zEJ, zE57]; decide, by rw [zEJ, zE57]; decide, ⟨35, by decide +kernel⟩, Nat.zero_le _, by omega, by rw [zEJ, zE57]; decide, ⟨36, by decide +kernel⟩, Nat.zero_le _, by omega, rfl, fun t ht => absurd ht (Nat.not_lt_zero _)⟩, rfl⟩⟩
  have e : kB (kJmp z57) 358 9 j = if j < 39 then wsL.getD j 0 else 0 := rfl
  rw [e, if_pos hj]
  exact wd_z j hj

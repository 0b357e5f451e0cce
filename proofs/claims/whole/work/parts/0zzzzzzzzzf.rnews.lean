/-! new objects, the class alone -/
/-- fewer references, the rest as it was -/
theorem RBX.few {t c K b : Nat} {a d : CS} (h1 : kR d 322 t = kR a 322 t) (h2 : kI d 320 t = kI a 320 t) (h3 : kI d 64 c = kI a 64 c) (h4 : kL d 65 c = kL a 65 c) (h5 : kA d 67 c = kA a 67 c) (h6 : kA d 65 c = kA a 65 c) (h7 : ∀ j ρ r, RFS d j ρ r → RFS a j ρ r) (h8 : ∀ o x, AM o d x → AM o a x) : RBX t c K b 0 false a d := fun hk => by
  have hz : SZ c d = SZ c a := by unfold SZ; rw [h3]
  exact ⟨by rw [h1]; exact hk, h4, by omega, fun w => absurd w (by decide), fun f _ => ⟨by rw [← h2]; exact f, fun w => w.kp (by omega) (fun o x _ g => h8 o x g) (fun y _ => by rw [h6]), fun w => w.kp (by omega) (fun j ρ r _ g => h7 j ρ r g) (fun y _ => by rw [h5]), fun y _ => ⟨by rw [h5], by rw [h6]⟩, fun _ => ⟨by omega, fun w => absurd w (by omega)⟩⟩⟩
theorem nI_0k {k : Nat} (h : k ≤ 12) (e : (0 : Int32) = nI k) : k = 0 := ((nI_eq (a := 0) (b := k) (by omega) (by omega)).mp e).symm
theorem RBX.nwO {t c K b X n : Nat} {cs cs1 : CS} (h : X = 3 ∨ X = 4 ∨ X = 6 ∨ X = 7) (hv : nwO cs X n = some cs1) : RBX t c K b 0 false cs cs1 := by
  obtain ⟨-, e⟩ := nwO_some hv
  have g : ∀ x i, ¬ (x / 32 = X ∧ i = kK cs) → AT cs cs1 x i := fun x i hx => by rw [← e]; exact AT.ng hx
  have z : ∀ x, x / 32 = X → kI cs1 x (kK cs) = 0 ∧ kR cs1 x (kK cs) = none ∧ kP cs1 x (kK cs) = none := fun x hx => by
    obtain ⟨z1, z2, z3, z4⟩ := nO_z (cs := cs) (n := n) hx
    rw [← e]
    exact ⟨z1, z3, z4⟩
  have ea : kA cs1 = kA cs := by rw [← e]; rfl
  refine RBX.few (g 322 t (by omega)).r (g 320 t (by omega)).i (g 64 c (by omega)).i (g 65 c (by omega)).l (by rw [ea]) (by rw [ea]) (fun j ρ r q => ?_) (fun o x q => ?_)
  · obtain ⟨q0, q⟩ := q
    rcases q with ⟨q1, q2, q3⟩ | ⟨q1, q2, q3⟩ | ⟨q1, q2, q3⟩ | ⟨y, m, q1, q2, q3, q4, q5⟩
    · by_cases w : X = 6 ∧ j = kK cs
      · rw [w.2, (z 202 w.1.symm).2.2] at q2
        exact absurd rfl q2
      · rw [(g 202 j (by omega)).p] at q2
        rw [(g 197 j (by omega)).i] at q3
        exact ⟨q0, Or.inl ⟨q1, q2, q3⟩⟩
    · by_cases w : X = 6 ∧ j = kK cs
      · rw [w.2, (z 202 w.1.symm).2.2] at q2
        exact absurd rfl q2
      · rw [(g 202 j (by omega)).p] at q2
        rw [(g 201 j (by omega)).i] at q3
        exact ⟨q0, Or.inr (Or.inl ⟨q1, q2, q3⟩)⟩
    · by_cases w : X = 7 ∧ j = kK cs
      · rw [w.2, (z 235 w.1.symm).2.1] at q2
        exact absurd rfl q2
      · rw [(g 235 j (by omega)).r] at q2
        rw [(g 233 j (by omega)).i] at q3
        exact ⟨q0, Or.inr (Or.inr (Or.inl ⟨q1, q2, q3⟩))⟩
    · by_cases w : X = 3 ∧ j = kK cs
      · rw [w.2, (z 96 w.1.symm).1] at q2
        have := nI_0k (by omega) q2
        omega
      · rw [(g 96 j (by omega)).i] at q2
        rw [ea] at q5
        exact ⟨q0, Or.inr (Or.inr (Or.inr ⟨y, m, q1, q2, q3, q4, q5⟩))⟩
  · obtain ⟨i, k, q1, q2, q3, q4⟩ := q
    by_cases w : X = 6 ∧ o = kK cs
    · rw [w.2, (z 203 w.1.symm).1] at q2
      have := nI_0k q1 q2
      omega
    · rw [(g 203 o (by omega)).i] at q2
      rw [ea] at q4
      exact ⟨i, k, q1, q2, q3, q4⟩
theorem nwO_z {X n x : Nat} {cs cs1 : CS} (hx : x / 32 = X) (hv : nwO cs X n = some cs1) : kI cs1 x (kK cs) = 0 := by
  obtain ⟨-, e⟩ := nwO_some hv
  rw [← e]
  exact (nO_z hx).1
theorem nwA_at {X x i y j : Nat} {v : Int32} {cs cs1 : CS} (hv : nwA cs X x i v = some cs1) (h : ¬ (y = x ∧ j = i)) : AT cs cs1 y j := by
  obtain ⟨-, e⟩ := nwA_some hv
  rw [← e]
  exact AT.nA h
theorem nwA_ki {X x i : Nat} {v : Int32} {cs cs1 : CS} (hv : nwA cs X x i v = some cs1) : kI cs1 = kI cs ∧ kR cs1 = kR cs := by
  obtain ⟨-, e⟩ := nwA_some hv
  rw [← e]
  exact ⟨rfl, rfl⟩
theorem RBX.nwA {t c K b X x i : Nat} {v : Int32} {cs cs1 : CS} (h : x ≠ 65 ∧ x ≠ 67 ∧ x ≠ 97 ∧ x ≠ 202) (hv : nwA cs X x i v = some cs1) : RBX t c K b 0 false cs cs1 := by
  obtain ⟨h1, h2, h3, h4⟩ := h
  have g : ∀ y j, y ≠ x → AT cs cs1 y j := fun y j hy => nwA_at hv (fun w => hy w.1)
  exact (RBX.of0 (β := false) (by rw [(nwA_ki hv).2]) (by rw [(nwA_ki hv).1]) (by rw [(nwA_ki hv).1]) (g 65 c (fun e => h1 e.symm)).l (g 67 c (fun e => h2 e.symm)).a (g 65 c (fun e => h1 e.symm)).a (fun j => ⟨(g 202 j (fun e => h4 e.symm)).p, by rw [(nwA_ki hv).1], by rw [(nwA_ki hv).1], by rw [(nwA_ki hv).2], by rw [(nwA_ki hv).1], by rw [(nwA_ki hv).1], (g 97 j (fun e => h3 e.symm)).a⟩) (fun o => ⟨by rw [(nwA_ki hv).1], (g 202 o (fun e => h4 e.symm)).a⟩))
theorem RBX.nwL {t c K b i z : Nat} {cs cs1 : CS} (hv : nwL cs i z = some cs1) : RBX t c K b 0 false cs cs1 := by
  obtain ⟨-, e⟩ := nwL_some hv
  rw [← e]
  have ki : ∀ x j, x ≠ 0 → x ≠ 2 → kI (nQL cs i z) x j = kI cs x j := fun x j h1 h2 => (u2_n (fun y => h2 y.1)).trans (u2_n (fun y => h1 y.1))
  have kr : ∀ x j, x ≠ 128 → kR (nQL cs i z) x j = kR cs x j := fun x j h1 => u2_n (fun y => h1 y.1)
  have kl : ∀ x j, x ≠ 1 → kL (nQL cs i z) x j = kL cs x j := fun x j h1 => u2_n (fun y => h1 y.1)
  have kp : ∀ x j, x ≠ 1 → kP (nQL cs i z) x j = kP cs x j := fun x j h1 => u2_n (fun y => h1 y.1)
  exact RBX.of0 (kr _ _ (by decide)) (ki _ _ (by decide) (by decide)) (ki _ _ (by decide) (by decide)) (kl _ _ (by decide)) rfl rfl (fun j => ⟨kp _ _ (by decide), ki _ _ (by decide) (by decide), ki _ _ (by decide) (by decide), kr _ _ (by decide), ki _ _ (by decide) (by decide), ki _ _ (by decide) (by decide), rfl⟩) (fun o => ⟨ki _ _ (by decide) (by decide), rfl⟩)
theorem RBX.lAd {t c K b L z : Nat} {cs cs1 : CS} (hv : lAd cs L z = some cs1) : RBX t c K b 0 false cs cs1 := by
  obtain ⟨j, -, e⟩ := lAd_some hv
  rw [← e]
  have g : ∀ x i, x ≠ 0 → x ≠ 1 → x ≠ 2 → AT cs (sLA cs L z) x i := fun x i h0 h1 h2 => ((AT.sI (fun y => h0 y.1)).trans (AT.sI (fun y => h2 y.1))).trans (AT.sQ (fun y => h1 y.1))
  exact RBX.of0 (g 322 t (by decide) (by decide) (by decide)).r (g 320 t (by decide) (by decide) (by decide)).i (g 64 c (by decide) (by decide) (by decide)).i (g 65 c (by decide) (by decide) (by decide)).l (g 67 c (by decide) (by decide) (by decide)).a (g 65 c (by decide) (by decide) (by decide)).a (fun j => ⟨(g 202 j (by decide) (by decide) (by decide)).p, (g 197 j (by decide) (by decide) (by decide)).i, (g 201 j (by decide) (by decide) (by decide)).i, (g 235 j (by decide) (by decide) (by decide)).r, (g 233 j (by decide) (by decide) (by decide)).i, (g 96 j (by decide) (by decide) (by decide)).i, (g 97 j (by decide) (by decide) (by decide)).a⟩) (fun o => ⟨(g 203 o (by decide) (by decide) (by decide)).i, (g 202 o (by decide) (by decide) (by decide)).a⟩)
/-- new columns -/
theorem x2_rb {F t c K b o : Nat} {cs cs9 : CS} (h0 : kI cs 96 o = 0) (h : c_X2_init F cs o = some cs9) : RBX t c K b 0 false cs cs9 ∧ kI cs9 = kI cs ∧ kR cs9 = kR cs ∧ kP cs9 202 = kP cs 202 := by
  unfold c_X2_init c_X2_init_b12 c_X2_init_b20 c_X2_init_b28 c_X2_init_b36 at h
  replace h := ob h; obtain ⟨c1, h1, h⟩ := h
  replace h := ob h; obtain ⟨c2, h2, h⟩ := h
  replace h := ob h; obtain ⟨c3, h3, h⟩ := h
  replace h := ob h; obtain ⟨c4, h4, h⟩ := h
  have e := Option.some.inj h
  have q1 : RBX t c K b 0 false cs c1 := by
    have g : ∀ y j, y ≠ 97 → AT cs c1 y j := fun y j hy => nwA_at h1 (fun w => hy w.1)
    have g' : ∀ j, j ≠ o → AT cs c1 97 j := fun j hj => nwA_at h1 (fun w => hj w.2)
    refine RBX.few (g _ _ (by decide)).r (g _ _ (by decide)).i (g _ _ (by decide)).i (g _ _ (by decide)).l (g _ _ (by decide)).a (g _ _ (by decide)).a (fun j ρ r q => ?_) (fun o' x q => ?_)
    · obtain ⟨q0, q⟩ := q
      rcases q with ⟨z1, z2, z3⟩ | ⟨z1, z2, z3⟩ | ⟨z1, z2, z3⟩ | ⟨y, m, z1, z2, z3, z4, z5⟩
      · rw [(g 202 j (by decide)).p] at z2
        rw [(g 197 j (by decide)).i] at z3
        exact ⟨q0, Or.inl ⟨z1, z2, z3⟩⟩
      · rw [(g 202 j (by decide)).p] at z2
        rw [(g 201 j (by decide)).i] at z3
        exact ⟨q0, Or.inr (Or.inl ⟨z1, z2, z3⟩)⟩
      · rw [(g 235 j (by decide)).r] at z2
        rw [(g 233 j (by decide)).i] at z3
        exact ⟨q0, Or.inr (Or.inr (Or.inl ⟨z1, z2, z3⟩))⟩
      · rw [(g 96 j (by decide)).i] at z2
        by_cases w : j = o
        · rw [w, h0] at z2
          have := nI_0k (by omega) z2
          omega
        · rw [(g' j w).a] at z5
          exact ⟨q0, Or.inr (Or.inr (Or.inr ⟨y, m, z1, z2, z3, z4, z5⟩))⟩
    · exact q.at' (g 202 o' (by decide)) (g 203 o' (by decide))
  refine ⟨((((q1.trans (RBX.nwA (by decide) h2)).trans (RBX.nwA (by decide) h3)).trans (RBX.nwA (by decide) h4)).to e).le (Nat.zero_le _), ?_, ?_, ?_⟩
  · rw [← e, (nwA_ki h4).1, (nwA_ki h3).1, (nwA_ki h2).1, (nwA_ki h1).1]
  · rw [← e, (nwA_ki h4).2, (nwA_ki h3).2, (nwA_ki h2).2, (nwA_ki h1).2]
  · funext j
    rw [← e, (nwA_at (y := 202) (j := j) h4 (by omega)).p, (nwA_at (y := 202) (j := j) h3 (by omega)).p, (nwA_at (y := 202) (j := j) h2 (by omega)).p, (nwA_at (y := 202) (j := j) h1 (by omega)).p]
/-- a place without a root -/
theorem rb_m1 {t c K b X x o : Nat} {cs cs1 : CS} (hx : x = 197 ∨ x = 201 ∨ x = 233) (h : pI cs X x o (-1) = some cs1) : RBX t c K b 0 false cs cs1 := by
  obtain ⟨s1, s2, s3, s4, s5, s6, s7, -⟩ := sto_I (t := t) (c := c) hx h
  obtain ⟨-, s⟩ := pI_some h
  have ei : ∀ y j, ¬ (y = x ∧ j = o) → kI cs1 y j = kI cs y j := fun y j hy => by rw [← s]; exact kI_n hy
  have es : kI cs1 x o = -1 := by rw [← s]; exact kI_s
  refine RBX.few s1 s2 s3 s4 s5 s6 (fun j ρ r q => ?_) (fun o x q => ?_)
  · obtain ⟨q0, q⟩ := q
    have n1 : nI r ≠ -1 := nI_nm1 (by omega)
    rcases q with ⟨z1, z2, z3⟩ | ⟨z1, z2, z3⟩ | ⟨z1, z2, z3⟩ | ⟨y, m, z1, z2, z3, z4, z5⟩
    · by_cases w : x = 197 ∧ j = o
      · rw [← w.1, w.2, es] at z3
        exact absurd z3.symm n1
      · rw [ei 197 j (by omega)] at z3
        rw [← s] at z2
        exact ⟨q0, Or.inl ⟨z1, z2, z3⟩⟩
    · by_cases w : x = 201 ∧ j = o
      · rw [← w.1, w.2, es] at z3
        exact absurd z3.symm n1
      · rw [ei 201 j (by omega)] at z3
        rw [← s] at z2
        exact ⟨q0, Or.inr (Or.inl ⟨z1, z2, z3⟩)⟩
    · by_cases w : x = 233 ∧ j = o
      · rw [← w.1, w.2, es] at z3
        exact absurd z3.symm n1
      · rw [ei 233 j (by omega)] at z3
        rw [← s] at z2
        exact ⟨q0, Or.inr (Or.inr (Or.inl ⟨z1, z2, z3⟩))⟩
    · rw [ei 96 j (by omega)] at z2
      rw [← s] at z5
      exact ⟨q0, Or.inr (Or.inr (Or.inr ⟨y, m, z1, z2, z3, z4, z5⟩))⟩
  · obtain ⟨i, k, m1, m2, m3, m4⟩ := q
    rw [(s7 o).1] at m2
    rw [(s7 o).2] at m4
    exact ⟨i, k, m1, m2, m3, m4⟩
/-- a new SELECT -/
theorem x5_rb {F t c K b o : Nat} {cs cs9 : CS} (h0 : kI cs 203 o = 0) (h : c_X5_init F cs o = some cs9) : RBX t c K b 0 false cs cs9 := by
  unfold c_X5_init c_X5_init_b8 c_X5_init_b12 c_X5_init_b23 c_X5_init_b32 c_X5_init_b36 c_X5_init_b52 at h
  replace h := ob h; obtain ⟨c1, h1, h⟩ := h
  replace h := ob h; obtain ⟨c2, h2, h⟩ := h
  replace h := ob h; obtain ⟨c3, h3, h⟩ := h
  replace h := ob h; obtain ⟨c4, h4, h⟩ := h
  replace h := ob h; obtain ⟨c5, h5, h⟩ := h
  replace h := ob h; obtain ⟨c6, h6, h⟩ := h
  replace h := ob h; obtain ⟨c7, h7, h⟩ := h
  replace h := ob h; obtain ⟨c8, h8, h⟩ := h
  replace h := ob h; obtain ⟨c9, h9, h⟩ := h
  replace h := ob h; obtain ⟨c10, h10, h⟩ := h
  replace h := ob h; obtain ⟨c11, h11, h⟩ := h
  have e := Option.some.inj h
  obtain ⟨q2, k2, r2, -⟩ := x2_rb (t := t) (c := c) (K := K) (b := b) (nwO_z rfl h1) h2
  obtain ⟨q7, k7, r7, -⟩ := x2_rb (t := t) (c := c) (K := K) (b := b) (nwO_z rfl h6) h7
  have no : ∀ (a d : CS) (x j : Nat), nwO a 3 5 = some d → x / 32 ≠ 3 → kI d x j = kI a x j := fun a d x j hv hx => by
    obtain ⟨-, e⟩ := nwO_some hv
    rw [← e]
    exact (AT.ng (fun w => hx w.1)).i
  have i3 : kI c3 = kI c2 := by obtain ⟨-, s⟩ := pR_some h3; rw [← s]; rfl
  have i4 : kI c4 = kI c3 := (nwA_ki h4).1
  obtain ⟨-, s5⟩ := pI_some h5
  have i8 : kI c8 = kI c7 := by obtain ⟨-, s⟩ := pR_some h8; rw [← s]; rfl
  obtain ⟨-, s9⟩ := pI_some h9
  have z203 : kI c9 203 o = 0 := by
    rw [← s9, kI_n (by omega), i8, k7, no c5 c6 203 o h6 (by decide), ← s5, kI_n (by omega), i4, i3, k2, no cs c1 203 o h1 (by decide)]
    exact h0
  have z197 : kI c9 197 o = -1 := by
    rw [← s9, kI_n (by omega), i8, k7, no c5 c6 197 o h6 (by decide), ← s5, kI_s]
  have z201 : kI c9 201 o = -1 := by rw [← s9, kI_s]
  have q10 : RBX t c K b 0 false c9 c10 := by
    have g : ∀ y j, ¬ (y = 202 ∧ j = o) → AT c9 c10 y j := fun y j hy => nwA_at h10 hy
    refine RBX.few (g _ _ (by omega)).r (g _ _ (by omega)).i (g _ _ (by omega)).i (g _ _ (by omega)).l (g _ _ (by omega)).a (g _ _ (by omega)).a (fun j ρ r q => ?_) (fun o' x q => ?_)
    · obtain ⟨q0, q⟩ := q
      have n1 : nI r ≠ -1 := nI_nm1 (by omega)
      rcases q with ⟨y1, y2, y3⟩ | ⟨y1, y2, y3⟩ | ⟨y1, y2, y3⟩ | ⟨y, m, y1, y2, y3, y4, y5⟩
      · rw [(g 197 j (by omega)).i] at y3
        by_cases w : j = o
        · rw [w, z197] at y3
          exact absurd y3.symm n1
        · rw [(g 202 j (by omega)).p] at y2
          exact ⟨q0, Or.inl ⟨y1, y2, y3⟩⟩
      · rw [(g 201 j (by omega)).i] at y3
        by_cases w : j = o
        · rw [w, z201] at y3
          exact absurd y3.symm n1
        · rw [(g 202 j (by omega)).p] at y2
          exact ⟨q0, Or.inr (Or.inl ⟨y1, y2, y3⟩)⟩
      · rw [(g 235 j (by omega)).r] at y2
        rw [(g 233 j (by omega)).i] at y3
        exact ⟨q0, Or.inr (Or.inr (Or.inl ⟨y1, y2, y3⟩))⟩
      · rw [(g 96 j (by omega)).i] at y2
        rw [(g 97 j (by omega)).a] at y5
        exact ⟨q0, Or.inr (Or.inr (Or.inr ⟨y, m, y1, y2, y3, y4, y5⟩))⟩
    · obtain ⟨i, k, m1, m2, m3, m4⟩ := q
      rw [(g 203 o' (by omega)).i] at m2
      by_cases w : o' = o
      · rw [w, z203] at m2
        have := nI_0k m1 m2
        omega
      · rw [(g 202 o' (by omega)).a] at m4
        exact ⟨i, k, m1, m2, m3, m4⟩
  have r1 : RBX t c K b 0 false cs c1 := RBX.nwO (Or.inl rfl) h1
  have r3 : RBX t c K b 0 false c2 c3 := RBX.pR (by decide) h3
  have r4 : RBX t c K b 0 false c3 c4 := RBX.nwA (by decide) h4
  have r5 : RBX t c K b 0 false c4 c5 := rb_m1 (Or.inl rfl) h5
  have r6 : RBX t c K b 0 false c5 c6 := RBX.nwO (Or.inl rfl) h6
  have r8 : RBX t c K b 0 false c7 c8 := RBX.pR (by decide) h8
  have r9 : RBX t c K b 0 false c8 c9 := rb_m1 (Or.inr (Or.inl rfl)) h9
  have r11 : RBX t c K b 0 false c10 c11 := RBX.pI (by decide) h11
  exact (((((((((((r1.trans q2).trans r3).trans r4).trans r5).trans r6).trans q7).trans r8).trans r9).trans q10).trans r11).to e).le (Nat.zero_le _)
/-- a new SOURCE -/
theorem x6_rb {F t c K b o : Nat} {cs cs9 : CS} (h : c_X6_init F cs o = some cs9) : RBX t c K b 0 false cs cs9 := by
  unfold c_X6_init c_X6_init_b32 c_X6_init_b36 at h
  replace h := ob h; obtain ⟨c1, h1, h⟩ := h
  replace h := ob h; obtain ⟨c2, h2, h⟩ := h
  replace h := ob h; obtain ⟨c3, h3, h⟩ := h
  replace h := ob h; obtain ⟨c4, h4, h⟩ := h
  replace h := ob h; obtain ⟨c5, h5, h⟩ := h
  replace h := ob h; obtain ⟨c6, h6, h⟩ := h
  replace h := ob h; obtain ⟨c7, h7, h⟩ := h
  have e := Option.some.inj h
  obtain ⟨q6, k6, r6, -⟩ := x2_rb (t := t) (c := c) (K := K) (b := b) (nwO_z rfl h5) h6
  obtain ⟨-, s4⟩ := pI_some h4
  have z233 : kI c6 233 o = -1 := by
    obtain ⟨-, e5⟩ := nwO_some h5
    rw [k6, ← e5, (AT.ng (X := 3) (n := 5) (x := 233) (i := o) (by omega)).i, ← s4, kI_s]
  have q7 : RBX t c K b 0 false c6 c7 := by
    obtain ⟨-, s⟩ := pR_some h7
    have g : ∀ y j, ¬ (y = 235 ∧ j = o) → AT c6 c7 y j := fun y j hy => by rw [← s]; exact AT.sR hy
    refine RBX.few (g _ _ (by omega)).r (g _ _ (by omega)).i (g _ _ (by omega)).i (g _ _ (by omega)).l (g _ _ (by omega)).a (g _ _ (by omega)).a (fun j ρ r q => ?_) (fun o' x q => q.at' (g 202 o' (by omega)) (g 203 o' (by omega)))
    obtain ⟨q0, q⟩ := q
    have n1 : nI r ≠ -1 := nI_nm1 (by omega)
    rcases q with ⟨y1, y2, y3⟩ | ⟨y1, y2, y3⟩ | ⟨y1, y2, y3⟩ | ⟨y, m, y1, y2, y3, y4, y5⟩
    · rw [(g 202 j (by omega)).p] at y2
      rw [(g 197 j (by omega)).i] at y3
      exact ⟨q0, Or.inl ⟨y1, y2, y3⟩⟩
    · rw [(g 202 j (by omega)).p] at y2
      rw [(g 201 j (by omega)).i] at y3
      exact ⟨q0, Or.inr (Or.inl ⟨y1, y2, y3⟩)⟩
    · rw [(g 233 j (by omega)).i] at y3
      by_cases w : j = o
      · rw [w, z233] at y3
        exact absurd y3.symm n1
      · rw [(g 235 j (by omega)).r] at y2
        exact ⟨q0, Or.inr (Or.inr (Or.inl ⟨y1, y2, y3⟩))⟩
    · rw [(g 96 j (by omega)).i] at y2
      rw [(g 97 j (by omega)).a] at y5
      exact ⟨q0, Or.inr (Or.inr (Or.inr ⟨y, m, y1, y2, y3, y4, y5⟩))⟩
  have r1 : RBX t c K b 0 false cs c1 := RBX.pI (by decide) h1
  have r2 : RBX t c K b 0 false c1 c2 := RBX.pJ (by decide) h2
  have r3 : RBX t c K b 0 false c2 c3 := RBX.pJ (by decide) h3
  have r4 : RBX t c K b 0 false c3 c4 := rb_m1 (Or.inr (Or.inr rfl)) h4
  have r5 : RBX t c K b 0 false c4 c5 := RBX.nwO (Or.inl rfl) h5
  exact (((((((r1.trans r2).trans r3).trans r4).trans r5).trans q6).trans q7).to e).le (Nat.zero_le _)

/-! a new Code: its eleven arrays -/
theorem new_code {F c cap : Nat} {cs : CS} (h : (2, c) ∈ kE cs) (hb : KB cs) (hc : cap ≤ 120) : ∃ cs', c_X1_init F cs c (nI cap) = some cs' ∧ KB cs' ∧ EM cs cs' ∧ kK cs' = kK cs + 11 ∧ kM cs' = kM cs + 11 * cap ∧ (∀ x i, ¬ (65 ≤ x ∧ x ≤ 75 ∧ i = c) → AT cs cs' x i) ∧ CA c cap cs' := by
  obtain ⟨c0, hc0⟩ : ∃ x, x = cs := ⟨_, rfl⟩
  rw [← hc0] at h hb ⊢
  have M0 := h
  have kb0 := hb
  have q1 : nwA c0 2 65 c (nI cap) = some (nA c0 65 c cap (fun _ => 0) (fun _ => 0)) := nwA_ok M0 rfl (by omega)
  have e1 := nA_is (cs := c0) (t := 65) (i := c) (n := cap) (f := fun _ => 0) (g := fun _ => 0)
  have w1 := nA_new (cs := c0) (t := 65) (i := c) (n := cap) (f := fun _ => 0) (g := fun _ => 0)
  have a1 : ∀ x j, ¬ (x = 65 ∧ j = c) → AT c0 (nA c0 65 c cap (fun _ => 0) (fun _ => 0)) x j := fun x j hx => AT.nA hx
  have m1 : EM c0 (nA c0 65 c cap (fun _ => 0) (fun _ => 0)) := nA_em
  have kb1 : KB (nA c0 65 c cap (fun _ => 0) (fun _ => 0)) := nA_kb kb0 (kb0 _ M0)
  have s1 : kK (nA c0 65 c cap (fun _ => 0) (fun _ => 0)) = kK c0 + 1 ∧ kM (nA c0 65 c cap (fun _ => 0) (fun _ => 0)) = kM c0 + cap := ⟨rfl, rfl⟩
  obtain ⟨c1, hc1⟩ : ∃ x, x = nA c0 65 c cap (fun _ => 0) (fun _ => 0) := ⟨_, rfl⟩
  rw [← hc1] at q1 e1 w1 a1 m1 kb1 s1
  have M1 := m1 _ M0
  have q2 : nwA c1 2 66 c (nI cap) = some (nA c1 66 c cap (fun _ => 0) (fun _ => 0)) := nwA_ok M1 rfl (by omega)
  have e2 := nA_is (cs := c1) (t := 66) (i := c) (n := cap) (f := fun _ => 0) (g := fun _ => 0)
  have w2 := nA_new (cs := c1) (t := 66) (i := c) (n := cap) (f := fun _ => 0) (g := fun _ => 0)
  have a2 : ∀ x j, ¬ (x = 66 ∧ j = c) → AT c1 (nA c1 66 c cap (fun _ => 0) (fun _ => 0)) x j := fun x j hx => AT.nA hx
  have m2 : EM c1 (nA c1 66 c cap (fun _ => 0) (fun _ => 0)) := nA_em
  have kb2 : KB (nA c1 66 c cap (fun _ => 0) (fun _ => 0)) := nA_kb kb1 (kb1 _ M1)
  have s2 : kK (nA c1 66 c cap (fun _ => 0) (fun _ => 0)) = kK c1 + 1 ∧ kM (nA c1 66 c cap (fun _ => 0) (fun _ => 0)) = kM c1 + cap := ⟨rfl, rfl⟩
  obtain ⟨c2, hc2⟩ : ∃ x, x = nA c1 66 c cap (fun _ => 0) (fun _ => 0) := ⟨_, rfl⟩
  rw [← hc2] at q2 e2 w2 a2 m2 kb2 s2
  have M2 := m2 _ M1
  have q3 : nwA c2 2 67 c (nI cap) = some (nA c2 67 c cap (fun _ => 0) (fun _ => 0)) := nwA_ok M2 rfl (by omega)
  have e3 := nA_is (cs := c2) (t := 67) (i := c) (n := cap) (f := fun _ => 0) (g := fun _ => 0)
  have w3 := nA_new (cs := c2) (t := 67) (i := c) (n := cap) (f := fun _ => 0) (g := fun _ => 0)
  have a3 : ∀ x j, ¬ (x = 67 ∧ j = c) → AT c2 (nA c2 67 c cap (fun _ => 0) (fun _ => 0)) x j := fun x j hx => AT.nA hx
  have m3 : EM c2 (nA c2 67 c cap (fun _ => 0) (fun _ => 0)) := nA_em
  have kb3 : KB (nA c2 67 c cap (fun _ => 0) (fun _ => 0)) := nA_kb kb2 (kb2 _ M2)
  have s3 : kK (nA c2 67 c cap (fun _ => 0) (fun _ => 0)) = kK c2 + 1 ∧ kM (nA c2 67 c cap (fun _ => 0) (fun _ => 0)) = kM c2 + cap := ⟨rfl, rfl⟩
  obtain ⟨c3, hc3⟩ : ∃ x, x = nA c2 67 c cap (fun _ => 0) (fun _ => 0) := ⟨_, rfl⟩
  rw [← hc3] at q3 e3 w3 a3 m3 kb3 s3
  have M3 := m3 _ M2
  have q4 : nwA c3 2 68 c (nI cap) = some (nA c3 68 c cap (fun _ => 0) (fun _ => 0)) := nwA_ok M3 rfl (by omega)
  have e4 := nA_is (cs := c3) (t := 68) (i := c) (n := cap) (f := fun _ => 0) (g := fun _ => 0)
  have w4 := nA_new (cs := c3) (t := 68) (i := c) (n := cap) (f := fun _ => 0) (g := fun _ => 0)
  have a4 : ∀ x j, ¬ (x = 68 ∧ j = c) → AT c3 (nA c3 68 c cap (fun _ => 0) (fun _ => 0)) x j := fun x j hx => AT.nA hx
  have m4 : EM c3 (nA c3 68 c cap (fun _ => 0) (fun _ => 0)) := nA_em
  have kb4 : KB (nA c3 68 c cap (fun _ => 0) (fun _ => 0)) := nA_kb kb3 (kb3 _ M3)
  have s4 : kK (nA c3 68 c cap (fun _ => 0) (fun _ => 0)) = kK c3 + 1 ∧ kM (nA c3 68 c cap (fun _ => 0) (fun _ => 0)) = kM c3 + cap := ⟨rfl, rfl⟩
  obtain ⟨c4, hc4⟩ : ∃ x, x = nA c3 68 c cap (fun _ => 0) (fun _ => 0) := ⟨_, rfl⟩
  rw [← hc4] at q4 e4 w4 a4 m4 kb4 s4
  have M4 := m4 _ M3
  have q5 : nwA c4 2 69 c (nI cap) = some (nA c4 69 c cap (fun _ => 0) (fun _ => 0)) := nwA_ok M4 rfl (by omega)
  have e5 := nA_is (cs := c4) (t := 69) (i := c) (n := cap) (f := fun _ => 0) (g := fun _ => 0)
  have w5 := nA_new (cs := c4) (t := 69) (i := c) (n := cap) (f := fun _ => 0) (g := fun _ => 0)
  have a5 : ∀ x j, ¬ (x = 69 ∧ j = c) → AT c4 (nA c4 69 c cap (fun _ => 0) (fun _ => 0)) x j := fun x j hx => AT.nA hx
  have m5 : EM c4 (nA c4 69 c cap (fun _ => 0) (fun _ => 0)) := nA_em
  have kb5 : KB (nA c4 69 c cap (fun _ => 0) (fun _ => 0)) := nA_kb kb4 (kb4 _ M4)
  have s5 : kK (nA c4 69 c cap (fun _ => 0) (fun _ => 0)) = kK c4 + 1 ∧ kM (nA c4 69 c cap (fun _ => 0) (fun _ => 0)) = kM c4 + cap := ⟨rfl, rfl⟩
  obtain ⟨c5, hc5⟩ : ∃ x, x = nA c4 69 c cap (fun _ => 0) (fun _ => 0) := ⟨_, rfl⟩
  rw [← hc5] at q5 e5 w5 a5 m5 kb5 s5
  have M5 := m5 _ M4
  have q6 : nwA c5 2 70 c (nI cap) = some (nA c5 70 c cap (fun _ => 0) (fun _ => 0)) := nwA_ok M5 rfl (by omega)
  have e6 := nA_is (cs := c5) (t := 70) (i := c) (n := cap) (f := fun _ => 0) (g := fun _ => 0)
  have w6 := nA_new (cs := c5) (t := 70) (i := c) (n := cap) (f := fun _ => 0) (g := fun _ => 0)
  have a6 : ∀ x j, ¬ (x = 70 ∧ j = c) → AT c5 (nA c5 70 c cap (fun _ => 0) (fun _ => 0)) x j := fun x j hx => AT.nA hx
  have m6 : EM c5 (nA c5 70 c cap (fun _ => 0) (fun _ => 0)) := nA_em
  have kb6 : KB (nA c5 70 c cap (fun _ => 0) (fun _ => 0)) := nA_kb kb5 (kb5 _ M5)
  have s6 : kK (nA c5 70 c cap (fun _ => 0) (fun _ => 0)) = kK c5 + 1 ∧ kM (nA c5 70 c cap (fun _ => 0) (fun _ => 0)) = kM c5 + cap := ⟨rfl, rfl⟩
  obtain ⟨c6, hc6⟩ : ∃ x, x = nA c5 70 c cap (fun _ => 0) (fun _ => 0) := ⟨_, rfl⟩
  rw [← hc6] at q6 e6 w6 a6 m6 kb6 s6
  have M6 := m6 _ M5
  have q7 : nwA c6 2 71 c (nI cap) = some (nA c6 71 c cap (fun _ => 0) (fun _ => 0)) := nwA_ok M6 rfl (by omega)
  have e7 := nA_is (cs := c6) (t := 71) (i := c) (n := cap) (f := fun _ => 0) (g := fun _ => 0)
  have w7 := nA_new (cs := c6) (t := 71) (i := c) (n := cap) (f := fun _ => 0) (g := fun _ => 0)
  have a7 : ∀ x j, ¬ (x = 71 ∧ j = c) → AT c6 (nA c6 71 c cap (fun _ => 0) (fun _ => 0)) x j := fun x j hx => AT.nA hx
  have m7 : EM c6 (nA c6 71 c cap (fun _ => 0) (fun _ => 0)) := nA_em
  have kb7 : KB (nA c6 71 c cap (fun _ => 0) (fun _ => 0)) := nA_kb kb6 (kb6 _ M6)
  have s7 : kK (nA c6 71 c cap (fun _ => 0) (fun _ => 0)) = kK c6 + 1 ∧ kM (nA c6 71 c cap (fun _ => 0) (fun _ => 0)) = kM c6 + cap := ⟨rfl, rfl⟩
  obtain ⟨c7, hc7⟩ : ∃ x, x = nA c6 71 c cap (fun _ => 0) (fun _ => 0) := ⟨_, rfl⟩
  rw [← hc7] at q7 e7 w7 a7 m7 kb7 s7
  have M7 := m7 _ M6
  have q8 : nwA c7 2 72 c (nI cap) = some (nA c7 72 c cap (fun _ => 0) (fun _ => 0)) := nwA_ok M7 rfl (by omega)
  have e8 := nA_is (cs := c7) (t := 72) (i := c) (n := cap) (f := fun _ => 0) (g := fun _ => 0)
  have w8 := nA_new (cs := c7) (t := 72) (i := c) (n := cap) (f := fun _ => 0) (g := fun _ => 0)
  have a8 : ∀ x j, ¬ (x = 72 ∧ j = c) → AT c7 (nA c7 72 c cap (fun _ => 0) (fun _ => 0)) x j := fun x j hx => AT.nA hx
  have m8 : EM c7 (nA c7 72 c cap (fun _ => 0) (fun _ => 0)) := nA_em
  have kb8 : KB (nA c7 72 c cap (fun _ => 0) (fun _ => 0)) := nA_kb kb7 (kb7 _ M7)
  have s8 : kK (nA c7 72 c cap (fun _ => 0) (fun _ => 0)) = kK c7 + 1 ∧ kM (nA c7 72 c cap (fun _ => 0) (fun _ => 0)) = kM c7 + cap := ⟨rfl, rfl⟩
  obtain ⟨c8, hc8⟩ : ∃ x, x = nA c7 72 c cap (fun _ => 0) (fun _ => 0) := ⟨_, rfl⟩
  rw [← hc8] at q8 e8 w8 a8 m8 kb8 s8
  have M8 := m8 _ M7
  have q9 : nwA c8 2 73 c (nI cap) = some (nA c8 73 c cap (fun _ => 0) (fun _ => 0)) := nwA_ok M8 rfl (by omega)
  have e9 := nA_is (cs := c8) (t := 73) (i := c) (n := cap) (f := fun _ => 0) (g := fun _ => 0)
  have w9 := nA_new (cs := c8) (t := 73) (i := c) (n := cap) (f := fun _ => 0) (g := fun _ => 0)
  have a9 : ∀ x j, ¬ (x = 73 ∧ j = c) → AT c8 (nA c8 73 c cap (fun _ => 0) (fun _ => 0)) x j := fun x j hx => AT.nA hx
  have m9 : EM c8 (nA c8 73 c cap (fun _ => 0) (fun _ => 0)) := nA_em
  have kb9 : KB (nA c8 73 c cap (fun _ => 0) (fun _ => 0)) := nA_kb kb8 (kb8 _ M8)
  have s9 : kK (nA c8 73 c cap (fun _ => 0) (fun _ => 0)) = kK c8 + 1 ∧ kM (nA c8 73 c cap (fun _ => 0) (fun _ => 0)) = kM c8 + cap := ⟨rfl, rfl⟩
  obtain ⟨c9, hc9⟩ : ∃ x, x = nA c8 73 c cap (fun _ => 0) (fun _ => 0) := ⟨_, rfl⟩
  rw [← hc9] at q9 e9 w9 a9 m9 kb9 s9
  have M9 := m9 _ M8
  have q10 : nwA c9 2 74 c (nI cap) = some (nA c9 74 c cap (fun _ => 0) (fun _ => 0)) := nwA_ok M9 rfl (by omega)
  have e10 := nA_is (cs := c9) (t := 74) (i := c) (n := cap) (f := fun _ => 0) (g := fun _ => 0)
  have w10 := nA_new (cs := c9) (t := 74) (i := c) (n := cap) (f := fun _ => 0) (g := fun _ => 0)
  have a10 : ∀ x j, ¬ (x = 74 ∧ j = c) → AT c9 (nA c9 74 c cap (fun _ => 0) (fun _ => 0)) x j := fun x j hx => AT.nA hx
  have m10 : EM c9 (nA c9 74 c cap (fun _ => 0) (fun _ => 0)) := nA_em
  have kb10 : KB (nA c9 74 c cap (fun _ => 0) (fun _ => 0)) := nA_kb kb9 (kb9 _ M9)
  have s10 : kK (nA c9 74 c cap (fun _ => 0) (fun _ => 0)) = kK c9 + 1 ∧ kM (nA c9 74 c cap (fun _ => 0) (fun _ => 0)) = kM c9 + cap := ⟨rfl, rfl⟩
  obtain ⟨c10, hc10⟩ : ∃ x, x = nA c9 74 c cap (fun _ => 0) (fun _ => 0) := ⟨_, rfl⟩
  rw [← hc10] at q10 e10 w10 a10 m10 kb10 s10
  have M10 := m10 _ M9
  have q11 : nwA c10 2 75 c (nI cap) = some (nA c10 75 c cap (fun _ => 0) (fun _ => 0)) := nwA_ok M10 rfl (by omega)
  have e11 := nA_is (cs := c10) (t := 75) (i := c) (n := cap) (f := fun _ => 0) (g := fun _ => 0)
  have w11 := nA_new (cs := c10) (t := 75) (i := c) (n := cap) (f := fun _ => 0) (g := fun _ => 0)
  have a11 : ∀ x j, ¬ (x = 75 ∧ j = c) → AT c10 (nA c10 75 c cap (fun _ => 0) (fun _ => 0)) x j := fun x j hx => AT.nA hx
  have m11 : EM c10 (nA c10 75 c cap (fun _ => 0) (fun _ => 0)) := nA_em
  have kb11 : KB (nA c10 75 c cap (fun _ => 0) (fun _ => 0)) := nA_kb kb10 (kb10 _ M10)
  have s11 : kK (nA c10 75 c cap (fun _ => 0) (fun _ => 0)) = kK c10 + 1 ∧ kM (nA c10 75 c cap (fun _ => 0) (fun _ => 0)) = kM c10 + cap := ⟨rfl, rfl⟩
  obtain ⟨c11, hc11⟩ : ∃ x, x = nA c10 75 c cap (fun _ => 0) (fun _ => 0) := ⟨_, rfl⟩
  rw [← hc11] at q11 e11 w11 a11 m11 kb11 s11
  have M11 := m11 _ M10
  have W65 : (97, c) ∈ kE c11 := m11 _ (m10 _ (m9 _ (m8 _ (m7 _ (m6 _ (m5 _ (m4 _ (m3 _ (m2 _ (w1))))))))))
  have A65 : AT c1 c11 65 c := ((((((((((a2 65 c (by omega)).trans (a3 65 c (by omega))).trans (a4 65 c (by omega))).trans (a5 65 c (by omega))).trans (a6 65 c (by omega))).trans (a7 65 c (by omega))).trans (a8 65 c (by omega))).trans (a9 65 c (by omega))).trans (a10 65 c (by omega))).trans (a11 65 c (by omega)))
  have W66 : (98, c) ∈ kE c11 := m11 _ (m10 _ (m9 _ (m8 _ (m7 _ (m6 _ (m5 _ (m4 _ (m3 _ (w2)))))))))
  have A66 : AT c2 c11 66 c := (((((((((a3 66 c (by omega)).trans (a4 66 c (by omega))).trans (a5 66 c (by omega))).trans (a6 66 c (by omega))).trans (a7 66 c (by omega))).trans (a8 66 c (by omega))).trans (a9 66 c (by omega))).trans (a10 66 c (by omega))).trans (a11 66 c (by omega)))
  have W67 : (99, c) ∈ kE c11 := m11 _ (m10 _ (m9 _ (m8 _ (m7 _ (m6 _ (m5 _ (m4 _ (w3))))))))
  have A67 : AT c3 c11 67 c := ((((((((a4 67 c (by omega)).trans (a5 67 c (by omega))).trans (a6 67 c (by omega))).trans (a7 67 c (by omega))).trans (a8 67 c (by omega))).trans (a9 67 c (by omega))).trans (a10 67 c (by omega))).trans (a11 67 c (by omega)))
  have W68 : (100, c) ∈ kE c11 := m11 _ (m10 _ (m9 _ (m8 _ (m7 _ (m6 _ (m5 _ (w4)))))))
  have A68 : AT c4 c11 68 c := (((((((a5 68 c (by omega)).trans (a6 68 c (by omega))).trans (a7 68 c (by omega))).trans (a8 68 c (by omega))).trans (a9 68 c (by omega))).trans (a10 68 c (by omega))).trans (a11 68 c (by omega)))
  have W69 : (101, c) ∈ kE c11 := m11 _ (m10 _ (m9 _ (m8 _ (m7 _ (m6 _ (w5))))))
  have A69 : AT c5 c11 69 c := ((((((a6 69 c (by omega)).trans (a7 69 c (by omega))).trans (a8 69 c (by omega))).trans (a9 69 c (by omega))).trans (a10 69 c (by omega))).trans (a11 69 c (by omega)))
  have W70 : (102, c) ∈ kE c11 := m11 _ (m10 _ (m9 _ (m8 _ (m7 _ (w6)))))
  have A70 : AT c6 c11 70 c := (((((a7 70 c (by omega)).trans (a8 70 c (by omega))).trans (a9 70 c (by omega))).trans (a10 70 c (by omega))).trans (a11 70 c (by omega)))
  have W71 : (103, c) ∈ kE c11 := m11 _ (m10 _ (m9 _ (m8 _ (w7))))
  have A71 : AT c7 c11 71 c := ((((a8 71 c (by omega)).trans (a9 71 c (by omega))).trans (a10 71 c (by omega))).trans (a11 71 c (by omega)))
  have W72 : (104, c) ∈ kE c11 := m11 _ (m10 _ (m9 _ (w8)))
  have A72 : AT c8 c11 72 c := (((a9 72 c (by omega)).trans (a10 72 c (by omega))).trans (a11 72 c (by omega)))
  have W73 : (105, c) ∈ kE c11 := m11 _ (m10 _ (w9))
  have A73 : AT c9 c11 73 c := ((a10 73 c (by omega)).trans (a11 73 c (by omega)))
  have W74 : (106, c) ∈ kE c11 := m11 _ (w10)
  have A74 : AT c10 c11 74 c := (a11 74 c (by omega))
  have W75 : (107, c) ∈ kE c11 := w11
  have A75 : AT c11 c11 75 c := AT.refl
  refine ⟨c11, ?_, kb11, (m1.trans (m2.trans (m3.trans (m4.trans (m5.trans (m6.trans (m7.trans (m8.trans (m9.trans (m10.trans m11)))))))))), by omega, by omega, fun x i hx => (((((((((((a1 x i (by omega)).trans (a2 x i (by omega))).trans (a3 x i (by omega))).trans (a4 x i (by omega))).trans (a5 x i (by omega))).trans (a6 x i (by omega))).trans (a7 x i (by omega))).trans (a8 x i (by omega))).trans (a9 x i (by omega))).trans (a10 x i (by omega))).trans (a11 x i (by omega))), ⟨W65, ⟨_, by rw [A65.p]; exact e1.1⟩, by rw [A65.l]; exact e1.2.1, W66, ⟨_, by rw [A66.p]; exact e2.1⟩, by rw [A66.l]; exact e2.2.1, W67, ⟨_, by rw [A67.p]; exact e3.1⟩, by rw [A67.l]; exact e3.2.1, W68, ⟨_, by rw [A68.p]; exact e4.1⟩, by rw [A68.l]; exact e4.2.1, W69, ⟨_, by rw [A69.p]; exact e5.1⟩, by rw [A69.l]; exact e5.2.1, W70, ⟨_, by rw [A70.p]; exact e6.1⟩, by rw [A70.l]; exact e6.2.1, W71, ⟨_, by rw [A71.p]; exact e7.1⟩, by rw [A71.l]; exact e7.2.1, W72, ⟨_, by rw [A72.p]; exact e8.1⟩, by rw [A72.l]; exact e8.2.1, W73, ⟨_, by rw [A73.p]; exact e9.1⟩, by rw [A73.l]; exact e9.2.1, W74, ⟨_, by rw [A74.p]; exact e10.1⟩, by rw [A74.l]; exact e10.2.1, W75, ⟨_, by rw [A75.p]; exact e11.1⟩, by rw [A75.l]; exact e11.2.1⟩⟩
  unfold c_X1_init c_X1_init_b17 c_X1_init_b24 c_X1_init_b31 c_X1_init_b38 c_X1_init_b45 c_X1_init_b52 c_X1_init_b59 c_X1_init_b66 c_X1_init_b73 c_X1_init_b80 c_X1_init_b87
  rw [if_neg (nI_pos (by omega)), q1, ob_s, q2, ob_s, q3, ob_s, q4, ob_s, q5, ob_s, q6, ob_s, q7, ob_s, q8, ob_s, q9, ob_s, q10, ob_s, q11, ob_s]

/-! reading, the class alone: where EXPRS lie, and who points to them -/
/-- the reference number ρ of the object j has the root r: 0 where, 1 having, 2 on, y + 3 the column y -/
def RFS (cs : CS) (j ρ r : Nat) : Prop := r < 120 ∧ ((ρ = 0 ∧ kP cs 202 j ≠ none ∧ kI cs 197 j = nI r) ∨ (ρ = 1 ∧ kP cs 202 j ≠ none ∧ kI cs 201 j = nI r) ∨ (ρ = 2 ∧ kR cs 235 j ≠ none ∧ kI cs 233 j = nI r) ∨ ∃ y m, ρ = y + 3 ∧ kI cs 96 j = nI m ∧ m ≤ 8 ∧ y < m ∧ kA cs 97 j y = nI r)
/-- two roots whose EXPRS do not meet -/
def DSJ (c : Nat) (cs : CS) (r r' : Nat) : Prop := (∃ a, kA cs 67 c r' = nI a ∧ r < a ∧ a ≤ r') ∨ ∃ a, kA cs 67 c r = nI a ∧ r' < a ∧ a ≤ r
def INV (K c : Nat) (cs : CS) : Prop := (∀ j ρ r, K ≤ j → RFS cs j ρ r → r < SZ c cs) ∧ ∀ j ρ r j' ρ' r', K ≤ j → K ≤ j' → RFS cs j ρ r → RFS cs j' ρ' r' → (j = j' ∧ ρ = ρ') ∨ DSJ c cs r r'
/-- aggregates belong to one SELECT each -/
def AMI (K c : Nat) (cs : CS) : Prop := (∀ o x, K ≤ o → x < 120 → AM o cs x → x < SZ c cs ∧ AGC (kA cs 65 c x)) ∧ ∀ o o' x, K ≤ o → K ≤ o' → x < 120 → AM o cs x → AM o' cs x → o = o'
/-- there is room for nodes -/
def NF (c : Nat) (cs : CS) : Prop := kL cs 65 c < 2147483648 ∧ (SZ c cs < kL cs 65 c ∨ 120 ≤ kL cs 65 c)
/-- a root that is newer than all others -/
def FRS (K c : Nat) (cs : CS) (v : Int32) : Prop := ∃ r a, v = nI r ∧ r < SZ c cs ∧ a ≤ r ∧ kA cs 67 c r = nI a ∧ ∀ j ρ r', K ≤ j → RFS cs j ρ r' → r' < a
/-- what the references look at -/
def SR0 (a d : CS) : Prop := ∀ j, kP d 202 j = kP a 202 j ∧ kI d 197 j = kI a 197 j ∧ kI d 201 j = kI a 201 j ∧ kR d 235 j = kR a 235 j ∧ kI d 233 j = kI a 233 j ∧ kI d 96 j = kI a 96 j ∧ kA d 97 j = kA a 97 j
theorem SR0.rfs {a d : CS} {j ρ r : Nat} (h : SR0 a d) (g : RFS d j ρ r) : RFS a j ρ r := by
  obtain ⟨h1, h2, h3, h4, h5, h6, h7⟩ := h j
  unfold RFS at g
  rw [h1, h2, h3, h4, h5, h6, h7] at g
  exact g
theorem SR0.refl {a : CS} : SR0 a a := fun _ => ⟨rfl, rfl, rfl, rfl, rfl, rfl, rfl⟩
theorem SR0.trans {a b d : CS} (h : SR0 a b) (g : SR0 b d) : SR0 a d := fun j => by
  obtain ⟨h1, h2, h3, h4, h5, h6, h7⟩ := h j
  obtain ⟨g1, g2, g3, g4, g5, g6, g7⟩ := g j
  exact ⟨g1.trans h1, g2.trans h2, g3.trans h3, g4.trans h4, g5.trans h5, g6.trans h6, g7.trans h7⟩
def RBX (t c K b k : Nat) (β : Bool) (a d : CS) : Prop := kR a 322 t = some c → kR d 322 t = some c ∧ kL d 65 c = kL a 65 c ∧ SZ c a ≤ SZ c d ∧ (β = true → SR0 a d) ∧ (kI d 320 t = 0 → NF c d → kI a 320 t = 0 ∧ (AMI K c a → AMI K c d) ∧ (INV K c a → INV K c d) ∧ (∀ y, y < SZ c a → kA d 67 c y = kA a 67 c y ∧ kA d 65 c y = kA a 65 c y) ∧ (b ≤ SZ c a → SZ c a + k ≤ SZ c d ∧ (SZ c a < SZ c d → ∃ q, b ≤ q ∧ q < SZ c d ∧ kA d 67 c (SZ c d - 1) = nI q)))
theorem NF.up {c : Nat} {a d : CS} (h : NF c d) (h1 : kL d 65 c = kL a 65 c) (h2 : SZ c a ≤ SZ c d) : NF c a := by
  unfold NF at h ⊢
  rw [h1] at h
  omega
theorem RBX.refl {β : Bool} {t c K b : Nat} {a : CS} : RBX t c K b 0 β a a := fun hk => ⟨hk, rfl, Nat.le_refl _, fun _ => SR0.refl, fun f _ => ⟨f, id, id, fun _ _ => ⟨rfl, rfl⟩, fun _ => ⟨Nat.le_refl _, fun w => absurd w (Nat.lt_irrefl _)⟩⟩⟩
theorem RBX.trans {β : Bool} {t c K b k1 k2 : Nat} {a m d : CS} (h : RBX t c K b k1 β a m) (g : RBX t c K b k2 β m d) : RBX t c K b (k1 + k2) β a d := fun hk => by
  obtain ⟨m1, m2, m3, m5, m4⟩ := h hk
  obtain ⟨d1, d2, d3, d5, d4⟩ := g m1
  refine ⟨d1, d2.trans m2, Nat.le_trans m3 d3, fun w => (m5 w).trans (d5 w), fun f nf => ?_⟩
  obtain ⟨f1, a1, i1, n1, s1⟩ := d4 f nf
  obtain ⟨f0, a0, i0, n0, s0⟩ := m4 f1 (nf.up d2 d3)
  refine ⟨f0, fun w => a1 (a0 w), fun w => i1 (i0 w), fun y hy => ⟨(n1 y (by omega)).1.trans (n0 y hy).1, (n1 y (by omega)).2.trans (n0 y hy).2⟩, fun hb => ?_⟩
  obtain ⟨p1, p2⟩ := s0 hb
  obtain ⟨q1, q2⟩ := s1 (by omega)
  refine ⟨by omega, fun hl => ?_⟩
  by_cases w : SZ c m < SZ c d
  · exact q2 w
  · have e : SZ c d = SZ c m := by omega
    obtain ⟨q, z1, z2, z3⟩ := p2 (by omega)
    exact ⟨q, z1, by omega, by rw [e, (n1 _ (by omega)).1]; exact z3⟩
theorem RBX.le {β : Bool} {t c K b k k' : Nat} {a d : CS} (h : RBX t c K b k' β a d) (hk : k ≤ k') : RBX t c K b k β a d := fun h0 => by
  obtain ⟨d1, d2, d3, d5, d4⟩ := h h0
  refine ⟨d1, d2, d3, d5, fun f nf => ?_⟩
  obtain ⟨f1, a1, i1, n1, s1⟩ := d4 f nf
  exact ⟨f1, a1, i1, n1, fun hb => ⟨Nat.le_trans (Nat.add_le_add_left hk _) (s1 hb).1, (s1 hb).2⟩⟩
/-- all of a QUERY's reading -/
theorem RBX.q {t c K b k : Nat} {a d : CS} (h : RBX t c K b k true a d) : RBX t c K b k false a d := fun h0 => by
  obtain ⟨d1, d2, d3, -, d4⟩ := h h0
  exact ⟨d1, d2, d3, fun w => absurd w (by decide), d4⟩
theorem RBX.to {β : Bool} {t c K b k : Nat} {a d m : CS} (h : RBX t c K b k β a d) (w : d = m) : RBX t c K b k β a m := w ▸ h
theorem RBX.ent {β : Bool} {t c K b k : Nat} {a d : CS} (H : ∀ b', b' ≤ SZ c a → kR a 322 t = some c → RBX t c K b' k β a d) : RBX t c K b k β a d := fun hk => by
  obtain ⟨d1, d2, d3, d5, d4⟩ := H 0 (Nat.zero_le _) hk hk
  refine ⟨d1, d2, d3, d5, fun f nf => ?_⟩
  obtain ⟨f1, a1, i1, n1, -⟩ := d4 f nf
  exact ⟨f1, a1, i1, n1, fun hb => ((H b hb hk hk).2.2.2.2 f nf).2.2.2.2 hb⟩
/-- nodes kept below the size, the references' too -/
theorem INV.kp {K c : Nat} {a d : CS} (h : INV K c a) (hs : SZ c a ≤ SZ c d) (hr : ∀ j ρ r, K ≤ j → RFS d j ρ r → RFS a j ρ r) (hf : ∀ y, y < SZ c a → kA d 67 c y = kA a 67 c y) : INV K c d := by
  refine ⟨fun j ρ r hj g => Nat.lt_of_lt_of_le (h.1 j ρ r hj (hr j ρ r hj g)) hs, fun j ρ r j' ρ' r' hj hj' g g' => ?_⟩
  have w := hr j ρ r hj g
  have w' := hr j' ρ' r' hj' g'
  rcases h.2 j ρ r j' ρ' r' hj hj' w w' with q | q
  · exact Or.inl q
  · refine Or.inr ?_
    unfold DSJ
    rw [hf r (h.1 j ρ r hj w), hf r' (h.1 j' ρ' r' hj' w')]
    exact q
theorem AMI.kp {K c : Nat} {a d : CS} (h : AMI K c a) (hs : SZ c a ≤ SZ c d) (hr : ∀ o x, K ≤ o → AM o d x → AM o a x) (hk : ∀ y, y < SZ c a → kA d 65 c y = kA a 65 c y) : AMI K c d := by
  refine ⟨fun o x ho hx g => ?_, fun o o' x ho ho' hx g g' => h.2 o o' x ho ho' hx (hr o x ho g) (hr o' x ho' g')⟩
  obtain ⟨q1, q2⟩ := h.1 o x ho hx (hr o x ho g)
  exact ⟨by omega, by rw [hk x q1]; exact q2⟩
theorem RBX.of0 {β : Bool} {t c K b : Nat} {a d : CS} (h1 : kR d 322 t = kR a 322 t) (h2 : kI d 320 t = kI a 320 t) (h3 : kI d 64 c = kI a 64 c) (h4 : kL d 65 c = kL a 65 c) (h5 : kA d 67 c = kA a 67 c) (h6 : kA d 65 c = kA a 65 c) (h7 : SR0 a d) (h8 : ∀ o, kI d 203 o = kI a 203 o ∧ kA d 202 o = kA a 202 o) : RBX t c K b 0 β a d := fun hk => by
  have hz : SZ c d = SZ c a := by unfold SZ; rw [h3]
  refine ⟨by rw [h1]; exact hk, h4, by omega, fun _ => h7, fun f _ => ⟨by rw [← h2]; exact f, fun w => w.kp (by omega) (fun o x _ g => ?_) (fun y _ => by rw [h6]), fun w => w.kp (by omega) (fun j ρ r _ g => h7.rfs g) (fun y _ => by rw [h5]), fun y _ => ⟨by rw [h5], by rw [h6]⟩, fun _ => ⟨by omega, fun w => absurd w (by omega)⟩⟩⟩
  obtain ⟨i, k, m1, m2, m3, m4⟩ := g
  rw [(h8 o).1] at m2
  rw [(h8 o).2] at m4
  exact ⟨i, k, m1, m2, m3, m4⟩
def nrI (x : Nat) : Bool := x != 64 && x != 203 && x != 320 && x != 96 && x != 197 && x != 201 && x != 233
def nrA (x : Nat) : Bool := x != 65 && x != 67 && x != 202 && x != 97
theorem nrI_ne {x y : Nat} (h : nrI x = true) (hy : nrI y = false) : y ≠ x := fun e => by
  rw [e, h] at hy
  cases hy
theorem nrA_ne {x y : Nat} (h : nrA x = true) (hy : nrA y = false) : y ≠ x := fun e => by
  rw [e, h] at hy
  cases hy
theorem RBX.pI {β : Bool} {t c K b : Nat} {cs cs1 : CS} {X x i : Nat} {v : Int32} (h : nrI x = true) (hv : pI cs X x i v = some cs1) : RBX t c K b 0 β cs cs1 := by
  obtain ⟨-, rfl⟩ := pI_some hv
  have e : ∀ y j, nrI y = false → kI (sI cs x i v) y j = kI cs y j := fun y j hy => u2_n (fun w => nrI_ne h hy w.1)
  exact RBX.of0 rfl (e 320 t rfl) (e 64 c rfl) rfl rfl rfl (fun j => ⟨rfl, e 197 j rfl, e 201 j rfl, rfl, e 233 j rfl, e 96 j rfl, rfl⟩) (fun o => ⟨e 203 o rfl, rfl⟩)
theorem RBX.pJ {β : Bool} {t c K b : Nat} {cs cs1 : CS} {X x i : Nat} {v : Int64} (_ : nrI x = true) (hv : pJ cs X x i v = some cs1) : RBX t c K b 0 β cs cs1 := by
  obtain ⟨-, rfl⟩ := pJ_some hv
  exact RBX.of0 rfl rfl rfl rfl rfl rfl (fun j => ⟨rfl, rfl, rfl, rfl, rfl, rfl, rfl⟩) (fun o => ⟨rfl, rfl⟩)
theorem RBX.pR {β : Bool} {t c K b : Nat} {cs cs1 : CS} {X x i : Nat} {v : Option Nat} (h : (x != 322 && x != 235) = true) (hv : pR cs X x i v = some cs1) : RBX t c K b 0 β cs cs1 := by
  obtain ⟨-, rfl⟩ := pR_some hv
  have n1 : ¬ x = 322 := fun e => by rw [e] at h; cases h
  have n2 : ¬ x = 235 := fun e => by rw [e] at h; cases h
  exact RBX.of0 (u2_n (fun w => n1 w.1.symm)) rfl rfl rfl rfl rfl (fun j => ⟨rfl, rfl, rfl, u2_n (fun w => n2 w.1.symm), rfl, rfl, rfl⟩) (fun o => ⟨rfl, rfl⟩)
theorem RBX.wA {β : Bool} {t c K b : Nat} {cs cs1 : CS} {x i j : Nat} {y : Int32} {v : Int32} (h : nrA x = true) (hv : wA cs x i j y v = some cs1) : RBX t c K b 0 β cs cs1 := by
  obtain ⟨-, rfl⟩ := wA_some hv
  have e : ∀ z w, nrA z = false → kA (sA cs x i y.toNatClampNeg v) z w = kA cs z w := fun z w hz => u2_n (fun q => nrA_ne h hz q.1)
  exact RBX.of0 rfl rfl rfl rfl (e 67 c rfl) (e 65 c rfl) (fun j => ⟨rfl, rfl, rfl, rfl, rfl, rfl, e 97 j rfl⟩) (fun o => ⟨rfl, e 202 o rfl⟩)
theorem RBX.wB {β : Bool} {t c K b : Nat} {cs cs1 : CS} {x i j : Nat} {y : Int32} {v : Int64} (_ : (0 : Nat) = 0) (hv : wB cs x i j y v = some cs1) : RBX t c K b 0 β cs cs1 := by
  obtain ⟨-, rfl⟩ := wB_some hv
  exact RBX.of0 rfl rfl rfl rfl rfl rfl (fun j => ⟨rfl, rfl, rfl, rfl, rfl, rfl, rfl⟩) (fun o => ⟨rfl, rfl⟩)
theorem RBX.wQ {β : Bool} {t c K b : Nat} {cs cs1 : CS} {x i j : Nat} {y : Int32} {v : Option Nat} (_ : (0 : Nat) = 0) (hv : wQ cs x i j y v = some cs1) : RBX t c K b 0 β cs cs1 := by
  obtain ⟨-, rfl⟩ := wQ_some hv
  exact RBX.of0 rfl rfl rfl rfl rfl rfl (fun j => ⟨rfl, rfl, rfl, rfl, rfl, rfl, rfl⟩) (fun o => ⟨rfl, rfl⟩)
/-! first nodes -/
def FST (b : Nat) (v : Int32) : Prop := ∀ N, b ≤ N → N + 1 < 2147483648 → ∃ q, FI N v = nI q ∧ b ≤ q ∧ q ≤ N
theorem FST.num {b X : Nat} (hb : b ≤ X) (hX : X < 2147483648) : FST b (nI X) := fun N h1 h2 => by
  by_cases w : X < N
  · exact ⟨X, FI_lt w (by omega), hb, by omega⟩
  · refine ⟨N, ?_, h1, Nat.le_refl _⟩
    have e : (if nI N < nI X then nI N else nI X) = nI N := by
      by_cases z : N = X
      · rw [z, ite_self]
      · exact if_pos (nI_lt (by omega) hX)
    unfold FI
    rw [if_neg (nI_n0 hX), e]

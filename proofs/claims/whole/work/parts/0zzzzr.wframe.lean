/-! what a whole method leaves alone: fields outside S -/
def WF (S : Nat → Bool) (a b : CS) : Prop := EM a b ∧ kK a ≤ kK b ∧ ∀ x j, S x = false → (j < kK a → AT a b x j) ∧ (kI b x j = kI a x j ∨ kI b x j = 0)
theorem WF.refl {S : Nat → Bool} {a : CS} : WF S a a := ⟨EM.refl, Nat.le_refl _, fun _ _ _ => ⟨fun _ => AT.refl, Or.inl rfl⟩⟩
theorem WF.trans {S : Nat → Bool} {a b c : CS} (h : WF S a b) (g : WF S b c) : WF S a c := ⟨h.1.trans g.1, Nat.le_trans h.2.1 g.2.1, fun x j hx => ⟨fun hj => ((h.2.2 x j hx).1 hj).trans ((g.2.2 x j hx).1 (Nat.lt_of_lt_of_le hj h.2.1)), by
  rcases (g.2.2 x j hx).2 with y | y
  · rw [y]; exact (h.2.2 x j hx).2
  · exact Or.inr y⟩⟩
theorem WF.to {S : Nat → Bool} {a b c : CS} (h : WF S a b) (e : b = c) : WF S a c := e ▸ h
theorem WF.at' {S : Nat → Bool} {a b : CS} (em : EM a b) (kk : kK a ≤ kK b) (h : ∀ x j, S x = false → AT a b x j) : WF S a b := ⟨em, kk, fun x j hx => ⟨fun _ => h x j hx, Or.inl (h x j hx).i⟩⟩
theorem sF_ne {S : Nat → Bool} {t x : Nat} (h : S t = true) (hx : S x = false) : x ≠ t := fun e => by
  rw [e, h] at hx
  cases hx
theorem WF.pI {S : Nat → Bool} {cs cs1 : CS} {X t i : Nat} {v : Int32} (h : S t = true) (hv : pI cs X t i v = some cs1) : WF S cs cs1 := by
  obtain ⟨-, rfl⟩ := pI_some hv
  exact WF.at' EM.refl (Nat.le_refl _) (fun x j hx => AT.sI (fun y => sF_ne h hx y.1))
theorem WF.pJ {S : Nat → Bool} {cs cs1 : CS} {X t i : Nat} {v : Int64} (h : S t = true) (hv : pJ cs X t i v = some cs1) : WF S cs cs1 := by
  obtain ⟨-, rfl⟩ := pJ_some hv
  exact WF.at' EM.refl (Nat.le_refl _) (fun x j hx => AT.sJ (fun y => sF_ne h hx y.1))
theorem WF.pR {S : Nat → Bool} {cs cs1 : CS} {X t i : Nat} {v : Option Nat} (h : S t = true) (hv : pR cs X t i v = some cs1) : WF S cs cs1 := by
  obtain ⟨-, rfl⟩ := pR_some hv
  exact WF.at' EM.refl (Nat.le_refl _) (fun x j hx => AT.sR (fun y => sF_ne h hx y.1))
theorem WF.wA {S : Nat → Bool} {cs cs1 : CS} {t i j : Nat} {x : Int32} {v : Int32} (h : S t = true) (hv : wA cs t i j x v = some cs1) : WF S cs cs1 := by
  obtain ⟨-, rfl⟩ := wA_some hv
  exact WF.at' EM.refl (Nat.le_refl _) (fun x j hx => AT.sA (fun y => sF_ne h hx y.1))
theorem WF.wB {S : Nat → Bool} {cs cs1 : CS} {t i j : Nat} {x : Int32} {v : Int64} (h : S t = true) (hv : wB cs t i j x v = some cs1) : WF S cs cs1 := by
  obtain ⟨-, rfl⟩ := wB_some hv
  exact WF.at' EM.refl (Nat.le_refl _) (fun x j hx => AT.sB (fun y => sF_ne h hx y.1))
theorem WF.wQ {S : Nat → Bool} {cs cs1 : CS} {t i j : Nat} {x : Int32} {v : Option Nat} (h : S t = true) (hv : wQ cs t i j x v = some cs1) : WF S cs cs1 := by
  obtain ⟨-, rfl⟩ := wQ_some hv
  exact WF.at' EM.refl (Nat.le_refl _) (fun x j hx => AT.sQ (fun y => sF_ne h hx y.1))
theorem WF.nwO {S : Nat → Bool} {cs cs1 : CS} {X n : Nat} (hv : nwO cs X n = some cs1) : WF S cs cs1 := by
  obtain ⟨-, rfl⟩ := nwO_some hv
  refine ⟨nO_em, Nat.le_succ _, fun x j _ => ⟨fun hj => AT.no1 hj, ?_⟩⟩
  by_cases y : x / 32 = X ∧ j = kK cs
  · exact Or.inr (if_pos y)
  · exact Or.inl (if_neg y)
theorem WF.nwA {S : Nat → Bool} {cs cs1 : CS} {X t i : Nat} {x : Int32} (h : S t = true) (hv : nwA cs X t i x = some cs1) : WF S cs cs1 := by
  obtain ⟨-, rfl⟩ := nwA_some hv
  exact WF.at' nA_em (Nat.le_succ _) (fun x j hx => AT.nA (fun y => sF_ne h hx y.1))
theorem WF.lAd {S : Nat → Bool} {cs cs1 : CS} {L z : Nat} (h0 : S 0 = true) (h1 : S 1 = true) (h2 : S 2 = true) (_ : S 128 = true) (hv : lAd cs L z = some cs1) : WF S cs cs1 := by
  obtain ⟨j, -, rfl⟩ := lAd_some hv
  exact WF.at' EM.refl (Nat.le_refl _) (fun x j hx => ((AT.sI (fun y => sF_ne h0 hx y.1)).trans (AT.sI (fun y => sF_ne h2 hx y.1))).trans (AT.sQ (fun y => sF_ne h1 hx y.1)))
theorem WF.nwL {S : Nat → Bool} {cs cs1 : CS} {i z : Nat} (h0 : S 0 = true) (h1 : S 1 = true) (h2 : S 2 = true) (h3 : S 128 = true) (hv : nwL cs i z = some cs1) : WF S cs cs1 := by
  obtain ⟨-, rfl⟩ := nwL_some hv
  refine WF.at' (fun p hp => List.mem_append.mpr (Or.inl hp)) (by show kK cs ≤ kK cs + 2; omega) (fun x j hx => ?_)
  have n0 := sF_ne h0 hx
  have n1 := sF_ne h1 hx
  have n2 := sF_ne h2 hx
  have n3 := sF_ne h3 hx
  exact ⟨(u2_n (fun y => n2 y.1)).trans (u2_n (fun y => n0 y.1)), rfl, u2_n (fun y => n3 y.1), u2_n (fun y => n1 y.1), rfl, rfl, u2_n (fun y => n1 y.1), u2_n (fun y => n1 y.1)⟩
/-- the parser's fields -/
def pF (x : Nat) : Bool := (x / 32 == 0 || x / 32 == 2 || x / 32 == 3 || x / 32 == 4 || x / 32 == 6 || x / 32 == 7 || x / 32 == 10) && !(x == 133 || x == 206 || x == 234)

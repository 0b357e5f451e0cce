/-! arrays that an answer does not lay anew -/
def PLX (x : Nat) : Prop := (288 ≤ x ∧ x ≤ 291) ∨ (395 ≤ x ∧ x ≤ 398)
def PLR (a b : CS) : Prop := ∀ x j, ¬ PLX x → kP b x j = kP a x j ∧ kL b x j = kL a x j
theorem PLR.refl {a : CS} : PLR a a := fun _ _ _ => ⟨rfl, rfl⟩
theorem PLR.trans {a b c : CS} (h : PLR a b) (g : PLR b c) : PLR a c := fun x j hx => ⟨(g x j hx).1.trans (h x j hx).1, (g x j hx).2.trans (h x j hx).2⟩
theorem PLR.to {a b c : CS} (h : PLR a b) (e : b = c) : PLR a c := e ▸ h
theorem PLR.of {a b : CS} (h : kP b = kP a) (g : kL b = kL a) : PLR a b := fun x j _ => ⟨by rw [h], by rw [g]⟩
theorem PLR.pI {cs cs1 : CS} {X t i : Nat} {v : Int32} (hv : pI cs X t i v = some cs1) : PLR cs cs1 := by
  obtain ⟨-, rfl⟩ := pI_some hv
  exact PLR.of rfl rfl
theorem PLR.pJ {cs cs1 : CS} {X t i : Nat} {v : Int64} (hv : pJ cs X t i v = some cs1) : PLR cs cs1 := by
  obtain ⟨-, rfl⟩ := pJ_some hv
  exact PLR.of rfl rfl
theorem PLR.pR {cs cs1 : CS} {X t i : Nat} {v : Option Nat} (hv : pR cs X t i v = some cs1) : PLR cs cs1 := by
  obtain ⟨-, rfl⟩ := pR_some hv
  exact PLR.of rfl rfl
theorem PLR.wA {cs cs1 : CS} {t i j : Nat} {x : Int32} {v : Int32} (hv : wA cs t i j x v = some cs1) : PLR cs cs1 := by
  obtain ⟨-, rfl⟩ := wA_some hv
  exact PLR.of rfl rfl
theorem PLR.wB {cs cs1 : CS} {t i j : Nat} {x : Int32} {v : Int64} (hv : wB cs t i j x v = some cs1) : PLR cs cs1 := by
  obtain ⟨-, rfl⟩ := wB_some hv
  exact PLR.of rfl rfl
theorem PLR.wQ {cs cs1 : CS} {t i j : Nat} {x : Int32} {v : Option Nat} (hv : wQ cs t i j x v = some cs1) : PLR cs cs1 := by
  obtain ⟨-, rfl⟩ := wQ_some hv
  exact PLR.of rfl rfl
theorem PLR.cpA {cs : CS} {t1 i1 j1 : Nat} {sp : Int32} {t2 i2 j2 : Nat} {dp n : Int32} {cs1 : CS} (hv : cpA cs t1 i1 j1 sp t2 i2 j2 dp n = some cs1) : PLR cs cs1 := by
  obtain ⟨-, rfl⟩ := cpA_some hv
  exact PLR.of rfl rfl
theorem PLR.cpB {cs : CS} {t1 i1 j1 : Nat} {sp : Int32} {t2 i2 j2 : Nat} {dp n : Int32} {cs1 : CS} (hv : cpB cs t1 i1 j1 sp t2 i2 j2 dp n = some cs1) : PLR cs cs1 := by
  obtain ⟨-, rfl⟩ := cpB_some hv
  exact PLR.of rfl rfl
theorem pln_A {cs : CS} {t i n : Nat} {f : Nat → Int32} {g : Nat → Int64} (h : PLX t) : PLR cs (nA cs t i n f g) := fun x j hx => by
  have ne : x ≠ t := fun e => hx (by rw [e]; exact h)
  refine ⟨?_, ?_⟩
  · show u2 (kP cs) t i (some (kK cs)) x j = _
    exact u2_n (fun w => ne w.1)
  · show u2 (kL cs) t i n x j = _
    exact u2_n (fun w => ne w.1)
theorem PLR.nwA {cs cs1 : CS} {X t i : Nat} {x : Int32} (h : PLX t) (hv : nwA cs X t i x = some cs1) : PLR cs cs1 := by
  obtain ⟨-, rfl⟩ := nwA_some hv
  exact pln_A h
theorem PLR.gwA {cs cs1 : CS} {X t i j : Nat} {x : Int32} (h : PLX t) (hv : gwA cs X t i j x = some cs1) : PLR cs cs1 := by
  obtain ⟨-, rfl⟩ := gwA_some hv
  exact pln_A h
theorem PLR.gwB {cs cs1 : CS} {X t i j : Nat} {x : Int32} (h : PLX t) (hv : gwB cs X t i j x = some cs1) : PLR cs cs1 := by
  obtain ⟨-, rfl⟩ := gwB_some hv
  exact pln_A h
theorem PLR.swp {cs cs1 : CS} {i j : Nat} (hv : swp cs i j = some cs1) : PLR cs cs1 := by
  obtain ⟨k, hi, rfl⟩ := swp_some hv
  intro x m hx
  have n0 : x ≠ 290 := fun e => hx (by rw [e]; exact Or.inl ⟨by omega, by omega⟩)
  have n1 : x ≠ 291 := fun e => hx (by rw [e]; exact Or.inl ⟨by omega, by omega⟩)
  refine ⟨swP_n (fun w => n0 w.1) (fun w => n1 w.1), ?_⟩
  show u2 (u2 (kL cs) 290 i (kL cs 291 i)) 291 i (kL cs 290 i) x m = _
  exact (u2_n (fun w => n1 w.1)).trans (u2_n (fun w => n0 w.1))

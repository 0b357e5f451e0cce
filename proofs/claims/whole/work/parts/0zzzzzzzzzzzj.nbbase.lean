/-! the tape's bytes under the tokens -/
def NB (a b : CS) : Prop := (387, 9) ∈ kE b → (387, 9) ∈ kE a
theorem NB.refl {a : CS} : NB a a := fun h => h
theorem NB.trans {a b c : CS} (h : NB a b) (g : NB b c) : NB a c := fun x => h (g x)
theorem NB.to {a b c : CS} (h : NB a b) (e : b = c) : NB a c := e ▸ h
theorem NB.of {a b : CS} (h : kE b = kE a) : NB a b := fun w => by
  rw [h] at w
  exact w
theorem NB.pI {cs cs1 : CS} {X t i : Nat} {v : Int32} (hv : pI cs X t i v = some cs1) : NB cs cs1 := by
  obtain ⟨-, rfl⟩ := pI_some hv
  exact NB.of rfl
theorem NB.pJ {cs cs1 : CS} {X t i : Nat} {v : Int64} (hv : pJ cs X t i v = some cs1) : NB cs cs1 := by
  obtain ⟨-, rfl⟩ := pJ_some hv
  exact NB.of rfl
theorem NB.pR {cs cs1 : CS} {X t i : Nat} {v : Option Nat} (hv : pR cs X t i v = some cs1) : NB cs cs1 := by
  obtain ⟨-, rfl⟩ := pR_some hv
  exact NB.of rfl
theorem NB.wA {cs cs1 : CS} {t i j : Nat} {x : Int32} {v : Int32} (hv : wA cs t i j x v = some cs1) : NB cs cs1 := by
  obtain ⟨-, rfl⟩ := wA_some hv
  exact NB.of rfl
theorem NB.wB {cs cs1 : CS} {t i j : Nat} {x : Int32} {v : Int64} (hv : wB cs t i j x v = some cs1) : NB cs cs1 := by
  obtain ⟨-, rfl⟩ := wB_some hv
  exact NB.of rfl
theorem NB.wQ {cs cs1 : CS} {t i j : Nat} {x : Int32} {v : Option Nat} (hv : wQ cs t i j x v = some cs1) : NB cs cs1 := by
  obtain ⟨-, rfl⟩ := wQ_some hv
  exact NB.of rfl
theorem NB.nwO {cs cs1 : CS} {X n : Nat} (h : X ≠ 387) (hv : nwO cs X n = some cs1) : NB cs cs1 := by
  obtain ⟨-, rfl⟩ := nwO_some hv
  intro w
  rcases List.mem_append.mp (show (387, 9) ∈ kE cs ++ [(X, kK cs)] from w) with q | q
  · exact q
  · exact absurd (Prod.mk.inj (List.mem_singleton.mp q)).1.symm h
theorem NB.nwA {cs cs1 : CS} {X t i : Nat} {x : Int32} (h : 32 + t ≠ 387) (hv : nwA cs X t i x = some cs1) : NB cs cs1 := by
  obtain ⟨-, rfl⟩ := nwA_some hv
  intro w
  have w' : (387, 9) ∈ (if (32 + t, i) ∈ kE cs then kE cs else kE cs ++ [(32 + t, i)]) := w
  by_cases y : (32 + t, i) ∈ kE cs
  · rw [if_pos y] at w'
    exact w'
  · rw [if_neg y] at w'
    rcases List.mem_append.mp w' with q | q
    · exact q
    · exact absurd (Prod.mk.inj (List.mem_singleton.mp q)).1.symm h
theorem NB.lAd {cs cs1 : CS} {L z : Nat} (hv : lAd cs L z = some cs1) : NB cs cs1 := by
  obtain ⟨j, -, rfl⟩ := lAd_some hv
  exact NB.of rfl
theorem NB.nwL {cs cs1 : CS} {i z : Nat} (hv : nwL cs i z = some cs1) : NB cs cs1 := by
  obtain ⟨-, rfl⟩ := nwL_some hv
  intro w
  rcases List.mem_append.mp (show (387, 9) ∈ kE cs ++ [(0, kK cs), (33, kK cs)] from w) with q | q
  · exact q
  · rcases List.mem_cons.mp q with q | q
    · exact absurd (Prod.mk.inj q).1 (by decide)
    · exact absurd (Prod.mk.inj (List.mem_singleton.mp q)).1 (by decide)
theorem NB.cpA {cs : CS} {t1 i1 j1 : Nat} {sp : Int32} {t2 i2 j2 : Nat} {dp n : Int32} {cs1 : CS} (hv : cpA cs t1 i1 j1 sp t2 i2 j2 dp n = some cs1) : NB cs cs1 := by
  obtain ⟨-, rfl⟩ := cpA_some hv
  exact NB.of rfl
theorem NB.cpB {cs : CS} {t1 i1 j1 : Nat} {sp : Int32} {t2 i2 j2 : Nat} {dp n : Int32} {cs1 : CS} (hv : cpB cs t1 i1 j1 sp t2 i2 j2 dp n = some cs1) : NB cs cs1 := by
  obtain ⟨-, rfl⟩ := cpB_some hv
  exact NB.of rfl
theorem nbn_A {cs : CS} {t i n : Nat} {f : Nat → Int32} {g : Nat → Int64} (h : (32 + t, i) ∈ kE cs) : NB cs (nA cs t i n f g) := NB.of (show (if (32 + t, i) ∈ kE cs then kE cs else kE cs ++ [(32 + t, i)]) = kE cs from if_pos h)
theorem NB.gwA {cs cs1 : CS} {X t i j : Nat} {x : Int32} (hv : gwA cs X t i j x = some cs1) : NB cs cs1 := by
  obtain ⟨hi, rfl⟩ := gwA_some hv
  exact nbn_A hi.2.1
theorem NB.gwB {cs cs1 : CS} {X t i j : Nat} {x : Int32} (hv : gwB cs X t i j x = some cs1) : NB cs cs1 := by
  obtain ⟨hi, rfl⟩ := gwB_some hv
  exact nbn_A hi.2.1
theorem NB.swp {cs cs1 : CS} {i j : Nat} (hv : swp cs i j = some cs1) : NB cs cs1 := by
  obtain ⟨k, hi, rfl⟩ := swp_some hv
  exact NB.of rfl

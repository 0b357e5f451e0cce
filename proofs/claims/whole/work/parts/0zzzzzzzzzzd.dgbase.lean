/-! beyond what was made there is nothing, the class alone -/
def DFC (cs : CS) : Prop := (∀ p ∈ kE cs, p.2 < kK cs) ∧ ∀ x j, kK cs ≤ j → kI cs x j = 0 ∧ kP cs x j = none ∧ kR cs x j = none
def DG (a b : CS) : Prop := DFC a → DFC b
theorem DG.refl {a : CS} : DG a a := fun h => h
theorem DG.trans {a b c : CS} (h : DG a b) (g : DG b c) : DG a c := fun x => g (h x)
theorem DG.to {a b c : CS} (h : DG a b) (e : b = c) : DG a c := e ▸ h
/-- nothing but contents -/
theorem DG.of {a b : CS} (h1 : b.1 = a.1) (h2 : kI b = kI a) (h3 : kP b = kP a) (h4 : kR b = kR a) : DG a b := fun h => by
  have e1 : kE b = kE a := congrArg (fun z => z.2.2) h1
  have e2 : kK b = kK a := congrArg (fun z => z.1) h1
  unfold DFC
  rw [e1, e2, h2, h3, h4]
  exact h
theorem DFC.lt {cs : CS} (h : DFC cs) {X i : Nat} (g : (X, i) ∈ kE cs) : i < kK cs := h.1 (X, i) g
theorem dgs_I {cs : CS} {t i : Nat} {v : Int32} (g : DFC cs → i < kK cs) : DG cs (sI cs t i v) := fun h => ⟨h.1, fun x j hj => by
  have hj' : kK cs ≤ j := hj
  have := g h
  have w := h.2 x j hj'
  exact ⟨(kI_n (by omega)).trans w.1, w.2⟩⟩
theorem DG.pI {cs cs1 : CS} {X t i : Nat} {v : Int32} (hv : pI cs X t i v = some cs1) : DG cs cs1 := by
  obtain ⟨hi, rfl⟩ := pI_some hv
  exact dgs_I (fun h => h.lt hi)
theorem DG.pJ {cs cs1 : CS} {X t i : Nat} {v : Int64} (hv : pJ cs X t i v = some cs1) : DG cs cs1 := by
  obtain ⟨-, rfl⟩ := pJ_some hv
  exact DG.of rfl rfl rfl rfl
theorem DG.pR {cs cs1 : CS} {X t i : Nat} {v : Option Nat} (hv : pR cs X t i v = some cs1) : DG cs cs1 := by
  obtain ⟨hi, rfl⟩ := pR_some hv
  intro h
  have := h.lt hi
  refine ⟨h.1, fun x j hj => ?_⟩
  have hj' : kK cs ≤ j := hj
  have w := h.2 x j hj'
  exact ⟨w.1, w.2.1, (AT.sR (by omega)).r.trans w.2.2⟩
theorem DG.wA {cs cs1 : CS} {t i j : Nat} {x : Int32} {v : Int32} (hv : wA cs t i j x v = some cs1) : DG cs cs1 := by
  obtain ⟨-, rfl⟩ := wA_some hv
  exact DG.of rfl rfl rfl rfl
theorem DG.wB {cs cs1 : CS} {t i j : Nat} {x : Int32} {v : Int64} (hv : wB cs t i j x v = some cs1) : DG cs cs1 := by
  obtain ⟨-, rfl⟩ := wB_some hv
  exact DG.of rfl rfl rfl rfl
theorem DG.wQ {cs cs1 : CS} {t i j : Nat} {x : Int32} {v : Option Nat} (hv : wQ cs t i j x v = some cs1) : DG cs cs1 := by
  obtain ⟨-, rfl⟩ := wQ_some hv
  exact DG.of rfl rfl rfl rfl
theorem DG.cpA {cs : CS} {t1 i1 j1 : Nat} {sp : Int32} {t2 i2 j2 : Nat} {dp n : Int32} {cs1 : CS} (hv : cpA cs t1 i1 j1 sp t2 i2 j2 dp n = some cs1) : DG cs cs1 := by
  obtain ⟨-, rfl⟩ := cpA_some hv
  exact DG.of rfl rfl rfl rfl
theorem DG.cpB {cs : CS} {t1 i1 j1 : Nat} {sp : Int32} {t2 i2 j2 : Nat} {dp n : Int32} {cs1 : CS} (hv : cpB cs t1 i1 j1 sp t2 i2 j2 dp n = some cs1) : DG cs cs1 := by
  obtain ⟨-, rfl⟩ := cpB_some hv
  exact DG.of rfl rfl rfl rfl
theorem DG.nwO {cs cs1 : CS} {X n : Nat} (hv : nwO cs X n = some cs1) : DG cs cs1 := by
  obtain ⟨-, rfl⟩ := nwO_some hv
  intro h
  refine ⟨nO_kb h.1, fun x j hj => ?_⟩
  have hj' : kK cs + 1 ≤ j := hj
  have w := h.2 x j (by omega)
  have a : AT cs (nO cs X n) x j := AT.ng (by omega)
  exact ⟨a.i.trans w.1, a.p.trans w.2.1, a.r.trans w.2.2⟩
theorem dgn_A {cs : CS} {t i n : Nat} {f : Nat → Int32} {g : Nat → Int64} (hi : DFC cs → i < kK cs) : DG cs (nA cs t i n f g) := fun h => by
  have h1 := hi h
  refine ⟨nA_kb h.1 h1, fun x j hj => ?_⟩
  have hj' : kK cs + 1 ≤ j := hj
  have w := h.2 x j (by omega)
  exact ⟨w.1, (u2_n (by omega)).trans w.2.1, w.2.2⟩
theorem DG.nwA {cs cs1 : CS} {X t i : Nat} {x : Int32} (hv : nwA cs X t i x = some cs1) : DG cs cs1 := by
  obtain ⟨hi, rfl⟩ := nwA_some hv
  exact dgn_A (fun h => h.lt hi.1)
theorem DG.gwA {cs cs1 : CS} {X t i j : Nat} {x : Int32} (hv : gwA cs X t i j x = some cs1) : DG cs cs1 := by
  obtain ⟨hi, rfl⟩ := gwA_some hv
  exact dgn_A (fun h => h.lt hi.1)
theorem DG.gwB {cs cs1 : CS} {X t i j : Nat} {x : Int32} (hv : gwB cs X t i j x = some cs1) : DG cs cs1 := by
  obtain ⟨hi, rfl⟩ := gwB_some hv
  exact dgn_A (fun h => h.lt hi.1)
theorem DG.pBy {cs cs1 : CS} {i x j : Nat} (hv : pBy cs i x j = some cs1) : DG cs cs1 := by
  obtain ⟨hi, rfl⟩ := pBy_some hv
  intro h
  have := h.lt hi.1
  refine ⟨fun p hp => h.1 p (sBy_E.mp hp).1, fun y l hl => ?_⟩
  have hl' : kK cs ≤ l := hl
  have w := h.2 y l hl'
  exact ⟨w.1, (u2_n (by omega)).trans w.2.1, (u2_n (by omega)).trans w.2.2⟩
theorem DG.lAd {cs cs1 : CS} {L z : Nat} (hv : lAd cs L z = some cs1) : DG cs cs1 := by
  obtain ⟨j, hi, rfl⟩ := lAd_some hv
  have q1 : DG cs (sI cs 0 L (kI cs 0 L + 1)) := dgs_I (fun h => h.lt hi.1)
  have q2 : DG (sI cs 0 L (kI cs 0 L + 1)) (sI (sI cs 0 L (kI cs 0 L + 1)) 2 L (kI cs 2 L + 1)) := dgs_I (fun h => h.lt (X := 0) hi.1)
  exact (q1.trans q2).trans (DG.of rfl rfl rfl rfl)
theorem DG.nwL {cs cs1 : CS} {i z : Nat} (hv : nwL cs i z = some cs1) : DG cs cs1 := by
  obtain ⟨hi, rfl⟩ := nwL_some hv
  intro h
  have := h.lt hi.1
  refine ⟨fun p hp => ?_, fun y l hl => ?_⟩
  · have hp' : p ∈ kE cs ++ [(0, kK cs), (33, kK cs)] := hp
    show p.2 < kK cs + 2
    rcases List.mem_append.mp hp' with w | w
    · have := h.1 p w
      omega
    · rcases List.mem_cons.mp w with w | w
      · rw [w]; show kK cs < kK cs + 2; omega
      · rw [List.mem_singleton.mp w]; show kK cs < kK cs + 2; omega
  · have hl' : kK cs + 2 ≤ l := hl
    have w := h.2 y l (by omega)
    refine ⟨?_, (u2_n (by omega)).trans w.2.1, (u2_n (by omega)).trans w.2.2⟩
    show u2 (u2 (kI cs) 0 (kK cs) 1) 2 (kK cs) 1 y l = 0
    rw [u2_n (by omega), u2_n (by omega)]
    exact w.1
theorem DG.swp {cs cs1 : CS} {i j : Nat} (hv : swp cs i j = some cs1) : DG cs cs1 := by
  obtain ⟨k, hi, rfl⟩ := swp_some hv
  intro h
  have := h.lt hi.1
  refine ⟨h.1, fun y l hl => ?_⟩
  have hl' : kK cs ≤ l := hl
  have w := h.2 y l hl'
  refine ⟨w.1, ?_, w.2.2⟩
  show u2 (u2 (kP cs) 290 i (kP cs 291 i)) 291 i (kP cs 290 i) y l = none
  rw [u2_n (by omega), u2_n (by omega)]
  exact w.2.1

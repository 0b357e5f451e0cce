/-! a fault stays, the class alone -/
def FM (a b : CS) : Prop := ∀ t, kI b 320 t = 0 → kI a 320 t = 0
theorem FM.refl {a : CS} : FM a a := fun _ h => h
theorem FM.trans {a b c : CS} (h : FM a b) (g : FM b c) : FM a c := fun d x => h d (g d x)
theorem FM.to {a b c : CS} (h : FM a b) (e : b = c) : FM a c := e ▸ h
theorem FM.of {a b : CS} (h1 : ∀ t, kI b 320 t = kI a 320 t) : FM a b := fun t h => (h1 t).symm.trans h
theorem FM.pI {cs cs1 : CS} {X t i : Nat} {v : Int32} (h : t ≠ 320) (hv : pI cs X t i v = some cs1) : FM cs cs1 := by
  obtain ⟨-, rfl⟩ := pI_some hv
  exact FM.of (fun c => kI_n (by omega))
theorem FM.pJ {cs cs1 : CS} {X t i : Nat} {v : Int64} (_ : t ≠ 320) (hv : pJ cs X t i v = some cs1) : FM cs cs1 := by
  obtain ⟨-, rfl⟩ := pJ_some hv
  exact FM.of (fun _ => rfl)
theorem FM.pR {cs cs1 : CS} {X t i : Nat} {v : Option Nat} (_ : t ≠ 320) (hv : pR cs X t i v = some cs1) : FM cs cs1 := by
  obtain ⟨-, rfl⟩ := pR_some hv
  exact FM.of (fun _ => rfl)
theorem FM.wA {cs cs1 : CS} {t i j : Nat} {x : Int32} {v : Int32} (_ : t ≠ 320) (hv : wA cs t i j x v = some cs1) : FM cs cs1 := by
  obtain ⟨-, rfl⟩ := wA_some hv
  exact FM.of (fun _ => rfl)
theorem FM.wB {cs cs1 : CS} {t i j : Nat} {x : Int32} {v : Int64} (_ : t ≠ 320) (hv : wB cs t i j x v = some cs1) : FM cs cs1 := by
  obtain ⟨-, rfl⟩ := wB_some hv
  exact FM.of (fun _ => rfl)
theorem FM.wQ {cs cs1 : CS} {t i j : Nat} {x : Int32} {v : Option Nat} (_ : t ≠ 320) (hv : wQ cs t i j x v = some cs1) : FM cs cs1 := by
  obtain ⟨-, rfl⟩ := wQ_some hv
  exact FM.of (fun _ => rfl)
theorem FM.nwO {cs cs1 : CS} {X n : Nat} (h : X ≠ 10) (hv : nwO cs X n = some cs1) : FM cs cs1 := by
  obtain ⟨-, rfl⟩ := nwO_some hv
  exact FM.of (fun c => if_neg (by omega))
theorem FM.nwA {cs cs1 : CS} {X t i : Nat} {x : Int32} (_ : t ≠ 320) (hv : nwA cs X t i x = some cs1) : FM cs cs1 := by
  obtain ⟨-, rfl⟩ := nwA_some hv
  exact FM.of (fun _ => rfl)
theorem FM.lAd {cs cs1 : CS} {L z : Nat} (hv : lAd cs L z = some cs1) : FM cs cs1 := by
  obtain ⟨j, -, rfl⟩ := lAd_some hv
  refine FM.of (fun c => ?_)
  show kI (sI (sI cs 0 L (kI cs 0 L + 1)) 2 L (kI cs 2 L + 1)) 320 c = kI cs 320 c
  rw [kI_n (by omega), kI_n (by omega)]
theorem FM.nwL {cs cs1 : CS} {i z : Nat} (hv : nwL cs i z = some cs1) : FM cs cs1 := by
  obtain ⟨-, rfl⟩ := nwL_some hv
  refine FM.of (fun c => ?_)
  show u2 (u2 (kI cs) 0 (kK cs) 1) 2 (kK cs) 1 320 c = kI cs 320 c
  rw [u2_n (by omega), u2_n (by omega)]
theorem fm_c_X9_refuse (F : Nat) (cs : CS) (x0 : Nat) (x1 : Int32) (x2 : Int32) (cs9 : CS) (h : c_X9_refuse F cs x0 x1 x2 = some cs9) : FM cs cs9 := by
  unfold c_X9_refuse c_X9_refuse_b17 at h
  replace h := ob h; obtain ⟨v1, h1, h⟩ := h
  obtain ⟨-, e1⟩ := gI_some h1
  by_cases y : v1 = 0
  · rw [if_pos y] at h
    replace h := ob h; obtain ⟨c3, h3, h⟩ := h
    replace h := ob h; obtain ⟨c4, h4, h⟩ := h
    obtain ⟨-, e3⟩ := pI_some h3
    obtain ⟨-, e4⟩ := pI_some h4
    intro t ht
    by_cases w : t = x0
    · rw [w]
      rw [← y]
      exact e1
    · rw [← Option.some.inj h, ← e4, ← e3, kI_n (by omega), kI_n (by omega)] at ht
      exact ht
  · rw [if_neg y] at h
    exact FM.refl.to (Option.some.inj h)
/-- a refusal is a fault -/
theorem rfs_f {F : Nat} {cs : CS} {x0 : Nat} {x1 : Int32} {x2 : Int32} {cs9 : CS} (h : c_X9_refuse F cs x0 x1 x2 = some cs9) (hx : x1 ≠ 0) : kI cs9 320 x0 ≠ 0 := by
  unfold c_X9_refuse c_X9_refuse_b17 at h
  replace h := ob h; obtain ⟨v1, h1, h⟩ := h
  obtain ⟨-, e1⟩ := gI_some h1
  by_cases y : v1 = 0
  · rw [if_pos y] at h
    replace h := ob h; obtain ⟨c3, h3, h⟩ := h
    replace h := ob h; obtain ⟨c4, h4, h⟩ := h
    obtain ⟨-, e3⟩ := pI_some h3
    obtain ⟨-, e4⟩ := pI_some h4
    rw [← Option.some.inj h, ← e4, ← e3, kI_n (by omega), kI_s]
    exact hx
  · rw [if_neg y] at h
    rw [← Option.some.inj h, e1]
    exact y

/-! the class's world as one value -/
abbrev CS : Type := (Nat × Nat × List (Nat × Nat)) × (Nat → Nat → Int32) × (Nat → Nat → Int64) × (Nat → Nat → Option Nat) × (Nat → Nat → Option Nat) × (Nat → Nat → Nat → Int32) × (Nat → Nat → Nat → Int64) × (Nat → Nat → Nat → Option Nat) × (Nat → Nat → Nat)
def kK (cs : CS) : Nat := cs.1.1
def kM (cs : CS) : Nat := cs.1.2.1
def kE (cs : CS) : List (Nat × Nat) := cs.1.2.2
def kI (cs : CS) : Nat → Nat → Int32 := cs.2.1
def kJ (cs : CS) : Nat → Nat → Int64 := cs.2.2.1
def kR (cs : CS) : Nat → Nat → Option Nat := cs.2.2.2.1
def kP (cs : CS) : Nat → Nat → Option Nat := cs.2.2.2.2.1
def kA (cs : CS) : Nat → Nat → Nat → Int32 := cs.2.2.2.2.2.1
def kB (cs : CS) : Nat → Nat → Nat → Int64 := cs.2.2.2.2.2.2.1
def kQ (cs : CS) : Nat → Nat → Nat → Option Nat := cs.2.2.2.2.2.2.2.1
def kL (cs : CS) : Nat → Nat → Nat := cs.2.2.2.2.2.2.2.2
def u2 {α : Type} (f : Nat → Nat → α) (t i : Nat) (v : α) : Nat → Nat → α := fun x y => if x = t ∧ y = i then v else f x y
theorem u2_s {α : Type} {f : Nat → Nat → α} {t i : Nat} {v : α} : u2 f t i v t i = v := if_pos ⟨rfl, rfl⟩
theorem u2_n {α : Type} {f : Nat → Nat → α} {t i x y : Nat} {v : α} (h : ¬ (x = t ∧ y = i)) : u2 f t i v x y = f x y := if_neg h
def sI (cs : CS) (t i : Nat) (v : Int32) : CS := (cs.1, u2 cs.2.1 t i v, cs.2.2.1, cs.2.2.2.1, cs.2.2.2.2.1, cs.2.2.2.2.2.1, cs.2.2.2.2.2.2.1, cs.2.2.2.2.2.2.2.1, cs.2.2.2.2.2.2.2.2)
def sJ (cs : CS) (t i : Nat) (v : Int64) : CS := (cs.1, cs.2.1, u2 cs.2.2.1 t i v, cs.2.2.2.1, cs.2.2.2.2.1, cs.2.2.2.2.2.1, cs.2.2.2.2.2.2.1, cs.2.2.2.2.2.2.2.1, cs.2.2.2.2.2.2.2.2)
def sR (cs : CS) (t i : Nat) (v : Option Nat) : CS := (cs.1, cs.2.1, cs.2.2.1, u2 cs.2.2.2.1 t i v, cs.2.2.2.2.1, cs.2.2.2.2.2.1, cs.2.2.2.2.2.2.1, cs.2.2.2.2.2.2.2.1, cs.2.2.2.2.2.2.2.2)
def sP (cs : CS) (t i : Nat) (v : Option Nat) : CS := (cs.1, cs.2.1, cs.2.2.1, cs.2.2.2.1, u2 cs.2.2.2.2.1 t i v, cs.2.2.2.2.2.1, cs.2.2.2.2.2.2.1, cs.2.2.2.2.2.2.2.1, cs.2.2.2.2.2.2.2.2)
def sA (cs : CS) (t i x : Nat) (v : Int32) : CS := (cs.1, cs.2.1, cs.2.2.1, cs.2.2.2.1, cs.2.2.2.2.1, u2 cs.2.2.2.2.2.1 t i (upd (cs.2.2.2.2.2.1 t i) x v), cs.2.2.2.2.2.2.1, cs.2.2.2.2.2.2.2.1, cs.2.2.2.2.2.2.2.2)
def sB (cs : CS) (t i x : Nat) (v : Int64) : CS := (cs.1, cs.2.1, cs.2.2.1, cs.2.2.2.1, cs.2.2.2.2.1, cs.2.2.2.2.2.1, u2 cs.2.2.2.2.2.2.1 t i (vp_updL (cs.2.2.2.2.2.2.1 t i) x v), cs.2.2.2.2.2.2.2.1, cs.2.2.2.2.2.2.2.2)
def sQ (cs : CS) (t i x : Nat) (v : Option Nat) : CS := (cs.1, cs.2.1, cs.2.2.1, cs.2.2.2.1, cs.2.2.2.2.1, cs.2.2.2.2.2.1, cs.2.2.2.2.2.2.1, u2 cs.2.2.2.2.2.2.2.1 t i (va_up (cs.2.2.2.2.2.2.2.1 t i) x v), cs.2.2.2.2.2.2.2.2)
def rv (b : Nat) : Option Nat → Value | none => .null | some j => .ref (b + j)
def vV (b : Nat) (cs : CS) (t i : Nat) : Nat → Value | 0 => .int (kI cs t i) | 1 => .long (kJ cs t i) | 2 => rv b (kR cs t i) | _ => rv b (kP cs t i)
def vL (b : Nat) (cs : CS) (i : Nat) : Nat → List Nat → List Value | _, [] => [] | t, y :: r => vV b cs t i y :: vL b cs i (t + 1) r
def tyX : Nat → List Nat | 0 => [0, 3, 0] | 1 => [2, 2, 2, 2, 0, 2] | 2 => [0, 3, 3, 3, 3, 3, 3, 3, 3, 3, 3, 3, 0] | 3 => [0, 3, 3, 3, 3] | 4 => [2, 2, 2, 0, 0, 0] | 5 => [2, 2, 2] | 6 => [0, 0, 2, 3, 0, 0, 0, 0, 2, 0, 3, 0, 0, 0, 0] | 7 => [0, 2, 0, 0, 1, 0, 1, 0, 0, 0, 0, 2] | 8 => [0, 1, 3, 3, 3, 3, 3, 3, 0] | 9 => [3, 3, 3, 3] | 10 => [0, 0, 2, 2, 0, 0, 3, 2, 0, 0, 2, 0] | 11 => [3, 3, 3, 3, 0, 0, 3] | 12 => [3, 0, 2, 2, 0, 2, 2, 2, 2, 2, 2, 0, 3, 3, 0, 2] | _ => []
def aty : Nat → Nat | 1 => 4 | 65 => 0 | 66 => 0 | 67 => 0 | 68 => 0 | 69 => 2 | 70 => 2 | 71 => 0 | 72 => 0 | 73 => 0 | 74 => 2 | 75 => 1 | 97 => 0 | 98 => 2 | 99 => 0 | 100 => 0 | 195 => 3 | 202 => 0 | 258 => 0 | 259 => 2 | 260 => 1 | 261 => 1 | 262 => 2 | 263 => 1 | 288 => 2 | 289 => 1 | 290 => 0 | 291 => 0 | 326 => 3 | 352 => 0 | 353 => 0 | 354 => 2 | 355 => 1 | 358 => 2 | 384 => 1 | 396 => 0 | 397 => 0 | _ => 0
def eA (cB cI cJ cZ cS cO : ClassId) (b : Nat) (cs : CS) (t i : Nat) : Nat → va_E | 0 => .inl (cI, kL cs t i, .inl (kA cs t i)) | 1 => .inl (cB, kL cs t i, .inl (kA cs t i)) | 2 => .inl (cJ, kL cs t i, .inr (.inl (kB cs t i))) | 3 => .inl (cS, kL cs t i, .inr (.inr (.inr (.inr (fun j => (kQ cs t i j).map (fun z => b + z)))))) | _ => .inl (cO, kL cs t i, .inr (.inr (.inr (.inr (fun j => (kQ cs t i j).map (fun z => b + z))))))
def eC (cB cI cJ cZ cS cO : ClassId) (b : Nat) (cs : CS) (q : Nat × Nat) : va_E := if q.1 < 32 then .inr (q.1, vL b cs q.2 (32 * q.1) (tyX q.1)) else eA cB cI cJ cZ cS cO b cs (q.1 - 32) q.2 (aty (q.1 - 32))
def aC (b : Nat) (cs : CS) (q : Nat × Nat) : Nat := if q.1 < 32 then b + q.2 else b + (kP cs (q.1 - 32) q.2).getD 0
def cW (cB cI cJ cZ cS cO : ClassId) (b : Nat) (cs : CS) : va_W := (kE cs).map (fun q => (aC b cs q, eC cB cI cJ cZ cS cO b cs q))
theorem cW_at {cB cI cJ cZ cS cO : ClassId} {b : Nat} {cs : CS} {q : Nat × Nat} {k : Nat} (h : (kE cs)[k]? = some q) : (cW cB cI cJ cZ cS cO b cs)[k]? = some (aC b cs q, eC cB cI cJ cZ cS cO b cs q) := by
  unfold cW; rw [List.getElem?_map, h]; rfl
theorem cW_get {cB cI cJ cZ cS cO : ClassId} {b : Nat} {cs : CS} {q : Nat × Nat} (h : q ∈ kE cs) : ∃ k : Nat, (kE cs)[k]? = some q ∧ (cW cB cI cJ cZ cS cO b cs)[k]? = some (aC b cs q, eC cB cI cJ cZ cS cO b cs q) := by
  obtain ⟨k, hk⟩ := List.getElem?_of_mem h
  exact ⟨k, hk, cW_at hk⟩
theorem cW_set {cB cI cJ cZ cS cO : ClassId} {b : Nat} {A : Nat → Prop} {cs cs1 : CS} {q : Nat × Nat} {k : Nat} {e : va_E} (hD : va_D A (cW cB cI cJ cZ cS cO b cs)) (hk : (kE cs)[k]? = some q) (hE : kE cs1 = kE cs) (ha : ∀ x, aC b cs1 x = aC b cs x) (he : eC cB cI cJ cZ cS cO b cs1 q = e) (ho : ∀ x, x ≠ q → eC cB cI cJ cZ cS cO b cs1 x = eC cB cI cJ cZ cS cO b cs x) : (cW cB cI cJ cZ cS cO b cs).set k (aC b cs q, e) = cW cB cI cJ cZ cS cO b cs1 := by
  apply List.ext_getElem?
  intro j
  rw [List.getElem?_set]
  have hlen : k < (cW cB cI cJ cZ cS cO b cs).length := (List.getElem?_eq_some_iff.mp (cW_at (b := b) (cB := cB) (cI := cI) (cJ := cJ) (cZ := cZ) (cS := cS) (cO := cO) hk)).1
  have hR : (cW cB cI cJ cZ cS cO b cs1)[j]? = ((kE cs)[j]?).map (fun x => (aC b cs1 x, eC cB cI cJ cZ cS cO b cs1 x)) := by
    unfold cW; rw [hE, List.getElem?_map]
  have hL : (cW cB cI cJ cZ cS cO b cs)[j]? = ((kE cs)[j]?).map (fun x => (aC b cs x, eC cB cI cJ cZ cS cO b cs x)) := by
    unfold cW; rw [List.getElem?_map]
  by_cases hj : k = j
  · subst hj
    rw [if_pos rfl, if_pos hlen, hR, hk]
    show some (aC b cs q, e) = some (aC b cs1 q, eC cB cI cJ cZ cS cO b cs1 q)
    rw [ha, he]
  · rw [if_neg hj, hL, hR]
    cases hq : (kE cs)[j]? with
    | none => rfl
    | some x =>
      have hx : x ≠ q := by
        intro hxq
        subst hxq
        exact hj (hD.1 k j _ _ (cW_at hk) (cW_at hq) rfl)
      show some (aC b cs x, eC cB cI cJ cZ cS cO b cs x) = some (aC b cs1 x, eC cB cI cJ cZ cS cO b cs1 x)
      rw [ha, ho x hx]
theorem vL_get {b : Nat} {cs : CS} {i : Nat} : ∀ (l : List Nat) (t j : Nat), (vL b cs i t l)[j]? = (l[j]?).map (fun y => vV b cs (t + j) i y) := by
  intro l
  induction l with
  | nil => intro t j; rfl
  | cons y r ih =>
    intro t j
    cases j with
    | zero => rfl
    | succ j =>
      show (vL b cs i (t + 1) r)[j]? = ((r)[j]?).map (fun y => vV b cs (t + (j + 1)) i y)
      rw [ih (t + 1) j, show t + 1 + j = t + (j + 1) by omega]
theorem vL_len {b : Nat} {cs : CS} {i : Nat} : ∀ (l : List Nat) (t : Nat), (vL b cs i t l).length = l.length := by
  intro l
  induction l with
  | nil => intro t; rfl
  | cons y r ih => intro t; show (vL b cs i (t + 1) r).length + 1 = r.length + 1; rw [ih]
theorem vL_eq {b : Nat} {cs cs1 : CS} {i i1 : Nat} {t : Nat} {l : List Nat} (h : ∀ x y, t ≤ x → x < t + l.length → vV b cs1 x i1 y = vV b cs x i y) : vL b cs1 i1 t l = vL b cs i t l := by
  apply List.ext_getElem?
  intro j
  rw [vL_get, vL_get]
  cases hy : l[j]? with
  | none => rfl
  | some y =>
    have := (List.getElem?_eq_some_iff.mp hy).1
    show some (vV b cs1 (t + j) i1 y) = some (vV b cs (t + j) i y)
    rw [h (t + j) y (by omega) (by omega)]
theorem vL_set {b : Nat} {cs cs1 : CS} {i : Nat} {t f y : Nat} {l : List Nat} {v : Value} (hf : l[f]? = some y) (hv : vV b cs1 (t + f) i y = v) (h : ∀ x z, x ≠ t + f → vV b cs1 x i z = vV b cs x i z) : (vL b cs i t l).set f v = vL b cs1 i t l := by
  apply List.ext_getElem?
  intro j
  have hlen : f < (vL b cs i t l).length := by rw [vL_len]; exact (List.getElem?_eq_some_iff.mp hf).1
  rw [List.getElem?_set, vL_get, vL_get]
  by_cases hj : f = j
  · subst hj
    rw [if_pos rfl, if_pos hlen, hf]
    show some v = some (vV b cs1 (t + f) i y)
    rw [hv]
  · rw [if_neg hj]
    cases hy : l[j]? with
    | none => rfl
    | some z =>
      show some (vV b cs (t + j) i z) = some (vV b cs1 (t + j) i z)
      rw [h (t + j) z (by omega)]
theorem tyX_len : ∀ X, (tyX X).length ≤ 32 := by intro X; unfold tyX; split <;> decide
/-- what a write to a field of an object makes of the world -/
theorem cW_putF {cB cI cJ cZ cS cO : ClassId} {b : Nat} {A : Nat → Prop} {cs cs1 : CS} {X f i k y : Nat} {v : Value} (hX : X < 32) (hf : (tyX X)[f]? = some y) (hD : va_D A (cW cB cI cJ cZ cS cO b cs)) (hk : (kE cs)[k]? = some (X, i)) (h1 : cs1.1 = cs.1) (hp : kP cs1 = kP cs) (hA : kA cs1 = kA cs) (hB : kB cs1 = kB cs) (hQ : kQ cs1 = kQ cs) (hL : kL cs1 = kL cs)
    (hv : vV b cs1 (32 * X + f) i y = v) (h : ∀ x j z, ¬ (x = 32 * X + f ∧ j = i) → vV b cs1 x j z = vV b cs x j z) : (cW cB cI cJ cZ cS cO b cs).set k (b + i, .inr (X, (vL b cs i (32 * X) (tyX X)).set f v)) = cW cB cI cJ cZ cS cO b cs1 := by
  have e0 : aC b cs (X, i) = b + i := if_pos hX
  rw [← e0]
  refine cW_set hD hk (congrArg (fun z => z.2.2) h1) (fun x => by unfold aC; rw [hp]) ?_ ?_
  · unfold eC
    rw [if_pos hX, vL_set hf hv (fun x z hx => h x i z (fun q => hx q.1))]
  · intro x hx
    obtain ⟨Y, j⟩ := x
    unfold eC
    by_cases hY : Y < 32
    · rw [if_pos hY, if_pos hY]
      show Sum.inr (Y, vL b cs1 j (32 * Y) (tyX Y)) = Sum.inr (Y, vL b cs j (32 * Y) (tyX Y))
      rw [vL_eq (fun z w h1 h2 => h z j w (fun q => ?_))]
      have hl1 := tyX_len Y
      have hl2 := (List.getElem?_eq_some_iff.mp hf).1
      have hl3 := tyX_len X
      refine hx ?_
      rw [show Y = X by omega, q.2]
    · rw [if_neg hY, if_neg hY]
      show eA cB cI cJ cZ cS cO b cs1 (Y - 32) j (aty (Y - 32)) = eA cB cI cJ cZ cS cO b cs (Y - 32) j (aty (Y - 32))
      unfold eA
      rw [hA, hB, hQ, hL]
/-- and one to an array -/
theorem cW_putA {cB cI cJ cZ cS cO : ClassId} {b : Nat} {A : Nat → Prop} {cs cs1 : CS} {t i k j : Nat} {e : va_E} (hD : va_D A (cW cB cI cJ cZ cS cO b cs)) (hk : (kE cs)[k]? = some (32 + t, i)) (hr : kP cs t i = some j) (h1 : cs1.1 = cs.1) (hR : kR cs1 = kR cs) (hp : kP cs1 = kP cs) (hI : kI cs1 = kI cs) (hJ : kJ cs1 = kJ cs) (he : eA cB cI cJ cZ cS cO b cs1 t i (aty t) = e) (ho : ∀ t1 i1, ¬ (t1 = t ∧ i1 = i) → ∀ z, eA cB cI cJ cZ cS cO b cs1 t1 i1 z = eA cB cI cJ cZ cS cO b cs t1 i1 z) : (cW cB cI cJ cZ cS cO b cs).set k (b + j, e) = cW cB cI cJ cZ cS cO b cs1 := by
  have e0 : aC b cs (32 + t, i) = b + j := by
    unfold aC
    rw [if_neg (show ¬ (32 + t < 32) by omega)]
    show b + (kP cs (32 + t - 32) i).getD 0 = b + j
    rw [show 32 + t - 32 = t by omega, hr]; rfl
  rw [← e0]
  refine cW_set hD hk (congrArg (fun z => z.2.2) h1) (fun x => by unfold aC; rw [hp]) ?_ ?_
  · unfold eC
    rw [if_neg (show ¬ (32 + t < 32) by omega)]
    show eA cB cI cJ cZ cS cO b cs1 (32 + t - 32) i (aty (32 + t - 32)) = e
    rw [show 32 + t - 32 = t by omega, he]
  · intro x hx
    obtain ⟨Y, i1⟩ := x
    unfold eC
    by_cases hY : Y < 32
    · rw [if_pos hY, if_pos hY]
      show Sum.inr (Y, vL b cs1 i1 (32 * Y) (tyX Y)) = Sum.inr (Y, vL b cs i1 (32 * Y) (tyX Y))
      rw [vL_eq (fun z w _ _ => ?_)]
      unfold vV
      rw [hI, hJ, hR, hp]
    · rw [if_neg hY, if_neg hY]
      show eA cB cI cJ cZ cS cO b cs1 (Y - 32) i1 (aty (Y - 32)) = eA cB cI cJ cZ cS cO b cs (Y - 32) i1 (aty (Y - 32))
      refine ho _ _ (fun q => hx ?_) _
      rw [show Y = 32 + t by omega, q.2]
def gI (cs : CS) (X t i : Nat) : Option Int32 := if (X, i) ∈ kE cs then some (kI cs t i) else none
theorem gI_some {cs : CS} {X t i : Nat} {v : Int32} (h : gI cs X t i = some v) : (X, i) ∈ kE cs ∧ kI cs t i = v := by
  unfold gI at h
  by_cases c : (X, i) ∈ kE cs
  · rw [if_pos c] at h; exact ⟨c, Option.some.inj h⟩
  · rw [if_neg c] at h; cases h
def gJ (cs : CS) (X t i : Nat) : Option Int64 := if (X, i) ∈ kE cs then some (kJ cs t i) else none
theorem gJ_some {cs : CS} {X t i : Nat} {v : Int64} (h : gJ cs X t i = some v) : (X, i) ∈ kE cs ∧ kJ cs t i = v := by
  unfold gJ at h
  by_cases c : (X, i) ∈ kE cs
  · rw [if_pos c] at h; exact ⟨c, Option.some.inj h⟩
  · rw [if_neg c] at h; cases h
def gR (cs : CS) (X t i : Nat) : Option (Option Nat) := if (X, i) ∈ kE cs then some (kR cs t i) else none
theorem gR_some {cs : CS} {X t i : Nat} {v : (Option Nat)} (h : gR cs X t i = some v) : (X, i) ∈ kE cs ∧ kR cs t i = v := by
  unfold gR at h
  by_cases c : (X, i) ∈ kE cs
  · rw [if_pos c] at h; exact ⟨c, Option.some.inj h⟩
  · rw [if_neg c] at h; cases h
def pI (cs : CS) (X t i : Nat) (v : Int32) : Option CS := if (X, i) ∈ kE cs then some (sI cs t i v) else none
theorem pI_some {cs cs1 : CS} {X t i : Nat} {v : Int32} (h : pI cs X t i v = some cs1) : (X, i) ∈ kE cs ∧ sI cs t i v = cs1 := by
  unfold pI at h
  by_cases c : (X, i) ∈ kE cs
  · rw [if_pos c] at h; exact ⟨c, Option.some.inj h⟩
  · rw [if_neg c] at h; cases h
def pJ (cs : CS) (X t i : Nat) (v : Int64) : Option CS := if (X, i) ∈ kE cs then some (sJ cs t i v) else none
theorem pJ_some {cs cs1 : CS} {X t i : Nat} {v : Int64} (h : pJ cs X t i v = some cs1) : (X, i) ∈ kE cs ∧ sJ cs t i v = cs1 := by
  unfold pJ at h
  by_cases c : (X, i) ∈ kE cs
  · rw [if_pos c] at h; exact ⟨c, Option.some.inj h⟩
  · rw [if_neg c] at h; cases h
def pR (cs : CS) (X t i : Nat) (v : Option Nat) : Option CS := if (X, i) ∈ kE cs then some (sR cs t i v) else none
theorem pR_some {cs cs1 : CS} {X t i : Nat} {v : Option Nat} (h : pR cs X t i v = some cs1) : (X, i) ∈ kE cs ∧ sR cs t i v = cs1 := by
  unfold pR at h
  by_cases c : (X, i) ∈ kE cs
  · rw [if_pos c] at h; exact ⟨c, Option.some.inj h⟩
  · rw [if_neg c] at h; cases h
/-- the number of an array that a field holds -/
def gA (cs : CS) (X t i : Nat) : Option Nat := if (X, i) ∈ kE cs then kP cs t i else none
theorem gA_some {cs : CS} {X t i j : Nat} (h : gA cs X t i = some j) : (X, i) ∈ kE cs ∧ kP cs t i = some j := by
  unfold gA at h
  by_cases c : (X, i) ∈ kE cs
  · rw [if_pos c] at h; exact ⟨c, h⟩
  · rw [if_neg c] at h; cases h
def okA (cs : CS) (t i j : Nat) (x : Int32) : Prop := (32 + t, i) ∈ kE cs ∧ kP cs t i = some j ∧ ¬ (x < 0 ∨ kL cs t i ≤ x.toNatClampNeg)
def rA (cs : CS) (t i j : Nat) (x : Int32) : Option Int32 := if (32 + t, i) ∈ kE cs ∧ kP cs t i = some j ∧ ¬ (x < 0 ∨ kL cs t i ≤ x.toNatClampNeg) then some (kA cs t i x.toNatClampNeg) else none
theorem rA_some {cs : CS} {t i j : Nat} {x : Int32} {v : Int32} (h : rA cs t i j x = some v) : okA cs t i j x ∧ kA cs t i x.toNatClampNeg = v := by
  unfold rA at h
  by_cases c : (32 + t, i) ∈ kE cs ∧ kP cs t i = some j ∧ ¬ (x < 0 ∨ kL cs t i ≤ x.toNatClampNeg)
  · rw [if_pos c] at h; exact ⟨c, Option.some.inj h⟩
  · rw [if_neg c] at h; cases h
def rB (cs : CS) (t i j : Nat) (x : Int32) : Option Int64 := if (32 + t, i) ∈ kE cs ∧ kP cs t i = some j ∧ ¬ (x < 0 ∨ kL cs t i ≤ x.toNatClampNeg) then some (kB cs t i x.toNatClampNeg) else none
theorem rB_some {cs : CS} {t i j : Nat} {x : Int32} {v : Int64} (h : rB cs t i j x = some v) : okA cs t i j x ∧ kB cs t i x.toNatClampNeg = v := by
  unfold rB at h
  by_cases c : (32 + t, i) ∈ kE cs ∧ kP cs t i = some j ∧ ¬ (x < 0 ∨ kL cs t i ≤ x.toNatClampNeg)
  · rw [if_pos c] at h; exact ⟨c, Option.some.inj h⟩
  · rw [if_neg c] at h; cases h
def rQ (cs : CS) (t i j : Nat) (x : Int32) : Option (Option Nat) := if (32 + t, i) ∈ kE cs ∧ kP cs t i = some j ∧ ¬ (x < 0 ∨ kL cs t i ≤ x.toNatClampNeg) then some (kQ cs t i x.toNatClampNeg) else none
theorem rQ_some {cs : CS} {t i j : Nat} {x : Int32} {v : (Option Nat)} (h : rQ cs t i j x = some v) : okA cs t i j x ∧ kQ cs t i x.toNatClampNeg = v := by
  unfold rQ at h
  by_cases c : (32 + t, i) ∈ kE cs ∧ kP cs t i = some j ∧ ¬ (x < 0 ∨ kL cs t i ≤ x.toNatClampNeg)
  · rw [if_pos c] at h; exact ⟨c, Option.some.inj h⟩
  · rw [if_neg c] at h; cases h
def wA (cs : CS) (t i j : Nat) (x : Int32) (v : Int32) : Option CS := if (32 + t, i) ∈ kE cs ∧ kP cs t i = some j ∧ ¬ (x < 0 ∨ kL cs t i ≤ x.toNatClampNeg) then some (sA cs t i x.toNatClampNeg v) else none
theorem wA_some {cs cs1 : CS} {t i j : Nat} {x : Int32} {v : Int32} (h : wA cs t i j x v = some cs1) : okA cs t i j x ∧ sA cs t i x.toNatClampNeg v = cs1 := by
  unfold wA at h
  by_cases c : (32 + t, i) ∈ kE cs ∧ kP cs t i = some j ∧ ¬ (x < 0 ∨ kL cs t i ≤ x.toNatClampNeg)
  · rw [if_pos c] at h; exact ⟨c, Option.some.inj h⟩
  · rw [if_neg c] at h; cases h
def wB (cs : CS) (t i j : Nat) (x : Int32) (v : Int64) : Option CS := if (32 + t, i) ∈ kE cs ∧ kP cs t i = some j ∧ ¬ (x < 0 ∨ kL cs t i ≤ x.toNatClampNeg) then some (sB cs t i x.toNatClampNeg v) else none
theorem wB_some {cs cs1 : CS} {t i j : Nat} {x : Int32} {v : Int64} (h : wB cs t i j x v = some cs1) : okA cs t i j x ∧ sB cs t i x.toNatClampNeg v = cs1 := by
  unfold wB at h
  by_cases c : (32 + t, i) ∈ kE cs ∧ kP cs t i = some j ∧ ¬ (x < 0 ∨ kL cs t i ≤ x.toNatClampNeg)
  · rw [if_pos c] at h; exact ⟨c, Option.some.inj h⟩
  · rw [if_neg c] at h; cases h
def wQ (cs : CS) (t i j : Nat) (x : Int32) (v : Option Nat) : Option CS := if (32 + t, i) ∈ kE cs ∧ kP cs t i = some j ∧ ¬ (x < 0 ∨ kL cs t i ≤ x.toNatClampNeg) then some (sQ cs t i x.toNatClampNeg v) else none
theorem wQ_some {cs cs1 : CS} {t i j : Nat} {x : Int32} {v : Option Nat} (h : wQ cs t i j x v = some cs1) : okA cs t i j x ∧ sQ cs t i x.toNatClampNeg v = cs1 := by
  unfold wQ at h
  by_cases c : (32 + t, i) ∈ kE cs ∧ kP cs t i = some j ∧ ¬ (x < 0 ∨ kL cs t i ≤ x.toNatClampNeg)
  · rw [if_pos c] at h; exact ⟨c, Option.some.inj h⟩
  · rw [if_neg c] at h; cases h
def lnA (cs : CS) (t i j : Nat) : Option Int32 := if (32 + t, i) ∈ kE cs ∧ kP cs t i = some j then some (nI (kL cs t i)) else none
theorem lnA_some {cs : CS} {t i j : Nat} {v : Int32} (h : lnA cs t i j = some v) : ((32 + t, i) ∈ kE cs ∧ kP cs t i = some j) ∧ nI (kL cs t i) = v := by
  unfold lnA at h
  by_cases c : (32 + t, i) ∈ kE cs ∧ kP cs t i = some j
  · rw [if_pos c] at h; exact ⟨c, Option.some.inj h⟩
  · rw [if_neg c] at h; cases h
def oc {α β : Type} (r : Option α) (x : β) (f : α → β) : β := match r with | none => x | some i => f i

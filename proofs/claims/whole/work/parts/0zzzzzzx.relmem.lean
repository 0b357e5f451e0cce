/-! the reference's relations: memory -/
def rc (rs : RS) (i : Nat) : OV := if rs.2.2.1 86 i = 0 then some (rs.2.2.2 85 i) else none
/-- U cells used, N relations made -/
def RST (U N : Nat) (rs : RS) : Prop := (rs.1 87 = nI U) ∧ (rs.1 91 = nI N) ∧ (U ≤ 400000) ∧ (N ≤ 400) ∧ (∀ i, rs.2.2.1 86 i = 0 ∨ rs.2.2.1 86 i = 1)
theorem RST.u {U N : Nat} {rs : RS} (h : RST U N rs) : rs.1 87 = nI U := h.1
theorem RST.n {U N : Nat} {rs : RS} (h : RST U N rs) : rs.1 91 = nI N := h.2.1
theorem RST.u4 {U N : Nat} {rs : RS} (h : RST U N rs) : U ≤ 400000 := h.2.2.1
theorem RST.n4 {U N : Nat} {rs : RS} (h : RST U N rs) : N ≤ 400 := h.2.2.2.1
theorem RST.fb {U N : Nat} {rs : RS} (h : RST U N rs) : ∀ i, rs.2.2.1 86 i = 0 ∨ rs.2.2.1 86 i = 1 := h.2.2.2.2
/-- what relations write -/
def rS (q : Nat) : Prop := 85 ≤ q ∧ q ≤ 99
/-- a step that makes relations and rows: what stood stays -/
def RO (U N : Nat) (rs rs' : RS) : Prop := (FR rS rs rs') ∧ (∀ i, i < U → rc rs' i = rc rs i) ∧ (∀ q r, 88 ≤ q → q ≤ 90 → r < N → rs'.2.2.1 q r = rs.2.2.1 q r)
theorem RO.fr {U N : Nat} {rs rs' : RS} (h : RO U N rs rs') : FR rS rs rs' := h.1
theorem RO.ce {U N : Nat} {rs rs' : RS} (h : RO U N rs rs') : ∀ i, i < U → rc rs' i = rc rs i := h.2.1
theorem RO.rl {U N : Nat} {rs rs' : RS} (h : RO U N rs rs') : ∀ q r, 88 ≤ q → q ≤ 90 → r < N → rs'.2.2.1 q r = rs.2.2.1 q r := h.2.2
theorem RO.refl {U N : Nat} {rs : RS} : RO U N rs rs := ⟨FR.refl rs, fun _ _ => rfl, fun _ _ _ _ _ => rfl⟩
theorem RO.trans {U N U' N' : Nat} {a b d : RS} (h : RO U N a b) (g : RO U' N' b d) (hu : U ≤ U') (hn : N ≤ N') : RO U N a d := ⟨h.fr.trans g.fr, fun i hi => (g.ce i (by omega)).trans (h.ce i hi), fun q r q1 q2 hr => (g.rl q r q1 q2 (by omega)).trans (h.rl q r q1 q2 hr)⟩
theorem RO.mono {U N U' N' : Nat} {a b : RS} (h : RO U' N' a b) (hu : U ≤ U') (hn : N ≤ N') : RO U N a b := ⟨h.fr, fun i hi => h.ce i (by omega), fun q r q1 q2 hr => h.rl q r q1 q2 (by omega)⟩
theorem RO.f {U N : Nat} {rs : RS} {k : Nat} {v : Int32} (hk : rS k) : RO U N rs (setF rs k v) := ⟨FR.setF hk, fun _ _ => rfl, fun _ _ _ _ _ => rfl⟩
/-- a relation: m rows of w cells from b on -/
def RLN (rs : RS) (r b w m : Nat) : Prop := (r < 400) ∧ (rs.2.2.1 88 r = nI b) ∧ (rs.2.2.1 89 r = nI m) ∧ (rs.2.2.1 90 r = nI w)
theorem RLN.r4 {rs : RS} {r b w m : Nat} (h : RLN rs r b w m) : r < 400 := h.1
theorem RLN.b {rs : RS} {r b w m : Nat} (h : RLN rs r b w m) : rs.2.2.1 88 r = nI b := h.2.1
theorem RLN.m {rs : RS} {r b w m : Nat} (h : RLN rs r b w m) : rs.2.2.1 89 r = nI m := h.2.2.1
theorem RLN.w {rs : RS} {r b w m : Nat} (h : RLN rs r b w m) : rs.2.2.1 90 r = nI w := h.2.2.2
def rowL (rs : RS) (p w : Nat) : List OV := (List.range w).map (fun k => rc rs (p + k))
def rowsL (rs : RS) (b w m : Nat) : List (List OV) := (List.range m).map (fun i => rowL rs (b + i * w) w)
theorem rowL_eq {a b : RS} {p w U : Nat} (h : ∀ i, i < U → rc b i = rc a i) (hu : p + w ≤ U) : rowL b p w = rowL a p w := by
  unfold rowL
  refine List.map_congr_left (fun k hk => ?_)
  have := List.mem_range.mp hk
  exact h _ (by omega)
theorem rows_eq {a b : RS} {p w m U : Nat} (h : ∀ i, i < U → rc b i = rc a i) (hu : p + m * w ≤ U) : rowsL b p w m = rowsL a p w m := by
  unfold rowsL
  refine List.map_congr_left (fun i hi => ?_)
  have hi' := List.mem_range.mp hi
  have q : (i + 1) * w ≤ m * w := Nat.mul_le_mul_right w hi'
  rw [Nat.succ_mul] at q
  exact rowL_eq h (by omega)
theorem rows_succ {rs : RS} {b w m : Nat} : rowsL rs b w (m + 1) = rowsL rs b w m ++ [rowL rs (b + m * w) w] := by
  unfold rowsL
  rw [List.range_succ, List.map_append]
  rfl
theorem rows_len {rs : RS} {b w m : Nat} : (rowsL rs b w m).length = m := by
  unfold rowsL
  rw [List.length_map, List.length_range]
theorem rowL_len {rs : RS} {p w : Nat} : (rowL rs p w).length = w := by
  unfold rowL
  rw [List.length_map, List.length_range]
theorem rowL_get {rs : RS} {p w k : Nat} (h : k < w) : (rowL rs p w).getD k none = rc rs (p + k) := by
  unfold rowL
  rw [List.getD_eq_getElem?_getD, List.getElem?_map, List.getElem?_range h]
  rfl
theorem sIa_s {rs : RS} {k i : Nat} {v : Int32} : (setI rs k i v).2.2.1 k i = v := by
  show (if k = k then upd (rs.2.2.1 k) i v else rs.2.2.1 k) i = v
  rw [if_pos rfl]
  exact pk_us
theorem sF_s {rs : RS} {k : Nat} {v : Int32} : (setF rs k v).1 k = v := by
  show upd rs.1 k v k = v
  exact pk_us
theorem sF_n {rs : RS} {k j : Nat} {v : Int32} (h : j ≠ k) : (setF rs k v).1 j = rs.1 j := by
  show upd rs.1 k v j = rs.1 j
  exact pk_un h
/-- a new relation -/
theorem rel_ok {F U N w : Nat} {rs : RS} (h : RST U N rs) (hN : N < 400) : ∃ rs', m_relation F rs (nI w) = some (rs', nI N) ∧ RST U (N + 1) rs' ∧ RO U N rs rs' ∧ RLN rs' N U w 0 ∧ (∀ i, rc rs' i = rc rs i) ∧ (∀ q, q ≠ 91 → rs'.1 q = rs.1 q) ∧ (∀ q r, ¬ (r = N ∧ 88 ≤ q ∧ q ≤ 90) → rs'.2.2.1 q r = rs.2.2.1 q r) := by
  obtain ⟨r1, h1⟩ : ∃ x, x = setF rs 91 (nI (N + 1)) := ⟨_, rfl⟩
  obtain ⟨r2, h2⟩ : ∃ x, x = setI (setI (setI r1 88 N (nI U)) 89 N 0) 90 N (nI w) := ⟨_, rfl⟩
  have a2 : ∀ q i, ¬ (i = N ∧ 88 ≤ q ∧ q ≤ 90) → r2.2.2.1 q i = rs.2.2.1 q i := fun q i hq => by
    rw [h2, sIa_n (by omega), sIa_n (by omega), sIa_n (by omega), h1]
    rfl
  have l2 : r2.2.2.2 = rs.2.2.2 := by rw [h2, h1]; rfl
  have f2 : ∀ q, q ≠ 91 → r2.1 q = rs.1 q := fun q hq => by
    rw [h2]
    show r1.1 q = rs.1 q
    rw [h1]
    exact sF_n hq
  have rcc : ∀ i, rc r2 i = rc rs i := fun i => by
    unfold rc
    rw [a2 86 i (by omega), l2]
  refine ⟨r2, ?_, ⟨(f2 87 (by decide)).trans h.u, ?_, h.u4, by omega, fun i => by rw [a2 86 i (by omega)]; exact h.fb i⟩, ⟨?_, fun i _ => rcc i, fun q r _ _ hr => a2 q r (by omega)⟩, ⟨hN, ?_, ?_, ?_⟩, rcc, f2, fun q r hr => a2 q r hr⟩
  · unfold m_relation
    rw [h.n, nI_1, ← h1, wrI_n hN (by decide), ob_s, wrI_n hN (by decide), ob_s, wrI_n hN (by decide), ob_s, show r1.1 87 = nI U by rw [h1]; exact h.u, ← h2]
  · rw [h2]
    show r1.1 91 = nI (N + 1)
    rw [h1]
    exact sF_s
  · rw [h2, h1]
    exact (((FR.setF (by unfold rS; omega)).trans (FR.setI (by unfold rS; omega))).trans (FR.setI (by unfold rS; omega))).trans (FR.setI (by unfold rS; omega))
  · rw [h2, sIa_n (by omega), sIa_n (by omega)]
    exact sIa_s
  · rw [h2, sIa_n (by omega)]
    exact sIa_s
  · rw [h2]
    exact sIa_s
/-- a new row of the last relation -/
theorem row_ok {F U N r b w m : Nat} {rs : RS} (h : RST U N rs) (rl : RLN rs r b w m) (hu : U + w ≤ 400000) (hm : m < 10000) : ∃ rs', m_newRow F rs (nI r) = some (rs', nI U) ∧ RST (U + w) N rs' ∧ RLN rs' r b w (m + 1) ∧ (∀ i, rc rs' i = rc rs i) ∧ FR rS rs rs' ∧ (∀ q, q ≠ 87 → rs'.1 q = rs.1 q) ∧ (∀ q i, ¬ (q = 89 ∧ i = r) → rs'.2.2.1 q i = rs.2.2.1 q i) ∧ rs'.2.2.2 = rs.2.2.2 := by
  obtain ⟨r1, h1⟩ : ∃ x, x = setI rs 89 r (nI (m + 1)) := ⟨_, rfl⟩
  obtain ⟨r2, h2⟩ : ∃ x, x = setF r1 87 (nI (U + w)) := ⟨_, rfl⟩
  have a1 : ∀ q i, ¬ (q = 89 ∧ i = r) → r1.2.2.1 q i = rs.2.2.1 q i := fun q i hq => by
    rw [h1]
    exact sIa_n (by omega)
  have a2 : ∀ q i, ¬ (q = 89 ∧ i = r) → r2.2.2.1 q i = rs.2.2.1 q i := fun q i hq => by
    rw [h2]
    exact a1 q i hq
  have l2 : r2.2.2.2 = rs.2.2.2 := by rw [h2, h1]; rfl
  have u1 : r1.1 87 = nI U := by rw [h1]; exact h.u
  have rcc : ∀ i, rc r2 i = rc rs i := fun i => by
    unfold rc
    rw [a2 86 i (by omega), l2]
  refine ⟨r2, ?_, ⟨by rw [h2]; exact sF_s, ?_, hu, h.n4, fun i => by rw [a2 86 i (by omega)]; exact h.fb i⟩, ⟨rl.r4, by rw [a2 88 r (by omega)]; exact rl.b, ?_, by rw [a2 90 r (by omega)]; exact rl.w⟩, rcc, ?_, ?_, a2, l2⟩
  · unfold m_newRow
    rw [rdI_n rl.r4 (by decide), ob_s, rl.m, nI_1, wrI_n rl.r4 (by decide), ob_s, ← h1, rdI_n rl.r4 (by decide), ob_s, a1 90 r (by omega), rl.w, u1, nI_add, ← h2, rdI_n rl.r4 (by decide), ob_s, a2 90 r (by omega), rl.w, show r2.1 87 = nI (U + w) by rw [h2]; exact sF_s]
    have q := nI_add U w
    rw [← q, Int32.add_sub_cancel]
  · rw [h2]
    show (setF r1 87 (nI (U + w))).1 91 = nI N
    rw [h1]
    exact (sF_n (by decide)).trans h.n
  · rw [h2]
    show r1.2.2.1 89 r = _
    rw [h1]
    exact sIa_s
  · rw [h2, h1]
    exact (FR.setI (by unfold rS; omega)).trans (FR.setF (by unfold rS; omega))
  · intro q hq
    rw [h2]
    show (setF r1 87 (nI (U + w))).1 q = rs.1 q
    rw [h1]
    exact sF_n hq
theorem at_ok {F r b w m i : Nat} {rs : RS} (rl : RLN rs r b w m) : m_rowAt F rs (nI r) (nI i) = some (nI (b + i * w)) := by
  unfold m_rowAt
  rw [rdI_n rl.r4 (by decide), ob_s, rdI_n rl.r4 (by decide), ob_s, rl.b, rl.w, pk_mul, nI_add]

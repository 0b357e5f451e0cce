/-! joined rows are typed -/
theorem rwt_app {i : Nat} {w : Nat → Nat} {ty : Nat → Nat → Int32} {x y : List OV} (hx : RWT (i + 1) w ty x) (lx : x.length = wid w i) (hy : RWL (w (i + 1)) (ty (i + 1)) y) : RWT (i + 2) w ty (x ++ y) := fun j col hj hc h2 => by
  by_cases q : j = i + 1
  · rw [q] at hc h2 ⊢
    have e : wd0 w (i + 1) = x.length := by rw [lx]; rfl
    rw [e, List.getD_eq_getElem?_getD, List.getElem?_append_right (by omega), show x.length + col - x.length = col by omega, ← List.getD_eq_getElem?_getD]
    exact hy col hc h2
  · have le := wd0_le (w := w) (i + 1) j (by omega)
    rw [Nat.add_sub_cancel] at le
    rw [List.getD_eq_getElem?_getD, List.getElem?_append_left (by omega), ← List.getD_eq_getElem?_getD]
    exact hx j col (by omega) hc h2
theorem rwl_blank {m : Nat} {ty : Nat → Int32} : RWL m ty (List.replicate m none) := fun col hc _ => by
  rw [List.getD_eq_getElem?_getD, List.getElem?_replicate, if_pos hc]
  exact Or.inl rfl
theorem rwt_one {w : Nat → Nat} {ty : Nat → Nat → Int32} {x : List OV} (h : RWL (w 0) (ty 0) x) : RWT 1 w ty x := fun j col hj hc h2 => by
  have e : j = 0 := by omega
  rw [e] at hc h2 ⊢
  show TV (x.getD (0 + col) none)
  rw [Nat.zero_add]
  exact h col hc h2
theorem joX_typed {i : Nat} {w : Nat → Nat} {ty : Nat → Nat → Int32} {ou : Bool} {on : List OV → OV} {x : List OV} {E : LL} (hx : RWT (i + 1) w ty x) (lx : x.length = wid w i) (hE : ∀ L, L ∈ E → L.length = w (i + 1) ∧ RWL (w (i + 1)) (ty (i + 1)) L) : ∀ L, L ∈ joX ou on (w (i + 1)) x E → L.length = wid w (i + 1) ∧ RWT (i + 2) w ty L := fun L hL => by
  have app : ∀ y, y.length = w (i + 1) → RWL (w (i + 1)) (ty (i + 1)) y → (x ++ y).length = wid w (i + 1) ∧ RWT (i + 2) w ty (x ++ y) := fun y l1 l2 => by
    refine ⟨?_, rwt_app hx lx l2⟩
    rw [List.length_append, lx, l1]
    rfl
  unfold joX at hL
  by_cases q : matL on x E = []
  · rw [if_pos q] at hL
    by_cases q2 : ou = true
    · rw [if_pos q2] at hL
      rw [List.mem_singleton.mp hL]
      exact app _ (List.length_replicate) rwl_blank
    · rw [if_neg q2] at hL
      cases hL
  · rw [if_neg q] at hL
    unfold matL at hL
    obtain ⟨y, y1, y2⟩ := List.mem_map.mp (List.mem_filter.mp hL).1
    rw [← y2]
    obtain ⟨l1, l2⟩ := hE y y1
    exact app y l1 l2
theorem jn_typed {src : Nat → LL} {ou : Nat → Bool} {on : Nat → List OV → OV} {w : Nat → Nat} {ty : Nat → Nat → Int32} : ∀ (i : Nat), (∀ j, j ≤ i → ∀ L, L ∈ src j → L.length = w j ∧ RWL (w j) (ty j) L) → ∀ L, L ∈ jnL src ou on w i → L.length = wid w i ∧ RWT (i + 1) w ty L
  | 0, h, L, hL => ⟨(h 0 (Nat.le_refl _) L hL).1, rwt_one (h 0 (Nat.le_refl _) L hL).2⟩
  | i + 1, h, L, hL => by
    obtain ⟨x, x1, x2⟩ := List.mem_flatMap.mp hL
    obtain ⟨l1, l2⟩ := jn_typed i (fun j hj => h j (by omega)) x x1
    exact joX_typed l2 l1 (h (i + 1) (Nat.le_refl _)) L x2

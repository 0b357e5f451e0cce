/-! an EXPR over a group, in both -/
theorem EXC.eqv {F c ar w e : Nat} {τ : RPR} {val val' : List OV → OV} {cs : CS} (h : EXC F c ar w e τ val cs) (q : ∀ L, val L = val' L) : EXC F c ar w e τ val' cs := by
  rw [← funext q]
  exact h
/-- an EXPR without aggregates -/
theorem ev_noag {V : VT} {sl cl : Nat → Nat} {d a e : Nat} {L : List OV} (he : e < 120) (t : TR V d e a e) (no : ∀ y, a ≤ y → y ≤ e → ¬ AGC (vk V y)) (sc : ∀ y, a ≤ y → y ≤ e → vk V y = 39 → sl y = cl y) : EV V (rwv sl L) (rwv sl L) e = EV V (rwv cl L) (fun _ => none) e := EV_cong (root := e) he d a e t OUA.top (Nat.le_refl _) (fun y y1 y2 _ => by
  obtain ⟨b, R', -, -, -, tb⟩ := TR.sube d e a e t y1 y2
  exact ⟨fun k => by
    show L.getD (sl y) none = L.getD (cl y) none
    rw [sc y y1 y2 (TR.col tb k)], fun k => absurd (TR.agr tb k).1 (no y y1 y2)⟩)
/-- kinds of aggregates, in both -/
def AKR (κ k : Int32) : Prop := (κ = 61 ∧ k = 20) ∨ (κ = 32 ∧ k = 21) ∨ (κ = 33 ∧ k = 22) ∨ (κ = 34 ∧ k = 23) ∨ (κ = 35 ∧ k = 24)
theorem agn_one : ∀ (n : Nat), agn (List.replicate n (some 1)) = n
  | 0 => rfl
  | n + 1 => by
    show agn (List.replicate n (some 1)) + 1 = n + 1
    rw [agn_one n]
theorem agC_agV {κ k : Int32} {l l1 : List OV} (h : AKR κ k) (h1 : κ ≠ 61 → l1 = l) (h2 : κ = 61 → l1 = List.replicate l.length (some 1)) : agC κ l1 = agV k l := by
  unfold agC agV
  rcases h with ⟨q1, q2⟩ | ⟨q1, q2⟩ | ⟨q1, q2⟩ | ⟨q1, q2⟩ | ⟨q1, q2⟩
  · rw [h2 q1, q1, q2, if_neg (by decide), if_pos rfl, if_pos rfl]
    have e : (agF (List.replicate l.length (some 1))).1 = Int64.ofNat (agn (List.replicate l.length (some 1))) := (agF_n _ ag0).trans (Int64.zero_add _)
    rw [e, agn_one]
  · rw [h1 (by rw [q1]; decide), q1, q2, if_pos rfl, if_neg (by decide), if_pos rfl]
  · rw [h1 (by rw [q1]; decide), q1, q2]
    cases agN l <;> rfl
  · rw [h1 (by rw [q1]; decide), q1, q2]
    cases agN l <;> rfl
  · rw [h1 (by rw [q1]; decide), q1, q2]
    cases agN l <;> rfl
theorem grow_key {na k : Nat} {κ : Nat → Int32} {iv : Nat → List OV → OV} {g : List OV} {mem : LL} (h : k < g.length) : (grow na κ iv g mem).getD k none = g.getD k none := by
  unfold grow
  rw [List.getD_eq_getElem?_getD, List.getD_eq_getElem?_getD, List.getElem?_append_left h]
theorem grow_agg {na t : Nat} {κ : Nat → Int32} {iv : Nat → List OV → OV} {g : List OV} {mem : LL} (h : t < na) : (grow na κ iv g mem).getD (g.length + t) none = agC (κ t) (mem.map (iv t)) := by
  unfold grow
  rw [List.getD_eq_getElem?_getD, List.getElem?_append_right (by omega), show g.length + t - g.length = t by omega, List.getElem?_map, List.getElem?_range h]
  rfl
/-- the value of an EXPR over a group's row is its value over the group -/
theorem grow_ev {V : VT} {sl cl : Nat → Nat} {d a e na : Nat} {κ : Nat → Int32} {iv : Nat → List OV → OV} {g : List OV} {mem : LL} (he : e < 120) (t : TR V d e a e) (nm : ∀ y, a ≤ y → y ≤ e → OUA V e y → rk V y = 5 → sl y = cl y ∧ cl y < g.length) (ag : ∀ y, a ≤ y → y ≤ e → OUA V e y → AGRK (rk V y) → ∃ k, k < na ∧ sl y = g.length + k ∧ AKR (κ k) (rk V y) ∧ (κ k = 61 → ∀ L, iv k L = some 1) ∧ (κ k ≠ 61 → ∀ L, iv k L = EV V (rwv cl L) (fun _ => none) (y - 1))) : EV V (rwv sl (grow na κ iv g mem)) (rwv sl (grow na κ iv g mem)) e = EVG V cl e g mem := by
  unfold EVG
  refine EV_cong (root := e) he d a e t OUA.top (Nat.le_refl _) (fun y y1 y2 y3 => ⟨fun k => ?_, fun k => ?_⟩)
  · obtain ⟨q1, q2⟩ := nm y y1 y2 y3 k
    show (grow na κ iv g mem).getD (sl y) none = g.getD (cl y) none
    rw [q1, grow_key q2]
  · obtain ⟨k', k1, k2, k3, k4, k5⟩ := ag y y1 y2 y3 k
    show (grow na κ iv g mem).getD (sl y) none = agV (rk V y) (mem.map (fun L => EV V (fun x => L.getD (cl x) none) (fun _ => none) (y - 1)))
    rw [k2, grow_agg k1]
    refine agC_agV k3 (fun w => List.map_congr_left (fun L _ => k5 w L)) (fun w => ?_)
    rw [List.length_map, List.map_congr_left (g := fun _ => some 1) (fun L _ => k4 w L), List.map_const']

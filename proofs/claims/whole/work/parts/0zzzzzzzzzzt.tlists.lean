/-! rows of both: what the joint plan wants -/
theorem ch_lt {α : Type} [Inhabited α] {n : Nat} {P : Nat → α → Prop} (h : ∀ i, i < n → ∃ x, P i x) : ∃ g : Nat → α, ∀ i, i < n → P i (g i) := ⟨fun i => if q : i < n then (h i q).choose else default, fun i q => by
  show P i (if q : i < n then (h i q).choose else default)
  rw [dif_pos q]
  exact (h i q).choose_spec⟩
theorem selC_len {mi ng na : Nat} {gp di : Bool} {κ : Nat → Int32} {wh hc : OVF} {pc kv iv : Nat → List OV → OV} {A : LL} : ∀ L, L ∈ selC mi gp di ng na κ wh hc pc kv iv A → L.length = mi := fun L hL => by
  have key : ∀ L, L ∈ (optF hc (if gp = true then grC ng na κ kv iv (optF wh A) else optF wh A)).map (prow mi pc) → L.length = mi := fun L h => by
    obtain ⟨L0, -, l2⟩ := List.mem_map.mp h
    rw [← l2]
    unfold prow
    rw [List.length_map, List.length_range]
  unfold selC at hL
  by_cases q : di = true
  · rw [if_pos q] at hL
    rcases (adj_mem _ _).mp hL with z | z
    · cases z
    · exact key L ((srt_perm _).mem_iff.mp z)
  · rw [if_neg q] at hL
    exact key L hL
theorem setC_mem {s : Nat} {A E : LL} {L : List OV} (h : L ∈ setC s A E) : L ∈ A ∨ L ∈ E := by
  unfold setC at h
  by_cases q : s = 11
  · rw [if_pos q] at h
    exact List.mem_append.mp h
  · rw [if_neg q] at h
    by_cases q2 : s = 10
    · rw [if_pos q2] at h
      rcases (adj_mem _ _).mp h with z | z
      · cases z
      · exact List.mem_append.mp ((srt_perm _).mem_iff.mp z)
    · rw [if_neg q2] at h
      rcases (adj_mem _ _).mp h with z | z
      · cases z
      · exact Or.inl (List.mem_filter.mp ((srt_perm _).mem_iff.mp z)).1
theorem stC_mem {sel : Nat → LL} {op : Nat → Nat} {L : List OV} : ∀ (i : Nat), L ∈ stC sel op i → ∃ j, j ≤ i ∧ L ∈ sel j
  | 0, h => ⟨0, Nat.le_refl _, h⟩
  | i + 1, h => by
    rcases setC_mem h with w | w
    · obtain ⟨j, j1, j2⟩ := stC_mem i w
      exact ⟨j, by omega, j2⟩
    · exact ⟨i + 1, Nat.le_refl _, w⟩
/-- the class's code of a set operation, and the reference's -/
def OPP (s what : Nat) : Prop := (s = 11 ∧ what = 1) ∨ (s = 10 ∧ what = 2) ∨ (s = 12 ∧ what = 3) ∨ (s = 13 ∧ what = 4)
theorem st_perm {sc sr : Nat → LL} {oc ow : Nat → Nat} : ∀ (i : Nat), (∀ j, j ≤ i → (sc j).Perm (sr j)) → (∀ j, 1 ≤ j → j ≤ i → OPP (oc j) (ow j)) → (stC sc oc i).Perm (stL sr ow i)
  | 0, h, _ => h 0 (Nat.le_refl _)
  | i + 1, h, g => set_perm (g (i + 1) (by omega) (Nat.le_refl _)) (st_perm i (fun j hj => h j (by omega)) (fun j h1 h2 => g j h1 (by omega))) (h (i + 1) (Nat.le_refl _))
theorem sm_eq {a b : Nat → LL} : ∀ (i : Nat), (∀ j, j ≤ i → (a j).length = (b j).length) → smL a i = smL b i
  | 0, h => h 0 (Nat.le_refl _)
  | i + 1, h => by
    show smL a i + (a (i + 1)).length = smL b i + (b (i + 1)).length
    rw [sm_eq i (fun j hj => h j (by omega)), h (i + 1) (Nat.le_refl _)]
theorem sm_mono {a : Nat → LL} {j : Nat} : ∀ (i : Nat), j ≤ i → smL a j ≤ smL a i
  | 0, h => by
    rw [show j = 0 by omega]
    exact Nat.le_refl _
  | i + 1, h => by
    by_cases q : j = i + 1
    · rw [q]
      exact Nat.le_refl _
    · exact Nat.le_trans (sm_mono i (by omega)) (Nat.le_add_right _ _)
theorem prd_eq {a b : Nat → LL} : ∀ (i : Nat), (∀ j, j ≤ i → (a j).length = (b j).length) → prd a i = prd b i
  | 0, h => by
    show one1 (a 0).length = one1 (b 0).length
    rw [h 0 (Nat.le_refl _)]
  | i + 1, h => by
    show prd a i * one1 (a (i + 1)).length = prd b i * one1 (b (i + 1)).length
    rw [prd_eq i (fun j hj => h j (by omega)), h (i + 1) (Nat.le_refl _)]
theorem prd_mono {a : Nat → LL} {j : Nat} : ∀ (i : Nat), j ≤ i → prd a j ≤ prd a i
  | 0, h => by
    rw [show j = 0 by omega]
    exact Nat.le_refl _
  | i + 1, h => by
    by_cases q : j = i + 1
    · rw [q]
      exact Nat.le_refl _
    · exact Nat.le_trans (prd_mono i (by omega)) (Nat.le_mul_of_pos_right _ (one1_le _).2)
theorem wid_mono {w : Nat → Nat} {j : Nat} : ∀ (i : Nat), j ≤ i → wid w j ≤ wid w i
  | 0, h => by
    rw [show j = 0 by omega]
    exact Nat.le_refl _
  | i + 1, h => by
    by_cases q : j = i + 1
    · rw [q]
      exact Nat.le_refl _
    · exact Nat.le_trans (wid_mono i (by omega)) (Nat.le_add_right _ _)
theorem wid_8 {w : Nat → Nat} : ∀ (i : Nat), (∀ j, j ≤ i → w j ≤ 8) → wid w i ≤ 8 * (i + 1)
  | 0, h => h 0 (Nat.le_refl _)
  | i + 1, h => by
    have a := wid_8 i (fun j hj => h j (by omega))
    have b := h (i + 1) (Nat.le_refl _)
    show wid w i + w (i + 1) ≤ _
    omega
theorem prd_pos {a : Nat → LL} : ∀ (i : Nat), 1 ≤ prd a i
  | 0 => (one1_le _).2
  | i + 1 => Nat.mul_pos (prd_pos i) (one1_le _).2
theorem jns_perm {a b : Nat → LL} {ou : Nat → Bool} {on : Nat → List OV → OV} {w : Nat → Nat} : ∀ (i : Nat), (∀ j, j ≤ i → (a j).Perm (b j)) → (jnL a ou on w i).Perm (jnL b ou on w i)
  | 0, h => h 0 (Nat.le_refl _)
  | i + 1, h => jn_perm (jns_perm i (fun j hj => h j (by omega))) (h (i + 1) (Nat.le_refl _))
/-- an order makes of the same rows the same list -/
theorem od_perm {od : ODT} {A A' : LL} (h : A.Perm A') : (odL od A).Perm (odL od A') ∧ (od ≠ none → odL od A = odL od A') := by
  cases od with
  | none => exact ⟨h, fun w => absurd rfl w⟩
  | some z =>
    obtain ⟨n, dn, val, lim⟩ := z
    have e : ordL n dn val lim A = ordL n dn val lim A' := by
      unfold ordL
      rw [srt_congr okey_inj h]
    refine ⟨?_, fun _ => e⟩
    show (ordL n dn val lim A).Perm (ordL n dn val lim A')
    rw [e]
theorem od_mem {od : ODT} {A : LL} {L : List OV} (h : L ∈ odL od A) : L ∈ A := by
  cases od with
  | none => exact h
  | some z =>
    obtain ⟨n, dn, val, lim⟩ := z
    have h' : L ∈ (srtK (okey n dn val) A).take lim := h
    exact (srt_perm _).mem_iff.mp (List.mem_of_mem_take h')
theorem od_len {F q w : Nat} {od : ODT} {A : LL} {rs : RS} (om : ODM F q w od rs) {M : Nat} (hA : A.length ≤ M) : (odL od A).length ≤ M ∧ (odc od M = 0 ∨ (odc od M = 2 * (M * 8) ∧ (odL od A).length ≤ 100)) := by
  cases od with
  | none => exact ⟨hA, Or.inl rfl⟩
  | some z =>
    obtain ⟨n, dn, val, lim⟩ := z
    obtain ⟨-, -, p3, -⟩ : rs.2.2.1 65 q ≠ -1 ∧ n ≤ 8 ∧ lim ≤ 100 ∧ rs.2.2.1 64 q = nI n ∧ (∀ t, t < n → rs.2.2.1 67 (8 * q + t) = dn t) ∧ rs.2.2.1 68 q = nI lim ∧ ∀ j, j < n → ∃ rt, rs.2.2.1 66 (8 * q + j) = nI rt ∧ EXV F w rt (val j) rs := om
    have e : (odL (some (n, dn, val, lim)) A).length = min lim A.length := by
      show ((srtK (okey n dn val) A).take lim).length = _
      rw [List.length_take, (srt_perm A).length_eq]
    rw [e]
    exact ⟨by omega, Or.inr ⟨rfl, by omega⟩⟩
theorem stL_le {sel : Nat → LL} {op : Nat → Nat} {sc : Nat → LL} {oc : Nat → Nat} (i : Nat) (h : (stC sc oc i).Perm (stL sel op i)) (e : smL sc i = smL sel i) : (stL sel op i).length ≤ smL sel i := by
  rw [← h.length_eq, ← e]
  exact stC_len i

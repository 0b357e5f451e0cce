/-! the reference tells what differs -/
theorem sg_int {ca cb : Nat} (h : ca ≤ 600) (g : cb ≤ 600) : (-(nI ca) + nI cb).toInt = (cb : Int) - ca := by
  rw [Int32.toInt_add, Int32.toInt_neg, nI_toInt (by omega), nI_toInt (by omega)]
  have e : (-(ca : Int)).bmod (2 ^ 32) = -(ca : Int) := Int.bmod_eq_of_le (by omega) (by omega)
  rw [e]
  have e2 : (-(ca : Int) + cb).bmod (2 ^ 32) = -(ca : Int) + cb := Int.bmod_eq_of_le (by omega) (by omega)
  rw [e2]
  omega
theorem sg_le {ca cb : Nat} (h : ca ≤ 600) (g : cb ≤ 600) : (-(nI ca) + nI cb ≤ 0 ↔ cb ≤ ca) ∧ (0 ≤ -(nI ca) + nI cb ↔ ca ≤ cb) := by
  have e := sg_int h g
  have z : (0 : Int32).toInt = 0 := rfl
  rw [Int32.le_iff_toInt_le, Int32.le_iff_toInt_le, e, z]
  exact ⟨⟨fun w => by omega, fun w => by omega⟩, ⟨fun w => by omega, fun w => by omega⟩⟩
theorem sg_dn {ca cb : Nat} (h : cb ≤ ca) : -(nI ca) + nI cb = -(nI (ca - cb)) := by
  have e : nI ca = nI (ca - cb) + nI cb := by rw [nI_add]; exact congrArg nI (by omega)
  rw [e, Int32.neg_add, Int32.sub_add_cancel]
theorem sg_up {ca cb : Nat} (h : ca ≤ cb) : -(nI ca) + nI cb = nI (cb - ca) := by
  have e : nI cb = nI (cb - ca) + nI ca := by rw [nI_add]; exact congrArg nI (by omega)
  rw [Int32.add_comm, ← Int32.sub_eq_add_neg, e, Int32.add_sub_cancel]
/-- what one row's difference tells -/
def oneD (more : Bool) (L : List OV) (ca cb : Nat) : CHT := if more = true then (if ca < cb then [(L, nI (cb - ca))] else []) else (if cb < ca then [(L, -(nI (ca - cb)))] else [])
def outD (more : Bool) (A E : LL) : CHT := if more = true then (chP E A).map (fun z => (z.1, nI z.2)) else (chP A E).map (fun z => (z.1, -(nI z.2)))
theorem outD_step {more : Bool} {P Q : LL} {x : List OV} {p q : Nat} (h1 : x ∉ P) (h2 : x ∉ Q) : outD more (P ++ List.replicate p x) (Q ++ List.replicate q x) = outD more P Q ++ oneD more x p q := by
  unfold outD oneD
  by_cases m : more = true
  · rw [if_pos m, if_pos m, if_pos m, chP_step h2 h1, List.map_append]
    by_cases z : p < q
    · rw [if_pos z, if_pos z]
      rfl
    · rw [if_neg z, if_neg z]
      rfl
  · rw [if_neg m, if_neg m, if_neg m, chP_step h1 h2, List.map_append]
    by_cases z : q < p
    · rw [if_pos z, if_pos z]
      rfl
    · rw [if_neg z, if_neg z]
      rfl
theorem one_D {F n ca cb : Nat} {more : Bool} {L : List OV} {C : CHT} {rc4 : RS → Int32 → Int32 → Int32 → Option RS} {u2 u3 u6 u7 : Int32} {X : RS} (hF : 10000 ≤ F) (hn : n ≤ 8) (ha : ca ≤ 600) (hb : cb ≤ 600) (hc : C.length < 1300) (c1 : X.1 101 = nI n) (h : CHS n C X) (sr : SRW n u6 u7 L X) : ∃ Z, m_differ_b137 F rc4 X (if more = true then 1 else 0) u2 u3 (-(nI ca) + nI cb) u6 u7 = rc4 Z (if more = true then 1 else 0) u2 u3 ∧ DIF X Z ∧ CHS n (C ++ oneD more L ca cb) Z := by
  obtain ⟨s1, s2⟩ := sg_le ha hb
  unfold m_differ_b137 m_differ_b146 m_differ_b300 oneD
  cases more with
  | true =>
    rw [if_pos (show true = true from rfl), if_neg (show ¬ (1 : Int32) = 0 by decide), if_neg (show ¬ (1 : Int32) = 0 by decide), if_pos (show true = true from rfl)]
    by_cases q : ca < cb
    · rw [if_neg (fun w => by have := s1.mp w; omega), if_pos q]
      obtain ⟨Z, g1, g2, g3⟩ := out_ok (F := F) (rc4 := rc4) (u1 := 1) (u2 := u2) (u3 := u3) (v := -(nI ca) + nI cb) hF hn hc c1 h sr
      rw [sg_up (by omega)] at g3
      exact ⟨Z, g1, g2, g3⟩
    · rw [if_pos (s1.mpr (by omega)), if_neg q, List.append_nil]
      by_cases z : (0 : Int32) ≤ -(nI ca) + nI cb
      · rw [if_pos z]
        exact ⟨X, rfl, DIF.refl, h⟩
      · rw [if_neg z]
        exact ⟨X, rfl, DIF.refl, h⟩
  | false =>
    rw [if_neg (show ¬ false = true by decide), if_pos (show (0 : Int32) = 0 from rfl), if_pos (show (0 : Int32) = 0 from rfl), if_neg (show ¬ false = true by decide)]
    by_cases q : cb < ca
    · obtain ⟨Z, g1, g2, g3⟩ := out_ok (F := F) (rc4 := rc4) (u1 := 0) (u2 := u2) (u3 := u3) (v := -(nI ca) + nI cb) hF hn hc c1 h sr
      rw [sg_dn (by omega)] at g3
      rw [if_pos (s1.mpr (by omega)), if_neg (fun w => by have := s2.mp w; omega), if_pos q]
      exact ⟨Z, g1, g2, g3⟩
    · rw [if_pos (s2.mpr (by omega)), if_neg q, List.append_nil]
      by_cases z : -(nI ca) + nI cb ≤ 0
      · rw [if_pos z]
        exact ⟨X, rfl, DIF.refl, h⟩
      · rw [if_neg z]
        exact ⟨X, rfl, DIF.refl, h⟩
theorem srt_at {A : LL} {i t : Nat} (h : SRT kO A) (hi : i ≤ t) (ht : t < A.length) : lexI (kO (A.getD t [])) (kO (A.getD i [])) = false := by
  by_cases q : i = t
  · rw [q]
    exact lex_ir _
  · have e := List.pairwise_iff_getElem.mp h i t (by omega) ht (by omega)
    rw [List.getD_eq_getElem?_getD, List.getD_eq_getElem?_getD, List.getElem?_eq_getElem ht, List.getElem?_eq_getElem (show i < A.length by omega)]
    exact e
theorem drop_m {A : LL} {k : Nat} {z : List OV} (h : z ∈ A.drop k) : ∃ t, k ≤ t ∧ t < A.length ∧ z = A.getD t [] := by
  obtain ⟨j, j1, j2⟩ := List.getElem_of_mem h
  rw [List.length_drop] at j1
  refine ⟨k + j, by omega, by omega, ?_⟩
  rw [← j2, List.getElem_drop, List.getD_eq_getElem?_getD, List.getElem?_eq_getElem (by omega)]
  rfl
theorem lt_le {x w z : List Int} (h : lexI x w = true) (g : lexI z w = false) : lexI x z = true := by
  cases q : lexI x z with
  | true => rfl
  | false =>
    rw [lex_le g q] at h
    cases h
/-- behind a run all rows are greater -/
theorem run_gt {A : LL} {i ex : Nat} {z : List OV} (s : SRT kO A) (h : RNX A i ex) (hz : z ∈ A.drop (i + ex + 1)) : lexI (kO (A.getD i [])) (kO z) = true := by
  obtain ⟨t, t1, t2, t3⟩ := drop_m hz
  obtain ⟨h1, h2, h3⟩ := h
  have ne : ¬ A.getD (i + ex) [] = A.getD (i + ex + 1) [] := fun w => h3 ⟨by omega, w⟩
  rw [h2 ex (Nat.le_refl _)] at ne
  have le := srt_at s (show i ≤ i + ex + 1 by omega) (by omega)
  have lt : lexI (kO (A.getD i [])) (kO (A.getD (i + ex + 1) [])) = true := by
    cases q : lexI (kO (A.getD i [])) (kO (A.getD (i + ex + 1) [])) with
    | true => rfl
    | false => exact absurd (kO_inj _ _ (lex_tri _ _ q le)) ne
  rw [t3]
  exact lt_le lt (srt_at s t1 t2)
/-- rows taken are less than rows to come -/
def BND (A E : LL) (i j : Nat) : Prop := ∀ y, (y ∈ A.take i ∨ y ∈ E.take j) → ∀ z, (z ∈ A.drop i ∨ z ∈ E.drop j) → lexI (kO y) (kO z) = true
theorem drop_sub {A : LL} {i i' : Nat} {z : List OV} (h : i ≤ i') (g : z ∈ A.drop i') : z ∈ A.drop i := by
  have e : A.drop i' = (A.drop i).drop (i' - i) := by rw [List.drop_drop, show i + (i' - i) = i' by omega]
  rw [e] at g
  exact List.mem_of_mem_drop g
theorem BND.next {A E : LL} {i j i' j' ca cb : Nat} {x : List OV} (h : BND A E i j) (ta : A.take i' = A.take i ++ List.replicate ca x) (te : E.take j' = E.take j ++ List.replicate cb x) (hi : i ≤ i') (hj : j ≤ j') (gt : ∀ z, (z ∈ A.drop i' ∨ z ∈ E.drop j') → lexI (kO x) (kO z) = true) (xin : x ∈ A.drop i ∨ x ∈ E.drop j) : BND A E i' j' ∧ x ∉ A.take i ∧ x ∉ E.take j := by
  have no : ∀ y, (y ∈ A.take i ∨ y ∈ E.take j) → y ≠ x := fun y hy w => by
    have q := h y hy x xin
    rw [w, lex_ir] at q
    cases q
  refine ⟨fun y hy z hz => ?_, fun w => no x (Or.inl w) rfl, fun w => no x (Or.inr w) rfl⟩
  have old : (y ∈ A.take i ∨ y ∈ E.take j) → lexI (kO y) (kO z) = true := fun w => h y w z (hz.imp (drop_sub hi) (drop_sub hj))
  rw [ta, te] at hy
  rcases hy with w | w
  · rcases List.mem_append.mp w with v | v
    · exact old (Or.inl v)
    · rw [List.eq_of_mem_replicate v]
      exact gt z hz
  · rcases List.mem_append.mp w with v | v
    · exact old (Or.inr v)
    · rw [List.eq_of_mem_replicate v]
      exact gt z hz

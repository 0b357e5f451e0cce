/-! the reference tells all that differs -/
theorem chP_len {P Q : LL} : (chP P Q).length ≤ P.length := by
  unfold chP
  rw [List.length_map]
  refine Nat.le_trans (List.length_filter_le _ _) ?_
  exact adj_len P
theorem outD_len {more : Bool} {P Q : LL} : (outD more P Q).length ≤ (if more = true then Q.length else P.length) := by
  unfold outD
  by_cases m : more = true
  · rw [if_pos m, if_pos m, List.length_map]
    exact chP_len
  · rw [if_neg m, if_neg m, List.length_map]
    exact chP_len
theorem DST.sA {n i : Nat} {A E : LL} {u7 : Int32} {X : RS} (h : DST n A E X) (hi : i < A.length) : SRW n (nI i) u7 (A.getD i []) X := Or.inl ⟨i, rfl, ix_le h.n8 h.a6 hi, by have := h.a6; omega, fun k hk => h.ra i k hi hk⟩
theorem DST.sE {n j : Nat} {A E : LL} {X : RS} (h : DST n A E X) (hj : j < E.length) : SRW n (-1) (nI j) (E.getD j []) X := Or.inr ⟨rfl, j, rfl, ix_le h.n8 h.e6 hj, by have := h.e6; omega, fun k hk => h.re j k hj hk⟩
theorem mem_drop_at {A : LL} {i : Nat} (h : i < A.length) : A.getD i [] ∈ A.drop i := by
  rw [drop_get h]
  exact List.mem_cons_self ..
theorem RNX.len {A : LL} {i ex : Nat} (h : RNX A i ex) (h6 : A.length ≤ 600) : 1 + ex ≤ 600 := by
  have := h.1
  omega
theorem dif_L {F n : Nat} {more : Bool} {A E : LL} {C0 : CHT} (hF : 10000 ≤ F) (sa : SRT kO A) (se : SRT kO E) (hC : C0.length + (if more = true then E.length else A.length) < 1300) : ∀ (d i j u : Nat) (X : RS), (A.length - i) + (E.length - j) ≤ d → d < u → i ≤ A.length → j ≤ E.length → BND A E i j → DST n A E X → CHS n (C0 ++ outD more (A.take i) (E.take j)) X → ∃ Y, m_differ_L4 F u X (if more = true then 1 else 0) (nI i) (nI j) = some Y ∧ DIF X Y ∧ CHS n (C0 ++ outD more A E) Y := by
  intro d
  induction d with
  | zero =>
    intro i j u X d1 d2 hi hj bn h ch
    obtain ⟨u, rfl⟩ : ∃ z, u = z + 1 := ⟨u - 1, by omega⟩
    have a6 := h.a6
    have e6 := h.e6
    rw [m_differ_L4, h.c7, h.c4, if_neg (nI_nlt (by omega) (by omega)), if_pos (nI_le (by omega) (by omega))]
    rw [List.take_of_length_le (show A.length ≤ i by omega), List.take_of_length_le (show E.length ≤ j by omega)] at ch
    exact ⟨X, rfl, DIF.refl, ch⟩
  | succ d ih =>
    intro i j u X d1 d2 hi hj bn h ch
    obtain ⟨u, rfl⟩ : ∃ z, u = z + 1 := ⟨u - 1, by omega⟩
    have a6 := h.a6
    have e6 := h.e6
    have n8 := h.n8
    have cl : (C0 ++ outD more (A.take i) (E.take j)).length < 1300 := by
      have q1 := outD_len (more := more) (P := A.take i) (Q := E.take j)
      rw [List.length_append]
      by_cases m : more = true
      · rw [if_pos m] at q1 hC
        rw [List.length_take] at q1
        omega
      · rw [if_neg m] at q1 hC
        rw [List.length_take] at q1
        omega
    have fin : ∀ (i' j' ca cb : Nat) (x : List OV) (u6 u7 : Int32), ca ≤ 600 → cb ≤ 600 → A.take i' = A.take i ++ List.replicate ca x → E.take j' = E.take j ++ List.replicate cb x → i ≤ i' → j ≤ j' → i' ≤ A.length → j' ≤ E.length → i + j < i' + j' → (∀ z, (z ∈ A.drop i' ∨ z ∈ E.drop j') → lexI (kO x) (kO z) = true) → (x ∈ A.drop i ∨ x ∈ E.drop j) → SRW n u6 u7 x X → ∃ Y, m_differ_b137 F (m_differ_L4 F u) X (if more = true then 1 else 0) (nI i') (nI j') (-(nI ca) + nI cb) u6 u7 = some Y ∧ DIF X Y ∧ CHS n (C0 ++ outD more A E) Y := fun i' j' ca cb x u6 u7 q1 q2 ta te h1 h2 h3 h4 h5 gt xin sr => by
      obtain ⟨b1, b2, b3⟩ := bn.next ta te h1 h2 gt xin
      obtain ⟨Z, g1, g2, g3⟩ := one_D (F := F) (more := more) (rc4 := m_differ_L4 F u) (u2 := nI i') (u3 := nI j') hF n8 q1 q2 cl h.c1 ch sr
      rw [List.append_assoc, ← outD_step b2 b3, ← ta, ← te] at g3
      obtain ⟨Y, k1, k2, k3⟩ := ih i' j' u Z (by omega) (by omega) h3 h4 b1 (h.dif g2) g3
      rw [g1]
      exact ⟨Y, k1, g2.trans k2, k3⟩
    have z1 : (0 : Int32) + 1 = -(nI 0) + nI 1 := by decide
    have z2 : (0 : Int32) + (-1) = -(nI 1) := by decide
    have caseP : ∀ v : Int32, 0 < v → j < E.length → (∀ z, z ∈ A.drop i → lexI (kO (E.getD j [])) (kO z) = true) → ∃ Y, m_differ_b50 F (m_differ_L4 F u) X (if more = true then 1 else 0) (nI i) (nI j) v = some Y ∧ DIF X Y ∧ CHS n (C0 ++ outD more A E) Y := fun v hv hj2 gA => by
      obtain ⟨ex, r1, r2⟩ := runE_L (F := F) (rc4 := m_differ_L4 F u) (u1 := if more = true then 1 else 0) (u2 := nI i) (u6 := -1) (u7 := nI j) (ca := 0) hF h (E.length - (j + 1)) j F 1 (by omega) (by omega)
      have nv : ¬ v < 0 := Int32.not_lt.mpr (Int32.le_of_lt hv)
      unfold m_differ_b50 m_differ_b65 m_differ_b77 m_differ_b108
      rw [if_pos hv, if_neg nv, if_pos hv, if_neg nv, z1, r2]
      have rl := r1.len e6
      have r0 := r1.1
      refine fin i (j + ex + 1) 0 (1 + ex) (E.getD j []) (-1) (nI j) (by omega) rl (by rw [List.replicate_zero, List.append_nil]) (by rw [Nat.add_comm 1 ex]; exact run_take r1) (Nat.le_refl _) (by omega) hi (by omega) (by omega) (fun z hz => ?_) (Or.inr (mem_drop_at hj2)) (h.sE hj2)
      rcases hz with w | w
      · exact gA z w
      · exact run_gt se r1 w
    have caseN : ∀ v : Int32, v < 0 → i < A.length → (∀ z, z ∈ E.drop j → lexI (kO (A.getD i [])) (kO z) = true) → ∃ Y, m_differ_b50 F (m_differ_L4 F u) X (if more = true then 1 else 0) (nI i) (nI j) v = some Y ∧ DIF X Y ∧ CHS n (C0 ++ outD more A E) Y := fun v hv hi2 gE => by
      obtain ⟨ex, r1, r2⟩ := runA_L (F := F) (rc4 := m_differ_L4 F u) (u1 := if more = true then 1 else 0) (u3 := nI j) (u4 := v) (u6 := nI i) (u7 := -1) hF h (A.length - (i + 1)) i F 1 (by omega) (by omega)
      have nv : ¬ 0 < v := Int32.not_lt.mpr (Int32.le_of_lt hv)
      unfold m_differ_b50 m_differ_b65 m_differ_b77
      rw [if_neg nv, if_pos hv, if_neg nv, z2, r2]
      unfold m_differ_b108
      rw [if_pos hv, show -(nI (1 + ex)) = -(nI (1 + ex)) + nI 0 from (Int32.add_zero _).symm]
      have rl := r1.len a6
      have r0 := r1.1
      refine fin (i + ex + 1) j (1 + ex) 0 (A.getD i []) (nI i) (-1) rl (by omega) (by rw [Nat.add_comm 1 ex]; exact run_take r1) (by rw [List.replicate_zero, List.append_nil]) (by omega) (Nat.le_refl _) (by omega) hj (by omega) (fun z hz => ?_) (Or.inl (mem_drop_at hi2)) (h.sA hi2)
      rcases hz with w | w
      · exact run_gt sa r1 w
      · exact gE z w
    have caseZ : i < A.length → j < E.length → A.getD i [] = E.getD j [] → ∃ Y, m_differ_b50 F (m_differ_L4 F u) X (if more = true then 1 else 0) (nI i) (nI j) 0 = some Y ∧ DIF X Y ∧ CHS n (C0 ++ outD more A E) Y := fun hi2 hj2 ee => by
      obtain ⟨ex, r1, r2⟩ := runA_L (F := F) (rc4 := m_differ_L4 F u) (u1 := if more = true then 1 else 0) (u3 := nI j) (u4 := 0) (u6 := nI i) (u7 := nI j) hF h (A.length - (i + 1)) i F 1 (by omega) (by omega)
      obtain ⟨ex2, r3, r4⟩ := runE_L (F := F) (rc4 := m_differ_L4 F u) (u1 := if more = true then 1 else 0) (u2 := nI (i + ex + 1)) (u6 := nI i) (u7 := nI j) (ca := 1 + ex) hF h (E.length - (j + 1)) j F 1 (by omega) (by omega)
      have nv : ¬ (0 : Int32) < 0 := by decide
      unfold m_differ_b50 m_differ_b65 m_differ_b77
      rw [if_neg nv, if_neg nv, if_neg nv, z2, r2]
      unfold m_differ_b108
      have r4' : m_differ_L116 F (m_differ_L4 F u) F X (if more = true then 1 else 0) (nI (i + ex + 1)) (nI j) (-(nI (1 + ex)) + 1) (nI i) (nI j) = m_differ_b137 F (m_differ_L4 F u) X (if more = true then 1 else 0) (nI (i + ex + 1)) (nI (j + ex2 + 1)) (-(nI (1 + ex)) + nI (1 + ex2)) (nI i) (nI j) := r4
      rw [if_neg nv, r4']
      have rl := r1.len a6
      have rl2 := r3.len e6
      have r0 := r1.1
      have r5 := r3.1
      refine fin (i + ex + 1) (j + ex2 + 1) (1 + ex) (1 + ex2) (A.getD i []) (nI i) (nI j) rl rl2 (by rw [Nat.add_comm 1 ex]; exact run_take r1) (by rw [Nat.add_comm 1 ex2, ee]; exact run_take r3) (by omega) (by omega) (by omega) (by omega) (by omega) (fun z hz => ?_) (Or.inl (mem_drop_at hi2)) (h.sA hi2)
      rcases hz with w | w
      · exact run_gt sa r1 w
      · rw [ee]
        exact run_gt se r3 w
    have b20 : (i < A.length ∨ j < E.length) → ∃ Y, m_differ_b20 F (m_differ_L4 F u) X (if more = true then 1 else 0) (nI i) (nI j) = some Y ∧ DIF X Y ∧ CHS n (C0 ++ outD more A E) Y := fun hij => by
      unfold m_differ_b20
      rw [h.c7, h.c4]
      by_cases q1 : i = A.length
      · rw [if_pos (by rw [q1])]
        exact caseP 1 (by decide) (by omega) (fun z hz => by rw [List.drop_eq_nil_of_le (by omega)] at hz; cases hz)
      · rw [if_neg (fun w => q1 ((nI_eq (by omega) (by omega)).mp w))]
        by_cases q2 : j = E.length
        · rw [if_pos (by rw [q2])]
          exact caseN (-1) (by decide) (by omega) (fun z hz => by rw [List.drop_eq_nil_of_le (by omega)] at hz; cases hz)
        · rw [if_neg (fun w => q2 ((nI_eq (by omega) (by omega)).mp w)), acr_ok hF h (by omega) (by omega), ob_s]
          have la : (A.getD i []).length = n := h.la _ (get_mem (by omega))
          have le : (E.getD j []).length = n := h.le _ (get_mem (by omega))
          have cl2 := cmpL_lex (A.getD i []) (E.getD j []) (by rw [la, le])
          have c0 := cmpL_0 (A.getD i []) (E.getD j []) (by rw [la, le])
          by_cases p1 : cmpL (A.getD i []) (E.getD j []) ≤ 0
          · by_cases p2 : (0 : Int32) ≤ cmpL (A.getD i []) (E.getD j [])
            · have p3 := Int32.le_antisymm p1 p2
              rw [p3]
              exact caseZ (by omega) (by omega) (c0.mp p3)
            · have lt : lexI (kO (A.getD i [])) (kO (E.getD j [])) = true := by
                cases z : lexI (kO (A.getD i [])) (kO (E.getD j [])) with
                | true => rfl
                | false => exact absurd (cl2.mpr z) p2
              refine caseN _ (Int32.not_le.mp p2) (by omega) (fun z hz => ?_)
              obtain ⟨t, t1, t2, t3⟩ := drop_m hz
              rw [t3]
              exact lt_le lt (srt_at se t1 t2)
          · have p2 : (0 : Int32) ≤ cmpL (A.getD i []) (E.getD j []) := Int32.le_of_lt (Int32.not_le.mp p1)
            have ne : ¬ A.getD i [] = E.getD j [] := fun w => p1 (by rw [c0.mpr w]; decide)
            have lt : lexI (kO (E.getD j [])) (kO (A.getD i [])) = true := by
              cases z : lexI (kO (E.getD j [])) (kO (A.getD i [])) with
              | true => rfl
              | false => exact absurd (kO_inj _ _ (lex_tri _ _ (cl2.mp p2) z)) ne
            refine caseP _ (Int32.not_le.mp p1) (by omega) (fun z hz => ?_)
            obtain ⟨t, t1, t2, t3⟩ := drop_m hz
            rw [t3]
            exact lt_le lt (srt_at sa t1 t2)
    rw [m_differ_L4, h.c7, h.c4]
    by_cases q1 : i < A.length
    · rw [if_pos (nI_lt q1 (by omega))]
      exact b20 (Or.inl q1)
    · rw [if_neg (nI_nlt (by omega) (by omega))]
      by_cases q2 : E.length ≤ j
      · rw [if_pos (nI_le q2 (by omega))]
        rw [List.take_of_length_le (show A.length ≤ i by omega), List.take_of_length_le q2] at ch
        exact ⟨X, rfl, DIF.refl, ch⟩
      · rw [if_neg (nI_ge (by omega) (by omega))]
        exact b20 (Or.inr (by omega))
/-- all changes: what went, then what came -/
def chgs (A E : LL) : CHT := outD false A E ++ outD true A E
theorem dif_ok {F n : Nat} {A E : LL} {X : RS} (hF : 10000 ≤ F) (sa : SRT kO A) (se : SRT kO E) (h : DST n A E X) (c0 : X.1 110 = 0) : ∃ Y, (Option.bind (m_differ F X 0) fun cs_16 => Option.bind (m_differ F cs_16 1) fun cs_17 => m_renew_b330 F cs_17) = some Y ∧ DIF X Y ∧ CHS n (chgs A E) Y := by
  have a6 := h.a6
  have e6 := h.e6
  have bn : BND A E 0 0 := fun y hy => by
    rw [List.take_zero, List.take_zero] at hy
    rcases hy with w | w <;> cases w
  have z0 : ∀ more, outD more (A.take 0) (E.take 0) = [] := fun more => by
    cases more <;> rfl
  obtain ⟨Y1, g1, g2, g3⟩ := dif_L (F := F) (n := n) (more := false) (C0 := []) hF sa se (by rw [if_neg (by decide), List.length_nil]; omega) (A.length + E.length) 0 0 F X (by omega) (by omega) (by omega) (by omega) bn h (by
    rw [z0, List.append_nil]
    exact ⟨c0, fun t ht => absurd ht (by rw [List.length_nil]; omega), fun i k hi => absurd hi (by rw [List.map_nil, List.length_nil]; omega)⟩)
  rw [List.nil_append] at g3
  have l1 := outD_len (more := false) (P := A) (Q := E)
  rw [if_neg (by decide)] at l1
  obtain ⟨Y2, k1, k2, k3⟩ := dif_L (F := F) (n := n) (more := true) (C0 := outD false A E) hF sa se (by rw [if_pos rfl]; omega) (A.length + E.length) 0 0 F Y1 (by omega) (by omega) (by omega) (by omega) bn (h.dif g2) (by rw [z0, List.append_nil]; exact g3)
  have g1' : m_differ F X 0 = some Y1 := g1
  have k1' : m_differ F Y1 1 = some Y2 := k1
  rw [g1', ob_s, k1', ob_s]
  exact ⟨Y2, rfl, g2.trans k2, k3⟩

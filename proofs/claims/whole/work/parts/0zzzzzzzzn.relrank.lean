/-! the reference ranks the rows of its answer -/
/-- only ranks have changed -/
def RFX (X Y : RS) : Prop := (Y.1 = X.1) ∧ (Y.2.1 = X.2.1) ∧ (Y.2.2.2 = X.2.2.2) ∧ (∀ q, q ≠ 114 → Y.2.2.1 q = X.2.2.1 q)
theorem RFX.f1 {X Y : RS} (h : RFX X Y) : Y.1 = X.1 := h.1
theorem RFX.wt {X Y : RS} (h : RFX X Y) : Y.2.1 = X.2.1 := h.2.1
theorem RFX.ll {X Y : RS} (h : RFX X Y) : Y.2.2.2 = X.2.2.2 := h.2.2.1
theorem RFX.ar {X Y : RS} (h : RFX X Y) : ∀ q, q ≠ 114 → Y.2.2.1 q = X.2.2.1 q := h.2.2.2
theorem RFX.refl {X : RS} : RFX X X := ⟨rfl, rfl, rfl, fun _ _ => rfl⟩
theorem RFX.trans {X Y Z : RS} (h : RFX X Y) (g : RFX Y Z) : RFX X Z := ⟨g.f1.trans h.f1, g.wt.trans h.wt, g.ll.trans h.ll, fun q hq => (g.ar q hq).trans (h.ar q hq)⟩
theorem RFX.s {X : RS} {i : Nat} {v : Int32} : RFX X (setI X 114 i v) := ⟨rfl, rfl, rfl, fun q hq => funext (fun j => sIa_n (fun w => hq w.1))⟩
theorem RFX.cel {X Y : RS} {i : Nat} (h : RFX X Y) : rc Y i = rc X i := by
  unfold rc
  rw [h.ar 86 (by decide), h.ll]
theorem RFX.rl {X Y : RS} {r b w m : Nat} (h : RFX X Y) (g : RLN X r b w m) : RLN Y r b w m := ⟨g.r4, by rw [h.ar 88 (by decide)]; exact g.b, by rw [h.ar 89 (by decide)]; exact g.m, by rw [h.ar 90 (by decide)]; exact g.w⟩
theorem RFX.rw' {X Y : RS} {p w : Nat} (h : RFX X Y) : rowL Y p w = rowL X p w := by
  unfold rowL
  exact List.map_congr_left (fun k _ => h.cel)
/-- rows in order by their cells -/
abbrev kO : List OV → List Int := fun L => L.map ovk
theorem kO_inj (x y : List OV) (h : kO x = kO y) : x = y := List.map_inj_right (fun a b w => ovk_inj a b w) |>.mp h
theorem rin_L {F r b w m i : Nat} {R : Nat → List OV} {P : List Nat} {rc9 : RS → Int32 → Int32 → Int32 → Option RS} {X0 : RS} (hF : 10000 ≤ F) (hw : w ≤ 100) (hm : m ≤ 700) (hi : i < m) (hb : b + m * w ≤ 400000) (rl : RLN X0 r b w m) (hR : ∀ k, k < m → rowL X0 (b + k * w) w = R k) (hP : P.length = i) (hpm : ∀ p, p ∈ P → p < m) (so : (P.map R).Pairwise (fun a b => lexI (kO b) (kO a) = false)) : ∀ (j u : Nat) (X : RS), j ≤ i → j < u → RFX X0 X → (∀ k, k < j → X.2.2.1 114 k = nI (P.getD k 0)) → (∀ k, j ≤ k → k < i → X.2.2.1 114 (k + 1) = nI (P.getD k 0)) → (∀ t, t ∈ P.drop j → lexI (kO (R i)) (kO (R t)) = true) → ∃ (Y : RS) (P' : List Nat), m_sort_L17 F rc9 u X (nI r) (nI m) (nI i) (nI j) = rc9 Y (nI r) (nI m) (nI (i + 1)) ∧ RFX X0 Y ∧ P'.Perm (i :: P) ∧ (P'.map R).Pairwise (fun a b => lexI (kO b) (kO a) = false) ∧ (∀ k, k < i + 1 → Y.2.2.1 114 k = nI (P'.getD k 0)) := by
  have fin : ∀ (j u : Nat) (X : RS), j ≤ i → RFX X0 X → (∀ k, k < j → X.2.2.1 114 k = nI (P.getD k 0)) → (∀ k, j ≤ k → k < i → X.2.2.1 114 (k + 1) = nI (P.getD k 0)) → (∀ t, t ∈ P.drop j → lexI (kO (R i)) (kO (R t)) = true) → (1 ≤ j → lexI (kO (R i)) (kO (R (P.getD (j - 1) 0))) = false) → ∃ (Y : RS) (P' : List Nat), m_sort_b77 F rc9 X (nI r) (nI m) (nI i) (nI j) = rc9 Y (nI r) (nI m) (nI (i + 1)) ∧ RFX X0 Y ∧ P'.Perm (i :: P) ∧ (P'.map R).Pairwise (fun a b => lexI (kO b) (kO a) = false) ∧ (∀ k, k < i + 1 → Y.2.2.1 114 k = nI (P'.getD k 0)) := fun j u X j1 hx h1 h2 h3 h4 => by
    refine ⟨setI X 114 j (nI i), P.take j ++ i :: P.drop j, ?_, hx.trans RFX.s, ?_, ?_, fun k hk => ?_⟩
    · unfold m_sort_b77
      rw [wrI_n (by omega) (by decide), ob_s, nI_1]
    · have e := List.perm_middle (a := i) (l₁ := P.take j) (l₂ := P.drop j)
      rw [List.take_append_drop] at e
      exact e
    · have e := List.take_append_drop j P
      rw [← e, List.map_append] at so
      have sa := List.pairwise_append.mp so
      rw [List.map_append, List.map_cons]
      refine List.pairwise_append.mpr ⟨sa.1, List.pairwise_cons.mpr ⟨fun y hy => ?_, sa.2.1⟩, fun x hx y hy => ?_⟩
      · obtain ⟨t, t1, t2⟩ := List.mem_map.mp hy
        rw [← t2]
        have h5 := h3 t t1
        cases q : lexI (kO (R t)) (kO (R i)) with
        | false => rfl
        | true =>
          have h6 := lex_tr _ _ _ h5 q
          rw [lex_ir] at h6
          cases h6
      · rcases List.mem_cons.mp hy with z | z
        · rw [z]
          obtain ⟨t, t1, t2⟩ := List.mem_map.mp hx
          rw [← t2]
          have j1' : 1 ≤ j := by
            cases j with
            | zero => rw [List.take_zero] at t1; cases t1
            | succ j => omega
          have hl := h4 j1'
          have el : P.take j = P.take (j - 1) ++ [P.getD (j - 1) 0] := by
            have e9 := List.take_add_one (l := P) (i := j - 1)
            rw [show j - 1 + 1 = j by omega, List.getElem?_eq_getElem (show j - 1 < P.length by omega)] at e9
            rw [e9, List.getD_eq_getElem?_getD, List.getElem?_eq_getElem (show j - 1 < P.length by omega)]
            rfl
          rw [el] at t1
          rcases List.mem_append.mp t1 with y1 | y1
          · have s1 := sa.1
            rw [el, List.map_append] at s1
            have s2 := (List.pairwise_append.mp s1).2.2 (R t) (List.mem_map.mpr ⟨t, y1, rfl⟩) (R (P.getD (j - 1) 0)) (List.mem_singleton.mpr rfl)
            exact lex_le s2 hl
          · rw [List.mem_singleton.mp y1]
            exact hl
        · exact sa.2.2 x hx y z
    · have lt : (P.take j).length = j := by rw [List.length_take]; omega
      by_cases q : k = j
      · rw [q, sIa_s, List.getD_eq_getElem?_getD, List.getElem?_append_right (by omega), lt, Nat.sub_self]
        rfl
      · rw [sIa_n (fun w => q w.2)]
        by_cases z : k < j
        · rw [h1 k z, List.getD_eq_getElem?_getD, List.getD_eq_getElem?_getD, List.getElem?_append_left (by omega), List.getElem?_take_of_lt z]
        · have h5 := h2 (k - 1) (by omega) (by omega)
          rw [show k - 1 + 1 = k by omega] at h5
          rw [h5, List.getD_eq_getElem?_getD, List.getD_eq_getElem?_getD, List.getElem?_append_right (by omega), lt, show k - j = (k - 1 - j) + 1 by omega, List.getElem?_cons_succ, List.getElem?_drop, show j + (k - 1 - j) = k - 1 by omega]
  intro j
  induction j with
  | zero =>
    intro u X j1 j2 hx h1 h2 h3
    obtain ⟨u, rfl⟩ : ∃ z, u = z + 1 := ⟨u - 1, by omega⟩
    rw [m_sort_L17, if_pos (show nI 0 ≤ 0 by decide)]
    exact fin 0 u X j1 hx h1 h2 h3 (fun w => absurd w (by omega))
  | succ j ih =>
    intro u X j1 j2 hx h1 h2 h3
    obtain ⟨u, rfl⟩ : ∃ z, u = z + 1 := ⟨u - 1, by omega⟩
    have rlx := hx.rl rl
    have hpj : P.getD j 0 < m := hpm _ (by
      rw [List.getD_eq_getElem?_getD, List.getElem?_eq_getElem (show j < P.length by omega)]
      exact List.getElem_mem _)
    have r1 := row_le (p := b) (w := w) hi
    have r2 := row_le (p := b) (w := w) hpj
    have e1 : rowL X (b + i * w) w = R i := hx.rw'.trans (hR i hi)
    have e2 : rowL X (b + P.getD j 0 * w) w = R (P.getD j 0) := hx.rw'.trans (hR _ hpj)
    have l1 : (R i).length = w := by rw [← e1]; exact rowL_len
    have l2 : (R (P.getD j 0)).length = w := by rw [← e2]; exact rowL_len
    have cl := cmpL_lex (R i) (R (P.getD j 0)) (by rw [l1, l2])
    rw [m_sort_L17, if_neg (nI_nle (by omega) (by omega)), at_ok rlx, ob_s, nI_p1 (by omega), Nat.add_sub_cancel, rdI_n (by omega) (by decide), ob_s, h1 j (by omega), at_ok rlx, ob_s, rdI_n rlx.r4 (by decide), ob_s, rlx.w, cmpR_ok hF hw (by omega) (by omega), ob_s, e1, e2]
    by_cases q : (0 : Int32) ≤ cmpL (R i) (R (P.getD j 0))
    · rw [if_pos q]
      exact fin (j + 1) u X j1 hx h1 h2 h3 (fun _ => cl.mp q)
    · have q2 : lexI (kO (R i)) (kO (R (P.getD j 0))) = true := by
        cases z : lexI (kO (R i)) (kO (R (P.getD j 0))) with
        | true => rfl
        | false => exact absurd (cl.mpr z) q
      have e3 : nI (j + 1) + (-1) = nI j := by
        rw [← Int32.sub_eq_add_neg]
        exact nI_pred j
      rw [if_neg q, ob_s, wrI_n (by omega) (by decide), ob_s, e3]
      refine ih u (setI X 114 (j + 1) (nI (P.getD j 0))) (by omega) (by omega) (hx.trans RFX.s) (fun k hk => by rw [sIa_n (fun w => by omega)]; exact h1 k (by omega)) (fun k k1 k2 => ?_) (fun t ht => ?_)
      · by_cases z : k = j
        · rw [z, sIa_s]
        · rw [sIa_n (fun w => by omega)]
          exact h2 k (by omega) k2
      · rw [List.drop_eq_getElem_cons (show j < P.length by omega)] at ht
        rcases List.mem_cons.mp ht with z | z
        · rw [z]
          rw [List.getD_eq_getElem?_getD, List.getElem?_eq_getElem (show j < P.length by omega)] at q2
          exact q2
        · exact h3 t z
theorem rank_L {F r b w m : Nat} {R : Nat → List OV} {X0 : RS} (hF : 10000 ≤ F) (hw : w ≤ 100) (hm : m ≤ 700) (hb : b + m * w ≤ 400000) (rl : RLN X0 r b w m) (hR : ∀ k, k < m → rowL X0 (b + k * w) w = R k) : ∀ (d i u : Nat) (P : List Nat) (X : RS), m = i + d → d < u → RFX X0 X → P.Perm (List.range i) → (P.map R).Pairwise (fun a b => lexI (kO b) (kO a) = false) → (∀ k, k < i → X.2.2.1 114 k = nI (P.getD k 0)) → ∃ (Y : RS) (P' : List Nat), m_sort_L9 F u X (nI r) (nI m) (nI i) = some Y ∧ RFX X0 Y ∧ P'.Perm (List.range m) ∧ (P'.map R).Pairwise (fun a b => lexI (kO b) (kO a) = false) ∧ (∀ k, k < m → Y.2.2.1 114 k = nI (P'.getD k 0)) := by
  intro d
  induction d with
  | zero =>
    intro i u P X d1 d2 hx hp so hk
    obtain ⟨u, rfl⟩ : ∃ z, u = z + 1 := ⟨u - 1, by omega⟩
    rw [m_sort_L9, if_pos (nI_le (by omega) (by omega))]
    rw [show i = m by omega] at hp hk
    exact ⟨X, P, rfl, hx, hp, so, hk⟩
  | succ d ih =>
    intro i u P X d1 d2 hx hp so hk
    obtain ⟨u, rfl⟩ : ∃ z, u = z + 1 := ⟨u - 1, by omega⟩
    have lP : P.length = i := by rw [hp.length_eq, List.length_range]
    obtain ⟨Y, P', g1, g2, g3, g4, g5⟩ := rin_L (F := F) (rc9 := m_sort_L9 F u) hF hw hm (show i < m by omega) hb rl hR lP (fun p hp' => by have := List.mem_range.mp (hp.mem_iff.mp hp'); omega) so i F X (Nat.le_refl _) (by omega) hx hk (fun k k1 k2 => absurd k2 (by omega)) (fun t ht => by rw [List.drop_eq_nil_of_le (by omega)] at ht; cases ht)
    rw [m_sort_L9, if_neg (nI_ge (by omega) (by omega)), g1]
    refine ih (i + 1) u P' Y (by omega) (by omega) g2 (g3.trans ?_) g4 g5
    rw [List.range_succ]
    exact ((hp.cons i).trans (List.perm_append_singleton i (List.range i)).symm)
/-- the rows by rank are the rows in order -/
theorem rank_ok {F r b w : Nat} {rows : LL} {X : RS} (hF : 10000 ≤ F) (hw : w ≤ 100) (hm : rows.length ≤ 700) (hb : b + rows.length * w ≤ 400000) (rl : RLN X r b w rows.length) (hr : rowsL X b w rows.length = rows) : ∃ (Y : RS) (P : List Nat), m_sort F X (nI r) = some Y ∧ RFX X Y ∧ P.length = rows.length ∧ (∀ p, p ∈ P → p < rows.length) ∧ (∀ k, k < rows.length → Y.2.2.1 114 k = nI (P.getD k 0)) ∧ P.map (fun p => rowL X (b + p * w) w) = srtK kO rows := by
  obtain ⟨Y, P, g1, g2, g3, g4, g5⟩ := rank_L (F := F) (R := fun p => rowL X (b + p * w) w) hF hw hm hb rl (fun _ _ => rfl) rows.length 0 F [] X (by omega) (by omega) RFX.refl (List.Perm.refl _) List.Pairwise.nil (fun k hk => absurd hk (by omega))
  refine ⟨Y, P, ?_, g2, by rw [g3.length_eq, List.length_range], fun p hp => List.mem_range.mp (g3.mem_iff.mp hp), g5, ?_⟩
  · unfold m_sort
    rw [rdI_n rl.r4 (by decide), ob_s, rl.m]
    exact g1
  · refine srt_uniq (K := kO) kO_inj ?_ g4 (srt_srt rows)
    refine List.Perm.trans ?_ (srt_perm rows).symm
    refine (g3.map _).trans (List.Perm.of_eq ?_)
    have e := hr
    unfold rowsL at e
    exact e
theorem dnB_0 (k : Nat) : dnB 0 k = false := by
  by_cases q : k < 8
  · match k, q with
    | 0, _ => rfl
    | 1, _ => rfl
    | 2, _ => rfl
    | 3, _ => rfl
    | 4, _ => rfl
    | 5, _ => rfl
    | 6, _ => rfl
    | 7, _ => rfl
  · unfold dnB
    rw [decide_eq_false q, Bool.false_and]
theorem kd_0 : kd 0 = kO := funext (fun L => kdI_up 0 L (fun k _ => dnB_0 k))

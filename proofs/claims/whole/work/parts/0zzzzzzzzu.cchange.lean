/-! the class looks for what differs -/
theorem at_0 {ar w i : Nat} {A : LL} {cs : CS} (h : RWS ar 0 w A cs) (hi : i < A.length) : rwC cs ar (i * w) w = A.getD i [] ∧ i * w + w ≤ kL cs 288 ar := by
  have r := h.row hi
  have l := row_le (p := 0) (w := w) hi
  have bd := h.bd
  rw [Nat.zero_add] at r bd
  exact ⟨r, by omega⟩
theorem rep_L {F ar n w i : Nat} {A : LL} {cs : CS} (hF : 10000 ≤ F) (hw : w ≤ 100) (st : STR ar n cs) (hr : RWS ar 0 w A cs) (ha : A.length ≤ 600) (hi : i < A.length) : ∀ (d o u : Nat), A.length = i + o + d → d < u → 1 ≤ o → (∀ t, t < o → A.getD (i + t) [] = A.getD i []) → ∃ ex, RNX A i ex ∧ c_X8_repeats_L3 F cs u ar (nI i) (nI A.length) (nI w) (nI o) = some (nI (ex + 1)) := by
  have l8 := st.l8
  have lst : ∀ o, 1 ≤ o → i + o ≤ A.length → (∀ t, t < o → A.getD (i + t) [] = A.getD i []) → ¬ lkB A (i + (o - 1)) → RNX A i (o - 1) := fun o h1 h2 h3 h4 => ⟨by omega, fun t ht => h3 t (by omega), h4⟩
  intro d
  induction d with
  | zero =>
    intro o u d1 d2 o1 eq
    obtain ⟨u, rfl⟩ : ∃ z, u = z + 1 := ⟨u - 1, by omega⟩
    refine ⟨o - 1, lst o o1 (by omega) eq (fun w => by have := w.1; omega), ?_⟩
    rw [c_X8_repeats_L3, nI_add, if_pos (nI_le (by omega) (by omega)), show o - 1 + 1 = o by omega]
    rfl
  | succ d ih =>
    intro o u d1 d2 o1 eq
    obtain ⟨u, rfl⟩ : ∃ z, u = z + 1 := ⟨u - 1, by omega⟩
    obtain ⟨r1, r2⟩ := at_0 hr hi
    obtain ⟨r3, r4⟩ := at_0 hr (show i + o < A.length by omega)
    have z0 := cmD_0 (dn := dnB 0) 0 (A.getD i []) (A.getD (i + o) []) (by rw [← r1, ← r3, rwC_len, rwC_len])
    rw [c_X8_repeats_L3, nI_add, if_neg (nI_ge (by omega) (by omega)), ckE_ok st.o, ob_s, pk_mul, pk_mul, cmpC_ok hF st st hw (by omega) (by omega), ob_s, r1, r3]
    by_cases q : A.getD i [] = A.getD (i + o) []
    · rw [if_pos (z0.mpr q), nI_1]
      refine ih (o + 1) u (by omega) (by omega) (by omega) (fun t ht => ?_)
      by_cases z : t = o
      · rw [z]
        exact q.symm
      · exact eq t (by omega)
    · rw [if_neg (fun w => q (z0.mp w))]
      refine ⟨o - 1, lst o o1 (by omega) eq (fun w => q ?_), by rw [show o - 1 + 1 = o by omega]; rfl⟩
      have w2 := w.2
      rw [eq (o - 1) (by omega), show i + (o - 1) + 1 = i + o by omega] at w2
      exact w2
theorem rep_ok {F ar n w i : Nat} {A : LL} {cs : CS} (hF : 10000 ≤ F) (hw : w ≤ 100) (st : STR ar n cs) (hr : RWS ar 0 w A cs) (ha : A.length ≤ 600) (hi : i < A.length) : ∃ ex, RNX A i ex ∧ c_X8_repeats F cs ar (nI i) (nI A.length) (nI w) = some (nI (ex + 1)) := rep_L hF hw st hr ha hi (A.length - (i + 1)) 1 F (by omega) (by omega) (Nat.le_refl _) (fun t ht => by rw [show t = 0 by omega]; rfl)
theorem chP_one {P Q : LL} {x : List OV} {p : Nat} (h1 : x ∉ P) : chP (P ++ List.replicate p x) Q = chP P Q ++ (if Q.count x < p then [(x, p - Q.count x)] else []) := by
  have old : ((P.foldl adjS []).filter (fun L => decide (Q.count L < (P ++ List.replicate p x).count L))).map (fun L => (L, (P ++ List.replicate p x).count L - Q.count L)) = chP P Q := by
    unfold chP
    have ne : ∀ L, L ∈ P.foldl adjS [] → L ≠ x := fun L hL w => by
      rcases (adj_mem P []).mp hL with z | z
      · cases z
      · exact h1 (by rw [← w]; exact z)
    have e1 : (P.foldl adjS []).filter (fun L => decide (Q.count L < (P ++ List.replicate p x).count L)) = (P.foldl adjS []).filter (fun L => decide (Q.count L < P.count L)) := List.filter_congr (fun L hL => by rw [cnt_no (ne L hL)])
    rw [e1]
    refine List.map_congr_left (fun L hL => ?_)
    rw [cnt_no (ne L (List.mem_filter.mp hL).1)]
  cases p with
  | zero =>
    rw [if_neg (by omega), List.append_nil, List.replicate_zero, List.append_nil]
  | succ p =>
    rw [← old]
    unfold chP
    rw [adj_app h1, List.filter_append, List.map_append]
    refine congrArg (_ ++ ·) ?_
    by_cases z : Q.count x < p + 1
    · rw [if_pos z, List.filter_cons_of_pos (by rw [cnt_me h1]; exact decide_eq_true z), List.filter_nil]
      show [(x, _ - _)] = _
      rw [cnt_me h1]
    · rw [if_neg z, List.filter_cons_of_neg (by rw [cnt_me h1]; exact fun w => z (of_decide_eq_true w)), List.filter_nil]
      rfl
/-- how often a row is in a sorted answer, at its first place -/
theorem cnt_run {E : LL} {j ex : Nat} (s : SRT kO E) (h : RNX E j ex) (lt : ∀ y, y ∈ E.take j → lexI (kO y) (kO (E.getD j [])) = true) : E.count (E.getD j []) = ex + 1 := by
  have e := List.take_append_drop (j + ex + 1) E
  rw [run_take h] at e
  have n1 : E.getD j [] ∉ E.take j := fun w => by
    have q := lt _ w
    rw [lex_ir] at q
    cases q
  have n2 : E.getD j [] ∉ E.drop (j + ex + 1) := fun w => by
    have q := run_gt s h w
    rw [lex_ir] at q
    cases q
  obtain ⟨x, hx⟩ : ∃ z, z = E.getD j [] := ⟨_, rfl⟩
  rw [← hx] at e n1 n2 ⊢
  rw [← e, List.count_append, List.count_append, List.count_eq_zero_of_not_mem n1, List.count_eq_zero_of_not_mem n2, List.count_replicate_self]
  omega
theorem cnt_none {E : LL} {j : Nat} {x : List OV} (s : SRT kO E) (lt : ∀ y, y ∈ E.take j → lexI (kO y) (kO x) = true) (gt : j < E.length → lexI (kO x) (kO (E.getD j [])) = true) : E.count x = 0 := by
  refine List.count_eq_zero_of_not_mem (fun w => ?_)
  rw [← List.take_append_drop j E] at w
  rcases List.mem_append.mp w with v | v
  · have q := lt _ v
    rw [lex_ir] at q
    cases q
  · obtain ⟨t, t1, t2, t3⟩ := drop_m v
    have q := lt_le (gt (by omega)) (srt_at s t1 t2)
    rw [← t3, lex_ir] at q
    cases q

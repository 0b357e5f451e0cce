/-! what differs between two sorted answers -/
/-- rows of P that Q has less often, and how much less -/
def chP (P Q : LL) : List (List OV × Nat) := ((P.foldl adjS []).filter (fun L => decide (Q.count L < P.count L))).map (fun L => (L, P.count L - Q.count L))
theorem adj_app {P : LL} {x : List OV} (h : x ∉ P) : ∀ (p : Nat), (P ++ List.replicate (p + 1) x).foldl adjS [] = P.foldl adjS [] ++ [x] := fun p => by
  rw [List.foldl_append, List.replicate_succ]
  show (List.replicate p x).foldl adjS (adjS (P.foldl adjS []) x) = _
  have nl : (P.foldl adjS []).getLast? ≠ some x := fun w => by
    rcases (adj_mem P []).mp (List.mem_of_getLast? w) with z | z
    · cases z
    · exact h z
  have e : adjS (P.foldl adjS []) x = P.foldl adjS [] ++ [x] := by
    obtain ⟨K, hK⟩ : ∃ z, z = P.foldl adjS [] := ⟨_, rfl⟩
    rw [← hK] at nl ⊢
    unfold adjS
    rw [if_neg nl]
  rw [e]
  exact adj_same (k0 := x) _ _ (fun y hy => List.eq_of_mem_replicate hy) List.getLast?_concat
theorem cnt_no {P : LL} {x L : List OV} {p : Nat} (h : L ≠ x) : (P ++ List.replicate p x).count L = P.count L := by
  rw [List.count_append, List.count_eq_zero_of_not_mem (fun w => h (List.eq_of_mem_replicate w)), Nat.add_zero]
theorem cnt_me {P : LL} {x : List OV} {p : Nat} (h : x ∉ P) : (P ++ List.replicate p x).count x = p := by
  rw [List.count_append, List.count_eq_zero_of_not_mem h, List.count_replicate_self, Nat.zero_add]
theorem chP_step {P Q : LL} {x : List OV} {p q : Nat} (h1 : x ∉ P) (h2 : x ∉ Q) : chP (P ++ List.replicate p x) (Q ++ List.replicate q x) = chP P Q ++ (if q < p then [(x, p - q)] else []) := by
  have old : ((P.foldl adjS []).filter (fun L => decide ((Q ++ List.replicate q x).count L < (P ++ List.replicate p x).count L))).map (fun L => (L, (P ++ List.replicate p x).count L - (Q ++ List.replicate q x).count L)) = chP P Q := by
    unfold chP
    have ne : ∀ L, L ∈ P.foldl adjS [] → L ≠ x := fun L hL w => by
      rcases (adj_mem P []).mp hL with z | z
      · cases z
      · exact h1 (by rw [← w]; exact z)
    have e1 : (P.foldl adjS []).filter (fun L => decide ((Q ++ List.replicate q x).count L < (P ++ List.replicate p x).count L)) = (P.foldl adjS []).filter (fun L => decide (Q.count L < P.count L)) := List.filter_congr (fun L hL => by rw [cnt_no (ne L hL), cnt_no (ne L hL)])
    rw [e1]
    refine List.map_congr_left (fun L hL => ?_)
    have hL2 := (List.mem_filter.mp hL).1
    rw [cnt_no (ne L hL2), cnt_no (ne L hL2)]
  cases p with
  | zero =>
    rw [if_neg (by omega), List.append_nil, ← old]
    unfold chP
    rw [List.replicate_zero, List.append_nil]
  | succ p =>
    rw [← old]
    unfold chP
    rw [adj_app h1, List.filter_append, List.map_append]
    refine congrArg (_ ++ ·) ?_
    by_cases z : q < p + 1
    · rw [if_pos z, List.filter_cons_of_pos (by rw [cnt_me h1, cnt_me h2]; exact decide_eq_true z), List.filter_nil]
      show [(x, _ - _)] = _
      rw [cnt_me h1, cnt_me h2]
    · rw [if_neg z, List.filter_cons_of_neg (by rw [cnt_me h1, cnt_me h2]; exact fun w => z (of_decide_eq_true w)), List.filter_nil]
      rfl
theorem chP_nil {Q : LL} : chP [] Q = [] := rfl
/-- a run of rows taken -/
theorem run_take {A : LL} {i ex : Nat} (h : RNX A i ex) : A.take (i + ex + 1) = A.take i ++ List.replicate (ex + 1) (A.getD i []) := by
  obtain ⟨h1, h2, -⟩ := h
  have go : ∀ k, k ≤ ex + 1 → A.take (i + k) = A.take i ++ List.replicate k (A.getD i []) := fun k => by
    induction k with
    | zero => intro _; rw [List.replicate_zero, List.append_nil]; rfl
    | succ k ih =>
      intro hk
      rw [show i + (k + 1) = (i + k) + 1 by omega, take_get (show i + k < A.length by omega), ih (by omega), h2 k (by omega), List.replicate_succ', List.append_assoc]
  exact go (ex + 1) (Nat.le_refl _)
/-- the changes told so far -/
abbrev CHT : Type := List (List OV × Int32)
def CHS (n : Nat) (C : CHT) (X : RS) : Prop := (X.1 110 = nI C.length) ∧ (∀ t, t < C.length → X.2.2.1 111 t = (C.getD t ([], 0)).2) ∧ (RWA 112 113 n (C.map (fun z => z.1)) X)
theorem CHS.c0 {n : Nat} {C : CHT} {X : RS} (h : CHS n C X) : X.1 110 = nI C.length := h.1
theorem CHS.by' {n : Nat} {C : CHT} {X : RS} (h : CHS n C X) : ∀ t, t < C.length → X.2.2.1 111 t = (C.getD t ([], 0)).2 := h.2.1
theorem CHS.rw' {n : Nat} {C : CHT} {X : RS} (h : CHS n C X) : RWA 112 113 n (C.map (fun z => z.1)) X := h.2.2
/-- what looking for differences writes -/
def DIF (X Y : RS) : Prop := (Y.2.1 = X.2.1) ∧ (∀ q, q ≠ 110 → Y.1 q = X.1 q) ∧ (∀ q, q ≠ 111 → q ≠ 113 → Y.2.2.1 q = X.2.2.1 q) ∧ (∀ q, q ≠ 112 → Y.2.2.2 q = X.2.2.2 q)
theorem DIF.wt {X Y : RS} (h : DIF X Y) : Y.2.1 = X.2.1 := h.1
theorem DIF.f1 {X Y : RS} (h : DIF X Y) : ∀ q, q ≠ 110 → Y.1 q = X.1 q := h.2.1
theorem DIF.ar {X Y : RS} (h : DIF X Y) : ∀ q, q ≠ 111 → q ≠ 113 → Y.2.2.1 q = X.2.2.1 q := h.2.2.1
theorem DIF.ll {X Y : RS} (h : DIF X Y) : ∀ q, q ≠ 112 → Y.2.2.2 q = X.2.2.2 q := h.2.2.2
theorem DIF.refl {X : RS} : DIF X X := ⟨rfl, fun _ _ => rfl, fun _ _ _ => rfl, fun _ _ => rfl⟩
theorem DIF.trans {X Y Z : RS} (h : DIF X Y) (g : DIF Y Z) : DIF X Z := ⟨g.wt.trans h.wt, fun q a => (g.f1 q a).trans (h.f1 q a), fun q a b => (g.ar q a b).trans (h.ar q a b), fun q a => (g.ll q a).trans (h.ll q a)⟩
theorem DST.dif {n : Nat} {A E : LL} {X Y : RS} (h : DST n A E X) (g : DIF X Y) : DST n A E Y := by
  refine ⟨by rw [g.f1 101 (by decide)]; exact h.c1, by rw [g.f1 107 (by decide)]; exact h.c7, by rw [g.f1 104 (by decide)]; exact h.c4, fun i k hi hk => ?_, fun i k hi hk => ?_, h.la, h.le, h.n8, h.a6, h.e6⟩
  · obtain ⟨w1, w2⟩ := h.ra i k hi hk
    exact ⟨by rw [g.ar 109 (by decide) (by decide)]; exact w1, by rw [g.ll 108 (by decide)]; exact w2⟩
  · obtain ⟨w1, w2⟩ := h.re i k hi hk
    exact ⟨by rw [g.ar 106 (by decide) (by decide)]; exact w1, by rw [g.ll 105 (by decide)]; exact w2⟩
/-- where a change's row stands: in the old answer, or else in the new one -/
def SRW (n : Nat) (u6 u7 : Int32) (L : List OV) (X : RS) : Prop := (∃ i, u6 = nI i ∧ n * i + n ≤ 4800 ∧ i < 1000 ∧ ∀ k, k < n → CEL 108 109 X (n * i + k) (L.getD k none)) ∨ (u6 = -1 ∧ ∃ j, u7 = nI j ∧ n * j + n ≤ 4800 ∧ j < 1000 ∧ ∀ k, k < n → CEL 105 106 X (n * j + k) (L.getD k none))
theorem out_L {F n c : Nat} {L : List OV} {rc4 : RS → Int32 → Int32 → Int32 → Option RS} {u1 u2 u3 u6 u7 : Int32} {X : RS} (hn : n ≤ 8) (hc : c < 1300) (c1 : X.1 101 = nI n) (c0 : X.1 110 = nI c) (sr : SRW n u6 u7 L X) : ∀ (d k u : Nat) (Y : RS), n = k + d → d < u → DIF X Y → Y.1 110 = nI c → (∀ t, t < k → CEL 112 113 Y (n * c + t) (L.getD t none)) → ∃ Z, m_differ_L169 F rc4 u Y u1 u2 u3 u6 u7 (nI k) = rc4 (setF Z 110 (nI (c + 1))) u1 u2 u3 ∧ DIF X Z ∧ (∀ t, t < n → CEL 112 113 Z (n * c + t) (L.getD t none)) ∧ (∀ j x, ¬ (n * c ≤ j ∧ j < n * c + n) → CEL 112 113 Y j x → CEL 112 113 Z j x) ∧ Z.2.2.1 111 = Y.2.2.1 111 := by
  have ic : n * c + n ≤ 10400 := by
    have q1 : n * (c + 1) ≤ 8 * 1300 := Nat.mul_le_mul hn (by omega)
    rw [Nat.mul_succ] at q1
    omega
  intro d
  induction d with
  | zero =>
    intro k u Y d1 d2 hx h0 hv
    obtain ⟨u, rfl⟩ : ∃ z, u = z + 1 := ⟨u - 1, by omega⟩
    rw [m_differ_L169, hx.f1 101 (by decide), c1, if_pos (nI_le (by omega) (by omega)), h0, nI_1]
    exact ⟨Y, rfl, hx, fun t ht => hv t (by omega), fun _ _ _ w => w, rfl⟩
  | succ d ih =>
    intro k u Y d1 d2 hx h0 hv
    obtain ⟨u, rfl⟩ : ∃ z, u = z + 1 := ⟨u - 1, by omega⟩
    obtain ⟨p, hp⟩ : ∃ z, z = n * c + k := ⟨_, rfl⟩
    obtain ⟨x, hxx⟩ : ∃ z, z = L.getD k none := ⟨_, rfl⟩
    obtain ⟨Y1, hY1⟩ : ∃ z, z = setL Y 112 p (vl x) := ⟨_, rfl⟩
    obtain ⟨Y2, hY2⟩ : ∃ z, z = setI Y1 113 p (fl x) := ⟨_, rfl⟩
    have f1 : DIF Y Y1 := by
      rw [hY1]
      exact ⟨rfl, fun _ _ => rfl, fun _ _ _ => rfl, fun q q1 => funext (fun j => sLl_n (fun w => q1 w.1))⟩
    have f2 : DIF Y1 Y2 := by
      rw [hY2]
      exact ⟨rfl, fun _ _ => rfl, fun q _ q1 => funext (fun j => sIa_n (fun w => q1 w.1)), fun _ _ => rfl⟩
    have s1 := cel_st (a := 112) (b := 113) (i := p) (X := Y) (x := x)
    rw [← hY1, ← hY2] at s1
    have o11 : Y2.2.2.1 111 = Y.2.2.1 111 := by
      rw [hY2]
      refine funext (fun j => ?_)
      rw [sIa_n (fun w => by omega), hY1]
      rfl
    obtain ⟨Z, g1, g2, g3, g4, g5⟩ := ih (k + 1) u Y2 (by omega) (by omega) ((hx.trans f1).trans f2) (by rw [hY2, hY1]; exact h0) (fun t ht => by
      by_cases q : t = k
      · rw [q, ← hp, ← hxx]
        exact s1.1
      · exact s1.2 _ _ (by omega) (hv t (by omega)))
    refine ⟨Z, Eq.trans ?_ g1, g2, g3, fun j y hj w => g4 j y hj (s1.2 _ _ (by omega) w), g5.trans o11⟩
    have d1' : Y.1 101 = nI n := by rw [hx.f1 101 (by decide)]; exact c1
    have d2' : Y1.1 101 = nI n := by rw [hY1]; exact d1'
    have fin : m_differ_b283 F rc4 (m_differ_L169 F rc4 u) Y1 u1 u2 u3 u6 u7 (nI k) (fl x) (nI p) = m_differ_L169 F rc4 u Y2 u1 u2 u3 u6 u7 (nI (k + 1)) := by
      unfold m_differ_b283
      rw [nar_b (fl_01 _), wrI_n (by omega) (by decide), ob_s, nI_1, ← hY2]
    rw [m_differ_L169, d1', if_neg (nI_ge (by omega) (by omega)), h0, pk_mul, nI_add, ← hp]
    unfold m_differ_b237
    rcases sr with ⟨i, i1, i2, i3, i4⟩ | ⟨i0, j, i1, i2, i3, i4⟩
    · obtain ⟨w1, w2⟩ := i4 k (by omega)
      rw [← hxx] at w1 w2
      rw [if_neg (by rw [i1]; exact nI_nm1 (by omega)), i1, pk_mul, nI_add, rdL_n (by omega) (by decide), ob_s, hx.ll 108 (by decide), w2, wrL_n (by omega) (by decide), ob_s, ← hY1, if_neg (nI_nm1 (by omega)), d2', pk_mul, nI_add, rdI_n (by omega) (by decide), ob_s, (hx.trans f1).ar 109 (by decide) (by decide), w1, ← i1]
      exact fin
    · obtain ⟨w1, w2⟩ := i4 k (by omega)
      rw [← hxx] at w1 w2
      rw [if_pos i0, i1, pk_mul, nI_add, rdL_n (by omega) (by decide), ob_s, hx.ll 105 (by decide), w2, wrL_n (by omega) (by decide), ob_s, ← hY1, if_pos i0, d2', pk_mul, nI_add, rdI_n (by omega) (by decide), ob_s, (hx.trans f1).ar 106 (by decide) (by decide), w1, ← i1]
      exact fin
theorem out_ok {F n : Nat} {L : List OV} {C : CHT} {rc4 : RS → Int32 → Int32 → Int32 → Option RS} {u1 u2 u3 v u6 u7 : Int32} {X : RS} (hF : 10000 ≤ F) (hn : n ≤ 8) (hc : C.length < 1300) (c1 : X.1 101 = nI n) (h : CHS n C X) (sr : SRW n u6 u7 L X) : ∃ Z, m_differ_b155 F rc4 X u1 u2 u3 v u6 u7 = rc4 Z u1 u2 u3 ∧ DIF X Z ∧ CHS n (C ++ [(L, v)]) Z := by
  obtain ⟨X1, hX1⟩ : ∃ z, z = setI X 111 C.length v := ⟨_, rfl⟩
  have f1 : DIF X X1 := by
    rw [hX1]
    exact ⟨rfl, fun _ _ => rfl, fun q q1 _ => funext (fun j => sIa_n (fun w => q1 w.1)), fun _ _ => rfl⟩
  have sr1 : SRW n u6 u7 L X1 := by
    rcases sr with ⟨i, i1, i2, i3, i4⟩ | ⟨i0, j, i1, i2, i3, i4⟩
    · refine Or.inl ⟨i, i1, i2, i3, fun k hk => ?_⟩
      obtain ⟨w1, w2⟩ := i4 k hk
      exact ⟨by rw [f1.ar 109 (by decide) (by decide)]; exact w1, by rw [f1.ll 108 (by decide)]; exact w2⟩
    · refine Or.inr ⟨i0, j, i1, i2, i3, fun k hk => ?_⟩
      obtain ⟨w1, w2⟩ := i4 k hk
      exact ⟨by rw [f1.ar 106 (by decide) (by decide)]; exact w1, by rw [f1.ll 105 (by decide)]; exact w2⟩
  have c0 : X1.1 110 = nI C.length := by rw [hX1]; exact h.c0
  obtain ⟨Z, g1, g2, g3, g4, g5⟩ := out_L (F := F) (c := C.length) (rc4 := rc4) (u1 := u1) (u2 := u2) (u3 := u3) hn hc (by rw [f1.f1 101 (by decide)]; exact c1) c0 sr1 n 0 F X1 (by omega) (by omega) DIF.refl c0 (fun t ht => absurd ht (by omega))
  have lc : (C ++ [(L, v)]).length = C.length + 1 := by rw [List.length_append]; rfl
  refine ⟨setF Z 110 (nI (C.length + 1)), ?_, (f1.trans g2).trans ⟨rfl, fun q hq => sF_n hq, fun _ _ _ => rfl, fun _ _ => rfl⟩, ⟨?_, fun t ht => ?_, fun i k hi hk => ?_⟩⟩
  · unfold m_differ_b155
    rw [h.c0, wrI_n (by omega) (by decide), ob_s, ← hX1]
    exact g1
  · rw [sF_s, lc]
  · show Z.2.2.1 111 t = _
    rw [g5, hX1]
    rw [lc] at ht
    by_cases q : t = C.length
    · rw [q, sIa_s, List.getD_eq_getElem?_getD, List.getElem?_concat_length]
      rfl
    · rw [sIa_n (fun w => q w.2), h.by' t (by omega), List.getD_eq_getElem?_getD, List.getD_eq_getElem?_getD, List.getElem?_append_left (by omega)]
  · rw [List.length_map, lc] at hi
    show CEL 112 113 Z (n * i + k) _
    by_cases q : i = C.length
    · have e : ((C ++ [(L, v)]).map (fun z => z.1)).getD i [] = L := by
        rw [List.map_append, q, List.getD_eq_getElem?_getD, List.getElem?_append_right (by rw [List.length_map]; exact Nat.le_refl _), List.length_map, Nat.sub_self]
        rfl
      rw [e, q]
      exact g3 k hk
    · have e : ((C ++ [(L, v)]).map (fun z => z.1)).getD i [] = (C.map (fun z => z.1)).getD i [] := by
        rw [List.map_append, List.getD_eq_getElem?_getD, List.getD_eq_getElem?_getD, List.getElem?_append_left (by rw [List.length_map]; omega)]
      rw [e]
      have q2 : n * (i + 1) ≤ n * C.length := Nat.mul_le_mul_left n (by omega)
      rw [Nat.mul_succ] at q2
      obtain ⟨w1, w2⟩ := h.rw' i k (by rw [List.length_map]; omega) hk
      refine g4 _ _ (by omega) ⟨?_, ?_⟩
      · rw [hX1, sIa_n (fun w => by omega)]
        exact w1
      · rw [hX1]
        exact w2

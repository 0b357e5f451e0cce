/-! rows on the class's strips, and how they compare -/
def rwC (cs : CS) (ar p w : Nat) : List OV := (List.range w).map (fun k => sv cs ar (p + k))
def rwsC (cs : CS) (ar p w m : Nat) : LL := (List.range m).map (fun i => rwC cs ar (p + i * w) w)
theorem rwC_eq {a b : CS} {ar q p w : Nat} (h : ∀ k, k < w → sv b ar (p + k) = sv a ar (q + k)) : rwC b ar p w = rwC a ar q w := by
  unfold rwC
  exact List.map_congr_left (fun k hk => h k (List.mem_range.mp hk))
theorem rwC_len {cs : CS} {ar p w : Nat} : (rwC cs ar p w).length = w := by
  unfold rwC
  rw [List.length_map, List.length_range]
theorem rwsC_len {cs : CS} {ar p w m : Nat} : (rwsC cs ar p w m).length = m := by
  unfold rwsC
  rw [List.length_map, List.length_range]
theorem rwC_get {cs : CS} {ar p w k : Nat} (h : k < w) : (rwC cs ar p w).getD k none = sv cs ar (p + k) := by
  unfold rwC
  rw [List.getD_eq_getElem?_getD, List.getElem?_map, List.getElem?_range h]
  rfl
theorem rwsC_succ {cs : CS} {ar p w m : Nat} : rwsC cs ar p w (m + 1) = rwsC cs ar p w m ++ [rwC cs ar (p + m * w) w] := by
  unfold rwsC
  rw [List.range_succ, List.map_append]
  rfl
theorem rwsC_get {cs : CS} {ar p w m i : Nat} (h : i < m) : (rwsC cs ar p w m).getD i [] = rwC cs ar (p + i * w) w := by
  unfold rwsC
  rw [List.getD_eq_getElem?_getD, List.getElem?_map, List.getElem?_range h]
  rfl
theorem rwC_add {cs : CS} {ar p n m : Nat} : rwC cs ar p (n + m) = rwC cs ar p n ++ rwC cs ar (p + n) m := by
  unfold rwC
  induction m with
  | zero => rw [Nat.add_zero, List.range_zero, List.map_nil, List.append_nil]
  | succ m ih =>
    rw [← Nat.add_assoc, List.range_succ, List.map_append, ih, List.range_succ, List.map_append, List.append_assoc]
    show _ ++ (_ ++ [sv cs ar (p + (n + m))]) = _ ++ (_ ++ [sv cs ar (p + n + m)])
    rw [Nat.add_assoc p n m]
/-- rows that stand on a strip from cell p on -/
def RWS (ar p w : Nat) (rows : LL) (cs : CS) : Prop := (p + rows.length * w ≤ kL cs 288 ar) ∧ (rwsC cs ar p w rows.length = rows)
theorem RWS.bd {ar p w : Nat} {rows : LL} {cs : CS} (h : RWS ar p w rows cs) : p + rows.length * w ≤ kL cs 288 ar := h.1
theorem RWS.eq {ar p w : Nat} {rows : LL} {cs : CS} (h : RWS ar p w rows cs) : rwsC cs ar p w rows.length = rows := h.2
theorem in_row {m i w k p : Nat} (hi : i < m) (hk : k < w) : p + i * w + k < p + m * w ∧ p + i * w + w ≤ p + m * w := by
  have h1 : (i + 1) * w ≤ m * w := Nat.mul_le_mul_right w hi
  have h2 : (i + 1) * w = i * w + w := Nat.succ_mul i w
  omega
theorem row_le {m i w p : Nat} (hi : i < m) : p + i * w + w ≤ p + m * w := by
  have h1 : (i + 1) * w ≤ m * w := Nat.mul_le_mul_right w hi
  have h2 : (i + 1) * w = i * w + w := Nat.succ_mul i w
  omega
theorem rwsC_eq {a b : CS} {ar p w m : Nat} (e : ∀ i, p ≤ i → i < p + m * w → sv b ar i = sv a ar i) : rwsC b ar p w m = rwsC a ar p w m := by
  unfold rwsC
  refine List.map_congr_left (fun i hi => rwC_eq (fun k hk => e _ (by omega) ?_))
  exact (in_row (List.mem_range.mp hi) hk).1
theorem RWS.mv {ar p w : Nat} {rows : LL} {a b : CS} (h : RWS ar p w rows a) (ln : kL a 288 ar ≤ kL b 288 ar) (e : ∀ i, p ≤ i → i < p + rows.length * w → sv b ar i = sv a ar i) : RWS ar p w rows b := ⟨Nat.le_trans h.bd ln, (rwsC_eq e).trans h.eq⟩
theorem RWS.stf {c ar p w m : Nat} {rows : LL} {a b : CS} (h : RWS ar p w rows a) (f : STF c ar m a b) (hm : p + rows.length * w ≤ m) : RWS ar p w rows b := h.mv f.ln (fun i _ h2 => f.ce i (by omega) (Nat.lt_of_lt_of_le h2 h.bd))
theorem RWS.row {ar p w i : Nat} {rows : LL} {cs : CS} (h : RWS ar p w rows cs) (hi : i < rows.length) : rwC cs ar (p + i * w) w = rows.getD i [] := by
  have e := rwsC_get (cs := cs) (ar := ar) (p := p) (w := w) hi
  rw [h.eq] at e
  exact e.symm
theorem RWS.nil {ar p w : Nat} {cs : CS} (h : p ≤ kL cs 288 ar) : RWS ar p w [] cs := ⟨by rw [List.length_nil]; omega, rfl⟩
theorem RWS.snoc {ar p w : Nat} {rows : LL} {cs : CS} {L : List OV} (h : RWS ar p w rows cs) (hb : p + rows.length * w + w ≤ kL cs 288 ar) (e : rwC cs ar (p + rows.length * w) w = L) : RWS ar p w (rows ++ [L]) cs := by
  have hl : (rows ++ [L]).length = rows.length + 1 := by rw [List.length_append]; rfl
  refine ⟨by rw [hl, Nat.succ_mul]; omega, ?_⟩
  rw [hl, rwsC_succ, h.eq, e]
theorem RWS.wd {ar p w : Nat} {rows : LL} {cs : CS} (h : RWS ar p w rows cs) : ∀ L, L ∈ rows → L.length = w := fun L hL => by
  rw [← h.eq] at hL
  unfold rwsC at hL
  obtain ⟨i, -, e⟩ := List.mem_map.mp hL
  rw [← e]
  exact rwC_len
/-- rows given cell by cell -/
theorem RWS.of {ar p w m : Nat} {cs : CS} (hb : p + m * w ≤ kL cs 288 ar) : RWS ar p w (rwsC cs ar p w m) cs := ⟨by rw [rwsC_len]; exact hb, by rw [rwsC_len]⟩
/-- rows moved as one piece -/
theorem RWS.cp {ar p q w : Nat} {rows : LL} {a b : CS} (h : RWS ar p w rows a) (hb : q + rows.length * w ≤ kL b 288 ar) (e : ∀ k, k < rows.length * w → sv b ar (q + k) = sv a ar (p + k)) : RWS ar q w rows b := by
  refine ⟨hb, Eq.trans ?_ h.eq⟩
  unfold rwsC
  refine List.map_congr_left (fun i hi => rwC_eq (fun k hk => ?_))
  have := (in_row (p := 0) (List.mem_range.mp hi) hk).1
  rw [Nat.add_assoc, Nat.add_assoc]
  exact e _ (by omega)
/-- how cells compare, the other way where a mark stands -/
def dnB (down : Int32) (i : Nat) : Bool := decide (i < 8) && decide (¬ ((down >>> (nI i &&& 31)) &&& 1) = 0)
def kdI (dn : Nat → Bool) : Nat → List OV → List Int
  | _, [] => []
  | i, x :: l => (if dn i = true then -ovk x else ovk x) :: kdI dn (i + 1) l
theorem kdI_inj {dn : Nat → Bool} : ∀ (i : Nat) (x y : List OV), kdI dn i x = kdI dn i y → x = y
  | _, [], [], _ => rfl
  | _, [], _ :: _, h => by cases h
  | _, _ :: _, [], h => by cases h
  | i, x :: xs, y :: ys, h => by
    have h1 := List.cons.inj h
    have e1 : x = y := by
      refine ovk_inj _ _ ?_
      have q := h1.1
      by_cases w : dn i = true
      · rw [if_pos w, if_pos w] at q
        omega
      · rw [if_neg w, if_neg w] at q
        exact q
    rw [e1, kdI_inj (i + 1) xs ys h1.2]
def cmD (dn : Nat → Bool) : Nat → List OV → List OV → Int32
  | _, [], _ => 0
  | _, _ :: _, [] => 0
  | i, x :: xs, y :: ys => if cmpO x y = 0 then cmD dn (i + 1) xs ys else if dn i = true then -(cmpO x y) else cmpO x y
theorem cmpO_3 (x y : OV) : cmpO x y = 0 ∨ cmpO x y = 1 ∨ cmpO x y = -1 := by
  cases x with
  | none =>
    cases y with
    | none => exact Or.inl rfl
    | some b => exact Or.inr (Or.inr rfl)
  | some a =>
    cases y with
    | none => exact Or.inr (Or.inl rfl)
    | some b =>
      show (if b ≤ a then (if a ≤ b then (0 : Int32) else 1) else -1) = 0 ∨ (if b ≤ a then (if a ≤ b then (0 : Int32) else 1) else -1) = 1 ∨ (if b ≤ a then (if a ≤ b then (0 : Int32) else 1) else -1) = -1
      by_cases q1 : b ≤ a
      · rw [if_pos q1]
        by_cases q2 : a ≤ b
        · rw [if_pos q2]
          exact Or.inl rfl
        · rw [if_neg q2]
          exact Or.inr (Or.inl rfl)
      · rw [if_neg q1]
        exact Or.inr (Or.inr rfl)
theorem cmD_0 {dn : Nat → Bool} : ∀ (i : Nat) (a b : List OV), a.length = b.length → (cmD dn i a b = 0 ↔ a = b)
  | _, [], [], _ => ⟨fun _ => rfl, fun _ => rfl⟩
  | _, [], _ :: _, h => by cases h
  | _, _ :: _, [], h => by cases h
  | i, x :: xs, y :: ys, h => by
    show (if cmpO x y = 0 then cmD dn (i + 1) xs ys else if dn i = true then -(cmpO x y) else cmpO x y) = 0 ↔ _
    have ih := cmD_0 (dn := dn) (i + 1) xs ys (Nat.succ.inj h)
    by_cases q : cmpO x y = 0
    · rw [if_pos q, ih, cmpO_0.mp q]
      exact ⟨fun e => by rw [e], fun e => (List.cons.inj e).2⟩
    · rw [if_neg q]
      refine ⟨fun e => absurd e ?_, fun e => absurd (cmpO_0.mpr (List.cons.inj e).1) q⟩
      by_cases w : dn i = true
      · rw [if_pos w]
        rcases cmpO_3 x y with z | z | z
        · exact absurd z q
        · rw [z]; decide
        · rw [z]; decide
      · rw [if_neg w]
        exact q
theorem cmD_lex {dn : Nat → Bool} : ∀ (i : Nat) (a b : List OV), a.length = b.length → ((0 : Int32) ≤ cmD dn i a b ↔ lexI (kdI dn i a) (kdI dn i b) = false)
  | _, [], [], _ => ⟨fun _ => rfl, fun _ => show (0 : Int32) ≤ 0 by decide⟩
  | _, [], _ :: _, h => by cases h
  | _, _ :: _, [], h => by cases h
  | i, x :: xs, y :: ys, h => by
    have ih := cmD_lex (dn := dn) (i + 1) xs ys (Nat.succ.inj h)
    show (0 : Int32) ≤ (if cmpO x y = 0 then cmD dn (i + 1) xs ys else if dn i = true then -(cmpO x y) else cmpO x y) ↔ (if (if dn i = true then -ovk x else ovk x) = (if dn i = true then -ovk y else ovk y) then lexI (kdI dn (i + 1) xs) (kdI dn (i + 1) ys) else decide ((if dn i = true then -ovk x else ovk x) < (if dn i = true then -ovk y else ovk y))) = false
    by_cases q : cmpO x y = 0
    · rw [if_pos q, cmpO_0.mp q, if_pos rfl, ih]
    · have q2 : ¬ ovk x = ovk y := fun w => q (cmpO_0.mpr (ovk_inj _ _ w))
      have l1 := cmpO_le (x := x) (y := y)
      rw [if_neg q]
      by_cases w : dn i = true
      · rw [if_pos w, if_pos w, if_pos w, if_neg (by omega)]
        have l2 : (0 : Int32) ≤ -(cmpO x y) ↔ ¬ (0 : Int32) ≤ cmpO x y := by
          rcases cmpO_3 x y with z | z | z
          · exact absurd z q
          · rw [z]; decide
          · rw [z]; decide
        rw [l2, l1]
        exact ⟨fun w => decide_eq_false (by omega), fun w => by have := of_decide_eq_false w; omega⟩
      · rw [if_neg w, if_neg w, if_neg w, if_neg q2, l1]
        exact ⟨fun w => decide_eq_false (by omega), fun w => by have := of_decide_eq_false w; omega⟩
theorem cell_c {F : Nat} {cs : CS} {v1 v2 : Int64} {b1 b2 : Int32} {x y : OV} {G : Int32 → Option Int32} (h1 : CV v1 b1 x) (h2 : CV v2 b2 y) : (if b2 - b1 = 0 then (Option.bind (c_J13_compare_74951 F cs v1 v2) fun v => G v) else G (b2 - b1)) = G (cmpO x y) := by
  unfold c_J13_compare_74951 c_J13_compare_74951_b21
  rcases h1 with ⟨p1, p2⟩ | ⟨p1, p3, p2⟩
  · rcases h2 with ⟨q1, q2⟩ | ⟨q1, q3, q2⟩
    · rw [p1, q1, p2, q2, if_pos (show (0 : Int32) - 0 = 0 by decide)]
      show _ = G (if v2 ≤ v1 then (if v1 ≤ v2 then 0 else 1) else -1)
      by_cases z1 : v2 ≤ v1
      · rw [if_pos z1, if_pos z1]
        by_cases z2 : v1 = v2
        · rw [if_pos z2, if_pos (by rw [z2]; exact Int64.le_refl _), ob_s]
        · rw [if_neg z2, if_neg (fun w => z2 (Int64.le_antisymm w z1)), ob_s]
      · rw [if_neg z1, if_neg z1, ob_s]
    · rw [p1, q1, p2, q2, if_neg (show ¬ (1 : Int32) - 0 = 0 by decide)]
      rfl
  · rcases h2 with ⟨q1, q2⟩ | ⟨q1, q3, q2⟩
    · rw [p1, q1, p2, q2, if_neg (show ¬ (0 : Int32) - 1 = 0 by decide)]
      rfl
    · rw [p1, q1, p2, q2, p3, q3, if_pos (show (1 : Int32) - 1 = 0 by decide), if_pos (Int64.le_refl _), if_pos rfl, ob_s]
      rfl
theorem sv_cv {ar n i : Nat} {cs : CS} (h : STR ar n cs) (hi : i < n) : CV (kB cs 288 ar i) (kA cs 289 ar i) (sv cs ar i) := by
  unfold sv
  rw [h.l8, if_pos hi]
  rcases h.nb i hi with q | ⟨q, q2⟩
  · rw [if_pos q]
    exact Or.inl ⟨q, rfl⟩
  · rw [if_neg (by rw [q]; decide)]
    exact Or.inr ⟨q, q2, rfl⟩
theorem cmpC_L {F a1 a2 n1 n2 p q w : Nat} {down : Int32} {cs : CS} (s1 : STR a1 n1 cs) (s2 : STR a2 n2 cs) (h1 : p + w ≤ n1) (h2 : q + w ≤ n2) : ∀ (d k u : Nat), w = k + d → d < u → c_X8_compareRows_L3 F cs u a1 (nI p) a2 (nI q) (nI w) down (nI k) = some (cmD (dnB down) k ((List.range' k d).map (fun k => sv cs a1 (p + k))) ((List.range' k d).map (fun k => sv cs a2 (q + k)))) := by
  have m1 := s1.n2
  have m2 := s2.n2
  obtain ⟨j1, hj1⟩ := s1.p8
  obtain ⟨i1, hi1⟩ := s1.p9
  obtain ⟨j2, hj2⟩ := s2.p8
  obtain ⟨i2, hi2⟩ := s2.p9
  intro d
  induction d with
  | zero =>
    intro k u d1 d2
    obtain ⟨u, rfl⟩ : ∃ z, u = z + 1 := ⟨u - 1, by omega⟩
    rw [c_X8_compareRows_L3, if_pos (nI_le (by omega) (by omega))]
    rfl
  | succ d ih =>
    intro k u d1 d2
    obtain ⟨u, rfl⟩ : ∃ z, u = z + 1 := ⟨u - 1, by omega⟩
    rw [c_X8_compareRows_L3, if_neg (nI_ge (by omega) (by omega)), ckE_ok s1.o, ob_s, nI_add, holds_y s1 (by omega), ob_s, if_neg (show ¬ (1 : Int32) = 0 by decide), ckE_ok s2.o, ob_s, nI_add, holds_y s2 (by omega), ob_s, if_neg (show ¬ (1 : Int32) = 0 by decide)]
    rw [gA_ok s2.o, hi2, ob_s, rA_n s2.e9 hi2 (by rw [s2.l9]; omega) (by rw [s2.l9]; omega), ob_s, gA_ok s1.o, hi1, ob_s, rA_n s1.e9 hi1 (by rw [s1.l9]; omega) (by rw [s1.l9]; omega), ob_s]
    rw [gA_ok s1.o, hj1, ob_s, rB_n s1.e8 hj1 (by rw [s1.l8]; omega) (by rw [s1.l8]; omega), ob_s, gA_ok s2.o, hj2, ob_s, rB_n s2.e8 hj2 (by rw [s2.l8]; omega) (by rw [s2.l8]; omega), ob_s]
    rw [cell_c (sv_cv s1 (by omega)) (sv_cv s2 (by omega))]
    show c_X8_compareRows_b83 F cs (c_X8_compareRows_L3 F cs u) a1 (nI p) a2 (nI q) (nI w) down (nI k) (cmpO (sv cs a1 (p + k)) (sv cs a2 (q + k))) = some (if cmpO (sv cs a1 (p + k)) (sv cs a2 (q + k)) = 0 then cmD (dnB down) (k + 1) ((List.range' (k + 1) d).map (fun k => sv cs a1 (p + k))) ((List.range' (k + 1) d).map (fun k => sv cs a2 (q + k))) else if dnB down k = true then -(cmpO (sv cs a1 (p + k)) (sv cs a2 (q + k))) else cmpO (sv cs a1 (p + k)) (sv cs a2 (q + k)))
    unfold c_X8_compareRows_b83 c_X8_compareRows_b111 c_X8_compareRows_b113
    by_cases z : cmpO (sv cs a1 (p + k)) (sv cs a2 (q + k)) = 0
    · rw [if_pos z, if_pos z, nI_1, ih (k + 1) u (by omega) (by omega)]
    · rw [if_neg z, if_neg z]
      unfold dnB
      by_cases y : k < 8
      · rw [if_neg (show ¬ (8 : Int32) ≤ nI k from nI_ge (a := k) (b := 8) y (by omega)), decide_eq_true y, Bool.true_and]
        by_cases x : ((down >>> (nI k &&& 31)) &&& 1) = 0
        · rw [if_pos x, if_neg (by rw [decide_eq_false (fun g => g x)]; decide)]
        · rw [if_neg x, if_pos (decide_eq_true x)]
      · rw [if_pos (show (8 : Int32) ≤ nI k from nI_le (a := 8) (b := k) (by omega) (by omega)), decide_eq_false y, Bool.false_and, if_neg (by decide)]
theorem cmpC_ok {F a1 a2 n1 n2 p q w : Nat} {down : Int32} {cs : CS} (hF : 10000 ≤ F) (s1 : STR a1 n1 cs) (s2 : STR a2 n2 cs) (hw : w ≤ 100) (h1 : p + w ≤ n1) (h2 : q + w ≤ n2) : c_X8_compareRows F cs a1 (nI p) a2 (nI q) (nI w) down = some (cmD (dnB down) 0 (rwC cs a1 p w) (rwC cs a2 q w)) := by
  unfold rwC
  rw [List.range_eq_range']
  exact cmpC_L s1 s2 h1 h2 w 0 F (by omega) (by omega)

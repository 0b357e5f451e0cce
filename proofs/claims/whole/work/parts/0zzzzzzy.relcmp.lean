/-! the reference's relations: copying, comparing -/
theorem sLl_s {rs : RS} {k i : Nat} {v : Int64} : (setL rs k i v).2.2.2 k i = v := by
  show (if k = k then vp_updL (rs.2.2.2 k) i v else rs.2.2.2 k) i = v
  rw [if_pos rfl]
  exact if_pos rfl
theorem sLl_n {rs : RS} {a x k j : Nat} {v : Int64} (h : ¬ (k = a ∧ j = x)) : (setL rs a x v).2.2.2 k j = rs.2.2.2 k j := by
  show (if k = a then vp_updL (rs.2.2.2 a) x v else rs.2.2.2 k) j = rs.2.2.2 k j
  by_cases q : k = a
  · rw [if_pos q, q]
    exact if_neg (fun w => h ⟨q, w⟩)
  · rw [if_neg q]
/-- a cell laid -/
theorem cell_st {rs : RS} {i : Nat} {v : Int64} {b : Int32} {x : OV} (hx : (b = 0 ∧ x = some v) ∨ (b = 1 ∧ x = none)) : (∀ j, rc (setI (setL rs 85 i v) 86 i b) j = if j = i then x else rc rs j) := fun j => by
  unfold rc
  by_cases q : j = i
  · rw [if_pos q, q, sIa_s]
    rcases hx with ⟨q1, q2⟩ | ⟨q1, q2⟩
    · rw [if_pos q1, q2]
      show some ((setL rs 85 i v).2.2.2 85 i) = _
      rw [sLl_s]
    · rw [if_neg (by rw [q1]; decide), q2]
  · rw [if_neg q, sIa_n (by omega)]
    show (if rs.2.2.1 86 j = 0 then some ((setL rs 85 i v).2.2.2 85 j) else none) = _
    rw [sLl_n (by omega)]
theorem nar_b {v : Int32} (h : v = 0 ∨ v = 1) : vp_nar .boolean v = v := by
  rcases h with q | q <;> rw [q] <;> rfl
/-- only cells were written -/
def RCW (rs rs' : RS) : Prop := (rs'.1 = rs.1) ∧ (rs'.2.1 = rs.2.1) ∧ (∀ q, q ≠ 86 → rs'.2.2.1 q = rs.2.2.1 q) ∧ (∀ q, q ≠ 85 → rs'.2.2.2 q = rs.2.2.2 q) ∧ ((∀ i, rs.2.2.1 86 i = 0 ∨ rs.2.2.1 86 i = 1) → ∀ i, rs'.2.2.1 86 i = 0 ∨ rs'.2.2.1 86 i = 1)
theorem RCW.f1 {rs rs' : RS} (h : RCW rs rs') : rs'.1 = rs.1 := h.1
theorem RCW.wt {rs rs' : RS} (h : RCW rs rs') : rs'.2.1 = rs.2.1 := h.2.1
theorem RCW.a1 {rs rs' : RS} (h : RCW rs rs') : ∀ q, q ≠ 86 → rs'.2.2.1 q = rs.2.2.1 q := h.2.2.1
theorem RCW.l1 {rs rs' : RS} (h : RCW rs rs') : ∀ q, q ≠ 85 → rs'.2.2.2 q = rs.2.2.2 q := h.2.2.2.1
theorem RCW.fb {rs rs' : RS} (h : RCW rs rs') : (∀ i, rs.2.2.1 86 i = 0 ∨ rs.2.2.1 86 i = 1) → ∀ i, rs'.2.2.1 86 i = 0 ∨ rs'.2.2.1 86 i = 1 := h.2.2.2.2
theorem RCW.refl {rs : RS} : RCW rs rs := ⟨rfl, rfl, fun _ _ => rfl, fun _ _ => rfl, fun h => h⟩
theorem RCW.trans {a b d : RS} (h : RCW a b) (g : RCW b d) : RCW a d := ⟨g.f1.trans h.f1, g.wt.trans h.wt, fun q hq => (g.a1 q hq).trans (h.a1 q hq), fun q hq => (g.l1 q hq).trans (h.l1 q hq), fun w => g.fb (h.fb w)⟩
theorem RCW.st {rs : RS} {i : Nat} {v : Int64} {b : Int32} (hb : b = 0 ∨ b = 1) : RCW rs (setI (setL rs 85 i v) 86 i b) := by
  refine ⟨rfl, rfl, fun q hq => funext fun j => sIa_n (by omega), fun q hq => ?_, fun h j => ?_⟩
  · show (if q = 85 then vp_updL (rs.2.2.2 85) i v else rs.2.2.2 q) = rs.2.2.2 q
    rw [if_neg hq]
  · by_cases w : j = i
    · rw [w, sIa_s]; exact hb
    · rw [sIa_n (by omega)]; exact h j
theorem RCW.fr {a b : RS} (h : RCW a b) : FR rS a b := ⟨Or.inr h.wt, fun q hq => ⟨by rw [h.f1], h.a1 q (by unfold rS at hq; omega), h.l1 q (by unfold rS at hq; omega)⟩⟩
theorem RCW.rst {U N : Nat} {a b : RS} (h : RCW a b) (g : RST U N a) : RST U N b := ⟨by rw [h.f1]; exact g.u, by rw [h.f1]; exact g.n, g.u4, g.n4, h.fb g.fb⟩
theorem RCW.rln {r b w m : Nat} {x y : RS} (h : RCW x y) (g : RLN x r b w m) : RLN y r b w m := ⟨g.r4, by rw [h.a1 88 (by decide)]; exact g.b, by rw [h.a1 89 (by decide)]; exact g.m, by rw [h.a1 90 (by decide)]; exact g.w⟩
theorem copy_L {F fr to n : Nat} (h1 : fr + n ≤ 400000) (h2 : to + n ≤ 400000) (h3 : fr + n ≤ to) : ∀ (d k u : Nat) (rs : RS), n - k ≤ d → d < u → k ≤ n → (∀ i, rs.2.2.1 86 i = 0 ∨ rs.2.2.1 86 i = 1) → ∃ rs', m_copy_L3 F u rs (nI fr) (nI to) (nI n) (nI k) = some rs' ∧ RCW rs rs' ∧ (∀ i, rc rs' i = if to + k ≤ i ∧ i < to + n then rc rs (fr + (i - to)) else rc rs i) := by
  intro d
  induction d with
  | zero =>
    intro k u rs d1 d2 d3 fb
    obtain ⟨u, rfl⟩ : ∃ z, u = z + 1 := ⟨u - 1, by omega⟩
    refine ⟨rs, ?_, RCW.refl, fun i => by rw [if_neg (by omega)]⟩
    rw [m_copy_L3, if_pos (nI_le (by omega) (by omega))]
  | succ d ih =>
    intro k u rs d1 d2 d3 fb
    obtain ⟨u, rfl⟩ : ∃ z, u = z + 1 := ⟨u - 1, by omega⟩
    by_cases hk : n ≤ k
    · refine ⟨rs, ?_, RCW.refl, fun i => by rw [if_neg (by omega)]⟩
      rw [m_copy_L3, if_pos (nI_le (by omega) (by omega))]
    · obtain ⟨r1, hr1⟩ : ∃ x, x = setI (setL rs 85 (to + k) (rs.2.2.2 85 (fr + k))) 86 (to + k) (rs.2.2.1 86 (fr + k)) := ⟨_, rfl⟩
      have w1 : RCW rs r1 := by rw [hr1]; exact RCW.st (fb _)
      have c1 : ∀ j, rc r1 j = if j = to + k then rc rs (fr + k) else rc rs j := by
        rw [hr1]
        refine cell_st ?_
        unfold rc
        rcases fb (fr + k) with q | q
        · exact Or.inl ⟨q, if_pos q⟩
        · exact Or.inr ⟨q, if_neg (by rw [q]; decide)⟩
      obtain ⟨r2, e1, e2, e3⟩ := ih (k + 1) u r1 (by omega) (by omega) (by omega) (w1.fb fb)
      refine ⟨r2, ?_, w1.trans e2, fun i => ?_⟩
      · rw [m_copy_L3, if_neg (nI_ge (by omega) (by omega)), nI_add, rdL_n (by omega) (by decide), ob_s, nI_add, wrL_n (by omega) (by decide), ob_s, rdI_n (by omega) (by decide), ob_s, show (setL rs 85 (to + k) (rs.2.2.2 85 (fr + k))).2.2.1 86 (fr + k) = rs.2.2.1 86 (fr + k) from rfl, nar_b (fb _), wrI_n (by omega) (by decide), ob_s, ← hr1, nI_1]
        exact e1
      · rw [e3 i]
        by_cases q1 : to + (k + 1) ≤ i ∧ i < to + n
        · rw [if_pos q1, if_pos (by omega), c1, if_neg (by omega)]
        · rw [if_neg q1, c1]
          by_cases q2 : i = to + k
          · rw [if_pos q2, if_pos (by omega), q2, show to + k - to = k by omega]
          · rw [if_neg q2, if_neg (by omega)]
theorem copy_ok {F fr to n : Nat} {rs : RS} (hF : 10000 ≤ F) (hn : n ≤ 100) (h2 : to + n ≤ 400000) (h3 : fr + n ≤ to) (fb : ∀ i, rs.2.2.1 86 i = 0 ∨ rs.2.2.1 86 i = 1) : ∃ rs', m_copy F rs (nI fr) (nI to) (nI n) = some rs' ∧ RCW rs rs' ∧ (∀ i, i < to → rc rs' i = rc rs i) ∧ rowL rs' to n = rowL rs fr n ∧ (∀ i, to + n ≤ i → rc rs' i = rc rs i) := by
  obtain ⟨rs', e1, e2, e3⟩ := copy_L (F := F) (fr := fr) (to := to) (n := n) (by omega) h2 h3 n 0 F rs (by omega) (by omega) (Nat.zero_le _) fb
  refine ⟨rs', e1, e2, fun i hi => by rw [e3 i, if_neg (by omega)], ?_, fun i hi => by rw [e3 i, if_neg (by omega)]⟩
  unfold rowL
  refine List.map_congr_left (fun k hk => ?_)
  have := List.mem_range.mp hk
  rw [e3 (to + k), if_pos (by omega), show to + k - to = k by omega]
/-- how two values stand -/
def cmpO (x y : OV) : Int32 := match x with
  | none => (match y with
    | none => 0
    | some _ => -1)
  | some a => (match y with
    | none => 1
    | some b => if b ≤ a then (if a ≤ b then 0 else 1) else -1)
theorem cmp_ok {F i j : Nat} {rs : RS} : m_compare F rs (rs.2.2.2 85 i) (rs.2.2.1 86 i) (rs.2.2.2 85 j) (rs.2.2.1 86 j) = some (cmpO (rc rs i) (rc rs j)) := by
  by_cases q1 : rs.2.2.1 86 i = 0
  · have ri : rc rs i = some (rs.2.2.2 85 i) := if_pos q1
    by_cases q2 : rs.2.2.1 86 j = 0
    · have rj : rc rs j = some (rs.2.2.2 85 j) := if_pos q2
      rw [ri, rj]
      unfold m_compare m_compare_b49
      rw [if_pos q1, if_pos q2]
      show _ = some (if rs.2.2.2 85 j ≤ rs.2.2.2 85 i then (if rs.2.2.2 85 i ≤ rs.2.2.2 85 j then (0 : Int32) else 1) else -1)
      by_cases q3 : rs.2.2.2 85 j ≤ rs.2.2.2 85 i
      · rw [if_pos q3, if_pos q3]
        by_cases q4 : rs.2.2.2 85 i ≤ rs.2.2.2 85 j
        · rw [if_pos q4, if_pos q4]
        · rw [if_neg q4, if_neg q4]
      · rw [if_neg q3, if_neg q3]
    · have rj : rc rs j = none := if_neg q2
      rw [ri, rj]
      unfold m_compare m_compare_b9 m_compare_b27
      rw [if_pos q1, if_neg q2, if_pos q1]
      rfl
  · have ri : rc rs i = none := if_neg q1
    rw [ri]
    unfold m_compare m_compare_b9 m_compare_b27
    rw [if_neg q1, if_neg q1]
    by_cases q2 : rs.2.2.1 86 j = 0
    · have rj : rc rs j = some (rs.2.2.2 85 j) := if_pos q2
      rw [rj, if_pos q2]
      rfl
    · have rj : rc rs j = none := if_neg q2
      rw [rj, if_neg q2]
      rfl
theorem cmpO_0 {x y : OV} : cmpO x y = 0 ↔ x = y := by
  cases x with
  | none =>
    cases y with
    | none => exact ⟨fun _ => rfl, fun _ => rfl⟩
    | some b => exact ⟨fun h => absurd h (show ¬ (-1 : Int32) = 0 by decide), fun h => by cases h⟩
  | some a =>
    cases y with
    | none => exact ⟨fun h => absurd h (show ¬ (1 : Int32) = 0 by decide), fun h => by cases h⟩
    | some b =>
      show (if b ≤ a then (if a ≤ b then (0 : Int32) else 1) else -1) = 0 ↔ some a = some b
      by_cases q1 : b ≤ a
      · rw [if_pos q1]
        by_cases q2 : a ≤ b
        · rw [if_pos q2]
          exact ⟨fun _ => by rw [Int64.le_antisymm q2 q1], fun _ => rfl⟩
        · rw [if_neg q2]
          exact ⟨fun h => absurd h (by decide), fun h => absurd (by rw [Option.some.inj h]; exact Int64.le_refl _) q2⟩
      · rw [if_neg q1]
        exact ⟨fun h => absurd h (by decide), fun h => absurd (by rw [Option.some.inj h]; exact Int64.le_refl _) q1⟩
def cmpL : List OV → List OV → Int32
  | [], _ => 0
  | _ :: _, [] => 0
  | x :: xs, y :: ys => if cmpO x y = 0 then cmpL xs ys else cmpO x y
theorem cmpL_0 : ∀ (a b : List OV), a.length = b.length → (cmpL a b = 0 ↔ a = b)
  | [], [], _ => ⟨fun _ => rfl, fun _ => rfl⟩
  | [], _ :: _, h => by cases h
  | _ :: _, [], h => by cases h
  | x :: xs, y :: ys, h => by
    show (if cmpO x y = 0 then cmpL xs ys else cmpO x y) = 0 ↔ _
    have ih := cmpL_0 xs ys (Nat.succ.inj h)
    by_cases q : cmpO x y = 0
    · rw [if_pos q, ih, cmpO_0.mp q]
      exact ⟨fun e => by rw [e], fun e => (List.cons.inj e).2⟩
    · rw [if_neg q]
      exact ⟨fun e => absurd e q, fun e => absurd (cmpO_0.mpr (List.cons.inj e).1) q⟩
theorem cmpR_L {F a b n : Nat} {rs : RS} (h1 : a + n ≤ 400000) (h2 : b + n ≤ 400000) : ∀ (d k u : Nat), n = k + d → d < u → m_compareRows_L3 F rs u (nI a) (nI b) (nI n) (nI k) = some (cmpL ((List.range' k d).map (fun k => rc rs (a + k))) ((List.range' k d).map (fun k => rc rs (b + k)))) := by
  intro d
  induction d with
  | zero =>
    intro k u d1 d2
    obtain ⟨u, rfl⟩ : ∃ z, u = z + 1 := ⟨u - 1, by omega⟩
    rw [m_compareRows_L3, if_pos (nI_le (by omega) (by omega))]
    rfl
  | succ d ih =>
    intro k u d1 d2
    obtain ⟨u, rfl⟩ : ∃ z, u = z + 1 := ⟨u - 1, by omega⟩
    rw [m_compareRows_L3, if_neg (nI_ge (by omega) (by omega)), nI_add, nI_add, rdL_n (by omega) (by decide), ob_s, rdI_n (by omega) (by decide), ob_s, rdL_n (by omega) (by decide), ob_s, rdI_n (by omega) (by decide), ob_s, cmp_ok, ob_s, nI_1, ih (k + 1) u (by omega) (by omega)]
    show _ = some (if cmpO (rc rs (a + k)) (rc rs (b + k)) = 0 then cmpL ((List.range' (k + 1) d).map (fun k => rc rs (a + k))) ((List.range' (k + 1) d).map (fun k => rc rs (b + k))) else cmpO (rc rs (a + k)) (rc rs (b + k)))
    by_cases q : cmpO (rc rs (a + k)) (rc rs (b + k)) = 0
    · rw [if_pos q, if_pos q]
    · rw [if_neg q, if_neg q]
theorem cmpR_ok {F a b n : Nat} {rs : RS} (hF : 10000 ≤ F) (hn : n ≤ 100) (h1 : a + n ≤ 400000) (h2 : b + n ≤ 400000) : m_compareRows F rs (nI a) (nI b) (nI n) = some (cmpL (rowL rs a n) (rowL rs b n)) := by
  unfold rowL
  rw [List.range_eq_range']
  exact cmpR_L h1 h2 n 0 F (by omega) (by omega)
theorem has_L {F r b w m row : Nat} {rs : RS} (hF : 10000 ≤ F) (rl : RLN rs r b w m) (hw : w ≤ 100) (h2 : row + w ≤ 400000) : ∀ (d i u N : Nat), N = i + d → d < u → N ≤ m → b + m * w ≤ 400000 → m < 10000 → m_hasRow_L3 F rs u (nI r) (nI row) (nI N) (nI i) = some (if rowL rs row w ∈ (List.range' i d).map (fun i => rowL rs (b + i * w) w) then 1 else 0) := by
  intro d
  induction d with
  | zero =>
    intro i u N d1 d2 d3 d4 d5
    obtain ⟨u, rfl⟩ : ∃ z, u = z + 1 := ⟨u - 1, by omega⟩
    rw [m_hasRow_L3, if_pos (nI_le (by omega) (by omega))]
    rfl
  | succ d ih =>
    intro i u N d1 d2 d3 d4 d5
    obtain ⟨u, rfl⟩ : ∃ z, u = z + 1 := ⟨u - 1, by omega⟩
    have q : (i + 1) * w ≤ m * w := Nat.mul_le_mul_right w (by omega)
    rw [Nat.succ_mul] at q
    rw [m_hasRow_L3, if_neg (nI_ge (by omega) (by omega)), at_ok rl, ob_s, rdI_n rl.r4 (by decide), ob_s, rl.w, cmpR_ok hF hw (by omega) h2, ob_s, nI_1, ih (i + 1) u N (by omega) (by omega) d3 d4 d5]
    have e0 := cmpL_0 (rowL rs (b + i * w) w) (rowL rs row w) (by rw [rowL_len, rowL_len])
    show _ = some (if rowL rs row w ∈ rowL rs (b + i * w) w :: (List.range' (i + 1) d).map (fun i => rowL rs (b + i * w) w) then 1 else 0)
    by_cases z : cmpL (rowL rs (b + i * w) w) (rowL rs row w) = 0
    · rw [if_pos z, if_pos (by rw [e0.mp z]; exact List.mem_cons_self)]
    · rw [if_neg z]
      by_cases z2 : rowL rs row w ∈ (List.range' (i + 1) d).map (fun i => rowL rs (b + i * w) w)
      · rw [if_pos z2, if_pos (List.mem_cons_of_mem _ z2)]
      · rw [if_neg z2, if_neg (fun w => by
          rcases List.mem_cons.mp w with w1 | w1
          · exact z (e0.mpr w1.symm)
          · exact z2 w1)]
theorem has_ok {F r b w m row N : Nat} {rs : RS} (hF : 10000 ≤ F) (rl : RLN rs r b w m) (hw : w ≤ 100) (h2 : row + w ≤ 400000) (hN : N ≤ m) (hb : b + m * w ≤ 400000) (hm : m < 10000) : m_hasRow F rs (nI r) (nI row) (nI N) = some (if rowL rs row w ∈ rowsL rs b w N then 1 else 0) := by
  unfold rowsL
  rw [List.range_eq_range']
  exact has_L hF rl hw h2 N 0 F N (by omega) (by omega) hN hb hm

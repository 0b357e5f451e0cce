/-! the reference's relations: filter, once, sets -/
/-- what an operator on relations gives: the relation N, its rows -/
def ROP (U N w M : Nat) (rows : List (List OV)) (rs rs' : RS) : Prop := (rows.length ≤ M) ∧ (RST (U + rows.length * w) (N + 1) rs') ∧ (RLN rs' N U w rows.length) ∧ (rowsL rs' U w rows.length = rows) ∧ (RO U N rs rs') ∧ (∀ q, q ≠ 87 → q ≠ 91 → q ≠ 92 → q ≠ 93 → rs'.1 q = rs.1 q)
theorem ROP.len {U N w M : Nat} (rows : List (List OV)) {rs rs' : RS} (h : ROP U N w M rows rs rs') : rows.length ≤ M := h.1
theorem ROP.st {U N w M : Nat} (rows : List (List OV)) {rs rs' : RS} (h : ROP U N w M rows rs rs') : RST (U + rows.length * w) (N + 1) rs' := h.2.1
theorem ROP.rl {U N w M : Nat} (rows : List (List OV)) {rs rs' : RS} (h : ROP U N w M rows rs rs') : RLN rs' N U w rows.length := h.2.2.1
theorem ROP.rw' {U N w M : Nat} (rows : List (List OV)) {rs rs' : RS} (h : ROP U N w M rows rs rs') : rowsL rs' U w rows.length = rows := h.2.2.2.1
theorem ROP.ro {U N w M : Nat} (rows : List (List OV)) {rs rs' : RS} (h : ROP U N w M rows rs rs') : RO U N rs rs' := h.2.2.2.2.1
theorem ROP.f1 {U N w M : Nat} (rows : List (List OV)) {rs rs' : RS} (h : ROP U N w M rows rs rs') : ∀ q, q ≠ 87 → q ≠ 91 → q ≠ 92 → q ≠ 93 → rs'.1 q = rs.1 q := h.2.2.2.2.2
theorem OUR.len {U N w k : Nat} {rows : List (List OV)} {X : RS} (h : OUR U N w k rows X) : rows.length = k := by
  rw [← h.rw', rows_len]
theorem ROP.of {U N w M k : Nat} {rows : List (List OV)} {rs X Y : RS} (o : OUR U N w k rows Y) (hk : k ≤ M) (h1 : RO U N rs X) (h2 : RBF U N X Y) (g1 : ∀ q, q ≠ 91 → X.1 q = rs.1 q) : ROP U N w M rows rs Y := by
  have e := o.len
  exact ⟨by omega, by rw [e]; exact o.st, by rw [e]; exact o.rl, by rw [e]; exact o.rw', h1.trans h2.ro (Nat.le_refl _) (Nat.le_refl _), fun q a b c d => (h2.f1 q a c d).trans (g1 q b)⟩
theorem filt_ok {F U N w e r b m : Nat} {val : List OV → OV} {rs : RS} (hF : 10000 ≤ F) (hw : w ≤ 100) (hr : r < N) (hN : N < 400) (hb : b + m * w ≤ U) (hU : U + m * w ≤ 400000) (hm : m < 5000) (ex : EXV F w e val rs) (z97 : rs.1 97 = 0) (st : RST U N rs) (rl : RLN rs r b w m) : ∃ rs', m_filter F rs (nI r) (nI e) = some (rs', nI N) ∧ ROP U N w m ((rowsL rs b w m).filter (fun L => tr1 (val L) == 1)) rs rs' := by
  obtain ⟨X, e1, e2, e3, e4, e5, e6, e7⟩ := rel_ok (F := F) (w := w) st hN
  have rl1 : RLN X r b w m := ⟨rl.r4, by rw [e7 88 r (by omega)]; exact rl.b, by rw [e7 89 r (by omega)]; exact rl.m, by rw [e7 90 r (by omega)]; exact rl.w⟩
  have o : OUR U N w 0 [] X := ⟨by rw [Nat.zero_mul, Nat.add_zero]; exact e2, e4, rfl⟩
  obtain ⟨Y, k', b1, b2, b3, b4⟩ := filt_L (N := N) hF hw hr hb hU hm ex m 0 F 0 [] X (by omega) (by omega) (Nat.le_refl _) e3.fr ((e6 97 (by decide)).trans z97) (fun j _ => e5 j) rl1 o
  refine ⟨Y, ?_, ?_⟩
  · unfold m_filter
    rw [rdI_n rl.r4 (by decide), ob_s, rl.w, e1, ob_s]
    exact b1
  · have q : (rowsL rs b w m).filter (fun L => tr1 (val L) == 1) = [] ++ ((List.range' 0 m).map (fun i => rowL rs (b + i * w) w)).filter (fun L => tr1 (val L) == 1) := by
      rw [List.nil_append, ← List.range_eq_range']
      rfl
    rw [q]
    exact ROP.of b3 b2 e3 b4 e6
/-- rows once each, in their order -/
def stpO (acc : List (List OV)) (x : List OV) : List (List OV) := if x ∈ acc then acc else acc ++ [x]
theorem once_L {F U N w r b m : Nat} {rs : RS} (hF : 10000 ≤ F) (hw : w ≤ 100) (hN : r < N) (hb : b + m * w ≤ U) (hU : U + m * w ≤ 400000) (hm : m < 5000) : ∀ (d i u k : Nat) (rows : List (List OV)) (X : RS), m = i + d → d < u → k ≤ i → (∀ j, j < U → rc X j = rc rs j) → RLN X r b w m → OUR U N w k rows X → ∃ Y k', m_once_L13 F u X (nI r) (nI N) (nI i) = some (Y, nI N) ∧ k' ≤ m ∧ OUR U N w k' (((List.range' i d).map (fun i => rowL rs (b + i * w) w)).foldl stpO rows) Y ∧ RBF U N X Y := by
  intro d
  induction d with
  | zero =>
    intro i u k rows X d1 d2 d3 ce rl o
    obtain ⟨u, rfl⟩ : ∃ z, u = z + 1 := ⟨u - 1, by omega⟩
    refine ⟨X, k, ?_, by omega, o, RBF.refl⟩
    rw [m_once_L13, rdI_n rl.r4 (by decide), ob_s, rl.m, if_pos (nI_le (by omega) (by omega))]
  | succ d ih =>
    intro i u k rows X d1 d2 d3 ce rl o
    obtain ⟨u, rfl⟩ : ∃ z, u = z + 1 := ⟨u - 1, by omega⟩
    have q1 : (i + 1) * w ≤ m * w := Nat.mul_le_mul_right w (by omega)
    rw [Nat.succ_mul] at q1
    have q2 : (k + 1) * w ≤ m * w := Nat.mul_le_mul_right w (by omega)
    rw [Nat.succ_mul] at q2
    have rr : rowL X (b + i * w) w = rowL rs (b + i * w) w := rowL_eq ce (by omega)
    have hs := has_ok (F := F) (row := b + i * w) (N := k) hF o.rl hw (by omega) (Nat.le_refl _) (by omega) (by omega)
    rw [rr, o.rw'] at hs
    have head : ∀ G : Option (RS × Int32), (if rowL rs (b + i * w) w ∈ rows then (m_once_L13 F u X (nI r) (nI N) (nI (i + 1))) else (Option.bind (m_newRow F X (nI N)) fun z_8 => Option.bind (rdI (z_8.1.2.2.1 90) 400 (nI r)) fun v_9 => Option.bind (m_copy F z_8.1 (nI (b + i * w)) z_8.2 v_9) fun cs_10 => m_once_L13 F u cs_10 (nI r) (nI N) (nI (i + 1)))) = G → m_once_L13 F (u + 1) X (nI r) (nI N) (nI i) = G := fun G hG => by
      rw [m_once_L13, rdI_n rl.r4 (by decide), ob_s, rl.m, if_neg (nI_ge (by omega) (by omega)), at_ok rl, ob_s, ob_s, rdI_n o.rl.r4 (by decide), ob_s, o.rl.m, hs, ob_s]
      unfold m_once_b64
      rw [nI_1]
      by_cases z : rowL rs (b + i * w) w ∈ rows
      · rw [if_pos z] at hG
        rw [if_pos z, if_neg (by decide)]
        exact hG
      · rw [if_neg z] at hG
        rw [if_neg z, if_pos rfl]
        exact hG
    have lst : ((List.range' i (d + 1)).map (fun i => rowL rs (b + i * w) w)).foldl stpO rows = ((List.range' (i + 1) d).map (fun i => rowL rs (b + i * w) w)).foldl stpO (stpO rows (rowL rs (b + i * w) w)) := by
      rw [List.range'_succ, List.map_cons, List.foldl_cons]
    by_cases z : rowL rs (b + i * w) w ∈ rows
    · obtain ⟨Y, k', b1, b2, b3, b4⟩ := ih (i + 1) u k rows X (by omega) (by omega) (by omega) ce rl o
      refine ⟨Y, k', head _ (by rw [if_pos z]; exact b1), b2, ?_, b4⟩
      rw [lst, show stpO rows (rowL rs (b + i * w) w) = rows from if_pos z]
      exact b3
    · obtain ⟨X2, X3, a1, a2, a3, a4, a5⟩ := app_ok (F := F) (p := b + i * w) hF o hw (by omega) (by omega) (by omega)
      have f3 : RBF U N X X3 := ⟨a4.fr, fun j hj => a4.ce j (by omega), a4.f1, a4.ar⟩
      obtain ⟨Y, k', b1, b2, b3, b4⟩ := ih (i + 1) u (k + 1) _ X3 (by omega) (by omega) (by omega) (fun j hj => (f3.ce j hj).trans (ce j hj)) (f3.rln rl (by omega)) a3
      refine ⟨Y, k', head _ ?_, b2, ?_, f3.trans b4⟩
      · rw [if_neg z, a1, ob_s]
        show (Option.bind (rdI (X2.2.2.1 90) 400 (nI r)) fun v_9 => Option.bind (m_copy F X2 (nI (b + i * w)) (nI (U + k * w)) v_9) fun cs_10 => m_once_L13 F u cs_10 (nI r) (nI N) (nI (i + 1))) = _
        rw [rdI_n rl.r4 (by decide), ob_s, a5.ar 90 r (by decide) (by omega), rl.w, a2, ob_s]
        exact b1
      · rw [lst, show stpO rows (rowL rs (b + i * w) w) = rows ++ [rowL rs (b + i * w) w] from if_neg z]
        rw [rr] at b3
        exact b3
theorem once_ok {F U N w r b m : Nat} {rs : RS} (hF : 10000 ≤ F) (hw : w ≤ 100) (hr : r < N) (hN : N < 400) (hb : b + m * w ≤ U) (hU : U + m * w ≤ 400000) (hm : m < 5000) (st : RST U N rs) (rl : RLN rs r b w m) : ∃ rs', m_once F rs (nI r) = some (rs', nI N) ∧ ROP U N w m ((rowsL rs b w m).foldl stpO []) rs rs' := by
  obtain ⟨X, e1, e2, e3, e4, e5, e6, e7⟩ := rel_ok (F := F) (w := w) st hN
  have rl1 : RLN X r b w m := ⟨rl.r4, by rw [e7 88 r (by omega)]; exact rl.b, by rw [e7 89 r (by omega)]; exact rl.m, by rw [e7 90 r (by omega)]; exact rl.w⟩
  have o : OUR U N w 0 [] X := ⟨by rw [Nat.zero_mul, Nat.add_zero]; exact e2, e4, rfl⟩
  obtain ⟨Y, k', b1, b2, b3, b4⟩ := once_L (N := N) hF hw hr hb hU hm m 0 F 0 [] X (by omega) (by omega) (Nat.le_refl _) (fun j _ => e5 j) rl1 o
  refine ⟨Y, ?_, ?_⟩
  · unfold m_once
    rw [rdI_n rl.r4 (by decide), ob_s, rl.w, e1, ob_s]
    exact b1
  · rw [← List.range_eq_range'] at b3
    exact ROP.of b3 b2 e3 b4 e6
/-- sets: what a row of the left, then of the right, does -/
def stpS (what : Nat) (acc : List (List OV)) (x : List OV) : List (List OV) := if what = 1 then acc ++ [x] else stpO acc x
def kpS (what : Nat) (B : List (List OV)) (x : List OV) : Bool := what ≤ 2 || (if what = 4 then decide (x ∈ B) else !decide (x ∈ B))
def setA (what : Nat) (A B : List (List OV)) : List (List OV) := (A.filter (kpS what B)).foldl (stpS what) []
def setS (what : Nat) (A B : List (List OV)) : List (List OV) := if what ≤ 2 then B.foldl (stpS what) (setA what A B) else setA what A B
theorem setB_L {F U N w r b m what M : Nat} {rs : RS} (hF : 10000 ≤ F) (hw : w ≤ 100) (hN : r < N) (hb : b + m * w ≤ U) (hU : U + M * w ≤ 400000) (hm : m < 5000) (hM : M < 5000) (h12 : what = 1 ∨ what = 2) : ∀ (d i u k : Nat) (rows : List (List OV)) (X : RS), m = i + d → d < u → k + d ≤ M → (∀ j, j < U → rc X j = rc rs j) → RLN X r b w m → OUR U N w k rows X → ∃ Y k', m_setOf_L132 F u X (nI what) (nI r) (nI N) (nI w) (nI i) = some (Y, nI N) ∧ k' ≤ M ∧ OUR U N w k' (((List.range' i d).map (fun i => rowL rs (b + i * w) w)).foldl (stpS what) rows) Y ∧ RBF U N X Y := by
  intro d
  induction d with
  | zero =>
    intro i u k rows X d1 d2 d3 ce rl o
    obtain ⟨u, rfl⟩ : ∃ z, u = z + 1 := ⟨u - 1, by omega⟩
    refine ⟨X, k, ?_, by omega, o, RBF.refl⟩
    rw [m_setOf_L132, rdI_n rl.r4 (by decide), ob_s, rl.m, if_pos (nI_le (by omega) (by omega))]
    rfl
  | succ d ih =>
    intro i u k rows X d1 d2 d3 ce rl o
    obtain ⟨u, rfl⟩ : ∃ z, u = z + 1 := ⟨u - 1, by omega⟩
    have q1 : (i + 1) * w ≤ m * w := Nat.mul_le_mul_right w (by omega)
    rw [Nat.succ_mul] at q1
    have q2 : (k + 1) * w ≤ M * w := Nat.mul_le_mul_right w (by omega)
    rw [Nat.succ_mul] at q2
    have rr : rowL X (b + i * w) w = rowL rs (b + i * w) w := rowL_eq ce (by omega)
    have hs := has_ok (F := F) (row := b + i * w) (N := k) hF o.rl hw (by omega) (Nat.le_refl _) (by omega) (by omega)
    rw [rr, o.rw'] at hs
    have n2 : ¬ (2 : Int32) < nI what := fun w => by
      have := (nI_ltI (a := 2) (b := what) (by omega) (by omega)).mp w
      omega
    have lst : ((List.range' i (d + 1)).map (fun i => rowL rs (b + i * w) w)).foldl (stpS what) rows = ((List.range' (i + 1) d).map (fun i => rowL rs (b + i * w) w)).foldl (stpS what) (stpS what rows (rowL rs (b + i * w) w)) := by
      rw [List.range'_succ, List.map_cons, List.foldl_cons]
    have addc : stpS what rows (rowL rs (b + i * w) w) = rows ++ [rowL rs (b + i * w) w] → m_setOf_L132 F (u + 1) X (nI what) (nI r) (nI N) (nI w) (nI i) = m_setOf_b180 F (m_setOf_L132 F u) X (nI what) (nI r) (nI N) (nI w) (nI i) (nI (b + i * w)) → ∃ Y k', m_setOf_L132 F (u + 1) X (nI what) (nI r) (nI N) (nI w) (nI i) = some (Y, nI N) ∧ k' ≤ M ∧ OUR U N w k' (((List.range' i (d + 1)).map (fun i => rowL rs (b + i * w) w)).foldl (stpS what) rows) Y ∧ RBF U N X Y := fun hl hm' => by
      obtain ⟨X2, X3, a1, a2, a3, a4, a5⟩ := app_ok (F := F) (p := b + i * w) hF o hw (by omega) (by omega) (by omega)
      have f3 : RBF U N X X3 := ⟨a4.fr, fun j hj => a4.ce j (by omega), a4.f1, a4.ar⟩
      obtain ⟨Y, k', b1, b2, b3, b4⟩ := ih (i + 1) u (k + 1) _ X3 (by omega) (by omega) (by omega) (fun j hj => (f3.ce j hj).trans (ce j hj)) (f3.rln rl (by omega)) a3
      refine ⟨Y, k', ?_, b2, ?_, f3.trans b4⟩
      · rw [hm']
        unfold m_setOf_b180 m_setOf_b194
        rw [a1, ob_s]
        show (Option.bind (m_copy F X2 (nI (b + i * w)) (nI (U + k * w)) (nI w)) fun cs_2 => m_setOf_L132 F u cs_2 (nI what) (nI r) (nI N) (nI w) (nI i + 1)) = _
        rw [a2, ob_s, nI_1]
        exact b1
      · rw [lst, hl]
        rw [rr] at b3
        exact b3
    have pre : ∀ G : Option (RS × Int32), (if nI what = 1 then (m_setOf_b180 F (m_setOf_L132 F u) X (nI what) (nI r) (nI N) (nI w) (nI i) (nI (b + i * w))) else (if rowL rs (b + i * w) w ∈ rows then (m_setOf_b194 F (m_setOf_L132 F u) X (nI what) (nI r) (nI N) (nI w) (nI i)) else (m_setOf_b180 F (m_setOf_L132 F u) X (nI what) (nI r) (nI N) (nI w) (nI i) (nI (b + i * w))))) = G → m_setOf_L132 F (u + 1) X (nI what) (nI r) (nI N) (nI w) (nI i) = G := fun G hG => by
      rw [m_setOf_L132, rdI_n rl.r4 (by decide), ob_s, rl.m, if_neg (nI_ge (by omega) (by omega)), if_neg n2, at_ok rl, ob_s, rdI_n o.rl.r4 (by decide), ob_s, o.rl.m, hs, ob_s]
      by_cases z0 : nI what = 1
      · rw [if_pos z0] at hG ⊢
        exact hG
      · rw [if_neg z0] at hG ⊢
        by_cases z : rowL rs (b + i * w) w ∈ rows
        · rw [if_pos z] at hG
          rw [if_pos z, if_neg (by decide)]
          exact hG
        · rw [if_neg z] at hG
          rw [if_neg z, if_pos rfl]
          exact hG
    by_cases w1 : what = 1
    · exact addc (if_pos w1) (pre _ (by rw [if_pos (by rw [w1]; rfl)]))
    · have z0 : ¬ nI what = 1 := fun w => w1 ((nI_eq (a := what) (b := 1) (by omega) (by decide)).mp w)
      by_cases z : rowL rs (b + i * w) w ∈ rows
      · obtain ⟨Y, k', b1, b2, b3, b4⟩ := ih (i + 1) u k rows X (by omega) (by omega) (by omega) ce rl o
        refine ⟨Y, k', pre _ ?_, b2, ?_, b4⟩
        · rw [if_neg z0, if_pos z]
          unfold m_setOf_b194
          rw [nI_1]
          exact b1
        · rw [lst, show stpS what rows (rowL rs (b + i * w) w) = rows from (if_neg w1).trans (if_pos z)]
          exact b3
      · exact addc ((if_neg w1).trans (if_neg z)) (pre _ (by rw [if_neg z0, if_neg z]))

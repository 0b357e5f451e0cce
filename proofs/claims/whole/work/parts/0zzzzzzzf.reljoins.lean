/-! the reference's relations: a join -/
def nulR (x : List OV) (m : Nat) : List OV := x ++ List.replicate m none
theorem nul_eq {x : List OV} {n m : Nat} (h : x.length = n) : (List.range (n + m)).map (fun j => x.getD j none) = nulR x m := by
  unfold nulR
  rw [List.range_add, List.map_append, List.map_map]
  have e1 : (List.range n).map (fun j => x.getD j none) = x := by
    refine List.ext_getElem (by rw [List.length_map, List.length_range, h]) (fun i h1 h2 => ?_)
    rw [List.getElem_map, List.getElem_range, List.getD_eq_getElem?_getD, List.getElem?_eq_getElem h2]
    rfl
  have e2 : (List.range m).map ((fun j => x.getD j none) ∘ fun k => n + k) = List.replicate m none := by
    refine List.eq_replicate_iff.mpr ⟨by rw [List.length_map, List.length_range], fun y hy => ?_⟩
    obtain ⟨k, _, ek⟩ := List.mem_map.mp hy
    rw [← ek]
    show x.getD (n + k) none = none
    rw [List.getD_eq_getElem?_getD, List.getElem?_eq_none (by omega)]
    rfl
  rw [e1, e2]
/-- the rows of one row of the left -/
def joX (ou : Bool) (on : List OV → OV) (m : Nat) (x : List OV) (B : LL) : LL := if matL on x B = [] then (if ou = true then [nulR x m] else []) else matL on x B
theorem nul_L {F U N n m k r r2 o i : Nat} {rc30 : RS → Int32 → Int32 → Int32 → Int32 → Int32 → Int32 → Int32 → Option (RS × Int32)} {rows : LL} {f : Nat → OV} (hU : U + k * (n + m) + (n + m) ≤ 400000) (hn : ∀ j, n ≤ j → f j = none) : ∀ (d t u : Nat) (X : RS), m = t + d → d < u → BRW U N (n + m) k (n + t) rows f X → ∃ Y, m_join_L196 F rc30 u X (nI r) (nI r2) (nI o) (nI n) (nI m) (nI N) (nI i) (nI (U + k * (n + m))) (nI t) = rc30 Y (nI r) (nI r2) (nI o) (nI n) (nI m) (nI N) (nI (i + 1)) ∧ OUR U N (n + m) (k + 1) (rows ++ [(List.range (n + m)).map f]) Y ∧ RBF U N X Y := by
  intro d
  induction d with
  | zero =>
    intro t u X d1 d2 o'
    obtain ⟨u, rfl⟩ : ∃ z, u = z + 1 := ⟨u - 1, by omega⟩
    have et : t = m := by omega
    rw [et] at o' ⊢
    refine ⟨X, ?_, o'.fin, RBF.refl⟩
    rw [m_join_L196, if_pos (nI_le (by omega) (by omega))]
    unfold m_join_b237
    rw [nI_1]
  | succ d ih =>
    intro t u X d1 d2 o'
    obtain ⟨u, rfl⟩ : ∃ z, u = z + 1 := ⟨u - 1, by omega⟩
    obtain ⟨Y, hY⟩ : ∃ z, z = setI (setL X 85 (U + k * (n + m) + (n + t)) 0) 86 (U + k * (n + m) + (n + t)) 1 := ⟨_, rfl⟩
    have oy : BRW U N (n + m) k (n + (t + 1)) rows f Y := by
      rw [hY]
      exact o'.put (Or.inr ⟨rfl, hn _ (by omega)⟩)
    have fy : RBF U N X Y := by rw [hY]; exact RBF.cell (by omega) (Or.inr rfl)
    obtain ⟨Z, c1, c2, c3⟩ := ih (t + 1) u Y (by omega) (by omega) oy
    refine ⟨Z, ?_, c2, fy.trans c3⟩
    rw [m_join_L196, if_neg (nI_ge (by omega) (by omega)), nI_add, nI_add, show U + k * (n + m) + n + t = U + k * (n + m) + (n + t) by omega, wrL_n (by omega) (by decide), ob_s, show vp_nar .boolean 1 = 1 from rfl, wrI_n (by omega) (by decide), ob_s, ← hY, nI_1]
    exact c1
theorem jo_L {F U N n m e o r b ma r2 b2 m2 q : Nat} {ou : Bool} {val : List OV → OV} {rs : RS} (hF : 10000 ≤ F) (hw : n + m ≤ 100) (hN : r < N ∧ r2 < N) (hb : b + ma * n ≤ U) (hb2 : b2 + m2 * m ≤ U) (hq : m2 ≤ q ∧ 1 ≤ q) (hU : U + ma * q * (n + m) ≤ 400000) (hM : ma * q < 5000) (hma : ma < 5000) (ho : o < 180) (r58 : rs.2.2.1 58 o = nI e) (r56 : ou = true ↔ rs.2.2.1 56 o ≠ 0) (ex : EXV F (n + m) e val rs) : ∀ (d i u k : Nat) (rows : LL) (X : RS), ma = i + d → d < u → k ≤ i * q → FR rS rs X → X.1 97 = 0 → (∀ j, j < U → rc X j = rc rs j) → RLN X r b n ma → RLN X r2 b2 m m2 → OUR U N (n + m) k rows X → ∃ Y k', m_join_L30 F u X (nI r) (nI r2) (nI o) (nI n) (nI m) (nI N) (nI i) = some (Y, nI N) ∧ k' ≤ ma * q ∧ OUR U N (n + m) k' (rows ++ ((List.range' i d).map (fun i => rowL rs (b + i * n) n)).flatMap (fun x => joX ou val m x (rowsL rs b2 m m2))) Y ∧ RBF U N X Y := by
  intro d
  induction d with
  | zero =>
    intro i u k rows X d1 d2 d3 fr z97 ce rl rl2 o'
    obtain ⟨u, rfl⟩ : ∃ z, u = z + 1 := ⟨u - 1, by omega⟩
    have ei : i = ma := by omega
    rw [ei] at d3
    refine ⟨X, k, ?_, d3, by rw [List.range'_zero, List.map_nil, List.flatMap_nil, List.append_nil]; exact o', RBF.refl⟩
    rw [m_join_L30, rdI_n rl.r4 (by decide), ob_s, rl.m, if_pos (nI_le (by omega) (by omega))]
  | succ d ih =>
    intro i u k rows X d1 d2 d3 fr z97 ce rl rl2 o'
    obtain ⟨u, rfl⟩ : ∃ z, u = z + 1 := ⟨u - 1, by omega⟩
    have q1 : (i + 1) * n ≤ ma * n := Nat.mul_le_mul_right n (by omega)
    rw [Nat.succ_mul] at q1
    have q2 : (i + 1) * q ≤ ma * q := Nat.mul_le_mul_right q (by omega)
    have q3 := q2
    rw [Nat.succ_mul] at q3
    obtain ⟨Y, k', u', c1, c2, c3, c4⟩ := jin_L (F := F) (rc30 := m_join_L30 F u) (rs := rs) (i := i) (M := ma * q) hF hw hN (by omega) hb hb2 hU hM (by omega) ho r58 ex m2 0 F k 0 rows X (by omega) (by omega) (by omega) fr z97 ce rl rl2 o'
    have eB : (List.range' 0 m2).map (fun j => rowL rs (b2 + j * m) m) = rowsL rs b2 m m2 := by
      rw [← List.range_eq_range']
      rfl
    rw [eB] at c1 c3
    obtain ⟨x, hx⟩ : ∃ z, z = rowL rs (b + i * n) n := ⟨_, rfl⟩
    have xl : x.length = n := by rw [hx, rowL_len]
    rw [← hx] at c1 c3
    have lst : ((List.range' i (d + 1)).map (fun i => rowL rs (b + i * n) n)).flatMap (fun x => joX ou val m x (rowsL rs b2 m m2)) = joX ou val m x (rowsL rs b2 m m2) ++ ((List.range' (i + 1) d).map (fun i => rowL rs (b + i * n) n)).flatMap (fun x => joX ou val m x (rowsL rs b2 m m2)) := by
      rw [List.range'_succ, List.map_cons, List.flatMap_cons, ← hx]
    have fin : ∀ (W : RS) (k2 : Nat), m_join_L30 F (u + 1) X (nI r) (nI r2) (nI o) (nI n) (nI m) (nI N) (nI i) = m_join_L30 F u W (nI r) (nI r2) (nI o) (nI n) (nI m) (nI N) (nI (i + 1)) → k2 ≤ (i + 1) * q → OUR U N (n + m) k2 (rows ++ joX ou val m x (rowsL rs b2 m m2)) W → RBF U N X W → ∃ Y k', m_join_L30 F (u + 1) X (nI r) (nI r2) (nI o) (nI n) (nI m) (nI N) (nI i) = some (Y, nI N) ∧ k' ≤ ma * q ∧ OUR U N (n + m) k' (rows ++ ((List.range' i (d + 1)).map (fun i => rowL rs (b + i * n) n)).flatMap (fun x => joX ou val m x (rowsL rs b2 m m2))) Y ∧ RBF U N X Y := fun W k2 w1 w2 w3 w4 => by
      obtain ⟨Y', k3, g1, g2, g3, g4⟩ := ih (i + 1) u k2 _ W (by omega) (by omega) w2 (fr.trans w4.fr) ((w4.f1 97 (by decide) (by decide) (by decide)).trans z97) (fun j hj => (w4.ce j hj).trans (ce j hj)) (w4.rln rl (by omega)) (w4.rln rl2 (by omega)) w3
      refine ⟨Y', k3, w1.trans g1, g2, ?_, w4.trans g4⟩
      rw [lst, ← List.append_assoc]
      exact g3
    have rlY := c4.rln rl (by omega)
    have rlY2 := c4.rln rl2 (by omega)
    have head : m_join_L30 F (u + 1) X (nI r) (nI r2) (nI o) (nI n) (nI m) (nI N) (nI i) = m_join_L47 F (m_join_L30 F u) (u' + 1) Y (nI r) (nI r2) (nI o) (nI n) (nI m) (nI N) (nI i) (if matL val x (rowsL rs b2 m m2) = [] then 0 else 1) (nI m2) := by
      rw [m_join_L30, rdI_n rl.r4 (by decide), ob_s, rl.m, if_neg (nI_ge (by omega) (by omega))]
      exact c1
    have h2 : m_join_L47 F (m_join_L30 F u) (u' + 1) Y (nI r) (nI r2) (nI o) (nI n) (nI m) (nI N) (nI i) (if matL val x (rowsL rs b2 m m2) = [] then 0 else 1) (nI m2) = if (if matL val x (rowsL rs b2 m m2) = [] then (0 : Int32) else 1) = 0 then (if rs.2.2.1 56 o = 0 then (m_join_L30 F u Y (nI r) (nI r2) (nI o) (nI n) (nI m) (nI N) (nI (i + 1))) else (Option.bind (m_newRow F Y (nI N)) fun z_9 => Option.bind (m_rowAt F z_9.1 (nI r) (nI i)) fun v_10 => Option.bind (m_copy F z_9.1 v_10 z_9.2 (nI n)) fun cs_11 => m_join_L196 F (m_join_L30 F u) F cs_11 (nI r) (nI r2) (nI o) (nI n) (nI m) (nI N) (nI i) z_9.2 0)) else (m_join_L30 F u Y (nI r) (nI r2) (nI o) (nI n) (nI m) (nI N) (nI (i + 1))) := by
      rw [m_join_L47, rdI_n rlY2.r4 (by decide), ob_s, rlY2.m, if_pos (nI_le (by omega) (by omega)), rdI_n ho (by decide), ob_s, (fr.trans c4.fr).a (k := 56) (by unfold rS; omega)]
      unfold m_join_b237
      rw [nI_1]
    by_cases z : matL val x (rowsL rs b2 m m2) = []
    · have h3 := head.trans h2
      rw [if_pos z, if_pos rfl] at h3
      rw [z, List.append_nil] at c3
      have ek : k' = k := c3.len.symm.trans o'.len
      by_cases y : ou = true
      · rw [if_neg (r56.mp y)] at h3
        have q4 : (k' + 1) * (n + m) ≤ ma * q * (n + m) := Nat.mul_le_mul_right (n + m) (by omega)
        rw [Nat.succ_mul] at q4
        obtain ⟨X1, e1, e2, e3⟩ := BRW.new (F := F) (f := fun j => x.getD j none) c3 (by omega) (by omega)
        have f1 : RBF U N Y X1 := ⟨e3.fr, fun j hj => e3.ce j (by omega), e3.f1, e3.ar⟩
        have e2b := e2.st.fb
        obtain ⟨X2, g1, g2, g3, g4, g5⟩ := copy_ok (F := F) (fr := b + i * n) (to := U + k' * (n + m)) (n := n) (rs := X1) hF (by omega) (by omega) (by omega) e2b
        have f2 : RBF U N X1 X2 := ⟨g2.fr, fun i hi => g3 i (by omega), fun q _ _ _ => by rw [g2.f1], fun q r a _ => by rw [g2.a1 q a]⟩
        have xr : rowL X2 (U + k' * (n + m)) n = x := by
          rw [g4, rowL_eq (U := U) (fun j hj => (f1.ce j hj).trans ((c4.ce j hj).trans (ce j hj))) (by omega), hx]
        have o2 : BRW U N (n + m) k' (n + 0) rows (fun j => x.getD j none) X2 := by
          refine ⟨g2.rst e2.st, g2.rln e2.rl, (rows_eq (U := U + k' * (n + m)) g3 (Nat.le_refl _)).trans e2.rw', fun j hj => ?_⟩
          show _ = x.getD j none
          rw [← xr, rowL_get (by omega)]
        obtain ⟨Z, a1, a2, a3⟩ := nul_L (F := F) (r := r) (r2 := r2) (o := o) (i := i) (rc30 := m_join_L30 F u) (by omega) (fun j hj => by
          show x.getD j none = none
          rw [List.getD_eq_getElem?_getD, List.getElem?_eq_none (by omega)]
          rfl) m 0 F X2 (by omega) (by omega) o2
        rw [nul_eq xl] at a2
        refine fin Z (k' + 1) ?_ (by rw [Nat.succ_mul]; omega) ?_ ((c4.trans f1).trans (f2.trans a3))
        · rw [h3, e1, ob_s]
          show (Option.bind (m_rowAt F X1 (nI r) (nI i)) fun v_10 => Option.bind (m_copy F X1 v_10 (nI (U + k' * (n + m))) (nI n)) fun cs_11 => m_join_L196 F (m_join_L30 F u) F cs_11 (nI r) (nI r2) (nI o) (nI n) (nI m) (nI N) (nI i) (nI (U + k' * (n + m))) (nI 0)) = _
          rw [at_ok (f1.rln rlY (by omega)), ob_s, g1, ob_s]
          exact a1
        · unfold joX
          rw [if_pos z, if_pos y]
          exact a2
      · rw [if_pos (Classical.not_not.mp (fun w => y (r56.mpr w)))] at h3
        refine fin Y k' h3 (by rw [Nat.succ_mul]; omega) ?_ c4
        unfold joX
        rw [if_pos z, if_neg y, List.append_nil]
        exact c3
    · have h3 := head.trans h2
      rw [if_neg z, if_neg (show ¬ (1 : Int32) = 0 by decide)] at h3
      refine fin Y k' h3 (by rw [Nat.succ_mul]; omega) ?_ c4
      unfold joX
      rw [if_neg z]
      exact c3
theorem join_ok {F U N n m e o r b ma r2 b2 m2 q : Nat} {ou : Bool} {val : List OV → OV} {rs : RS} (hF : 10000 ≤ F) (hw : n + m ≤ 100) (hr : r < N ∧ r2 < N) (hN : N < 400) (hb : b + ma * n ≤ U) (hb2 : b2 + m2 * m ≤ U) (hq : m2 ≤ q ∧ 1 ≤ q) (hU : U + ma * q * (n + m) ≤ 400000) (hM : ma * q < 5000) (hma : ma < 5000) (ho : o < 180) (r58 : rs.2.2.1 58 o = nI e) (r56 : ou = true ↔ rs.2.2.1 56 o ≠ 0) (ex : EXV F (n + m) e val rs) (z97 : rs.1 97 = 0) (st : RST U N rs) (rl : RLN rs r b n ma) (rl2 : RLN rs r2 b2 m m2) : ∃ rs', m_join F rs (nI r) (nI r2) (nI o) = some (rs', nI N) ∧ ROP U N (n + m) (ma * q) ((rowsL rs b n ma).flatMap (fun x => joX ou val m x (rowsL rs b2 m m2))) rs rs' := by
  obtain ⟨X, e1, e2, e3, e4, e5, e6, e7⟩ := rel_ok (F := F) (w := n + m) st hN
  have rl1 : RLN X r b n ma := ⟨rl.r4, by rw [e7 88 r (by omega)]; exact rl.b, by rw [e7 89 r (by omega)]; exact rl.m, by rw [e7 90 r (by omega)]; exact rl.w⟩
  have rl3 : RLN X r2 b2 m m2 := ⟨rl2.r4, by rw [e7 88 r2 (by omega)]; exact rl2.b, by rw [e7 89 r2 (by omega)]; exact rl2.m, by rw [e7 90 r2 (by omega)]; exact rl2.w⟩
  have o' : OUR U N (n + m) 0 [] X := ⟨by rw [Nat.zero_mul, Nat.add_zero]; exact e2, e4, rfl⟩
  obtain ⟨Y, k', b1, b2', b3, b4⟩ := jo_L (N := N) hF hw hr hb hb2 hq hU hM hma ho r58 r56 ex ma 0 F 0 [] X (by omega) (by omega) (Nat.zero_le _) e3.fr ((e6 97 (by decide)).trans z97) (fun j _ => e5 j) rl1 rl3 o'
  refine ⟨Y, ?_, ?_⟩
  · unfold m_join
    rw [rdI_n rl.r4 (by decide), ob_s, rdI_n rl2.r4 (by decide), ob_s, rl.w, rl2.w, nI_add, e1, ob_s]
    exact b1
  · rw [List.nil_append, ← List.range_eq_range'] at b3
    exact ROP.of b3 b2' e3 b4 e6

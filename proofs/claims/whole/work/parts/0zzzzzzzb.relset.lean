/-! the reference's sets, whole -/
theorem setA_L {F U N w r b m r2 b2 m2 what M : Nat} {rs : RS} (hF : 10000 ≤ F) (hw : w ≤ 100) (hN : r < N ∧ r2 < N) (hb : b + m * w ≤ U) (hb2 : b2 + m2 * w ≤ U) (hU : U + M * w ≤ 400000) (hm : m < 5000) (hm2 : m2 < 5000) (hM : M < 5000) (h14 : 1 ≤ what ∧ what ≤ 4) : ∀ (d i u k : Nat) (rows : List (List OV)) (X : RS), m = i + d → d < u → k + d ≤ M → (∀ j, j < U → rc X j = rc rs j) → RLN X r b w m → RLN X r2 b2 w m2 → OUR U N w k rows X → ∃ Y k', m_setOf_L23 F u X (nI what) (nI r) (nI r2) (nI N) (nI w) (nI i) = m_setOf_L132 F F Y (nI what) (nI r2) (nI N) (nI w) (nI 0) ∧ k' ≤ k + d ∧ OUR U N w k' ((((List.range' i d).map (fun i => rowL rs (b + i * w) w)).filter (kpS what (rowsL rs b2 w m2))).foldl (stpS what) rows) Y ∧ RBF U N X Y := by
  intro d
  induction d with
  | zero =>
    intro i u k rows X d1 d2 d3 ce rl rl2 o
    obtain ⟨u, rfl⟩ : ∃ z, u = z + 1 := ⟨u - 1, by omega⟩
    refine ⟨X, k, ?_, by omega, o, RBF.refl⟩
    rw [m_setOf_L23, rdI_n rl.r4 (by decide), ob_s, rl.m, if_pos (nI_le (by omega) (by omega))]
    rfl
  | succ d ih =>
    intro i u k rows X d1 d2 d3 ce rl rl2 o
    obtain ⟨u, rfl⟩ : ∃ z, u = z + 1 := ⟨u - 1, by omega⟩
    have q1 : (i + 1) * w ≤ m * w := Nat.mul_le_mul_right w (by omega)
    rw [Nat.succ_mul] at q1
    have q2 : (k + 1) * w ≤ M * w := Nat.mul_le_mul_right w (by omega)
    rw [Nat.succ_mul] at q2
    have rr : rowL X (b + i * w) w = rowL rs (b + i * w) w := rowL_eq ce (by omega)
    have hs := has_ok (F := F) (row := b + i * w) (N := k) hF o.rl hw (by omega) (Nat.le_refl _) (by omega) (by omega)
    rw [rr, o.rw'] at hs
    have hs2 := has_ok (F := F) (row := b + i * w) (N := m2) hF rl2 hw (by omega) (Nat.le_refl _) (by omega) (by omega)
    rw [rr, rows_eq ce hb2] at hs2
    obtain ⟨x, hx⟩ : ∃ z, z = rowL rs (b + i * w) w := ⟨_, rfl⟩
    obtain ⟨B, hB⟩ : ∃ z, z = rowsL rs b2 w m2 := ⟨_, rfl⟩
    rw [← hx] at hs hs2 rr
    rw [← hB] at hs2
    have lst : (((List.range' i (d + 1)).map (fun i => rowL rs (b + i * w) w)).filter (kpS what (rowsL rs b2 w m2))).foldl (stpS what) rows = (((List.range' (i + 1) d).map (fun i => rowL rs (b + i * w) w)).filter (kpS what (rowsL rs b2 w m2))).foldl (stpS what) (if kpS what B x = true then stpS what rows x else rows) := by
      rw [List.range'_succ, List.map_cons, List.filter_cons, ← hB, ← hx]
      by_cases z : kpS what B x = true
      · rw [if_pos z, if_pos z, List.foldl_cons]
      · rw [if_neg z, if_neg z]
    -- how it goes on
    have pre : m_setOf_L23 F (u + 1) X (nI what) (nI r) (nI r2) (nI N) (nI w) (nI i) = (if kpS what B x = true then (m_setOf_b79 F (m_setOf_L23 F u) X (nI what) (nI r) (nI r2) (nI N) (nI w) (nI i) (nI (b + i * w)) 1) else (m_setOf_b79 F (m_setOf_L23 F u) X (nI what) (nI r) (nI r2) (nI N) (nI w) (nI i) (nI (b + i * w)) 0)) := by
      rw [m_setOf_L23, rdI_n rl.r4 (by decide), ob_s, rl.m, if_neg (nI_ge (by omega) (by omega)), at_ok rl, ob_s, rdI_n rl2.r4 (by decide), ob_s, rl2.m, hs2, ob_s]
      unfold m_setOf_b71 m_setOf_b74 kpS
      by_cases w2 : what ≤ 2
      · rw [if_pos (show nI what ≤ 2 from nI_le (a := what) (b := 2) w2 (by decide)), if_pos (by rw [decide_eq_true w2]; rfl)]
      · rw [if_neg (show ¬ nI what ≤ 2 from nI_ge (a := 2) (b := what) (by omega) (by omega))]
        have w34 : what = 3 ∨ what = 4 := by omega
        rcases w34 with q | q
        · rw [if_neg (show ¬ nI what = 4 by rw [q]; decide), if_neg (show ¬ what = 4 by omega), decide_eq_false w2]
          by_cases z : x ∈ B
          · rw [if_pos z, decide_eq_true z]; rfl
          · rw [if_neg z, decide_eq_false z]; rfl
        · rw [if_pos (show nI what = 4 by rw [q]; rfl), if_pos q, decide_eq_false w2]
          by_cases z : x ∈ B
          · rw [if_pos z, decide_eq_true z]; rfl
          · rw [if_neg z, decide_eq_false z]; rfl
    have b123 : m_setOf_b123 F (m_setOf_L23 F u) X (nI what) (nI r) (nI r2) (nI N) (nI w) (nI i) = m_setOf_L23 F u X (nI what) (nI r) (nI r2) (nI N) (nI w) (nI (i + 1)) := by
      unfold m_setOf_b123
      rw [nI_1]
    have skip : (if kpS what B x = true then stpS what rows x else rows) = rows → m_setOf_L23 F (u + 1) X (nI what) (nI r) (nI r2) (nI N) (nI w) (nI i) = m_setOf_b123 F (m_setOf_L23 F u) X (nI what) (nI r) (nI r2) (nI N) (nI w) (nI i) → ∃ Y k', m_setOf_L23 F (u + 1) X (nI what) (nI r) (nI r2) (nI N) (nI w) (nI i) = m_setOf_L132 F F Y (nI what) (nI r2) (nI N) (nI w) (nI 0) ∧ k' ≤ k + (d + 1) ∧ OUR U N w k' ((((List.range' i (d + 1)).map (fun i => rowL rs (b + i * w) w)).filter (kpS what (rowsL rs b2 w m2))).foldl (stpS what) rows) Y ∧ RBF U N X Y := fun hl hm' => by
      obtain ⟨Y, k', c1, c2, c3, c4⟩ := ih (i + 1) u k rows X (by omega) (by omega) (by omega) ce rl rl2 o
      refine ⟨Y, k', by rw [hm', b123]; exact c1, by omega, ?_, c4⟩
      rw [lst, hl]
      exact c3
    have addc : (if kpS what B x = true then stpS what rows x else rows) = rows ++ [x] → m_setOf_L23 F (u + 1) X (nI what) (nI r) (nI r2) (nI N) (nI w) (nI i) = m_setOf_b109 F (m_setOf_L23 F u) X (nI what) (nI r) (nI r2) (nI N) (nI w) (nI i) (nI (b + i * w)) → ∃ Y k', m_setOf_L23 F (u + 1) X (nI what) (nI r) (nI r2) (nI N) (nI w) (nI i) = m_setOf_L132 F F Y (nI what) (nI r2) (nI N) (nI w) (nI 0) ∧ k' ≤ k + (d + 1) ∧ OUR U N w k' ((((List.range' i (d + 1)).map (fun i => rowL rs (b + i * w) w)).filter (kpS what (rowsL rs b2 w m2))).foldl (stpS what) rows) Y ∧ RBF U N X Y := fun hl hm' => by
      obtain ⟨X2, X3, a1, a2, a3, a4, a5⟩ := app_ok (F := F) (p := b + i * w) hF o hw (by omega) (by omega) (by omega)
      have f3 : RBF U N X X3 := ⟨a4.fr, fun j hj => a4.ce j (by omega), a4.f1, a4.ar⟩
      rw [rr] at a3
      obtain ⟨Y, k', c1, c2, c3, c4⟩ := ih (i + 1) u (k + 1) _ X3 (by omega) (by omega) (by omega) (fun j hj => (f3.ce j hj).trans (ce j hj)) (f3.rln rl (by omega)) (f3.rln rl2 (by omega)) a3
      refine ⟨Y, k', ?_, by omega, ?_, f3.trans c4⟩
      · rw [hm']
        unfold m_setOf_b109 m_setOf_b123
        rw [a1, ob_s]
        show (Option.bind (m_copy F X2 (nI (b + i * w)) (nI (U + k * w)) (nI w)) fun cs_2 => m_setOf_L23 F u cs_2 (nI what) (nI r) (nI r2) (nI N) (nI w) (nI i + 1)) = _
        rw [a2, ob_s, nI_1]
        exact c1
      · rw [lst, hl]
        exact c3
    have b79 : m_setOf_b79 F (m_setOf_L23 F u) X (nI what) (nI r) (nI r2) (nI N) (nI w) (nI i) (nI (b + i * w)) 1 = (if what = 1 then (m_setOf_b109 F (m_setOf_L23 F u) X (nI what) (nI r) (nI r2) (nI N) (nI w) (nI i) (nI (b + i * w))) else (if x ∈ rows then (m_setOf_b123 F (m_setOf_L23 F u) X (nI what) (nI r) (nI r2) (nI N) (nI w) (nI i)) else (m_setOf_b109 F (m_setOf_L23 F u) X (nI what) (nI r) (nI r2) (nI N) (nI w) (nI i) (nI (b + i * w))))) := by
      unfold m_setOf_b79
      rw [if_neg (by decide), rdI_n o.rl.r4 (by decide), ob_s, o.rl.m, hs, ob_s]
      by_cases w1 : what = 1
      · rw [if_pos (show nI what = 1 by rw [w1]; rfl), if_pos w1]
      · have z0 : ¬ nI what = 1 := fun w => w1 ((nI_eq (a := what) (b := 1) (by omega) (by decide)).mp w)
        rw [if_neg z0, if_neg w1]
        by_cases z : x ∈ rows
        · rw [if_pos z, if_pos z, if_neg (by decide)]
        · rw [if_neg z, if_neg z, if_pos rfl]
    by_cases kz : kpS what B x = true
    · rw [if_pos kz] at pre skip addc
      by_cases w1 : what = 1
      · exact addc (if_pos w1) (by rw [pre, b79, if_pos w1])
      · by_cases z : x ∈ rows
        · exact skip ((if_neg w1).trans (if_pos z)) (by rw [pre, b79, if_neg w1, if_pos z])
        · exact addc ((if_neg w1).trans (if_neg z)) (by rw [pre, b79, if_neg w1, if_neg z])
    · rw [if_neg kz] at pre skip
      refine skip rfl ?_
      rw [pre]
      unfold m_setOf_b79
      rw [if_pos rfl]
theorem set_ok {F U N w r b m r2 b2 m2 what M : Nat} {rs : RS} (hF : 10000 ≤ F) (hw : w ≤ 100) (hr : r < N ∧ r2 < N) (hN : N < 400) (hb : b + m * w ≤ U) (hb2 : b2 + m2 * w ≤ U) (hMM : m + m2 ≤ M) (hU : U + M * w ≤ 400000) (hM : M < 5000) (h14 : 1 ≤ what ∧ what ≤ 4) (st : RST U N rs) (rl : RLN rs r b w m) (rl2 : RLN rs r2 b2 w m2) : ∃ rs', m_setOf F rs (nI what) (nI r) (nI r2) = some (rs', nI N) ∧ ROP U N w M (setS what (rowsL rs b w m) (rowsL rs b2 w m2)) rs rs' := by
  obtain ⟨X, e1, e2, e3, e4, e5, e6, e7⟩ := rel_ok (F := F) (w := w) st hN
  have rl1 : RLN X r b w m := ⟨rl.r4, by rw [e7 88 r (by omega)]; exact rl.b, by rw [e7 89 r (by omega)]; exact rl.m, by rw [e7 90 r (by omega)]; exact rl.w⟩
  have rl3 : RLN X r2 b2 w m2 := ⟨rl2.r4, by rw [e7 88 r2 (by omega)]; exact rl2.b, by rw [e7 89 r2 (by omega)]; exact rl2.m, by rw [e7 90 r2 (by omega)]; exact rl2.w⟩
  have o : OUR U N w 0 [] X := ⟨by rw [Nat.zero_mul, Nat.add_zero]; exact e2, e4, rfl⟩
  obtain ⟨Y, k', c1, c2, c3, c4⟩ := setA_L (N := N) (rs := rs) (M := M) hF hw hr hb hb2 hU (by omega) (by omega) hM h14 m 0 F 0 [] X (by omega) (by omega) (by omega) (fun j _ => e5 j) rl1 rl3 o
  rw [← List.range_eq_range'] at c3
  have c3' : OUR U N w k' (setA what (rowsL rs b w m) (rowsL rs b2 w m2)) Y := c3
  have run : m_setOf F rs (nI what) (nI r) (nI r2) = m_setOf_L132 F F Y (nI what) (nI r2) (nI N) (nI w) (nI 0) := by
    unfold m_setOf
    rw [rdI_n rl.r4 (by decide), ob_s, rl.w, e1, ob_s]
    show (Option.bind (rdI (X.2.2.1 90) 400 (nI r)) fun v_28 => m_setOf_L23 F F X (nI what) (nI r) (nI r2) (nI N) v_28 0) = _
    rw [rdI_n rl.r4 (by decide), ob_s, rl1.w]
    exact c1
  by_cases w2 : what ≤ 2
  · obtain ⟨Z, k2, g1, g2, g3, g4⟩ := setB_L (N := N) (rs := rs) (M := M) (what := what) hF hw hr.2 hb2 hU (by omega) hM (by omega) m2 0 F k' _ Y (by omega) (by omega) (by omega) (fun j hj => (c4.ce j hj).trans (e5 j)) (c4.rln rl3 (by omega)) c3'
    rw [← List.range_eq_range'] at g3
    refine ⟨Z, run.trans g1, ?_⟩
    rw [show setS what (rowsL rs b w m) (rowsL rs b2 w m2) = (rowsL rs b2 w m2).foldl (stpS what) (setA what (rowsL rs b w m) (rowsL rs b2 w m2)) from if_pos w2]
    exact ROP.of g3 g2 e3 (c4.trans g4) e6
  · refine ⟨Y, ?_, ?_⟩
    · rw [run]
      obtain ⟨F', hF'⟩ : ∃ z, F = z + 1 := ⟨F - 1, by omega⟩
      have rl4 := c4.rln rl3 (by omega)
      have q : m_setOf_L132 F (F' + 1) Y (nI what) (nI r2) (nI N) (nI w) (nI 0) = some (Y, nI N) := by
        rw [m_setOf_L132, rdI_n rl4.r4 (by decide), ob_s, if_pos (show (2 : Int32) < nI what from nI_lt (a := 2) (b := what) (by omega) (by omega))]
        unfold m_setOf_b200
        by_cases z : Y.2.2.1 89 r2 ≤ nI 0
        · rw [if_pos z]
        · rw [if_neg z]
      rw [← hF'] at q
      exact q
    · rw [show setS what (rowsL rs b w m) (rowsL rs b2 w m2) = setA what (rowsL rs b w m) (rowsL rs b2 w m2) from if_neg w2]
      exact ROP.of c3' (by omega) e3 c4 e6

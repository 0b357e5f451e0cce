/-! the reference's relations: joins -/
theorem rowL_add {rs : RS} {p n m : Nat} : rowL rs p (n + m) = rowL rs p n ++ rowL rs (p + n) m := by
  unfold rowL
  rw [List.range_add, List.map_append, List.map_map]
  congr 1
  refine List.map_congr_left (fun k _ => ?_)
  show rc rs (p + (n + k)) = rc rs (p + n + k)
  rw [Nat.add_assoc]
/-- the last row taken back -/
theorem OUR.drop {U N w k : Nat} {rows : List (List OV)} {z : List OV} {Z : RS} (h : OUR U N w (k + 1) (rows ++ [z]) Z) : OUR U N w k rows (setI (setF Z 87 (nI (U + k * w))) 89 N (nI k)) ∧ RBF (U + k * w) N Z (setI (setF Z 87 (nI (U + k * w))) 89 N (nI k)) := by
  have u4 := h.st.u4
  rw [Nat.succ_mul] at u4
  have rwz : rowsL Z U w k = rows := by
    have q := h.rw'
    rw [rows_succ] at q
    exact List.append_inj_left' q rfl
  refine ⟨⟨⟨show (setF Z 87 (nI (U + k * w))).1 87 = nI (U + k * w) from sF_s, show (setF Z 87 (nI (U + k * w))).1 91 = nI (N + 1) from (sF_n (by decide)).trans h.st.n, by omega, h.st.n4, fun i => by rw [sIa_n (by omega)]; exact h.st.fb i⟩, ⟨h.rl.r4, by rw [sIa_n (by omega)]; exact h.rl.b, sIa_s, by rw [sIa_n (by omega)]; exact h.rl.w⟩, ?_⟩, ⟨(FR.setF (by unfold rS; omega)).trans (FR.setI (by unfold rS; omega)), fun i _ => ?_, fun q a _ _ => sF_n a, fun q r _ b => sIa_n (by omega)⟩⟩
  · rw [← rwz]
    refine rows_eq (U := U + k * w) (fun i _ => ?_) (Nat.le_refl _)
    unfold rc
    rw [sIa_n (by omega)]
    rfl
  · unfold rc
    rw [sIa_n (by omega)]
    rfl
/-- a pair of rows laid at the end -/
theorem pair_ok {F U N n m k r b ma r2 b2 m2 i j : Nat} {rows : List (List OV)} {X : RS} (hF : 10000 ≤ F) (h : OUR U N (n + m) k rows X) (hw : n + m ≤ 100) (hu : U + k * (n + m) + (n + m) ≤ 400000) (hk : k < 9999) (hN : r < N ∧ r2 < N) (rl : RLN X r b n ma) (rl2 : RLN X r2 b2 m m2) (hi : i < ma) (hj : j < m2) (hb : b + ma * n ≤ U) (hb2 : b2 + m2 * m ≤ U) : ∃ X1 X2 X3, m_newRow F X (nI N) = some (X1, nI (U + k * (n + m))) ∧ m_rowAt F X1 (nI r) (nI i) = some (nI (b + i * n)) ∧ m_copy F X1 (nI (b + i * n)) (nI (U + k * (n + m))) (nI n) = some X2 ∧ m_rowAt F X2 (nI r2) (nI j) = some (nI (b2 + j * m)) ∧ m_copy F X2 (nI (b2 + j * m)) (nI (U + k * (n + m)) + nI n) (nI m) = some X3 ∧ OUR U N (n + m) (k + 1) (rows ++ [rowL X (b + i * n) n ++ rowL X (b2 + j * m) m]) X3 ∧ RBF U N X X3 := by
  have q1 : (i + 1) * n ≤ ma * n := Nat.mul_le_mul_right n (by omega)
  rw [Nat.succ_mul] at q1
  have q2 : (j + 1) * m ≤ m2 * m := Nat.mul_le_mul_right m (by omega)
  rw [Nat.succ_mul] at q2
  obtain ⟨X1, e1, e2, e3, e4, e5, e6, e7, e8⟩ := row_ok (F := F) h.st h.rl hu (by omega)
  have f1 : RBF (U + k * (n + m)) N X X1 := ⟨e5, fun i _ => e4 i, fun q a _ _ => e6 q a, fun q r _ b => e7 q r b⟩
  obtain ⟨X2, c1, c2, c3, c4, c5⟩ := copy_ok (F := F) (fr := b + i * n) (to := U + k * (n + m)) (n := n) (rs := X1) hF (by omega) (by omega) (by omega) e2.fb
  obtain ⟨X3, d1, d2, d3, d4, d5⟩ := copy_ok (F := F) (fr := b2 + j * m) (to := U + k * (n + m) + n) (n := m) (rs := X2) hF (by omega) (by omega) (by omega) (c2.fb e2.fb)
  have f2 : RBF (U + k * (n + m)) N X1 X2 := ⟨c2.fr, c3, fun q _ _ _ => by rw [c2.f1], fun q r a _ => by rw [c2.a1 q a]⟩
  have f3 : RBF (U + k * (n + m)) N X2 X3 := ⟨d2.fr, fun i hi => d3 i (by omega), fun q _ _ _ => by rw [d2.f1], fun q r a _ => by rw [d2.a1 q a]⟩
  have f13 := (f1.trans f2).trans f3
  refine ⟨X1, X2, X3, e1, at_ok (f1.rln rl (by omega)), c1, at_ok ((f1.trans f2).rln rl2 (by omega)), by rw [nI_add]; exact d1, ⟨?_, d2.rln (c2.rln e3), ?_⟩, ⟨f13.fr, fun i hi => f13.ce i (by omega), f13.f1, f13.ar⟩⟩
  · rw [show U + (k + 1) * (n + m) = U + k * (n + m) + (n + m) by rw [Nat.succ_mul]; omega]
    exact d2.rst (c2.rst e2)
  · rw [rows_succ, rowL_add, rows_eq f13.ce (Nat.le_refl _), h.rw', d4, rowL_eq (U := U + k * (n + m) + n) d3 (Nat.le_refl _), c4, rowL_eq (U := U + k * (n + m)) (fun i _ => e4 i) (by omega), rowL_eq (U := U + k * (n + m)) (fun i hi => (c3 i hi).trans (e4 i)) (by omega)]
/-- the right rows against one of the left -/
def matL (on : List OV → OV) (x : List OV) (B : LL) : LL := (B.map (fun y => x ++ y)).filter (fun L => tr1 (on L) == 1)
theorem jin_L {F U N n m e o r b ma r2 b2 m2 i M : Nat} {val : List OV → OV} {rc30 : RS → Int32 → Int32 → Int32 → Int32 → Int32 → Int32 → Int32 → Option (RS × Int32)} {rs : RS} (hF : 10000 ≤ F) (hw : n + m ≤ 100) (hN : r < N ∧ r2 < N) (hi : i < ma) (hb : b + ma * n ≤ U) (hb2 : b2 + m2 * m ≤ U) (hU : U + M * (n + m) ≤ 400000) (hM : M < 5000) (hm2 : m2 < 5000) (ho : o < 180) (r58 : rs.2.2.1 58 o = nI e) (ex : EXV F (n + m) e val rs) : ∀ (d j u k : Nat) (met : Int32) (rows : LL) (X : RS), m2 = j + d → d < u → k + d ≤ M → FR rS rs X → X.1 97 = 0 → (∀ j, j < U → rc X j = rc rs j) → RLN X r b n ma → RLN X r2 b2 m m2 → OUR U N (n + m) k rows X → ∃ Y k' u', m_join_L47 F rc30 u X (nI r) (nI r2) (nI o) (nI n) (nI m) (nI N) (nI i) met (nI j) = m_join_L47 F rc30 (u' + 1) Y (nI r) (nI r2) (nI o) (nI n) (nI m) (nI N) (nI i) (if matL val (rowL rs (b + i * n) n) ((List.range' j d).map (fun j => rowL rs (b2 + j * m) m)) = [] then met else 1) (nI m2) ∧ k' ≤ k + d ∧ OUR U N (n + m) k' (rows ++ matL val (rowL rs (b + i * n) n) ((List.range' j d).map (fun j => rowL rs (b2 + j * m) m))) Y ∧ RBF U N X Y := by
  have q1 : (i + 1) * n ≤ ma * n := Nat.mul_le_mul_right n (by omega)
  rw [Nat.succ_mul] at q1
  intro d
  induction d with
  | zero =>
    intro j u k met rows X d1 d2 d3 fr z97 ce rl rl2 o'
    obtain ⟨u, rfl⟩ : ∃ z, u = z + 1 := ⟨u - 1, by omega⟩
    have ej : j = m2 := by omega
    have e0 : matL val (rowL rs (b + i * n) n) ((List.range' j 0).map (fun j => rowL rs (b2 + j * m) m)) = [] := rfl
    refine ⟨X, k, u, by rw [if_pos e0, ej], by omega, by rw [e0, List.append_nil]; exact o', RBF.refl⟩
  | succ d ih =>
    intro j u k met rows X d1 d2 d3 fr z97 ce rl rl2 o'
    obtain ⟨u, rfl⟩ : ∃ z, u = z + 1 := ⟨u - 1, by omega⟩
    have q2 : (k + 1) * (n + m) ≤ M * (n + m) := Nat.mul_le_mul_right (n + m) (by omega)
    rw [Nat.succ_mul] at q2
    have q3 : (j + 1) * m ≤ m2 * m := Nat.mul_le_mul_right m (by omega)
    rw [Nat.succ_mul] at q3
    obtain ⟨X1, X2, X3, a1, a2, a3, a4, a5, a6, a7⟩ := pair_ok (F := F) (i := i) (j := j) hF o' hw (by omega) (by omega) hN rl rl2 hi (by omega) hb hb2
    rw [rowL_eq ce (show b + i * n + n ≤ U by omega), rowL_eq ce (show b2 + j * m + m ≤ U by omega)] at a6
    obtain ⟨x, hx⟩ : ∃ z, z = rowL rs (b + i * n) n := ⟨_, rfl⟩
    obtain ⟨y, hy⟩ : ∃ z, z = rowL rs (b2 + j * m) m := ⟨_, rfl⟩
    rw [← hx, ← hy] at a6
    have fr3 := fr.trans a7.fr
    have w97 : X3.1 97 = 0 := (a7.f1 97 (by decide) (by decide) (by decide)).trans z97
    have last : rowL X3 (U + k * (n + m)) (n + m) = x ++ y := by
      have q := a6.rw'
      rw [rows_succ] at q
      have q' := List.append_inj_right' q rfl
      exact (List.cons.inj q').1
    have et := ex.tr (p := U + k * (n + m)) fr3 w97 a6.st.fb (by omega)
    rw [last] at et
    obtain ⟨Z, hZ⟩ : ∃ z, z = setF (setF X3 93 (nI (U + k * (n + m)))) 92 (fl (val (x ++ y))) := ⟨_, rfl⟩
    rw [← hZ] at et
    have oz : OUR U N (n + m) (k + 1) (rows ++ [x ++ y]) Z := by rw [hZ]; exact (a6.f (Or.inr rfl)).f (Or.inl rfl)
    have fz : RBF U N X Z := by rw [hZ]; exact a7.trans ((RBF.f (Or.inr rfl)).trans (RBF.f (Or.inl rfl)))
    obtain ⟨dr1, dr2⟩ := oz.drop
    obtain ⟨W, hW⟩ : ∃ z, z = setI (setF Z 87 (nI (U + k * (n + m)))) 89 N (nI k) := ⟨_, rfl⟩
    rw [← hW] at dr1 dr2
    have fw : RBF U N X W := fz.trans ⟨dr2.fr, fun i hi => dr2.ce i (by omega), dr2.f1, dr2.ar⟩
    have head : ∀ G : Option (RS × Int32), (if tr1 (val (x ++ y)) = 1 then (m_join_L47 F rc30 u Z (nI r) (nI r2) (nI o) (nI n) (nI m) (nI N) (nI i) 1 (nI (j + 1))) else (m_join_L47 F rc30 u W (nI r) (nI r2) (nI o) (nI n) (nI m) (nI N) (nI i) met (nI (j + 1)))) = G → m_join_L47 F rc30 (u + 1) X (nI r) (nI r2) (nI o) (nI n) (nI m) (nI N) (nI i) met (nI j) = G := fun G hG => by
      rw [m_join_L47, rdI_n rl2.r4 (by decide), ob_s, rl2.m, if_neg (nI_ge (by omega) (by omega)), a1, ob_s]
      show (Option.bind (m_rowAt F X1 (nI r) (nI i)) fun v_13 => Option.bind (m_copy F X1 v_13 (nI (U + k * (n + m))) (nI n)) fun cs_14 => Option.bind (m_rowAt F cs_14 (nI r2) (nI j)) fun v_15 => Option.bind (m_copy F cs_14 v_15 (nI (U + k * (n + m)) + nI n) (nI m)) fun cs_16 => Option.bind (rdI ((setF cs_16 93 (nI (U + k * (n + m)))).2.2.1 58) 180 (nI o)) fun v_17 => Option.bind (m_truth F 300 (setF cs_16 93 (nI (U + k * (n + m)))) v_17) fun z_18 => if z_18.2 = 1 then (m_join_b150 F rc30 (m_join_L47 F rc30 u) z_18.1 (nI r) (nI r2) (nI o) (nI n) (nI m) (nI N) (nI i) 1 (nI j)) else (Option.bind (rdI ((setF z_18.1 87 ((z_18.1.1 87) - (nI n + nI m))).2.2.1 89) 400 (nI N)) fun v_20 => Option.bind (wrI (setF z_18.1 87 ((z_18.1.1 87) - (nI n + nI m))) 89 400 (nI N) (v_20 - 1)) fun cs_21 => m_join_b150 F rc30 (m_join_L47 F rc30 u) cs_21 (nI r) (nI r2) (nI o) (nI n) (nI m) (nI N) (nI i) met (nI j))) = _
      rw [a2, ob_s, a3, ob_s, a4, ob_s, a5, ob_s, rdI_n ho (by decide), ob_s, show (setF X3 93 (nI (U + k * (n + m)))).2.2.1 58 o = nI e by rw [← r58, ← fr3.a (k := 58) (by unfold rS; omega)]; rfl, et, ob_s]
      unfold m_join_b150
      have uz : Z.1 87 - (nI n + nI m) = nI (U + k * (n + m)) := by
        rw [oz.st.u, nI_add, Nat.succ_mul]
        have q := nI_add (U + k * (n + m)) (n + m)
        rw [show U + (k * (n + m) + (n + m)) = U + k * (n + m) + (n + m) by omega, ← q]
        exact Int32.add_sub_cancel _ _
      show (if tr1 (val (x ++ y)) = 1 then (m_join_L47 F rc30 u Z (nI r) (nI r2) (nI o) (nI n) (nI m) (nI N) (nI i) 1 (nI j + 1)) else (Option.bind (rdI ((setF Z 87 ((Z.1 87) - (nI n + nI m))).2.2.1 89) 400 (nI N)) fun v_20 => Option.bind (wrI (setF Z 87 ((Z.1 87) - (nI n + nI m))) 89 400 (nI N) (v_20 - 1)) fun cs_21 => m_join_L47 F rc30 u cs_21 (nI r) (nI r2) (nI o) (nI n) (nI m) (nI N) (nI i) met (nI j + 1))) = _
      rw [uz, rdI_n oz.rl.r4 (by decide), ob_s, show (setF Z 87 (nI (U + k * (n + m)))).2.2.1 89 N = nI (k + 1) from oz.rl.m, nI_pred, wrI_n oz.rl.r4 (by decide), ob_s, ← hW, nI_1]
      exact hG
    have lst : matL val x ((List.range' j (d + 1)).map (fun j => rowL rs (b2 + j * m) m)) = (if tr1 (val (x ++ y)) = 1 then [x ++ y] else []) ++ matL val x ((List.range' (j + 1) d).map (fun j => rowL rs (b2 + j * m) m)) := by
      unfold matL
      rw [List.range'_succ, List.map_cons, List.map_cons, List.filter_cons, ← hy]
      by_cases z : tr1 (val (x ++ y)) = 1
      · rw [if_pos z, if_pos (by rw [z]; rfl)]
        rfl
      · rw [if_neg z, if_neg (fun h => z (eq_of_beq h))]
        rfl
    rw [← hx]
    rw [← hx] at ih
    by_cases z : tr1 (val (x ++ y)) = 1
    · obtain ⟨Y, k', u', c1, c2, c3, c4⟩ := ih (j + 1) u (k + 1) 1 _ Z (by omega) (by omega) (by omega) (fr.trans fz.fr) ((fz.f1 97 (by decide) (by decide) (by decide)).trans z97) (fun j hj => (fz.ce j hj).trans (ce j hj)) (fz.rln rl (by omega)) (fz.rln rl2 (by omega)) oz
      refine ⟨Y, k', u', head _ ?_, by omega, ?_, fz.trans c4⟩
      · rw [if_pos z, c1, lst, if_pos z, if_neg (show ¬ ([x ++ y] ++ matL val x ((List.range' (j + 1) d).map (fun j => rowL rs (b2 + j * m) m))) = [] by intro w; cases w)]
        by_cases w : matL val x ((List.range' (j + 1) d).map (fun j => rowL rs (b2 + j * m) m)) = []
        · rw [if_pos w]
        · rw [if_neg w]
      · rw [lst, if_pos z, ← List.append_assoc]
        exact c3
    · obtain ⟨Y, k', u', c1, c2, c3, c4⟩ := ih (j + 1) u k met rows W (by omega) (by omega) (by omega) (fr.trans fw.fr) ((fw.f1 97 (by decide) (by decide) (by decide)).trans z97) (fun j hj => (fw.ce j hj).trans (ce j hj)) (fw.rln rl (by omega)) (fw.rln rl2 (by omega)) dr1
      refine ⟨Y, k', u', head _ ?_, by omega, ?_, fw.trans c4⟩
      · rw [if_neg z, c1, lst, if_neg z, List.nil_append]
      · rw [lst, if_neg z, List.nil_append]
        exact c3

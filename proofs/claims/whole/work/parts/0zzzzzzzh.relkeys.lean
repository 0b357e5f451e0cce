/-! the reference's order: keys, which row stands ahead -/
theorem s97_e {p : Nat} {X : RS} (z97 : X.1 97 = 0) : setF (setF X 93 (nI p)) 97 0 = setF X 93 (nI p) := by
  have q : (setF X 93 (nI p)).1 97 = 0 := (sF_n (by decide)).trans z97
  have e := sF_self (rs := setF X 93 (nI p)) (k := 97)
  rw [q] at e
  exact e
theorem okc_L {F U N w n q r b m i k : Nat} {val : Nat → List OV → OV} {rc17 : RS → Int32 → Int32 → Int32 → Int32 → Int32 → Option (RS × Int32)} {rows : LL} {rs : RS} (hq : q < 60) (hN : r < N) (hb : b + m * w ≤ U) (hi : i < m) (hU : U + k * n + n ≤ 400000) (h8 : n ≤ 8) (ex : ∀ j, j < n → ∃ rt, rs.2.2.1 66 (8 * q + j) = nI rt ∧ EXV F w rt (val j) rs) : ∀ (d t u : Nat) (X : RS), n = t + d → d < u → FR rS rs X → X.1 97 = 0 → (∀ j, j < U → rc X j = rc rs j) → RLN X r b w m → BRW U N n k t rows (fun j => val j (rowL rs (b + i * w) w)) X → ∃ Y, m_ordered_L39 F rc17 u X (nI q) (nI r) (nI n) (nI N) (nI i) (nI (U + k * n)) (nI t) = rc17 Y (nI q) (nI r) (nI n) (nI N) (nI (i + 1)) ∧ OUR U N n (k + 1) (rows ++ [(List.range n).map (fun j => val j (rowL rs (b + i * w) w))]) Y ∧ RBF U N X Y := by
  have q1 : (i + 1) * w ≤ m * w := Nat.mul_le_mul_right w (by omega)
  rw [Nat.succ_mul] at q1
  intro d
  induction d with
  | zero =>
    intro t u X d1 d2 fr z97 ce rl o
    obtain ⟨u, rfl⟩ : ∃ z, u = z + 1 := ⟨u - 1, by omega⟩
    have et : t = n := by omega
    rw [et] at o ⊢
    refine ⟨X, ?_, o.fin, RBF.refl⟩
    rw [m_ordered_L39, if_pos (nI_le (by omega) (by omega)), nI_1]
  | succ d ih =>
    intro t u X d1 d2 fr z97 ce rl o
    obtain ⟨u, rfl⟩ : ∃ z, u = z + 1 := ⟨u - 1, by omega⟩
    obtain ⟨rt, t1, t2⟩ := ex t (by omega)
    have rr : rowL X (b + i * w) w = rowL rs (b + i * w) w := rowL_eq ce (by omega)
    have ev := t2 X (b + i * w) 300 fr z97 o.st.fb (by omega) (by decide)
    rw [rr] at ev
    obtain ⟨Z, hZ⟩ : ∃ z, z = setF (setF X 93 (nI (b + i * w))) 92 (fl (val t (rowL rs (b + i * w) w))) := ⟨_, rfl⟩
    rw [← hZ] at ev
    have oz : BRW U N n k t rows (fun j => val j (rowL rs (b + i * w) w)) Z := by rw [hZ]; exact (o.f (Or.inr (Or.inl rfl))).f (Or.inl rfl)
    have fz : RBF U N X Z := by rw [hZ]; exact (RBF.f (Or.inr rfl)).trans (RBF.f (Or.inl rfl))
    have z92 : Z.1 92 = fl (val t (rowL rs (b + i * w) w)) := by rw [hZ]; exact sF_s
    have ff : fl (val t (rowL rs (b + i * w) w)) = 0 ∨ fl (val t (rowL rs (b + i * w) w)) = 1 := (fl_or _).imp (fun q => q.1) (fun q => q.1)
    obtain ⟨W, hW⟩ : ∃ z, z = setI (setL Z 85 (U + k * n + t) (vl (val t (rowL rs (b + i * w) w)))) 86 (U + k * n + t) (fl (val t (rowL rs (b + i * w) w))) := ⟨_, rfl⟩
    have ow : BRW U N n k (t + 1) rows (fun j => val j (rowL rs (b + i * w) w)) W := by rw [hW]; exact oz.step
    have fw : RBF U N X W := by rw [hW]; exact fz.trans (RBF.cell (by omega) ff)
    obtain ⟨Y, c1, c2, c3⟩ := ih (t + 1) u W (by omega) (by omega) (fr.trans fw.fr) ((fw.f1 97 (by decide) (by decide) (by decide)).trans z97) (fun j hj => (fw.ce j hj).trans (ce j hj)) (fw.rln rl (by omega)) ow
    refine ⟨Y, ?_, c2, fw.trans c3⟩
    rw [m_ordered_L39, if_neg (nI_ge (by omega) (by omega)), at_ok rl, ob_s, s97_e z97, nI_8, nI_add, rdI_n (by omega) (by decide), ob_s, show (setF X 93 (nI (b + i * w))).2.2.1 66 (8 * q + t) = nI rt by rw [← t1, ← fr.a (k := 66) (by unfold rS; omega)]; rfl]
    show (Option.bind (m_eval F 300 (setF X 93 (nI (b + i * w))) (nI rt)) fun z_5 => Option.bind (wrL z_5.1 85 400000 (nI (U + k * n) + nI t) z_5.2) fun cs_6 => Option.bind (wrI cs_6 86 400000 (nI (U + k * n) + nI t) (vp_nar .boolean (cs_6.1 92))) fun cs_7 => (m_ordered_L39 F rc17 u) cs_7 (nI q) (nI r) (nI n) (nI N) (nI i) (nI (U + k * n)) (nI t + 1)) = _
    rw [show m_eval F 300 (setF X 93 (nI (b + i * w))) (nI rt) = some (Z, vl (val t (rowL rs (b + i * w) w))) from ev, ob_s, cell_wr z92 (by omega), ← hW, nI_1]
    exact c1
theorem ok_L {F U N w n q r b m : Nat} {val : Nat → List OV → OV} {rs : RS} (hF : 10000 ≤ F) (hq : q < 60) (hN : r < N) (hb : b + m * w ≤ U) (hU : U + m * n ≤ 400000) (h8 : n ≤ 8) (hm : m < 5000) (ex : ∀ j, j < n → ∃ rt, rs.2.2.1 66 (8 * q + j) = nI rt ∧ EXV F w rt (val j) rs) : ∀ (d i u : Nat) (rows : LL) (X : RS), m = i + d → d < u → FR rS rs X → X.1 97 = 0 → (∀ j, j < U → rc X j = rc rs j) → RLN X r b w m → OUR U N n i rows X → ∃ Y u', m_ordered_L17 F u X (nI q) (nI r) (nI n) (nI N) (nI i) = m_ordered_L17 F (u' + 1) Y (nI q) (nI r) (nI n) (nI N) (nI m) ∧ OUR U N n m (rows ++ ((List.range' i d).map (fun i => rowL rs (b + i * w) w)).map (fun L => (List.range n).map (fun j => val j L))) Y ∧ RBF U N X Y := by
  intro d
  induction d with
  | zero =>
    intro i u rows X d1 d2 fr z97 ce rl o
    obtain ⟨u, rfl⟩ : ∃ z, u = z + 1 := ⟨u - 1, by omega⟩
    have ei : i = m := by omega
    exact ⟨X, u, by rw [ei], by rw [List.range'_zero, List.map_nil, List.map_nil, List.append_nil, ← ei]; exact o, RBF.refl⟩
  | succ d ih =>
    intro i u rows X d1 d2 fr z97 ce rl o
    obtain ⟨u, rfl⟩ : ∃ z, u = z + 1 := ⟨u - 1, by omega⟩
    have q2 : (i + 1) * n ≤ m * n := Nat.mul_le_mul_right n (by omega)
    rw [Nat.succ_mul] at q2
    obtain ⟨X1, e1, e2, e3⟩ := BRW.new (F := F) (f := fun j => val j (rowL rs (b + i * w) w)) o (by omega) (by omega)
    have f1 : RBF U N X X1 := ⟨e3.fr, fun j hj => e3.ce j (by omega), e3.f1, e3.ar⟩
    obtain ⟨X2, c1, c2, c3⟩ := okc_L (F := F) (rc17 := m_ordered_L17 F u) (val := val) (i := i) (k := i) hq hN hb (by omega) (by omega) h8 ex n 0 F X1 (by omega) (by omega) (fr.trans f1.fr) ((f1.f1 97 (by decide) (by decide) (by decide)).trans z97) (fun j hj => (f1.ce j hj).trans (ce j hj)) (f1.rln rl (by omega)) e2
    have f2 := f1.trans c3
    obtain ⟨Y, u', g1, g2, g3⟩ := ih (i + 1) u _ X2 (by omega) (by omega) (fr.trans f2.fr) ((f2.f1 97 (by decide) (by decide) (by decide)).trans z97) (fun j hj => (f2.ce j hj).trans (ce j hj)) (f2.rln rl (by omega)) c2
    refine ⟨Y, u', ?_, ?_, f2.trans g3⟩
    · rw [m_ordered_L17, rdI_n rl.r4 (by decide), ob_s, rl.m, if_neg (nI_ge (by omega) (by omega)), e1, ob_s]
      show m_ordered_L39 F (m_ordered_L17 F u) F X1 (nI q) (nI r) (nI n) (nI N) (nI i) (nI (U + i * n)) (nI 0) = _
      rw [c1]
      exact g1
    · rw [List.range'_succ, List.map_cons, List.map_cons]
      rw [List.append_assoc] at g2
      exact g2
/-- a key with its direction -/
def sgk (v : Int32) (x : OV) : Int := if v = 0 then ovk x else -ovk x
theorem ahead_L {F N w n q r b m kb i j : Nat} {dn : Nat → Int32} {X : RS} (hF : 10000 ≤ F) (hq : q < 60) (h8 : n ≤ 8) (hw : w ≤ 100) (r64 : X.2.2.1 64 q = nI n) (r67 : ∀ t, t < n → X.2.2.1 67 (8 * q + t) = dn t) (rl : RLN X r b w m) (rk : RLN X N kb n m) (hi : i < m) (hj : j < m) (hb : b + m * w ≤ 400000) (hk : kb + m * n ≤ 400000) : ∀ (d t u : Nat), n = t + d → d < u → m_ahead_L3 F X u (nI q) (nI r) (nI N) (nI i) (nI j) (nI t) = some (if lexI ((List.range' t d).map (fun s => sgk (dn s) (rc X (kb + i * n + s))) ++ (rowL X (b + i * w) w).map ovk) ((List.range' t d).map (fun s => sgk (dn s) (rc X (kb + j * n + s))) ++ (rowL X (b + j * w) w).map ovk) = true then 1 else 0) := by
  have q1 : (i + 1) * w ≤ m * w := Nat.mul_le_mul_right w (by omega)
  have q2 : (j + 1) * w ≤ m * w := Nat.mul_le_mul_right w (by omega)
  have q3 : (i + 1) * n ≤ m * n := Nat.mul_le_mul_right n (by omega)
  have q4 : (j + 1) * n ≤ m * n := Nat.mul_le_mul_right n (by omega)
  rw [Nat.succ_mul] at q1 q2 q3 q4
  intro d
  induction d with
  | zero =>
    intro t u d1 d2
    obtain ⟨u, rfl⟩ : ∃ z, u = z + 1 := ⟨u - 1, by omega⟩
    have cl := cmpL_lex (rowL X (b + i * w) w) (rowL X (b + j * w) w) (by rw [rowL_len, rowL_len])
    rw [m_ahead_L3, rdI_n hq (by decide), ob_s, r64, if_pos (nI_le (by omega) (by omega)), at_ok rl, ob_s, at_ok rl, ob_s, rdI_n rl.r4 (by decide), ob_s, rl.w, cmpR_ok hF hw (by omega) (by omega), ob_s]
    show _ = some (if lexI ((rowL X (b + i * w) w).map ovk) ((rowL X (b + j * w) w).map ovk) = true then 1 else 0)
    by_cases z : (0 : Int32) ≤ cmpL (rowL X (b + i * w) w) (rowL X (b + j * w) w)
    · rw [if_pos z, cl.mp z]
      rfl
    · rw [if_neg z]
      cases e : lexI ((rowL X (b + i * w) w).map ovk) ((rowL X (b + j * w) w).map ovk) with
      | false => exact absurd (cl.mpr e) z
      | true => rfl
  | succ d ih =>
    intro t u d1 d2
    obtain ⟨u, rfl⟩ : ∃ z, u = z + 1 := ⟨u - 1, by omega⟩
    obtain ⟨A, hA⟩ : ∃ z, z = rc X (kb + i * n + t) := ⟨_, rfl⟩
    obtain ⟨B, hB⟩ : ∃ z, z = rc X (kb + j * n + t) := ⟨_, rfl⟩
    rw [m_ahead_L3, rdI_n hq (by decide), ob_s, r64, if_neg (nI_ge (by omega) (by omega)), at_ok rk, ob_s, at_ok rk, ob_s, nI_add, nI_add, rdL_n (by omega) (by decide), ob_s, rdI_n (by omega) (by decide), ob_s, rdL_n (by omega) (by decide), ob_s, rdI_n (by omega) (by decide), ob_s, cmp_ok, ob_s, nI_1, ih (t + 1) u (by omega) (by omega), nI_8, nI_add, rdI_n (by omega) (by decide), ob_s, r67 t (by omega), ← hA, ← hB, List.range'_succ, List.map_cons, List.map_cons, List.cons_append, List.cons_append, ← hA, ← hB]
    obtain ⟨P, hP⟩ : ∃ z, z = (List.range' (t + 1) d).map (fun s => sgk (dn s) (rc X (kb + i * n + s))) ++ (rowL X (b + i * w) w).map ovk := ⟨_, rfl⟩
    obtain ⟨Q, hQ⟩ : ∃ z, z = (List.range' (t + 1) d).map (fun s => sgk (dn s) (rc X (kb + j * n + s))) ++ (rowL X (b + j * w) w).map ovk := ⟨_, rfl⟩
    rw [← hP, ← hQ]
    show _ = some (if (if sgk (dn t) A = sgk (dn t) B then lexI P Q else decide (sgk (dn t) A < sgk (dn t) B)) = true then 1 else 0)
    by_cases z : cmpO A B = 0
    · rw [if_pos z, if_pos (show sgk (dn t) A = sgk (dn t) B by rw [cmpO_0.mp z])]
    · have z2 : ¬ ovk A = ovk B := fun w => z (cmpO_0.mpr (ovk_inj _ _ w))
      rw [if_neg z]
      unfold sgk
      by_cases y : dn t = 0
      · rw [if_pos y, if_pos y, if_pos y, if_neg z2]
        by_cases x : (0 : Int32) ≤ cmpO A B
        · have x2 := cmpO_le.mp x
          rw [if_pos x, decide_eq_false (show ¬ ovk A < ovk B by omega)]
          rfl
        · have x2 : ¬ ovk B ≤ ovk A := fun w => x (cmpO_le.mpr w)
          rw [if_neg x, decide_eq_true (show ovk A < ovk B by omega)]
          rfl
      · rw [if_neg y, if_neg y, if_neg y, if_neg (show ¬ -ovk A = -ovk B by omega)]
        by_cases x : cmpO A B ≤ (0 : Int32)
        · have x2 := cmpO_ge.mp x
          rw [if_pos x, decide_eq_false (show ¬ -ovk A < -ovk B by omega)]
          rfl
        · have x2 : ¬ ovk A ≤ ovk B := fun w => x (cmpO_ge.mpr w)
          rw [if_neg x, decide_eq_true (show -ovk A < -ovk B by omega)]
          rfl
theorem ahead_ok {F N w n q r b m kb i j : Nat} {dn : Nat → Int32} {val : Nat → List OV → OV} {X : RS} (hF : 10000 ≤ F) (hq : q < 60) (h8 : n ≤ 8) (hw : w ≤ 100) (r64 : X.2.2.1 64 q = nI n) (r67 : ∀ t, t < n → X.2.2.1 67 (8 * q + t) = dn t) (rl : RLN X r b w m) (rk : RLN X N kb n m) (hi : i < m) (hj : j < m) (hb : b + m * w ≤ 400000) (hk : kb + m * n ≤ 400000) (ky : ∀ i s, i < m → s < n → rc X (kb + i * n + s) = val s (rowL X (b + i * w) w)) : m_ahead F X (nI q) (nI r) (nI N) (nI i) (nI j) = some (if lexI (okey n dn val (rowL X (b + i * w) w)) (okey n dn val (rowL X (b + j * w) w)) = true then 1 else 0) := by
  have q := ahead_L (F := F) (dn := dn) hF hq h8 hw r64 r67 rl rk hi hj hb hk n 0 F (by omega) (by omega)
  have k1 : ∀ i, i < m → (List.range' 0 n).map (fun s => sgk (dn s) (rc X (kb + i * n + s))) = (List.range n).map (fun s => if dn s = 0 then ovk (val s (rowL X (b + i * w) w)) else -ovk (val s (rowL X (b + i * w) w))) := fun i hi => by
    rw [← List.range_eq_range']
    refine List.map_congr_left (fun s hs => ?_)
    rw [ky i s hi (List.mem_range.mp hs)]
    rfl
  rw [k1 i hi, k1 j hj] at q
  exact q

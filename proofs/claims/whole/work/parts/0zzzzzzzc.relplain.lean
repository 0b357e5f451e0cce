/-! the reference's relations: rows of computed cells -/
theorem fl_or (x : OV) : (fl x = 0 ∧ x = some (vl x)) ∨ (fl x = 1 ∧ x = none) := by
  cases x with
  | none => exact Or.inr ⟨rfl, rfl⟩
  | some v => exact Or.inl ⟨rfl, rfl⟩
theorem cell_wr {α : Type} {G : RS → Option α} {to k : Nat} {x : OV} {Z : RS} (h92 : Z.1 92 = fl x) (hk : to + k < 400000) : (Option.bind (wrL Z 85 400000 (nI to + nI k) (vl x)) fun a => Option.bind (wrI a 86 400000 (nI to + nI k) (vp_nar .boolean (a.1 92))) fun b => G b) = G (setI (setL Z 85 (to + k) (vl x)) 86 (to + k) (fl x)) := by
  have fz : fl x = 0 ∨ fl x = 1 := (fl_or x).imp (fun q => q.1) (fun q => q.1)
  rw [nI_add, wrL_n hk (by decide), ob_s, show (setL Z 85 (to + k) (vl x)).1 92 = fl x from h92, nar_b fz, wrI_n hk (by decide), ob_s]
abbrev LL : Type := List (List OV)
/-- the last row of the last relation, t of its cells laid -/
def BRW (U N w k t : Nat) (rows : LL) (f : Nat → OV) (X : RS) : Prop := (RST (U + k * w + w) (N + 1) X) ∧ (RLN X N U w (k + 1)) ∧ (rowsL X U w k = rows) ∧ (∀ j, j < t → rc X (U + k * w + j) = f j)
theorem BRW.st {U N w k t : Nat} {rows : LL} {f : Nat → OV} {X : RS} (h : BRW U N w k t rows f X) : RST (U + k * w + w) (N + 1) X := h.1
theorem BRW.rl {U N w k t : Nat} {rows : LL} {f : Nat → OV} {X : RS} (h : BRW U N w k t rows f X) : RLN X N U w (k + 1) := h.2.1
theorem BRW.rw' {U N w k t : Nat} {rows : LL} {f : Nat → OV} {X : RS} (h : BRW U N w k t rows f X) : rowsL X U w k = rows := h.2.2.1
theorem BRW.ce {U N w k t : Nat} {rows : LL} {f : Nat → OV} {X : RS} (h : BRW U N w k t rows f X) : ∀ j, j < t → rc X (U + k * w + j) = f j := h.2.2.2
theorem BRW.f {U N w k t q : Nat} {rows : List (List OV)} {f : Nat → OV} {X : RS} {v : Int32} (h : BRW U N w k t rows f X) (hq : q = 92 ∨ q = 93 ∨ q = 97) : BRW U N w k t rows f (setF X q v) := ⟨⟨(sF_n (by omega)).trans h.st.u, (sF_n (by omega)).trans h.st.n, h.st.u4, h.st.n4, h.st.fb⟩, ⟨h.rl.r4, h.rl.b, h.rl.m, h.rl.w⟩, h.rw', h.ce⟩
theorem BRW.step {U N w k t : Nat} {rows : List (List OV)} {f : Nat → OV} {X : RS} (h : BRW U N w k t rows f X) : BRW U N w k (t + 1) rows f (setI (setL X 85 (U + k * w + t) (vl (f t))) 86 (U + k * w + t) (fl (f t))) := by
  have fz : fl (f t) = 0 ∨ fl (f t) = 1 := (fl_or (f t)).imp (fun q => q.1) (fun q => q.1)
  have cw : RCW X (setI (setL X 85 (U + k * w + t) (vl (f t))) 86 (U + k * w + t) (fl (f t))) := RCW.st fz
  have cs := cell_st (rs := X) (i := U + k * w + t) (v := vl (f t)) (b := fl (f t)) (x := f t) (fl_or (f t))
  refine ⟨cw.rst h.st, cw.rln h.rl, ?_, fun j hj => ?_⟩
  · rw [← h.rw']
    exact rows_eq (U := U + k * w) (fun i hi => by rw [cs i, if_neg (by omega)]) (Nat.le_refl _)
  · rw [cs]
    by_cases q : j = t
    · rw [if_pos (by omega), q]
    · rw [if_neg (by omega)]
      exact h.ce j (by omega)
theorem BRW.fin {U N w k : Nat} {rows : List (List OV)} {f : Nat → OV} {X : RS} (h : BRW U N w k w rows f X) : OUR U N w (k + 1) (rows ++ [(List.range w).map f]) X := by
  refine ⟨by rw [show U + (k + 1) * w = U + k * w + w by rw [Nat.succ_mul]; omega]; exact h.st, h.rl, ?_⟩
  rw [rows_succ, h.rw']
  have q : rowL X (U + k * w) w = (List.range w).map f := List.map_congr_left (fun j hj => h.ce j (List.mem_range.mp hj))
  rw [q]
theorem BRW.new {F U N w k : Nat} {rows : List (List OV)} {f : Nat → OV} {X : RS} (h : OUR U N w k rows X) (hu : U + k * w + w ≤ 400000) (hk : k < 9999) : ∃ X1, m_newRow F X (nI N) = some (X1, nI (U + k * w)) ∧ BRW U N w k 0 rows f X1 ∧ RBF (U + k * w) N X X1 := by
  obtain ⟨X1, e1, e2, e3, e4, e5, e6, e7, e8⟩ := row_ok (F := F) h.st h.rl hu (by omega)
  refine ⟨X1, e1, ⟨e2, e3, ?_, fun j hj => absurd hj (by omega)⟩, ⟨e5, fun i _ => e4 i, fun q a _ _ => e6 q a, fun q r _ b => e7 q r b⟩⟩
  rw [← h.rw']
  exact rows_eq (U := U + k * w) (fun i _ => e4 i) (Nat.le_refl _)
theorem RBF.cell {U N i : Nat} {v : Int64} {b : Int32} {X : RS} (hi : U ≤ i) (hb : b = 0 ∨ b = 1) : RBF U N X (setI (setL X 85 i v) 86 i b) := by
  have cw : RCW X (setI (setL X 85 i v) 86 i b) := RCW.st hb
  refine ⟨cw.fr, fun j hj => ?_, fun q _ _ _ => by rw [cw.f1], fun q r a _ => by rw [cw.a1 q a]⟩
  unfold rc
  rw [sIa_n (by omega)]
  show (if X.2.2.1 86 j = 0 then some ((setL X 85 i v).2.2.2 85 j) else none) = _
  rw [sLl_n (by omega)]
/-- the cells of one row of items -/
theorem plc_L {F U N w mi e r b m i k : Nat} {val : Nat → List OV → OV} {rc14 : RS → Int32 → Int32 → Int32 → Int32 → Option (RS × Int32)} {rows : List (List OV)} {rs : RS} (he : e < 60) (hN : r < N) (hb : b + m * w ≤ U) (hi : i < m) (hU : U + k * mi + mi ≤ 400000) (h8 : mi ≤ 8) (r36 : rs.2.2.1 36 e = nI mi) (ex : ∀ j, j < mi → ∃ rt, rs.2.2.1 44 (8 * e + j) = nI rt ∧ EXV F w rt (val j) rs) : ∀ (d t u : Nat) (X : RS), mi = t + d → d < u → FR rS rs X → X.1 97 = 0 → (∀ j, j < U → rc X j = rc rs j) → RLN X r b w m → BRW U N mi k t rows (fun j => val j (rowL rs (b + i * w) w)) X → ∃ Y, m_plain_L35 F rc14 u X (nI e) (nI r) (nI N) (nI i) (nI (U + k * mi)) (nI t) = rc14 Y (nI e) (nI r) (nI N) (nI (i + 1)) ∧ OUR U N mi (k + 1) (rows ++ [(List.range mi).map (fun j => val j (rowL rs (b + i * w) w))]) Y ∧ RBF U N X Y := by
  have q1 : (i + 1) * w ≤ m * w := Nat.mul_le_mul_right w (by omega)
  rw [Nat.succ_mul] at q1
  intro d
  induction d with
  | zero =>
    intro t u X d1 d2 fr z97 ce rl o
    obtain ⟨u, rfl⟩ : ∃ z, u = z + 1 := ⟨u - 1, by omega⟩
    have et : t = mi := by omega
    rw [et] at o ⊢
    refine ⟨X, ?_, o.fin, RBF.refl⟩
    rw [m_plain_L35, rdI_n he (by decide), ob_s, fr.a (k := 36) (by unfold rS; omega), r36, if_pos (nI_le (by omega) (by omega)), nI_1]
  | succ d ih =>
    intro t u X d1 d2 fr z97 ce rl o
    obtain ⟨u, rfl⟩ : ∃ z, u = z + 1 := ⟨u - 1, by omega⟩
    obtain ⟨rt, t1, t2⟩ := ex t (by omega)
    have rr : rowL X (b + i * w) w = rowL rs (b + i * w) w := rowL_eq ce (by omega)
    have ev := t2 X (b + i * w) 300 fr z97 o.st.fb (by omega) (by decide)
    rw [rr] at ev
    obtain ⟨Z, hZ⟩ : ∃ z, z = setF (setF X 93 (nI (b + i * w))) 92 (fl (val t (rowL rs (b + i * w) w))) := ⟨_, rfl⟩
    rw [← hZ] at ev
    have oz : BRW U N mi k t rows (fun j => val j (rowL rs (b + i * w) w)) Z := by rw [hZ]; exact (o.f (Or.inr (Or.inl rfl))).f (Or.inl rfl)
    have fz : RBF U N X Z := by rw [hZ]; exact (RBF.f (Or.inr rfl)).trans (RBF.f (Or.inl rfl))
    have z92 : Z.1 92 = fl (val t (rowL rs (b + i * w) w)) := by rw [hZ]; exact sF_s
    have ff : fl (val t (rowL rs (b + i * w) w)) = 0 ∨ fl (val t (rowL rs (b + i * w) w)) = 1 := (fl_or _).imp (fun q => q.1) (fun q => q.1)
    obtain ⟨W, hW⟩ : ∃ z, z = setI (setL Z 85 (U + k * mi + t) (vl (val t (rowL rs (b + i * w) w)))) 86 (U + k * mi + t) (fl (val t (rowL rs (b + i * w) w))) := ⟨_, rfl⟩
    have ow : BRW U N mi k (t + 1) rows (fun j => val j (rowL rs (b + i * w) w)) W := by rw [hW]; exact oz.step
    have fw : RBF U N X W := by rw [hW]; exact fz.trans (RBF.cell (by omega) ff)
    obtain ⟨Y, c1, c2, c3⟩ := ih (t + 1) u W (by omega) (by omega) (fr.trans fw.fr) ((fw.f1 97 (by decide) (by decide) (by decide)).trans z97) (fun j hj => (fw.ce j hj).trans (ce j hj)) (fw.rln rl (by omega)) ow
    refine ⟨Y, ?_, c2, fw.trans c3⟩
    rw [m_plain_L35, rdI_n he (by decide), ob_s, fr.a (k := 36) (by unfold rS; omega), r36, if_neg (nI_ge (by omega) (by omega)), at_ok rl, ob_s, nI_8, nI_add, rdI_n (by omega) (by decide), ob_s, show (setF X 93 (nI (b + i * w))).2.2.1 44 (8 * e + t) = nI rt by rw [← t1, ← fr.a (k := 44) (by unfold rS; omega)]; rfl]
    show (Option.bind (m_eval F 300 (setF X 93 (nI (b + i * w))) (nI rt)) fun z_5 => Option.bind (wrL z_5.1 85 400000 (nI (U + k * mi) + nI t) z_5.2) fun cs_6 => Option.bind (wrI cs_6 86 400000 (nI (U + k * mi) + nI t) (vp_nar .boolean (cs_6.1 92))) fun cs_7 => (m_plain_L35 F rc14 u) cs_7 (nI e) (nI r) (nI N) (nI i) (nI (U + k * mi)) (nI t + 1)) = _
    rw [show m_eval F 300 (setF X 93 (nI (b + i * w))) (nI rt) = some (Z, vl (val t (rowL rs (b + i * w) w))) from ev, ob_s, cell_wr z92 (by omega), ← hW, nI_1]
    exact c1
theorem pl_L {F U N w mi e r b m : Nat} {val : Nat → List OV → OV} {rs : RS} (hF : 10000 ≤ F) (he : e < 60) (hN : r < N) (hb : b + m * w ≤ U) (hU : U + m * mi ≤ 400000) (h8 : mi ≤ 8) (hm : m < 5000) (r36 : rs.2.2.1 36 e = nI mi) (ex : ∀ j, j < mi → ∃ rt, rs.2.2.1 44 (8 * e + j) = nI rt ∧ EXV F w rt (val j) rs) : ∀ (d i u : Nat) (rows : List (List OV)) (X : RS), m = i + d → d < u → FR rS rs X → X.1 97 = 0 → (∀ j, j < U → rc X j = rc rs j) → RLN X r b w m → OUR U N mi i rows X → ∃ Y, m_plain_L14 F u X (nI e) (nI r) (nI N) (nI i) = some (Y, nI N) ∧ OUR U N mi m (rows ++ ((List.range' i d).map (fun i => rowL rs (b + i * w) w)).map (fun L => (List.range mi).map (fun j => val j L))) Y ∧ RBF U N X Y := by
  intro d
  induction d with
  | zero =>
    intro i u rows X d1 d2 fr z97 ce rl o
    obtain ⟨u, rfl⟩ : ∃ z, u = z + 1 := ⟨u - 1, by omega⟩
    have ei : i = m := by omega
    refine ⟨X, ?_, by rw [List.range'_zero, List.map_nil, List.map_nil, List.append_nil, ← ei]; exact o, RBF.refl⟩
    rw [m_plain_L14, rdI_n rl.r4 (by decide), ob_s, rl.m, if_pos (nI_le (by omega) (by omega))]
  | succ d ih =>
    intro i u rows X d1 d2 fr z97 ce rl o
    obtain ⟨u, rfl⟩ : ∃ z, u = z + 1 := ⟨u - 1, by omega⟩
    have q2 : (i + 1) * mi ≤ m * mi := Nat.mul_le_mul_right mi (by omega)
    rw [Nat.succ_mul] at q2
    obtain ⟨X1, e1, e2, e3⟩ := BRW.new (F := F) (f := fun j => val j (rowL rs (b + i * w) w)) o (by omega) (by omega)
    have f1 : RBF U N X X1 := ⟨e3.fr, fun j hj => e3.ce j (by omega), e3.f1, e3.ar⟩
    obtain ⟨X2, c1, c2, c3⟩ := plc_L (F := F) (rc14 := m_plain_L14 F u) (val := val) (i := i) (k := i) he hN hb (by omega) (by omega) h8 r36 ex mi 0 F X1 (by omega) (by omega) (fr.trans f1.fr) ((f1.f1 97 (by decide) (by decide) (by decide)).trans z97) (fun j hj => (f1.ce j hj).trans (ce j hj)) (f1.rln rl (by omega)) e2
    have f2 := f1.trans c3
    obtain ⟨Y, g1, g2, g3⟩ := ih (i + 1) u _ X2 (by omega) (by omega) (fr.trans f2.fr) ((f2.f1 97 (by decide) (by decide) (by decide)).trans z97) (fun j hj => (f2.ce j hj).trans (ce j hj)) (f2.rln rl (by omega)) c2
    refine ⟨Y, ?_, ?_, f2.trans g3⟩
    · rw [m_plain_L14, rdI_n rl.r4 (by decide), ob_s, rl.m, if_neg (nI_ge (by omega) (by omega)), e1, ob_s]
      show m_plain_L35 F (m_plain_L14 F u) F X1 (nI e) (nI r) (nI N) (nI i) (nI (U + i * mi)) (nI 0) = _
      rw [c1]
      exact g1
    · rw [List.range'_succ, List.map_cons, List.map_cons]
      rw [List.append_assoc] at g2
      exact g2
theorem plain_ok {F U N w mi e r b m : Nat} {val : Nat → List OV → OV} {rs : RS} (hF : 10000 ≤ F) (he : e < 60) (hr : r < N) (hN : N < 400) (hb : b + m * w ≤ U) (hU : U + m * mi ≤ 400000) (h8 : mi ≤ 8) (hm : m < 5000) (r36 : rs.2.2.1 36 e = nI mi) (ex : ∀ j, j < mi → ∃ rt, rs.2.2.1 44 (8 * e + j) = nI rt ∧ EXV F w rt (val j) rs) (z97 : rs.1 97 = 0) (st : RST U N rs) (rl : RLN rs r b w m) : ∃ rs', m_plain F rs (nI e) (nI r) = some (rs', nI N) ∧ ROP U N mi m ((rowsL rs b w m).map (fun L => (List.range mi).map (fun j => val j L))) rs rs' := by
  obtain ⟨X, e1, e2, e3, e4, e5, e6, e7⟩ := rel_ok (F := F) (w := mi) st hN
  have rl1 : RLN X r b w m := ⟨rl.r4, by rw [e7 88 r (by omega)]; exact rl.b, by rw [e7 89 r (by omega)]; exact rl.m, by rw [e7 90 r (by omega)]; exact rl.w⟩
  have o : OUR U N mi 0 [] X := ⟨by rw [Nat.zero_mul, Nat.add_zero]; exact e2, e4, rfl⟩
  obtain ⟨Y, b1, b3, b4⟩ := pl_L (N := N) hF he hr hb hU h8 hm r36 ex m 0 F [] X (by omega) (by omega) e3.fr ((e6 97 (by decide)).trans z97) (fun j _ => e5 j) rl1 o
  refine ⟨Y, ?_, ?_⟩
  · unfold m_plain
    rw [rdI_n he (by decide), ob_s, r36, e1, ob_s]
    exact b1
  · rw [List.nil_append, ← List.range_eq_range'] at b3
    exact ROP.of b3 (Nat.le_refl _) e3 b4 e6

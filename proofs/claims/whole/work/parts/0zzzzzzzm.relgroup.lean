/-! the reference's groups: having and items -/
/-- an EXPR is computed by the reference over a group -/
def EXG (F w ng e : Nat) (val : List OV → LL → OV) (rs : RS) : Prop := ∀ (X : RS) (r b m gi p n : Nat), FR rS rs X → X.1 97 = 1 → X.1 95 = nI r → X.1 96 = nI gi → X.1 94 = nI p → (∀ i, X.2.2.1 86 i = 0 ∨ X.2.2.1 86 i = 1) → RLN X r b w m → m ≤ 600 → b + m * w ≤ 400000 → p + 100 ≤ 400000 → 290 ≤ n → (tab_truth F n).2.1 X (nI e) = some (setF X 92 (fl (val (rowL X p ng) (memL X b w gi 0 m))), vl (val (rowL X p ng) (memL X b w gi 0 m)))
theorem EXG.fr {F w ng e : Nat} {val : List OV → LL → OV} {a b : RS} (h : EXG F w ng e val a) (g : FR rS a b) : EXG F w ng e val b := fun X r b m gi p n h1 => h X r b m gi p n (g.trans h1)
theorem memL_eq {x y : RS} {b w gi m U : Nat} (h : ∀ i, i < U → rc y i = rc x i) (h98 : ∀ i, i < m → y.2.2.1 98 i = x.2.2.1 98 i) (hb : b + m * w ≤ U) : memL y b w gi 0 m = memL x b w gi 0 m := by
  unfold memL
  rw [← List.range_eq_range', List.filter_congr (fun i hi => by rw [h98 i (List.mem_range.mp hi)])]
  refine List.map_congr_left (fun i hi => ?_)
  have hi' := List.mem_range.mp (List.mem_filter.mp hi).1
  have q : (i + 1) * w ≤ m * w := Nat.mul_le_mul_right w (by omega)
  rw [Nat.succ_mul] at q
  exact rowL_eq h (by omega)
theorem gic_L {F U N N1 w ng mi e r b m gi p k cnt : Nat} {val : Nat → List OV → LL → OV} {rc216 : RS → Int32 → Int32 → Int32 → Int32 → Int32 → Int32 → Option (RS × Int32)} {rows : LL} {rs Y0 : RS} (he : e < 60) (hr : r < N) (hb : b + m * w ≤ U) (hm : m ≤ 600) (hp : p + ng ≤ U ∧ p + 100 ≤ 400000) (hU : U + k * mi + mi ≤ 400000) (h8 : mi ≤ 8) (r36 : rs.2.2.1 36 e = nI mi) (ex : ∀ j, j < mi → ∃ rt, rs.2.2.1 44 (8 * e + j) = nI rt ∧ EXG F w ng rt (val j) rs) : ∀ (d t u : Nat) (X : RS), mi = t + d → d < u → FR rS rs X → X.1 97 = 1 → X.1 95 = nI r → X.1 96 = nI gi → X.1 94 = nI p → (∀ j, j < U → rc X j = rc Y0 j) → (∀ j, j < m → X.2.2.1 98 j = Y0.2.2.1 98 j) → RLN X r b w m → BRW U N mi k t rows (fun j => val j (rowL Y0 p ng) (memL Y0 b w gi 0 m)) X → ∃ Y, m_grouped_L286 F rc216 u X (nI e) (nI r) (nI N1) (nI cnt) (nI N) (nI gi) (nI (U + k * mi)) (nI t) = rc216 (setF Y 97 0) (nI e) (nI r) (nI N1) (nI cnt) (nI N) (nI (gi + 1)) ∧ OUR U N mi (k + 1) (rows ++ [(List.range mi).map (fun j => val j (rowL Y0 p ng) (memL Y0 b w gi 0 m))]) Y ∧ RBF U N X Y := by
  intro d
  induction d with
  | zero =>
    intro t u X d1 d2 fr x97 x95 x96 x94 ce e98 rl o
    obtain ⟨u, rfl⟩ : ∃ z, u = z + 1 := ⟨u - 1, by omega⟩
    have et : t = mi := by omega
    rw [et] at o ⊢
    refine ⟨X, ?_, o.fin, RBF.refl⟩
    rw [m_grouped_L286, rdI_n he (by decide), ob_s, fr.a (k := 36) (by unfold rS; omega), r36, if_pos (nI_le (by omega) (by omega))]
    unfold m_grouped_b343
    rw [nI_1]
  | succ d ih =>
    intro t u X d1 d2 fr x97 x95 x96 x94 ce e98 rl o
    obtain ⟨u, rfl⟩ : ∃ z, u = z + 1 := ⟨u - 1, by omega⟩
    obtain ⟨rt, t1, t2⟩ := ex t (by omega)
    have hb4 := o.st.u4
    have ev := t2 X r b m gi p 300 fr x97 x95 x96 x94 o.st.fb rl hm (by omega) hp.2 (by decide)
    rw [rowL_eq ce (show p + ng ≤ U from hp.1), memL_eq ce e98 hb] at ev
    obtain ⟨x, hx⟩ : ∃ z, z = val t (rowL Y0 p ng) (memL Y0 b w gi 0 m) := ⟨_, rfl⟩
    rw [← hx] at ev
    obtain ⟨Z, hZ⟩ : ∃ z, z = setF X 92 (fl x) := ⟨_, rfl⟩
    rw [← hZ] at ev
    have oz : BRW U N mi k t rows (fun j => val j (rowL Y0 p ng) (memL Y0 b w gi 0 m)) Z := by rw [hZ]; exact o.f (Or.inl rfl)
    have fz : RBF U N X Z := by rw [hZ]; exact RBF.f (Or.inl rfl)
    have z92 : Z.1 92 = fl x := by rw [hZ]; exact sF_s
    have ff : fl x = 0 ∨ fl x = 1 := (fl_or _).imp (fun q => q.1) (fun q => q.1)
    obtain ⟨W, hW⟩ : ∃ z, z = setI (setL Z 85 (U + k * mi + t) (vl x)) 86 (U + k * mi + t) (fl x) := ⟨_, rfl⟩
    have ow : BRW U N mi k (t + 1) rows (fun j => val j (rowL Y0 p ng) (memL Y0 b w gi 0 m)) W := by rw [hW, hx]; exact oz.step
    have fw : RBF U N X W := by rw [hW]; exact fz.trans (RBF.cell (by omega) ff)
    obtain ⟨Y, c1, c2, c3⟩ := ih (t + 1) u W (by omega) (by omega) (fr.trans fw.fr) ((fw.f1 97 (by decide) (by decide) (by decide)).trans x97) ((fw.f1 95 (by decide) (by decide) (by decide)).trans x95) ((fw.f1 96 (by decide) (by decide) (by decide)).trans x96) ((fw.f1 94 (by decide) (by decide) (by decide)).trans x94) (fun j hj => (fw.ce j hj).trans (ce j hj)) (fun j hj => (fw.ar 98 j (by decide) (by omega)).trans (e98 j hj)) (fw.rln rl (by omega)) ow
    refine ⟨Y, ?_, c2, fw.trans c3⟩
    rw [m_grouped_L286, rdI_n he (by decide), ob_s, fr.a (k := 36) (by unfold rS; omega), r36, if_neg (nI_ge (by omega) (by omega)), nI_8, nI_add, rdI_n (by omega) (by decide), ob_s, fr.a (k := 44) (by unfold rS; omega), t1]
    show (Option.bind (m_eval F 300 X (nI rt)) fun z_4 => Option.bind (wrL z_4.1 85 400000 (nI (U + k * mi) + nI t) z_4.2) fun cs_5 => Option.bind (wrI cs_5 86 400000 (nI (U + k * mi) + nI t) (vp_nar .boolean (cs_5.1 92))) fun cs_6 => (m_grouped_L286 F rc216 u) cs_6 (nI e) (nI r) (nI N1) (nI cnt) (nI N) (nI gi) (nI (U + k * mi)) (nI t + 1)) = _
    rw [show m_eval F 300 X (nI rt) = some (Z, vl x) from ev, ob_s, cell_wr z92 (by omega), ← hW, nI_1]
    exact c1
/-- whether a group stays -/
def hvB (hv : Option (List OV → LL → OV)) (g : List OV) (mem : LL) : Bool := match hv with
  | none => true
  | some h => tr1 (h g mem) == 1
def HVX (F w ng : Nat) (v : Int32) (hv : Option (List OV → LL → OV)) (rs : RS) : Prop := match hv with
  | none => v = -1
  | some h => ∃ rt, v = nI rt ∧ rt < 120 ∧ EXG F w ng rt h rs
theorem EXG.tr {F w ng e r b m gi p : Nat} {val : List OV → LL → OV} {rs X : RS} (h : EXG F w ng e val rs) (h1 : FR rS rs X) (h2 : X.1 97 = 1) (h3 : X.1 95 = nI r) (h4 : X.1 96 = nI gi) (h5 : X.1 94 = nI p) (h6 : ∀ i, X.2.2.1 86 i = 0 ∨ X.2.2.1 86 i = 1) (h7 : RLN X r b w m) (h8 : m ≤ 600) (h9 : b + m * w ≤ 400000) (h10 : p + 100 ≤ 400000) : m_truth F 300 X (nI e) = some (setF X 92 (fl (val (rowL X p ng) (memL X b w gi 0 m))), tr1 (val (rowL X p ng) (memL X b w gi 0 m))) := by
  have q := h X r b m gi p 299 h1 h2 h3 h4 h5 h6 h7 h8 h9 h10 (by decide)
  have e1 : setF X 92 (X.1 92) = X := sF_self
  show b_truth F (tab_truth F 299) X (nI e) = _
  obtain ⟨x, hx⟩ : ∃ z, z = val (rowL X p ng) (memL X b w gi 0 m) := ⟨_, rfl⟩
  rw [← hx] at q ⊢
  have t := truth_ok (F := F) (T := tab_truth F 299) (rs := X) (v := X.1 92) (w := nI e) (x := x) (by rw [e1]; exact q)
  rw [e1] at t
  exact t
/-- what the loop over groups leaves alone -/
def RBG (U N : Nat) (X Y : RS) : Prop := (FR rS X Y) ∧ (∀ i, i < U → rc Y i = rc X i) ∧ (Y.1 97 = 0) ∧ (∀ q r, q ≠ 86 → ¬ (q = 89 ∧ r = N) → Y.2.2.1 q r = X.2.2.1 q r)
theorem RBG.fr {U N : Nat} {X Y : RS} (h : RBG U N X Y) : FR rS X Y := h.1
theorem RBG.ce {U N : Nat} {X Y : RS} (h : RBG U N X Y) : ∀ i, i < U → rc Y i = rc X i := h.2.1
theorem RBG.z97 {U N : Nat} {X Y : RS} (h : RBG U N X Y) : Y.1 97 = 0 := h.2.2.1
theorem RBG.ar {U N : Nat} {X Y : RS} (h : RBG U N X Y) : ∀ q r, q ≠ 86 → ¬ (q = 89 ∧ r = N) → Y.2.2.1 q r = X.2.2.1 q r := h.2.2.2
theorem OUR.fg {U N w k q : Nat} {rows : List (List OV)} {X : RS} {v : Int32} (h : OUR U N w k rows X) (hq : q ≠ 87 ∧ q ≠ 91) : OUR U N w k rows (setF X q v) := ⟨⟨(sF_n (by omega)).trans h.st.u, (sF_n (by omega)).trans h.st.n, h.st.u4, h.st.n4, h.st.fb⟩, ⟨h.rl.r4, h.rl.b, h.rl.m, h.rl.w⟩, h.rw'⟩

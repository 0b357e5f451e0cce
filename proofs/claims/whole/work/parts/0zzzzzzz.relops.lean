/-! the reference's relations: rows laid one behind another -/
theorem sF_self {rs : RS} {k : Nat} : setF rs k (rs.1 k) = rs := by
  have h : upd rs.1 k (rs.1 k) = rs.1 := funext fun j => by
    by_cases e : j = k
    · rw [e, pk_us]
    · rw [pk_un e]
  show (upd rs.1 k (rs.1 k), rs.2) = rs
  rw [h]
/-- the relation N, the last one, with the rows so far -/
def OUR (U N w k : Nat) (rows : List (List OV)) (X : RS) : Prop := (RST (U + k * w) (N + 1) X) ∧ (RLN X N U w k) ∧ (rowsL X U w k = rows)
theorem OUR.st {U N w k : Nat} (rows : List (List OV)) {X : RS} (h : OUR U N w k rows X) : RST (U + k * w) (N + 1) X := h.1
theorem OUR.rl {U N w k : Nat} (rows : List (List OV)) {X : RS} (h : OUR U N w k rows X) : RLN X N U w k := h.2.1
theorem OUR.rw' {U N w k : Nat} (rows : List (List OV)) {X : RS} (h : OUR U N w k rows X) : rowsL X U w k = rows := h.2.2
/-- what building it leaves alone -/
def RBF (U N : Nat) (X Y : RS) : Prop := (FR rS X Y) ∧ (∀ i, i < U → rc Y i = rc X i) ∧ (∀ q, q ≠ 87 → q ≠ 92 → q ≠ 93 → Y.1 q = X.1 q) ∧ (∀ q r, q ≠ 86 → ¬ (q = 89 ∧ r = N) → Y.2.2.1 q r = X.2.2.1 q r)
theorem RBF.fr {U N : Nat} {X Y : RS} (h : RBF U N X Y) : FR rS X Y := h.1
theorem RBF.ce {U N : Nat} {X Y : RS} (h : RBF U N X Y) : ∀ i, i < U → rc Y i = rc X i := h.2.1
theorem RBF.f1 {U N : Nat} {X Y : RS} (h : RBF U N X Y) : ∀ q, q ≠ 87 → q ≠ 92 → q ≠ 93 → Y.1 q = X.1 q := h.2.2.1
theorem RBF.ar {U N : Nat} {X Y : RS} (h : RBF U N X Y) : ∀ q r, q ≠ 86 → ¬ (q = 89 ∧ r = N) → Y.2.2.1 q r = X.2.2.1 q r := h.2.2.2
theorem RBF.refl {U N : Nat} {X : RS} : RBF U N X X := ⟨FR.refl X, fun _ _ => rfl, fun _ _ _ _ => rfl, fun _ _ _ _ => rfl⟩
theorem RBF.trans {U N : Nat} {X Y Z : RS} (h : RBF U N X Y) (g : RBF U N Y Z) : RBF U N X Z := ⟨h.fr.trans g.fr, fun i hi => (g.ce i hi).trans (h.ce i hi), fun q a b c => (g.f1 q a b c).trans (h.f1 q a b c), fun q r a b => (g.ar q r a b).trans (h.ar q r a b)⟩
theorem RBF.f {U N k : Nat} {X : RS} {v : Int32} (h : k = 92 ∨ k = 93) : RBF U N X (setF X k v) := ⟨FR.setF (by unfold rS; omega), fun _ _ => rfl, fun q a b c => sF_n (by omega), fun _ _ _ _ => rfl⟩
theorem RBF.rln {U N r b w m : Nat} {X Y : RS} (h : RBF U N X Y) (g : RLN X r b w m) (hr : r ≠ N) : RLN Y r b w m := ⟨g.r4, by rw [h.ar 88 r (by decide) (by omega)]; exact g.b, by rw [h.ar 89 r (by decide) (by omega)]; exact g.m, by rw [h.ar 90 r (by decide) (by omega)]; exact g.w⟩
theorem RBF.ro {U N : Nat} {X Y : RS} (h : RBF U N X Y) : RO U N X Y := ⟨h.fr, h.ce, fun q r q1 q2 hr => h.ar q r (by omega) (by omega)⟩
theorem OUR.f {U N w k q : Nat} {rows : List (List OV)} {X : RS} {v : Int32} (h : OUR U N w k rows X) (hq : q = 92 ∨ q = 93) : OUR U N w k rows (setF X q v) := ⟨⟨(sF_n (by omega)).trans h.st.u, (sF_n (by omega)).trans h.st.n, h.st.u4, h.st.n4, h.st.fb⟩, ⟨h.rl.r4, h.rl.b, h.rl.m, h.rl.w⟩, h.rw'⟩
/-- a row copied to the end -/
theorem app_ok {F U N w k p : Nat} {rows : List (List OV)} {X : RS} (hF : 10000 ≤ F) (h : OUR U N w k rows X) (hw : w ≤ 100) (hu : U + k * w + w ≤ 400000) (hk : k < 9999) (hp : p + w ≤ U + k * w) : ∃ X1 X2, m_newRow F X (nI N) = some (X1, nI (U + k * w)) ∧ m_copy F X1 (nI p) (nI (U + k * w)) (nI w) = some X2 ∧ OUR U N w (k + 1) (rows ++ [rowL X p w]) X2 ∧ RBF (U + k * w) N X X2 ∧ RBF (U + k * w) N X X1 := by
  obtain ⟨X1, e1, e2, e3, e4, e5, e6, e7, e8⟩ := row_ok (F := F) h.st h.rl hu (by omega)
  obtain ⟨X2, c1, c2, c3, c4, c5⟩ := copy_ok (F := F) (fr := p) (to := U + k * w) (n := w) (rs := X1) hF hw hu hp e2.fb
  have b1 : RBF (U + k * w) N X X1 := ⟨e5, fun i _ => e4 i, fun q a _ _ => e6 q a, fun q r _ b => e7 q r b⟩
  have b2 : RBF (U + k * w) N X1 X2 := ⟨c2.fr, c3, fun q _ _ _ => by rw [c2.f1], fun q r a _ => by rw [c2.a1 q a]⟩
  refine ⟨X1, X2, e1, c1, ⟨?_, c2.rln e3, ?_⟩, b1.trans b2, b1⟩
  · rw [show U + (k + 1) * w = U + k * w + w by rw [Nat.succ_mul]; omega]
    exact c2.rst e2
  · rw [rows_succ, c4, rows_eq c3 (Nat.le_refl _), rows_eq (U := U + k * w) (fun i _ => e4 i) (Nat.le_refl _), h.rw', rowL_eq (U := U + k * w) (fun i _ => e4 i) hp]
/-- an EXPR is computed by the reference over a row of w cells -/
def EXV (F w e : Nat) (val : List OV → OV) (rs : RS) : Prop := ∀ (X : RS) (p n : Nat), FR rS rs X → X.1 97 = 0 → (∀ i, X.2.2.1 86 i = 0 ∨ X.2.2.1 86 i = 1) → p + w ≤ 400000 → 290 ≤ n → (tab_truth F n).2.1 (setF X 93 (nI p)) (nI e) = some (setF (setF X 93 (nI p)) 92 (fl (val (rowL X p w))), vl (val (rowL X p w)))
theorem EXV.fr {F w e : Nat} {val : List OV → OV} {a b : RS} (h : EXV F w e val a) (g : FR rS a b) : EXV F w e val b := fun X p n h1 => h X p n (g.trans h1)
theorem EXV.tr {F w e p : Nat} {val : List OV → OV} {rs X : RS} (h : EXV F w e val rs) (h1 : FR rS rs X) (h2 : X.1 97 = 0) (h3 : ∀ i, X.2.2.1 86 i = 0 ∨ X.2.2.1 86 i = 1) (h4 : p + w ≤ 400000) : m_truth F 300 (setF X 93 (nI p)) (nI e) = some (setF (setF X 93 (nI p)) 92 (fl (val (rowL X p w))), tr1 (val (rowL X p w))) := by
  have q := h X p 299 h1 h2 h3 h4 (by decide)
  have e1 : setF (setF X 93 (nI p)) 92 ((setF X 93 (nI p)).1 92) = setF X 93 (nI p) := sF_self
  show b_truth F (tab_truth F 299) (setF X 93 (nI p)) (nI e) = _
  rw [← e1] at q ⊢
  rw [truth_ok (rs := setF X 93 (nI p)) (x := val (rowL X p w)) (by rw [q, s92]), s92]
/-- the same, by the EXPR's own depth -/
def EXA (F w e : Nat) (val : List OV → OV) (rs : RS) : Prop := ∀ (X : RS) (p n : Nat), FR rS rs X → X.1 97 = 0 → (∀ i, X.2.2.1 86 i = 0 ∨ X.2.2.1 86 i = 1) → p + w ≤ 400000 → 2 * e + 4 ≤ n → (tab_truth F n).2.1 (setF X 93 (nI p)) (nI e) = some (setF (setF X 93 (nI p)) 92 (fl (val (rowL X p w))), vl (val (rowL X p w)))
theorem EXA.exv {F w e : Nat} {val : List OV → OV} {a : RS} (h : EXA F w e val a) (he : e < 120) : EXV F w e val a := fun X p n h1 h2 h3 h4 h5 => h X p n h1 h2 h3 h4 (by omega)
theorem EXA.fr {F w e : Nat} {val : List OV → OV} {a b : RS} (h : EXA F w e val a) (g : FR rS a b) : EXA F w e val b := fun X p n h1 => h X p n (g.trans h1)
theorem EXA.of {F s w d r a R : Nat} {V : VT} {cl : Nat → Nat} {rs : RS} (hF : 10000 ≤ F) (hs : s ≤ 120) (hr : r < s) (vw : ∀ y, y < s → RW rs y = (V y).2) (t : TR V d R a r) (co : ∀ y, a ≤ y → y ≤ r → rk V y = 5 → rs.2.2.1 33 y = nI (cl y) ∧ cl y < w) (na : ∀ y, a ≤ y → y ≤ r → ¬ (rk V y = 20 ∨ rk V y = 21 ∨ rk V y = 22 ∨ rk V y = 23 ∨ rk V y = 24)) : EXA F w r (fun L => EV V (fun y => L.getD (cl y) none) (fun _ => none) r) rs := fun X p n h1 h2 h3 h4 h5 => by
  have e1 : setF (setF X 93 (nI p)) 92 ((setF X 93 (nI p)).1 92) = setF X 93 (nI p) := sF_self
  have ra : ∀ q, ¬ rS q → X.2.2.1 q = rs.2.2.1 q := fun q hq => h1.a hq
  have h : EVH F s V (fun y => (rowL X p w).getD (cl y) none) (fun _ => none) a r (setF X 93 (nI p)) := by
    refine ⟨fun y hy => ?_, hs, fun y y1 y2 y3 => ?_, fun y y1 y2 y3 => absurd y3 (na y y1 y2)⟩
    · rw [← vw y hy]
      show RW X y = RW rs y
      unfold RW
      rw [ra 23 (by unfold rS; omega), ra 24 (by unfold rS; omega), ra 25 (by unfold rS; omega), ra 26 (by unfold rS; omega), ra 27 (by unfold rS; omega), h1.l (k := 28) (by unfold rS; omega), ra 29 (by unfold rS; omega), ra 32 (by unfold rS; omega), ra 30 (by unfold rS; omega)]
    · obtain ⟨c1, c2⟩ := co y y1 y2 y3
      refine ⟨p + cl y, ?_, by omega, ?_⟩
      · rw [if_pos (show (setF X 93 (nI p)).1 97 = 0 from (sF_n (by decide)).trans h2), sF_s, show (setF X 93 (nI p)).2.2.1 33 y = nI (cl y) by rw [← c1, ← ra 33 (by unfold rS; omega)]; rfl, nI_add]
      · show (X.2.2.1 86 (p + cl y) = 0 ∧ (rowL X p w).getD (cl y) none = some (X.2.2.2 85 (p + cl y))) ∨ (X.2.2.1 86 (p + cl y) = 1 ∧ (rowL X p w).getD (cl y) none = none)
        rw [rowL_get c2]
        unfold rc
        rcases h3 (p + cl y) with q | q
        · exact Or.inl ⟨q, if_pos q⟩
        · exact Or.inr ⟨q, if_neg (by rw [q]; decide)⟩
  have q := ev_R hF h d R a r t (Nat.le_refl _) (Nat.le_refl _) hr n ((setF X 93 (nI p)).1 92) h5
  rw [e1] at q
  exact q
/-- rows that an EXPR holds of -/
theorem filt_L {F U N w e r b m : Nat} {val : List OV → OV} {rs : RS} (hF : 10000 ≤ F) (hw : w ≤ 100) (hN : r < N) (hb : b + m * w ≤ U) (hU : U + m * w ≤ 400000) (hm : m < 5000) (ex : EXV F w e val rs) : ∀ (d i u k : Nat) (rows : List (List OV)) (X : RS), m = i + d → d < u → k ≤ i → FR rS rs X → X.1 97 = 0 → (∀ j, j < U → rc X j = rc rs j) → RLN X r b w m → OUR U N w k rows X → ∃ Y k', m_filter_L14 F u X (nI r) (nI e) (nI N) (nI i) = some (Y, nI N) ∧ k' ≤ m ∧ OUR U N w k' (rows ++ ((List.range' i d).map (fun i => rowL rs (b + i * w) w)).filter (fun L => tr1 (val L) == 1)) Y ∧ RBF U N X Y := by
  intro d
  induction d with
  | zero =>
    intro i u k rows X d1 d2 d3 fr z97 ce rl o
    obtain ⟨u, rfl⟩ : ∃ z, u = z + 1 := ⟨u - 1, by omega⟩
    refine ⟨X, k, ?_, by omega, by rw [List.range'_zero, List.map_nil, List.filter_nil, List.append_nil]; exact o, RBF.refl⟩
    rw [m_filter_L14, rdI_n rl.r4 (by decide), ob_s, rl.m, if_pos (nI_le (by omega) (by omega))]
  | succ d ih =>
    intro i u k rows X d1 d2 d3 fr z97 ce rl o
    obtain ⟨u, rfl⟩ : ∃ z, u = z + 1 := ⟨u - 1, by omega⟩
    have q1 : (i + 1) * w ≤ m * w := Nat.mul_le_mul_right w (by omega)
    rw [Nat.succ_mul] at q1
    have q2 : (k + 1) * w ≤ m * w := Nat.mul_le_mul_right w (by omega)
    rw [Nat.succ_mul] at q2
    have rr : rowL X (b + i * w) w = rowL rs (b + i * w) w := rowL_eq ce (by omega)
    have et := ex.tr (p := b + i * w) fr z97 o.st.fb (by omega)
    rw [rr] at et
    obtain ⟨X1, hX1⟩ : ∃ z, z = setF (setF X 93 (nI (b + i * w))) 92 (fl (val (rowL rs (b + i * w) w))) := ⟨_, rfl⟩
    rw [← hX1] at et
    have o1 : OUR U N w k rows X1 := by rw [hX1]; exact (o.f (Or.inr rfl)).f (Or.inl rfl)
    have f1 : RBF U N X X1 := by rw [hX1]; exact (RBF.f (Or.inr rfl)).trans (RBF.f (Or.inl rfl))
    have x93 : X1.1 93 = nI (b + i * w) := by rw [hX1, sF_n (by decide)]; exact sF_s
    have x97 : X1.1 97 = 0 := (f1.f1 97 (by decide) (by decide) (by decide)).trans z97
    have rl1 := f1.rln rl (by omega)
    have head : ∀ G : Option (RS × Int32), (if tr1 (val (rowL rs (b + i * w) w)) = 1 then (Option.bind (m_newRow F X1 (nI N)) fun z_6 => Option.bind (rdI (z_6.1.2.2.1 90) 400 (nI r)) fun v_7 => Option.bind (m_copy F z_6.1 (nI (b + i * w)) z_6.2 v_7) fun cs_8 => m_filter_L14 F u cs_8 (nI r) (nI e) (nI N) (nI (i + 1))) else (m_filter_L14 F u X1 (nI r) (nI e) (nI N) (nI (i + 1)))) = G → m_filter_L14 F (u + 1) X (nI r) (nI e) (nI N) (nI i) = G := fun G hG => by
      rw [m_filter_L14, rdI_n rl.r4 (by decide), ob_s, rl.m, if_neg (nI_ge (by omega) (by omega)), at_ok rl, ob_s, et, ob_s]
      unfold m_filter_b68
      rw [x93, nI_1]
      exact hG
    have lst : ((List.range' i (d + 1)).map (fun i => rowL rs (b + i * w) w)).filter (fun L => tr1 (val L) == 1) = (if tr1 (val (rowL rs (b + i * w) w)) = 1 then [rowL rs (b + i * w) w] else []) ++ ((List.range' (i + 1) d).map (fun i => rowL rs (b + i * w) w)).filter (fun L => tr1 (val L) == 1) := by
      rw [List.range'_succ, List.map_cons, List.filter_cons]
      by_cases z : tr1 (val (rowL rs (b + i * w) w)) = 1
      · rw [if_pos z, if_pos (by rw [z]; rfl)]
        rfl
      · rw [if_neg z, if_neg (fun h => z (eq_of_beq h))]
        rfl
    by_cases z : tr1 (val (rowL rs (b + i * w) w)) = 1
    · obtain ⟨X2, X3, a1, a2, a3, a4, a5⟩ := app_ok (F := F) (p := b + i * w) hF o1 hw (by omega) (by omega) (by omega)
      have f3 : RBF U N X1 X3 := ⟨a4.fr, fun j hj => a4.ce j (by omega), a4.f1, a4.ar⟩
      have f03 := f1.trans f3
      obtain ⟨Y, k', b1, b2, b3, b4⟩ := ih (i + 1) u (k + 1) _ X3 (by omega) (by omega) (by omega) (fr.trans f03.fr) ((f03.f1 97 (by decide) (by decide) (by decide)).trans z97) (fun j hj => (f03.ce j hj).trans (ce j hj)) (f03.rln rl (by omega)) a3
      refine ⟨Y, k', head _ ?_, b2, ?_, f03.trans b4⟩
      · rw [if_pos z, a1, ob_s]
        show (Option.bind (rdI (X2.2.2.1 90) 400 (nI r)) fun v_7 => Option.bind (m_copy F X2 (nI (b + i * w)) (nI (U + k * w)) v_7) fun cs_8 => m_filter_L14 F u cs_8 (nI r) (nI e) (nI N) (nI (i + 1))) = _
        rw [rdI_n rl.r4 (by decide), ob_s, a5.ar 90 r (by decide) (by omega), rl1.w, a2, ob_s]
        exact b1
      · have r1 : rowL X1 (b + i * w) w = rowL rs (b + i * w) w := (rowL_eq (U := U) f1.ce (by omega)).trans rr
        rw [lst, if_pos z, ← List.append_assoc]
        rw [r1] at b3
        exact b3
    · obtain ⟨Y, k', b1, b2, b3, b4⟩ := ih (i + 1) u k rows X1 (by omega) (by omega) (by omega) (fr.trans f1.fr) x97 (fun j hj => (f1.ce j hj).trans (ce j hj)) rl1 o1
      refine ⟨Y, k', head _ (by rw [if_neg z]; exact b1), b2, ?_, f1.trans b4⟩
      rw [lst, if_neg z, List.nil_append]
      exact b3

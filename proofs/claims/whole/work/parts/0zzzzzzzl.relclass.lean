/-! the reference's groups: the keys and whose row is whose -/
def gix : LL → List OV → Nat
  | [], _ => 0
  | x :: xs, y => if x = y then 0 else gix xs y + 1
theorem gix_lt : ∀ {l : LL} {y : List OV}, y ∈ l → gix l y < l.length
  | [], _, h => by cases h
  | x :: xs, y, h => by
    show (if x = y then 0 else gix xs y + 1) < xs.length + 1
    by_cases q : x = y
    · rw [if_pos q]; omega
    · rw [if_neg q]
      have := gix_lt ((List.mem_cons.mp h).resolve_left (fun w => q w.symm))
      omega
theorem gix_no : ∀ {l : LL} {y : List OV}, y ∉ l → gix l y = l.length
  | [], _, _ => rfl
  | x :: xs, y, h => by
    show (if x = y then 0 else gix xs y + 1) = xs.length + 1
    rw [if_neg (fun w => h (List.mem_cons.mpr (Or.inl w.symm))), gix_no (fun w => h (List.mem_cons.mpr (Or.inr w)))]
theorem gix_app : ∀ {l k : LL} {y : List OV}, y ∈ l → gix (l ++ k) y = gix l y
  | [], _, _, h => by cases h
  | x :: xs, k, y, h => by
    show (if x = y then 0 else gix (xs ++ k) y + 1) = (if x = y then 0 else gix xs y + 1)
    by_cases q : x = y
    · rw [if_pos q, if_pos q]
    · rw [if_neg q, if_neg q, gix_app ((List.mem_cons.mp h).resolve_left (fun w => q w.symm))]
theorem gix_new : ∀ {l : LL} {y : List OV}, y ∉ l → gix (l ++ [y]) y = l.length
  | [], y, _ => by
    show (if y = y then 0 else gix [] y + 1) = 0
    rw [if_pos rfl]
  | x :: xs, y, h => by
    show (if x = y then 0 else gix (xs ++ [y]) y + 1) = xs.length + 1
    rw [if_neg (fun w => h (List.mem_cons.mpr (Or.inl w.symm))), gix_new (fun w => h (List.mem_cons.mpr (Or.inr w)))]
theorem gix_inj : ∀ {l : LL} {y z : List OV}, y ∈ l → gix l y = gix l z → y = z
  | [], _, _, h, _ => by cases h
  | x :: xs, y, z, h, e => by
    have e' : (if x = y then 0 else gix xs y + 1) = (if x = z then 0 else gix xs z + 1) := e
    by_cases q : x = y
    · by_cases p : x = z
      · exact q.symm.trans p
      · rw [if_pos q, if_neg p] at e'
        omega
    · by_cases p : x = z
      · rw [if_neg q, if_pos p] at e'
        omega
      · rw [if_neg q, if_neg p] at e'
        exact gix_inj ((List.mem_cons.mp h).resolve_left (fun w => q w.symm)) (by omega)
theorem gix_get : ∀ {l : LL} {i : Nat}, l.Nodup → i < l.length → gix l (l.getD i []) = i ∧ l.getD i [] ∈ l
  | [], i, _, h => absurd h (Nat.not_lt_zero i)
  | x :: xs, 0, _, _ => by
    refine ⟨?_, List.mem_cons_self⟩
    show (if x = x then 0 else gix xs x + 1) = 0
    rw [if_pos rfl]
  | x :: xs, i + 1, nd, h => by
    obtain ⟨n1, n2⟩ := List.nodup_cons.mp nd
    obtain ⟨g1, g2⟩ := gix_get (i := i) n2 (Nat.lt_of_succ_lt_succ h)
    refine ⟨?_, List.mem_cons_of_mem _ g2⟩
    show (if x = xs.getD i [] then 0 else gix xs (xs.getD i []) + 1) = i + 1
    rw [if_neg (fun w => n1 (by rw [w]; exact g2)), g1]
theorem stpO_nd {l : LL} {y : List OV} (h : l.Nodup) : (stpO l y).Nodup := by
  unfold stpO
  by_cases q : y ∈ l
  · rw [if_pos q]; exact h
  · rw [if_neg q]
    exact (List.perm_append_singleton y l).symm.nodup (List.nodup_cons.mpr ⟨q, h⟩)
/-- what classing leaves alone -/
def RB8 (U N : Nat) (X Y : RS) : Prop := (FR rS X Y) ∧ (∀ i, i < U → rc Y i = rc X i) ∧ (∀ q, q ≠ 87 → q ≠ 92 → q ≠ 93 → Y.1 q = X.1 q) ∧ (∀ q r, q ≠ 86 → q ≠ 98 → ¬ (q = 89 ∧ r = N) → Y.2.2.1 q r = X.2.2.1 q r)
theorem RB8.fr {U N : Nat} {X Y : RS} (h : RB8 U N X Y) : FR rS X Y := h.1
theorem RB8.ce {U N : Nat} {X Y : RS} (h : RB8 U N X Y) : ∀ i, i < U → rc Y i = rc X i := h.2.1
theorem RB8.f1 {U N : Nat} {X Y : RS} (h : RB8 U N X Y) : ∀ q, q ≠ 87 → q ≠ 92 → q ≠ 93 → Y.1 q = X.1 q := h.2.2.1
theorem RB8.ar {U N : Nat} {X Y : RS} (h : RB8 U N X Y) : ∀ q r, q ≠ 86 → q ≠ 98 → ¬ (q = 89 ∧ r = N) → Y.2.2.1 q r = X.2.2.1 q r := h.2.2.2
theorem RB8.refl {U N : Nat} {X : RS} : RB8 U N X X := ⟨FR.refl X, fun _ _ => rfl, fun _ _ _ _ => rfl, fun _ _ _ _ _ => rfl⟩
theorem RB8.trans {U N : Nat} {X Y Z : RS} (h : RB8 U N X Y) (g : RB8 U N Y Z) : RB8 U N X Z := ⟨h.fr.trans g.fr, fun i hi => (g.ce i hi).trans (h.ce i hi), fun q a b c => (g.f1 q a b c).trans (h.f1 q a b c), fun q r a b c => (g.ar q r a b c).trans (h.ar q r a b c)⟩
theorem RBF.r8 {U N : Nat} {X Y : RS} (h : RBF U N X Y) : RB8 U N X Y := ⟨h.fr, h.ce, h.f1, fun q r a _ b => h.ar q r a b⟩
theorem RB8.s {U N i : Nat} {X : RS} {v : Int32} : RB8 U N X (setI X 98 i v) := by
  refine ⟨FR.setI (by unfold rS; omega), fun j _ => ?_, fun _ _ _ _ => rfl, fun q r _ b _ => sIa_n (by omega)⟩
  unfold rc
  rw [sIa_n (by omega)]
  rfl
theorem RB8.rln {U N r b w m : Nat} {X Y : RS} (h : RB8 U N X Y) (g : RLN X r b w m) (hr : r ≠ N) : RLN Y r b w m := ⟨g.r4, by rw [h.ar 88 r (by decide) (by decide) (by omega)]; exact g.b, by rw [h.ar 89 r (by decide) (by decide) (by omega)]; exact g.m, by rw [h.ar 90 r (by decide) (by decide) (by omega)]; exact g.w⟩
theorem RB8.ro {U N : Nat} {X Y : RS} (h : RB8 U N X Y) : RO U N X Y := ⟨h.fr, h.ce, fun q r q1 q2 hr => h.ar q r (by omega) (by omega) (by omega)⟩
theorem OUR.s8 {U N w k i : Nat} {rows : List (List OV)} {X : RS} {v : Int32} (h : OUR U N w k rows X) : OUR U N w k rows (setI X 98 i v) := by
  refine ⟨⟨h.st.u, h.st.n, h.st.u4, h.st.n4, fun j => by rw [sIa_n (by omega)]; exact h.st.fb j⟩, ⟨h.rl.r4, by rw [sIa_n (by omega)]; exact h.rl.b, by rw [sIa_n (by omega)]; exact h.rl.m, by rw [sIa_n (by omega)]; exact h.rl.w⟩, ?_⟩
  rw [← h.rw']
  exact rows_eq (U := U + k * w) (RB8.s (U := U + k * w) (N := N)).ce (Nat.le_refl _)
theorem gkc_L {F U N w n q r b m i k : Nat} {val : Nat → List OV → OV} {rc20 : RS → Int32 → Int32 → Int32 → Int32 → Int32 → Int32 → Option (RS × Int32)} {rows : LL} {rs : RS} (hq : q < 60) (hN : r < N) (hb : b + m * w ≤ U) (hi : i < m) (hU : U + k * n + n ≤ 400000) (h8 : n ≤ 8) (ex : ∀ j, j < n → ∃ rt, rs.2.2.1 47 (8 * q + j) = nI rt ∧ EXV F w rt (val j) rs) : ∀ (d t u : Nat) (X : RS), n = t + d → d < u → FR rS rs X → X.1 97 = 0 → (∀ j, j < U → rc X j = rc rs j) → RLN X r b w m → BRW U N n k t rows (fun j => val j (rowL rs (b + i * w) w)) X → ∃ Y, m_grouped_L42 F rc20 u X (nI q) (nI r) (nI n) (nI N) (nI k) (nI i) (nI (U + k * n)) (nI t) = m_grouped_L108 F rc20 F Y (nI q) (nI r) (nI n) (nI N) (nI k) (nI i) (nI (U + k * n)) (nI 0) ∧ OUR U N n (k + 1) (rows ++ [(List.range n).map (fun j => val j (rowL rs (b + i * w) w))]) Y ∧ RBF U N X Y := by
  have q1 : (i + 1) * w ≤ m * w := Nat.mul_le_mul_right w (by omega)
  rw [Nat.succ_mul] at q1
  intro d
  induction d with
  | zero =>
    intro t u X d1 d2 fr z97 ce rl o
    obtain ⟨u, rfl⟩ : ∃ z, u = z + 1 := ⟨u - 1, by omega⟩
    have et : t = n := by omega
    rw [et] at o ⊢
    refine ⟨X, ?_, o.fin, RBF.refl⟩
    rw [m_grouped_L42, if_pos (nI_le (by omega) (by omega))]
    rfl
  | succ d ih =>
    intro t u X d1 d2 fr z97 ce rl o
    obtain ⟨u, rfl⟩ : ∃ z, u = z + 1 := ⟨u - 1, by omega⟩
    obtain ⟨rt, t1, t2⟩ := ex t (by omega)
    have rr : rowL X (b + i * w) w = rowL rs (b + i * w) w := rowL_eq ce (by omega)
    have ev := t2 X (b + i * w) 300 fr z97 o.st.fb (by omega) (by decide)
    rw [rr] at ev
    obtain ⟨Z, hZ⟩ : ∃ z, z = setF (setF X 93 (nI (b + i * w))) 92 (fl (val t (rowL rs (b + i * w) w))) := ⟨_, rfl⟩
    rw [← hZ] at ev
    have oz : BRW U N n k t rows (fun j => val j (rowL rs (b + i * w) w)) Z := by rw [hZ]; exact (o.f (Or.inr (Or.inl rfl))).f (Or.inl rfl)
    have fz : RBF U N X Z := by rw [hZ]; exact (RBF.f (Or.inr rfl)).trans (RBF.f (Or.inl rfl))
    have z92 : Z.1 92 = fl (val t (rowL rs (b + i * w) w)) := by rw [hZ]; exact sF_s
    have ff : fl (val t (rowL rs (b + i * w) w)) = 0 ∨ fl (val t (rowL rs (b + i * w) w)) = 1 := (fl_or _).imp (fun q => q.1) (fun q => q.1)
    obtain ⟨W, hW⟩ : ∃ z, z = setI (setL Z 85 (U + k * n + t) (vl (val t (rowL rs (b + i * w) w)))) 86 (U + k * n + t) (fl (val t (rowL rs (b + i * w) w))) := ⟨_, rfl⟩
    have ow : BRW U N n k (t + 1) rows (fun j => val j (rowL rs (b + i * w) w)) W := by rw [hW]; exact oz.step
    have fw : RBF U N X W := by rw [hW]; exact fz.trans (RBF.cell (by omega) ff)
    obtain ⟨Y, c1, c2, c3⟩ := ih (t + 1) u W (by omega) (by omega) (fr.trans fw.fr) ((fw.f1 97 (by decide) (by decide) (by decide)).trans z97) (fun j hj => (fw.ce j hj).trans (ce j hj)) (fw.rln rl (by omega)) ow
    refine ⟨Y, ?_, c2, fw.trans c3⟩
    rw [m_grouped_L42, if_neg (nI_ge (by omega) (by omega)), at_ok rl, ob_s, nI_8, nI_add, rdI_n (by omega) (by decide), ob_s, show (setF X 93 (nI (b + i * w))).2.2.1 47 (8 * q + t) = nI rt by rw [← t1, ← fr.a (k := 47) (by unfold rS; omega)]; rfl]
    show (Option.bind (m_eval F 300 (setF X 93 (nI (b + i * w))) (nI rt)) fun z_5 => Option.bind (wrL z_5.1 85 400000 (nI (U + k * n) + nI t) z_5.2) fun cs_6 => Option.bind (wrI cs_6 86 400000 (nI (U + k * n) + nI t) (vp_nar .boolean (cs_6.1 92))) fun cs_7 => (m_grouped_L42 F rc20 u) cs_7 (nI q) (nI r) (nI n) (nI N) (nI k) (nI i) (nI (U + k * n)) (nI t + 1)) = _
    rw [show m_eval F 300 (setF X 93 (nI (b + i * w))) (nI rt) = some (Z, vl (val t (rowL rs (b + i * w) w))) from ev, ob_s, cell_wr z92 (by omega), ← hW, nI_1]
    exact c1
theorem cls_L {F U N n q r i k : Nat} {rc20 : RS → Int32 → Int32 → Int32 → Int32 → Int32 → Int32 → Option (RS × Int32)} {X : RS} (hF : 10000 ≤ F) (rl : RLN X N U n (k + 1)) (h8 : n ≤ 8) (hU : U + k * n + n ≤ 400000) (hk : k < 5000) : ∀ (d t u : Nat), k = t + d → d < u → m_grouped_L108 F rc20 u X (nI q) (nI r) (nI n) (nI N) (nI k) (nI i) (nI (U + k * n)) (nI t) = m_grouped_b139 F rc20 X (nI q) (nI r) (nI n) (nI N) (nI k) (nI i) (nI (t + gix ((List.range' t d).map (fun c => rowL X (U + c * n) n)) (rowL X (U + k * n) n))) := by
  intro d
  induction d with
  | zero =>
    intro t u d1 d2
    obtain ⟨u, rfl⟩ : ∃ z, u = z + 1 := ⟨u - 1, by omega⟩
    rw [m_grouped_L108, if_pos (nI_le (by omega) (by omega))]
    rfl
  | succ d ih =>
    intro t u d1 d2
    obtain ⟨u, rfl⟩ : ∃ z, u = z + 1 := ⟨u - 1, by omega⟩
    have q1 : (t + 1) * n ≤ k * n := Nat.mul_le_mul_right n (by omega)
    rw [Nat.succ_mul] at q1
    have e0 := cmpL_0 (rowL X (U + t * n) n) (rowL X (U + k * n) n) (by rw [rowL_len, rowL_len])
    rw [m_grouped_L108, if_neg (nI_ge (by omega) (by omega)), at_ok rl, ob_s, cmpR_ok hF (by omega) (by omega) (by omega), ob_s, nI_1, ih (t + 1) u (by omega) (by omega), List.range'_succ, List.map_cons]
    obtain ⟨L, hL⟩ : ∃ z, z = (List.range' (t + 1) d).map (fun c => rowL X (U + c * n) n) := ⟨_, rfl⟩
    rw [← hL]
    have gg : gix (rowL X (U + t * n) n :: L) (rowL X (U + k * n) n) = if rowL X (U + t * n) n = rowL X (U + k * n) n then 0 else gix L (rowL X (U + k * n) n) + 1 := rfl
    by_cases z : cmpL (rowL X (U + t * n) n) (rowL X (U + k * n) n) = 0
    · rw [if_pos z, gg, if_pos (e0.mp z), Nat.add_zero]
    · rw [if_neg z, gg, if_neg (fun w => z (e0.mpr w)), show t + (gix L (rowL X (U + k * n) n) + 1) = t + 1 + gix L (rowL X (U + k * n) n) by omega]
theorem gr_L {F U N w n q r b m : Nat} {val : Nat → List OV → OV} {rs : RS} (hF : 10000 ≤ F) (hq : q < 60) (hN : r < N) (hb : b + m * w ≤ U) (hU : U + m * n ≤ 400000) (h8 : n ≤ 8) (hm : m ≤ 600) (ex : ∀ j, j < n → ∃ rt, rs.2.2.1 47 (8 * q + j) = nI rt ∧ EXV F w rt (val j) rs) : ∀ (d i u k : Nat) (gl : LL) (X : RS), m = i + d → d < u → k ≤ i → FR rS rs X → X.1 97 = 0 → (∀ j, j < U → rc X j = rc rs j) → RLN X r b w m → OUR U N n k gl X → gl.Nodup → (∀ j, j < i → X.2.2.1 98 j = nI (gix gl ((List.range n).map (fun s => val s (rowL rs (b + j * w) w)))) ∧ (List.range n).map (fun s => val s (rowL rs (b + j * w) w)) ∈ gl) → ∃ Y k' u' G, m_grouped_L20 F u X (nI q) (nI r) (nI n) (nI N) (nI k) (nI i) = m_grouped_L20 F (u' + 1) Y (nI q) (nI r) (nI n) (nI N) (nI k') (nI m) ∧ k' ≤ m ∧ G = (((List.range' i d).map (fun i => rowL rs (b + i * w) w)).map (fun L => (List.range n).map (fun s => val s L))).foldl stpO gl ∧ OUR U N n k' G Y ∧ G.Nodup ∧ (∀ j, j < m → Y.2.2.1 98 j = nI (gix G ((List.range n).map (fun s => val s (rowL rs (b + j * w) w)))) ∧ (List.range n).map (fun s => val s (rowL rs (b + j * w) w)) ∈ G) ∧ RB8 U N X Y := by
  intro d
  induction d with
  | zero =>
    intro i u k gl X d1 d2 d3 fr z97 ce rl o nd mb
    obtain ⟨u, rfl⟩ : ∃ z, u = z + 1 := ⟨u - 1, by omega⟩
    have ei : i = m := by omega
    rw [ei] at mb
    exact ⟨X, k, u, gl, by rw [ei], by omega, rfl, o, nd, mb, RB8.refl⟩
  | succ d ih =>
    intro i u k gl X d1 d2 d3 fr z97 ce rl o nd mb
    obtain ⟨u, rfl⟩ : ∃ z, u = z + 1 := ⟨u - 1, by omega⟩
    have q2 : (k + 1) * n ≤ m * n := Nat.mul_le_mul_right n (by omega)
    rw [Nat.succ_mul] at q2
    obtain ⟨X1, e1, e2, e3⟩ := BRW.new (F := F) (f := fun j => val j (rowL rs (b + i * w) w)) o (by omega) (by omega)
    have f1 : RBF U N X X1 := ⟨e3.fr, fun j hj => e3.ce j (by omega), e3.f1, e3.ar⟩
    obtain ⟨X2, c1, c2, c3⟩ := gkc_L (F := F) (rc20 := m_grouped_L20 F u) (val := val) (i := i) (k := k) hq hN hb (by omega) (by omega) h8 ex n 0 F X1 (by omega) (by omega) (fr.trans f1.fr) ((f1.f1 97 (by decide) (by decide) (by decide)).trans z97) (fun j hj => (f1.ce j hj).trans (ce j hj)) (f1.rln rl (by omega)) e2
    obtain ⟨y, hy⟩ : ∃ z, z = (List.range n).map (fun j => val j (rowL rs (b + i * w) w)) := ⟨_, rfl⟩
    rw [← hy] at c2
    have f2 := f1.trans c3
    have pr : rowsL X2 U n k = gl ∧ rowL X2 (U + k * n) n = y := by
      have q := c2.rw'
      rw [rows_succ] at q
      have q' := List.append_inj_right' q rfl
      exact ⟨List.append_inj_left' q rfl, (List.cons.inj q').1⟩
    have cl := cls_L (F := F) (q := q) (r := r) (i := i) (rc20 := m_grouped_L20 F u) (X := X2) hF c2.rl h8 (by omega) (by omega) k 0 F (by omega) (by omega)
    have eg : (List.range' 0 k).map (fun c => rowL X2 (U + c * n) n) = gl := by
      rw [← List.range_eq_range']
      exact pr.1
    rw [eg, pr.2, Nat.zero_add] at cl
    have hd : m_grouped_L20 F (u + 1) X (nI q) (nI r) (nI n) (nI N) (nI k) (nI i) = m_grouped_b139 F (m_grouped_L20 F u) X2 (nI q) (nI r) (nI n) (nI N) (nI k) (nI i) (nI (gix gl y)) := by
      rw [m_grouped_L20, rdI_n rl.r4 (by decide), ob_s, rl.m, if_neg (nI_ge (by omega) (by omega)), e1, ob_s]
      show m_grouped_L42 F (m_grouped_L20 F u) F X1 (nI q) (nI r) (nI n) (nI N) (nI k) (nI i) (nI (U + k * n)) (nI 0) = _
      rw [c1]
      exact cl
    have gll := o.len
    have lst : ((List.range' i (d + 1)).map (fun i => rowL rs (b + i * w) w)).map (fun L => (List.range n).map (fun s => val s L)) = y :: ((List.range' (i + 1) d).map (fun i => rowL rs (b + i * w) w)).map (fun L => (List.range n).map (fun s => val s L)) := by
      rw [List.range'_succ, List.map_cons, List.map_cons, ← hy]
    -- what follows, once the row has its class
    have fin : ∀ (W : RS) (k2 : Nat) (g2 : LL), m_grouped_L20 F (u + 1) X (nI q) (nI r) (nI n) (nI N) (nI k) (nI i) = m_grouped_L20 F u W (nI q) (nI r) (nI n) (nI N) (nI k2) (nI (i + 1)) → k2 ≤ i + 1 → OUR U N n k2 g2 W → g2 = stpO gl y → RB8 U N X W → (∀ j, j < i → W.2.2.1 98 j = X.2.2.1 98 j) → W.2.2.1 98 i = nI (gix g2 y) → y ∈ g2 → (∀ z, z ∈ gl → gix g2 z = gix gl z ∧ z ∈ g2) → ∃ Y k' u' G, m_grouped_L20 F (u + 1) X (nI q) (nI r) (nI n) (nI N) (nI k) (nI i) = m_grouped_L20 F (u' + 1) Y (nI q) (nI r) (nI n) (nI N) (nI k') (nI m) ∧ k' ≤ m ∧ G = (((List.range' i (d + 1)).map (fun i => rowL rs (b + i * w) w)).map (fun L => (List.range n).map (fun s => val s L))).foldl stpO gl ∧ OUR U N n k' G Y ∧ G.Nodup ∧ (∀ j, j < m → Y.2.2.1 98 j = nI (gix G ((List.range n).map (fun s => val s (rowL rs (b + j * w) w)))) ∧ (List.range n).map (fun s => val s (rowL rs (b + j * w) w)) ∈ G) ∧ RB8 U N X Y := fun W k2 g2 w1 w2 w3 w4 w5 w6 w7 w8 w9 => by
      obtain ⟨Y, k', u', G, h1, h2, h3, h4, h5, h6, h7⟩ := ih (i + 1) u k2 g2 W (by omega) (by omega) w2 (fr.trans w5.fr) ((w5.f1 97 (by decide) (by decide) (by decide)).trans z97) (fun j hj => (w5.ce j hj).trans (ce j hj)) (w5.rln rl (by omega)) w3 (by rw [w4]; exact stpO_nd nd) (fun j hj => by
        by_cases z : j = i
        · rw [z, w7, ← hy]
          exact ⟨rfl, w8⟩
        · obtain ⟨p1, p2⟩ := mb j (by omega)
          obtain ⟨p3, p4⟩ := w9 _ p2
          rw [w6 j (by omega), p1, p3]
          exact ⟨rfl, p4⟩)
      refine ⟨Y, k', u', G, w1.trans h1, h2, ?_, h4, h5, h6, w5.trans h7⟩
      rw [h3, lst, List.foldl_cons, w4]
    by_cases z : y ∈ gl
    · have gl' := gix_lt z
      obtain ⟨dr1, dr2⟩ := c2.drop
      obtain ⟨W, hW⟩ : ∃ z, z = setI (setF X2 87 (nI (U + k * n))) 89 N (nI k) := ⟨_, rfl⟩
      rw [← hW] at dr1 dr2
      have fw : RBF U N X W := f2.trans ⟨dr2.fr, fun i hi => dr2.ce i (by omega), dr2.f1, dr2.ar⟩
      refine fin (setI W 98 i (nI (gix gl y))) k gl ?_ (by omega) dr1.s8 (by unfold stpO; rw [if_pos z]) (fw.r8.trans RB8.s) (fun j hj => by rw [sIa_n (by omega)]; exact fw.ar 98 j (by decide) (by omega)) sIa_s z (fun v hv => ⟨rfl, hv⟩)
      rw [hd]
      unfold m_grouped_b139 m_grouped_b173
      have uz : X2.1 87 - nI n = nI (U + k * n) := by
        rw [c2.st.u, Nat.succ_mul]
        have q := nI_add (U + k * n) n
        rw [show U + (k * n + n) = U + k * n + n by omega, ← q]
        exact Int32.add_sub_cancel _ _
      rw [if_neg (nI_ge (by omega) (by omega)), uz, rdI_n c2.rl.r4 (by decide), ob_s, show (setF X2 87 (nI (U + k * n))).2.2.1 89 N = nI (k + 1) from c2.rl.m, nI_pred, wrI_n c2.rl.r4 (by decide), ob_s, ← hW, wrI_n (show i < 600 by omega) (by decide), ob_s, nI_1]
    · have gl' := gix_no z
      refine fin (setI X2 98 i (nI (gix gl y))) (k + 1) (gl ++ [y]) ?_ (by omega) c2.s8 (by unfold stpO; rw [if_neg z]) (f2.r8.trans RB8.s) (fun j hj => by rw [sIa_n (by omega)]; exact f2.ar 98 j (by decide) (by omega)) (by rw [sIa_s, gix_new z, gl']) (List.mem_append.mpr (Or.inr (List.mem_singleton.mpr rfl))) (fun v hv => ⟨gix_app hv, List.mem_append.mpr (Or.inl hv)⟩)
      rw [hd]
      unfold m_grouped_b139 m_grouped_b173
      rw [if_pos (nI_le (by omega) (by omega)), wrI_n (show i < 600 by omega) (by decide), ob_s, nI_1, nI_1]

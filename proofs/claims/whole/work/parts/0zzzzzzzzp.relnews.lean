/-! the reference renews its answer -/
def rfin (F : Nat) (told : Int32) (Z : RS) : Option RS := if told = 0 then (m_renew_b330 F (setF Z 110 0)) else (Option.bind (m_differ F (setF Z 110 0) 0) fun cs_16 => Option.bind (m_differ F cs_16 1) fun cs_17 => m_renew_b330 F cs_17)
theorem RNF.rl {X Y : RS} {r b w m : Nat} (h : RNF X Y) (g : RLN X r b w m) : RLN Y r b w m := ⟨g.r4, by rw [h.ar 88 (by decide) (by decide)]; exact g.b, by rw [h.ar 89 (by decide) (by decide)]; exact g.m, by rw [h.ar 90 (by decide) (by decide)]; exact g.w⟩
theorem lay_R {F n r b m : Nat} {told : Int32} {P : List Nat} {od : Bool} {X : RS} (hF : 10000 ≤ F) (hn : n ≤ 8) (hm : m ≤ 600) (hb : b + m * n ≤ 400000) (fb : ∀ j, X.2.2.1 86 j = 0 ∨ X.2.2.1 86 j = 1) (x100 : X.1 100 = nI m) (rl : RLN X r b n m) (pm : ∀ p, p ∈ P → p < m) (pl : P.length = m) (pk : ∀ k, k < m → X.2.2.1 114 k = nI (P.getD k 0)) (o65 : od = true ↔ X.2.2.1 65 0 ≠ -1) : ∀ (d i u : Nat) (Y : RS), m = i + d → d < u → RNF X Y → (∀ k t, k < i → t < n → CEL 105 106 Y (n * k + t) (rc X (b + P.getD k 0 * n + t)) ∧ CEL 102 103 Y (n * k + t) (rc X (b + (if od = true then k else P.getD k 0) * n + t))) → ∃ Z, m_renew_L121 F u Y told (nI r) (nI n) (nI i) = rfin F told Z ∧ RNF X Z ∧ (∀ k t, k < m → t < n → CEL 105 106 Z (n * k + t) (rc X (b + P.getD k 0 * n + t)) ∧ CEL 102 103 Z (n * k + t) (rc X (b + (if od = true then k else P.getD k 0) * n + t))) := by
  intro d
  induction d with
  | zero =>
    intro i u Y d1 d2 hx hv
    obtain ⟨u, rfl⟩ : ∃ z, u = z + 1 := ⟨u - 1, by omega⟩
    rw [m_renew_L121, hx.f1, x100, if_pos (nI_le (by omega) (by omega))]
    exact ⟨Y, rfl, hx, fun k t hk => hv k t (by omega)⟩
  | succ d ih =>
    intro i u Y d1 d2 hx hv
    obtain ⟨u, rfl⟩ : ∃ z, u = z + 1 := ⟨u - 1, by omega⟩
    have hi : i < m := by omega
    have rlY := hx.rl rl
    have hp : P.getD i 0 < m := pm _ (by
      rw [List.getD_eq_getElem?_getD, List.getElem?_eq_getElem (show i < P.length by omega)]
      exact List.getElem_mem _)
    have r1 := row_le (p := b) (w := n) hi
    have r2 := row_le (p := b) (w := n) hp
    have c1 : n * i + n ≤ 4800 := by
      have q1 : n * (i + 1) ≤ 8 * 600 := Nat.mul_le_mul hn (by omega)
      rw [Nat.mul_succ] at q1
      omega
    obtain ⟨p2, hp2⟩ : ∃ z, z = (if od = true then i else P.getD i 0) := ⟨_, rfl⟩
    have r3 : b + p2 * n + n ≤ 400000 := by
      rw [hp2]
      by_cases q : od = true
      · rw [if_pos q]; omega
      · rw [if_neg q]; omega
    have go : ∃ Z, m_renew_b166 F (m_renew_L121 F u) Y told (nI r) (nI n) (nI i) (nI (b + P.getD i 0 * n)) (nI (b + p2 * n)) = rfin F told Z ∧ RNF X Z ∧ (∀ k t, k < m → t < n → CEL 105 106 Z (n * k + t) (rc X (b + P.getD k 0 * n + t)) ∧ CEL 102 103 Z (n * k + t) (rc X (b + (if od = true then k else P.getD k 0) * n + t))) := by
      obtain ⟨W, g1, g2, g3, g4⟩ := lay_K (F := F) (i := i) (fr := b + P.getD i 0 * n) (pl := b + p2 * n) (rc121 := m_renew_L121 F u) (u1 := told) (u2 := nI r) fb hn c1 (by omega) r3 n 0 F Y (by omega) (by omega) hx (fun t ht => absurd ht (by omega))
      have g1' : m_renew_b166 F (m_renew_L121 F u) Y told (nI r) (nI n) (nI i) (nI (b + P.getD i 0 * n)) (nI (b + p2 * n)) = m_renew_L121 F u W told (nI r) (nI n) (nI (i + 1)) := g1
      rw [g1']
      refine ih (i + 1) u W (by omega) (by omega) g2 (fun k t hk ht => ?_)
      by_cases q : k = i
      · rw [q, ← hp2]
        exact g3 t ht
      · have q2 : n * (k + 1) ≤ n * i := Nat.mul_le_mul_left n (by omega)
        rw [Nat.mul_succ] at q2
        obtain ⟨w1, w2⟩ := hv k t (by omega) ht
        exact ⟨(g4 _ _ (by omega)).1 w1, (g4 _ _ (by omega)).2 w2⟩
    rw [m_renew_L121, hx.f1, x100, if_neg (nI_ge (by omega) (by omega)), rdI_n (by omega) (by decide), ob_s, hx.ar 114 (by decide) (by decide), pk i hi, at_ok rlY, ob_s, show (0 : Int32) = nI 0 from rfl, rdI_n (by decide) (by decide), ob_s, hx.ar 65 (by decide) (by decide)]
    by_cases q : X.2.2.1 65 0 = -1
    · have q2 : ¬ od = true := fun w => o65.mp w q
      rw [if_neg q2] at hp2
      rw [hp2] at go
      rw [if_pos q]
      exact go
    · have q2 : od = true := o65.mpr q
      rw [if_pos q2] at hp2
      rw [hp2] at go
      rw [if_neg q, at_ok rlY, ob_s]
      exact go
/-- what keeping the old rows writes -/
def ROF (X Y : RS) : Prop := (Y.1 = X.1) ∧ (Y.2.1 = X.2.1) ∧ (∀ q, q ≠ 109 → Y.2.2.1 q = X.2.2.1 q) ∧ (∀ q, q ≠ 108 → Y.2.2.2 q = X.2.2.2 q)
theorem ROF.f1 {X Y : RS} (h : ROF X Y) : Y.1 = X.1 := h.1
theorem ROF.wt {X Y : RS} (h : ROF X Y) : Y.2.1 = X.2.1 := h.2.1
theorem ROF.ar {X Y : RS} (h : ROF X Y) : ∀ q, q ≠ 109 → Y.2.2.1 q = X.2.2.1 q := h.2.2.1
theorem ROF.ll {X Y : RS} (h : ROF X Y) : ∀ q, q ≠ 108 → Y.2.2.2 q = X.2.2.2 q := h.2.2.2
theorem ROF.rl {X Y : RS} {r b w m : Nat} (h : ROF X Y) (g : RLN X r b w m) : RLN Y r b w m := ⟨g.r4, by rw [h.ar 88 (by decide)]; exact g.b, by rw [h.ar 89 (by decide)]; exact g.m, by rw [h.ar 90 (by decide)]; exact g.w⟩
theorem ROF.cel {X Y : RS} {i : Nat} (h : ROF X Y) : rc Y i = rc X i := by
  unfold rc
  rw [h.ar 86 (by decide), h.ll 85 (by decide)]
theorem old_L {F r so no : Nat} {told : Int32} {v : Int32} {X : RS} (s104 : X.1 104 = nI so) (s101 : X.1 101 = nI no) (hso : so * no ≤ 4800) (f6 : ∀ j, j < so * no → X.2.2.1 106 j = 0 ∨ X.2.2.1 106 j = 1) : ∀ (d k u : Nat) (Y : RS), so * no = k + d → d < u → ROF X Y → (∀ j, j < k → Y.2.2.1 109 j = X.2.2.1 106 j ∧ Y.2.2.2 108 j = X.2.2.2 105 j) → ∃ Z, m_renew_L42 F u Y told (nI r) v (nI k) = (Option.bind (m_sort F Z (nI r)) fun cs_24 => Option.bind (rdI (cs_24.2.2.1 89) 400 (nI r)) fun v_25 => m_renew_L121 F F (setF (setF (setF cs_24 100 v_25) 101 v) 104 ((setF (setF cs_24 100 v_25) 101 v).1 100)) told (nI r) v 0) ∧ ROF X Z ∧ (∀ j, j < so * no → Z.2.2.1 109 j = X.2.2.1 106 j ∧ Z.2.2.2 108 j = X.2.2.2 105 j) := by
  intro d
  induction d with
  | zero =>
    intro k u Y d1 d2 hx hv
    obtain ⟨u, rfl⟩ : ∃ z, u = z + 1 := ⟨u - 1, by omega⟩
    rw [m_renew_L42, hx.f1, s104, s101, pk_mul, if_pos (nI_le (by omega) (by omega))]
    exact ⟨Y, rfl, hx, fun j hj => hv j (by omega)⟩
  | succ d ih =>
    intro k u Y d1 d2 hx hv
    obtain ⟨u, rfl⟩ : ∃ z, u = z + 1 := ⟨u - 1, by omega⟩
    obtain ⟨Y1, hY1⟩ : ∃ z, z = setL Y 108 k (X.2.2.2 105 k) := ⟨_, rfl⟩
    obtain ⟨Y2, hY2⟩ : ∃ z, z = setI Y1 109 k (X.2.2.1 106 k) := ⟨_, rfl⟩
    have f1 : ROF X Y1 := by
      rw [hY1]
      exact ⟨hx.f1, hx.wt, hx.ar, fun q q2 => (funext (fun j => sLl_n (fun w => q2 w.1))).trans (hx.ll q q2)⟩
    have f2 : ROF X Y2 := by
      rw [hY2]
      exact ⟨f1.f1, f1.wt, fun q q2 => (funext (fun j => sIa_n (fun w => q2 w.1))).trans (f1.ar q q2), f1.ll⟩
    rw [m_renew_L42, hx.f1, s104, s101, pk_mul, if_neg (nI_ge (by omega) (by omega)), rdL_n (by omega) (by decide), ob_s, hx.ll 105 (by decide), wrL_n (by omega) (by decide), ob_s, ← hY1, rdI_n (by omega) (by decide), ob_s, f1.ar 106 (by decide), nar_b (f6 k (by omega)), wrI_n (by omega) (by decide), ob_s, ← hY2, nI_1]
    refine ih (k + 1) u Y2 (by omega) (by omega) f2 (fun j hj => ?_)
    by_cases q : j = k
    · rw [q]
      refine ⟨by rw [hY2]; exact sIa_s, ?_⟩
      rw [hY2]
      show Y1.2.2.2 108 k = _
      rw [hY1]
      exact sLl_s
    · obtain ⟨w1, w2⟩ := hv j (by omega)
      refine ⟨?_, ?_⟩
      · rw [hY2, sIa_n (fun w => q w.2), hY1]
        exact w1
      · rw [hY2]
        show Y1.2.2.2 108 j = _
        rw [hY1, sLl_n (fun w => q w.2)]
        exact w2
/-- what renewing writes behind the run -/
def RNG (X Z : RS) : Prop := Z.2.1 = X.2.1 ∧ ∀ q, ¬ (100 ≤ q ∧ q ≤ 109) → q ≠ 114 → Z.1 q = X.1 q ∧ Z.2.2.1 q = X.2.2.1 q ∧ Z.2.2.2 q = X.2.2.2 q
theorem renew_ok {F U N n r b so no : Nat} {told : Int32} {od : Bool} {R : LL} {rs X : RS} (hF : 10000 ≤ F) (hq : rs.1 81 ≠ 0) (run : m_workQuery F 300 (setF (setF rs 87 0) 91 0) 0 = some (X, nI r)) (lv : LVR U N n r b R X) (hn : n ≤ 8) (hm : R.length ≤ 600) (s104 : X.1 104 = nI so) (s101 : X.1 101 = nI no) (hso : so * no ≤ 4800) (f6 : ∀ j, j < so * no → X.2.2.1 106 j = 0 ∨ X.2.2.1 106 j = 1) (o65 : od = true ↔ X.2.2.1 65 0 ≠ -1) : ∃ Z, m_renew F rs told = rfin F told Z ∧ Z.1 100 = nI R.length ∧ Z.1 101 = nI n ∧ Z.1 104 = nI R.length ∧ Z.1 107 = nI so ∧ RWA 105 106 n (srtK kO R) Z ∧ RWA 102 103 n (if od = true then R else srtK kO R) Z ∧ (∀ j, j < so * no → Z.2.2.1 109 j = X.2.2.1 106 j ∧ Z.2.2.2 108 j = X.2.2.2 105 j) ∧ RNG X Z := by
  have u4 := lv.st.u4
  have bb := lv.bb
  obtain ⟨m, hmm⟩ : ∃ z, z = R.length := ⟨_, rfl⟩
  have rl := lv.rl
  have rwv := lv.rw'
  rw [← hmm] at rl rwv bb hm ⊢
  obtain ⟨X1, hX1⟩ : ∃ z, z = setF X 107 (X.1 104) := ⟨_, rfl⟩
  have a104 : X1.1 104 = nI so := by rw [hX1, sF_n (by decide)]; exact s104
  have a101 : X1.1 101 = nI no := by rw [hX1, sF_n (by decide)]; exact s101
  obtain ⟨X2, e2, f2, o2⟩ := old_L (F := F) (r := r) (told := told) (v := nI n) (X := X1) a104 a101 hso (fun j hj => by rw [hX1]; exact f6 j hj) (so * no) 0 F X1 (by omega) (by omega) ⟨rfl, rfl, fun _ _ => rfl, fun _ _ => rfl⟩ (fun j hj => absurd hj (by omega))
  have rl1 : RLN X1 r b n m := by rw [hX1]; exact ⟨rl.r4, rl.b, rl.m, rl.w⟩
  have rl2 := f2.rl rl1
  have c2 : ∀ i, rc X2 i = rc X i := fun i => by rw [f2.cel, hX1]; rfl
  have rows2 : rowsL X2 b n R.length = R := by rw [← hmm]; exact (rows_eq (U := b + m * n) (fun i _ => c2 i) (Nat.le_refl _)).trans rwv
  rw [hmm] at rl2 bb hm
  obtain ⟨X3, P, e3, f3, p1, p2, p3, p4⟩ := rank_ok (F := F) hF (by omega) (by omega) (by omega) rl2 rows2
  have rl3 := f3.rl rl2
  obtain ⟨X4, hX4⟩ : ∃ z, z = setF (setF (setF X3 100 (nI m)) 101 (nI n)) 104 (nI m) := ⟨_, rfl⟩
  have rl4 : RLN X4 r b n m := by rw [hX4, hmm]; exact ⟨rl3.r4, rl3.b, rl3.m, rl3.w⟩
  have c4 : ∀ i, rc X4 i = rc X i := fun i => by
    rw [hX4]
    show rc X3 i = _
    rw [f3.cel, c2]
  have a86 : X4.2.2.1 86 = X.2.2.1 86 := by
    rw [hX4]
    show X3.2.2.1 86 = _
    rw [f3.ar 86 (by decide), f2.ar 86 (by decide), hX1]
    rfl
  have a65 : X4.2.2.1 65 = X.2.2.1 65 := by
    rw [hX4]
    show X3.2.2.1 65 = _
    rw [f3.ar 65 (by decide), f2.ar 65 (by decide), hX1]
    rfl
  have x100 : X4.1 100 = nI m := by rw [hX4, sF_n (by decide), sF_n (by decide), sF_s]
  have x101 : X4.1 101 = nI n := by rw [hX4, sF_n (by decide), sF_s]
  have x104 : X4.1 104 = nI m := by rw [hX4, sF_s]
  have x107 : X4.1 107 = nI so := by
    rw [hX4, sF_n (by decide), sF_n (by decide), sF_n (by decide), f3.f1, f2.f1, hX1, sF_s]
    exact s104
  rw [← hmm] at p1 p2 p3 bb hm
  obtain ⟨Z, e4, f4, v4⟩ := lay_R (F := F) (r := r) (told := told) (P := P) (od := od) (X := X4) hF hn hm (by omega) (by rw [a86]; exact lv.st.fb) x100 rl4 p2 p1 (fun k hk => by rw [hX4]; exact p3 k hk) (by rw [a65]; exact o65) m 0 F X4 (by omega) (by omega) RNF.refl (fun k t hk => absurd hk (by omega))
  have go : m_renew F rs told = rfin F told Z := by
    unfold m_renew
    rw [if_neg hq, run, ob_s]
    show (Option.bind (rdI (X.2.2.1 90) 400 (nI r)) fun v_32 => m_renew_L42 F F (setF X 107 (X.1 104)) told (nI r) v_32 0) = _
    rw [rdI_n rl.r4 (by decide), ob_s, rl.w, ← hX1]
    have e2' : m_renew_L42 F F X1 told (nI r) (nI n) 0 = _ := e2
    rw [e2', e3, ob_s, rdI_n rl3.r4 (by decide), ob_s, rl3.m, ← hmm, show (setF (setF X3 100 (nI m)) 101 (nI n)).1 100 = nI m by rw [sF_n (by decide), sF_s], ← hX4]
    exact e4
  have rowp : ∀ p t, p < m → t < n → rc X (b + p * n + t) = (R.getD p []).getD t none := fun p t hp ht => by
    have e := rows_get (rs := X) (b := b) (w := n) (m := m) hp
    rw [rwv] at e
    rw [e, rowL_get ht]
  have ls : (srtK kO R).length = m := by rw [(srt_perm R).length_eq, hmm]
  have srtp : ∀ k t, k < m → t < n → rc X (b + P.getD k 0 * n + t) = ((srtK kO R).getD k []).getD t none := fun k t hk ht => by
    rw [← p4, List.getD_eq_getElem?_getD (l := P.map _), List.getElem?_map, List.getD_eq_getElem?_getD (l := P), List.getElem?_eq_getElem (show k < P.length by omega)]
    show _ = (rowL X2 (b + P[k] * n) n).getD t none
    rw [rowL_get ht, c2]
    rfl
  refine ⟨Z, go, by rw [f4.f1]; exact x100, by rw [f4.f1]; exact x101, by rw [f4.f1]; exact x104, by rw [f4.f1]; exact x107, fun i k hi hk => ?_, fun i k hi hk => ?_, fun j hj => ?_, ?_⟩
  · rw [ls] at hi
    have w1 := (v4 i k hi hk).1
    rw [c4, srtp i k hi hk] at w1
    exact w1
  · have hi2 : i < m := by
      by_cases q : od = true
      · rw [if_pos q] at hi; omega
      · rw [if_neg q, ls] at hi; exact hi
    have w1 := (v4 i k hi2 hk).2
    rw [c4] at w1
    by_cases q : od = true
    · rw [if_pos q] at w1 ⊢
      rw [rowp i k hi2 hk] at w1
      exact w1
    · rw [if_neg q] at w1 ⊢
      rw [srtp i k hi2 hk] at w1
      exact w1
  · obtain ⟨w1, w2⟩ := o2 j hj
    rw [f4.ar 109 (by decide) (by decide), f4.ll 108 (by decide) (by decide), hX4]
    show X3.2.2.1 109 j = _ ∧ X3.2.2.2 108 j = _
    rw [f3.ar 109 (by decide), f3.ll, w1, w2, hX1]
    exact ⟨rfl, rfl⟩
  · refine ⟨?_, fun q q1 q2 => ?_⟩
    · rw [f4.wt, hX4]
      show X3.2.1 = _
      rw [f3.wt, f2.wt, hX1]
      rfl
    · rw [f4.f1, f4.ar q (by omega) (by omega), f4.ll q (by omega) (by omega), hX4]
      refine ⟨?_, ?_, ?_⟩
      · rw [sF_n (by omega), sF_n (by omega), sF_n (by omega), f3.f1, f2.f1, hX1, sF_n (by omega)]
      · show X3.2.2.1 q = _
        rw [f3.ar q q2, f2.ar q (by omega), hX1]
        rfl
      · show X3.2.2.2 q = _
        rw [f3.ll, f2.ll q (by omega), hX1]
        rfl

/-! the class lays the rows of groups -/
def INX (F c ar w na : Nat) (τ : RPR) (nd : Nat → Nat) (κ : Nat → Int32) (iv : Nat → List OV → OV) (cs : CS) : Prop := ∀ t, t < na → (κ t = 61 ∧ ∀ L, iv t L = some 1) ∨ (κ t ≠ 61 ∧ 1 ≤ nd t ∧ EXC F c ar w (nd t - 1) τ (iv t) cs)
theorem INX.cf {F c ar w na : Nat} {τ : RPR} {nd : Nat → Nat} {κ : Nat → Int32} {iv : Nat → List OV → OV} {a b : CS} (h : INX F c ar w na τ nd κ iv a) (g : CFR c ar a b) : INX F c ar w na τ nd κ iv b := fun t ht => by
  rcases h t ht with q | ⟨q1, q2, q3⟩
  · exact Or.inl q
  · exact Or.inr ⟨q1, q2, q3.cf g⟩
theorem cins_L {F r c ar B o ng na gl s cap w base to : Nat} {nd : Nat → Nat} {κ : Nat → Int32} {τ : RPR} {iv : Nat → List OV → OV} {L : List OV} {cs : CS} (ty : τ L) (hB : B ≤ 400000) (am : AGM c o ng na gl s cap nd κ cs) (ix : INX F c ar w na τ nd κ iv cs) (rn : RUN r c ar cs) (hL : rwC cs ar base w = L) (hbw : base + w ≤ to) (hbl : base + w ≤ kL cs 288 ar) (hto : to + na ≤ B) : ∀ (d i u : Nat) (X : CS), na = i + d → d < u → STS ar B X → STF c ar to cs X → (∀ t, t < i → to + t < kL X 288 ar ∧ sv X ar (to + t) = iv t L) → ∃ Y, c_X4_computeInsides_L3 F u X r o (nI base) (nI to) (nI i) = some Y ∧ STS ar B Y ∧ STF c ar to cs Y ∧ (∀ t, t < na → to + t < kL Y 288 ar ∧ sv Y ar (to + t) = iv t L) := by
  have n8 := am.n8
  intro d
  induction d with
  | zero =>
    intro i u X d1 d2 hs hf hv
    obtain ⟨u, rfl⟩ : ∃ z, u = z + 1 := ⟨u - 1, by omega⟩
    have am1 := am.cf hf.cf
    rw [c_X4_computeInsides_L3, gI_ok am1.e, ob_s, am1.n, if_pos (nI_le (by omega) (by omega))]
    exact ⟨X, rfl, hs, hf, fun t ht => hv t (by omega)⟩
  | succ d ih =>
    intro i u X d1 d2 hs hf hv
    obtain ⟨u, rfl⟩ : ∃ z, u = z + 1 := ⟨u - 1, by omega⟩
    have am1 := am.cf hf.cf
    have ix1 := ix.cf hf.cf
    have rn1 := rn.cf hf.cf
    have ln := hf.ln
    have l2 := am1.l2
    have l3 := am1.l3
    have sc := am1.sc
    have cp := am1.cp
    obtain ⟨j2, h2⟩ := am1.p2
    obtain ⟨j6, h6⟩ := am1.ca.p65
    obtain ⟨a1, a2, a3⟩ := am1.ns i (by omega)
    have rowX : rwC X ar base w = L := by
      rw [← hL]
      exact rwC_eq (fun k hk => hf.ce _ (by omega) (by omega))
    have next : ∀ Y, STS ar B Y → STF c ar (to + i) X Y → to + i < kL Y 288 ar → sv Y ar (to + i) = iv i L → ∃ Z, c_X4_computeInsides_b116 F (c_X4_computeInsides_L3 F u) Y r o (nI base) (nI to) (nI i) = some Z ∧ STS ar B Z ∧ STF c ar to cs Z ∧ (∀ t, t < na → to + t < kL Z 288 ar ∧ sv Z ar (to + t) = iv t L) := fun Y s3 fx l4 v4 => by
      unfold c_X4_computeInsides_b116
      rw [nI_1]
      refine ih (i + 1) u Y (by omega) (by omega) s3 (hf.trans fx (by omega)) (fun t ht => ?_)
      by_cases q : t = i
      · rw [q]
        exact ⟨l4, v4⟩
      · obtain ⟨q1, q2⟩ := hv t (by omega)
        exact ⟨Nat.lt_of_lt_of_le q1 fx.ln, (fx.ce _ (by omega) q1).trans q2⟩
    rw [c_X4_computeInsides_L3, gI_ok am1.e, ob_s, am1.n, if_neg (nI_ge (by omega) (by omega)), gA_ok am1.e, h2, ob_s, lnA_n am1.e2 h2, ob_s, if_neg (nI_ge (by omega) (by omega)), ob_s, rA_n am1.e2 h2 (by omega) (by omega), ob_s, a1, gR_ok rn1.o, rn1.cd, ob_s, ob_s, ckE_ok rn1.oc, ob_s, am1.has a2, ob_s, if_neg (show ¬ (1 : Int32) = 0 by decide), ob_s, ob_s, gA_ok am1.oc, h6, ob_s, rA_n am1.ca.e65 h6 (by rw [am1.ca.l65]; omega) (by rw [am1.ca.l65]; omega), ob_s, a3]
    rcases ix1 i (by omega) with ⟨q1, q2⟩ | ⟨q1, q2, q3⟩
    · obtain ⟨Y, e2, s3, l4, v4, k3, f3⟩ := put_ok (F := F) (i := to + i) (v := 1) (b := 0) (x := some 1) hs hB (by omega) (Or.inl ⟨rfl, rfl⟩)
      rw [if_pos q1, gR_ok rn1.o, rn1.sp, ob_s, ob_s, ckE_ok hs.st.o, ob_s, nI_add, e2, ob_s]
      unfold c_X4_computeInsides_b71
      exact next Y s3 (f3 c (to + i) (Nat.le_refl _)) l4 (by rw [v4, q2])
    · obtain ⟨X1, e1, f1, v1, v2⟩ := q3 X base _ CFR.refl hs.st (by omega) (by rw [rowX]; exact ty)
      rw [rowX] at e1 v1 v2
      have g1 : STF c ar (to + i) X X1 := f1.stf
      have rn2 := rn1.cf g1.cf
      have s2 := hs.evf f1
      obtain ⟨Y, e2, s3, l4, v4, k3, f3⟩ := put_ok (F := F) (i := to + i) (v := vl (iv i L)) (b := fl (iv i L)) (x := iv i L) s2 hB (by omega) (fl_vl _)
      rw [if_neg q1]
      unfold c_X4_computeInsides_b74
      rw [gR_ok rn1.o, rn1.cd, ob_s, gR_ok rn1.o, rn1.sp, ob_s, ob_s, ob_s, ckE_ok rn1.oc, ob_s, nI_p1 q2, e1, ob_s]
      show ∃ Y, (Option.bind (gR X1 5 162 r) fun v_7 => Option.bind (gR X1 5 161 r) fun v_8 => Option.bind (v_8) fun i_10 => Option.bind (ckE X1 2 i_10) fun _ => Option.bind (c_X1_resultValue F X1 i_10) fun v_9 => Option.bind (gR X1 5 161 r) fun v_12 => Option.bind (v_12) fun i_14 => Option.bind (ckE X1 2 i_14) fun _ => Option.bind (c_X1_resultBlank F X1 i_14) fun v_13 => Option.bind (v_7) fun i_17 => Option.bind (ckE X1 9 i_17) fun _ => Option.bind (c_X8_put F X1 i_17 (nI to + nI i) v_9 v_13) fun cs_16 => c_X4_computeInsides_b116 F (c_X4_computeInsides_L3 F u) cs_16 r o (nI base) (nI to) (nI i)) = some Y ∧ _
      rw [gR_ok rn2.o, rn2.sp, ob_s, gR_ok rn2.o, rn2.cd, ob_s, ob_s, ckE_ok rn2.oc, ob_s, v1, ob_s, ob_s, ob_s, ckE_ok rn2.oc, ob_s, v2, ob_s, ob_s, ckE_ok s2.st.o, ob_s, nI_add, e2, ob_s]
      exact next Y s3 (g1.trans (f3 c (to + i) (Nat.le_refl _)) (Nat.le_refl _)) l4 v4
/-- a row as a group takes it in -/
def gwr (ng na : Nat) (kv iv : Nat → List OV → OV) (L : List OV) : List OV := gkey ng kv L ++ (List.range na).map (fun t => iv t L)
theorem gwr_len {ng na : Nat} {kv iv : Nat → List OV → OV} {L : List OV} : (gwr ng na kv iv L).length = ng + na := by
  unfold gwr gkey
  rw [List.length_append, List.length_map, List.length_map, List.length_range, List.length_range]
theorem cgw_L {F r c ar B o ng na gl s cap w st : Nat} {nd : Nat → Nat} {κ : Nat → Int32} {τ : RPR} {kv iv : Nat → List OV → OV} {A : LL} {cs : CS} (ty : ∀ L, L ∈ A → τ L) (hF : 10000 ≤ F) (hB : B ≤ 400000) (hm : A.length ≤ 600) (h1 : 1 ≤ ng + na) (hb : st + A.length * w + A.length * (ng + na) ≤ B) (am : AGM c o ng na gl s cap nd κ cs) (cx : CLX F c ar w gl ng τ kv cs) (ix : INX F c ar w na τ nd κ iv cs) (rn : RUN r c ar cs) (hr : RWS ar st w A cs) : ∀ (d i u : Nat) (X : CS), A.length = i + d → d < u → STS ar B X → STF c ar (st + A.length * w) cs X → RWS ar (st + A.length * w) (ng + na) ((A.take i).map (gwr ng na kv iv)) X → ∃ u' Y, c_X4_group_L29 F u X r o (nI st) (nI A.length) (nI w) (nI ng) (nI (ng + na)) (nI (st + A.length * w)) (nI i) = c_X4_group_L29 F (u' + 1) Y r o (nI st) (nI A.length) (nI w) (nI ng) (nI (ng + na)) (nI (st + A.length * w)) (nI A.length) ∧ STS ar B Y ∧ STF c ar (st + A.length * w) cs Y ∧ RWS ar (st + A.length * w) (ng + na) (A.map (gwr ng na kv iv)) Y := by
  have n8 := am.n8
  intro d
  induction d with
  | zero =>
    intro i u X d1 d2 hs hf hx
    obtain ⟨u, rfl⟩ : ∃ z, u = z + 1 := ⟨u - 1, by omega⟩
    have e0 : A.take i = A := List.take_of_length_le (by omega)
    rw [e0] at hx
    exact ⟨u, X, by rw [show i = A.length by omega], hs, hf, hx⟩
  | succ d ih =>
    intro i u X d1 d2 hs hf hx
    obtain ⟨u, rfl⟩ : ∃ z, u = z + 1 := ⟨u - 1, by omega⟩
    have rn1 := rn.cf hf.cf
    have cx1 := cx.cf hf.cf
    have am1 := am.cf hf.cf
    have hi : i < A.length := by omega
    have rl := row_le (p := st) (w := w) hi
    have rl2 := row_le (p := st + A.length * w) (w := ng + na) hi
    have bd := hr.bd
    have ln := hf.ln
    have row : rwC X ar (st + i * w) w = A.getD i [] := by
      rw [← hr.row hi]
      exact rwC_eq (fun k hk => hf.ce _ (by omega) (by omega))
    have lt : ((A.take i).map (gwr ng na kv iv)).length = i := by rw [List.length_map, List.length_take]; omega
    obtain ⟨to, hto⟩ : ∃ z, z = st + A.length * w + i * (ng + na) := ⟨_, rfl⟩
    obtain ⟨Y, e1, s1, f1, v1⟩ := call_ok (F := F) (to := to) (ty _ (get_mem hi)) hF hB cx1 rn1 hs row (by omega) (by omega) (by omega)
    have rn2 := rn1.cf f1.cf
    have am2 := am1.cf f1.cf
    have lnY := f1.ln
    have row2 : rwC Y ar (st + i * w) w = A.getD i [] := by
      rw [← row]
      exact rwC_eq (fun k hk => f1.ce _ (by omega) (by omega))
    obtain ⟨Z, e2, s2, f2, v2⟩ := cins_L (F := F) (to := to + ng) (ty _ (get_mem hi)) hB am2 ((ix.cf hf.cf).cf f1.cf) rn2 row2 (by omega) (by omega) (by omega) na 0 F Y (by omega) (by omega) s1 STF.refl (fun t ht => absurd ht (by omega))
    have e2' : c_X4_computeInsides F Y r o (nI (st + i * w)) (nI (to + ng)) = some Z := e2
    rw [c_X4_group_L29, if_neg (nI_ge (by omega) (by omega)), gR_ok am1.e, am1.g, ob_s, ob_s, ckE_ok rn1.o, ob_s, pk_mul, nI_add, pk_mul, nI_add, ← hto, e1, ob_s]
    unfold c_X4_group_b58 c_X4_group_b81
    rw [ckE_ok rn2.o, ob_s, pk_mul, nI_add, pk_mul, nI_add, ← hto, nI_add, e2', ob_s, nI_1]
    have g12 : STF c ar to X Z := f1.trans f2 (by omega)
    have x2 := hx.stf g12 (by rw [lt]; omega)
    have lZ : to + (ng + na) ≤ kL Z 288 ar := by
      by_cases m0 : na = 0
      · have := (v1 (ng - 1) (by omega)).1
        have := f2.ln
        omega
      · have := (v2 (na - 1) (by omega)).1
        omega
    have x3 := x2.snoc (L := gwr ng na kv iv (A.getD i [])) (by rw [lt]; omega) (by
      rw [lt, ← hto]
      unfold gwr gkey
      rw [rwC_add, row_of (fun t ht => (v2 t ht).2)]
      refine congrArg (· ++ _) (row_of (fun t ht => (f2.ce _ (by omega) (v1 t ht).1).trans (v1 t ht).2)))
    have e4 : (A.take i).map (gwr ng na kv iv) ++ [gwr ng na kv iv (A.getD i [])] = (A.take (i + 1)).map (gwr ng na kv iv) := by
      rw [take_get hi, List.map_append]
      rfl
    rw [e4] at x3
    exact ih (i + 1) u Z (by omega) (by omega) s2 (hf.trans g12 (by omega)) x3
/-- groups of rows in order: rows of one key stand side by side -/
def grR (ng na : Nat) (κ : Nat → Int32) (S : LL) : LL := ((S.map (fun W => W.take ng)).foldl adjS []).map (fun g => frow ng na κ g (S.filter (fun W => W.take ng == g)))
theorem lex_take : ∀ (n : Nat) (a b : List Int), a.length = b.length → lexI a b = false → lexI (a.take n) (b.take n) = false
  | 0, _, _, _, _ => rfl
  | _ + 1, [], [], _, _ => rfl
  | _ + 1, [], _ :: _, h, _ => by cases h
  | _ + 1, _ :: _, [], h, _ => by cases h
  | n + 1, x :: xs, y :: ys, h, g => by
    have g' : (if x = y then lexI xs ys else decide (x < y)) = false := g
    show (if x = y then lexI (xs.take n) (ys.take n) else decide (x < y)) = false
    by_cases q : x = y
    · rw [if_pos q] at g' ⊢
      exact lex_take n xs ys (Nat.succ.inj h) g'
    · rw [if_neg q] at g' ⊢
      exact g'
theorem kd_take {dn : Nat → Bool} : ∀ (n i : Nat) (l : List OV), kdI dn i (l.take n) = (kdI dn i l).take n
  | 0, _, _ => rfl
  | _ + 1, _, [] => rfl
  | n + 1, i, x :: l => by
    show _ :: kdI dn (i + 1) (l.take n) = _ :: (kdI dn (i + 1) l).take n
    rw [kd_take n (i + 1) l]
theorem kd_len {dn : Nat → Bool} : ∀ (i : Nat) (l : List OV), (kdI dn i l).length = l.length
  | _, [] => rfl
  | i, _ :: l => congrArg (· + 1) (kd_len (i + 1) l)
theorem keys_srt {ng m : Nat} {S : LL} (wd : ∀ L, L ∈ S → L.length = m) (h : SRT (kd 0) S) : SRT (kd 0) (S.map (fun W => W.take ng)) := by
  unfold SRT at h ⊢
  refine List.pairwise_map.mpr (List.Pairwise.imp_of_mem (fun {a b} ha hb z => ?_) h)
  show lexI (kdI (dnB 0) 0 (b.take ng)) (kdI (dnB 0) 0 (a.take ng)) = false
  rw [kd_take, kd_take]
  exact lex_take ng _ _ (by rw [kd_len, kd_len, wd a ha, wd b hb]) z
theorem adj_last : ∀ (l K : LL), l ≠ [] → (l.foldl adjS K).getLast? = l.getLast?
  | [], _, h => absurd rfl h
  | [x], K, _ => by
    show (adjS K x).getLast? = some x
    unfold adjS
    by_cases q : K.getLast? = some x
    · rw [if_pos q, q]
    · rw [if_neg q, List.getLast?_concat]
  | x :: y :: l, K, _ => by
    show ((y :: l).foldl adjS (adjS K x)).getLast? = _
    rw [adj_last (y :: l) (adjS K x) (fun z => by cases z), List.getLast?_cons_cons]
theorem adj_same {k0 : List OV} : ∀ (l K : LL), (∀ x, x ∈ l → x = k0) → K.getLast? = some k0 → l.foldl adjS K = K
  | [], _, _, _ => rfl
  | x :: l, K, h, g => by
    show l.foldl adjS (adjS K x) = K
    have e : adjS K x = K := by
      unfold adjS
      rw [h x (List.mem_cons_self ..), if_pos g]
    rw [e]
    exact adj_same l K (fun y hy => h y (List.mem_cons_of_mem _ hy)) g
/-- one run more -/
theorem grR_run {ng na m : Nat} {κ : Nat → Int32} {D Rn : LL} {k0 : List OV} (wd : ∀ L, L ∈ D ++ Rn → L.length = m) (s : SRT (kd 0) (D ++ Rn)) (hR : Rn ≠ []) (hk : ∀ W, W ∈ Rn → W.take ng = k0) (hD : ∀ W, D.getLast? = some W → W.take ng ≠ k0) : grR ng na κ (D ++ Rn) = grR ng na κ D ++ [frow ng na κ k0 Rn] := by
  have ks := keys_srt (ng := ng) wd s
  rw [List.map_append] at ks
  have kR : ∀ x, x ∈ Rn.map (fun W => W.take ng) → x = k0 := fun x hx => by
    obtain ⟨W, w1, w2⟩ := List.mem_map.mp hx
    rw [← w2]
    exact hk W w1
  have lastD : (D.map (fun W => W.take ng)).getLast? ≠ some k0 := by
    rw [List.getLast?_map]
    cases e : D.getLast? with
    | none => exact fun z => by cases z
    | some W => exact fun z => hD W e (Option.some.inj z)
  have nin : k0 ∉ D.map (fun W => W.take ng) := fun ha => by
    obtain ⟨k, hkk⟩ : ∃ z, z = D.map (fun W => W.take ng) := ⟨_, rfl⟩
    rw [← hkk] at ha ks lastD
    have p := List.pairwise_append.mp ks
    have kne : k ≠ [] := fun z => by rw [z] at ha; cases ha
    have mR : k0 ∈ Rn.map (fun W => W.take ng) := by
      cases Rn with
      | nil => exact absurd rfl hR
      | cons W Rn => exact List.mem_map.mpr ⟨W, List.mem_cons_self .., hk W (List.mem_cons_self ..)⟩
    have el := List.dropLast_concat_getLast kne
    have m1 := p.2.2 (k.getLast kne) (List.getLast_mem kne) k0 mR
    rw [List.getLast?_eq_some_getLast kne] at lastD
    refine lastD ?_
    have ha2 := ha
    rw [← el] at ha2
    rcases List.mem_append.mp ha2 with z | z
    · have p1 := p.1
      rw [← el] at p1
      have m2 := (List.pairwise_append.mp p1).2.2 k0 z _ (List.mem_singleton.mpr rfl)
      rw [kd_inj (down := 0) _ _ (lex_tri _ _ m2 m1)]
    · rw [← List.mem_singleton.mp z]
  have e1 : ((D ++ Rn).map (fun W => W.take ng)).foldl adjS [] = (D.map (fun W => W.take ng)).foldl adjS [] ++ [k0] := by
    rw [List.map_append, List.foldl_append]
    obtain ⟨K, hK⟩ : ∃ z, z = (D.map (fun W => W.take ng)).foldl adjS [] := ⟨_, rfl⟩
    rw [← hK]
    have lK : K.getLast? ≠ some k0 := by
      rw [hK]
      by_cases q : D.map (fun W => W.take ng) = []
      · rw [q]
        exact fun z => by cases z
      · rw [adj_last _ _ q]
        exact lastD
    cases Rn with
    | nil => exact absurd rfl hR
    | cons W Rn =>
      show (Rn.map (fun W => W.take ng)).foldl adjS (adjS K (W.take ng)) = _
      have e2 : adjS K (W.take ng) = K ++ [k0] := by
        unfold adjS
        rw [hk W (List.mem_cons_self ..), if_neg lK]
      rw [e2]
      exact adj_same (k0 := k0) _ _ (fun x hx => kR x (List.mem_cons_of_mem _ hx)) List.getLast?_concat
  unfold grR
  rw [e1, List.map_append]
  refine congr (congrArg _ (List.map_congr_left (fun g hg => ?_))) ?_
  · have hg2 : g ∈ D.map (fun W => W.take ng) := by
      rcases (adj_mem _ _).mp hg with z | z
      · cases z
      · exact z
    have e2 : Rn.filter (fun W => W.take ng == g) = [] := List.filter_eq_nil_iff.mpr (fun W hW z => nin (by rw [← hk W hW, beq_iff_eq.mp z]; exact hg2))
    rw [List.filter_append, e2, List.append_nil]
  · have e2 : D.filter (fun W => W.take ng == k0) = [] := List.filter_eq_nil_iff.mpr (fun W hW z => nin (List.mem_map.mpr ⟨W, hW, beq_iff_eq.mp z⟩))
    have e3 : Rn.filter (fun W => W.take ng == k0) = Rn := List.filter_eq_self.mpr (fun W hW => beq_iff_eq.mpr (hk W hW))
    show [frow ng na κ k0 ((D ++ Rn).filter (fun W => W.take ng == k0))] = _
    rw [List.filter_append, e2, e3, List.nil_append]

/-! the class orders rows -/
def mkB (f : Nat → Bool) : Nat → Int32
  | 0 => 0
  | i + 1 => mkB f i ||| (if f i = true then ((1 : Int32) <<< (nI i &&& 31)) else 0)
theorem mk_8 : ∀ b0 b1 b2 b3 b4 b5 b6 b7 : Bool, ∀ i, i < 8 → decide (¬ ((((((((((0 ||| (if b0 = true then ((1 : Int32) <<< (nI 0 &&& 31)) else 0)) ||| (if b1 = true then ((1 : Int32) <<< (nI 1 &&& 31)) else 0)) ||| (if b2 = true then ((1 : Int32) <<< (nI 2 &&& 31)) else 0)) ||| (if b3 = true then ((1 : Int32) <<< (nI 3 &&& 31)) else 0)) ||| (if b4 = true then ((1 : Int32) <<< (nI 4 &&& 31)) else 0)) ||| (if b5 = true then ((1 : Int32) <<< (nI 5 &&& 31)) else 0)) ||| (if b6 = true then ((1 : Int32) <<< (nI 6 &&& 31)) else 0)) ||| (if b7 = true then ((1 : Int32) <<< (nI 7 &&& 31)) else 0)) >>> (nI i &&& 31)) &&& 1) = 0) = [b0, b1, b2, b3, b4, b5, b6, b7].getD i false := by decide +kernel
theorem mk_get {f : Nat → Bool} {i : Nat} (h : i < 8) : dnB (mkB f 8) i = f i := by
  unfold dnB
  rw [decide_eq_true h, Bool.true_and]
  have e := mk_8 (f 0) (f 1) (f 2) (f 3) (f 4) (f 5) (f 6) (f 7) i h
  have g : [f 0, f 1, f 2, f 3, f 4, f 5, f 6, f 7].getD i false = f i := by
    match i, h with
    | 0, _ => rfl
    | 1, _ => rfl
    | 2, _ => rfl
    | 3, _ => rfl
    | 4, _ => rfl
    | 5, _ => rfl
    | 6, _ => rfl
    | 7, _ => rfl
  rw [g] at e
  exact e
theorem mk_more {f : Nat → Bool} {n : Nat} (h : ∀ i, n ≤ i → f i = false) : ∀ (d : Nat), mkB f (n + d) = mkB f n
  | 0 => rfl
  | d + 1 => by
    show mkB f (n + d) ||| (if f (n + d) = true then ((1 : Int32) <<< (nI (n + d) &&& 31)) else 0) = _
    rw [h (n + d) (by omega), if_neg (by decide), Int32.or_zero, mk_more h d]
theorem mk_all {f : Nat → Bool} {n : Nat} (hn : n ≤ 8) (h : ∀ i, n ≤ i → f i = false) (i : Nat) : dnB (mkB f n) i = f i := by
  by_cases q : i < 8
  · rw [← mk_more h (8 - n), show n + (8 - n) = 8 by omega]
    exact mk_get q
  · rw [h i (by omega)]
    unfold dnB
    rw [decide_eq_false q, Bool.false_and]
theorem mark_L {F cl m : Nat} {f : Nat → Bool} {cs : CS} (cm : CLM cl m cs) (hf : ∀ i, i < m → (f i = true ↔ kA cs 99 cl i ≠ 0)) : ∀ (d i u : Nat), m = i + d → d < u → c_X2_markBits_L4 F cs u cl (mkB f i) (nI i) = some (mkB f m) := by
  have m8 := cm.m8
  obtain ⟨j, hj⟩ := cm.p99
  intro d
  induction d with
  | zero =>
    intro i u d1 d2
    obtain ⟨u, rfl⟩ : ∃ z, u = z + 1 := ⟨u - 1, by omega⟩
    rw [c_X2_markBits_L4, gI_ok cm.e, ob_s, cm.sz, if_pos (nI_le (by omega) (by omega)), show i = m by omega]
    rfl
  | succ d ih =>
    intro i u d1 d2
    obtain ⟨u, rfl⟩ : ∃ z, u = z + 1 := ⟨u - 1, by omega⟩
    have e := ih (i + 1) u (by omega) (by omega)
    rw [c_X2_markBits_L4, gI_ok cm.e, ob_s, cm.sz, if_neg (nI_ge (by omega) (by omega)), if_neg (show ¬ (8 : Int32) ≤ nI i from nI_ge (a := i) (b := 8) (by omega) (by omega)), gA_ok cm.e, hj, ob_s, rA_n cm.e99 hj (by rw [cm.l99]; omega) (by rw [cm.l99]; omega), ob_s]
    unfold c_X2_markBits_b35
    rw [nI_1]
    have q := hf i (by omega)
    by_cases z : kA cs 99 cl i = 0
    · have fz : ¬ f i = true := fun w => q.mp w z
      have e2 : mkB f (i + 1) = mkB f i ||| 0 := by
        show mkB f i ||| (if f i = true then ((1 : Int32) <<< (nI i &&& 31)) else 0) = _
        rw [if_neg fz]
      rw [if_pos z, ← e2]
      exact e
    · have fz : f i = true := q.mpr z
      have e2 : mkB f (i + 1) = mkB f i ||| ((1 : Int32) <<< (nI i &&& 31)) := by
        show mkB f i ||| (if f i = true then ((1 : Int32) <<< (nI i &&& 31)) else 0) = _
        rw [if_pos fz]
      rw [if_neg z, ← e2]
      exact e
/-- a row with what it is ordered by before it -/
def orow (n : Nat) (val : Nat → List OV → OV) (L : List OV) : List OV := (List.range n).map (fun j => val j L) ++ L
theorem orow_drop {n : Nat} {val : Nat → List OV → OV} {L : List OV} : (orow n val L).drop n = L := by
  unfold orow
  exact List.drop_left' (by rw [List.length_map, List.length_range])
theorem kdI_app {dn : Nat → Bool} : ∀ (i : Nat) (a b : List OV), kdI dn i (a ++ b) = kdI dn i a ++ kdI dn (i + a.length) b
  | _, [], _ => rfl
  | i, x :: a, b => by
    show _ :: kdI dn (i + 1) (a ++ b) = _ :: (kdI dn (i + 1) a ++ kdI dn (i + (a.length + 1)) b)
    rw [kdI_app (i + 1) a b, show i + 1 + a.length = i + (a.length + 1) by omega]
theorem kdI_up {dn : Nat → Bool} : ∀ (i : Nat) (l : List OV), (∀ k, i ≤ k → dn k = false) → kdI dn i l = l.map ovk
  | _, [], _ => rfl
  | i, x :: l, h => by
    show (if dn i = true then -ovk x else ovk x) :: kdI dn (i + 1) l = ovk x :: l.map ovk
    rw [h i (Nat.le_refl _), if_neg (by decide), kdI_up (i + 1) l (fun k hk => h k (by omega))]
theorem kdI_map {dn : Nat → Bool} {g : Nat → OV} : ∀ (d i : Nat), kdI dn i ((List.range' i d).map g) = (List.range' i d).map (fun j => if dn j = true then -ovk (g j) else ovk (g j))
  | 0, _ => rfl
  | d + 1, i => by
    show (if dn i = true then -ovk (g i) else ovk (g i)) :: kdI dn (i + 1) ((List.range' (i + 1) d).map g) = (if dn i = true then -ovk (g i) else ovk (g i)) :: _
    rw [kdI_map d (i + 1)]
theorem kd_okey {n : Nat} {dn : Nat → Int32} {val : Nat → List OV → OV} {bits : Int32} (h1 : ∀ i, i < n → (dnB bits i = true ↔ dn i ≠ 0)) (h2 : ∀ i, n ≤ i → dnB bits i = false) (L : List OV) : kd bits (orow n val L) = okey n dn val L := by
  show kdI (dnB bits) 0 ((List.range n).map (fun j => val j L) ++ L) = _
  rw [kdI_app, List.range_eq_range', kdI_map, List.length_map, List.length_range', Nat.zero_add, kdI_up n L h2]
  unfold okey
  rw [List.range_eq_range']
  refine congrArg (· ++ L.map ovk) (List.map_congr_left (fun j hj => ?_))
  have hj2 : j < n := by
    rw [← List.range_eq_range'] at hj
    exact List.mem_range.mp hj
  have q := h1 j hj2
  by_cases z : dn j = 0
  · rw [if_pos z, if_neg (fun w => q.mp w z)]
  · rw [if_neg z, if_pos (q.mpr z)]
theorem ord_eq {n lim : Nat} {dn : Nat → Int32} {val : Nat → List OV → OV} {bits : Int32} {A : LL} (h1 : ∀ i, i < n → (dnB bits i = true ↔ dn i ≠ 0)) (h2 : ∀ i, n ≤ i → dnB bits i = false) : ((srtK (kd bits) (A.map (orow n val))).take lim).map (fun W => W.drop n) = ordL n dn val lim A := by
  unfold ordL
  rw [List.map_take]
  refine congrArg (List.take lim) ?_
  have idm : (A.map (orow n val)).map (fun W => W.drop n) = A := by
    rw [List.map_map]
    have e : (fun W : List OV => W.drop n) ∘ orow n val = id := funext (fun L => orow_drop)
    rw [e, List.map_id]
  refine srt_uniq (K := okey n dn val) okey_inj ?_ ?_ (srt_srt A)
  · refine List.Perm.trans ?_ (srt_perm A).symm
    have p := (srt_perm (K := kd bits) (A.map (orow n val))).map (fun W => W.drop n)
    rw [idm] at p
    exact p
  · unfold SRT
    have s := srt_srt (K := kd bits) (A.map (orow n val))
    unfold SRT at s
    refine List.pairwise_map.mpr (List.Pairwise.imp_of_mem (fun {a b} ha hb z => ?_) s)
    obtain ⟨La, -, ea⟩ := List.mem_map.mp ((srt_perm _).mem_iff.mp ha)
    obtain ⟨Lb, -, eb⟩ := List.mem_map.mp ((srt_perm _).mem_iff.mp hb)
    rw [← ea, ← eb] at z ⊢
    rw [kd_okey h1 h2, kd_okey h1 h2] at z
    rw [orow_drop, orow_drop]
    exact z
theorem cor_L {F r c ar B cl n w st : Nat} {lm : Int32} {τ : RPR} {val : Nat → List OV → OV} {A : LL} {cs : CS} (ty : ∀ L, L ∈ A → τ L) (hF : 10000 ≤ F) (hB : B ≤ 400000) (hm : A.length ≤ 600) (hw : w ≤ 100) (hb : st + A.length * w + A.length * (n + w) ≤ B) (cx : CLX F c ar w cl n τ val cs) (rn : RUN r c ar cs) (hr : RWS ar st w A cs) : ∀ (d i u : Nat) (X : CS), A.length = i + d → d < u → STS ar B X → STF c ar (st + A.length * w) cs X → RWS ar (st + A.length * w) (n + w) ((A.take i).map (orow n val)) X → ∃ u' Y, c_X4_order_L21 F u X r cl lm (nI st) (nI A.length) (nI w) (nI (n + w)) (nI (st + A.length * w)) (nI i) = c_X4_order_L21 F (u' + 1) Y r cl lm (nI st) (nI A.length) (nI w) (nI (n + w)) (nI (st + A.length * w)) (nI A.length) ∧ STS ar B Y ∧ STF c ar (st + A.length * w) cs Y ∧ RWS ar (st + A.length * w) (n + w) (A.map (orow n val)) Y := by
  have m8 := cx.1.m8
  intro d
  induction d with
  | zero =>
    intro i u X d1 d2 hs hf hx
    obtain ⟨u, rfl⟩ : ∃ z, u = z + 1 := ⟨u - 1, by omega⟩
    have e0 : A.take i = A := List.take_of_length_le (by omega)
    rw [e0] at hx
    exact ⟨u, X, by rw [show i = A.length by omega], hs, hf, hx⟩
  | succ d ih =>
    intro i u X d1 d2 hs hf hx
    obtain ⟨u, rfl⟩ : ∃ z, u = z + 1 := ⟨u - 1, by omega⟩
    have rn1 := rn.cf hf.cf
    have cx1 := cx.cf hf.cf
    have hi : i < A.length := by omega
    have rl := row_le (p := st) (w := w) hi
    have rl2 := row_le (p := st + A.length * w) (w := n + w) hi
    have bd := hr.bd
    have ln := hf.ln
    have row : rwC X ar (st + i * w) w = A.getD i [] := by
      rw [← hr.row hi]
      exact rwC_eq (fun k hk => hf.ce _ (by omega) (by omega))
    have lt : ((A.take i).map (orow n val)).length = i := by rw [List.length_map, List.length_take]; omega
    obtain ⟨to, hto⟩ : ∃ z, z = st + A.length * w + i * (n + w) := ⟨_, rfl⟩
    obtain ⟨Y, e1, s1, f1, v1⟩ := call_ok (F := F) (to := to) (ty _ (get_mem hi)) hF hB cx1 rn1 hs row (by omega) (by omega) (by omega)
    have rn2 := rn1.cf f1.cf
    have cx2 := cx1.cf f1.cf
    have lnY := f1.ln
    obtain ⟨Z, e2, s2, b2, v2, w2, -, f2'⟩ := scopy_ok (F := F) (fr := st + i * w) (to := to + n) (n := w) s1 hB (by omega) (by omega) (by omega)
    have f2 := f2' c (to + n) (Nat.le_refl _)
    rw [c_X4_order_L21, if_neg (nI_ge (by omega) (by omega)), ckE_ok rn1.o, ob_s, pk_mul, nI_add, pk_mul, nI_add, ← hto, e1, ob_s]
    unfold c_X4_order_b52 c_X4_order_b75
    rw [gR_ok rn2.o, rn2.sp, ob_s, gI_ok cx2.1.e, ob_s, cx2.1.sz, ob_s, ckE_ok s1.st.o, ob_s, pk_mul, nI_add, nI_add, e2, ob_s, nI_1]
    have g12 : STF c ar to X Z := f1.trans f2 (by omega)
    have x2 := hx.stf g12 (by rw [lt]; omega)
    have x3 := x2.snoc (L := orow n val (A.getD i [])) (by rw [lt]; omega) (by
      rw [lt, ← hto]
      unfold orow
      rw [rwC_add]
      refine congr (congrArg _ (row_of (fun t ht => (f2.ce _ (by omega) (v1 t ht).1).trans (v1 t ht).2))) ?_
      rw [← row]
      exact rwC_eq (fun k hk => (v2 k hk).trans (f1.ce _ (by omega) (by omega))))
    have e4 : (A.take i).map (orow n val) ++ [orow n val (A.getD i [])] = (A.take (i + 1)).map (orow n val) := by
      rw [take_get hi, List.map_append]
      rfl
    rw [e4] at x3
    exact ih (i + 1) u Z (by omega) (by omega) s2 (hf.trans g12 (by omega)) x3
theorem cback_L {F r c ar B cl n w st sc kp : Nat} {S : LL} {cs : CS} (hB : B ≤ 400000) (hm : S.length ≤ 600) (hkp : kp ≤ S.length) (cm : CLM cl n cs) (rn : RUN r c ar cs) (hS : RWS ar sc (n + w) S cs) (hsc : st + S.length * w ≤ sc) (hb : sc + S.length * (n + w) ≤ B) : ∀ (d i u : Nat) (X : CS), kp = i + d → d < u → STS ar B X → STF c ar st cs X → RWS ar sc (n + w) S X → RWS ar st w ((S.take i).map (fun W => W.drop n)) X → ∃ Y, c_X4_order_L109 F u X r cl (nI st) (nI w) (nI (n + w)) (nI sc) (nI kp) (nI i) = some (Y, nI kp) ∧ STS ar B Y ∧ STF c ar st cs Y ∧ RWS ar st w ((S.take kp).map (fun W => W.drop n)) Y := by
  intro d
  induction d with
  | zero =>
    intro i u X d1 d2 hs hf hx hy
    obtain ⟨u, rfl⟩ : ∃ z, u = z + 1 := ⟨u - 1, by omega⟩
    rw [c_X4_order_L109, if_pos (nI_le (by omega) (by omega))]
    rw [show i = kp by omega] at hy
    exact ⟨X, rfl, hs, hf, hy⟩
  | succ d ih =>
    intro i u X d1 d2 hs hf hx hy
    obtain ⟨u, rfl⟩ : ∃ z, u = z + 1 := ⟨u - 1, by omega⟩
    have rn1 := rn.cf hf.cf
    have cm1 := cm.cf hf.cf
    have hi : i < S.length := by omega
    have rl := row_le (p := st) (w := w) hi
    have rl2 := row_le (p := sc) (w := n + w) hi
    have bd := hx.bd
    have row := hx.row hi
    have lt : ((S.take i).map (fun W => W.drop n)).length = i := by rw [List.length_map, List.length_take]; omega
    obtain ⟨Z, e2, s2, b2, v2, w2, -, f2'⟩ := scopy_ok (F := F) (fr := sc + i * (n + w) + n) (to := st + i * w) (n := w) hs hB (by omega) (by omega) (by omega)
    have f2 := f2' c (st + i * w) (Nat.le_refl _)
    rw [c_X4_order_L109, if_neg (nI_ge (by omega) (by omega)), gR_ok rn1.o, rn1.sp, ob_s, gI_ok cm1.e, ob_s, cm1.sz, ob_s, ckE_ok hs.st.o, ob_s, pk_mul, nI_add, nI_add, pk_mul, nI_add, e2, ob_s]
    unfold c_X4_order_b145
    rw [nI_1]
    have y2 := (hy.stf f2 (by rw [lt]; exact Nat.le_refl _)).snoc (L := (S.getD i []).drop n) (by rw [lt]; omega) (by
      rw [lt, ← row, rwC_add, List.drop_left' rwC_len]
      exact rwC_eq v2)
    have e4 : (S.take i).map (fun W => W.drop n) ++ [(S.getD i []).drop n] = (S.take (i + 1)).map (fun W => W.drop n) := by
      rw [take_get hi, List.map_append]
      rfl
    rw [e4] at y2
    exact ih (i + 1) u Z (by omega) (by omega) s2 (hf.trans (f2.mono (by omega)) (Nat.le_refl _)) (hx.mv f2.ln (fun k k1 k2 => w2 k (by omega) (by omega))) y2
theorem corder_ok {F r c ar B cl n w st lim : Nat} {dn : Nat → Int32} {τ : RPR} {val : Nat → List OV → OV} {A : LL} {cs : CS} (ty : ∀ L, L ∈ A → τ L) (hF : 10000 ≤ F) (hB : B ≤ 400000) (hm : A.length ≤ 600) (hw : w ≤ 92) (hl : lim < 2147483648) (hb : st + A.length * w + A.length * (n + w) + A.length * (n + w) ≤ B) (cx : CLX F c ar w cl n τ val cs) (mk : ∀ i, i < n → kA cs 99 cl i = dn i) (rn : RUN r c ar cs) (hs : STS ar B cs) (hr : RWS ar st w A cs) : CRO c ar B st w (ordL n dn val lim A) cs (c_X4_order F cs r cl (nI lim) (nI st) (nI A.length) (nI w)) := by
  have m8 := cx.1.m8
  obtain ⟨sc, hsc⟩ : ∃ z, z = st + A.length * w := ⟨_, rfl⟩
  obtain ⟨u', X, e1, s1, f1, r1⟩ := cor_L (F := F) (r := r) (lm := nI lim) ty hF hB hm (by omega) (by omega) cx rn hr A.length 0 F cs (by omega) (by omega) hs STF.refl (RWS.nil hr.bd)
  have top : c_X4_order F cs r cl (nI lim) (nI st) (nI A.length) (nI w) = c_X4_order_L21 F (u' + 1) X r cl (nI lim) (nI st) (nI A.length) (nI w) (nI (n + w)) (nI (st + A.length * w)) (nI A.length) := by
    unfold c_X4_order
    rw [gI_ok cx.1.e, ob_s, cx.1.sz, nI_add, pk_mul, nI_add]
    exact e1
  rw [top, ← hsc]
  rw [← hsc] at f1 r1 hb
  have rn1 := rn.cf f1.cf
  have cx1 := cx.cf f1.cf
  obtain ⟨f, hf⟩ : ∃ f : Nat → Bool, f = fun i => decide (i < n) && decide (¬ dn i = 0) := ⟨_, rfl⟩
  have hf1 : ∀ i, i < n → (f i = true ↔ dn i ≠ 0) := fun i hi => by
    rw [hf]
    show (decide (i < n) && decide (¬ dn i = 0)) = true ↔ dn i ≠ 0
    rw [decide_eq_true hi, Bool.true_and, decide_eq_true_iff]
  have hf2 : ∀ i, n ≤ i → f i = false := fun i hi => by
    rw [hf]
    show (decide (i < n) && decide (¬ dn i = 0)) = false
    rw [decide_eq_false (by omega), Bool.false_and]
  have mb := mark_L (F := F) (f := f) cx1.1 (fun i hi => by rw [(f1.fr 99 cl (by omega) (by omega)).a, mk i hi]; exact hf1 i hi) n 0 F (by omega) (by omega)
  have mb' : c_X2_markBits F X cl = some (mkB f n) := mb
  have dnb := mk_all m8 hf2
  obtain ⟨S0, hS0⟩ : ∃ z, z = A.map (orow n val) := ⟨_, rfl⟩
  have l0 : S0.length = A.length := by rw [hS0, List.length_map]
  rw [← hS0] at r1
  obtain ⟨X2, e2, s2, r2, f2⟩ := sort_ok (F := F) (down := mkB f n) hF hB (by omega) (by omega) (by rw [l0]; omega) s1 r1
  rw [l0] at e2
  have f2c := f2 c sc (Nat.le_refl _)
  have fx : STF c ar sc cs X2 := f1.trans f2c (Nat.le_refl _)
  have rn2 := rn.cf fx.cf
  obtain ⟨S, hS⟩ : ∃ z, z = srtK (kd (mkB f n)) S0 := ⟨_, rfl⟩
  have lS : S.length = A.length := by rw [hS, (srt_perm S0).length_eq, l0]
  rw [← hS] at r2
  have mn : (if nI lim < nI A.length then nI lim else nI A.length) = nI (if lim < A.length then lim else A.length) := nI_mn hl (by omega)
  obtain ⟨kp, hkp⟩ : ∃ z, z = if lim < A.length then lim else A.length := ⟨_, rfl⟩
  have kp1 : kp ≤ A.length := by
    rw [hkp]
    by_cases q : lim < A.length
    · rw [if_pos q]; omega
    · rw [if_neg q]; omega
  have kp2 : S.take kp = S.take lim := by
    rw [hkp]
    by_cases q : lim < A.length
    · rw [if_pos q]
    · rw [if_neg q, List.take_of_length_le (by omega), List.take_of_length_le (by omega)]
  obtain ⟨Y, e3, s3, f3, r3⟩ := cback_L (F := F) (r := r) (st := st) (kp := kp) hB (by omega) (by omega) (cx.1.cf fx.cf) rn2 r2 (by rw [lS]; omega) (by rw [lS]; omega) kp 0 F X2 (by omega) (by omega) s2 STF.refl r2 (RWS.nil (by have := r2.bd; omega))
  have e3' : c_X4_order_L109 F F X2 r cl (nI st) (nI w) (nI (n + w)) (nI sc) (nI kp) 0 = some (Y, nI kp) := e3
  have fin : (S.take kp).map (fun W => W.drop n) = ordL n dn val lim A := by
    rw [kp2, hS, hS0]
    exact ord_eq (fun i hi => by rw [dnb]; exact hf1 i hi) (fun i hi => by rw [dnb]; exact hf2 i hi)
  rw [fin] at r3
  have lk : (ordL n dn val lim A).length = kp := by rw [← fin, List.length_map, List.length_take, lS]; omega
  rw [c_X4_order_L21, if_pos (nI_le (Nat.le_refl _) (by omega)), gR_ok rn1.o, rn1.sp, ob_s, ckE_ok cx1.1.e, ob_s, mb', ob_s, ob_s, ckE_ok s1.st.o, ob_s, e2, ob_s]
  unfold c_X4_order_b98
  rw [mn, ← hkp, e3']
  exact ⟨Y, by rw [lk], s3, r3, (fx.mono (by omega)).trans f3 (Nat.le_refl _)⟩

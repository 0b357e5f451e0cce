/-! the class computes columns of a row, and whole rows -/
theorem CLM.cf {c ar cl m : Nat} {a b : CS} (h : CLM cl m a) (g : CFR c ar a b) : CLM cl m b := h.keep g.em (fun x h1 h2 => g.fr x cl (by omega) (by omega))
/-- columns whose EXPRS have values over rows of w cells -/
def CLX (F c ar w cl m : Nat) (τ : RPR) (val : Nat → List OV → OV) (cs : CS) : Prop := CLM cl m cs ∧ ∀ i, i < m → ∃ rt, kA cs 97 cl i = nI rt ∧ EXC F c ar w rt τ (val i) cs
theorem CLX.cf {F c ar w cl m : Nat} {τ : RPR} {val : Nat → List OV → OV} {a b : CS} (h : CLX F c ar w cl m τ val a) (g : CFR c ar a b) : CLX F c ar w cl m τ val b := ⟨h.1.cf g, fun i hi => by
  obtain ⟨rt, h1, h2⟩ := h.2 i hi
  exact ⟨rt, by rw [(g.fr 97 cl (by omega) (by omega)).a]; exact h1, h2.cf g⟩⟩
theorem call_L {F r c ar B cl m w base to : Nat} {τ : RPR} {val : Nat → List OV → OV} {L : List OV} {cs : CS} (ty : τ L) (hB : B ≤ 400000) (cx : CLX F c ar w cl m τ val cs) (rn : RUN r c ar cs) (hL : rwC cs ar base w = L) (hbw : base + w ≤ to) (hbl : base + w ≤ kL cs 288 ar) (hto : to + m ≤ B) : ∀ (d i u : Nat) (X : CS), m = i + d → d < u → STS ar B X → STF c ar to cs X → (∀ t, t < i → to + t < kL X 288 ar ∧ sv X ar (to + t) = val t L) → ∃ Y, c_X4_computeAll_L3 F u X r cl (nI base) (nI to) (nI i) = some Y ∧ STS ar B Y ∧ STF c ar to cs Y ∧ (∀ t, t < m → to + t < kL Y 288 ar ∧ sv Y ar (to + t) = val t L) := by
  have m8 := cx.1.m8
  intro d
  induction d with
  | zero =>
    intro i u X d1 d2 hs hf hv
    obtain ⟨u, rfl⟩ : ∃ z, u = z + 1 := ⟨u - 1, by omega⟩
    have cx1 := cx.cf hf.cf
    rw [c_X4_computeAll_L3, gI_ok cx1.1.e, ob_s, cx1.1.sz, if_pos (nI_le (by omega) (by omega))]
    exact ⟨X, rfl, hs, hf, fun t ht => hv t (by omega)⟩
  | succ d ih =>
    intro i u X d1 d2 hs hf hv
    obtain ⟨u, rfl⟩ : ∃ z, u = z + 1 := ⟨u - 1, by omega⟩
    have cx1 := cx.cf hf.cf
    have rn1 := rn.cf hf.cf
    have ln := hf.ln
    obtain ⟨rt, h1, h2⟩ := cx1.2 i (by omega)
    obtain ⟨j7, h7⟩ := cx1.1.p97
    have rowX : rwC X ar base w = L := by
      rw [← hL]
      exact rwC_eq (fun k hk => hf.ce _ (by omega) (by omega))
    obtain ⟨X1, e1, f1, v1, v2⟩ := h2 X base _ CFR.refl hs.st (by omega) (by rw [rowX]; exact ty)
    rw [rowX] at e1 v1 v2
    have g1 : STF c ar (to + i) X X1 := f1.stf
    have rn2 := rn1.cf g1.cf
    have s2 := hs.evf f1
    obtain ⟨Y, e2, s3, l3, v3, k3, f3⟩ := put_ok (F := F) (i := to + i) (v := vl (val i L)) (b := fl (val i L)) (x := val i L) s2 hB (by omega) (fl_vl _)
    have fx : STF c ar (to + i) X Y := g1.trans (f3 c (to + i) (Nat.le_refl _)) (Nat.le_refl _)
    rw [c_X4_computeAll_L3, gI_ok cx1.1.e, ob_s, cx1.1.sz, if_neg (nI_ge (by omega) (by omega)), ckE_ok cx1.1.e, ob_s, clm_has cx1.1 (by omega), ob_s, if_neg (show ¬ (1 : Int32) = 0 by decide), gR_ok rn1.o, rn1.cd, ob_s, gA_ok cx1.1.e, h7, ob_s, rA_n cx1.1.e97 h7 (by rw [cx1.1.l97]; omega) (by rw [cx1.1.l97]; omega), ob_s, h1, gR_ok rn1.o, rn1.sp, ob_s, ob_s, ob_s, ckE_ok rn1.oc, ob_s, e1, ob_s]
    show ∃ Y, (Option.bind (gR X1 5 162 r) fun v_14 => Option.bind (gR X1 5 161 r) fun v_15 => Option.bind (v_15) fun i_17 => Option.bind (ckE X1 2 i_17) fun _ => Option.bind (c_X1_resultValue F X1 i_17) fun v_16 => Option.bind (gR X1 5 161 r) fun v_19 => Option.bind (v_19) fun i_21 => Option.bind (ckE X1 2 i_21) fun _ => Option.bind (c_X1_resultBlank F X1 i_21) fun v_20 => Option.bind (v_14) fun i_24 => Option.bind (ckE X1 9 i_24) fun _ => Option.bind (c_X8_put F X1 i_24 (nI to + nI i) v_16 v_20) fun cs_23 => c_X4_computeAll_b66 F (c_X4_computeAll_L3 F u) cs_23 r cl (nI base) (nI to) (nI i)) = some Y ∧ _
    rw [gR_ok rn2.o, rn2.sp, ob_s, gR_ok rn2.o, rn2.cd, ob_s, ob_s, ckE_ok rn2.oc, ob_s, v1, ob_s, ob_s, ob_s, ckE_ok rn2.oc, ob_s, v2, ob_s, ob_s, ckE_ok s2.st.o, ob_s, nI_add, e2, ob_s]
    unfold c_X4_computeAll_b66
    rw [nI_1]
    refine ih (i + 1) u Y (by omega) (by omega) s3 (hf.trans fx (by omega)) (fun t ht => ?_)
    by_cases q : t = i
    · rw [q]
      exact ⟨l3, v3⟩
    · obtain ⟨q1, q2⟩ := hv t (by omega)
      exact ⟨Nat.lt_of_lt_of_le q1 fx.ln, (fx.ce _ (by omega) q1).trans q2⟩
/-- a row of columns laid at to -/
theorem call_ok {F r c ar B cl m w base to : Nat} {τ : RPR} {val : Nat → List OV → OV} {L : List OV} {cs : CS} (ty : τ L) (hF : 10000 ≤ F) (hB : B ≤ 400000) (cx : CLX F c ar w cl m τ val cs) (rn : RUN r c ar cs) (hs : STS ar B cs) (hL : rwC cs ar base w = L) (hbw : base + w ≤ to) (hbl : base + w ≤ kL cs 288 ar) (hto : to + m ≤ B) : ∃ Y, c_X4_computeAll F cs r cl (nI base) (nI to) = some Y ∧ STS ar B Y ∧ STF c ar to cs Y ∧ (∀ t, t < m → to + t < kL Y 288 ar ∧ sv Y ar (to + t) = val t L) := by
  have m8 := cx.1.m8
  exact call_L ty hB cx rn hL hbw hbl hto m 0 F cs (by omega) (by omega) hs STF.refl (fun t ht => absurd ht (by omega))
theorem row_of {cs : CS} {ar p m : Nat} {f : Nat → OV} (h : ∀ t, t < m → sv cs ar (p + t) = f t) : rwC cs ar p m = (List.range m).map f := by
  unfold rwC
  exact List.map_congr_left (fun k hk => h k (List.mem_range.mp hk))
def prow (mi : Nat) (pv : Nat → List OV → OV) (L : List OV) : List OV := (List.range mi).map (fun j => pv j L)
theorem cproj_L {F r c ar B cl mi w st : Nat} {τ : RPR} {pv : Nat → List OV → OV} {A : LL} {cs : CS} (ty : ∀ L, L ∈ A → τ L) (hF : 10000 ≤ F) (hB : B ≤ 400000) (hm : A.length ≤ 600) (h1 : 1 ≤ mi) (hb : st + A.length * w + A.length * mi ≤ B) (cx : CLX F c ar w cl mi τ pv cs) (rn : RUN r c ar cs) (hr : RWS ar st w A cs) : ∀ (d i u : Nat) (X : CS), A.length = i + d → d < u → STS ar B X → STF c ar (st + A.length * w) cs X → RWS ar (st + A.length * w) mi ((A.take i).map (prow mi pv)) X → ∃ Y, c_X4_project_L11 F u X r cl (nI st) (nI A.length) (nI w) (nI (st + A.length * w)) (nI i) = some Y ∧ STS ar B Y ∧ RWS ar st mi (A.map (prow mi pv)) Y ∧ STF c ar st cs Y := by
  intro d
  induction d with
  | zero =>
    intro i u X d1 d2 hs hf hx
    obtain ⟨u, rfl⟩ : ∃ z, u = z + 1 := ⟨u - 1, by omega⟩
    have rn1 := rn.cf hf.cf
    have cx1 := cx.cf hf.cf
    have e0 : A.take i = A := List.take_of_length_le (by omega)
    rw [e0] at hx
    have bd := hx.bd
    rw [List.length_map] at bd
    obtain ⟨Y, e1, s1, b1, v1, v2, -, f1⟩ := scopy_ok (F := F) (fr := st + A.length * w) (to := st) (n := A.length * mi) hs hB bd hb (by omega)
    rw [c_X4_project_L11, if_pos (nI_le (by omega) (by omega)), gR_ok rn1.o, rn1.sp, ob_s, gI_ok cx1.1.e, ob_s, cx1.1.sz, ob_s, ckE_ok hs.st.o, ob_s, pk_mul, e1, ob_s]
    exact ⟨Y, rfl, s1, hx.cp (by rw [List.length_map]; exact b1) (fun k hk => v1 k (by rw [List.length_map] at hk; exact hk)), (hf.mono (by omega)).trans (f1 c st (Nat.le_refl _)) (Nat.le_refl _)⟩
  | succ d ih =>
    intro i u X d1 d2 hs hf hx
    obtain ⟨u, rfl⟩ : ∃ z, u = z + 1 := ⟨u - 1, by omega⟩
    have rn1 := rn.cf hf.cf
    have cx1 := cx.cf hf.cf
    have hi : i < A.length := by omega
    have rl := row_le (p := st) (w := w) hi
    have rl2 := row_le (p := st + A.length * w) (w := mi) hi
    have bd := hr.bd
    have ln := hf.ln
    have row : rwC X ar (st + i * w) w = A.getD i [] := by
      rw [← hr.row hi]
      exact rwC_eq (fun k hk => hf.ce _ (by omega) (by omega))
    have lt : ((A.take i).map (prow mi pv)).length = i := by rw [List.length_map, List.length_take]; omega
    obtain ⟨Y, e1, s1, f1, v1⟩ := call_ok (F := F) (to := st + A.length * w + i * mi) (ty _ (get_mem hi)) hF hB cx1 rn1 hs row (by omega) (by omega) (by omega)
    rw [c_X4_project_L11, if_neg (nI_ge (by omega) (by omega)), gI_ok cx1.1.e, ob_s, cx1.1.sz, ckE_ok rn1.o, ob_s, pk_mul, nI_add, pk_mul, nI_add, e1, ob_s]
    unfold c_X4_project_b39
    rw [nI_1]
    have x2 : RWS ar (st + A.length * w) mi ((A.take i).map (prow mi pv)) Y := hx.stf f1 (by rw [lt]; exact Nat.le_refl _)
    have x3 := x2.snoc (L := prow mi pv (A.getD i [])) (by rw [lt]; have := (v1 (mi - 1) (by omega)).1; omega) (by rw [lt]; exact row_of (fun t ht => (v1 t ht).2))
    have e4 : (A.take i).map (prow mi pv) ++ [prow mi pv (A.getD i [])] = (A.take (i + 1)).map (prow mi pv) := by
      rw [take_get hi, List.map_append]
      rfl
    rw [e4] at x3
    exact ih (i + 1) u Y (by omega) (by omega) s1 (hf.trans f1 (by omega)) x3
theorem cproj_ok {F r c ar B cl mi w st : Nat} {τ : RPR} {pv : Nat → List OV → OV} {A : LL} {cs : CS} (ty : ∀ L, L ∈ A → τ L) (hF : 10000 ≤ F) (hB : B ≤ 400000) (hm : A.length ≤ 600) (h1 : 1 ≤ mi) (hb : st + A.length * w + A.length * mi ≤ B) (cx : CLX F c ar w cl mi τ pv cs) (rn : RUN r c ar cs) (hs : STS ar B cs) (hr : RWS ar st w A cs) : ∃ Y, c_X4_project F cs r cl (nI st) (nI A.length) (nI w) = some Y ∧ STS ar B Y ∧ RWS ar st mi (A.map (prow mi pv)) Y ∧ STF c ar st cs Y := by
  unfold c_X4_project
  rw [pk_mul, nI_add]
  exact cproj_L ty hF hB hm h1 hb cx rn hr A.length 0 F cs (by omega) (by omega) hs STF.refl (RWS.nil hr.bd)
/-- cells laid blank -/
theorem cblank_L {F r c ar B fr m : Nat} {cs : CS} (hB : B ≤ 400000) (rn : RUN r c ar cs) (hm : m ≤ 100) (hb : fr + m ≤ B) : ∀ (d i u : Nat) (X : CS), m = i + d → d < u → STS ar B X → STF c ar fr cs X → (∀ t, t < i → fr + t < kL X 288 ar ∧ sv X ar (fr + t) = none) → ∃ Y, c_X4_blankOut_L2 F u X r (nI fr) (nI m) (nI i) = some Y ∧ STS ar B Y ∧ STF c ar fr cs Y ∧ (∀ t, t < m → fr + t < kL Y 288 ar ∧ sv Y ar (fr + t) = none) := by
  intro d
  induction d with
  | zero =>
    intro i u X d1 d2 hs hf hv
    obtain ⟨u, rfl⟩ : ∃ z, u = z + 1 := ⟨u - 1, by omega⟩
    rw [c_X4_blankOut_L2, if_pos (nI_le (by omega) (by omega))]
    exact ⟨X, rfl, hs, hf, fun t ht => hv t (by omega)⟩
  | succ d ih =>
    intro i u X d1 d2 hs hf hv
    obtain ⟨u, rfl⟩ : ∃ z, u = z + 1 := ⟨u - 1, by omega⟩
    have rn1 := rn.cf hf.cf
    obtain ⟨Y, e2, s3, l3, v3, k3, f3⟩ := put_ok (F := F) (i := fr + i) (v := 0) (b := 1) (x := none) hs hB (by omega) (Or.inr ⟨rfl, rfl⟩)
    have fx := f3 c (fr + i) (Nat.le_refl _)
    rw [c_X4_blankOut_L2, if_neg (nI_ge (by omega) (by omega)), gR_ok rn1.o, rn1.sp, ob_s, ob_s, ckE_ok hs.st.o, ob_s, nI_add, e2, ob_s]
    unfold c_X4_blankOut_b19
    rw [nI_1]
    refine ih (i + 1) u Y (by omega) (by omega) s3 (hf.trans fx (by omega)) (fun t ht => ?_)
    by_cases q : t = i
    · rw [q]
      exact ⟨l3, v3⟩
    · obtain ⟨q1, q2⟩ := hv t (by omega)
      exact ⟨Nat.lt_of_lt_of_le q1 fx.ln, (fx.ce _ (by omega) q1).trans q2⟩
theorem cblank_ok {F r c ar B fr m : Nat} {cs : CS} (hF : 10000 ≤ F) (hB : B ≤ 400000) (rn : RUN r c ar cs) (hm : m ≤ 100) (hb : fr + m ≤ B) (hs : STS ar B cs) : ∃ Y, c_X4_blankOut F cs r (nI fr) (nI m) = some Y ∧ STS ar B Y ∧ STF c ar fr cs Y ∧ (∀ t, t < m → fr + t < kL Y 288 ar ∧ sv Y ar (fr + t) = none) := cblank_L hB rn hm hb m 0 F cs (by omega) (by omega) hs STF.refl (fun t ht => absurd ht (by omega))

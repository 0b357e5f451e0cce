/-! the class folds group after group -/
theorem nI_sb {a b : Nat} (h : b ≤ a) : nI a - nI b = nI (a - b) := by
  have e : nI a = nI (a - b) + nI b := by rw [nI_add]; exact congrArg nI (by omega)
  rw [e, Int32.add_sub_cancel]
theorem sub_rows {ar p w i j : Nat} {S : LL} {cs : CS} (h : RWS ar p w S cs) (hij : i ≤ j) (hj : j ≤ S.length) : RWS ar (p + i * w) w ((S.take j).drop i) cs := by
  have l : ((S.take j).drop i).length = j - i := by rw [List.length_drop, List.length_take]; omega
  have q1 : j * w ≤ S.length * w := Nat.mul_le_mul_right w hj
  have q2 : i * w + (j - i) * w = j * w := by rw [← Nat.add_mul]; exact congrArg (· * w) (by omega)
  have bd := h.bd
  refine ⟨by rw [l]; omega, ?_⟩
  rw [l]
  refine List.ext_getElem? (fun k => ?_)
  by_cases q : k < j - i
  · have e := h.row (show i + k < S.length by omega)
    rw [List.getD_eq_getElem?_getD, List.getElem?_eq_getElem (show i + k < S.length by omega)] at e
    unfold rwsC
    rw [List.getElem?_map, List.getElem?_range q, List.getElem?_drop, List.getElem?_take_of_lt (by omega), List.getElem?_eq_getElem (show i + k < S.length by omega)]
    show some (rwC cs ar (p + i * w + k * w) w) = _
    rw [show p + i * w + k * w = p + (i + k) * w by rw [Nat.add_mul]; omega, e]
    rfl
  · rw [List.getElem?_eq_none (by rw [rwsC_len]; omega), List.getElem?_eq_none (by rw [l]; omega)]
theorem cut_mem {S : LL} {i j : Nat} {W : List OV} (hj : j ≤ S.length) (h : W ∈ (S.take j).drop i) : ∃ t, i ≤ t ∧ t < j ∧ W = S.getD t [] := by
  obtain ⟨k, k1, k2⟩ := List.getElem_of_mem h
  rw [List.length_drop, List.length_take] at k1
  refine ⟨i + k, by omega, by omega, ?_⟩
  rw [← k2, List.getElem_drop, List.getElem_take, List.getD_eq_getElem?_getD, List.getElem?_eq_getElem (by omega)]
  rfl
theorem last_take {S : LL} {i : Nat} {W : List OV} (hi : i ≤ S.length) (h : (S.take i).getLast? = some W) : 1 ≤ i ∧ W = S.getD (i - 1) [] := by
  rw [List.getLast?_eq_getElem?, List.length_take, show min i S.length = i by omega] at h
  by_cases q : i = 0
  · rw [q, List.take_zero] at h
    cases h
  · rw [List.getElem?_take_of_lt (by omega)] at h
    exact ⟨by omega, by rw [List.getD_eq_getElem?_getD, h]; rfl⟩
theorem pre_row {cs : CS} {ar p n m : Nat} : rwC cs ar p n = (rwC cs ar p (n + m)).take n := by
  rw [rwC_add, List.take_left' rwC_len]
/-- while groups are folded: S in order, f the first row of the group that is open, i rows seen -/
def GST (c ar B sc ot ng na f i : Nat) (κ : Nat → Int32) (S : LL) (cs X : CS) : Prop := (STS ar B X) ∧ (STF c ar ot cs X) ∧ (RWS ar ot (ng + na) (grR ng na κ (S.take f)) X) ∧ (f < i) ∧ (∀ t, f ≤ t → t < i → t < S.length → (S.getD t []).take ng = (S.getD f []).take ng) ∧ (1 ≤ f → f < S.length → (S.getD (f - 1) []).take ng ≠ (S.getD f []).take ng)
theorem GST.st {c ar B sc ot ng na f i : Nat} {κ : Nat → Int32} {S : LL} {cs X : CS} (h : GST c ar B sc ot ng na f i κ S cs X) : STS ar B X := h.1
theorem GST.fr {c ar B sc ot ng na f i : Nat} {κ : Nat → Int32} {S : LL} {cs X : CS} (h : GST c ar B sc ot ng na f i κ S cs X) : STF c ar ot cs X := h.2.1
theorem GST.rw' {c ar B sc ot ng na f i : Nat} {κ : Nat → Int32} {S : LL} {cs X : CS} (h : GST c ar B sc ot ng na f i κ S cs X) : RWS ar ot (ng + na) (grR ng na κ (S.take f)) X := h.2.2.1
theorem GST.fi {c ar B sc ot ng na f i : Nat} {κ : Nat → Int32} {S : LL} {cs X : CS} (h : GST c ar B sc ot ng na f i κ S cs X) : f < i := h.2.2.2.1
theorem GST.eq {c ar B sc ot ng na f i : Nat} {κ : Nat → Int32} {S : LL} {cs X : CS} (h : GST c ar B sc ot ng na f i κ S cs X) : ∀ t, f ≤ t → t < i → t < S.length → (S.getD t []).take ng = (S.getD f []).take ng := h.2.2.2.2.1
theorem GST.nw {c ar B sc ot ng na f i : Nat} {κ : Nat → Int32} {S : LL} {cs X : CS} (h : GST c ar B sc ot ng na f i κ S cs X) : 1 ≤ f → f < S.length → (S.getD (f - 1) []).take ng ≠ (S.getD f []).take ng := h.2.2.2.2.2
theorem grR_le {ng na : Nat} {κ : Nat → Int32} {S : LL} : (grR ng na κ S).length ≤ S.length := by
  unfold grR
  rw [List.length_map]
  have := adj_le (S.map (fun W => W.take ng)) []
  rw [List.length_map, List.length_nil] at this
  omega
theorem take_split {S : LL} {f i : Nat} (h : f ≤ i) : S.take f ++ (S.take i).drop f = S.take i := by
  have e := List.take_append_drop f (S.take i)
  rw [List.take_take, show min f i = f by omega] at e
  exact e
theorem cgr_L {F r c ar B o ng na gl s cap st sc ot : Nat} {nd : Nat → Nat} {κ : Nat → Int32} {S : LL} {cs : CS} (hF : 10000 ≤ F) (hB : B ≤ 400000) (hn : S.length ≤ 600) (hp : 1 ≤ S.length) (h1 : 1 ≤ ng + na) (hng : ng ≤ 8) (am : AGM c o ng na gl s cap nd κ cs) (rn : RUN r c ar cs) (hS : RWS ar sc (ng + na) S cs) (so : SRT (kd 0) S) (hot : ot = sc + S.length * (ng + na)) (hb : ot + S.length * (ng + na) ≤ B) (hcp : ot + S.length * (ng + na) ≤ kL cs 288 ar) : ∀ (d i u f : Nat) (X : CS), S.length + 1 = i + d → d < u → GST c ar B sc ot ng na f i κ S cs X → (d = 0 → f = S.length) → (1 ≤ d → f < S.length) → ∃ Y u', c_X4_group_L136 F u X r o (nI st) (nI S.length) (nI ng) (nI (ng + na)) (nI sc) (nI ot) (nI (grR ng na κ (S.take f)).length) (nI f) (nI i) = c_X4_group_L136 F (u' + 1) Y r o (nI st) (nI S.length) (nI ng) (nI (ng + na)) (nI sc) (nI ot) (nI (grR ng na κ S).length) (nI S.length) (nI (S.length + 1)) ∧ STS ar B Y ∧ STF c ar ot cs Y ∧ RWS ar ot (ng + na) (grR ng na κ S) Y := by
  have bS := hS.bd
  have n8 := am.n8
  have wd := hS.wd
  intro d
  induction d with
  | zero =>
    intro i u f X d1 d2 h q1 q2
    obtain ⟨u, rfl⟩ : ∃ z, u = z + 1 := ⟨u - 1, by omega⟩
    have ef := q1 rfl
    have e0 : S.take f = S := List.take_of_length_le (by omega)
    have rw0 := h.rw'
    rw [e0] at rw0
    refine ⟨X, u, ?_, h.st, h.fr, rw0⟩
    rw [e0, ef, show i = S.length + 1 by omega]
  | succ d ih =>
    intro i u f X d1 d2 h q1 q2
    obtain ⟨u, rfl⟩ : ∃ z, u = z + 1 := ⟨u - 1, by omega⟩
    have hf := q2 (by omega)
    have fi := h.fi
    have rn1 := rn.cf h.fr.cf
    have am1 := am.cf h.fr.cf
    have hs := h.st
    have ln := h.fr.ln
    have SX : RWS ar sc (ng + na) S X := hS.stf h.fr (by omega)
    have bX := SX.bd
    have rlf := row_le (p := sc) (w := ng + na) hf
    obtain ⟨k0, hk0⟩ : ∃ z, z = (S.getD f []).take ng := ⟨_, rfl⟩
    have keyf : rwC X ar (sc + f * (ng + na)) ng = k0 := by rw [pre_row (m := na), SX.row hf, hk0]
    have gl1 := grR_le (ng := ng) (na := na) (κ := κ) (S := S.take f)
    rw [List.length_take] at gl1
    have fold : (i < S.length → (S.getD i []).take ng ≠ k0) → ∃ Y u', c_X4_group_b185 F (c_X4_group_L136 F u) X r o (nI st) (nI S.length) (nI ng) (nI (ng + na)) (nI sc) (nI ot) (nI (grR ng na κ (S.take f)).length) (nI f) (nI i) (nI (sc + f * (ng + na))) = c_X4_group_L136 F (u' + 1) Y r o (nI st) (nI S.length) (nI ng) (nI (ng + na)) (nI sc) (nI ot) (nI (grR ng na κ S).length) (nI S.length) (nI (S.length + 1)) ∧ STS ar B Y ∧ STF c ar ot cs Y ∧ RWS ar ot (ng + na) (grR ng na κ S) Y := fun nx => by
      obtain ⟨Rn, hRn⟩ : ∃ z, z = (S.take i).drop f := ⟨_, rfl⟩
      have lR : Rn.length = i - f := by rw [hRn, List.length_drop, List.length_take]; omega
      have SR : RWS ar (sc + f * (ng + na)) (ng + na) Rn X := by rw [hRn]; exact sub_rows SX (by omega) (by omega)
      have q3 : (f + (i - f)) * (ng + na) ≤ S.length * (ng + na) := Nat.mul_le_mul_right _ (by omega)
      rw [Nat.add_mul] at q3
      have q4 : ((grR ng na κ (S.take f)).length + 1) * (ng + na) ≤ S.length * (ng + na) := Nat.mul_le_mul_right _ (by omega)
      rw [Nat.succ_mul] at q4
      obtain ⟨Y, e1, s1, f1, l1, v1⟩ := cfold_ok (F := F) (to := ot + (grR ng na κ (S.take f)).length * (ng + na)) (S := Rn) hF hB rn1 am1 hs SR (by omega) (by rw [lR]; omega) (by omega) (by omega) h1 (by omega) (by omega) keyf
      have grun : grR ng na κ (S.take i) = grR ng na κ (S.take f) ++ [frow ng na κ k0 Rn] := by
        rw [← take_split (S := S) (show f ≤ i by omega), ← hRn]
        have sp : S.take f ++ Rn = S.take i := by rw [hRn]; exact take_split (by omega)
        refine grR_run (m := ng + na) (fun L hL => wd L (by rw [sp] at hL; exact List.mem_of_mem_take hL)) (by rw [sp]; exact so.sub (List.take_sublist i S)) (fun z => by rw [z] at lR; have : 0 = i - f := lR; omega) (fun W hW => ?_) (fun W hW => ?_)
        · rw [hRn] at hW
          obtain ⟨t, t1, t2, t3⟩ := cut_mem (by omega) hW
          rw [t3, hk0]
          exact h.eq t t1 t2 (by omega)
        · obtain ⟨w1, w2⟩ := last_take (by omega) hW
          rw [w2, hk0]
          exact h.nw w1 hf
      unfold c_X4_group_b185 c_X4_group_b205 c_X4_group_b212
      rw [ckE_ok rn1.o, ob_s, pk_mul, nI_add, show nI i - nI f = nI Rn.length by rw [lR]; exact nI_sb (by omega), e1, ob_s, nI_1, nI_1]
      have lg : (grR ng na κ (S.take f)).length + 1 = (grR ng na κ (S.take i)).length := by rw [grun, List.length_append]; rfl
      rw [lg]
      have rwi : RWS ar ot (ng + na) (grR ng na κ (S.take i)) Y := by
        rw [grun]
        exact (h.rw'.stf f1 (Nat.le_refl _)).snoc (by omega) v1
      refine ih (i + 1) u i Y (by omega) (by omega) ⟨s1, h.fr.trans f1 (by omega), rwi, by omega, fun t t1 t2 _ => by rw [show t = i by omega], fun _ q => ?_⟩ (fun _ => by omega) (fun _ => by omega)
      rw [h.eq (i - 1) (by omega) (by omega) (by omega), ← hk0]
      exact fun z => nx q z.symm
    rw [c_X4_group_L136, if_neg (nI_nlt (by omega) (by omega))]
    by_cases q : i = S.length
    · rw [if_pos (by rw [q]), pk_mul, nI_add]
      exact fold (fun z => absurd z (by omega))
    · have hi : i < S.length := by omega
      have rli := row_le (p := sc) (w := ng + na) hi
      have keyi : rwC X ar (sc + i * (ng + na)) ng = (S.getD i []).take ng := by rw [pre_row (m := na), SX.row hi]
      have z0 := cmD_0 (dn := dnB 0) 0 k0 ((S.getD i []).take ng) (by rw [← keyf, ← keyi, rwC_len, rwC_len])
      rw [if_neg (fun z => q ((nI_eq (by omega) (by omega)).mp z)), gR_ok rn1.o, rn1.sp, ob_s, ob_s, ob_s, ob_s, ckE_ok hs.st.o, ob_s, pk_mul, nI_add, pk_mul, nI_add, cmpC_ok hF hs.st hs.st (by omega) (by omega) (by omega), ob_s, keyf, keyi]
      by_cases z : k0 = (S.getD i []).take ng
      · rw [if_pos (z0.mpr z)]
        unfold c_X4_group_b212
        rw [nI_1]
        refine ih (i + 1) u f X (by omega) (by omega) ⟨hs, h.fr, h.rw', by omega, fun t t1 t2 t3 => ?_, h.nw⟩ (fun _ => by omega) (fun _ => hf)
        by_cases y : t = i
        · rw [y, ← z, hk0]
        · exact h.eq t t1 (by omega) t3
      · rw [if_neg (fun w => z (z0.mp w))]
        exact fold (fun _ w => z w.symm)
/-- what a GROUP BY, or aggregates alone, make of rows -/
def grC (ng na : Nat) (κ : Nat → Int32) (kv iv : Nat → List OV → OV) (A : LL) : LL := if A = [] then (if ng = 0 then [frow ng na κ [] []] else []) else grR ng na κ (srtK (kd 0) (A.map (gwr ng na kv iv)))
theorem cgroup_ok {F r c ar B o ng na gl s cap w st : Nat} {nd : Nat → Nat} {κ : Nat → Int32} {τ : RPR} {kv iv : Nat → List OV → OV} {A : LL} {cs : CS} (ty : ∀ L, L ∈ A → τ L) (hF : 10000 ≤ F) (hB : B ≤ 400000) (hm : A.length ≤ 600) (h1 : 1 ≤ ng + na) (hng : ng ≤ 8) (hwd : ng + na ≤ 100) (hb : st + A.length * w + A.length * (ng + na) + (A.length + 1) * (ng + na) ≤ B) (am : AGM c o ng na gl s cap nd κ cs) (cx : CLX F c ar w gl ng τ kv cs) (ix : INX F c ar w na τ nd κ iv cs) (rn : RUN r c ar cs) (hs : STS ar B cs) (hr : RWS ar st w A cs) : CRO c ar B st (ng + na) (grC ng na κ kv iv A) cs (c_X4_group F cs r o (nI st) (nI A.length) (nI w)) := by
  obtain ⟨sc, hsc⟩ : ∃ z, z = st + A.length * w := ⟨_, rfl⟩
  rw [Nat.succ_mul] at hb
  obtain ⟨u', X, e1, s1, f1, r1⟩ := cgw_L (F := F) (r := r) (iv := iv) ty hF hB hm h1 (by omega) am cx ix rn hr A.length 0 F cs (by omega) (by omega) hs STF.refl (RWS.nil hr.bd)
  have top : c_X4_group F cs r o (nI st) (nI A.length) (nI w) = c_X4_group_L29 F (u' + 1) X r o (nI st) (nI A.length) (nI w) (nI ng) (nI (ng + na)) (nI (st + A.length * w)) (nI A.length) := by
    unfold c_X4_group
    rw [gR_ok am.e, am.g, ob_s, ob_s, gI_ok am.gm.e, ob_s, am.gm.sz, gI_ok am.e, ob_s, am.n, nI_add, pk_mul, nI_add]
    exact e1
  rw [top, ← hsc]
  rw [← hsc] at f1 r1 hb
  have rn1 := rn.cf f1.cf
  obtain ⟨S0, hS0⟩ : ∃ z, z = A.map (gwr ng na kv iv) := ⟨_, rfl⟩
  have l0 : S0.length = A.length := by rw [hS0, List.length_map]
  rw [← hS0] at r1
  obtain ⟨XS, e2, sS, rS, f2⟩ := sort_ok (F := F) (down := 0) hF hB hwd (by omega) (by rw [l0]; omega) s1 r1
  rw [l0] at e2
  have f2c := f2 c sc (Nat.le_refl _)
  have rnS := rn1.cf f2c.cf
  obtain ⟨S, hS⟩ : ∃ z, z = srtK (kd 0) S0 := ⟨_, rfl⟩
  have lS : S.length = A.length := by rw [hS, (srt_perm S0).length_eq, l0]
  rw [← hS] at rS
  obtain ⟨ot, hot⟩ : ∃ z, z = sc + A.length * (ng + na) := ⟨_, rfl⟩
  obtain ⟨M, hM, M1, M2, M3⟩ : ∃ z, (if nI A.length < (1 : Int32) then (1 : Int32) else nI A.length) = nI z ∧ A.length ≤ z ∧ 1 ≤ z ∧ z ≤ A.length + 1 := by
    by_cases q : A.length < 1
    · exact ⟨1, (if_pos (show nI A.length < (1 : Int32) from nI_lt (b := 1) q (by omega))).trans (show (1 : Int32) = nI 1 by decide), by omega, by omega, by omega⟩
    · exact ⟨A.length, if_neg (show ¬ nI A.length < (1 : Int32) from nI_nlt (b := 1) (by omega) (by omega)), by omega, by omega, by omega⟩
  have M4 : M * (ng + na) ≤ (A.length + 1) * (ng + na) := Nat.mul_le_mul_right _ M3
  rw [Nat.succ_mul] at M4
  have M5 : A.length * (ng + na) ≤ M * (ng + na) := Nat.mul_le_mul_right _ M1
  have M6 : 1 * (ng + na) ≤ M * (ng + na) := Nat.mul_le_mul_right _ M2
  rw [Nat.one_mul] at M6
  obtain ⟨X2, eR, s2, lR, vR, -, fR⟩ := reserve_ok (F := F) (k := ot + M * (ng + na)) sS hB (by omega)
  have rn2 := rnS.cf (fR c sc).cf
  have r2 := rS.stf (fR c (sc + S.length * (ng + na))) (Nat.le_refl _)
  have fx : STF c ar sc cs X2 := (f1.trans f2c (Nat.le_refl _)).trans (fR c sc) (Nat.le_refl _)
  rw [c_X4_group_L29, if_pos (nI_le (Nat.le_refl _) (by omega)), gR_ok rn1.o, rn1.sp, ob_s, ob_s, ckE_ok s1.st.o, ob_s, e2, ob_s]
  unfold c_X4_group_b100
  rw [gR_ok rnS.o, rnS.sp, ob_s, ob_s, ckE_ok sS.st.o, ob_s, hM, pk_mul, nI_add, ← hot, pk_mul, nI_add, eR, ob_s]
  unfold c_X4_group_b127
  have b2 := r2.bd
  rw [lS] at b2
  have fin : ∀ (G : LL) (Y : CS), G.length ≤ A.length + 1 → STS ar B Y → STF c ar ot X2 Y → RWS ar ot (ng + na) G Y → CRO c ar B st (ng + na) G cs (c_X4_group_b241 F Y r (nI st) (nI (ng + na)) (nI ot) (nI G.length)) := fun G Y g1 s3 f3 r3 => by
    have rn3 := rn2.cf f3.cf
    have q1 : G.length * (ng + na) ≤ (A.length + 1) * (ng + na) := Nat.mul_le_mul_right _ g1
    rw [Nat.succ_mul] at q1
    obtain ⟨Z, e4, s4, b4, v4, w4, -, f4⟩ := scopy_ok (F := F) (fr := ot) (to := st) (n := G.length * (ng + na)) s3 hB r3.bd (by omega) (by omega)
    unfold c_X4_group_b241 c_X4_group_b256
    rw [gR_ok rn3.o, rn3.sp, ob_s, ob_s, ckE_ok s3.st.o, ob_s, pk_mul, e4, ob_s]
    exact ⟨Z, rfl, s4, r3.cp b4 v4, ((fx.mono (by omega)).trans (f3.mono (by omega)) (Nat.le_refl _)).trans (f4 c st (Nat.le_refl _)) (Nat.le_refl _)⟩
  by_cases q : A = []
  · have la : A.length = 0 := by rw [q]; rfl
    have gc : grC ng na κ kv iv A = if ng = 0 then [frow ng na κ [] []] else [] := by
      unfold grC
      rw [if_pos q]
    rw [gc]
    obtain ⟨u1, hu1⟩ : ∃ z, F = z + 1 := ⟨F - 1, by omega⟩
    have st1 : c_X4_group_L136 F F X2 r o (nI st) (nI A.length) (nI ng) (nI (ng + na)) (nI sc) (nI ot) 0 0 1 = (if nI ng = 0 then (Option.bind (ckE X2 5 r) fun _ => Option.bind (c_X4_fold F X2 r o (nI sc) 0 (nI ot)) fun cs_10 => c_X4_group_b238 F cs_10 r (nI st) (nI (ng + na)) (nI ot)) else (c_X4_group_b241 F X2 r (nI st) (nI (ng + na)) (nI ot) 0)) := by
      have e9 : c_X4_group_L136 F (u1 + 1) X2 r o (nI st) (nI A.length) (nI ng) (nI (ng + na)) (nI sc) (nI ot) 0 0 1 = (if nI ng = 0 then (Option.bind (ckE X2 5 r) fun _ => Option.bind (c_X4_fold F X2 r o (nI sc) 0 (nI ot)) fun cs_10 => c_X4_group_b238 F cs_10 r (nI st) (nI (ng + na)) (nI ot)) else (c_X4_group_b241 F X2 r (nI st) (nI (ng + na)) (nI ot) 0)) := by
        rw [c_X4_group_L136, la, if_pos (show nI 0 < 1 by decide), if_pos rfl]
      rw [← hu1] at e9
      exact e9
    rw [st1]
    have bo : ot ≤ kL X2 288 ar := by omega
    by_cases z : ng = 0
    · rw [if_pos z, if_pos (show nI ng = 0 by rw [z]; rfl), ckE_ok rn2.o, ob_s]
      have am2 := am.cf fx.cf
      rw [la] at hb hot
      obtain ⟨Y, e5, s5, f5, l5, v5⟩ := cfold_ok (F := F) (to := ot) (fr := sc) (S := []) (g := []) hF hB rn2 am2 s2 (RWS.nil (by omega)) (by rw [List.length_nil]; omega) (by rw [List.length_nil]; omega) (by omega) (by omega) h1 (by omega) (by omega) (by rw [z]; rfl)
      have e5' : c_X4_fold F X2 r o (nI sc) 0 (nI ot) = some Y := e5
      rw [e5', ob_s]
      unfold c_X4_group_b238
      exact fin [frow ng na κ [] []] Y (by show 1 ≤ _; omega) s5 f5 ((RWS.nil (by omega)).snoc (by rw [List.length_nil]; omega) (by rw [List.length_nil, Nat.zero_mul]; exact v5))
    · rw [if_neg z, if_neg (nI_ne0 (by omega) (by omega))]
      exact fin [] X2 (by rw [List.length_nil]; omega) s2 STF.refl (RWS.nil bo)
  · have la : 0 < A.length := List.length_pos_iff.mpr q
    have gc : grC ng na κ kv iv A = grR ng na κ S := by
      unfold grC
      rw [if_neg q, hS, hS0]
    rw [gc]
    have am2 := am.cf fx.cf
    rw [← lS] at hot hb ⊢
    have g0 : grR ng na κ (S.take 0) = [] := rfl
    obtain ⟨Y, u2, e6, s6, f6, r6⟩ := cgr_L (F := F) (r := r) (st := st) (sc := sc) (ot := ot) hF hB (by omega) (by omega) h1 hng am2 rn2 r2 (by rw [hS]; exact srt_srt S0) hot (by omega) (by rw [lS]; omega) S.length 1 F 0 X2 (by omega) (by omega) ⟨s2, STF.refl, by rw [g0]; exact RWS.nil (by rw [hot]; exact r2.bd), by omega, fun t t1 t2 _ => by rw [show t = 0 by omega], fun w => absurd w (by omega)⟩ (fun w => by omega) (fun _ => by omega)
    have e6' : c_X4_group_L136 F F X2 r o (nI st) (nI S.length) (nI ng) (nI (ng + na)) (nI sc) (nI ot) 0 0 1 = c_X4_group_L136 F (u2 + 1) Y r o (nI st) (nI S.length) (nI ng) (nI (ng + na)) (nI sc) (nI ot) (nI (grR ng na κ S).length) (nI S.length) (nI (S.length + 1)) := e6
    have gl := grR_le (ng := ng) (na := na) (κ := κ) (S := S)
    have gp : 0 < (grR ng na κ S).length := by
      refine List.length_pos_iff.mpr (fun w => ?_)
      unfold grR at w
      have w2 := List.map_eq_nil_iff.mp w
      have m1 := get_mem (S := S) (i := 0) (by omega)
      have m2 : (S.getD 0 []).take ng ∈ (S.map (fun W => W.take ng)).foldl adjS [] := (adj_mem _ _).mpr (Or.inr (List.mem_map.mpr ⟨_, m1, rfl⟩))
      rw [w2] at m2
      cases m2
    rw [e6', c_X4_group_L136, if_pos (nI_lt (by omega) (by omega)), if_neg (nI_ne0 gp (by omega))]
    exact fin _ Y (by omega) s6 f6 r6

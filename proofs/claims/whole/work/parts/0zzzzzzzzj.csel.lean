/-! the class runs a SELECT over its joined rows -/
def OPC (F c ar w : Nat) (v : Int32) (τ : RPR) (f : OVF) (cs : CS) : Prop := match f with
  | none => v = -1
  | some g => ∃ rt, v = nI rt ∧ rt < 120 ∧ EXC F c ar w rt τ g cs
theorem OPC.cf {F c ar w : Nat} {v : Int32} {τ : RPR} {f : OVF} {a b : CS} (h : OPC F c ar w v τ f a) (g : CFR c ar a b) : OPC F c ar w v τ f b := by
  cases f with
  | none => exact h
  | some f =>
    obtain ⟨rt, h1, h2, h3⟩ := h
    exact ⟨rt, h1, h2, h3.cf g⟩
theorem copt_ok {F r c ar B st w : Nat} {v : Int32} {τ : RPR} {f : OVF} {A : LL} {cs : CS} (ty : ∀ L, L ∈ A → τ L) (hF : 10000 ≤ F) (hB : B ≤ 400000) (hb : st + A.length * w ≤ B) (hm : A.length ≤ 600) (hw : w ≤ 100) (rn : RUN r c ar cs) (op : OPC F c ar w v τ f cs) (h : STS ar B cs) (hr : RWS ar st w A cs) : CRO c ar B st w (optF f A) cs (c_X4_filter F cs r v (nI st) (nI A.length) (nI w)) := by
  cases f with
  | none =>
    have e : v = -1 := op
    unfold c_X4_filter
    rw [e, if_neg (by decide)]
    exact ⟨cs, rfl, h, hr, STF.refl⟩
  | some g =>
    obtain ⟨rt, h1, h2, h3⟩ := op
    rw [h1]
    exact cfilt_ok ty hF hB hb hm hw (by omega) rn h3 h hr
theorem optF_sub {f : OVF} {A : LL} {L : List OV} (h : L ∈ optF f A) : L ∈ A := by
  cases f with
  | none => exact h
  | some g => exact (List.mem_filter.mp h).1
/-- a SELECT's meaning, as the class holds it -/
def SLC (F c ar o W mi : Nat) (gr di : Bool) (ng na gl il s cap : Nat) (nd : Nat → Nat) (κ : Nat → Int32) (τ σ : RPR) (wh hc : OVF) (pc kv iv : Nat → List OV → OV) (cs : CS) : Prop := ((6, o) ∈ kE cs) ∧ (W ≤ 100) ∧ (1 ≤ mi) ∧ (OPC F c ar W (kI cs 197 o) τ wh cs) ∧ ((gr = true ∧ (kI cs 198 o ≠ 0 ∨ ¬ kI cs 203 o ≤ 0)) ∨ (gr = false ∧ kI cs 198 o = 0 ∧ kI cs 203 o ≤ 0)) ∧ (kR cs 194 o = some il) ∧ (CLX F c ar (if gr = true then ng + na else W) il mi σ pc cs) ∧ (OPC F c ar (if gr = true then ng + na else W) (kI cs 201 o) σ hc cs) ∧ (gr = true → AGM c o ng na gl s cap nd κ cs ∧ CLX F c ar W gl ng τ kv cs ∧ INX F c ar W na τ nd κ iv cs ∧ 1 ≤ ng + na ∧ ng ≤ 8 ∧ ng + na ≤ 24) ∧ (di = true ↔ kI cs 192 o ≠ 0)
theorem SLC.e {F c ar o W mi : Nat} {gr di : Bool} {ng na gl il s cap : Nat} {nd : Nat → Nat} {κ : Nat → Int32} {τ σ : RPR} {wh hc : OVF} {pc kv iv : Nat → List OV → OV} {cs : CS} (h : SLC F c ar o W mi gr di ng na gl il s cap nd κ τ σ wh hc pc kv iv cs) : (6, o) ∈ kE cs := h.1
theorem SLC.w1 {F c ar o W mi : Nat} {gr di : Bool} {ng na gl il s cap : Nat} {nd : Nat → Nat} {κ : Nat → Int32} {τ σ : RPR} {wh hc : OVF} {pc kv iv : Nat → List OV → OV} {cs : CS} (h : SLC F c ar o W mi gr di ng na gl il s cap nd κ τ σ wh hc pc kv iv cs) : W ≤ 100 := h.2.1
theorem SLC.m1 {F c ar o W mi : Nat} {gr di : Bool} {ng na gl il s cap : Nat} {nd : Nat → Nat} {κ : Nat → Int32} {τ σ : RPR} {wh hc : OVF} {pc kv iv : Nat → List OV → OV} {cs : CS} (h : SLC F c ar o W mi gr di ng na gl il s cap nd κ τ σ wh hc pc kv iv cs) : 1 ≤ mi := h.2.2.1
theorem SLC.wh' {F c ar o W mi : Nat} {gr di : Bool} {ng na gl il s cap : Nat} {nd : Nat → Nat} {κ : Nat → Int32} {τ σ : RPR} {wh hc : OVF} {pc kv iv : Nat → List OV → OV} {cs : CS} (h : SLC F c ar o W mi gr di ng na gl il s cap nd κ τ σ wh hc pc kv iv cs) : OPC F c ar W (kI cs 197 o) τ wh cs := h.2.2.2.1
theorem SLC.isg {F c ar o W mi : Nat} {gr di : Bool} {ng na gl il s cap : Nat} {nd : Nat → Nat} {κ : Nat → Int32} {τ σ : RPR} {wh hc : OVF} {pc kv iv : Nat → List OV → OV} {cs : CS} (h : SLC F c ar o W mi gr di ng na gl il s cap nd κ τ σ wh hc pc kv iv cs) : (gr = true ∧ (kI cs 198 o ≠ 0 ∨ ¬ kI cs 203 o ≤ 0)) ∨ (gr = false ∧ kI cs 198 o = 0 ∧ kI cs 203 o ≤ 0) := h.2.2.2.2.1
theorem SLC.il' {F c ar o W mi : Nat} {gr di : Bool} {ng na gl il s cap : Nat} {nd : Nat → Nat} {κ : Nat → Int32} {τ σ : RPR} {wh hc : OVF} {pc kv iv : Nat → List OV → OV} {cs : CS} (h : SLC F c ar o W mi gr di ng na gl il s cap nd κ τ σ wh hc pc kv iv cs) : kR cs 194 o = some il := h.2.2.2.2.2.1
theorem SLC.im {F c ar o W mi : Nat} {gr di : Bool} {ng na gl il s cap : Nat} {nd : Nat → Nat} {κ : Nat → Int32} {τ σ : RPR} {wh hc : OVF} {pc kv iv : Nat → List OV → OV} {cs : CS} (h : SLC F c ar o W mi gr di ng na gl il s cap nd κ τ σ wh hc pc kv iv cs) : CLX F c ar (if gr = true then ng + na else W) il mi σ pc cs := h.2.2.2.2.2.2.1
theorem SLC.hv {F c ar o W mi : Nat} {gr di : Bool} {ng na gl il s cap : Nat} {nd : Nat → Nat} {κ : Nat → Int32} {τ σ : RPR} {wh hc : OVF} {pc kv iv : Nat → List OV → OV} {cs : CS} (h : SLC F c ar o W mi gr di ng na gl il s cap nd κ τ σ wh hc pc kv iv cs) : OPC F c ar (if gr = true then ng + na else W) (kI cs 201 o) σ hc cs := h.2.2.2.2.2.2.2.1
theorem SLC.gp {F c ar o W mi : Nat} {gr di : Bool} {ng na gl il s cap : Nat} {nd : Nat → Nat} {κ : Nat → Int32} {τ σ : RPR} {wh hc : OVF} {pc kv iv : Nat → List OV → OV} {cs : CS} (h : SLC F c ar o W mi gr di ng na gl il s cap nd κ τ σ wh hc pc kv iv cs) : gr = true → AGM c o ng na gl s cap nd κ cs ∧ CLX F c ar W gl ng τ kv cs ∧ INX F c ar W na τ nd κ iv cs ∧ 1 ≤ ng + na ∧ ng ≤ 8 ∧ ng + na ≤ 24 := h.2.2.2.2.2.2.2.2.1
theorem SLC.di' {F c ar o W mi : Nat} {gr di : Bool} {ng na gl il s cap : Nat} {nd : Nat → Nat} {κ : Nat → Int32} {τ σ : RPR} {wh hc : OVF} {pc kv iv : Nat → List OV → OV} {cs : CS} (h : SLC F c ar o W mi gr di ng na gl il s cap nd κ τ σ wh hc pc kv iv cs) : di = true ↔ kI cs 192 o ≠ 0 := h.2.2.2.2.2.2.2.2.2
theorem SLC.cf {F c ar o W mi : Nat} {gr di : Bool} {ng na gl il s cap : Nat} {nd : Nat → Nat} {κ : Nat → Int32} {τ σ : RPR} {wh hc : OVF} {pc kv iv : Nat → List OV → OV} {a b : CS} (h : SLC F c ar o W mi gr di ng na gl il s cap nd κ τ σ wh hc pc kv iv a) (g : CFR c ar a b) : SLC F c ar o W mi gr di ng na gl il s cap nd κ τ σ wh hc pc kv iv b := by
  have i := fun x (hx : 192 ≤ x ∧ x ≤ 210) => (g.fr x o (by omega) (by omega)).i
  refine ⟨g.em _ h.e, h.w1, h.m1, by rw [i 197 (by omega)]; exact h.wh'.cf g, by rw [i 198 (by omega), i 203 (by omega)]; exact h.isg, by rw [(g.fr 194 o (by omega) (by omega)).r]; exact h.il', h.im.cf g, by rw [i 201 (by omega)]; exact h.hv.cf g, fun q => ?_, by rw [i 192 (by omega)]; exact h.di'⟩
  obtain ⟨h1, h2, h3, h4⟩ := h.gp q
  exact ⟨h1.cf g, h2.cf g, h3.cf g, h4⟩
theorem grC_le {ng na : Nat} {κ : Nat → Int32} {kv iv : Nat → List OV → OV} {A : LL} : (grC ng na κ kv iv A).length ≤ one1 A.length := by
  have o1 := one1_le A.length
  unfold grC
  by_cases q : A = []
  · rw [if_pos q]
    by_cases z : ng = 0
    · rw [if_pos z]
      show 1 ≤ _
      omega
    · rw [if_neg z]
      show 0 ≤ _
      omega
  · rw [if_neg q]
    have h := grR_le (ng := ng) (na := na) (κ := κ) (S := srtK (kd 0) (A.map (gwr ng na kv iv)))
    rw [(srt_perm _).length_eq, List.length_map] at h
    omega
/-- cells that a SELECT over M rows of W cells uses at most -/
def csu (M W mi : Nat) : Nat := (M + 1) * W + 3 * ((M + 1) * 24) + 2 * ((M + 1) * mi)
theorem mul_up {a M w w' : Nat} (h : a ≤ M) (g : w ≤ w') : a * w ≤ M * w' := Nat.mul_le_mul h g
theorem csel_ok {F r c ar B o st W mi M : Nat} {gr di : Bool} {ng na gl il s cap : Nat} {nd : Nat → Nat} {κ : Nat → Int32} {τ σ : RPR} {wh hc : OVF} {pc kv iv : Nat → List OV → OV} {T : TC_X4_runQuery} {A : LL} {cs : CS} (t1 : ∀ L, L ∈ A → τ L) (t2 : ∀ L, L ∈ (if gr = true then grC ng na κ kv iv (optF wh A) else optF wh A) → σ L) (hF : 10000 ≤ F) (hB : B ≤ 400000) (hM : M ≤ 599) (hA : A.length ≤ M) (hb : st + csu M W mi ≤ B) (rn : RUN r c ar cs) (sl : SLC F c ar o W mi gr di ng na gl il s cap nd κ τ σ wh hc pc kv iv cs) (jw : ∀ X, CFR c ar cs X → c_X5_joinedWidth F X o = some (nI W)) (hs : STS ar B cs) (hr : RWS ar st W A cs) : CRO c ar B st mi (selC mi gr di ng na κ wh hc pc kv iv A) cs (c_X4_runSelect_b6 F T cs r o (nI st) (nI A.length)) := by
  have w1 := sl.w1
  have m1 := sl.m1
  have m8 := sl.im.1.m8
  unfold csu at hb
  have uA : A.length * W ≤ (M + 1) * W := mul_up (by omega) (Nat.le_refl _)
  obtain ⟨X1, e1, s1, r1, f1⟩ := copt_ok (F := F) t1 hF hB (by omega) (by omega) w1 rn sl.wh' hs hr
  have sl1 := sl.cf f1.cf
  have rn1 := rn.cf f1.cf
  obtain ⟨A1, hA1⟩ : ∃ z, z = optF wh A := ⟨_, rfl⟩
  have l1 : A1.length ≤ M := by rw [hA1]; exact Nat.le_trans optF_len hA
  rw [← hA1] at e1 r1
  have uA1 : A1.length * W ≤ (M + 1) * W := mul_up (by omega) (Nat.le_refl _)
  obtain ⟨W2, hW2⟩ : ∃ z, z = if gr = true then ng + na else W := ⟨_, rfl⟩
  obtain ⟨G, hG⟩ : ∃ z, z = if gr = true then grC ng na κ kv iv A1 else A1 := ⟨_, rfl⟩
  have tG : ∀ L, L ∈ G → σ L := by rw [hG, hA1]; exact t2
  have tA1 : ∀ L, L ∈ A1 → τ L := fun L hL => t1 L (by rw [hA1] at hL; exact optF_sub hL)
  have lG : G.length ≤ M + 1 := by
    rw [hG]
    by_cases q : gr = true
    · rw [if_pos q]
      have h1 := grC_le (ng := ng) (na := na) (κ := κ) (kv := kv) (iv := iv) (A := A1)
      unfold one1 at h1
      by_cases z : A1.length = 0
      · rw [if_pos z] at h1; omega
      · rw [if_neg z] at h1; omega
    · rw [if_neg q]; omega
  have tail : ∀ X2, STS ar B X2 → RWS ar st W2 G X2 → STF c ar st cs X2 → CRO c ar B st mi (selC mi gr di ng na κ wh hc pc kv iv A) cs (c_X4_runSelect_b57 F T X2 r o (nI st) (nI G.length) (nI W2)) := fun X2 s2 r2 f2 => by
    have sl2 := sl.cf f2.cf
    have rn2 := rn.cf f2.cf
    have w2 : W2 ≤ 100 ∧ G.length * W2 ≤ (M + 1) * W + (M + 1) * 24 := by
      rw [hW2]
      by_cases q : gr = true
      · rw [if_pos q]
        have g24 := (sl2.gp q).2.2.2.2.2
        have := mul_up lG g24
        exact ⟨by omega, by omega⟩
      · rw [if_neg q]
        have := mul_up lG (Nat.le_refl W)
        exact ⟨by omega, by omega⟩
    have hv2 := sl2.hv
    rw [← hW2] at hv2
    obtain ⟨X3, e3, s3, r3, f3⟩ := copt_ok (F := F) tG hF hB (by omega) (by omega) w2.1 rn2 hv2 s2 r2
    have fx3 := f2.trans f3 (Nat.le_refl _)
    have sl3 := sl.cf fx3.cf
    have rn3 := rn.cf fx3.cf
    obtain ⟨H, hH⟩ : ∃ z, z = optF hc G := ⟨_, rfl⟩
    have lH : H.length ≤ G.length := by rw [hH]; exact optF_len
    have tH : ∀ L, L ∈ H → σ L := fun L hL => tG L (by rw [hH] at hL; exact optF_sub hL)
    rw [← hH] at e3 r3
    have im3 := sl3.im
    rw [← hW2] at im3
    have uH : H.length * W2 ≤ G.length * W2 := mul_up lH (Nat.le_refl _)
    have uP : H.length * mi ≤ (M + 1) * mi := mul_up (by omega) (Nat.le_refl _)
    obtain ⟨X4, e4, s4, r4, f4⟩ := cproj_ok (F := F) tH hF hB (by omega) m1 (by omega) im3 rn3 s3 r3
    have fx4 := fx3.trans f4 (Nat.le_refl _)
    have sl4 := sl.cf fx4.cf
    have rn4 := rn.cf fx4.cf
    obtain ⟨P, hP⟩ : ∃ z, z = H.map (prow mi pc) := ⟨_, rfl⟩
    have lP : P.length = H.length := by rw [hP, List.length_map]
    rw [← hP] at r4
    have selE : selC mi gr di ng na κ wh hc pc kv iv A = if di = true then (srtK (kd 0) P).foldl adjS [] else P := by
      unfold selC
      rw [hP, hH, hG, hA1]
    rw [selE]
    unfold c_X4_runSelect_b57 c_X4_runSelect_b69 c_X4_runSelect_b82 c_X4_runSelect_b108 c_X4_runSelect_b124
    rw [gI_ok sl2.e, ob_s, ckE_ok rn2.o, ob_s, e3, ob_s]
    show CRO c ar B st mi _ cs (Option.bind (gR X3 6 194 o) fun v_17 => Option.bind (v_17) fun i_18 => Option.bind (ckE X3 5 r) fun _ => Option.bind (c_X4_project F X3 r i_18 (nI st) (nI H.length) (nI W2)) fun cs_19 => Option.bind (gI cs_19 6 192 o) fun v_8 => if v_8 = 0 then (some (cs_19, nI H.length)) else (Option.bind (gR cs_19 5 162 r) fun v_10 => Option.bind (gR cs_19 6 194 o) fun v_11 => Option.bind (v_11) fun i_12 => Option.bind (gI cs_19 3 96 i_12) fun v_13 => Option.bind (v_10) fun i_15 => Option.bind (ckE cs_19 9 i_15) fun _ => Option.bind (c_X8_sort F cs_19 i_15 (nI st) (nI H.length) v_13 0) fun cs_14 => Option.bind (gR cs_14 5 162 r) fun v_1 => Option.bind (gR cs_14 6 194 o) fun v_2 => Option.bind (v_2) fun i_3 => Option.bind (gI cs_14 3 96 i_3) fun v_4 => Option.bind (v_1) fun i_6 => Option.bind (ckE cs_14 9 i_6) fun _ => Option.bind (c_X8_once F cs_14 i_6 (nI st) (nI H.length) v_4) fun z_5 => some (z_5.1, z_5.2)))
    rw [gR_ok sl3.e, sl3.il', ob_s, ob_s, ckE_ok rn3.o, ob_s, e4, ob_s, gI_ok sl4.e, ob_s, ← lP]
    by_cases q : kI X4 192 o = 0
    · have nd' : ¬ di = true := fun z => (sl4.di'.mp z) q
      rw [if_pos q, if_neg nd']
      exact ⟨X4, rfl, s4, r4, fx4⟩
    · have yd : di = true := sl4.di'.mpr q
      obtain ⟨X5, e5, s5, f5, X6, e6, s6, r6, f6⟩ := sorted_once (F := F) (c := c) hF hB (by rw [lP]; omega) (by omega) (by omega) s4 r4
      have fx5 := fx4.trans (f5 c) (Nat.le_refl _)
      have sl5 := sl.cf fx5.cf
      have rn5 := rn.cf fx5.cf
      rw [if_neg q, if_pos yd, gR_ok rn4.o, rn4.sp, ob_s, gR_ok sl4.e, sl4.il', ob_s, ob_s, gI_ok sl4.im.1.e, ob_s, sl4.im.1.sz, ob_s, ckE_ok s4.st.o, ob_s, e5, ob_s, gR_ok rn5.o, rn5.sp, ob_s, gR_ok sl5.e, sl5.il', ob_s, ob_s, gI_ok sl5.im.1.e, ob_s, sl5.im.1.sz, ob_s, ckE_ok s5.st.o, ob_s, e6, ob_s]
      exact ⟨X6, rfl, s6, r6, fx4.trans f6 (Nat.le_refl _)⟩
  unfold c_X4_runSelect_b6 c_X4_runSelect_b25 c_X4_runSelect_b42
  rw [ckE_ok sl.e, ob_s, jw cs CFR.refl, ob_s, gI_ok sl.e, ob_s, ckE_ok rn.o, ob_s, e1, ob_s]
  show CRO c ar B st mi _ cs (Option.bind (ckE X1 6 o) fun _ => Option.bind (c_X5_isGrouped F X1 o) fun v_28 => if v_28 = 0 then (c_X4_runSelect_b57 F T X1 r o (nI st) (nI A1.length) (nI W)) else (Option.bind (ckE X1 5 r) fun _ => Option.bind (c_X4_group F X1 r o (nI st) (nI A1.length) (nI W)) fun z_31 => Option.bind (gR z_31.1 6 200 o) fun v_24 => Option.bind (v_24) fun i_25 => Option.bind (gI z_31.1 3 96 i_25) fun v_26 => Option.bind (gI z_31.1 6 203 o) fun v_27 => c_X4_runSelect_b57 F T z_31.1 r o (nI st) z_31.2 (v_26 + v_27)))
  rw [ckE_ok sl1.e, ob_s]
  rcases sl1.isg with ⟨g1, g2⟩ | ⟨g1, g2, g3⟩
  · have ig : c_X5_isGrouped F X1 o = some 1 := by
      unfold c_X5_isGrouped c_X5_isGrouped_b14 c_X5_isGrouped_b19
      rw [gI_ok sl1.e, ob_s]
      by_cases z : kI X1 198 o = 0
      · rw [if_pos z, gI_ok sl1.e, ob_s, if_neg (g2.elim (fun y => absurd z y) id)]
        rfl
      · rw [if_neg z]
        rfl
    obtain ⟨am, cx, ix, h1, hng, h24⟩ := sl1.gp g1
    have u1 : A1.length * (ng + na) ≤ (M + 1) * 24 := mul_up (by omega) h24
    have u2 : (A1.length + 1) * (ng + na) ≤ (M + 1) * 24 := mul_up (by omega) h24
    obtain ⟨X2, e2, s2, r2, f2⟩ := cgroup_ok (F := F) tA1 hF hB (by omega) h1 hng (by omega) (by omega) am cx ix rn1 s1 r1
    have fx2 := f1.trans f2 (Nat.le_refl _)
    have am2 := am.cf f2.cf
    have eG : G = grC ng na κ kv iv A1 := by rw [hG, if_pos g1]
    have eW : W2 = ng + na := by rw [hW2, if_pos g1]
    rw [← eG] at e2 r2
    rw [ig, ob_s, if_neg (by decide), ckE_ok rn1.o, ob_s, e2, ob_s]
    show CRO c ar B st mi _ cs (Option.bind (gR X2 6 200 o) fun v_24 => Option.bind (v_24) fun i_25 => Option.bind (gI X2 3 96 i_25) fun v_26 => Option.bind (gI X2 6 203 o) fun v_27 => c_X4_runSelect_b57 F T X2 r o (nI st) (nI G.length) (v_26 + v_27))
    rw [gR_ok am2.e, am2.g, ob_s, ob_s, gI_ok am2.gm.e, ob_s, am2.gm.sz, gI_ok am2.e, ob_s, am2.n, nI_add, ← eW]
    rw [← eW] at r2
    exact tail X2 s2 r2 fx2
  · have ig : c_X5_isGrouped F X1 o = some 0 := by
      unfold c_X5_isGrouped c_X5_isGrouped_b19
      rw [gI_ok sl1.e, ob_s, if_pos g2, gI_ok sl1.e, ob_s, if_pos g3]
      rfl
    have ng1 : ¬ gr = true := by rw [g1]; decide
    have eG : G = A1 := by rw [hG, if_neg ng1]
    have eW : W2 = W := by rw [hW2, if_neg ng1]
    rw [ig, ob_s, if_pos rfl, ← eG, ← eW]
    exact tail X1 s1 (by rw [eW, eG]; exact r1) f1

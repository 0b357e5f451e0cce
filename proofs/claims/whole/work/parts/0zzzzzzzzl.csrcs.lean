/-! the class joins all SOURCES of a SELECT -/
/-- a SOURCE's run, a SELECT's, a QUERY's: K cells at most -/
def SRX (T : TC_X4_runQuery) (r c ar B : Nat) (cs : CS) (o w K : Nat) (rows : LL) : Prop := ∀ (X : CS) (st : Nat), CFR c ar cs X → STS ar B X → st + K ≤ B → st ≤ kL X 288 ar → CRO c ar B st w rows X (T.2.2.2 X r o (nI st))
def JNX (T : TC_X4_runQuery) (r c ar B : Nat) (cs : CS) (o w K : Nat) (rows : LL) : Prop := ∀ (X : CS) (st : Nat), CFR c ar cs X → STS ar B X → st + K ≤ B → st ≤ kL X 288 ar → CRO c ar B st w rows X (T.2.2.1 X r o (nI st))
def SLX (T : TC_X4_runQuery) (r c ar B : Nat) (cs : CS) (o w K : Nat) (rows : LL) : Prop := ∀ (X : CS) (st : Nat), CFR c ar cs X → STS ar B X → st + K ≤ B → st ≤ kL X 288 ar → CRO c ar B st w rows X (T.2.1 X r o (nI st))
def QYX (T : TC_X4_runQuery) (r c ar B : Nat) (cs : CS) (q w K : Nat) (rows : LL) : Prop := ∀ (X : CS) (st : Nat), CFR c ar cs X → STS ar B X → st + K ≤ B → st ≤ kL X 288 ar → CRO c ar B st w rows X (T.1 X r q (nI st))
theorem SRX.cf {T : TC_X4_runQuery} {r c ar B o w K : Nat} {rows : LL} {a b : CS} (h : SRX T r c ar B a o w K rows) (g : CFR c ar a b) : SRX T r c ar B b o w K rows := fun X st h1 => h X st (g.trans h1)
theorem SLX.cf {T : TC_X4_runQuery} {r c ar B o w K : Nat} {rows : LL} {a b : CS} (h : SLX T r c ar B a o w K rows) (g : CFR c ar a b) : SLX T r c ar B b o w K rows := fun X st h1 => h X st (g.trans h1)
def wd0 (w : Nat → Nat) (i : Nat) : Nat := match i with
  | 0 => 0
  | i + 1 => wid w i
/-- the SOURCES of a SELECT, as the class holds them -/
def SSC (o ns : Nat) (w so : Nat → Nat) (cs : CS) : Prop := ((6, o) ∈ kE cs) ∧ (kI cs 196 o = nI ns) ∧ ((227, o) ∈ kE cs) ∧ (∃ j, kP cs 195 o = some j) ∧ (ns ≤ kL cs 195 o) ∧ (kL cs 195 o ≤ 1000) ∧ (∀ i, i < ns → kQ cs 195 o i = some (so i) ∧ (7, so i) ∈ kE cs ∧ kI cs 234 (so i) = nI (wd0 w i) ∧ ∃ cl, kR cs 235 (so i) = some cl ∧ CLM cl (w i) cs)
theorem SSC.e {o ns : Nat} {w so : Nat → Nat} {cs : CS} (h : SSC o ns w so cs) : (6, o) ∈ kE cs := h.1
theorem SSC.n {o ns : Nat} {w so : Nat → Nat} {cs : CS} (h : SSC o ns w so cs) : kI cs 196 o = nI ns := h.2.1
theorem SSC.e5 {o ns : Nat} {w so : Nat → Nat} {cs : CS} (h : SSC o ns w so cs) : (227, o) ∈ kE cs := h.2.2.1
theorem SSC.p5 {o ns : Nat} {w so : Nat → Nat} {cs : CS} (h : SSC o ns w so cs) : ∃ j, kP cs 195 o = some j := h.2.2.2.1
theorem SSC.l5 {o ns : Nat} {w so : Nat → Nat} {cs : CS} (h : SSC o ns w so cs) : ns ≤ kL cs 195 o := h.2.2.2.2.1
theorem SSC.l6 {o ns : Nat} {w so : Nat → Nat} {cs : CS} (h : SSC o ns w so cs) : kL cs 195 o ≤ 1000 := h.2.2.2.2.2.1
theorem SSC.sr {o ns : Nat} {w so : Nat → Nat} {cs : CS} (h : SSC o ns w so cs) : ∀ i, i < ns → kQ cs 195 o i = some (so i) ∧ (7, so i) ∈ kE cs ∧ kI cs 234 (so i) = nI (wd0 w i) ∧ ∃ cl, kR cs 235 (so i) = some cl ∧ CLM cl (w i) cs := h.2.2.2.2.2.2
theorem SSC.cf {c ar o ns : Nat} {w so : Nat → Nat} {a b : CS} (h : SSC o ns w so a) (g : CFR c ar a b) : SSC o ns w so b := by
  have g5 := g.fr 195 o (by omega) (by omega)
  refine ⟨g.em _ h.e, by rw [(g.fr 196 o (by omega) (by omega)).i]; exact h.n, g.em _ h.e5, by rw [g5.p]; exact h.p5, by rw [g5.l]; exact h.l5, by rw [g5.l]; exact h.l6, fun i hi => ?_⟩
  obtain ⟨h1, h2, h3, cl, h4, h5⟩ := h.sr i hi
  exact ⟨by rw [g5.q]; exact h1, g.em _ h2, by rw [(g.fr 234 (so i) (by omega) (by omega)).i]; exact h3, cl, by rw [(g.fr 235 (so i) (by omega) (by omega)).r]; exact h4, h5.cf g⟩
theorem jwid_L {F o ns : Nat} {w so : Nat → Nat} {cs : CS} (h : SSC o (ns + 1) w so cs) (hn : ns ≤ 100) : ∀ (d i u : Nat), ns + 1 = i + d → d < u → c_X5_joinedWidth_L4 F cs u o (nI (wd0 w i)) (nI i) = some (nI (wid w ns)) := by
  intro d
  induction d with
  | zero =>
    intro i u d1 d2
    obtain ⟨u, rfl⟩ : ∃ z, u = z + 1 := ⟨u - 1, by omega⟩
    rw [c_X5_joinedWidth_L4, gI_ok h.e, ob_s, h.n, if_pos (nI_le (by omega) (by omega)), show i = ns + 1 by omega]
    rfl
  | succ d ih =>
    intro i u d1 d2
    obtain ⟨u, rfl⟩ : ∃ z, u = z + 1 := ⟨u - 1, by omega⟩
    obtain ⟨j, hj⟩ := h.p5
    have l5 := h.l5
    have l6 := h.l6
    obtain ⟨h1, h2, h3, cl, h4, h5⟩ := h.sr i (by omega)
    have e := ih (i + 1) u (by omega) (by omega)
    rw [c_X5_joinedWidth_L4, gI_ok h.e, ob_s, h.n, if_neg (nI_ge (by omega) (by omega)), gA_ok h.e, hj, ob_s, lnA_n h.e5 hj, ob_s, if_neg (nI_ge (by omega) (by omega)), ob_s, rQ_n h.e5 hj (by omega) (by omega), ob_s, h1]
    show (Option.bind (some j) fun v_9 => Option.bind (rQ cs 195 o v_9 (nI i)) fun v_10 => Option.bind (v_10) fun i_11 => Option.bind (gR cs 7 235 i_11) fun v_12 => Option.bind (v_12) fun i_13 => Option.bind (gI cs 3 96 i_13) fun v_14 => c_X5_joinedWidth_b47 F cs (c_X5_joinedWidth_L4 F cs u) o (nI i) v_14 (nI (wd0 w i))) = _
    rw [ob_s, rQ_n h.e5 hj (by omega) (by omega), ob_s, h1, ob_s, gR_ok h2, ob_s, h4, ob_s, gI_ok h5.e, ob_s, h5.sz]
    unfold c_X5_joinedWidth_b47
    rw [nI_add, nI_1]
    have e2 : wd0 w i + w i = wd0 w (i + 1) := by
      cases i with
      | zero => exact Nat.zero_add _
      | succ i => rfl
    rw [e2]
    exact e
theorem jwid_ok {F o ns : Nat} {w so : Nat → Nat} {cs : CS} (hF : 10000 ≤ F) (h : SSC o (ns + 1) w so cs) (hn : ns ≤ 100) : c_X5_joinedWidth F cs o = some (nI (wid w ns)) := jwid_L h hn (ns + 1) 0 F (by omega) (by omega)
theorem jn_le {src : Nat → LL} {ou : Nat → Bool} {on : Nat → List OV → OV} {w : Nat → Nat} : ∀ (i : Nat), (jnL src ou on w i).length ≤ prd src i
  | 0 => (one1_le _).1
  | i + 1 => by
    refine Nat.le_trans (flat_le (fun x => joX_le) _) ?_
    exact Nat.mul_le_mul_right _ (jn_le i)
theorem csrc_L {F r c ar B o ns M K : Nat} {T : TC_X4_runQuery} {src : Nat → LL} {ou : Nat → Bool} {on : Nat → List OV → OV} {τ : Nat → RPR} {w so k : Nat → Nat} {cs : CS} (hF : 10000 ≤ F) (hB : B ≤ 400000) (hns : ns ≤ 100) (rn : RUN r c ar cs) (ss : SSC o ns w so cs) (sr : ∀ i, i < ns → SRX T r c ar B cs (so i) (w i) (k i) (src i)) (jn : ∀ i, i + 1 < ns → JNC F c ar (so (i + 1)) (wid w i) (w (i + 1)) (ou (i + 1)) (τ (i + 1)) (on (i + 1)) cs) (ty : ∀ i x y, i + 1 < ns → x ∈ jnL src ou on w i → y ∈ src (i + 1) → τ (i + 1) (x ++ y)) (hw : ∀ i, i < ns → wid w i ≤ 24) (hP : ∀ i, i < ns → prd src i ≤ M) (hS : ∀ i, i < ns → (src i).length ≤ M) (hM : M ≤ 600) (hk : ∀ i, 1 ≤ i → i < ns → M * 24 + k i ≤ K) (hK : 2 * (M * 24) + (M + 602) * 24 ≤ K) {st : Nat} (hst : st + K ≤ B) : ∀ (d i u : Nat) (X : CS), ns = i + 1 + d → d < u → STS ar B X → STF c ar st cs X → RWS ar st (wid w i) (jnL src ou on w i) X → CRO c ar B st (wid w (ns - 1)) (jnL src ou on w (ns - 1)) cs (c_X4_joinSources_L5 F T u X r o (nI st) (nI (jnL src ou on w i).length) (nI (i + 1))) := by
  intro d
  induction d with
  | zero =>
    intro i u X d1 d2 hs hf hr
    obtain ⟨u, rfl⟩ : ∃ z, u = z + 1 := ⟨u - 1, by omega⟩
    have ss1 := ss.cf hf.cf
    rw [c_X4_joinSources_L5, gI_ok ss1.e, ob_s, ss1.n, if_pos (nI_le (by omega) (by omega)), show ns - 1 = i by omega]
    exact ⟨X, rfl, hs, hr, hf⟩
  | succ d ih =>
    intro i u X d1 d2 hs hf hr
    obtain ⟨u, rfl⟩ : ∃ z, u = z + 1 := ⟨u - 1, by omega⟩
    have ss1 := ss.cf hf.cf
    have rn1 := rn.cf hf.cf
    obtain ⟨j, hj⟩ := ss1.p5
    have l5 := ss1.l5
    have l6 := ss1.l6
    obtain ⟨h1, h2, h3, -⟩ := ss1.sr (i + 1) (by omega)
    have h3' : kI X 234 (so (i + 1)) = nI (wid w i) := h3
    obtain ⟨A, hA⟩ : ∃ z, z = jnL src ou on w i := ⟨_, rfl⟩
    rw [← hA] at hr ⊢
    have lA : A.length ≤ M := by rw [hA]; exact Nat.le_trans (jn_le i) (hP i (by omega))
    have uA : A.length * wid w i ≤ M * 24 := mul_up lA (hw i (by omega))
    have k1 := hk (i + 1) (by omega) (by omega)
    obtain ⟨Y, e1, s1, r1, f1⟩ := sr (i + 1) (by omega) X (st + A.length * wid w i) hf.cf hs (by omega) hr.bd
    have fx : STF c ar st cs Y := hf.trans f1 (by omega)
    have rn2 := rn.cf fx.cf
    have rA : RWS ar st (wid w i) A Y := hr.stf f1 (Nat.le_refl _)
    have jn1 := (jn i (by omega)).cf fx.cf
    have lE := hS (i + 1) (by omega)
    have ww := hw (i + 1) (by omega)
    have ww2 : wid w i + w (i + 1) ≤ 24 := ww
    have uE : (src (i + 1)).length * w (i + 1) ≤ M * 24 := mul_up lE (by omega)
    have uM : (M + 602) * (wid w i + w (i + 1)) ≤ (M + 602) * 24 := mul_up (Nat.le_refl _) ww2
    have pr : A.length * one1 (src (i + 1)).length ≤ M := by
      have h4 := hP (i + 1) (by omega)
      have h5 : A.length * one1 (src (i + 1)).length ≤ prd src i * one1 (src (i + 1)).length := Nat.mul_le_mul_right _ (by rw [hA]; exact jn_le i)
      exact Nat.le_trans h5 h4
    obtain ⟨M2, hM2⟩ : ∃ z, z = M + 602 := ⟨_, rfl⟩
    rw [← hM2] at uM
    have hM3 : M2 * 24 = (M + 602) * 24 := by rw [hM2]
    obtain ⟨Z, e2, s2, r2, f2⟩ := cjoin_ok (F := F) (M := M2) hF hB (by omega) (by omega) (by omega) rn2 (fun x y hx hy => ty i x y (by omega) (by rw [← hA]; exact hx) hy) jn1 s1 rA r1 (by omega) (by omega) (by rw [hM2]; exact Nat.add_le_add_right pr 602)
    rw [c_X4_joinSources_L5, gI_ok ss1.e, ob_s, ss1.n, if_neg (nI_ge (by omega) (by omega)), gA_ok ss1.e, hj, ob_s, lnA_n ss1.e5 hj, ob_s, if_neg (nI_ge (by omega) (by omega)), ob_s, rQ_n ss1.e5 hj (by omega) (by omega), ob_s, h1]
    show CRO c ar B st (wid w (ns - 1)) (jnL src ou on w (ns - 1)) cs (Option.bind (gI X 7 234 (so (i + 1))) fun v_12 => Option.bind (ckE X 5 r) fun _ => Option.bind (T.2.2.2 X r (so (i + 1)) (nI st + (nI A.length * v_12))) fun z_13 => c_X4_joinSources_b57 F T (c_X4_joinSources_L5 F T u) z_13.1 r o (nI st) (nI A.length) (nI (i + 1)) (so (i + 1)) z_13.2)
    rw [gI_ok h2, ob_s, h3', ckE_ok rn1.o, ob_s, pk_mul, nI_add, e1, ob_s]
    unfold c_X4_joinSources_b57 c_X4_joinSources_b79 c_X4_joinSources_b80
    rw [if_neg (nI_ne0 (by omega) (by omega)), ckE_ok rn2.o, ob_s, e2, ob_s, nI_1]
    have e5 : A.flatMap (fun x => joX (ou (i + 1)) (on (i + 1)) (w (i + 1)) x (src (i + 1))) = jnL src ou on w (i + 1) := by rw [hA]; rfl
    rw [e5] at r2 ⊢
    exact ih (i + 1) u Z (by omega) (by omega) s2 (fx.trans f2 (Nat.le_refl _)) r2
theorem csrc_ok {F r c ar B o ns M K : Nat} {T : TC_X4_runQuery} {src : Nat → LL} {ou : Nat → Bool} {on : Nat → List OV → OV} {τ : Nat → RPR} {w so k : Nat → Nat} {cs : CS} (hF : 10000 ≤ F) (hB : B ≤ 400000) (hns : ns + 1 ≤ 100) (rn : RUN r c ar cs) (ss : SSC o (ns + 1) w so cs) (sr : ∀ i, i < ns + 1 → SRX T r c ar B cs (so i) (w i) (k i) (src i)) (jn : ∀ i, i + 1 < ns + 1 → JNC F c ar (so (i + 1)) (wid w i) (w (i + 1)) (ou (i + 1)) (τ (i + 1)) (on (i + 1)) cs) (ty : ∀ i x y, i + 1 < ns + 1 → x ∈ jnL src ou on w i → y ∈ src (i + 1) → τ (i + 1) (x ++ y)) (hw : ∀ i, i < ns + 1 → wid w i ≤ 24) (hP : ∀ i, i < ns + 1 → prd src i ≤ M) (hS : ∀ i, i < ns + 1 → (src i).length ≤ M) (hM : M ≤ 600) (h0 : k 0 ≤ K) (hk : ∀ i, 1 ≤ i → i < ns + 1 → M * 24 + k i ≤ K) (hK : 2 * (M * 24) + (M + 602) * 24 ≤ K) {X : CS} {st : Nat} (cf : CFR c ar cs X) (hs : STS ar B X) (hst : st + K ≤ B) (hl : st ≤ kL X 288 ar) : CRO c ar B st (wid w ns) (jnL src ou on w ns) X (cb_X4_joinSources F T X r o (nI st)) := by
  have ss1 := ss.cf cf
  have rn1 := rn.cf cf
  obtain ⟨j, hj⟩ := ss1.p5
  have l5 := ss1.l5
  have l6 := ss1.l6
  obtain ⟨h1, h2, h3, -⟩ := ss1.sr 0 (by omega)
  obtain ⟨Y, e1, s1, r1, f1⟩ := sr 0 (by omega) X st cf hs (by omega) hl
  obtain ⟨u, hu⟩ : ∃ z, F = z + 1 := ⟨F - 1, by omega⟩
  have step : cb_X4_joinSources F T X r o (nI st) = c_X4_joinSources_L5 F T u Y r o (nI st) (nI (src 0).length) (nI 1) := by
    unfold cb_X4_joinSources
    have e9 : c_X4_joinSources_L5 F T (u + 1) X r o (nI st) (nI 0) (nI 0) = c_X4_joinSources_L5 F T u Y r o (nI st) (nI (src 0).length) (nI 1) := by
      rw [c_X4_joinSources_L5, gI_ok ss1.e, ob_s, ss1.n, if_neg (nI_ge (by omega) (by omega)), gA_ok ss1.e, hj, ob_s, lnA_n ss1.e5 hj, ob_s, if_neg (nI_ge (by omega) (by omega)), ob_s, rQ_n ss1.e5 hj (by omega) (by omega), ob_s, h1]
      show (Option.bind (gI X 7 234 (so 0)) fun v_12 => Option.bind (ckE X 5 r) fun _ => Option.bind (T.2.2.2 X r (so 0) (nI st + (nI 0 * v_12))) fun z_13 => c_X4_joinSources_b57 F T (c_X4_joinSources_L5 F T u) z_13.1 r o (nI st) (nI 0) (nI 0) (so 0) z_13.2) = _
      rw [gI_ok h2, ob_s, h3, ckE_ok rn1.o, ob_s, pk_mul, nI_add, show st + 0 * wd0 w 0 = st by rw [Nat.zero_mul]; rfl, e1, ob_s]
      unfold c_X4_joinSources_b57 c_X4_joinSources_b79 c_X4_joinSources_b80
      rw [if_pos (show nI 0 = 0 from rfl), nI_1]
    rw [← hu] at e9
    exact e9
  rw [step]
  have go := csrc_L (F := F) (o := o) (ou := ou) (on := on) (T := T) (r := r) hF hB (by omega) rn1 ss1 (fun i hi => (sr i hi).cf cf) (fun i hi => (jn i hi).cf cf) ty hw hP hS hM hk hK hst ns 0 u Y (by omega) (by omega) s1 f1 r1
  rw [Nat.add_sub_cancel] at go
  exact go

/-! the class runs a QUERY -/
theorem csel_x {F r c ar B o ns M K mi : Nat} {gr di : Bool} {ng na gl il s cap : Nat} {nd : Nat → Nat} {κ : Nat → Int32} {τ σ : RPR} {wh hc : OVF} {pc kv iv : Nat → List OV → OV} {T : TC_X4_runQuery} {w so : Nat → Nat} {A : LL} {cs : CS} (t1 : ∀ L, L ∈ A → τ L) (t2 : ∀ L, L ∈ (if gr = true then grC ng na κ kv iv (optF wh A) else optF wh A) → σ L) (hF : 10000 ≤ F) (hB : B ≤ 400000) (hM : M ≤ 599) (hns : ns ≤ 99) (rn : RUN r c ar cs) (ss : SSC o (ns + 1) w so cs) (sl : SLC F c ar o (wid w ns) mi gr di ng na gl il s cap nd κ τ σ wh hc pc kv iv cs) (jx : JNX T r c ar B cs o (wid w ns) K A) (hA : A.length ≤ M) (hK : csu M (wid w ns) mi ≤ K) {X : CS} {st : Nat} (cf : CFR c ar cs X) (hs : STS ar B X) (hst : st + K ≤ B) (hl : st ≤ kL X 288 ar) : CRO c ar B st mi (selC mi gr di ng na κ wh hc pc kv iv A) X (cb_X4_runSelect F T X r o (nI st)) := by
  have rn1 := rn.cf cf
  obtain ⟨Y, e1, s1, r1, f1⟩ := jx X st cf hs hst hl
  have cf2 := cf.trans f1.cf
  have rn2 := rn.cf cf2
  obtain ⟨Z, e2, s2, r2, f2⟩ := csel_ok (F := F) (T := T) t1 t2 hF hB hM hA (by omega) rn2 (sl.cf cf2) (fun X2 g => jwid_ok hF (ss.cf (cf2.trans g)) (by omega)) s1 r1
  unfold cb_X4_runSelect
  rw [ckE_ok rn1.o, ob_s, e1, ob_s]
  exact ⟨Z, e2, s2, r2, f1.trans f2 (Nat.le_refl _)⟩
/-- sets of SELECTS, as the class makes them -/
def stC (sel : Nat → LL) (op : Nat → Nat) : Nat → LL
  | 0 => sel 0
  | i + 1 => setC (op (i + 1)) (stC sel op i) (sel (i + 1))
theorem adj_len (l : LL) : (l.foldl adjS []).length ≤ l.length := by
  have := adj_le l []
  rw [List.length_nil] at this
  omega
theorem setC_len {s : Nat} {A E : LL} : (setC s A E).length ≤ A.length + E.length := by
  unfold setC
  by_cases q : s = 11
  · rw [if_pos q, List.length_append]
    exact Nat.le_refl _
  · rw [if_neg q]
    by_cases z : s = 10
    · rw [if_pos z]
      refine Nat.le_trans (adj_len _) ?_
      rw [(srt_perm _).length_eq, List.length_append]
      exact Nat.le_refl _
    · rw [if_neg z]
      refine Nat.le_trans (adj_len _) ?_
      rw [(srt_perm _).length_eq]
      have := List.length_filter_le (fun L => decide (L ∈ E) == decide (s = 13)) A
      omega
theorem stC_len {sel : Nat → LL} {op : Nat → Nat} : ∀ (i : Nat), (stC sel op i).length ≤ smL sel i
  | 0 => Nat.le_refl _
  | i + 1 => Nat.le_trans setC_len (Nat.add_le_add_right (stC_len i) _)
/-- a QUERY with its SELECTS, as the class holds it -/
def QSC (q nq w li il : Nat) (se op : Nat → Nat) (cs : CS) : Prop := ((4, q) ∈ kE cs) ∧ (kR cs 128 q = some li) ∧ ((0, li) ∈ kE cs) ∧ ((33, li) ∈ kE cs) ∧ (∃ j, kP cs 1 li = some j) ∧ (kL cs 1 li = 10) ∧ (kI cs 2 li = nI nq) ∧ (nq ≤ 10) ∧ (kR cs 129 q = some il) ∧ (CLM il w cs) ∧ (∀ i, i < nq → kQ cs 1 li i = some (se i) ∧ (6, se i) ∈ kE cs) ∧ (∀ i, 1 ≤ i → i < nq → kI cs 204 (se i) = nI (op i) ∧ (op i = 10 ∨ op i = 11 ∨ op i = 12 ∨ op i = 13))
theorem QSC.e {q nq w li il : Nat} {se op : Nat → Nat} {cs : CS} (h : QSC q nq w li il se op cs) : (4, q) ∈ kE cs := h.1
theorem QSC.l {q nq w li il : Nat} {se op : Nat → Nat} {cs : CS} (h : QSC q nq w li il se op cs) : kR cs 128 q = some li := h.2.1
theorem QSC.e0 {q nq w li il : Nat} {se op : Nat → Nat} {cs : CS} (h : QSC q nq w li il se op cs) : (0, li) ∈ kE cs := h.2.2.1
theorem QSC.e1 {q nq w li il : Nat} {se op : Nat → Nat} {cs : CS} (h : QSC q nq w li il se op cs) : (33, li) ∈ kE cs := h.2.2.2.1
theorem QSC.p1 {q nq w li il : Nat} {se op : Nat → Nat} {cs : CS} (h : QSC q nq w li il se op cs) : ∃ j, kP cs 1 li = some j := h.2.2.2.2.1
theorem QSC.l1 {q nq w li il : Nat} {se op : Nat → Nat} {cs : CS} (h : QSC q nq w li il se op cs) : kL cs 1 li = 10 := h.2.2.2.2.2.1
theorem QSC.i2 {q nq w li il : Nat} {se op : Nat → Nat} {cs : CS} (h : QSC q nq w li il se op cs) : kI cs 2 li = nI nq := h.2.2.2.2.2.2.1
theorem QSC.n10 {q nq w li il : Nat} {se op : Nat → Nat} {cs : CS} (h : QSC q nq w li il se op cs) : nq ≤ 10 := h.2.2.2.2.2.2.2.1
theorem QSC.im {q nq w li il : Nat} {se op : Nat → Nat} {cs : CS} (h : QSC q nq w li il se op cs) : kR cs 129 q = some il := h.2.2.2.2.2.2.2.2.1
theorem QSC.ic {q nq w li il : Nat} {se op : Nat → Nat} {cs : CS} (h : QSC q nq w li il se op cs) : CLM il w cs := h.2.2.2.2.2.2.2.2.2.1
theorem QSC.se' {q nq w li il : Nat} {se op : Nat → Nat} {cs : CS} (h : QSC q nq w li il se op cs) : ∀ i, i < nq → kQ cs 1 li i = some (se i) ∧ (6, se i) ∈ kE cs := h.2.2.2.2.2.2.2.2.2.2.1
theorem QSC.op' {q nq w li il : Nat} {se op : Nat → Nat} {cs : CS} (h : QSC q nq w li il se op cs) : ∀ i, 1 ≤ i → i < nq → kI cs 204 (se i) = nI (op i) ∧ (op i = 10 ∨ op i = 11 ∨ op i = 12 ∨ op i = 13) := h.2.2.2.2.2.2.2.2.2.2.2
theorem QSC.cf {c ar q nq w li il : Nat} {se op : Nat → Nat} {a b : CS} (h : QSC q nq w li il se op a) (g : CFR c ar a b) : QSC q nq w li il se op b := by
  have g1 := g.fr 1 li (by omega) (by omega)
  refine ⟨g.em _ h.e, by rw [(g.fr 128 q (by omega) (by omega)).r]; exact h.l, g.em _ h.e0, g.em _ h.e1, by rw [g1.p]; exact h.p1, by rw [g1.l]; exact h.l1, by rw [(g.fr 2 li (by omega) (by omega)).i]; exact h.i2, h.n10, by rw [(g.fr 129 q (by omega) (by omega)).r]; exact h.im, h.ic.cf g, fun i hi => ?_, fun i h1 h2 => ?_⟩
  · obtain ⟨h1, h2⟩ := h.se' i hi
    exact ⟨by rw [g1.q]; exact h1, g.em _ h2⟩
  · rw [(g.fr 204 (se i) (by omega) (by omega)).i]
    exact h.op' i h1 h2
/-- an ORDER BY, as the class holds it -/
def ODC (F c ar q w : Nat) (τ : RPR) (od : ODT) (cs : CS) : Prop := match od with
  | none => kR cs 130 q = none
  | some (n, dn, val, lim) => lim < 2147483648 ∧ kI cs 132 q = nI lim ∧ ∃ cl, kR cs 130 q = some cl ∧ CLX F c ar w cl n τ val cs ∧ ∀ i, i < n → kA cs 99 cl i = dn i
theorem ODC.cf {F c ar q w : Nat} {τ : RPR} {od : ODT} {a b : CS} (h : ODC F c ar q w τ od a) (g : CFR c ar a b) : ODC F c ar q w τ od b := by
  cases od with
  | none =>
    have h' : kR a 130 q = none := h
    show kR b 130 q = none
    rw [(g.fr 130 q (by omega) (by omega)).r]
    exact h'
  | some z =>
    obtain ⟨n, dn, val, lim⟩ := z
    obtain ⟨h1, h2, cl, h3, h4, h5⟩ := h
    exact ⟨h1, by rw [(g.fr 132 q (by omega) (by omega)).i]; exact h2, cl, by rw [(g.fr 130 q (by omega) (by omega)).r]; exact h3, h4.cf g, fun i hi => by rw [(g.fr 99 cl (by omega) (by omega)).a]; exact h5 i hi⟩
theorem cqry_L {F r c ar B q nq w li il M K : Nat} {T : TC_X4_runQuery} {τ : RPR} {od : ODT} {sel : Nat → LL} {se op k : Nat → Nat} {cs : CS} (hF : 10000 ≤ F) (hB : B ≤ 400000) (h8 : w ≤ 8) (ty : ∀ L, L ∈ stC sel op (nq - 1) → τ L) (rn : RUN r c ar cs) (qs : QSC q nq w li il se op cs) (om : ODC F c ar q w τ od cs) (sx : ∀ i, i < nq → SLX T r c ar B cs (se i) w (k i) (sel i)) (hS : ∀ i, i < nq → smL sel i ≤ M) (hM : M ≤ 600) (hk : ∀ i, 1 ≤ i → i < nq → M * 8 + k i ≤ K) (hK : M * 8 + 2 * (M * 16) ≤ K) {st : Nat} (hst : st + K ≤ B) : ∀ (d i u : Nat) (X : CS), nq = i + 1 + d → d < u → STS ar B X → STF c ar st cs X → RWS ar st w (stC sel op i) X → CRO c ar B st w (odL od (stC sel op (nq - 1))) cs (c_X4_runQuery_L14 F T u X r q (nI st) (nI (stC sel op i).length) (nI w) (nI (i + 1))) := by
  have n10 := qs.n10
  intro d
  induction d with
  | zero =>
    intro i u X d1 d2 hs hf hr
    obtain ⟨u, rfl⟩ : ∃ z, u = z + 1 := ⟨u - 1, by omega⟩
    have qs1 := qs.cf hf.cf
    have rn1 := rn.cf hf.cf
    have om1 := om.cf hf.cf
    obtain ⟨A, hA⟩ : ∃ z, z = stC sel op i := ⟨_, rfl⟩
    have lA : A.length ≤ M := by rw [hA]; exact Nat.le_trans (stC_len i) (hS i (by omega))
    have tA : ∀ L, L ∈ A → τ L := by rw [hA, show i = nq - 1 by omega]; exact ty
    rw [show nq - 1 = i by omega, ← hA]
    rw [← hA] at hr
    have uA : A.length * w ≤ M * 8 := mul_up lA h8
    rw [c_X4_runQuery_L14, gR_ok qs1.e, qs1.l, ob_s, ob_s, ckE_ok qs1.e0, ob_s, list_size qs1.e0 qs1.i2, ob_s, if_pos (nI_le (by omega) (by omega)), gR_ok qs1.e, ob_s]
    cases od with
    | none =>
      have e : kR X 130 q = none := om1
      rw [e]
      exact ⟨X, rfl, hs, hr, hf⟩
    | some z =>
      obtain ⟨n, dn, val, lim⟩ := z
      obtain ⟨h1, h2, cl, h3, h4, h5⟩ := om1
      have n8 := h4.1.m8
      have uO : A.length * (n + w) ≤ M * 16 := mul_up lA (by omega)
      obtain ⟨Y, e1, s1, r1, f1⟩ := corder_ok (F := F) (lim := lim) tA hF hB (by omega) (by omega) h1 (by omega) h4 h5 rn1 hs hr
      rw [h3]
      show CRO c ar B st w (ordL n dn val lim A) cs (Option.bind (some (some cl)) fun v_12 => Option.bind (gI X 4 132 q) fun v_13 => Option.bind (v_12) fun i_14 => Option.bind (ckE X 5 r) fun _ => Option.bind (c_X4_order F X r i_14 v_13 (nI st) (nI A.length) (nI w)) fun z_15 => c_X4_runQuery_b117 F T z_15.1 z_15.2)
      rw [ob_s, gI_ok qs1.e, h2, ob_s, ob_s, ckE_ok rn1.o, ob_s, e1, ob_s]
      exact ⟨Y, rfl, s1, r1, hf.trans f1 (Nat.le_refl _)⟩
  | succ d ih =>
    intro i u X d1 d2 hs hf hr
    obtain ⟨u, rfl⟩ : ∃ z, u = z + 1 := ⟨u - 1, by omega⟩
    have qs1 := qs.cf hf.cf
    have rn1 := rn.cf hf.cf
    obtain ⟨A, hA⟩ : ∃ z, z = stC sel op i := ⟨_, rfl⟩
    have lA : A.length ≤ smL sel i := by rw [hA]; exact stC_len i
    rw [← hA] at hr ⊢
    have sm1 := hS (i + 1) (by omega)
    have sm2 : smL sel i + (sel (i + 1)).length ≤ M := sm1
    have uA : A.length * w ≤ M * 8 := mul_up (by omega) h8
    obtain ⟨h1, h2⟩ := qs1.se' (i + 1) (by omega)
    obtain ⟨Y, e1, s1, r1, f1⟩ := sx (i + 1) (by omega) X (st + A.length * w) hf.cf hs (by have := hk (i + 1) (by omega) (by omega); omega) hr.bd
    have fx : STF c ar st cs Y := hf.trans f1 (by omega)
    have rn2 := rn.cf fx.cf
    have qs2 := qs.cf fx.cf
    obtain ⟨o1, o2⟩ := qs2.op' (i + 1) (by omega) (by omega)
    have rA : RWS ar st w A Y := hr.stf f1 (Nat.le_refl _)
    have uC : (A.length + (sel (i + 1)).length) * w ≤ M * 8 := mul_up (by omega) h8
    obtain ⟨Z, e2, s2, r2, f2⟩ := combine_ok (F := F) (s := op (i + 1)) hF hB (by omega) (by omega) (by omega) o2 rn2 s1 rA r1
    rw [c_X4_runQuery_L14, gR_ok qs1.e, qs1.l, ob_s, ob_s, ckE_ok qs1.e0, ob_s, list_size qs1.e0 qs1.i2, ob_s, if_neg (nI_ge (by omega) (by omega)), ob_s, ob_s, ckE_ok qs1.e0, ob_s, list_get qs1.e0 qs1.e1 qs1.p1 qs1.l1 qs1.i2 n10 (by omega) h1, ob_s, ckE_ok h2, ob_s, ckE_ok rn1.o, ob_s, pk_mul, nI_add, e1, ob_s]
    unfold c_X4_runQuery_b56 c_X4_runQuery_b83
    rw [if_neg (nI_ne0 (by omega) (by omega)), gI_ok (fx.em _ (qs.se' (i + 1) (by omega)).2), ob_s, o1, ckE_ok rn2.o, ob_s, e2, ob_s, nI_1]
    have e5 : setC (op (i + 1)) A (sel (i + 1)) = stC sel op (i + 1) := by rw [hA]; rfl
    rw [e5] at r2 ⊢
    exact ih (i + 1) u Z (by omega) (by omega) s2 (fx.trans f2 (Nat.le_refl _)) r2
theorem cqry_x {F r c ar B q nq w li il M K : Nat} {T : TC_X4_runQuery} {τ : RPR} {od : ODT} {sel : Nat → LL} {se op k : Nat → Nat} {cs : CS} (hF : 10000 ≤ F) (hB : B ≤ 400000) (h8 : w ≤ 8) (ty : ∀ L, L ∈ stC sel op nq → τ L) (rn : RUN r c ar cs) (qs : QSC q (nq + 1) w li il se op cs) (om : ODC F c ar q w τ od cs) (sx : ∀ i, i < nq + 1 → SLX T r c ar B cs (se i) w (k i) (sel i)) (hS : ∀ i, i < nq + 1 → smL sel i ≤ M) (hM : M ≤ 600) (h0 : k 0 ≤ K) (hk : ∀ i, 1 ≤ i → i < nq + 1 → M * 8 + k i ≤ K) (hK : M * 8 + 2 * (M * 16) ≤ K) {X : CS} {st : Nat} (cf : CFR c ar cs X) (hs : STS ar B X) (hst : st + K ≤ B) (hl : st ≤ kL X 288 ar) : CRO c ar B st w (odL od (stC sel op nq)) X (cb_X4_runQuery F T X r q (nI st)) := by
  have qs1 := qs.cf cf
  have rn1 := rn.cf cf
  have n10 := qs.n10
  obtain ⟨h1, h2⟩ := qs1.se' 0 (by omega)
  obtain ⟨Y, e1, s1, r1, f1⟩ := sx 0 (by omega) X st cf hs (by omega) hl
  obtain ⟨u, hu⟩ : ∃ z, F = z + 1 := ⟨F - 1, by omega⟩
  have step : cb_X4_runQuery F T X r q (nI st) = c_X4_runQuery_L14 F T u Y r q (nI st) (nI (sel 0).length) (nI w) (nI 1) := by
    unfold cb_X4_runQuery
    rw [gR_ok qs1.e, qs1.im, ob_s, ob_s, gI_ok qs1.ic.e, ob_s, qs1.ic.sz]
    have e9 : c_X4_runQuery_L14 F T (u + 1) X r q (nI st) (nI 0) (nI w) (nI 0) = c_X4_runQuery_L14 F T u Y r q (nI st) (nI (sel 0).length) (nI w) (nI 1) := by
      rw [c_X4_runQuery_L14, gR_ok qs1.e, qs1.l, ob_s, ob_s, ckE_ok qs1.e0, ob_s, list_size qs1.e0 qs1.i2, ob_s, if_neg (nI_ge (by omega) (by omega)), ob_s, ob_s, ckE_ok qs1.e0, ob_s, list_get qs1.e0 qs1.e1 qs1.p1 qs1.l1 qs1.i2 n10 (by omega) h1, ob_s, ckE_ok h2, ob_s, ckE_ok rn1.o, ob_s, pk_mul, nI_add, show st + 0 * w = st by rw [Nat.zero_mul]; rfl, e1, ob_s]
      unfold c_X4_runQuery_b56 c_X4_runQuery_b83
      rw [if_pos (show nI 0 = 0 from rfl), nI_1]
    rw [← hu] at e9
    exact e9
  rw [step]
  have go := cqry_L (F := F) (T := T) (r := r) (sel := sel) (k := k) hF hB h8 (by rw [Nat.add_sub_cancel]; exact ty) rn1 qs1 (om.cf cf) (fun i hi => (sx i hi).cf cf) hS hM hk hK hst nq 0 u Y (by omega) (by omega) s1 f1 r1
  rw [Nat.add_sub_cancel] at go
  exact go
/-- a SOURCE that is a QUERY -/
theorem cinn_x {F r c ar B o q w K : Nat} {T : TC_X4_runQuery} {rows : LL} {cs : CS} (rn : RUN r c ar cs) (e7 : (7, o) ∈ kE cs) (r5 : kR cs 225 o = some q) (qx : QYX T r c ar B cs q w K rows) {X : CS} {st : Nat} (cf : CFR c ar cs X) (hs : STS ar B X) (hst : st + K ≤ B) (hl : st ≤ kL X 288 ar) : CRO c ar B st w rows X (cb_X4_runSource F T X r o (nI st)) := by
  obtain ⟨Y, e1, s1, r1, f1⟩ := qx X st cf hs hst hl
  have rn1 := rn.cf cf
  have e5 : kR X 225 o = some q := by rw [(cf.fr 225 o (by omega) (by omega)).r]; exact r5
  unfold cb_X4_runSource
  rw [gR_ok (cf.em _ e7), ob_s, e5]
  show CRO c ar B st w rows X (Option.bind (some (some q)) fun v_21 => Option.bind (v_21) fun i_22 => Option.bind (ckE X 5 r) fun _ => Option.bind (T.1 X r i_22 (nI st)) fun z_23 => c_X4_runSource_b16 F T z_23.1 z_23.2)
  rw [ob_s, ob_s, ckE_ok rn1.o, ob_s, e1, ob_s]
  exact ⟨Y, rfl, s1, r1, f1⟩
/-- a SOURCE that is a stream -/
theorem cleaf_x {F r c ar B n s m o ro : Nat} {k : Int64} {T : TC_X4_runQuery} {rs : RS} {cs : CS} (hF : 10000 ≤ F) (hBB : B ≤ 400000) (hB : Bas cs) (h : ST n cs rs) (hs : s < n) (m2 : m ≤ 4) (m3 : kA cs 258 2 s = nI m) (kp : KPR rs ro k) (lf : LFC r o s m k cs) (rn : RUN r c ar cs) {X : CS} {st : Nat} (cf : CFR c ar cs X) (st' : STS ar B X) (hst : st + 8 * (m + 1) ≤ B) (hl : st ≤ kL X 288 ar) : CRO c ar B st (m + 1) (leafL rs ro s m) X (cb_X4_runSource F T X r o (nI st)) := by
  have lf1 := lf.cf cf
  unfold cb_X4_runSource
  rw [gR_ok lf1.e, ob_s, lf1.i]
  exact cleaf_L hF hBB (hB.cf cf) (h.cf cf) hs m2 (by rw [(cf.fr 258 2 (by omega) (by omega)).a]; exact m3) kp lf1 (rn.cf cf) hst 8 0 F X (by omega) (by omega) st' STF.refl (RWS.nil hl)

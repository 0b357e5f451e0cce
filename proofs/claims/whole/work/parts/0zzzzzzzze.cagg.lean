/-! the class folds the rows of a group -/
theorem CA.cf {c ar cap : Nat} {a b : CS} (h : CA c cap a) (g : CFR c ar a b) : CA c cap b := by
  have e := g.em
  have p := fun x (hx : x < 288) => (g.pl x c (by omega)).1
  have l := fun x (hx : x < 288) => (g.pl x c (by omega)).2
  refine ⟨e _ h.e65, ?_, ?_, e _ h.e66, ?_, ?_, e _ h.e67, ?_, ?_, e _ h.e68, ?_, ?_, e _ h.e69, ?_, ?_, e _ h.e70, ?_, ?_, e _ h.e71, ?_, ?_, e _ h.e72, ?_, ?_, e _ h.e73, ?_, ?_, e _ h.e74, ?_, ?_, e _ h.e75, ?_, ?_⟩
  · rw [p _ (by decide)]; exact h.p65
  · rw [l _ (by decide)]; exact h.l65
  · rw [p _ (by decide)]; exact h.p66
  · rw [l _ (by decide)]; exact h.l66
  · rw [p _ (by decide)]; exact h.p67
  · rw [l _ (by decide)]; exact h.l67
  · rw [p _ (by decide)]; exact h.p68
  · rw [l _ (by decide)]; exact h.l68
  · rw [p _ (by decide)]; exact h.p69
  · rw [l _ (by decide)]; exact h.l69
  · rw [p _ (by decide)]; exact h.p70
  · rw [l _ (by decide)]; exact h.l70
  · rw [p _ (by decide)]; exact h.p71
  · rw [l _ (by decide)]; exact h.l71
  · rw [p _ (by decide)]; exact h.p72
  · rw [l _ (by decide)]; exact h.l72
  · rw [p _ (by decide)]; exact h.p73
  · rw [l _ (by decide)]; exact h.l73
  · rw [p _ (by decide)]; exact h.p74
  · rw [l _ (by decide)]; exact h.l74
  · rw [p _ (by decide)]; exact h.p75
  · rw [l _ (by decide)]; exact h.l75
/-- the aggregate of the class's kind -/
def agC (k : Int32) (l : List OV) : OV := if k = 32 then some (agF l).1 else if k = 61 then some (agF l).1 else if agN l = true then some (if k = 33 then (agF l).2.1 else if k = 34 then (agF l).2.2.1 else (agF l).2.2.2) else none
def agn (l : List OV) : Nat := (l.filter (fun v => v.isSome)).length
theorem agF_n : ∀ (l : List OV) (t : AGT), (l.foldl agS t).1 = t.1 + Int64.ofNat (agn l)
  | [], t => (Int64.add_zero t.1).symm
  | none :: l, t => agF_n l t
  | some w :: l, t => by
    show (l.foldl agS (agS t (some w))).1 = _
    rw [agF_n l]
    show t.1 + 1 + Int64.ofNat (agn l) = t.1 + Int64.ofNat (agn l + 1)
    rw [Int64.ofNat_add, Int64.add_assoc, Int64.add_comm 1]
    rfl
theorem agn_0 : ∀ (l : List OV), agN l = false ↔ agn l = 0
  | [] => ⟨fun _ => rfl, fun _ => rfl⟩
  | none :: l => agn_0 l
  | some w :: l => ⟨fun h => (by cases h), fun h => absurd (show agn l + 1 = 0 from h) (by omega)⟩
theorem agn_le (l : List OV) : agn l ≤ l.length := List.length_filter_le _ _
theorem i64_0 {n : Nat} (h : n < 2147483648) : Int64.ofNat n = 0 ↔ n = 0 := by
  refine ⟨fun e => ?_, fun e => by rw [e]; rfl⟩
  have e2 := congrArg Int64.toInt e
  rw [show Int64.ofNat n = lN n from rfl, lN_toInt (by omega)] at e2
  have e3 : (n : Int) = 0 := e2
  omega
theorem agF_c0 {l : List OV} (h : l.length < 2147483648) : (agF l).1 = 0 ↔ agN l = false := by
  have e : (agF l).1 = Int64.ofNat (agn l) := (agF_n l ag0).trans (Int64.zero_add _)
  have := agn_le l
  rw [e, i64_0 (by omega), agn_0]
theorem fone_L {F r c ar B n fr sd to : Nat} {κ : Int32} {cs : CS} (rn : RUN r c ar cs) (hs : STS ar B cs) (hn : n ≤ 600) (hb : fr + n * sd < 2147483648) : ∀ (d i u : Nat) (t : AGT), n = i + d → d < u → ∃ u', c_X4_foldOne_L19 F u cs r κ (nI fr) (nI n) (nI sd) (nI to) t.1 t.2.1 t.2.2.1 t.2.2.2 (nI i) = c_X4_foldOne_L19 F (u' + 1) cs r κ (nI fr) (nI n) (nI sd) (nI to) (((List.range' i d).map (fun i => sv cs ar (fr + i * sd))).foldl agS t).1 (((List.range' i d).map (fun i => sv cs ar (fr + i * sd))).foldl agS t).2.1 (((List.range' i d).map (fun i => sv cs ar (fr + i * sd))).foldl agS t).2.2.1 (((List.range' i d).map (fun i => sv cs ar (fr + i * sd))).foldl agS t).2.2.2 (nI n) := by
  intro d
  induction d with
  | zero =>
    intro i u t d1 d2
    obtain ⟨u, rfl⟩ : ∃ z, u = z + 1 := ⟨u - 1, by omega⟩
    exact ⟨u, by rw [show i = n by omega]; rfl⟩
  | succ d ih =>
    intro i u t d1 d2
    obtain ⟨u, rfl⟩ : ∃ z, u = z + 1 := ⟨u - 1, by omega⟩
    have rl : i * sd ≤ n * sd := Nat.mul_le_mul_right sd (by omega)
    obtain ⟨w1, w2⟩ := val_ok (F := F) (i := fr + i * sd) hs.st (by omega)
    obtain ⟨u', e⟩ := ih (i + 1) u (agS t (sv cs ar (fr + i * sd))) (by omega) (by omega)
    refine ⟨u', Eq.trans ?_ e⟩
    rw [c_X4_foldOne_L19, if_neg (nI_ge (by omega) (by omega)), gR_ok rn.o, rn.sp, ob_s, ob_s, ckE_ok hs.st.o, ob_s, pk_mul, nI_add, w2, ob_s]
    cases hx : sv cs ar (fr + i * sd) with
    | none =>
      rw [if_neg (show ¬ fl none = 0 by decide)]
      unfold c_X4_foldOne_b89
      rw [nI_1]
      rfl
    | some w =>
      rw [hx] at w1
      rw [if_pos (show fl (some w) = 0 from rfl), ob_s, ob_s, ckE_ok hs.st.o, ob_s, w1, ob_s]
      unfold c_J9_min_f86c9 c_J9_min_f86c9_b11 c_J9_max_f86c9 c_J9_max_f86c9_b11 c_X4_foldOne_b89
      have e1 : (if vl (some w) < t.2.2.1 then (some (vl (some w)) : Option Int64) else some t.2.2.1) = some (if t.2.2.1 ≤ w then t.2.2.1 else w) := by
        show (if w < t.2.2.1 then some w else some t.2.2.1) = _
        by_cases q : t.2.2.1 ≤ w
        · rw [if_pos q, if_neg (Int64.not_lt.mpr q)]
        · rw [if_neg q, if_pos (Int64.not_le.mp q)]
      have e2 : (if t.2.2.2 < vl (some w) then (some (vl (some w)) : Option Int64) else some t.2.2.2) = some (if w ≤ t.2.2.2 then t.2.2.2 else w) := by
        show (if t.2.2.2 < w then some w else some t.2.2.2) = _
        by_cases q : w ≤ t.2.2.2
        · rw [if_pos q, if_neg (Int64.not_lt.mpr q)]
        · rw [if_neg q, if_pos (Int64.not_le.mp q)]
      rw [e1, e2, ob_s, ob_s, nI_1]
      rfl
theorem fone_ok {F r c ar B n fr sd to : Nat} {κ : Int32} {cs : CS} (hF : 10000 ≤ F) (hB : B ≤ 400000) (rn : RUN r c ar cs) (hs : STS ar B cs) (hn : n ≤ 600) (hb : fr + n * sd < 2147483648) (hto : to < kL cs 288 ar) : ∃ Y, c_X4_foldOne F cs r κ (nI fr) (nI n) (nI sd) (nI to) = some Y ∧ STS ar B Y ∧ STF c ar to cs Y ∧ to < kL Y 288 ar ∧ sv Y ar to = agC κ ((List.range n).map (fun i => sv cs ar (fr + i * sd))) := by
  obtain ⟨l, hl⟩ : ∃ z, z = (List.range n).map (fun i => sv cs ar (fr + i * sd)) := ⟨_, rfl⟩
  have ll : l.length = n := by rw [hl, List.length_map, List.length_range]
  rw [← hl]
  obtain ⟨u', e⟩ := fone_L (F := F) (c := c) (to := to) (κ := κ) rn hs hn hb n 0 F ag0 (by omega) (by omega)
  rw [← List.range_eq_range', ← hl] at e
  have e' : c_X4_foldOne F cs r κ (nI fr) (nI n) (nI sd) (nI to) = c_X4_foldOne_L19 F (u' + 1) cs r κ (nI fr) (nI n) (nI sd) (nI to) (agF l).1 (agF l).2.1 (agF l).2.2.1 (agF l).2.2.2 (nI n) := e
  rw [e', c_X4_foldOne_L19, if_pos (nI_le (Nat.le_refl _) (by omega))]
  have cnt : agC κ l = some (agF l).1 → ∃ Y, c_X4_foldOne_b107 F cs r (nI to) (agF l).1 = some Y ∧ STS ar B Y ∧ STF c ar to cs Y ∧ to < kL Y 288 ar ∧ sv Y ar to = agC κ l := fun ec => by
    obtain ⟨Y, e2, s3, l3, v3, k3, f3⟩ := sset_ok (F := F) (i := to) (v := (agF l).1) (b := 0) (x := some (agF l).1) hs hB hto (Or.inl ⟨rfl, rfl⟩)
    unfold c_X4_foldOne_b107 c_X4_foldOne_b171
    rw [gR_ok rn.o, rn.sp, ob_s, ob_s, ckE_ok hs.st.o, ob_s, e2, ob_s, ec]
    exact ⟨Y, rfl, s3, f3 c to (Nat.le_refl _), by rw [l3]; exact hto, v3⟩
  have oth : ∀ v : Int64, agC κ l = (if agN l = true then some v else none) → ∃ Y, c_X4_foldOne_b146 F cs r (nI to) (agF l).1 v = some Y ∧ STS ar B Y ∧ STF c ar to cs Y ∧ to < kL Y 288 ar ∧ sv Y ar to = agC κ l := fun v ec => by
    unfold c_X4_foldOne_b146 c_X4_foldOne_b168 c_X4_foldOne_b171
    have c0 := agF_c0 (l := l) (by omega)
    rw [gR_ok rn.o, rn.sp, ob_s, ob_s, ob_s, ckE_ok hs.st.o, ob_s, ob_s]
    by_cases q : (agF l).1 = 0
    · obtain ⟨Y, e2, s3, l3, v3, k3, f3⟩ := sset_ok (F := F) (i := to) (v := v) (b := 1) (x := none) hs hB hto (Or.inr ⟨rfl, rfl⟩)
      rw [if_pos q, e2, ob_s, ec, c0.mp q]
      exact ⟨Y, rfl, s3, f3 c to (Nat.le_refl _), by rw [l3]; exact hto, v3⟩
    · obtain ⟨Y, e2, s3, l3, v3, k3, f3⟩ := sset_ok (F := F) (i := to) (v := v) (b := 0) (x := some v) hs hB hto (Or.inl ⟨rfl, rfl⟩)
      have q2 : agN l = true := by
        cases h : agN l with
        | true => rfl
        | false => exact absurd (c0.mpr h) q
      rw [if_neg q, e2, ob_s, ec, if_pos q2]
      exact ⟨Y, rfl, s3, f3 c to (Nat.le_refl _), by rw [l3]; exact hto, v3⟩
  by_cases k1 : κ = 32
  · rw [if_pos k1]
    exact cnt (by unfold agC; rw [if_pos k1])
  · rw [if_neg k1]
    by_cases k2 : κ = 61
    · rw [if_pos k2]
      exact cnt (by unfold agC; rw [if_neg k1, if_pos k2])
    · rw [if_neg k2]
      by_cases k3 : κ = 33
      · rw [if_pos k3]
        exact oth _ (by unfold agC; rw [if_neg k1, if_neg k2, if_pos k3])
      · rw [if_neg k3]
        by_cases k4 : κ = 34
        · rw [if_pos k4]
          exact oth _ (by unfold agC; rw [if_neg k1, if_neg k2, if_neg k3, if_pos k4])
        · rw [if_neg k4]
          exact oth _ (by unfold agC; rw [if_neg k1, if_neg k2, if_neg k3, if_neg k4])
/-- a SELECT's groups and aggregates, as the class holds them -/
def AGM (c o ng na gl s cap : Nat) (nd : Nat → Nat) (κ : Nat → Int32) (cs : CS) : Prop := ((6, o) ∈ kE cs) ∧ (kR cs 200 o = some gl) ∧ (CLM gl ng cs) ∧ (kI cs 203 o = nI na) ∧ (na ≤ 100) ∧ ((234, o) ∈ kE cs) ∧ (∃ j, kP cs 202 o = some j) ∧ (na ≤ kL cs 202 o) ∧ (kL cs 202 o ≤ 1000) ∧ (CA c cap cs) ∧ ((2, c) ∈ kE cs) ∧ (kI cs 64 c = nI s) ∧ (s ≤ cap) ∧ (cap ≤ 120) ∧ (∀ t, t < na → kA cs 202 o t = nI (nd t) ∧ nd t < s ∧ kA cs 65 c (nd t) = κ t)
theorem AGM.e {c o ng na gl s cap : Nat} {nd : Nat → Nat} {κ : Nat → Int32} {cs : CS} (h : AGM c o ng na gl s cap nd κ cs) : (6, o) ∈ kE cs := h.1
theorem AGM.g {c o ng na gl s cap : Nat} {nd : Nat → Nat} {κ : Nat → Int32} {cs : CS} (h : AGM c o ng na gl s cap nd κ cs) : kR cs 200 o = some gl := h.2.1
theorem AGM.gm {c o ng na gl s cap : Nat} {nd : Nat → Nat} {κ : Nat → Int32} {cs : CS} (h : AGM c o ng na gl s cap nd κ cs) : CLM gl ng cs := h.2.2.1
theorem AGM.n {c o ng na gl s cap : Nat} {nd : Nat → Nat} {κ : Nat → Int32} {cs : CS} (h : AGM c o ng na gl s cap nd κ cs) : kI cs 203 o = nI na := h.2.2.2.1
theorem AGM.n8 {c o ng na gl s cap : Nat} {nd : Nat → Nat} {κ : Nat → Int32} {cs : CS} (h : AGM c o ng na gl s cap nd κ cs) : na ≤ 100 := h.2.2.2.2.1
theorem AGM.e2 {c o ng na gl s cap : Nat} {nd : Nat → Nat} {κ : Nat → Int32} {cs : CS} (h : AGM c o ng na gl s cap nd κ cs) : (234, o) ∈ kE cs := h.2.2.2.2.2.1
theorem AGM.p2 {c o ng na gl s cap : Nat} {nd : Nat → Nat} {κ : Nat → Int32} {cs : CS} (h : AGM c o ng na gl s cap nd κ cs) : ∃ j, kP cs 202 o = some j := h.2.2.2.2.2.2.1
theorem AGM.l2 {c o ng na gl s cap : Nat} {nd : Nat → Nat} {κ : Nat → Int32} {cs : CS} (h : AGM c o ng na gl s cap nd κ cs) : na ≤ kL cs 202 o := h.2.2.2.2.2.2.2.1
theorem AGM.l3 {c o ng na gl s cap : Nat} {nd : Nat → Nat} {κ : Nat → Int32} {cs : CS} (h : AGM c o ng na gl s cap nd κ cs) : kL cs 202 o ≤ 1000 := h.2.2.2.2.2.2.2.2.1
theorem AGM.ca {c o ng na gl s cap : Nat} {nd : Nat → Nat} {κ : Nat → Int32} {cs : CS} (h : AGM c o ng na gl s cap nd κ cs) : CA c cap cs := h.2.2.2.2.2.2.2.2.2.1
theorem AGM.oc {c o ng na gl s cap : Nat} {nd : Nat → Nat} {κ : Nat → Int32} {cs : CS} (h : AGM c o ng na gl s cap nd κ cs) : (2, c) ∈ kE cs := h.2.2.2.2.2.2.2.2.2.2.1
theorem AGM.sz {c o ng na gl s cap : Nat} {nd : Nat → Nat} {κ : Nat → Int32} {cs : CS} (h : AGM c o ng na gl s cap nd κ cs) : kI cs 64 c = nI s := h.2.2.2.2.2.2.2.2.2.2.2.1
theorem AGM.sc {c o ng na gl s cap : Nat} {nd : Nat → Nat} {κ : Nat → Int32} {cs : CS} (h : AGM c o ng na gl s cap nd κ cs) : s ≤ cap := h.2.2.2.2.2.2.2.2.2.2.2.2.1
theorem AGM.cp {c o ng na gl s cap : Nat} {nd : Nat → Nat} {κ : Nat → Int32} {cs : CS} (h : AGM c o ng na gl s cap nd κ cs) : cap ≤ 120 := h.2.2.2.2.2.2.2.2.2.2.2.2.2.1
theorem AGM.ns {c o ng na gl s cap : Nat} {nd : Nat → Nat} {κ : Nat → Int32} {cs : CS} (h : AGM c o ng na gl s cap nd κ cs) : ∀ t, t < na → kA cs 202 o t = nI (nd t) ∧ nd t < s ∧ kA cs 65 c (nd t) = κ t := h.2.2.2.2.2.2.2.2.2.2.2.2.2.2
theorem AGM.cf {c ar o ng na gl s cap : Nat} {nd : Nat → Nat} {κ : Nat → Int32} {a b : CS} (h : AGM c o ng na gl s cap nd κ a) (g : CFR c ar a b) : AGM c o ng na gl s cap nd κ b := by
  have g2 := g.fr 202 o (by omega) (by omega)
  exact ⟨g.em _ h.e, by rw [(g.fr 200 o (by omega) (by omega)).r]; exact h.g, h.gm.cf g, by rw [(g.fr 203 o (by omega) (by omega)).i]; exact h.n, h.n8, g.em _ h.e2, by rw [g2.p]; exact h.p2, by rw [g2.l]; exact h.l2, by rw [g2.l]; exact h.l3, h.ca.cf g, g.em _ h.oc, by rw [(g.fr 64 c (by omega) (by omega)).i]; exact h.sz, h.sc, h.cp, fun t ht => by rw [g2.a, (g.fr 65 c (by omega) (by omega)).a]; exact h.ns t ht⟩
theorem AGM.has {F c o ng na gl s cap x : Nat} {nd : Nat → Nat} {κ : Nat → Int32} {cs : CS} (h : AGM c o ng na gl s cap nd κ cs) (hx : x < s) : c_X1_has F cs c (nI x) = some 1 := by
  obtain ⟨j, hj⟩ := h.ca.p65
  have sc := h.sc
  have cp := h.cp
  unfold c_X1_has c_X1_has_b25 c_X1_has_b26
  rw [if_neg (nI_pos (by omega)), gI_ok h.oc, ob_s, h.sz, if_neg (nI_ge hx (by omega)), gA_ok h.oc, hj, ob_s, lnA_n h.ca.e65 hj, ob_s, h.ca.l65, if_neg (nI_ge (by omega) (by omega))]
  rfl
/-- a group's row: its key, its aggregates -/
def frow (ng na : Nat) (κ : Nat → Int32) (g : List OV) (S : LL) : List OV := g ++ (List.range na).map (fun t => agC (κ t) (S.map (fun W => W.getD (ng + t) none)))
theorem cfold_L {F r c ar B o ng na gl s cap fr to : Nat} {nd : Nat → Nat} {κ : Nat → Int32} {S : LL} {cs : CS} (hF : 10000 ≤ F) (hB : B ≤ 400000) (rn : RUN r c ar cs) (am : AGM c o ng na gl s cap nd κ cs) (hS : RWS ar fr (ng + na) S cs) (hn : S.length ≤ 600) (hft : fr + S.length * (ng + na) ≤ to) (hto : to + (ng + na) ≤ B) (hcp : to + (ng + na) ≤ kL cs 288 ar) : ∀ (d i u : Nat) (X : CS), na = i + d → d < u → STS ar B X → STF c ar (to + ng) cs X → (∀ t, t < i → to + ng + t < kL X 288 ar ∧ sv X ar (to + ng + t) = agC (κ t) (S.map (fun W => W.getD (ng + t) none))) → ∃ Y, c_X4_fold_L24 F u X r o (nI fr) (nI S.length) (nI to) (nI ng) (nI i) = some Y ∧ STS ar B Y ∧ STF c ar (to + ng) cs Y ∧ (∀ t, t < na → to + ng + t < kL Y 288 ar ∧ sv Y ar (to + ng + t) = agC (κ t) (S.map (fun W => W.getD (ng + t) none))) := by
  have n8 := am.n8
  have bS := hS.bd
  intro d
  induction d with
  | zero =>
    intro i u X d1 d2 hs hf hv
    obtain ⟨u, rfl⟩ : ∃ z, u = z + 1 := ⟨u - 1, by omega⟩
    have am1 := am.cf hf.cf
    rw [c_X4_fold_L24, gI_ok am1.e, ob_s, am1.n, if_pos (nI_le (by omega) (by omega))]
    exact ⟨X, rfl, hs, hf, fun t ht => hv t (by omega)⟩
  | succ d ih =>
    intro i u X d1 d2 hs hf hv
    obtain ⟨u, rfl⟩ : ∃ z, u = z + 1 := ⟨u - 1, by omega⟩
    have am1 := am.cf hf.cf
    have rn1 := rn.cf hf.cf
    have ln := hf.ln
    have l2 := am1.l2
    have l3 := am1.l3
    obtain ⟨j2, h2⟩ := am1.p2
    obtain ⟨j6, h6⟩ := am1.ca.p65
    obtain ⟨a1, a2, a3⟩ := am1.ns i (by omega)
    have sc := am1.sc
    have cp := am1.cp
    obtain ⟨Y, e1, s1, f1, l1, v1⟩ := fone_ok (F := F) (r := r) (n := S.length) (fr := fr + ng + i) (sd := ng + na) (to := to + ng + i) (κ := κ i) hF hB rn1 hs hn (by omega) (by omega)
    have cells : (List.range S.length).map (fun k => sv X ar (fr + ng + i + k * (ng + na))) = S.map (fun W => W.getD (ng + i) none) := by
      have e2 : S.map (fun W => W.getD (ng + i) none) = (List.range S.length).map (fun k => (rwC cs ar (fr + k * (ng + na)) (ng + na)).getD (ng + i) none) := by
        have e3 := hS.eq
        unfold rwsC at e3
        have e4 := congrArg (fun z => z.map (fun W => W.getD (ng + i) none)) e3
        rw [← show _ = S.map (fun W => W.getD (ng + i) none) from e4]
        show ((List.range S.length).map (fun i => rwC cs ar (fr + i * (ng + na)) (ng + na))).map (fun W => W.getD (ng + i) none) = _
        rw [List.map_map]
        rfl
      rw [e2]
      refine List.map_congr_left (fun k hk => ?_)
      have hk' := List.mem_range.mp hk
      have ir := in_row (p := fr) (w := ng + na) (k := ng + i) hk' (by omega)
      rw [rwC_get (by omega), show fr + ng + i + k * (ng + na) = fr + k * (ng + na) + (ng + i) by omega]
      exact hf.ce _ (by omega) (by omega)
    rw [cells] at v1
    rw [c_X4_fold_L24, gI_ok am1.e, ob_s, am1.n, if_neg (nI_ge (by omega) (by omega)), gA_ok am1.e, h2, ob_s, lnA_n am1.e2 h2, ob_s, if_neg (nI_ge (by omega) (by omega)), ob_s, rA_n am1.e2 h2 (by omega) (by omega), ob_s, a1, gR_ok rn1.o, rn1.cd, ob_s, ob_s, ckE_ok rn1.oc, ob_s, am1.has a2, ob_s, if_neg (show ¬ (1 : Int32) = 0 by decide), ob_s, ob_s, gA_ok am1.oc, h6, ob_s, rA_n am1.ca.e65 h6 (by rw [am1.ca.l65]; omega) (by rw [am1.ca.l65]; omega), ob_s, a3]
    unfold c_X4_fold_b79
    rw [gI_ok am1.e, ob_s, am1.n, ckE_ok rn1.o, ob_s, nI_add, nI_add, nI_add, nI_add, nI_add, e1, ob_s, nI_1]
    refine ih (i + 1) u Y (by omega) (by omega) s1 (hf.trans f1 (by omega)) (fun t ht => ?_)
    by_cases q : t = i
    · rw [q]
      exact ⟨l1, v1⟩
    · obtain ⟨q1, q2⟩ := hv t (by omega)
      exact ⟨Nat.lt_of_lt_of_le q1 f1.ln, (f1.ce _ (by omega) q1).trans q2⟩
theorem cfold_ok {F r c ar B o ng na gl s cap fr to : Nat} {nd : Nat → Nat} {κ : Nat → Int32} {S : LL} {g : List OV} {cs : CS} (hF : 10000 ≤ F) (hB : B ≤ 400000) (rn : RUN r c ar cs) (am : AGM c o ng na gl s cap nd κ cs) (hs : STS ar B cs) (hS : RWS ar fr (ng + na) S cs) (hn : S.length ≤ 600) (hft : fr + S.length * (ng + na) ≤ to) (hto : to + (ng + na) ≤ B) (hcp : to + (ng + na) ≤ kL cs 288 ar) (h1 : 1 ≤ ng + na) (hk : fr + ng ≤ to) (hkl : fr + ng ≤ kL cs 288 ar) (hg : rwC cs ar fr ng = g) : ∃ Y, c_X4_fold F cs r o (nI fr) (nI S.length) (nI to) = some Y ∧ STS ar B Y ∧ STF c ar to cs Y ∧ to + (ng + na) ≤ kL Y 288 ar ∧ rwC Y ar to (ng + na) = frow ng na κ g S := by
  have n8 := am.n8
  obtain ⟨X, e1, s1, b1, v1, w1, -, f1⟩ := scopy_ok (F := F) (fr := fr) (to := to) (n := ng) hs hB hkl (by omega) (by omega)
  have g1 := f1 c to (Nat.le_refl _)
  have am1 := am.cf g1.cf
  have rn1 := rn.cf g1.cf
  have S1 := hS.stf g1 hft
  obtain ⟨Y, e2, s2, f2, v2⟩ := cfold_L (F := F) hF hB rn1 am1 S1 hn hft hto (Nat.le_trans hcp g1.ln) na 0 F X (by omega) (by omega) s1 STF.refl (fun t ht => absurd ht (by omega))
  unfold c_X4_fold c_X4_fold_b21
  rw [gR_ok am.e, am.g, ob_s, ob_s, gI_ok am.gm.e, ob_s, am.gm.sz, gR_ok rn.o, rn.sp, ob_s, ob_s, ckE_ok hs.st.o, ob_s, e1, ob_s]
  refine ⟨Y, e2, s2, g1.trans f2 (by omega), ?_, ?_⟩
  · by_cases m0 : na = 0
    · have := f2.ln
      omega
    · have := (v2 (na - 1) (by omega)).1
      omega
  · unfold frow
    rw [rwC_add, ← hg, row_of (fun t ht => (v2 t ht).2)]
    refine congrArg (· ++ _) (rwC_eq (fun k hk => (f2.ce _ (by omega) (by omega)).trans (v1 k hk)))

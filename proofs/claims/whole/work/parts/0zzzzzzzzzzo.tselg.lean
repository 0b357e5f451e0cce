/-! a SELECT with groups, in both -/
theorem tr_ag {V : VT} {d R a e : Nat} (h : TR V d R a e) (k : AGC (vk V e)) : AKR (vk V e) (rk V e) ∧ (vk V e ≠ 61 → a < e) := by
  cases d with
  | zero => exact h.elim
  | succ d =>
    obtain ⟨k1, k2, k3, k4⟩ := h
    rcases k4 with ⟨y1, y2, y3⟩ | ⟨y1, y2, y3, y4⟩ | ⟨g, y1, y2, y3, y4, y5, y6, y7⟩ | ⟨g, kk, y1, y2, y3, y4, y5, y6, y7, y8, y9, y10, y11, y12⟩ | ⟨m, g, r, y1, y2, y3, y4, y5, y6, y7, y8, y9, y10⟩ | ⟨y1, y2, y3, y4, y5, y0⟩
    · rcases y3 with ⟨y, -⟩ | ⟨y, -⟩ | ⟨y, -⟩ | ⟨y, -⟩ | ⟨y, -⟩ | ⟨y, z⟩
      · rw [y] at k; exact absurd k (by unfold AGC; decide)
      · rw [y] at k; exact absurd k (by unfold AGC; decide)
      · rw [y] at k; exact absurd k (by unfold AGC; decide)
      · rw [y] at k; exact absurd k (by unfold AGC; decide)
      · rw [y] at k; exact absurd k (by unfold AGC; decide)
      · exact ⟨Or.inl ⟨y, z⟩, fun w => absurd y w⟩
    · obtain ⟨-, un⟩ := y2
      rcases un with ⟨y, -⟩ | ⟨y, -⟩ | ⟨y, -⟩ | ⟨y, -⟩ <;> rw [y] at k <;> exact absurd k (by unfold AGC; decide)
    · obtain ⟨-, bi⟩ := y3
      rcases bi with ⟨y, -⟩ | ⟨y, -⟩ | ⟨y, -⟩ | ⟨y, -⟩ | ⟨y, -⟩ | ⟨y, -⟩ | ⟨y, -⟩ | ⟨y, -⟩ | ⟨κ, q1, q2, y, -⟩
      all_goals first | (rw [y] at k; exact absurd k (by unfold AGC; decide)) | skip
      have c6 : κ = 50 ∨ κ = 51 ∨ κ = 52 ∨ κ = 53 ∨ κ = 54 ∨ κ = 55 := by omega
      rw [y] at k
      rcases c6 with q | q | q | q | q | q <;> rw [q] at k <;> exact absurd k (by unfold AGC; decide)
    · rw [y5] at k
      exact absurd k (by unfold AGC; decide)
    · obtain ⟨-, nn⟩ := y6
      rcases nn with ⟨y, -⟩ | ⟨y, -⟩ <;> rw [y] at k <;> exact absurd k (by unfold AGC; decide)
    · obtain ⟨-, ak⟩ := y2
      refine ⟨?_, fun _ => y1⟩
      rcases ak with q | q | q | q
      · exact Or.inr (Or.inl q)
      · exact Or.inr (Or.inr (Or.inl q))
      · exact Or.inr (Or.inr (Or.inr (Or.inl q)))
      · exact Or.inr (Or.inr (Or.inr (Or.inr q)))
theorem EXG.cong {F w ng e : Nat} {val val' : List OV → LL → OV} {rs : RS} (h : EXG F w ng e val rs) (q : ∀ g mem, g.length = ng → val g mem = val' g mem) : EXG F w ng e val' rs := fun X r b m gi p n h1 h2 h3 h4 h5 h6 h7 h8 h9 h10 h11 => by
  have z := h X r b m gi p n h1 h2 h3 h4 h5 h6 h7 h8 h9 h10 h11
  rw [q _ _ rowL_len] at z
  exact z
/-- the j-th noted aggregate -/
def agN' (cs : CS) (so j : Nat) : Nat := (kA cs 202 so j).toNatClampNeg
def agK (c : Nat) (cs : CS) (so j : Nat) : Int32 := kA cs 65 c (agN' cs so j)
def agI (V : VT) (c : Nat) (cs : CS) (so j : Nat) : List OV → OV := if agK c cs so j = 61 then fun _ => some 1 else evS V c cs (agN' cs so j - 1)
theorem EBX.selg {F : Nat} {V : VT} {c cap s ar : Nat} {D : Nat → Prop} {cs : CS} {rs : RS} {so ns : Nat} {w : Nat → Nat} {ty : Nat → Nat → Int32} {P : Nat → Nat → Nat → Nat → Nat → Nat → Nat → Prop} {X : Nat → CS → Prop} {lo hi ql e it gr mi mg : Nat} {PQ : Nat → CS → Prop} {na : Nat} (b : EBX F V c cap s ar D cs rs) (o : OSX P X V s lo hi ql so e it gr mi ns mg cs rs) (ap : AGPX (hvr so cs) c s so e it mi cs rs) (m1 : 1 ≤ mi) (mgk : kI cs 198 so ≠ 0 → 1 ≤ mg) (te : TSB PQ V s c so it gr mi ns mg cs) (cv : CVB V s so it gr mi mg D cs) (sq : SCQ so ns w ty cs) (W1 : wid w (ns - 1) ≤ 100) (g0 : ¬ (kI cs 198 so = 0 ∧ kI cs 203 so ≤ 0)) (n203 : kI cs 203 so = nI na) (n12 : na ≤ 12) (sd : ∀ j y, j < na → y < s → kA cs 202 so j = nI y → ∃ j', j' < na ∧ kA cs 202 so j' = nI y ∧ kA cs 72 c y = nI (mg + j')) (cov : ∀ x, x < s → AM so cs x → ∃ r a, RTT V s r a ∧ WTR c a r (some so) (nI ns) (some gr) cs ∧ a ≤ x ∧ x ≤ r) : ∃ (gb di : Bool) (wh hc : OVF), SLC F c ar so (wid w (ns - 1)) mi true di mg na gr it s cap (agN' cs so) (agK c cs so) (RWT ns w ty) (RWL mg (kA cs 100 gr)) wh hc (cvS V c cs it) (cvS V c cs gr) (agI V c cs so) cs ∧ SLM F e (wid w (ns - 1)) mi true gb di mg wh none (fun _ _ => none) (cvS V c cs gr) (hc.map (fun h g mem => h (grow na (agK c cs so) (agI V c cs so) g mem))) (fun j g mem => cvS V c cs it j (grow na (agK c cs so) (agI V c cs so) g mem)) rs ∧ ((gb = true ∧ 1 ≤ mg) ∨ (gb = false ∧ mg = 0)) ∧ (∀ y L, y < mg → RWT ns w ty L → kA cs 100 gr y = 2 → TV (cvS V c cs gr y L)) ∧ ∀ y L, y < mi → RWL mg (kA cs 100 gr) L → kA cs 100 it y = 2 → TV (cvS V c cs it y L) := by
  have n3 := o.n3
  have m8 := o.ci.m8
  have g8 := o.cg.m8
  have s1 := b.s1
  obtain ⟨k, k1, k2, k3, -, -, k6⟩ := ap.k
  have kn : k = na := (nI_eq (by omega) (by omega)).mp (k2.symm.trans n203)
  rw [kn] at k2 k3 k6
  have gn : gnm cs so gr = some gr := if_neg g0
  have tis := te.is
  have thv := te.hv
  rw [gn] at tis thv
  have agx : ∀ j, j < na → kA cs 202 so j = nI (agN' cs so j) ∧ agN' cs so j < s ∧ AGC (vk V (agN' cs so j)) ∧ agK c cs so j = vk V (agN' cs so j) := fun j hj => by
    obtain ⟨x, x1, x2, x3⟩ := k6 j hj
    have e : agN' cs so j = x := by
      unfold agN'
      rw [x2]
      exact nI_clamp (by omega)
    have ev := (CW.e (b.cw x x1)).1
    rw [e]
    refine ⟨x2, x1, by rw [← ev]; exact x3, ?_⟩
    unfold agK
    rw [e]
    exact ev
  obtain ⟨wh, w1, w2⟩ := b.whr o.wh te.wh cv.wh sq n3
  obtain ⟨i1, i2, i3⟩ := b.cols (rr := fun y => rs.2.2.1 47 (8 * e + y)) o.cg (fun y hy => by
    obtain ⟨r, q1, q2, q3⟩ := o.gs y hy
    obtain ⟨a, rt, no⟩ := q3.two
    exact ⟨r, a, q1, q2, rt, no⟩) te.gs cv.gs sq n3
  have t12 : ∀ y, y < mg → TY12 (kA cs 100 gr y) := te.gs.t12 (fun y hy => by
    obtain ⟨r, q1, q2, q3⟩ := o.gs y hy
    obtain ⟨a, rt, no⟩ := q3.two
    exact ⟨r, a, q1, rt⟩)
  -- one root of items or having
  have one : ∀ r, RTX V so true s r cs → (∀ a, RTT V s r a → WTR c a r (some so) (nI ns) (some gr) cs) → (∀ a, RTT V s r a → ∀ z, a ≤ z → z ≤ r → D z) → r < 120 ∧ EXC F c ar (mg + na) r (RWL mg (kA cs 100 gr)) (evS V c cs r) cs ∧ EXG F (wid w (ns - 1)) mg r (fun g mem => evS V c cs r (grow na (agK c cs so) (agI V c cs so) g mem)) rs ∧ ∀ L, RWL mg (kA cs 100 gr) L → ¬ kA cs 73 c r &&& 2 = 0 → TV (evS V c cs r L) := fun r h1 h2 h3 => by
    obtain ⟨a, rt, an'⟩ := h1
    have rs' := rt.2.1
    have wt := h2 a rt
    have an : ∀ y, a ≤ y → y ≤ r → AGC (vk V y) → AM so cs y := fun y y1 y2 hk => (an' y y1 y2 hk).2
    obtain ⟨p1, p2, p3⟩ := b.group (κ := agK c cs so) (iv := agI V c cs so) (na := na) (tg := kA cs 100 gr) (W := wid w (ns - 1)) wt rt sq n3 o.cg.sz g8 (fun col hc => ⟨rfl, t12 col hc⟩) n12 (fun y y1 y2 hk => by
      obtain ⟨j0, k', z1, z2, z3, z4⟩ := an y y1 y2 hk
      have ek : k' = na := (nI_eq (by omega) (by omega)).mp (z2.symm.trans n203)
      obtain ⟨j, v1, v2, v3⟩ := sd j0 y (by omega) (by omega) z4
      obtain ⟨u1, u2, u3, u4⟩ := agx j v1
      have en : agN' cs so j = y := (nI_eq (by omega) (by omega)).mp (u1.symm.trans v2)
      rw [en] at u3 u4
      obtain ⟨b', R', -, -, -, tb⟩ := TR.sube (r + 1 - a) r a r rt.2.2 y1 y2
      refine ⟨j, v1, v3, by rw [u4]; exact (tr_ag tb hk).1, fun e61 L => ?_, fun e61 L => ?_⟩
      · unfold agI
        rw [if_pos e61]
      · unfold agI
        rw [if_neg e61, en]) (fun y y1 y2 hk n61 => by
      obtain ⟨b', R', -, -, vfb, tb⟩ := TR.sube (r + 1 - a) r a r rt.2.2 y1 y2
      exact ⟨b', vfb, (tr_ag tb hk).2 n61⟩) (h3 a rt) rfl W1
    exact ⟨by omega, b.exc rt p1, p2.cong (fun g mem hg => (p3 g mem hg).symm), fun L hL t => p1.tv rt s1 hL t⟩
  have hav : ∃ hc : OVF, OPC F c ar (mg + na) (kI cs 201 so) (RWL mg (kA cs 100 gr)) hc cs ∧ HVX F (wid w (ns - 1)) mg (rs.2.2.1 41 e) (hc.map (fun h g mem => h (grow na (agK c cs so) (agI V c cs so) g mem))) rs := by
    rcases o.hv with ⟨h1, h2⟩ | ⟨r, h1, h2, h3⟩
    · exact ⟨none, h1, h2⟩
    · obtain ⟨q0, q1, q2, -⟩ := one r h3 (fun a rt => (thv r a h1 rt).1) (fun a rt => cv.hv.at' h1 rt)
      exact ⟨some (evS V c cs r), ⟨r, h1, q0, q1⟩, ⟨r, h2, q0, q2⟩⟩
  obtain ⟨hc, h1, h2⟩ := hav
  have itx : ∀ y, y < mi → ∃ r, kA cs 97 it y = nI r ∧ rs.2.2.1 44 (8 * e + y) = nI r ∧ EXC F c ar (mg + na) r (RWL mg (kA cs 100 gr)) (cvS V c cs it y) cs ∧ EXG F (wid w (ns - 1)) mg r (fun g mem => cvS V c cs it y (grow na (agK c cs so) (agI V c cs so) g mem)) rs ∧ ∀ L, RWL mg (kA cs 100 gr) L → kA cs 100 it y = 2 → TV (cvS V c cs it y L) := fun y hy => by
    obtain ⟨r, q1, q2, q3⟩ := o.is y hy
    obtain ⟨p0, p1, p2, p3⟩ := one r q3 (fun a rt => (tis y r a hy q1 rt).1) (fun a rt => (cv.is y hy).at' q1 rt)
    have ec : cvS V c cs it y = evS V c cs r := by
      unfold cvS
      rw [cr_is q1 (by omega)]
    rw [ec]
    refine ⟨r, q1, q2, p1, p2, fun L hL k2 => p3 L hL ?_⟩
    obtain ⟨a, rt⟩ := q3.rtt
    rw [(tis y r a hy q1 rt).2] at k2
    exact stt_2 k2
  have inx : INX F c ar (wid w (ns - 1)) na (RWT ns w ty) (agN' cs so) (agK c cs so) (agI V c cs so) cs := fun t ht => by
    obtain ⟨u1, u2, u3, u4⟩ := agx t ht
    by_cases e61 : agK c cs so t = 61
    · refine Or.inl ⟨e61, fun L => ?_⟩
      unfold agI
      rw [if_pos e61]
    · obtain ⟨r, a, rt, wt, c1, c2⟩ := cov (agN' cs so t) u2 ⟨t, na, n12, n203, ht, u1⟩
      obtain ⟨b', R', b1, b2, vfb, tb⟩ := TR.sube (r + 1 - a) r a r rt.2.2 c1 c2
      have bl := (tr_ag tb u3).2 (by rw [← u4]; exact e61)
      refine Or.inr ⟨e61, by omega, ?_⟩
      have ei : agI V c cs so t = evS V c cs (agN' cs so t - 1) := by
        unfold agI
        rw [if_neg e61]
      rw [ei]
      exact b.ins wt rt sq n3 c1 c2 u3 vfb bl
  obtain ⟨di, d1, d2⟩ := dsb (a := kI cs 192 so) (b := rs.2.2.1 35 e) (by
    rcases o.ds with ⟨q1, q2⟩ | ⟨q1, -, q2⟩
    · exact Or.inl ⟨q1, q2⟩
    · exact Or.inr ⟨q1, q2⟩)
  obtain ⟨j2, hj2⟩ := ap.p
  have agm : AGM c so mg na gr s cap (agN' cs so) (agK c cs so) cs := ⟨o.e6, o.r200, o.cg, n203, by omega, ap.e, ⟨j2, hj2⟩, by rw [ap.l]; exact n12, by rw [ap.l]; omega, b.ca, b.oc, b.sz, b.sc, b.cp, fun t ht => ⟨(agx t ht).1, (agx t ht).2.1, rfl⟩⟩
  have isg : kI cs 198 so ≠ 0 ∨ ¬ kI cs 203 so ≤ 0 := by
    by_cases q : kI cs 198 so = 0
    · exact Or.inr (fun q2 => g0 ⟨q, q2⟩)
    · exact Or.inl q
  have gbx : ∃ gb : Bool, ((gb = true ∧ rs.2.2.1 40 e ≠ -1) ∨ (gb = false ∧ rs.2.2.1 40 e = -1 ∧ mg = 0)) ∧ ((gb = true ∧ 1 ≤ mg) ∨ (gb = false ∧ mg = 0)) ∧ 1 ≤ mg + na ∧ (if rs.2.2.1 40 e = -1 then (if rs.2.2.1 42 e ≤ 0 then (0 : Int32) else 1) else 1) = 1 := by
    rcases o.hg with ⟨q1, q2, q3⟩ | ⟨q1, -, q2⟩
    · have n0 : ¬ kI cs 203 so ≤ 0 := fun w => g0 ⟨q1, w⟩
      have na1 : 1 ≤ na := by
        rcases Nat.eq_zero_or_pos na with z | z
        · rw [n203, z] at n0
          exact absurd (by decide) n0
        · exact z
      refine ⟨false, Or.inr ⟨rfl, q2, q3⟩, Or.inr ⟨rfl, q3⟩, by omega, ?_⟩
      rw [if_pos q2, k3, ← n203, if_neg n0]
    · have g1 := mgk (by rw [q1]; decide)
      exact ⟨true, Or.inl ⟨rfl, q2⟩, Or.inl ⟨rfl, g1⟩, by omega, if_neg q2⟩
  obtain ⟨gb, x1, x2, x3, x4⟩ := gbx
  refine ⟨gb, di, wh, hc, ⟨o.e6, W1, m1, w1, Or.inl ⟨rfl, isg⟩, o.r194, ⟨o.ci, fun y hy => ?_⟩, h1, fun _ => ⟨agm, i1, inx, x3, g8, by omega⟩, d1⟩, ⟨o.e60, W1, m8, o.ri, w2, x4, fun z => (by cases z), fun _ => ⟨o.rg, g8, x1, i2, fun y hy => ?_, h2⟩, d2⟩, x2, i3, fun y L hy hL k2 => ?_⟩
  · obtain ⟨r, q1, -, q3, -⟩ := itx y hy
    exact ⟨r, q1, q3⟩
  · obtain ⟨r, -, q2, -, q4, -⟩ := itx y hy
    exact ⟨r, q2, q4⟩
  · obtain ⟨r, -, -, -, -, q5⟩ := itx y hy
    exact q5 L hL k2

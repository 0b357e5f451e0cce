/-! the joint plan: from what was read and checked -/
theorem RTT.f67 {c s r a : Nat} {V : VT} {cs : CS} {rs : RS} (h : RTT V s r a) (hv : ∀ y, y < s → VW c cs rs y = V y) : kA cs 67 c r = nI a := by
  have e : (VW c cs rs r).1.2.1 = (V r).1.2.1 := by rw [hv r h.2.1]
  exact Eq.trans e h.vf
/-- every noted aggregate stands in a typed root -/
theorem cov_of {P : Nat → Nat → Nat → Nat → Nat → Nat → Nat → Prop} {X : Nat → CS → Prop} {PQ : Nat → CS → Prop} {c s lo hi ql so e it gr mi ns mg : Nat} {V : VT} {cs : CS} {rs : RS} (s1 : s ≤ 120) (hv : ∀ y, y < s → VW c cs rs y = V y) (o : OSX P X V s lo hi ql so e it gr mi ns mg cs rs) (ap : AGPX (hvr so cs) c s so e it mi cs rs) (te : TSB PQ V s c so it gr mi ns mg cs) (hg : gnm cs so gr = some gr) : ∀ x, x < s → AM so cs x → ∃ r a, RTT V s r a ∧ WTR c a r (some so) (nI ns) (some gr) cs ∧ a ≤ x ∧ x ≤ r := fun x x1 x2 => by
  obtain ⟨r, a, r1, r2, r3, r4, r5⟩ := ap.ac x x1 x2
  have fin : ∀ a', RTT V s r a' → a' ≤ x := fun a' rt => by
    have q := (rt.f67 hv).symm.trans r2
    have := (nI_eq (a := a') (b := a) (by have := rt.1; omega) (by omega)).mp q
    omega
  rcases r5 with ⟨k, k1, k2⟩ | w
  · obtain ⟨r', q1, -, q3⟩ := o.is k k1
    obtain ⟨a', rt⟩ := q3.rtt
    have e1 : r' = r := (nI_eq (by have := rt.2.1; omega) (by omega)).mp (q1.symm.trans k2)
    rw [e1] at rt q1
    have wt := (te.is k r a' k1 q1 rt).1
    rw [hg] at wt
    exact ⟨r, a', rt, wt, fin a' rt, r4⟩
  · unfold hvr at w
    rcases o.hv with ⟨h1, -⟩ | ⟨r', h1, -, h3⟩
    · rw [h1, if_pos (by decide)] at w
      cases w
    · obtain ⟨a', rt⟩ := h3.rtt
      rw [h1, if_neg (nI_pos (by have := rt.2.1; omega)), nI_clamp (by have := rt.2.1; omega)] at w
      have e1 : r' = r := Option.some.inj w
      rw [e1] at rt h1
      have wt := (te.hv r a' h1 rt).1
      rw [hg] at wt
      exact ⟨r, a', rt, wt, fin a' rt, r4⟩
/-- what the joint plan gives of a QUERY -/
def JQC (F r c ar B d : Nat) (cs : CS) (rs : RS) (l oq q : Nat) : Prop := ∃ w it e0, kR cs 129 oq = some it ∧ CLM it w cs ∧ (∀ y, y < w → TY12 (kA cs 100 it y)) ∧ rs.2.2.1 61 (5 * q) = nI e0 ∧ e0 < 60 ∧ rs.2.2.1 36 e0 = nI w ∧ QBT F r c ar B l d oq q w it cs rs
def onN (V : VT) (c : Nat) (cs : CS) (so i : Nat) : List OV → OV := evS V c cs (kI cs 233 (ooN cs so i)).toNatClampNeg
def ouN (cs : CS) (so i : Nat) : Bool := decide (kI cs 231 (ooN cs so i) ≠ 0)
theorem se_of {F r c cap s ar B nst K k : Nat} {V : VT} {D : Nat → Prop} {cs : CS} {rs : RS} {d Bd lo hi ql so e it gr mi ns mg l : Nat} (b : EBX F V c cap s ar D cs rs) (hBB : B ≤ 400000) (hv : ∀ y, y < s → VW c cs rs y = V y) (bs : Bas cs) (st : ST nst cs rs) (s5 : ∀ d, nst ≤ d → d ≤ 9 → rs.2.2.1 5 d = 0) (rn : RUN r c ar cs) (r160 : kR cs 160 r = some 2) (ih : ∀ (Su Sl Ql lo hi oq q : Nat), QXX V c s cs rs d Su Sl Ql lo hi oq q → JDN c s V D K k cs rs d oq q → TQY V s c cs d oq cs → ∀ l, lc rs Su ≤ lc rs Sl + l → l ≤ 3 → JQC F r c ar B d cs rs l oq q) (o : OSX (QB Bd (QXX V c s cs rs d)) XJ V s lo hi ql so e it gr mi (ns + 1) mg cs rs) (ap : AGPX (hvr so cs) c s so e it mi cs rs) (m1 : 1 ≤ mi) (mgk : kI cs 198 so ≠ 0 → 1 ≤ mg) (sd : SDN (JDN c s V D K k cs rs d) c s V D K k so e cs rs) (te : TSE (TQY V s c cs d) V s c cs so cs) (eB : e < Bd) (hl : lc rs Bd ≤ lc rs e + l) (l3 : l ≤ 3) : SET F r c ar B l d so e mi it cs rs := by
  have n3 := o.n3
  obtain ⟨s1, s2, it', gr', mi', mg', na, ns', t1, t2, t3, t4, t5, t6, t7, t8, t9, t10, t11, t12, t13, ⟨t14, e60⟩, t15, t16, t17, t18, t19, t20⟩ := sd
  have eit : it' = it := Option.some.inj (t5.symm.trans o.r194)
  have egr : gr' = gr := Option.some.inj (t6.symm.trans o.r200)
  rw [eit] at t7 t18
  rw [egr] at t8 t17
  have emi : mi' = mi := (nI_eq (by omega) (by have := o.ci.m8; omega)).mp (t7.symm.trans o.ci.sz)
  have emg : mg' = mg := (nI_eq (by omega) (by have := o.cg.m8; omega)).mp (t8.symm.trans o.cg.sz)
  have ens : ns' = ns + 1 := (nI_eq (by omega) (by omega)).mp (t10.symm.trans o.i196)
  rw [emi] at t18
  rw [emg] at t17 t19
  rw [ens] at t20
  have tb := te.b o
  obtain ⟨b', u, v, b0, bm, bh, uv, vu, sr⟩ := o.so
  have hu : ∀ i, i < ns + 1 → rs.2.2.1 49 (3 * e + i) = -1 → e < u i ∧ u i ≤ v i ∧ v i ≤ Bd := fun i hi0 h49 => by
    obtain ⟨oo, q1, q2⟩ := sr i hi0
    rcases q2.b.kd with ⟨dd, d1, -, d3, -⟩ | ⟨-, -, -, -, oi, qi, lo', -, -, -, -, d9⟩
    · exact absurd (d3.symm.trans h49) (nI_nm1 (by omega))
    · have := (QXX.lv d _ _ _ _ _ _ _ d9.2).1
      exact ⟨(uv i hi0).1, by omega, d9.1⟩
  have lv := sel_lv o.rn n3 eB hu vu
  have lvl : ∀ i, i < ns + 1 → lvk rs e u v i ≤ 3 := fun i hi0 => by
    have := sumN_ge (g := lvk rs e u v) (k := i) (ns + 1) hi0
    omega
  have nst' : ∀ i oo oi, i < ns + 1 → kQ cs 195 so i = some oo → kR cs 225 oo = some oi → ∃ qi it9, rs.2.2.1 49 (3 * e + i) = -1 ∧ rs.2.2.1 53 (3 * e + i) = nI qi ∧ kR cs 129 oi = some it9 ∧ (∀ y, y < owN cs so i → TY12 (kA cs 100 it9 y)) ∧ (∀ y, y < owN cs so i → otN cs so i y = kA cs 100 it9 y) ∧ QBT F r c ar B (lvk rs e u v i) d oi qi (owN cs so i) it9 cs rs := fun i oo oi hi0 hoo hoi => by
    obtain ⟨o1, q1, q2⟩ := sr i hi0
    have e1 : o1 = oo := Option.some.inj (q1.symm.trans hoo)
    rw [e1] at q2
    rcases q2.b.kd with ⟨dd, d1, -, d3, d4, -⟩ | ⟨-, d2, -, -, oi', qi, lo', -, d6, d7, d8, d9⟩
    · rw [d4] at hoi
      cases hoi
    · have e2 : oi' = oi := Option.some.inj (d6.symm.trans hoi)
      rw [e2] at d9
      obtain ⟨o3, x1, x2, x3, -, -⟩ := scq_start t20 i hi0
      have e3 : o3 = oo := Option.some.inj (x1.symm.trans hoo)
      rw [e3] at x1 x2
      obtain ⟨o4, m, a, y1, y2, y3, y4, y5, y6, y7, y8, y9, y10, y11, y12⟩ := t20 i hi0
      have e4 : o4 = oo := Option.some.inj (y3.symm.trans hoo)
      rw [e4] at y4 y12
      have em : m = owN cs so i := (nI_eq (by omega) (by omega)).mp (y4.symm.trans x2)
      obtain ⟨z1, ei, z2, z3, z4⟩ := y12 oi qi d8 hoi d7
      obtain ⟨o5, w1, w2, w3, w4⟩ := tb.sr i hi0
      have e5 : o5 = oo := Option.some.inj (w1.symm.trans hoo)
      rw [e5] at w4
      obtain ⟨p1, p2⟩ := w4 oi hoi
      have ll : lvk rs e u v i = lc rs (v i) - lc rs (u i) := if_pos d2
      obtain ⟨w, it9, e0, j1, j2, j3, j4, j5, j6, j7⟩ := ih _ _ _ _ _ _ _ d9.2 z1 p1 (lvk rs e u v i) (by omega) (lvl i hi0)
      have ee : e0 = ei := (nI_eq (by omega) (by omega)).mp (j4.symm.trans z3)
      rw [ee] at j6
      have ew : w = m := (nI_eq (by have := j2.m8; omega) (by omega)).mp (j6.symm.trans z4)
      have ew2 : w = owN cs so i := ew.trans em
      rw [ew2] at j3 j7
      refine ⟨qi, it9, d2, d7, j1, j3, fun y hy => ?_, j7⟩
      have et : otN cs so i y = kA cs 100 (oo + 1) y := by
        unfold otN
        rw [ooN_is hoo]
      rw [et]
      exact p2 it9 j1 y (by omega) (by rw [x2]; exact nI_lt hy (by omega))
  have sq : SCQ so (ns + 1) (owN cs so) (otN cs so) cs := scq_of o t20 tb.sr (fun i oo oi hi0 hoo hoi _ => by
    obtain ⟨qi, it9, -, -, p3, p4, -⟩ := nst' i oo oi hi0 hoo hoi
    obtain ⟨o3, x1, x2, x3, -, -⟩ := scq_start t20 i hi0
    have e3 : o3 = oo := Option.some.inj (x1.symm.trans hoo)
    rw [e3] at x2
    refine ⟨it9, p3, fun y hy hlt => p4 y ?_⟩
    rw [x2] at hlt
    exact (nI_ltI (by omega) (by omega)).mp hlt)
  have ss : SSC so (ns + 1) (owN cs so) (ooN cs so) cs := ssc_of o t20
  have w8 : ∀ i, i < ns + 1 → owN cs so i ≤ 8 := fun i hi0 => by
    obtain ⟨o3, x1, x2, x3, -, -⟩ := scq_start t20 i hi0
    exact x3
  have W8 := wid_8 (w := owN cs so) ns (fun j hj => w8 j (by omega))
  have sbt : SBT F c ar so e (wid (owN cs so) ns) mi it s cap (RWT (ns + 1) (owN cs so) (otN cs so)) cs rs := b.sel o ap m1 mgk tb ⟨t15, t16, t17, t18⟩ sq (by
    show wid (owN cs so) ns ≤ 100
    omega) t9 t13 t19 (fun hg => cov_of b.s1 hv o ap tb hg)
  refine se_all (ns := ns) (ou := ouN cs so) (on := onN V c cs so) (ℓ := lvk rs e u v) b.hF hBB rn (by omega) o.rn ss sbt o.ci.m8 w8 (fun i hi0 => ?_) (fun i hi0 => ?_) (by omega) l3
  · obtain ⟨oo, q1, q2⟩ := sr (i + 1) hi0
    obtain ⟨o4, m, a, y1, y2, y3, y4, y5, y6, y7, y8, y9, y10, y11, y12⟩ := t20 (i + 1) hi0
    have e4 : o4 = oo := Option.some.inj (y3.symm.trans q1)
    rw [e4] at y10
    obtain ⟨o5, w1, w2, -, -⟩ := tb.sr (i + 1) hi0
    have e5 : o5 = oo := Option.some.inj (w1.symm.trans q1)
    rw [e5] at w2
    obtain ⟨rt, r1, r2, r3, r4, r5⟩ := b.onn (ns := i + 2) q2.on (q2.o1.2 (by omega)) (w2 (by omega)) y10 (fun j hj => sq j (by omega)) (by omega)
    have eo : ooN cs so (i + 1) = oo := ooN_is q1
    have on' : onN V c cs so (i + 1) = evS V c cs rt := by
      unfold onN
      rw [eo, r1, nI_clamp (by omega)]
    rw [on', eo]
    refine ⟨rt, r1, r2, r4, r5, ?_, ?_⟩
    · unfold ouN
      rw [eo]
      exact decide_eq_true_iff
    · unfold ouN
      rw [eo, q2.ou.1]
      exact decide_eq_true_iff
  · obtain ⟨oo, q1, q2⟩ := sr i hi0
    have eo : ooN cs so i = oo := ooN_is q1
    rw [eo]
    rcases q2.b.kd with ⟨dd, d1, d2, d3, d4, -, -, d7⟩ | ⟨-, d2, -, -, oi, qi, lo', -, d6, d7, d8, d9⟩
    · have ll : lvk rs e u v i = 1 := if_neg (by rw [d3]; exact nI_nm1 (by omega))
      rw [ll]
      obtain ⟨sr1, sr2, sr3, sr4⟩ := ss.sr i hi0
      rw [eo] at sr4
      obtain ⟨o4, m, a, y1, y2, y3, y4, y5, y6, y7, y8, y9, y10, y11, y12⟩ := t20 i hi0
      have e4 : o4 = oo := Option.some.inj (y3.symm.trans q1)
      rw [e4] at y4
      obtain ⟨o3, x1, x2, x3, -, -⟩ := scq_start t20 i hi0
      have e3 : o3 = oo := Option.some.inj (x1.symm.trans q1)
      rw [e3] at x2
      have em : m = owN cs so i := (nI_eq (by omega) (by omega)).mp (y4.symm.trans x2)
      obtain ⟨u1, u2⟩ := y11 dd d1 d3
      rw [em] at u1 u2
      obtain ⟨o5, w1, -, w3, -⟩ := tb.sr i hi0
      have e5 : o5 = oo := Option.some.inj (w1.symm.trans q1)
      rw [e5] at w3
      refine so_leaf b.hF hBB bs st s5 rn r160 q2.b.e d4 d2 d1 d3 d7 sr4 u1 x3 u2 (fun y hy => ?_)
      have et : otN cs so i y = kA cs 100 (oo + 1) y := by
        unfold otN
        rw [eo]
      rw [et]
      exact w3 d4 y (by omega) (by rw [x2]; exact nI_lt hy (by omega))
    · obtain ⟨qi', it9, p1, p2, p3, p4, p5, p6⟩ := nst' i oo oi hi0 q1 d6
      exact so_inn rn q2.b.e d6 p1 p2 p6 p5

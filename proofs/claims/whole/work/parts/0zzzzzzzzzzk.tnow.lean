/-! a checked text, all said of the state behind the check -/
/-- what the check leaves alone -/
theorem JK.at1 {t c k lo hi Sl Sh x j : Nat} {cs cs' : CS} {rs rs' : RS} (h : JK t c k lo hi Sl Sh cs rs cs' rs') (hx : 128 ≤ x ∧ x < 320 ∧ x ≠ 133 ∧ x ≠ 206 ∧ x ≠ 234 ∨ x ≤ 2) : AT cs cs' x j := h.a0 x j (by unfold kX; omega)
theorem osa_pair {P P' : Nat → Nat → Nat → Nat → Nat → Nat → Nat → Prop} {X X' : Nat → CS → Prop} {n : Nat} {f : Nat → Int32} {M c : Nat} {s lo hi ql lo' hi' ql' o e it gr mi ns mg it' gr' mi' ns' mg' t k K kk Sl Sh : Nat} {c4 cs : CS} {rs rs5 : RS} (jk : JK t c k K kk Sl Sh c4 rs cs rs5) (hs : s ≤ 120) (o1 : OSA P X n f M c s lo hi ql o e it gr mi ns ns mg c4 rs) (o2 : OSA P' X' n f M c s lo' hi' ql' o e it' gr' mi' ns' ns' mg' cs rs5) : it' = it ∧ gr' = gr ∧ mi' = mi ∧ mg' = mg ∧ ns' = ns ∧ (∀ y, y < mi → kA cs 97 it y = kA c4 97 it y) ∧ ∀ y, y < mg → kA cs 97 gr y = kA c4 97 gr y := by
  have ra : ∀ q, ¬ jK q → rs5.2.2.1 q = rs.2.2.1 q := fun q hq => jk.fr.a hq
  have m8 := o1.ci.m8
  have g8 := o1.cg.m8
  have m8' := o2.ci.m8
  have g8' := o2.cg.m8
  have e1 : it' = it := by
    have w := o2.r194
    rw [(jk.at1 (by omega)).r, o1.r194] at w
    exact (Option.some.inj w).symm
  have e2 : gr' = gr := by
    have w := o2.r200
    rw [(jk.at1 (by omega)).r, o1.r200] at w
    exact (Option.some.inj w).symm
  have e3 : mi' = mi := by
    have w := o2.ri
    rw [ra 36 (by unfold jK; omega), o1.ri] at w
    exact ((nI_eq (by omega) (by omega)).mp w).symm
  have e4 : mg' = mg := by
    have w := o2.rg
    rw [ra 39 (by unfold jK; omega), o1.rg] at w
    exact ((nI_eq (by omega) (by omega)).mp w).symm
  have e5 : ns' = ns := by
    have w := o2.i196
    rw [(jk.at1 (by omega)).i, o1.i196] at w
    exact ((nI_eq (by have := o1.n3; omega) (by have := o2.n3; omega)).mp w).symm
  refine ⟨e1, e2, e3, e4, e5, fun y hy => ?_, fun y hy => ?_⟩
  · obtain ⟨r, h1, h2, -⟩ := o1.is y hy
    obtain ⟨r', h1', h2', -⟩ := o2.is y (by omega)
    rw [e1] at h1'
    rw [ra 44 (by unfold jK; omega), h2] at h2'
    rw [h1, h1', h2']
  · obtain ⟨r, j, h1, h2, -⟩ := o1.gs y hy
    obtain ⟨r', j', h1', h2', -⟩ := o2.gs y (by omega)
    rw [e2] at h1'
    rw [ra 47 (by unfold jK; omega), h2] at h2'
    rw [h1, h1', h2']
theorem tse_now {PQ PQ2 : Nat → CS → Prop} {P P' : Nat → Nat → Nat → Nat → Nat → Nat → Nat → Prop} {X X' : Nat → CS → Prop} {n : Nat} {f : Nat → Int32} {M c : Nat} {s lo hi ql lo' hi' ql' o e it gr mi ns mg it' gr' mi' ns' mg' t k K kk Sl Sh : Nat} {V : VT} {c4 cs : CS} {rs rs5 : RS} (jk : JK t c k K kk Sl Sh c4 rs cs rs5) (hs : s ≤ 120) (o1 : OSA P X n f M c s lo hi ql o e it gr mi ns ns mg c4 rs) (o2 : OSA P' X' n f M c s lo' hi' ql' o e it' gr' mi' ns' ns' mg' cs rs5) (h : TSE PQ V s c c4 o cs) (hP : ∀ i oo oi, i < ns → kQ c4 195 o i = some oo → kR c4 225 oo = some oi → PQ oi cs → PQ2 oi cs) : TSE PQ2 V s c cs o cs := by
  obtain ⟨p1, p2, p3, p4, p5, p6, p7⟩ := osa_pair jk hs o1 o2
  have ci := o2.ci
  have cg := o2.cg
  rw [p1, p3] at ci
  rw [p2, p4] at cg
  obtain ⟨it2, gr2, mi2, ns2, mg2, h1, h2, h3, h4, h5, h6, h7, h8, h9, h10, h11⟩ := h
  have e1 : it2 = it := Option.some.inj (h1.symm.trans o1.r194)
  have e2 : gr2 = gr := Option.some.inj (h2.symm.trans o1.r200)
  rw [e1] at h3 h10
  rw [e2] at h4 h8 h9 h10
  have e3 := h3.same o1.ci
  have e4 := h4.same o1.cg
  have e5 : ns2 = ns := (nI_eq (by omega) (by have := o1.n3; omega)).mp (h5.symm.trans o1.i196)
  rw [e3] at h10
  rw [e4] at h8
  rw [e5] at h6 h7 h8 h9 h10 h11
  have gn : gnm cs o gr = gnm c4 o gr := by
    unfold gnm
    rw [(jk.at1 (x := 198) (j := o) (by omega)).i, (jk.at1 (x := 203) (j := o) (by omega)).i]
  refine ⟨it, gr, mi, ns, mg, by rw [(jk.at1 (by omega)).r]; exact o1.r194, by rw [(jk.at1 (by omega)).r]; exact o1.r200, ci, cg, by rw [(jk.at1 (by omega)).i]; exact o1.i196, h6, ?_, fun y r a hy hr rt => ?_, ?_, fun y r a hy hr rt => ?_, fun i hi0 => ?_⟩
  · rw [(jk.at1 (x := 197) (j := o) (by omega)).i]
    exact h7
  · rw [p7 y hy] at hr
    exact h8 y r a hy hr rt
  · rw [(jk.at1 (x := 201) (j := o) (by omega)).i, gn]
    exact h9
  · rw [p6 y hy] at hr
    rw [gn]
    exact h10 y r a hy hr rt
  · obtain ⟨oo, u1, u2, u3, u4⟩ := h11 i hi0
    refine ⟨oo, by rw [(jk.at1 (x := 195) (j := o) (by omega)).q]; exact u1, ?_, ?_, fun oi hoi => ?_⟩
    · rw [(jk.at1 (x := 233) (j := oo) (by omega)).i]
      exact u2
    · rw [(jk.at1 (x := 225) (j := oo) (by omega)).r]
      exact u3
    · rw [(jk.at1 (x := 225) (j := oo) (by omega)).r] at hoi
      obtain ⟨v1, v2⟩ := u4 oi hoi
      refine ⟨hP i oo oi hi0 u1 hoi v1, fun it9 h9 => ?_⟩
      rw [(jk.at1 (x := 129) (j := oi) (by omega)).r] at h9
      exact v2 it9 h9
theorem tqy_now {n : Nat} {f : Nat → Int32} {M c : Nat} {V : VT} {s S Q t k K kk Sh : Nat} {c4 cs : CS} {rs rs5 : RS} (jk : JK t c k K kk 0 Sh c4 rs cs rs5) (hs : s ≤ 120) : ∀ (d Su Sl Ql lo hi Su' Sl' Ql' lo' hi' oq q : Nat), QR X0 n f M c s S Q c4 rs d Su Sl Ql lo hi oq q → QR XJ n f M c s S Q cs rs5 d Su' Sl' Ql' lo' hi' oq q → TQY V s c c4 d oq cs → TQY V s c cs d oq cs := by
  intro d
  induction d with
  | zero => intro _ _ _ _ _ _ _ _ _ _ _ _ h _ _; exact h.elim
  | succ d ih =>
    intro Su Sl Ql lo hi Su' Sl' Ql' lo' hi' oq q qr qr' ty
    obtain ⟨-, w⟩ : Su ≤ S ∧ QRY (QR X0 n f M c s S Q c4 rs d) X0 n f M c s Sl Su Ql Q lo hi oq q c4 rs := qr
    obtain ⟨-, w'⟩ : Su' ≤ S ∧ QRY (QR XJ n f M c s S Q cs rs5 d) XJ n f M c s Sl' Su' Ql' Q lo' hi' oq q cs rs5 := qr'
    have ra : ∀ q, ¬ jK q → rs5.2.2.1 q = rs.2.2.1 q := fun q hq => jk.fr.a hq
    obtain ⟨L, m, lb, ub, wb, l1, l2, l3, l4, l5, l6, l7, l8, l9, l10, l11, l12, l13, lw, l14, so0, l15, l16⟩ := w.ls
    obtain ⟨L', m', lb', ub', wb', z1, z2, z3, z4, z5, z6, z7, z8, z9, z10, z11, z12, z13, zw, z14, so0', z15, z16⟩ := w'.ls
    have eL : L' = L := by
      rw [(jk.at1 (x := 128) (j := oq) (by omega)).r, l1] at z1
      exact (Option.some.inj z1).symm
    rw [eL] at z8 z14 z15
    have em : m' = m := by
      rw [(jk.at1 (x := 2) (j := L) (by omega)).i, l8] at z8
      exact ((nI_eq (by omega) (by omega)).mp z8).symm
    rw [em] at z14
    -- the SELECTS of both
    have pr : ∀ j, j < m → ∃ so e, kQ c4 1 L j = some so ∧ SEL (QB (wb (j + 1)) (QR X0 n f M c s S Q c4 rs d)) X0 n f M c s (lb j) (ub j) (q + 1) so e c4 rs ∧ SEL (QB (wb' (j + 1)) (QR XJ n f M c s S Q cs rs5 d)) XJ n f M c s (lb' j) (ub' j) (q + 1) so e cs rs5 := fun j hj => by
      obtain ⟨so, e, x1, x2, x0, x3, x4, -⟩ := l14 j hj
      obtain ⟨so', e', y1, y2, y0, y3, y4, -⟩ := z14 j hj
      have e1 : so' = so := by
        rw [(jk.at1 (x := 1) (j := L) (by omega)).q, x1] at y1
        exact (Option.some.inj y1).symm
      have e2 : e' = e := by
        rw [ra 61 (by unfold jK; omega), x2] at y2
        have q1 : e < 60 := by
          obtain ⟨it, gr, mi, ns, mg, o1, -⟩ := x4
          exact o1.e60
        have q2 : e' < 60 := by
          obtain ⟨it, gr, mi, ns, mg, o1, -⟩ := y4
          exact o1.e60
        exact ((nI_eq (by omega) (by omega)).mp y2).symm
      rw [e1, e2] at y4
      exact ⟨so, e, x1, x4, y4⟩
    obtain ⟨L2, m2, it0, mi0, t1, t2, t3, t4, t5, t6, t7⟩ := ty
    have eL2 : L2 = L := Option.some.inj (t1.symm.trans l1)
    rw [eL2] at t2 t6
    have em2 : m2 = m := (nI_eq (by omega) (by omega)).mp (t2.symm.trans l8)
    rw [em2] at t6
    have clm : ∀ it mi, (∃ j so, j < m ∧ kQ c4 1 L j = some so ∧ kR c4 194 so = some it) → CLM it mi c4 → CLM it mi cs := fun it mi hj hc => by
      obtain ⟨j, so, j1, j2, j3⟩ := hj
      obtain ⟨so1, e, x1, ⟨it1, gr1, mi1, ns1, mg1, o1, -⟩, ⟨it2, gr2, mi2, ns2, mg2, o2, -⟩⟩ := pr j j1
      have es : so1 = so := Option.some.inj (x1.symm.trans j2)
      rw [es] at o1 o2
      obtain ⟨p1, p2, p3, -⟩ := osa_pair jk hs o1 o2
      have ei : it1 = it := Option.some.inj (o1.r194.symm.trans j3)
      rw [ei] at o1 p1
      have ms := hc.same o1.ci
      have ci := o2.ci
      rw [p1, p3, ← ms] at ci
      exact ci
    have s00 : ∃ so, kQ c4 1 L 0 = some so ∧ kR c4 194 so = some it0 := ⟨so0, l15, by rw [← l16]; exact t4⟩
    obtain ⟨sa, sa1, sa2⟩ := s00
    refine ⟨L, m, it0, mi0, by rw [(jk.at1 (x := 128) (j := oq) (by omega)).r]; exact l1, by rw [(jk.at1 (x := 2) (j := L) (by omega)).i]; exact l8, by omega, by rw [(jk.at1 (x := 129) (j := oq) (by omega)).r]; exact t4, clm it0 mi0 ⟨0, sa, by omega, sa1, sa2⟩ t5, fun j hj => ?_, fun oc hoc => ?_⟩
    · obtain ⟨so, it, k1, k2, k3, k4, k5⟩ := t6 j hj
      obtain ⟨so1, e, x1, ⟨it1, gr1, mi1, ns1, mg1, o1, -⟩, ⟨it2, gr2, mi2, ns2, mg2, o2, -⟩⟩ := pr j hj
      have es : so1 = so := Option.some.inj (x1.symm.trans k1)
      rw [es] at o1 o2
      refine ⟨so, it, by rw [(jk.at1 (x := 1) (j := L) (by omega)).q]; exact k1, by rw [(jk.at1 (x := 194) (j := so) (by omega)).r]; exact k2, clm it mi0 ⟨j, so, hj, k1, k2⟩ k3, k4, tse_now jk hs o1 o2 k5 (fun i oo oi hi0 h1 h2 hp => ?_)⟩
      obtain ⟨-, -, -, -, p5, -⟩ := osa_pair jk hs o1 o2
      obtain ⟨b, u, v, -, -, -, -, -, sr⟩ := o1.so
      obtain ⟨b', u', v', -, -, -, -, -, sr'⟩ := o2.so
      obtain ⟨oa, q1, q2⟩ := sr i hi0
      obtain ⟨ob', q1', q2'⟩ := sr' i (by omega)
      have ea : oa = oo := Option.some.inj (q1.symm.trans h1)
      have eb : ob' = oo := by
        rw [(jk.at1 (x := 195) (j := so) (by omega)).q, h1] at q1'
        exact (Option.some.inj q1').symm
      rw [ea] at q2
      rw [eb] at q2'
      rcases q2.b.kd with ⟨dd, -, -, -, n0, -⟩ | ⟨-, -, -, -, oi1, qi1, lo1, -, w2, w3, w4, w5⟩
      · rw [h2] at n0
        cases n0
      · rcases q2'.b.kd with ⟨dd, -, -, -, n0, -⟩ | ⟨-, -, -, -, oi2, qi2, lo2, -, v2, v3, v4, v5⟩
        · rw [(jk.at1 (x := 225) (j := oo) (by omega)).r, h2] at n0
          cases n0
        · have e1 : oi1 = oi := Option.some.inj (w2.symm.trans h2)
          have e2 : oi2 = oi := by
            rw [(jk.at1 (x := 225) (j := oo) (by omega)).r, h2] at v2
            exact (Option.some.inj v2).symm
          have e3 : qi2 = qi1 := by
            rw [ra 53 (by unfold jK; omega), w3] at v3
            exact ((nI_eq (by omega) (by omega)).mp v3).symm
          rw [e1] at w5
          rw [e2, e3] at v5
          exact ih _ _ _ _ _ _ _ _ _ _ oi qi1 w5.2 v5.2 hp
    · rw [(jk.at1 (x := 130) (j := oq) (by omega)).r] at hoc
      obtain ⟨mo, u1, u2⟩ := t7 oc hoc
      rcases w.or' with ⟨y1, -⟩ | ⟨oc1, m1, y1, y2, y3, y4, y5, y6, y7, y8, y9, y10⟩
      · rw [hoc] at y1
        cases y1
      · rcases w'.or' with ⟨x1, -⟩ | ⟨oc2, m3, x1, x2, x3, x4, x5, x6, x7, x8, x9, x10⟩
        · rw [(jk.at1 (x := 130) (j := oq) (by omega)).r, hoc] at x1
          cases x1
        · have e1 : oc1 = oc := Option.some.inj (y1.symm.trans hoc)
          have e2 : oc2 = oc := by
            rw [(jk.at1 (x := 130) (j := oq) (by omega)).r, hoc] at x1
            exact (Option.some.inj x1).symm
          rw [e1] at y4 y10
          rw [e2] at x4 x10
          have g8 := y4.m8
          have g8' := x4.m8
          have e3 : m3 = m1 := by
            rw [ra 64 (by unfold jK; omega), y6] at x6
            exact ((nI_eq (by omega) (by omega)).mp x6).symm
          have e4 := u1.same y4
          rw [e3, ← e4] at x4
          refine ⟨mo, x4, fun y r a hy hr rt => u2 y r a hy ?_ rt⟩
          obtain ⟨r1, h1, h2, -⟩ := y10 y (by omega)
          obtain ⟨r2, h1', h2', -⟩ := x10 y (by omega)
          rw [ra 66 (by unfold jK; omega), h2] at h2'
          rw [h1, h2', ← h1', hr]

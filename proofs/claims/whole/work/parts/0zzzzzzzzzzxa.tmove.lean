/-! a typed text where its objects stand unchanged -/
def TMV (c K k : Nat) (a b : CS) : Prop := (∀ x j, K ≤ j → j < k → (x < 32 ∨ 63 < x ∧ x < 74 ∨ 76 < x ∧ x < 256 ∨ 320 ≤ x ∧ x < 352) → AT a b x j) ∧ (∀ x, x = 65 ∨ x = 67 ∨ x = 71 ∨ x = 72 ∨ x = 73 → AT a b x c) ∧ (EM a b)
theorem TMV.at' {c K k : Nat} {a b : CS} (h : TMV c K k a b) : ∀ x j, K ≤ j → j < k → (x < 32 ∨ 63 < x ∧ x < 74 ∨ 76 < x ∧ x < 256 ∨ 320 ≤ x ∧ x < 352) → AT a b x j := h.1
theorem TMV.gc {c K k : Nat} {a b : CS} (h : TMV c K k a b) : ∀ x, x = 65 ∨ x = 67 ∨ x = 71 ∨ x = 72 ∨ x = 73 → AT a b x c := h.2.1
theorem TMV.em {c K k : Nat} {a b : CS} (h : TMV c K k a b) : EM a b := h.2.2
/-- where names are looked up -/
def SCM (K k : Nat) (so : Option Nat) (sn : Int32) (nm : Option Nat) (a : CS) : Prop := (∀ o, so = some o → (K ≤ o ∧ o < k) ∧ ∀ i oo, i < 2147483648 → nI i < sn → kQ a 195 o i = some oo → (K ≤ oo ∧ oo < k) ∧ ∀ cl, kR a 235 oo = some cl → K ≤ cl ∧ cl < k) ∧ ∀ n, nm = some n → K ≤ n ∧ n < k
theorem WTR.tm {c K k e r : Nat} {so nm : Option Nat} {sn : Int32} {a b : CS} (h : WTR c e r so sn nm a) (g : TMV c K k a b) (sc : SCM K k so sn nm a) : WTR c e r so sn nm b := h.kp (fun x hx => g.gc x (by omega)) (fun z _ _ => ⟨fun _ => by rw [(g.gc 72 (by omega)).a], by rw [(g.gc 73 (by omega)).a]⟩) (fun o ho => ⟨g.at' 195 o (sc.1 o ho).1.1 (sc.1 o ho).1.2 (by omega), fun i oo h1 h2 h3 => by
  obtain ⟨⟨p1, p2⟩, p3⟩ := (sc.1 o ho).2 i oo h1 h2 h3
  exact ⟨g.at' 235 oo p1 p2 (by omega), g.at' 234 oo p1 p2 (by omega), fun cl hcl => ⟨g.at' 96 cl (p3 cl hcl).1 (p3 cl hcl).2 (by omega), g.at' 100 cl (p3 cl hcl).1 (p3 cl hcl).2 (by omega)⟩⟩⟩) (fun n hn => ⟨g.at' 96 n (sc.2 n hn).1 (sc.2 n hn).2 (by omega), g.at' 100 n (sc.2 n hn).1 (sc.2 n hn).2 (by omega)⟩)
theorem TRU.tm {V : VT} {c s K k : Nat} {a b : CS} {so nm : Option Nat} {sn v w : Int32} (h : TRU V s c so sn nm v a) (g : TMV c K k a b) (sc : SCM K k so sn nm a) (e : w = v) : TRU V s c so sn nm w b := fun r z hw rt => by
  rw [e] at hw
  obtain ⟨h1, h2⟩ := h r z hw rt
  exact ⟨h1.tm g sc, by rw [(g.gc 73 (by omega)).a]; exact h2⟩
theorem COZ.tm {V : VT} {c s K k : Nat} {a b : CS} {so nm : Option Nat} {sn : Int32} {col m : Nat} (h : COZ V s c a so sn nm col m a) (g : TMV c K k a b) (sc : SCM K k so sn nm a) (hc : K ≤ col ∧ col < k) : COZ V s c b so sn nm col m b := fun y r z hy w rt => by
  rw [(g.at' 97 col hc.1 hc.2 (by omega)).a] at w
  obtain ⟨h1, h2⟩ := h y r z hy w rt
  exact ⟨h1.tm g sc, by rw [(g.at' 100 col hc.1 hc.2 (by omega)).a, (g.gc 73 (by omega)).a]; exact h2⟩
theorem TYP.tm {c K k cl : Nat} {P Q : Nat → Int32} {a b : CS} (h : TYP cl P a) (g : TMV c K k a b) (hc : K ≤ cl ∧ cl < k) (e : Q = P) : TYP cl Q b := fun y y8 hy => by
  rw [(g.at' 96 cl hc.1 hc.2 (by omega)).i] at hy
  rw [(g.at' 100 cl hc.1 hc.2 (by omega)).a, e]
  exact h y y8 hy
theorem CLM.tm {c K k cl m : Nat} {a b : CS} (h : CLM cl m a) (g : TMV c K k a b) (hc : K ≤ cl ∧ cl < k) : CLM cl m b := h.keep g.em (fun x x1 x2 => g.at' x cl hc.1 hc.2 (by omega))
theorem TSE.tm {P : Nat → Nat → Nat → Nat → Nat → Nat → Nat → Prop} {V : VT} {c s K k : Nat} {D : Nat → Prop} {a b : CS} {rs : RS} {PQ PQ2 : Nat → CS → Prop} {PJ : Nat → Nat → Prop} {lo hi ql so e it gr mi ns mg : Nat} (g : TMV c K k a b) (o : OSX P XJ V s lo hi ql so e it gr mi ns mg a rs) (sd : SDN PJ c s V D K k so e a rs) (h : TSE PQ V s c a so a) (hP : ∀ i oo oi qi lo' hi' su sl, i < ns → kQ a 195 so i = some oo → kR a 225 oo = some oi → P su sl ql lo' hi' oi qi → PJ oi qi → PQ oi a → PQ2 oi b ∧ (K ≤ oi ∧ oi < k) ∧ ∀ it9, kR a 129 oi = some it9 → K ≤ it9 ∧ it9 < k) : TSE PQ2 V s c b so b := by
  have tb := h.b o
  have n3 := o.n3
  obtain ⟨s1, s2, it', gr', mi', mg', na, ns', t1, t2, t3, t4, t5, t6, t7, t8, t9, t10, t11, t12, t13, ⟨t14, e60⟩, t15, t16, t17, t18, t19, t20⟩ := sd
  have eit : it' = it := Option.some.inj (t5.symm.trans o.r194)
  have egr : gr' = gr := Option.some.inj (t6.symm.trans o.r200)
  have ens : ns' = ns := (nI_eq (by omega) (by omega)).mp (t10.symm.trans o.i196)
  rw [eit] at t1 t2
  rw [egr] at t3 t4
  rw [ens] at t20
  have aso : ∀ x, (x < 32 ∨ 63 < x ∧ x < 74 ∨ 76 < x ∧ x < 256 ∨ 320 ≤ x ∧ x < 352) → AT a b x so := fun x => g.at' x so s1 s2
  obtain ⟨b', u, v, b0, bm, bh, uv, vu, sr⟩ := o.so
  have srx : ∀ i oo, i < ns → kQ a 195 so i = some oo → (K ≤ oo ∧ oo + 1 < k) ∧ kR a 235 oo = some (oo + 1) := fun i oo hi0 hoo => by
    obtain ⟨o4, m, z, y1, y2, y3, -⟩ := t20 i hi0
    have e4 : o4 = oo := Option.some.inj (y3.symm.trans hoo)
    obtain ⟨o1, q1, q2⟩ := sr i hi0
    have e1 : o1 = oo := Option.some.inj (q1.symm.trans hoo)
    rw [e1] at q2
    obtain ⟨cl, c1, c2, c3, c4⟩ := q2.b.cl
    rw [c1] at c3
    exact ⟨⟨by omega, by omega⟩, c3⟩
  have sc : ∀ m nm, m ≤ ns → (∀ n, nm = some n → K ≤ n ∧ n < k) → SCM K k (some so) (nI m) nm a := fun m nm hm hn => ⟨fun o' ho => by
    rw [← Option.some.inj ho]
    refine ⟨⟨s1, s2⟩, fun i oo h1 h2 h3 => ?_⟩
    have im := (nI_ltI (a := i) (b := m) h1 (by omega)).mp h2
    obtain ⟨⟨p1, p2⟩, p3⟩ := srx i oo (by omega) h3
    refine ⟨⟨p1, by omega⟩, fun cl hcl => ?_⟩
    rw [p3] at hcl
    have := Option.some.inj hcl
    omega, hn⟩
  have gn : gnm b so gr = gnm a so gr := by
    unfold gnm
    rw [(aso 198 (by omega)).i, (aso 203 (by omega)).i]
  have gg : ∀ n, gnm a so gr = some n → K ≤ n ∧ n < k := fun n hn => by
    unfold gnm at hn
    by_cases w : kI a 198 so = 0 ∧ kI a 203 so ≤ 0
    · rw [if_pos w] at hn
      cases hn
    · rw [if_neg w] at hn
      have := Option.some.inj hn
      omega
  have nn : ∀ n, (none : Option Nat) = some n → K ≤ n ∧ n < k := fun n hn => (by cases hn)
  refine ⟨it, gr, mi, ns, mg, by rw [(aso 194 (by omega)).r]; exact o.r194, by rw [(aso 200 (by omega)).r]; exact o.r200, o.ci.tm g ⟨t1, t2⟩, o.cg.tm g ⟨t3, t4⟩, by rw [(aso 196 (by omega)).i]; exact o.i196, n3, tb.wh.tm g (sc ns none (Nat.le_refl _) nn) (aso 197 (by omega)).i, tb.gs.tm g (sc ns none (Nat.le_refl _) nn) ⟨t3, t4⟩, by rw [gn]; exact tb.hv.tm g (sc ns _ (Nat.le_refl _) gg) (aso 201 (by omega)).i, by rw [gn]; exact tb.is.tm g (sc ns _ (Nat.le_refl _) gg) ⟨t1, t2⟩, fun i hi0 => ?_⟩
  obtain ⟨oo, w1, w2, w3, w4⟩ := tb.sr i hi0
  obtain ⟨⟨p1, p2⟩, p3⟩ := srx i oo hi0 w1
  have aoo : ∀ x, (x < 32 ∨ 63 < x ∧ x < 74 ∨ 76 < x ∧ x < 256 ∨ 320 ≤ x ∧ x < 352) → AT a b x oo := fun x => g.at' x oo p1 (by omega)
  refine ⟨oo, by rw [(aso 195 (by omega)).q]; exact w1, fun hp => (w2 hp).tm g (sc (i + 1) none (by omega) nn) (aoo 233 (by omega)).i, fun h225 => ?_, fun oi hoi => ?_⟩
  · rw [(aoo 225 (by omega)).r] at h225
    exact (w3 h225).tm g ⟨by omega, p2⟩ rfl
  · rw [(aoo 225 (by omega)).r] at hoi
    obtain ⟨z1, z2⟩ := w4 oi hoi
    obtain ⟨o1, q1, q2⟩ := sr i hi0
    have e1 : o1 = oo := Option.some.inj (q1.symm.trans w1)
    rw [e1] at q2
    rcases q2.b.kd with ⟨dd, d1, d2, d3, d4, -⟩ | ⟨-, d2, -, -, oi', qi, lo', -, d6, d7, d8, d9⟩
    · rw [d4] at hoi
      cases hoi
    · have e2 : oi' = oi := Option.some.inj (d6.symm.trans hoi)
      rw [e2] at d9
      obtain ⟨o4, m, z, y1, y2, y3, y4, y5, y6, y7, y8, y9, y10, y11, y12⟩ := t20 i hi0
      have e4 : o4 = oo := Option.some.inj (y3.symm.trans w1)
      rw [e4] at y12
      obtain ⟨r1, ⟨r2, r3⟩, r4⟩ := hP i oo oi qi _ _ _ _ hi0 w1 hoi d9 (y12 oi qi d8 hoi d7).1 z1
      refine ⟨r1, fun it9 h9 => ?_⟩
      rw [(g.at' 129 oi r2 r3 (by omega)).r] at h9
      obtain ⟨r5, r6⟩ := r4 it9 h9
      exact (z2 it9 h9).tm g ⟨by omega, p2⟩ (g.at' 100 it9 r5 r6 (by omega)).a
theorem TQY.tm {V : VT} {c s K k : Nat} {D : Nat → Prop} {a b : CS} {rs : RS} (g : TMV c K k a b) : ∀ (d Su Sl Ql lo hi oq q : Nat), QXX V c s a rs d Su Sl Ql lo hi oq q → JDN c s V D K k a rs d oq q → TQY V s c a d oq a → TQY V s c b d oq b ∧ (K ≤ oq ∧ oq < k) ∧ ∀ it, kR a 129 oq = some it → K ≤ it ∧ it < k := by
  intro d
  induction d with
  | zero => exact fun _ _ _ _ _ _ _ h => h.elim
  | succ d ih =>
    intro Su Sl Ql lo hi oq q qr jd ty
    have w : QRYX (QXX V c s a rs d) XJ V c s Sl Su Ql lo hi oq q a rs := qr
    obtain ⟨L, m, lb, ub, wb, l1, l4, l5, l6, l7, l8, l9, l10, l11, lw, l14, so0, l15, l16⟩ := w.ls
    obtain ⟨j1, j2, L', m', j3, j4, j5, j6, j7, j8, j9⟩ := jd
    have eL : L' = L := Option.some.inj (j5.symm.trans l1)
    rw [eL] at j3 j4 j6 j8
    have em : m' = m := (nI_eq (by omega) (by omega)).mp (j6.symm.trans l8)
    rw [em] at j8
    obtain ⟨L2, m2, it0, mi0, t1, t2, t3, t4, t5, t6, t7⟩ := ty
    have eL2 : L2 = L := Option.some.inj (t1.symm.trans l1)
    rw [eL2] at t1 t2 t6
    have em2 : m2 = m := (nI_eq (by omega) (by omega)).mp (t2.symm.trans l8)
    rw [em2] at t2 t3 t6
    have aoq : ∀ x, (x < 32 ∨ 63 < x ∧ x < 74 ∨ 76 < x ∧ x < 256 ∨ 320 ≤ x ∧ x < 352) → AT a b x oq := fun x => g.at' x oq j1 j2
    have aL : ∀ x, (x < 32 ∨ 63 < x ∧ x < 74 ∨ 76 < x ∧ x < 256 ∨ 320 ≤ x ∧ x < 352) → AT a b x L := fun x => g.at' x L j3 j4
    have itr : ∀ j, j < m → ∃ so it, kQ a 1 L j = some so ∧ kR a 194 so = some it ∧ (K ≤ so ∧ so < k) ∧ K ≤ it ∧ it < k := fun j hj => by
      obtain ⟨so, e, p1, p2, p3⟩ := j8 j hj
      obtain ⟨s1, s2, it', gr', mi', mg', na, ns', q1, q2, -, -, q5, -⟩ := p3
      exact ⟨so, it', p1, q5, ⟨s1, s2⟩, q1, q2⟩
    obtain ⟨so9, it9, k1, k2, -, k4, k5⟩ := itr 0 (by omega)
    have es0 : so0 = so9 := Option.some.inj (l15.symm.trans k1)
    rw [es0, k2] at l16
    have ei0 : it9 = it0 := Option.some.inj (l16.symm.trans t4)
    rw [ei0] at k4 k5 l16
    refine ⟨⟨L, m, it0, mi0, by rw [(aoq 128 (by omega)).r]; exact t1, by rw [(aL 2 (by omega)).i]; exact t2, t3, by rw [(aoq 129 (by omega)).r]; exact t4, t5.tm g ⟨k4, k5⟩, fun j hj => ?_, fun oc hoc => ?_⟩, ⟨j1, j2⟩, fun it hit => ?_⟩
    · obtain ⟨so, it, u1, u2, u3, u4, u5⟩ := t6 j hj
      obtain ⟨so1, it1, v1, v2, ⟨v3, v4⟩, v5, v6⟩ := itr j hj
      have e1 : so1 = so := Option.some.inj (v1.symm.trans u1)
      rw [e1] at v2 v3 v4
      have e2 : it1 = it := Option.some.inj (v2.symm.trans u2)
      rw [e2] at v5 v6
      obtain ⟨so2, e, s1, s2, s3, s4, ⟨it2, gr, mi, ns, mg, o, ap, m1, n1, mgk⟩, s6⟩ := l14 j hj
      have e3 : so2 = so := Option.some.inj (s1.symm.trans u1)
      rw [e3] at o
      obtain ⟨so', e', p1, p2, p3⟩ := j8 j hj
      have eso : so' = so := Option.some.inj (p1.symm.trans u1)
      have e60' : e' < 60 := by
        obtain ⟨-, -, it', gr', mi', mg', na, ns', -, -, -, -, -, -, -, -, -, -, -, -, -, ⟨-, z⟩, -⟩ := p3
        exact z
      have ee : e' = e := (nI_eq (by omega) (by have := o.e60; omega)).mp (p2.symm.trans s2)
      rw [eso, ee] at p3
      refine ⟨so, it, by rw [(aL 1 (by omega)).q]; exact u1, by rw [(g.at' 194 so v3 v4 (by omega)).r]; exact u2, u3.tm g ⟨v5, v6⟩, fun y hy => ?_, u5.tm g o p3 (fun i oo oi qi lo' hi' su sl _ _ _ x1 x2 x3 => ih su sl _ lo' hi' oi qi x1.2 x2 x3)⟩
      rw [(g.at' 100 it v5 v6 (by omega)).a, (g.at' 100 it0 k4 k5 (by omega)).a]
      exact u4 y hy
    · rw [(aoq 130 (by omega)).r] at hoc
      obtain ⟨mo, w1, w2⟩ := t7 oc hoc
      obtain ⟨q1, q2, -⟩ := j9 oc hoc
      refine ⟨mo, w1.tm g ⟨q1, q2⟩, w2.tm g ⟨fun o ho => (by cases ho), fun n hn => ?_⟩ ⟨q1, q2⟩⟩
      rw [← Option.some.inj hn]
      exact ⟨k4, k5⟩
    · have := Option.some.inj (hit.symm.trans t4)
      omega

/-! a text as it was read and as it is typed, the class alone -/
abbrev QPR : Type := Nat → Nat → Nat → Prop
/-- a SOURCE as it was read -/
def SRZ (PQ : QPR) (V : VT) (s lo hi oo : Nat) (cs0 : CS) : Prop := ((7, oo) ∈ kE cs0) ∧ (lo ≤ oo) ∧ (oo + 1 < hi) ∧ (kR cs0 235 oo = some (oo + 1)) ∧ (CLM (oo + 1) 0 cs0) ∧ (ROT V s (kI cs0 233 oo)) ∧ (kR cs0 225 oo = none ∨ ∃ oi lo', kR cs0 225 oo = some oi ∧ oo + 1 < lo' ∧ PQ lo' hi oi)
theorem SRZ.e {PQ : QPR} {V : VT} {s lo hi oo : Nat} {cs0 : CS} (h : SRZ PQ V s lo hi oo cs0) : (7, oo) ∈ kE cs0 := h.1
theorem SRZ.ol {PQ : QPR} {V : VT} {s lo hi oo : Nat} {cs0 : CS} (h : SRZ PQ V s lo hi oo cs0) : lo ≤ oo := h.2.1
theorem SRZ.oh {PQ : QPR} {V : VT} {s lo hi oo : Nat} {cs0 : CS} (h : SRZ PQ V s lo hi oo cs0) : oo + 1 < hi := h.2.2.1
theorem SRZ.r235 {PQ : QPR} {V : VT} {s lo hi oo : Nat} {cs0 : CS} (h : SRZ PQ V s lo hi oo cs0) : kR cs0 235 oo = some (oo + 1) := h.2.2.2.1
theorem SRZ.cm {PQ : QPR} {V : VT} {s lo hi oo : Nat} {cs0 : CS} (h : SRZ PQ V s lo hi oo cs0) : CLM (oo + 1) 0 cs0 := h.2.2.2.2.1
theorem SRZ.on {PQ : QPR} {V : VT} {s lo hi oo : Nat} {cs0 : CS} (h : SRZ PQ V s lo hi oo cs0) : ROT V s (kI cs0 233 oo) := h.2.2.2.2.2.1
theorem SRZ.kd {PQ : QPR} {V : VT} {s lo hi oo : Nat} {cs0 : CS} (h : SRZ PQ V s lo hi oo cs0) : kR cs0 225 oo = none ∨ ∃ oi lo', kR cs0 225 oo = some oi ∧ oo + 1 < lo' ∧ PQ lo' hi oi := h.2.2.2.2.2.2
/-- a SELECT as it was read -/
def SST (PQ : QPR) (V : VT) (c s lo hi so : Nat) (cs0 : CS) : Prop := ∃ (it gr mi ns mg : Nat) (b : Nat → Nat), SLK V c s lo hi so it gr mi ns mg cs0 ∧ (6, so) ∈ kE cs0 ∧ (227, so) ∈ kE cs0 ∧ (∃ j, kP cs0 195 so = some j) ∧ kL cs0 195 so = 3 ∧ 1 ≤ ns ∧ gr < b 0 ∧ (∀ i, i < ns → b i ≤ b (i + 1)) ∧ b ns ≤ hi ∧ ∀ i, i < ns → ∃ oo, kQ cs0 195 so i = some oo ∧ SRZ PQ V s (b i) (b (i + 1)) oo cs0
/-- a QUERY as it was read -/
def QST (V : VT) (c s : Nat) (cs0 : CS) : Nat → QPR
  | 0, _, _, _ => False
  | d + 1, lo, hi, oq => ∃ (L m it0 : Nat) (lb ub : Nat → Nat), lo ≤ oq ∧ oq < L ∧ L < hi ∧ (4, oq) ∈ kE cs0 ∧ kR cs0 128 oq = some L ∧ (0, L) ∈ kE cs0 ∧ (33, L) ∈ kE cs0 ∧ (∃ j, kP cs0 1 L = some j) ∧ kL cs0 1 L = 10 ∧ kI cs0 2 L = nI m ∧ 1 ≤ m ∧ m ≤ 3 ∧ kR cs0 129 oq = some it0 ∧ (∀ j, j < m → oq < lb j ∧ lb j < ub j ∧ ub j ≤ hi ∧ (ub j ≤ L ∨ L < lb j)) ∧ (∀ j, j + 1 < m → ub j ≤ lb (j + 1)) ∧ (∀ j, j < m → ∃ so, kQ cs0 1 L j = some so ∧ SST (QST V c s cs0 d) V c s (lb j) (ub j) so cs0 ∧ (j = 0 → kR cs0 194 so = some it0)) ∧ ∀ oc, kR cs0 130 oq = some oc → oq < oc ∧ oc < hi ∧ (∀ j, j < m → ub j ≤ oc) ∧ ∃ mo, CLM oc mo cs0 ∧ ROC V s oc mo cs0 ∧ ∀ y r a, y < mo → kA cs0 97 oc y = nI r → RTT V s r a → ∀ z, a ≤ z → z ≤ r → ¬ AGC (vk V z)
/-- the nodes of what lies in lo to hi - 1 -/
def NDO (V : VT) (s lo hi : Nat) (cs0 : CS) (z : Nat) : Prop := ∃ j ρ r a, lo ≤ j ∧ j < hi ∧ RFS cs0 j ρ r ∧ RTT V s r a ∧ a ≤ z ∧ z ≤ r
theorem NDO.mono {V : VT} {s lo hi lo' hi' z : Nat} {cs0 : CS} (h : NDO V s lo hi cs0 z) (h1 : lo' ≤ lo) (h2 : hi ≤ hi') : NDO V s lo' hi' cs0 z := by
  obtain ⟨j, ρ, r, a, q1, q2, q3⟩ := h
  exact ⟨j, ρ, r, a, by omega, by omega, q3⟩
theorem SCX.nd {V : VT} {t c s k K lo hi lo' hi' z : Nat} {cs0 : CS} (h : SCX V t c s k K cs0) (hK : K ≤ lo) (hK' : K ≤ lo') (hd : hi ≤ lo' ∨ hi' ≤ lo) (g : NDO V s lo hi cs0 z) (g' : NDO V s lo' hi' cs0 z) : False := by
  obtain ⟨j, ρ, r, a, q1, q2, q3, q4, q5, q6⟩ := g
  obtain ⟨j', ρ', r', a', p1, p2, p3, p4, p5, p6⟩ := g'
  exact h.dj (by omega) (by omega) q3 p3 (by omega) q4 p4 z q5 q6 ⟨p5, p6⟩
/-- one root against others -/
theorem SCX.n1 {V : VT} {t c s k K lo hi j ρ r a z : Nat} {cs0 : CS} (h : SCX V t c s k K cs0) (hK : K ≤ lo) (hj : K ≤ j) (g : RFS cs0 j ρ r) (rt : RTT V s r a) (z1 : a ≤ z) (z2 : z ≤ r) (out : j < lo ∨ hi ≤ j) : ¬ NDO V s lo hi cs0 z := fun ⟨j', ρ', r', a', p1, p2, p3, p4, p5, p6⟩ => h.dj hj (by omega) g p3 (by omega) rt p4 z z1 z2 ⟨p5, p6⟩
/-- a SOURCE, typed -/
def TSO (PQ : Nat → CS → Prop) (V : VT) (s c : Nat) (cs0 : CS) (so i oo : Nat) (cs : CS) : Prop := (0 < i → TRU V s c (some so) (nI (i + 1)) none (kI cs0 233 oo) cs) ∧ (kR cs0 225 oo = none → TYP (oo + 1) (fun _ => 1) cs) ∧ ∀ oi, kR cs0 225 oo = some oi → PQ oi cs ∧ ∀ it, kR cs0 129 oi = some it → TYP (oo + 1) (kA cs 100 it) cs
/-- a SELECT, typed -/
def TSE (PQ : Nat → CS → Prop) (V : VT) (s c : Nat) (cs0 : CS) (so : Nat) (cs : CS) : Prop := ∃ it gr mi ns mg, kR cs0 194 so = some it ∧ kR cs0 200 so = some gr ∧ CLM it mi cs0 ∧ CLM gr mg cs0 ∧ kI cs0 196 so = nI ns ∧ ns ≤ 3 ∧ TRU V s c (some so) (nI ns) none (kI cs0 197 so) cs ∧ COZ V s c cs0 (some so) (nI ns) none gr mg cs ∧ TRU V s c (some so) (nI ns) (gnm cs0 so gr) (kI cs0 201 so) cs ∧ COZ V s c cs0 (some so) (nI ns) (gnm cs0 so gr) it mi cs ∧ ∀ i, i < ns → ∃ oo, kQ cs0 195 so i = some oo ∧ TSO PQ V s c cs0 so i oo cs
/-- a QUERY, typed -/
def TQY (V : VT) (s c : Nat) (cs0 : CS) : Nat → Nat → CS → Prop
  | 0, _, _ => False
  | d + 1, oq, cs => ∃ L m it0 mi0, kR cs0 128 oq = some L ∧ kI cs0 2 L = nI m ∧ m ≤ 3 ∧ kR cs0 129 oq = some it0 ∧ CLM it0 mi0 cs0 ∧ (∀ j, j < m → ∃ so it, kQ cs0 1 L j = some so ∧ kR cs0 194 so = some it ∧ CLM it mi0 cs0 ∧ (∀ y, y < mi0 → kA cs 100 it y = kA cs 100 it0 y) ∧ TSE (TQY V s c cs0 d) V s c cs0 so cs) ∧ ∀ oc, kR cs0 130 oq = some oc → ∃ mo, CLM oc mo cs0 ∧ COZ V s c cs0 none 0 (some it0) oc mo cs
/-- what never changes while a text is checked -/
def STA (cs0 cs : CS) : Prop := ∀ x j, x = 195 ∨ x = 235 → AT cs0 cs x j
theorem STA.cf {t c k : Nat} {Ob Nd : Nat → Prop} {cs0 cs cs' : CS} (h : STA cs0 cs) (g : CFN t c k Ob Nd cs cs') : STA cs0 cs' := fun x j hx => (h x j hx).trans (g.2.2.1 x j (by omega) (by omega) (by omega) (fun w => by have := w.2; omega))
theorem TYP.cf {t c k cl : Nat} {P P' : Nat → Int32} {Ob Nd : Nat → Prop} {cs cs' : CS} (h : TYP cl P cs) (g : CFN t c k Ob Nd cs cs') (ht : t ≠ cl) (ho : ¬ Ob cl) (hp : ∀ y, y < 8 → nI y < kI cs 96 cl → P y = P' y) : TYP cl P' cs' := fun y y8 hy => by
  rw [(g.2.2.1 96 cl (by omega) (by omega) (by omega) (fun w => ho w.1)).i] at hy
  rw [(g.2.2.1 100 cl (by omega) (by omega) (by omega) (fun w => ho w.1)).a, h y y8 hy]
  exact hp y y8 hy
/-- a SOURCE behind another check -/
theorem TSO.keep {PQ : Nat → CS → Prop} {QP : QPR} {V : VT} {t c s k K lo hi so i oo : Nat} {Ob Nd : Nat → Prop} {cs0 cs cs' : CS} (h : TSO PQ V s c cs0 so i oo cs) (sx : SCX V t c s k K cs0) (hK : K ≤ lo) (sr : SRZ QP V s lo hi oo cs0) (g : CFN t c k Ob Nd cs cs') (hOb : ∀ j, lo ≤ j → j < hi → ¬ Ob j) (hNd : ∀ z, NDO V s lo hi cs0 z → ¬ Nd z) (hs : ∀ o i' oo', some so = some o → i' < 2147483648 → nI i' < nI (i + 1) → kQ cs 195 o i' = some oo' → ¬ Ob oo' ∧ ∀ cl, kR cs 235 oo' = some cl → ¬ Ob cl) (hP : ∀ oi, kR cs0 225 oo = some oi → PQ oi cs → PQ oi cs') (hit : ∀ oi it, kR cs0 225 oo = some oi → kR cs0 129 oi = some it → kA cs' 100 it = kA cs 100 it) : TSO PQ V s c cs0 so i oo cs' := by
  have ol := sr.ol
  have oh := sr.oh
  obtain ⟨tK, cK, -⟩ := sx.tc
  refine ⟨fun hi0 => (h.1 hi0).cf g (fun r a w rt z z1 z2 => hNd z ⟨oo, 2, r, a, by omega, by omega, ⟨by have := rt.2.1; have := sx.s1; omega, Or.inr (Or.inr (Or.inl ⟨rfl, (by rw [sr.r235]; exact fun q => nomatch q), w⟩))⟩, rt, z1, z2⟩) hs (fun n hn => by cases hn), fun h225 => (h.2.1 h225).cf g (by omega) (hOb _ (by omega) oh) (fun _ _ _ => rfl), fun oi hoi => ?_⟩
  obtain ⟨q1, q2⟩ := h.2.2 oi hoi
  exact ⟨hP oi hoi q1, fun it hit' => (q2 it hit').cf g (by omega) (hOb _ (by omega) oh) (fun y _ _ => by rw [hit oi it hoi hit'])⟩
/-- a SELECT behind another check -/
theorem TSE.keep {PQ : Nat → CS → Prop} {QP : QPR} {V : VT} {t c s k K lo hi so : Nat} {Ob Nd : Nat → Prop} {cs0 cs cs' : CS} (h : TSE PQ V s c cs0 so cs) (sx : SCX V t c s k K cs0) (hK : K ≤ lo) (ss : SST QP V c s lo hi so cs0) (sta : STA cs0 cs) (g : CFN t c k Ob Nd cs cs') (hOb : ∀ j, lo ≤ j → j < hi → ¬ Ob j) (hNd : ∀ z, NDO V s lo hi cs0 z → ¬ Nd z) (hP : ∀ lo' hi' oi, lo ≤ lo' → hi' ≤ hi → QP lo' hi' oi → PQ oi cs → PQ oi cs' ∧ ∀ it, kR cs0 129 oi = some it → lo ≤ it ∧ it < hi) : TSE PQ V s c cs0 so cs' := by
  obtain ⟨it, gr, mi, ns, mg, h1, h2, h3, h4, h5, h6, h7, h8, h9, h10, h11⟩ := h
  obtain ⟨it', gr', mi', ns', mg', b, sk, e6, e227, p195, l195, n1, b0, bm, bh, sr⟩ := ss
  obtain ⟨tK, cK, -⟩ := sx.tc
  have s1 := sx.s1
  have eit : it' = it := Option.some.inj (sk.r194.symm.trans h1)
  have egr : gr' = gr := Option.some.inj (sk.r200.symm.trans h2)
  have ens : ns' = ns := (nI_eq (by have := sk.n3; omega) (by omega)).mp (sk.i196.symm.trans h5)
  rw [eit, egr, ens] at sk
  rw [egr] at b0
  rw [ens] at bm bh sr n1
  have emi := sk.ci.same h3
  have emg := sk.cg.same h4
  rw [emi, emg] at sk
  obtain ⟨o1, o2, o3, o4⟩ := sk.od
  have bl : ∀ d i, i + d ≤ ns → b i ≤ b (i + d) := fun d => by
    induction d with
    | zero => intro i _; exact Nat.le_refl _
    | succ d ih =>
      intro i hi0
      have w1 := ih i (by omega)
      have w2 := bm (i + d) (by omega)
      exact Nat.le_trans w1 w2
  have rng : ∀ i, i < ns → b 0 ≤ b i ∧ b (i + 1) ≤ b ns := fun i hi0 => by
    have w1 := bl i 0 (by omega)
    have w2 := bl (ns - (i + 1)) (i + 1) (by omega)
    rw [Nat.zero_add] at w1
    rw [show i + 1 + (ns - (i + 1)) = ns by omega] at w2
    exact ⟨w1, w2⟩
  have hs : ∀ m, m ≤ ns → ∀ o i oo, some so = some o → i < 2147483648 → nI i < nI m → kQ cs 195 o i = some oo → ¬ Ob oo ∧ ∀ cl, kR cs 235 oo = some cl → ¬ Ob cl := fun m hm o i oo w1 w2 w3 w4 => by
    have im := (nI_ltI (a := i) (b := m) w2 (by omega)).mp w3
    rw [← Option.some.inj w1, (sta 195 so (Or.inl rfl)).q] at w4
    obtain ⟨oo', u1, u2⟩ := sr i (by omega)
    have eo : oo' = oo := Option.some.inj (u1.symm.trans w4)
    rw [eo] at u2
    obtain ⟨x1, x2⟩ := rng i (by omega)
    have ol := u2.ol
    have oh := u2.oh
    refine ⟨hOb oo (by omega) (by omega), fun cl hcl => ?_⟩
    rw [(sta 235 oo (Or.inr rfl)).r, u2.r235] at hcl
    rw [← Option.some.inj hcl]
    exact hOb _ (by omega) (by omega)
  have a100 : ∀ j, lo ≤ j → j < hi → AT cs cs' 100 j := fun j j1 j2 => g.2.2.1 100 j (by omega) (by omega) (by omega) (fun w => hOb j j1 j2 w.1)
  have gc : ∀ n, gnm cs0 so gr = some n → ¬ Ob n := fun n hn => by
    unfold gnm at hn
    by_cases w : kI cs0 198 so = 0 ∧ kI cs0 203 so ≤ 0
    · rw [if_pos w] at hn
      cases hn
    · rw [if_neg w] at hn
      rw [← Option.some.inj hn]
      exact hOb gr (by omega) (by omega)
  have dc : ∀ col m, lo ≤ col → col < hi → CLM col m cs0 → ∀ y r a, y < m → kA cs0 97 col y = nI r → RTT V s r a → ∀ z, a ≤ z → z ≤ r → ¬ Nd z := fun col m c1 c2 c3 y r a hy w rt z z1 z2 => hNd z ⟨col, y + 3, r, a, c1, c2, ⟨by have := rt.2.1; omega, Or.inr (Or.inr (Or.inr ⟨y, m, rfl, c3.sz, c3.m8, hy, w⟩))⟩, rt, z1, z2⟩
  have dw : ∀ r a, kI cs0 197 so = nI r → RTT V s r a → ∀ z, a ≤ z → z ≤ r → ¬ Nd z := fun r a w rt z z1 z2 => hNd z ⟨so, 0, r, a, by omega, by omega, rfs_w s1 sk.p2 w rt, rt, z1, z2⟩
  have dh : ∀ r a, kI cs0 201 so = nI r → RTT V s r a → ∀ z, a ≤ z → z ≤ r → ¬ Nd z := fun r a w rt z z1 z2 => hNd z ⟨so, 1, r, a, by omega, by omega, rfs_h s1 sk.p2 w rt, rt, z1, z2⟩
  refine ⟨it, gr, mi, ns, mg, h1, h2, h3, h4, h5, h6, h7.cf g dw (hs ns (Nat.le_refl _)) (fun n hn => by cases hn), h8.cf g (a100 gr (by omega) (by omega)) (dc gr mg (by omega) (by omega) h4) (hs ns (Nat.le_refl _)) (fun n hn => by cases hn), h9.cf g dh (hs ns (Nat.le_refl _)) gc, h10.cf g (a100 it (by omega) (by omega)) (dc it mi (by omega) (by omega) h3) (hs ns (Nat.le_refl _)) gc, fun i hi0 => ?_⟩
  obtain ⟨oo, u1, u2⟩ := h11 i hi0
  obtain ⟨oo', u3, u4⟩ := sr i hi0
  have eo : oo' = oo := Option.some.inj (u3.symm.trans u1)
  rw [eo] at u4
  obtain ⟨x1, x2⟩ := rng i hi0
  have ol := u4.ol
  have oh := u4.oh
  have inn : ∀ oi, kR cs0 225 oo = some oi → ∃ lo', oo + 1 < lo' ∧ QP lo' (b (i + 1)) oi := fun oi hoi => by
    rcases u4.kd with w | ⟨oi', lo', w1, w2, w3⟩
    · rw [hoi] at w
      cases w
    · rw [hoi] at w1
      rw [← Option.some.inj w1] at w3
      exact ⟨lo', w2, w3⟩
  refine ⟨oo, u1, u2.keep sx (lo := b i) (hi := b (i + 1)) (by omega) u4 g (fun j j1 j2 => hOb j (by omega) (by omega)) (fun z hz => hNd z (hz.mono (by omega) (by omega))) (hs (i + 1) (by omega)) (fun oi hoi w => ?_) (fun oi it2 hoi hit2 => ?_)⟩
  · obtain ⟨lo', w1, w2⟩ := inn oi hoi
    exact (hP lo' (b (i + 1)) oi (by omega) (by omega) w2 w).1
  · obtain ⟨lo', w1, w2⟩ := inn oi hoi
    obtain ⟨y1, y2⟩ := (hP lo' (b (i + 1)) oi (by omega) (by omega) w2 (u2.2.2 oi hoi).1).2 it2 hit2
    exact (a100 it2 y1 y2).a
/-- a QUERY's items lie in it -/
theorem QST.it {V : VT} {c s : Nat} {cs0 : CS} : ∀ (d lo hi oq it : Nat), QST V c s cs0 d lo hi oq → kR cs0 129 oq = some it → lo ≤ it ∧ it < hi
  | 0, _, _, _, _, h, _ => h.elim
  | d + 1, lo, hi, oq, it, h, hit => by
    obtain ⟨L, m, it0, lb, ub, q1, q2, q3, q4, q5, q6, q7, q8, q9, q10, q11, q12, q13, q14, q15, q16, q17⟩ := h
    obtain ⟨so, w1, ⟨it', gr, mi, ns, mg, b, sk, -⟩, w3⟩ := q16 0 (by omega)
    have e1 : it0 = it := Option.some.inj (q13.symm.trans hit)
    have e2 : it' = it0 := Option.some.inj (sk.r194.symm.trans (w3 rfl))
    have od := sk.od
    have q := q14 0 (by omega)
    omega
/-- a QUERY behind another check -/
theorem TQY.keep {V : VT} {t c s k K : Nat} {Ob Nd : Nat → Prop} {cs0 cs cs' : CS} (sx : SCX V t c s k K cs0) (sta : STA cs0 cs) (g : CFN t c k Ob Nd cs cs') : ∀ (d lo hi oq : Nat), K ≤ lo → QST V c s cs0 d lo hi oq → (∀ j, lo ≤ j → j < hi → ¬ Ob j) → (∀ z, NDO V s lo hi cs0 z → ¬ Nd z) → TQY V s c cs0 d oq cs → TQY V s c cs0 d oq cs'
  | 0, _, _, _, _, h, _, _, _ => h.elim
  | d + 1, lo, hi, oq, hK, q, hOb, hNd, h => by
    have qs := q
    obtain ⟨L', m', it0', lb, ub, q1, q2, q3, q4, q5, q6, q7, q8, q9, q10, q11, q12, q13, q14, q15, q16, q17⟩ := q
    obtain ⟨L, m, it0, mi0, h1, h2, h3, h4, h5, h6, h7⟩ := h
    obtain ⟨tK, cK, -⟩ := sx.tc
    have eL : L' = L := Option.some.inj (q5.symm.trans h1)
    rw [eL] at q10 q16
    have em : m' = m := (nI_eq (by omega) (by omega)).mp (q10.symm.trans h2)
    have ei : it0' = it0 := Option.some.inj (q13.symm.trans h4)
    rw [em] at q14 q15 q16 q17
    obtain ⟨i1, i2⟩ := QST.it (d + 1) lo hi oq it0 qs h4
    have a100 : ∀ j, lo ≤ j → j < hi → AT cs cs' 100 j := fun j j1 j2 => g.2.2.1 100 j (by omega) (by omega) (by omega) (fun w => hOb j j1 j2 w.1)
    refine ⟨L, m, it0, mi0, h1, h2, h3, h4, h5, fun j hj => ?_, fun oc hoc => ?_⟩
    · obtain ⟨so, it, w1, w2, w3, w4, w5⟩ := h6 j hj
      obtain ⟨so', u1, u2, u3⟩ := q16 j hj
      have eo : so' = so := Option.some.inj (u1.symm.trans w1)
      rw [eo] at u2
      obtain ⟨b1, b2, b3, b4⟩ := q14 j hj
      have itr : lb j ≤ it ∧ it < ub j := by
        obtain ⟨it', gr, mi, ns, mg, b, sk, -⟩ := u2
        have e2 : it' = it := Option.some.inj (sk.r194.symm.trans w2)
        have od := sk.od
        omega
      refine ⟨so, it, w1, w2, w3, fun y hy => ?_, w5.keep sx (by omega) u2 sta g (fun i i1 i2 => hOb i (by omega) (by omega)) (fun z hz => hNd z (hz.mono (by omega) b3)) (fun lo' hi' oi x1 x2 x3 x4 => ⟨TQY.keep sx sta g d lo' hi' oi (by omega) x3 (fun i i1 i2 => hOb i (by omega) (by omega)) (fun z hz => hNd z (hz.mono (by omega) (by omega))) x4, fun it' hit' => by
          have := QST.it d lo' hi' oi it' x3 hit'
          omega⟩)⟩
      rw [(a100 it (by omega) (by omega)).a, (a100 it0 i1 i2).a]
      exact w4 y hy
    · obtain ⟨mo, w1, w2⟩ := h7 oc hoc
      obtain ⟨v1, v2, v4, mo', v5, v6, v7⟩ := q17 oc hoc
      have e2 := v5.same w1
      rw [e2] at v5 v6
      refine ⟨mo, w1, w2.cf g (a100 oc (by omega) v2) (fun y r a hy w rt z z1 z2 => hNd z ⟨oc, y + 3, r, a, by omega, v2, ⟨by have := rt.2.1; have := sx.s1; omega, Or.inr (Or.inr (Or.inr ⟨y, mo, rfl, w1.sz, w1.m8, hy, w⟩))⟩, rt, z1, z2⟩) (fun o _ _ w => by cases w) (fun n hn => by
        rw [← Option.some.inj hn]
        exact hOb it0 i1 i2)⟩

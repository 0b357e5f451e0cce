/-! a QUERY that was checked, the class alone -/
theorem agv_eq {v w : Nat → Int32} {r a : Nat} : ∀ (n : Nat), (∀ z, a ≤ z → z < a + n → v z = w z) → agv v r a n = agv w r a n
  | 0, _ => rfl
  | n + 1, h => by
    have e := agv_eq (r := r) n (fun z z1 z2 => h z z1 (by omega))
    have e1 := h (a + n) (by omega) (by omega)
    show (if v (a + n) ≤ nI (a + n) then agv v r a n else if nI r < v (a + n) then agv v r a n else v (a + n)) = if w (a + n) ≤ nI (a + n) then agv w r a n else if nI r < w (a + n) then agv w r a n else w (a + n)
    rw [e, e1]
theorem agv_no {V : VT} {s r a y : Nat} (sk : SKV V s) (hs : s ≤ 120) (hr : r < s) (ya : a ≤ y) (hy : y ≤ r) (no : ∀ z, a ≤ z → z ≤ r → ¬ AGC (vk V z)) : ¬ nI y < agv (vs V) r a (y + 1 - a) := agv_out sk hs hr ya hy (fun q fq q1 q2 q3 _ _ => absurd q3 (no q (by omega) q2))
theorem WTR.no {c a r n : Nat} {so : Option Nat} {sn : Int32} {cs : CS} (h : WTR c a r so sn (some n) cs) (hn : ∀ y, a ≤ y → y ≤ r → ¬ nI y < agv (kA cs 71 c) r a (y + 1 - a)) : WTR c a r none 0 (some n) cs := fun y y1 y2 => ⟨fun hk => ⟨fun w => by
    rcases w with w | w
    · cases w
    · exact absurd w (hn y y1 y2), ((h y y1 y2).1 hk).2⟩, (h y y1 y2).2⟩
theorem set_A {t c cap s k : Nat} {F oq so it0 it m m' : Nat} {cs cs9 : CS} (hF : 10000 ≤ F) (h : CK t c cap s k cs) (tit : t ≠ it0 ∧ t ≠ it) (c0 : CLM it0 m cs) (c1 : CLM it m' cs) (r129 : kR cs 129 oq = some it0) (r194 : kR cs 194 so = some it) (g : c_X0_checkSet F cs k oq so = some cs9) : NFR t c (fun _ => False) cs cs9 ∧ (kI cs9 320 t = 0 → m = m' ∧ ∀ z, z < m → kA cs9 100 it z = kA cs9 100 it0 z) := by
  have b21 : ∀ c2, NFR t c (fun _ => False) cs c2 → c_X0_checkSet_b21 F c2 k oq so = some cs9 → NFR t c (fun _ => False) cs cs9 ∧ (kI cs9 320 t = 0 → m = m' ∧ ∀ z, z < m → kA cs9 100 it z = kA cs9 100 it0 z) := fun c2 n2 g => by
    have h2 := n2.ck h
    have em : EM cs c2 := EM.of (congrArg (fun z => z.2.2) n2.1)
    have a : ∀ x j, x ≠ 72 → x ≠ 73 → x ≠ 320 → x ≠ 321 → AT cs c2 x j := fun x j _ _ _ _ => n2.2.2.1 x j (by omega) (by omega)
    have d0 := c0.keep em (fun x x1 x2 => a x it0 (by omega) (by omega) (by omega) (by omega))
    have d1 := c1.keep em (fun x x1 x2 => a x it (by omega) (by omega) (by omega) (by omega))
    unfold c_X0_checkSet_b21 c_X0_checkSet_b48 at g
    replace g := ob g; obtain ⟨v1, g1, g⟩ := g
    replace g := ob g; obtain ⟨v2, g2, g⟩ := g
    replace g := ob g; obtain ⟨i3, g3, g⟩ := g
    replace g := ob g; obtain ⟨i5, g5, g⟩ := g
    replace g := ob g; obtain ⟨w6, g6, g⟩ := g
    replace g := ob g; obtain ⟨v4, g4, g⟩ := g
    have e3 : i3 = it := by
      have w := (gR_some g2).2
      rw [g3, (a 194 so (by decide) (by decide) (by decide) (by decide)).r, r194] at w
      exact (Option.some.inj w).symm
    have e5 : i5 = it0 := by
      have w := (gR_some g1).2
      rw [g5, (a 129 oq (by decide) (by decide) (by decide) (by decide)).r, r129] at w
      exact (Option.some.inj w).symm
    rw [e3, e5] at g4
    obtain ⟨v, s1, s2⟩ := same_ok hF d0 d1
    have ev : v4 = v := Option.some.inj (g4.symm.trans s1)
    rw [ev] at g
    rcases s2 with ⟨s2, s3⟩ | ⟨s2, s3, s4⟩
    · replace g := (if_pos s2).symm.trans g
      replace g := ob g; obtain ⟨v8, g8, g⟩ := g
      replace g := ob g; obtain ⟨v9, g9, g⟩ := g
      replace g := ob g; obtain ⟨i11, g11, g⟩ := g
      replace g := ob g; obtain ⟨w12, g12, g⟩ := g
      replace g := ob g; obtain ⟨c10, g10, g⟩ := g
      have r8 := (gR_some g8).2
      rw [g11] at r8
      have et := Option.some.inj (r8.symm.trans h2.r32)
      rw [← Option.some.inj g]
      refine ⟨n2.trans (ref_N et g10), fun f => ?_⟩
      rw [et] at g10
      exact absurd f (ref_x (by decide) g10).1
    · replace g := (if_neg (by rw [s2]; decide)).symm.trans g
      rw [← Option.some.inj g]
      exact ⟨n2, fun _ => ⟨s3, fun z hz => (s4 z hz).symm⟩⟩
  unfold c_X0_checkSet at g
  replace g := ob g; obtain ⟨v1, g1, g⟩ := g
  by_cases q : v1 = 11
  · exact b21 cs NFR.refl ((if_pos q).symm.trans g)
  · replace g := (if_neg q).symm.trans g
    replace g := ob g; obtain ⟨v2, g2, g⟩ := g
    replace g := ob g; obtain ⟨v3, g3, g⟩ := g
    replace g := ob g; obtain ⟨w4, g4, g⟩ := g
    replace g := ob g; obtain ⟨c5, g5, g⟩ := g
    exact b21 c5 (bound_F h g5) g
/-- the ORDER BY of a QUERY -/
theorem ord_A {t c cap s k : Nat} {F K lo hi oq oc mo it0 so ns : Nat} {V : VT} {cs0 cs cs9 : CS} (hF : 10000 ≤ F) (hFF : F < 1000000) (sk : SKV V s) (sx : SCX V t c s k K cs0) (hK : K ≤ lo) (kh : hi ≤ k) (o1 : lo ≤ oc ∧ oc < hi) (i1 : lo ≤ it0 ∧ it0 < hi ∧ it0 ≠ oc) (cm0 : CLM oc mo cs0) (ro : ROC V s oc mo cs0) (no : ∀ y r a, y < mo → kA cs0 97 oc y = nI r → RTT V s r a → ∀ z, a ≤ z → z ≤ r → ¬ AGC (vk V z)) (h : CK t c cap s k cs) (e0 : EM cs0 cs) (ac : ∀ x, AT cs0 cs x c ∨ x = 72 ∨ x = 73) (ao : ∀ x, 38 ≤ x → AT cs0 cs x oc) (r129 : kR cs 129 oq = some it0) (r35 : kR cs 35 k = some so) (r36 : kI cs 36 k = nI ns) (hsrc : ∀ i oo cl, i < 2147483648 → nI i < nI ns → kQ cs 195 so i = some oo → kR cs 235 oo = some cl → cl ≠ oc) (g : c_X0_checkOrder F cs k oq oc = some cs9) : CFN t c k (fun j => j = oc) (NDO V s oc (oc + 1) cs0) cs cs9 ∧ (kI cs9 320 t = 0 → COZ V s c cs0 none 0 (some it0) oc mo cs9) := by
  obtain ⟨tK, cK, tc, tk, ck'⟩ := sx.tc
  have s1 := sx.s1
  have cw := cw_at sx.cw (fun x x1 x2 => (ac x).elim id (fun w => by omega))
  unfold c_X0_checkOrder at g
  replace g := ob g; obtain ⟨v1, g1, g⟩ := g
  replace g := ob g; obtain ⟨v2, g2, g⟩ := g
  replace g := ob g; obtain ⟨w3, g3, g⟩ := g
  replace g := ob g; obtain ⟨c4, g4, g⟩ := g
  replace g := ob g; obtain ⟨v5, g5, g⟩ := g
  replace g := ob g; obtain ⟨c6, g6, g⟩ := g
  replace g := ob g; obtain ⟨w7, g7, g⟩ := g
  replace g := ob g; obtain ⟨c8, g8, g⟩ := g
  have n4 := bound_F h g4
  have a4 : ∀ x j, x ≠ 72 → x ≠ 73 → x ≠ 320 → x ≠ 321 → AT cs c4 x j := fun x j _ _ _ _ => n4.2.2.1 x j (by omega) (by omega)
  have ev : v5 = some it0 := (gR_some g5).2.symm.trans ((a4 129 oq (by decide) (by decide) (by decide) (by decide)).r.trans r129)
  rw [ev] at g6
  obtain ⟨-, e6⟩ := pR_some g6
  have f6 : CFN t c k (fun j => j = oc) (NDO V s oc (oc + 1) cs0) cs c6 := by
    refine (n4.cf.mono (fun _ w => w) (fun _ w => w.elim)).trans ?_
    rw [← e6]
    exact cfn_R (by omega)
  have a6 : ∀ x j, x ≠ 72 → x ≠ 73 → x ≠ 320 → x ≠ 321 → ¬ (x = 37 ∧ j = k) → AT cs c6 x j := fun x j q1 q2 q3 q4 q5 => (a4 x j q1 q2 q3 q4).trans (by rw [← e6]; exact AT.sR q5)
  have h6 := f6.ck h
  have k35 : kR c6 35 k = some so := by rw [(a6 35 k (by decide) (by decide) (by decide) (by decide) (by omega)).r]; exact r35
  have k36 : kI c6 36 k = nI ns := by rw [(a6 36 k (by decide) (by decide) (by decide) (by decide) (by omega)).i]; exact r36
  have k37 : kR c6 37 k = some it0 := by rw [← e6]; exact kR_s
  have ao6 : ∀ x, 38 ≤ x → x ≠ 72 → x ≠ 73 → x ≠ 320 → x ≠ 321 → AT cs0 c6 x oc := fun x x1 q1 q2 q3 q4 => (ao x x1).trans (a6 x oc q1 q2 q3 q4 (by omega))
  have p6 : CPR0 V t c cap s k oc mo (cr cs0 oc) (ca V cs0 oc) c6 := by
    refine ⟨h6, cm0.keep (e0.trans f6.em) (fun x x1 x2 => ao6 x (by omega) (by omega) (by omega) (by omega) (by omega)), fun n hn => ?_, f6.cw cw, fun y hy => (ro.at' s1 hy).2, fun y hy => ?_, ?_⟩
    · rw [k37] at hn
      rw [← Option.some.inj hn]
      omega
    · rw [(ao6 97 (by decide) (by decide) (by decide) (by decide) (by decide)).a]
      exact (ro.at' s1 hy).1
    · rw [k35, k36, k37]
      refine ⟨fun o i oo cl w1 w2 w3 w4 w5 => ?_, fun n hn => ?_⟩
      · rw [← Option.some.inj w1, (a6 195 so (by decide) (by decide) (by decide) (by decide) (by omega)).q] at w4
        rw [(a6 235 oo (by decide) (by decide) (by decide) (by decide) (by omega)).r] at w5
        exact hsrc i oo cl w2 w3 w4 w5
      · rw [← Option.some.inj hn]
        exact i1.2.2
  have dj : ∀ y y', y < mo → y' < mo → y ≠ y' → DJ2 (ca V cs0 oc y) (cr cs0 oc y) (ca V cs0 oc y') (cr cs0 oc y') := fun y y' hy hy' ne => sx.dj (by omega) (by omega) (rfs_c s1 cm0 ro hy) (rfs_c s1 cm0 ro hy') (by omega) (ro.at' s1 hy).2 (ro.at' s1 hy').2
  obtain ⟨f8, t8⟩ := colz_A hF hFF ck' (show c ≠ oc by omega) (show t ≠ oc by omega) dj p6 g8
  rw [← Option.some.inj g]
  refine ⟨f6.trans ((f8.cf (k := k) (Ob := fun j => j = oc) rfl).mono (fun _ w => w) (fun z w => ?_)), fun f9 y r a hy w rt => ?_⟩
  · obtain ⟨y, hy, w1, w2⟩ := w
    exact ⟨oc, y + 3, _, _, Nat.le_refl _, Nat.lt_succ_self _, rfs_c s1 cm0 ro hy, (ro.at' s1 hy).2, w1, w2⟩
  · obtain ⟨u1, u2⟩ := ro.eq s1 hy w rt
    obtain ⟨x1, x2⟩ := t8 f9 y hy
    rw [u1, u2, k35, k36, k37] at x1
    rw [u1] at x2
    refine ⟨x1.no (fun z z1 z2 => ?_), x2⟩
    have cw8 := f8.cw (f6.cw cw)
    have rs := rt.2.1
    rw [agv_eq (w := vs V) (z + 1 - a) (fun q q1 q2 => (CW.e (cw8 q (by omega))).2.2.2)]
    exact agv_no sk s1 rs z1 z2 (no y r a hy w rt)

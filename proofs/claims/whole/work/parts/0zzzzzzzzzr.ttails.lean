/-! a SELECT behind its SOURCES, all of it, the class alone -/
def VRG (V : VT) (s : Nat) (v : Int32) (z : Nat) : Prop := ∃ r a, v = nI r ∧ RTT V s r a ∧ a ≤ z ∧ z ≤ r
def TND (V : VT) (s so it gr mi mg : Nat) (cs0 : CS) (z : Nat) : Prop := VRG V s (kI cs0 197 so) z ∨ CRG mg (cr cs0 gr) (ca V cs0 gr) z ∨ VRG V s (kI cs0 201 so) z ∨ CRG mi (cr cs0 it) (ca V cs0 it) z
theorem rfs_c {V : VT} {s col m y : Nat} {cs : CS} (s1 : s ≤ 120) (cm : CLM col m cs) (ro : ROC V s col m cs) (hy : y < m) : RFS cs col (y + 3) (cr cs col y) := by
  obtain ⟨q1, q2⟩ := ro.at' s1 hy
  have := q2.2.1
  exact ⟨by omega, Or.inr (Or.inr (Or.inr ⟨y, m, rfl, cm.sz, cm.m8, hy, q1⟩))⟩
theorem rfs_w {V : VT} {s so r a : Nat} {cs : CS} (s1 : s ≤ 120) (p2 : kP cs 202 so ≠ none) (e : kI cs 197 so = nI r) (rt : RTT V s r a) : RFS cs so 0 r := ⟨by have := rt.2.1; omega, Or.inl ⟨rfl, p2, e⟩⟩
theorem rfs_h {V : VT} {s so r a : Nat} {cs : CS} (s1 : s ≤ 120) (p2 : kP cs 202 so ≠ none) (e : kI cs 201 so = nI r) (rt : RTT V s r a) : RFS cs so 1 r := ⟨by have := rt.2.1; omega, Or.inr (Or.inl ⟨rfl, p2, e⟩)⟩
theorem cw_at {V : VT} {c s : Nat} {a d : CS} (cw : ∀ z, z < s → CW c a z = (V z).1) (g : ∀ x, 65 ≤ x → x ≤ 71 → AT a d x c) : ∀ z, z < s → CW c d z = (V z).1 := fun z hz => by
  have q := cw z hz
  unfold CW at q ⊢
  rw [(g 65 (by omega) (by omega)).a, (g 67 (by omega) (by omega)).a, (g 68 (by omega) (by omega)).a, (g 66 (by omega) (by omega)).a, (g 69 (by omega) (by omega)).b, (g 71 (by omega) (by omega)).a, (g 70 (by omega) (by omega)).b]
  exact q
theorem tail_A {t c cap s k : Nat} {F K lo hi so it gr mi ns mg : Nat} {V : VT} {T : TC_X0_checkQuery} {cs0 cs cs9 : CS} (hF : 10000 ≤ F) (hFF : F < 1000000) (sx : SCX V t c s k K cs0) (hK : K ≤ lo) (kh : hi ≤ k) (sk : SLK V c s lo hi so it gr mi ns mg cs0) (h : CK t c cap s k cs) (e0 : EM cs0 cs) (A : ∀ x j, j = so ∨ j = it ∨ j = gr → 38 ≤ x → x ≠ 206 → AT cs0 cs x j) (aw : ∀ x, AT cs0 cs x c ∨ x = 72 ∨ x = 73) (hsrc : ∀ i oo, i < 2147483648 → nI i < nI ns → kQ cs 195 so i = some oo → gr < oo ∧ ∀ cl, kR cs 235 oo = some cl → gr < cl) (g : c_X0_checkSelect_b38 F T cs k so = some cs9) : CFN t c k (fun j => j = it ∨ j = gr) (TND V s so it gr mi mg cs0) cs cs9 ∧ (kR cs9 35 k = some so ∧ kI cs9 36 k = nI ns ∧ ∀ x, 38 ≤ x → x ≠ 100 → AT cs cs9 x it) ∧ (kI cs9 320 t = 0 → TRU V s c (some so) (nI ns) none (kI cs0 197 so) cs9 ∧ COZ V s c cs0 (some so) (nI ns) none gr mg cs9 ∧ TRU V s c (some so) (nI ns) (gnm cs0 so gr) (kI cs0 201 so) cs9 ∧ COZ V s c cs0 (some so) (nI ns) (gnm cs0 so gr) it mi cs9) := by
  have s1 := sx.s1
  have ac : ∀ x, x ≠ 72 → x ≠ 73 → AT cs0 cs x c := fun x h1 h2 => (aw x).elim id (fun w => by omega)
  have cw := cw_at sx.cw (fun x x1 x2 => ac x (by omega) (by omega))
  obtain ⟨tK, cK, tc, tk, ck'⟩ := sx.tc
  obtain ⟨o1, o2, o3, o4⟩ := sk.od
  obtain ⟨W, hW⟩ : ∃ W : Nat → Prop, W = VRG V s (kI cs0 197 so) := ⟨_, rfl⟩
  obtain ⟨G, hG⟩ : ∃ W : Nat → Prop, W = CRG mg (cr cs0 gr) (ca V cs0 gr) := ⟨_, rfl⟩
  obtain ⟨H, hH⟩ : ∃ W : Nat → Prop, W = VRG V s (kI cs0 201 so) := ⟨_, rfl⟩
  obtain ⟨I, hI⟩ : ∃ W : Nat → Prop, W = CRG mi (cr cs0 it) (ca V cs0 it) := ⟨_, rfl⟩
  unfold c_X0_checkSelect_b38 at g
  replace g := ob g; obtain ⟨c1, g1, g⟩ := g
  replace g := ob g; obtain ⟨v2, g2, g⟩ := g
  replace g := ob g; obtain ⟨c2, g2', g⟩ := g
  replace g := ob g; obtain ⟨c3, g3, g⟩ := g
  replace g := ob g; obtain ⟨v4, g4, g⟩ := g
  replace g := ob g; obtain ⟨w5, g5, g⟩ := g
  replace g := ob g; obtain ⟨c6, g6, g⟩ := g
  replace g := ob g; obtain ⟨w7, g7, g⟩ := g
  replace g := ob g; obtain ⟨c8, g8, g⟩ := g
  replace g := ob g; obtain ⟨w9, g9, g⟩ := g
  replace g := ob g; obtain ⟨v10, g10, g⟩ := g
  obtain ⟨-, e1⟩ := pR_some g1
  obtain ⟨-, e2⟩ := pI_some g2'
  obtain ⟨-, e3⟩ := pR_some g3
  -- the checker's own fields
  have f3 : ∀ Ob Nd, CFN t c k Ob Nd cs c3 := fun Ob Nd => by
    rw [← e3, ← e2, ← e1]
    exact ((cfn_R (by omega)).trans (cfn_I (by omega))).trans (cfn_R (by omega))
  have A3 : ∀ x j, j ≠ k → AT cs c3 x j := fun x j hj => by
    rw [← e3, ← e2, ← e1]
    exact ((AT.sR (by omega)).trans (AT.sI (by omega))).trans (AT.sR (by omega))
  have v2e : v2 = nI ns := by
    have w := (gI_some g2).2
    rw [← e1] at w
    exact w.symm.trans ((A 196 so (Or.inl rfl) (by decide) (by decide)).i.trans sk.i196)
  have r35 : kR c3 35 k = some so := by
    rw [← e3, kR_n (by omega), ← e2, ← e1]
    exact kR_s
  have r36 : kI c3 36 k = nI ns := by
    rw [← e3, ← e2]
    exact kI_s.trans v2e
  have r37 : kR c3 37 k = none := by rw [← e3]; exact kR_s
  have h3 : CK t c cap s k c3 := (f3 (fun _ => False) (fun _ => False)).ck h
  have cw3 := (f3 (fun _ => False) (fun _ => False)).cw cw
  have v4e : v4 = kI cs0 197 so := (gI_some g4).2.symm.trans ((A3 197 so (by omega)).i.trans (A 197 so (Or.inl rfl) (by decide) (by decide)).i)
  rw [v4e] at g6
  -- where
  obtain ⟨n6, t6⟩ := tru_A hF hFF h3 ck' (fun n hn => by rw [r37] at hn; cases hn) sk.wh cw3 g6
  rw [r35, r36, r37] at t6
  have n6' : NFR t c W c3 c6 := by rw [hW]; exact n6
  have h6 := n6.ck h3
  have cw6 := (n6.cf (k := k) (Ob := fun _ => False)).cw cw3
  have A6 : ∀ x j, x ≠ 72 → x ≠ 73 → x ≠ 320 → x ≠ 321 → j ≠ k → AT cs c6 x j := fun x j q1 q2 q3 q4 q5 => (A3 x j q5).trans (n6.2.2.1 x j (by omega) (by omega))
  have B6 : ∀ x j, j = so ∨ j = it ∨ j = gr → 38 ≤ x → x ≠ 206 → AT cs0 c6 x j := fun x j hj x1 x2 => (A x j hj x1 x2).trans ((A3 x j (by omega)).trans (n6.2.2.1 x j (by omega) (by omega)))
  have k6 : ∀ x, x ≠ 72 → x ≠ 73 → x ≠ 320 → x ≠ 321 → AT c3 c6 x k := fun x q1 q2 q3 q4 => n6.2.2.1 x k (by omega) (by omega)
  have em : ∀ {a d : CS}, d.1 = a.1 → EM a d := fun e => EM.of (congrArg (fun z => z.2.2) e)
  have c1e : c6.1 = cs.1 := n6.1.trans (f3 (fun _ => False) (fun _ => False)).1
  have src6 : ∀ (d : CS), (∀ x j, x = 195 ∨ x = 235 → AT cs d x j) → ∀ o i oo, some so = some o → i < 2147483648 → nI i < nI ns → kQ d 195 o i = some oo → gr < oo ∧ ∀ cl, kR d 235 oo = some cl → gr < cl := fun d hd o i oo ho hi1 hi2 hq => by
    rw [← Option.some.inj ho, (hd 195 so (Or.inl rfl)).q] at hq
    obtain ⟨q1, q2⟩ := hsrc i oo hi1 hi2 hq
    exact ⟨q1, fun cl hcl => q2 cl (by rw [← (hd 235 oo (Or.inr rfl)).r]; exact hcl)⟩
  have D6 : ∀ x j, x = 195 ∨ x = 235 → AT cs c6 x j := fun x j hx => by
    by_cases w : j = k
    · rw [w]
      refine AT.trans ?_ (k6 x (by omega) (by omega) (by omega) (by omega))
      rw [← e3, ← e2, ← e1]
      exact ((AT.sR (by omega)).trans (AT.sI (by omega))).trans (AT.sR (by omega))
    · exact A6 x j (by omega) (by omega) (by omega) (by omega) w
  -- groups
  have e06 : EM cs0 c6 := e0.trans (em c1e)
  have p6 : CPR0 V t c cap s k gr mg (cr cs0 gr) (ca V cs0 gr) c6 := by
    refine ⟨h6, sk.cg.keep e06 (fun x x1 x2 => B6 x gr (Or.inr (Or.inr rfl)) (by omega) (by omega)), fun n hn => ?_, cw6, fun y hy => (sk.gs.at' s1 hy).2, fun y hy => ?_, ?_⟩
    · rw [(k6 37 (by decide) (by decide) (by decide) (by decide)).r, r37] at hn
      cases hn
    · rw [(B6 97 gr (Or.inr (Or.inr rfl)) (by decide) (by decide)).a]
      exact (sk.gs.at' s1 hy).1
    · rw [(k6 35 (by decide) (by decide) (by decide) (by decide)).r, (k6 36 (by decide) (by decide) (by decide) (by decide)).i, (k6 37 (by decide) (by decide) (by decide) (by decide)).r, r35, r36, r37]
      refine ⟨fun o i oo cl w1 w2 w3 w4 w5 => ?_, fun n hn => by cases hn⟩
      have := (src6 c6 D6 o i oo w1 w2 w3 w4).2 cl w5
      omega
  have na6 : NOA c so c6 := (sk.na.at' (A 203 so (Or.inl rfl) (by decide) (by decide)) (A 202 so (Or.inl rfl) (by decide) (by decide)) (ac 65 (by decide) (by decide))).at' (A6 203 so (by decide) (by decide) (by decide) (by decide) (by omega)) (A6 202 so (by decide) (by decide) (by decide) (by decide) (by omega)) (A6 65 c (by decide) (by decide) (by decide) (by decide) (by omega))
  have djg : ∀ y y', y < mg → y' < mg → y ≠ y' → DJ2 (ca V cs0 gr y) (cr cs0 gr y) (ca V cs0 gr y') (cr cs0 gr y') := fun y y' hy hy' ne => sx.dj (by omega) (by omega) (rfs_c s1 sk.cg sk.gs hy) (rfs_c s1 sk.cg sk.gs hy') (by omega) (sk.gs.at' s1 hy).2 (sk.gs.at' s1 hy').2
  have dji : ∀ y y', y < mi → y' < mi → y ≠ y' → DJ2 (ca V cs0 it y) (cr cs0 it y) (ca V cs0 it y') (cr cs0 it y') := fun y y' hy hy' ne => sx.dj (by omega) (by omega) (rfs_c s1 sk.ci sk.is hy) (rfs_c s1 sk.ci sk.is hy') (by omega) (sk.is.at' s1 hy).2 (sk.is.at' s1 hy').2
  have r200 : kR c6 200 so = some gr := by rw [(B6 200 so (Or.inl rfl) (by decide) (by decide)).r]; exact sk.r200
  obtain ⟨⟨f8, x8⟩, t8⟩ := grps_A (kd := k) hF hFF ck' (show c ≠ gr by omega) (show t ≠ gr by omega) djg p6 na6 r200 g8
  obtain ⟨⟨f8', -⟩, -⟩ := grps_A (kd := k + 1) hF hFF ck' (show c ≠ gr by omega) (show t ≠ gr by omega) djg p6 na6 r200 g8
  rw [(k6 35 (by decide) (by decide) (by decide) (by decide)).r, (k6 36 (by decide) (by decide) (by decide) (by decide)).i, (k6 37 (by decide) (by decide) (by decide) (by decide)).r, r35, r36, r37] at t8
  have h8 := f8.ck h6
  have cw8 := f8.cw cw6
  have k8 : ∀ x, 35 ≤ x → x ≤ 37 → AT c6 c8 x k := fun x x1 x2 => f8'.2.2.1 x k (by omega) (by omega) (by omega) (by omega)
  have A8 : ∀ x j, x ≠ 72 → x ≠ 73 → x ≠ 320 → x ≠ 321 → ¬ (35 ≤ x ∧ x ≤ 37) → j ≠ gr → AT c6 c8 x j := fun x j q1 q2 q3 q4 q5 q6 => f8.2.2.1 x j (by omega) (by omega) (by omega) (fun w => q6 w.1)
  have A8' : ∀ x j, x = 195 ∨ x = 235 → AT c6 c8 x j := fun x j hx => f8.2.2.1 x j (by omega) (by omega) (by omega) (fun w => by have := w.2; omega)
  have D8 : ∀ x j, x = 195 ∨ x = 235 → AT cs c8 x j := fun x j hx => (D6 x j hx).trans (A8' x j (by omega))
  -- the names
  have eg : gnm c8 so gr = gnm cs0 so gr := by
    unfold gnm
    rw [(A8 198 so (by decide) (by decide) (by decide) (by decide) (by decide) (by omega)).i, (A8 203 so (by decide) (by decide) (by decide) (by decide) (by decide) (by omega)).i, (B6 198 so (Or.inl rfl) (by decide) (by decide)).i, (B6 203 so (Or.inl rfl) (by decide) (by decide)).i]
  obtain ⟨z0, z1⟩ := isg_x (gr := gr) g10
  rw [eg] at z0 z1
  obtain ⟨c10, f10, A10, r10, g⟩ : ∃ c10, (∀ Ob Nd, CFN t c k Ob Nd c8 c10) ∧ (∀ x j, ¬ (x = 37 ∧ j = k) → AT c8 c10 x j) ∧ kR c10 37 k = gnm cs0 so gr ∧ c_X0_checkSelect_b84 F T c10 k so = some cs9 := by
    by_cases q : v10 = 0
    · replace g := (if_pos q).symm.trans g
      refine ⟨c8, fun _ _ => CFN.refl, fun _ _ _ => AT.refl, ?_, g⟩
      rw [z0 q, (k8 37 (by omega) (by omega)).r, (k6 37 (by decide) (by decide) (by decide) (by decide)).r]
      exact r37
    · replace g := (if_neg q).symm.trans g
      replace g := ob g; obtain ⟨v11, g11, g⟩ := g
      replace g := ob g; obtain ⟨c12, g12, g⟩ := g
      obtain ⟨-, e12⟩ := pR_some g12
      have ev : v11 = some gr := (gR_some g11).2.symm.trans ((A8 200 so (by decide) (by decide) (by decide) (by decide) (by decide) (by omega)).r.trans r200)
      rw [ev] at e12
      refine ⟨c12, fun _ _ => by rw [← e12]; exact cfn_R (by omega), fun x j hx => by rw [← e12]; exact AT.sR hx, ?_, g⟩
      rw [z1 q, ← e12]
      exact kR_s
  have h10 := (f10 (fun _ => False) (fun _ => False)).ck h8
  have cw10 := (f10 (fun _ => False) (fun _ => False)).cw cw8
  have s35 : kR c10 35 k = some so := by rw [(A10 35 k (by omega)).r, (k8 35 (by omega) (by omega)).r, (k6 35 (by decide) (by decide) (by decide) (by decide)).r]; exact r35
  have s36 : kI c10 36 k = nI ns := by rw [(A10 36 k (by omega)).i, (k8 36 (by omega) (by omega)).i, (k6 36 (by decide) (by decide) (by decide) (by decide)).i]; exact r36
  have gc : ∀ n, gnm cs0 so gr = some n → n = gr := fun n hn => by
    unfold gnm at hn
    by_cases w : kI cs0 198 so = 0 ∧ kI cs0 203 so ≤ 0
    · rw [if_pos w] at hn
      cases hn
    · rw [if_neg w] at hn
      exact (Option.some.inj hn).symm
  unfold c_X0_checkSelect_b84 c_X0_checkSelect_b119 at g
  replace g := ob g; obtain ⟨v1, y1, g⟩ := g
  replace g := ob g; obtain ⟨w1, y2, g⟩ := g
  replace g := ob g; obtain ⟨c11, y3, g⟩ := g
  replace g := ob g; obtain ⟨v4', y4, g⟩ := g
  replace g := ob g; obtain ⟨i5, y5, g⟩ := g
  replace g := ob g; obtain ⟨w6, y6, g⟩ := g
  replace g := ob g; obtain ⟨c12, y7, g⟩ := g
  replace g := ob g; obtain ⟨v8, y8, g⟩ := g
  have B10 : ∀ x j, ¬ (j = c ∨ j = t ∨ j = k ∨ j = gr) → AT c6 c10 x j := fun x j hj => (f8.2.2.1 x j (by omega) (by omega) (by omega) (by omega)).trans (A10 x j (by omega))
  have C10 : ∀ x j, j = so ∨ j = it → 38 ≤ x → x ≠ 206 → AT cs0 c10 x j := fun x j hj x1 x2 => (B6 x j (by omega) x1 x2).trans (B10 x j (by omega))
  have v1e : v1 = kI cs0 201 so := (gI_some y1).2.symm.trans (C10 201 so (Or.inl rfl) (by decide) (by decide)).i
  rw [v1e] at y3
  -- having
  obtain ⟨n11, t11⟩ := tru_A hF hFF h10 ck' (fun n hn => by rw [r10] at hn; rw [gc n hn]; omega) sk.hv cw10 y3
  rw [s35, s36, r10] at t11
  have n11' : NFR t c H c10 c11 := by rw [hH]; exact n11
  have h11 := n11.ck h10
  have cw11 := (n11.cf (k := k) (Ob := fun _ => False)).cw cw10
  have k11 : ∀ x, x ≠ 72 → x ≠ 73 → x ≠ 320 → x ≠ 321 → AT c10 c11 x k := fun x q1 q2 q3 q4 => n11.2.2.1 x k (by omega) (by omega)
  have C11 : ∀ x j, j = so ∨ j = it → 38 ≤ x → x ≠ 206 → AT cs0 c11 x j := fun x j hj x1 x2 => (C10 x j hj x1 x2).trans (n11.2.2.1 x j (by omega) (by omega))
  have D10 : ∀ x j, x = 195 ∨ x = 235 → AT cs c10 x j := fun x j hx => (D8 x j hx).trans (A10 x j (by omega))
  have D11 : ∀ x j, x = 195 ∨ x = 235 → AT cs c11 x j := fun x j hx => (D10 x j hx).trans (n11.2.2.1 x j (by omega) (by omega))
  have i5e : i5 = it := by
    have w := (gR_some y4).2
    rw [y5, (C11 194 so (Or.inl rfl) (by decide) (by decide)).r, sk.r194] at w
    exact (Option.some.inj w).symm
  rw [i5e] at y7
  have e011 : EM cs0 c11 := e06.trans ((em f8.1).trans ((em (f10 (fun _ => False) (fun _ => False)).1).trans (em n11.1)))
  -- items
  have p11 : CPR0 V t c cap s k it mi (cr cs0 it) (ca V cs0 it) c11 := by
    refine ⟨h11, sk.ci.keep e011 (fun x x1 x2 => C11 x it (Or.inr rfl) (by omega) (by omega)), fun n hn => ?_, cw11, fun y hy => (sk.is.at' s1 hy).2, fun y hy => ?_, ?_⟩
    · rw [(k11 37 (by decide) (by decide) (by decide) (by decide)).r, r10] at hn
      rw [gc n hn]
      omega
    · rw [(C11 97 it (Or.inr rfl) (by decide) (by decide)).a]
      exact (sk.is.at' s1 hy).1
    · rw [(k11 35 (by decide) (by decide) (by decide) (by decide)).r, (k11 36 (by decide) (by decide) (by decide) (by decide)).i, (k11 37 (by decide) (by decide) (by decide) (by decide)).r, s35, s36, r10]
      refine ⟨fun o i oo cl w1 w2 w3 w4 w5 => ?_, fun n hn => ?_⟩
      · have := (src6 c11 D11 o i oo w1 w2 w3 w4).2 cl w5
        omega
      · rw [gc n hn]
        omega
  obtain ⟨f12, t12⟩ := colz_A hF hFF ck' (show c ≠ it by omega) (show t ≠ it by omega) dji p11 y7
  rw [(k11 35 (by decide) (by decide) (by decide) (by decide)).r, (k11 36 (by decide) (by decide) (by decide) (by decide)).i, (k11 37 (by decide) (by decide) (by decide) (by decide)).r, s35, s36, r10] at t12
  have f12' : KFR t c it I c11 c12 := by rw [hI]; exact f12
  have h12 := f12.ck h11
  have n13 : NFR t c (fun _ => False) c12 cs9 := by
    by_cases q : v8 = 0
    · replace g := (if_pos q).symm.trans g
      rw [← Option.some.inj g]
      exact NFR.refl
    · replace g := (if_neg q).symm.trans g
      replace g := ob g; obtain ⟨v9, z9, g⟩ := g
      replace g := ob g; obtain ⟨v10', z10, g⟩ := g
      replace g := ob g; obtain ⟨w11, z11, g⟩ := g
      replace g := ob g; obtain ⟨c13, z12, g⟩ := g
      rw [← Option.some.inj g]
      exact bound_F h12 z12
  -- put together
  have q12 : ∀ Ob Nd : Nat → Prop, (∀ z, I z → Nd z) → Ob it → CFN t c k Ob Nd c11 cs9 := fun Ob Nd hNd hO => ((f12'.cf hO).mono (fun _ w => w) hNd).trans (n13.cf.mono (fun _ w => w) (fun _ w => w.elim))
  have q8 : ∀ Ob Nd : Nat → Prop, (∀ z, H z → Nd z) → (∀ z, I z → Nd z) → Ob it → CFN t c k Ob Nd c8 cs9 := fun Ob Nd h1 h2 hO => (f10 Ob Nd).trans ((n11'.cf.mono (fun _ w => w) h1).trans (q12 Ob Nd h2 hO))
  have f8g : CFN t c k (fun j => j = gr) G c6 c8 := by rw [hG]; exact f8
  have q6 : ∀ Ob Nd : Nat → Prop, (∀ z, G z → Nd z) → (∀ z, H z → Nd z) → (∀ z, I z → Nd z) → Ob it → Ob gr → CFN t c k Ob Nd c6 cs9 := fun Ob Nd h0 h1 h2 hO hO' => (f8g.mono (fun j e => by rw [e]; exact hO') h0).trans (q8 Ob Nd h1 h2 hO)
  have srcN : ∀ (d : CS) (Ob : Nat → Prop), (∀ x j, x = 195 ∨ x = 235 → AT cs d x j) → (∀ j, gr < j → ¬ Ob j) → ∀ o i oo, some so = some o → i < 2147483648 → nI i < nI ns → kQ d 195 o i = some oo → ¬ Ob oo ∧ ∀ cl, kR d 235 oo = some cl → ¬ Ob cl := fun d Ob hd hO o i oo w1 w2 w3 w4 => by
    obtain ⟨u1, u2⟩ := src6 d hd o i oo w1 w2 w3 w4
    exact ⟨hO oo u1, fun cl hcl => hO cl (u2 cl hcl)⟩
  have l12 : ∀ x, AT c11 c12 x k := fun x => by
    by_cases w : x = 72 ∨ x = 73 ∨ x = 320 ∨ x = 321
    · exact f12.2.2.1 x k (by omega) (by omega) (by omega)
    · exact f12.at' (by omega) (by omega) (by omega) (by omega) (by omega)
  refine ⟨?_, ⟨?_, ?_, fun x x1 x2 => ?_⟩, fun f9 => ?_⟩
  · have q3 : CFN t c k (fun j => j = it ∨ j = gr) (TND V s so it gr mi mg cs0) c3 cs9 := (n6'.cf.mono (fun _ w => w) (fun z w => Or.inl (by rw [hW] at w; exact w))).trans (q6 _ _ (fun z w => Or.inr (Or.inl (by rw [hG] at w; exact w))) (fun z w => Or.inr (Or.inr (Or.inl (by rw [hH] at w; exact w)))) (fun z w => Or.inr (Or.inr (Or.inr (by rw [hI] at w; exact w)))) (Or.inl rfl) (Or.inr rfl))
    exact (f3 _ _).trans q3
  · rw [(n13.2.2.1 35 k (by omega) (by omega)).r, (l12 35).r, (k11 35 (by decide) (by decide) (by decide) (by decide)).r]
    exact s35
  · rw [(n13.2.2.1 36 k (by omega) (by omega)).i, (l12 36).i, (k11 36 (by decide) (by decide) (by decide) (by decide)).i]
    exact s36
  · exact ((((A3 x it (by omega)).trans (n6.2.2.1 x it (by omega) (by omega))).trans (B10 x it (by omega))).trans (n11.2.2.1 x it (by omega) (by omega))).trans ((f12.2.2.1 x it (by omega) (by omega) (by omega)).trans (n13.2.2.1 x it (by omega) (by omega)))
  · have f12f := n13.2.1 f9
    have f11f := f12.2.1 f12f
    have f10f := n11.2.1 f11f
    have f8f := (f10 (fun _ => False) (fun _ => False)).2.1 f10f
    have f6f := f8.2.1 f8f
    have dW : ∀ r a, kI cs0 197 so = nI r → RTT V s r a → ∀ z, a ≤ z → z ≤ r → ¬ (G z ∨ H z ∨ I z) := fun r a w rt z z1 z2 w2 => by
      have fw := rfs_w s1 sk.p2 w rt
      rcases w2 with w2 | w2 | w2
      · rw [hG] at w2
        obtain ⟨y, hy, u1, u2⟩ := w2
        exact sx.dj (by omega) (by omega) fw (rfs_c s1 sk.cg sk.gs hy) (by omega) rt (sk.gs.at' s1 hy).2 z z1 z2 ⟨u1, u2⟩
      · rw [hH] at w2
        obtain ⟨r', a', u0, u1, u2, u3⟩ := w2
        exact sx.dj (by omega) (by omega) fw (rfs_h s1 sk.p2 u0 u1) (by omega) rt u1 z z1 z2 ⟨u2, u3⟩
      · rw [hI] at w2
        obtain ⟨y, hy, u1, u2⟩ := w2
        exact sx.dj (by omega) (by omega) fw (rfs_c s1 sk.ci sk.is hy) (by omega) rt (sk.is.at' s1 hy).2 z z1 z2 ⟨u1, u2⟩
    have dG : ∀ y, y < mg → ∀ z, ca V cs0 gr y ≤ z → z ≤ cr cs0 gr y → ¬ (H z ∨ I z) := fun y hy z z1 z2 w2 => by
      have fw := rfs_c s1 sk.cg sk.gs hy
      rcases w2 with w2 | w2
      · rw [hH] at w2
        obtain ⟨r', a', u0, u1, u2, u3⟩ := w2
        exact sx.dj (by omega) (by omega) fw (rfs_h s1 sk.p2 u0 u1) (by omega) (sk.gs.at' s1 hy).2 u1 z z1 z2 ⟨u2, u3⟩
      · rw [hI] at w2
        obtain ⟨y', hy', u1, u2⟩ := w2
        exact sx.dj (by omega) (by omega) fw (rfs_c s1 sk.ci sk.is hy') (by omega) (sk.gs.at' s1 hy).2 (sk.is.at' s1 hy').2 z z1 z2 ⟨u1, u2⟩
    have dH : ∀ r a, kI cs0 201 so = nI r → RTT V s r a → ∀ z, a ≤ z → z ≤ r → ¬ I z := fun r a w rt z z1 z2 w2 => by
      rw [hI] at w2
      obtain ⟨y, hy, u1, u2⟩ := w2
      exact sx.dj (by omega) (by omega) (rfs_h s1 sk.p2 w rt) (rfs_c s1 sk.ci sk.is hy) (by omega) rt (sk.is.at' s1 hy).2 z z1 z2 ⟨u1, u2⟩
    refine ⟨?_, ?_, ?_, ?_⟩
    · exact (t6 f6f).cf (q6 (fun j => j = it ∨ j = gr) (fun z => G z ∨ H z ∨ I z) (fun z w => Or.inl w) (fun z w => Or.inr (Or.inl w)) (fun z w => Or.inr (Or.inr w)) (Or.inl rfl) (Or.inr rfl)) dW (srcN c6 _ D6 (fun j hj w => by omega)) (fun n hn => by cases hn)
    · have co : COZ V s c cs0 (some so) (nI ns) none gr mg c8 := fun y r a hy w rt => by
        obtain ⟨u1, u2⟩ := sk.gs.eq s1 hy w rt
        have u := t8 f8f y hy
        rw [u1, u2] at u
        exact u
      have qq := q8 (fun j => j = it) (fun z => H z ∨ I z) (fun z w => Or.inl w) (fun z w => Or.inr w) rfl
      have ag : AT c8 cs9 100 gr := qq.2.2.1 100 gr (by omega) (by omega) (by omega) (by omega)
      refine co.cf qq ag (fun y r a hy w rt => ?_) (srcN c8 _ D8 (fun j hj w => by omega)) (fun n hn => by cases hn)
      obtain ⟨u1, u2⟩ := sk.gs.eq s1 hy w rt
      have u := dG y hy
      rw [u1, u2] at u
      exact u
    · exact (t11 f11f).cf (q12 (fun j => j = it) I (fun _ w => w) rfl) dH (srcN c11 _ D11 (fun j hj w => by omega)) (fun n hn w => by rw [gc n hn] at w; omega)
    · intro y r a hy w rt
      obtain ⟨u1, u2⟩ := sk.is.eq s1 hy w rt
      obtain ⟨x1, x2⟩ := t12 f12f y hy
      rw [u1, u2] at x1
      rw [u1] at x2
      refine ⟨x1.nf n13 (fun _ _ _ w => w), ?_⟩
      rw [(n13.2.2.1 100 it (by omega) (by omega)).a, (n13.2.2.2.2 r (fun w => w)).2]
      exact x2

/-! groups that were checked, the class alone -/
theorem WTR.cf {t c k a r : Nat} {so : Option Nat} {sn : Int32} {nm : Option Nat} {Ob Nd : Nat → Prop} {cs cs' : CS} (h : WTR c a r so sn nm cs) (g : CFN t c k Ob Nd cs cs') (hd : ∀ z, a ≤ z → z ≤ r → ¬ Nd z) (hs : ∀ o i oo, so = some o → i < 2147483648 → nI i < sn → kQ cs 195 o i = some oo → ¬ Ob oo ∧ ∀ cl, kR cs 235 oo = some cl → ¬ Ob cl) (hm : ∀ n, nm = some n → ¬ Ob n) : WTR c a r so sn nm cs' := by
  have e : ∀ x j, ¬ Ob j → x ≠ 72 → x ≠ 73 → x ≠ 320 → x ≠ 321 → 37 < x → AT cs cs' x j := fun x j h0 h1 h2 h3 h4 h5 => g.2.2.1 x j (by omega) (by omega) (by omega) (fun w => h0 w.1)
  have e' : ∀ x j, x = 195 ∨ x = 235 ∨ x = 65 ∨ x = 67 ∨ x = 71 → AT cs cs' x j := fun x j hx => g.2.2.1 x j (by omega) (by omega) (by omega) (by omega)
  refine h.kp (fun x hx => e' x c (by omega)) (fun z z1 z2 => g.2.2.2.2 z (hd z z1 z2)) (fun o ho => ⟨e' _ _ (by omega), fun i oo hi1 hi2 hq => ?_⟩) (fun n hn => ?_)
  · obtain ⟨w1, w2⟩ := hs o i oo ho hi1 hi2 hq
    exact ⟨e' _ _ (by omega), e _ _ w1 (by decide) (by decide) (by decide) (by decide) (by decide), fun cl hcl => ⟨e _ _ (w2 cl hcl) (by decide) (by decide) (by decide) (by decide) (by decide), e _ _ (w2 cl hcl) (by decide) (by decide) (by decide) (by decide) (by decide)⟩⟩
  · exact ⟨e _ _ (hm n hn) (by decide) (by decide) (by decide) (by decide) (by decide), e _ _ (hm n hn) (by decide) (by decide) (by decide) (by decide) (by decide)⟩
/-- the slots of aggregates -/
theorem slot_F {t c cap s k : Nat} {F so gr kd : Nat} : ∀ (lf i : Nat) (cs1 cs9 : CS), CK t c cap s k cs1 → i + lf < 2147483648 → (∀ i y, i < 2147483648 → nI i < kI cs1 203 so → kA cs1 202 so i = nI y → y < 120 → kA cs1 65 c y ≠ 39) → c_X0_checkGroups_L152 F lf cs1 k so gr (nI i) = some cs9 → CFN t c kd (fun _ => False) (fun _ => False) cs1 cs9 := by
  intro lf
  induction lf with
  | zero => intro i cs1 cs9 _ _ _ g; cases (show (none : Option CS) = _ from g)
  | succ lf ih =>
    intro i cs1 cs9 h hi am g
    have sp := h.sc
    have cp := h.cp
    rw [c_X0_checkGroups_L152] at g
    replace g := ob g; obtain ⟨v1, g1, g⟩ := g
    by_cases q1 : v1 ≤ nI i
    · replace g := (if_pos q1).symm.trans g
      unfold c_X0_checkGroups_b211 at g
      rw [← Option.some.inj g]
      exact CFN.refl
    · replace g := (if_neg q1).symm.trans g
      replace g := ob g; obtain ⟨v3, g3, g⟩ := g
      replace g := ob g; obtain ⟨v4, g4, g⟩ := g
      by_cases q2 : v4 ≤ nI i
      · replace g := (if_pos q2).symm.trans g
        unfold c_X0_checkGroups_b211 at g
        rw [← Option.some.inj g]
        exact CFN.refl
      · replace g := (if_neg q2).symm.trans g
        replace g := ob g; obtain ⟨v6, g6, g⟩ := g
        replace g := ob g; obtain ⟨v7, g7, g⟩ := g
        replace g := ob g; obtain ⟨v8, g8, g⟩ := g
        replace g := ob g; obtain ⟨i10, g10, g⟩ := g
        replace g := ob g; obtain ⟨w11, g11, g⟩ := g
        replace g := ob g; obtain ⟨v9, g9, g⟩ := g
        unfold c_X0_checkGroups_b205 at g
        rw [nI_1] at g
        by_cases q3 : v9 = 0
        · replace g := (if_pos q3).symm.trans g
          exact ih (i + 1) cs1 cs9 h (by omega) am g
        · replace g := (if_neg q3).symm.trans g
          replace g := ob g; obtain ⟨v13, g13, g⟩ := g
          replace g := ob g; obtain ⟨i14, g14, g⟩ := g
          replace g := ob g; obtain ⟨v15, g15, g⟩ := g
          replace g := ob g; obtain ⟨v16, g16, g⟩ := g
          replace g := ob g; obtain ⟨v17, g17, g⟩ := g
          replace g := ob g; obtain ⟨v18, g18, g⟩ := g
          replace g := ob g; obtain ⟨c19, g19, g⟩ := g
          have r6 := (gR_some g6).2
          rw [g10] at r6
          rw [Option.some.inj (r6.symm.trans h.r34)] at g9
          have r13 := (gR_some g13).2
          rw [g14] at r13
          rw [Option.some.inj (r13.symm.trans h.r34)] at g19
          have e8 := (rA_some g8).2
          have e17 := (rA_some g17).2
          have ev : v17 = v8 := e17.symm.trans e8
          rw [nI_clamp (by omega)] at e8
          obtain ⟨n1, n2⟩ := has_sk g9 q3
          obtain ⟨y, hy, ey⟩ := nI_of n1
          rw [h.cn, ey] at n2
          have ys : y < s := (nI_ltI (a := y) (b := s) hy (by omega)).mp (Int32.not_le.mp n2)
          rw [ey] at e8 ev
          have k39 := am i y (by omega) (by rw [(gI_some g1).2]; exact Int32.not_le.mp q1) e8 (by omega)
          obtain ⟨-, s19⟩ := wA_some g19
          rw [ev, nI_clamp hy] at s19
          have c1 : CFN t c kd (fun _ => False) (fun _ => False) cs1 c19 := by
            rw [← s19]
            refine ⟨rfl, id, fun x j q1 _ _ _ => AT.sA (by omega), fun _ _ _ _ => ⟨rfl, rfl⟩, fun z _ => ⟨fun w => ?_, by rw [(AT.sA (by omega)).a]⟩⟩
            rw [kA_s]
            refine pk_un (fun e => k39 ?_)
            rw [← e]
            exact w
          have e' : ∀ x j, x = 65 ∨ x = 202 ∨ x = 203 → AT cs1 c19 x j := fun x j hx => c1.2.2.1 x j (by omega) (by omega) (by omega) (by omega)
          refine c1.trans (ih (i + 1) c19 cs9 (c1.ck h) (by omega) (fun i' y' a1 a2 a3 a4 => ?_) g)
          rw [(e' 65 c (by omega)).a]
          exact am i' y' a1 (by rw [← (e' 203 so (by omega)).i]; exact a2) (by rw [← (e' 202 so (by omega)).a]; exact a3) a4
/-- one round of the groups -/
theorem grp_I {t c cap s k : Nat} {F lf y m gr so : Nat} {V : VT} {rr aa : Nat → Nat} {cs1 cs9 : CS} (hF : 10000 ≤ F) (hFF : F < 1000000) (hck : c ≠ k) (hcc : c ≠ gr) (htc : t ≠ gr) (p : CPR0 V t c cap s k gr m rr aa cs1) (hy : y < m) (g : c_X0_checkGroups_L74 F (lf + 1) cs1 k so (some gr) (nI y) = some cs9) : ∃ c1 v c2 c3, c_X0_checkExpr F cs1 k (nI (rr y)) = some c1 ∧ c_X0_typeOf F c1 k (nI (rr y)) = some v ∧ c_X2_settleType F c1 gr (nI y) v = some c2 ∧ NFR t c (fun _ => False) c2 c3 ∧ c_X0_checkGroups_L74 F lf c3 k so (some gr) (nI (y + 1)) = some cs9 := by
  have hm := p.cm
  have h := p.ck
  have m8 := hm.m8
  have h97 := p.r97 y hy
  obtain ⟨j, hj⟩ := hm.p97
  rw [c_X0_checkGroups_L74, ob_s, gI_ok hm.e, ob_s, hm.sz, if_neg (nI_ge hy (by omega)), ckE_ok hm.e, ob_s, clm_has hm hy, ob_s, if_neg (by decide), gA_ok hm.e, hj, ob_s, rA_n hm.e97 hj (by rw [hm.l97]; omega) (by rw [hm.l97]; omega), ob_s, h97, ckE_ok h.o, ob_s] at g
  replace g := ob g; obtain ⟨c1, g1, g⟩ := g
  obtain ⟨n1, -⟩ := expr_V hF hFF h hck p.cn (p.rt y hy) p.cw g1
  have em : EM cs1 c1 := EM.of (congrArg (fun z => z.2.2) n1.1)
  have a97 : AT cs1 c1 97 gr := n1.2.2.1 97 gr (by omega) (by omega)
  have k1 := n1.ck h
  rw [gA_ok (em _ hm.e), a97.p, hj, ob_s, rA_n (em _ hm.e97) (by rw [a97.p]; exact hj) (by rw [a97.l, hm.l97]; omega) (by rw [a97.l, hm.l97]; omega), ob_s, a97.a, h97, ckE_ok k1.o, ob_s] at g
  replace g := ob g; obtain ⟨v, g2, g⟩ := g
  rw [ckE_ok (em _ hm.e), ob_s] at g
  replace g := ob g; obtain ⟨c2, g3, g⟩ := g
  obtain ⟨f1, -⟩ := col_S hF hFF h hck hcc htc p.cn hm hy (p.rt y hy) p.cw p.ap g1 g2 g3
  have k2 := f1.ck h
  replace g := ob g; obtain ⟨v4, g4, g⟩ := g
  replace g := ob g; obtain ⟨v5, g5, g⟩ := g
  replace g := ob g; obtain ⟨w6, g6, g⟩ := g
  replace g := ob g; obtain ⟨v7, g7, g⟩ := g
  unfold c_X0_checkGroups_b144 at g
  rw [nI_1] at g
  by_cases q : nI y ≤ v7
  · replace g := (if_pos q).symm.trans g
    exact ⟨c1, v, c2, c2, g1, g2, g3, NFR.refl, g⟩
  · replace g := (if_neg q).symm.trans g
    replace g := ob g; obtain ⟨v8, g8, g⟩ := g
    replace g := ob g; obtain ⟨v9, g9, g⟩ := g
    replace g := ob g; obtain ⟨v10, g10, g⟩ := g
    replace g := ob g; obtain ⟨i11, g11, g⟩ := g
    replace g := ob g; obtain ⟨w12, g12, g⟩ := g
    replace g := ob g; obtain ⟨c3, g13, g⟩ := g
    have r8 := (gR_some g8).2
    rw [g11] at r8
    exact ⟨c1, v, c2, c3, g1, g2, g3, ref_N (Option.some.inj (r8.symm.trans k2.r32)) g13, g⟩
theorem grp_E {F lf m gr so k : Nat} {cs1 cs9 : CS} (hm : CLM gr m cs1) (g : c_X0_checkGroups_L74 F (lf + 1) cs1 k so (some gr) (nI m) = some cs9) : c_X0_checkGroups_L152 F F cs1 k so gr (nI 0) = some cs9 := by
  rw [c_X0_checkGroups_L74, ob_s, gI_ok hm.e, ob_s, hm.sz, if_pos (Int32.le_refl _)] at g
  exact g
/-- the aggregates of a SELECT are no names -/
def NOA (c so : Nat) (cs : CS) : Prop := ∀ i y, i < 2147483648 → nI i < kI cs 203 so → kA cs 202 so i = nI y → y < 120 → kA cs 65 c y ≠ 39
theorem NOA.at' {c so : Nat} {a d : CS} (h : NOA c so a) (h1 : AT a d 203 so) (h2 : AT a d 202 so) (h3 : AT a d 65 c) : NOA c so d := fun i y a1 a2 a3 a4 => by
  rw [h3.a]
  exact h i y a1 (by rw [← h1.i]; exact a2) (by rw [← h2.a]; exact a3) a4
theorem grp_F {t c cap s k : Nat} {F m gr so kd : Nat} {V : VT} {rr aa : Nat → Nat} (hF : 10000 ≤ F) (hFF : F < 1000000) (hck : c ≠ k) (hcc : c ≠ gr) (htc : t ≠ gr) : ∀ (lf y : Nat) (cs1 cs9 : CS), CPR0 V t c cap s k gr m rr aa cs1 → NOA c so cs1 → y ≤ m → c_X0_checkGroups_L74 F lf cs1 k so (some gr) (nI y) = some cs9 → CFN t c kd (fun j => j = gr) (CRG m rr aa) cs1 cs9 ∧ ∀ x, 38 ≤ x → x ≠ 100 → AT cs1 cs9 x gr := by
  intro lf
  induction lf with
  | zero => intro y cs1 cs9 _ _ _ g; cases (show (none : Option CS) = _ from g)
  | succ lf ih =>
    intro y cs1 cs9 p na hy g
    by_cases q : y < m
    · obtain ⟨c1, v, c2, c3, g1, g2, g3, n3, g4⟩ := grp_I hF hFF hck hcc htc p q g
      obtain ⟨f1, -⟩ := col_S hF hFF p.ck hck hcc htc p.cn p.cm q (p.rt y q) p.cw p.ap g1 g2 g3
      have f2 : KFR t c gr (CRG m rr aa) cs1 c3 := (f1.mono (Nd' := CRG m rr aa) (fun z hz => ⟨y, q, hz⟩)).trans (KFR.of (n3.mono (fun _ w => w.elim)))
      have cf := f2.cf (k := kd) (Ob := fun j => j = gr) rfl
      obtain ⟨u1, u2⟩ := ih (y + 1) c3 cs9 (p.kf f2 hcc htc) (na.at' (f2.at' (by decide) (by decide) (by decide) (by decide) (by omega)) (f2.at' (by decide) (by decide) (by decide) (by decide) (by omega)) (f2.at' (by decide) (by decide) (by decide) (by decide) (by omega))) (by omega) g4
      exact ⟨cf.trans u1, fun x x1 x2 => (f2.2.2.1 x gr (by omega) (by omega) (by omega)).trans (u2 x x1 x2)⟩
    · have e : y = m := by omega
      rw [e] at g
      have sf := slot_F (kd := kd) F 0 cs1 cs9 p.ck (by omega) na (grp_E p.cm g)
      exact ⟨sf.mono (fun _ w => w.elim) (fun _ w => w.elim), fun x x1 x2 => sf.2.2.1 x gr (by omega) (by omega) (by omega) (fun w => w.1)⟩
theorem grp_T {t c cap s k : Nat} {F m gr so0 : Nat} {V : VT} {rr aa : Nat → Nat} {so : Option Nat} {sn : Int32} {nm : Option Nat} (hF : 10000 ≤ F) (hFF : F < 1000000) (hck : c ≠ k) (hcc : c ≠ gr) (htc : t ≠ gr) (dj : ∀ y y', y < m → y' < m → y ≠ y' → ∀ z, aa y ≤ z → z ≤ rr y → ¬ (aa y' ≤ z ∧ z ≤ rr y')) : ∀ (lf y : Nat) (cs1 cs9 : CS), CPR0 V t c cap s k gr m rr aa cs1 → NOA c so0 cs1 → kR cs1 35 k = so → kI cs1 36 k = sn → kR cs1 37 k = nm → y ≤ m → (∀ y', y' < y → COLT c so sn nm gr (rr y') (aa y') y' cs1) → c_X0_checkGroups_L74 F lf cs1 k so0 (some gr) (nI y) = some cs9 → kI cs9 320 t = 0 → ∀ y', y' < m → COLT c so sn nm gr (rr y') (aa y') y' cs9 := by
  intro lf
  induction lf with
  | zero => intro y cs1 cs9 _ _ _ _ _ _ _ g; cases (show (none : Option CS) = _ from g)
  | succ lf ih =>
    intro y cs1 cs9 p na h35 h36 h37 hy ty g f9
    by_cases q : y < m
    · obtain ⟨c1, v, c2, c3, g1, g2, g3, n3, g4⟩ := grp_I hF hFF hck hcc htc p q g
      obtain ⟨f1, k1, t1⟩ := col_S hF hFF p.ck hck hcc htc p.cn p.cm q (p.rt y q) p.cw p.ap g1 g2 g3
      have n3' : KFR t c gr (fun z => aa y ≤ z ∧ z ≤ rr y) c2 c3 := KFR.of (n3.mono (fun _ w => w.elim))
      have f2 := f1.trans n3'
      have p2 := p.kf f1 hcc htc
      have p3 := p.kf f2 hcc htc
      have na3 : NOA c so0 c3 := na.at' (f2.at' (by decide) (by decide) (by decide) (by decide) (by omega)) (f2.at' (by decide) (by decide) (by decide) (by decide) (by omega)) (f2.at' (by decide) (by decide) (by decide) (by decide) (by omega))
      have f3 := (grp_F (kd := k) hF hFF hck hcc htc lf (y + 1) c3 cs9 p3 na3 (by omega) g4).1.2.1 f9
      have t1' := t1 (n3.2.1 f3)
      rw [h35, h36, h37] at t1'
      have ap := p.ap
      rw [h35, h36, h37] at ap
      have ap2 := p2.ap
      have r35 : kR c2 35 k = so := by rw [(f1.at' (x := 35) (j := k) (by decide) (by decide) (by decide) (by decide) (by omega)).r]; exact h35
      have r36 : kI c2 36 k = sn := by rw [(f1.at' (x := 36) (j := k) (by decide) (by decide) (by decide) (by decide) (by omega)).i]; exact h36
      have r37 : kR c2 37 k = nm := by rw [(f1.at' (x := 37) (j := k) (by decide) (by decide) (by decide) (by decide) (by omega)).r]; exact h37
      rw [r35, r36, r37] at ap2
      have a100 : AT c2 c3 100 gr := n3.2.2.1 100 gr (by omega) (by omega)
      refine ih (y + 1) c3 cs9 p3 na3 ?_ ?_ ?_ (by omega) (fun y' hy' => ?_) g4 f9
      · rw [(f2.at' (x := 35) (j := k) (by decide) (by decide) (by decide) (by decide) (by omega)).r]; exact h35
      · rw [(f2.at' (x := 36) (j := k) (by decide) (by decide) (by decide) (by decide) (by omega)).i]; exact h36
      · rw [(f2.at' (x := 37) (j := k) (by decide) (by decide) (by decide) (by decide) (by omega)).r]; exact h37
      · by_cases e : y' = y
        · rw [e]
          refine ⟨t1'.1.nf n3 (fun _ _ _ w => w), ?_⟩
          rw [a100.a, (n3.2.2.2.2 (rr y) (fun w => w)).2]
          exact t1'.2
        · obtain ⟨w1, w2⟩ := ty y' (by omega)
          have nd := dj y' y (by omega) q e
          have rg := p.rt y' (by omega)
          refine ⟨(w1.kf f1 ap nd).nf n3 (fun _ _ _ w => w), ?_⟩
          rw [a100.a, (n3.2.2.2.2 (rr y') (fun w => w)).2, k1 y' e, (f1.2.2.2.2 (rr y') (nd (rr y') rg.1 (Nat.le_refl _))).2]
          exact w2
    · have e : y = m := by omega
      rw [e] at g ty
      have cf := slot_F (kd := k) F 0 cs1 cs9 p.ck (by omega) na (grp_E p.cm g)
      intro y' hy'
      obtain ⟨w1, w2⟩ := ty y' hy'
      refine ⟨w1.cf cf (fun _ _ _ w => w) (fun _ _ _ _ _ _ _ => ⟨fun w => w, fun _ _ w => w⟩) (fun _ _ w => w), ?_⟩
      rw [(cf.2.2.1 100 gr (by omega) (by omega) (by omega) (fun w => w.1)).a, (cf.2.2.2.2 (rr y') (fun w => w)).2]
      exact w2
/-- the groups of a SELECT -/
theorem grps_A {t c cap s k : Nat} {F m gr so kd : Nat} {V : VT} {rr aa : Nat → Nat} {cs cs9 : CS} (hF : 10000 ≤ F) (hFF : F < 1000000) (hck : c ≠ k) (hcc : c ≠ gr) (htc : t ≠ gr) (dj : ∀ y y', y < m → y' < m → y ≠ y' → ∀ z, aa y ≤ z → z ≤ rr y → ¬ (aa y' ≤ z ∧ z ≤ rr y')) (p : CPR0 V t c cap s k gr m rr aa cs) (na : NOA c so cs) (r200 : kR cs 200 so = some gr) (g : c_X0_checkGroups F cs k so = some cs9) : (CFN t c kd (fun j => j = gr) (CRG m rr aa) cs cs9 ∧ ∀ x, 38 ≤ x → x ≠ 100 → AT cs cs9 x gr) ∧ (kI cs9 320 t = 0 → ∀ y, y < m → COLT c (kR cs 35 k) (kI cs 36 k) (kR cs 37 k) gr (rr y) (aa y) y cs9) := by
  have fin : ∀ c1, NFR t c (fun _ => False) cs c1 → c_X0_checkGroups_b72 F c1 k so (some gr) = some cs9 → (CFN t c kd (fun j => j = gr) (CRG m rr aa) cs cs9 ∧ ∀ x, 38 ≤ x → x ≠ 100 → AT cs cs9 x gr) ∧ (kI cs9 320 t = 0 → ∀ y, y < m → COLT c (kR cs 35 k) (kI cs 36 k) (kR cs 37 k) gr (rr y) (aa y) y cs9) := fun c1 n1 g => by
    unfold c_X0_checkGroups_b72 at g
    have f1 : KFR t c gr (fun _ => False) cs c1 := KFR.of n1
    have p1 := p.kf f1 hcc htc
    have na1 : NOA c so c1 := na.at' (f1.at' (by decide) (by decide) (by decide) (by decide) (by omega)) (f1.at' (by decide) (by decide) (by decide) (by decide) (by omega)) (f1.at' (by decide) (by decide) (by decide) (by decide) (by omega))
    obtain ⟨u1, u2⟩ := grp_F (kd := kd) hF hFF hck hcc htc F 0 c1 cs9 p1 na1 (Nat.zero_le _) g
    refine ⟨⟨(n1.cf.mono (fun _ w => w) (fun _ w => (w : False).elim)).trans u1, fun x x1 x2 => (n1.2.2.1 x gr (by omega) (by omega)).trans (u2 x x1 x2)⟩, fun f9 => ?_⟩
    exact grp_T hF hFF hck hcc htc dj F 0 c1 cs9 p1 na1 (f1.at' (x := 35) (j := k) (by decide) (by decide) (by decide) (by decide) (by omega)).r (f1.at' (x := 36) (j := k) (by decide) (by decide) (by decide) (by decide) (by omega)).i (f1.at' (x := 37) (j := k) (by decide) (by decide) (by decide) (by decide) (by omega)).r (Nat.zero_le _) (fun y hy => absurd hy (by omega)) g f9
  unfold c_X0_checkGroups at g
  replace g := ob g; obtain ⟨v1, g1, g⟩ := g
  rw [(gR_some g1).2.symm, r200] at g
  replace g := ob g; obtain ⟨v2, g2, g⟩ := g
  by_cases q : v2 = 0
  · replace g := (if_pos q).symm.trans g
    replace g := ob g; obtain ⟨v3, g3, g⟩ := g
    by_cases q2 : v3 ≤ 0
    · exact fin cs NFR.refl ((if_pos q2).symm.trans g)
    · replace g := (if_neg q2).symm.trans g
      replace g := ob g; obtain ⟨v4, g4, g⟩ := g
      replace g := ob g; obtain ⟨v5, g5, g⟩ := g
      replace g := ob g; obtain ⟨v6, g6, g⟩ := g
      replace g := ob g; obtain ⟨i7, g7, g⟩ := g
      replace g := ob g; obtain ⟨w8, g8, g⟩ := g
      replace g := ob g; obtain ⟨v9, g9, g⟩ := g
      by_cases q3 : v9 = 0
      · exact fin cs NFR.refl ((if_pos q3).symm.trans g)
      · replace g := (if_neg q3).symm.trans g
        replace g := ob g; obtain ⟨v10, g10, g⟩ := g
        replace g := ob g; obtain ⟨v11, g11, g⟩ := g
        replace g := ob g; obtain ⟨i12, g12, g⟩ := g
        replace g := ob g; obtain ⟨v13, g13, g⟩ := g
        replace g := ob g; obtain ⟨v14, g14, g⟩ := g
        replace g := ob g; obtain ⟨v15, g15, g⟩ := g
        replace g := ob g; obtain ⟨v16, g16, g⟩ := g
        replace g := ob g; obtain ⟨w17, g17, g⟩ := g
        replace g := ob g; obtain ⟨c18, g18, g⟩ := g
        exact fin c18 (bound_F p.ck g18) g
  · replace g := (if_neg q).symm.trans g
    replace g := ob g; obtain ⟨v3, g3, g⟩ := g
    replace g := ob g; obtain ⟨v4, g4, g⟩ := g
    replace g := ob g; obtain ⟨w5, g5, g⟩ := g
    replace g := ob g; obtain ⟨c6, g6, g⟩ := g
    exact fin c6 (bound_F p.ck g6) g

/-! all columns that were checked, the class alone -/
def CRG (m : Nat) (rr aa : Nat → Nat) (z : Nat) : Prop := ∃ y, y < m ∧ aa y ≤ z ∧ z ≤ rr y
theorem KFR.at' {t c col x j : Nat} {Nd : Nat → Prop} {a d : CS} (h : KFR t c col Nd a d) (h1 : x ≠ 72) (h2 : x ≠ 73) (h3 : x ≠ 320) (h4 : x ≠ 321) (h5 : ¬ (j = col ∧ x = 100)) : AT a d x j := h.2.2.1 x j (by omega) (by omega) h5
theorem APA.kf {t c col k : Nat} {Nd : Nat → Prop} {a d : CS} (h : KFR t c col Nd a d) (g : APA (kR a 35 k) (kI a 36 k) (kR a 37 k) col a) : APA (kR d 35 k) (kI d 36 k) (kR d 37 k) col d := by
  have e : ∀ x j, x ≠ 72 → x ≠ 73 → x ≠ 320 → x ≠ 321 → x ≠ 100 → AT a d x j := fun x j h1 h2 h3 h4 h5 => h.at' h1 h2 h3 h4 (fun w => h5 w.2)
  rw [(e 35 k (by decide) (by decide) (by decide) (by decide) (by decide)).r, (e 37 k (by decide) (by decide) (by decide) (by decide) (by decide)).r, (e 36 k (by decide) (by decide) (by decide) (by decide) (by decide)).i]
  refine ⟨fun o i oo cl w1 u1 u2 w2 w3 => g.1 o i oo cl w1 u1 u2 ?_ ?_, g.2⟩
  · rw [← (e 195 o (by decide) (by decide) (by decide) (by decide) (by decide)).q]
    exact w2
  · rw [← (e 235 oo (by decide) (by decide) (by decide) (by decide) (by decide)).r]
    exact w3
theorem WTR.kf {t c a r col : Nat} {so : Option Nat} {sn : Int32} {nm : Option Nat} {Nd : Nat → Prop} {cs cs' : CS} (h : WTR c a r so sn nm cs) (g : KFR t c col Nd cs cs') (ap : APA so sn nm col cs) (hd : ∀ z, a ≤ z → z ≤ r → ¬ Nd z) : WTR c a r so sn nm cs' := by
  have e : ∀ x j, x ≠ 72 → x ≠ 73 → x ≠ 320 → x ≠ 321 → x ≠ 100 → AT cs cs' x j := fun x j h1 h2 h3 h4 h5 => g.at' h1 h2 h3 h4 (fun w => h5 w.2)
  refine h.kp (fun x hx => e x c (by omega) (by omega) (by omega) (by omega) (by omega)) (fun z z1 z2 => ⟨fun _ => (g.2.2.2.2 z (hd z z1 z2)).1, (g.2.2.2.2 z (hd z z1 z2)).2⟩) (fun o ho => ⟨e _ _ (by decide) (by decide) (by decide) (by decide) (by decide), fun i oo hi1 hi2 hq => ⟨e _ _ (by decide) (by decide) (by decide) (by decide) (by decide), e _ _ (by decide) (by decide) (by decide) (by decide) (by decide), fun cl hcl => ⟨e _ _ (by decide) (by decide) (by decide) (by decide) (by decide), g.at' (by decide) (by decide) (by decide) (by decide) (fun w => ap.1 o i oo cl ho hi1 hi2 hq hcl w.1)⟩⟩⟩) (fun n hn => ⟨e _ _ (by decide) (by decide) (by decide) (by decide) (by decide), g.at' (by decide) (by decide) (by decide) (by decide) (fun w => ap.2 n hn w.1)⟩)
/-- one round of the columns -/
theorem col_I {t c cap s k : Nat} {F lf y m col : Nat} {V : VT} {rr aa : Nat → Nat} {cs1 cs9 : CS} (hF : 10000 ≤ F) (hFF : F < 1000000) (h : CK t c cap s k cs1) (hck : c ≠ k) (hcn : ∀ n, kR cs1 37 k = some n → c ≠ n) (hm : CLM col m cs1) (hy : y < m) (rt : RTT V s (rr y) (aa y)) (cw : ∀ z, z < s → CW c cs1 z = (V z).1) (h97 : kA cs1 97 col y = nI (rr y)) (g : c_X0_checkColumns_L2 F (lf + 1) cs1 k col (nI y) = some cs9) : ∃ c1 v c2, c_X0_checkExpr F cs1 k (nI (rr y)) = some c1 ∧ c_X0_typeOf F c1 k (nI (rr y)) = some v ∧ c_X2_settleType F c1 col (nI y) v = some c2 ∧ c_X0_checkColumns_L2 F lf c2 k col (nI (y + 1)) = some cs9 := by
  have m8 := hm.m8
  obtain ⟨j, hj⟩ := hm.p97
  rw [c_X0_checkColumns_L2, gI_ok hm.e, ob_s, hm.sz, if_neg (nI_ge hy (by omega)), ckE_ok hm.e, ob_s, clm_has hm hy, ob_s, if_neg (by decide), gA_ok hm.e, hj, ob_s, rA_n hm.e97 hj (by rw [hm.l97]; omega) (by rw [hm.l97]; omega), ob_s, h97, ckE_ok h.o, ob_s] at g
  replace g := ob g; obtain ⟨c1, g1, g⟩ := g
  obtain ⟨n1, -⟩ := expr_V hF hFF h hck hcn rt cw g1
  have em : EM cs1 c1 := EM.of (congrArg (fun z => z.2.2) n1.1)
  have a97 : AT cs1 c1 97 col := n1.2.2.1 97 col (by omega) (by omega)
  have k1 := n1.ck h
  rw [gA_ok (em _ hm.e), a97.p, hj, ob_s, rA_n (em _ hm.e97) (by rw [a97.p]; exact hj) (by rw [a97.l, hm.l97]; omega) (by rw [a97.l, hm.l97]; omega), ob_s, a97.a, h97, ckE_ok k1.o, ob_s] at g
  replace g := ob g; obtain ⟨v, g2, g⟩ := g
  rw [ckE_ok (em _ hm.e), ob_s] at g
  replace g := ob g; obtain ⟨c2, g3, g⟩ := g
  rw [nI_1] at g
  exact ⟨c1, v, c2, g1, g2, g3, g⟩
theorem col_E {F lf m col k : Nat} {cs1 cs9 : CS} (hm : CLM col m cs1) (g : c_X0_checkColumns_L2 F (lf + 1) cs1 k col (nI m) = some cs9) : cs9 = cs1 := by
  rw [c_X0_checkColumns_L2, gI_ok hm.e, ob_s, hm.sz, if_pos (Int32.le_refl _)] at g
  unfold c_X0_checkColumns_b49 at g
  exact (Option.some.inj g).symm
/-- what columns ask for before they are checked -/
def CPR0 (V : VT) (t c cap s k col m : Nat) (rr aa : Nat → Nat) (cs : CS) : Prop := (CK t c cap s k cs) ∧ (CLM col m cs) ∧ (∀ n, kR cs 37 k = some n → c ≠ n) ∧ (∀ z, z < s → CW c cs z = (V z).1) ∧ (∀ y, y < m → RTT V s (rr y) (aa y)) ∧ (∀ y, y < m → kA cs 97 col y = nI (rr y)) ∧ (APA (kR cs 35 k) (kI cs 36 k) (kR cs 37 k) col cs)
theorem CPR0.ck {V : VT} {t c cap s k col m : Nat} {rr aa : Nat → Nat} {cs : CS} (h : CPR0 V t c cap s k col m rr aa cs) : CK t c cap s k cs := h.1
theorem CPR0.cm {V : VT} {t c cap s k col m : Nat} {rr aa : Nat → Nat} {cs : CS} (h : CPR0 V t c cap s k col m rr aa cs) : CLM col m cs := h.2.1
theorem CPR0.cn {V : VT} {t c cap s k col m : Nat} {rr aa : Nat → Nat} {cs : CS} (h : CPR0 V t c cap s k col m rr aa cs) : ∀ n, kR cs 37 k = some n → c ≠ n := h.2.2.1
theorem CPR0.cw {V : VT} {t c cap s k col m : Nat} {rr aa : Nat → Nat} {cs : CS} (h : CPR0 V t c cap s k col m rr aa cs) : ∀ z, z < s → CW c cs z = (V z).1 := h.2.2.2.1
theorem CPR0.rt {V : VT} {t c cap s k col m : Nat} {rr aa : Nat → Nat} {cs : CS} (h : CPR0 V t c cap s k col m rr aa cs) : ∀ y, y < m → RTT V s (rr y) (aa y) := h.2.2.2.2.1
theorem CPR0.r97 {V : VT} {t c cap s k col m : Nat} {rr aa : Nat → Nat} {cs : CS} (h : CPR0 V t c cap s k col m rr aa cs) : ∀ y, y < m → kA cs 97 col y = nI (rr y) := h.2.2.2.2.2.1
theorem CPR0.ap {V : VT} {t c cap s k col m : Nat} {rr aa : Nat → Nat} {cs : CS} (h : CPR0 V t c cap s k col m rr aa cs) : APA (kR cs 35 k) (kI cs 36 k) (kR cs 37 k) col cs := h.2.2.2.2.2.2
theorem CPR0.kf {V : VT} {t c cap s k col m : Nat} {rr aa : Nat → Nat} {Nd : Nat → Prop} {a d : CS} (h : CPR0 V t c cap s k col m rr aa a) (g : KFR t c col Nd a d) (hcc : c ≠ col) (htc : t ≠ col) : CPR0 V t c cap s k col m rr aa d := ⟨g.ck h.ck, g.clm hcc htc h.cm, fun n hn => h.cn n (by rw [← (g.at' (x := 37) (j := k) (by decide) (by decide) (by decide) (by decide) (by omega)).r]; exact hn), g.cw h.cw, h.rt, fun y hy => by rw [(g.at' (x := 97) (j := col) (by decide) (by decide) (by decide) (by decide) (by omega)).a]; exact h.r97 y hy, h.ap.kf g⟩
theorem colz_F {t c cap s k : Nat} {F m col : Nat} {V : VT} {rr aa : Nat → Nat} (hF : 10000 ≤ F) (hFF : F < 1000000) (hck : c ≠ k) (hcc : c ≠ col) (htc : t ≠ col) : ∀ (lf y : Nat) (cs1 cs9 : CS), CPR0 V t c cap s k col m rr aa cs1 → y ≤ m → c_X0_checkColumns_L2 F lf cs1 k col (nI y) = some cs9 → KFR t c col (CRG m rr aa) cs1 cs9 := by
  intro lf
  induction lf with
  | zero => intro y cs1 cs9 _ _ g; cases (show (none : Option CS) = _ from g)
  | succ lf ih =>
    intro y cs1 cs9 p hy g
    by_cases q : y < m
    · obtain ⟨c1, v, c2, g1, g2, g3, g4⟩ := col_I hF hFF p.ck hck p.cn p.cm q (p.rt y q) p.cw (p.r97 y q) g
      obtain ⟨f1, -⟩ := col_S hF hFF p.ck hck hcc htc p.cn p.cm q (p.rt y q) p.cw p.ap g1 g2 g3
      have f1' := f1.mono (Nd' := CRG m rr aa) (fun z hz => ⟨y, q, hz⟩)
      exact f1'.trans (ih (y + 1) c2 cs9 (p.kf f1 hcc htc) (by omega) g4)
    · have e : y = m := by omega
      rw [e] at g
      rw [col_E p.cm g]
      exact KFR.refl
theorem colz_T {t c cap s k : Nat} {F m col : Nat} {V : VT} {rr aa : Nat → Nat} {so : Option Nat} {sn : Int32} {nm : Option Nat} (hF : 10000 ≤ F) (hFF : F < 1000000) (hck : c ≠ k) (hcc : c ≠ col) (htc : t ≠ col) (dj : ∀ y y', y < m → y' < m → y ≠ y' → ∀ z, aa y ≤ z → z ≤ rr y → ¬ (aa y' ≤ z ∧ z ≤ rr y')) : ∀ (lf y : Nat) (cs1 cs9 : CS), CPR0 V t c cap s k col m rr aa cs1 → kR cs1 35 k = so → kI cs1 36 k = sn → kR cs1 37 k = nm → y ≤ m → (∀ y', y' < y → COLT c so sn nm col (rr y') (aa y') y' cs1) → c_X0_checkColumns_L2 F lf cs1 k col (nI y) = some cs9 → kI cs9 320 t = 0 → ∀ y', y' < m → COLT c so sn nm col (rr y') (aa y') y' cs9 := by
  intro lf
  induction lf with
  | zero => intro y cs1 cs9 _ _ _ _ _ _ g; cases (show (none : Option CS) = _ from g)
  | succ lf ih =>
    intro y cs1 cs9 p h35 h36 h37 hy ty g f9
    by_cases q : y < m
    · obtain ⟨c1, v, c2, g1, g2, g3, g4⟩ := col_I hF hFF p.ck hck p.cn p.cm q (p.rt y q) p.cw (p.r97 y q) g
      obtain ⟨f1, k1, t1⟩ := col_S hF hFF p.ck hck hcc htc p.cn p.cm q (p.rt y q) p.cw p.ap g1 g2 g3
      have p2 := p.kf f1 hcc htc
      have f2 := (colz_F hF hFF hck hcc htc lf (y + 1) c2 cs9 p2 (by omega) g4).2.1 f9
      have t1' := t1 f2
      rw [h35, h36, h37] at t1'
      have ap := p.ap
      rw [h35, h36, h37] at ap
      refine ih (y + 1) c2 cs9 p2 ?_ ?_ ?_ (by omega) (fun y' hy' => ?_) g4 f9
      · rw [(f1.at' (x := 35) (j := k) (by decide) (by decide) (by decide) (by decide) (by omega)).r]; exact h35
      · rw [(f1.at' (x := 36) (j := k) (by decide) (by decide) (by decide) (by decide) (by omega)).i]; exact h36
      · rw [(f1.at' (x := 37) (j := k) (by decide) (by decide) (by decide) (by decide) (by omega)).r]; exact h37
      · by_cases e : y' = y
        · rw [e]
          exact t1'
        · obtain ⟨w1, w2⟩ := ty y' (by omega)
          have nd := dj y' y (by omega) q e
          have rg := p.rt y' (by omega)
          refine ⟨w1.kf f1 ap nd, ?_⟩
          rw [k1 y' e, (f1.2.2.2.2 (rr y') (nd (rr y') rg.1 (Nat.le_refl _))).2]
          exact w2
    · have e : y = m := by omega
      rw [e] at g ty
      rw [col_E p.cm g]
      exact ty
theorem colz_A {t c cap s k : Nat} {F m col : Nat} {V : VT} {rr aa : Nat → Nat} {cs cs9 : CS} (hF : 10000 ≤ F) (hFF : F < 1000000) (hck : c ≠ k) (hcc : c ≠ col) (htc : t ≠ col) (dj : ∀ y y', y < m → y' < m → y ≠ y' → ∀ z, aa y ≤ z → z ≤ rr y → ¬ (aa y' ≤ z ∧ z ≤ rr y')) (p : CPR0 V t c cap s k col m rr aa cs) (g : c_X0_checkColumns F cs k col = some cs9) : KFR t c col (CRG m rr aa) cs cs9 ∧ (kI cs9 320 t = 0 → ∀ y, y < m → COLT c (kR cs 35 k) (kI cs 36 k) (kR cs 37 k) col (rr y) (aa y) y cs9) := ⟨colz_F hF hFF hck hcc htc F 0 cs cs9 p (Nat.zero_le _) g, fun f9 => colz_T hF hFF hck hcc htc dj F 0 cs cs9 p rfl rfl rfl (Nat.zero_le _) (fun y hy => absurd hy (by omega)) g f9⟩
/-- bounds -/
theorem ref_N {F t c i : Nat} {a b : Int32} {cs cs1 : CS} (e : i = t) (hv : c_X9_refuse F cs i a b = some cs1) : NFR t c (fun _ => False) cs cs1 := by
  rw [e] at hv
  unfold c_X9_refuse c_X9_refuse_b17 at hv
  replace hv := ob hv; obtain ⟨v1, g1, hv⟩ := hv
  by_cases y : v1 = 0
  · replace hv := (if_pos y).symm.trans hv
    replace hv := ob hv; obtain ⟨c3, g3, hv⟩ := hv
    replace hv := ob hv; obtain ⟨c4, g4, hv⟩ := hv
    have e1 := Option.some.inj hv
    obtain ⟨-, s3⟩ := pI_some g3
    obtain ⟨-, s4⟩ := pI_some g4
    rw [← e1, ← s4, ← s3]
    exact ⟨rfl, fun _ => (gI_some g1).2.trans y, fun x j q1 q2 => (AT.sI (by omega)).trans (AT.sI (by omega)), fun _ _ => ⟨rfl, rfl⟩, fun _ _ => ⟨rfl, rfl⟩⟩
  · replace hv := (if_neg y).symm.trans hv
    rw [← Option.some.inj hv]
    exact NFR.refl
theorem bound_F {t c cap s k : Nat} {F : Nat} {u p : Int32} {cs cs9 : CS} (h : CK t c cap s k cs) (g : c_X0_checkBound F cs k u p = some cs9) : NFR t c (fun _ => False) cs cs9 := by
  unfold c_X0_checkBound c_X0_checkBound_b23 at g
  by_cases y : u = 0
  · replace g := (if_pos y).symm.trans g
    rw [← Option.some.inj g]
    exact NFR.refl
  · replace g := (if_neg y).symm.trans g
    replace g := ob g; obtain ⟨v2, g2, g⟩ := g
    replace g := ob g; obtain ⟨i3, g3, g⟩ := g
    replace g := ob g; obtain ⟨v4, g4, g⟩ := g
    by_cases z : v4 = 0
    · replace g := (if_pos z).symm.trans g
      replace g := ob g; obtain ⟨v6, g6, g⟩ := g
      replace g := ob g; obtain ⟨i8, g8, g⟩ := g
      replace g := ob g; obtain ⟨w9, g9, g⟩ := g
      replace g := ob g; obtain ⟨c7, g7, g⟩ := g
      rw [g8] at g6
      rw [← Option.some.inj g]
      exact ref_N (Option.some.inj ((gR_some g6).2.symm.trans h.r32)) g7
    · replace g := (if_neg z).symm.trans g
      rw [← Option.some.inj g]
      exact NFR.refl

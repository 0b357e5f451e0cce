/-! truths and columns that were checked, the class alone -/
/-- a root and its EXPR -/
def RTT (V : VT) (s r a : Nat) : Prop := a ≤ r ∧ r < s ∧ TR V (r + 1 - a) r a r
theorem RTT.vf {V : VT} {s r a : Nat} (h : RTT V s r a) : vf V r = nI a := (TR.vf' h.2.2).2
theorem ck_ty {t c cap s k : Nat} {F x : Nat} {cs : CS} (h : CK t c cap s k cs) (hx : x < s) : c_X0_typeOf F cs k (nI x) = some (kA cs 73 c x) := by
  unfold c_X0_typeOf c_X0_typeOf_b24
  rw [ck_c h, ckE_ok h.oc, ob_s, ck_has h hx, ob_s, if_neg (by decide), ck_c h, ck_73 h hx]
theorem expr_V {t c cap s k : Nat} {F r a : Nat} {V : VT} {cs cs9 : CS} (hF : 10000 ≤ F) (hFF : F < 1000000) (h : CK t c cap s k cs) (hck : c ≠ k) (hcn : ∀ n, kR cs 37 k = some n → c ≠ n) (rt : RTT V s r a) (cw : ∀ z, z < s → CW c cs z = (V z).1) (g : c_X0_checkExpr F cs k (nI r) = some cs9) : NFR t c (fun y => a ≤ y ∧ y ≤ r) cs cs9 ∧ (kI cs9 320 t = 0 → WTR c a r (kR cs 35 k) (kI cs 36 k) (kR cs 37 k) cs9) := by
  obtain ⟨r1, r2, r3⟩ := rt
  exact expr_T hF hFF h hck hcn r2 r1 (by rw [(CW.e (cw r r2)).2.1]; exact (TR.vf' r3).2) (fun y y1 y2 _ => ACF.of r3 y1 y2 (fun z hz => cw z (by omega))) g
theorem truth_T {t c cap s k : Nat} {F r a : Nat} {V : VT} {cs cs9 : CS} (hF : 10000 ≤ F) (hFF : F < 1000000) (h : CK t c cap s k cs) (hck : c ≠ k) (hcn : ∀ n, kR cs 37 k = some n → c ≠ n) (rt : RTT V s r a) (cw : ∀ z, z < s → CW c cs z = (V z).1) (g : c_X0_checkTruth F cs k (nI r) = some cs9) : NFR t c (fun y => a ≤ y ∧ y ≤ r) cs cs9 ∧ (kI cs9 320 t = 0 → WTR c a r (kR cs 35 k) (kI cs 36 k) (kR cs 37 k) cs9 ∧ ¬ kA cs9 73 c r &&& 2 = 0) := by
  unfold c_X0_checkTruth c_X0_checkTruth_b43 at g
  replace g := ob g; obtain ⟨w1, g1, g⟩ := g
  replace g := ob g; obtain ⟨c1, h1, g⟩ := g
  obtain ⟨n1, t1⟩ := expr_V hF hFF h hck hcn rt cw h1
  have k1 := n1.ck h
  have rs := rt.2.1
  rw [ck_c k1, ckE_ok k1.oc, ob_s, ck_has k1 rs, ob_s, if_neg (by decide), ckE_ok k1.o, ob_s, ck_ty k1 rs, ob_s] at g
  by_cases w : kA c1 73 c r &&& 2 = 0
  · rw [if_pos w, gR_ok k1.o, ob_s, ck_c k1, ck_66 k1 rs, k1.r32, ob_s, ckE_ok k1.ot, ob_s] at g
    replace g := ob g; obtain ⟨c2, h2, g⟩ := g
    have n2 : PFN t c k (nI r) c1 c2 := PFN.ref (by rw [gR_ok k1.o, k1.r32]) h2
    rw [← Option.some.inj g]
    refine ⟨n1.trans ((n2 k1.r34 k1.r32).mono (fun y hy => ?_)), fun f => absurd f (ref_x (by decide) h2).1⟩
    rw [nI_clamp (by have := h.sc; have := h.cp; omega)] at hy
    have := rt.1
    omega
  · rw [if_neg w] at g
    rw [← Option.some.inj g]
    exact ⟨n1, fun f => ⟨t1 f, w⟩⟩
theorem truth_N {t c cap s k : Nat} {F : Nat} {cs cs9 : CS} (h : CK t c cap s k cs) (g : c_X0_checkTruth F cs k (-1) = some cs9) : cs9 = cs := (Option.some.inj ((truth_no h).symm.trans g)).symm
/-- a type that has settled -/
def stt (v : Int32) : Int32 := if v = 2 then 2 else 1
theorem set_x {F col y : Nat} {v : Int32} {cs cs9 : CS} {m : Nat} (hc : CLM col m cs) (hy : y < m) (g : c_X2_settleType F cs col (nI y) v = some cs9) : cs9 = sA cs 100 col y (stt v) := by
  have m8 := hc.m8
  unfold c_X2_settleType c_X2_settleType_b23 c_X2_settleType_b24 at g
  rw [ckE_ok hc.e, ob_s, clm_has hc hy, ob_s, if_neg (by decide)] at g
  obtain ⟨j, hj⟩ := hc.p100
  rw [gA_ok hc.e, hj, ob_s] at g
  unfold stt
  by_cases w : v = 2
  · rw [if_pos w, wA_n hc.e100 hj (by rw [hc.l100]; omega) (by rw [hc.l100]; omega), ob_s] at g
    rw [if_pos w]
    exact (Option.some.inj g).symm
  · rw [if_neg w, wA_n hc.e100 hj (by rw [hc.l100]; omega) (by rw [hc.l100]; omega), ob_s] at g
    rw [if_neg w]
    exact (Option.some.inj g).symm
/-- one column: its EXPR, its type -/
def COLT (c : Nat) (so : Option Nat) (sn : Int32) (nm : Option Nat) (col r a y : Nat) (cs : CS) : Prop := WTR c a r so sn nm cs ∧ kA cs 100 col y = stt (kA cs 73 c r)
theorem CLM.fr {col m : Nat} {a d : CS} (h : CLM col m a) (em : EM a d) (g : ∀ x, 96 ≤ x → x ≤ 100 → kP d x col = kP a x col ∧ kL d x col = kL a x col) (h96 : kI d 96 col = kI a 96 col) : CLM col m d := ⟨em _ h.e, em _ h.e97, by rw [(g 97 (by omega) (by omega)).1]; exact h.p97, by rw [(g 97 (by omega) (by omega)).2]; exact h.l97, em _ h.e98, by rw [(g 98 (by omega) (by omega)).1]; exact h.p98, by rw [(g 98 (by omega) (by omega)).2]; exact h.l98, em _ h.e99, by rw [(g 99 (by omega) (by omega)).1]; exact h.p99, by rw [(g 99 (by omega) (by omega)).2]; exact h.l99, em _ h.e100, by rw [(g 100 (by omega) (by omega)).1]; exact h.p100, by rw [(g 100 (by omega) (by omega)).2]; exact h.l100, by rw [h96]; exact h.sz, h.m8⟩
/-- where WTR looks: the SOURCES' columns and the names' are not at col -/
def APA (so : Option Nat) (sn : Int32) (nm : Option Nat) (col : Nat) (cs : CS) : Prop := (∀ o i oo cl, so = some o → i < 2147483648 → nI i < sn → kQ cs 195 o i = some oo → kR cs 235 oo = some cl → cl ≠ col) ∧ ∀ n, nm = some n → n ≠ col
theorem WTR.c100 {c a r col y : Nat} {so : Option Nat} {sn : Int32} {nm : Option Nat} {v : Int32} {cs : CS} (h : WTR c a r so sn nm cs) (hc : c ≠ col) (ap : APA so sn nm col cs) : WTR c a r so sn nm (sA cs 100 col y v) := by
  refine h.kp (fun x hx => AT.sA (by omega)) (fun z _ _ => ?_) (fun o ho => ⟨AT.sA (by omega), fun i oo hi1 hi2 hq => ⟨AT.sA (by omega), AT.sA (by omega), fun cl hcl => ⟨AT.sA (by omega), ?_⟩⟩⟩) (fun n hn => ⟨AT.sA (by omega), ?_⟩)
  · exact ⟨fun _ => by rw [(AT.sA (by omega)).a], by rw [(AT.sA (by omega)).a]⟩
  · have := ap.1 o i oo cl ho hi1 hi2 hq hcl
    exact AT.sA (by omega)
  · have := ap.2 n hn
    exact AT.sA (by omega)
/-- a root and its EXPR behind another's check -/
theorem WTR.nf {t c a r : Nat} {so : Option Nat} {sn : Int32} {nm : Option Nat} {Nd : Nat → Prop} {cs cs' : CS} (h : WTR c a r so sn nm cs) (g : NFR t c Nd cs cs') (hd : ∀ z, a ≤ z → z ≤ r → ¬ Nd z) : WTR c a r so sn nm cs' := by
  have at2 : ∀ x j, x ≠ 72 → x ≠ 73 → x ≠ 320 → x ≠ 321 → AT cs cs' x j := fun x j _ _ _ _ => g.2.2.1 x j (by omega) (by omega)
  exact h.kp (fun x hx => at2 x c (by omega) (by omega) (by omega) (by omega)) (fun z z1 z2 => ⟨fun _ => (g.2.2.2.2 z (hd z z1 z2)).1, (g.2.2.2.2 z (hd z z1 z2)).2⟩) (fun o _ => ⟨at2 _ _ (by decide) (by decide) (by decide) (by decide), fun i oo _ _ _ => ⟨at2 _ _ (by decide) (by decide) (by decide) (by decide), at2 _ _ (by decide) (by decide) (by decide) (by decide), fun cl _ => ⟨at2 _ _ (by decide) (by decide) (by decide) (by decide), at2 _ _ (by decide) (by decide) (by decide) (by decide)⟩⟩⟩) (fun n _ => ⟨at2 _ _ (by decide) (by decide) (by decide) (by decide), at2 _ _ (by decide) (by decide) (by decide) (by decide)⟩)
/-- what a column's check writes -/
def KFR (t c col : Nat) (Nd : Nat → Prop) (a d : CS) : Prop := d.1 = a.1 ∧ (kI d 320 t = 0 → kI a 320 t = 0) ∧ (∀ x j, ¬ (j = c ∧ (x = 72 ∨ x = 73)) → ¬ (j = t ∧ (x = 320 ∨ x = 321)) → ¬ (j = col ∧ x = 100) → AT a d x j) ∧ (∀ x j, kP d x j = kP a x j ∧ kL d x j = kL a x j) ∧ ∀ y, ¬ Nd y → kA d 72 c y = kA a 72 c y ∧ kA d 73 c y = kA a 73 c y
theorem KFR.refl {t c col : Nat} {Nd : Nat → Prop} {a : CS} : KFR t c col Nd a a := ⟨rfl, id, fun _ _ _ _ _ => AT.refl, fun _ _ => ⟨rfl, rfl⟩, fun _ _ => ⟨rfl, rfl⟩⟩
theorem KFR.trans {t c col : Nat} {Nd : Nat → Prop} {a b d : CS} (h : KFR t c col Nd a b) (g : KFR t c col Nd b d) : KFR t c col Nd a d := ⟨g.1.trans h.1, fun w => h.2.1 (g.2.1 w), fun x j h1 h2 h3 => (h.2.2.1 x j h1 h2 h3).trans (g.2.2.1 x j h1 h2 h3), fun x j => ⟨(g.2.2.2.1 x j).1.trans (h.2.2.2.1 x j).1, (g.2.2.2.1 x j).2.trans (h.2.2.2.1 x j).2⟩, fun y hy => ⟨(g.2.2.2.2 y hy).1.trans (h.2.2.2.2 y hy).1, (g.2.2.2.2 y hy).2.trans (h.2.2.2.2 y hy).2⟩⟩
theorem KFR.of {t c col : Nat} {Nd : Nat → Prop} {a d : CS} (h : NFR t c Nd a d) : KFR t c col Nd a d := ⟨h.1, h.2.1, fun x j h1 h2 _ => h.2.2.1 x j h1 h2, h.2.2.2.1, h.2.2.2.2⟩
theorem KFR.mono {t c col : Nat} {Nd Nd' : Nat → Prop} {a d : CS} (h : KFR t c col Nd a d) (h2 : ∀ y, Nd y → Nd' y) : KFR t c col Nd' a d := ⟨h.1, h.2.1, h.2.2.1, h.2.2.2.1, fun y hy => h.2.2.2.2 y (fun w => hy (h2 y w))⟩
theorem KFR.cf {t c col k : Nat} {Ob Nd : Nat → Prop} {a d : CS} (h : KFR t c col Nd a d) (hO : Ob col) : CFN t c k Ob Nd a d := ⟨h.1, h.2.1, fun x j q1 q2 _ q4 => h.2.2.1 x j q1 q2 (fun w => q4 ⟨by rw [w.1]; exact hO, by omega⟩), fun x j _ _ => h.2.2.2.1 x j, fun y hy => ⟨fun _ => (h.2.2.2.2 y hy).1, (h.2.2.2.2 y hy).2⟩⟩
theorem KFR.em {t c col : Nat} {Nd : Nat → Prop} {a d : CS} (h : KFR t c col Nd a d) : EM a d := EM.of (congrArg (fun z => z.2.2) h.1)
theorem KFR.ck {t c col k cap s : Nat} {Nd : Nat → Prop} {a d : CS} (h : KFR t c col Nd a d) (g : CK t c cap s k a) : CK t c cap s k d := (h.cf (k := k) (Ob := fun _ => True) trivial).ck g
theorem KFR.clm {t c col m : Nat} {Nd : Nat → Prop} {a d : CS} (h : KFR t c col Nd a d) (hc : c ≠ col) (ht : t ≠ col) (g : CLM col m a) : CLM col m d := g.fr h.em (fun x _ _ => h.2.2.2.1 x col) (h.2.2.1 96 col (by omega) (by omega) (by omega)).i
theorem KFR.cw {t c col : Nat} {V : VT} {s : Nat} {Nd : Nat → Prop} {a d : CS} (h : KFR t c col Nd a d) (cw : ∀ z, z < s → CW c a z = (V z).1) : ∀ z, z < s → CW c d z = (V z).1 := fun z hz => by
  have g : ∀ x, 65 ≤ x → x ≤ 71 → AT a d x c := fun x x1 x2 => h.2.2.1 x c (by omega) (by omega) (by omega)
  have q := cw z hz
  unfold CW at q ⊢
  rw [(g 65 (by omega) (by omega)).a, (g 67 (by omega) (by omega)).a, (g 68 (by omega) (by omega)).a, (g 66 (by omega) (by omega)).a, (g 69 (by omega) (by omega)).b, (g 71 (by omega) (by omega)).a, (g 70 (by omega) (by omega)).b]
  exact q
/-- one column is checked -/
theorem col_S {t c cap s k : Nat} {F y r a m col : Nat} {V : VT} {cs c1 c2 : CS} {v : Int32} (hF : 10000 ≤ F) (hFF : F < 1000000) (h : CK t c cap s k cs) (hck : c ≠ k) (hcc : c ≠ col) (htc : t ≠ col) (hcn : ∀ n, kR cs 37 k = some n → c ≠ n) (hm : CLM col m cs) (hy : y < m) (rt : RTT V s r a) (cw : ∀ z, z < s → CW c cs z = (V z).1) (ap : APA (kR cs 35 k) (kI cs 36 k) (kR cs 37 k) col cs) (g1 : c_X0_checkExpr F cs k (nI r) = some c1) (g2 : c_X0_typeOf F c1 k (nI r) = some v) (g3 : c_X2_settleType F c1 col (nI y) v = some c2) : KFR t c col (fun z => a ≤ z ∧ z ≤ r) cs c2 ∧ (∀ z, z ≠ y → kA c2 100 col z = kA cs 100 col z) ∧ (kI c2 320 t = 0 → COLT c (kR cs 35 k) (kI cs 36 k) (kR cs 37 k) col r a y c2) := by
  obtain ⟨n1, t1⟩ := expr_V hF hFF h hck hcn rt cw g1
  have k1 := n1.ck h
  have e2 := set_x ((KFR.of (col := col) n1).clm hcc htc hm) hy g3
  rw [ck_ty k1 rt.2.1] at g2
  have ev := Option.some.inj g2
  have f100 : ∀ x j, x ≠ 72 → x ≠ 73 → x ≠ 320 → x ≠ 321 → AT cs c1 x j := fun x j _ _ _ _ => n1.2.2.1 x j (by omega) (by omega)
  have kf2 : KFR t c col (fun z => a ≤ z ∧ z ≤ r) c1 c2 := by
    rw [e2]
    exact ⟨rfl, id, fun x j q1 q2 q3 => AT.sA (by omega), fun _ _ => ⟨rfl, rfl⟩, fun z _ => ⟨by rw [(AT.sA (by omega)).a], by rw [(AT.sA (by omega)).a]⟩⟩
  refine ⟨(KFR.of n1).trans kf2, fun z hz => ?_, fun f => ?_⟩
  · rw [e2, kA_s, pk_un hz, (f100 100 col (by decide) (by decide) (by decide) (by decide)).a]
  · have w := t1 (kf2.2.1 f)
    refine ⟨?_, ?_⟩
    · rw [e2]
      refine w.c100 hcc ⟨fun o i oo cl w1 u1 u2 w2 w3 => ap.1 o i oo cl w1 u1 u2 ?_ ?_, ap.2⟩
      · rw [← (f100 195 o (by decide) (by decide) (by decide) (by decide)).q]
        exact w2
      · rw [← (f100 235 oo (by decide) (by decide) (by decide) (by decide)).r]
        exact w3
    · rw [e2, kA_w, (AT.sA (by omega)).a, ev]

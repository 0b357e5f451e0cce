/-! an EXPR that was checked, the class alone -/
/-- the aggregate that is seen behind n nodes -/
def agv (v : Nat → Int32) (r a : Nat) : Nat → Int32
  | 0 => -1
  | n + 1 => if v (a + n) ≤ nI (a + n) then agv v r a n else if nI r < v (a + n) then agv v r a n else v (a + n)
def NTF (c o : Nat) (sn : Int32) (y : Nat) (cs : CS) : Prop := ∃ s oo cl col : Nat, s < 2147483648 ∧ nI s < sn ∧ kQ cs 195 o s = some oo ∧ kR cs 235 oo = some cl ∧ col < 8 ∧ nI col < kI cs 96 cl ∧ kA cs 72 c y = kI cs 234 oo + nI col ∧ kA cs 73 c y = kA cs 100 cl col
/-- one node: a in a SOURCE or in columns, or an act -/
def WTN (c a r : Nat) (so : Option Nat) (sn : Int32) (nm : Option Nat) (y : Nat) (cs : CS) : Prop := (kA cs 65 c y = 39 → ((nm = none ∨ nI y < agv (kA cs 71 c) r a (y + 1 - a)) → ∃ o, so = some o ∧ NTF c o sn y cs) ∧ ∀ n, nm = some n → ¬ nI y < agv (kA cs 71 c) r a (y + 1 - a) → NTN c n y cs) ∧ (kA cs 65 c y ≠ 39 → ATY a c cs y)
def WTR (c a r : Nat) (so : Option Nat) (sn : Int32) (nm : Option Nat) (cs : CS) : Prop := ∀ y, a ≤ y → y ≤ r → WTN c a r so sn nm y cs
/-- kept where the nodes are kept, and the columns -/
theorem WTN.kp {c a r y : Nat} {so : Option Nat} {sn : Int32} {nm : Option Nat} {cs cs' : CS} (h : WTN c a r so sn nm y cs) (ay : a ≤ y) (hn : ∀ x, x = 65 ∨ x = 67 ∨ x = 71 → AT cs cs' x c) (hd : ∀ z, a ≤ z → z ≤ y → (kA cs 65 c z = 39 → kA cs' 72 c z = kA cs 72 c z) ∧ kA cs' 73 c z = kA cs 73 c z) (hs : ∀ o, so = some o → AT cs cs' 195 o ∧ ∀ i oo, i < 2147483648 → nI i < sn → kQ cs 195 o i = some oo → AT cs cs' 235 oo ∧ AT cs cs' 234 oo ∧ ∀ cl, kR cs 235 oo = some cl → AT cs cs' 96 cl ∧ AT cs cs' 100 cl) (hm : ∀ n, nm = some n → AT cs cs' 96 n ∧ AT cs cs' 100 n) : WTN c a r so sn nm y cs' := by
  unfold WTN
  rw [(hn 65 (by omega)).a, (hn 71 (by omega)).a]
  refine ⟨fun hk => ⟨fun w => ?_, fun n hn' w => ?_⟩, fun hk => ?_⟩
  · obtain ⟨o, e, s, oo, cl, col, q1, q2, q3, q4, q5, q6, q7, q8⟩ := (h.1 hk).1 w
    obtain ⟨a1, a2⟩ := hs o e
    obtain ⟨b1, b2, b3⟩ := a2 s oo q1 q2 q3
    obtain ⟨d1, d2⟩ := b3 cl q4
    exact ⟨o, e, s, oo, cl, col, q1, q2, by rw [a1.q]; exact q3, by rw [b1.r]; exact q4, q5, by rw [d1.i]; exact q6, by rw [(hd y ay (Nat.le_refl _)).1 hk, b2.i]; exact q7, by rw [(hd y ay (Nat.le_refl _)).2, d2.a]; exact q8⟩
  · obtain ⟨col, q1, q2, q3, q4⟩ := (h.1 hk).2 n hn' w
    obtain ⟨d1, d2⟩ := hm n hn'
    exact ⟨col, q1, by rw [d1.i]; exact q2, by rw [(hd y ay (Nat.le_refl _)).1 hk]; exact q3, by rw [(hd y ay (Nat.le_refl _)).2, d2.a]; exact q4⟩
  · obtain ⟨q1, q2, q3, q4⟩ := h.2 hk
    unfold ATY
    rw [(hn 65 (by omega)).a, (hn 67 (by omega)).a]
    refine ⟨fun w1 w2 => ?_, fun w1 g w2 w3 w4 => ?_, fun w1 g w2 w3 w4 => ?_, fun w1 => ?_⟩
    · rw [(hd (y - 1) (by omega) (by omega)).2]
      exact q1 w1 w2
    · rw [(hd (y - 1) (by omega) (by omega)).2, (hd (g - 1) (by omega) (by omega)).2]
      exact q2 w1 g w2 w3 w4
    · rw [(hd y (by omega) (by omega)).2, (hd (y - 1) (by omega) (by omega)).2, (hd (g - 1) (by omega) (by omega)).2]
      exact q3 w1 g w2 w3 w4
    · rw [(hd y (by omega) (by omega)).2]
      exact q4 w1
theorem WTR.kp {c a r : Nat} {so : Option Nat} {sn : Int32} {nm : Option Nat} {cs cs' : CS} (h : WTR c a r so sn nm cs) (hn : ∀ x, x = 65 ∨ x = 67 ∨ x = 71 → AT cs cs' x c) (hd : ∀ z, a ≤ z → z ≤ r → (kA cs 65 c z = 39 → kA cs' 72 c z = kA cs 72 c z) ∧ kA cs' 73 c z = kA cs 73 c z) (hs : ∀ o, so = some o → AT cs cs' 195 o ∧ ∀ i oo, i < 2147483648 → nI i < sn → kQ cs 195 o i = some oo → AT cs cs' 235 oo ∧ AT cs cs' 234 oo ∧ ∀ cl, kR cs 235 oo = some cl → AT cs cs' 96 cl ∧ AT cs cs' 100 cl) (hm : ∀ n, nm = some n → AT cs cs' 96 n ∧ AT cs cs' 100 n) : WTR c a r so sn nm cs' := fun y h1 h2 => (h y h1 h2).kp h1 hn (fun z z1 z2 => hd z z1 (by omega)) hs hm
/-- one node of the way -/
def STP (F k i : Nat) (ag : Int32) (nm : Option Nat) (kd : Int32) (cs1 cs2 : CS) : Prop := (kd = 39 ∧ (nm = none ∨ ¬ ag ≤ nI i) ∧ c_X0_findInSources F cs1 k (nI i) = some cs2) ∨ (kd = 39 ∧ (∃ n, nm = some n ∧ ag ≤ nI i ∧ c_X0_findInNames F cs1 k (nI i) n = some cs2)) ∨ (kd ≠ 39 ∧ c_X0_checkAct F cs1 k (nI i) = some cs2)
theorem b72_S {t c cap s k : Nat} {F i : Nat} {R ag : Int32} {rc : CS → Nat → Int32 → Int32 → Int32 → Option CS} {cs1 cs9 : CS} (h : CK t c cap s k cs1) (hi : i < s) (g : c_X0_checkExpr_b72 F rc cs1 k R ag (nI i) = some cs9) : ∃ cs2, STP F k i ag (kR cs1 37 k) (kA cs1 65 c i) cs1 cs2 ∧ rc cs2 k R ag (nI (i + 1)) = some cs9 := by
  have b123 : ∀ cs2, c_X0_checkExpr_b123 F rc cs2 k R ag (nI i) = some cs9 → rc cs2 k R ag (nI (i + 1)) = some cs9 := fun cs2 w => by
    unfold c_X0_checkExpr_b123 at w
    rw [nI_1] at w
    exact w
  have b106 : c_X0_checkExpr_b106 F rc cs1 k R ag (nI i) = some cs9 → ∃ cs2, c_X0_findInSources F cs1 k (nI i) = some cs2 ∧ rc cs2 k R ag (nI (i + 1)) = some cs9 := fun w => by
    unfold c_X0_checkExpr_b106 at w
    replace w := ob w; obtain ⟨w1, g1, w⟩ := w
    replace w := ob w; obtain ⟨c2, g2, w⟩ := w
    exact ⟨c2, g2, b123 c2 w⟩
  unfold c_X0_checkExpr_b72 at g
  rw [ck_c h, ck_65 h hi] at g
  by_cases q : kA cs1 65 c i = 39
  · rw [if_pos q, gR_ok h.o, ob_s] at g
    cases hn : kR cs1 37 k with
    | none =>
      rw [hn] at g
      replace g := oc_n.symm.trans g
      obtain ⟨c2, g1, g2⟩ := b106 g
      exact ⟨c2, Or.inl ⟨q, Or.inl rfl, g1⟩, g2⟩
    | some n =>
      rw [hn] at g
      replace g := oc_s.symm.trans g
      by_cases q2 : ag ≤ nI i
      · replace g := (if_pos q2).symm.trans g
        replace g := ob g; obtain ⟨v9, g9, g⟩ := g
        replace g := ob g; obtain ⟨i10, g10, g⟩ := g
        replace g := ob g; obtain ⟨w12, g12, g⟩ := g
        replace g := ob g; obtain ⟨c11, g11, g⟩ := g
        have e9 := Option.some.inj g9
        rw [← e9] at g10
        rw [← Option.some.inj g10] at g11
        exact ⟨c11, Or.inr (Or.inl ⟨q, n, rfl, q2, g11⟩), b123 c11 g⟩
      · replace g := (if_neg q2).symm.trans g
        obtain ⟨c2, g1, g2⟩ := b106 g
        exact ⟨c2, Or.inl ⟨q, Or.inr q2, g1⟩, g2⟩
  · rw [if_neg q] at g
    replace g := ob g; obtain ⟨w14, g14, g⟩ := g
    replace g := ob g; obtain ⟨c13, g13, g⟩ := g
    exact ⟨c13, Or.inr (Or.inr ⟨q, g13⟩), b123 c13 g⟩
theorem L24_S {t c cap s k : Nat} {F lf i r a : Nat} {cs1 cs9 : CS} (h : CK t c cap s k cs1) (hr : r < s) (ai : a ≤ i) (hi : i ≤ r) (f0 : kI cs1 320 t = 0) (g : c_X0_checkExpr_L24 F (lf + 1) cs1 k (nI r) (agv (kA cs1 71 c) r a (i - a)) (nI i) = some cs9) : ∃ cs2, STP F k i (agv (kA cs1 71 c) r a (i + 1 - a)) (kR cs1 37 k) (kA cs1 65 c i) cs1 cs2 ∧ c_X0_checkExpr_L24 F lf cs2 k (nI r) (agv (kA cs1 71 c) r a (i + 1 - a)) (nI (i + 1)) = some cs9 := by
  have sp := h.sc
  have cp := h.cp
  have fau : c_X0_isFaulty F cs1 k = some 0 := by
    unfold c_X0_isFaulty c_X0_isFaulty_b15
    rw [ck_t h, gI_ok h.ot, ob_s, if_pos f0]
    rfl
  have ea : agv (kA cs1 71 c) r a (i + 1 - a) = if kA cs1 71 c i ≤ nI i then agv (kA cs1 71 c) r a (i - a) else if nI r < kA cs1 71 c i then agv (kA cs1 71 c) r a (i - a) else kA cs1 71 c i := by
    rw [show i + 1 - a = (i - a) + 1 by omega]
    show (if kA cs1 71 c (a + (i - a)) ≤ nI (a + (i - a)) then _ else if nI r < kA cs1 71 c (a + (i - a)) then _ else kA cs1 71 c (a + (i - a))) = _
    rw [show a + (i - a) = i by omega]
  rw [c_X0_checkExpr_L24, if_neg (nI_nlt (a := r) (b := i) (by omega) (by omega)), ckE_ok h.o, ob_s, fau, ob_s, if_pos rfl, ck_c h, ck_71 h (show i < s by omega)] at g
  rw [ea]
  by_cases q1 : kA cs1 71 c i ≤ nI i
  · rw [if_pos q1] at g ⊢
    exact b72_S h (by omega) g
  · rw [if_neg q1, ck_c h, ck_71 h (show i < s by omega)] at g
    rw [if_neg q1]
    by_cases q2 : nI r < kA cs1 71 c i
    · rw [if_pos q2] at g ⊢
      exact b72_S h (by omega) g
    · rw [if_neg q2, ck_c h, ck_71 h (show i < s by omega)] at g
      rw [if_neg q2]
      exact b72_S h (by omega) g
theorem STP.cf {F t c k i : Nat} {ag kd : Int32} {nm : Option Nat} {cs1 cs2 : CS} (h34 : kR cs1 34 k = some c) (h32 : kR cs1 32 k = some t) (hi : i < 2147483648) (g : STP F k i ag nm kd cs1 cs2) : NFR t c (fun y => y = i) cs1 cs2 := by
  have e : ∀ d, PFN t c k (nI i) cs1 d → NFR t c (fun y => y = i) cs1 d := fun d w => (w h34 h32).mono (fun y hy => by rw [nI_clamp hi] at hy; exact hy)
  rcases g with ⟨-, -, g⟩ | ⟨-, n, -, -, g⟩ | ⟨-, g⟩
  · exact e _ (fn_c_X0_findInSources t c F cs1 k (nI i) cs2 g)
  · exact e _ (fn_c_X0_findInNames t c F cs1 k (nI i) n cs2 g)
  · exact e _ (fn_c_X0_checkAct t c F cs1 k (nI i) cs2 g)
/-- a whole EXPR: what is left alone -/
theorem L24_F {t c cap s k : Nat} {F r a : Nat} (hr : r < s) : ∀ (lf i : Nat) (cs1 cs9 : CS), CK t c cap s k cs1 → a ≤ i → i ≤ r + 1 → c_X0_checkExpr_L24 F lf cs1 k (nI r) (agv (kA cs1 71 c) r a (i - a)) (nI i) = some cs9 → NFR t c (fun y => a ≤ y ∧ y ≤ r) cs1 cs9 := by
  intro lf
  induction lf with
  | zero => intro i cs1 cs9 _ _ _ g; cases (show (none : Option CS) = _ from g)
  | succ lf ih =>
    intro i cs1 cs9 h ai hi g
    have sp := h.sc
    have cp := h.cp
    by_cases q : i ≤ r
    · by_cases f0 : kI cs1 320 t = 0
      · obtain ⟨cs2, g1, g2⟩ := L24_S h hr ai q f0 g
        have c1 := (g1.cf h.r34 h.r32 (by omega)).mono (fun y (hy : y = i) => (⟨by omega, by omega⟩ : a ≤ y ∧ y ≤ r))
        have k71 : kA cs2 71 c = kA cs1 71 c := (c1.2.2.1 71 c (by omega) (by omega)).a
        exact c1.trans (ih (i + 1) cs2 cs9 (c1.ck h) (by omega) (by omega) (by rw [k71]; exact g2))
      · have fau : c_X0_isFaulty F cs1 k = some 1 := by
          unfold c_X0_isFaulty c_X0_isFaulty_b15
          rw [ck_t h, gI_ok h.ot, ob_s, if_neg f0]
          rfl
        rw [c_X0_checkExpr_L24, if_neg (nI_nlt (a := r) (b := i) (by omega) (by omega)), ckE_ok h.o, ob_s, fau, ob_s, if_neg (by decide)] at g
        unfold c_X0_checkExpr_b129 at g
        rw [← Option.some.inj g]
        exact NFR.refl
    · rw [c_X0_checkExpr_L24, if_pos (nI_lt (by omega) (by omega))] at g
      unfold c_X0_checkExpr_b129 at g
      rw [← Option.some.inj g]
      exact NFR.refl
/-- and what has come of it -/
theorem L24_T {t c cap s k : Nat} {F r a : Nat} {so : Option Nat} {sn : Int32} {nm : Option Nat} (hF : 10000 ≤ F) (hFF : F < 1000000) (hr : r < s) (hck : c ≠ k) (hcn : ∀ n, nm = some n → c ≠ n) : ∀ (lf i : Nat) (cs1 cs9 : CS), CK t c cap s k cs1 → a ≤ i → i ≤ r + 1 → kR cs1 35 k = so → kI cs1 36 k = sn → kR cs1 37 k = nm → (∀ y, a ≤ y → y ≤ r → kA cs1 65 c y ≠ 39 → ACF c cs1 y) → (∀ y, a ≤ y → y < i → WTN c a r so sn nm y cs1) → c_X0_checkExpr_L24 F lf cs1 k (nI r) (agv (kA cs1 71 c) r a (i - a)) (nI i) = some cs9 → kI cs9 320 t = 0 → WTR c a r so sn nm cs9 := by
  intro lf
  induction lf with
  | zero => intro i cs1 cs9 _ _ _ _ _ _ _ _ g; cases (show (none : Option CS) = _ from g)
  | succ lf ih =>
    intro i cs1 cs9 h ai hi h35 h36 h37 ac ty g f9
    have sp := h.sc
    have cp := h.cp
    by_cases q : i ≤ r
    · have cf := L24_F hr (lf + 1) i cs1 cs9 h ai hi g
      have f0 := cf.2.1 f9
      obtain ⟨cs2, g1, g2⟩ := L24_S h hr ai q f0 g
      have c1 := g1.cf h.r34 h.r32 (by omega)
      have h2 := c1.ck h
      have at2 := c1.2.2.1
      have k71 : kA cs2 71 c = kA cs1 71 c := (at2 71 c (by omega) (by omega)).a
      have k65 : kA cs2 65 c = kA cs1 65 c := (at2 65 c (by omega) (by omega)).a
      have k67 : kA cs2 67 c = kA cs1 67 c := (at2 67 c (by omega) (by omega)).a
      have k68 : kA cs2 68 c = kA cs1 68 c := (at2 68 c (by omega) (by omega)).a
      have r35 : kR cs2 35 k = so := by rw [(at2 35 k (by omega) (by omega)).r]; exact h35
      have r36 : kI cs2 36 k = sn := by rw [(at2 36 k (by omega) (by omega)).i]; exact h36
      have r37 : kR cs2 37 k = nm := by rw [(at2 37 k (by omega) (by omega)).r]; exact h37
      have g2' : c_X0_checkExpr_L24 F lf cs2 k (nI r) (agv (kA cs2 71 c) r a (i + 1 - a)) (nI (i + 1)) = some cs9 := by rw [k71]; exact g2
      have f2 := (L24_F hr lf (i + 1) cs2 cs9 h2 (by omega) (by omega) g2').2.1 f9
      have hat : ∀ x j, x ≠ 72 → x ≠ 73 → x ≠ 320 → x ≠ 321 → AT cs1 cs2 x j := fun x j _ _ _ _ => at2 x j (by omega) (by omega)
      refine ih (i + 1) cs2 cs9 h2 (by omega) (by omega) r35 r36 r37 (fun y y1 y2 y3 => ?_) (fun y y1 y2 => ?_) g2' f9
      · have w := ac y y1 y2 (by rw [← k65]; exact y3)
        unfold ACF at w ⊢
        rw [k65, k67, k68]
        exact w
      · by_cases e : y = i
        · rw [e]
          refine ⟨fun hk => ⟨fun w => ?_, fun n hn w => ?_⟩, fun hk => ?_⟩
          · rw [k65] at hk
            rw [k71] at w
            have use : c_X0_findInSources F cs1 k (nI i) = some cs2 → ∃ o, so = some o ∧ NTF c o sn i cs2 := fun z => by
              unfold c_X0_findInSources at z
              obtain ⟨o, s0, oo, cl, col, q1, q2, q3, q4, q5, q6, q7, q8, q9⟩ := fs_T hck (by omega) F 0 0 cs1 cs2 (by omega) h.r34 h.r32 (Or.inl rfl) z f2
              rw [r35] at q1
              rw [r36] at q3
              exact ⟨o, q1, s0, oo, cl, col, q2, q3, q4, q5, q6, q7, q8, q9⟩
            rcases g1 with ⟨z1, z2, z3⟩ | ⟨z1, n, z2, z3, z4⟩ | ⟨z1, z2⟩
            · exact use z3
            · rw [h37] at z2
              rcases w with w | w
              · rw [w] at z2
                cases z2
              · exact absurd w (Int32.not_lt.mpr z3)
            · exact absurd hk z1
          · rw [k65] at hk
            rw [k71] at w
            rcases g1 with ⟨z1, z2, z3⟩ | ⟨z1, n', z2, z3, z4⟩ | ⟨z1, z2⟩
            · rcases z2 with z2 | z2
              · rw [h37, hn] at z2
                cases z2
              · exact absurd (Int32.not_lt.mp w) z2
            · rw [h37, hn] at z2
              rw [← Option.some.inj z2] at z4
              exact fn_T h.r34 h.r32 (hcn n hn) (by omega) z4 f2
            · exact absurd hk z1
          · rw [k65] at hk
            rcases g1 with ⟨z1, z2, z3⟩ | ⟨z1, n', z2, z3, z4⟩ | ⟨z1, z2⟩
            · exact absurd z1 hk
            · exact absurd z1 hk
            · exact act_T hF h (by omega) f0 (ac i ai q hk) z2 f2
        · refine (ty y y1 (by omega)).kp y1 (fun x hx => hat x c (by omega) (by omega) (by omega) (by omega)) (fun z z1 z2 => ⟨fun _ => (c1.2.2.2.2 z (by omega)).1, (c1.2.2.2.2 z (by omega)).2⟩) (fun o _ => ⟨hat _ _ (by decide) (by decide) (by decide) (by decide), fun i oo _ _ _ => ⟨hat _ _ (by decide) (by decide) (by decide) (by decide), hat _ _ (by decide) (by decide) (by decide) (by decide), fun cl _ => ⟨hat _ _ (by decide) (by decide) (by decide) (by decide), hat _ _ (by decide) (by decide) (by decide) (by decide)⟩⟩⟩) (fun n _ => ⟨hat _ _ (by decide) (by decide) (by decide) (by decide), hat _ _ (by decide) (by decide) (by decide) (by decide)⟩)
    · rw [c_X0_checkExpr_L24, if_pos (nI_lt (by omega) (by omega))] at g
      unfold c_X0_checkExpr_b129 at g
      rw [← Option.some.inj g]
      exact fun y y1 y2 => ty y y1 (by omega)
/-- an EXPR from its root -/
theorem expr_T {t c cap s k : Nat} {F r a : Nat} {cs cs9 : CS} (hF : 10000 ≤ F) (hFF : F < 1000000) (h : CK t c cap s k cs) (hck : c ≠ k) (hcn : ∀ n, kR cs 37 k = some n → c ≠ n) (hr : r < s) (ha : a ≤ r) (hf : kA cs 67 c r = nI a) (ac : ∀ y, a ≤ y → y ≤ r → kA cs 65 c y ≠ 39 → ACF c cs y) (g : c_X0_checkExpr F cs k (nI r) = some cs9) : NFR t c (fun y => a ≤ y ∧ y ≤ r) cs cs9 ∧ (kI cs9 320 t = 0 → WTR c a r (kR cs 35 k) (kI cs 36 k) (kR cs 37 k) cs9) := by
  unfold c_X0_checkExpr at g
  rw [ck_c h, ckE_ok h.oc, ob_s, ck_has h hr, ob_s, if_neg (by decide), ck_c h, ck_67 h hr, hf] at g
  have g' : c_X0_checkExpr_L24 F F cs k (nI r) (agv (kA cs 71 c) r a (a - a)) (nI a) = some cs9 := by
    rw [Nat.sub_self]
    exact g
  exact ⟨L24_F hr F a cs cs9 h (Nat.le_refl _) (by omega) g', fun f9 => L24_T hF hFF hr hck hcn F a cs cs9 h (Nat.le_refl _) (by omega) rfl rfl rfl ac (fun y y1 y2 => absurd y2 (by omega)) g' f9⟩

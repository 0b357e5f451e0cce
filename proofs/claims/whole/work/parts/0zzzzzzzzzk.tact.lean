/-! the types of acts, the class alone -/
def NUMK (v : Int32) : Prop := v = 40 ∨ v = 32 ∨ v = 61 ∨ v = 58 ∨ v = 45 ∨ v = 46 ∨ v = 47 ∨ v = 48 ∨ v = 49 ∨ v = 36 ∨ v = 33 ∨ v = 34 ∨ v = 35
/-- an act that was checked: g is where the part before it begins -/
def ATY (a c : Nat) (cs : CS) (y : Nat) : Prop := (kA cs 65 c y = 25 → a < y → ¬ kA cs 73 c (y - 1) &&& 2 = 0) ∧ ((kA cs 65 c y = 28 ∨ kA cs 65 c y = 29) → ∀ g, kA cs 67 c (y - 1) = nI g → a < g → g < y → ¬ kA cs 73 c (y - 1) &&& 2 = 0 ∧ ¬ kA cs 73 c (g - 1) &&& 2 = 0) ∧ (kA cs 65 c y = 19 → ∀ g, kA cs 67 c (y - 1) = nI g → a < g → g < y → kA cs 73 c y = kA cs 73 c (g - 1) &&& kA cs 73 c (y - 1)) ∧ (NUMK (kA cs 65 c y) → kA cs 73 c y = 1)
theorem ca_num {t c cap s k : Nat} {cs : CS} {F e : Nat} (h : CK t c cap s k cs) (he : e < s) (hk : kA cs 65 c e = 58 ∨ kA cs 65 c e = 45 ∨ kA cs 65 c e = 46 ∨ kA cs 65 c e = 47 ∨ kA cs 65 c e = 48 ∨ kA cs 65 c e = 49 ∨ kA cs 65 c e = 36 ∨ kA cs 65 c e = 33 ∨ kA cs 65 c e = 34 ∨ kA cs 65 c e = 35) : c_X0_checkAct F cs k (nI e) = Option.bind (c_X0_wantParts F cs k (nI e) 1 1) fun z => some z := by
  unfold c_X0_checkAct c_X0_checkAct_b263 c_X0_checkAct_b270
  rw [ck_c h, ck_65 h he]
  rcases hk with hk | hk | hk | hk | hk | hk | hk | hk | hk | hk <;> (rw [hk, if_neg (by decide), if_neg (by decide), if_neg (by decide), if_neg (by decide), if_neg (by decide), if_neg (by decide), if_neg (by decide), if_neg (by decide), if_neg (by decide), if_neg (by decide), if_neg (by decide), if_neg (by decide), if_neg (by decide), if_neg (by decide), if_neg (by decide), if_neg (by decide), if_neg (by decide), if_neg (by decide), if_neg (by decide), if_neg (by decide), ckE_ok h.o, ob_s])
theorem ca_tru {t c cap s k : Nat} {cs : CS} {F e : Nat} (h : CK t c cap s k cs) (he : e < s) (hk : kA cs 65 c e = 25 ∨ kA cs 65 c e = 28 ∨ kA cs 65 c e = 29) : c_X0_checkAct F cs k (nI e) = Option.bind (c_X0_wantParts F cs k (nI e) 2 2) fun z => some z := by
  unfold c_X0_checkAct c_X0_checkAct_b235 c_X0_checkAct_b270
  rw [ck_c h, ck_65 h he]
  rcases hk with hk | hk | hk
  · rw [hk, if_neg (by decide), if_neg (by decide), if_pos rfl, ckE_ok h.o, ob_s]
  · rw [hk, if_neg (by decide), if_neg (by decide), if_neg (by decide), if_neg (by decide), if_neg (by decide), if_pos rfl, ckE_ok h.o, ob_s]
  · rw [hk, if_neg (by decide), if_neg (by decide), if_neg (by decide), if_neg (by decide), if_neg (by decide), if_neg (by decide), if_pos rfl, ckE_ok h.o, ob_s]
theorem ca_cas {t c cap s k : Nat} {cs : CS} {F e : Nat} (h : CK t c cap s k cs) (he : e < s) (hk : kA cs 65 c e = 19) : c_X0_checkAct F cs k (nI e) = Option.bind (c_X0_checkCase F cs k (nI e)) fun z => some z := by
  unfold c_X0_checkAct c_X0_checkAct_b270
  rw [ck_c h, ck_65 h he, hk, if_pos rfl, ckE_ok h.o, ob_s]
theorem b106_R {F c k y : Nat} {R : Int32} {cs cs9 : CS} (hc : kR cs 34 k = some c) (hy : y < 2147483648) (h : c_X0_wantParts_b106 F cs k (nI y) R = some cs9) : kA cs9 73 c y = R := by
  unfold c_X0_wantParts_b106 at h
  replace h := ob h; obtain ⟨v1, g1, h⟩ := h
  replace h := ob h; obtain ⟨i2, g2, h⟩ := h
  replace h := ob h; obtain ⟨v3, g3, h⟩ := h
  replace h := ob h; obtain ⟨c4, g4, h⟩ := h
  have r1 := (gR_some g1).2
  rw [g2] at r1
  rw [Option.some.inj (r1.symm.trans hc)] at g4
  obtain ⟨-, s4⟩ := wA_some g4
  rw [nI_clamp hy] at s4
  rw [← Option.some.inj h, ← s4, kA_w]
theorem b76_R {F c k y : Nat} {R u4 : Int32} {cs cs9 : CS} (hc : kR cs 34 k = some c) (hy : y < 2147483648) (h : c_X0_wantParts_b76 F cs k (nI y) R u4 = some cs9) : kA cs9 73 c y = R := by
  unfold c_X0_wantParts_b76 at h
  replace h := ob h; obtain ⟨v1, g1, h⟩ := h
  replace h := ob h; obtain ⟨i3, g3, h⟩ := h
  replace h := ob h; obtain ⟨w4, g4, h⟩ := h
  replace h := ob h; obtain ⟨v2, g2, h⟩ := h
  by_cases c5 : v2 = 0
  · exact b106_R hc hy ((if_pos c5).symm.trans h)
  · replace h := (if_neg c5).symm.trans h
    replace h := ob h; obtain ⟨v6, g6, h⟩ := h
    replace h := ob h; obtain ⟨v7, g7, h⟩ := h
    replace h := ob h; obtain ⟨i8, g8, h⟩ := h
    replace h := ob h; obtain ⟨v9, g9, h⟩ := h
    replace h := ob h; obtain ⟨v10, g10, h⟩ := h
    replace h := ob h; obtain ⟨i12, g12, h⟩ := h
    replace h := ob h; obtain ⟨w13, g13, h⟩ := h
    replace h := ob h; obtain ⟨c11, g11, h⟩ := h
    exact b106_R (by rw [(ref_x (by decide) g11).2.1]; exact hc) hy h
theorem L11_R {F c k y : Nat} {W R : Int32} (hy : y < 2147483648) : ∀ (lf : Nat) (u4 u5 u6 : Int32) (cs cs9 : CS), kR cs 34 k = some c → c_X0_wantParts_L11 F lf cs k (nI y) W R u4 u5 u6 = some cs9 → kA cs9 73 c y = R := by
  intro lf
  induction lf with
  | zero => intro u4 u5 u6 cs cs9 _ h; cases (show (none : Option CS) = _ from h)
  | succ lf ih =>
    intro u4 u5 u6 cs cs9 hc h
    rw [c_X0_wantParts_L11] at h
    replace h := ob h; obtain ⟨v1, g1, h⟩ := h
    replace h := ob h; obtain ⟨i2, g2, h⟩ := h
    replace h := ob h; obtain ⟨v3, g3, h⟩ := h
    replace h := ob h; obtain ⟨v4, g4, h⟩ := h
    by_cases c5 : v4 ≤ u6
    · exact b76_R hc hy ((if_pos c5).symm.trans h)
    · replace h := (if_neg c5).symm.trans h
      replace h := ob h; obtain ⟨v6, g6, h⟩ := h
      replace h := ob h; obtain ⟨i8, g8, h⟩ := h
      replace h := ob h; obtain ⟨w9, g9, h⟩ := h
      replace h := ob h; obtain ⟨v7, g7, h⟩ := h
      by_cases c10 : v7 = 0
      · exact b76_R hc hy ((if_pos c10).symm.trans h)
      · replace h := (if_neg c10).symm.trans h
        replace h := ob h; obtain ⟨v11, g11, h⟩ := h
        replace h := ob h; obtain ⟨i12, g12, h⟩ := h
        replace h := ob h; obtain ⟨v13, g13, h⟩ := h
        replace h := ob h; obtain ⟨v14, g14, h⟩ := h
        by_cases c15 : v14 &&& W = 0
        · replace h := (if_pos c15).symm.trans h
          unfold c_X0_wantParts_b56 at h
          replace h := ob h; obtain ⟨v16, g16, h⟩ := h
          replace h := ob h; obtain ⟨i17, g17, h⟩ := h
          replace h := ob h; obtain ⟨v18, g18, h⟩ := h
          replace h := ob h; obtain ⟨v19, g19, h⟩ := h
          exact ih _ _ _ _ _ hc h
        · replace h := (if_neg c15).symm.trans h
          unfold c_X0_wantParts_b56 at h
          replace h := ob h; obtain ⟨v16, g16, h⟩ := h
          replace h := ob h; obtain ⟨i17, g17, h⟩ := h
          replace h := ob h; obtain ⟨v18, g18, h⟩ := h
          replace h := ob h; obtain ⟨v19, g19, h⟩ := h
          exact ih _ _ _ _ _ hc h
theorem i73 {cs : CS} {c e y : Nat} {v : Int32} (h : y ≠ e) : kA (sA cs 73 c e v) 73 c y = kA cs 73 c y := by
  rw [kA_s]
  exact pk_un h
theorem fau4 {cs : CS} {t c e : Nat} {a b R : Int32} (ha : a ≠ 0) : kI (sA (sI (sI cs 320 t a) 321 t b) 73 c e R) 320 t ≠ 0 := by
  show kI (sI (sI cs 320 t a) 321 t b) 320 t ≠ 0
  rw [kI_n (by omega), kI_s]
  exact ha
/-- what TR tells of an act, as the class has it -/
def ACF (c : Nat) (cs : CS) (y : Nat) : Prop := (kA cs 65 c y = 25 → 1 ≤ y ∧ kA cs 68 c y = 1 ∧ ∃ a, kA cs 67 c (y - 1) = nI a ∧ a ≤ y - 1) ∧ ((kA cs 65 c y = 28 ∨ kA cs 65 c y = 29) → kA cs 68 c y = 2 ∧ ∃ g a, 1 ≤ g ∧ g < y ∧ kA cs 67 c (y - 1) = nI g ∧ kA cs 67 c (g - 1) = nI a ∧ a ≤ g - 1) ∧ (kA cs 65 c y = 19 → ∃ g h, 1 ≤ g ∧ g < h ∧ h < y ∧ kA cs 67 c (y - 1) = nI h ∧ kA cs 67 c (h - 1) = nI g)
theorem act_T {t c cap s k : Nat} {cs : CS} {F y a0 : Nat} {cs9 : CS} (hF : 10000 ≤ F) (h : CK t c cap s k cs) (hy : y < s) (f0 : kI cs 320 t = 0) (ac : ACF c cs y) (g : c_X0_checkAct F cs k (nI y) = some cs9) (f9 : kI cs9 320 t = 0) : ATY a0 c cs9 y := by
  have sp := h.sc
  have cp := h.cp
  have pf := fn_c_X0_checkAct t c F cs k (nI y) cs9 g h.r34 h.r32
  have k65 : kA cs9 65 c = kA cs 65 c := (pf.2.2.1 65 c (by omega) (by omega)).a
  have k67 : kA cs9 67 c = kA cs 67 c := (pf.2.2.1 67 c (by omega) (by omega)).a
  have t73 : ∀ z, z ≠ y → kA cs9 73 c z = kA cs 73 c z := fun z hz => (pf.2.2.2.2 z (by rw [nI_clamp (by omega)]; exact hz)).2
  unfold ATY
  rw [k65, k67]
  have rs0 : RS := (fun _ => 0, 0, fun _ _ => 0, fun _ _ => 0)
  refine ⟨fun hk _ => ?_, fun hk gg g1 g2 g3 => ?_, fun hk gg g1 g2 g3 => ?_, fun hk => ?_⟩
  · obtain ⟨y1, p1, a, a1, a2⟩ := ac.1 hk
    rw [ca_tru h hy (Or.inl hk)] at g
    replace g := ob g; obtain ⟨z, hz, g⟩ := g
    rw [Option.some.inj g] at hz
    by_cases w : kA cs 73 c (y - 1) &&& 2 = 0
    · have e := wp_ok (F := F) (x := 0) (W := 2) (R := 2) (rs := rs0) (r := some (y - 1)) (tot := 1) hF h hy f0 p1 (by omega) y1 ⟨a, a1, a2, Or.inl rfl, Or.inl ⟨w, rfl⟩⟩
      rw [hz] at e
      rw [Option.some.inj e] at f9
      exact absurd f9 (fau4 (by decide))
    · rw [t73 (y - 1) (by omega)]
      exact w
  · obtain ⟨p2, g', a, b1, b2, b3, b4, b5⟩ := ac.2.1 hk
    have eg : g' = gg := (nI_eq (by omega) (by omega)).mp (b3.symm.trans g1)
    rw [eg] at b1 b2 b3 b4 b5
    rw [ca_tru h hy (Or.inr hk)] at g
    replace g := ob g; obtain ⟨z, hz, g⟩ := g
    rw [Option.some.inj g] at hz
    rw [t73 (y - 1) (by omega), t73 (gg - 1) (by omega)]
    by_cases w : kA cs 73 c (y - 1) &&& 2 = 0
    · exfalso
      by_cases w2 : kA cs 73 c (gg - 1) &&& 2 = 0
      · have e := wp_ok (F := F) (x := 0) (W := 2) (R := 2) (rs := rs0) (r := some (gg - 1)) (tot := 2) hF h hy f0 p2 (by omega) (by omega) ⟨gg, b3, by omega, Or.inr b1, Or.inl ⟨w, a, b4, b5, Or.inl rfl, Or.inl ⟨w2, rfl⟩⟩⟩
        rw [hz] at e
        rw [Option.some.inj e] at f9
        exact absurd f9 (fau4 (by decide))
      · have e := wp_ok (F := F) (x := 0) (W := 2) (R := 2) (rs := rs0) (r := some (y - 1)) (tot := 2) hF h hy f0 p2 (by omega) (by omega) ⟨gg, b3, by omega, Or.inr b1, Or.inl ⟨w, a, b4, b5, Or.inl rfl, Or.inr ⟨w2, rfl⟩⟩⟩
        rw [hz] at e
        rw [Option.some.inj e] at f9
        exact absurd f9 (fau4 (by decide))
    · refine ⟨w, fun w2 => ?_⟩
      have e := wp_ok (F := F) (x := 0) (W := 2) (R := 2) (rs := rs0) (r := some (gg - 1)) (tot := 2) hF h hy f0 p2 (by omega) (by omega) ⟨gg, b3, by omega, Or.inr b1, Or.inr ⟨w, a, b4, b5, Or.inl rfl, Or.inl ⟨w2, rfl⟩⟩⟩
      rw [hz] at e
      rw [Option.some.inj e] at f9
      exact absurd f9 (fau4 (by decide))
  · obtain ⟨g', h', b1, b2, b3, b4, b5⟩ := ac.2.2 hk
    have eg : h' = gg := (nI_eq (by omega) (by omega)).mp (b4.symm.trans g1)
    rw [eg] at b2 b3 b4 b5
    rw [ca_cas h hy hk] at g
    replace g := ob g; obtain ⟨z, hz, g⟩ := g
    rw [Option.some.inj g, case_c h hy ⟨b2, b3, b1⟩ b4 b5, case_57 h hy (by omega) (by omega) (by omega)] at hz
    rw [t73 (gg - 1) (by omega), t73 (y - 1) (by omega)]
    by_cases w1 : kA cs 73 c (g' - 1) &&& 2 = 0
    · exfalso
      replace hz := (if_pos w1).symm.trans hz
      replace hz := ob hz; obtain ⟨c1, h1, hz⟩ := hz
      obtain ⟨x1, x2, -⟩ := ref_x (by decide) h1
      exact x1 ((fn_c_X0_checkCase_b105 t c F c1 k (nI y) _ _ cs9 hz (by rw [x2]; exact h.r34) (by rw [x2]; exact h.r32)).2.1 f9)
    · replace hz := (if_neg w1).symm.trans hz
      rw [case_105 h hy (by omega) (by omega)] at hz
      by_cases w2 : kA cs 73 c (gg - 1) &&& kA cs 73 c (y - 1) = 0
      · exfalso
        replace hz := (if_pos w2).symm.trans hz
        replace hz := ob hz; obtain ⟨c1, h1, hz⟩ := hz
        obtain ⟨x1, x2, -⟩ := ref_x (by decide) h1
        exact x1 ((fn_c_X0_checkCase_b144 t c F c1 k (nI y) _ _ cs9 hz (by rw [x2]; exact h.r34) (by rw [x2]; exact h.r32)).2.1 f9)
      · replace hz := (if_neg w2).symm.trans hz
        rw [case_144 h hy (by omega) (by omega)] at hz
        rw [← Option.some.inj hz, kA_w]
  · rcases hk with hk | hk | hk | hk
    · rw [ca_40 h hy hk] at g
      rw [← Option.some.inj g, kA_w]
    · rw [ca_32 h hy hk] at g
      rw [← Option.some.inj g, kA_w]
    · rw [ca_61 h hy hk] at g
      rw [← Option.some.inj g, kA_w]
    · rw [ca_num h hy hk] at g
      replace g := ob g; obtain ⟨z, hz, g⟩ := g
      rw [Option.some.inj g] at hz
      unfold c_X0_wantParts at hz
      exact L11_R (by omega) F _ _ _ cs cs9 h.r34 hz

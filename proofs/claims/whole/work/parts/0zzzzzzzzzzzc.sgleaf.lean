/-! a leaf under more streams -/
theorem ex_yes {F i : Nat} {d v : Int32} {cs : CS} (h : c_X7_exists F cs i d = some v) (hv : v ≠ 0) : v = 1 ∧ ¬ d < 0 ∧ ¬ kI cs 256 i ≤ d ∧ (8, i) ∈ kE cs ∧ ∃ j m, gA cs 8 258 i = some j ∧ lnA cs 258 i j = some m ∧ ¬ m ≤ d := by
  unfold c_X7_exists at h
  have no : ∀ {w : Int32}, c_X7_exists_b25 F cs = some w → w = 0 := fun {w} z => (Option.some.inj (show some (0 : Int32) = some w from z)).symm
  by_cases c1 : d < 0
  · replace h := (if_pos c1).symm.trans h
    exact absurd (no h) hv
  · replace h := (if_neg c1).symm.trans h
    replace h := ob h
    obtain ⟨v3, g3, h⟩ := h
    obtain ⟨o8, e3⟩ := gI_some g3
    by_cases c2 : v3 ≤ d
    · replace h := (if_pos c2).symm.trans h
      exact absurd (no h) hv
    · replace h := (if_neg c2).symm.trans h
      replace h := ob h
      obtain ⟨v5, g5, h⟩ := h
      replace h := ob h
      obtain ⟨v6, g6, h⟩ := h
      by_cases c3 : v6 ≤ d
      · replace h := (if_pos c3).symm.trans h
        exact absurd (no h) hv
      · replace h := (if_neg c3).symm.trans h
        exact ⟨(Option.some.inj (show some (1 : Int32) = some v from h)).symm, c1, by rw [e3]; exact c2, o8, v5, v6, g5, g6, c3⟩
theorem ex_sg {n9 : Int32} {a9 : Nat → Int32} {s9 k9 t9 : Nat} {F i : Nat} {d v : Int32} {cs : CS} (H : SGH n9 a9 s9 k9 t9 cs) (h : c_X7_exists F cs i d = some v) (hv : v ≠ 0) : c_X7_exists F (sgX n9 a9 cs) i d = some v := by
  obtain ⟨h1, h2, h3, h4, j, m, h5, h6, h7⟩ := ex_yes h hv
  have le : ¬ kI (sgX n9 a9 cs) 256 i ≤ d := by
    by_cases q : i = 2
    · rw [q] at h3 ⊢
      obtain ⟨k1, k2, k3, k4, m', k5, k6, k7⟩ := H
      rw [sg_256, k5]
      rw [k1] at h3
      obtain ⟨X, hX, eX⟩ := nI_of h2
      rw [eX] at h3 ⊢
      have hlt : X < s9 := by
        by_cases z : X < s9
        · exact z
        · exact absurd (nI_le (by omega) hX) h3
      exact nI_ge (by omega) (by omega)
    · rw [sg_Ij q]
      exact h3
  unfold c_X7_exists
  rw [if_neg h2, gI_ok (cs := sgX n9 a9 cs) h4, ob_s, if_neg le, sgA h5, ob_s, sgLn h6, ob_s, if_neg h7, h1]
  rfl
theorem cc_sg {n9 : Int32} {a9 : Nat → Int32} {s9 k9 t9 : Nat} {F i : Nat} {d v e : Int32} {cs : CS} (H : SGH n9 a9 s9 k9 t9 cs) (he : c_X7_exists F cs i d = some e) (e0 : e ≠ 0) (h : c_X7_columnCount F cs i d = some v) : c_X7_columnCount F (sgX n9 a9 cs) i d = some v := by
  have x := ex_sg H he e0
  obtain ⟨h1, h2, h3, h4, j, m, h5, h6, h7⟩ := ex_yes he e0
  unfold c_X7_columnCount at h
  replace h := ob h
  obtain ⟨w0, g0, h⟩ := h
  replace h := ob h
  obtain ⟨v1, g1, h⟩ := h
  have ev : v1 = e := Option.some.inj (g1.symm.trans he)
  rw [ev] at h
  replace h := (if_neg e0).symm.trans h
  replace h := ob h
  obtain ⟨v4, g4, h⟩ := h
  replace h := ob h
  obtain ⟨v5, g5, h⟩ := h
  have r5 : rA (sgX n9 a9 cs) 258 i v4 d = some v5 := by
    have eq : kA (sgX n9 a9 cs) 258 i d.toNatClampNeg = kA cs 258 i d.toNatClampNeg := by
      by_cases q : i = 2
      · rw [q] at h3 ⊢
        obtain ⟨k1, k2, k3, k4, -⟩ := H
        rw [k1] at h3
        obtain ⟨X, hX, eX⟩ := nI_of h2
        rw [eX] at h3 ⊢
        rw [nI_clamp hX, sg_258]
        refine k2 X ?_
        by_cases z : X < s9
        · exact z
        · exact absurd (nI_le (by omega) hX) h3
      · rw [sg_Aj q]
    have e2 : rA (sgX n9 a9 cs) 258 i v4 d = rA cs 258 i v4 d := by
      unfold rA
      rw [eq]
      rfl
    rw [e2]
    exact g5
  unfold c_X7_columnCount
  rw [sgck g0, ob_s, x, ob_s, if_neg e0, sgA g4, ob_s, r5, ob_s]
  exact h
/-- the leaf of a SOURCE is there -/
def EXL (F u0 u1 : Nat) (cs : CS) : Prop := ∀ i, kR cs 33 u0 = some i → ∃ e, c_X7_exists F cs i (kI cs 224 u1) = some e ∧ e ≠ 0
theorem ex_fr {F i : Nat} {d : Int32} {a b : CS} (e1 : kE b = kE a) (e2 : kI b 256 i = kI a 256 i) (e3 : kP b 258 i = kP a 258 i) (e4 : kL b 258 i = kL a 258 i) : c_X7_exists F b i d = c_X7_exists F a i d := by
  unfold c_X7_exists gI gA lnA c_X7_exists_b25 c_X7_exists_b26
  rw [e1, e2, e3, e4]
def KPT9 (a b : CS) : Prop := kE b = kE a ∧ (∀ i, kI b 256 i = kI a 256 i ∧ kP b 258 i = kP a 258 i ∧ kL b 258 i = kL a 258 i ∧ kI b 224 i = kI a 224 i ∧ kR b 33 i = kR a 33 i)
theorem KPT9.trans {a b d : CS} (h : KPT9 a b) (g : KPT9 b d) : KPT9 a d := ⟨g.1.trans h.1, fun i => ⟨(g.2 i).1.trans (h.2 i).1, (g.2 i).2.1.trans (h.2 i).2.1, (g.2 i).2.2.1.trans (h.2 i).2.2.1, (g.2 i).2.2.2.1.trans (h.2 i).2.2.2.1, (g.2 i).2.2.2.2.trans (h.2 i).2.2.2.2⟩⟩
theorem KPT9.wA {a b : CS} {x i j : Nat} {y v : Int32} (h : wA a x i j y v = some b) : KPT9 a b := by
  rw [← (wA_some h).2]
  exact ⟨rfl, fun _ => ⟨rfl, rfl, rfl, rfl, rfl⟩⟩
theorem KPT9.wB {a b : CS} {x i j : Nat} {y : Int32} {v : Int64} (h : wB a x i j y v = some b) : KPT9 a b := by
  rw [← (wB_some h).2]
  exact ⟨rfl, fun _ => ⟨rfl, rfl, rfl, rfl, rfl⟩⟩
theorem KPT9.pI {a b : CS} {X x i : Nat} {v : Int32} (hx : x ≠ 256 ∧ x ≠ 224) (h : pI a X x i v = some b) : KPT9 a b := by
  rw [← (pI_some h).2]
  exact ⟨rfl, fun _ => ⟨kI_n (fun w => hx.1 w.1.symm), rfl, rfl, kI_n (fun w => hx.2 w.1.symm), rfl⟩⟩
theorem KPT9.add {F o : Nat} {v : Int32} {nm : Int64} {mk ty : Int32} {m d : CS} (h : c_X2_add F m o v nm mk ty = some d) : KPT9 m d := by
  unfold c_X2_add at h
  replace h := ob h; obtain ⟨w0, g0, h⟩ := h
  replace h := ob h; obtain ⟨v1, g1, h⟩ := h
  by_cases y : v1 = 0
  · replace h := (if_pos y).symm.trans h
    replace h := ob h; obtain ⟨v4, g4, h⟩ := h
    replace h := ob h; obtain ⟨v5, g5, h⟩ := h
    replace h := ob h; obtain ⟨c6, g6, h⟩ := h
    replace h := ob h; obtain ⟨v7, g7, h⟩ := h
    replace h := ob h; obtain ⟨v8, g8, h⟩ := h
    replace h := ob h; obtain ⟨c9, g9, h⟩ := h
    replace h := ob h; obtain ⟨v10, g10, h⟩ := h
    replace h := ob h; obtain ⟨v11, g11, h⟩ := h
    replace h := ob h; obtain ⟨c12, g12, h⟩ := h
    replace h := ob h; obtain ⟨v13, g13, h⟩ := h
    replace h := ob h; obtain ⟨v14, g14, h⟩ := h
    replace h := ob h; obtain ⟨c15, g15, h⟩ := h
    replace h := ob h; obtain ⟨v16, g16, h⟩ := h
    replace h := ob h; obtain ⟨c17, g17, h⟩ := h
    rw [← Option.some.inj h]
    exact ((((KPT9.wA g6).trans (KPT9.wB g9)).trans (KPT9.wA g12)).trans (KPT9.wA g15)).trans (KPT9.pI (by decide) g17)
  · replace h := (if_neg y).symm.trans h
    rw [← Option.some.inj h]
    exact ⟨rfl, fun _ => ⟨rfl, rfl, rfl, rfl, rfl⟩⟩
theorem EXL.kp {F u0 u1 : Nat} {a b : CS} (h : EXL F u0 u1 a) (g : KPT9 a b) : EXL F u0 u1 b := fun i hi => by
  rw [(g.2 u0).2.2.2.2] at hi
  obtain ⟨e, e1, e2⟩ := h i hi
  obtain ⟨g1, g2, g3, -⟩ := g.2 i
  refine ⟨e, ?_, e2⟩
  rw [(g.2 u1).2.2.2.1, ex_fr g.1 g1 g2 g3]
  exact e1
theorem hs_c_X0_checkLeaf_L29 {n9 : Int32} {a9 : Nat → Int32} {s9 k9 t9 : Nat} {F : Nat} : ∀ (lf : Nat) (cs1 : CS) (u1 : Nat) (u2 : Int32) (cs9 : CS), SGH n9 a9 s9 k9 t9 cs1 → EXL F k9 u1 cs1 → c_X0_checkLeaf_L29 F lf cs1 k9 u1 u2 = some cs9 → HSG n9 a9 s9 k9 t9 cs1 cs9 (c_X0_checkLeaf_L29 F lf (sgX n9 a9 cs1) k9 u1 u2 = some (sgX n9 a9 cs9)) := by
  intro lf
  induction lf with
  | zero => intro cs1 u1 u2 cs9 H x h; cases (show (none : Option CS) = _ from h)
  | succ lf ih =>
    intro cs1 u1 u2 cs9 H x h
    rw [c_X0_checkLeaf_L29] at h
    replace h := ob h; obtain ⟨v_1, g1, h⟩ := h
    replace h := ob h; obtain ⟨v_2, g2, h⟩ := h
    replace h := ob h; obtain ⟨i_4, g3, h⟩ := h
    replace h := ob h; obtain ⟨w4, g4, h⟩ := h
    replace h := ob h; obtain ⟨v_3, g5, h⟩ := h
    obtain ⟨e, e1, e2⟩ := x i_4 (by rw [(gR_some g1).2]; exact g3)
    rw [(gI_some g2).2] at e1
    have cc := cc_sg H e1 e2 g5
    by_cases c1 : v_3 < u2
    · replace h := (if_pos c1).symm.trans h
      replace h := ob h; obtain ⟨v_7, g7, h⟩ := h
      replace h := ob h; obtain ⟨i_9, g8, h⟩ := h
      replace h := ob h; obtain ⟨w9, g9, h⟩ := h
      replace h := ob h; obtain ⟨cs_8, g10, h⟩ := h
      have s10 := hs_c_X2_add H g10
      rw [← Option.some.inj h]
      refine ⟨s10.1, fun z => ?_⟩
      obtain ⟨z10, e10⟩ := s10.2 z
      refine ⟨z10, ?_⟩
      rw [c_X0_checkLeaf_L29]
      rw [sgR g1, ob_s, sgI (by decide) g2, ob_s, g3, ob_s, sgck g4, ob_s, cc, ob_s, if_pos c1, sgR g7, ob_s, g8, ob_s, sgck g9, ob_s, e10, ob_s]
    · replace h := (if_neg c1).symm.trans h
      replace h := ob h; obtain ⟨v_7, g7, h⟩ := h
      replace h := ob h; obtain ⟨i_9, g8, h⟩ := h
      replace h := ob h; obtain ⟨w9, g9, h⟩ := h
      replace h := ob h; obtain ⟨cs_8, g10, h⟩ := h
      have s10 := hs_c_X2_add H g10
      have s11 := ih _ _ _ _ s10.1 (x.kp (KPT9.add g10)) h
      refine ⟨s11.1, fun z => ?_⟩
      obtain ⟨z11, e11⟩ := s11.2 z
      obtain ⟨z10, e10⟩ := s10.2 z11
      refine ⟨z10, ?_⟩
      rw [c_X0_checkLeaf_L29]
      rw [sgR g1, ob_s, sgI (by decide) g2, ob_s, g3, ob_s, sgck g4, ob_s, cc, ob_s, if_neg c1, sgR g7, ob_s, g8, ob_s, sgck g9, ob_s, e10, ob_s]
      exact e11
theorem hs_c_X0_checkLeaf {n9 : Int32} {a9 : Nat → Int32} {s9 k9 t9 : Nat} {F : Nat} {cs : CS} {x1 : Nat} {cs9 : CS} (H : SGH n9 a9 s9 k9 t9 cs) (h : c_X0_checkLeaf F cs k9 x1 = some cs9) : HSG n9 a9 s9 k9 t9 cs cs9 (c_X0_checkLeaf F (sgX n9 a9 cs) k9 x1 = some (sgX n9 a9 cs9)) := by
  unfold c_X0_checkLeaf at h
  replace h := ob h; obtain ⟨v_15, g1, h⟩ := h
  replace h := ob h; obtain ⟨v_16, g2, h⟩ := h
  replace h := ob h; obtain ⟨i_18, g3, h⟩ := h
  replace h := ob h; obtain ⟨w4, g4, h⟩ := h
  replace h := ob h; obtain ⟨v_17, g5, h⟩ := h
  by_cases c1 : v_17 = 0
  · replace h := (if_pos c1).symm.trans h
    replace h := ob h; obtain ⟨v_21, g6, h⟩ := h
    replace h := ob h; obtain ⟨v_22, g7, h⟩ := h
    replace h := ob h; obtain ⟨i_24, g8, h⟩ := h
    replace h := ob h; obtain ⟨w9, g9, h⟩ := h
    replace h := ob h; obtain ⟨cs_23, g10, h⟩ := h
    have s10 := hs_c_X9_refuse H g10
    rw [← Option.some.inj h]
    refine ⟨s10.1, fun z => ?_⟩
    exfalso
    have et : i_24 = t9 := Option.some.inj ((g8.symm.trans (gR_some g6).2.symm).trans H.2.2.1)
    rw [et] at g10
    unfold c_X9_refuse at g10
    replace g10 := ob g10; obtain ⟨u1, k1, g10⟩ := g10
    by_cases c2 : u1 = 0
    · replace g10 := (if_pos c2).symm.trans g10
      replace g10 := ob g10; obtain ⟨u3, k3, g10⟩ := g10
      replace g10 := ob g10; obtain ⟨u4, k4, g10⟩ := g10
      have e4 : u4 = cs_23 := Option.some.inj (show some u4 = some cs_23 from g10)
      rw [← e4, ← (pI_some k4).2, kI_n (by omega), ← (pI_some k3).2, kI_s] at z
      exact absurd z (by decide)
    · replace g10 := (if_neg c2).symm.trans g10
      have e4 : cs = cs_23 := Option.some.inj (show some cs = some cs_23 from g10)
      rw [← e4, (gI_some k1).2] at z
      exact c2 z
  · replace h := (if_neg c1).symm.trans h
    have x : EXL F k9 x1 cs := fun i hi => by
      have ei : i = i_18 := by
        rw [(gR_some g1).2, g3] at hi
        exact (Option.some.inj hi).symm
      rw [ei, (gI_some g2).2]
      exact ⟨v_17, g5, c1⟩
    have s6 := hs_c_X0_checkLeaf_L29 _ _ _ _ _ H x h
    refine ⟨s6.1, fun z => ?_⟩
    obtain ⟨z6, e6⟩ := s6.2 z
    refine ⟨z6, ?_⟩
    unfold c_X0_checkLeaf
    rw [sgR g1, ob_s, sgI (by decide) g2, ob_s, g3, ob_s, sgck g4, ob_s, ex_sg H g5 c1, ob_s, if_neg c1]
    exact e6

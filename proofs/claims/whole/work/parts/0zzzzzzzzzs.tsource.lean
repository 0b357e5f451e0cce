/-! the columns of a SOURCE, the class alone -/
theorem full_x {F o : Nat} {v : Int32} {cs : CS} (h : c_X2_isFull F cs o = some v) : (v = 0 → kI cs 96 o < 8) ∧ (v ≠ 0 → ¬ kI cs 96 o < 8) := by
  unfold c_X2_isFull c_X2_isFull_b14 at h
  replace h := ob h; obtain ⟨v2, h2, h⟩ := h
  have e2 := (gI_some h2).2
  rw [e2]
  by_cases q : v2 < 8
  · replace h := (if_pos q).symm.trans h
    have ev : v = 0 := (Option.some.inj ((show (Option.bind (ckZ 0) fun _ => some (0 : Int32)) = some 0 from rfl).symm.trans h)).symm
    exact ⟨fun _ => q, fun w => absurd ev w⟩
  · replace h := (if_neg q).symm.trans h
    have ev : v = 1 := (Option.some.inj ((show (Option.bind (ckZ 1) fun _ => some (1 : Int32)) = some 1 from rfl).symm.trans h)).symm
    exact ⟨fun w => by rw [ev] at w; exact absurd w (by decide), fun _ => q⟩
theorem add_e {F o : Nat} {v : Int32} {nm : Int64} {mk ty : Int32} {m d : CS} (h : c_X2_add F m o v nm mk ty = some d) : (d = m ∧ ¬ kI m 96 o < 8) ∨ ∃ n, n < 8 ∧ kI m 96 o = nI n ∧ d = adC m o n v nm mk ty := by
  unfold c_X2_add at h
  replace h := ob h; obtain ⟨w0, g0, h⟩ := h
  replace h := ob h; obtain ⟨v1, g1, h⟩ := h
  obtain ⟨fu1, fu2⟩ := full_x g1
  by_cases y : v1 = 0
  · replace h := (if_pos y).symm.trans h
    replace h := ob h; obtain ⟨v4, g4, h⟩ := h
    replace h := ob h; obtain ⟨v5, g5, h⟩ := h
    replace h := ob h; obtain ⟨c6, g6, h⟩ := h
    replace h := ob h; obtain ⟨v7, g7, h⟩ := h
    replace h := ob h; obtain ⟨v8, g8, h⟩ := h
    replace h := ob h; obtain ⟨c9, g9, h⟩ := h
    replace h := ob h; obtain ⟨v10, g10, h⟩ := h
    replace h := ob h; obtain ⟨v11, g11, h⟩ := h
    replace h := ob h; obtain ⟨c12, g12, h⟩ := h
    replace h := ob h; obtain ⟨v13, g13, h⟩ := h
    replace h := ob h; obtain ⟨v14, g14, h⟩ := h
    replace h := ob h; obtain ⟨c15, g15, h⟩ := h
    replace h := ob h; obtain ⟨v16, g16, h⟩ := h
    replace h := ob h; obtain ⟨c17, g17, h⟩ := h
    have e := Option.some.inj h
    obtain ⟨ok6, s6⟩ := wA_some g6
    obtain ⟨-, s9⟩ := wB_some g9
    obtain ⟨-, s12⟩ := wA_some g12
    obtain ⟨-, s15⟩ := wA_some g15
    obtain ⟨-, s17⟩ := pI_some g17
    have k5 := (gI_some g5).2
    have b6 : kI c6 = kI m := by rw [← s6]; rfl
    have b9 : kI c9 = kI c6 := by rw [← s9]; rfl
    have b12 : kI c12 = kI c9 := by rw [← s12]; rfl
    have b15 : kI c15 = kI c12 := by rw [← s15]; rfl
    have k8 : v8 = v5 := by have w := (gI_some g8).2; rw [b6] at w; exact w.symm.trans k5
    have k11 : v11 = v5 := by have w := (gI_some g11).2; rw [b9, b6] at w; exact w.symm.trans k5
    have k14 : v14 = v5 := by have w := (gI_some g14).2; rw [b12, b9, b6] at w; exact w.symm.trans k5
    have k16 : v16 = v5 := by have w := (gI_some g16).2; rw [b15, b12, b9, b6] at w; exact w.symm.trans k5
    have pos : ¬ v5 < 0 := fun w => ok6.2.2 (Or.inl w)
    obtain ⟨n, hn, en⟩ := nI_of pos
    have n8 : n < 8 := by
      have w := fu1 y
      rw [k5, en] at w
      exact (nI_ltI (a := n) (b := 8) hn (by decide)).mp w
    rw [en, nI_clamp hn] at s6
    rw [k8, en, nI_clamp hn] at s9
    rw [k11, en, nI_clamp hn] at s12
    rw [k14, en, nI_clamp hn] at s15
    rw [k16, en, nI_1] at s17
    refine Or.inr ⟨n, n8, k5.trans en, ?_⟩
    rw [← e, ← s17, ← s15, ← s12, ← s9, ← s6]
    rfl
  · replace h := (if_neg y).symm.trans h
    exact Or.inl ⟨(Option.some.inj h).symm, fu2 y⟩
theorem add_c {F o t c kd : Nat} {v : Int32} {nm : Int64} {mk ty : Int32} {m d : CS} (ht : t ≠ o) (h : c_X2_add F m o v nm mk ty = some d) : CFN t c kd (fun j => j = o) (fun _ => False) m d ∧ ∀ x j, ¬ (96 ≤ x ∧ x ≤ 100 ∧ j = o) → AT m d x j := by
  rcases add_e h with ⟨e, -⟩ | ⟨n, n8, k, e⟩
  · rw [e]
    exact ⟨CFN.refl, fun _ _ _ => AT.refl⟩
  · have a : ∀ x j, ¬ (96 ≤ x ∧ x ≤ 100 ∧ j = o) → AT m d x j := fun x j hx => by rw [e]; exact adC_at hx
    refine ⟨⟨by rw [e]; rfl, fun w => by rw [(a 320 t (by omega)).i] at w; exact w, fun x j q1 q2 q3 q4 => a x j (by omega), fun x j q1 q2 => by rw [e]; exact ⟨rfl, rfl⟩, fun y _ => ⟨fun _ => by rw [(a 72 c (by omega)).a], by rw [(a 73 c (by omega)).a]⟩⟩, a⟩
/-- types of columns -/
def TYP (cl : Nat) (P : Nat → Int32) (cs : CS) : Prop := ∀ y, y < 8 → nI y < kI cs 96 cl → kA cs 100 cl y = P y
theorem add_P {F o : Nat} {P : Nat → Int32} {v : Int32} {nm : Int64} {mk ty : Int32} {m d : CS} (h : c_X2_add F m o v nm mk ty = some d) (tp : TYP o P m) (ht : ∀ n, n < 8 → kI m 96 o = nI n → ty = P n) : TYP o P d := by
  rcases add_e h with ⟨e, -⟩ | ⟨n, n8, k, e⟩
  · rw [e]
    exact tp
  · intro y y8 hy
    have e96 : kI d 96 o = nI (n + 1) := by rw [e]; exact kI_s
    have e100 : kA d 100 o = upd (kA m 100 o) n ty := by rw [e]; exact adC_100
    rw [e96] at hy
    have yn := (nI_ltI (a := y) (b := n + 1) (by omega) (by omega)).mp hy
    rw [e100]
    by_cases w : y = n
    · rw [w, pk_us]
      exact ht n n8 k
    · rw [pk_un w]
      exact tp y y8 (by rw [k]; exact nI_lt (by omega) (by omega))
theorem leaf_CL {F t c k oo cl kd : Nat} (ht : t ≠ cl) : ∀ (lf : Nat) (u : Int32) (cs1 cs9 : CS), kR cs1 235 oo = some cl → c_X0_checkLeaf_L29 F lf cs1 k oo u = some cs9 → CFN t c kd (fun j => j = cl) (fun _ => False) cs1 cs9 ∧ (TYP cl (fun _ => 1) cs1 → TYP cl (fun _ => 1) cs9) := by
  intro lf
  induction lf with
  | zero => intro u cs1 cs9 _ g; cases (show (none : Option CS) = _ from g)
  | succ lf ih =>
    intro u cs1 cs9 r g
    rw [c_X0_checkLeaf_L29] at g
    replace g := ob g; obtain ⟨v1, g1, g⟩ := g
    replace g := ob g; obtain ⟨v2, g2, g⟩ := g
    replace g := ob g; obtain ⟨i4, g4, g⟩ := g
    replace g := ob g; obtain ⟨w5, g5, g⟩ := g
    replace g := ob g; obtain ⟨v3, g3, g⟩ := g
    by_cases q : v3 < u
    · replace g := (if_pos q).symm.trans g
      replace g := ob g; obtain ⟨v7, g7, g⟩ := g
      replace g := ob g; obtain ⟨i9, g9, g⟩ := g
      replace g := ob g; obtain ⟨w10, g10, g⟩ := g
      replace g := ob g; obtain ⟨c8, g8, g⟩ := g
      have r7 := (gR_some g7).2
      rw [g9] at r7
      rw [Option.some.inj (r7.symm.trans r)] at g8
      rw [← Option.some.inj g]
      exact ⟨(add_c ht g8).1, fun tp => add_P g8 tp (fun _ _ _ => rfl)⟩
    · replace g := (if_neg q).symm.trans g
      replace g := ob g; obtain ⟨v7, g7, g⟩ := g
      replace g := ob g; obtain ⟨i9, g9, g⟩ := g
      replace g := ob g; obtain ⟨w10, g10, g⟩ := g
      replace g := ob g; obtain ⟨c8, g8, g⟩ := g
      have r7 := (gR_some g7).2
      rw [g9] at r7
      rw [Option.some.inj (r7.symm.trans r)] at g8
      obtain ⟨a1, a2⟩ := add_c (c := c) (kd := kd) ht g8
      obtain ⟨b1, b2⟩ := ih (u + 1) c8 cs9 (by rw [(a2 235 oo (by omega)).r]; exact r) g
      exact ⟨a1.trans b1, fun tp => b2 (add_P g8 tp (fun _ _ _ => rfl))⟩
theorem leaf_C {t c cap s k : Nat} {F oo cl kd : Nat} {cs cs9 : CS} (h : CK t c cap s k cs) (ht : t ≠ cl) (r : kR cs 235 oo = some cl) (g : c_X0_checkLeaf F cs k oo = some cs9) : CFN t c kd (fun j => j = cl) (fun _ => False) cs cs9 ∧ (TYP cl (fun _ => 1) cs → TYP cl (fun _ => 1) cs9) := by
  unfold c_X0_checkLeaf at g
  replace g := ob g; obtain ⟨v1, g1, g⟩ := g
  replace g := ob g; obtain ⟨v2, g2, g⟩ := g
  replace g := ob g; obtain ⟨i4, g4, g⟩ := g
  replace g := ob g; obtain ⟨w5, g5, g⟩ := g
  replace g := ob g; obtain ⟨v3, g3, g⟩ := g
  by_cases q : v3 = 0
  · replace g := (if_pos q).symm.trans g
    replace g := ob g; obtain ⟨v7, g7, g⟩ := g
    replace g := ob g; obtain ⟨v8, g8, g⟩ := g
    replace g := ob g; obtain ⟨i9, g9, g⟩ := g
    replace g := ob g; obtain ⟨w10, g10, g⟩ := g
    replace g := ob g; obtain ⟨c11, g11, g⟩ := g
    have r7 := (gR_some g7).2
    rw [g9] at r7
    have n := ref_N (c := c) (Option.some.inj (r7.symm.trans h.r32)) g11
    rw [← Option.some.inj g]
    refine ⟨n.cf, fun tp y y8 hy => ?_⟩
    rw [(n.2.2.1 96 cl (by omega) (by omega)).i] at hy
    rw [(n.2.2.1 100 cl (by omega) (by omega)).a]
    exact tp y y8 hy
  · exact leaf_CL ht F 1 cs cs9 r ((if_neg q).symm.trans g)
/-- the columns of a QUERY within -/
theorem inn_CL {F t c oo cl it kd : Nat} {T : TC_X0_checkQuery} (ht : t ≠ cl) (hi : it ≠ cl) : ∀ (lf i : Nat) (cs1 cs9 : CS), kR cs1 235 oo = some cl → i + lf < 2147483648 → c_X0_checkInner_L40 F T lf cs1 oo it (nI i) = some cs9 → CFN t c kd (fun j => j = cl) (fun _ => False) cs1 cs9 ∧ (kI cs1 96 cl = nI i → TYP cl (kA cs1 100 it) cs1 → TYP cl (kA cs9 100 it) cs9) := by
  intro lf
  induction lf with
  | zero => intro i cs1 cs9 _ _ g; cases (show (none : Option CS) = _ from g)
  | succ lf ih =>
    intro i cs1 cs9 r hl g
    rw [c_X0_checkInner_L40] at g
    replace g := ob g; obtain ⟨v1, g1, g⟩ := g
    by_cases q : v1 ≤ nI i
    · replace g := (if_pos q).symm.trans g
      unfold c_X0_checkInner_b87 at g
      rw [← Option.some.inj g]
      exact ⟨CFN.refl, fun _ w => w⟩
    · replace g := (if_neg q).symm.trans g
      replace g := ob g; obtain ⟨w4, g4, g⟩ := g
      replace g := ob g; obtain ⟨v3, g3, g⟩ := g
      by_cases q3 : v3 = 0
      · replace g := (if_pos q3).symm.trans g
        unfold c_X0_checkInner_b87 at g
        rw [← Option.some.inj g]
        exact ⟨CFN.refl, fun _ w => w⟩
      · replace g := (if_neg q3).symm.trans g
        obtain ⟨col, x1, x2, x3⟩ := x2_has g3 q3
        have ei : i = col := (nI_eq (by omega) (by omega)).mp x1
        replace g := ob g; obtain ⟨v6, g6, g⟩ := g
        replace g := ob g; obtain ⟨v7, g7, g⟩ := g
        replace g := ob g; obtain ⟨v8, g8, g⟩ := g
        replace g := ob g; obtain ⟨v9, g9, g⟩ := g
        replace g := ob g; obtain ⟨v10, g10, g⟩ := g
        replace g := ob g; obtain ⟨i12, g12, g⟩ := g
        replace g := ob g; obtain ⟨w13, g13, g⟩ := g
        replace g := ob g; obtain ⟨c11, g11, g⟩ := g
        have r6 := (gR_some g6).2
        rw [g12] at r6
        rw [Option.some.inj (r6.symm.trans r)] at g11
        rw [nI_1] at g
        have e10 := (rA_some g10).2
        rw [nI_clamp (by omega)] at e10
        obtain ⟨a1, a2⟩ := add_c (c := c) (kd := kd) ht g11
        obtain ⟨b1, b2⟩ := ih (i + 1) c11 cs9 (by rw [(a2 235 oo (by omega)).r]; exact r) (by omega) g
        refine ⟨a1.trans b1, fun k96 tp => ?_⟩
        have eit : kA c11 100 it = kA cs1 100 it := (a2 100 it (by omega)).a
        refine b2 ?_ ?_
        · rcases add_e g11 with ⟨-, w⟩ | ⟨n, n8, k, e⟩
          · rw [k96] at w
            exact absurd (nI_lt (a := i) (b := 8) (by omega) (by decide)) w
          · have en : n = i := (nI_eq (by omega) (by omega)).mp (k.symm.trans k96)
            rw [e, en]
            exact kI_s
        · rw [eit]
          refine add_P g11 tp (fun n n8 k => ?_)
          have en : n = i := (nI_eq (by omega) (by omega)).mp (k.symm.trans k96)
          rw [en]
          exact e10.symm

/-! what a check leaves alone, the class alone -/
def CFN (t c k : Nat) (Ob Nd : Nat → Prop) (a d : CS) : Prop := d.1 = a.1 ∧ (kI d 320 t = 0 → kI a 320 t = 0) ∧ (∀ x j, ¬ (j = c ∧ (x = 72 ∨ x = 73)) → ¬ (j = t ∧ (x = 320 ∨ x = 321)) → ¬ (j = k ∧ 35 ≤ x ∧ x ≤ 37) → ¬ (Ob j ∧ (x = 133 ∨ x = 206 ∨ x = 234 ∨ (96 ≤ x ∧ x ≤ 100))) → AT a d x j) ∧ (∀ x j, 64 ≤ x → x < 128 → kP d x j = kP a x j ∧ kL d x j = kL a x j) ∧ ∀ y, ¬ Nd y → (kA a 65 c y = 39 → kA d 72 c y = kA a 72 c y) ∧ kA d 73 c y = kA a 73 c y
theorem CFN.refl {t c k : Nat} {Ob Nd : Nat → Prop} {a : CS} : CFN t c k Ob Nd a a := ⟨rfl, id, fun _ _ _ _ _ _ => AT.refl, fun _ _ _ _ => ⟨rfl, rfl⟩, fun _ _ => ⟨fun _ => rfl, rfl⟩⟩
theorem CFN.n {t c k x : Nat} {Ob Nd : Nat → Prop} {a d : CS} (h : CFN t c k Ob Nd a d) (hx : 64 ≤ x ∧ x < 72) : AT a d x c := h.2.2.1 x c (by omega) (by omega) (by omega) (by omega)
theorem CFN.trans {t c k : Nat} {Ob Nd : Nat → Prop} {a b d : CS} (h : CFN t c k Ob Nd a b) (g : CFN t c k Ob Nd b d) : CFN t c k Ob Nd a d := ⟨g.1.trans h.1, fun w => h.2.1 (g.2.1 w), fun x j h1 h2 h3 h4 => (h.2.2.1 x j h1 h2 h3 h4).trans (g.2.2.1 x j h1 h2 h3 h4), fun x j h1 h2 => ⟨(g.2.2.2.1 x j h1 h2).1.trans (h.2.2.2.1 x j h1 h2).1, (g.2.2.2.1 x j h1 h2).2.trans (h.2.2.2.1 x j h1 h2).2⟩, fun y hy => ⟨fun w => ((g.2.2.2.2 y hy).1 (by rw [(h.n (x := 65) (by omega)).a]; exact w)).trans ((h.2.2.2.2 y hy).1 w), (g.2.2.2.2 y hy).2.trans (h.2.2.2.2 y hy).2⟩⟩
theorem CFN.mono {t c k : Nat} {Ob Nd Ob' Nd' : Nat → Prop} {a d : CS} (h : CFN t c k Ob Nd a d) (h1 : ∀ j, Ob j → Ob' j) (h2 : ∀ y, Nd y → Nd' y) : CFN t c k Ob' Nd' a d := ⟨h.1, h.2.1, fun x j q1 q2 q3 q4 => h.2.2.1 x j q1 q2 q3 (fun w => q4 ⟨h1 j w.1, w.2⟩), h.2.2.2.1, fun y hy => h.2.2.2.2 y (fun w => hy (h2 y w))⟩
theorem CFN.em {t c k : Nat} {Ob Nd : Nat → Prop} {a d : CS} (h : CFN t c k Ob Nd a d) : EM a d := EM.of (congrArg (fun z => z.2.2) h.1)
theorem CFN.ck {t c k kd cap s : Nat} {Ob Nd : Nat → Prop} {a d : CS} (h : CFN t c kd Ob Nd a d) (g : CK t c cap s k a) : CK t c cap s k d := by
  refine g.mv h.em (fun x hx => h.2.2.1 x k (by omega) (by omega) (by omega) (by omega)) (fun x x1 x2 => h.2.2.2.1 x c x1 (by omega)) (h.2.2.1 64 c (by omega) (by omega) (by omega) (by omega)).i
theorem CFN.cw {t c kd s : Nat} {V : VT} {Ob Nd : Nat → Prop} {a d : CS} (h : CFN t c kd Ob Nd a d) (cw : ∀ z, z < s → CW c a z = (V z).1) : ∀ z, z < s → CW c d z = (V z).1 := fun z hz => by
  have g : ∀ x, 65 ≤ x → x ≤ 71 → AT a d x c := fun x x1 x2 => h.n (by omega)
  have q := cw z hz
  unfold CW at q ⊢
  rw [(g 65 (by omega) (by omega)).a, (g 67 (by omega) (by omega)).a, (g 68 (by omega) (by omega)).a, (g 66 (by omega) (by omega)).a, (g 69 (by omega) (by omega)).b, (g 71 (by omega) (by omega)).a, (g 70 (by omega) (by omega)).b]
  exact q
/-- checks of nodes alone -/
def NFR (t c : Nat) (Nd : Nat → Prop) (a d : CS) : Prop := d.1 = a.1 ∧ (kI d 320 t = 0 → kI a 320 t = 0) ∧ (∀ x j, ¬ (j = c ∧ (x = 72 ∨ x = 73)) → ¬ (j = t ∧ (x = 320 ∨ x = 321)) → AT a d x j) ∧ (∀ x j, kP d x j = kP a x j ∧ kL d x j = kL a x j) ∧ ∀ y, ¬ Nd y → kA d 72 c y = kA a 72 c y ∧ kA d 73 c y = kA a 73 c y
theorem NFR.refl {t c : Nat} {Nd : Nat → Prop} {a : CS} : NFR t c Nd a a := ⟨rfl, id, fun _ _ _ _ => AT.refl, fun _ _ => ⟨rfl, rfl⟩, fun _ _ => ⟨rfl, rfl⟩⟩
theorem NFR.trans {t c : Nat} {Nd : Nat → Prop} {a b d : CS} (h : NFR t c Nd a b) (g : NFR t c Nd b d) : NFR t c Nd a d := ⟨g.1.trans h.1, fun w => h.2.1 (g.2.1 w), fun x j h1 h2 => (h.2.2.1 x j h1 h2).trans (g.2.2.1 x j h1 h2), fun x j => ⟨(g.2.2.2.1 x j).1.trans (h.2.2.2.1 x j).1, (g.2.2.2.1 x j).2.trans (h.2.2.2.1 x j).2⟩, fun y hy => ⟨(g.2.2.2.2 y hy).1.trans (h.2.2.2.2 y hy).1, (g.2.2.2.2 y hy).2.trans (h.2.2.2.2 y hy).2⟩⟩
theorem NFR.mono {t c : Nat} {Nd Nd' : Nat → Prop} {a d : CS} (h : NFR t c Nd a d) (h2 : ∀ y, Nd y → Nd' y) : NFR t c Nd' a d := ⟨h.1, h.2.1, h.2.2.1, h.2.2.2.1, fun y hy => h.2.2.2.2 y (fun w => hy (h2 y w))⟩
theorem NFR.cf {t c k : Nat} {Ob Nd : Nat → Prop} {a d : CS} (h : NFR t c Nd a d) : CFN t c k Ob Nd a d := ⟨h.1, h.2.1, fun x j q1 q2 _ _ => h.2.2.1 x j q1 q2, fun x j _ _ => h.2.2.2.1 x j, fun y hy => ⟨fun _ => (h.2.2.2.2 y hy).1, (h.2.2.2.2 y hy).2⟩⟩
theorem NFR.ck {t c k cap s : Nat} {Nd : Nat → Prop} {a d : CS} (h : NFR t c Nd a d) (g : CK t c cap s k a) : CK t c cap s k d := (h.cf (k := k) (Ob := fun _ => False)).ck g
/-- a check of the node n -/
def PFN (t c k : Nat) (n : Int32) (a d : CS) : Prop := kR a 34 k = some c → kR a 32 k = some t → NFR t c (fun y => y = n.toNatClampNeg) a d
theorem PFN.refl {t c k : Nat} {n : Int32} {a : CS} : PFN t c k n a a := fun _ _ => NFR.refl
theorem PFN.trans {t c k : Nat} {n : Int32} {a b d : CS} (h : PFN t c k n a b) (g : PFN t c k n b d) : PFN t c k n a d := fun h1 h2 => by
  have w := h h1 h2
  refine w.trans (g ?_ ?_)
  · rw [(w.2.2.1 34 k (by omega) (by omega)).r]
    exact h1
  · rw [(w.2.2.1 32 k (by omega) (by omega)).r]
    exact h2
theorem PFN.to {t c k : Nat} {n : Int32} {a b d : CS} (h : PFN t c k n a b) (e : b = d) : PFN t c k n a d := e ▸ h
theorem PFN.wA {t c k i j x : Nat} {n v : Int32} {cs cs1 : CS} (hx : x = 72 ∨ x = 73) (h34 : gR cs 1 34 k = some (some i)) (hv : wA cs x i j n v = some cs1) : PFN t c k n cs cs1 := fun h1 h2 => by
  have e : i = c := Option.some.inj ((gR_some h34).2.symm.trans h1)
  obtain ⟨-, s⟩ := wA_some hv
  rw [e] at s
  rw [← s]
  refine ⟨rfl, id, fun y j q1 q2 => AT.sA (by omega), fun _ _ => ⟨rfl, rfl⟩, fun y hy => ?_⟩
  have e2 : ∀ z, kA (sA cs x c n.toNatClampNeg v) z c y = kA cs z c y := fun z => by
    by_cases w : z = x
    · rw [w, kA_s]
      exact pk_un hy
    · rw [(AT.sA (fun q => w q.1)).a]
  exact ⟨e2 72, e2 73⟩
theorem PFN.ref {F t c k i : Nat} {n a b : Int32} {cs cs1 : CS} (h32 : gR cs 1 32 k = some (some i)) (hv : c_X9_refuse F cs i a b = some cs1) : PFN t c k n cs cs1 := fun h1 h2 => by
  have e : i = t := Option.some.inj ((gR_some h32).2.symm.trans h2)
  rw [e] at hv
  unfold c_X9_refuse c_X9_refuse_b17 at hv
  replace hv := ob hv; obtain ⟨v1, g1, hv⟩ := hv
  by_cases y : v1 = 0
  · replace hv := (if_pos y).symm.trans hv
    replace hv := ob hv; obtain ⟨c3, g3, hv⟩ := hv
    replace hv := ob hv; obtain ⟨c4, g4, hv⟩ := hv
    have e1 := Option.some.inj hv
    obtain ⟨-, s3⟩ := pI_some g3
    obtain ⟨-, s4⟩ := pI_some g4
    rw [← e1, ← s4, ← s3]
    exact ⟨rfl, fun _ => (gI_some g1).2.trans y, fun x j q1 q2 => (AT.sI (by omega)).trans (AT.sI (by omega)), fun _ _ => ⟨rfl, rfl⟩, fun _ _ => ⟨rfl, rfl⟩⟩
  · replace hv := (if_neg y).symm.trans hv
    rw [← Option.some.inj hv]
    exact NFR.refl
theorem fn_c_X0_refuseUnlessOne {F t c k : Nat} {n x1 x2 : Int32} {cs cs9 : CS} (h : c_X0_refuseUnlessOne F cs k x1 x2 = some cs9) : PFN t c k n cs cs9 := by
  unfold c_X0_refuseUnlessOne c_X0_refuseUnlessOne_b18 c_X0_refuseUnlessOne_b30 at h
  by_cases y : x1 = 1
  · replace h := (if_pos y).symm.trans h
    exact PFN.refl.to (Option.some.inj h)
  · replace h := (if_neg y).symm.trans h
    replace h := ob h; obtain ⟨v2, g2, h⟩ := h
    by_cases z : x1 = 0
    · replace h := (if_pos z).symm.trans h
      replace h := ob h; obtain ⟨v3, g3, h⟩ := h
      replace h := ob h; obtain ⟨i4, g4, h⟩ := h
      replace h := ob h; obtain ⟨v5, g5, h⟩ := h
      replace h := ob h; obtain ⟨v6, g6, h⟩ := h
      replace h := ob h; obtain ⟨i7, g7, h⟩ := h
      replace h := ob h; obtain ⟨w8, g8, h⟩ := h
      replace h := ob h; obtain ⟨c9, g9, h⟩ := h
      rw [g7] at g2
      exact (PFN.ref g2 g9).to (Option.some.inj h)
    · replace h := (if_neg z).symm.trans h
      replace h := ob h; obtain ⟨v3, g3, h⟩ := h
      replace h := ob h; obtain ⟨i4, g4, h⟩ := h
      replace h := ob h; obtain ⟨v5, g5, h⟩ := h
      replace h := ob h; obtain ⟨v6, g6, h⟩ := h
      replace h := ob h; obtain ⟨i7, g7, h⟩ := h
      replace h := ob h; obtain ⟨w8, g8, h⟩ := h
      replace h := ob h; obtain ⟨c9, g9, h⟩ := h
      rw [g7] at g2
      exact (PFN.ref g2 g9).to (Option.some.inj h)
/-- what is found is found once, or a fault -/
theorem one_x {F t c k : Nat} {x1 x2 : Int32} {cs cs9 : CS} (h34 : kR cs 34 k = some c) (h32 : kR cs 32 k = some t) (h : c_X0_refuseUnlessOne F cs k x1 x2 = some cs9) (f : kI cs9 320 t = 0) : x1 = 1 ∧ cs9 = cs := by
  unfold c_X0_refuseUnlessOne c_X0_refuseUnlessOne_b18 c_X0_refuseUnlessOne_b30 at h
  by_cases y : x1 = 1
  · replace h := (if_pos y).symm.trans h
    exact ⟨y, (Option.some.inj h).symm⟩
  · exfalso
    replace h := (if_neg y).symm.trans h
    replace h := ob h; obtain ⟨v2, g2, h⟩ := h
    by_cases z : x1 = 0
    · replace h := (if_pos z).symm.trans h
      replace h := ob h; obtain ⟨v3, g3, h⟩ := h
      replace h := ob h; obtain ⟨i4, g4, h⟩ := h
      replace h := ob h; obtain ⟨v5, g5, h⟩ := h
      replace h := ob h; obtain ⟨v6, g6, h⟩ := h
      replace h := ob h; obtain ⟨i7, g7, h⟩ := h
      replace h := ob h; obtain ⟨w8, g8, h⟩ := h
      replace h := ob h; obtain ⟨c9, g9, h⟩ := h
      rw [g7] at g2
      have e : i7 = t := Option.some.inj ((gR_some g2).2.symm.trans h32)
      rw [e] at g9
      rw [← Option.some.inj h] at f
      exact (ref_x (by decide) g9).1 f
    · replace h := (if_neg z).symm.trans h
      replace h := ob h; obtain ⟨v3, g3, h⟩ := h
      replace h := ob h; obtain ⟨i4, g4, h⟩ := h
      replace h := ob h; obtain ⟨v5, g5, h⟩ := h
      replace h := ob h; obtain ⟨v6, g6, h⟩ := h
      replace h := ob h; obtain ⟨i7, g7, h⟩ := h
      replace h := ob h; obtain ⟨w8, g8, h⟩ := h
      replace h := ob h; obtain ⟨c9, g9, h⟩ := h
      rw [g7] at g2
      have e : i7 = t := Option.some.inj ((gR_some g2).2.symm.trans h32)
      rw [e] at g9
      rw [← Option.some.inj h] at f
      exact (ref_x (by decide) g9).1 f

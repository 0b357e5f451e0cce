/-! roots are kept: the class alone -/
def RTV (t : Nat) (cs : CS) (r : Int32) : Prop := ∀ c, kR cs 322 t = some c → r = kI cs 64 c - 1
theorem rt_b73 {F u0 : Nat} {T : TC_X9_readExpr} {cs1 cs9 : CS} {r9 : Int32} (h : c_X9_readExpr_b73 F T cs1 u0 = some (cs9, r9)) : RTV u0 cs9 r9 := by
  unfold c_X9_readExpr_b73 at h
  replace h := ob h; obtain ⟨v1, h1, h⟩ := h
  replace h := ob h; obtain ⟨i, hi, h⟩ := h
  replace h := ob h; obtain ⟨v3, h3, h⟩ := h
  obtain ⟨e1, e2⟩ := Prod.mk.inj (Option.some.inj h)
  intro c hc
  rw [← e1] at hc ⊢
  have g := (gR_some h1).2
  rw [g, hi] at hc
  rw [← e2, ← Option.some.inj hc, (gI_some h3).2]
theorem rt_L19 {F : Nat} {T : TC_X9_readExpr} : ∀ (lf : Nat) (cs1 : CS) (u0 : Nat) (u1 u2 u3 : Int32) (cs9 : CS) (r9 : Int32), c_X9_readExpr_L19 F T lf cs1 u0 u1 u2 u3 = some (cs9, r9) → RTV u0 cs9 r9 := by
  intro lf
  induction lf with
  | zero => intro cs1 u0 u1 u2 u3 cs9 r9 h; cases (show (none : Option (CS × Int32)) = _ from h)
  | succ lf ih =>
    intro cs1 u0 u1 u2 u3 cs9 r9 h
    rw [c_X9_readExpr_L19] at h
    by_cases c1 : 2000 ≤ u3
    · replace h := (if_pos c1).symm.trans h
      exact rt_b73 h
    · replace h := (if_neg c1).symm.trans h
      replace h := ob h; obtain ⟨w3, g3, h⟩ := h
      replace h := ob h; obtain ⟨v2, g2, h⟩ := h
      by_cases c4 : v2 = 29
      · replace h := (if_pos c4).symm.trans h
        replace h := ob h; obtain ⟨w6, g6, h⟩ := h
        replace h := ob h; obtain ⟨v5, g5, h⟩ := h
        replace h := ob h; obtain ⟨v7, g7, h⟩ := h
        replace h := ob h; obtain ⟨cs8, g8, h⟩ := h
        replace h := ob h; obtain ⟨w10, g10, h⟩ := h
        replace h := ob h; obtain ⟨cs9', g9, h⟩ := h
        replace h := ob h; obtain ⟨w12, g12, h⟩ := h
        replace h := ob h; obtain ⟨z11, g11, h⟩ := h
        exact ih _ _ _ _ _ _ _ h
      · replace h := (if_neg c4).symm.trans h
        exact rt_b73 h
theorem rt_ex {F n t : Nat} {cs cs9 : CS} {r9 : Int32} (h : c_X9_readExpr F n cs t = some (cs9, r9)) : RTV t cs9 r9 := by
  cases n with
  | zero => cases (show (none : Option (CS × Int32)) = _ from h)
  | succ n =>
    have g : cb_X9_readExpr F (tabc_X9_readExpr F n) cs t = some (cs9, r9) := h
    unfold cb_X9_readExpr at g
    replace g := ob g; obtain ⟨v1, g1, g⟩ := g
    replace g := ob g; obtain ⟨i2, g2, g⟩ := g
    replace g := ob g; obtain ⟨v3, g3, g⟩ := g
    replace g := ob g; obtain ⟨w5, g5, g⟩ := g
    replace g := ob g; obtain ⟨v4, g4, g⟩ := g
    replace g := ob g; obtain ⟨w7, g7, g⟩ := g
    replace g := ob g; obtain ⟨cs6, g6, g⟩ := g
    exact rt_L19 _ _ _ _ _ _ _ _ g
theorem SZ_lt {c : Nat} {cs : CS} : SZ c cs < 2147483648 := Int32.toNatClampNeg_lt _
theorem frs_ex {t c K : Nat} {a z : CS} {v : Int32} (hr : RTV t z v) (E : ∀ b, RBX t c K b 1 true a z) (hk : kR a 322 t = some c) (f : kI z 320 t = 0) (nf : NF c z) (iv : INV K c a) : FRS K c z v := by
  obtain ⟨d1, d2, d3, d5, d4⟩ := E (SZ c a) hk
  obtain ⟨f1, a1, i1, n1, s1⟩ := d4 f nf
  obtain ⟨p1, p2⟩ := s1 (Nat.le_refl _)
  obtain ⟨q, q1, q2, q3⟩ := p2 (by omega)
  have lt := SZ_lt (c := c) (cs := z)
  have e64 : kI z 64 c = nI (SZ c z) := by
    unfold SZ at p1 lt ⊢
    by_cases w : kI z 64 c < 0
    · exfalso
      have g : (kI z 64 c).toInt < (0 : Int32).toInt := Int32.lt_iff_toInt_lt.mp w
      have g0 : (0 : Int32).toInt = 0 := rfl
      have g1 : (kI z 64 c).toNatClampNeg = 0 := by
        show (kI z 64 c).toInt.toNat = 0
        omega
      omega
    · obtain ⟨X, hX, eX⟩ := nI_of w
      rw [eX, nI_clamp hX]
  have ev : v = nI (SZ c z - 1) := by
    rw [hr c d1, e64]
    obtain ⟨m, hm⟩ : ∃ m, SZ c z = m + 1 := ⟨SZ c z - 1, by omega⟩
    rw [hm, show m + 1 - 1 = m from rfl]
    have w := Int32.add_sub_cancel (nI m) 1
    rw [nI_1] at w
    exact w
  exact ⟨SZ c z - 1, q, ev, by omega, by omega, q3, fun j ρ r' hj g => Nat.lt_of_lt_of_le (iv.1 j ρ r' hj ((d5 rfl).rfs g)) q1⟩
theorem FRS.kp {t c K k : Nat} {z m : CS} {v : Int32} (g : FRS K c z v) (he : RBX t c K 0 k true z m) (hk : kR z 322 t = some c) (f : kI m 320 t = 0) (nf : NF c m) : FRS K c m v := by
  obtain ⟨d1, d2, d3, d5, d4⟩ := he hk
  obtain ⟨f1, a1, i1, n1, s1⟩ := d4 f nf
  obtain ⟨r, a, q1, q2, q3, q4, q5⟩ := g
  exact ⟨r, a, q1, by omega, q3, by rw [(n1 r q2).1]; exact q4, fun j ρ r' hj w => q5 j ρ r' hj ((d5 rfl).rfs w)⟩
/-- a root is put into one place -/
def STO (t c : Nat) (v : Int32) (m d : CS) : Prop := kR d 322 t = kR m 322 t ∧ kI d 320 t = kI m 320 t ∧ kI d 64 c = kI m 64 c ∧ kL d 65 c = kL m 65 c ∧ kA d 67 c = kA m 67 c ∧ kA d 65 c = kA m 65 c ∧ (∀ o, kI d 203 o = kI m 203 o ∧ kA d 202 o = kA m 202 o) ∧ ∃ o ρ0, ∀ j ρ r, RFS d j ρ r → RFS m j ρ r ∨ (j = o ∧ ρ = ρ0 ∧ v = nI r)
theorem INV.st {K c o ρ0 : Nat} {v : Int32} {m d : CS} (h : INV K c m) (g : FRS K c m v) (hz : SZ c d = SZ c m) (hf : kA d 67 c = kA m 67 c) (hr : ∀ j ρ r, RFS d j ρ r → RFS m j ρ r ∨ (j = o ∧ ρ = ρ0 ∧ v = nI r)) : INV K c d := by
  obtain ⟨r0, a, q1, q2, q3, q4, q5⟩ := g
  have lt := SZ_lt (c := c) (cs := m)
  have e0 : ∀ r, r < 120 → v = nI r → r = r0 := fun r hr w => ((nI_eq (by omega) (by omega)).mp (q1.symm.trans w)).symm
  refine ⟨fun j ρ r hj w => ?_, fun j ρ r j' ρ' r' hj hj' w w' => ?_⟩
  · rcases hr j ρ r w with y | ⟨y1, y2, y3⟩
    · rw [hz]
      exact h.1 j ρ r hj y
    · rw [hz, e0 r w.1 y3]
      exact q2
  · unfold DSJ
    rw [hf]
    rcases hr j ρ r w with y | ⟨y1, y2, y3⟩
    · rcases hr j' ρ' r' w' with y' | ⟨y1', y2', y3'⟩
      · exact h.2 j ρ r j' ρ' r' hj hj' y y'
      · have e := e0 r' w'.1 y3'
        rw [e]
        exact Or.inr (Or.inl ⟨a, q4, q5 j ρ r hj y, q3⟩)
    · have e := e0 r w.1 y3
      rw [e]
      rcases hr j' ρ' r' w' with y' | ⟨y1', y2', y3'⟩
      · exact Or.inr (Or.inr ⟨a, q4, q5 j' ρ' r' hj' y', q3⟩)
      · exact Or.inl ⟨y1.trans y1'.symm, y2.trans y2'.symm⟩
theorem sto_rb {t c K k : Nat} {a z m d : CS} {v : Int32} (hr : RTV t z v) (E : ∀ b, RBX t c K b 1 true a z) (he : RBX t c K 0 k true z m) (S : STO t c v m d) : RBX t c K 0 0 false a d := fun hk => by
  obtain ⟨x1, x2, x3, x5, x4⟩ := E 0 hk
  obtain ⟨y1, y2, y3, y5, y4⟩ := he x1
  obtain ⟨s1, s2, s3, s4, s5, s6, s7, o, ρ0, s8⟩ := S
  have hz : SZ c d = SZ c m := by unfold SZ; rw [s3]
  refine ⟨s1.trans y1, s4.trans (y2.trans x2), by omega, fun w => absurd w (by decide), fun f nf => ?_⟩
  have nm : NF c m := nf.up s4 (by omega)
  have nz : NF c z := nm.up y2 y3
  rw [s2] at f
  obtain ⟨f1, a1, i1, n1, p1⟩ := y4 f nm
  obtain ⟨f0, a0, i0, n0, p0⟩ := x4 f1 nz
  refine ⟨f0, fun w => (a1 (a0 w)).kp (by omega) (fun o x _ g => ?_) (fun y _ => by rw [s6]), fun w => (i1 (i0 w)).st ((frs_ex hr E hk f1 nz w).kp he x1 f nm) hz s5 s8, fun y hy => ⟨by rw [s5, (n1 y (by omega)).1]; exact (n0 y hy).1, by rw [s6, (n1 y (by omega)).2]; exact (n0 y hy).2⟩, fun _ => ⟨by omega, fun hl => ?_⟩⟩
  · obtain ⟨i, k, m1, m2, m3, m4⟩ := g
    rw [(s7 o).1] at m2
    rw [(s7 o).2] at m4
    exact ⟨i, k, m1, m2, m3, m4⟩
  · obtain ⟨-, -, -, -, u4⟩ := ((E 0).trans he) hk
    obtain ⟨q, q1, q2, q3⟩ := ((u4 f nm).2.2.2.2 (Nat.zero_le _)).2 (by omega)
    exact ⟨q, q1, by omega, by rw [s5, hz]; exact q3⟩
theorem sto_I {t c X x o : Nat} {v : Int32} {m d : CS} (hx : x = 197 ∨ x = 201 ∨ x = 233) (h : pI m X x o v = some d) : STO t c v m d := by
  obtain ⟨-, s⟩ := pI_some h
  have ei : ∀ y j, ¬ (y = x ∧ j = o) → kI d y j = kI m y j := fun y j hy => by rw [← s]; exact kI_n hy
  have es : kI d x o = v := by rw [← s]; exact kI_s
  have er : kR d = kR m := by rw [← s]; rfl
  have ea : kA d = kA m := by rw [← s]; rfl
  have ep : kP d = kP m := by rw [← s]; rfl
  refine ⟨by rw [er], ei _ _ (by omega), ei _ _ (by omega), by rw [← s]; rfl, by rw [ea], by rw [ea], fun o => ⟨ei _ _ (by omega), by rw [ea]⟩, o, if x = 197 then 0 else if x = 201 then 1 else 2, fun j ρ r g => ?_⟩
  obtain ⟨g0, g⟩ := g
  rcases g with ⟨g1, g2, g3⟩ | ⟨g1, g2, g3⟩ | ⟨g1, g2, g3⟩ | ⟨y, n, g1, g2, g3, g4, g5⟩
  · by_cases w : x = 197 ∧ j = o
    · rw [if_pos w.1]
      refine Or.inr ⟨w.2, g1, ?_⟩
      rw [← es, ← g3, w.1, w.2]
    · exact Or.inl ⟨g0, Or.inl ⟨g1, by rw [← ep]; exact g2, by rw [← ei 197 j (by omega)]; exact g3⟩⟩
  · by_cases w : x = 201 ∧ j = o
    · rw [if_neg (by omega), if_pos w.1]
      refine Or.inr ⟨w.2, g1, ?_⟩
      rw [← es, ← g3, w.1, w.2]
    · exact Or.inl ⟨g0, Or.inr (Or.inl ⟨g1, by rw [← ep]; exact g2, by rw [← ei 201 j (by omega)]; exact g3⟩)⟩
  · by_cases w : x = 233 ∧ j = o
    · rw [if_neg (by omega), if_neg (by omega)]
      refine Or.inr ⟨w.2, g1, ?_⟩
      rw [← es, ← g3, w.1, w.2]
    · exact Or.inl ⟨g0, Or.inr (Or.inr (Or.inl ⟨g1, by rw [← er]; exact g2, by rw [← ei 233 j (by omega)]; exact g3⟩))⟩
  · exact Or.inl ⟨g0, Or.inr (Or.inr (Or.inr ⟨y, n, g1, by rw [← ei 96 j (by omega)]; exact g2, g3, g4, by rw [← ea]; exact g5⟩))⟩
theorem STO.refl {t c : Nat} {v : Int32} {m : CS} : STO t c v m m := ⟨rfl, rfl, rfl, rfl, rfl, rfl, fun _ => ⟨rfl, rfl⟩, 0, 0, fun _ _ _ g => Or.inl g⟩
theorem nI_m1 {m : Nat} {v : Int32} (h : v + 1 = nI (m + 1)) : v = nI m := by
  rw [← nI_1] at h
  have : v + 1 - 1 = nI m + 1 - 1 := by rw [h]
  rw [Int32.add_sub_cancel, Int32.add_sub_cancel] at this
  exact this
/-- a column more -/
theorem sto_A {F t c o : Nat} {v : Int32} {nm : Int64} {mk ty : Int32} {m d : CS} (h : c_X2_add F m o v nm mk ty = some d) : STO t c v m d := by
  unfold c_X2_add at h
  replace h := ob h; obtain ⟨w0, g0, h⟩ := h
  replace h := ob h; obtain ⟨v1, g1, h⟩ := h
  by_cases y : v1 = 0
  · replace h := (if_pos y).symm.trans h
    replace h := ob h; obtain ⟨v4, g4, h⟩ := h
    replace h := ob h; obtain ⟨v5, g5, h⟩ := h
    replace h := ob h; obtain ⟨c6, g6, h⟩ := h
    replace h := ob h; obtain ⟨v7, g7, h⟩ := h
    replace h := ob h; obtain ⟨v8, g8, h⟩ := h
    replace h := ob h; obtain ⟨c9, g9, h⟩ := h
    replace h := ob h; obtain ⟨v10, g10, h⟩ := h
    replace h := ob h; obtain ⟨v11, g11, h⟩ := h
    replace h := ob h; obtain ⟨c12, g12, h⟩ := h
    replace h := ob h; obtain ⟨v13, g13, h⟩ := h
    replace h := ob h; obtain ⟨v14, g14, h⟩ := h
    replace h := ob h; obtain ⟨c15, g15, h⟩ := h
    replace h := ob h; obtain ⟨v16, g16, h⟩ := h
    replace h := ob h; obtain ⟨c17, g17, h⟩ := h
    have e := Option.some.inj h
    obtain ⟨ok6, s6⟩ := wA_some g6
    obtain ⟨-, s9⟩ := wB_some g9
    obtain ⟨-, s12⟩ := wA_some g12
    obtain ⟨-, s15⟩ := wA_some g15
    obtain ⟨-, s17⟩ := pI_some g17
    have k5 := (gI_some g5).2
    have b6 : kI c6 = kI m ∧ kR c6 = kR m ∧ kP c6 = kP m ∧ kL c6 = kL m := by rw [← s6]; exact ⟨rfl, rfl, rfl, rfl⟩
    have b9 : kI c9 = kI c6 ∧ kR c9 = kR c6 ∧ kP c9 = kP c6 ∧ kL c9 = kL c6 ∧ kA c9 = kA c6 := by rw [← s9]; exact ⟨rfl, rfl, rfl, rfl, rfl⟩
    have b12 : kI c12 = kI c9 ∧ kR c12 = kR c9 ∧ kP c12 = kP c9 ∧ kL c12 = kL c9 := by rw [← s12]; exact ⟨rfl, rfl, rfl, rfl⟩
    have b15 : kI c15 = kI c12 ∧ kR c15 = kR c12 ∧ kP c15 = kP c12 ∧ kL c15 = kL c12 := by rw [← s15]; exact ⟨rfl, rfl, rfl, rfl⟩
    have b17 : kR c17 = kR c15 ∧ kP c17 = kP c15 ∧ kL c17 = kL c15 ∧ kA c17 = kA c15 := by rw [← s17]; exact ⟨rfl, rfl, rfl, rfl⟩
    have k15 : kI c15 = kI m := b15.1.trans (b12.1.trans (b9.1.trans b6.1))
    have k16 : v16 = v5 := by
      have w := (gI_some g16).2
      rw [k15] at w
      exact w.symm.trans k5
    have pos : ¬ v5 < 0 := fun w => ok6.2.2 (Or.inl w)
    obtain ⟨n, hn, en⟩ := nI_of pos
    rw [en, nI_clamp hn] at s6
    have a6 : ∀ x j, ¬ (x = 97 ∧ j = o) → kA c6 x j = kA m x j := fun x j hx => by rw [← s6]; exact (AT.sA hx).a
    have a12 : ∀ x j, ¬ (x = 99 ∧ j = o) → kA c12 x j = kA c9 x j := fun x j hx => by rw [← s12]; exact (AT.sA hx).a
    have a15 : ∀ x j, ¬ (x = 100 ∧ j = o) → kA c15 x j = kA c12 x j := fun x j hx => by rw [← s15]; exact (AT.sA hx).a
    have a6' : kA c6 97 o = upd (kA m 97 o) n v := by rw [← s6]; exact kA_s
    have ei : ∀ x j, ¬ (x = 96 ∧ j = o) → kI d x j = kI m x j := fun x j hx => by rw [← e, ← s17, kI_n hx, k15]
    have e96 : kI d 96 o = v5 + 1 := by rw [← e, ← s17, kI_s, k16]
    have er : kR d = kR m := by rw [← e]; exact b17.1.trans (b15.2.1.trans (b12.2.1.trans (b9.2.1.trans b6.2.1)))
    have ep : kP d = kP m := by rw [← e]; exact b17.2.1.trans (b15.2.2.1.trans (b12.2.2.1.trans (b9.2.2.1.trans b6.2.2.1)))
    have el : kL d = kL m := by rw [← e]; exact b17.2.2.1.trans (b15.2.2.2.trans (b12.2.2.2.trans (b9.2.2.2.1.trans b6.2.2.2)))
    have ea : ∀ x j, ¬ ((x = 97 ∨ x = 99 ∨ x = 100) ∧ j = o) → kA d x j = kA m x j := fun x j hx => by
      rw [← e, b17.2.2.2, a15 x j (by omega), a12 x j (by omega), b9.2.2.2.2, a6 x j (by omega)]
    have ea' : ∀ j, j ≠ o → kA d 97 j = kA m 97 j := fun j hj => ea 97 j (by omega)
    have e97 : kA d 97 o = upd (kA m 97 o) n v := by
      rw [← e, b17.2.2.2, a15 97 o (by omega), a12 97 o (by omega), b9.2.2.2.2, a6']
    refine ⟨by rw [er], ei _ _ (by omega), ei _ _ (by omega), by rw [el], ea _ _ (by omega), ea _ _ (by omega), fun o' => ⟨ei _ _ (by omega), ea _ _ (by omega)⟩, o, n + 3, fun j ρ r g => ?_⟩
    obtain ⟨q0, g⟩ := g
    rcases g with ⟨q1, q2, q3⟩ | ⟨q1, q2, q3⟩ | ⟨q1, q2, q3⟩ | ⟨y, m', q1, q2, q3, q4, q5⟩
    · exact Or.inl ⟨q0, Or.inl ⟨q1, by rw [← ep]; exact q2, by rw [← ei 197 j (by omega)]; exact q3⟩⟩
    · exact Or.inl ⟨q0, Or.inr (Or.inl ⟨q1, by rw [← ep]; exact q2, by rw [← ei 201 j (by omega)]; exact q3⟩)⟩
    · exact Or.inl ⟨q0, Or.inr (Or.inr (Or.inl ⟨q1, by rw [← er]; exact q2, by rw [← ei 233 j (by omega)]; exact q3⟩))⟩
    · by_cases w : j = o
      · rw [w] at q2 q5 ⊢
        rw [e96] at q2
        obtain ⟨m2, hm2⟩ : ∃ m2, m' = m2 + 1 := ⟨m' - 1, by omega⟩
        rw [hm2] at q2
        have v5n := nI_m1 q2
        have nn : n = m2 := (nI_eq (by omega) (by omega)).mp (en.symm.trans v5n)
        rw [e97] at q5
        by_cases z : y = n
        · rw [z, pk_us] at q5
          exact Or.inr ⟨rfl, by omega, q5⟩
        · rw [pk_un z] at q5
          exact Or.inl ⟨q0, Or.inr (Or.inr (Or.inr ⟨y, m2, q1, by rw [k5]; exact v5n, by omega, by omega, q5⟩))⟩
      · exact Or.inl ⟨q0, Or.inr (Or.inr (Or.inr ⟨y, m', q1, by rw [← ei 96 j (by omega)]; exact q2, q3, q4, by rw [← ea' j w]; exact q5⟩))⟩
  · replace h := (if_neg y).symm.trans h
    have e := Option.some.inj h
    rw [← e]
    exact STO.refl

/-! a node more, the class alone -/
theorem nI_bad (k : Nat) (h : k < 13) : nI k ≠ nI (2147483647 + 1) := by
  have : ∀ k, k < 13 → nI k ≠ nI (2147483647 + 1) := by decide +kernel
  exact this k h
theorem FST.sz {b c t i : Nat} {v : Int32} {cs : CS} (hk : kR cs 322 t = some c) (hb : b ≤ SZ c cs) (h1 : gR cs 10 322 t = some (some i)) (h2 : gI cs 2 64 i = some v) : FST b v := by
  have e : i = c := Option.some.inj ((gR_some h1).2.symm.trans hk)
  have e2 : kI cs 64 c = v := by rw [← e]; exact (gI_some h2).2
  unfold SZ at hb
  rw [e2] at hb
  by_cases w : v < 0
  · intro N h3 h4
    exact ⟨N, if_pos w, h3, Nat.le_refl _⟩
  · obtain ⟨X, hX, eX⟩ := nI_of w
    rw [eX, nI_clamp hX] at hb
    rw [eX]
    exact FST.num hb hX
theorem ref_x {F t : Nat} {cs : CS} {a v : Int32} {cs9 : CS} (ha : a ≠ 0) (h : c_X9_refuse F cs t a v = some cs9) : kI cs9 320 t ≠ 0 ∧ kR cs9 = kR cs ∧ kL cs9 = kL cs ∧ kI cs9 64 = kI cs 64 ∧ SR0 cs cs9 := by
  unfold c_X9_refuse c_X9_refuse_b17 at h
  replace h := ob h; obtain ⟨v1, h1, h⟩ := h
  by_cases y : v1 = 0
  · replace h := (if_pos y).symm.trans h
    replace h := ob h; obtain ⟨c3, h3, h⟩ := h
    replace h := ob h; obtain ⟨c4, h4, h⟩ := h
    have e := Option.some.inj h
    obtain ⟨-, s3⟩ := pI_some h3
    obtain ⟨-, s4⟩ := pI_some h4
    rw [← e, ← s4, ← s3]
    have ei : ∀ x j, x ≠ 320 → x ≠ 321 → kI (sI (sI cs 320 t a) 321 t v) x j = kI cs x j := fun x j h1 h2 => by rw [kI_n (by omega), kI_n (by omega)]
    refine ⟨?_, rfl, rfl, ?_, fun j => ⟨rfl, ei _ _ (by decide) (by decide), ei _ _ (by decide) (by decide), rfl, ei _ _ (by decide) (by decide), ei _ _ (by decide) (by decide), rfl⟩⟩
    · rw [kI_n (by omega), kI_s]
      exact ha
    · funext j
      exact ei _ _ (by decide) (by decide)
  · replace h := (if_neg y).symm.trans h
    have e := Option.some.inj h
    rw [← e]
    exact ⟨by rw [(gI_some h1).2]; exact y, rfl, rfl, rfl, SR0.refl⟩
theorem ref_rb {β : Bool} {F t c K b : Nat} {cs : CS} {a v : Int32} {cs9 : CS} (ha : a ≠ 0) (h : c_X9_refuse F cs t a v = some cs9) : RBX t c K b 1 β cs cs9 := by
  have nz := ref_x ha h
  intro hk
  refine ⟨by rw [nz.2.1]; exact hk, by rw [nz.2.2.1], ?_, fun _ => nz.2.2.2.2, fun f => absurd f nz.1⟩
  unfold SZ
  rw [nz.2.2.2.1]
  exact Nat.le_refl _
theorem ninth_rb {β : Bool} {F t c K b : Nat} {cs : CS} {x1 x2 : Int32} {cs9 : CS} (h : c_X9_refuseNinth F cs t x1 x2 = some cs9) : RBX t c K b 0 β cs cs9 := by
  unfold c_X9_refuseNinth c_X9_refuseNinth_b23 c_X9_refuseNinth_b30 at h
  by_cases y : x1 = 0
  · replace h := (if_pos y).symm.trans h
    exact RBX.refl.to (Option.some.inj h)
  · replace h := (if_neg y).symm.trans h
    replace h := ob h; obtain ⟨w1, g1, h⟩ := h
    replace h := ob h; obtain ⟨v6, g6, h⟩ := h
    replace h := ob h; obtain ⟨w2, g2, h⟩ := h
    replace h := ob h; obtain ⟨v8, g8, h⟩ := h
    by_cases z : v8 = 0
    · replace h := (if_pos z).symm.trans h
      replace h := ob h; obtain ⟨w3, g3, h⟩ := h
      replace h := ob h; obtain ⟨v9, g9, h⟩ := h
      replace h := ob h; obtain ⟨w4, g4, h⟩ := h
      replace h := ob h; obtain ⟨c5, g5, h⟩ := h
      exact ((ref_rb (by decide) g5).to (Option.some.inj h)).le (by decide)
    · replace h := (if_neg z).symm.trans h
      replace h := ob h; obtain ⟨w3, g3, h⟩ := h
      replace h := ob h; obtain ⟨v9, g9, h⟩ := h
      replace h := ob h; obtain ⟨w4, g4, h⟩ := h
      replace h := ob h; obtain ⟨c5, g5, h⟩ := h
      exact ((ref_rb (by decide) g5).to (Option.some.inj h)).le (by decide)
/-- one node more, exactly -/
def nod (cs : CS) (c N : Nat) (x1 x2 x3 x4 : Int32) : CS := sA (sB (sA (sA (sA (sA (sI cs 64 c (nI (N + 1))) 65 c N x1) 66 c N x3) 67 c N (FI N x2)) 68 c N x4) 70 c N (-1)) 71 c N (-1)
theorem add_x {F : Nat} {cs : CS} {x0 : Nat} {x1 x2 x3 x4 : Int32} {cs9 : CS} {r9 : Int32} (h : c_X1_add F cs x0 x1 x2 x3 x4 = some (cs9, r9)) : (cs9 = cs ∧ ¬ kI cs 64 x0 < nI (kL cs 65 x0)) ∨ ∃ N, kI cs 64 x0 = nI N ∧ N + 1 < 2147483648 ∧ r9 = nI N ∧ cs9 = nod cs x0 N x1 x2 x3 x4 := by
  unfold c_X1_add at h
  replace h := ob h; obtain ⟨v1, h1, h⟩ := h
  replace h := ob h; obtain ⟨v2, h2, h⟩ := h
  replace h := ob h; obtain ⟨v3, h3, h⟩ := h
  have g1 := (gI_some h1).2
  have g3 := (lnA_some h3).2
  by_cases y : v1 < v3
  · replace h := (if_pos y).symm.trans h
    replace h := ob h; obtain ⟨v5, h5, h⟩ := h
    replace h := ob h; obtain ⟨v6, h6, h⟩ := h
    replace h := ob h; obtain ⟨c7, h7, h⟩ := h
    replace h := ob h; obtain ⟨v8, h8, h⟩ := h
    replace h := ob h; obtain ⟨c9, h9, h⟩ := h
    replace h := ob h; obtain ⟨v10, h10, h⟩ := h
    replace h := ob h; obtain ⟨c11, h11, h⟩ := h
    replace h := ob h; obtain ⟨v12, h12, h⟩ := h
    replace h := add_67.symm.trans h
    unfold c_X1_add_b68 at h
    replace h := ob h; obtain ⟨c13, h13, h⟩ := h
    replace h := ob h; obtain ⟨v14, h14, h⟩ := h
    replace h := ob h; obtain ⟨c15, h15, h⟩ := h
    replace h := ob h; obtain ⟨v16, h16, h⟩ := h
    replace h := ob h; obtain ⟨c17, h17, h⟩ := h
    replace h := ob h; obtain ⟨v18, h18, h⟩ := h
    replace h := ob h; obtain ⟨c19, h19, h⟩ := h
    obtain ⟨e1, e2⟩ := Prod.mk.inj (Option.some.inj h)
    have g5 := (gI_some h5).2
    have g6 := (gI_some h6).2
    have q5 : v5 = v1 := g5.symm.trans g1
    have q6 : v6 = v1 := g6.symm.trans g1
    obtain ⟨-, s7⟩ := pI_some h7
    obtain ⟨ok9, s9⟩ := wA_some h9
    obtain ⟨-, s11⟩ := wA_some h11
    obtain ⟨-, s13⟩ := wA_some h13
    obtain ⟨-, s15⟩ := wA_some h15
    obtain ⟨-, s17⟩ := wB_some h17
    obtain ⟨-, s19⟩ := wA_some h19
    have pos : ¬ v1 < 0 := fun w => ok9.2.2 (Or.inl (by rw [q5]; exact w))
    obtain ⟨N, hN, eN⟩ := nI_of pos
    have N1 : N + 1 < 2147483648 := by
      by_cases w : v3 < 0
      · exact absurd (Int32.lt_trans y w) pos
      · obtain ⟨L, hL, eL⟩ := nI_of w
        rw [eN, eL] at y
        have := (nI_ltI (a := N) (b := L) (by omega) (by omega)).mp y
        omega
    have cl : v5.toNatClampNeg = N := by rw [q5, eN]; exact nI_clamp (by omega)
    rw [cl] at s9 s11 s13 s15 s17 s19
    rw [q6, eN, nI_1] at s7
    rw [q5, eN] at s13 e2
    refine Or.inr ⟨N, g1.trans eN, N1, e2.symm, ?_⟩
    rw [← e1, ← s19, ← s17, ← s15, ← s13, ← s11, ← s9, ← s7]
    rfl
  · replace h := (if_neg y).symm.trans h
    obtain ⟨e1, e2⟩ := Prod.mk.inj (Option.some.inj h)
    exact Or.inl ⟨e1.symm, by rw [g1, g3]; exact y⟩
/-- a node that was told -/
def CPR (t c : Nat) (x1 : Int32) (cs cs9 : CS) (r9 : Int32) : Prop := kR cs 322 t = some c → kI cs9 320 t = 0 → NF c cs9 → ∃ N, SZ c cs = N ∧ r9 = nI N ∧ SZ c cs9 = N + 1 ∧ N + 1 < 2147483648 ∧ kA cs9 65 c N = x1 ∧ ∀ o, kI cs9 203 o = kI cs 203 o ∧ kA cs9 202 o = kA cs 202 o
theorem nod_65 {cs : CS} {c N : Nat} {x1 x2 x3 x4 : Int32} : kA (nod cs c N x1 x2 x3 x4) 65 c = upd (kA cs 65 c) N x1 := ((AT.sA (by omega)).a).trans (((AT.sB (by omega)).a).trans (((AT.sA (by omega)).a).trans (((AT.sA (by omega)).a).trans (((AT.sA (by omega)).a).trans kA_s))))
theorem nod_67 {cs : CS} {c N : Nat} {x1 x2 x3 x4 : Int32} : kA (nod cs c N x1 x2 x3 x4) 67 c = upd (kA cs 67 c) N (FI N x2) := ((AT.sA (by omega)).a).trans (((AT.sB (by omega)).a).trans (((AT.sA (by omega)).a).trans (kA_s.trans (by rw [(AT.sA (by omega)).a, (AT.sA (by omega)).a]; rfl))))
theorem nod_ot {cs : CS} {c N x j : Nat} {x1 x2 x3 x4 : Int32} (h : x < 64 ∨ 71 < x) : AT cs (nod cs c N x1 x2 x3 x4) x j := (((((AT.sI (by omega)).trans (AT.sA (by omega))).trans (AT.sA (by omega))).trans (AT.sA (by omega))).trans (AT.sA (by omega))).trans ((AT.sB (by omega)).trans (AT.sA (by omega)))
theorem nod_rb {β : Bool} {t c K b N : Nat} {x1 x2 x3 x4 : Int32} {cs : CS} (k0 : kI cs 64 c = nI N) (N1 : N + 1 < 2147483648) (hf : b ≤ SZ c cs → FST b x2) : RBX t c K b 1 β cs (nod cs c N x1 x2 x3 x4) := fun hk => by
  have z0 : SZ c cs = N := by unfold SZ; rw [k0]; exact nI_clamp (by omega)
  have z1 : SZ c (nod cs c N x1 x2 x3 x4) = N + 1 := by
    unfold SZ
    rw [show kI (nod cs c N x1 x2 x3 x4) 64 c = nI (N + 1) from kI_s]
    exact nI_clamp N1
  have sr : SR0 cs (nod cs c N x1 x2 x3 x4) := fun j => ⟨rfl, (nod_ot (by omega)).i, (nod_ot (by omega)).i, rfl, (nod_ot (by omega)).i, (nod_ot (by omega)).i, (nod_ot (by omega)).a⟩
  refine ⟨hk, rfl, by omega, fun _ => sr, fun f _ => ⟨?_, fun w => w.kp (by omega) (fun o x _ g => g.at' (nod_ot (by omega)) (nod_ot (by omega))) (fun y hy => ?_), fun w => w.kp (by omega) (fun j ρ r _ g => sr.rfs g) (fun y hy => ?_), fun y hy => ?_, fun hb => ⟨by omega, fun _ => ?_⟩⟩⟩
  · rw [(nod_ot (cs := cs) (c := c) (N := N) (x1 := x1) (x2 := x2) (x3 := x3) (x4 := x4) (x := 320) (j := t) (by omega)).i] at f
    exact f
  · rw [nod_65, pk_un (by omega)]
  · rw [nod_67, pk_un (by omega)]
  · rw [nod_65, nod_67, pk_un (by omega), pk_un (by omega)]
    exact ⟨rfl, rfl⟩
  · obtain ⟨q, q1, q2, q3⟩ := hf hb N (by omega) N1
    refine ⟨q, q2, by omega, ?_⟩
    rw [z1, show N + 1 - 1 = N from rfl, nod_67, pk_us]
    exact q1
theorem c27_rb {β : Bool} {F t c K b : Nat} {cs : CS} {u1 u2 u3 u5 : Int32} {cs9 : CS} {r9 : Int32} (hf : kR cs 322 t = some c → b ≤ SZ c cs → FST b u2) (h0 : kI cs 320 t = 0 → kR cs 322 t = some c → kI cs 64 c < 120) (h : c_X9_complete_b27 F cs t u1 u2 u3 u5 = some (cs9, r9)) : RBX t c K b 1 β cs cs9 ∧ CPR t c u1 cs cs9 r9 := by
  unfold c_X9_complete_b27 c_X9_complete_b50 at h
  replace h := ob h; obtain ⟨v1, h1, h⟩ := h
  have g1 := (gI_some h1).2
  by_cases y : v1 = 0
  · replace h := (if_pos y).symm.trans h
    replace h := ob h; obtain ⟨v3, h3, h⟩ := h
    replace h := ob h; obtain ⟨i, hi, h⟩ := h
    replace h := ob h; obtain ⟨w, hw, h⟩ := h
    replace h := ob h; obtain ⟨z, hz, h⟩ := h
    obtain ⟨e1, e2⟩ := Prod.mk.inj (Option.some.inj h)
    have g3 := (gR_some h3).2
    have ei : kR cs 322 t = some c → i = c := fun hk => by
      rw [g3, hi] at hk
      exact Option.some.inj hk
    rcases add_x (cs9 := z.1) (r9 := z.2) hz with ⟨a1, a2⟩ | ⟨N, a1, a2, a3, a4⟩
    · have bad : kR cs 322 t = some c → ¬ NF c cs9 := fun hk nf => by
        have lt := h0 (g1.trans y) hk
        rw [ei hk] at a2
        rw [← e1, a1] at nf
        obtain ⟨n1, n2⟩ := nf
        unfold SZ at n2
        by_cases w : kI cs 64 c < 0
        · exact a2 (Int32.lt_of_lt_of_le w (nI_le (a := 0) (by omega) n1))
        · obtain ⟨N, hN, eN⟩ := nI_of w
          rw [eN] at a2 lt n2
          rw [nI_clamp hN] at n2
          have q1 : ¬ N < kL cs 65 c := fun q => a2 (nI_lt q n1)
          have q2 : N < 120 := (nI_ltI (a := N) (b := 120) hN (by decide)).mp lt
          omega
      refine ⟨fun hk => ?_, fun hk _ nf => absurd nf (bad hk)⟩
      have e9 : cs9 = cs := e1.symm.trans a1
      exact ⟨by rw [e9]; exact hk, by rw [e9], by rw [e9]; exact Nat.le_refl _, fun _ => by rw [e9]; exact SR0.refl, fun _ nf => absurd nf (bad hk)⟩
    · rw [← e1, ← e2, a4]
      refine ⟨fun hk => ?_, fun hk _ _ => ?_⟩
      · rw [ei hk] at a1 ⊢
        exact nod_rb a1 a2 (hf hk) hk
      · rw [ei hk] at a1 ⊢
        refine ⟨N, by unfold SZ; rw [a1]; exact nI_clamp (by omega), a3, ?_, a2, by rw [nod_65]; exact pk_us, fun o => ⟨(nod_ot (by omega)).i, (nod_ot (by omega)).a⟩⟩
        unfold SZ
        rw [show kI (nod cs c N u1 u2 u3 u5) 64 c = nI (N + 1) from kI_s]
        exact nI_clamp a2
  · replace h := (if_neg y).symm.trans h
    obtain ⟨e1, e2⟩ := Prod.mk.inj (Option.some.inj h)
    rw [← e1]
    have nf : kI cs 320 t ≠ 0 := by rw [g1]; exact y
    exact ⟨fun hk => ⟨hk, rfl, Nat.le_refl _, fun _ => SR0.refl, fun f => absurd f nf⟩, fun _ f => absurd f nf⟩
theorem cpl_rb {β : Bool} {F t c K b : Nat} {cs : CS} {x1 x2 x3 x4 x5 : Int32} {cs9 : CS} {r9 : Int32} (hf : kR cs 322 t = some c → b ≤ SZ c cs → FST b x2) (h : c_X9_complete F cs t x1 x2 x3 x4 x5 = some (cs9, r9)) : RBX t c K b 1 β cs cs9 ∧ CPR t c x1 cs cs9 r9 := by
  unfold c_X9_complete at h
  replace h := ob h; obtain ⟨v7, h7, h⟩ := h
  have g7 := (gI_some h7).2
  by_cases y : v7 = 0
  · replace h := (if_pos y).symm.trans h
    replace h := ob h; obtain ⟨v9, h9, h⟩ := h
    replace h := ob h; obtain ⟨i, hi, h⟩ := h
    replace h := ob h; obtain ⟨v11, h11, h⟩ := h
    by_cases y2 : v11 < 120
    · replace h := (if_pos y2).symm.trans h
      refine c27_rb hf (fun _ hk => ?_) h
      have e : i = c := by
        have g9 := (gR_some h9).2
        rw [g9, hi] at hk
        exact Option.some.inj hk
      rw [← e, (gI_some h11).2]
      exact y2
    · replace h := (if_neg y2).symm.trans h
      replace h := ob h; obtain ⟨w, hw, h⟩ := h
      replace h := ob h; obtain ⟨c13, h13, h⟩ := h
      have r1 : RBX t c K b 1 β cs c13 := ref_rb (by decide) h13
      obtain ⟨bad, kr, kl, ks, -⟩ := ref_x (by decide) h13
      obtain ⟨a1, a2⟩ := c27_rb (β := β) (K := K) (b := b) (c := c) (fun hk hb => hf (by rw [← kr]; exact hk) (by unfold SZ at hb ⊢; rw [← ks]; exact hb)) (fun f _ => absurd f bad) h
      exact ⟨(r1.trans a1).le (by decide), fun hk f nf => absurd ((a1 (r1 hk).1).2.2.2.2 f nf).1 bad⟩
  · replace h := (if_neg y).symm.trans h
    exact c27_rb hf (fun f _ => absurd (g7.symm.trans f) y) h
/-- an aggregate is noted -/
theorem note_rb {β : Bool} {F c K b : Nat} {T : TC_X9_readExpr} {cs1 : CS} {u0 : Nat} {u2 : Int32} {u4 : Nat} {y0 y1 y2 y4 : Int32} {cs9 : CS} (hk : AGC y4) (hf : FST b u2) (h : c_X9_readAggregate_b159 F T cs1 u0 u2 u4 y0 y1 y2 u2 y4 u0 = some cs9) : RBX u0 c K b 1 β cs1 cs9 := by
  unfold c_X9_readAggregate_b159 at h
  replace h := ob h; obtain ⟨w1, hw1, h⟩ := h
  replace h := ob h; obtain ⟨z, hz, h⟩ := h
  replace h := ob h; obtain ⟨w2, hw2, h⟩ := h
  replace h := ob h; obtain ⟨c5, h5, h⟩ := h
  have e := Option.some.inj h
  rw [← e]
  obtain ⟨a1, a2⟩ := cpl_rb (β := β) (c := c) (K := K) (b := b) (cs9 := z.1) (r9 := z.2) (fun _ _ => hf) hz
  obtain ⟨zc, hzc⟩ : ∃ y, y = z.1 := ⟨_, rfl⟩
  obtain ⟨zr, hzr⟩ : ∃ y, y = z.2 := ⟨_, rfl⟩
  rw [← hzc] at a1 a2 h5
  rw [← hzr] at a2 h5
  unfold c_X9_noteAggregate c_X9_noteAggregate_b23 c_X9_noteAggregate_b70 at h5
  replace h5 := ob h5; obtain ⟨v1, g1, h5⟩ := h5
  replace h5 := ob h5; obtain ⟨i3, g3, h5⟩ := h5
  replace h5 := ob h5; obtain ⟨w3, g4, h5⟩ := h5
  replace h5 := ob h5; obtain ⟨v2, g2, h5⟩ := h5
  by_cases b1 : v2 = 0
  · replace h5 := (if_pos b1).symm.trans h5
    exact a1.to (Option.some.inj h5)
  · replace h5 := (if_neg b1).symm.trans h5
    replace h5 := ob h5; obtain ⟨v6, g6, h5⟩ := h5
    replace h5 := ob h5; obtain ⟨v7, g7, h5⟩ := h5
    replace h5 := ob h5; obtain ⟨v8, g8, h5⟩ := h5
    by_cases b2 : v6 < v8
    · replace h5 := (if_pos b2).symm.trans h5
      replace h5 := ob h5; obtain ⟨v10, g10, h5⟩ := h5
      replace h5 := ob h5; obtain ⟨v11, g11, h5⟩ := h5
      replace h5 := ob h5; obtain ⟨c12, g12, h5⟩ := h5
      replace h5 := ob h5; obtain ⟨v13, g13, h5⟩ := h5
      replace h5 := ob h5; obtain ⟨c14, g14, h5⟩ := h5
      obtain ⟨ok12, s12⟩ := wA_some g12
      obtain ⟨-, s14⟩ := pI_some g14
      have k11 := (gI_some g11).2
      have k13 : kI zc 203 u4 = v13 := by
        have w := (gI_some g13).2
        rw [← s12] at w
        exact w
      have e13 : v13 = v11 := k13.symm.trans k11
      have pos : ¬ v11 < 0 := fun w => ok12.2.2 (Or.inl w)
      obtain ⟨m, hm, em⟩ := nI_of pos
      rw [em, nI_clamp hm] at s12
      rw [e13, em, nI_1] at s14
      -- the state behind the note, but for skips
      have st : RBX u0 c K b 1 β cs1 c14 := fun hR => by
        obtain ⟨d1, d2, d3, d5, d4⟩ := a1 hR
        have ei : ∀ x j, ¬ (x = 203 ∧ j = u4) → kI c14 x j = kI zc x j := fun x j hx => by rw [← s14, ← s12]; exact kI_n hx
        have ea : ∀ x j, ¬ (x = 202 ∧ j = u4) → kA c14 x j = kA zc x j := fun x j hx => by rw [← s14, ← s12]; exact (AT.sA hx).a
        have er : kR c14 = kR zc := by rw [← s14, ← s12]; rfl
        have el : kL c14 = kL zc := by rw [← s14, ← s12]; rfl
        have ez : SZ c c14 = SZ c zc := by unfold SZ; rw [ei 64 c (by omega)]
        have sr : SR0 zc c14 := fun j => ⟨by rw [← s14, ← s12]; rfl, ei _ _ (by omega), ei _ _ (by omega), by rw [er], ei _ _ (by omega), ei _ _ (by omega), ea _ _ (by omega)⟩
        refine ⟨by rw [er]; exact d1, by rw [el]; exact d2, by omega, fun w => (d5 w).trans sr, fun f nf => ?_⟩
        rw [ei 320 u0 (by omega)] at f
        have nf' : NF c zc := by
          unfold NF at nf ⊢
          rw [el, ez] at nf
          exact nf
        obtain ⟨f1, am, iv, kp, sz⟩ := d4 f nf'
        obtain ⟨N, n1, n2, n3, n4, n5, n6⟩ := a2 hR f nf'
        refine ⟨f1, fun w => ?_, fun w => (iv w).kp (by omega) (fun j ρ r _ g => sr.rfs g) (fun y _ => by rw [ea 67 c (by omega)]), fun y hy => ⟨by rw [ea 67 c (by omega)]; exact (kp y hy).1, by rw [ea 65 c (by omega)]; exact (kp y hy).2⟩, fun hb => ?_⟩
        · have old : ∀ o x, x < 120 → AM o c14 x → AM o cs1 x ∨ (o = u4 ∧ x = N) := fun o x hx g => by
            obtain ⟨i, k, q1, q2, q3, q4⟩ := g
            by_cases ho : o = u4
            · rw [ho] at q2 q4 ⊢
              have i203 : kI c14 203 u4 = nI (m + 1) := by rw [← s14]; exact kI_s
              have a202 : kA c14 202 u4 = upd (kA zc 202 u4) m zr := by rw [← s14, ← s12]; exact kA_s
              rw [i203] at q2
              rw [a202] at q4
              have km : m + 1 = k := by
                by_cases w : m + 1 < 2147483648
                · exact (nI_eq w (by omega)).mp q2
                · have : m = 2147483647 := by omega
                  rw [this] at q2
                  exact absurd q2.symm (nI_bad k (by omega))
              by_cases hi : i = m
              · rw [hi, pk_us, n2] at q4
                exact Or.inr ⟨rfl, ((nI_eq (by omega) (by omega)).mp q4).symm⟩
              · rw [pk_un hi, (n6 u4).2] at q4
                refine Or.inl ⟨i, m, by omega, ?_, by omega, q4⟩
                rw [← (n6 u4).1, k11, em]
            · rw [ei 203 o (by omega), (n6 o).1] at q2
              rw [ea 202 o (by omega), (n6 o).2] at q4
              exact Or.inl ⟨i, k, q1, q2, q3, q4⟩
          refine ⟨fun o x ho hx g => ?_, fun o o' x ho ho' hx g g' => ?_⟩
          · rcases old o x hx g with q | ⟨q1, q2⟩
            · obtain ⟨p1, p2⟩ := w.1 o x ho hx q
              exact ⟨by omega, by rw [ea 65 c (by omega), (kp x p1).2]; exact p2⟩
            · rw [q2]
              exact ⟨by omega, by rw [ea 65 c (by omega), n5]; exact hk⟩
          · rcases old o x hx g with q | ⟨q1, q2⟩
            · rcases old o' x hx g' with q' | ⟨q1', q2'⟩
              · exact w.2 o o' x ho ho' hx q q'
              · have := (w.1 o x ho hx q).1
                omega
            · rcases old o' x hx g' with q' | ⟨q1', q2'⟩
              · have := (w.1 o' x ho' hx q').1
                omega
              · rw [q1, q1']
        · obtain ⟨p1, p2⟩ := sz hb
          rw [ez, ea 67 c (by omega)]
          exact ⟨p1, p2⟩
      replace h5 := ob h5; obtain ⟨v15, g15, h5⟩ := h5
      replace h5 := ob h5; obtain ⟨i17, g17, h5⟩ := h5
      replace h5 := ob h5; obtain ⟨w5, g5, h5⟩ := h5
      replace h5 := ob h5; obtain ⟨v16, g16, h5⟩ := h5
      by_cases b3 : v16 = 0
      · replace h5 := (if_pos b3).symm.trans h5
        exact st.to (Option.some.inj h5)
      · replace h5 := (if_neg b3).symm.trans h5
        by_cases b4 : zr ≤ u2
        · replace h5 := (if_pos b4).symm.trans h5
          exact st.to (Option.some.inj h5)
        · replace h5 := (if_neg b4).symm.trans h5
          replace h5 := ob h5; obtain ⟨v21, g21, h5⟩ := h5
          replace h5 := ob h5; obtain ⟨i22, g22, h5⟩ := h5
          replace h5 := ob h5; obtain ⟨v23, g23, h5⟩ := h5
          replace h5 := ob h5; obtain ⟨c24, g24, h5⟩ := h5
          exact ((st.trans (RBX.wA (by decide) g24)).to (Option.some.inj h5)).le (by decide)
    · replace h5 := (if_neg b2).symm.trans h5
      exact a1.to (Option.some.inj h5)

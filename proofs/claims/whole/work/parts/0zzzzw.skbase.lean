/-! skips: a node's skip is none, or an aggregate that begins there -/
def SK (c : Nat) (cs : CS) : Prop := ∀ x, x < (kI cs 64 c).toNatClampNeg → kA cs 71 c x = -1 ∨ ∃ q, x < q ∧ q < (kI cs 64 c).toNatClampNeg ∧ kA cs 71 c x = nI q ∧ kA cs 67 c q = nI x ∧ AGC (kA cs 65 c q)
def RK (a b : CS) : Prop := ∀ c, SK c a → SK c b
theorem RK.refl {a : CS} : RK a a := fun _ h => h
theorem RK.trans {a b c : CS} (h : RK a b) (g : RK b c) : RK a c := fun d x => g d (h d x)
theorem RK.to {a b c : CS} (h : RK a b) (e : b = c) : RK a c := e ▸ h
theorem RK.of {a b : CS} (h1 : ∀ c, kI b 64 c = kI a 64 c) (h2 : ∀ c, kA b 71 c = kA a 71 c) (h3 : ∀ c, kA b 67 c = kA a 67 c) (h4 : ∀ c, kA b 65 c = kA a 65 c) : RK a b := fun c h => by
  unfold SK
  rw [h1 c, h2 c, h3 c, h4 c]
  exact h
theorem RK.at' {a b : CS} (h : ∀ x c, x = 64 ∨ x = 65 ∨ x = 67 ∨ x = 71 → AT a b x c) : RK a b := RK.of (fun c => (h 64 c (by omega)).i) (fun c => (h 71 c (by omega)).a) (fun c => (h 67 c (by omega)).a) (fun c => (h 65 c (by omega)).a)
theorem RK.pI {cs cs1 : CS} {X t i : Nat} {v : Int32} (h : t ≠ 64) (hv : pI cs X t i v = some cs1) : RK cs cs1 := by
  obtain ⟨-, rfl⟩ := pI_some hv
  exact RK.of (fun c => kI_n (by omega)) (fun _ => rfl) (fun _ => rfl) (fun _ => rfl)
theorem RK.pJ {cs cs1 : CS} {X t i : Nat} {v : Int64} (_ : t ≠ 64) (hv : pJ cs X t i v = some cs1) : RK cs cs1 := by
  obtain ⟨-, rfl⟩ := pJ_some hv
  exact RK.of (fun _ => rfl) (fun _ => rfl) (fun _ => rfl) (fun _ => rfl)
theorem RK.pR {cs cs1 : CS} {X t i : Nat} {v : Option Nat} (_ : t ≠ 64) (hv : pR cs X t i v = some cs1) : RK cs cs1 := by
  obtain ⟨-, rfl⟩ := pR_some hv
  exact RK.of (fun _ => rfl) (fun _ => rfl) (fun _ => rfl) (fun _ => rfl)
theorem RK.wA {cs cs1 : CS} {t i j : Nat} {x : Int32} {v : Int32} (h : t ≠ 65 ∧ t ≠ 67 ∧ t ≠ 71) (hv : wA cs t i j x v = some cs1) : RK cs cs1 := by
  obtain ⟨-, rfl⟩ := wA_some hv
  exact RK.of (fun _ => rfl) (fun _ => (AT.sA (by omega)).a) (fun _ => (AT.sA (by omega)).a) (fun _ => (AT.sA (by omega)).a)
theorem RK.wB {cs cs1 : CS} {t i j : Nat} {x : Int32} {v : Int64} (_ : t ≠ 64) (hv : wB cs t i j x v = some cs1) : RK cs cs1 := by
  obtain ⟨-, rfl⟩ := wB_some hv
  exact RK.of (fun _ => rfl) (fun _ => rfl) (fun _ => rfl) (fun _ => rfl)
theorem RK.wQ {cs cs1 : CS} {t i j : Nat} {x : Int32} {v : Option Nat} (_ : t ≠ 64) (hv : wQ cs t i j x v = some cs1) : RK cs cs1 := by
  obtain ⟨-, rfl⟩ := wQ_some hv
  exact RK.of (fun _ => rfl) (fun _ => rfl) (fun _ => rfl) (fun _ => rfl)
theorem RK.nwO {cs cs1 : CS} {X n : Nat} (h : X ≠ 2) (hv : nwO cs X n = some cs1) : RK cs cs1 := by
  obtain ⟨-, rfl⟩ := nwO_some hv
  exact RK.of (fun c => if_neg (by omega)) (fun _ => rfl) (fun _ => rfl) (fun _ => rfl)
theorem RK.nwA {cs cs1 : CS} {X t i : Nat} {x : Int32} (h : t ≠ 65 ∧ t ≠ 67 ∧ t ≠ 71) (hv : nwA cs X t i x = some cs1) : RK cs cs1 := by
  obtain ⟨-, rfl⟩ := nwA_some hv
  exact RK.of (fun _ => rfl) (fun _ => (AT.nA (by omega)).a) (fun _ => (AT.nA (by omega)).a) (fun _ => (AT.nA (by omega)).a)
theorem RK.lAd {cs cs1 : CS} {L z : Nat} (_ : (0 : Nat) = 0) (_ : (0 : Nat) = 0) (_ : (0 : Nat) = 0) (_ : (0 : Nat) = 0) (hv : lAd cs L z = some cs1) : RK cs cs1 := by
  obtain ⟨j, -, rfl⟩ := lAd_some hv
  refine RK.of (fun c => ?_) (fun _ => rfl) (fun _ => rfl) (fun _ => rfl)
  show kI (sI (sI cs 0 L (kI cs 0 L + 1)) 2 L (kI cs 2 L + 1)) 64 c = kI cs 64 c
  rw [kI_n (by omega), kI_n (by omega)]
theorem RK.nwL {cs cs1 : CS} {i z : Nat} (_ : (0 : Nat) = 0) (_ : (0 : Nat) = 0) (_ : (0 : Nat) = 0) (_ : (0 : Nat) = 0) (hv : nwL cs i z = some cs1) : RK cs cs1 := by
  obtain ⟨-, rfl⟩ := nwL_some hv
  refine RK.of (fun c => ?_) (fun _ => rfl) (fun _ => rfl) (fun _ => rfl)
  show u2 (u2 (kI cs) 0 (kK cs) 1) 2 (kK cs) 1 64 c = kI cs 64 c
  rw [u2_n (by omega), u2_n (by omega)]
theorem kA_s {cs : CS} {t i y : Nat} {v : Int32} : kA (sA cs t i y v) t i = upd (kA cs t i) y v := u2_s
def FI (N : Nat) (x : Int32) : Int32 := if x < 0 then nI N else if nI N < x then nI N else x
theorem add_67 {F : Nat} {cs1 : CS} {x0 w : Nat} {x2 x4 v : Int32} : (if x2 < 0 then (c_X1_add_b66 F cs1 x0 x4 v v x0 w) else (if v < x2 then (c_X1_add_b66 F cs1 x0 x4 v v x0 w) else (c_X1_add_b68 F cs1 x0 x4 v x2 v x0 w))) = c_X1_add_b68 F cs1 x0 x4 v (if x2 < 0 then v else if v < x2 then v else x2) v x0 w := by
  unfold c_X1_add_b66
  by_cases y : x2 < 0
  · rw [if_pos y, if_pos y]
  · rw [if_neg y, if_neg y]
    by_cases z : v < x2
    · rw [if_pos z, if_pos z]
    · rw [if_neg z, if_neg z]
theorem add_sk {F : Nat} {cs : CS} {x0 : Nat} {x1 x2 x3 x4 : Int32} {cs9 : CS} {r9 : Int32} (h : c_X1_add F cs x0 x1 x2 x3 x4 = some (cs9, r9)) : RK cs cs9 ∧ kR cs9 = kR cs ∧ (r9 = -1 ∨ ∃ N, r9 = nI N ∧ N + 1 < 2147483648 ∧ kI cs9 64 x0 = nI (N + 1) ∧ kA cs9 65 x0 N = x1 ∧ kA cs9 67 x0 N = FI N x2) := by
  unfold c_X1_add at h
  replace h := ob h; obtain ⟨v1, h1, h⟩ := h
  replace h := ob h; obtain ⟨v2, h2, h⟩ := h
  replace h := ob h; obtain ⟨v3, h3, h⟩ := h
  by_cases y : v1 < v3
  · replace h := (if_pos y).symm.trans h
    replace h := ob h; obtain ⟨v5, h5, h⟩ := h
    replace h := ob h; obtain ⟨v6, h6, h⟩ := h
    replace h := ob h; obtain ⟨c7, h7, h⟩ := h
    replace h := ob h; obtain ⟨v8, h8, h⟩ := h
    replace h := ob h; obtain ⟨c9, h9, h⟩ := h
    replace h := ob h; obtain ⟨v10, h10, h⟩ := h
    replace h := ob h; obtain ⟨c11, h11, h⟩ := h
    replace h := ob h; obtain ⟨v12, h12, h⟩ := h
    replace h := add_67.symm.trans h
    unfold c_X1_add_b68 at h
    replace h := ob h; obtain ⟨c13, h13, h⟩ := h
    replace h := ob h; obtain ⟨v14, h14, h⟩ := h
    replace h := ob h; obtain ⟨c15, h15, h⟩ := h
    replace h := ob h; obtain ⟨v16, h16, h⟩ := h
    replace h := ob h; obtain ⟨c17, h17, h⟩ := h
    replace h := ob h; obtain ⟨v18, h18, h⟩ := h
    replace h := ob h; obtain ⟨c19, h19, h⟩ := h
    obtain ⟨e1, e2⟩ := Prod.mk.inj (Option.some.inj h)
    have g1 := (gI_some h1).2
    have g5 := (gI_some h5).2
    have g6 := (gI_some h6).2
    have q5 : v5 = v1 := g5.symm.trans g1
    have q6 : v6 = v1 := g6.symm.trans g1
    obtain ⟨-, s7⟩ := pI_some h7
    obtain ⟨ok9, s9⟩ := wA_some h9
    obtain ⟨-, s11⟩ := wA_some h11
    obtain ⟨-, s13⟩ := wA_some h13
    obtain ⟨-, s15⟩ := wA_some h15
    obtain ⟨-, s17⟩ := wB_some h17
    obtain ⟨-, s19⟩ := wA_some h19
    have pos : ¬ v1 < 0 := fun w => ok9.2.2 (Or.inl (by rw [q5]; exact w))
    obtain ⟨N, hN, eN⟩ := nI_of pos
    have N1 : N + 1 < 2147483648 := by
      by_cases w : v3 < 0
      · exact absurd (Int32.lt_trans y w) pos
      · obtain ⟨L, hL, eL⟩ := nI_of w
        rw [eN, eL] at y
        have := (nI_ltI (a := N) (b := L) (by omega) (by omega)).mp y
        omega
    have cl : v5.toNatClampNeg = N := by rw [q5, eN]; exact nI_clamp (by omega)
    rw [cl] at s9 s11 s13 s15 s17 s19
    rw [q6, eN, nI_1] at s7
    rw [q5, eN] at s13 e2
    have k0 : kI cs 64 x0 = nI N := g1.trans eN
    have fin : cs9 = sA (sB (sA (sA (sA (sA (sI cs 64 x0 (nI (N + 1))) 65 x0 N x1) 66 x0 N x3) 67 x0 N (FI N x2)) 68 x0 N x4) 70 x0 N (-1)) 71 x0 N (-1) := by
      rw [← e1, ← s19, ← s17, ← s15, ← s13, ← s11, ← s9, ← s7]
      rfl
    subst fin
    have i64 : kI (sA (sB (sA (sA (sA (sA (sI cs 64 x0 (nI (N + 1))) 65 x0 N x1) 66 x0 N x3) 67 x0 N (FI N x2)) 68 x0 N x4) 70 x0 N (-1)) 71 x0 N (-1)) 64 x0 = nI (N + 1) := kI_s
    have a65 : kA (sA (sB (sA (sA (sA (sA (sI cs 64 x0 (nI (N + 1))) 65 x0 N x1) 66 x0 N x3) 67 x0 N (FI N x2)) 68 x0 N x4) 70 x0 N (-1)) 71 x0 N (-1)) 65 x0 = upd (kA cs 65 x0) N x1 := ((AT.sA (by omega)).a).trans (((AT.sB (by omega)).a).trans (((AT.sA (by omega)).a).trans (((AT.sA (by omega)).a).trans (((AT.sA (by omega)).a).trans kA_s))))
    have a67 : kA (sA (sB (sA (sA (sA (sA (sI cs 64 x0 (nI (N + 1))) 65 x0 N x1) 66 x0 N x3) 67 x0 N (FI N x2)) 68 x0 N x4) 70 x0 N (-1)) 71 x0 N (-1)) 67 x0 = upd (kA cs 67 x0) N (FI N x2) := ((AT.sA (by omega)).a).trans (((AT.sB (by omega)).a).trans (((AT.sA (by omega)).a).trans (kA_s.trans (by rw [(AT.sA (by omega)).a, (AT.sA (by omega)).a]; rfl))))
    have a71 : kA (sA (sB (sA (sA (sA (sA (sI cs 64 x0 (nI (N + 1))) 65 x0 N x1) 66 x0 N x3) 67 x0 N (FI N x2)) 68 x0 N x4) 70 x0 N (-1)) 71 x0 N (-1)) 71 x0 = upd (kA cs 71 x0) N (-1) := kA_s.trans (by rw [(AT.sB (by omega)).a, (AT.sA (by omega)).a, (AT.sA (by omega)).a, (AT.sA (by omega)).a, (AT.sA (by omega)).a]; rfl)
    have ot : ∀ x c, c ≠ x0 → AT cs (sA (sB (sA (sA (sA (sA (sI cs 64 x0 (nI (N + 1))) 65 x0 N x1) 66 x0 N x3) 67 x0 N (FI N x2)) 68 x0 N x4) 70 x0 N (-1)) 71 x0 N (-1)) x c := fun x c hc => (((((AT.sI (by omega)).trans (AT.sA (by omega))).trans (AT.sA (by omega))).trans (AT.sA (by omega))).trans (AT.sA (by omega))).trans ((AT.sB (by omega)).trans (AT.sA (by omega)))
    have rr : kR (sA (sB (sA (sA (sA (sA (sI cs 64 x0 (nI (N + 1))) 65 x0 N x1) 66 x0 N x3) 67 x0 N (FI N x2)) 68 x0 N x4) 70 x0 N (-1)) 71 x0 N (-1)) = kR cs := rfl
    obtain ⟨c', hc'⟩ : ∃ x, x = sA (sB (sA (sA (sA (sA (sI cs 64 x0 (nI (N + 1))) 65 x0 N x1) 66 x0 N x3) 67 x0 N (FI N x2)) 68 x0 N x4) 70 x0 N (-1)) 71 x0 N (-1) := ⟨_, rfl⟩
    rw [← hc'] at i64 a65 a67 a71 ot rr ⊢
    refine ⟨fun c sk => ?_, rr, Or.inr ⟨N, e2.symm, N1, i64, by rw [a65]; exact pk_us, by rw [a67]; exact pk_us⟩⟩
    by_cases z : c = x0
    · subst z
      intro x hx
      rw [i64, nI_clamp (by omega)] at hx ⊢
      rw [a71, a67, a65]
      by_cases w : x = N
      · subst w
        exact Or.inl pk_us
      · have o := sk x (by rw [k0, nI_clamp (by omega)]; omega)
        rw [k0, nI_clamp (by omega)] at o
        rw [pk_un w]
        rcases o with o | ⟨q, q1, q2, q3, q4, q5'⟩
        · exact Or.inl o
        · exact Or.inr ⟨q, q1, by omega, q3, by rw [pk_un (by omega)]; exact q4, by rw [pk_un (by omega)]; exact q5'⟩
    · unfold SK
      rw [(ot 64 c z).i, (ot 71 c z).a, (ot 67 c z).a, (ot 65 c z).a]
      exact sk
  · replace h := (if_neg y).symm.trans h
    obtain ⟨e1, e2⟩ := Prod.mk.inj (Option.some.inj h)
    subst e1
    exact ⟨RK.refl, rfl, Or.inl e2.symm⟩
theorem sk_c_X1_add (F : Nat) (cs : CS) (x0 : Nat) (x1 : Int32) (x2 : Int32) (x3 : Int32) (x4 : Int32) (cs9 : CS) (r9 : Int32) (h : c_X1_add F cs x0 x1 x2 x3 x4 = some (cs9, r9)) : RK cs cs9 := (add_sk h).1
theorem c27_sk {F : Nat} {cs : CS} {u0 : Nat} {u1 u2 u3 u5 : Int32} {cs9 : CS} {r9 : Int32} (h : c_X9_complete_b27 F cs u0 u1 u2 u3 u5 = some (cs9, r9)) : RK cs cs9 ∧ kR cs9 = kR cs ∧ (r9 = -1 ∨ ∃ i N, kR cs 322 u0 = some i ∧ r9 = nI N ∧ N + 1 < 2147483648 ∧ kI cs9 64 i = nI (N + 1) ∧ kA cs9 65 i N = u1 ∧ kA cs9 67 i N = FI N u2) := by
  unfold c_X9_complete_b27 c_X9_complete_b50 at h
  replace h := ob h; obtain ⟨v1, h1, h⟩ := h
  by_cases y : v1 = 0
  · replace h := (if_pos y).symm.trans h
    replace h := ob h; obtain ⟨v3, h3, h⟩ := h
    replace h := ob h; obtain ⟨i, hi, h⟩ := h
    replace h := ob h; obtain ⟨w, hw, h⟩ := h
    replace h := ob h; obtain ⟨z, hz, h⟩ := h
    obtain ⟨e1, e2⟩ := Prod.mk.inj (Option.some.inj h)
    subst e1
    subst e2
    obtain ⟨a1, a2, a3⟩ := add_sk (cs9 := z.1) (r9 := z.2) hz
    refine ⟨a1, a2, a3.imp id (fun ⟨N, b⟩ => ⟨i, N, ?_, b⟩)⟩
    rw [(gR_some h3).2]
    exact hi
  · replace h := (if_neg y).symm.trans h
    obtain ⟨e1, e2⟩ := Prod.mk.inj (Option.some.inj h)
    subst e1
    exact ⟨RK.refl, rfl, Or.inl e2.symm⟩
theorem ref_sk {F : Nat} {cs : CS} {x0 : Nat} {a b : Int32} {cs9 : CS} (h : c_X9_refuse F cs x0 a b = some cs9) : RK cs cs9 ∧ kR cs9 = kR cs := by
  unfold c_X9_refuse c_X9_refuse_b17 at h
  replace h := ob h; obtain ⟨v1, h1, h⟩ := h
  by_cases y : v1 = 0
  · replace h := (if_pos y).symm.trans h
    replace h := ob h; obtain ⟨c3, h3, h⟩ := h
    replace h := ob h; obtain ⟨c4, h4, h⟩ := h
    have e := Option.some.inj h
    subst e
    refine ⟨(RK.pI (by decide) h3).trans (RK.pI (by decide) h4), ?_⟩
    obtain ⟨-, rfl⟩ := pI_some h3
    obtain ⟨-, rfl⟩ := pI_some h4
    rfl
  · replace h := (if_neg y).symm.trans h
    have e := Option.some.inj h
    subst e
    exact ⟨RK.refl, rfl⟩
theorem cpl_sk {F : Nat} {cs : CS} {x0 : Nat} {x1 x2 x3 x4 x5 : Int32} {cs9 : CS} {r9 : Int32} (h : c_X9_complete F cs x0 x1 x2 x3 x4 x5 = some (cs9, r9)) : RK cs cs9 ∧ kR cs9 = kR cs ∧ (r9 = -1 ∨ ∃ i N, kR cs 322 x0 = some i ∧ r9 = nI N ∧ N + 1 < 2147483648 ∧ kI cs9 64 i = nI (N + 1) ∧ kA cs9 65 i N = x1 ∧ kA cs9 67 i N = FI N x2) := by
  unfold c_X9_complete at h
  replace h := ob h; obtain ⟨v7, h7, h⟩ := h
  by_cases y : v7 = 0
  · replace h := (if_pos y).symm.trans h
    replace h := ob h; obtain ⟨v9, h9, h⟩ := h
    replace h := ob h; obtain ⟨i, hi, h⟩ := h
    replace h := ob h; obtain ⟨v11, h11, h⟩ := h
    by_cases y2 : v11 < 120
    · replace h := (if_pos y2).symm.trans h
      exact c27_sk h
    · replace h := (if_neg y2).symm.trans h
      replace h := ob h; obtain ⟨w, hw, h⟩ := h
      replace h := ob h; obtain ⟨c13, h13, h⟩ := h
      obtain ⟨r1, r2⟩ := ref_sk h13
      obtain ⟨a1, a2, a3⟩ := c27_sk h
      rw [r2] at a3
      exact ⟨r1.trans a1, a2.trans r2, a3⟩
  · replace h := (if_neg y).symm.trans h
    exact c27_sk h
theorem has_sk {F i : Nat} {cs : CS} {x v : Int32} (h : c_X1_has F cs i x = some v) (hv : ¬ v = 0) : ¬ x < 0 ∧ ¬ kI cs 64 i ≤ x := by
  unfold c_X1_has c_X1_has_b25 c_X1_has_b26 at h
  have z0 : ¬ (Option.bind (ckZ 0) fun _ => some (0 : Int32)) = some v := fun w => hv (Option.some.inj ((show (Option.bind (ckZ 0) fun _ => some (0 : Int32)) = some 0 from rfl).symm.trans w)).symm
  by_cases y : x < 0
  · exact absurd ((if_pos y).symm.trans h) z0
  · replace h := (if_neg y).symm.trans h
    replace h := ob h; obtain ⟨v3, h3, h⟩ := h
    by_cases y2 : v3 ≤ x
    · exact absurd ((if_pos y2).symm.trans h) z0
    · exact ⟨y, by rw [(gI_some h3).2]; exact y2⟩
theorem FI_lt {N X : Nat} (h : X < N) (hN : N < 2147483648) : FI N (nI X) = nI X := by
  unfold FI
  rw [if_neg (nI_n0 (show X < 2147483648 by omega)), if_neg (nI_nlt (a := N) (b := X) (by omega) hN)]
theorem note_sk {F : Nat} {T : TC_X9_readExpr} {cs1 : CS} {u0 : Nat} {u2 : Int32} {u4 : Nat} {y0 y1 y2 y4 : Int32} {cs9 : CS} (hk : AGC y4) (h : c_X9_readAggregate_b159 F T cs1 u0 u2 u4 y0 y1 y2 u2 y4 u0 = some cs9) : RK cs1 cs9 := by
  unfold c_X9_readAggregate_b159 at h
  replace h := ob h; obtain ⟨w1, hw1, h⟩ := h
  replace h := ob h; obtain ⟨z, hz, h⟩ := h
  replace h := ob h; obtain ⟨w2, hw2, h⟩ := h
  replace h := ob h; obtain ⟨c5, h5, h⟩ := h
  have e := Option.some.inj h
  subst e
  obtain ⟨a1, a2, a3⟩ := cpl_sk (cs9 := z.1) (r9 := z.2) hz
  refine a1.trans ?_
  unfold c_X9_noteAggregate c_X9_noteAggregate_b23 c_X9_noteAggregate_b70 at h5
  replace h5 := ob h5; obtain ⟨v1, g1, h5⟩ := h5
  replace h5 := ob h5; obtain ⟨i3, g3, h5⟩ := h5
  replace h5 := ob h5; obtain ⟨w3, g4, h5⟩ := h5
  replace h5 := ob h5; obtain ⟨v2, g2, h5⟩ := h5
  by_cases b1 : v2 = 0
  · replace h5 := (if_pos b1).symm.trans h5
    have e := Option.some.inj h5
    subst e
    exact RK.refl
  · replace h5 := (if_neg b1).symm.trans h5
    obtain ⟨n1, n2⟩ := has_sk g2 b1
    replace h5 := ob h5; obtain ⟨v6, g6, h5⟩ := h5
    replace h5 := ob h5; obtain ⟨v7, g7, h5⟩ := h5
    replace h5 := ob h5; obtain ⟨v8, g8, h5⟩ := h5
    by_cases b2 : v6 < v8
    · replace h5 := (if_pos b2).symm.trans h5
      replace h5 := ob h5; obtain ⟨v10, g10, h5⟩ := h5
      replace h5 := ob h5; obtain ⟨v11, g11, h5⟩ := h5
      replace h5 := ob h5; obtain ⟨c12, g12, h5⟩ := h5
      replace h5 := ob h5; obtain ⟨v13, g13, h5⟩ := h5
      replace h5 := ob h5; obtain ⟨c14, g14, h5⟩ := h5
      have rk12 : RK z.1 c12 := RK.wA (by decide) g12
      have rk14 : RK c12 c14 := RK.pI (by decide) g14
      obtain ⟨-, s12⟩ := wA_some g12
      obtain ⟨-, s14⟩ := pI_some g14
      replace h5 := ob h5; obtain ⟨v15, g15, h5⟩ := h5
      replace h5 := ob h5; obtain ⟨i17, g17, h5⟩ := h5
      replace h5 := ob h5; obtain ⟨w5, g5, h5⟩ := h5
      replace h5 := ob h5; obtain ⟨v16, g16, h5⟩ := h5
      by_cases b3 : v16 = 0
      · replace h5 := (if_pos b3).symm.trans h5
        have e := Option.some.inj h5
        subst e
        exact rk12.trans rk14
      · replace h5 := (if_neg b3).symm.trans h5
        obtain ⟨m1, m2⟩ := has_sk g16 b3
        by_cases b4 : z.2 ≤ u2
        · replace h5 := (if_pos b4).symm.trans h5
          have e := Option.some.inj h5
          subst e
          exact rk12.trans rk14
        · replace h5 := (if_neg b4).symm.trans h5
          replace h5 := ob h5; obtain ⟨v21, g21, h5⟩ := h5
          replace h5 := ob h5; obtain ⟨i22, g22, h5⟩ := h5
          replace h5 := ob h5; obtain ⟨v23, g23, h5⟩ := h5
          replace h5 := ob h5; obtain ⟨c24, g24, h5⟩ := h5
          have e := Option.some.inj h5
          subst e
          obtain ⟨-, s24⟩ := wA_some g24
          rcases a3 with a3 | ⟨i, N, r1, r2, r3, r4, r5, r6⟩
          · exact absurd (by rw [a3]; decide) n1
          · have kr14 : kR c14 = kR cs1 := by
              rw [← s14, ← s12]
              exact a2
            have e17 : i17 = i := by
              have w := (gR_some g15).2
              rw [kr14, r1] at w
              rw [g17] at w
              exact (Option.some.inj w).symm
            have e22 : i22 = i := by
              have w := (gR_some g21).2
              rw [kr14, r1] at w
              rw [g22] at w
              exact (Option.some.inj w).symm
            rw [e22] at s24
            have q64 : kI c14 64 i = nI (N + 1) := by
              rw [← s14, ← s12]
              exact (kI_n (by omega)).trans r4
            have q65 : kA c14 65 i N = y4 := by
              rw [← s14, ← s12]
              exact (congrFun (AT.sA (cs := z.1) (by omega)).a N).trans r5
            have q67 : kA c14 67 i N = FI N u2 := by
              rw [← s14, ← s12]
              exact (congrFun (AT.sA (cs := z.1) (by omega)).a N).trans r6
            obtain ⟨X, hX, eX⟩ := nI_of m1
            rw [r2, eX] at b4
            have XN : X < N := (nI_ltI (a := X) (b := N) (by omega) (by omega)).mp (Int32.not_le.mp b4)
            rw [eX, FI_lt XN (by omega)] at q67
            rw [eX, nI_clamp (by omega), r2] at s24
            refine (rk12.trans rk14).trans (fun c sk => ?_)
            rw [← s24]
            by_cases z0 : c = i
            · rw [z0] at sk ⊢
              intro x hx
              have i64 : kI (sA c14 71 i X (nI N)) 64 i = nI (N + 1) := q64
              have a65 : kA (sA c14 71 i X (nI N)) 65 i = kA c14 65 i := (AT.sA (by omega)).a
              have a67 : kA (sA c14 71 i X (nI N)) 67 i = kA c14 67 i := (AT.sA (by omega)).a
              rw [i64, nI_clamp (by omega)] at hx ⊢
              rw [kA_s, a65, a67]
              by_cases w : x = X
              · subst w
                exact Or.inr ⟨N, XN, by omega, pk_us, q67, by rw [q65]; exact hk⟩
              · have o := sk x (by rw [q64, nI_clamp (by omega)]; exact hx)
                rw [q64, nI_clamp (by omega)] at o
                rw [pk_un w]
                exact o
            · unfold SK
              rw [show kI (sA c14 71 i X (nI N)) 64 c = kI c14 64 c from rfl, (AT.sA (cs := c14) (t := 71) (j := i) (y := X) (v := nI N) (x := 71) (i := c) (by omega)).a, (AT.sA (cs := c14) (t := 71) (j := i) (y := X) (v := nI N) (x := 67) (i := c) (by omega)).a, (AT.sA (cs := c14) (t := 71) (j := i) (y := X) (v := nI N) (x := 65) (i := c) (by omega)).a]
              exact sk
    · replace h5 := (if_neg b2).symm.trans h5
      have e := Option.some.inj h5
      subst e
      exact RK.refl

/-! a SOURCE that was checked, the class alone -/
/-- what a QUERY's check does -/
def QCH (V : VT) (t c cap s k : Nat) (cs0 : CS) (P : CS → Nat → Nat → Option CS) (d lo hi oq : Nat) : Prop := ∀ cs cs9, CK t c cap s k cs → EM cs0 cs → STA cs0 cs → (∀ x j, lo ≤ j → j < hi → AT cs0 cs x j) → (∀ x, AT cs0 cs x c ∨ x = 72 ∨ x = 73) → P cs k oq = some cs9 → CFN t c k (fun j => lo ≤ j ∧ j < hi) (NDO V s lo hi cs0) cs cs9 ∧ (kI cs9 320 t = 0 → TQY V s c cs0 d oq cs9)
theorem fau_x {t c cap s k : Nat} {F : Nat} {cs : CS} (h : CK t c cap s k cs) : c_X0_isFaulty F cs k = some (if kI cs 320 t = 0 then 0 else 1) := by
  unfold c_X0_isFaulty c_X0_isFaulty_b15
  rw [ck_t h, gI_ok h.ot, ob_s]
  by_cases w : kI cs 320 t = 0
  · rw [if_pos w, if_pos w]
    rfl
  · rw [if_neg w, if_neg w]
    rfl
theorem QST.oq {V : VT} {c s : Nat} {cs0 : CS} : ∀ (d lo hi oq : Nat), QST V c s cs0 d lo hi oq → lo ≤ oq ∧ oq < hi
  | 0, _, _, _, h => h.elim
  | d + 1, lo, hi, oq, h => by
    obtain ⟨L, m, it0, lb, ub, q1, q2, q3, -⟩ := h
    omega
theorem inner_Z {t c cap s k : Nat} {F K d lo hi oo oi lo' : Nat} {V : VT} {T : TC_X0_checkQuery} {cs0 cs cs9 : CS} (hFF : F < 1000000) (sx : SCX V t c s k K cs0) (hK : K ≤ lo) (kh : hi ≤ k) (sr : SRZ (QST V c s cs0 d) V s lo hi oo cs0) (hl : oo + 1 < lo') (q : QST V c s cs0 d lo' hi oi) (ih : QCH V t c cap s k cs0 T.1 d lo' hi oi) (h : CK t c cap s k cs) (e0 : EM cs0 cs) (sta : STA cs0 cs) (A : ∀ x j, lo ≤ j → j < hi → AT cs0 cs x j) (ac : ∀ x, AT cs0 cs x c ∨ x = 72 ∨ x = 73) (g : cb_X0_checkInner F T cs k oo oi = some cs9) : CFN t c k (fun j => lo ≤ j ∧ j < hi) (NDO V s lo' hi cs0) cs cs9 ∧ (kI cs9 320 t = 0 → TQY V s c cs0 d oi cs9 ∧ ∀ it, kR cs0 129 oi = some it → TYP (oo + 1) (kA cs9 100 it) cs9) := by
  obtain ⟨tK, cK, tc, tk, ck'⟩ := sx.tc
  have ol := sr.ol
  have oh := sr.oh
  unfold cb_X0_checkInner at g
  replace g := ob g; obtain ⟨w1, g1, g⟩ := g
  replace g := ob g; obtain ⟨c1, g2, g⟩ := g
  obtain ⟨f1, t1⟩ := ih cs c1 h e0 sta (fun x j j1 j2 => A x j (by omega) j2) ac g2
  have h1 := f1.ck h
  have f1' : CFN t c k (fun j => lo ≤ j ∧ j < hi) (NDO V s lo' hi cs0) cs c1 := f1.mono (fun j w => ⟨by have := w.1; omega, w.2⟩) (fun _ w => w)
  replace g := ob g; obtain ⟨w3, g3, g⟩ := g
  rw [fau_x h1, ob_s] at g
  by_cases f : kI c1 320 t = 0
  · rw [if_pos f, if_pos rfl] at g
    replace g := ob g; obtain ⟨v4, g4, g⟩ := g
    replace g := ob g; obtain ⟨it, g5, g⟩ := g
    replace g := ob g; obtain ⟨w6, g6, g⟩ := g
    replace g := ob g; obtain ⟨v7, g7, g⟩ := g
    obtain ⟨o1, o2⟩ := QST.oq d lo' hi oi q
    have s1 : ∀ x j, x = 129 ∨ x = 235 → AT cs c1 x j := fun x j hx => f1.2.2.1 x j (by omega) (by omega) (by omega) (fun w => by have := w.2; omega)
    have cl1 : ∀ x, AT cs c1 x (oo + 1) := fun x => f1.2.2.1 x (oo + 1) (by omega) (by omega) (by omega) (by omega)
    have r4 : kR cs0 129 oi = some it := by
      have w := (gR_some g4).2
      rw [g5, (s1 129 oi (Or.inl rfl)).r, (A 129 oi (by omega) o2).r] at w
      exact w
    obtain ⟨i1, i2⟩ := QST.it d lo' hi oi it q r4
    have fin : ∀ c2, NFR t c (fun _ => False) c1 c2 → c_X0_checkInner_b37 F T c2 oo it = some cs9 → CFN t c k (fun j => lo ≤ j ∧ j < hi) (NDO V s lo' hi cs0) cs cs9 ∧ (kI cs9 320 t = 0 → TQY V s c cs0 d oi cs9 ∧ ∀ it, kR cs0 129 oi = some it → TYP (oo + 1) (kA cs9 100 it) cs9) := fun c2 n2 g => by
      unfold c_X0_checkInner_b37 at g
      have r235 : kR c2 235 oo = some (oo + 1) := by
        rw [(n2.2.2.1 235 oo (by omega) (by omega)).r, (s1 235 oo (Or.inr rfl)).r, (A 235 oo ol (by omega)).r]
        exact sr.r235
      obtain ⟨a1, a2⟩ := inn_CL (t := t) (c := c) (kd := k) (show t ≠ oo + 1 by omega) (show it ≠ oo + 1 by omega) F 0 c2 cs9 r235 (by omega) g
      have k96 : kI c2 96 (oo + 1) = nI 0 := by
        rw [(n2.2.2.1 96 (oo + 1) (by omega) (by omega)).i, (cl1 96).i, (A 96 (oo + 1) (by omega) oh).i]
        exact sr.cm.sz
      have c12 : CFN t c k (fun j => j = oo + 1) (fun _ => False) c1 cs9 := n2.cf.trans a1
      refine ⟨f1'.trans (c12.mono (fun j w => by rw [w]; exact ⟨by omega, oh⟩) (fun _ w => w.elim)), fun f9 => ?_⟩
      have t1' := t1 (c12.2.1 f9)
      refine ⟨TQY.keep sx (sta.cf f1) c12 d lo' hi oi (by omega) q (fun j j1 _ w => by omega) (fun _ _ w => w) t1', fun it' hit' => ?_⟩
      have e : it' = it := Option.some.inj (hit'.symm.trans r4)
      rw [e]
      refine a2 k96 (fun y y8 hy => ?_)
      rw [k96] at hy
      exact absurd hy (nI_pos (by omega))
    by_cases q7 : v7 = 0
    · replace g := (if_pos q7).symm.trans g
      replace g := ob g; obtain ⟨v8, g8, g⟩ := g
      replace g := ob g; obtain ⟨v9, g9, g⟩ := g
      replace g := ob g; obtain ⟨i10, g10, g⟩ := g
      replace g := ob g; obtain ⟨w11, g11, g⟩ := g
      replace g := ob g; obtain ⟨c12, g12, g⟩ := g
      have r8 := (gR_some g8).2
      rw [g10] at r8
      exact fin c12 (ref_N (Option.some.inj (r8.symm.trans h1.r32)) g12) g
    · exact fin c1 NFR.refl ((if_neg q7).symm.trans g)
  · rw [if_neg f, if_neg (by decide)] at g
    rw [← Option.some.inj g]
    exact ⟨f1', fun w => absurd w f⟩
/-- names of SOURCES are compared -/
theorem l90_F {t c cap s k : Nat} {F i so oo : Nat} {T : TC_X0_checkQuery} (hi : i < 100) : ∀ (lf u : Nat) (cs1 cs9 : CS), CK t c cap s k cs1 → u + lf < 2147483648 → c_X0_checkSource_L90 F T lf cs1 k so (nI i) oo (nI u) = some cs9 → ∃ c3, NFR t c (fun _ => False) cs1 c3 ∧ ((i = 0 ∧ cs9 = c3) ∨ (0 < i ∧ ∃ v, c_X0_checkSource_b191 F T c3 k so (nI i) oo v oo = some cs9)) := by
  intro lf
  induction lf with
  | zero => intro u cs1 cs9 _ _ g; cases (show (none : Option CS) = _ from g)
  | succ lf ih =>
    intro u cs1 cs9 h hl g
    rw [c_X0_checkSource_L90] at g
    by_cases q : nI i ≤ nI u
    · replace g := (if_pos q).symm.trans g
      by_cases q0 : nI i ≤ 0
      · replace g := (if_pos q0).symm.trans g
        unfold c_X0_checkSource_b219 at g
        have i0 : i = 0 := by
          by_cases w : i = 0
          · exact w
          · exact absurd q0 (nI_ge (a := 0) (b := i) (by omega) (by omega))
        exact ⟨cs1, NFR.refl, Or.inl ⟨i0, (Option.some.inj g).symm⟩⟩
      · replace g := (if_neg q0).symm.trans g
        have i0 : 0 < i := by
          by_cases w : i = 0
          · rw [w] at q0
            exact absurd (Int32.le_refl _) q0
          · omega
        replace g := ob g; obtain ⟨v1, g1, g⟩ := g
        replace g := ob g; obtain ⟨v2, g2, g⟩ := g
        replace g := ob g; obtain ⟨w3, g3, g⟩ := g
        replace g := ob g; obtain ⟨c4, g4, g⟩ := g
        replace g := ob g; obtain ⟨v5, g5, g⟩ := g
        replace g := ob g; obtain ⟨v6, g6, g⟩ := g
        have n4 := bound_F h g4
        cases v6 with
        | none =>
          replace g := oc_n.symm.trans g
          exact ⟨c4, n4, Or.inr ⟨i0, _, g⟩⟩
        | some j =>
          replace g := oc_s.symm.trans g
          replace g := ob g; obtain ⟨v7, g7, g⟩ := g
          replace g := ob g; obtain ⟨v8, g8, g⟩ := g
          replace g := ob g; obtain ⟨i9, g9, g⟩ := g
          replace g := ob g; obtain ⟨v10, g10, g⟩ := g
          exact ⟨c4, n4, Or.inr ⟨i0, _, g⟩⟩
    · replace g := (if_neg q).symm.trans g
      replace g := ob g; obtain ⟨v1, g1, g⟩ := g
      replace g := ob g; obtain ⟨v2, g2, g⟩ := g
      unfold c_X0_checkSource_b135 at g
      rw [nI_1] at g
      cases v2 with
      | none =>
        replace g := oc_n.symm.trans g
        exact ih (u + 1) cs1 cs9 h (by omega) g
      | some j =>
        replace g := oc_s.symm.trans g
        replace g := ob g; obtain ⟨v3, g3, g⟩ := g
        replace g := ob g; obtain ⟨v4, g4, g⟩ := g
        by_cases q4 : v3 = v4
        · replace g := (if_pos q4).symm.trans g
          replace g := ob g; obtain ⟨v5, g5, g⟩ := g
          replace g := ob g; obtain ⟨v6, g6, g⟩ := g
          replace g := ob g; obtain ⟨i7, g7, g⟩ := g
          replace g := ob g; obtain ⟨w8, g8, g⟩ := g
          replace g := ob g; obtain ⟨c9, g9, g⟩ := g
          have r5 := (gR_some g5).2
          rw [g7] at r5
          have n9 := ref_N (c := c) (Option.some.inj (r5.symm.trans h.r32)) g9
          obtain ⟨c3, u1, u2⟩ := ih (u + 1) c9 cs9 (n9.ck h) (by omega) g
          exact ⟨c3, n9.trans u1, u2⟩
        · exact ih (u + 1) cs1 cs9 h (by omega) ((if_neg q4).symm.trans g)
/-- behind its columns -/
theorem src_J {t c cap s k : Nat} {F K lo hi so i oo : Nat} {QP : QPR} {V : VT} {T : TC_X0_checkQuery} {cs0 c2 cs9 : CS} (hF : 10000 ≤ F) (hFF : F < 1000000) (sx : SCX V t c s k K cs0) (hK : K ≤ lo) (kh : hi ≤ k) (i3 : i < 3) (sr : SRZ QP V s lo hi oo cs0) (h : CK t c cap s k c2) (r233 : kI c2 233 oo = kI cs0 233 oo) (cw : ∀ z, z < s → CW c c2 z = (V z).1) (g : c_X0_checkSource_b87 F T c2 k so (nI i) oo = some cs9) : CFN t c k (fun j => j = oo) (VRG V s (kI cs0 233 oo)) c2 cs9 ∧ (∀ x, x ≠ 234 → 38 ≤ x → AT c2 cs9 x oo) ∧ (kI cs9 320 t = 0 → 0 < i → TRU V s c (some so) (nI (i + 1)) none (kI cs0 233 oo) cs9) := by
  obtain ⟨tK, cK, tc, tk, ck'⟩ := sx.tc
  have ol := sr.ol
  have oh := sr.oh
  unfold c_X0_checkSource_b87 at g
  obtain ⟨c3, n3, g⟩ := l90_F (t := t) (c := c) (cap := cap) (s := s) (by omega) F 0 c2 cs9 h (by omega) g
  have h3 := n3.ck h
  rcases g with ⟨i0, e⟩ | ⟨i0, v, g⟩
  · rw [e]
    exact ⟨n3.cf.mono (fun _ w => w) (fun _ w => w.elim), fun x x1 x2 => n3.2.2.1 x oo (by omega) (by omega), fun _ w => absurd w (by omega)⟩
  · unfold c_X0_checkSource_b191 c_X0_checkSource_b219 at g
    replace g := ob g; obtain ⟨c4, g4, g⟩ := g
    replace g := ob g; obtain ⟨c5, g5, g⟩ := g
    replace g := ob g; obtain ⟨c6, g6, g⟩ := g
    replace g := ob g; obtain ⟨c7, g7, g⟩ := g
    replace g := ob g; obtain ⟨v8, g8, g⟩ := g
    replace g := ob g; obtain ⟨w9, g9, g⟩ := g
    replace g := ob g; obtain ⟨c10, g10, g⟩ := g
    obtain ⟨-, e4⟩ := pI_some g4
    obtain ⟨-, e5⟩ := pR_some g5
    obtain ⟨-, e6⟩ := pI_some g6
    obtain ⟨-, e7⟩ := pR_some g7
    rw [nI_1] at e6
    have f4 : CFN t c k (fun j => j = oo) (VRG V s (kI cs0 233 oo)) c3 c4 := by
      rw [← e4]
      exact ⟨rfl, fun w => (kI_n (by omega)).symm.trans w, fun x j q1 q2 q3 q4 => AT.sI (by omega), fun _ _ _ _ => ⟨rfl, rfl⟩, fun _ _ => ⟨fun _ => rfl, rfl⟩⟩
    have f7 : CFN t c k (fun j => j = oo) (VRG V s (kI cs0 233 oo)) c3 c7 := by
      refine f4.trans ?_
      rw [← e7, ← e6, ← e5]
      exact ((cfn_R (by omega)).trans (cfn_I (by omega))).trans (cfn_R (by omega))
    have A7 : ∀ x j, ¬ (x = 234 ∧ j = oo) → ¬ (j = k ∧ 35 ≤ x ∧ x ≤ 37) → AT c3 c7 x j := fun x j q1 q2 => by
      rw [← e7, ← e6, ← e5, ← e4]
      exact (((AT.sI q1).trans (AT.sR (by omega))).trans (AT.sI (by omega))).trans (AT.sR (by omega))
    have r35 : kR c7 35 k = some so := by
      rw [← e7, kR_n (by omega), ← e6, ← e5]
      exact kR_s
    have r36 : kI c7 36 k = nI (i + 1) := by
      rw [← e7, ← e6]
      exact kI_s
    have r37 : kR c7 37 k = none := by rw [← e7]; exact kR_s
    have h7 := f7.ck h3
    have cw3 := (n3.cf (k := k) (Ob := fun _ => False)).cw cw
    have cw7 := f7.cw cw3
    have ev : v8 = kI cs0 233 oo := (gI_some g8).2.symm.trans ((A7 233 oo (by omega) (by omega)).i.trans ((n3.2.2.1 233 oo (by omega) (by omega)).i.trans r233))
    rw [ev] at g10
    obtain ⟨n10, t10⟩ := tru_A hF hFF h7 ck' (fun n hn => by rw [r37] at hn; cases hn) sr.on cw7 g10
    rw [r35, r36, r37] at t10
    rw [← Option.some.inj g]
    refine ⟨((n3.cf.mono (fun _ w => w) (fun _ w => w.elim)).trans f7).trans n10.cf, fun x x1 x2 => ((n3.2.2.1 x oo (by omega) (by omega)).trans (A7 x oo (by omega) (by omega))).trans (n10.2.2.1 x oo (by omega) (by omega)), fun f _ => t10 f⟩

/-! SOURCES that were checked, the class alone -/
theorem src_A {t c cap s k : Nat} {F K d lo hi so i oo : Nat} {V : VT} {T T2 : TC_X0_checkQuery} {cs0 cs cs9 : CS} (hF : 10000 ≤ F) (hFF : F < 1000000) (sx : SCX V t c s k K cs0) (hK : K ≤ so) (hso : so < lo) (kh : hi ≤ k) (i3 : i < 3) (sr : SRZ (QST V c s cs0 d) V s lo hi oo cs0) (kq : kQ cs0 195 so i = some oo) (hT : T.2.2.2 = cb_X0_checkInner F T2) (ih : ∀ lo' oi, oo + 1 < lo' → QST V c s cs0 d lo' hi oi → QCH V t c cap s k cs0 T2.1 d lo' hi oi) (h : CK t c cap s k cs) (e0 : EM cs0 cs) (sta : STA cs0 cs) (A : ∀ x j, lo ≤ j → j < hi → AT cs0 cs x j) (ac : ∀ x, AT cs0 cs x c ∨ x = 72 ∨ x = 73) (g : cb_X0_checkSource F T cs k so (nI i) = some cs9) : CFN t c k (fun j => j = so ∨ (lo ≤ j ∧ j < hi)) (NDO V s lo hi cs0) cs cs9 ∧ (∀ x, x ≠ 206 → 38 ≤ x → AT cs cs9 x so) ∧ (kI cs9 320 t = 0 → TSO (TQY V s c cs0 d) V s c cs0 so i oo cs9) := by
  obtain ⟨tK, cK, tc, tk, ck'⟩ := sx.tc
  have s1 := sx.s1
  have ol := sr.ol
  have oh := sr.oh
  have ron : ∀ r a, kI cs0 233 oo = nI r → RTT V s r a → RFS cs0 oo 2 r := fun r a w rt => ⟨by have := rt.2.1; omega, Or.inr (Or.inr (Or.inl ⟨rfl, (by rw [sr.r235]; exact fun q => nomatch q), w⟩))⟩
  have fin : ∀ (c1 c2 : CS) (y : Int32), CFN t c k (fun j => lo ≤ j ∧ j < hi) (NDO V s (oo + 1) hi cs0) cs c1 → (kI c1 320 t = 0 → (kR cs0 225 oo = none → TYP (oo + 1) (fun _ => 1) c1) ∧ ∀ oi, kR cs0 225 oo = some oi → TQY V s c cs0 d oi c1 ∧ ∀ it, kR cs0 129 oi = some it → TYP (oo + 1) (kA c1 100 it) c1) → pI c1 6 206 so y = some c2 → c_X0_checkSource_b87 F T c2 k so (nI i) oo = some cs9 → CFN t c k (fun j => j = so ∨ (lo ≤ j ∧ j < hi)) (NDO V s lo hi cs0) cs cs9 ∧ (∀ x, x ≠ 206 → 38 ≤ x → AT cs cs9 x so) ∧ (kI cs9 320 t = 0 → TSO (TQY V s c cs0 d) V s c cs0 so i oo cs9) := fun c1 c2 y f1 t1 gp g => by
    obtain ⟨-, e2⟩ := pI_some gp
    have h1 := f1.ck h
    have f2 : ∀ Ob Nd : Nat → Prop, Ob so → CFN t c k Ob Nd c1 c2 := fun Ob Nd hO => by
      rw [← e2]
      exact ⟨rfl, fun w => (kI_n (by omega)).symm.trans w, fun x j q1 q2 q3 q4 => AT.sI (fun w => q4 ⟨by rw [w.2]; exact hO, by omega⟩), fun _ _ _ _ => ⟨rfl, rfl⟩, fun _ _ => ⟨fun _ => rfl, rfl⟩⟩
    have h2 := (f2 (fun _ => True) (fun _ => False) trivial).ck h1
    have A2 : ∀ x j, ¬ (x = 206 ∧ j = so) → AT c1 c2 x j := fun x j q => by rw [← e2]; exact AT.sI q
    have cw := cw_at sx.cw (fun x x1 x2 => (ac x).elim id (fun w => by omega))
    have cw2 := (f2 (fun _ => True) (fun _ => False) trivial).cw (f1.cw cw)
    have r233 : kI c2 233 oo = kI cs0 233 oo := by
      rw [(A2 233 oo (by omega)).i, (f1.2.2.1 233 oo (by omega) (by omega) (by omega) (fun w => by have := w.2; omega)).i, (A 233 oo ol (by omega)).i]
    obtain ⟨fj, aj, tj⟩ := src_J hF hFF sx (show K ≤ lo by omega) kh i3 sr h2 r233 cw2 g
    have f9 : CFN t c k (fun j => j = so ∨ j = oo) (VRG V s (kI cs0 233 oo)) c1 cs9 := (f2 _ _ (Or.inl rfl)).trans (fj.mono (fun j w => Or.inr w) (fun _ w => w))
    have sta1 := sta.cf f1
    refine ⟨?_, fun x x1 x2 => ?_, fun ff => ?_⟩
    · refine (f1.mono (fun j w => Or.inr w) (fun z w => w.mono (by omega) (Nat.le_refl _))).trans (f9.mono (fun j w => ?_) (fun z w => ?_))
      · rcases w with w | w
        · exact Or.inl w
        · exact Or.inr ⟨by omega, by omega⟩
      · obtain ⟨r, a, w1, w2, w3, w4⟩ := w
        exact ⟨oo, 2, r, a, ol, by omega, ron r a w1 w2, w2, w3, w4⟩
    · exact ((f1.2.2.1 x so (by omega) (by omega) (by omega) (by omega)).trans (A2 x so (by omega))).trans (fj.2.2.1 x so (by omega) (by omega) (by omega) (by omega))
    · obtain ⟨u1, u2⟩ := t1 (f9.2.1 ff)
      refine ⟨tj ff, fun w => (u1 w).cf f9 (by omega) (by omega) (fun _ _ _ => rfl), fun oi hoi => ?_⟩
      obtain ⟨u3, u4⟩ := u2 oi hoi
      obtain ⟨lo', w2, w3⟩ : ∃ lo', oo + 1 < lo' ∧ QST V c s cs0 d lo' hi oi := by
        rcases sr.kd with w | ⟨oi', lo', w1, w2, w3⟩
        · rw [hoi] at w
          cases w
        · rw [hoi] at w1
          rw [← Option.some.inj w1] at w3
          exact ⟨lo', w2, w3⟩
      refine ⟨TQY.keep sx sta1 f9 d lo' hi oi (by omega) w3 (fun j j1 j2 w => by omega) (fun z hz w => ?_) u3, fun it hit => ?_⟩
      · obtain ⟨r, a, v1, v2, v3, v4⟩ := w
        exact sx.n1 (lo := lo') (hi := hi) (by omega) (show K ≤ oo by omega) (ron r a v1 v2) v2 v3 v4 (Or.inl (by omega)) hz
      · obtain ⟨i1, i2⟩ := QST.it d lo' hi oi it w3 hit
        refine (u4 it hit).cf f9 (by omega) (by omega) (fun y _ _ => ?_)
        rw [(f9.2.2.1 100 it (by omega) (by omega) (by omega) (by omega)).a]
  unfold cb_X0_checkSource at g
  replace g := ob g; obtain ⟨v36, g36, g⟩ := g
  replace g := ob g; obtain ⟨v37, g37, g⟩ := g
  have r37 := (rQ_some g37).2
  rw [nI_clamp (by omega), (sta 195 so (Or.inl rfl)).q, kq] at r37
  rw [← r37] at g
  replace g := oc_s.symm.trans g
  replace g := ob g; obtain ⟨v39, g39, g⟩ := g
  have r39 : kR cs0 225 oo = v39 := by
    rw [← (A 225 oo ol (by omega)).r]
    exact (gR_some g39).2
  cases v39 with
  | none =>
    replace g := oc_n.symm.trans g
    replace g := ob g; obtain ⟨w1, g1, g⟩ := g
    replace g := ob g; obtain ⟨c1, g2, g⟩ := g
    obtain ⟨f1, t1⟩ := leaf_C (kd := k) h (show t ≠ oo + 1 by omega) (by rw [(A 235 oo ol (by omega)).r]; exact sr.r235) g2
    have f1' : CFN t c k (fun j => lo ≤ j ∧ j < hi) (NDO V s (oo + 1) hi cs0) cs c1 := f1.mono (fun j w => by rw [w]; exact ⟨by omega, oh⟩) (fun _ w => w.elim)
    have tp : kI c1 320 t = 0 → (kR cs0 225 oo = none → TYP (oo + 1) (fun _ => 1) c1) ∧ ∀ oi, kR cs0 225 oo = some oi → TQY V s c cs0 d oi c1 ∧ ∀ it, kR cs0 129 oi = some it → TYP (oo + 1) (kA c1 100 it) c1 := fun _ => ⟨fun _ => t1 (fun y y8 hy => by
      rw [(A 96 (oo + 1) (by omega) oh).i, sr.cm.sz] at hy
      exact absurd hy (nI_pos (by omega))), fun oi hoi => by
      rw [r39] at hoi
      cases hoi⟩
    replace g := ob g; obtain ⟨v3, g3, g⟩ := g
    unfold c_X0_checkSource_b79 c_X0_checkSource_b84 at g
    by_cases q3 : v3 = 0
    · replace g := (if_pos q3).symm.trans g
      replace g := ob g; obtain ⟨v4, g4, g⟩ := g
      by_cases q4 : 0 ≤ v4
      · replace g := (if_pos q4).symm.trans g
        replace g := ob g; obtain ⟨v5, g5, g⟩ := g
        replace g := ob g; obtain ⟨c6, g6, g⟩ := g
        exact fin c1 c6 _ f1' tp g6 g
      · replace g := (if_neg q4).symm.trans g
        replace g := ob g; obtain ⟨v5, g5, g⟩ := g
        replace g := ob g; obtain ⟨c6, g6, g⟩ := g
        exact fin c1 c6 _ f1' tp g6 g
    · replace g := (if_neg q3).symm.trans g
      replace g := ob g; obtain ⟨v5, g5, g⟩ := g
      replace g := ob g; obtain ⟨c6, g6, g⟩ := g
      exact fin c1 c6 _ f1' tp g6 g
  | some oi =>
    replace g := oc_s.symm.trans g
    replace g := ob g; obtain ⟨v0, g0, g⟩ := g
    replace g := ob g; obtain ⟨i0, g0', g⟩ := g
    replace g := ob g; obtain ⟨w1, g1, g⟩ := g
    replace g := ob g; obtain ⟨c1, g2, g⟩ := g
    have ei : i0 = oi := by
      have w := (gR_some g0).2
      rw [g0', (gR_some g39).2] at w
      exact (Option.some.inj w).symm
    rw [ei, hT] at g2
    obtain ⟨lo', w2, w3⟩ : ∃ lo', oo + 1 < lo' ∧ QST V c s cs0 d lo' hi oi := by
      rcases sr.kd with w | ⟨oi', lo', w1, w2, w3⟩
      · rw [r39] at w
        cases w
      · rw [r39] at w1
        rw [← Option.some.inj w1] at w3
        exact ⟨lo', w2, w3⟩
    obtain ⟨f1, t1⟩ := inner_Z hFF sx (show K ≤ lo by omega) kh sr w2 w3 (ih lo' oi w2 w3) h e0 sta A ac g2
    have f1' : CFN t c k (fun j => lo ≤ j ∧ j < hi) (NDO V s (oo + 1) hi cs0) cs c1 := f1.mono (fun _ w => w) (fun z w => w.mono (by omega) (Nat.le_refl _))
    have tp : kI c1 320 t = 0 → (kR cs0 225 oo = none → TYP (oo + 1) (fun _ => 1) c1) ∧ ∀ oi, kR cs0 225 oo = some oi → TQY V s c cs0 d oi c1 ∧ ∀ it, kR cs0 129 oi = some it → TYP (oo + 1) (kA c1 100 it) c1 := fun f => by
      refine ⟨fun w => ?_, fun oi' hoi' => ?_⟩
      · rw [r39] at w
        cases w
      · rw [r39] at hoi'
        rw [← Option.some.inj hoi']
        exact t1 f
    replace g := ob g; obtain ⟨v3, g3, g⟩ := g
    unfold c_X0_checkSource_b46 c_X0_checkSource_b51 at g
    by_cases q3 : v3 = 0
    · replace g := (if_pos q3).symm.trans g
      replace g := ob g; obtain ⟨v4, g4, g⟩ := g
      replace g := ob g; obtain ⟨i5, g5', g⟩ := g
      replace g := ob g; obtain ⟨v6, g6', g⟩ := g
      by_cases q4 : v6 = 0
      · replace g := (if_pos q4).symm.trans g
        replace g := ob g; obtain ⟨v5, g5, g⟩ := g
        replace g := ob g; obtain ⟨c6, g6, g⟩ := g
        exact fin c1 c6 _ f1' tp g6 g
      · replace g := (if_neg q4).symm.trans g
        replace g := ob g; obtain ⟨v5, g5, g⟩ := g
        replace g := ob g; obtain ⟨c6, g6, g⟩ := g
        exact fin c1 c6 _ f1' tp g6 g
    · replace g := (if_neg q3).symm.trans g
      replace g := ob g; obtain ⟨v5, g5, g⟩ := g
      replace g := ob g; obtain ⟨c6, g6, g⟩ := g
      exact fin c1 c6 _ f1' tp g6 g

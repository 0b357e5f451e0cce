/-! a SELECT that was checked, the class alone -/
/-- in the middle of the SOURCES -/
def LSX (V : VT) (t c cap s k lo hi so it gr i : Nat) (b : Nat → Nat) (cs0 : CS) (cs : CS) : Prop := (CK t c cap s k cs) ∧ (EM cs0 cs) ∧ (STA cs0 cs) ∧ (∀ x, AT cs0 cs x c ∨ x = 72 ∨ x = 73) ∧ (∀ x j, b i ≤ j → j < hi → AT cs0 cs x j) ∧ (∀ x j, j = so ∨ j = it ∨ j = gr → 38 ≤ x → x ≠ 206 → AT cs0 cs x j)
theorem LSX.ck {V : VT} {t c cap s k lo hi so it gr i : Nat} {b : Nat → Nat} {cs0 : CS} {cs : CS} (h : LSX V t c cap s k lo hi so it gr i b cs0 cs) : CK t c cap s k cs := h.1
theorem LSX.em {V : VT} {t c cap s k lo hi so it gr i : Nat} {b : Nat → Nat} {cs0 : CS} {cs : CS} (h : LSX V t c cap s k lo hi so it gr i b cs0 cs) : EM cs0 cs := h.2.1
theorem LSX.sta {V : VT} {t c cap s k lo hi so it gr i : Nat} {b : Nat → Nat} {cs0 : CS} {cs : CS} (h : LSX V t c cap s k lo hi so it gr i b cs0 cs) : STA cs0 cs := h.2.2.1
theorem LSX.ac {V : VT} {t c cap s k lo hi so it gr i : Nat} {b : Nat → Nat} {cs0 : CS} {cs : CS} (h : LSX V t c cap s k lo hi so it gr i b cs0 cs) : ∀ x, AT cs0 cs x c ∨ x = 72 ∨ x = 73 := h.2.2.2.1
theorem LSX.a1 {V : VT} {t c cap s k lo hi so it gr i : Nat} {b : Nat → Nat} {cs0 : CS} {cs : CS} (h : LSX V t c cap s k lo hi so it gr i b cs0 cs) : ∀ x j, b i ≤ j → j < hi → AT cs0 cs x j := h.2.2.2.2.1
theorem LSX.a2 {V : VT} {t c cap s k lo hi so it gr i : Nat} {b : Nat → Nat} {cs0 : CS} {cs : CS} (h : LSX V t c cap s k lo hi so it gr i b cs0 cs) : ∀ x j, j = so ∨ j = it ∨ j = gr → 38 ≤ x → x ≠ 206 → AT cs0 cs x j := h.2.2.2.2.2
theorem sel_A {t c cap s k : Nat} {F K d lo hi so : Nat} {V : VT} {T T1 T2 : TC_X0_checkQuery} {cs0 cs cs9 : CS} (hF : 10000 ≤ F) (hFF : F < 1000000) (sx : SCX V t c s k K cs0) (hK : K ≤ lo) (kh : hi ≤ k) (ss : SST (QST V c s cs0 d) V c s lo hi so cs0) (hT : T.2.2.1 = cb_X0_checkSource F T1) (hT1 : T1.2.2.2 = cb_X0_checkInner F T2) (ih : ∀ lo' hi' oi, lo ≤ lo' → hi' ≤ hi → QST V c s cs0 d lo' hi' oi → QCH V t c cap s k cs0 T2.1 d lo' hi' oi) (h : CK t c cap s k cs) (e0 : EM cs0 cs) (sta : STA cs0 cs) (A : ∀ x j, lo ≤ j → j < hi → AT cs0 cs x j) (ac : ∀ x, AT cs0 cs x c ∨ x = 72 ∨ x = 73) (g : cb_X0_checkSelect F T cs k so = some cs9) : CFN t c k (fun j => lo ≤ j ∧ j < hi) (NDO V s lo hi cs0) cs cs9 ∧ (∃ it ns, kR cs0 194 so = some it ∧ kI cs0 196 so = nI ns ∧ kR cs9 35 k = some so ∧ kI cs9 36 k = nI ns ∧ ∀ x, 38 ≤ x → x ≠ 100 → x ≠ 206 → AT cs0 cs9 x it) ∧ (kI cs9 320 t = 0 → TSE (TQY V s c cs0 d) V s c cs0 so cs9) := by
  obtain ⟨it, gr, mi, ns, mg, b, sk, e6, e227, p195, l195, n1, b0, bm, bh, sr⟩ := ss
  obtain ⟨tK, cK, tc, tk, ck'⟩ := sx.tc
  have s1 := sx.s1
  obtain ⟨o1, o2, o3, o4⟩ := sk.od
  have n3 := sk.n3
  have bl : ∀ d i, i + d ≤ ns → b i ≤ b (i + d) := fun d => by
    induction d with
    | zero => intro i _; exact Nat.le_refl _
    | succ d ih =>
      intro i hi0
      exact Nat.le_trans (ih i (by omega)) (bm (i + d) (by omega))
  have ble : ∀ i j, i ≤ j → j ≤ ns → b i ≤ b j := fun i j h1 h2 => by
    have w := bl (j - i) i (by omega)
    rw [show i + (j - i) = j by omega] at w
    exact w
  have src : ∀ (d : CS), STA cs0 d → ∀ i oo, i < ns → kQ d 195 so i = some oo → b i ≤ oo ∧ oo + 1 < b (i + 1) ∧ ∀ cl, kR d 235 oo = some cl → cl = oo + 1 := fun d sd i oo hi0 hq => by
    rw [(sd 195 so (Or.inl rfl)).q] at hq
    obtain ⟨oo', u1, u2⟩ := sr i hi0
    have eo : oo' = oo := Option.some.inj (u1.symm.trans hq)
    rw [eo] at u2
    refine ⟨u2.ol, u2.oh, fun cl hcl => ?_⟩
    rw [(sd 235 oo (Or.inr rfl)).r, u2.r235] at hcl
    exact (Option.some.inj hcl).symm
  have tnd : ∀ z, TND V s so it gr mi mg cs0 z → ∃ j ρ r a, (j = so ∨ j = it ∨ j = gr) ∧ RFS cs0 j ρ r ∧ RTT V s r a ∧ a ≤ z ∧ z ≤ r := fun z hz => by
    rcases hz with ⟨r, a, w1, w2, w3, w4⟩ | ⟨y, hy, w1, w2⟩ | ⟨r, a, w1, w2, w3, w4⟩ | ⟨y, hy, w1, w2⟩
    · exact ⟨so, 0, r, a, Or.inl rfl, rfs_w s1 sk.p2 w1 w2, w2, w3, w4⟩
    · exact ⟨gr, y + 3, _, _, Or.inr (Or.inr rfl), rfs_c s1 sk.cg sk.gs hy, (sk.gs.at' s1 hy).2, w1, w2⟩
    · exact ⟨so, 1, r, a, Or.inl rfl, rfs_h s1 sk.p2 w1 w2, w2, w3, w4⟩
    · exact ⟨it, y + 3, _, _, Or.inr (Or.inl rfl), rfs_c s1 sk.ci sk.is hy, (sk.is.at' s1 hy).2, w1, w2⟩
  have inn : ∀ i oo oi, i < ns → kQ cs0 195 so i = some oo → kR cs0 225 oo = some oi → ∃ lo', oo + 1 < lo' ∧ QST V c s cs0 d lo' (b (i + 1)) oi := fun i oo oi hi0 hq hoi => by
    obtain ⟨oo', u1, u2⟩ := sr i hi0
    have eo : oo' = oo := Option.some.inj (u1.symm.trans hq)
    rw [eo] at u2
    rcases u2.kd with w | ⟨oi', lo', w1, w2, w3⟩
    · rw [hoi] at w
      cases w
    · rw [hoi] at w1
      rw [← Option.some.inj w1] at w3
      exact ⟨lo', w2, w3⟩
  -- a SOURCE behind a later check
  have kp : ∀ (i : Nat) (oo : Nat) (Ob Nd : Nat → Prop) (a d' : CS), i < ns → kQ cs0 195 so i = some oo → STA cs0 a → CFN t c k Ob Nd a d' → (∀ j, b 0 ≤ j → j < b (i + 1) → ¬ Ob j) → (∀ z, NDO V s (b i) (b (i + 1)) cs0 z → ¬ Nd z) → TSO (TQY V s c cs0 d) V s c cs0 so i oo a → TSO (TQY V s c cs0 d) V s c cs0 so i oo d' := fun i oo Ob Nd a d' hi0 hq sa cf hO hN w => by
    obtain ⟨oo', u1, u2⟩ := sr i hi0
    have eo : oo' = oo := Option.some.inj (u1.symm.trans hq)
    rw [eo] at u2
    have ol := u2.ol
    have x0 := ble 0 i (by omega) (by omega)
    refine w.keep sx (lo := b i) (hi := b (i + 1)) (by omega) u2 cf (fun j j1 j2 => hO j (by omega) j2) hN (fun o i' oo' w1 w2 w3 w4 => ?_) (fun oi hoi y => ?_) (fun oi it2 hoi hit2 => ?_)
    · rw [← Option.some.inj w1] at w4
      have im := (nI_ltI (a := i') (b := i + 1) w2 (by omega)).mp w3
      obtain ⟨v1, v2, v3⟩ := src a sa i' oo' (by omega) w4
      have x1 := ble 0 i' (by omega) (by omega)
      have x2 := ble (i' + 1) (i + 1) (by omega) (by omega)
      refine ⟨hO oo' (by omega) (by omega), fun cl hcl => ?_⟩
      rw [v3 cl hcl]
      exact hO _ (by omega) (by omega)
    · obtain ⟨lo', w2, w3⟩ := inn i oo oi hi0 hq hoi
      exact TQY.keep sx sa cf d lo' (b (i + 1)) oi (by omega) w3 (fun j j1 j2 => hO j (by omega) j2) (fun z hz => hN z (hz.mono (by omega) (Nat.le_refl _))) y
    · obtain ⟨lo', w2, w3⟩ := inn i oo oi hi0 hq hoi
      obtain ⟨i1, i2⟩ := QST.it d lo' (b (i + 1)) oi it2 w3 hit2
      have bb := ble (i + 1) ns (by omega) (Nat.le_refl _)
      exact (cf.2.2.1 100 it2 (by omega) (by omega) (by omega) (fun q => hO it2 (by omega) i2 q.1)).a
  -- behind the SOURCES
  have tl : ∀ (i : Nat) (cs1 : CS), i ≤ ns → LSX V t c cap s k lo hi so it gr i b cs0 cs1 → (i < ns → kI cs1 320 t ≠ 0) → c_X0_checkSelect_b38 F T cs1 k so = some cs9 → CFN t c k (fun j => lo ≤ j ∧ j < hi) (NDO V s lo hi cs0) cs1 cs9 ∧ (∃ it ns, kR cs0 194 so = some it ∧ kI cs0 196 so = nI ns ∧ kR cs9 35 k = some so ∧ kI cs9 36 k = nI ns ∧ ∀ x, 38 ≤ x → x ≠ 100 → x ≠ 206 → AT cs0 cs9 x it) ∧ (kI cs9 320 t = 0 → (∀ i', i' < i → ∃ oo, kQ cs0 195 so i' = some oo ∧ TSO (TQY V s c cs0 d) V s c cs0 so i' oo cs1) → TSE (TQY V s c cs0 d) V s c cs0 so cs9) := fun i cs1 hi0 p hf g => by
    obtain ⟨f1, ⟨x35, x36, xit⟩, t1⟩ := tail_A hF hFF sx hK kh sk p.ck p.em p.a2 p.ac (fun i' oo w1 w2 w3 => by
      have im := (nI_ltI (a := i') (b := ns) w1 (by omega)).mp w2
      obtain ⟨v1, v2, v3⟩ := src cs1 p.sta i' oo im w3
      have x1 := ble 0 i' (by omega) (by omega)
      refine ⟨by omega, fun cl hcl => ?_⟩
      rw [v3 cl hcl]
      omega) g
    refine ⟨f1.mono (fun j w => by omega) (fun z w => ?_), ⟨it, ns, sk.r194, sk.i196, x35, x36, fun x y1 y2 y3 => (p.a2 x it (Or.inr (Or.inl rfl)) y1 y3).trans (xit x y1 y2)⟩, fun f9 ty => ?_⟩
    · obtain ⟨j, ρ, r, a, w1, w2⟩ := tnd z w
      exact ⟨j, ρ, r, a, by omega, by omega, w2⟩
    · have ins : i = ns := by
        by_cases w : i < ns
        · exact absurd (f1.2.1 f9) (hf w)
        · omega
      obtain ⟨u1, u2, u3, u4⟩ := t1 f9
      refine ⟨it, gr, mi, ns, mg, sk.r194, sk.r200, sk.ci, sk.cg, sk.i196, n3, u1, u2, u3, u4, fun i' hi' => ?_⟩
      obtain ⟨oo, w1, w2⟩ := ty i' (by omega)
      refine ⟨oo, w1, kp i' oo _ _ cs1 cs9 hi' w1 p.sta f1 (fun j j1 j2 w => by omega) (fun z hz w => ?_) w2⟩
      obtain ⟨j, ρ, r, a, y1, y2, y3, y4, y5⟩ := tnd z w
      have x1 := ble 0 i' (by omega) (by omega)
      exact sx.n1 (lo := b i') (hi := b (i' + 1)) (by omega) (show K ≤ j by omega) y2 y3 y4 y5 (Or.inl (by omega)) hz
  have lp : ∀ (lf i : Nat) (cs1 : CS), i ≤ ns → LSX V t c cap s k lo hi so it gr i b cs0 cs1 → c_X0_checkSelect_L2 F T lf cs1 k so (nI i) = some cs9 → CFN t c k (fun j => lo ≤ j ∧ j < hi) (NDO V s lo hi cs0) cs1 cs9 ∧ (∃ it ns, kR cs0 194 so = some it ∧ kI cs0 196 so = nI ns ∧ kR cs9 35 k = some so ∧ kI cs9 36 k = nI ns ∧ ∀ x, 38 ≤ x → x ≠ 100 → x ≠ 206 → AT cs0 cs9 x it) ∧ (kI cs9 320 t = 0 → (∀ i', i' < i → ∃ oo, kQ cs0 195 so i' = some oo ∧ TSO (TQY V s c cs0 d) V s c cs0 so i' oo cs1) → TSE (TQY V s c cs0 d) V s c cs0 so cs9) := by
    intro lf
    induction lf with
    | zero => intro i cs1 _ _ g; cases (show (none : Option CS) = _ from g)
    | succ lf lih =>
      intro i cs1 hi0 p g
      have i196 : kI cs1 196 so = nI ns := by rw [(p.a2 196 so (Or.inl rfl) (by decide) (by decide)).i]; exact sk.i196
      have a195 := p.a2 195 so (Or.inl rfl) (by decide) (by decide)
      obtain ⟨j, hj⟩ := p195
      rw [c_X0_checkSelect_L2, gI_ok (p.em _ e6), ob_s, i196] at g
      by_cases q : i < ns
      · rw [if_neg (nI_ge q (by omega)), gA_ok (p.em _ e6), a195.p, hj, ob_s, lnA_n (p.em _ e227) (by rw [a195.p]; exact hj), ob_s, a195.l, l195, if_neg (nI_ge (a := i) (b := 3) (by omega) (by decide)), ckE_ok p.ck.o, ob_s, fau_x p.ck, ob_s] at g
        by_cases f : kI cs1 320 t = 0
        · rw [if_pos f, if_pos rfl, ob_s] at g
          replace g := ob g; obtain ⟨c2, g2, g⟩ := g
          rw [hT] at g2
          rw [nI_1] at g
          obtain ⟨oo, kq, ksr⟩ := sr i q
          have x0 := ble 0 i (by omega) (by omega)
          have x1 := ble (i + 1) ns (by omega) (Nat.le_refl _)
          obtain ⟨f2, a2, t2⟩ := src_A hF hFF sx (show K ≤ so by omega) (show so < b i by omega) (show b (i + 1) ≤ k by omega) (by omega) ksr kq hT1 (fun lo' oi w1 w2 => ih lo' (b (i + 1)) oi (by have := ksr.ol; omega) (by omega) w2) p.ck p.em p.sta (fun x j j1 j2 => p.a1 x j j1 (by omega)) p.ac g2
          have p2 : LSX V t c cap s k lo hi so it gr (i + 1) b cs0 c2 := by
            refine ⟨f2.ck p.ck, p.em.trans f2.em, p.sta.cf f2, fun x => ?_, fun x j j1 j2 => ?_, fun x j hj' y1 y2 => ?_⟩
            · rcases p.ac x with w | w
              · by_cases w2 : x = 72 ∨ x = 73
                · exact Or.inr w2
                · exact Or.inl (w.trans (f2.2.2.1 x c (by omega) (by omega) (by omega) (by omega)))
              · exact Or.inr w
            · have := bm i q
              exact (p.a1 x j (by omega) j2).trans (f2.2.2.1 x j (by omega) (by omega) (by omega) (by omega))
            · rcases hj' with e | e | e
              · rw [e]
                exact (p.a2 x so (Or.inl rfl) y1 y2).trans (a2 x y2 y1)
              · rw [e]
                exact (p.a2 x it (Or.inr (Or.inl rfl)) y1 y2).trans (f2.2.2.1 x it (by omega) (by omega) (by omega) (by omega))
              · rw [e]
                exact (p.a2 x gr (Or.inr (Or.inr rfl)) y1 y2).trans (f2.2.2.1 x gr (by omega) (by omega) (by omega) (by omega))
          obtain ⟨u1, ux, u2⟩ := lih (i + 1) c2 (by omega) p2 g
          refine ⟨(f2.mono (fun j w => by omega) (fun z w => w.mono (by omega) (by omega))).trans u1, ux, fun f9 ty => u2 f9 (fun i' hi' => ?_)⟩
          have t2' := t2 (u1.2.1 f9)
          by_cases e : i' = i
          · rw [e]
            exact ⟨oo, kq, t2'⟩
          · obtain ⟨oo', w1, w2⟩ := ty i' (by omega)
            have y1 := ble (i' + 1) i (by omega) (by omega)
            refine ⟨oo', w1, kp i' oo' _ _ cs1 c2 (by omega) w1 p.sta f2 (fun j j1 j2 w => by omega) (fun z hz w => sx.nd (by have := ble 0 i' (by omega) (by omega); omega) (by omega) (Or.inl y1) hz w) w2⟩
        · rw [if_neg f, if_neg (by decide)] at g
          exact tl i cs1 hi0 p (fun _ => f) g
      · have e : i = ns := by omega
        rw [e, if_pos (Int32.le_refl _)] at g
        exact tl i cs1 hi0 p (fun w => absurd w q) g
  have p0 : LSX V t c cap s k lo hi so it gr 0 b cs0 cs := ⟨h, e0, sta, ac, fun x j j1 j2 => A x j (by omega) j2, fun x j hj _ _ => A x j (by omega) (by omega)⟩
  obtain ⟨u1, ux, u2⟩ := lp F 0 cs (by omega) p0 g
  exact ⟨u1, ux, fun f9 => u2 f9 (fun i' hi' => absurd hi' (by omega))⟩

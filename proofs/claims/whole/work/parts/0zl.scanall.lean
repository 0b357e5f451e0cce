/-! all tokens -/
theorem TK.keep {n : Nat} {f : Nat → Int32} {i p κ : Nat} {cs cs' : CS} {rs rs' : RS} (h : TK n f i p κ cs rs) (e1 : kA cs' 352 9 i = kA cs 352 9 i) (e2 : kA cs' 353 9 i = kA cs 353 9 i) (e3 : kB cs' 354 9 i = kB cs 354 9 i) (g1 : rs'.2.2.1 14 i = rs.2.2.1 14 i) (g2 : rs'.2.2.1 15 i = rs.2.2.1 15 i) (g3 : rs'.2.2.1 16 i = rs.2.2.1 16 i) (g4 : rs'.2.2.2 17 i = rs.2.2.2 17 i) : TK n f i p κ cs' rs' := by
  unfold TK at h ⊢
  rw [e1, e2, e3, g1, g2, g3, g4]
  exact h
/-- the tokens before i are as they were -/
def LC (i : Nat) (a b : CS) : Prop := FX kS a b ∧ ∀ j, j < i → kA b 352 9 j = kA a 352 9 j ∧ kA b 353 9 j = kA a 353 9 j ∧ kB b 354 9 j = kB a 354 9 j
def LR (i : Nat) (a b : RS) : Prop := FR tkR a b ∧ ∀ j, j < i → b.2.2.1 14 j = a.2.2.1 14 j ∧ b.2.2.1 15 j = a.2.2.1 15 j ∧ b.2.2.1 16 j = a.2.2.1 16 j ∧ b.2.2.2 17 j = a.2.2.2 17 j
theorem KC.lc {i : Nat} {a b c : CS} (h : KC i a b) (g : LC (i + 1) b c) : LC i a c := ⟨h.1.trans g.1, fun j hj => ⟨(g.2 j (by omega)).1.trans (h.2 j (by omega)).1, (g.2 j (by omega)).2.1.trans (h.2 j (by omega)).2.1, (g.2 j (by omega)).2.2.trans (h.2 j (by omega)).2.2⟩⟩
theorem KR'.lr {i : Nat} {a b c : RS} (h : KR' i a b) (g : LR (i + 1) b c) : LR i a c := ⟨h.1.trans g.1, fun j hj => ⟨(g.2 j (by omega)).1.trans (h.2 j (by omega)).1, (g.2 j (by omega)).2.1.trans (h.2 j (by omega)).2.1, (g.2 j (by omega)).2.2.1.trans (h.2 j (by omega)).2.2.1, (g.2 j (by omega)).2.2.2.trans (h.2 j (by omega)).2.2.2⟩⟩
theorem LC.refl {i : Nat} (a : CS) : LC i a a := ⟨FX.refl a, fun _ _ => ⟨rfl, rfl, rfl⟩⟩
theorem LR.refl {i : Nat} (a : RS) : LR i a a := ⟨FR.refl a, fun _ _ => ⟨rfl, rfl, rfl, rfl⟩⟩
theorem KC.l {i : Nat} {a b : CS} (h : KC i a b) : LC i a b := h.lc (LC.refl b)
theorem KR'.l {i : Nat} {a b : RS} (h : KR' i a b) : LR i a b := h.lr (LR.refl b)
theorem LC.nx {i : Nat} {a b c : CS} (h : FX nS a b) (g : LC i b c) : LC i a c := by
  have k := KC.nx (i := i) h
  exact ⟨k.1.trans g.1, fun j hj => ⟨(g.2 j hj).1.trans (k.2 j (by omega)).1, (g.2 j hj).2.1.trans (k.2 j (by omega)).2.1, (g.2 j hj).2.2.trans (k.2 j (by omega)).2.2⟩⟩
theorem rb_ok {F n t : Nat} {f : Nat → Int32} {rs : RS} (hn : n ≤ 2000) (hr : ∀ k, k < n → rs.2.2.1 2 k = f k) : ∀ (m k e u : Nat), e - k = m → zBE (fun c => zbl c ≠ 0) f n k e → m_tokens_L9 F (u + m) rs (nI n) (nI t) (nI k) = m_tokens_L9 F u rs (nI n) (nI t) (nI e)
  | 0, k, e, u, hm, he => by
    have : e = k := by have := he.1; omega
    rw [this]; rfl
  | m + 1, k, e, u, hm, he => by
    have hen := he.2.1
    have hb : zbl (f k) ≠ 0 := he.2.2.1 k (Nat.le_refl _) (by omega)
    have ih := rb_ok (F := F) (t := t) hn hr m (k + 1) e u (by omega) (he.step (by omega))
    show m_tokens_L9 F (u + m + 1) rs (nI n) (nI t) (nI k) = _
    rw [m_tokens_L9, if_neg (nI_ge (by omega) (by omega)), rdI_n (by omega) (by decide), ob_s, hr k (by omega)]
    unfold m_tokens_b50 m_tokens_b527
    rw [nI_1, ih]
    by_cases h1 : f k = 32
    · rw [if_pos h1]
    · rw [if_neg h1]
      by_cases h2 : f k = 9
      · rw [if_pos h2]
      · rw [if_neg h2]
        by_cases h3 : f k = 13
        · rw [if_pos h3]
        · rw [if_neg h3]
          by_cases h4 : f k = 10
          · rw [if_pos h4]
          · exact absurd (by unfold zbl; rw [if_neg h1, if_neg h2, if_neg h3, if_neg h4]) hb
theorem re_end {F u n t : Nat} {rs : RS} (hn : n ≤ 2000) (ht : t < 2001) : ∃ rs', m_tokens_L9 F (u + 1) rs (nI n) (nI t) (nI n) = some rs' ∧ KR' t rs rs' ∧ rs'.2.2.1 14 t = 0 ∧ rs'.2.2.1 15 t = nI n := by
  refine ⟨setI (setI (setI rs 14 t 0) 15 t (nI n)) 16 t 0, ?_, KR'.s14.trans (KR'.s15.trans KR'.s16), pk_us, pk_us⟩
  rw [m_tokens_L9, if_pos (nI_le (Nat.le_refl _) (by omega)), wrI_n ht (by decide), ob_s, wrI_n ht (by decide), ob_s, wrI_n ht (by decide), ob_s]
theorem ref_end {F n : Nat} {f : Nat → Int32} {cs : CS} (hF : 10000 ≤ F) (h : TW n f cs) (hf : ∀ k, k < n → zisB (f k)) : ∀ (m k t u : Nat) (rs : RS), n - k ≤ m → k ≤ n → t ≤ k → n - k < u → (∀ k, k < n → rs.2.2.1 2 k = f k) → ∃ rs', m_tokens_L9 F u rs (nI n) (nI t) (nI k) = some rs' ∧ LR t rs rs' := by
  have hl := h.le
  intro m
  induction m with
  | zero =>
    intro k t u rs hm hk ht hu hr
    obtain ⟨v, rfl⟩ : ∃ v, u = v + 1 := ⟨u - 1, by omega⟩
    have : k = n := by omega
    subst this
    obtain ⟨rs', e1, e2, -, -⟩ := re_end (F := F) (u := v) (t := t) (rs := rs) hl (by omega)
    exact ⟨rs', e1, e2.l⟩
  | succ m ih =>
    intro k t u rs hm hk ht hu hr
    obtain ⟨e, he⟩ := zBE_ex (fun c => zbl c ≠ 0) f (n - k) n k hk rfl
    have hen := he.2.1
    have hke := he.1
    obtain ⟨v, rfl⟩ : ∃ v, u = v + 1 + (e - k) := ⟨u - (e - k) - 1, by omega⟩
    rw [rb_ok hl hr (e - k) k e (v + 1) rfl he]
    by_cases q : e = n
    · subst q
      obtain ⟨rs', e1, e2, -, -⟩ := re_end (F := F) (u := v) (t := t) (rs := rs) hl (by omega)
      exact ⟨rs', e1, e2.l⟩
    · have hb : zbl (f e) = 0 := Classical.not_not.mp (he.2.2.2.resolve_left q)
      obtain ⟨c', r', k', κ, -, e2, e3, e4, -, -, -, e5, -⟩ := tok_step (F := F) (u := v) (k := e) (i := t) (cs := sI cs 357 9 (nI e)) hF (h.fx (FX.sI (Or.inr (Or.inr (Or.inr rfl))))) hf hr rfl (by omega) hb (by omega)
      rw [e2]
      have hr2 : ∀ k, k < n → r'.2.2.1 2 k = f k := fun k hk => by rw [congrFun (e5.1.a (k := 2) (by unfold tkR; omega)) k]; exact hr k hk
      obtain ⟨rs', g1, g2⟩ := ih k' (t + 1) v r' (by omega) e4 (by omega) (by omega) hr2
      exact ⟨rs', g1, e5.lr g2⟩
/-- the places of the tokens from i to M, from k on, strictly rising -/
def PLS (n k i M : Nat) (cs : CS) : Prop := ∃ P : Nat → Nat, (∀ j, i ≤ j → j ≤ M → kA cs 353 9 j = nI (P j) ∧ k ≤ P j ∧ P j ≤ n) ∧ ∀ j, i ≤ j → j < M → P j < P (j + 1)
theorem PLS.one {n k i p : Nat} {cs : CS} (h : kA cs 353 9 i = nI p) (h1 : k ≤ p) (h2 : p ≤ n) : PLS n k i i cs := ⟨fun _ => p, fun j a b => by
    have : j = i := by omega
    subst this
    exact ⟨h, h1, h2⟩, fun j a b => by omega⟩
theorem PLS.cons {n k i p M k' : Nat} {cs : CS} (g : PLS n k' (i + 1) M cs) (hM : i + 1 ≤ M) (h : kA cs 353 9 i = nI p) (h1 : k ≤ p) (h2 : p < k') : PLS n k i M cs := by
  obtain ⟨P, g1, g2⟩ := g
  have h3 := g1 (i + 1) (Nat.le_refl _) hM
  refine ⟨fun j => if j = i then p else P j, fun j a b => ?_, fun j a b => ?_⟩
  · show kA cs 353 9 j = nI (if j = i then p else P j) ∧ k ≤ (if j = i then p else P j) ∧ (if j = i then p else P j) ≤ n
    by_cases w : j = i
    · rw [if_pos w, w]
      exact ⟨h, h1, by omega⟩
    · rw [if_neg w]
      have := g1 j (by omega) b
      exact ⟨this.1, by omega, this.2.2⟩
  · show (if j = i then p else P j) < (if j + 1 = i then p else P (j + 1))
    rw [if_neg (show ¬ j + 1 = i by omega)]
    by_cases w : j = i
    · rw [if_pos w, w]
      omega
    · rw [if_neg w]
      exact g2 j (by omega) b
theorem PLS.lt {n k i M : Nat} {cs : CS} (hn : n ≤ 2000) (g : PLS n k i M cs) : ∀ a b, i ≤ a → a < b → b ≤ M → kA cs 353 9 a ≠ kA cs 353 9 b := by
  obtain ⟨P, g1, g2⟩ := g
  have up : ∀ d a, i ≤ a → a + d + 1 ≤ M → P a < P (a + d + 1) := by
    intro d
    induction d with
    | zero => intro a h1 h2; exact g2 a h1 (by omega)
    | succ d ih => intro a h1 h2; exact Nat.lt_trans (ih a h1 (by omega)) (g2 (a + d + 1) (by omega) (by omega))
  intro a b h1 h2 h3
  have h4 := up (b - a - 1) a h1 (by omega)
  rw [show a + (b - a - 1) + 1 = b by omega] at h4
  have h5 := g1 a h1 (by omega)
  have h6 := g1 b (by omega) h3
  rw [h5.1, h6.1]
  intro y
  have := (nI_eq (by omega) (by omega)).mp y
  omega
/-- the tokens from i to M -/
def TKS (n : Nat) (f : Nat → Int32) (i M : Nat) (cs : CS) (rs : RS) : Prop := i ≤ M ∧ M ≤ n ∧ ∀ j, i ≤ j → j ≤ M → ∃ p κ, TK n f j p κ cs rs ∧ (j < M → κ < 56) ∧ (j = M → 56 ≤ κ)
theorem sc_end {F v : Nat} {cs : CS} {x : Int32} (hB : Bas cs) : c_X10_scan_L25 F (v + 1) cs 9 0 x = some cs := by
  rw [c_X10_scan_L25, gA_ok hB.oT, hB.p352, ob_s, lnA_n hB.e352 hB.p352, ob_s]
  unfold c_X10_scan_b96
  by_cases q : nI (kL cs 352 9) ≤ x
  · rw [if_pos q]
  · rw [if_neg q, if_pos rfl]
theorem sc_step {F v n i e κ : Nat} {f : Nat → Int32} {cs cs1 c : CS} (h : TW n f cs) (hi : i < 2001) (hsk : c_X10_skipBlanks F cs 9 = some cs1) (h1 : TW n f cs1) (k1 : kI cs1 357 9 = nI e) (ht : c_X10_scanToken F (sA cs1 353 9 i (nI e)) 9 (nI i) = some c) (hc : TW n f c) (hκ : kA c 352 9 i = nI κ) (h57 : κ ≤ 57) : c_X10_scan_L25 F (v + 1) cs 9 1 (nI i) = c_X10_scan_L25 F v c 9 (if 56 ≤ κ then 0 else 1) (nI (i + 1)) := by
  have hB := h.b
  have hB1 := h1.b
  have hBc := hc.b
  rw [c_X10_scan_L25, gA_ok hB.oT, hB.p352, ob_s, lnA_n hB.e352 hB.p352, ob_s, hB.l352, if_neg (nI_ge hi (by decide)), if_neg (by decide), ckE_ok hB.oT, ob_s, hsk, ob_s, gA_ok hB1.oT, hB1.p353, ob_s, gI_ok hB1.oT, ob_s, k1, wA_n hB1.e353 hB1.p353 (by rw [hB1.l353]; exact hi) (by rw [hB1.l353]; decide), ob_s, ckE_ok (cs := sA cs1 353 9 i (nI e)) hB1.oT, ob_s, ht, ob_s, gA_ok hBc.oT, hBc.p352, ob_s, rA_n hBc.e352 hBc.p352 (by rw [hBc.l352]; exact hi) (by rw [hBc.l352]; decide), ob_s, hκ]
  unfold c_X10_scan_b88 c_X10_scan_b89
  rw [nI_1]
  by_cases q : κ = 56
  · subst q
    rw [if_pos (by decide), if_pos (by decide)]
  · rw [if_neg (show ¬ nI κ = 56 from fun z => q ((nI_eq (b := 56) (by omega) (by decide)).mp z)), ob_s, rA_n hBc.e352 hBc.p352 (by rw [hBc.l352]; exact hi) (by rw [hBc.l352]; decide), ob_s, hκ]
    by_cases q2 : κ = 57
    · subst q2
      rw [if_pos (by decide), if_pos (by decide)]
    · rw [if_neg (show ¬ nI κ = 57 from fun z => q2 ((nI_eq (b := 57) (by omega) (by decide)).mp z)), if_neg (by omega)]
theorem se_end {F n i : Nat} {f : Nat → Int32} {cs : CS} {rs : RS} (h : TW n f cs) (hi : i < 2001) (hk : kI cs 357 9 = nI n) (r1 : rs.2.2.1 14 i = 0) (r2 : rs.2.2.1 15 i = nI n) : ∃ c, c_X10_scanToken F (sA cs 353 9 i (nI n)) 9 (nI i) = some c ∧ TK n f i n 56 c rs ∧ KC i cs c := by
  have hl := h.le
  obtain ⟨c1, hc1⟩ : ∃ c, c = sB (sA cs 353 9 i (nI n)) 354 9 i 0 := ⟨_, rfl⟩
  have KC1 : KC i cs c1 := by rw [hc1]; exact KC.s353.trans KC.s354
  have h1 := h.fx KC1.1
  have hB1 := h1.b
  have h0 : TW n f (sA cs 353 9 i (nI n)) := h.fx (FX.sA (Or.inr (Or.inl rfl)))
  have hB0 := h0.b
  have k0 : kI (sA cs 353 9 i (nI n)) 357 9 = nI n := hk
  have k1 : kI c1 357 9 = nI n := by rw [hc1]; exact hk
  refine ⟨sA c1 352 9 i 56, ?_, ⟨pk_us, by decide, ?_, r2, Nat.le_refl _, fun q => by omega, fun q => by omega, fun _ q => by omega, fun _ => r1, fun q => by omega⟩, KC1.trans KC.s352⟩
  · unfold c_X10_scanToken c_X10_scanToken_b79
    rw [gI_ok hB0.oT, ob_s, k0, ckE_ok hB0.oT, ob_s, by_out h0 (Nat.le_refl _) (by omega), ob_s, gA_ok hB0.oT, hB0.p354, ob_s, wB_n hB0.e354 hB0.p354 (by rw [hB0.l354]; exact hi) (by rw [hB0.l354]; decide), ob_s, ← hc1, gI_ok hB1.oT, ob_s, gI_ok hB1.oT, ob_s, k1, h1.s, if_neg (nI_nlt (Nat.le_refl _) (by omega)), gA_ok hB1.oT, hB1.p352, ob_s, wA_n hB1.e352 hB1.p352 (by rw [hB1.l352]; exact hi) (by rw [hB1.l352]; decide), ob_s]
  · rw [hc1]; exact pk_us
theorem scan_all {F n : Nat} {f : Nat → Int32} (hF : 10000 ≤ F) (hf : ∀ k, k < n → zisB (f k)) : ∀ (m k i u v : Nat) (cs : CS) (rs : RS), n - k ≤ m → k ≤ n → i ≤ k → n - k < u → n - k + 1 < v → TW n f cs → kI cs 357 9 = nI k → (∀ k, k < n → rs.2.2.1 2 k = f k) → ∃ cs' rs' M, c_X10_scan_L25 F v cs 9 1 (nI i) = some cs' ∧ m_tokens_L9 F u rs (nI n) (nI i) (nI k) = some rs' ∧ TKS n f i M cs' rs' ∧ LC i cs cs' ∧ LR i rs rs' ∧ PLS n k i M cs' := by
  intro m
  induction m with
  | zero =>
    intro k i u v cs rs hm hk hik hu hv h hck hr
    have hl := h.le
    have : k = n := by omega
    subst this
    obtain ⟨u', rfl⟩ : ∃ u', u = u' + 1 := ⟨u - 1, by omega⟩
    obtain ⟨v', rfl⟩ : ∃ v', v = v' + 1 + 1 := ⟨v - 2, by omega⟩
    obtain ⟨cs1, s1, s2, s3⟩ := sk_ok (F := F) (n := k) (e := k) (f := f) F k cs h hck ⟨Nat.le_refl _, Nat.le_refl _, fun j a b => by omega, Or.inl rfl⟩ (by omega)
    have h1 := h.fx (s2.mono (fun _ => nS_k))
    obtain ⟨rs', e1, e2, e3, e4⟩ := re_end (F := F) (u := u') (t := i) (rs := rs) hl (by omega)
    obtain ⟨c, g1, g2, g3⟩ := se_end (F := F) (f := f) h1 (by omega) s3 e3 e4
    have hc := h1.fx g3.1
    refine ⟨c, rs', i, ?_, e1, ⟨Nat.le_refl _, by omega, fun j a b => ⟨k, 56, ?_, fun q => by omega, fun _ => Nat.le_refl _⟩⟩, LC.nx s2 g3.l, e2.l, PLS.one g2.pc (Nat.le_refl _) (Nat.le_refl _)⟩
    · rw [sc_step h (by omega) (by unfold c_X10_skipBlanks; exact s1) h1 s3 g1 hc g2.kd (by decide), if_pos (by decide)]
      exact sc_end hc.b
    · have : j = i := by omega
      subst this
      exact g2
  | succ m ih =>
    intro k i u v cs rs hm hk hik hu hv h hck hr
    have hl := h.le
    obtain ⟨e, he⟩ := zBE_ex (fun c => zbl c ≠ 0) f (n - k) n k hk rfl
    have hen := he.2.1
    have hke := he.1
    obtain ⟨u', rfl⟩ : ∃ u', u = u' + 1 + (e - k) := ⟨u - (e - k) - 1, by omega⟩
    obtain ⟨v', rfl⟩ : ∃ v', v = v' + 1 + 1 := ⟨v - 2, by omega⟩
    obtain ⟨cs1, s1, s2, s3⟩ := sk_ok (F := F) (n := n) (e := e) (f := f) F k cs h hck he (by omega)
    have h1 := h.fx (s2.mono (fun _ => nS_k))
    rw [rb_ok hl hr (e - k) k e (u' + 1) rfl he]
    by_cases q : e = n
    · subst q
      obtain ⟨rs', e1, e2, e3, e4⟩ := re_end (F := F) (u := u') (t := i) (rs := rs) hl (by omega)
      obtain ⟨c, g1, g2, g3⟩ := se_end (F := F) (f := f) h1 (by omega) s3 e3 e4
      have hc := h1.fx g3.1
      refine ⟨c, rs', i, ?_, e1, ⟨Nat.le_refl _, by omega, fun j a b => ⟨e, 56, ?_, fun q => by omega, fun _ => Nat.le_refl _⟩⟩, LC.nx s2 g3.l, e2.l, PLS.one g2.pc hke (Nat.le_refl _)⟩
      · rw [sc_step h (by omega) (by unfold c_X10_skipBlanks; exact s1) h1 s3 g1 hc g2.kd (by decide), if_pos (by decide)]
        exact sc_end hc.b
      · have : j = i := by omega
        subst this
        exact g2
    · have hb : zbl (f e) = 0 := Classical.not_not.mp (he.2.2.2.resolve_left q)
      obtain ⟨c, r', k', κ, e1, e2, e3, e4, e5, e6, e7, e8, e9⟩ := tok_step (F := F) (u := u') (k := e) (i := i) hF h1 hf hr s3 (by omega) hb (by omega)
      have hc := h1.fx e7.1
      have hr2 : ∀ k, k < n → r'.2.2.1 2 k = f k := fun k hk => by rw [congrFun (e8.1.a (k := 2) (by unfold tkR; omega)) k]; exact hr k hk
      have hkl := e5.kl
      have step := sc_step (v := v' + 1) h (by omega) (by unfold c_X10_skipBlanks; exact s1) h1 s3 e1 hc e5.kd e5.kl
      rw [e2, step]
      by_cases q2 : κ = 57
      · obtain ⟨rs', g1, g2⟩ := ref_end hF h hf (n - k') k' (i + 1) u' r' (Nat.le_refl _) e4 (by omega) (by omega) hr2
        refine ⟨c, rs', i, ?_, g1, ⟨Nat.le_refl _, by omega, fun j a b => ⟨e, κ, ?_, fun q => by omega, fun _ => by omega⟩⟩, LC.nx s2 e7.l, e8.lr g2, PLS.one e5.pc hke hen⟩
        · rw [if_pos (by omega)]
          exact sc_end hc.b
        · have : j = i := by omega
          subst this
          have z := g2.2 j (by omega)
          exact e5.keep rfl rfl rfl z.1 z.2.1 z.2.2.1 z.2.2.2
      · rw [if_neg (by omega)]
        obtain ⟨cs', rs', M, g1, g2, g3, g4, g5, g6⟩ := ih k' (i + 1) u' (v' + 1) c r' (by omega) e4 (by omega) (by omega) (by omega) hc e9 hr2
        refine ⟨cs', rs', M, g1, g2, ⟨by have := g3.1; omega, g3.2.1, fun j a b => ?_⟩, LC.nx s2 (e7.lc g4), e8.lr g5, PLS.cons g6 g3.1 ((g4.2 i (by omega)).2.1.trans e5.pc) hke e3⟩
        by_cases w : j = i
        · subst w
          have z := g5.2 j (by omega)
          have z2 := g4.2 j (by omega)
          have hM := g3.1
          exact ⟨e, κ, e5.keep z2.1 z2.2.1 z2.2.2 z.1 z.2.1 z.2.2.1 z.2.2.2, fun _ => by omega, fun y => by omega⟩
        · exact g3.2.2 j (by omega) b

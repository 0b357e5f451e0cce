/-! tokens: bytes -/
def zlt (c : Int32) : Int32 := if c < 97 then 0 else if 122 < c then 0 else 1
def zdg (c : Int32) : Int32 := if c < 48 then 0 else if 57 < c then 0 else 1
def zbl (c : Int32) : Int32 := if c = 32 then 1 else if c = 9 then 1 else if c = 13 then 1 else if c = 10 then 1 else 0
def zlc (c : Int32) : Int32 := if zdg c = 0 then (c - 97) + 1 else (c - 48) + 27
theorem c_lt (F : Nat) (cs : CS) (c : Int32) : c_X10_isLetter F cs c = some (zlt c) := by
  unfold c_X10_isLetter c_X10_isLetter_b16 c_X10_isLetter_b17 zlt
  by_cases h : c < 97
  · rw [if_pos h, if_pos h]; rfl
  · rw [if_neg h, if_neg h]
    by_cases g : 122 < c
    · rw [if_pos g, if_pos g]; rfl
    · rw [if_neg g, if_neg g]; rfl
theorem c_dg (F : Nat) (cs : CS) (c : Int32) : c_X10_isDigit F cs c = some (zdg c) := by
  unfold c_X10_isDigit c_X10_isDigit_b16 c_X10_isDigit_b17 zdg
  by_cases h : c < 48
  · rw [if_pos h, if_pos h]; rfl
  · rw [if_neg h, if_neg h]
    by_cases g : 57 < c
    · rw [if_pos g, if_pos g]; rfl
    · rw [if_neg g, if_neg g]; rfl
theorem m_lt (F : Nat) (rs : RS) (c : Int32) : m_isLetter F rs c = some (zlt c) := by
  unfold m_isLetter m_isLetter_b16 m_isLetter_b17 zlt
  by_cases h : c < 97
  · rw [if_pos h, if_pos h]; rfl
  · rw [if_neg h, if_neg h]
    by_cases g : 122 < c
    · rw [if_pos g, if_pos g]; rfl
    · rw [if_neg g, if_neg g]; rfl
theorem m_dg (F : Nat) (rs : RS) (c : Int32) : m_isDigit F rs c = some (zdg c) := by
  unfold m_isDigit m_isDigit_b16 m_isDigit_b17 zdg
  by_cases h : c < 48
  · rw [if_pos h, if_pos h]; rfl
  · rw [if_neg h, if_neg h]
    by_cases g : 57 < c
    · rw [if_pos g, if_pos g]; rfl
    · rw [if_neg g, if_neg g]; rfl
theorem c_bl (F : Nat) (cs : CS) (c : Int32) : c_X10_isBlankByte F cs c = some (zbl c) := by
  unfold c_X10_isBlankByte c_X10_isBlankByte_b24 c_X10_isBlankByte_b29 zbl
  by_cases h1 : c = 32
  · rw [if_pos h1, if_pos h1]; rfl
  · rw [if_neg h1, if_neg h1]
    by_cases h2 : c = 9
    · rw [if_pos h2, if_pos h2]; rfl
    · rw [if_neg h2, if_neg h2]
      by_cases h3 : c = 13
      · rw [if_pos h3, if_pos h3]; rfl
      · rw [if_neg h3, if_neg h3]
        by_cases h4 : c = 10
        · rw [if_pos h4, if_pos h4]; rfl
        · rw [if_neg h4, if_neg h4]; rfl
theorem c_lc (F : Nat) (cs : CS) (c : Int32) : c_X10_letterCode F cs c = some (zlc c) := by
  unfold c_X10_letterCode c_X10_letterCode_b23 zlc
  rw [c_dg, ob_s]
  by_cases h : zdg c = 0
  · rw [if_pos h, if_pos h]
  · rw [if_neg h, if_neg h]
/-- the taken words as numbers -/
def tn (j : Nat) : Nat := ([1327520800, 404174539790, 329128, 527412, 614923, 569, 43518443, 14052209, 99, 557753029, 40079413, 1825, 391859065, 32993057317397, 29029848, 210163, 22963959, 56, 564229, 154036, 1176170, 1024211, 270401, 7367, 352, 19741, 738347, 347, 1891, 573, 1038484, 11312755, 6411565, 26801, 18144, 17858, 984362, 75097326496564, 1025867] : List Nat).getD j 0
/-- the class's tokens at work on the n bytes f -/
def TW (n : Nat) (f : Nat → Int32) (cs : CS) : Prop := (Bas cs) ∧ (kR cs 382 9 = some 0) ∧ (kP cs 355 9 = some 1) ∧ (kI cs 356 9 = nI n) ∧ (n ≤ 2000) ∧ (∀ k, k < n → kA cs 384 0 k = f k) ∧ (∀ j, j < 39 → kB cs 358 9 j = lN (tn j))
theorem TW.b {n : Nat} {f : Nat → Int32} {cs : CS} (h : TW n f cs) : Bas cs := h.1
theorem TW.g {n : Nat} {f : Nat → Int32} {cs : CS} (h : TW n f cs) : kR cs 382 9 = some 0 := h.2.1
theorem TW.p {n : Nat} {f : Nat → Int32} {cs : CS} (h : TW n f cs) : kP cs 355 9 = some 1 := h.2.2.1
theorem TW.s {n : Nat} {f : Nat → Int32} {cs : CS} (h : TW n f cs) : kI cs 356 9 = nI n := h.2.2.2.1
theorem TW.le {n : Nat} {f : Nat → Int32} {cs : CS} (h : TW n f cs) : n ≤ 2000 := h.2.2.2.2.1
theorem TW.f {n : Nat} {f : Nat → Int32} {cs : CS} (h : TW n f cs) : ∀ k, k < n → kA cs 384 0 k = f k := h.2.2.2.2.2.1
theorem TW.t {n : Nat} {f : Nat → Int32} {cs : CS} (h : TW n f cs) : ∀ j, j < 39 → kB cs 358 9 j = lN (tn j) := h.2.2.2.2.2.2
def kS (t : Nat) : Prop := t = 352 ∨ t = 353 ∨ t = 354 ∨ t = 357
theorem TW.fx {n : Nat} {f : Nat → Int32} {a c : CS} (h : TW n f a) (x : FX kS a c) : TW n f c := by
  have e1 := x.2.1
  have e2 := x.2.2.1
  refine ⟨h.b.fx x, by rw [e1]; exact h.g, by rw [e2]; exact h.p, by rw [x.i (by unfold kS; omega)]; exact h.s, h.le, fun k hk => by rw [x.a (by unfold kS; omega)]; exact h.f k hk, fun j hj => by rw [x.b (by unfold kS; omega)]; exact h.t j hj⟩
theorem by_in {F n k : Nat} {f : Nat → Int32} {cs : CS} (h : TW n f cs) (hk : k < n) : c_X10_byteAt F cs 9 (nI k) = some (f k) := by
  have hl := h.le
  have hB := h.b
  have c0 : ¬ nI k < 0 := nI_pos (by omega)
  have c1 : ¬ nI n ≤ nI k := nI_ge hk (by omega)
  have c2 : ¬ nI 2000 ≤ nI k := nI_ge (by omega) (by omega)
  have k2 : k < 2000 := by omega
  have hg : gBy cs 9 = some (0, 1) := by
    unfold gBy
    rw [h.g, ob_s, gA_ok hB.oT, h.p, ob_s, if_pos hB.p384]
  unfold c_X10_byteAt c_X10_byteAt_b31
  rw [if_neg c0, gI_ok hB.oT, ob_s, h.s, if_neg c1]
  simp only [hg, ob_s, lnA_n hB.e384 hB.p384, hB.l384, if_neg c2]
  rw [rA_n hB.e384 hB.p384 (by rw [hB.l384]; exact k2) (by rw [hB.l384]; decide), ob_s, h.f k hk]
theorem by_out {F n : Nat} {f : Nat → Int32} {cs : CS} (h : TW n f cs) {k : Nat} (hk : n ≤ k) (hk2 : k < 2147483648) : c_X10_byteAt F cs 9 (nI k) = some (-1) := by
  have c0 : ¬ nI k < 0 := nI_pos (by omega)
  have c1 : nI n ≤ nI k := nI_le hk (by omega)
  unfold c_X10_byteAt c_X10_byteAt_b30 c_X10_byteAt_b31
  rw [if_neg c0, gI_ok h.b.oT, ob_s, h.s, if_pos c1]
def nS (t : Nat) : Prop := t = 357
theorem nS_k {t : Nat} (h : nS t) : kS t := Or.inr (Or.inr (Or.inr h))
/-- from k on the bytes up to e are blank, and there it ends -/
def zBE (P : Int32 → Prop) (f : Nat → Int32) (n k e : Nat) : Prop := k ≤ e ∧ e ≤ n ∧ (∀ j, k ≤ j → j < e → P (f j)) ∧ (e = n ∨ ¬ P (f e))
theorem zBE_ex (P : Int32 → Prop) (f : Nat → Int32) : ∀ (m n k : Nat), k ≤ n → n - k = m → ∃ e, zBE P f n k e
  | 0, n, k, h, hm => ⟨k, Nat.le_refl _, h, fun j a b => by omega, Or.inl (by omega)⟩
  | m + 1, n, k, h, hm => by
    rcases Classical.em (P (f k)) with hp | hp
    · obtain ⟨e, h1, h2, h3, h4⟩ := zBE_ex P f m n (k + 1) (by omega) (by omega)
      refine ⟨e, by omega, h2, fun j a b => ?_, h4⟩
      by_cases q : j = k
      · rw [q]; exact hp
      · exact h3 j (by omega) b
    · exact ⟨k, Nat.le_refl _, h, fun j a b => by omega, Or.inr hp⟩
theorem zBE.step {P : Int32 → Prop} {f : Nat → Int32} {n k e : Nat} (h : zBE P f n k e) (hk : k < e) : zBE P f n (k + 1) e := ⟨hk, h.2.1, fun j a b => h.2.2.1 j (by omega) b, h.2.2.2⟩
theorem sk_ok {F n e : Nat} {f : Nat → Int32} : ∀ (u k : Nat) (cs : CS), TW n f cs → kI cs 357 9 = nI k → zBE (fun c => zbl c ≠ 0) f n k e → e - k < u → ∃ cs', c_X10_skipBlanks_L0 F u cs 9 = some cs' ∧ FX nS cs cs' ∧ kI cs' 357 9 = nI e
  | 0, _, _, _, _, _, hu => by omega
  | u + 1, k, cs, h, hk, he, hu => by
    have hl := h.le
    have hen := he.2.1
    have hke := he.1
    rw [c_X10_skipBlanks_L0, gI_ok h.b.oT, ob_s, gI_ok h.b.oT, ob_s, h.s, hk]
    by_cases q : k = n
    · subst q
      have : e = k := by omega
      subst this
      exact ⟨cs, if_pos (nI_le (Nat.le_refl _) (by omega)), FX.refl cs, hk⟩
    · have c1 : ¬ nI n ≤ nI k := nI_ge (by omega) (by omega)
      rw [if_neg c1]
      simp only [ob_s, ckE_ok h.b.oT, by_in h (show k < n by omega), c_bl, nI_1, pI_ok h.b.oT]
      by_cases q2 : k = e
      · subst q2
        have : zbl (f k) = 0 := by
          rcases he.2.2.2 with z | z
          · omega
          · exact Classical.not_not.mp z
        exact ⟨cs, if_pos this, FX.refl cs, hk⟩
      · have hb : ¬ zbl (f k) = 0 := he.2.2.1 k (Nat.le_refl _) (by omega)
        rw [if_neg hb]
        have fx : FX nS cs (sI cs 357 9 (nI (k + 1))) := FX.sI rfl
        obtain ⟨cs', e1, e2, e3⟩ := sk_ok (F := F) (n := n) (e := e) (f := f) u (k + 1) (sI cs 357 9 (nI (k + 1))) (h.fx (fx.mono (fun _ => nS_k))) rfl (he.step (by omega)) (by omega)
        exact ⟨cs', e1, fx.trans e2, e3⟩
/-! words -/
def zwc (c : Int32) : Prop := zlt c ≠ 0 ∨ zdg c ≠ 0
def zcN (c : Int32) : Nat := (zlc c).toInt.toNat
def zwn (f : Nat → Int32) (p : Nat) : Nat → Nat
  | 0 => 0
  | l + 1 => 37 * zwn f p l + zcN (f (p + l))
theorem cN_of : ∀ m, m < 256 → zwc (nI m - 128) → zlc (nI m - 128) = nI (zcN (nI m - 128)) ∧ 1 ≤ zcN (nI m - 128) ∧ zcN (nI m - 128) ≤ 36 := by
  unfold zwc zlt zdg zcN zlc
  decide +kernel
theorem cN_k {c : Int32} (hb : zisB c) (h : zwc c) : zlc c = nI (zcN c) ∧ 1 ≤ zcN c ∧ zcN c ≤ 36 := by
  obtain ⟨m, hm, rfl⟩ := hb
  exact cN_of m hm h
theorem lN_37 (a : Nat) : lN a * 37 = lN (37 * a) := by rw [show (37 : Int64) = lN 37 by decide +kernel, Nat.mul_comm]; exact (Int64.ofNat_mul a 37).symm
theorem sw_ok {F n p e i : Nat} {f : Nat → Int32} (hf : ∀ k, k < n → zisB (f k)) : ∀ (u k : Nat) (cs : CS), TW n f cs → kI cs 357 9 = nI k → p ≤ k → zBE zwc f n k e → e - k < u → ∃ cs', c_X10_scanWord_L7 F u cs 9 (nI i) (nI p) (lN (zwn f p (k - p))) = c_X10_scanWord_b78 F cs' 9 (nI i) (nI p) (lN (zwn f p (e - p))) ∧ FX nS cs cs' ∧ kI cs' 357 9 = nI e
  | 0, _, _, _, _, _, _, hu => by omega
  | u + 1, k, cs, h, hk, hp, he, hu => by
    have hl := h.le
    have hen := he.2.1
    have hke := he.1
    rw [c_X10_scanWord_L7, gI_ok h.b.oT, ob_s, gI_ok h.b.oT, ob_s, h.s, hk]
    by_cases q : k = n
    · subst q
      have : e = k := by omega
      subst this
      exact ⟨cs, if_pos (nI_le (Nat.le_refl _) (by omega)), FX.refl cs, hk⟩
    · have c1 : ¬ nI n ≤ nI k := nI_ge (by omega) (by omega)
      have hkn : k < n := by omega
      have go : zwc (f k) → k < e → ∃ cs', c_X10_scanWord_b46 F (c_X10_scanWord_L7 F u) cs 9 (nI i) (nI p) (lN (zwn f p (k - p))) = c_X10_scanWord_b78 F cs' 9 (nI i) (nI p) (lN (zwn f p (e - p))) ∧ FX nS cs cs' ∧ kI cs' 357 9 = nI e := fun hw hke2 => by
        obtain ⟨a1, a2, a3⟩ := cN_k (hf k hkn) hw
        have fx : FX nS cs (sI cs 357 9 (nI (k + 1))) := FX.sI rfl
        obtain ⟨cs', e1, e2, e3⟩ := sw_ok (F := F) (n := n) (e := e) (i := i) (p := p) hf u (k + 1) (sI cs 357 9 (nI (k + 1))) (h.fx (fx.mono (fun _ => nS_k))) rfl (by omega) (he.step hke2) (by omega)
        refine ⟨cs', ?_, fx.trans e2, e3⟩
        unfold c_X10_scanWord_b46
        rw [gI_ok h.b.oT, ob_s, hk, ckE_ok h.b.oT, ob_s, by_in h hkn, ob_s, c_lc, ob_s, ob_s, nI_1, pI_ok h.b.oT, ob_s, a1, nI_l (by omega), lN_37, lN_add]
        rw [show k + 1 - p = (k - p) + 1 by omega] at e1
        have e1 : c_X10_scanWord_L7 F u (sI cs 357 9 (nI (k + 1))) 9 (nI i) (nI p) (lN (37 * zwn f p (k - p) + zcN (f (p + (k - p))))) = _ := e1
        rw [show p + (k - p) = k by omega] at e1
        exact e1
      rw [if_neg c1]
      simp only [gI_ok h.b.oT, ob_s, hk, ckE_ok h.b.oT, by_in h hkn, c_lt, c_dg]
      by_cases q2 : k = e
      · subst q2
        have : ¬ zwc (f k) := by
          rcases he.2.2.2 with z | z
          · omega
          · exact z
        have l0 : zlt (f k) = 0 := Classical.not_not.mp (fun z => this (Or.inl z))
        have d0 : zdg (f k) = 0 := Classical.not_not.mp (fun z => this (Or.inr z))
        rw [if_pos l0, if_pos d0]
        exact ⟨cs, rfl, FX.refl cs, hk⟩
      · have hw : zwc (f k) := he.2.2.1 k (Nat.le_refl _) (by omega)
        by_cases l0 : zlt (f k) = 0
        · have d0 : ¬ zdg (f k) = 0 := hw.elim (fun z => absurd l0 z) id
          rw [if_pos l0, if_neg d0]
          exact go hw (by omega)
        · rw [if_neg l0]
          exact go hw (by omega)
theorem rw_ok {F n p e i : Nat} {f : Nat → Int32} {rs : RS} {rc : RS → Int32 → Int32 → Int32 → Option RS} (hn : n ≤ 2000) (hf : ∀ k, k < n → rs.2.2.1 2 k = f k) : ∀ (u k : Nat), zBE zwc f n k e → e - k < u → m_tokens_L81 F rc u rs (nI n) (nI i) (nI k) (nI p) = m_tokens_b116 F rc rs (nI n) (nI i) (nI e) (nI p)
  | 0, _, _, hu => by omega
  | u + 1, k, he, hu => by
    have hen := he.2.1
    have hke := he.1
    rw [m_tokens_L81]
    by_cases q : k = n
    · subst q
      have : e = k := by omega
      subst this
      rw [if_pos (nI_le (Nat.le_refl _) (by omega))]
    · have c1 : ¬ nI n ≤ nI k := nI_ge (by omega) (by omega)
      have hkn : k < n := by omega
      rw [if_neg c1]
      simp only [rdI_n (show k < 2000 by omega) (show (2000 : Nat) < 2147483648 by decide), ob_s, hf k hkn, m_lt, m_dg]
      by_cases q2 : k = e
      · subst q2
        have : ¬ zwc (f k) := by
          rcases he.2.2.2 with z | z
          · omega
          · exact z
        have l0 : zlt (f k) = 0 := Classical.not_not.mp (fun z => this (Or.inl z))
        have d0 : zdg (f k) = 0 := Classical.not_not.mp (fun z => this (Or.inr z))
        rw [if_pos l0, if_pos d0]
      · have hw : zwc (f k) := he.2.2.1 k (Nat.le_refl _) (by omega)
        have go : m_tokens_b110 F rc (m_tokens_L81 F rc u) rs (nI n) (nI i) (nI k) (nI p) = m_tokens_b116 F rc rs (nI n) (nI i) (nI e) (nI p) := by
          unfold m_tokens_b110
          rw [nI_1]
          exact rw_ok hn hf u (k + 1) (he.step (by omega)) (by omega)
        by_cases l0 : zlt (f k) = 0
        · have d0 : ¬ zdg (f k) = 0 := hw.elim (fun z => absurd l0 z) id
          rw [if_pos l0, if_neg d0]
          exact go
        · rw [if_neg l0]
          exact go
theorem tn_lt : ∀ j, j < 39 → tn j < 9223372036854775808 := by decide +kernel
theorem wk_ok {F n w : Nat} {f : Nat → Int32} {cs : CS} (h : TW n f cs) (hw : w < 9223372036854775808) : ∀ (u j : Nat), j ≤ 39 → (∀ i, i < j → tn i ≠ w) → 39 - j < u → ∃ κ, c_X10_wordKind_L2 F cs u 9 (lN w) (nI j) = some (nI κ) ∧ κ ≤ 39 ∧ (κ < 39 → tn κ = w) ∧ (κ = 39 → ∀ i, i < 39 → tn i ≠ w)
  | 0, _, _, _, hu => by omega
  | u + 1, j, hj, ha, hu => by
    rw [c_X10_wordKind_L2, gA_ok h.b.oT, h.b.p358, ob_s, lnA_n h.b.e358 h.b.p358, ob_s, h.b.l358]
    by_cases q : j = 39
    · subst q
      exact ⟨39, if_pos (by decide), Nat.le_refl _, fun z => absurd z (by omega), fun _ => ha⟩
    · have c1 : ¬ nI 39 ≤ nI j := nI_ge (by omega) (by decide)
      have j39 : j < 39 := by omega
      rw [if_neg c1, ob_s, rB_n h.b.e358 h.b.p358 (by rw [h.b.l358]; exact j39) (by rw [h.b.l358]; decide), ob_s, h.t j j39]
      by_cases e : tn j = w
      · exact ⟨j, if_pos (by rw [e]), by omega, fun _ => e, fun z => absurd z (by omega)⟩
      · rw [if_neg (fun z => e ((pk_lEQ (tn_lt j j39) hw).mp z)), nI_1]
        exact wk_ok h hw u (j + 1) (by omega) (fun i hi => by
          by_cases z : i = j
          · rw [z]; exact e
          · exact ha i (by omega)) (by omega)
theorem zwn_lt {f : Nat → Int32} {p : Nat} : ∀ (l : Nat), (∀ j, j < l → zcN (f (p + j)) ≤ 36) → zwn f p l < 37 ^ l
  | 0, _ => by show 0 < 37 ^ 0; decide
  | l + 1, h => by
    have h1 := zwn_lt l (fun j hj => h j (by omega))
    have h2 := h l (by omega)
    show 37 * zwn f p l + zcN (f (p + l)) < 37 ^ (l + 1)
    rw [Nat.pow_succ]
    omega
theorem p37 : ∀ l, l ≤ 12 → 37 ^ l < 9223372036854775808 := by decide +kernel

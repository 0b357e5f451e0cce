/-! what a run may cost, by leaves -/
/-- a QUERY, or a SOURCE: l leaves, d deep, C cells, k relations, n rows -/
def CBQ (l d C k n : Nat) : Prop := (l = 1 ∧ n ≤ 8 ∧ C ≤ 472 * d + 40 ∧ k ≤ 7 * d + 2) ∨ (l = 2 ∧ n ≤ 64 ∧ C ≤ 3700 * d + 2300 ∧ k ≤ 14 * d + 4) ∨ (l = 3 ∧ n ≤ 512 ∧ (C ≤ 20504 * d + 41100 ∨ (n ≤ 100 ∧ C ≤ 20504 * d + 49292)) ∧ k ≤ 21 * d + 6)
/-- a SELECT whose SOURCES are d deep -/
def CBS (l d C k n : Nat) : Prop := (l = 1 ∧ n ≤ 8 ∧ C ≤ 472 * d + 384 ∧ k ≤ 7 * d + 7) ∨ (l = 2 ∧ n ≤ 64 ∧ C ≤ 3700 * d + 4884 ∧ k ≤ 14 * d + 10) ∨ (l = 3 ∧ n ≤ 512 ∧ C ≤ 20504 * d + 61604 ∧ k ≤ 21 * d + 13)
theorem CBQ.up {l l' d C k n : Nat} (h : CBQ l d C k n) (h1 : l ≤ l') (h2 : l' ≤ 3) : CBQ l' d C k n := by
  unfold CBQ at h ⊢
  omega
theorem CBS.up {l l' d C k n : Nat} (h : CBS l d C k n) (h1 : l ≤ l') (h2 : l' ≤ 3) : CBS l' d C k n := by
  unfold CBS at h ⊢
  omega
theorem CBQ.l1 {l d C k n : Nat} (h : CBQ l d C k n) : 1 ≤ l := by
  unfold CBQ at h
  omega
theorem CBQ.le {l d C k n : Nat} (h : CBQ l d C k n) : n ≤ 512 := by
  unfold CBQ at h
  omega
theorem CBQ.leaf {d C n : Nat} (hC : C ≤ 40) (hn : n ≤ 8) : CBQ 1 d C 1 n := by
  unfold CBQ
  omega
theorem one1_up {n b : Nat} (h : n ≤ b) (hb : 1 ≤ b) : one1 n ≤ b := by
  unfold one1
  by_cases q : n = 0
  · rw [if_pos q]
    exact hb
  · rw [if_neg q]
    exact h
theorem CBQ.o8 {l d C k n : Nat} (h : CBQ l d C k n) : (l = 1 ∧ one1 n ≤ 8) ∨ (l = 2 ∧ one1 n ≤ 64) ∨ (l = 3 ∧ one1 n ≤ 512) := by
  rcases h with ⟨h1, h2, -⟩ | ⟨h1, h2, -⟩ | ⟨h1, h2, -⟩
  · exact Or.inl ⟨h1, one1_up h2 (by decide)⟩
  · exact Or.inr (Or.inl ⟨h1, one1_up h2 (by decide)⟩)
  · exact Or.inr (Or.inr ⟨h1, one1_up h2 (by decide)⟩)
theorem cbs_0 {l d c0 k0 n0 Wd : Nat} (h : CBQ l d c0 k0 n0) (hW : Wd ≤ 8) : CBS l d (c0 + 0 + 2 * (one1 n0 * Wd) + 3 * ((one1 n0 + 1) * 8)) (k0 + 0 + 5) (one1 n0) := by
  unfold CBS
  rcases h with ⟨h1, h2, h3, h4⟩ | ⟨h1, h2, h3, h4⟩ | ⟨h1, h2, h3, h4⟩
  · have m := one1_up h2 (by decide)
    have p : one1 n0 * Wd ≤ 8 * 8 := mul_up m hW
    omega
  · have m := one1_up h2 (by decide)
    have p : one1 n0 * Wd ≤ 64 * 8 := mul_up m hW
    omega
  · rcases h3 with h3 | ⟨h3, h5⟩
    · have m := one1_up h2 (by decide)
      have p : one1 n0 * Wd ≤ 512 * 8 := mul_up m hW
      omega
    · have m := one1_up h3 (by decide)
      have p : one1 n0 * Wd ≤ 100 * 8 := mul_up m hW
      omega
theorem cbs_1 {l l0 l1 d c0 c1 k0 k1 n0 n1 Wd : Nat} (h0 : CBQ l0 d c0 k0 n0) (h1 : CBQ l1 d c1 k1 n1) (hl : l0 + l1 ≤ l) (l3 : l ≤ 3) (hW : Wd ≤ 16) : CBS l d (c0 + (c1 + one1 n0 * one1 n1 * Wd + 0) + 2 * (one1 n0 * one1 n1 * Wd) + 3 * ((one1 n0 * one1 n1 + 1) * 8)) (k0 + (k1 + 1 + 0) + 5) (one1 n0 * one1 n1) := by
  have o0 := h0.o8
  have o1 := h1.o8
  have u0 := h0.l1
  have u1 := h1.l1
  by_cases q : l0 = 1 ∧ l1 = 1
  · have p : one1 n0 * one1 n1 ≤ 8 * 8 := mul_up (by omega) (by omega)
    have p2 : one1 n0 * one1 n1 * Wd ≤ 64 * 16 := mul_up p hW
    unfold CBQ at h0 h1
    unfold CBS
    omega
  · have p : one1 n0 * one1 n1 ≤ 512 := by
      by_cases q1 : l0 = 1
      · exact Nat.le_trans (mul_up (M := 8) (w' := 64) (by omega) (by omega)) (by decide)
      · exact Nat.le_trans (mul_up (M := 64) (w' := 8) (by omega) (by omega)) (by decide)
    have p2 : one1 n0 * one1 n1 * Wd ≤ 512 * 16 := mul_up p hW
    unfold CBQ at h0 h1
    unfold CBS
    omega
theorem cbs_2 {l l0 l1 l2 d c0 c1 c2 k0 k1 k2 n0 n1 n2 Wd : Nat} (h0 : CBQ l0 d c0 k0 n0) (h1 : CBQ l1 d c1 k1 n1) (h2 : CBQ l2 d c2 k2 n2) (hl : l0 + l1 + l2 ≤ l) (l3 : l ≤ 3) (hW : Wd ≤ 24) : CBS l d (c0 + (c1 + one1 n0 * one1 n1 * one1 n2 * Wd + (c2 + one1 n0 * one1 n1 * one1 n2 * Wd + 0)) + 2 * (one1 n0 * one1 n1 * one1 n2 * Wd) + 3 * ((one1 n0 * one1 n1 * one1 n2 + 1) * 8)) (k0 + (k1 + 1 + (k2 + 1 + 0)) + 5) (one1 n0 * one1 n1 * one1 n2) := by
  have o0 := h0.o8
  have o1 := h1.o8
  have o2 := h2.o8
  have p : one1 n0 * one1 n1 ≤ 8 * 8 := mul_up (by omega) (by omega)
  have p1 : one1 n0 * one1 n1 * one1 n2 ≤ 64 * 8 := mul_up p (by omega)
  have p2 : one1 n0 * one1 n1 * one1 n2 * Wd ≤ 512 * 24 := mul_up p1 hW
  unfold CBQ at h0 h1 h2
  unfold CBS
  omega
theorem cbq_0 {l d c0 k0 n0 oc n' : Nat} (h : CBS l d c0 k0 n0) (ho : oc = 0 ∨ (oc = 2 * (n0 * 8) ∧ n' ≤ 100)) (hn : n' ≤ n0) : CBQ l (d + 1) (c0 + 0 + oc) (k0 + 0 + 2) n' := by
  unfold CBS at h
  unfold CBQ
  omega
theorem cbq_1 {l l0 l1 d c0 c1 k0 k1 n0 n1 oc n' : Nat} (h0 : CBS l0 d c0 k0 n0) (h1 : CBS l1 d c1 k1 n1) (hl : l0 + l1 ≤ l) (l3 : l ≤ 3) (ho : oc = 0 ∨ (oc = 2 * ((n0 + n1) * 8) ∧ n' ≤ 100)) (hn : n' ≤ n0 + n1) : CBQ l (d + 1) (c0 + (c1 + (n0 + n1) * 8 + 0) + oc) (k0 + (k1 + 1 + 0) + 2) n' := by
  unfold CBS at h0 h1
  unfold CBQ
  omega
theorem cbq_2 {l l0 l1 l2 d c0 c1 c2 k0 k1 k2 n0 n1 n2 oc n' : Nat} (h0 : CBS l0 d c0 k0 n0) (h1 : CBS l1 d c1 k1 n1) (h2 : CBS l2 d c2 k2 n2) (hl : l0 + l1 + l2 ≤ l) (l3 : l ≤ 3) (ho : oc = 0 ∨ (oc = 2 * ((n0 + n1 + n2) * 8) ∧ n' ≤ 100)) (hn : n' ≤ n0 + n1 + n2) : CBQ l (d + 1) (c0 + (c1 + (n0 + n1 + n2) * 8 + (c2 + (n0 + n1 + n2) * 8 + 0)) + oc) (k0 + (k1 + 1 + (k2 + 1 + 0)) + 2) n' := by
  unfold CBS at h0 h1 h2
  unfold CBQ
  omega
theorem CBS.n {l d C k n n' : Nat} (h : CBS l d C k n) (hn : n' ≤ n) : CBS l d C k n' := by
  unfold CBS at h ⊢
  omega

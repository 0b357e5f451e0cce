/-! an aggregate's note: what is where -/
theorem nt203 {cs : CS} {c q s s1 k : Nat} : kI (ntC cs c q s s1 k) 203 q = nI (k + 1) := by
  unfold ntC
  split <;> simp [kI_sA, kI_sI, u2]
theorem ntI {cs : CS} {c q s s1 k x y : Nat} (h : x ≠ 203) : kI (ntC cs c q s s1 k) x y = kI cs x y := by
  unfold ntC
  split <;> simp [kI_sA, kI_sI, u2, h]
theorem nt202 {cs : CS} {c q s s1 k : Nat} : kA (ntC cs c q s s1 k) 202 q = upd (kA cs 202 q) k (nI s1) := by
  unfold ntC
  split <;> simp [kA_sA, kA_sI, u2]
theorem nt66 {cs : CS} {c q s s1 k : Nat} : kA (ntC cs c q s s1 k) 66 c = kA cs 66 c := by
  unfold ntC
  split <;> simp [kA_sA, kA_sI, u2]
theorem nt_fo {t cs : _} {c q s s1 k : Nat} : FO (PX t c q) cs (ntC cs c q s s1 k) := by
  have w : FO (PX t c q) cs (sI (sA cs 202 q k (nI s1)) 203 q (nI (k + 1))) := (FO.sA (Or.inr (Or.inr ⟨by decide, rfl⟩))).trans (FO.sI (Or.inr (Or.inr ⟨by decide, rfl⟩)))
  unfold ntC
  split
  · exact w.trans (FO.sA (Or.inr (Or.inl ⟨by decide, rfl⟩)))
  · exact w
theorem ntV_o {cs : CS} {rs : RS} {c q s s1 k x : Nat} (h : x ≠ s) : VW c (ntC cs c q s s1 k) rs x = VW c cs rs x := by
  unfold ntC
  split
  · unfold VW
    simp only [kA_sA, kA_sI, kB_sA, kB_sI, u2, Nat.reduceEqDiff, false_and, if_false, and_self, if_true, pk_un h]
  · unfold VW
    simp only [kA_sA, kA_sI, kB_sA, kB_sI, u2, Nat.reduceEqDiff, false_and, if_false]
theorem ntV_e {cs : CS} {rs : RS} {c q s k x : Nat} : VW c (ntC cs c q s s k) rs x = VW c cs rs x := by
  unfold ntC
  rw [if_neg (by omega)]
  unfold VW
  simp only [kA_sA, kA_sI, kB_sA, kB_sI, u2, Nat.reduceEqDiff, false_and, if_false]
theorem ntV_s {cs : CS} {rs : RS} {c q s s1 k : Nat} (h : s < s1) : VW c (ntC cs c q s s1 k) rs s = (((VW c cs rs s).1.1, (VW c cs rs s).1.2.1, (VW c cs rs s).1.2.2.1, (VW c cs rs s).1.2.2.2.1, (VW c cs rs s).1.2.2.2.2.1, nI s1, (VW c cs rs s).1.2.2.2.2.2.2), (VW c cs rs s).2) := by
  unfold ntC
  rw [if_pos h]
  unfold VW
  simp only [kA_sA, kA_sI, kB_sA, kB_sI, u2, Nat.reduceEqDiff, false_and, if_false, and_self, if_true, pk_us]
theorem ntAM_o {cs : CS} {c q s s1 k x : Nat} (hk : kI cs 203 q = nI k) (h12 : k < 12) (h : AM q cs x) : AM q (ntC cs c q s s1 k) x := by
  obtain ⟨j, k', m1, m2, m3, m4⟩ := h
  have e : k' = k := (nI_eq (by omega) (by omega)).mp (m2.symm.trans hk)
  refine ⟨j, k + 1, by omega, nt203, by omega, ?_⟩
  rw [nt202, pk_un (by omega)]
  exact m4
theorem ntAM_s {cs : CS} {c q s s1 k : Nat} (h12 : k < 12) : AM q (ntC cs c q s s1 k) s1 := ⟨k, k + 1, by omega, nt203, by omega, by rw [nt202, pk_us]⟩
theorem ntAM_r {cs : CS} {c q s s1 k x : Nat} (hk : kI cs 203 q = nI k) (h12 : k < 12) (hs : s1 ≤ 120) (h : AM q (ntC cs c q s s1 k) x) : AM q cs x ∨ s1 ≤ x := by
  obtain ⟨j, k', m1, m2, m3, m4⟩ := h
  rw [nt203] at m2
  have e : k + 1 = k' := (nI_eq (by omega) (by omega)).mp m2
  rw [nt202] at m4
  by_cases y : j = k
  · subst y
    rw [pk_us] at m4
    refine Or.inr ?_
    by_cases w : x < 2147483648
    · have := (nI_eq (by omega) (by omega)).mp m4
      omega
    · omega
  · rw [pk_un y] at m4
    exact Or.inl ⟨j, k, by omega, hk, by omega, m4⟩

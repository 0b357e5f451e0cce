/-! streams read, as sums over both -/
def lk1 (w : Int32 → Int64 → Nat) (t : Nat) (cs : CS) (k : Nat) : Nat := match kQ cs 326 t k with
  | some oo => w (kI cs 224 oo) (kJ cs 230 oo)
  | none => 0
def lsm (w : Int32 → Int64 → Nat) (t : Nat) (cs : CS) : Nat → Nat
  | 0 => 0
  | k + 1 => lsm w t cs k + lk1 w t cs k
def rk1 (w : Int32 → Int64 → Nat) (rs : RS) (s k : Nat) : Nat := if k < (rs.2.2.1 37 s).toNatClampNeg ∧ rs.2.2.1 49 (3 * s + k) ≠ -1 then w (rs.2.2.1 49 (3 * s + k)) (if rs.2.2.1 51 (3 * s + k) = 0 then -1 else rs.2.2.2 52 (3 * s + k)) else 0
def rsm (w : Int32 → Int64 → Nat) (rs : RS) : Nat → Nat
  | 0 => 0
  | s + 1 => rsm w rs s + (rk1 w rs s 0 + rk1 w rs s 1 + rk1 w rs s 2)
theorem lsm_eq {w : Int32 → Int64 → Nat} {t : Nat} {cs cs' : CS} : ∀ m, (∀ k, k < m → lk1 w t cs' k = lk1 w t cs k) → lsm w t cs' m = lsm w t cs m
  | 0, _ => rfl
  | m + 1, h => by
    show lsm w t cs' m + lk1 w t cs' m = lsm w t cs m + lk1 w t cs m
    rw [lsm_eq m (fun k hk => h k (by omega)), h m (Nat.lt_succ_self _)]
theorem rsm_eq {w : Int32 → Int64 → Nat} {rs rs' : RS} : ∀ m, (∀ s k, s < m → k < 3 → rk1 w rs' s k = rk1 w rs s k) → rsm w rs' m = rsm w rs m
  | 0, _ => rfl
  | m + 1, h => by
    show rsm w rs' m + (rk1 w rs' m 0 + rk1 w rs' m 1 + rk1 w rs' m 2) = rsm w rs m + (rk1 w rs m 0 + rk1 w rs m 1 + rk1 w rs m 2)
    rw [rsm_eq m (fun s k hs hk => h s k (by omega) hk), h m 0 (Nat.lt_succ_self _) (by decide), h m 1 (Nat.lt_succ_self _) (by decide), h m 2 (Nat.lt_succ_self _) (by decide)]
/-- one more SOURCE of the SELECT e -/
theorem rsm_add {w : Int32 → Int64 → Nat} {rs rs' : RS} {e k d : Nat} (h : ∀ s j, (s ≠ e ∨ j ≠ k) → j < 3 → rk1 w rs' s j = rk1 w rs s j) (hk : k < 3) (hd : rk1 w rs' e k = rk1 w rs e k + d) : ∀ m, e < m → rsm w rs' m = rsm w rs m + d
  | 0, he => by omega
  | m + 1, he => by
    show rsm w rs' m + (rk1 w rs' m 0 + rk1 w rs' m 1 + rk1 w rs' m 2) = rsm w rs m + (rk1 w rs m 0 + rk1 w rs m 1 + rk1 w rs m 2) + d
    by_cases y : m = e
    · subst y
      have r0 := rsm_eq (w := w) (rs := rs) (rs' := rs') m (fun s j hs hj => h s j (Or.inl (by omega)) hj)
      have hk3 : k = 0 ∨ k = 1 ∨ k = 2 := by omega
      rcases hk3 with q | q | q
      · subst q
        have h1 := h m 1 (Or.inr (by decide)) (by decide)
        have h2 := h m 2 (Or.inr (by decide)) (by decide)
        omega
      · subst q
        have h1 := h m 0 (Or.inr (by decide)) (by decide)
        have h2 := h m 2 (Or.inr (by decide)) (by decide)
        omega
      · subst q
        have h1 := h m 0 (Or.inr (by decide)) (by decide)
        have h2 := h m 1 (Or.inr (by decide)) (by decide)
        omega
    · have r0 := rsm_add h hk hd m (by omega)
      have h0 := h m 0 (Or.inl y) (by decide)
      have h1 := h m 1 (Or.inl y) (by decide)
      have h2 := h m 2 (Or.inl y) (by decide)
      omega
/-- the streams read so far, alike in both -/
def SM (t lf S : Nat) (cs : CS) (rs : RS) : Prop := (∀ k, k < lf → ∃ oo, kQ cs 326 t k = some oo ∧ (7, oo) ∈ kE cs) ∧ ∀ w : Int32 → Int64 → Nat, lsm w t cs lf = rsm w rs S
theorem SM.keep {t c K0 Q s lf S : Nat} {cs cs' : CS} {rs rs' : RS} (h : SM t lf S cs rs) (kb : KB cs) (hK : kK cs ≤ K0) (p : PD t c K0 S Q s lf cs rs cs' rs') : SM t lf S cs' rs' := by
  refine ⟨fun k hk => ?_, fun w => ?_⟩
  · obtain ⟨oo, o1, o2⟩ := h.1 k hk
    exact ⟨oo, by rw [p.lv k hk]; exact o1, p.em _ o2⟩
  · rw [lsm_eq (cs := cs) lf (fun k hk => ?_), rsm_eq (rs := rs) S (fun s k hs hk => ?_)]
    · exact h.2 w
    · unfold rk1
      rw [p.qf.2.1 37 s (by decide) (by decide) (by unfold wd; rw [if_pos (by decide)]; exact hs), p.qf.2.1 49 (3 * s + k) (by decide) (by decide) (by unfold wd; rw [if_neg (by decide), if_neg (by decide), if_pos (by decide)]; omega), p.qf.2.1 51 (3 * s + k) (by decide) (by decide) (by unfold wd; rw [if_neg (by decide), if_neg (by decide), if_pos (by decide)]; omega), p.qf.2.2 (3 * s + k) (by omega)]
    · obtain ⟨oo, o1, o2⟩ := h.1 k hk
      have := kb _ o2
      unfold lk1
      rw [p.lv k hk, o1]
      show w (kI cs' 224 oo) (kJ cs' 230 oo) = w (kI cs 224 oo) (kJ cs 230 oo)
      rw [(p.a0 224 oo (by omega) (by omega) (by omega)).i, (p.a0 230 oo (by omega) (by omega) (by omega)).j]

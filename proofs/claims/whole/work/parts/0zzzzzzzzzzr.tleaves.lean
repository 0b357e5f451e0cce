/-! leaves: how many streams stand in what was read -/
def lc (rs : RS) (a : Nat) : Nat := rsm (fun _ _ => 1) rs a
theorem lc_s {rs : RS} (a : Nat) : lc rs (a + 1) = lc rs a + (rk1 (fun _ _ => 1) rs a 0 + rk1 (fun _ _ => 1) rs a 1 + rk1 (fun _ _ => 1) rs a 2) := rfl
theorem lc_mono {rs : RS} {a b : Nat} (h : a ≤ b) : lc rs a ≤ lc rs b := by
  induction b with
  | zero =>
    rw [show a = 0 by omega]
    exact Nat.le_refl _
  | succ b ih =>
    by_cases q : a = b + 1
    · rw [q]
      exact Nat.le_refl _
    · have := ih (by omega)
      rw [lc_s]
      omega
def sumN (g : Nat → Nat) : Nat → Nat
  | 0 => 0
  | m + 1 => sumN g m + g m
theorem sumN_ge {g : Nat → Nat} {k : Nat} : ∀ m, k < m → g k ≤ sumN g m
  | 0, h => absurd h (by omega)
  | m + 1, h => by
    show g k ≤ sumN g m + g m
    by_cases q : k = m
    · rw [q]
      omega
    · have := sumN_ge (g := g) m (show k < m by omega)
      omega
/-- a SOURCE is a stream -/
def lfi (rs : RS) (o : Nat) : Nat := if rs.2.2.1 49 o = -1 then 0 else 1
theorem rk1_lt {rs : RS} {e ns k : Nat} (h : rs.2.2.1 37 e = nI ns) (hn : ns ≤ 3) : rk1 (fun _ _ => 1) rs e k = if k < ns then lfi rs (3 * e + k) else 0 := by
  unfold rk1 lfi
  rw [h, nI_clamp (by omega)]
  by_cases a : k < ns
  · by_cases b : rs.2.2.1 49 (3 * e + k) = -1
    · rw [if_pos a, if_pos b, if_neg (fun w => w.2 b)]
    · rw [if_pos a, if_neg b, if_pos ⟨a, b⟩]
  · rw [if_neg a, if_neg (fun w => a w.1)]
theorem own_lc {rs : RS} {e ns : Nat} (h : rs.2.2.1 37 e = nI ns) (hn : ns ≤ 3) : lc rs (e + 1) = lc rs e + sumN (fun k => lfi rs (3 * e + k)) ns := by
  rw [lc_s, rk1_lt h hn, rk1_lt h hn, rk1_lt h hn]
  rcases (show ns = 0 ∨ ns = 1 ∨ ns = 2 ∨ ns = 3 by omega) with q | q | q | q
  · rw [q, if_neg (by omega), if_neg (by omega), if_neg (by omega)]
    rfl
  · rw [q, if_pos (by omega), if_neg (by omega), if_neg (by omega)]
    show lc rs e + (lfi rs (3 * e + 0) + 0 + 0) = lc rs e + (0 + lfi rs (3 * e + 0))
    omega
  · rw [q, if_pos (by omega), if_pos (by omega), if_neg (by omega)]
    show lc rs e + (lfi rs (3 * e + 0) + lfi rs (3 * e + 1) + 0) = lc rs e + (0 + lfi rs (3 * e + 0) + lfi rs (3 * e + 1))
    omega
  · rw [q, if_pos (by omega), if_pos (by omega), if_pos (by omega)]
    show lc rs e + (lfi rs (3 * e + 0) + lfi rs (3 * e + 1) + lfi rs (3 * e + 2)) = lc rs e + (0 + lfi rs (3 * e + 0) + lfi rs (3 * e + 1) + lfi rs (3 * e + 2))
    omega
/-- the leaves of a SOURCE -/
def lvk (rs : RS) (e : Nat) (u v : Nat → Nat) (k : Nat) : Nat := if rs.2.2.1 49 (3 * e + k) = -1 then lc rs (v k) - lc rs (u k) else 1
theorem sel_lv {rs : RS} {e ns B : Nat} {u v : Nat → Nat} (h37 : rs.2.2.1 37 e = nI ns) (n3 : ns ≤ 3) (eB : e < B) (hu : ∀ k, k < ns → rs.2.2.1 49 (3 * e + k) = -1 → e < u k ∧ u k ≤ v k ∧ v k ≤ B) (huv : ∀ k k', k < k' → k' < ns → v k ≤ u k') : sumN (lvk rs e u v) ns + lc rs e ≤ lc rs B := by
  have key : ∀ k, k ≤ ns → ∃ z, e + 1 ≤ z ∧ z ≤ B ∧ (∀ k', k ≤ k' → k' < ns → rs.2.2.1 49 (3 * e + k') = -1 → z ≤ u k') ∧ sumN (lvk rs e u v) k + lc rs (e + 1) ≤ lc rs z + sumN (fun k => lfi rs (3 * e + k)) k := by
    intro k
    induction k with
    | zero =>
      intro _
      refine ⟨e + 1, Nat.le_refl _, by omega, fun k' _ h2 h3 => (hu k' h2 h3).1, ?_⟩
      show 0 + lc rs (e + 1) ≤ lc rs (e + 1) + 0
      omega
    | succ k ih =>
      intro hk
      obtain ⟨z, z1, z2, z3, z4⟩ := ih (by omega)
      by_cases q : rs.2.2.1 49 (3 * e + k) = -1
      · obtain ⟨q1, q2, q3⟩ := hu k (by omega) q
        have e1 : lvk rs e u v k = lc rs (v k) - lc rs (u k) := if_pos q
        have e2 : lfi rs (3 * e + k) = 0 := if_pos q
        have m1 := lc_mono (rs := rs) (z3 k (Nat.le_refl _) (by omega) q)
        have m2 := lc_mono (rs := rs) q2
        refine ⟨v k, by omega, q3, fun k' h1 h2 _ => huv k k' (by omega) h2, ?_⟩
        show sumN (lvk rs e u v) k + lvk rs e u v k + lc rs (e + 1) ≤ lc rs (v k) + (sumN (fun k => lfi rs (3 * e + k)) k + lfi rs (3 * e + k))
        omega
      · have e1 : lvk rs e u v k = 1 := if_neg q
        have e2 : lfi rs (3 * e + k) = 1 := if_neg q
        refine ⟨z, z1, z2, fun k' h1 => z3 k' (by omega), ?_⟩
        show sumN (lvk rs e u v) k + lvk rs e u v k + lc rs (e + 1) ≤ lc rs z + (sumN (fun k => lfi rs (3 * e + k)) k + lfi rs (3 * e + k))
        omega
  obtain ⟨z, z1, z2, -, z4⟩ := key ns (Nat.le_refl _)
  have o := own_lc h37 n3
  have m := lc_mono (rs := rs) z2
  omega
theorem qry_lv {rs : RS} {wb ek : Nat → Nat} : ∀ m, (∀ k, k < m → wb k ≤ ek k ∧ ek k < wb (k + 1)) → sumN (fun k => lc rs (wb (k + 1)) - lc rs (ek k)) m + lc rs (wb 0) ≤ lc rs (wb m)
  | 0, _ => by
    show 0 + lc rs (wb 0) ≤ lc rs (wb 0)
    omega
  | m + 1, h => by
    have ih := qry_lv (rs := rs) (wb := wb) (ek := ek) m (fun k hk => h k (by omega))
    obtain ⟨h1, h2⟩ := h m (by omega)
    have m1 := lc_mono (rs := rs) h1
    have m2 := lc_mono (rs := rs) (Nat.le_of_lt h2)
    show sumN (fun k => lc rs (wb (k + 1)) - lc rs (ek k)) m + (lc rs (wb (m + 1)) - lc rs (ek m)) + lc rs (wb 0) ≤ lc rs (wb (m + 1))
    omega
/-- a QUERY has a leaf -/
theorem QXX.lv {V : VT} {c s : Nat} {cs : CS} {rs : RS} : ∀ (d Su Sl Ql lo hi oq q : Nat), QXX V c s cs rs d Su Sl Ql lo hi oq q → Sl < Su ∧ lc rs Sl + 1 ≤ lc rs Su := by
  intro d
  induction d with
  | zero => exact fun _ _ _ _ _ _ _ h => h.elim
  | succ d ih =>
    intro Su Sl Ql lo hi oq q h
    have w : QRYX (QXX V c s cs rs d) XJ V c s Sl Su Ql lo hi oq q cs rs := h
    obtain ⟨L, m, lb, ub, wb, l1, l4, l5, l6, l7, l8, l9, l10, l11, ⟨lw1, lw2, lw3⟩, l14, l15⟩ := w.ls
    obtain ⟨so, e, s1, s2, s3, s4, ⟨it, gr, mi, ns, mg, o, ap, m1, n1, -⟩, s6⟩ := l14 0 (by omega)
    have mo := mono_b lw2 (m - 1) 1 (by omega)
    rw [show 1 + (m - 1) = m by omega] at mo
    rw [Nat.zero_add] at s4
    obtain ⟨b, u, v, b0, bm, bh, uv, vu, sr⟩ := o.so
    obtain ⟨oo, q1, q2⟩ := sr 0 (by omega)
    have eu := (uv 0 (by omega)).1
    have k1 := lc_mono (rs := rs) (show Sl ≤ e by omega)
    refine ⟨by omega, ?_⟩
    rcases q2.b.kd with ⟨dd, d1, d2, d3, -⟩ | ⟨-, d2, -, -, oi, qi, lo', d5, d6, d7, d8, d9⟩
    · have o1 := own_lc o.rn o.n3
      have o2 := sumN_ge (g := fun k => lfi rs (3 * e + k)) (k := 0) ns (by omega)
      have o3 : lfi rs (3 * e + 0) = 1 := if_neg (by rw [d3]; exact nI_nm1 (by omega))
      have k2 := lc_mono (rs := rs) (show e + 1 ≤ Su by omega)
      have o4 : lfi rs (3 * e + 0) ≤ sumN (fun k => lfi rs (3 * e + k)) ns := o2
      omega
    · obtain ⟨j0, j1⟩ := d9
      rw [Nat.zero_add] at j0
      obtain ⟨j2, j3⟩ := ih _ _ _ _ _ _ _ j1
      have k2 := lc_mono (rs := rs) (show e ≤ u 0 by omega)
      have k3 := lc_mono (rs := rs) (show v 0 ≤ Su by omega)
      omega

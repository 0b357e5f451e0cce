/-! what a tree tells the checker, the class alone -/
theorem CW.e {V : VT} {c y : Nat} {cs : CS} (h : CW c cs y = (V y).1) : kA cs 65 c y = vk V y ∧ kA cs 67 c y = vf V y ∧ kA cs 68 c y = vp V y ∧ kA cs 71 c y = vs V y := by
  unfold CW at h
  unfold vk vf vp vs
  rw [← h]
  exact ⟨rfl, rfl, rfl, rfl⟩
theorem TR.vf' {V : VT} {d R a e : Nat} (h : TR V d R a e) : a ≤ e ∧ vf V e = nI a := by
  cases d with
  | zero => exact h.elim
  | succ d => exact ⟨h.1, h.2.1⟩
theorem ACF.of {V : VT} {c d a r y : Nat} {cs : CS} (tr : TR V d r a r) (y1 : a ≤ y) (y2 : y ≤ r) (cw : ∀ z, z ≤ r → CW c cs z = (V z).1) : ACF c cs y := by
  obtain ⟨b, R', b1, b2, b3, tb⟩ := TR.sube d r a r tr y1 y2
  have cy := CW.e (cw y y2)
  have cf : ∀ z, z ≤ r → kA cs 67 c z = vf V z := fun z hz => (CW.e (cw z hz)).2.1
  unfold ACF
  rw [cy.1, cy.2.2.1]
  cases d with
  | zero => exact tb.elim
  | succ d =>
    obtain ⟨k1, k2, k3, k4⟩ := tb
    rcases k4 with ⟨q1, q2, q3⟩ | ⟨q1, q2, q3, q4⟩ | ⟨g, q1, q2, q3, q4, q5, q6, q7⟩ | ⟨g, kk, q1, q2, q3, q4, q5, q6, q7, q8, q9, q10, q11, q12⟩ | ⟨m, g, r', q1, q2, q3, q4, q5, q6, q7, q8, q9, q10⟩ | ⟨q1, q2, q3, q4, q5, q6⟩
    · rcases q3 with ⟨w, -⟩ | ⟨w, -⟩ | ⟨w, -⟩ | ⟨w, -⟩ | ⟨w, -⟩ | ⟨w, -⟩ <;> (rw [w]; exact ⟨fun z => absurd z (by decide), fun z => absurd z (by decide), fun z => absurd z (by decide)⟩)
    · obtain ⟨p1, un⟩ := q2
      obtain ⟨f1, f2⟩ := TR.vf' q4
      rcases un with ⟨w, -⟩ | ⟨w, -⟩ | ⟨w, -⟩ | ⟨w, -⟩
      · rw [w, p1]
        exact ⟨fun _ => ⟨by omega, rfl, b, by rw [cf _ (by omega)]; exact f2, f1⟩, fun z => absurd z (by decide), fun z => absurd z (by decide)⟩
      · rw [w]
        exact ⟨fun z => absurd z (by decide), fun z => absurd z (by decide), fun z => absurd z (by decide)⟩
      · rw [w]
        exact ⟨fun z => absurd z (by decide), fun z => absurd z (by decide), fun z => absurd z (by decide)⟩
      · rw [w]
        exact ⟨fun z => absurd z (by decide), fun z => absurd z (by decide), fun z => absurd z (by decide)⟩
    · obtain ⟨p1, bi⟩ := q3
      obtain ⟨f1, f2⟩ := TR.vf' q6
      obtain ⟨f3, f4⟩ := TR.vf' q7
      have yes : vp V y = 2 ∧ ∃ g a, 1 ≤ g ∧ g < y ∧ kA cs 67 c (y - 1) = nI g ∧ kA cs 67 c (g - 1) = nI a ∧ a ≤ g - 1 := ⟨p1, g, b, by omega, q2, by rw [cf _ (by omega)]; exact f4, by rw [cf _ (by omega)]; exact f2, f1⟩
      refine ⟨fun z => ?_, fun _ => yes, fun z => ?_⟩
      · exfalso
        rcases bi with ⟨w, -⟩ | ⟨w, -⟩ | ⟨w, -⟩ | ⟨w, -⟩ | ⟨w, -⟩ | ⟨w, -⟩ | ⟨w, -⟩ | ⟨w, -⟩ | ⟨κ, u1, u2, w, -⟩
        · rw [w] at z; exact absurd z (by decide)
        · rw [w] at z; exact absurd z (by decide)
        · rw [w] at z; exact absurd z (by decide)
        · rw [w] at z; exact absurd z (by decide)
        · rw [w] at z; exact absurd z (by decide)
        · rw [w] at z; exact absurd z (by decide)
        · rw [w] at z; exact absurd z (by decide)
        · rw [w] at z; exact absurd z (by decide)
        · rw [w] at z
          have := (nI_eq (a := κ) (b := 25) (by omega) (by decide)).mp z
          omega
      · exfalso
        rcases bi with ⟨w, -⟩ | ⟨w, -⟩ | ⟨w, -⟩ | ⟨w, -⟩ | ⟨w, -⟩ | ⟨w, -⟩ | ⟨w, -⟩ | ⟨w, -⟩ | ⟨κ, u1, u2, w, -⟩
        · rw [w] at z; exact absurd z (by decide)
        · rw [w] at z; exact absurd z (by decide)
        · rw [w] at z; exact absurd z (by decide)
        · rw [w] at z; exact absurd z (by decide)
        · rw [w] at z; exact absurd z (by decide)
        · rw [w] at z; exact absurd z (by decide)
        · rw [w] at z; exact absurd z (by decide)
        · rw [w] at z; exact absurd z (by decide)
        · rw [w] at z
          have := (nI_eq (a := κ) (b := 19) (by omega) (by decide)).mp z
          omega
    · obtain ⟨f1, f2⟩ := TR.vf' q11
      obtain ⟨f3, f4⟩ := TR.vf' q12
      rw [q5]
      exact ⟨fun z => absurd z (by decide), fun z => absurd z (by decide), fun _ => ⟨g, kk, by omega, q2, q3, by rw [cf _ (by omega)]; exact f4, by rw [cf _ (by omega)]; exact f2⟩⟩
    · obtain ⟨-, nn⟩ := q6
      rcases nn with ⟨w, -⟩ | ⟨w, -⟩ <;> (rw [w]; exact ⟨fun z => absurd z (by decide), fun z => absurd z (by decide), fun z => absurd z (by decide)⟩)
    · obtain ⟨-, ak⟩ := q2
      rcases ak with ⟨w, -⟩ | ⟨w, -⟩ | ⟨w, -⟩ | ⟨w, -⟩ <;> (rw [w]; exact ⟨fun z => absurd z (by decide), fun z => absurd z (by decide), fun z => absurd z (by decide)⟩)
theorem TR.ag6 {V : VT} {d R a e : Nat} (h : TR V d R a e) (k : AGC (vk V e)) : (∀ x, a ≤ x → x < e → ¬ AGC (vk V x)) ∧ (a < e → vs V a = nI e ∧ ∃ d', TR V d' (e - 1) a (e - 1)) := by
  cases d with
  | zero => exact h.elim
  | succ d =>
    obtain ⟨k1, k2, k3, k4⟩ := h
    have bad : ∀ w : Int32, vk V e = w → ¬ AGC w → False := fun w e1 e2 => e2 (e1 ▸ k)
    rcases k4 with ⟨q1, q2, q3⟩ | ⟨q1, q2, q3, q4⟩ | ⟨g, q1, q2, q3, q4, q5, q6, q7⟩ | ⟨g, kk, q1, q2, q3, q4, q5, q6, q7, q8, q9, q10, q11, q12⟩ | ⟨m, g, r', q1, q2, q3, q4, q5, q6, q7, q8, q9, q10⟩ | ⟨q1, q2, q3, q4, q5, q6⟩
    · exact ⟨fun x x1 x2 => absurd x1 (by omega), fun w => absurd w (by omega)⟩
    · obtain ⟨-, un⟩ := q2
      exfalso
      rcases un with ⟨w, -⟩ | ⟨w, -⟩ | ⟨w, -⟩ | ⟨w, -⟩ <;> exact bad _ w (by unfold AGC; decide)
    · obtain ⟨-, bi⟩ := q3
      exfalso
      rcases bi with ⟨w, -⟩ | ⟨w, -⟩ | ⟨w, -⟩ | ⟨w, -⟩ | ⟨w, -⟩ | ⟨w, -⟩ | ⟨w, -⟩ | ⟨w, -⟩ | ⟨κ, u1, u2, w, -⟩
      · exact bad _ w (by unfold AGC; decide)
      · exact bad _ w (by unfold AGC; decide)
      · exact bad _ w (by unfold AGC; decide)
      · exact bad _ w (by unfold AGC; decide)
      · exact bad _ w (by unfold AGC; decide)
      · exact bad _ w (by unfold AGC; decide)
      · exact bad _ w (by unfold AGC; decide)
      · exact bad _ w (by unfold AGC; decide)
      · rw [w] at k
        have ne : ∀ j, j < 100 → κ ≠ j → nI κ ≠ nI j := fun j hj hn e1 => hn ((nI_eq (by omega) (by omega)).mp e1)
        rcases k with k | k | k | k | k
        · exact ne 32 (by omega) (by omega) k
        · exact ne 33 (by omega) (by omega) k
        · exact ne 34 (by omega) (by omega) k
        · exact ne 35 (by omega) (by omega) k
        · exact ne 61 (by omega) (by omega) k
    · exact (bad _ q5 (by unfold AGC; decide)).elim
    · obtain ⟨-, nn⟩ := q6
      exfalso
      rcases nn with ⟨w, -⟩ | ⟨w, -⟩ <;> exact bad _ w (by unfold AGC; decide)
    · exact ⟨q6, fun _ => ⟨q4, d, q5⟩⟩
/-! inside and outside of aggregates -/
theorem agv_of {v : Nat → Int32} {r a : Nat} : ∀ (n : Nat), agv v r a n = -1 ∨ ∃ x, a ≤ x ∧ x < a + n ∧ agv v r a n = v x ∧ ¬ v x ≤ nI x ∧ ¬ nI r < v x
  | 0 => Or.inl rfl
  | n + 1 => by
    have ih := agv_of (v := v) (r := r) (a := a) n
    show (if v (a + n) ≤ nI (a + n) then agv v r a n else if nI r < v (a + n) then agv v r a n else v (a + n)) = -1 ∨ ∃ x, a ≤ x ∧ x < a + (n + 1) ∧ (if v (a + n) ≤ nI (a + n) then agv v r a n else if nI r < v (a + n) then agv v r a n else v (a + n)) = v x ∧ ¬ v x ≤ nI x ∧ ¬ nI r < v x
    by_cases w1 : v (a + n) ≤ nI (a + n)
    · rw [if_pos w1]
      exact ih.imp id (fun ⟨x, x1, x2, x3⟩ => ⟨x, x1, by omega, x3⟩)
    · rw [if_neg w1]
      by_cases w2 : nI r < v (a + n)
      · rw [if_pos w2]
        exact ih.imp id (fun ⟨x, x1, x2, x3⟩ => ⟨x, x1, by omega, x3⟩)
      · rw [if_neg w2]
        exact Or.inr ⟨a + n, by omega, by omega, rfl, w1, w2⟩
/-- outside of aggregates -/
theorem agv_out {V : VT} {s r a y : Nat} (sk : SKV V s) (hs : s ≤ 120) (hr : r < s) (ya : a ≤ y) (hy : y ≤ r) (o : OUA V r y) : ¬ nI y < agv (vs V) r a (y + 1 - a) := fun w => by
  rcases agv_of (v := vs V) (r := r) (a := a) (y + 1 - a) with e | ⟨x, x1, x2, x3, x4, x5⟩
  · rw [e] at w
    exact absurd (Int32.lt_trans w (by decide : (-1 : Int32) < 0)) (nI_pos (by omega))
  · rw [x3] at w
    rcases sk x (by omega) with z | ⟨q, q1, q2, q3, q4, q5⟩
    · rw [z] at x4
      exact x4 (Int32.le_of_lt (Int32.lt_of_lt_of_le (by decide : (-1 : Int32) < 0) (nI_le (a := 0) (b := x) (by omega) (by omega))))
    · rw [q3] at w x5
      have yq := (nI_ltI (a := y) (b := q) (by omega) (by omega)).mp w
      have qr : q ≤ r := by
        by_cases z : r < q
        · exact absurd (nI_lt z (by omega)) x5
        · omega
      have := o q x yq qr q5 q4 (by omega)
      omega
/-- the last skip that was met -/
theorem agv_last {v : Nat → Int32} {r a x : Nat} (xa : a ≤ x) (x1 : ¬ v x ≤ nI x) (x2 : ¬ nI r < v x) : ∀ (n : Nat), x < a + n → (∀ z, x < z → z < a + n → v z ≤ nI z ∨ nI r < v z) → agv v r a n = v x
  | 0, h, _ => absurd h (by omega)
  | n + 1, h, g => by
    show (if v (a + n) ≤ nI (a + n) then agv v r a n else if nI r < v (a + n) then agv v r a n else v (a + n)) = v x
    by_cases e : x = a + n
    · rw [← e, if_neg x1, if_neg x2]
    · have ih := agv_last (v := v) (r := r) xa x1 x2 n (by omega) (fun z z1 z2 => g z z1 (by omega))
      rcases g (a + n) (by omega) (by omega) with w | w
      · rw [if_pos w]
        exact ih
      · by_cases w1 : v (a + n) ≤ nI (a + n)
        · rw [if_pos w1]
          exact ih
        · rw [if_neg w1, if_pos w]
          exact ih
/-- inside of one -/
theorem agv_in {V : VT} {d s r a y q fq : Nat} (sk : SKV V s) (hs : s ≤ 120) (hr : r < s) (tr : TR V d r a r) (qa : a ≤ q) (qr : q ≤ r) (ag : AGC (vk V q)) (fe : vf V q = nI fq) (f1 : fq ≤ y) (f2 : y < q) (hv : vs V fq = nI q) : nI y < agv (vs V) r a (y + 1 - a) := by
  obtain ⟨b, R', b1, b2, b3, tb⟩ := TR.sube d r a r tr qa qr
  have eb : b = fq := (nI_eq (by omega) (by omega)).mp (b3.symm.trans fe)
  have no : ∀ p fp, a ≤ p → p ≤ r → AGC (vk V p) → vf V p = nI fp → ∀ x, fp ≤ x → x < p → ¬ AGC (vk V x) := fun p fp p1 p2 p3 p4 x x1 x2 => by
    obtain ⟨b', R2, c1, c2, c3, tp⟩ := TR.sube d r a r tr p1 p2
    have eb' : b' = fp := (nI_eq (by omega) (by omega)).mp (c3.symm.trans p4)
    exact (TR.ag6 tp p3).1 x (by omega) x2
  have last : agv (vs V) r a (y + 1 - a) = vs V fq := by
    refine agv_last (by omega) ?_ ?_ (y + 1 - a) (by omega) (fun z z1 z2 => ?_)
    · rw [hv]
      exact fun w => absurd (Int32.not_lt.mpr w) (fun h => h (nI_lt (by omega) (by omega)))
    · rw [hv]
      exact nI_nlt (a := r) (b := q) (by omega) (by omega)
    · rcases sk z (by omega) with e | ⟨p, p1, p2, p3, p4, p5⟩
      · rw [e]
        exact Or.inl (Int32.le_of_lt (Int32.lt_of_lt_of_le (by decide : (-1 : Int32) < 0) (nI_le (a := 0) (b := z) (by omega) (by omega))))
      · rw [p3]
        by_cases w : r < p
        · exact Or.inr (nI_lt w (by omega))
        · exfalso
          by_cases w1 : p = q
          · rw [w1, fe] at p4
            have := (nI_eq (a := fq) (b := z) (by omega) (by omega)).mp p4
            omega
          · by_cases w2 : p < q
            · exact no q fq qa qr ag fe p (by omega) w2 p5
            · exact no p z (by omega) (by omega) p5 p4 q (by omega) (by omega) ag
  rw [last, hv]
  exact nI_lt f2 (by omega)

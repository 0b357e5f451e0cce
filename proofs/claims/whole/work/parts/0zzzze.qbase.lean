/-! a QUERY's start in both, and its first SELECT laid -/
def inQ (Q : Nat) (rs : RS) : RS := setI (setI (setI (setI (setF rs 59 (nI (Q + 1))) 60 Q 0) 64 Q 0) 68 Q (-1)) 65 Q (-1)
theorem inQ_n {Q k j : Nat} {rs : RS} (h : ¬ (j = Q ∧ (k = 60 ∨ k = 64 ∨ k = 65 ∨ k = 68))) : (inQ Q rs).2.2.1 k j = rs.2.2.1 k j := by
  unfold inQ
  rw [sIa_n (by omega), sIa_n (by omega), sIa_n (by omega), sIa_n (by omega)]
  rfl
theorem bqry_1 {F Q : Nat} {T : TG_queryOf} {rs : RS} (h59 : rs.1 59 = nI Q) (hQ : Q < 60) : b_queryOf F T rs = m_queryOf_L50 F T F (inQ Q rs) (nI Q) 1 0 0 := by
  unfold b_queryOf
  rw [h59, nI_1, wrI_n hQ (by decide), ob_s, wrI_n hQ (by decide), ob_s, wrI_n hQ (by decide), ob_s, wrI_n hQ (by decide), ob_s]
  rfl
theorem q_start {n : Nat} {f : Nat → Int32} {M t c cap : Nat} {i z s lf S Q : Nat} {cs : CS} {rs : RS} (b : BG n f M t c cap i z s lf S Q cs rs) (sm : SM t lf S cs rs) : BG n f M t c cap i z s lf S (Q + 1) (nO cs 4 6) (inQ Q rs) ∧ PD t c (kK cs) S Q s lf cs rs (nO cs 4 6) (inQ Q rs) ∧ SM t lf S (nO cs 4 6) (inQ Q rs) := by
  have t0 := b.t0
  have c0 := b.c0
  have t37 := b.t37
  have gw : GW (kK cs) cs (nO cs 4 6) := GW.nO (Nat.le_refl _)
  have ra : ∀ k j, ¬ (j = Q ∧ (k = 60 ∨ k = 64 ∨ k = 65 ∨ k = 68)) → (inQ Q rs).2.2.1 k j = rs.2.2.1 k j := fun k j h => inQ_n h
  have rf : ∀ k, k ≠ 59 → (inQ Q rs).1 k = rs.1 k := fun k h => pk_un h
  have f59 : (inQ Q rs).1 59 = nI (Q + 1) := by
    show upd rs.1 59 (nI (Q + 1)) 59 = _
    rw [pk_us]
  have rw0 : (inQ Q rs).2.1 = rs.2.1 := rfl
  have rl : (inQ Q rs).2.2.2 = rs.2.2.2 := rfl
  obtain ⟨r', hr'⟩ : ∃ x, x = inQ Q rs := ⟨_, rfl⟩
  rw [← hr'] at ra rf f59 rw0 rl ⊢
  have r33 : ∀ k, k ≤ 33 → r'.2.2.1 k = rs.2.2.1 k ∧ r'.2.2.2 k = rs.2.2.2 k := fun k hk => ⟨funext (fun j => ra k j (by omega)), by rw [rl]⟩
  have ca : ∀ x j, j < kK cs → AT cs (nO cs 4 6) x j := gw.2.2
  have b' : BG n f M t c cap i z s lf S (Q + 1) (nO cs 4 6) r' := b.mv gw.1 (nO_kb b.kb) (fun x j hj => ca x j (by omega)) (fun x _ _ _ _ => ca x t t0) (fun x _ _ => ca x c c0) (fun k _ h _ _ => rf k h) r33 (by rw [rf 34 (by decide)]; exact b.rS) f59
  have vw : VW c (nO cs 4 6) r' = VW c cs rs := VW.eq (fun x _ _ => ca x c c0) r33
  have pd : PD t c (kK cs) S Q s lf cs rs (nO cs 4 6) r' := by
    refine ⟨gw.1, gw.2.1, fun x j a1 _ _ => ca x j a1, fun x _ => ca x t t0, fun x _ => congrFun vw x, ⟨(ca 352 9 (by omega)).a, (ca 353 9 (by omega)).a, (ca 354 9 (by omega)).b, (r33 14 (by decide)).1, (r33 15 (by decide)).1, (r33 16 (by decide)).1, (r33 17 (by decide)).2, (r33 2 (by decide)).1⟩, ⟨⟨Or.inr rw0, fun k hk => ?_⟩, fun k j a1 a2 a3 => ra k j (fun w => ?_), fun j _ => by rw [rl]⟩, fun k _ => by rw [(ca 326 t t0).q]⟩
    · unfold pR' at hk
      exact ⟨rf k (by omega), funext (fun j => ra k j (by omega)), by rw [rl]⟩
    · unfold wd at a3
      rw [if_neg (by omega), if_neg (by omega), if_neg (by omega), if_neg (by omega), if_neg (by omega)] at a3
      omega
  exact ⟨b', pd, sm.keep b.kb (Nat.le_refl _) pd⟩
theorem QG.base {n : Nat} {f : Nat → Int32} {M t c cap : Nat} {d i z s lf S Q i2 s2 lf2 S2 Q2 : Nat} {cs c2 c3 : CS} {rs r2 : RS} (b : BG n f M t c cap i z s lf S Q cs rs) (p0 : S ≤ 13 * lf + z) (qs : Q ≤ S) (pd1 : PD t c (kK cs) S Q s lf cs rs (nO cs 4 6) (inQ Q rs)) (b2 : BG n f M t c cap i2 z s2 lf2 S2 Q2 c2 r2) (pd2 : PD t c (kK cs + 1) S (Q + 1) s lf (nO cs 4 6) (inQ Q rs) c2 r2) (se : SEL (QR X0 n f M c s2 S2 Q2 c2 r2 d) X0 n f M c s2 (kK cs + 1) (kK c2) (Q + 1) (kK cs + 1) S c2 r2) (sm2 : SM t lf2 S2 c2 r2) (r3 : kR c2 330 t = kR cs 330 t) (r7 : r2.1 71 = rs.1 71) (ix : S < S2 ∧ Q + 1 ≤ Q2 ∧ s ≤ s2 ∧ lf < lf2) (kr : kK c2 + 40 * S + 40 * lf + 20 ≤ kK cs + 1 + 40 * S2 + 40 * lf2) (mr : kM c2 + 400 * S + 400 * lf + 200 ≤ kM cs + 6 + 400 * S2 + 400 * lf2) (ct : S2 + z + 13 * lf ≤ S + 13 * lf2) (qs2 : Q2 ≤ S2) (kb3 : KB c3) (em3 : EM c2 c3) (k3 : kK c3 = kK c2 + 2) (m3 : kM c3 = kM c2 + 13) (e0 : (0, kK c2) ∈ kE c3) (e33 : (33, kK c2) ∈ kE c3) (v128 : kR c3 128 (kK cs) = some (kK c2)) (v129 : kR c3 129 (kK cs) = kR c2 194 (kK cs + 1)) (v2 : kI c3 2 (kK c2) = 1) (vP : kP c3 1 (kK c2) = some (kK c2 + 1)) (vL : kL c3 1 (kK c2) = 10) (vQ : kQ c3 1 (kK c2) = va_up (fun _ => none) 0 (some (kK cs + 1))) (a3 : ∀ x i, ¬ (i = kK c2 ∧ x ≤ 2) → ¬ (i = kK cs ∧ (x = 128 ∨ x = 129)) → AT c2 c3 x i) : QG n f M t c cap d z S Q s lf cs rs 1 i2 s2 lf2 S2 Q2 c3 (setI (setI (setI (setI r2 61 (5 * Q + 0) (nI S)) 62 (5 * Q + 0) 0) 63 (5 * Q + 0) 0) 60 Q (nI (0 + 1))) := by
  have t0 := b.t0
  have c0 := b.c0
  have t37 := b.t37
  have c37 := b.c37
  have l3 := b.l3
  have z2 := b.z2
  have s22 := b2.s2
  obtain ⟨x1, x2, x3, x4⟩ := ix
  have kk2 := pd2.kk
  have kn : kK (nO cs 4 6) = kK cs + 1 := rfl
  have n4 : (4, kK cs) ∈ kE (nO cs 4 6) := nO_new
  have n130 : kR (nO cs 4 6) 130 (kK cs) = none := (nO_z (by decide)).2.2.1
  have wi : (inQ Q rs).2.2.1 65 Q = -1 ∧ (inQ Q rs).2.2.1 64 Q = 0 ∧ (inQ Q rs).2.2.1 68 Q = -1 := ⟨pk_us, pk_us, pk_us⟩
  obtain ⟨o, ho⟩ : ∃ x, x = kK cs := ⟨_, rfl⟩
  rw [← ho] at t0 c0 n4 n130 kn pd1 pd2 se kr v128 v129 vQ a3
  have d130 : kR c3 130 o = none := by rw [(a3 130 o (by omega) (by omega)).r, (pd2.a0 130 o (by omega) (by omega) (by omega)).r]; exact n130
  have qI : ∀ k, k = 64 ∨ k = 65 ∨ k = 68 → r2.2.2.1 k Q = (inQ Q rs).2.2.1 k Q := fun k hk => pd2.qf.2.1 k Q (by omega) (by omega) (by unfold wd; rw [if_neg (by omega), if_neg (by omega), if_neg (by omega), if_neg (by omega), if_neg (by omega)]; omega)
  have ra : ∀ k j, ¬ (k = 60 ∧ j = Q) → ¬ (61 ≤ k ∧ k ≤ 63 ∧ j = 5 * Q + 0) → (setI (setI (setI (setI r2 61 (5 * Q + 0) (nI S)) 62 (5 * Q + 0) 0) 63 (5 * Q + 0) 0) 60 Q (nI (0 + 1))).2.2.1 k j = r2.2.2.1 k j := fun k j h1 h2 => (((sIa_n h1).trans (sIa_n (by omega))).trans (sIa_n (by omega))).trans (sIa_n (by omega))
  have r60 : (setI (setI (setI (setI r2 61 (5 * Q + 0) (nI S)) 62 (5 * Q + 0) 0) 63 (5 * Q + 0) 0) 60 Q (nI (0 + 1))).2.2.1 60 Q = nI (0 + 1) := pk_us
  have r61 : (setI (setI (setI (setI r2 61 (5 * Q + 0) (nI S)) 62 (5 * Q + 0) 0) 63 (5 * Q + 0) 0) 60 Q (nI (0 + 1))).2.2.1 61 (5 * Q + 0) = nI S := pk_us
  have rf : (setI (setI (setI (setI r2 61 (5 * Q + 0) (nI S)) 62 (5 * Q + 0) 0) 63 (5 * Q + 0) 0) 60 Q (nI (0 + 1))).1 = r2.1 := rfl
  have rw0 : (setI (setI (setI (setI r2 61 (5 * Q + 0) (nI S)) 62 (5 * Q + 0) 0) 63 (5 * Q + 0) 0) 60 Q (nI (0 + 1))).2.1 = r2.2.1 := rfl
  have rl : (setI (setI (setI (setI r2 61 (5 * Q + 0) (nI S)) 62 (5 * Q + 0) 0) 63 (5 * Q + 0) 0) 60 Q (nI (0 + 1))).2.2.2 = r2.2.2.2 := rfl
  obtain ⟨r', hr'⟩ : ∃ x, x = setI (setI (setI (setI r2 61 (5 * Q + 0) (nI S)) 62 (5 * Q + 0) 0) 63 (5 * Q + 0) 0) 60 Q (nI (0 + 1)) := ⟨_, rfl⟩
  rw [← hr'] at ra r60 r61 rf rw0 rl ⊢
  have r33 : ∀ k, k ≤ 33 → r'.2.2.1 k = r2.2.2.1 k ∧ r'.2.2.2 k = r2.2.2.2 k := fun k hk => ⟨funext (fun j => ra k j (by omega) (by omega)), by rw [rl]⟩
  have ca : ∀ x j, j < kK c2 → ¬ (j = o ∧ (x = 128 ∨ x = 129)) → AT c2 c3 x j := fun x j h1 h2 => a3 x j (by omega) h2
  have vw : VW c c3 r' = VW c c2 r2 := VW.eq (fun x _ _ => ca x c (by omega) (by omega)) r33
  have kp : ∀ x, x < s2 → VW c c3 r' x = VW c c2 r2 x := fun x _ => congrFun vw x
  have tk : TKF c2 r2 c3 r' := ⟨(ca 352 9 (by omega) (by omega)).a, (ca 353 9 (by omega) (by omega)).a, (ca 354 9 (by omega) (by omega)).b, (r33 14 (by decide)).1, (r33 15 (by decide)).1, (r33 16 (by decide)).1, (r33 17 (by decide)).2, (r33 2 (by decide)).1⟩
  have b' : BG n f M t c cap i2 z s2 lf2 S2 Q2 c3 r' := b2.mv em3 kb3 (fun x j hj => ca x j (by omega) (by omega)) (fun x _ _ _ _ => ca x t (by omega) (by omega)) (fun x _ _ => ca x c (by omega) (by omega)) (fun k _ _ _ _ => by rw [rf]) r33 (by rw [rf]; exact b2.rS) (by rw [rf]; exact b2.rQ)
  have pd3 : PD t c o S Q s lf c2 r2 c3 r' := by
    refine ⟨em3, by omega, fun x j a1 _ _ => ca x j (by omega) (by omega), fun x _ => ca x t (by omega) (by omega), fun x _ => congrFun vw x, tk, ⟨⟨Or.inr rw0, fun k hk => ?_⟩, fun k j a1 a2 a3 => ra k j (fun w => ?_) (fun w => ?_), fun j _ => by rw [rl]⟩, fun k _ => by rw [(ca 326 t (by omega) (by omega)).q]⟩
    · unfold pR' at hk
      exact ⟨by rw [rf], funext (fun j => ra k j (by omega) (by omega)), by rw [rl]⟩
    · unfold wd at a3
      rw [if_neg (by omega), if_neg (by omega), if_neg (by omega), if_neg (by omega), if_neg (by omega)] at a3
      omega
    · unfold wd at a3
      rw [if_neg (by omega), if_neg (by omega), if_neg (by omega), if_pos (by omega)] at a3
      omega
  have pdA : PD t c o S Q s lf cs rs c3 r' := pd1.trans ((pd2.le (by omega) (Nat.le_refl _) (by omega) (Nat.le_refl _) (Nat.le_refl _)).trans pd3)
  have se3 : SEL (QB S2 (QR X0 n f M c s2 S2 Q2 c3 r' d)) X0 n f M c s2 (o + 1) (kK c2) (Q + 1) (o + 1) S c3 r' := (se.lo (fun _ _ _ _ _ _ q => (⟨q.cap, q⟩ : QB S2 (QR X0 n f M c s2 S2 Q2 c2 r2 d) _ _ _ _ _ _ _))).kw em3 (fun x j a1 a2 a3 => ca x j a2 (by omega)) kp tk (fun k j hk => ra k j (by omega) (by omega)) (fun k j a1 a2 a3 a4 => ra k j (fun w => by
      unfold wd at a4
      rw [if_neg (by omega), if_neg (by omega), if_neg (by omega), if_neg (by omega), if_neg (by omega)] at a4
      omega) (fun w => by
      unfold wd at a4
      rw [if_neg (by omega), if_neg (by omega), if_neg (by omega), if_pos (by omega)] at a4
      omega)) rl s22
  have sod : o + 1 < kK c2 := by
    obtain ⟨it, gr, mi, ns, mg, w, -⟩ := se
    have := w.od
    omega
  have sm : SM t lf2 S2 c3 r' := by
    refine ⟨fun k hk => ?_, fun w => ?_⟩
    · obtain ⟨o', o1, o2⟩ := sm2.1 k hk
      exact ⟨o', by rw [(ca 326 t (by omega) (by omega)).q]; exact o1, em3 _ o2⟩
    · rw [lsm_eq (cs := c2) lf2 (fun k hk => ?_), rsm_eq (rs := r2) S2 (fun s k hs hk => ?_)]
      · exact sm2.2 w
      · unfold rk1
        rw [ra 37 s (by omega) (by omega), ra 49 (3 * s + k) (by omega) (by omega), ra 51 (3 * s + k) (by omega) (by omega), rl]
      · obtain ⟨o', o1, o2⟩ := sm2.1 k hk
        have := b2.kb _ o2
        unfold lk1
        rw [(ca 326 t (by omega) (by omega)).q, o1]
        show w (kI c3 224 o') (kJ c3 230 o') = w (kI c2 224 o') (kJ c2 230 o')
        rw [(ca 224 o' (by omega) (by omega)).i, (ca 230 o' (by omega) (by omega)).j]
  have vQ0 : kQ c3 1 (kK c2) 0 = some (o + 1) := by rw [vQ]; rfl
  have qy : QRY (QR X0 n f M c s2 S2 Q2 c3 r' d) X0 n f M c s2 S S2 Q Q2 o (kK c3) o Q c3 r' := by
    refine ⟨em3 _ (pd2.em _ n4), ⟨Nat.le_refl _, by omega⟩, ⟨Nat.le_refl _, by omega, by omega⟩, ⟨kK c2, 1, fun _ => o + 1, fun _ => kK c2, fun k => if k = 0 then S else S2, v128, by omega, by omega, e0, e33, ⟨_, vP⟩, vL, v2, r60, by omega, by omega, fun k hk => ⟨Nat.lt_succ_self _, ?_, Or.inl (Nat.le_refl _), fun oc ho => absurd (d130.symm.trans ho) (by intro q; cases q)⟩, fun k hk => absurd hk (by omega), ⟨Nat.le_refl _, fun k hk => ?_, Nat.le_refl _⟩, fun k hk => ?_, ⟨o + 1, vQ0, ?_⟩⟩, Or.inl ⟨d130, by rw [ra 65 Q (by omega) (by omega), qI 65 (by omega)]; exact wi.1, by rw [ra 64 Q (by omega) (by omega), qI 64 (by omega)]; exact wi.2.1, by rw [ra 68 Q (by omega) (by omega), qI 68 (by omega)]; exact wi.2.2⟩⟩
    · show kK c2 ≤ kK c3
      omega
    · have k0 : k = 0 := by omega
      subst k0
      show S ≤ S2
      omega
    · have k0 : k = 0 := by omega
      subst k0
      exact ⟨o + 1, S, vQ0, r61, Nat.le_refl _, x1, se3, fun w => absurd w (by omega)⟩
    · rw [v129, (ca 194 (o + 1) (by omega) (by omega)).r]
  subst ho
  exact ⟨b', pdA, ⟨Nat.le_refl _, qy⟩, sm, by rw [(ca 330 t (by omega) (by omega)).r]; exact r3, by rw [rf]; exact r7, r60, d130, ⟨x1, by omega, qs2, x3, by omega, by omega⟩, ⟨t0, c0, by omega⟩, by omega, by omega, ct, p0⟩

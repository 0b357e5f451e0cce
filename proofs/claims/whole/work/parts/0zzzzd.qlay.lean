/-! one SELECT more of an open QUERY -/
theorem kQ_l {cs : CS} {L x k : Nat} {v w : Int32} {y : Option Nat} : kQ (sQ (sI (sI cs 0 L v) 2 L w) 1 L x y) 1 L k = if k = x then y else kQ cs 1 L k := by
  show u2 (kQ cs) 1 L (va_up (kQ cs 1 L) x y) 1 L k = _
  rw [u2_s]
  rfl
theorem kI_l {cs : CS} {L x : Nat} {v w : Int32} {y : Option Nat} : kI (sQ (sI (sI cs 0 L v) 2 L w) 1 L x y) 2 L = w := u2_s
/-- a SELECT whose words 204 and 205 alone are written -/
theorem SEL.kw {B n : Nat} {f : Nat → Int32} {M c s lo hi ql o e d S Q : Nat} {cs cs' : CS} {rs rs' : RS} (h : SEL (QB B (QR X0 n f M c s S Q cs rs d)) X0 n f M c s lo hi ql o e cs rs) (em : EM cs cs') (ca : ∀ x j, lo ≤ j → j < hi → ¬ (j = o ∧ (x = 204 ∨ x = 205)) → AT cs cs' x j) (kp : ∀ x, x < s → VW c cs' rs' x = VW c cs rs x) (tk : TKF cs rs cs' rs') (ra : ∀ k j, k ≤ 58 → rs'.2.2.1 k j = rs.2.2.1 k j) (rq : ∀ k j, 35 ≤ k → k ≤ 68 → k ≠ 46 → wd (e + 1) ql k ≤ j → rs'.2.2.1 k j = rs.2.2.1 k j) (rl : rs'.2.2.2 = rs.2.2.2) (s2 : s ≤ 120) : SEL (QB B (QR X0 n f M c s S Q cs' rs' d)) X0 n f M c s lo hi ql o e cs' rs' := by
  obtain ⟨it, gr, mi, ns, mg, g, h2, h3, h4, h5⟩ := h
  obtain ⟨d1, d2, d3, d4⟩ := g.od
  have ao : ∀ x, x ≠ 204 → x ≠ 205 → AT cs cs' x o := fun x h1 h2 => ca x o d1 (by omega) (by omega)
  have ag : ∀ x j, o < j → j < hi → AT cs cs' x j := fun x j h1 h2 => ca x j (by omega) h2 (by omega)
  have am : ∀ x, AM o cs x → AM o cs' x := fun x hx => by
    obtain ⟨j, k, m1, m2, m3, m4⟩ := hx
    exact ⟨j, k, m1, by rw [(ao 203 (by decide) (by decide)).i]; exact m2, m3, by rw [(ao 202 (by decide) (by decide)).a]; exact m4⟩
  have fy : ∀ lo' hi', o < lo' → hi' ≤ hi → FY c lo' hi' s cs rs cs' rs' := fun lo' hi' q1 q2 => ⟨em, fun x j a1 a2 _ => ag x j (by omega) (by omega), fun j a1 a2 => (ag 100 j (by omega) (by omega)).ap, kp, tk⟩
  have hX : ∀ x, o < x → x < hi → X0 x cs → X0 x cs' := fun x q1 q2 w => CLM.keep w em (fun y z1 z2 => ag y x q1 q2)
  refine ⟨it, gr, mi, ns, mg, g.upd em (fun x hx => ao x (by omega) (by omega)) (fy (o + 1) hi (by omega) (Nat.le_refl _)) (fun k hk => ra k e (by omega)) (fun k j hk hj => ra k _ (by omega)) (fun k j q1 q2 hj => ra k _ (by omega)) (fun j hj => by rw [rl]) am (Nat.le_refl _) (fun su sl l h' a b' q0 q1 q2 q3 => ⟨q3.1, QR.keep (Nat.le_refl _) s2 (Nat.le_refl _) (Nat.le_refl _) (Nat.le_refl _) (Nat.le_refl _) d su sl _ l h' a b' q3.2 ⟨fy l h' q1 q2, fun k j a1 a2 a3 a4 _ => rq k j a1 a2 a3 (Nat.le_trans (wd_le q0 (Nat.le_refl _)) a4), fun j _ _ => by rw [rl]⟩ (fun x w1 w2 w3 => hX x (by omega) (by omega) w3)⟩) (fun x w1 w2 w3 => hX x w1 w2 w3) ?_ (g.wh.kf (ao 197 (by decide) (by decide)).i (ra 38 e (by omega)) (Nat.le_refl _) kp tk) (g.hv.keep (ao 201 (by decide) (by decide)).i (ra 41 e (by omega)) (Nat.le_refl _) kp tk am) ?_ g.nr3 ((ra 37 e (by omega)).trans g.rn), (h2.kept em (ao 202 (by decide) (by decide)) (ao 203 (by decide) (by decide)) kp tk (fun k hk => ra k e (by omega)) s2 (h2.ac.go (fun x x1 x2 => ⟨x1, AM.back (ao 202 (by decide) (by decide)) (ao 203 (by decide) (by decide)) x2⟩) (fun k _ => by rw [(ag 97 it (by omega) (by omega)).a]) (fun x hx => congrArg (fun v => v.1.2.1) (kp x hx)) (Nat.le_refl _))).hv' (ao 201 (by decide) (by decide)).i, h3, h4, ?_⟩
  · rw [(ao 192 (by decide) (by decide)).i, (ao 193 (by decide) (by decide)).i, ra 35 e (by omega)]
    exact g.ds
  · rw [(ao 198 (by decide) (by decide)).i, (ao 199 (by decide) (by decide)).i, ra 40 e (by omega)]
    exact g.hg
  · rw [(ao 198 (by decide) (by decide)).i]
    exact h5
theorem QG.lay {n : Nat} {f : Nat → Int32} {M t c cap : Nat} {d z S0 Q0 s0 l0 m i s lf S Q : Nat} {cs0 cs : CS} {rs0 rs : RS} {S9 lb' so e : Nat} {a b0 pl : Int32} (g : QG n f M t c cap d z S0 Q0 s0 l0 cs0 rs0 m i s lf S Q cs rs) (q0 : QR X0 n f M c s S Q cs rs (d + 1) S9 S0 Q0 (kK cs0) lb' (kK cs0) Q0) (hlb : lb' ≤ kK cs) (se : SEL (QR X0 n f M c s S Q cs rs d) X0 n f M c s lb' (kK cs) (Q0 + 1) so e cs rs) (he : S9 ≤ e ∧ e < S) (hm : l0 + m + 1 ≤ lf) (hset : SETR a b0) : ∃ L cs', kR (sI (sI cs 204 so a) 205 so pl) 128 (kK cs0) = some L ∧ lAd (sI (sI cs 204 so a) 205 so pl) L so = some cs' ∧ QG n f M t c cap d z S0 Q0 s0 l0 cs0 rs0 (m + 1) i s lf S Q cs' (setI (setI (setI (setI rs 61 (5 * Q0 + m) (nI e)) 62 (5 * Q0 + m) b0) 63 (5 * Q0 + m) pl) 60 Q0 (nI (m + 1))) := by
  obtain ⟨x1, x2, x3, x4, x5, x6⟩ := g.ix
  obtain ⟨y1, y2, y3⟩ := g.kx
  have l3 := g.b.l3
  have s2 := g.b.s2
  have hkr := g.kr
  have hmr := g.mr
  have kk0 := g.pd.kk
  have Y : QRY (QR X0 n f M c s S Q cs rs d) X0 n f M c s S0 S9 Q0 Q (kK cs0) lb' (kK cs0) Q0 cs rs := q0.2
  obtain ⟨L, m', lb, ub, wb, l1, l2, l3', l4, l5, l6, l7, l8, l9, l10, l11, l12, l13, lw, l14, l15⟩ := Y.ls
  have em' : m' = m := (nI_eq (by omega) (by omega)).mp (l9.symm.trans g.r60)
  subst em'
  obtain ⟨j0, hj0⟩ := l6
  have so6 : (6, so) ∈ kE cs ∧ lb' ≤ so ∧ so < kK cs := by
    obtain ⟨it, gr, mi, ns, mg, w, -⟩ := se
    have := w.od
    exact ⟨w.e6, by omega, by omega⟩
  obtain ⟨e6, sl1, sl2⟩ := so6
  have cm : (nI m').toNatClampNeg = m' := nI_clamp (by omega)
  have i2 : kI (sI (sI cs 204 so a) 205 so pl) 2 L = nI m' := ((kI_n (by omega)).trans (kI_n (by omega))).trans l8
  have ca2 : ∀ x j, ¬ (j = so ∧ (x = 204 ∨ x = 205)) → AT cs (sI (sI cs 204 so a) 205 so pl) x j := fun x j h => (AT.sI (by omega)).trans (AT.sI (by omega))
  have v204 : kI (sI (sI cs 204 so a) 205 so pl) 204 so = a := (kI_n (by omega)).trans kI_s
  have v205 : kI (sI (sI cs 204 so a) 205 so pl) 205 so = pl := kI_s
  have E2 : kE (sI (sI cs 204 so a) 205 so pl) = kE cs := rfl
  have q2 : (sI (sI cs 204 so a) 205 so pl).1 = cs.1 := rfl
  obtain ⟨c2, hc2⟩ : ∃ x, x = sI (sI cs 204 so a) 205 so pl := ⟨_, rfl⟩
  rw [← hc2] at i2 ca2 v204 v205 E2 q2 ⊢
  have p1 : kP c2 1 L = some j0 := by rw [(ca2 1 L (by omega)).p]; exact hj0
  have p2 : kL c2 1 L = 10 := by rw [(ca2 1 L (by omega)).l]; exact l7
  have ad : lAd c2 L so = some (sLA c2 L so) := by
    unfold lAd
    rw [p1, ob_s, if_pos ⟨by rw [E2]; exact l4, by rw [E2]; exact l5, by rw [E2]; exact e6, rfl, p2, by rw [i2]; exact nI_pos (by omega), by rw [i2, show (10 : Int32) = nI 10 by decide]; exact nI_lt (by omega) (by decide)⟩]
  refine ⟨L, sLA c2 L so, by rw [(ca2 128 (kK cs0) (by omega)).r]; exact l1, ad, ?_⟩
  have ca3 : ∀ x j, ¬ (j = L ∧ x ≤ 2) → AT c2 (sLA c2 L so) x j := fun x j h => ((AT.sI (by omega)).trans (AT.sI (by omega))).trans (AT.sQ (by omega))
  have w2 : kI (sLA c2 L so) 2 L = nI (m' + 1) := kI_l.trans (by rw [i2, nI_1])
  have wQ : ∀ k, kQ (sLA c2 L so) 1 L k = if k = m' then some so else kQ cs 1 L k := fun k => by
    refine kQ_l.trans ?_
    rw [i2, cm, (ca2 1 L (by omega)).q]
  have w1 : kP (sLA c2 L so) 1 L = some j0 ∧ kL (sLA c2 L so) 1 L = 10 := ⟨p1, p2⟩
  have q3 : (sLA c2 L so).1 = cs.1 := q2
  obtain ⟨c3, hc3⟩ : ∃ x, x = sLA c2 L so := ⟨_, rfl⟩
  rw [← hc3] at ca3 w2 wQ w1 q3 ⊢
  have ca : ∀ x j, ¬ (j = so ∧ (x = 204 ∨ x = 205)) → ¬ (j = L ∧ x ≤ 2) → AT cs c3 x j := fun x j h1 h2 => (ca2 x j h1).trans (ca3 x j h2)
  have t204 : kI c3 204 so = a := by rw [(ca3 204 so (by omega)).i]; exact v204
  have t205 : kI c3 205 so = pl := by rw [(ca3 205 so (by omega)).i]; exact v205
  have em : EM cs c3 := EM.of (congrArg (fun z => z.2.2) q3)
  have kk : kK c3 = kK cs := congrArg (fun z => z.1) q3
  have km : kM c3 = kM cs := congrArg (fun z => z.2.1) q3
  have ra : ∀ k j, ¬ (k = 60 ∧ j = Q0) → ¬ (61 ≤ k ∧ k ≤ 63 ∧ j = 5 * Q0 + m') → (setI (setI (setI (setI rs 61 (5 * Q0 + m') (nI e)) 62 (5 * Q0 + m') b0) 63 (5 * Q0 + m') pl) 60 Q0 (nI (m' + 1))).2.2.1 k j = rs.2.2.1 k j := fun k j h1 h2 => (((sIa_n h1).trans (sIa_n (by omega))).trans (sIa_n (by omega))).trans (sIa_n (by omega))
  have r60 : (setI (setI (setI (setI rs 61 (5 * Q0 + m') (nI e)) 62 (5 * Q0 + m') b0) 63 (5 * Q0 + m') pl) 60 Q0 (nI (m' + 1))).2.2.1 60 Q0 = nI (m' + 1) := pk_us
  have r61 : (setI (setI (setI (setI rs 61 (5 * Q0 + m') (nI e)) 62 (5 * Q0 + m') b0) 63 (5 * Q0 + m') pl) 60 Q0 (nI (m' + 1))).2.2.1 61 (5 * Q0 + m') = nI e := pk_us
  have r62 : (setI (setI (setI (setI rs 61 (5 * Q0 + m') (nI e)) 62 (5 * Q0 + m') b0) 63 (5 * Q0 + m') pl) 60 Q0 (nI (m' + 1))).2.2.1 62 (5 * Q0 + m') = b0 := pk_us
  have r63 : (setI (setI (setI (setI rs 61 (5 * Q0 + m') (nI e)) 62 (5 * Q0 + m') b0) 63 (5 * Q0 + m') pl) 60 Q0 (nI (m' + 1))).2.2.1 63 (5 * Q0 + m') = pl := pk_us
  have rf : (setI (setI (setI (setI rs 61 (5 * Q0 + m') (nI e)) 62 (5 * Q0 + m') b0) 63 (5 * Q0 + m') pl) 60 Q0 (nI (m' + 1))).1 = rs.1 := rfl
  have rw0 : (setI (setI (setI (setI rs 61 (5 * Q0 + m') (nI e)) 62 (5 * Q0 + m') b0) 63 (5 * Q0 + m') pl) 60 Q0 (nI (m' + 1))).2.1 = rs.2.1 := rfl
  have rl : (setI (setI (setI (setI rs 61 (5 * Q0 + m') (nI e)) 62 (5 * Q0 + m') b0) 63 (5 * Q0 + m') pl) 60 Q0 (nI (m' + 1))).2.2.2 = rs.2.2.2 := rfl
  obtain ⟨r3, hr3⟩ : ∃ x, x = setI (setI (setI (setI rs 61 (5 * Q0 + m') (nI e)) 62 (5 * Q0 + m') b0) 63 (5 * Q0 + m') pl) 60 Q0 (nI (m' + 1)) := ⟨_, rfl⟩
  rw [← hr3] at ra r60 r61 r62 r63 rf rw0 rl ⊢
  have r33 : ∀ k, k ≤ 33 → r3.2.2.1 k = rs.2.2.1 k ∧ r3.2.2.2 k = rs.2.2.2 k := fun k hk => ⟨funext (fun j => ra k j (by omega) (by omega)), by rw [rl]⟩
  have vw : VW c c3 r3 = VW c cs rs := VW.eq (fun x _ _ => ca x c (by omega) (by omega)) r33
  have tk : TKF cs rs c3 r3 := ⟨(ca 352 9 (by omega) (by omega)).a, (ca 353 9 (by omega) (by omega)).a, (ca 354 9 (by omega) (by omega)).b, (r33 14 (by decide)).1, (r33 15 (by decide)).1, (r33 16 (by decide)).1, (r33 17 (by decide)).2, (r33 2 (by decide)).1⟩
  have kp : ∀ x, x < s → VW c c3 r3 x = VW c cs rs x := fun x _ => congrFun vw x
  have b' : BG n f M t c cap i z s lf S Q c3 r3 := g.b.mv em (g.b.kb.of q3) (fun x j hj => ca x j (by omega) (by omega)) (fun x _ _ _ _ => ca x t (by omega) (by omega)) (fun x _ _ => ca x c (by omega) (by omega)) (fun k _ _ _ _ => by rw [rf]) r33 (by rw [rf]; exact g.b.rS) (by rw [rf]; exact g.b.rQ)
  have pd : PD t c (kK cs0) S0 Q0 s0 l0 cs rs c3 r3 := by
    refine ⟨em, by omega, fun x j a1 _ _ => ca x j (by omega) (by omega), fun x _ => ca x t (by omega) (by omega), fun x _ => congrFun vw x, tk, ⟨⟨Or.inr rw0, fun k hk => ?_⟩, fun k j a1 a2 a3 => ra k j (fun w => ?_) (fun w => ?_), fun j _ => by rw [rl]⟩, fun k _ => by rw [(ca 326 t (by omega) (by omega)).q]⟩
    · unfold pR' at hk
      exact ⟨by rw [rf], funext (fun j => ra k j (by omega) (by omega)), by rw [rl]⟩
    · unfold wd at a3
      rw [if_neg (by omega), if_neg (by omega), if_neg (by omega), if_neg (by omega), if_neg (by omega)] at a3
      omega
    · unfold wd at a3
      rw [if_neg (by omega), if_neg (by omega), if_neg (by omega), if_pos (by omega)] at a3
      omega
  have rq : ∀ e k j, 35 ≤ k → k ≤ 68 → k ≠ 46 → wd (e + 1) (Q0 + 1) k ≤ j → r3.2.2.1 k j = rs.2.2.1 k j := fun e k j a1 a2 a3 a4 => by
    refine ra k j (fun w => ?_) (fun w => ?_)
    · unfold wd at a4
      rw [if_neg (by omega), if_neg (by omega), if_neg (by omega), if_neg (by omega), if_neg (by omega)] at a4
      omega
    · unfold wd at a4
      rw [if_neg (by omega), if_neg (by omega), if_neg (by omega), if_pos (by omega)] at a4
      omega
  have keepS : ∀ B lo hi o e, ¬ (lo ≤ so ∧ so < hi ∧ so ≠ o) → ¬ (lo ≤ L ∧ L < hi) → SEL (QB B (QR X0 n f M c s S Q cs rs d)) X0 n f M c s lo hi (Q0 + 1) o e cs rs → SEL (QB B (QR X0 n f M c s S Q c3 r3 d)) X0 n f M c s lo hi (Q0 + 1) o e c3 r3 := fun B lo hi o e h1 h2 h3 => h3.kw em (fun x j a1 a2 a3 => ca x j (by omega) (by omega)) kp tk (fun k j hk => ra k j (by omega) (by omega)) (fun k j a1 a2 a3 a4 => rq e k j a1 a2 a3 a4) rl s2
  have sm : SM t lf S c3 r3 := by
    refine ⟨fun k hk => ?_, fun w => ?_⟩
    · obtain ⟨o', o1, o2⟩ := g.sm.1 k hk
      exact ⟨o', by rw [(ca 326 t (by omega) (by omega)).q]; exact o1, em _ o2⟩
    · rw [lsm_eq (cs := cs) lf (fun k hk => ?_), rsm_eq (rs := rs) S (fun s k hs hk => ?_)]
      · exact g.sm.2 w
      · unfold rk1
        rw [ra 37 s (by omega) (by omega), ra 49 (3 * s + k) (by omega) (by omega), ra 51 (3 * s + k) (by omega) (by omega), rl]
      · unfold lk1
        rw [(ca 326 t (by omega) (by omega)).q]
        cases hq : kQ cs 326 t k with
        | none => rfl
        | some o' =>
          show w (kI c3 224 o') (kJ c3 230 o') = w (kI cs 224 o') (kJ cs 230 o')
          rw [(ca 224 o' (by omega) (by omega)).i, (ca 230 o' (by omega) (by omega)).j]
  obtain ⟨B1, hB1, hB2⟩ : ∃ B : Nat → Nat, (∀ k, k < m' → B k = lb k) ∧ B m' = lb' := ⟨fun k => if k < m' then lb k else lb', fun k hk => if_pos hk, if_neg (by omega)⟩
  obtain ⟨U1, hU1, hU2⟩ : ∃ B : Nat → Nat, (∀ k, k < m' → B k = ub k) ∧ B m' = kK cs := ⟨fun k => if k < m' then ub k else kK cs, fun k hk => if_pos hk, if_neg (by omega)⟩
  obtain ⟨lw1, lw2, lw3⟩ := lw
  obtain ⟨W1, hW1, hW2⟩ : ∃ B : Nat → Nat, (∀ k, k ≤ m' → B k = wb k) ∧ B (m' + 1) = S := ⟨fun k => if k ≤ m' then wb k else S, fun k hk => if_pos hk, if_neg (by omega)⟩
  have h130 : kR c3 130 (kK cs0) = none := by
    rw [(ca 130 _ (by omega) (by omega)).r]
    exact g.o13
  have qy : QRY (QR X0 n f M c s S Q c3 r3 d) X0 n f M c s S0 S Q0 Q (kK cs0) (kK c3) (kK cs0) Q0 c3 r3 := by
    refine ⟨em _ Y.e4, ⟨Nat.le_refl _, by omega⟩, Y.qb, ⟨L, m' + 1, B1, U1, W1, by rw [(ca 128 _ (by omega) (by omega)).r]; exact l1, l2, by omega, em _ l4, em _ l5, ⟨j0, w1.1⟩, w1.2, w2, r60, by omega, by omega, fun k hk => ?_, fun k hk => ?_, ⟨by rw [hW1 0 (Nat.zero_le _)]; exact lw1, fun k hk => ?_, by rw [hW2]; exact Nat.le_refl _⟩, fun k hk => ?_, ?_⟩, Or.inl ?_⟩
    · by_cases w : k = m'
      · rw [w, hB2, hU2]
        exact ⟨by omega, by omega, Or.inr (by omega), fun oc ho => absurd (h130.symm.trans ho) (by intro q; cases q)⟩
      · obtain ⟨a1, a2, a3, -⟩ := l12 k (by omega)
        rw [hB1 k (by omega), hU1 k (by omega)]
        exact ⟨a1, by omega, a3, fun oc ho => absurd (h130.symm.trans ho) (by intro q; cases q)⟩
    · by_cases w : k + 1 = m'
      · obtain ⟨a1, a2, a3⟩ := l12 k (by omega)
        rw [w, hB2, hU1 k (by omega)]
        exact a2
      · rw [hB1 (k + 1) (by omega), hU1 k (by omega)]
        exact l13 k (by omega)
    · by_cases w : k = m'
      · rw [w, hW1 m' (Nat.le_refl _), hW2]
        omega
      · rw [hW1 k (by omega), hW1 (k + 1) (by omega)]
        exact lw2 k (by omega)
    · by_cases w : k = m'
      · subst w
        refine ⟨so, e, by rw [wQ, if_pos rfl], r61, by rw [hW1 k (Nat.le_refl _)]; omega, by rw [hW2]; exact he.2, ?_, fun _ => ⟨by rw [t204, r62]; exact hset, by rw [t205, r63]⟩⟩
        rw [hB2, hU2, hW2]
        exact keepS _ _ _ _ _ (by omega) (by omega) (se.lo (fun _ _ _ _ _ _ q => ⟨q.cap, q⟩))
      · obtain ⟨a1, a2, a3⟩ := l12 k (by omega)
        obtain ⟨so', e', k1, k2, k0, k3, k4, k5⟩ := l14 k (by omega)
        have ko : lb k ≤ so' ∧ so' < ub k := by
          obtain ⟨it, gr, mi, ns, mg, s1, -⟩ := k4
          have := s1.od
          omega
        refine ⟨so', e', by rw [wQ, if_neg w]; exact k1, by rw [ra 61 _ (by omega) (by omega)]; exact k2, by rw [hW1 k (by omega)]; exact k0, by rw [hW1 (k + 1) (by omega)]; exact k3, ?_, fun hk0 => ?_⟩
        · rw [hB1 k (by omega), hU1 k (by omega), hW1 (k + 1) (by omega)]
          exact keepS _ _ _ _ _ (by omega) (by omega) k4
        · rw [(ca 204 so' (by omega) (by omega)).i, (ca 205 so' (by omega) (by omega)).i, ra 62 _ (by omega) (by omega), ra 63 _ (by omega) (by omega)]
          exact k5 hk0
    · obtain ⟨so0, s1, s2'⟩ := l15
      exact ⟨so0, by rw [wQ, if_neg (by omega)]; exact s1, by rw [(ca 129 _ (by omega) (by omega)).r, (ca 194 so0 (by omega) (by omega)).r]; exact s2'⟩
    · rcases Y.or' with ⟨z1, z2, z3, z4⟩ | ⟨oc, m2, z1, -⟩
      · exact ⟨by rw [(ca 130 _ (by omega) (by omega)).r]; exact z1, by rw [ra 65 _ (by omega) (by omega)]; exact z2, by rw [ra 64 _ (by omega) (by omega)]; exact z3, by rw [ra 68 _ (by omega) (by omega)]; exact z4⟩
      · exact absurd (g.o13.symm.trans z1) (by intro w; cases w)
  exact ⟨b', g.pd.trans pd, ⟨Nat.le_refl _, qy⟩, sm, by rw [(ca 330 t (by omega) (by omega)).r]; exact g.r3, by rw [rf]; exact g.r7, r60, by rw [(ca 130 _ (by omega) (by omega)).r]; exact g.o13, ⟨x1, x2, x3, x4, by omega, by omega⟩, g.kx, by omega, by omega, g.ct, g.p0⟩

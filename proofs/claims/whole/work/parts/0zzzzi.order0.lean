/-! order by: what it may write, and the QUERY behind it -/
theorem SS.of {n : Nat} {f : Nat → Int32} {M t c cap : Nat} {d z F : Nat} {Ts Tr T T2 T3 T4 T5 : TC_X9_readQuery} {Tq T' : TG_queryOf} (hF : 10000 ≤ F) (hR0 : Ts.2.2.1 = cb_X9_readSources F Tr) (hR : Tr.2.2.2 = cb_X9_readSource F T) (hS : Tq.2.2 = b_source F T') (hQ : z < 12 → QS n f M t c cap d (z + 1) T.1 T'.1) (hT1 : T.1 = cb_X9_readQuery F T2) (hT2 : T2.2.1 = cb_X9_readSelect F T3) (hT3 : T3.2.2.1 = cb_X9_readSources F T4) (hT4 : T4.2.2.2 = cb_X9_readSource F T5) : SS n f M t c cap d z (cb_X9_readSelect F Ts) (b_selectOf F Tq) := fun _ _ _ _ _ _ _ b sm p0 qs => sel_g hF hR0 hR hS hQ hT1 hT2 hT3 hT4 b sm p0 qs
def QY (S Q q : Nat) (rs rs' : RS) : Prop := FR pR' rs rs' ∧ (∀ k j, 35 ≤ k → k ≤ 68 → j < wd S Q k → ¬ (j = q ∧ (k = 64 ∨ k = 65 ∨ k = 68)) → ¬ ((k = 66 ∨ k = 67) ∧ 8 * q ≤ j ∧ j < 8 * q + 8) → rs'.2.2.1 k j = rs.2.2.1 k j) ∧ ∀ j, j < 3 * S → rs'.2.2.2 52 j = rs.2.2.2 52 j
theorem QY.of {S Q q : Nat} {a b : RS} (h : QF S Q a b) : QY S Q q a b := ⟨h.1, fun k j a1 a2 a3 _ _ => h.2.1 k j a1 a2 a3, h.2.2⟩
theorem QY.trans {S Q q : Nat} {a b c : RS} (h : QY S Q q a b) (g : QY S Q q b c) : QY S Q q a c := ⟨h.1.trans g.1, fun k j a1 a2 a3 a4 a5 => (g.2.1 k j a1 a2 a3 a4 a5).trans (h.2.1 k j a1 a2 a3 a4 a5), fun j a1 => (g.2.2 j a1).trans (h.2.2 j a1)⟩
def PO (t c K S Q s l oq q : Nat) (cs : CS) (rs : RS) (cs' : CS) (rs' : RS) : Prop := (EM cs cs') ∧ (kK cs ≤ kK cs') ∧ (∀ x j, j < K → ¬ (x / 32 = 10 ∧ j = t) → ¬ (x / 32 = 2 ∧ j = c) → ¬ (j = oq ∧ (x = 130 ∨ x = 131 ∨ x = 132)) → AT cs cs' x j) ∧ (∀ x, x = 322 ∨ x = 323 ∨ x = 324 ∨ x = 327 → AT cs cs' x t) ∧ (∀ x, x < s → VW c cs' rs' x = VW c cs rs x) ∧ (TKF cs rs cs' rs') ∧ (QY S Q q rs rs') ∧ (∀ k, k < l → kQ cs' 326 t k = kQ cs 326 t k)
theorem PO.em {t c K S Q s l oq q : Nat} {cs : CS} {rs : RS} {cs' : CS} {rs' : RS} (h : PO t c K S Q s l oq q cs rs cs' rs') : EM cs cs' := h.1
theorem PO.kk {t c K S Q s l oq q : Nat} {cs : CS} {rs : RS} {cs' : CS} {rs' : RS} (h : PO t c K S Q s l oq q cs rs cs' rs') : kK cs ≤ kK cs' := h.2.1
theorem PO.a0 {t c K S Q s l oq q : Nat} {cs : CS} {rs : RS} {cs' : CS} {rs' : RS} (h : PO t c K S Q s l oq q cs rs cs' rs') : ∀ x j, j < K → ¬ (x / 32 = 10 ∧ j = t) → ¬ (x / 32 = 2 ∧ j = c) → ¬ (j = oq ∧ (x = 130 ∨ x = 131 ∨ x = 132)) → AT cs cs' x j := h.2.2.1
theorem PO.tt {t c K S Q s l oq q : Nat} {cs : CS} {rs : RS} {cs' : CS} {rs' : RS} (h : PO t c K S Q s l oq q cs rs cs' rs') : ∀ x, x = 322 ∨ x = 323 ∨ x = 324 ∨ x = 327 → AT cs cs' x t := h.2.2.2.1
theorem PO.kp {t c K S Q s l oq q : Nat} {cs : CS} {rs : RS} {cs' : CS} {rs' : RS} (h : PO t c K S Q s l oq q cs rs cs' rs') : ∀ x, x < s → VW c cs' rs' x = VW c cs rs x := h.2.2.2.2.1
theorem PO.tk {t c K S Q s l oq q : Nat} {cs : CS} {rs : RS} {cs' : CS} {rs' : RS} (h : PO t c K S Q s l oq q cs rs cs' rs') : TKF cs rs cs' rs' := h.2.2.2.2.2.1
theorem PO.qy {t c K S Q s l oq q : Nat} {cs : CS} {rs : RS} {cs' : CS} {rs' : RS} (h : PO t c K S Q s l oq q cs rs cs' rs') : QY S Q q rs rs' := h.2.2.2.2.2.2.1
theorem PO.lv {t c K S Q s l oq q : Nat} {cs : CS} {rs : RS} {cs' : CS} {rs' : RS} (h : PO t c K S Q s l oq q cs rs cs' rs') : ∀ k, k < l → kQ cs' 326 t k = kQ cs 326 t k := h.2.2.2.2.2.2.2
theorem PO.of {t c K S Q s l oq q : Nat} {a b : CS} {x y : RS} (h : PD t c K S Q s l a x b y) : PO t c K S Q s l oq q a x b y := ⟨h.em, h.kk, fun k j a1 a2 a3 _ => h.a0 k j a1 a2 a3, h.tt, h.kp, h.tk, QY.of h.qf, h.lv⟩
theorem PO.trans {t c K S Q s l oq q : Nat} {a b d : CS} {x y w : RS} (h : PO t c K S Q s l oq q a x b y) (g : PO t c K S Q s l oq q b y d w) : PO t c K S Q s l oq q a x d w := ⟨h.em.trans g.em, Nat.le_trans h.kk g.kk, fun k j a1 a2 a3 a4 => (h.a0 k j a1 a2 a3 a4).trans (g.a0 k j a1 a2 a3 a4), fun k hk => (h.tt k hk).trans (g.tt k hk), fun k hk => (g.kp k hk).trans (h.kp k hk), h.tk.trans g.tk, h.qy.trans g.qy, fun k hk => (g.lv k hk).trans (h.lv k hk)⟩
theorem PO.pd {t c K S Q s l oq q S0 s0 l0 : Nat} {a b : CS} {x y : RS} (h : PO t c K S Q s l oq q a x b y) (h1 : oq ≤ K) (h3 : S0 ≤ S) (h4 : q ≤ Q) (h5 : s0 ≤ s) (h6 : l0 ≤ l) : PD t c oq S0 q s0 l0 a x b y := ⟨h.em, h.kk, fun k j a1 a2 a3 => h.a0 k j (by omega) a2 a3 (by omega), h.tt, fun k hk => h.kp k (by omega), h.tk, ⟨h.qy.1, fun k j a1 a2 a3 => h.qy.2.1 k j a1 a2 (Nat.lt_of_lt_of_le a3 (wd_le h3 h4)) (fun w => by
      unfold wd at a3
      rw [if_neg (by omega), if_neg (by omega), if_neg (by omega), if_neg (by omega), if_neg (by omega)] at a3
      omega) (fun w => by
      unfold wd at a3
      rw [if_neg (by omega), if_neg (by omega), if_neg (by omega), if_neg (by omega), if_pos (by omega)] at a3
      omega), fun j a1 => h.qy.2.2 j (by omega)⟩, fun k hk => h.lv k (by omega)⟩
/-- a QUERY with its order by is whole -/
theorem QG.ordered {n : Nat} {f : Nat → Int32} {M t c cap : Nat} {d z S0 Q0 s0 l0 m i s lf S Q : Nat} {cs0 cs : CS} {rs0 rs : RS} {i' s' oc mo l : Nat} {cs' : CS} {rs' : RS} (g : QG n f M t c cap d z S0 Q0 s0 l0 cs0 rs0 m i s lf S Q cs rs) (p : PO t c (kK cs) S Q s lf (kK cs0) Q0 cs rs cs' rs') (b : BG n f M t c cap i' z s' lf S Q cs' rs') (sm : SM t lf S cs' rs') (r3 : kR cs' 330 t = kR cs 330 t) (r7 : rs'.1 71 = rs.1 71) (hs : s ≤ s') (kr : kK cs' ≤ kK cs + 6) (mr : kM cs' ≤ kM cs + 60) (hoc : kK cs ≤ oc ∧ oc < kK cs') (o1 : kR cs' 130 (kK cs0) = some oc) (cl : CLM oc mo cs') (m1 : 1 ≤ mo) (r64 : rs'.2.2.1 64 Q0 = nI mo) (r65 : kI cs' 131 (kK cs0) = rs'.2.2.1 65 Q0 ∧ rs'.2.2.1 65 Q0 ≠ -1) (hl : l ≤ 100 ∧ kI cs' 132 (kK cs0) = nI l ∧ rs'.2.2.1 68 Q0 = nI l) (its : ∀ k, k < mo → ∃ r, kA cs' 97 oc k = nI r ∧ rs'.2.2.1 66 (8 * Q0 + k) = nI r ∧ RT n f M c 0 false s' r cs' rs' ∧ kA cs' 99 oc k = rs'.2.2.1 67 (8 * Q0 + k) ∧ (kA cs' 99 oc k = 0 ∨ kA cs' 99 oc k = 1)) : QPO n f M t c cap (d + 1) z S0 Q0 s0 l0 cs0 rs0 (kK cs0) cs' rs' := by
  obtain ⟨x1, x2, x3, x4, x5, x6⟩ := g.ix
  obtain ⟨y1, y2, y3⟩ := g.kx
  have hkr := g.kr
  have hmr := g.mr
  have s2 := b.s2
  have pk := p.kk
  have Y : QRY (QR X0 n f M c s S Q cs rs d) X0 n f M c s S0 S Q0 Q (kK cs0) (kK cs) (kK cs0) Q0 cs rs := g.qr.2
  obtain ⟨L, m', lb, ub, wb, l1, l2, l3, l4, l5, l6, l7, l8, l9, l10, l11, l12, l13, lw, l14, l15⟩ := Y.ls
  have wlo : ∀ k, k < m' → S0 ≤ wb k ∧ wb (k + 1) ≤ S := fun k hk => by
    obtain ⟨lw1, lw2, lw3⟩ := lw
    have m0 := mono_b lw2 k 0 (by omega)
    rw [Nat.zero_add] at m0
    have m1 := mono_b lw2 (m' - (k + 1)) (k + 1) (by omega)
    rw [show k + 1 + (m' - (k + 1)) = m' by omega] at m1
    omega
  have od2 := Y.od.2
  have aL : ∀ x, x ≤ 2 → AT cs cs' x L := fun x hx => p.a0 x L l3 (by omega) (by omega) (by omega)
  have aq : ∀ x, x = 128 ∨ x = 129 → AT cs cs' x (kK cs0) := fun x hx => p.a0 x _ od2 (by omega) (by omega) (by omega)
  have w5 : ∀ k j, 61 ≤ k → k ≤ 63 → j < 5 → rs'.2.2.1 k (5 * Q0 + j) = rs.2.2.1 k (5 * Q0 + j) := fun k j k1 k2 hj => p.qy.2.1 k _ (by omega) (by omega) (by unfold wd; rw [if_neg (by omega), if_neg (by omega), if_neg (by omega), if_pos ⟨k1, k2⟩]; omega) (by omega) (by omega)
  have w60 : rs'.2.2.1 60 Q0 = rs.2.2.1 60 Q0 := p.qy.2.1 60 Q0 (by omega) (by omega) (by unfold wd; rw [if_neg (by omega), if_neg (by omega), if_neg (by omega), if_neg (by omega), if_neg (by omega)]; exact x2) (by omega) (by omega)
  have fz : ∀ lo hi, kK cs0 < lo → hi ≤ kK cs → FZ c lo hi S0 S (Q0 + 1) Q s cs rs cs' rs' := fun lo hi q1 q2 => ⟨⟨p.em, fun x j a1 a2 _ => p.a0 x j (by omega) (by omega) (by omega) (by omega), fun j a1 a2 => (p.a0 100 j (by omega) (by omega) (by omega) (by omega)).ap, p.kp, p.tk⟩, fun k j a1 a2 a3 a4 a5 => p.qy.2.1 k j a1 a2 a5 (fun w => by
      unfold wd at a4
      rw [if_neg (by omega), if_neg (by omega), if_neg (by omega), if_neg (by omega), if_neg (by omega)] at a4
      omega) (fun w => by
      unfold wd at a4
      rw [if_neg (by omega), if_neg (by omega), if_neg (by omega), if_neg (by omega), if_pos (by omega)] at a4
      omega), fun j _ a2 => p.qy.2.2 j a2⟩
  have hX : ∀ x, kK cs0 < x → x < kK cs → X0 x cs → X0 x cs' := fun x q1 q2 w => CLM.keep w p.em (fun y z1 z2 => p.a0 y x q2 (by omega) (by omega) (by omega))
  have qy : QRY (QR X0 n f M c s' S Q cs' rs' d) X0 n f M c s' S0 S Q0 Q (kK cs0) (kK cs') (kK cs0) Q0 cs' rs' := by
    refine ⟨p.em _ Y.e4, ⟨Nat.le_refl _, by omega⟩, Y.qb, ⟨L, m', lb, ub, wb, by rw [(aq 128 (by omega)).r]; exact l1, l2, by omega, p.em _ l4, p.em _ l5, by rw [(aL 1 (by decide)).p]; exact l6, by rw [(aL 1 (by decide)).l]; exact l7, by rw [(aL 2 (by decide)).i]; exact l8, w60.trans l9, l10, l11, fun k hk => ?_, l13, lw, fun k hk => ?_, ?_⟩, Or.inr ⟨oc, mo, o1, by omega, hoc.2, cl, m1, r64, r65.1, r65.2, ⟨l, hl⟩, its⟩⟩
    · obtain ⟨a1, a2, a3, -⟩ := l12 k hk
      exact ⟨a1, by omega, a3, fun oc' ho => by
        have e9 := Option.some.inj (o1.symm.trans ho)
        omega⟩
    · obtain ⟨a1, a2, a3⟩ := l12 k hk
      obtain ⟨so, e, k1, k2, k0, k3, k4, k5⟩ := l14 k hk
      have ko : lb k ≤ so ∧ so < ub k := by
        obtain ⟨it, gr, mi, ns, mg, s1, -⟩ := k4
        have := s1.od
        omega
      have as : ∀ x, AT cs cs' x so ∨ x / 32 = 10 ∨ x / 32 = 2 := fun x => by
        by_cases w1 : x / 32 = 10
        · exact Or.inr (Or.inl w1)
        · by_cases w2 : x / 32 = 2
          · exact Or.inr (Or.inr w2)
          · exact Or.inl (p.a0 x so (by omega) (by omega) (by omega) (by omega))
      have a204 : AT cs cs' 204 so := p.a0 204 so (by omega) (by omega) (by omega) (by omega)
      have a205 : AT cs cs' 205 so := p.a0 205 so (by omega) (by omega) (by omega) (by omega)
      refine ⟨so, e, by rw [(aL 1 (by decide)).q]; exact k1, by rw [w5 61 k (by decide) (by decide) (by omega)]; exact k2, k0, k3, k4.keep (fz _ _ a1 a2) hs s2 ⟨by have := (wlo k hk).1; omega, by have := (wlo k hk).2; omega⟩ (fun su sl l h' a b' q0 q1 q2 q3 => ⟨q3.1, QR.keep hs s2 (Nat.le_refl _) (Nat.le_refl _) (Nat.le_refl _) (Nat.le_refl _) d su sl _ l h' a b' q3.2 ((fz l h' (by omega) (by omega)).sub (Nat.le_refl _) (Nat.le_refl _) (by have := (wlo k hk).1; omega) (Nat.le_refl _)) (fun x u1 u2 u3 => hX x (by omega) (by omega) u3)⟩) (fun x u1 u2 u3 => hX x (by omega) (by omega) u3), fun hk0 => ?_⟩
      rw [a204.i, a205.i, w5 62 k (by decide) (by decide) (by omega), w5 63 k (by decide) (by decide) (by omega)]
      exact k5 hk0
    · obtain ⟨so, s1, s2'⟩ := l15
      obtain ⟨so', e, k1, k2, k0, k3, k4, k5⟩ := l14 0 (by omega)
      obtain ⟨a1, a2, a3⟩ := l12 0 (by omega)
      have ee : so' = so := Option.some.inj (k1.symm.trans s1)
      subst ee
      have ko : lb 0 ≤ so' ∧ so' < ub 0 := by
        obtain ⟨it, gr, mi, ns, mg, s1, -⟩ := k4
        have := s1.od
        omega
      exact ⟨so', by rw [(aL 1 (by decide)).q]; exact s1, by rw [(aq 129 (by omega)).r, (p.a0 194 so' (by omega) (by omega) (by omega) (by omega)).r]; exact s2'⟩
  exact Or.inl ⟨i', s', lf, S, Q, b, g.pd.trans (p.pd (by omega) (by omega) (by omega) x4 (by omega)), ⟨Nat.le_refl _, qy⟩, sm, r3.trans g.r3, r7.trans g.r7, ⟨x1, x2, x3, by omega, by omega⟩, by omega, by omega, g.ct⟩

/-! a SOURCE more of the SELECT e: what it may write -/
def QX (S Q e k0 : Nat) (rs rs' : RS) : Prop := FR pR' rs rs' ∧ (∀ k j, 35 ≤ k → k ≤ 68 → j < wd S Q k → ¬ (49 ≤ k ∧ k ≤ 58 ∧ j = 3 * e + k0) → ¬ (k = 37 ∧ j = e) → rs'.2.2.1 k j = rs.2.2.1 k j) ∧ ∀ j, j < 3 * S → j ≠ 3 * e + k0 → rs'.2.2.2 52 j = rs.2.2.2 52 j
theorem QX.of {S Q e k0 : Nat} {a b : RS} (h : QF S Q a b) : QX S Q e k0 a b := ⟨h.1, fun k j a1 a2 a3 _ _ => h.2.1 k j a1 a2 a3, fun j a1 _ => h.2.2 j a1⟩
theorem QX.trans {S Q e k0 : Nat} {a b c : RS} (h : QX S Q e k0 a b) (g : QX S Q e k0 b c) : QX S Q e k0 a c := ⟨h.1.trans g.1, fun k j a1 a2 a3 a4 a5 => (g.2.1 k j a1 a2 a3 a4 a5).trans (h.2.1 k j a1 a2 a3 a4 a5), fun j a1 a2 => (g.2.2 j a1 a2).trans (h.2.2 j a1 a2)⟩
def PZ (t c K S Q s l e k0 : Nat) (cs : CS) (rs : RS) (cs' : CS) (rs' : RS) : Prop := (EM cs cs') ∧ (kK cs ≤ kK cs') ∧ (∀ x j, j < K → ¬ (x / 32 = 10 ∧ j = t) → ¬ (x / 32 = 2 ∧ j = c) → AT cs cs' x j) ∧ (∀ x, x = 322 ∨ x = 323 ∨ x = 324 ∨ x = 327 → AT cs cs' x t) ∧ (∀ x, x < s → VW c cs' rs' x = VW c cs rs x) ∧ (TKF cs rs cs' rs') ∧ (QX S Q e k0 rs rs') ∧ (∀ k, k < l → kQ cs' 326 t k = kQ cs 326 t k)
theorem PZ.em {t c K S Q s l e k0 : Nat} {cs : CS} {rs : RS} {cs' : CS} {rs' : RS} (h : PZ t c K S Q s l e k0 cs rs cs' rs') : EM cs cs' := h.1
theorem PZ.kk {t c K S Q s l e k0 : Nat} {cs : CS} {rs : RS} {cs' : CS} {rs' : RS} (h : PZ t c K S Q s l e k0 cs rs cs' rs') : kK cs ≤ kK cs' := h.2.1
theorem PZ.a0 {t c K S Q s l e k0 : Nat} {cs : CS} {rs : RS} {cs' : CS} {rs' : RS} (h : PZ t c K S Q s l e k0 cs rs cs' rs') : ∀ x j, j < K → ¬ (x / 32 = 10 ∧ j = t) → ¬ (x / 32 = 2 ∧ j = c) → AT cs cs' x j := h.2.2.1
theorem PZ.tt {t c K S Q s l e k0 : Nat} {cs : CS} {rs : RS} {cs' : CS} {rs' : RS} (h : PZ t c K S Q s l e k0 cs rs cs' rs') : ∀ x, x = 322 ∨ x = 323 ∨ x = 324 ∨ x = 327 → AT cs cs' x t := h.2.2.2.1
theorem PZ.kp {t c K S Q s l e k0 : Nat} {cs : CS} {rs : RS} {cs' : CS} {rs' : RS} (h : PZ t c K S Q s l e k0 cs rs cs' rs') : ∀ x, x < s → VW c cs' rs' x = VW c cs rs x := h.2.2.2.2.1
theorem PZ.tk {t c K S Q s l e k0 : Nat} {cs : CS} {rs : RS} {cs' : CS} {rs' : RS} (h : PZ t c K S Q s l e k0 cs rs cs' rs') : TKF cs rs cs' rs' := h.2.2.2.2.2.1
theorem PZ.qx {t c K S Q s l e k0 : Nat} {cs : CS} {rs : RS} {cs' : CS} {rs' : RS} (h : PZ t c K S Q s l e k0 cs rs cs' rs') : QX S Q e k0 rs rs' := h.2.2.2.2.2.2.1
theorem PZ.lv {t c K S Q s l e k0 : Nat} {cs : CS} {rs : RS} {cs' : CS} {rs' : RS} (h : PZ t c K S Q s l e k0 cs rs cs' rs') : ∀ k, k < l → kQ cs' 326 t k = kQ cs 326 t k := h.2.2.2.2.2.2.2
theorem PZ.of {t c K S Q s l e k0 : Nat} {a b : CS} {x y : RS} (h : PD t c K S Q s l a x b y) : PZ t c K S Q s l e k0 a x b y := ⟨h.em, h.kk, h.a0, h.tt, h.kp, h.tk, QX.of h.qf, h.lv⟩
theorem PZ.trans {t c K S Q s l e k0 : Nat} {a b d : CS} {x y w : RS} (h : PZ t c K S Q s l e k0 a x b y) (g : PZ t c K S Q s l e k0 b y d w) : PZ t c K S Q s l e k0 a x d w := ⟨h.em.trans g.em, Nat.le_trans h.kk g.kk, fun k j a1 a2 a3 => (h.a0 k j a1 a2 a3).trans (g.a0 k j a1 a2 a3), fun k hk => (h.tt k hk).trans (g.tt k hk), fun k hk => (g.kp k hk).trans (h.kp k hk), h.tk.trans g.tk, h.qx.trans g.qx, fun k hk => (g.lv k hk).trans (h.lv k hk)⟩
theorem PZ.pd {t c K S Q s l e k0 K0 S0 Q0 s0 l0 : Nat} {a b : CS} {x y : RS} (h : PZ t c K S Q s l e k0 a x b y) (h1 : K0 ≤ K) (h2 : S0 ≤ e) (h3 : S0 ≤ S) (h4 : Q0 ≤ Q) (h5 : s0 ≤ s) (h6 : l0 ≤ l) : PD t c K0 S0 Q0 s0 l0 a x b y := ⟨h.em, h.kk, fun k j a1 a2 a3 => h.a0 k j (by omega) a2 a3, h.tt, fun k hk => h.kp k (by omega), h.tk, ⟨h.qx.1, fun k j a1 a2 a3 => h.qx.2.1 k j a1 a2 (Nat.lt_of_lt_of_le a3 (wd_le h3 h4)) (fun w => by
      unfold wd at a3
      rw [if_neg (by omega), if_neg (by omega), if_pos (by omega)] at a3
      omega) (fun w => by
      unfold wd at a3
      rw [if_pos (by omega)] at a3
      omega), fun j a1 => h.qx.2.2 j (by omega) (by omega)⟩, fun k hk => h.lv k (by omega)⟩
/-- a SELECT but for its aggregates, behind such a step above K -/
theorem QR.cap {X : Nat → CS → Prop} {n : Nat} {f : Nat → Int32} {M c s Sb Qb d Su Sl Ql lo hi oq q : Nat} {cs : CS} {rs : RS} (h : QR X n f M c s Sb Qb cs rs d Su Sl Ql lo hi oq q) : Su ≤ Sb := by
  cases d with
  | zero => exact h.elim
  | succ d => exact h.1
theorem OSA.wk {P P' : Nat → Nat → Nat → Nat → Nat → Nat → Nat → Prop} {X : Nat → CS → Prop} {n : Nat} {f : Nat → Int32} {M c s lo hi ql o e it gr mi ns nr mg : Nat} {cs : CS} {rs : RS} (h : OSA P X n f M c s lo hi ql o e it gr mi ns nr mg cs rs) (hP : ∀ su sl l h' a b, P su sl ql l h' a b → P' su sl ql l h' a b) : OSA P' X n f M c s lo hi ql o e it gr mi ns nr mg cs rs := h.keep (fun _ _ _ _ => AT.refl) (FZ.refl (Sl := 0) (S := e + 1) (Ql := 0) (Q := 0)) (fun _ hx => hx) (Nat.le_refl _) ⟨Nat.zero_le _, by omega⟩ (fun su sl l h' a b _ _ _ q => hP su sl l h' a b q) (fun _ _ _ hx => hx)
theorem OSA.pz {B n : Nat} {f : Nat → Int32} {M t c d K0 K ql o e it gr mi ns nr nr' mg s s' lf S S' Q Q' : Nat} {cs cs' : CS} {rs rs' : RS} (os : OSA (QB B (QR X0 n f M c s S Q cs rs d)) X0 n f M c s K0 K ql o e it gr mi ns nr mg cs rs) (p : PZ t c K S Q s lf e ns cs rs cs' rs') (hx : t < o ∧ c < o ∧ e < S ∧ ns < 3) (hs : s ≤ s') (hS : S ≤ S') (hQ : Q ≤ Q') (s2 : s' ≤ 120) (hn : nr' ≤ 3) (rn : rs'.2.2.1 37 e = nI nr') : OSA (QB B (QR X0 n f M c s' S' Q' cs' rs' d)) X0 n f M c s' K0 K ql o e it gr mi ns nr' mg cs' rs' := by
  obtain ⟨k1, k2, k3, k4⟩ := os.od
  obtain ⟨y1, y2, x2, hn3⟩ := hx
  have n3 := os.n3
  have m8i := os.ci.m8
  have ao : ∀ x, ¬ (x / 32 = 10) → ¬ (x / 32 = 2) → AT cs cs' x o := fun x q1 q2 => p.a0 x o (by omega) (by omega) (by omega)
  have fy : ∀ lo hi, hi ≤ K → t < lo → c < lo → FY c lo hi s cs rs cs' rs' := fun lo hi q1 q2 q3 => ⟨p.em, fun x j a1 a2 _ => p.a0 x j (by omega) (by omega) (by omega), fun j a1 a2 => (p.a0 100 j (by omega) (by omega) (by omega)).ap, p.kp, p.tk⟩
  have re : ∀ k, 35 ≤ k → k ≤ 43 → k ≠ 37 → rs'.2.2.1 k e = rs.2.2.1 k e := fun k q1 q2 q3 => p.qx.2.1 k e (by omega) (by omega) (by unfold wd; rw [if_pos (by omega)]; exact x2) (by omega) (by omega)
  have fz : ∀ lo hi, hi ≤ K → o < lo → FZ c lo hi (e + 1) S 0 Q s cs rs cs' rs' := fun lo hi q1 q2 => ⟨fy lo hi q1 (by omega) (by omega), fun k j a1 a2 a3 a4 a5 => p.qx.2.1 k j a1 a2 a5 (fun w => by
      unfold wd at a4
      rw [if_neg (by omega), if_neg (by omega), if_pos (by omega)] at a4
      omega) (fun w => by
      unfold wd at a4
      rw [if_pos (by omega)] at a4
      omega), fun j a1 a2 => p.qx.2.2 j a2 (by omega)⟩
  have hX : ∀ x, x < K → X0 x cs → X0 x cs' := fun x hx w => CLM.keep w p.em (fun y y1 y2 => p.a0 y x hx (by omega) (by omega))
  have am : ∀ x, AM o cs x → AM o cs' x := fun x hx => (fy o K (Nat.le_refl _) (by omega) (by omega)).am (Nat.le_refl _) (by omega) hx
  refine os.upd p.em (fun x hx => ao x (by omega) (by omega)) (fy (o + 1) K (Nat.le_refl _) (by omega) (by omega)) (fun k hk => re k (by omega) (by omega) (by omega)) (fun k j hk hj => p.qx.2.1 k _ (by omega) (by omega) (by unfold wd; rw [if_neg (by omega), if_pos (by omega)]; omega) (by omega) (by omega)) (fun k j q1 q2 hj => p.qx.2.1 k _ (by omega) (by omega) (by unfold wd; rw [if_neg (by omega), if_neg (by omega), if_pos (by omega)]; omega) (by omega) (by omega)) (fun j hj => p.qx.2.2 _ (by omega) (by omega)) am hs (fun su sl l h' a b' q0 q1 q2 q3 => ⟨q3.1, QR.keep hs s2 (Nat.le_refl _) (Nat.le_refl _) hS hQ d su sl _ l h' a b' q3.2 ((fz l h' q2 (by omega)).sub (Nat.le_refl _) (Nat.le_refl _) q0 (Nat.zero_le _)) (fun x w1 w2 w3 => hX x (by omega) w3)⟩) (fun x w1 w2 w3 => hX x w2 w3) ?_ (os.wh.kf (ao 197 (by omega) (by omega)).i (re 38 (by omega) (by omega) (by omega)) hs p.kp p.tk) (os.hv.keep (ao 201 (by omega) (by omega)).i (re 41 (by omega) (by omega) (by omega)) hs p.kp p.tk am) ?_ hn rn
  · rw [(ao 192 (by omega) (by omega)).i, (ao 193 (by omega) (by omega)).i, re 35 (by omega) (by omega) (by omega)]
    exact os.ds
  · rw [(ao 198 (by omega) (by omega)).i, (ao 199 (by omega) (by omega)).i, re 40 (by omega) (by omega) (by omega)]
    exact os.hg
theorem AGP.pz {β : Option Nat} {n : Nat} {f : Nat → Int32} {M t c K o e it mi ns s s' lf S Q : Nat} {cs cs' : CS} {rs rs' : RS} (ag : AGP β n f M c s o e it mi cs rs) (p : PZ t c K S Q s lf e ns cs rs cs' rs') (hx : t < o ∧ c < o ∧ e < S ∧ o < it ∧ it < K) (hs : s ≤ s') (s2 : s' ≤ 120) : AGP β n f M c s' o e it mi cs' rs' := by
  obtain ⟨y1, y2, x2, y4, y5⟩ := hx
  have fy : FY c o (it + 1) s cs rs cs' rs' := ⟨p.em, fun x j a1 a2 _ => p.a0 x j (by omega) (by omega) (by omega), fun j a1 a2 => (p.a0 100 j (by omega) (by omega) (by omega)).ap, p.kp, p.tk⟩
  exact ag.keep fy (Nat.le_refl _) (by omega) ⟨by omega, by omega⟩ hs s2 (fun k hk => p.qx.2.1 k e (by omega) (by omega) (by unfold wd; rw [if_pos (by omega)]; exact x2) (by omega) (by omega))
/-- the reference has told the SOURCE ns whole; the class has not yet laid it -/
theorem SG.srcup {n : Nat} {f : Nat → Int32} {M t c cap : Nat} {d K0 S0 Q0 s0 l0 ql z o e it gr mi ns mg i s lf S Q : Nat} {u1 : Option Nat} {u2 : Int32} {cs0 cs : CS} {rs0 rs : RS} {i' s' lf' S' Q' : Nat} {cs' : CS} {rs' : RS} (g : SG none n f M t c cap d K0 S0 Q0 s0 l0 ql z u1 u2 cs0 rs0 o e it gr mi ns ns mg i s lf S Q cs rs) (p : PZ t c (kK cs) S Q s lf e ns cs rs cs' rs') (b : BG n f M t c cap i' z s' lf' S' Q' cs' rs') (sm : SM t lf' S' cs' rs') (r3 : kR cs' 330 t = some o) (r7 : rs'.1 71 = nI e) (hs : s ≤ s') (hS : S ≤ S') (hQ : Q ≤ Q') (hl : lf < lf') (kr : kK cs' + 40 * S + 40 * lf ≤ kK cs + 40 * S' + 40 * lf') (mr : kM cs' + 400 * S + 400 * lf ≤ kM cs + 400 * S' + 400 * lf') (ct : S' + z + 1 + 13 * lf ≤ S + 13 * lf' ∨ (S' = S ∧ lf' = lf + 1)) (qs : Q' ≤ S') (rn : rs'.2.2.1 37 e = nI (ns + 1)) : SG none n f M t c cap d K0 S0 Q0 s0 l0 ql z u1 u2 cs0 rs0 o e it gr mi ns (ns + 1) mg i' s' lf' S' Q' cs' rs' ∧ OSA (QB S (QR X0 n f M c s' S' Q' cs' rs' d)) X0 n f M c s' K0 (kK cs) ql o e it gr mi ns (ns + 1) mg cs' rs' := by
  obtain ⟨k1, k2, k3, k4⟩ := g.os.od
  obtain ⟨x1, x2, x3, x4, x5, x6⟩ := g.ix
  obtain ⟨y1, y2, y3⟩ := g.kx
  have l3 := b.l3
  have z2 := b.z2
  have hct := g.ct
  have hkr := g.kr
  have hmr := g.mr
  have o1 : OSA (QB S (QR X0 n f M c s S Q cs rs d)) X0 n f M c s K0 (kK cs) ql o e it gr mi ns ns mg cs rs := g.os.wk (fun _ _ _ _ _ _ q => ⟨q.cap, q⟩)
  have o2 := o1.pz (S' := S') (Q' := Q') p ⟨by omega, by omega, x2, by omega⟩ hs hS hQ b.s2 (by omega) rn
  exact ⟨⟨b, g.pd.trans (p.pd (by omega) x1 (by omega) x3 x4 x5), (o2.wk (fun _ _ _ _ _ _ q => q.2)).hi p.kk, g.ag.pz p ⟨by omega, by omega, x2, by omega, by omega⟩ hs b.s2, sm, r3, r7, ⟨x1, by omega, by omega, by omega, by omega, by omega⟩, g.kx, by omega, by omega, Or.inr ⟨by omega, by omega, by omega⟩, g.p0, qs⟩, o2⟩
/-- lower bounds may be lowered -/
theorem QR.lo {X : Nat → CS → Prop} {n : Nat} {f : Nat → Int32} {M c s Sb Qb d Su Sl Ql Sl' Ql' lo hi oq q : Nat} {cs : CS} {rs : RS} (h : QR X n f M c s Sb Qb cs rs d Su Sl Ql lo hi oq q) (h1 : Sl' ≤ Sl) (h2 : Ql' ≤ Ql) : QR X n f M c s Sb Qb cs rs d Su Sl' Ql' lo hi oq q := by
  cases d with
  | zero => exact h.elim
  | succ d =>
    obtain ⟨w0, w⟩ : Su ≤ Sb ∧ QRY (QR X n f M c s Sb Qb cs rs d) X n f M c s Sl Su Ql Qb lo hi oq q cs rs := h
    obtain ⟨q0, q1, q2⟩ := w.qb
    obtain ⟨L, m, lb, ub, wb, l1, l2, l3, l4, l5, l6, l7, l8, l9, l10, l11, l12, l13, ⟨lw1, lw2, lw3⟩, l14, l15⟩ := w.ls
    exact ⟨w0, w.e4, w.od, ⟨by omega, q1, q2⟩, ⟨L, m, lb, ub, wb, l1, l2, l3, l4, l5, l6, l7, l8, l9, l10, l11, l12, l13, ⟨by omega, lw2, lw3⟩, l14, l15⟩, w.or'⟩

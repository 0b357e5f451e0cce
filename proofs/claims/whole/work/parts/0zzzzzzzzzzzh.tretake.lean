/-! a text is taken again, with more streams -/
theorem sg_AT {n9 : Int32} {a9 : Nat → Int32} {cs : CS} {x j : Nat} (h : x ≠ 256 ∧ x ≠ 258) : AT cs (sgX n9 a9 cs) x j := ⟨sg_I h.1, rfl, rfl, rfl, sg_A h.2, rfl, rfl, rfl⟩
theorem sg_EM {n9 : Int32} {a9 : Nat → Int32} {cs : CS} : EM cs (sgX n9 a9 cs) := fun _ h => h
theorem sg_nO {n9 : Int32} {a9 : Nat → Int32} {cs : CS} {X m : Nat} (h : X ≠ 8) : nO (sgX n9 a9 cs) X m = sgX n9 a9 (nO cs X m) := by
  have e : (fun t i => if t / 32 = X ∧ i = kK (sgX n9 a9 cs) then 0 else kI (sgX n9 a9 cs) t i) = u2 (fun t i => if t / 32 = X ∧ i = kK cs then 0 else kI cs t i) 256 2 n9 := by
    funext t i
    show (if t / 32 = X ∧ i = kK cs then 0 else u2 (kI cs) 256 2 n9 t i) = (if t = 256 ∧ i = 2 then n9 else (if t / 32 = X ∧ i = kK cs then 0 else kI cs t i))
    by_cases q : t = 256 ∧ i = 2
    · rw [if_pos q, if_neg (fun w => h (by rw [← w.1, q.1])), q.1, q.2]
      exact u2_s
    · rw [if_neg q]
      by_cases q2 : t / 32 = X ∧ i = kK cs
      · rw [if_pos q2, if_pos q2]
      · rw [if_neg q2, if_neg q2]
        exact u2_n q
  show (((kK cs + 1, kM cs + m, kE cs ++ [(X, kK cs)]), (fun t i => if t / 32 = X ∧ i = kK (sgX n9 a9 cs) then 0 else kI (sgX n9 a9 cs) t i), _) : CS) = _
  rw [e]
  rfl
theorem sg_init {n9 : Int32} {a9 : Nat → Int32} {F k t s : Nat} {cs c4 : CS} (h : c_X0_init F cs k t s = some c4) : c_X0_init F (sgX n9 a9 cs) k t s = some (sgX n9 a9 c4) := by
  unfold c_X0_init at h
  replace h := ob h; obtain ⟨c1, g1, h⟩ := h
  replace h := ob h; obtain ⟨c2, g2, h⟩ := h
  replace h := ob h; obtain ⟨v3, g3, h⟩ := h
  replace h := ob h; obtain ⟨c5, g5, h⟩ := h
  obtain ⟨a1, b1⟩ := pR_some g1
  obtain ⟨a2, b2⟩ := pR_some g2
  obtain ⟨a5, b5⟩ := pR_some g5
  unfold c_X0_init
  rw [pR_ok (cs := sgX n9 a9 cs) a1, ob_s, sg_sR, b1, pR_ok (cs := sgX n9 a9 c1) a2, ob_s, sg_sR, b2, sgR g3, ob_s, pR_ok (cs := sgX n9 a9 c2) a5, ob_s, sg_sR, b5, Option.some.inj h]
theorem bas_sg {n9 : Int32} {a9 : Nat → Int32} {cs : CS} (h : Bas cs) : Bas (sgX n9 a9 cs) := h
theorem dfc_sg {n9 : Int32} {a9 : Nat → Int32} {cs : CS} (h : DFC cs) (k0 : 100 ≤ kK cs) : DFC (sgX n9 a9 cs) := ⟨h.1, fun x j hj => by
  obtain ⟨h1, h2, h3⟩ := h.2 x j hj
  have hj' : kK cs ≤ j := hj
  exact ⟨(sg_Ij (by omega)).trans h1, h2, h3⟩⟩
theorem rdk_sg {n9 : Int32} {a9 : Nat → Int32} {n M t c cap K s lf S Q oq : Nat} {f : Nat → Int32} {cs : CS} {rs : RS} (h : RDK n f M t c cap K s lf S Q oq cs rs) (hK : K ≤ kK cs) : RDK n f M t c cap K s lf S Q oq (sgX n9 a9 cs) rs := by
  have g := h.g
  have a : ∀ x j, x ≠ 256 → x ≠ 258 → AT cs (sgX n9 a9 cs) x j := fun x j h1 h2 => sg_AT ⟨h1, h2⟩
  have i : ∀ x j, x ≠ 256 → kI (sgX n9 a9 cs) x j = kI cs x j := fun x j h1 => sg_I h1
  have tk : TKF cs rs (sgX n9 a9 cs) rs := ⟨(a 352 9 (by decide) (by decide)).a, (a 353 9 (by decide) (by decide)).a, (a 354 9 (by decide) (by decide)).b, rfl, rfl, rfl, rfl, rfl⟩
  have qr : QR X0 n f M c s S Q (sgX n9 a9 cs) rs 13 S 0 0 K (kK cs) oq 0 := QR.keep (Nat.le_refl _) g.s2 (Nat.le_refl _) (Nat.le_refl _) (Nat.le_refl _) (Nat.le_refl _) 13 S 0 0 K (kK cs) oq 0 g.qr ⟨⟨sg_EM, fun x j _ _ hx => a x j (by unfold relQ at hx; omega) (by unfold relQ at hx; omega), fun j _ _ => (a 100 j (by decide) (by decide)).ap, fun x _ => congrFun (VW.eq (fun y y1 y2 => a y c (by omega) (by omega)) (fun _ _ => ⟨rfl, rfl⟩)) x, tk⟩, fun _ _ _ _ _ _ _ => rfl, fun _ _ _ => rfl⟩ (fun x _ _ w => CLM.keep w sg_EM (fun y y1 y2 => a y x (by omega) (by omega)))
  have sr : SR0 cs (sgX n9 a9 cs) := fun j => ⟨rfl, i 197 j (by decide), i 201 j (by decide), rfl, i 233 j (by decide), i 96 j (by decide), (a 97 j (by decide) (by decide)).a⟩
  have sz : SZ c (sgX n9 a9 cs) = SZ c cs := by
    unfold SZ
    rw [i 64 c (by decide)]
  refine ⟨⟨⟨bas_sg g.h.b, g.h.o, g.h.tk, g.h.rc, g.h.oc⟩, g.x.f' tk, by rw [i 320 t (by decide)]; exact g.f0, by rw [i 64 c (by decide)]; exact g.cn, g.g1, g.rn, g.s2, g.cp, g.sc, g.ca, g.kb, g.t37, g.c37, g.tK, by rw [i 325 t (by decide)]; exact g.cl, g.rl, g.l3, g.e326, g.p326, g.l326, g.rS, g.rQ, qr, g.sm.jk (c := c) (k := 0) (K := 0) (kk := 0) sg_EM rfl (fun j => ⟨a 224 j (by decide) (by decide), a 230 j (by decide) (by decide)⟩) (fun _ _ => rfl) rfl, g.r323, by rw [i 324 t (by decide)]; exact g.u324, g.ix⟩, ?_, ?_, ?_, ?_⟩
  · exact h.iv.kp (by omega) (fun j ρ r _ w => sr.rfs w) (fun y _ => by rw [(a 67 c (by decide) (by decide)).a])
  · exact h.am.kp (by omega) (fun o x _ w => AM.back (a 202 o (by decide) (by decide)) (a 203 o (by decide) (by decide)) w) (fun y _ => by rw [(a 65 c (by decide) (by decide)).a])
  · exact fun j j1 j2 => by
      rw [i 133 j (by decide), i 206 j (by decide), i 234 j (by decide)]
      exact h.z0 j j1 j2
  · exact RK.of (fun d => i 64 d (by decide)) (fun d => (a 71 d (by decide) (by decide)).a) (fun d => (a 67 d (by decide) (by decide)).a) (fun d => (a 65 d (by decide) (by decide)).a) c h.sk
/-- the class's way to a checked text -/
def GCH (F n : Nat) (f : Nat → Int32) (t oq ss : Nat) (cg cS c0 cR c4 c5 : CS) : Prop := (Bas cg) ∧ (DFC cg) ∧ (100 ≤ kK cg) ∧ (∀ j, j < 39 → kB cg 358 9 j = lN (tn j)) ∧ (n ≤ 2000) ∧ (∀ i, i < n → zisB (f i)) ∧ (∀ i, i < n → kA cg 384 0 i = f i) ∧ (c_X10_scan F cg 9 0 1 (nI n) = some cS) ∧ (t = kK cS) ∧ (c_X9_init F (nO cS 10 12) t 9 (nI n) = some c0) ∧ (c_X9_read F c0 t = some cR) ∧ (kI cR 320 t = 0) ∧ (c_X0_init F (nO cR 1 6) (kK cR) t 2 = some c4) ∧ (kR c4 323 t = some oq) ∧ (c_X0_checkQuery F 300 c4 (kK cR) oq = some c5) ∧ (kI c5 320 t = 0) ∧ (kI cg 256 2 = nI ss ∧ ss ≤ 6)
theorem GCH.b {F n : Nat} {f : Nat → Int32} {t oq ss : Nat} {cg cS c0 cR c4 c5 : CS} (h : GCH F n f t oq ss cg cS c0 cR c4 c5) : Bas cg := h.1
theorem GCH.df {F n : Nat} {f : Nat → Int32} {t oq ss : Nat} {cg cS c0 cR c4 c5 : CS} (h : GCH F n f t oq ss cg cS c0 cR c4 c5) : DFC cg := h.2.1
theorem GCH.k0 {F n : Nat} {f : Nat → Int32} {t oq ss : Nat} {cg cS c0 cR c4 c5 : CS} (h : GCH F n f t oq ss cg cS c0 cR c4 c5) : 100 ≤ kK cg := h.2.2.1
theorem GCH.wd {F n : Nat} {f : Nat → Int32} {t oq ss : Nat} {cg cS c0 cR c4 c5 : CS} (h : GCH F n f t oq ss cg cS c0 cR c4 c5) : ∀ j, j < 39 → kB cg 358 9 j = lN (tn j) := h.2.2.2.1
theorem GCH.n2 {F n : Nat} {f : Nat → Int32} {t oq ss : Nat} {cg cS c0 cR c4 c5 : CS} (h : GCH F n f t oq ss cg cS c0 cR c4 c5) : n ≤ 2000 := h.2.2.2.2.1
theorem GCH.zb {F n : Nat} {f : Nat → Int32} {t oq ss : Nat} {cg cS c0 cR c4 c5 : CS} (h : GCH F n f t oq ss cg cS c0 cR c4 c5) : ∀ i, i < n → zisB (f i) := h.2.2.2.2.2.1
theorem GCH.tp {F n : Nat} {f : Nat → Int32} {t oq ss : Nat} {cg cS c0 cR c4 c5 : CS} (h : GCH F n f t oq ss cg cS c0 cR c4 c5) : ∀ i, i < n → kA cg 384 0 i = f i := h.2.2.2.2.2.2.1
theorem GCH.e1 {F n : Nat} {f : Nat → Int32} {t oq ss : Nat} {cg cS c0 cR c4 c5 : CS} (h : GCH F n f t oq ss cg cS c0 cR c4 c5) : c_X10_scan F cg 9 0 1 (nI n) = some cS := h.2.2.2.2.2.2.2.1
theorem GCH.tS {F n : Nat} {f : Nat → Int32} {t oq ss : Nat} {cg cS c0 cR c4 c5 : CS} (h : GCH F n f t oq ss cg cS c0 cR c4 c5) : t = kK cS := h.2.2.2.2.2.2.2.2.1
theorem GCH.e2 {F n : Nat} {f : Nat → Int32} {t oq ss : Nat} {cg cS c0 cR c4 c5 : CS} (h : GCH F n f t oq ss cg cS c0 cR c4 c5) : c_X9_init F (nO cS 10 12) t 9 (nI n) = some c0 := h.2.2.2.2.2.2.2.2.2.1
theorem GCH.e3 {F n : Nat} {f : Nat → Int32} {t oq ss : Nat} {cg cS c0 cR c4 c5 : CS} (h : GCH F n f t oq ss cg cS c0 cR c4 c5) : c_X9_read F c0 t = some cR := h.2.2.2.2.2.2.2.2.2.2.1
theorem GCH.f3 {F n : Nat} {f : Nat → Int32} {t oq ss : Nat} {cg cS c0 cR c4 c5 : CS} (h : GCH F n f t oq ss cg cS c0 cR c4 c5) : kI cR 320 t = 0 := h.2.2.2.2.2.2.2.2.2.2.2.1
theorem GCH.e4 {F n : Nat} {f : Nat → Int32} {t oq ss : Nat} {cg cS c0 cR c4 c5 : CS} (h : GCH F n f t oq ss cg cS c0 cR c4 c5) : c_X0_init F (nO cR 1 6) (kK cR) t 2 = some c4 := h.2.2.2.2.2.2.2.2.2.2.2.2.1
theorem GCH.r4 {F n : Nat} {f : Nat → Int32} {t oq ss : Nat} {cg cS c0 cR c4 c5 : CS} (h : GCH F n f t oq ss cg cS c0 cR c4 c5) : kR c4 323 t = some oq := h.2.2.2.2.2.2.2.2.2.2.2.2.2.1
theorem GCH.e5 {F n : Nat} {f : Nat → Int32} {t oq ss : Nat} {cg cS c0 cR c4 c5 : CS} (h : GCH F n f t oq ss cg cS c0 cR c4 c5) : c_X0_checkQuery F 300 c4 (kK cR) oq = some c5 := h.2.2.2.2.2.2.2.2.2.2.2.2.2.2.1
theorem GCH.f5 {F n : Nat} {f : Nat → Int32} {t oq ss : Nat} {cg cS c0 cR c4 c5 : CS} (h : GCH F n f t oq ss cg cS c0 cR c4 c5) : kI c5 320 t = 0 := h.2.2.2.2.2.2.2.2.2.2.2.2.2.2.2.1
theorem GCH.s0 {F n : Nat} {f : Nat → Int32} {t oq ss : Nat} {cg cS c0 cR c4 c5 : CS} (h : GCH F n f t oq ss cg cS c0 cR c4 c5) : kI cg 256 2 = nI ss ∧ ss ≤ 6 := h.2.2.2.2.2.2.2.2.2.2.2.2.2.2.2.2
theorem DFC.at' {a b : CS} (h : DFC a) (kb : KB b) (kk : kK b = kK a) (g : ∀ x j, kK a ≤ j → AT a b x j) : DFC b := ⟨kb, fun x j hj => by
  rw [kk] at hj
  have w := g x j hj
  rw [w.i, w.p, w.r]
  exact h.2 x j hj⟩

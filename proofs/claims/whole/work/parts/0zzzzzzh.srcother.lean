/-! a SOURCE, while another one is checked -/
/-- nothing of the objects lo2 to hi2 - 1 is moved when the SOURCE of the objects lo to hi - 1 is checked -/
theorem JU.other {t c k so e i lo hi Sl Sh lo2 hi2 : Nat} {cs cs' : CS} {rs rs' : RS} (h : JU t c k so e i lo hi Sl Sh cs rs cs' rs') (hd : hi2 ≤ lo ∨ hi ≤ lo2) (h2 : t < lo2 ∧ c < lo2 ∧ so < lo2 ∧ hi2 ≤ k) : ∀ x j, lo2 ≤ j → j < hi2 → AT cs cs' x j := fun x j j1 j2 => h.a0 x j (by unfold kX; omega) (by omega)
theorem SRC.ju {X : Nat → CS → Prop} {n : Nat} {f : Nat → Int32} {M t c k s S Q d so e i lo hi Sl Sh lo2 hi2 u2 v2 ql i2 oo j : Nat} {cs cs' : CS} {rs rs' : RS} (hs : s ≤ 120) (sc : SRC (QR X n f M c s S Q cs rs d v2) X n f M c s lo2 hi2 u2 ql i2 oo j cs rs) (h : JU t c k so e i lo hi Sl Sh cs rs cs' rs') (hd : hi2 ≤ lo ∨ hi ≤ lo2) (h2 : t < lo2 ∧ c < lo2 ∧ so < lo2 ∧ hi2 ≤ k) (hV : ∀ x, x < s → VW c cs' rs' x = VW c cs rs x) (hX : ∀ x, EM cs cs' → (∀ y, AT cs cs' y x) → X x cs → X x cs') : SRC (QR X n f M c s S Q cs' rs' d v2) X n f M c s lo2 hi2 u2 ql i2 oo j cs' rs' := by
  have em : EM cs cs' := EM.of (congrArg (fun z => z.2.2) h.c1)
  have a := h.other hd h2
  have fy : ∀ l, lo2 ≤ l → FY c l hi2 s cs rs cs' rs' := fun l hl => ⟨em, fun x y y1 y2 _ => a x y (by omega) y2, fun y y1 y2 => (a 100 y (by omega) y2).ap, hV, h.tkf⟩
  exact sc.keep (fy lo2 (Nat.le_refl _)) (Nat.le_refl _) (fun q w1 w2 => congrFun (h.fr.a (by unfold jK; omega)) _) (congrFun (h.fr.l (by unfold jK; omega)) _) (fun l o q hl hq => QR.keep (Nat.le_refl _) hs (Nat.le_refl _) (Nat.le_refl _) (Nat.le_refl _) (Nat.le_refl _) d v2 u2 ql l hi2 o q hq ⟨fy l hl, fun q' y w1 w2 w3 _ _ => congrFun (h.fr.a (by unfold jK; omega)) _, fun y _ _ => congrFun (h.fr.l (by unfold jK; omega)) _⟩ (fun x x1 x2 w => hX x em (fun y => a y x (by omega) x2) w)) (fun x x1 x2 w => hX x em (fun y => a y x x1 x2) w)
theorem X0.at' {x : Nat} {cs cs' : CS} (em : EM cs cs') (a : ∀ y, AT cs cs' y x) (h : X0 x cs) : X0 x cs' := CLM.keep h em (fun y _ _ => a y)
theorem XJ.at' {x : Nat} {cs cs' : CS} (em : EM cs cs') (a : ∀ y, AT cs cs' y x) (h : XJ x cs) : XJ x cs' := by
  obtain ⟨m, w⟩ := h
  exact ⟨m, w.keep em (fun y _ _ => a y)⟩

/-! the reference lays its answer -/
/-- a value as an array of values and one of flags hold it -/
def CEL (a b : Nat) (Y : RS) (j : Nat) (x : OV) : Prop := Y.2.2.1 b j = fl x ∧ Y.2.2.2 a j = vl x
/-- rows of n columns in such arrays -/
def RWA (a b n : Nat) (S : LL) (Y : RS) : Prop := ∀ i k, i < S.length → k < n → CEL a b Y (n * i + k) ((S.getD i []).getD k none)
theorem fl_01 (x : OV) : fl x = 0 ∨ fl x = 1 := by
  cases x with
  | none => exact Or.inr rfl
  | some v => exact Or.inl rfl
theorem rc_fl {X : RS} {i : Nat} (fb : X.2.2.1 86 i = 0 ∨ X.2.2.1 86 i = 1) : X.2.2.1 86 i = fl (rc X i) ∧ (X.2.2.1 86 i = 0 → X.2.2.2 85 i = vl (rc X i)) ∧ (¬ X.2.2.1 86 i = 0 → vl (rc X i) = 0) := by
  unfold rc
  rcases fb with q | q
  · rw [if_pos q, q]
    exact ⟨rfl, fun _ => rfl, fun w => absurd rfl w⟩
  · rw [if_neg (by rw [q]; decide), q]
    exact ⟨rfl, fun w => absurd w (by decide), fun _ => rfl⟩
/-- what laying writes -/
def RNF (X Y : RS) : Prop := (Y.1 = X.1) ∧ (Y.2.1 = X.2.1) ∧ (∀ q, q ≠ 103 → q ≠ 106 → Y.2.2.1 q = X.2.2.1 q) ∧ (∀ q, q ≠ 102 → q ≠ 105 → Y.2.2.2 q = X.2.2.2 q)
theorem RNF.f1 {X Y : RS} (h : RNF X Y) : Y.1 = X.1 := h.1
theorem RNF.wt {X Y : RS} (h : RNF X Y) : Y.2.1 = X.2.1 := h.2.1
theorem RNF.ar {X Y : RS} (h : RNF X Y) : ∀ q, q ≠ 103 → q ≠ 106 → Y.2.2.1 q = X.2.2.1 q := h.2.2.1
theorem RNF.ll {X Y : RS} (h : RNF X Y) : ∀ q, q ≠ 102 → q ≠ 105 → Y.2.2.2 q = X.2.2.2 q := h.2.2.2
theorem RNF.refl {X : RS} : RNF X X := ⟨rfl, rfl, fun _ _ _ => rfl, fun _ _ _ => rfl⟩
theorem RNF.trans {X Y Z : RS} (h : RNF X Y) (g : RNF Y Z) : RNF X Z := ⟨g.f1.trans h.f1, g.wt.trans h.wt, fun q a b => (g.ar q a b).trans (h.ar q a b), fun q a b => (g.ll q a b).trans (h.ll q a b)⟩
theorem RNF.cel {X Y : RS} {i : Nat} (h : RNF X Y) : rc Y i = rc X i := by
  unfold rc
  rw [h.ar 86 (by decide) (by decide), h.ll 85 (by decide) (by decide)]
/-- one cell laid -/
theorem cel_st {a b i : Nat} {X : RS} {x : OV} : (CEL a b (setI (setL X a i (vl x)) b i (fl x)) i x) ∧ (∀ j y, j ≠ i → CEL a b X j y → CEL a b (setI (setL X a i (vl x)) b i (fl x)) j y) := by
  refine ⟨⟨sIa_s, ?_⟩, fun j y hj h => ⟨?_, ?_⟩⟩
  · show (setL X a i (vl x)).2.2.2 a i = vl x
    exact sLl_s
  · rw [sIa_n (fun w => hj w.2)]
    exact h.1
  · show (setL X a i (vl x)).2.2.2 a j = vl y
    rw [sLl_n (fun w => hj w.2)]
    exact h.2
theorem lay_K {F n i fr pl : Nat} {rc121 : RS → Int32 → Int32 → Int32 → Int32 → Option RS} {u1 u2 : Int32} {X : RS} (fb : ∀ j, X.2.2.1 86 j = 0 ∨ X.2.2.1 86 j = 1) (hn : n ≤ 8) (hi : n * i + n ≤ 4800) (hf : fr + n ≤ 400000) (hp : pl + n ≤ 400000) : ∀ (d k u : Nat) (Y : RS), n = k + d → d < u → RNF X Y → (∀ t, t < k → CEL 105 106 Y (n * i + t) (rc X (fr + t)) ∧ CEL 102 103 Y (n * i + t) (rc X (pl + t))) → ∃ Z, m_renew_L171 F rc121 u Y u1 u2 (nI n) (nI i) (nI fr) (nI pl) (nI k) = rc121 Z u1 u2 (nI n) (nI (i + 1)) ∧ RNF X Z ∧ (∀ t, t < n → CEL 105 106 Z (n * i + t) (rc X (fr + t)) ∧ CEL 102 103 Z (n * i + t) (rc X (pl + t))) ∧ (∀ j x, ¬ (n * i ≤ j ∧ j < n * i + n) → (CEL 105 106 Y j x → CEL 105 106 Z j x) ∧ (CEL 102 103 Y j x → CEL 102 103 Z j x)) := by
  intro d
  induction d with
  | zero =>
    intro k u Y d1 d2 hx hv
    obtain ⟨u, rfl⟩ : ∃ z, u = z + 1 := ⟨u - 1, by omega⟩
    rw [m_renew_L171, if_pos (nI_le (by omega) (by omega)), nI_1]
    exact ⟨Y, rfl, hx, fun t ht => hv t (by omega), fun j x _ => ⟨id, id⟩⟩
  | succ d ih =>
    intro k u Y d1 d2 hx hv
    obtain ⟨u, rfl⟩ : ∃ z, u = z + 1 := ⟨u - 1, by omega⟩
    obtain ⟨a1, a2, a3⟩ := rc_fl (fb (fr + k))
    obtain ⟨b1, b2, b3⟩ := rc_fl (fb (pl + k))
    have y86 := hx.ar 86 (by decide) (by decide)
    have y85 := hx.ll 85 (by decide) (by decide)
    obtain ⟨c, hc⟩ : ∃ z, z = n * i + k := ⟨_, rfl⟩
    obtain ⟨Y1, hY1⟩ : ∃ z, z = setI (setL Y 105 c (vl (rc X (fr + k)))) 106 c (fl (rc X (fr + k))) := ⟨_, rfl⟩
    obtain ⟨Y2, hY2⟩ : ∃ z, z = setI (setL Y1 102 c (vl (rc X (pl + k)))) 103 c (fl (rc X (pl + k))) := ⟨_, rfl⟩
    have f1 : RNF Y Y1 := by
      rw [hY1]
      exact ⟨rfl, rfl, fun q q1 q2 => funext (fun j => sIa_n (fun w => q2 w.1)), fun q q1 q2 => funext (fun j => sLl_n (fun w => q2 w.1))⟩
    have f2 : RNF Y1 Y2 := by
      rw [hY2]
      exact ⟨rfl, rfl, fun q q1 q2 => funext (fun j => sIa_n (fun w => q1 w.1)), fun q q1 q2 => funext (fun j => sLl_n (fun w => q1 w.1))⟩
    have fx := (hx.trans f1).trans f2
    have s1 := cel_st (a := 105) (b := 106) (i := c) (X := Y) (x := rc X (fr + k))
    rw [← hY1] at s1
    have s2 := cel_st (a := 102) (b := 103) (i := c) (X := Y1) (x := rc X (pl + k))
    rw [← hY2] at s2
    have t1 : ∀ j x, CEL 102 103 Y j x → CEL 102 103 Y1 j x := fun j x h => by
      refine ⟨?_, ?_⟩
      · rw [hY1, sIa_n (fun w => by omega)]
        exact h.1
      · rw [hY1]
        show (setL Y 105 c (vl (rc X (fr + k)))).2.2.2 102 j = _
        rw [sLl_n (fun w => by omega)]
        exact h.2
    have t2 : ∀ j x, CEL 105 106 Y1 j x → CEL 105 106 Y2 j x := fun j x h => by
      refine ⟨?_, ?_⟩
      · rw [hY2, sIa_n (fun w => by omega)]
        exact h.1
      · rw [hY2]
        show (setL Y1 102 c (vl (rc X (pl + k)))).2.2.2 105 j = _
        rw [sLl_n (fun w => by omega)]
        exact h.2
    have tail : ∀ y : Int64, y = vl (rc X (fr + k)) → m_renew_b215 F rc121 (m_renew_L171 F rc121 u) Y u1 u2 (nI n) (nI i) (nI fr) (nI pl) (nI k) y (nI c) = m_renew_L171 F rc121 u Y2 u1 u2 (nI n) (nI i) (nI fr) (nI pl) (nI (k + 1)) := fun y hy => by
      have z86 : ∀ W, RNF X W → W.2.2.1 86 = X.2.2.1 86 := fun W w => w.ar 86 (by decide) (by decide)
      have fL : RNF X (setL Y 105 c y) := hx.trans ⟨rfl, rfl, fun _ _ _ => rfl, fun q q1 q2 => funext (fun j => sLl_n (fun w => q2 w.1))⟩
      have last : ∀ y2 : Int64, y2 = vl (rc X (pl + k)) → m_renew_b276 F rc121 (m_renew_L171 F rc121 u) Y1 u1 u2 (nI n) (nI i) (nI fr) (nI pl) (nI k) y2 (nI c) = m_renew_L171 F rc121 u Y2 u1 u2 (nI n) (nI i) (nI fr) (nI pl) (nI (k + 1)) := fun y2 hy2 => by
        have fM : RNF X (setL Y1 102 c y2) := (hx.trans f1).trans ⟨rfl, rfl, fun _ _ _ => rfl, fun q q1 q2 => funext (fun j => sLl_n (fun w => q1 w.1))⟩
        unfold m_renew_b276
        rw [wrL_n (by omega) (by decide), ob_s, nI_add, rdI_n (by omega) (by decide), ob_s, pk_mul, nI_add, ← hc, z86 _ fM, b1, nar_b (fl_01 _), wrI_n (by omega) (by decide), ob_s, nI_1, hy2, ← hY2]
      unfold m_renew_b215
      rw [wrL_n (by omega) (by decide), ob_s, nI_add, rdI_n (by omega) (by decide), ob_s, pk_mul, nI_add, ← hc, z86 _ fL, a1, nar_b (fl_01 _), wrI_n (by omega) (by decide), ob_s, hy, ← hY1, nI_add, rdI_n (by omega) (by decide), ob_s, z86 _ (hx.trans f1)]
      by_cases q : X.2.2.1 86 (pl + k) = 0
      · rw [if_pos q, rdL_n (by omega) (by decide), ob_s, (hx.trans f1).ll 85 (by decide) (by decide)]
        exact last _ (b2 q)
      · rw [if_neg q]
        exact last 0 (b3 q).symm
    have go : ∃ Z, m_renew_L171 F rc121 u Y2 u1 u2 (nI n) (nI i) (nI fr) (nI pl) (nI (k + 1)) = rc121 Z u1 u2 (nI n) (nI (i + 1)) ∧ RNF X Z ∧ (∀ t, t < n → CEL 105 106 Z (n * i + t) (rc X (fr + t)) ∧ CEL 102 103 Z (n * i + t) (rc X (pl + t))) ∧ (∀ j x, ¬ (n * i ≤ j ∧ j < n * i + n) → (CEL 105 106 Y j x → CEL 105 106 Z j x) ∧ (CEL 102 103 Y j x → CEL 102 103 Z j x)) := by
      obtain ⟨Z, g1, g2, g3, g4⟩ := ih (k + 1) u Y2 (by omega) (by omega) fx (fun t ht => by
        by_cases q : t = k
        · rw [q, ← hc]
          exact ⟨t2 _ _ s1.1, s2.1⟩
        · obtain ⟨w1, w2⟩ := hv t (by omega)
          exact ⟨t2 _ _ (s1.2 _ _ (by omega) w1), s2.2 _ _ (by omega) (t1 _ _ w2)⟩)
      exact ⟨Z, g1, g2, g3, fun j x hj => ⟨fun w => (g4 j x hj).1 (t2 _ _ (s1.2 _ _ (by omega) w)), fun w => (g4 j x hj).2 (s2.2 _ _ (by omega) (t1 _ _ w))⟩⟩
    rw [m_renew_L171, if_neg (nI_ge (by omega) (by omega)), nI_add, rdI_n (by omega) (by decide), ob_s, y86, pk_mul, nI_add, ← hc]
    by_cases q : X.2.2.1 86 (fr + k) = 0
    · rw [if_pos q, rdL_n (by omega) (by decide), ob_s, y85, tail _ (a2 q)]
      exact go
    · rw [if_neg q, tail 0 (a3 q).symm]
      exact go

/-! nodes of both -/
abbrev VT : Type := Nat → (Int32 × Int32 × Int32 × Int32 × Int64 × Int32 × Int64) × (Int32 × Int32 × Int32 × Int32 × Int32 × Int64 × Int32 × Int32 × Int32)
def VW (c : Nat) (cs : CS) (rs : RS) : VT := fun e => ((kA cs 65 c e, kA cs 67 c e, kA cs 68 c e, kA cs 66 c e, kB cs 69 c e, kA cs 71 c e, kB cs 70 c e), (rs.2.2.1 23 e, rs.2.2.1 24 e, rs.2.2.1 25 e, rs.2.2.1 26 e, rs.2.2.1 27 e, rs.2.2.2 28 e, rs.2.2.1 29 e, rs.2.2.1 32 e, rs.2.2.1 30 e))
def vk (V : VT) (e : Nat) : Int32 := (V e).1.1
def vf (V : VT) (e : Nat) : Int32 := (V e).1.2.1
def vp (V : VT) (e : Nat) : Int32 := (V e).1.2.2.1
def vb (V : VT) (e : Nat) : Int32 := (V e).1.2.2.2.1
def vn (V : VT) (e : Nat) : Int64 := (V e).1.2.2.2.2.1
def vs (V : VT) (e : Nat) : Int32 := (V e).1.2.2.2.2.2.1
def vo (V : VT) (e : Nat) : Int64 := (V e).1.2.2.2.2.2.2
def rk (V : VT) (e : Nat) : Int32 := (V e).2.1
def rl (V : VT) (e : Nat) : Int32 := (V e).2.2.1
def rr (V : VT) (e : Nat) : Int32 := (V e).2.2.2.1
def rt (V : VT) (e : Nat) : Int32 := (V e).2.2.2.2.1
def rh (V : VT) (e : Nat) : Int32 := (V e).2.2.2.2.2.1
def rv' (V : VT) (e : Nat) : Int64 := (V e).2.2.2.2.2.2.1
def rb (V : VT) (e : Nat) : Int32 := (V e).2.2.2.2.2.2.2.1
def rx (V : VT) (e : Nat) : Int32 := (V e).2.2.2.2.2.2.2.2.1
def rw' (V : VT) (e : Nat) : Int32 := (V e).2.2.2.2.2.2.2.2.2
def LEAF (V : VT) (e : Nat) : Prop := (vk V e = 40 ∧ rk V e = 1 ∧ vn V e = rv' V e) ∨ (vk V e = 26 ∧ rk V e = 2) ∨ (vk V e = 30 ∧ rk V e = 3) ∨ (vk V e = 31 ∧ rk V e = 4) ∨ (vk V e = 39 ∧ rk V e = 5) ∨ (vk V e = 61 ∧ rk V e = 20)
def UNA (V : VT) (e : Nat) : Prop := vp V e = 1 ∧ ((vk V e = 25 ∧ rk V e = 8) ∨ (vk V e = 58 ∧ rk V e = 17) ∨ (vk V e = 24 ∧ rk V e = 10 ∧ rh V e = 0) ∨ (vk V e = 59 ∧ rk V e = 10 ∧ rh V e = 1))
def BIN (V : VT) (e : Nat) : Prop := vp V e = 2 ∧ ((vk V e = 28 ∧ rk V e = 6) ∨ (vk V e = 29 ∧ rk V e = 7) ∨ (vk V e = 45 ∧ rk V e = 12) ∨ (vk V e = 46 ∧ rk V e = 13) ∨ (vk V e = 47 ∧ rk V e = 14) ∨ (vk V e = 48 ∧ rk V e = 15) ∨ (vk V e = 49 ∧ rk V e = 16) ∨ (vk V e = 36 ∧ rk V e = 19) ∨ (∃ κ, 50 ≤ κ ∧ κ ≤ 55 ∧ vk V e = nI κ ∧ rk V e = 9 ∧ rh V e = st (nI κ)))
def INN (V : VT) (m e : Nat) : Prop := vp V e = nI (m + 1) ∧ ((vk V e = 27 ∧ rk V e = 11 ∧ rh V e = 0) ∨ (vk V e = 60 ∧ rk V e = 11 ∧ rh V e = 1))
def AGK (V : VT) (e : Nat) : Prop := vp V e = 1 ∧ ((vk V e = 32 ∧ rk V e = 21) ∨ (vk V e = 33 ∧ rk V e = 22) ∨ (vk V e = 34 ∧ rk V e = 23) ∨ (vk V e = 35 ∧ rk V e = 24))
def AGC (v : Int32) : Prop := v = 32 ∨ v = 33 ∨ v = 34 ∨ v = 35 ∨ v = 61
/-- m EXPRS side by side: the first from a to r, the last ends at e -/
def CH (P : Nat → Nat → Prop) (V : VT) : Nat → Nat → Nat → Nat → Prop
  | 0, _, _, _ => False
  | m + 1, a, r, e => P a r ∧ ((m = 0 ∧ r = e ∧ rx V r = -1) ∨ (r < e ∧ ∃ q, rx V r = nI q ∧ r < q ∧ CH P V m (r + 1) q e))
/-- the nodes a to e are one EXPR, alike in both -/
def TR (V : VT) : Nat → Nat → Nat → Nat → Prop
  | 0, _, _, _ => False
  | d + 1, R, a, e => a ≤ e ∧ vf V e = nI a ∧ vb V e = rb V e ∧ (
      (a = e ∧ (vs V e = -1 ∨ ∃ q, R < q ∧ vs V e = nI q) ∧ LEAF V e) ∨
      (a < e ∧ UNA V e ∧ rl V e = nI (e - 1) ∧ TR V d R a (e - 1)) ∨
      (∃ g, a < g ∧ g < e ∧ BIN V e ∧ rl V e = nI (g - 1) ∧ rr V e = nI (e - 1) ∧ TR V d R a (g - 1) ∧ TR V d R g (e - 1)) ∨
      (∃ g h, a < g ∧ g < h ∧ h < e ∧ vp V e = 3 ∧ vk V e = 19 ∧ rk V e = 18 ∧ rl V e = nI (g - 1) ∧ rr V e = nI (h - 1) ∧ rt V e = nI (e - 1) ∧ TR V d R a (g - 1) ∧ TR V d R g (h - 1) ∧ TR V d R h (e - 1)) ∨
      (∃ m g r, 1 ≤ m ∧ m ≤ 120 ∧ a < g ∧ g ≤ r ∧ r < e ∧ INN V m e ∧ rl V e = nI (g - 1) ∧ rr V e = nI r ∧ TR V d R a (g - 1) ∧ CH (TR V d R) V m g r (e - 1)) ∨
      (a < e ∧ AGK V e ∧ rl V e = nI (e - 1) ∧ vs V a = nI e ∧ TR V d (e - 1) a (e - 1) ∧ ∀ x, a ≤ x → x < e → ¬ AGC (vk V x)))
theorem CH.mono {P Q : Nat → Nat → Prop} {V : VT} (h : ∀ a e, P a e → Q a e) : ∀ (m a r e : Nat), CH P V m a r e → CH Q V m a r e
  | 0, _, _, _, x => x
  | m + 1, a, r, e, x => ⟨h a r x.1, x.2.imp id (fun y => ⟨y.1, y.2.choose, y.2.choose_spec.1, y.2.choose_spec.2.1, CH.mono h m _ _ _ y.2.choose_spec.2.2⟩)⟩
theorem TR.up {V : VT} : ∀ (d R a e : Nat), TR V d R a e → TR V (d + 1) R a e
  | 0, _, _, _, x => x.elim
  | d + 1, R, a, e, x => by
    obtain ⟨h1, h2, h3, h4⟩ := x
    refine ⟨h1, h2, h3, ?_⟩
    rcases h4 with y | ⟨y1, y2, y3, y4⟩ | ⟨g, y1, y2, y3, y4, y5, y6, y7⟩ | ⟨g, k, y1, y2, y3, y4, y5, y6, y7, y8, y9, y10, y11, y12⟩ | ⟨m, g, r, y1, y2, y3, y4, y5, y6, y7, y8, y9, y10⟩ | ⟨y1, y2, y3, y4, y5, y0⟩
    · exact Or.inl y
    · exact Or.inr (Or.inl ⟨y1, y2, y3, TR.up d _ _ _ y4⟩)
    · exact Or.inr (Or.inr (Or.inl ⟨g, y1, y2, y3, y4, y5, TR.up d _ _ _ y6, TR.up d _ _ _ y7⟩))
    · exact Or.inr (Or.inr (Or.inr (Or.inl ⟨g, k, y1, y2, y3, y4, y5, y6, y7, y8, y9, TR.up d _ _ _ y10, TR.up d _ _ _ y11, TR.up d _ _ _ y12⟩)))
    · exact Or.inr (Or.inr (Or.inr (Or.inr (Or.inl ⟨m, g, r, y1, y2, y3, y4, y5, y6, y7, y8, TR.up d _ _ _ y9, CH.mono (fun a e z => TR.up d R a e z) _ _ _ _ y10⟩))))
    · exact Or.inr (Or.inr (Or.inr (Or.inr (Or.inr ⟨y1, y2, y3, y4, TR.up d _ _ _ y5, y0⟩))))
theorem TR.le {V : VT} {d d' R a e : Nat} (h : TR V d R a e) (hd : d ≤ d') : TR V d' R a e := by
  induction d' with
  | zero => have : d = 0 := by omega
            subst this; exact h
  | succ k ih =>
    by_cases q : d ≤ k
    · exact TR.up k R a e (ih q)
    · have : d = k + 1 := by omega
      subst this; exact h
theorem vk_eq {V W : VT} {e : Nat} (h : W e = V e) : vk W e = vk V e ∧ vf W e = vf V e ∧ vp W e = vp V e ∧ vb W e = vb V e ∧ vn W e = vn V e ∧ vs W e = vs V e ∧ rk W e = rk V e ∧ rl W e = rl V e ∧ rr W e = rr V e ∧ rt W e = rt V e ∧ rh W e = rh V e ∧ rv' W e = rv' V e ∧ rb W e = rb V e ∧ rx W e = rx V e := by
  unfold vk vf vp vb vn vs rk rl rr rt rh rv' rb rx
  rw [h]
  exact ⟨rfl, rfl, rfl, rfl, rfl, rfl, rfl, rfl, rfl, rfl, rfl, rfl, rfl, rfl⟩
theorem CH.fr {P Q : Nat → Nat → Prop} {V W : VT} {b : Nat} : ∀ (m a r e : Nat), (∀ x, b ≤ x → x ≤ e → W x = V x) → (∀ a' r', b ≤ a' → r' ≤ e → P a' r' → Q a' r') → b ≤ a → a ≤ r → r ≤ e → CH P V m a r e → CH Q W m a r e
  | 0, _, _, _, _, _, _, _, _, x => x
  | m + 1, a, r, e, hV, hP, ha, har, hr, x => by
    refine ⟨hP a r ha hr x.1, ?_⟩
    have er := (vk_eq (hV r (by omega) hr)).2.2.2.2.2.2.2.2.2.2.2.2.2
    rcases x.2 with ⟨y1, y2, y3⟩ | ⟨y1, q, y2, y3, y4⟩
    · exact Or.inl ⟨y1, y2, er.trans y3⟩
    · have hq : q ≤ e := by
        match m, y4 with
        | 0, z => exact z.elim
        | m + 1, z => rcases z.2 with w | w <;> omega
      exact Or.inr ⟨y1, q, er.trans y2, y3, CH.fr m (r + 1) q e hV hP (by omega) (by omega) hq y4⟩
theorem TR.fr {V W : VT} : ∀ (d R a e : Nat), (∀ x, a ≤ x → x ≤ e → W x = V x) → TR V d R a e → TR W d R a e
  | 0, _, _, _, _, x => x.elim
  | d + 1, R, a, e, hV, x => by
    obtain ⟨h1, h2, h3, h4⟩ := x
    obtain ⟨w1, w2, w3, w4, w5, w6, w7, w8, w9, w10, w11, w12, w13, w14⟩ := vk_eq (hV e h1 (Nat.le_refl _))
    have wa := (vk_eq (hV a (Nat.le_refl _) h1)).2.2.2.2.2.1
    refine ⟨h1, w2.trans h2, by rw [w4, w13]; exact h3, ?_⟩
    rcases h4 with ⟨y1, y2, y3⟩ | ⟨y1, y2, y3, y4⟩ | ⟨g, y1, y2, y3, y4, y5, y6, y7⟩ | ⟨g, k, y1, y2, y3, y4, y5, y6, y7, y8, y9, y10, y11, y12⟩ | ⟨m, g, r, y1, y2, y3, y4, y5, y6, y7, y8, y9, y10⟩ | ⟨y1, y2, y3, y4, y5, y0⟩
    · refine Or.inl ⟨y1, by rw [w6]; exact y2, ?_⟩
      unfold LEAF at y3 ⊢
      rw [w1, w7, w5, w12]
      exact y3
    · refine Or.inr (Or.inl ⟨y1, ?_, w8.trans y3, TR.fr d _ _ _ (fun x q1 q2 => hV x q1 (by omega)) y4⟩)
      unfold UNA at y2 ⊢
      rw [w1, w3, w7, w11]
      exact y2
    · refine Or.inr (Or.inr (Or.inl ⟨g, y1, y2, ?_, w8.trans y4, w9.trans y5, TR.fr d _ _ _ (fun x q1 q2 => hV x q1 (by omega)) y6, TR.fr d _ _ _ (fun x q1 q2 => hV x (by omega) (by omega)) y7⟩))
      unfold BIN at y3 ⊢
      rw [w1, w3, w7, w11]
      exact y3
    · exact Or.inr (Or.inr (Or.inr (Or.inl ⟨g, k, y1, y2, y3, w3.trans y4, w1.trans y5, w7.trans y6, w8.trans y7, w9.trans y8, w10.trans y9, TR.fr d _ _ _ (fun x q1 q2 => hV x q1 (by omega)) y10, TR.fr d _ _ _ (fun x q1 q2 => hV x (by omega) (by omega)) y11, TR.fr d _ _ _ (fun x q1 q2 => hV x (by omega) (by omega)) y12⟩)))
    · refine Or.inr (Or.inr (Or.inr (Or.inr (Or.inl ⟨m, g, r, y1, y2, y3, y4, y5, ?_, w8.trans y7, w9.trans y8, TR.fr d _ _ _ (fun x q1 q2 => hV x q1 (by omega)) y9, CH.fr (b := g) m g r (e - 1) (fun x q1 q2 => hV x (by omega) (by omega)) (fun a' r' q1 q2 z => TR.fr d R a' r' (fun x q3 q4 => hV x (by omega) (by omega)) z) (Nat.le_refl _) y4 (by omega) y10⟩))))
      unfold INN at y6 ⊢
      rw [w1, w3, w7, w11]
      exact y6
    · refine Or.inr (Or.inr (Or.inr (Or.inr (Or.inr ⟨y1, ?_, w8.trans y3, wa.trans y4, TR.fr d _ _ _ (fun x q1 q2 => hV x q1 (by omega)) y5, fun x q1 q2 => (by unfold vk; rw [hV x q1 (by omega)]; exact y0 x q1 q2)⟩))))
      unfold AGK at y2 ⊢
      rw [w1, w3, w7]
      exact y2

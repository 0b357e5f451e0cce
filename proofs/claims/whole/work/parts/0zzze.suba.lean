/-! an aggregate within an EXPR is one itself -/
theorem CH.mem {P : Nat → Nat → Prop} {V : VT} (hP : ∀ a e, P a e → a ≤ e) : ∀ (m a r e x : Nat), CH P V m a r e → a ≤ x → x ≤ e → ∃ b t, P b t ∧ b ≤ x ∧ x ≤ t ∧ a ≤ b ∧ t ≤ e
  | 0, _, _, _, _, h, _, _ => h.elim
  | m + 1, a, r, e, x, h, h1, h2 => by
    have p := h.1
    have ar := hP a r p
    rcases h.2 with ⟨y1, y2, y3⟩ | ⟨y1, q, y2, y3, y4⟩
    · exact ⟨a, r, p, h1, by omega, Nat.le_refl _, by omega⟩
    · by_cases w : x ≤ r
      · exact ⟨a, r, p, h1, w, Nat.le_refl _, by omega⟩
      · obtain ⟨b, t, z1, z2, z3, z4, z5⟩ := CH.mem hP m (r + 1) q e x y4 (by omega) h2
        exact ⟨b, t, z1, z2, z3, by omega, z5⟩
theorem TR.ae {V : VT} {d R a e : Nat} (h : TR V d R a e) : a ≤ e := by
  cases d with
  | zero => exact h.elim
  | succ d => exact h.1
theorem TR.suba {V : VT} {x : Nat} (hx : AGC (vk V x)) : ∀ (d R a e : Nat), TR V d R a e → a ≤ x → x ≤ e → ∃ b, a ≤ b ∧ b ≤ x ∧ vf V x = nI b ∧ TR V d R b x
  | 0, _, _, _, h, _, _ => h.elim
  | d + 1, R, a, e, h, h1, h2 => by
    by_cases he : x = e
    · subst he
      exact ⟨a, Nat.le_refl _, h1, h.2.1, h⟩
    · have up : ∀ a' e', a ≤ a' → TR V d R a' e' → a' ≤ x → x ≤ e' → ∃ b, a ≤ b ∧ b ≤ x ∧ vf V x = nI b ∧ TR V (d + 1) R b x := fun a' e' q1 q2 q3 q4 => by
        obtain ⟨b, b1, b2, b3, b4⟩ := TR.suba hx d R a' e' q2 q3 q4
        exact ⟨b, by omega, b2, b3, TR.up d _ _ _ b4⟩
      obtain ⟨k1, k2, k3, k4⟩ := h
      rcases k4 with ⟨y1, y2, y3⟩ | ⟨y1, y2, y3, y4⟩ | ⟨g, y1, y2, y3, y4, y5, y6, y7⟩ | ⟨g, k, y1, y2, y3, y4, y5, y6, y7, y8, y9, y10, y11, y12⟩ | ⟨m, g, r, y1, y2, y3, y4, y5, y6, y7, y8, y9, y10⟩ | ⟨y1, y2, y3, y4, y5, y0⟩
      · omega
      · exact up a (e - 1) (Nat.le_refl _) y4 h1 (by omega)
      · by_cases w : x ≤ g - 1
        · exact up a (g - 1) (Nat.le_refl _) y6 h1 w
        · exact up g (e - 1) (by omega) y7 (by omega) (by omega)
      · by_cases w : x ≤ g - 1
        · exact up a (g - 1) (Nat.le_refl _) y10 h1 w
        · by_cases w2 : x ≤ k - 1
          · exact up g (k - 1) (by omega) y11 (by omega) w2
          · exact up k (e - 1) (by omega) y12 (by omega) (by omega)
      · by_cases w : x ≤ g - 1
        · exact up a (g - 1) (Nat.le_refl _) y9 h1 w
        · obtain ⟨b, t, z1, z2, z3, z4, z5⟩ := CH.mem (fun _ _ p => p.ae) m g r (e - 1) x y10 (by omega) (by omega)
          exact up b t (by omega) z1 z2 z3
      · exact absurd hx (y0 x h1 (by omega))
/-- the depth of an EXPR is at most its size -/
theorem TR.thin {V : VT} : ∀ (d R a e : Nat), TR V d R a e → TR V (e + 1 - a) R a e
  | 0, _, _, _, h => h.elim
  | d + 1, R, a, e, h => by
    obtain ⟨k1, k2, k3, k4⟩ := h
    obtain ⟨w, hw⟩ : ∃ w, e + 1 - a = w + 1 := ⟨e - a, by omega⟩
    have go : ∀ a' e', a ≤ a' → e' < e → TR V d R a' e' → TR V w R a' e' := fun a' e' q1 q2 q3 => by
      have := q3.ae
      exact (TR.thin d R a' e' q3).le (by omega)
    rw [hw]
    refine ⟨k1, k2, k3, ?_⟩
    rcases k4 with ⟨y1, y2, y3⟩ | ⟨y1, y2, y3, y4⟩ | ⟨g, y1, y2, y3, y4, y5, y6, y7⟩ | ⟨g, k, y1, y2, y3, y4, y5, y6, y7, y8, y9, y10, y11, y12⟩ | ⟨m, g, r, y1, y2, y3, y4, y5, y6, y7, y8, y9, y10⟩ | ⟨y1, y2, y3, y4, y5, y0⟩
    · exact Or.inl ⟨y1, y2, y3⟩
    · exact Or.inr (Or.inl ⟨y1, y2, y3, go a (e - 1) (Nat.le_refl _) (by omega) y4⟩)
    · exact Or.inr (Or.inr (Or.inl ⟨g, y1, y2, y3, y4, y5, go a (g - 1) (Nat.le_refl _) (by omega) y6, go g (e - 1) (by omega) (by omega) y7⟩))
    · exact Or.inr (Or.inr (Or.inr (Or.inl ⟨g, k, y1, y2, y3, y4, y5, y6, y7, y8, y9, go a (g - 1) (Nat.le_refl _) (by omega) y10, go g (k - 1) (by omega) (by omega) y11, go k (e - 1) (by omega) (by omega) y12⟩)))
    · refine Or.inr (Or.inr (Or.inr (Or.inr (Or.inl ⟨m, g, r, y1, y2, y3, y4, y5, y6, y7, y8, go a (g - 1) (Nat.le_refl _) (by omega) y9, ?_⟩))))
      exact CH.fr (b := g) m g r (e - 1) (fun _ _ _ => rfl) (fun a' r' q1 q2 z => go a' r' (by omega) (by omega) z) (Nat.le_refl _) y4 (by omega) y10
    · refine Or.inr (Or.inr (Or.inr (Or.inr (Or.inr ⟨y1, y2, y3, y4, ?_, y0⟩))))
      have := y5.ae
      exact (TR.thin d (e - 1) a (e - 1) y5).le (by omega)
/-- an aggregate within a whole EXPR -/
theorem RT.agg {n : Nat} {f : Nat → Int32} {M c q : Nat} {ma : Bool} {s r a x : Nat} {cs : CS} {rs : RS} (h1 : ∀ R, TR (VW c cs rs) (r + 1 - a) R a r) (h2 : KE n f M c q ma a (r + 1) cs rs) (hr : r < s) (hs : s ≤ 120) (hx : AGC (kA cs 65 c x)) (x1 : a ≤ x) (x2 : x ≤ r) : RT n f M c q ma s x cs rs := by
  obtain ⟨b, b1, b2, b3, b4⟩ := TR.suba (V := VW c cs rs) hx (r + 1 - a) 0 a r (h1 0) x1 x2
  refine ⟨b, b2, by omega, fun R => ?_, ⟨fun y y1 y2 => h2.co y (by omega) (by omega), fun y y1 y2 => h2.an y (by omega) (by omega)⟩⟩
  obtain ⟨b', c1, c2, c3, c4⟩ := TR.suba (V := VW c cs rs) hx (r + 1 - a) R a r (h1 R) x1 x2
  have e : b = b' := (nI_eq (by omega) (by omega)).mp (b3.symm.trans c3)
  subst e
  exact TR.thin _ _ _ _ c4

/-! an EXPR over rows, as the class computes it -/
theorem TR.col {V : VT} {d R a e : Nat} (h : TR V d R a e) (k : rk V e = 5) : vk V e = 39 := by
  cases d with
  | zero => exact h.elim
  | succ d =>
    obtain ⟨k1, k2, k3, k4⟩ := h
    rcases k4 with ⟨y1, y2, y3⟩ | ⟨y1, y2, y3, y4⟩ | ⟨g, y1, y2, y3, y4, y5, y6, y7⟩ | ⟨g, kk, y1, y2, y3, y4, y5, y6, y7, y8, y9, y10, y11, y12⟩ | ⟨m, g, r, y1, y2, y3, y4, y5, y6, y7, y8, y9, y10⟩ | ⟨y1, y2, y3, y4, y5, y0⟩
    · rcases y3 with ⟨-, y, -⟩ | ⟨-, y⟩ | ⟨-, y⟩ | ⟨-, y⟩ | ⟨z, y⟩ | ⟨-, y⟩
      · rw [y] at k; exact absurd k (by decide)
      · rw [y] at k; exact absurd k (by decide)
      · rw [y] at k; exact absurd k (by decide)
      · rw [y] at k; exact absurd k (by decide)
      · exact z
      · rw [y] at k; exact absurd k (by decide)
    · obtain ⟨-, un⟩ := y2
      rcases un with ⟨-, y⟩ | ⟨-, y⟩ | ⟨-, y, -⟩ | ⟨-, y, -⟩ <;> rw [y] at k <;> exact absurd k (by decide)
    · obtain ⟨-, bi⟩ := y3
      rcases bi with ⟨-, y⟩ | ⟨-, y⟩ | ⟨-, y⟩ | ⟨-, y⟩ | ⟨-, y⟩ | ⟨-, y⟩ | ⟨-, y⟩ | ⟨-, y⟩ | ⟨κ, -, -, -, y, -⟩ <;> rw [y] at k <;> exact absurd k (by decide)
    · rw [y6] at k
      exact absurd k (by decide)
    · obtain ⟨-, nn⟩ := y6
      rcases nn with ⟨-, y, -⟩ | ⟨-, y, -⟩ <;> rw [y] at k <;> exact absurd k (by decide)
    · obtain ⟨-, ak⟩ := y2
      rcases ak with ⟨-, y⟩ | ⟨-, y⟩ | ⟨-, y⟩ | ⟨-, y⟩ <;> rw [y] at k <;> exact absurd k (by decide)
/-- a name, or an aggregate -/
def NAG (V : VT) (y : Nat) : Prop := vk V y = 39 ∨ AGC (vk V y)
/-- the values of names and aggregates by the slots of a row -/
abbrev rwv (sl : Nat → Nat) (L : List OV) : Nat → OV := fun y => L.getD (sl y) none
/-- a row over which an EXPR is well typed, whatever stands within its aggregates -/
def TYX (V : VT) (sl : Nat → Nat) (d a r : Nat) : RPR := fun L => ∀ cev : Nat → OV, (∀ y, a ≤ y → y ≤ r → OUA V r y → NAG V y → cev y = rwv sl L y) → OKT V (EV V cev cev) d a r
theorem EXC.of {F c cap s ar w r a d : Nat} {V : VT} {sl : Nat → Nat} {cs : CS} (hF : 10000 ≤ F) (hc : ar ≠ c) (sk : SKV V s) (hr : r < s) (s2 : s ≤ 120) (hsc : s ≤ cap) (cp : cap ≤ 120) (ca : CA c cap cs) (oc : (2, c) ∈ kE cs) (sz : kI cs 64 c = nI s) (t : TR V d r a r) (cw : ∀ y, y < s → CW c cs y = (V y).1) (s72 : ∀ y, a ≤ y → y ≤ r → NAG V y → kA cs 72 c y = nI (sl y) ∧ sl y < 1000000) (sw : ∀ y, a ≤ y → y ≤ r → OUA V r y → NAG V y → sl y < w) : EXC F c ar w r (TYX V sl d a r) (fun L => EV V (rwv sl L) (rwv sl L) r) cs := fun X base n cf st hb ty => by
  have n2 := st.n2
  have g : ∀ x, 64 ≤ x → x ≤ 73 → AT cs X x c := fun x x1 x2 => cf.fr x c (by omega) (by omega)
  obtain ⟨L, hL⟩ : ∃ z, z = rwC X ar base w := ⟨_, rfl⟩
  obtain ⟨cev, hcev⟩ : ∃ f : Nat → OV, f = fun y => sv X ar (base + sl y) := ⟨_, rfl⟩
  have ceq : ∀ y, a ≤ y → y ≤ r → OUA V r y → NAG V y → cev y = rwv sl L y := fun y y1 y2 y3 y4 => by
    rw [hcev]
    show sv X ar (base + sl y) = L.getD (sl y) none
    rw [hL, rwC_get (sw y y1 y2 y3 y4)]
  rw [← hL] at ty ⊢
  have ok := ty cev ceq
  have ct : CST c s ar n base V cev a r X := by
    refine ⟨fun y hy => ?_, st, s2, fun y y1 y2 y3 => ?_⟩
    · have q := cw y hy
      unfold CW at q ⊢
      rw [(g 65 (by omega) (by omega)).a, (g 67 (by omega) (by omega)).a, (g 68 (by omega) (by omega)).a, (g 66 (by omega) (by omega)).a, (g 69 (by omega) (by omega)).b, (g 71 (by omega) (by omega)).a, (g 70 (by omega) (by omega)).b]
      exact q
    · obtain ⟨z1, z2⟩ := s72 y y1 y2 y3
      exact ⟨base + sl y, by omega, by rw [(g 72 (by omega) (by omega)).a, z1, nI_add], by rw [hcev]⟩
  obtain ⟨X', e1, e2, e3, e4⟩ := compute_ok (F := F) (base := base) hF hc sk hr hsc cp (ca.cf cf) (cf.em _ oc) (by rw [(g 64 (by omega) (by omega)).i]; exact sz) t ok ct
  have ev : EV V cev cev r = EV V (rwv sl L) (rwv sl L) r := EV_cong (root := r) (by omega) d a r t OUA.top (Nat.le_refl _) (fun y y1 y2 y3 => by
    obtain ⟨b, R', -, -, -, tb⟩ := TR.sube d r a r t y1 y2
    exact ⟨fun k => ceq y y1 y2 y3 (Or.inl (TR.col tb k)), fun k => ceq y y1 y2 y3 (Or.inr (TR.agr tb k).1)⟩)
  rw [ev] at e1 e3 e4
  exact ⟨X', e1, e2, e3, e4⟩

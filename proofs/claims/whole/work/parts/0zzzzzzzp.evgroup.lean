/-! an EXPR over a group, in the reference -/
theorem TR.sube {V : VT} {x : Nat} : ∀ (d R a e : Nat), TR V d R a e → a ≤ x → x ≤ e → ∃ b R', a ≤ b ∧ b ≤ x ∧ vf V x = nI b ∧ TR V d R' b x
  | 0, _, _, _, h, _, _ => h.elim
  | d + 1, R, a, e, h, h1, h2 => by
    by_cases he : x = e
    · rw [he] at h1 ⊢
      exact ⟨a, R, Nat.le_refl _, h1, h.2.1, h⟩
    · have up : ∀ a' e' R1, a ≤ a' → TR V d R1 a' e' → a' ≤ x → x ≤ e' → ∃ b R', a ≤ b ∧ b ≤ x ∧ vf V x = nI b ∧ TR V (d + 1) R' b x := fun a' e' R1 q1 q2 q3 q4 => by
        obtain ⟨b, R', b1, b2, b3, b4⟩ := TR.sube d R1 a' e' q2 q3 q4
        exact ⟨b, R', by omega, b2, b3, TR.up d _ _ _ b4⟩
      obtain ⟨k1, k2, k3, k4⟩ := h
      rcases k4 with ⟨y1, y2, y3⟩ | ⟨y1, y2, y3, y4⟩ | ⟨g, y1, y2, y3, y4, y5, y6, y7⟩ | ⟨g, k, y1, y2, y3, y4, y5, y6, y7, y8, y9, y10, y11, y12⟩ | ⟨m, g, r, y1, y2, y3, y4, y5, y6, y7, y8, y9, y10⟩ | ⟨y1, y2, y3, y4, y5, y0⟩
      · omega
      · exact up a (e - 1) R (Nat.le_refl _) y4 h1 (by omega)
      · by_cases w : x ≤ g - 1
        · exact up a (g - 1) R (Nat.le_refl _) y6 h1 w
        · exact up g (e - 1) R (by omega) y7 (by omega) (by omega)
      · by_cases w : x ≤ g - 1
        · exact up a (g - 1) R (Nat.le_refl _) y10 h1 w
        · by_cases w2 : x ≤ k - 1
          · exact up g (k - 1) R (by omega) y11 (by omega) w2
          · exact up k (e - 1) R (by omega) y12 (by omega) (by omega)
      · by_cases w : x ≤ g - 1
        · exact up a (g - 1) R (Nat.le_refl _) y9 h1 w
        · obtain ⟨b, t, z1, z2, z3, z4, z5⟩ := CH.mem (fun _ _ p => TR.ae p) m g r (e - 1) x y10 (by omega) (by omega)
          exact up b t R (by omega) z1 z2 z3
      · exact up a (e - 1) (e - 1) (Nat.le_refl _) y5 h1 (by omega)
abbrev AGRK (v : Int32) : Prop := v = 20 ∨ v = 21 ∨ v = 22 ∨ v = 23 ∨ v = 24
/-- a node that is an aggregate to the reference -/
theorem TR.agr {V : VT} {d R a e : Nat} (h : TR V d R a e) (k : AGRK (rk V e)) : AGC (vk V e) ∧ (rk V e ≠ 20 → a < e ∧ rl V e = nI (e - 1) ∧ (∃ d', TR V d' (e - 1) a (e - 1)) ∧ ∀ x, a ≤ x → x < e → ¬ AGC (vk V x)) := by
  cases d with
  | zero => exact h.elim
  | succ d =>
    obtain ⟨k1, k2, k3, k4⟩ := h
    rcases k4 with ⟨y1, y2, y3⟩ | ⟨y1, y2, y3, y4⟩ | ⟨g, y1, y2, y3, y4, y5, y6, y7⟩ | ⟨g, kk, y1, y2, y3, y4, y5, y6, y7, y8, y9, y10, y11, y12⟩ | ⟨m, g, r, y1, y2, y3, y4, y5, y6, y7, y8, y9, y10⟩ | ⟨y1, y2, y3, y4, y5, y0⟩
    · rcases y3 with ⟨-, y, -⟩ | ⟨-, y⟩ | ⟨-, y⟩ | ⟨-, y⟩ | ⟨-, y⟩ | ⟨z, y⟩
      · rw [y] at k; exact absurd k (by decide)
      · rw [y] at k; exact absurd k (by decide)
      · rw [y] at k; exact absurd k (by decide)
      · rw [y] at k; exact absurd k (by decide)
      · rw [y] at k; exact absurd k (by decide)
      · refine ⟨?_, fun w => absurd y w⟩
        unfold AGC
        rw [z]
        decide
    · obtain ⟨-, un⟩ := y2
      rcases un with ⟨-, y⟩ | ⟨-, y⟩ | ⟨-, y, -⟩ | ⟨-, y, -⟩ <;> rw [y] at k <;> exact absurd k (by decide)
    · obtain ⟨-, bi⟩ := y3
      rcases bi with ⟨-, y⟩ | ⟨-, y⟩ | ⟨-, y⟩ | ⟨-, y⟩ | ⟨-, y⟩ | ⟨-, y⟩ | ⟨-, y⟩ | ⟨-, y⟩ | ⟨κ, -, -, -, y, -⟩ <;> rw [y] at k <;> exact absurd k (by decide)
    · rw [y6] at k
      exact absurd k (by decide)
    · obtain ⟨-, nn⟩ := y6
      rcases nn with ⟨-, y, -⟩ | ⟨-, y, -⟩ <;> rw [y] at k <;> exact absurd k (by decide)
    · refine ⟨?_, fun _ => ⟨y1, y3, ⟨d, y5⟩, y0⟩⟩
      obtain ⟨-, ak⟩ := y2
      unfold AGC
      rcases ak with ⟨z, -⟩ | ⟨z, -⟩ | ⟨z, -⟩ | ⟨z, -⟩ <;> rw [z] <;> decide
/-- the value of an EXPR over a group: its key, its rows -/
def EVG (V : VT) (cl : Nat → Nat) (e : Nat) (g : List OV) (mem : LL) : OV := EV V (fun y => g.getD (cl y) none) (fun y => agV (rk V y) (mem.map (fun L => EV V (fun x => L.getD (cl x) none) (fun _ => none) (y - 1)))) e
theorem EXG.of {F s w ng d e a : Nat} {V : VT} {cl : Nat → Nat} {rs : RS} (hF : 10000 ≤ F) (hs : s ≤ 120) (he : e < s) (vw : ∀ y, y < s → RW rs y = (V y).2) (t : TR V d e a e) (co : ∀ y, a ≤ y → y ≤ e → rk V y = 5 → rs.2.2.1 33 y = nI (cl y) ∧ cl y < 100) (cg : ∀ y, a ≤ y → y ≤ e → rk V y = 5 → OUA V e y → cl y < ng) (ca : ∀ y, a ≤ y → y ≤ e → rk V y = 5 → ¬ OUA V e y → cl y < w) : EXG F w ng e (EVG V cl e) rs := fun X r b m gi p n h1 x97 x95 x96 x94 fb rl hm hb hp hn => by
  have ra : ∀ q, ¬ rS q → X.2.2.1 q = rs.2.2.1 q := fun q hq => h1.a hq
  have vx : ∀ y, y < s → RW X y = (V y).2 := fun y hy => by
    rw [← vw y hy]
    unfold RW
    rw [ra 23 (by unfold rS; omega), ra 24 (by unfold rS; omega), ra 25 (by unfold rS; omega), ra 26 (by unfold rS; omega), ra 27 (by unfold rS; omega), h1.l (k := 28) (by unfold rS; omega), ra 29 (by unfold rS; omega), ra 32 (by unfold rS; omega), ra 30 (by unfold rS; omega)]
  have r33 : ∀ y, a ≤ y → y ≤ e → rk V y = 5 → X.2.2.1 33 y = nI (cl y) := fun y y1 y2 y3 => by
    rw [ra 33 (by unfold rS; omega)]
    exact (co y y1 y2 y3).1
  obtain ⟨ag, hag⟩ : ∃ z : Nat → OV, z = fun y => agV (rk V y) ((memL X b w gi 0 m).map (fun L => EV V (fun x => L.getD (cl x) none) (fun _ => none) (y - 1))) := ⟨_, rfl⟩
  have h : EVH F s V (fun y => rc X (p + cl y)) ag a e X := by
    refine ⟨vx, hs, fun y y1 y2 y3 => ?_, fun y y1 y2 y3 n v hn' => ?_⟩
    · obtain ⟨c1, c2⟩ := co y y1 y2 y3
      refine ⟨p + cl y, ?_, by omega, ?_⟩
      · rw [if_neg (by rw [x97]; decide), x94, r33 y y1 y2 y3, nI_add]
      · show (X.2.2.1 86 (p + cl y) = 0 ∧ rc X (p + cl y) = some (X.2.2.2 85 (p + cl y))) ∨ (X.2.2.1 86 (p + cl y) = 1 ∧ rc X (p + cl y) = none)
        unfold rc
        rcases fb (p + cl y) with q | q
        · exact Or.inl ⟨q, if_pos q⟩
        · exact Or.inr ⟨q, if_neg (by rw [q]; decide)⟩
    · obtain ⟨n, rfl⟩ : ∃ z, n = z + 1 := ⟨n - 1, by omega⟩
      obtain ⟨f, R', f1, f2, f3, f4⟩ := TR.sube d e a e t y1 y2
      obtain ⟨g1, g2⟩ := f4.agr y3
      have q := aggr_ok (F := F) (n := n) (y := y) (e := y - 1) (v := v) (val := fun L => EV V (fun x => L.getD (cl x) none) (fun _ => none) (y - 1)) hF (by omega) (Or.inr x97) x95 x96 rl hm hb fb y3 (fun k20 => by
        obtain ⟨z1, z2, ⟨d', z3⟩, z4⟩ := g2 k20
        refine ⟨?_, EXA.of hF hs (by omega) vx z3 (fun x w1 w2 w3 => ⟨r33 x (by omega) (by omega) w3, ca x (by omega) (by omega) w3 (fun ou => ?_)⟩) (fun x w1 w2 w3 => ?_), by omega⟩
        · rw [← z2]
          exact congrArg (fun z => z.2.1) (vx y (by omega))
        · have := ou y f (by omega) y2 g1 f3 f2
          omega
        · obtain ⟨f', R2, v1, v2, v3, v4⟩ := TR.sube d' (y - 1) f (y - 1) z3 w1 w2
          exact z4 x w1 (by omega) (v4.agr w3).1)
      rw [hag]
      exact q
  have q := ev_R hF h d e a e t (Nat.le_refl _) (Nat.le_refl _) he n (X.1 92) (by omega)
  have e1 : setF X 92 (X.1 92) = X := sF_self
  rw [e1] at q
  have cg' : EV V (fun y => rc X (p + cl y)) ag e = EVG V cl e (rowL X p ng) (memL X b w gi 0 m) := by
    unfold EVG
    rw [← hag]
    exact EV_cong (by omega) d a e t OUA.top (Nat.le_refl _) (fun y y1 y2 y3 => ⟨fun k => (rowL_get (cg y y1 y2 k y3)).symm, fun _ => rfl⟩)
  rw [cg'] at q
  exact q

/-! an EXPR's value hangs on what is read of it -/
theorem evI_cong {V : VT} {g g' : Nat → OV} {x : OV} : ∀ (m a r e : Nat), CH (fun _ y => g y = g' y) V m a r e → r ≤ e → e < 1000 → ∀ (f : Nat) (is : Int32), evI V g x f is (nI r) = evI V g' x f is (nI r)
  | 0, _, _, _, h, _, _, _, _ => h.elim
  | m + 1, a, r, e, h, h1, h2, f, is => by
    cases f with
    | zero => rfl
    | succ f =>
      have e1 : g r = g' r := h.1
      rw [evI, evI, if_neg (nI_nm1 (by omega)), if_neg (nI_nm1 (by omega)), nI_clamp (by omega), e1]
      rcases h.2 with ⟨y1, y2, y3⟩ | ⟨y1, q, y2, y3, y4⟩
      · rw [y3]
        cases f with
        | zero => rfl
        | succ f => rw [evI, evI, if_pos rfl, if_pos rfl]
      · have qE : q ≤ e := by
          cases m with
          | zero => exact y4.elim
          | succ m =>
            rcases y4.2 with ⟨z1, z2, z3⟩ | ⟨z1, -⟩
            · omega
            · omega
        rw [y2]
        exact evI_cong m (r + 1) q e y4 qE h2 f _
theorem EV_cong {V : VT} {col agg col' agg' : Nat → OV} {root : Nat} (hr : root < 120) : ∀ (d a e : Nat), TR V d root a e → OUA V root e → e ≤ root → (∀ y, a ≤ y → y ≤ e → OUA V root y → (rk V y = 5 → col y = col' y) ∧ ((rk V y = 20 ∨ rk V y = 21 ∨ rk V y = 22 ∨ rk V y = 23 ∨ rk V y = 24) → agg y = agg' y)) → EV V col agg e = EV V col' agg' e
  | 0, _, _, t, _, _, _ => t.elim
  | d + 1, a, e, t, ou, he, hy => by
    obtain ⟨ae, -, -, t⟩ := t
    have ih := fun (a' e' : Nat) (t : TR V d root a' e') (ou : OUA V root e') (h1 : a ≤ a') (h2 : e' ≤ e) => EV_cong hr d a' e' t ou (by omega) (fun y y1 y2 y3 => hy y (by omega) (by omega) y3)
    have sub : ∀ (b t9 : Nat) (R : Nat), TR V d R b t9 → t9 ≤ root → ∀ q fq, b ≤ q → q ≤ t9 → AGC (vk V q) → vf V q = nI fq → fq ≤ q → b ≤ fq := fun b t9 R tr ht q fq w1 w2 w3 w4 w5 => by
      obtain ⟨b', x1, x2, x3, x4⟩ := TR.suba w3 d R b t9 tr w1 w2
      have e9 : b' = fq := (nI_eq (by omega) (by omega)).mp (x3.symm.trans w4)
      omega
    have oe : ¬ AGC (vk V e) → OUA V root (e - 1) := fun nag q fq x1 x2 x3 x4 x5 => by
      by_cases z : e < q
      · have := ou q fq z x2 x3 x4 x5
        omega
      · by_cases z2 : q = e
        · rw [z2] at x3
          exact absurd x3 nag
        · omega
    rcases t with ⟨t1, t2, lf⟩ | ⟨t1, un, t2, t3⟩ | ⟨g, t1, t2, bi, t3, t4, t5, t6⟩ | ⟨g, k, t1, t2, t3, t4, t5, t6, t7, t8, t9, t10, t11, t12⟩ | ⟨m, g, r, t1, t2, t3, t4, t5, nn, t6, t7, t8, t9⟩ | ⟨t1, ak, t2, t3, t4, t5⟩
    · obtain ⟨h5, h20⟩ := hy e ae (Nat.le_refl _) ou
      rcases lf with ⟨-, y, -⟩ | ⟨-, y⟩ | ⟨-, y⟩ | ⟨-, y⟩ | ⟨-, y⟩ | ⟨-, y⟩
      · rw [EV.lit (by omega) y, EV.lit (by omega) y]
      · rw [EV.nul (by omega) y, EV.nul (by omega) y]
      · rw [EV.tru (by omega) y, EV.tru (by omega) y]
      · rw [EV.fal (by omega) y, EV.fal (by omega) y]
      · rw [EV.col (by omega) y, EV.col (by omega) y, h5 y]
      · rw [EV.agg (by omega) (Or.inl y), EV.agg (by omega) (Or.inl y), h20 (Or.inl y)]
    · have nag : ¬ AGC (vk V e) := fun w => by
        obtain ⟨-, un⟩ := un
        unfold AGC at w
        rcases un with ⟨z, -⟩ | ⟨z, -⟩ | ⟨z, -⟩ | ⟨z, -⟩ <;> rw [z] at w <;> exact absurd w (by decide)
      have c1 := ih a (e - 1) t3 (oe nag) (Nat.le_refl _) (by omega)
      obtain ⟨-, un⟩ := un
      rcases un with ⟨-, y⟩ | ⟨-, y⟩ | ⟨-, y, -⟩ | ⟨-, y, -⟩
      · rw [EV.not (l := e - 1) (by omega) y t2 (by omega), EV.not (l := e - 1) (by omega) y t2 (by omega), c1]
      · rw [EV.neg (l := e - 1) (by omega) y t2 (by omega), EV.neg (l := e - 1) (by omega) y t2 (by omega), c1]
      · rw [EV.isn (l := e - 1) (by omega) y t2 (by omega), EV.isn (l := e - 1) (by omega) y t2 (by omega), c1]
      · rw [EV.isn (l := e - 1) (by omega) y t2 (by omega), EV.isn (l := e - 1) (by omega) y t2 (by omega), c1]
    · have nag : ¬ AGC (vk V e) := fun w => by
        obtain ⟨-, b⟩ := bi
        unfold AGC at w
        rcases b with ⟨z, -⟩ | ⟨z, -⟩ | ⟨z, -⟩ | ⟨z, -⟩ | ⟨z, -⟩ | ⟨z, -⟩ | ⟨z, -⟩ | ⟨z, -⟩ | ⟨κ, q1, q2, z, -⟩
        all_goals first | (rw [z] at w; exact absurd w (by decide)) | skip
        have c6 : κ = 50 ∨ κ = 51 ∨ κ = 52 ∨ κ = 53 ∨ κ = 54 ∨ κ = 55 := by omega
        rw [z] at w
        rcases c6 with q | q | q | q | q | q <;> rw [q] at w <;> exact absurd w (by decide)
      have oe' := oe nag
      have og : OUA V root (g - 1) := fun q fq x1 x2 x3 x4 x5 => by
        by_cases z : e - 1 < q
        · have := oe' q fq z x2 x3 x4 x5
          omega
        · have := sub g (e - 1) root t6 (by omega) q fq (by omega) (by omega) x3 x4 x5
          omega
      have c1 := ih a (g - 1) t5 og (Nat.le_refl _) (by omega)
      have c2 := ih g (e - 1) t6 oe' (by omega) (by omega)
      have two : (rk V e = 9 ∨ rk V e = 12 ∨ rk V e = 13 ∨ rk V e = 14 ∨ rk V e = 15 ∨ rk V e = 16 ∨ rk V e = 19) → EV V col agg e = EV V col' agg' e := fun kk => by
        rw [EV.two (l := g - 1) (r := e - 1) (by omega) kk t3 t4 (by omega) (by omega), EV.two (l := g - 1) (r := e - 1) (by omega) kk t3 t4 (by omega) (by omega), c1, c2]
      obtain ⟨-, bi⟩ := bi
      rcases bi with ⟨-, y⟩ | ⟨-, y⟩ | ⟨-, y⟩ | ⟨-, y⟩ | ⟨-, y⟩ | ⟨-, y⟩ | ⟨-, y⟩ | ⟨-, y⟩ | ⟨κ, -, -, -, y, -⟩
      · rw [EV.and (l := g - 1) (r := e - 1) (by omega) y t3 t4 (by omega) (by omega), EV.and (l := g - 1) (r := e - 1) (by omega) y t3 t4 (by omega) (by omega), c1, c2]
      · rw [EV.or (l := g - 1) (r := e - 1) (by omega) y t3 t4 (by omega) (by omega), EV.or (l := g - 1) (r := e - 1) (by omega) y t3 t4 (by omega) (by omega), c1, c2]
      all_goals exact two (by rw [y]; decide)
    · have nag : ¬ AGC (vk V e) := fun w => by unfold AGC at w; rw [t5] at w; exact absurd w (by decide)
      have oe' := oe nag
      have ok' : OUA V root (k - 1) := fun q fq x1 x2 x3 x4 x5 => by
        by_cases z : e - 1 < q
        · have := oe' q fq z x2 x3 x4 x5
          omega
        · have := sub k (e - 1) root t12 (by omega) q fq (by omega) (by omega) x3 x4 x5
          omega
      have og : OUA V root (g - 1) := fun q fq x1 x2 x3 x4 x5 => by
        by_cases z : k - 1 < q
        · have := ok' q fq z x2 x3 x4 x5
          omega
        · have := sub g (k - 1) root t11 (by omega) q fq (by omega) (by omega) x3 x4 x5
          omega
      rw [EV.cas (l := g - 1) (r := k - 1) (t := e - 1) (by omega) t6 t7 t8 t9 (by omega) (by omega) (by omega), EV.cas (l := g - 1) (r := k - 1) (t := e - 1) (by omega) t6 t7 t8 t9 (by omega) (by omega) (by omega), ih a (g - 1) t10 og (Nat.le_refl _) (by omega), ih g (k - 1) t11 ok' (by omega) (by omega), ih k (e - 1) t12 oe' (by omega) (by omega)]
    · obtain ⟨vp', nn'⟩ := nn
      have nag : ¬ AGC (vk V e) := fun w => by
        unfold AGC at w
        rcases nn' with ⟨z, -⟩ | ⟨z, -⟩ <;> rw [z] at w <;> exact absurd w (by decide)
      have oe' := oe nag
      have mem : ∀ (m' b r' : Nat), CH (TR V d root) V m' b r' (e - 1) → ∀ q fq, b ≤ q → q ≤ e - 1 → AGC (vk V q) → vf V q = nI fq → fq ≤ q → b ≤ fq := fun m' b r' ch q fq x1 x2 x3 x4 x5 => by
        obtain ⟨b', t', y1, y2, y3, y4, y5⟩ := CH.mem (fun _ _ z => TR.ae z) m' b r' (e - 1) q ch x1 x2
        have := sub b' t' root y1 (by omega) q fq y2 y3 x3 x4 x5
        omega
      have og : OUA V root (g - 1) := fun q fq x1 x2 x3 x4 x5 => by
        by_cases z : e - 1 < q
        · have := oe' q fq z x2 x3 x4 x5
          omega
        · have := mem m g r t9 q fq (by omega) (by omega) x3 x4 x5
          omega
      have chc : ∀ (m' b r' : Nat), g ≤ b → b ≤ r' → r' ≤ e - 1 → CH (TR V d root) V m' b r' (e - 1) → CH (fun _ y => EV V col agg y = EV V col' agg' y) V m' b r' (e - 1) := by
        intro m'
        induction m' with
        | zero => intro b r' _ _ _ h; exact h.elim
        | succ m' ihm =>
          intro b r' h1 h1' h1'' h2
          have or' : OUA V root r' := fun q fq x1 x2 x3 x4 x5 => by
            by_cases z : e - 1 < q
            · have := oe' q fq z x2 x3 x4 x5
              omega
            · rcases h2.2 with ⟨y1, y2, y3⟩ | ⟨y1, q', y2, y3, y4⟩
              · omega
              · have := mem m' (r' + 1) q' y4 q fq (by omega) (by omega) x3 x4 x5
                omega
          refine ⟨ih b r' h2.1 or' (by omega) (by omega), ?_⟩
          rcases h2.2 with ⟨y1, y2, y3⟩ | ⟨y1, q', y2, y3, y4⟩
          · exact Or.inl ⟨y1, y2, y3⟩
          · have qe : q' ≤ e - 1 := by
              cases m' with
              | zero => exact y4.elim
              | succ m' =>
                rcases y4.2 with ⟨a1, a2, a3⟩ | ⟨a1, -⟩
                · omega
                · omega
            exact Or.inr ⟨y1, q', y2, y3, ihm (r' + 1) q' (by omega) y3 qe y4⟩
      have chl : CHL V m r e := t9.chl m g r (e - 1) e (by omega) (by omega)
      have y : rk V e = 11 := by rcases nn' with ⟨-, q, -⟩ | ⟨-, q, -⟩ <;> exact q
      have c1 := ih a (g - 1) t8 og (Nat.le_refl _) (by omega)
      have ei := fun (x : OV) (f : Nat) (is : Int32) => evI_cong (x := x) m g r (e - 1) (chc m g r (Nat.le_refl _) t4 (by omega) t9) (by omega) (by omega) f is
      rw [EV.inn (l := g - 1) (r := r) (by omega) y t6 t7 (by omega) chl, EV.inn (l := g - 1) (r := r) (by omega) y t6 t7 (by omega) chl, c1, ei]
    · obtain ⟨-, h20⟩ := hy e ae (Nat.le_refl _) ou
      obtain ⟨-, ak⟩ := ak
      have kk : rk V e = 20 ∨ rk V e = 21 ∨ rk V e = 22 ∨ rk V e = 23 ∨ rk V e = 24 := by
        rcases ak with ⟨-, y⟩ | ⟨-, y⟩ | ⟨-, y⟩ | ⟨-, y⟩ <;> rw [y] <;> decide
      rw [EV.agg (by omega) kk, EV.agg (by omega) kk, h20 kk]
theorem OUA.top {V : VT} {root : Nat} : OUA V root root := fun q _ w1 w2 _ _ _ => absurd w1 (by omega)

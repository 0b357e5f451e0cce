/-! what is typed as a truth is a truth -/
/-- the shape of a node -/
def shp (v : Int32) : Nat := if v = 8 ∨ v = 17 ∨ v = 10 then 1 else if v = 6 ∨ v = 7 ∨ v = 9 ∨ v = 12 ∨ v = 13 ∨ v = 14 ∨ v = 15 ∨ v = 16 ∨ v = 19 then 2 else if v = 18 then 3 else if v = 11 then 4 else 0
theorem una_sh {V : VT} {e : Nat} (h : UNA V e) : shp (rk V e) = 1 := by
  obtain ⟨-, h⟩ := h
  rcases h with ⟨-, y⟩ | ⟨-, y⟩ | ⟨-, y, -⟩ | ⟨-, y, -⟩ <;> rw [y] <;> decide
theorem bin_sh {V : VT} {e : Nat} (h : BIN V e) : shp (rk V e) = 2 := by
  obtain ⟨-, h⟩ := h
  rcases h with ⟨-, y⟩ | ⟨-, y⟩ | ⟨-, y⟩ | ⟨-, y⟩ | ⟨-, y⟩ | ⟨-, y⟩ | ⟨-, y⟩ | ⟨-, y⟩ | ⟨κ, -, -, -, y, -⟩ <;> rw [y] <;> decide
theorem inn_sh {V : VT} {m e : Nat} (h : INN V m e) : shp (rk V e) = 4 := by
  obtain ⟨-, h⟩ := h
  rcases h with ⟨-, y, -⟩ | ⟨-, y, -⟩ <;> rw [y] <;> decide
theorem lef_sh {V : VT} {e : Nat} (h : LEAF V e) : shp (rk V e) = 0 := by
  rcases h with ⟨-, y, -⟩ | ⟨-, y⟩ | ⟨-, y⟩ | ⟨-, y⟩ | ⟨-, y⟩ | ⟨-, y⟩ <;> rw [y] <;> decide
theorem agk_sh {V : VT} {e : Nat} (h : AGK V e) : shp (rk V e) = 0 := by
  obtain ⟨-, h⟩ := h
  rcases h with ⟨-, y⟩ | ⟨-, y⟩ | ⟨-, y⟩ | ⟨-, y⟩ <;> rw [y] <;> decide
theorem shp_18 : shp 18 = 3 := by decide
theorem shp_8 : shp 8 = 1 := by decide
/-- three truths -/
def T3 (t : Int32) : Prop := t = 0 ∨ t = 1 ∨ t = 2
theorem tr1_3 (x : OV) : T3 (tr1 x) := by
  cases x with
  | none => exact Or.inr (Or.inr rfl)
  | some v =>
    unfold tr1
    by_cases q : v = 0
    · exact Or.inl (if_pos q)
    · exact Or.inr (Or.inl (if_neg q))
theorem tv_ofT {t : Int32} (h : T3 t) : TV (ofT t) := by
  rcases h with y | y | y <;> rw [y]
  · exact Or.inr (Or.inl (by decide))
  · exact Or.inr (Or.inr (by decide))
  · exact Or.inl (by decide)
theorem bT_3 {y a b : Int32} (hy : y = 0 ∨ y = 1) (ha : T3 a) (hb : T3 b) : T3 (bT y a b) := by
  unfold T3 bT
  rcases hy with q | q <;> rcases ha with r | r | r <;> rcases hb with z | z | z <;> rw [q, r, z] <;> decide
theorem not_3 {a : Int32} (ha : T3 a) : T3 (if a = 2 then 2 else 1 - a) := by
  unfold T3
  rcases ha with r | r | r <;> rw [r] <;> decide
theorem inM_3 {x v : OV} {is : Int32} (h : T3 is) : T3 (inM x is v) := by
  unfold inM
  cases v with
  | none =>
    show T3 (if is = 1 then 1 else 2)
    by_cases q : is = 1
    · rw [if_pos q]; exact Or.inr (Or.inl rfl)
    · rw [if_neg q]; exact Or.inr (Or.inr rfl)
  | some w =>
    cases x with
    | none => exact h
    | some z =>
      show T3 (if w = z then 1 else is)
      by_cases q : w = z
      · rw [if_pos q]; exact Or.inr (Or.inl rfl)
      · rw [if_neg q]; exact h
theorem evI_3 {V : VT} {g : Nat → OV} {x : OV} : ∀ (f : Nat) (is i : Int32), T3 is → T3 (evI V g x f is i)
  | 0, _, _, h => h
  | f + 1, is, i, h => by
    rw [evI]
    by_cases q : i = -1
    · rw [if_pos q]; exact h
    · rw [if_neg q]; exact evI_3 f _ _ (inM_3 h)
theorem tv_1 {p : Prop} [Decidable p] : TV (some (if p then 1 else 0)) := by
  by_cases q : p
  · rw [if_pos q]; exact Or.inr (Or.inr rfl)
  · rw [if_neg q]; exact Or.inr (Or.inl rfl)
theorem tv_s {p : Prop} [Decidable p] : TV (if p then some 0 else some 1) := by
  by_cases q : p
  · rw [if_pos q]; exact Or.inr (Or.inl rfl)
  · rw [if_neg q]; exact Or.inr (Or.inr rfl)
theorem tv_s' {p : Prop} [Decidable p] : TV (if p then some 1 else some 0) := by
  by_cases q : p
  · rw [if_pos q]; exact Or.inr (Or.inr rfl)
  · rw [if_neg q]; exact Or.inr (Or.inl rfl)
theorem tv_tw {h : Int32} {a b : Int64} : TV (tw 9 h a b) := by
  unfold tw
  rw [if_pos rfl]
  by_cases q1 : h = 61
  · rw [if_pos q1]; exact tv_s'
  rw [if_neg q1]
  by_cases q2 : h = 400
  · rw [if_pos q2]; exact tv_s
  rw [if_neg q2]
  by_cases q3 : h = 60
  · rw [if_pos q3]; exact tv_s
  rw [if_neg q3]
  by_cases q4 : h = 401
  · rw [if_pos q4]; exact tv_s
  rw [if_neg q4]
  by_cases q5 : h = 62
  · rw [if_pos q5]; exact tv_s
  rw [if_neg q5]
  exact tv_s
theorem tv_11 {V : VT} {col agg : Nat → OV} {e : Nat} (h : e < 199) (k : rk V e = 11) : TV (EV V col agg e) := by
  have w : ∃ I, T3 I ∧ EV V col agg e = ofT (if I = 2 then 2 else if rh V e = 1 then 1 - I else I) := ⟨evI V (fun x => if x < e then EV V col agg x else none) ((fun x => if x < e then EV V col agg x else none) (rl V e).toNatClampNeg) 121 (if fl ((fun x => if x < e then EV V col agg x else none) (rl V e).toNatClampNeg) = 0 then 0 else 2) (rr V e), evI_3 _ _ _ (by
    by_cases q : fl ((fun x => if x < e then EV V col agg x else none) (rl V e).toNatClampNeg) = 0
    · rw [if_pos q]; exact Or.inl rfl
    · rw [if_neg q]; exact Or.inr (Or.inr rfl)), by rw [EV_eq h]; unfold evB evC; rw [k]; rfl⟩
  obtain ⟨I, w1, w2⟩ := w
  rw [w2]
  refine tv_ofT ?_
  unfold T3
  by_cases q : rh V e = 1
  · rcases w1 with y | y | y <;> rw [y, if_pos q] <;> decide
  · rcases w1 with y | y | y <;> rw [y, if_neg q] <;> decide
theorem and_2 {x y : Int32} (h : ¬ (x &&& y) &&& 2 = 0) : ¬ x &&& 2 = 0 ∧ ¬ y &&& 2 = 0 := by
  refine ⟨fun w => h ?_, fun w => h ?_⟩
  · rw [Int32.and_assoc, Int32.and_comm y 2, ← Int32.and_assoc, w, Int32.zero_and]
  · rw [Int32.and_assoc, w, Int32.and_zero]
/-- a node's type, pure -/
def ATX (a : Nat) (V : VT) (T : Nat → Int32) (y : Nat) : Prop := (vk V y = 25 → a < y → ¬ T (y - 1) &&& 2 = 0) ∧ ((vk V y = 28 ∨ vk V y = 29) → ∀ g, vf V (y - 1) = nI g → a < g → g < y → ¬ T (y - 1) &&& 2 = 0 ∧ ¬ T (g - 1) &&& 2 = 0) ∧ (vk V y = 19 → ∀ g, vf V (y - 1) = nI g → a < g → g < y → T y = T (g - 1) &&& T (y - 1)) ∧ (NUMK (vk V y) → T y = 1)
theorem CH.le' {P : Nat → Nat → Prop} {V : VT} {m a r e : Nat} (h : CH P V m a r e) : r ≤ e := by
  cases m with
  | zero => exact h.elim
  | succ m =>
    rcases h.2 with ⟨-, y, -⟩ | ⟨y, -⟩ <;> omega
theorem ty_all {V : VT} {cev cag : Nat → OV} {T : Nat → Int32} {root a0 : Nat} (hr : root < 120) (aty : ∀ y, a0 ≤ y → y ≤ root → vk V y ≠ 39 → ATX a0 V T y) (hn : ∀ y, a0 ≤ y → y ≤ root → OUA V root y → vk V y = 39 → ¬ T y &&& 2 = 0 → TV (cev y)) : ∀ (d R a e : Nat), a0 ≤ a → TR V d R a e → OUA V root e → e ≤ root → (¬ T e &&& 2 = 0 → TV (EV V cev cag e)) ∧ OKT V (EV V cev cag) d a e
  | 0, _, _, _, _, t, _, _ => t.elim
  | d + 1, R, a, e, ha, t, ou, he => by
    obtain ⟨ae, -, -, t⟩ := t
    have ih := fun (R' a' e' : Nat) (t : TR V d R' a' e') (ou : OUA V root e') (h1 : a ≤ a') (h2 : e' ≤ e) => ty_all (cag := cag) hr aty hn d R' a' e' (by omega) t ou (by omega)
    have sub : ∀ (b t9 : Nat) (R : Nat), TR V d R b t9 → t9 ≤ root → ∀ q fq, b ≤ q → q ≤ t9 → AGC (vk V q) → vf V q = nI fq → fq ≤ q → b ≤ fq := fun b t9 R tr ht q fq w1 w2 w3 w4 w5 => by
      obtain ⟨b', x1, x2, x3, x4⟩ := TR.suba w3 d R b t9 tr w1 w2
      have e9 : b' = fq := (nI_eq (by omega) (by omega)).mp (x3.symm.trans w4)
      omega
    have oe : ¬ AGC (vk V e) → OUA V root (e - 1) := fun nag q fq x1 x2 x3 x4 x5 => by
      by_cases z : e < q
      · have := ou q fq z x2 x3 x4 x5
        omega
      · by_cases z2 : q = e
        · rw [z2] at x3
          exact absurd x3 nag
        · omega
    have num : NUMK (vk V e) → vk V e ≠ 39 → ¬ T e &&& 2 = 0 → False := fun k1 k2 w => by
      rw [(aty e (by omega) he k2).2.2.2 k1] at w
      exact w (by decide)
    rcases t with ⟨t1, t2, lf⟩ | ⟨t1, un, t2, t3⟩ | ⟨g, t1, t2, bi, t3, t4, t5, t6⟩ | ⟨g, k, t1, t2, t3, t4, t5, t6, t7, t8, t9, t10, t11, t12⟩ | ⟨m, g, r, t1, t2, t3, t4, t5, nn, t6, t7, t8, t9⟩ | ⟨t1, ak, t2, t3, t4, t5⟩
    · have s0 := lef_sh lf
      refine ⟨fun w => ?_, fun k8 => ?_, fun u => ?_, fun h _ _ u => ?_, fun h k _ _ _ u => ?_, fun m h r R _ _ u => ?_⟩
      · rcases lf with ⟨z, y, -⟩ | ⟨-, y⟩ | ⟨-, y⟩ | ⟨-, y⟩ | ⟨z, y⟩ | ⟨z, y⟩
        · exact (num (by rw [z]; unfold NUMK; decide) (by rw [z]; decide) w).elim
        · rw [EV.nul (by omega) y]; exact Or.inl rfl
        · rw [EV.tru (by omega) y]; exact Or.inr (Or.inr rfl)
        · rw [EV.fal (by omega) y]; exact Or.inr (Or.inl rfl)
        · rw [EV.col (by omega) y]; exact hn e (by omega) he ou z w
        · exact (num (by rw [z]; unfold NUMK; decide) (by rw [z]; decide) w).elim
      · rw [k8] at s0; exact absurd s0 (by decide)
      · have := una_sh u; omega
      · have := bin_sh u; omega
      · rw [u] at s0; exact absurd s0 (by decide)
      · have := inn_sh u; omega
    · have s0 := una_sh un
      have nag : ¬ AGC (vk V e) := fun w => by
        obtain ⟨-, un⟩ := un
        unfold AGC at w
        rcases un with ⟨z, -⟩ | ⟨z, -⟩ | ⟨z, -⟩ | ⟨z, -⟩ <;> rw [z] at w <;> exact absurd w (by decide)
      obtain ⟨c1, c2⟩ := ih R a (e - 1) t3 (oe nag) (Nat.le_refl _) (by omega)
      refine ⟨fun w => ?_, fun k8 => ?_, fun _ => c2, fun h _ _ u => ?_, fun h k _ _ _ u => ?_, fun m h r R _ _ u => ?_⟩
      · obtain ⟨-, un⟩ := un
        rcases un with ⟨-, y⟩ | ⟨z, y⟩ | ⟨-, y, -⟩ | ⟨-, y, -⟩
        · rw [EV.not (l := e - 1) (by omega) y t2 (by omega)]
          exact tv_ofT (not_3 (tr1_3 _))
        · exact (num (by rw [z]; unfold NUMK; decide) (by rw [z]; decide) w).elim
        · rw [EV.isn (l := e - 1) (by omega) y t2 (by omega)]
          exact tv_1
        · rw [EV.isn (l := e - 1) (by omega) y t2 (by omega)]
          exact tv_1
      · obtain ⟨-, un⟩ := un
        rcases un with ⟨z, y⟩ | ⟨z, y⟩ | ⟨-, y, -⟩ | ⟨-, y, -⟩
        · exact c1 ((aty e (by omega) he (by rw [z]; decide)).1 z (by omega))
        · rw [k8] at y; exact absurd y (by decide)
        · rw [k8] at y; exact absurd y (by decide)
        · rw [k8] at y; exact absurd y (by decide)
      · have := bin_sh u; omega
      · rw [u] at s0; exact absurd s0 (by decide)
      · have := inn_sh u; omega
    · have s0 := bin_sh bi
      have nag : ¬ AGC (vk V e) := fun w => by
        obtain ⟨-, b⟩ := bi
        unfold AGC at w
        rcases b with ⟨z, -⟩ | ⟨z, -⟩ | ⟨z, -⟩ | ⟨z, -⟩ | ⟨z, -⟩ | ⟨z, -⟩ | ⟨z, -⟩ | ⟨z, -⟩ | ⟨κ, q1, q2, z, -⟩
        all_goals first | (rw [z] at w; exact absurd w (by decide)) | skip
        have c6 : κ = 50 ∨ κ = 51 ∨ κ = 52 ∨ κ = 53 ∨ κ = 54 ∨ κ = 55 := by omega
        rw [z] at w
        rcases c6 with q | q | q | q | q | q <;> rw [q] at w <;> exact absurd w (by decide)
      have oe' := oe nag
      have og : OUA V root (g - 1) := fun q fq x1 x2 x3 x4 x5 => by
        by_cases z : e - 1 < q
        · have := oe' q fq z x2 x3 x4 x5
          omega
        · have := sub g (e - 1) R t6 (by omega) q fq (by omega) (by omega) x3 x4 x5
          omega
      obtain ⟨c1, c2⟩ := ih R a (g - 1) t5 og (Nat.le_refl _) (by omega)
      obtain ⟨c3, c4⟩ := ih R g (e - 1) t6 oe' (by omega) (by omega)
      have vfg : vf V (e - 1) = nI g := by
        cases d with
        | zero => exact t6.elim
        | succ d => exact t6.2.1
      refine ⟨fun w => ?_, fun k8 => ?_, fun u => ?_, fun h h1 h2 _ hl => ?_, fun h k _ _ _ u => ?_, fun m h r R _ _ u => ?_⟩
      · obtain ⟨-, bi⟩ := bi
        rcases bi with ⟨z, y⟩ | ⟨z, y⟩ | ⟨z, y⟩ | ⟨z, y⟩ | ⟨z, y⟩ | ⟨z, y⟩ | ⟨z, y⟩ | ⟨z, y⟩ | ⟨κ, -, -, -, y, -⟩
        · rw [EV.and (l := g - 1) (r := e - 1) (by omega) y t3 t4 (by omega) (by omega)]
          exact tv_ofT (bT_3 (Or.inl rfl) (tr1_3 _) (tr1_3 _))
        · rw [EV.or (l := g - 1) (r := e - 1) (by omega) y t3 t4 (by omega) (by omega)]
          exact tv_ofT (bT_3 (Or.inr rfl) (tr1_3 _) (tr1_3 _))
        · exact (num (by rw [z]; unfold NUMK; decide) (by rw [z]; decide) w).elim
        · exact (num (by rw [z]; unfold NUMK; decide) (by rw [z]; decide) w).elim
        · exact (num (by rw [z]; unfold NUMK; decide) (by rw [z]; decide) w).elim
        · exact (num (by rw [z]; unfold NUMK; decide) (by rw [z]; decide) w).elim
        · exact (num (by rw [z]; unfold NUMK; decide) (by rw [z]; decide) w).elim
        · exact (num (by rw [z]; unfold NUMK; decide) (by rw [z]; decide) w).elim
        · rw [EV.two (l := g - 1) (r := e - 1) (by omega) (Or.inl y) t3 t4 (by omega) (by omega), y]
          cases EV V cev cag (g - 1) with
          | none => exact Or.inl rfl
          | some v =>
            cases EV V cev cag (e - 1) with
            | none => exact Or.inl rfl
            | some v2 => exact tv_tw
      · rw [k8] at s0; exact absurd s0 (by decide)
      · have := una_sh u; omega
      · have hg : h - 1 = g - 1 := (nI_eq (by omega) (by omega)).mp (hl.symm.trans t3)
        have hg' : h = g := by omega
        rw [hg']
        refine ⟨fun k67 => ?_, c2, c4⟩
        have k28 : vk V e = 28 ∨ vk V e = 29 := by
          obtain ⟨-, bi⟩ := bi
          rcases bi with ⟨z, y⟩ | ⟨z, y⟩ | ⟨z, y⟩ | ⟨z, y⟩ | ⟨z, y⟩ | ⟨z, y⟩ | ⟨z, y⟩ | ⟨z, y⟩ | ⟨κ, -, -, -, y, -⟩
          · exact Or.inl z
          · exact Or.inr z
          all_goals (rw [y] at k67; exact absurd k67 (by decide))
        obtain ⟨w1, w2⟩ := (aty e (by omega) he (by rcases k28 with z | z <;> rw [z] <;> decide)).2.1 k28 g vfg (by omega) t2
        exact ⟨c1 w2, c3 w1⟩
      · rw [u] at s0; exact absurd s0 (by decide)
      · have := inn_sh u; omega
    · have s0 : shp (rk V e) = 3 := by rw [t6]; decide
      have nag : ¬ AGC (vk V e) := fun w => by unfold AGC at w; rw [t5] at w; exact absurd w (by decide)
      have oe' := oe nag
      have ok' : OUA V root (k - 1) := fun q fq x1 x2 x3 x4 x5 => by
        by_cases z : e - 1 < q
        · have := oe' q fq z x2 x3 x4 x5
          omega
        · have := sub k (e - 1) R t12 (by omega) q fq (by omega) (by omega) x3 x4 x5
          omega
      have og : OUA V root (g - 1) := fun q fq x1 x2 x3 x4 x5 => by
        by_cases z : k - 1 < q
        · have := ok' q fq z x2 x3 x4 x5
          omega
        · have := sub g (k - 1) R t11 (by omega) q fq (by omega) (by omega) x3 x4 x5
          omega
      obtain ⟨c1, c2⟩ := ih R a (g - 1) t10 og (Nat.le_refl _) (by omega)
      obtain ⟨c3, c4⟩ := ih R g (k - 1) t11 ok' (by omega) (by omega)
      obtain ⟨c5, c6⟩ := ih R k (e - 1) t12 oe' (by omega) (by omega)
      have vfk : vf V (e - 1) = nI k := by
        cases d with
        | zero => exact t12.elim
        | succ d => exact t12.2.1
      refine ⟨fun w => ?_, fun k8 => ?_, fun u => ?_, fun h h1 h2 u => ?_, fun h k' h1 h2 h3 _ hl hr' => ?_, fun m h r R _ _ u => ?_⟩
      · rw [(aty e (by omega) he (by rw [t5]; decide)).2.2.1 t5 k vfk (by omega) t3] at w
        obtain ⟨w1, w2⟩ := and_2 w
        rw [EV.cas (l := g - 1) (r := k - 1) (t := e - 1) (by omega) t6 t7 t8 t9 (by omega) (by omega) (by omega)]
        by_cases q : tr1 (EV V cev cag (g - 1)) = 1
        · rw [if_pos q]; exact c3 w1
        · rw [if_neg q]; exact c5 w2
      · rw [k8] at s0; exact absurd s0 (by decide)
      · have := una_sh u; omega
      · have := bin_sh u; omega
      · have e1 : h - 1 = g - 1 := (nI_eq (by omega) (by omega)).mp (hl.symm.trans t7)
        have e2 : k' - 1 = k - 1 := (nI_eq (by omega) (by omega)).mp (hr'.symm.trans t8)
        have e3 : h = g := by omega
        have e4 : k' = k := by omega
        rw [e3, e4]
        exact ⟨c2, c4, c6⟩
      · have := inn_sh u; omega
    · have s0 := inn_sh nn
      have nag : ¬ AGC (vk V e) := fun w => by
        obtain ⟨-, nn'⟩ := nn
        unfold AGC at w
        rcases nn' with ⟨z, -⟩ | ⟨z, -⟩ <;> rw [z] at w <;> exact absurd w (by decide)
      have oe' := oe nag
      have mem : ∀ (R' m' b r' : Nat), CH (TR V d R') V m' b r' (e - 1) → ∀ q fq, b ≤ q → q ≤ e - 1 → AGC (vk V q) → vf V q = nI fq → fq ≤ q → b ≤ fq := fun R' m' b r' ch q fq x1 x2 x3 x4 x5 => by
        obtain ⟨b', t', y1, y2, y3, y4, y5⟩ := CH.mem (fun _ _ z => TR.ae z) m' b r' (e - 1) q ch x1 x2
        have := sub b' t' R' y1 (by omega) q fq y2 y3 x3 x4 x5
        omega
      have og : OUA V root (g - 1) := fun q fq x1 x2 x3 x4 x5 => by
        by_cases z : e - 1 < q
        · have := oe' q fq z x2 x3 x4 x5
          omega
        · have := mem R m g r t9 q fq (by omega) (by omega) x3 x4 x5
          omega
      have chc : ∀ (R' m' b r' : Nat), g ≤ b → b ≤ r' → r' ≤ e - 1 → CH (TR V d R') V m' b r' (e - 1) → CH (OKT V (EV V cev cag) d) V m' b r' (e - 1) := by
        intro R' m'
        induction m' with
        | zero => intro b r' _ _ _ h; exact h.elim
        | succ m' ihm =>
          intro b r' h1 h1' h1'' h2
          have or' : OUA V root r' := fun q fq x1 x2 x3 x4 x5 => by
            by_cases z : e - 1 < q
            · have := oe' q fq z x2 x3 x4 x5
              omega
            · rcases h2.2 with ⟨y1, y2, y3⟩ | ⟨y1, q', y2, y3, y4⟩
              · omega
              · have := mem R' m' (r' + 1) q' y4 q fq (by omega) (by omega) x3 x4 x5
                omega
          refine ⟨(ih R' b r' h2.1 or' (by omega) (by omega)).2, ?_⟩
          rcases h2.2 with ⟨y1, y2, y3⟩ | ⟨y1, q', y2, y3, y4⟩
          · exact Or.inl ⟨y1, y2, y3⟩
          · exact Or.inr ⟨y1, q', y2, y3, ihm (r' + 1) q' (by omega) y3 y4.le' y4⟩
      obtain ⟨c1, c2⟩ := ih R a (g - 1) t8 og (Nat.le_refl _) (by omega)
      refine ⟨fun w => ?_, fun k8 => ?_, fun u => ?_, fun h h1 h2 u => ?_, fun h k' h1 h2 h3 u => ?_, fun m2 h r2 R2 h1 h2 _ hl hr2 ch => ?_⟩
      · have y : rk V e = 11 := by
          obtain ⟨-, nn'⟩ := nn
          rcases nn' with ⟨-, q, -⟩ | ⟨-, q, -⟩ <;> exact q
        exact tv_11 (by omega) y
      · rw [k8] at s0; exact absurd s0 (by decide)
      · have := una_sh u; omega
      · have := bin_sh u; omega
      · rw [u] at s0; exact absurd s0 (by decide)
      · have rl' := ch.le'
        have e1 : h - 1 = g - 1 := (nI_eq (by omega) (by omega)).mp (hl.symm.trans t6)
        have e3 : h = g := by omega
        rw [e3] at ch h2 ⊢
        exact ⟨c2, chc R2 m2 g r2 (Nat.le_refl _) h2 rl' ch⟩
    · have s0 := agk_sh ak
      refine ⟨fun w => ?_, fun k8 => ?_, fun u => ?_, fun h h1 h2 u => ?_, fun h k' h1 h2 h3 u => ?_, fun m2 h r2 R2 h1 h2 u => ?_⟩
      · obtain ⟨-, ak⟩ := ak
        rcases ak with ⟨z, -⟩ | ⟨z, -⟩ | ⟨z, -⟩ | ⟨z, -⟩ <;> exact (num (by rw [z]; unfold NUMK; decide) (by rw [z]; decide) w).elim
      · rw [k8] at s0; exact absurd s0 (by decide)
      · have := una_sh u; omega
      · have := bin_sh u; omega
      · rw [u] at s0; exact absurd s0 (by decide)
      · have := inn_sh u; omega

/-! the class computes the value of an EXPR: all acts -/
/-- no aggregate that ends behind e reaches over e -/
def OUA (V : VT) (root e : Nat) : Prop := ∀ q fq, e < q → q ≤ root → AGC (vk V q) → vf V q = nI fq → fq ≤ q → e < fq
theorem una_val {V : VT} {cev : Nat → OV} {e : Nat} (he : e < 120) (h0 : 0 < e) (un : UNA V e) (hl : rl V e = nI (e - 1)) (tv : rk V e = 8 → TV (EV V cev cev (e - 1))) : o1 (vk V e) (EV V cev cev (e - 1)) = EV V cev cev e := by
  obtain ⟨-, un⟩ := un
  rcases un with ⟨z, y⟩ | ⟨z, y⟩ | ⟨z, y, w⟩ | ⟨z, y, w⟩
  · rw [EV.not (l := e - 1) (by omega) y hl (by omega), z]
    rcases tv y with q | q | q <;> rw [q] <;> decide
  · rw [EV.neg (l := e - 1) (by omega) y hl (by omega), z]
    unfold o1
    simp +decide only [reduceIte]
  · rw [EV.isn (l := e - 1) (by omega) y hl (by omega), z, w]
    unfold o1
    simp +decide only [reduceIte]
    cases EV V cev cev (e - 1) with
    | none => rfl
    | some v => rfl
  · rw [EV.isn (l := e - 1) (by omega) y hl (by omega), z, w]
    unfold o1
    simp +decide only [reduceIte]
theorem bin_val {V : VT} {cev : Nat → OV} {e g : Nat} (he : e < 120) (hg : 0 < g ∧ g < e) (bi : BIN V e) (hl : rl V e = nI (g - 1)) (hr : rr V e = nI (e - 1)) (tv : (rk V e = 6 ∨ rk V e = 7) → TV (EV V cev cev (g - 1)) ∧ TV (EV V cev cev (e - 1))) : o2 (vk V e) (EV V cev cev (g - 1)) (EV V cev cev (e - 1)) = EV V cev cev e := by
  by_cases k1 : vk V e = 28
  · have y : rk V e = 6 := by
      obtain ⟨-, b⟩ := bi
      rcases b with ⟨z, w⟩ | ⟨z, w⟩ | ⟨z, w⟩ | ⟨z, w⟩ | ⟨z, w⟩ | ⟨z, w⟩ | ⟨z, w⟩ | ⟨z, w⟩ | ⟨κ, q1, q2, z, w⟩
      · exact w
      all_goals first | (exact absurd (k1.symm.trans z) (by decide)) | (have := (nI_eq (a := 28) (b := κ) (by omega) (by omega)).mp (k1.symm.trans z); omega)
    rw [EV.and (l := g - 1) (r := e - 1) (by omega) y hl hr (by omega) (by omega), k1]
    obtain ⟨t1, t2⟩ := tv (Or.inl y)
    rcases t1 with q | q | q <;> rcases t2 with r | r | r <;> rw [q, r] <;> decide
  · by_cases k2 : vk V e = 29
    · have y : rk V e = 7 := by
        obtain ⟨-, b⟩ := bi
        rcases b with ⟨z, w⟩ | ⟨z, w⟩ | ⟨z, w⟩ | ⟨z, w⟩ | ⟨z, w⟩ | ⟨z, w⟩ | ⟨z, w⟩ | ⟨z, w⟩ | ⟨κ, q1, q2, z, w⟩
        · exact absurd (k2.symm.trans z) (by decide)
        · exact w
        all_goals first | (exact absurd (k2.symm.trans z) (by decide)) | (have := (nI_eq (a := 29) (b := κ) (by omega) (by omega)).mp (k2.symm.trans z); omega)
      rw [EV.or (l := g - 1) (r := e - 1) (by omega) y hl hr (by omega) (by omega), k2]
      obtain ⟨t1, t2⟩ := tv (Or.inr y)
      rcases t1 with q | q | q <;> rcases t2 with r | r | r <;> rw [q, r] <;> decide
    · have kk : rk V e = 9 ∨ rk V e = 12 ∨ rk V e = 13 ∨ rk V e = 14 ∨ rk V e = 15 ∨ rk V e = 16 ∨ rk V e = 19 := by
        obtain ⟨-, b⟩ := bi
        rcases b with ⟨z, w⟩ | ⟨z, w⟩ | ⟨z, w⟩ | ⟨z, w⟩ | ⟨z, w⟩ | ⟨z, w⟩ | ⟨z, w⟩ | ⟨z, w⟩ | ⟨κ, q1, q2, z, w, -⟩
        · exact absurd z k1
        · exact absurd z k2
        all_goals rw [w]; decide
      rw [EV.two (l := g - 1) (r := e - 1) (by omega) kk hl hr (by omega) (by omega)]
      unfold o2
      rw [if_neg k1, if_neg k2]
      have q : (fun a => (EV V cev cev (e - 1)).bind (fun b => rk2 (vk V e) a b)) = (fun a => (EV V cev cev (e - 1)).bind (fun b => tw (rk V e) (rh V e) a b)) := funext fun a => by
        have q2 : (fun b => rk2 (vk V e) a b) = (fun b => tw (rk V e) (rh V e) a b) := funext fun b => rk2_tw bi k1 k2
        rw [q2]
      rw [q]
theorem isq_eq {x : OV} {l l' : Nat → OV} {p : Nat} : ∀ j, (∀ i, i < p + 1 + j → l' i = l i) → isq x l' p j = isq x l p j
  | 0, _ => rfl
  | j + 1, h => by
    show inM x (isq x l' p j) (l' (p + 1 + j)) = inM x (isq x l p j) (l (p + 1 + j))
    rw [isq_eq j (fun i hi => h i (by omega)), h (p + 1 + j) (by omega)]
/-- the loop goes from the node a behind the node e, the value of e on the stack -/
def CMP (F c cap s ar n base A E root : Nat) (V : VT) (cev : Nat → OV) (a e : Nat) : Prop := ∀ (p u : Nat) (l : Nat → OV) (cs : CS), STK c cap l p cs → CST c s ar n base V cev A E cs → p + (e + 1 - a) ≤ cap → e + 1 - a < u → ∃ cs' u', c_X1_compute_L23 F u cs c (nI root) ar (nI base) (nI a) = c_X1_compute_L23 F u' cs' c (nI root) ar (nI base) (nI (e + 1)) ∧ u ≤ u' + (e + 1 - a) ∧ STK c cap (ul l p (EV V cev cev e)) (p + 1) cs' ∧ EVF c cs cs'
/-- the members of a list -/
theorem chn {F c cap s ar n base A E root : Nat} {V : VT} {cev : Nat → OV} (hc : ar ≠ c) : ∀ (m a r eE : Nat), CH (fun a r => a ≤ r ∧ CMP F c cap s ar n base A E root V cev a r) V m a r eE → a ≤ r → r ≤ eE → eE < 1000 → ∀ (p j u f : Nat) (l : Nat → OV) (cs : CS) (x : OV), STK c cap l (p + 1 + j) cs → CST c s ar n base V cev A E cs → p + 1 + j + (eE + 1 - a) ≤ cap → eE + 1 - a < u → m < f → ∃ cs' u' l', c_X1_compute_L23 F u cs c (nI root) ar (nI base) (nI a) = c_X1_compute_L23 F u' cs' c (nI root) ar (nI base) (nI (eE + 1)) ∧ u ≤ u' + (eE + 1 - a) ∧ STK c cap l' (p + 1 + j + m) cs' ∧ EVF c cs cs' ∧ (∀ i, i < p + 1 + j → l' i = l i) ∧ evI V (EV V cev cev) x f (isq x l p j) (nI r) = isq x l' p (j + m)
  | 0, _, _, _, h, _, _, _, _, _, _, _, _, _, _, _, _, _, _, _ => h.elim
  | m + 1, a, r, eE, h, har, hrE, h9, p, j, u, f, l, cs, x, sk, ct, hp, hu, hf => by
    obtain ⟨⟨-, h1⟩, h2⟩ := h
    obtain ⟨f, rfl⟩ : ∃ z, f = z + 1 := ⟨f - 1, by omega⟩
    obtain ⟨c1, u1, e1, e2, e3, e4⟩ := h1 (p + 1 + j) u l cs sk ct (by omega) (by omega)
    have ei : evI V (EV V cev cev) x (f + 1) (isq x l p j) (nI r) = evI V (EV V cev cev) x f (isq x (ul l (p + 1 + j) (EV V cev cev r)) p (j + 1)) (rx V r) := by
      rw [evI, if_neg (nI_nm1 (by omega)), nI_clamp (by omega)]
      show _ = evI V (EV V cev cev) x f (inM x (isq x (ul l (p + 1 + j) (EV V cev cev r)) p j) (ul l (p + 1 + j) (EV V cev cev r) (p + 1 + j))) (rx V r)
      rw [ul_s, isq_eq j (fun i hi => ul_n (by omega))]
    rcases h2 with ⟨y1, y2, y3⟩ | ⟨y1, q, y2, y3, y4⟩
    · refine ⟨c1, u1, _, by rw [e1, y2], by omega, by rw [y1]; exact e3, e4, fun i hi => ul_n (by omega), ?_⟩
      rw [ei, y3, y1]
      cases f with
      | zero => rfl
      | succ f => rw [evI, if_pos rfl]
    · have rq : r + 1 ≤ q := y3
      have qE : q ≤ eE := by
        cases m with
        | zero => exact y4.elim
        | succ m =>
          rcases y4.2 with ⟨z1, z2, z3⟩ | ⟨z1, -⟩
          · omega
          · omega
      obtain ⟨c2, u2, l2, g1, g2, g3, g4, g5, g6⟩ := chn hc m (r + 1) q eE y4 rq qE h9 p (j + 1) u1 f _ c1 x e3 (ct.evf e4 hc) (by omega) (by omega) (by omega)
      refine ⟨c2, u2, l2, e1.trans g1, by omega, by rw [show p + 1 + j + (m + 1) = p + 1 + (j + 1) + m by omega]; exact g3, e4.trans g4, fun i hi => (g5 i (by omega)).trans (ul_n (by omega)), ?_⟩
      rw [ei, y2, g6, show j + 1 + m = j + (m + 1) by omega]
theorem cmp_T {F c cap s ar n base A E root : Nat} {V : VT} {cev : Nat → OV} (hF : 10000 ≤ F) (hc : ar ≠ c) (sv' : SKV V s) (hrs : root < s) (hrE : root ≤ E) (hsc : s ≤ cap) (s2 : s ≤ 120) : ∀ (d a e : Nat), TR V d root a e → OKT V (EV V cev cev) d a e → OUA V root e → A ≤ a → e ≤ root → CMP F c cap s ar n base A E root V cev a e
  | 0, _, _, t, _, _, _, _ => t.elim
  | d + 1, a, e, t, ok, ou, hA, he => by
    intro p u l cs sk ct hp hu
    have cp := sk.cp
    have tt := t
    obtain ⟨ae, -, -, t⟩ := t
    obtain ⟨ok1, ok2, ok3, ok4, ok5⟩ := ok
    -- no skip at e
    have nsk : ∀ (u : Nat) (l : Nat → OV) (p : Nat) (cs : CS), STK c cap l p cs → CST c s ar n base V cev A E cs → c_X1_compute_L23 F (u + 1) cs c (nI root) ar (nI base) (nI e) = c_X1_compute_b61 F (c_X1_compute_L23 F u) cs c (nI root) ar (nI base) (nI e) := fun u l p cs sk ct => by
      rw [c_X1_compute_L23, if_neg (fun w => absurd ((nI_ltI (by omega) (by omega)).mp w) (by omega)), rc_71 ct sk.ca sk.oc sk.cp hsc (by omega), rc_71 ct sk.ca sk.oc sk.cp hsc (by omega), rc_71 ct sk.ca sk.oc sk.cp hsc (by omega)]
      rcases sv' e (by omega) with y | ⟨q, q1, q2, q3, q4, q5⟩
      · rw [y, if_pos (m1_le (by omega))]
      · rw [q3, if_neg (nI_ge q1 (by omega))]
        by_cases w : q ≤ root
        · exact absurd (ou q e q1 w q5 q4 (by omega)) (by omega)
        · rw [if_pos (nI_lt (by omega) (by omega))]
    have ih := fun (a e : Nat) (t : TR V d root a e) (ok : OKT V (EV V cev cev) d a e) (ou : OUA V root e) (h1 : A ≤ a) (h2 : e ≤ root) => cmp_T (n := n) (base := base) hF hc sv' hrs hrE hsc s2 d a e t ok ou h1 h2
    have sub : ∀ (b t9 : Nat) (R : Nat), TR V d R b t9 → t9 ≤ root → ∀ q fq, b ≤ q → q ≤ t9 → AGC (vk V q) → vf V q = nI fq → fq ≤ q → b ≤ fq := fun b t9 R tr ht q fq w1 w2 w3 w4 w5 => by
      obtain ⟨b', x1, x2, x3, x4⟩ := TR.suba w3 d R b t9 tr w1 w2
      have e9 : b' = fq := (nI_eq (by omega) (by omega)).mp (x3.symm.trans w4)
      omega
    have fin : ∀ (u : Nat) (l' : Nat → OV) (p' : Nat) (c1 : CS), STK c cap l' p' c1 → CST c s ar n base V cev A E c1 → EVF c cs c1 → (∃ cs', c_X1_compute_b61 F (c_X1_compute_L23 F u) c1 c (nI root) ar (nI base) (nI e) = c_X1_compute_L23 F u cs' c (nI root) ar (nI base) (nI (e + 1)) ∧ STK c cap (ul l p (EV V cev cev e)) (p + 1) cs' ∧ EVF c c1 cs') → ∃ cs', c_X1_compute_L23 F (u + 1) c1 c (nI root) ar (nI base) (nI e) = c_X1_compute_L23 F u cs' c (nI root) ar (nI base) (nI (e + 1)) ∧ STK c cap (ul l p (EV V cev cev e)) (p + 1) cs' ∧ EVF c cs cs' := fun u l' p' c1 w1 w2 w3 w4 => by
      obtain ⟨cs', x1, x2, x3⟩ := w4
      exact ⟨cs', (nsk u l' p' c1 w1 w2).trans x1, x2, w3.trans x3⟩
    rcases t with ⟨t1, t2, lf⟩ | ⟨t1, un, t2, t3⟩ | ⟨g, t1, t2, bi, t3, t4, t5, t6⟩ | ⟨g, k, t1, t2, t3, t4, t5, t6, t7, t8, t9, t10, t11, t12⟩ | ⟨m, g, r, t1, t2, t3, t4, t5, nn, t6, t7, t8, t9⟩ | ⟨t1, ak, t2, t3, t4, t5⟩
    · -- a leaf
      obtain ⟨u, rfl⟩ : ∃ z, u = z + 1 := ⟨u - 1, by omega⟩
      obtain ⟨cs', x1, x2, x3⟩ := fin u l p cs sk ct EVF.refl (leaf_c ct sk (by omega) hsc (by omega) (by omega) (by omega) (Or.inl lf))
      rw [t1]
      exact ⟨cs', u, x1, by omega, x2, x3⟩
    · -- one part
      have o1' : OUA V root (e - 1) := fun q fq w1 w2 w3 w4 w5 => by
        by_cases z : e < q
        · have := ou q fq z w2 w3 w4 w5
          omega
        · have eq : q = e := by omega
          rw [eq] at w3
          obtain ⟨-, un⟩ := un
          unfold AGC at w3
          rcases un with ⟨z, -⟩ | ⟨z, -⟩ | ⟨z, -⟩ | ⟨z, -⟩ <;> rw [z] at w3 <;> exact absurd w3 (by decide)
      obtain ⟨c1, u1, e1, e2, e3, e4⟩ := ih a (e - 1) t3 (ok2 un) o1' hA (by omega) p u l cs sk ct (by omega) (by omega)
      rw [show e - 1 + 1 = e by omega] at e1 e2
      obtain ⟨u1, rfl⟩ : ∃ z, u1 = z + 1 := ⟨u1 - 1, by omega⟩
      have ct1 := ct.evf e4 hc
      obtain ⟨c2, x1, x2, x3⟩ := one_ok (F := F) (κ := vk V e) e3
      have vv := una_val (V := V) (cev := cev) (e := e) (by omega) (by omega) un t2 ok1
      rw [ul_s, vv] at x2
      have ull : ul (ul l p (EV V cev cev (e - 1))) p (EV V cev cev e) = ul l p (EV V cev cev e) := funext fun i => by
        by_cases w : i = p
        · rw [w, ul_s, ul_s]
        · rw [ul_n w, ul_n w, ul_n w]
      rw [ull] at x2
      obtain ⟨cs', z1, z2, z3⟩ := fin u1 _ _ c1 e3 ct1 e4 ⟨c2, by
        have b339 : c_X1_compute_b339 F (c_X1_compute_L23 F u1) c1 c (nI root) ar (nI base) (nI e) = c_X1_compute_L23 F u1 c2 c (nI root) ar (nI base) (nI (e + 1)) := by
          unfold c_X1_compute_b339 c_X1_compute_b404
          rw [rc_65 ct1 e3.ca e3.oc e3.cp hsc (by omega), ckE_ok e3.oc, ob_s, x1, ob_s, nI_1]
        unfold c_X1_compute_b61
        rw [rc_65 ct1 e3.ca e3.oc e3.cp hsc (by omega)]
        obtain ⟨-, un⟩ := un
        rcases un with ⟨z, -⟩ | ⟨z, -⟩ | ⟨z, -⟩ | ⟨z, -⟩ <;> rw [z] <;> simp +decide only [reduceIte] <;> exact b339, x2, x3⟩
      exact ⟨cs', u1, e1.trans z1, by omega, z2, z3⟩
    · -- two parts
      obtain ⟨w1, w2, w3⟩ := ok3 g t1 t2 bi t3
      have nag : ¬ AGC (vk V e) := fun w => by
        obtain ⟨-, b⟩ := bi
        unfold AGC at w
        rcases b with ⟨z, -⟩ | ⟨z, -⟩ | ⟨z, -⟩ | ⟨z, -⟩ | ⟨z, -⟩ | ⟨z, -⟩ | ⟨z, -⟩ | ⟨z, -⟩ | ⟨κ, q1, q2, z, -⟩
        all_goals first | (rw [z] at w; exact absurd w (by decide)) | skip
        have c6 : κ = 50 ∨ κ = 51 ∨ κ = 52 ∨ κ = 53 ∨ κ = 54 ∨ κ = 55 := by omega
        rw [z] at w
        rcases c6 with q | q | q | q | q | q <;> rw [q] at w <;> exact absurd w (by decide)
      have oe : OUA V root (e - 1) := fun q fq x1 x2 x3 x4 x5 => by
        by_cases z : e < q
        · have := ou q fq z x2 x3 x4 x5
          omega
        · have eq : q = e := by omega
          rw [eq] at x3
          exact absurd x3 nag
      have og : OUA V root (g - 1) := fun q fq x1 x2 x3 x4 x5 => by
        by_cases z : e - 1 < q
        · have := oe q fq z x2 x3 x4 x5
          omega
        · have := sub g (e - 1) root t6 (by omega) q fq (by omega) (by omega) x3 x4 x5
          omega
      obtain ⟨c1, u1, e1, e2, e3, e4⟩ := ih a (g - 1) t5 w2 og hA (by omega) p u l cs sk ct (by omega) (by omega)
      rw [show g - 1 + 1 = g by omega] at e1 e2
      have ct1 := ct.evf e4 hc
      obtain ⟨c2, u2, f1, f2, f3, f4⟩ := ih g (e - 1) t6 w3 oe (by omega) (by omega) (p + 1) u1 _ c1 e3 ct1 (by omega) (by omega)
      rw [show e - 1 + 1 = e by omega] at f1 f2
      obtain ⟨u2, rfl⟩ : ∃ z, u2 = z + 1 := ⟨u2 - 1, by omega⟩
      have ct2 := ct1.evf f4 hc
      obtain ⟨c3, x1, x2, x3⟩ := two_c (F := F) (κ := vk V e) f3
      have vv := bin_val (V := V) (cev := cev) (e := e) (g := g) (by omega) ⟨by omega, t2⟩ bi t3 t4 w1
      rw [ul_s, ul_n (show p ≠ p + 1 by omega), ul_s, vv] at x2
      have ull : ∀ i, i < p + 1 → ul (ul (ul l p (EV V cev cev (g - 1))) (p + 1) (EV V cev cev (e - 1))) p (EV V cev cev e) i = ul l p (EV V cev cev e) i := fun i hi => by
        by_cases w : i = p
        · rw [w, ul_s, ul_s]
        · rw [ul_n w, ul_n w, ul_n (by omega), ul_n w]
      have x2' : STK c cap (ul l p (EV V cev cev e)) (p + 1) c3 := ⟨x2.ca, x2.oc, x2.tp, x2.pc, x2.cp, fun i hi => by rw [← ull i hi]; exact x2.sv i hi⟩
      obtain ⟨cs', z1, z2, z3⟩ := fin u2 _ _ c2 f3 ct2 (e4.trans f4) ⟨c3, by
        have b393 : c_X1_compute_b393 F (c_X1_compute_L23 F u2) c2 c (nI root) ar (nI base) (nI e) = c_X1_compute_L23 F u2 c3 c (nI root) ar (nI base) (nI (e + 1)) := by
          unfold c_X1_compute_b393 c_X1_compute_b404
          rw [rc_65 ct2 f3.ca f3.oc f3.cp hsc (by omega), ckE_ok f3.oc, ob_s, x1, ob_s, nI_1]
        unfold c_X1_compute_b61
        rw [rc_65 ct2 f3.ca f3.oc f3.cp hsc (by omega)]
        obtain ⟨-, b⟩ := bi
        rcases b with ⟨z, -⟩ | ⟨z, -⟩ | ⟨z, -⟩ | ⟨z, -⟩ | ⟨z, -⟩ | ⟨z, -⟩ | ⟨z, -⟩ | ⟨z, -⟩ | ⟨κ, q1, q2, z, -⟩
        · rw [z]; simp +decide only [reduceIte]; exact b393
        · rw [z]; simp +decide only [reduceIte]; exact b393
        · rw [z]; simp +decide only [reduceIte]; exact b393
        · rw [z]; simp +decide only [reduceIte]; exact b393
        · rw [z]; simp +decide only [reduceIte]; exact b393
        · rw [z]; simp +decide only [reduceIte]; exact b393
        · rw [z]; simp +decide only [reduceIte]; exact b393
        · rw [z]; simp +decide only [reduceIte]; exact b393
        · have c6 : κ = 50 ∨ κ = 51 ∨ κ = 52 ∨ κ = 53 ∨ κ = 54 ∨ κ = 55 := by omega
          rw [z]
          rcases c6 with q | q | q | q | q | q <;> rw [q] <;> simp +decide only [reduceIte] <;> exact b393, x2', x3⟩
      exact ⟨cs', u2, (e1.trans f1).trans z1, by omega, z2, z3⟩
    · -- case
      obtain ⟨w1, w2, w3⟩ := ok4 g k t1 t2 t3 t6 t7 t8
      have nag : ¬ AGC (vk V e) := fun w => by unfold AGC at w; rw [t5] at w; exact absurd w (by decide)
      have oe : OUA V root (e - 1) := fun q fq x1 x2 x3 x4 x5 => by
        by_cases z : e < q
        · have := ou q fq z x2 x3 x4 x5
          omega
        · have eq : q = e := by omega
          rw [eq] at x3
          exact absurd x3 nag
      have ok' : OUA V root (k - 1) := fun q fq x1 x2 x3 x4 x5 => by
        by_cases z : e - 1 < q
        · have := oe q fq z x2 x3 x4 x5
          omega
        · have := sub k (e - 1) root t12 (by omega) q fq (by omega) (by omega) x3 x4 x5
          omega
      have og : OUA V root (g - 1) := fun q fq x1 x2 x3 x4 x5 => by
        by_cases z : k - 1 < q
        · have := ok' q fq z x2 x3 x4 x5
          omega
        · have := sub g (k - 1) root t11 (by omega) q fq (by omega) (by omega) x3 x4 x5
          omega
      obtain ⟨c1, u1, e1, e2, e3, e4⟩ := ih a (g - 1) t10 w1 og hA (by omega) p u l cs sk ct (by omega) (by omega)
      rw [show g - 1 + 1 = g by omega] at e1 e2
      have ct1 := ct.evf e4 hc
      obtain ⟨c2, u2, f1, f2, f3, f4⟩ := ih g (k - 1) t11 w2 ok' (by omega) (by omega) (p + 1) u1 _ c1 e3 ct1 (by omega) (by omega)
      rw [show k - 1 + 1 = k by omega] at f1 f2
      have ct2 := ct1.evf f4 hc
      obtain ⟨c3, u3, g1, g2, g3, g4⟩ := ih k (e - 1) t12 w3 oe (by omega) (by omega) (p + 2) u2 _ c2 f3 ct2 (by omega) (by omega)
      rw [show e - 1 + 1 = e by omega] at g1 g2
      obtain ⟨u3, rfl⟩ : ∃ z, u3 = z + 1 := ⟨u3 - 1, by omega⟩
      have ct3 := ct2.evf g4 hc
      obtain ⟨c4, x1, x2, x3⟩ := choose_c (F := F) (p := p) g3
      have vv : o3 (EV V cev cev (g - 1)) (EV V cev cev (k - 1)) (EV V cev cev (e - 1)) = EV V cev cev e := by
        rw [EV.cas (l := g - 1) (r := k - 1) (t := e - 1) (by omega) t6 t7 t8 t9 (by omega) (by omega) (by omega)]
        rfl
      rw [ul_s, ul_n (show p ≠ p + 2 by omega), ul_n (show p ≠ p + 1 by omega), ul_s, ul_n (show p + 1 ≠ p + 2 by omega), ul_s, vv] at x2
      have x2' : STK c cap (ul l p (EV V cev cev e)) (p + 1) c4 := ⟨x2.ca, x2.oc, x2.tp, x2.pc, x2.cp, fun i hi => by
        have q := x2.sv i hi
        by_cases w : i = p
        · rw [w, ul_s] at q ⊢
          exact q
        · rw [ul_n w, ul_n (by omega), ul_n (by omega), ul_n w] at q
          rw [ul_n w]
          exact q⟩
      obtain ⟨cs', z1, z2, z3⟩ := fin u3 _ _ c3 g3 ct3 ((e4.trans f4).trans g4) ⟨c4, by
        unfold c_X1_compute_b61 c_X1_compute_b404
        rw [rc_65 ct3 g3.ca g3.oc g3.cp hsc (by omega), t5]
        simp +decide only [reduceIte]
        rw [ckE_ok g3.oc, ob_s, x1, ob_s, nI_1], x2', x3⟩
      exact ⟨cs', u3, ((e1.trans f1).trans g1).trans z1, by omega, z2, z3⟩
    · -- a list
      obtain ⟨w1, w2⟩ := ok5 m g r root t3 t4 nn t6 t7 t9
      obtain ⟨vp', nn'⟩ := nn
      have nag : ¬ AGC (vk V e) := fun w => by
        unfold AGC at w
        rcases nn' with ⟨z, -⟩ | ⟨z, -⟩ <;> rw [z] at w <;> exact absurd w (by decide)
      have oe : OUA V root (e - 1) := fun q fq x1 x2 x3 x4 x5 => by
        by_cases z : e < q
        · have := ou q fq z x2 x3 x4 x5
          omega
        · have eq : q = e := by omega
          rw [eq] at x3
          exact absurd x3 nag
      have mem : ∀ (m' b r' : Nat), CH (TR V d root) V m' b r' (e - 1) → ∀ q fq, b ≤ q → q ≤ e - 1 → AGC (vk V q) → vf V q = nI fq → fq ≤ q → b ≤ fq := fun m' b r' ch q fq x1 x2 x3 x4 x5 => by
        obtain ⟨b', t', y1, y2, y3, y4, y5⟩ := CH.mem (fun _ _ z => TR.ae z) m' b r' (e - 1) q ch x1 x2
        have := sub b' t' root y1 (by omega) q fq y2 y3 x3 x4 x5
        omega
      have og : OUA V root (g - 1) := fun q fq x1 x2 x3 x4 x5 => by
        by_cases z : e - 1 < q
        · have := oe q fq z x2 x3 x4 x5
          omega
        · have := mem m g r t9 q fq (by omega) (by omega) x3 x4 x5
          omega
      obtain ⟨c1, u1, e1, e2, e3, e4⟩ := ih a (g - 1) t8 w1 og hA (by omega) p u l cs sk ct (by omega) (by omega)
      rw [show g - 1 + 1 = g by omega] at e1 e2
      have ct1 := ct.evf e4 hc
      have chc : ∀ (m' b r' : Nat), g ≤ b → b ≤ r' → r' ≤ e - 1 → CH (TR V d root) V m' b r' (e - 1) → CH (OKT V (EV V cev cev) d) V m' b r' (e - 1) → CH (fun a r => a ≤ r ∧ CMP F c cap s ar n base A E root V cev a r) V m' b r' (e - 1) := by
        intro m'
        induction m' with
        | zero => intro b r' _ _ _ h; exact h.elim
        | succ m' ihm =>
          intro b r' h1 h1' h1'' h2 h3
          have or' : OUA V root r' := fun q fq x1 x2 x3 x4 x5 => by
            by_cases z : e - 1 < q
            · have := oe q fq z x2 x3 x4 x5
              omega
            · rcases h2.2 with ⟨y1, y2, y3⟩ | ⟨y1, q', y2, y3, y4⟩
              · omega
              · have := mem m' (r' + 1) q' y4 q fq (by omega) (by omega) x3 x4 x5
                omega
          refine ⟨⟨h1', ih b r' h2.1 h3.1 or' (by omega) (by omega)⟩, ?_⟩
          rcases h2.2 with ⟨y1, y2, y3⟩ | ⟨y1, q', y2, y3, y4⟩
          · exact Or.inl ⟨y1, y2, y3⟩
          · rcases h3.2 with ⟨z1, z2, z3⟩ | ⟨z1, q'', z2, z3, z4⟩
            · omega
            · have qe : q' ≤ e - 1 := by
                cases m' with
                | zero => exact y4.elim
                | succ m' =>
                  rcases y4.2 with ⟨a1, a2, a3⟩ | ⟨a1, -⟩
                  · omega
                  · omega
              have qe2 : q'' ≤ e - 1 := by
                cases m' with
                | zero => exact z4.elim
                | succ m' =>
                  rcases z4.2 with ⟨a1, a2, a3⟩ | ⟨a1, -⟩
                  · omega
                  · omega
              have eq : q' = q'' := (nI_eq (by omega) (by omega)).mp (y2.symm.trans z2)
              rw [← eq] at z4
              exact Or.inr ⟨y1, q', y2, y3, ihm (r' + 1) q' (by omega) y3 qe y4 z4⟩
      have chn' := chn hc m g r (e - 1) (chc m g r (Nat.le_refl _) t4 (by omega) t9 w2) t4 (by omega) (by omega) p 0 u1 121 _ c1 (EV V cev cev (g - 1)) e3 ct1 (by omega) (by omega) (by omega)
      obtain ⟨c2, u2, l2, f1, f2, f3, f4, f5, f6⟩ := chn'
      rw [show e - 1 + 1 = e by omega] at f1 f2
      obtain ⟨u2, rfl⟩ : ∃ z, u2 = z + 1 := ⟨u2 - 1, by omega⟩
      have ct2 := ct1.evf f4 hc
      have l2p : l2 p = EV V cev cev (g - 1) := (f5 p (by omega)).trans ul_s
      have f3' : STK c cap l2 (p + m + 1) c2 := by rw [show p + m + 1 = p + 1 + 0 + m by omega]; exact f3
      obtain ⟨ifF, hif⟩ : ∃ z : Int32, (z = 1 ∧ rh V e = 0 ∧ vk V e = 27) ∨ (z = 0 ∧ rh V e = 1 ∧ vk V e = 60) := by
        rcases nn' with ⟨z, -, w⟩ | ⟨z, -, w⟩
        · exact ⟨1, Or.inl ⟨rfl, w, z⟩⟩
        · exact ⟨0, Or.inr ⟨rfl, w, z⟩⟩
      obtain ⟨c3, x1, x2, x3⟩ := search_c (F := F) (ifF := ifF) (h9 := rh V e) hF (hif.imp (fun q => ⟨q.1, q.2.1⟩) (fun q => ⟨q.1, q.2.1⟩)) f3'
      have yk : rk V e = 11 := by rcases nn' with ⟨-, q, -⟩ | ⟨-, q, -⟩ <;> exact q
      have vv : ofT (inR (rh V e) (isq (l2 p) l2 p m)) = EV V cev cev e := by
        rw [EV.inn (l := g - 1) (r := r) (by omega) yk t6 t7 (by omega) (t9.chl m g r (e - 1) e (by omega) (by omega)), l2p]
        rw [Nat.zero_add] at f6
        rw [← f6]
        rfl
      rw [vv] at x2
      have x2' : STK c cap (ul l p (EV V cev cev e)) (p + 1) c3 := ⟨x2.ca, x2.oc, x2.tp, x2.pc, x2.cp, fun i hi => by
        have q := x2.sv i hi
        by_cases w : i = p
        · rw [w, ul_s] at q ⊢
          exact q
        · rw [ul_n w, f5 i (by omega), ul_n w] at q
          rw [ul_n w]
          exact q⟩
      obtain ⟨cs', z1, z2, z3⟩ := fin u2 _ _ c2 f3' ct2 (e4.trans f4) ⟨c3, by
        obtain ⟨j8, h8⟩ := f3'.ca.p68
        have b360 : c_X1_compute_b360 F (c_X1_compute_L23 F u2) c2 c (nI root) ar (nI base) (nI e) = c_X1_compute_L23 F u2 c3 c (nI root) ar (nI base) (nI (e + 1)) := by
          unfold c_X1_compute_b360 c_X1_compute_b387 c_X1_compute_b404
          rw [gA_ok f3'.oc, h8, ob_s, rA_n f3'.ca.e68 h8 (by rw [f3'.ca.l68]; omega) (by rw [f3'.ca.l68]; omega), ob_s, (ct2.k (y := e) (by omega)).2.2.1, vp', nI_pred, rc_65 ct2 f3'.ca f3'.oc f3'.cp hsc (by omega), ckE_ok f3'.oc, ob_s, ob_s, nI_1]
          rcases hif with ⟨q1, q2, q3⟩ | ⟨q1, q2, q3⟩
          · rw [q3, if_pos rfl]
            rw [q1] at x1
            rw [x1, ob_s]
          · rw [q3, if_neg (by decide)]
            rw [q1] at x1
            rw [x1, ob_s]
        unfold c_X1_compute_b61
        rw [rc_65 ct2 f3'.ca f3'.oc f3'.cp hsc (by omega)]
        rcases nn' with ⟨z, -⟩ | ⟨z, -⟩ <;> rw [z] <;> simp +decide only [reduceIte] <;> exact b360, x2', x3⟩
      exact ⟨cs', u2, (e1.trans f1).trans z1, by omega, z2, z3⟩
    · -- an aggregate: what is within is skipped
      obtain ⟨u, rfl⟩ : ∃ z, u = z + 1 := ⟨u - 1, by omega⟩
      obtain ⟨cs', x1, x2, x3⟩ := leaf_c (F := F) (root := root) (rc := c_X1_compute_L23 F u) ct sk (by omega) hsc (show e < s by omega) (by omega) (by omega) (Or.inr ak)
      refine ⟨cs', u, ?_, by omega, x2, x3⟩
      rw [c_X1_compute_L23, if_neg (fun w => absurd ((nI_ltI (by omega) (by omega)).mp w) (by omega)), rc_71 ct sk.ca sk.oc sk.cp hsc (by omega), rc_71 ct sk.ca sk.oc sk.cp hsc (by omega), rc_71 ct sk.ca sk.oc sk.cp hsc (by omega), t3, if_neg (nI_ge t1 (by omega)), if_neg (fun w => absurd ((nI_ltI (by omega) (by omega)).mp w) (by omega))]
      exact x1

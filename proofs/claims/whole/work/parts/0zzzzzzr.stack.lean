/-! the class's stack -/
def ul (l : Nat → OV) (p : Nat) (x : OV) : Nat → OV := fun i => if i = p then x else l i
theorem ul_s {l : Nat → OV} {p : Nat} {x : OV} : ul l p x p = x := if_pos rfl
theorem ul_n {l : Nat → OV} {p i : Nat} {x : OV} (h : i ≠ p) : ul l p x i = l i := if_neg h
/-- a value as the class holds it -/
def CV (v : Int64) (b : Int32) (x : OV) : Prop := (b = 0 ∧ x = some v) ∨ (b = 1 ∧ v = 0 ∧ x = none)
def STK (c cap : Nat) (l : Nat → OV) (p : Nat) (cs : CS) : Prop := (CA c cap cs) ∧ ((2, c) ∈ kE cs) ∧ (kI cs 76 c = nI p) ∧ (p ≤ cap) ∧ (cap ≤ 120) ∧ (∀ i, i < p → CV (kB cs 74 c i) (kA cs 75 c i) (l i))
theorem STK.ca {c cap : Nat} {l : Nat → OV} {p : Nat} {cs : CS} (h : STK c cap l p cs) : CA c cap cs := h.1
theorem STK.oc {c cap : Nat} {l : Nat → OV} {p : Nat} {cs : CS} (h : STK c cap l p cs) : (2, c) ∈ kE cs := h.2.1
theorem STK.tp {c cap : Nat} {l : Nat → OV} {p : Nat} {cs : CS} (h : STK c cap l p cs) : kI cs 76 c = nI p := h.2.2.1
theorem STK.pc {c cap : Nat} {l : Nat → OV} {p : Nat} {cs : CS} (h : STK c cap l p cs) : p ≤ cap := h.2.2.2.1
theorem STK.cp {c cap : Nat} {l : Nat → OV} {p : Nat} {cs : CS} (h : STK c cap l p cs) : cap ≤ 120 := h.2.2.2.2.1
theorem STK.sv {c cap : Nat} {l : Nat → OV} {p : Nat} {cs : CS} (h : STK c cap l p cs) : ∀ i, i < p → CV (kB cs 74 c i) (kA cs 75 c i) (l i) := h.2.2.2.2.2
/-- what computing writes -/
def EVF (c : Nat) (cs cs' : CS) : Prop := cs'.1 = cs.1 ∧ (∀ x j, ¬ (j = c ∧ 74 ≤ x ∧ x ≤ 76) → AT cs cs' x j) ∧ ∀ x j, kP cs' x j = kP cs x j ∧ kL cs' x j = kL cs x j
theorem EVF.refl {c : Nat} {cs : CS} : EVF c cs cs := ⟨rfl, fun _ _ _ => AT.refl, fun _ _ => ⟨rfl, rfl⟩⟩
theorem EVF.trans {c : Nat} {a b d : CS} (h : EVF c a b) (g : EVF c b d) : EVF c a d := ⟨g.1.trans h.1, fun x j hx => (h.2.1 x j hx).trans (g.2.1 x j hx), fun x j => ⟨(g.2.2 x j).1.trans (h.2.2 x j).1, (g.2.2 x j).2.trans (h.2.2 x j).2⟩⟩
theorem EVF.em {c : Nat} {a b : CS} (h : EVF c a b) : EM a b := EM.of (congrArg (fun z => z.2.2) h.1)
theorem EVF.i {c : Nat} {cs : CS} {v : Int32} : EVF c cs (sI cs 76 c v) := ⟨rfl, fun x j hx => AT.sI (by omega), fun _ _ => ⟨rfl, rfl⟩⟩
theorem EVF.a {c i : Nat} {cs : CS} {v : Int32} : EVF c cs (sA cs 75 c i v) := ⟨rfl, fun x j hx => AT.sA (by omega), fun _ _ => ⟨rfl, rfl⟩⟩
theorem EVF.b {c i : Nat} {cs : CS} {v : Int64} : EVF c cs (sB cs 74 c i v) := ⟨rfl, fun x j hx => AT.sB (by omega), fun _ _ => ⟨rfl, rfl⟩⟩
theorem CA.evf {c cap : Nat} {a b : CS} (h : CA c cap a) (g : EVF c a b) : CA c cap b := by
  have e := g.em
  have p := fun x => (g.2.2 x c).1
  have l := fun x => (g.2.2 x c).2
  refine ⟨e _ h.e65, ?_, ?_, e _ h.e66, ?_, ?_, e _ h.e67, ?_, ?_, e _ h.e68, ?_, ?_, e _ h.e69, ?_, ?_, e _ h.e70, ?_, ?_, e _ h.e71, ?_, ?_, e _ h.e72, ?_, ?_, e _ h.e73, ?_, ?_, e _ h.e74, ?_, ?_, e _ h.e75, ?_, ?_⟩
  · rw [p]; exact h.p65
  · rw [l]; exact h.l65
  · rw [p]; exact h.p66
  · rw [l]; exact h.l66
  · rw [p]; exact h.p67
  · rw [l]; exact h.l67
  · rw [p]; exact h.p68
  · rw [l]; exact h.l68
  · rw [p]; exact h.p69
  · rw [l]; exact h.l69
  · rw [p]; exact h.p70
  · rw [l]; exact h.l70
  · rw [p]; exact h.p71
  · rw [l]; exact h.l71
  · rw [p]; exact h.p72
  · rw [l]; exact h.l72
  · rw [p]; exact h.p73
  · rw [l]; exact h.l73
  · rw [p]; exact h.p74
  · rw [l]; exact h.l74
  · rw [p]; exact h.p75
  · rw [l]; exact h.l75
theorem STK.rdB {c cap p i : Nat} {l : Nat → OV} {cs : CS} {α : Type} {G : Int64 → Option α} (h : STK c cap l p cs) (hi : i < cap) : (Option.bind (gA cs 2 74 c) fun v => Option.bind (rB cs 74 c v (nI i)) fun w => G w) = G (kB cs 74 c i) := by
  obtain ⟨j, hj⟩ := h.ca.p74
  have cp := h.cp
  rw [gA_ok h.oc, hj, ob_s, rB_n h.ca.e74 hj (by rw [h.ca.l74]; omega) (by rw [h.ca.l74]; omega), ob_s]
theorem STK.rdA {c cap p i : Nat} {l : Nat → OV} {cs : CS} {α : Type} {G : Int32 → Option α} (h : STK c cap l p cs) (hi : i < cap) : (Option.bind (gA cs 2 75 c) fun v => Option.bind (rA cs 75 c v (nI i)) fun w => G w) = G (kA cs 75 c i) := by
  obtain ⟨j, hj⟩ := h.ca.p75
  have cp := h.cp
  rw [gA_ok h.oc, hj, ob_s, rA_n h.ca.e75 hj (by rw [h.ca.l75]; omega) (by rw [h.ca.l75]; omega), ob_s]
/-- the top lowered -/
theorem STK.low {c cap p q : Nat} {l : Nat → OV} {cs : CS} (h : STK c cap l p cs) (hq : q ≤ p) : STK c cap l q (sI cs 76 c (nI q)) := by
  have pc := h.pc
  exact ⟨h.ca.evf EVF.i, h.oc, kI_s, by omega, h.cp, fun i hi => h.sv i (by omega)⟩
theorem push_ok {F c cap p : Nat} {l : Nat → OV} {cs : CS} {v : Int64} {b : Int32} {x : OV} (h : STK c cap l p cs) (hp : p < cap) (hx : (b = 0 ∧ x = some v) ∨ (b = 1 ∧ x = none)) : ∃ cs', c_X1_push F cs c v b = some cs' ∧ STK c cap (ul l p x) (p + 1) cs' ∧ EVF c cs cs' := by
  have cp := h.cp
  obtain ⟨j4, h4⟩ := h.ca.p74
  obtain ⟨j5, h5⟩ := h.ca.p75
  obtain ⟨v', b', hv⟩ : ∃ (v' : Int64) (b' : Int32), (v' = if b = 0 then v else 0) ∧ b' = b := ⟨_, _, rfl, rfl⟩
  have nar : vp_nar .byte b.toInt8.toInt32 = b := by
    rcases hx with ⟨q, -⟩ | ⟨q, -⟩ <;> rw [q] <;> rfl
  obtain ⟨c1, hc1⟩ : ∃ y, y = sB cs 74 c p v' := ⟨_, rfl⟩
  obtain ⟨c2, hc2⟩ : ∃ y, y = sA c1 75 c p b := ⟨_, rfl⟩
  have f1 : EVF c cs c1 := by rw [hc1]; exact EVF.b
  have f2 : EVF c c1 c2 := by rw [hc2]; exact EVF.a
  have t1 : kI c1 76 c = nI p := by rw [hc1]; exact h.tp
  have t2 : kI c2 76 c = nI p := by rw [hc2]; exact t1
  have o1 : (2, c) ∈ kE c1 := f1.em _ h.oc
  have o2 : (2, c) ∈ kE c2 := f2.em _ o1
  have run : c_X1_push F cs c v b = some (sI c2 76 c (nI (p + 1))) := by
    unfold c_X1_push c_X1_push_b41 c_X1_push_b63
    rw [gI_ok h.oc, ob_s, h.tp, gA_ok h.oc, h4, ob_s, lnA_n h.ca.e74 h4, ob_s, h.ca.l74, if_neg (nI_ge hp (by omega)), gA_ok h.oc, h5, ob_s, ob_s, lnA_n h.ca.e75 h5, ob_s, h.ca.l75, if_neg (nI_ge hp (by omega)), ob_s, ob_s]
    have fin : (Option.bind (wB cs 74 c j4 (nI p) v') fun cs_1 => Option.bind (gA cs_1 2 75 c) fun v_2 => Option.bind (gI cs_1 2 76 c) fun v_3 => Option.bind (wA cs_1 75 c v_2 v_3 (vp_nar .byte b.toInt8.toInt32)) fun cs_4 => Option.bind (gI cs_4 2 76 c) fun v_5 => Option.bind (pI cs_4 2 76 c (v_5 + 1)) fun cs_6 => some cs_6) = some (sI c2 76 c (nI (p + 1))) := by
      rw [wB_n h.ca.e74 h4 (by rw [h.ca.l74]; omega) (by rw [h.ca.l74]; omega), ob_s, ← hc1, gA_ok o1, (f1.2.2 75 c).1, h5, ob_s, gI_ok o1, ob_s, t1, nar, wA_n (f1.em _ h.ca.e75) (by rw [(f1.2.2 75 c).1]; exact h5) (by rw [(f1.2.2 75 c).2, h.ca.l75]; omega) (by rw [(f1.2.2 75 c).2, h.ca.l75]; omega), ob_s, ← hc2, gI_ok o2, ob_s, t2, pI_ok o2, ob_s, nI_1]
    rcases hx with ⟨q, -⟩ | ⟨q, -⟩
    · rw [if_pos q]
      rw [hv.1, if_pos q] at fin
      exact fin
    · rw [if_neg (by rw [q]; decide)]
      rw [hv.1, if_neg (by rw [q]; decide)] at fin
      exact fin
  refine ⟨_, run, ⟨((h.ca.evf f1).evf f2).evf EVF.i, o2, kI_s, by omega, h.cp, fun i hi => ?_⟩, (f1.trans f2).trans EVF.i⟩
  show CV (kB c2 74 c i) (kA c2 75 c i) (ul l p x i)
  have kb : kB c2 74 c i = if i = p then v' else kB cs 74 c i := by
    rw [hc2]
    show kB c1 74 c i = _
    rw [hc1]
    show u2 (kB cs) 74 c (vp_updL (kB cs 74 c) p v') 74 c i = _
    rw [u2_s]
    rfl
  have ka : kA c2 75 c i = if i = p then b else kA cs 75 c i := by
    rw [hc2]
    show u2 (kA c1) 75 c (upd (kA c1 75 c) p b) 75 c i = _
    rw [u2_s, hc1]
    rfl
  rw [kb, ka]
  by_cases q : i = p
  · rw [if_pos q, if_pos q, q, ul_s]
    rcases hx with ⟨q1, q2⟩ | ⟨q1, q2⟩
    · exact Or.inl ⟨q1, by rw [q2, hv.1, if_pos q1]⟩
    · exact Or.inr ⟨q1, by rw [hv.1, if_neg (by rw [q1]; decide)], q2⟩
  · rw [if_neg q, if_neg q, ul_n q]
    exact h.sv i (by omega)
/-- one value -/
def o1 (κ : Int32) (x : OV) : OV := if κ = 24 then some (if fl x = 0 then 0 else 1) else if κ = 25 then x.map (fun v => 1 - v) else if κ = 58 then x.map (fun v => -v) else some (if fl x = 0 then 1 else 0)
theorem one_ok {F c cap p : Nat} {l : Nat → OV} {κ : Int32} {cs : CS} (h : STK c cap l (p + 1) cs) : ∃ cs', c_X1_one F cs c κ = some cs' ∧ STK c cap (ul l p (o1 κ (l p))) (p + 1) cs' ∧ EVF c cs cs' := by
  have pc := h.pc
  have cp := h.cp
  have h1 := h.low (q := p) (by omega)
  have go : ∀ (v : Int64) (b : Int32) (x : OV), ((b = 0 ∧ x = some v) ∨ (b = 1 ∧ x = none)) → ∃ cs', (Option.bind (ckE (sI cs 76 c (nI p)) 2 c) fun _ => Option.bind (c_X1_push F (sI cs 76 c (nI p)) c v b) fun cs_12 => c_X1_one_b120 F cs_12) = some cs' ∧ STK c cap (ul l p x) (p + 1) cs' ∧ EVF c cs cs' := fun v b x hx => by
    obtain ⟨cs', e1, e2, e3⟩ := push_ok (F := F) h1 (by omega) hx
    refine ⟨cs', ?_, e2, EVF.i.trans e3⟩
    rw [ckE_ok h1.oc, ob_s, e1, ob_s]
    rfl
  have sv := h.sv p (by omega)
  have e1 : nI (p + 1) - 1 = nI p := nI_pred p
  unfold c_X1_one
  rw [gI_ok h.oc, ob_s, h.tp, if_pos (show (1 : Int32) ≤ nI (p + 1) from nI_le (a := 1) (b := p + 1) (by omega) (by omega)), ob_s, e1, pI_ok h.oc, ob_s]
  have tp1 : gI (sI cs 76 c (nI p)) 2 76 c = some (nI p) := by rw [gI_ok h1.oc, h1.tp]
  obtain ⟨j4, h4⟩ := h1.ca.p74
  obtain ⟨j5, h5⟩ := h1.ca.p75
  rw [gA_ok h1.oc, h4, ob_s, tp1, ob_s, rB_n h1.ca.e74 h4 (by rw [h1.ca.l74]; omega) (by rw [h1.ca.l74]; omega), ob_s, gA_ok h1.oc, h5, ob_s, ob_s, rA_n h1.ca.e75 h5 (by rw [h1.ca.l75]; omega) (by rw [h1.ca.l75]; omega), ob_s]
  show ∃ cs', (if κ = 24 then _ else (if κ = 25 then _ else (if κ = 58 then _ else _))) = some cs' ∧ _
  unfold o1
  by_cases k1 : κ = 24
  · rw [if_pos k1, if_pos k1]
    refine go _ _ _ (Or.inl ⟨rfl, ?_⟩)
    show some (if fl (l p) = 0 then (0 : Int64) else 1) = some (kA cs 75 c p).toInt64
    rcases sv with ⟨q1, q2⟩ | ⟨q1, -, q2⟩ <;> rw [q1, q2] <;> rfl
  · rw [if_neg k1, if_neg k1]
    by_cases k2 : κ = 25
    · rw [if_pos k2, if_pos k2]
      refine go _ _ _ ?_
      rcases sv with ⟨q1, q2⟩ | ⟨q1, -, q2⟩
      · exact Or.inl ⟨q1, by rw [q2]; rfl⟩
      · exact Or.inr ⟨q1, by rw [q2]; rfl⟩
    · rw [if_neg k2, if_neg k2]
      by_cases k3 : κ = 58
      · rw [if_pos k3, if_pos k3]
        refine go _ _ _ ?_
        rcases sv with ⟨q1, q2⟩ | ⟨q1, -, q2⟩
        · exact Or.inl ⟨q1, by rw [q2]; rfl⟩
        · exact Or.inr ⟨q1, by rw [q2]; rfl⟩
      · rw [if_neg k3, if_neg k3]
        refine go _ _ _ (Or.inl ⟨rfl, ?_⟩)
        show some (if fl (l p) = 0 then (1 : Int64) else 0) = some (1 - kA cs 75 c p).toInt64
        rcases sv with ⟨q1, q2⟩ | ⟨q1, -, q2⟩ <;> rw [q1, q2] <;> rfl

/-! the class's stack: two values, a choice, a list -/
def an (dd : Int32) (x y : OV) : OV := if x = some dd.toInt64 then some dd.toInt64 else if y = some dd.toInt64 then some dd.toInt64 else x.bind (fun _ => y.bind (fun _ => some (1 - dd).toInt64))
def fm (a b : Int64) : Int64 := if 0 ≤ a - a / b * b then a - a / b * b else a - a / b * b + b
/-- two numbers, as the class reckons -/
def rk2 (κ : Int32) (a b : Int64) : OV := if κ = 48 then (if b = 0 then none else some (a / b)) else if κ = 49 then (if b = 0 then none else some (a - a / b * b)) else if κ = 36 then (if b ≤ 0 then none else some (a - fm a b)) else if κ = 45 then some (a + b) else if κ = 46 then some (a - b) else if κ = 47 then some (a * b) else if κ = 50 then (if a = b then some 1 else some 0) else if κ = 51 then (if b ≤ a then some 0 else some 1) else if κ = 52 then (if a ≤ b then some 0 else some 1) else if κ = 53 then (if a = b then some 0 else some 1) else if κ = 54 then (if b < a then some 0 else some 1) else (if a < b then some 0 else some 1)
def o2 (κ : Int32) (x y : OV) : OV := if κ = 28 then an 0 x y else if κ = 29 then an 1 x y else x.bind (fun a => y.bind (fun b => rk2 κ a b))
theorem reck_ok {F : Nat} {cs : CS} {κ : Int32} {a b v : Int64} (h : rk2 κ a b = some v) : c_X1_hasResult F cs κ b = some 1 ∧ c_X1_reckon F cs κ a b = some v := by
  unfold rk2 at h
  unfold c_X1_hasResult c_X1_hasResult_b12 c_X1_hasResult_b23 c_X1_hasResult_b36 c_X1_hasResult_b41 c_X1_reckon c_X1_reckon_b117 c_X1_reckon_b131 c_X1_reckon_b179 c_X1_reckon_b203 c_X1_reckon_b227 c_X1_reckon_b191 c_X1_reckon_b215 c_X1_reckon_b228 c_X1_reckon_b239
  by_cases k8 : κ = 48
  · rw [if_pos k8] at h
    rw [if_pos k8, if_neg (show ¬ κ = 36 by rw [k8]; decide), if_neg (show ¬ κ = 45 by rw [k8]; decide), if_neg (show ¬ κ = 46 by rw [k8]; decide), if_neg (show ¬ κ = 47 by rw [k8]; decide), if_pos k8]
    by_cases z : b = 0
    · rw [if_pos z] at h; cases h
    · rw [if_neg z] at h
      rw [if_neg z, if_neg z, show ckD b = some b from if_neg z, ob_s]
      exact ⟨rfl, h⟩
  rw [if_neg k8] at h
  by_cases k9 : κ = 49
  · rw [if_pos k9] at h
    rw [if_neg k8, if_pos k9, if_neg (show ¬ κ = 36 by rw [k9]; decide), if_neg (show ¬ κ = 45 by rw [k9]; decide), if_neg (show ¬ κ = 46 by rw [k9]; decide), if_neg (show ¬ κ = 47 by rw [k9]; decide), if_neg k8, if_pos k9]
    by_cases z : b = 0
    · rw [if_pos z] at h; cases h
    · rw [if_neg z] at h
      rw [if_neg z, if_neg z, show ckD b = some b from if_neg z, ob_s]
      exact ⟨rfl, h⟩
  rw [if_neg k9] at h
  by_cases k6 : κ = 36
  · rw [if_pos k6] at h
    rw [if_neg k8, if_neg k9, if_pos k6, if_pos k6]
    by_cases z : b ≤ 0
    · rw [if_pos z] at h; cases h
    · rw [if_neg z] at h
      have nb : b ≠ 0 := fun w => z (by rw [w]; decide)
      have fmo : c_X1_reckon_b145 F cs a b (a - a / b * b) = some (a - fm a b) := by
        unfold c_X1_reckon_b145 c_X1_reckon_b167 fm
        by_cases q : 0 ≤ a - a / b * b
        · rw [if_pos q, if_pos q]
        · rw [if_neg q, if_neg q, Int64.sub_sub]
      rw [if_neg z, if_neg nb, show ckD b = some b from if_neg nb, ob_s, fmo]
      exact ⟨rfl, h⟩
  rw [if_neg k6] at h
  rw [if_neg k8, if_neg k9, if_neg k6, if_neg k6]
  refine ⟨rfl, ?_⟩
  by_cases k1 : κ = 45
  · rw [if_pos k1] at h ⊢; exact h
  rw [if_neg k1] at h ⊢
  by_cases k2 : κ = 46
  · rw [if_pos k2] at h ⊢; exact h
  rw [if_neg k2] at h ⊢
  by_cases k3 : κ = 47
  · rw [if_pos k3] at h ⊢; exact h
  rw [if_neg k3] at h ⊢
  rw [if_neg k8, if_neg k9]
  by_cases j0 : κ = 50
  · rw [if_pos j0] at h ⊢; exact h
  rw [if_neg j0] at h ⊢
  by_cases j1 : κ = 51
  · rw [if_pos j1] at h ⊢; exact h
  rw [if_neg j1] at h ⊢
  by_cases j2 : κ = 52
  · rw [if_pos j2] at h ⊢; exact h
  rw [if_neg j2] at h ⊢
  by_cases j3 : κ = 53
  · rw [if_pos j3] at h ⊢; exact h
  rw [if_neg j3] at h ⊢
  by_cases j4 : κ = 54
  · rw [if_pos j4] at h ⊢; exact h
  rw [if_neg j4] at h ⊢
  exact h
theorem reck_no {F : Nat} {cs : CS} {κ : Int32} {a b : Int64} (h : rk2 κ a b = none) : c_X1_hasResult F cs κ b = some 0 := by
  unfold rk2 at h
  unfold c_X1_hasResult c_X1_hasResult_b12 c_X1_hasResult_b23 c_X1_hasResult_b36 c_X1_hasResult_b41
  by_cases k8 : κ = 48
  · rw [if_pos k8] at h ⊢
    by_cases z : b = 0
    · rw [if_pos z]; rfl
    · rw [if_neg z] at h; cases h
  rw [if_neg k8] at h ⊢
  by_cases k9 : κ = 49
  · rw [if_pos k9] at h ⊢
    by_cases z : b = 0
    · rw [if_pos z]; rfl
    · rw [if_neg z] at h; cases h
  rw [if_neg k9] at h ⊢
  by_cases k6 : κ = 36
  · rw [if_pos k6] at h ⊢
    by_cases z : b ≤ 0
    · rw [if_pos z]; rfl
    · rw [if_neg z] at h; cases h
  rw [if_neg k6] at h
  by_cases k1 : κ = 45
  · rw [if_pos k1] at h; cases h
  rw [if_neg k1] at h
  by_cases k2 : κ = 46
  · rw [if_pos k2] at h; cases h
  rw [if_neg k2] at h
  by_cases k3 : κ = 47
  · rw [if_pos k3] at h; cases h
  rw [if_neg k3] at h
  by_cases j0 : κ = 50
  · rw [if_pos j0] at h
    by_cases q : a = b
    · rw [if_pos q] at h; cases h
    · rw [if_neg q] at h; cases h
  rw [if_neg j0] at h
  by_cases j1 : κ = 51
  · rw [if_pos j1] at h
    by_cases q : b ≤ a
    · rw [if_pos q] at h; cases h
    · rw [if_neg q] at h; cases h
  rw [if_neg j1] at h
  by_cases j2 : κ = 52
  · rw [if_pos j2] at h
    by_cases q : a ≤ b
    · rw [if_pos q] at h; cases h
    · rw [if_neg q] at h; cases h
  rw [if_neg j2] at h
  by_cases j3 : κ = 53
  · rw [if_pos j3] at h
    by_cases q : a = b
    · rw [if_pos q] at h; cases h
    · rw [if_neg q] at h; cases h
  rw [if_neg j3] at h
  by_cases j4 : κ = 54
  · rw [if_pos j4] at h
    by_cases q : b < a
    · rw [if_pos q] at h; cases h
    · rw [if_neg q] at h; cases h
  rw [if_neg j4] at h
  by_cases q : a < b
  · rw [if_pos q] at h; cases h
  · rw [if_neg q] at h; cases h
/-- whether a value is there -/
def TH (t : Int32) (x : Int64) (o : OV) : Prop := (t = 1 ∧ o = some x) ∨ (t = 0 ∧ o = none)
def PSH (F : Nat) (c1 : CS) (c : Nat) (v : Int64) (b : Int32) : Option CS := Option.bind (ckE c1 2 c) fun _ => Option.bind (c_X1_push F c1 c v b) fun z => some z
theorem ao_ok {F c : Nat} {c1 : CS} {dd xt yt : Int32} {x y : Int64} {ox oy : OV} (hx : TH xt x ox) (hy : TH yt y oy) : ∃ v b, c_X1_two_b105 F c1 c x y xt yt dd = PSH F c1 c v b ∧ ((b = 0 ∧ an dd ox oy = some v) ∨ (b = 1 ∧ an dd ox oy = none)) := by
  unfold c_X1_two_b105 c_X1_two_b120 c_X1_two_b134 c_X1_two_b138 c_X1_two_b139 c_X1_two_b158 c_X1_two_b173 c_X1_two_b177 c_X1_two_b178 an
  rcases hx with ⟨x1, x2⟩ | ⟨x1, x2⟩
  · rw [x1, x2, if_neg (show ¬ (1 : Int32) = 0 by decide)]
    by_cases q : x = dd.toInt64
    · refine ⟨dd.toInt64, 0, by rw [if_pos q]; rfl, Or.inl ⟨rfl, by rw [if_pos (by rw [q])]⟩⟩
    · have q' : ¬ some x = some dd.toInt64 := fun w => q (Option.some.inj w)
      rw [if_neg q, if_neg q']
      rcases hy with ⟨y1, y2⟩ | ⟨y1, y2⟩
      · rw [y1, y2, if_neg (show ¬ (1 : Int32) = 0 by decide)]
        by_cases r : y = dd.toInt64
        · refine ⟨dd.toInt64, 0, by rw [if_pos r]; rfl, Or.inl ⟨rfl, by rw [if_pos (by rw [r])]⟩⟩
        · have r' : ¬ some y = some dd.toInt64 := fun w => r (Option.some.inj w)
          refine ⟨(1 - dd).toInt64, 0, by rw [if_neg r]; rfl, Or.inl ⟨rfl, by rw [if_neg r']; rfl⟩⟩
      · rw [y1, y2]
        exact ⟨(1 - dd).toInt64, 1, rfl, Or.inr ⟨rfl, rfl⟩⟩
  · rw [x1, x2, if_pos rfl]
    rcases hy with ⟨y1, y2⟩ | ⟨y1, y2⟩
    · rw [y1, y2, if_neg (show ¬ (1 : Int32) = 0 by decide)]
      by_cases r : y = dd.toInt64
      · refine ⟨dd.toInt64, 0, by rw [if_pos r]; rfl, Or.inl ⟨rfl, ?_⟩⟩
        rw [if_neg (by intro w; cases w), if_pos (by rw [r])]
      · have r' : ¬ some y = some dd.toInt64 := fun w => r (Option.some.inj w)
        refine ⟨(1 - dd).toInt64, 1, by rw [if_neg r]; rfl, Or.inr ⟨rfl, ?_⟩⟩
        rw [if_neg (by intro w; cases w), if_neg r']
        rfl
    · rw [y1, y2]
      exact ⟨(1 - dd).toInt64, 1, rfl, Or.inr ⟨rfl, rfl⟩⟩
theorem b80_ok {F c : Nat} {c1 : CS} {κ xt yt : Int32} {x y : Int64} {ox oy : OV} (hx : TH xt x ox) (hy : TH yt y oy) : ∃ v b, c_X1_two_b80 F c1 c κ x y xt yt = PSH F c1 c v b ∧ ((b = 0 ∧ o2 κ ox oy = some v) ∨ (b = 1 ∧ o2 κ ox oy = none)) := by
  unfold c_X1_two_b80 c_X1_two_b94 o2
  by_cases k1 : κ = 28
  · rw [if_pos k1, if_pos k1, if_pos k1]
    exact ao_ok hx hy
  · rw [if_neg k1, if_neg k1, if_neg k1]
    by_cases k2 : κ = 29
    · rw [if_pos k2, if_pos k2]
      exact ao_ok hx hy
    · rw [if_neg k2, if_neg k2]
      unfold c_X1_two_b205 c_X1_two_b206 c_X1_two_b225 c_X1_two_b235
      rcases hx with ⟨x1, x2⟩ | ⟨x1, x2⟩
      · rw [x1, x2, if_neg (show ¬ (1 : Int32) = 0 by decide)]
        rcases hy with ⟨y1, y2⟩ | ⟨y1, y2⟩
        · rw [y1, y2, if_neg (show ¬ (1 : Int32) = 0 by decide)]
          show ∃ (v : Int64) (b : Int32), _ ∧ ((b = 0 ∧ rk2 κ x y = some v) ∨ (b = 1 ∧ rk2 κ x y = none))
          cases hr : rk2 κ x y with
          | none =>
            rw [reck_no hr, ob_s, if_pos rfl]
            exact ⟨0, 1, rfl, Or.inr ⟨rfl, rfl⟩⟩
          | some v =>
            obtain ⟨r1, r2⟩ := reck_ok (F := F) (cs := c1) hr
            rw [r1, ob_s, if_neg (show ¬ (1 : Int32) = 0 by decide), if_neg (show ¬ (1 : Int32) = 0 by decide), r2, ob_s, if_neg (show ¬ (1 : Int32) = 0 by decide)]
            exact ⟨v, 0, rfl, Or.inl ⟨rfl, rfl⟩⟩
        · rw [y1, y2, if_pos rfl]
          exact ⟨0, 1, rfl, Or.inr ⟨rfl, rfl⟩⟩
      · rw [x1, x2, if_pos rfl]
        exact ⟨0, 1, rfl, Or.inr ⟨rfl, rfl⟩⟩
theorem two_c {F c cap p : Nat} {l : Nat → OV} {κ : Int32} {cs : CS} (h : STK c cap l (p + 2) cs) : ∃ cs', c_X1_two F cs c κ = some cs' ∧ STK c cap (ul l p (o2 κ (l p) (l (p + 1)))) (p + 1) cs' ∧ EVF c cs cs' := by
  have pc := h.pc
  have cp := h.cp
  have h1 := h.low (q := p) (by omega)
  obtain ⟨c1, hc1⟩ : ∃ y, y = sI cs 76 c (nI p) := ⟨_, rfl⟩
  have sx : CV (kB c1 74 c p) (kA c1 75 c p) (l p) := by rw [hc1]; exact h.sv p (by omega)
  have sy : CV (kB c1 74 c (p + 1)) (kA c1 75 c (p + 1)) (l (p + 1)) := by rw [hc1]; exact h.sv (p + 1) (by omega)
  have f1 : EVF c cs c1 := by rw [hc1]; exact EVF.i
  rw [← hc1] at h1
  have go : ∀ xt yt, TH xt (kB c1 74 c p) (l p) → TH yt (kB c1 74 c (p + 1)) (l (p + 1)) → ∃ cs', c_X1_two_b80 F c1 c κ (kB c1 74 c p) (kB c1 74 c (p + 1)) xt yt = some cs' ∧ STK c cap (ul l p (o2 κ (l p) (l (p + 1)))) (p + 1) cs' ∧ EVF c cs cs' := fun xt yt hx hy => by
    obtain ⟨v, b, e0, hb⟩ := b80_ok (F := F) (c := c) (c1 := c1) (κ := κ) hx hy
    obtain ⟨cs', e1, e2, e3⟩ := push_ok (F := F) h1 (by omega) hb
    refine ⟨cs', ?_, e2, f1.trans e3⟩
    rw [e0]
    unfold PSH
    rw [ckE_ok h1.oc, ob_s, e1, ob_s]
  obtain ⟨j4, h4⟩ := h1.ca.p74
  obtain ⟨j5, h5⟩ := h1.ca.p75
  have e2 : nI (p + 2) - 2 = nI p := by
    have q := nI_add p 2
    rw [← q]
    exact Int32.add_sub_cancel _ _
  have tp1 : gI c1 2 76 c = some (nI p) := by rw [gI_ok h1.oc, h1.tp]
  unfold c_X1_two
  rw [gI_ok h.oc, ob_s, h.tp, if_pos (show (2 : Int32) ≤ nI (p + 2) from nI_le (a := 2) (b := p + 2) (by omega) (by omega)), ob_s, e2, pI_ok h.oc, ob_s, ← hc1, gA_ok h1.oc, h4, ob_s, tp1, ob_s, rB_n h1.ca.e74 h4 (by rw [h1.ca.l74]; omega) (by rw [h1.ca.l74]; omega), ob_s, ob_s, ob_s, nI_1, rB_n h1.ca.e74 h4 (by rw [h1.ca.l74]; omega) (by rw [h1.ca.l74]; omega), ob_s, gA_ok h1.oc, h5, ob_s, ob_s, rA_n h1.ca.e75 h5 (by rw [h1.ca.l75]; omega) (by rw [h1.ca.l75]; omega), ob_s]
  unfold c_X1_two_b59
  rw [gA_ok h1.oc, h5, ob_s, ob_s, tp1, ob_s, ob_s, nI_1, rA_n h1.ca.e75 h5 (by rw [h1.ca.l75]; omega) (by rw [h1.ca.l75]; omega), ob_s, ob_s]
  rcases sx with ⟨x1, x2⟩ | ⟨x1, -, x2⟩
  · rw [x1, if_pos rfl]
    rcases sy with ⟨y1, y2⟩ | ⟨y1, -, y2⟩
    · rw [y1, if_pos rfl]
      exact go 1 1 (Or.inl ⟨rfl, x2⟩) (Or.inl ⟨rfl, y2⟩)
    · rw [y1, if_neg (show ¬ (1 : Int32) = 0 by decide)]
      exact go 1 0 (Or.inl ⟨rfl, x2⟩) (Or.inr ⟨rfl, y2⟩)
  · rw [x1, if_neg (show ¬ (1 : Int32) = 0 by decide)]
    rcases sy with ⟨y1, y2⟩ | ⟨y1, -, y2⟩
    · rw [y1, if_pos rfl]
      exact go 0 1 (Or.inr ⟨rfl, x2⟩) (Or.inl ⟨rfl, y2⟩)
    · rw [y1, if_neg (show ¬ (1 : Int32) = 0 by decide)]
      exact go 0 0 (Or.inr ⟨rfl, x2⟩) (Or.inr ⟨rfl, y2⟩)
/-- case -/
def o3 (x y z : OV) : OV := if tr1 x = 1 then y else z
theorem choose_c {F c cap p : Nat} {l : Nat → OV} {cs : CS} (h : STK c cap l (p + 3) cs) : ∃ cs', c_X1_choose F cs c = some cs' ∧ STK c cap (ul l p (o3 (l p) (l (p + 1)) (l (p + 2)))) (p + 1) cs' ∧ EVF c cs cs' := by
  have pc := h.pc
  have cp := h.cp
  have h1 := h.low (q := p) (by omega)
  obtain ⟨c1, hc1⟩ : ∃ y, y = sI cs 76 c (nI p) := ⟨_, rfl⟩
  have sx : CV (kB c1 74 c p) (kA c1 75 c p) (l p) := by rw [hc1]; exact h.sv p (by omega)
  have sn : ∀ i, i < p + 3 → CV (kB c1 74 c i) (kA c1 75 c i) (l i) := fun i hi => by rw [hc1]; exact h.sv i hi
  have f1 : EVF c cs c1 := by rw [hc1]; exact EVF.i
  rw [← hc1] at h1
  obtain ⟨j4, h4⟩ := h1.ca.p74
  obtain ⟨j5, h5⟩ := h1.ca.p75
  have tp1 : gI c1 2 76 c = some (nI p) := by rw [gI_ok h1.oc, h1.tp]
  have b60 : ∀ i, i < p + 3 → ∃ cs', c_X1_choose_b60 F c1 c (nI i) = some cs' ∧ STK c cap (ul l p (l i)) (p + 1) cs' ∧ EVF c cs cs' := fun i hi => by
    have hx : (kA c1 75 c i = 0 ∧ l i = some (kB c1 74 c i)) ∨ (kA c1 75 c i = 1 ∧ l i = none) := (sn i hi).imp id (fun q => ⟨q.1, q.2.2⟩)
    obtain ⟨cs', e1, e2, e3⟩ := push_ok (F := F) h1 (by omega) hx
    refine ⟨cs', ?_, e2, f1.trans e3⟩
    unfold c_X1_choose_b60
    rw [h1.rdB (by omega), h1.rdA (by omega), ckE_ok h1.oc, ob_s, e1, ob_s]
  have e2 : nI (p + 3) - 3 = nI p := by
    have q := nI_add p 3
    rw [← q]
    exact Int32.add_sub_cancel _ _
  have b54 : c_X1_choose_b54 F c1 c = c_X1_choose_b60 F c1 c (nI (p + 2)) := by
    unfold c_X1_choose_b54
    rw [tp1, ob_s, show (2 : Int32) = nI 2 from rfl, nI_add]
  unfold c_X1_choose
  rw [gI_ok h.oc, ob_s, h.tp, if_pos (show (3 : Int32) ≤ nI (p + 3) from nI_le (a := 3) (b := p + 3) (by omega) (by omega)), ob_s, e2, pI_ok h.oc, ob_s, ← hc1, gA_ok h1.oc, h5, ob_s, tp1, ob_s, rA_n h1.ca.e75 h5 (by rw [h1.ca.l75]; omega) (by rw [h1.ca.l75]; omega), ob_s, gA_ok h1.oc, h4, ob_s, ob_s, rB_n h1.ca.e74 h4 (by rw [h1.ca.l74]; omega) (by rw [h1.ca.l74]; omega), ob_s, ob_s, b54, nI_1]
  unfold o3
  rcases sx with ⟨x1, x2⟩ | ⟨x1, -, x2⟩
  · rw [x1, x2, if_pos rfl]
    show ∃ cs', (if kB c1 74 c p = 0 then _ else _) = some cs' ∧ STK c cap (ul l p (if (if kB c1 74 c p = 0 then (0 : Int32) else 1) = 1 then l (p + 1) else l (p + 2))) (p + 1) cs' ∧ _
    by_cases q : kB c1 74 c p = 0
    · rw [if_pos q, if_pos q, if_neg (show ¬ (0 : Int32) = 1 by decide)]
      exact b60 (p + 2) (by omega)
    · rw [if_neg q, if_neg q, if_pos rfl]
      exact b60 (p + 1) (by omega)
  · rw [x1, x2, if_neg (show ¬ (1 : Int32) = 0 by decide)]
    exact b60 (p + 2) (by omega)
/-- a list's members on the stack -/
def isq (x : OV) (l : Nat → OV) (p : Nat) : Nat → Int32
  | 0 => if fl x = 0 then 0 else 2
  | j + 1 => inM x (isq x l p j) (l (p + 1 + j))
def SIS (is un fo : Int32) : Prop := (is = 1 ∧ fo = 1) ∨ (is = 2 ∧ fo = 0 ∧ un = 1) ∨ (is = 0 ∧ fo = 0 ∧ un = 0)
theorem srch_L {F c cap p m : Nat} {l : Nat → OV} {ifF : Int32} {c1 : CS} (h1 : STK c cap l p c1) (sn : ∀ i, i < p + m + 1 → CV (kB c1 74 c i) (kA c1 75 c i) (l i)) (hm : p + m + 1 ≤ cap) : ∀ (d j u : Nat) (un fo : Int32), m - j ≤ d → d < u → j ≤ m → SIS (isq (l p) l p j) un fo → ∃ (un' fo' : Int32), c_X1_search_L56 F u c1 c (nI m) ifF un fo (nI (p + 1 + j)) = (if fo' = 0 then (c_X1_search_b162 F c1 un' fo' ((1 - ifF : Int32).toInt64) c) else (c_X1_search_b162 F c1 un' fo' ((ifF : Int32).toInt64) c)) ∧ SIS (isq (l p) l p m) un' fo' := by
  have cp := h1.cp
  obtain ⟨j4, h4⟩ := h1.ca.p74
  obtain ⟨j5, h5⟩ := h1.ca.p75
  have tp1 : gI c1 2 76 c = some (nI p) := by rw [gI_ok h1.oc, h1.tp]
  have fin : ∀ (u : Nat) (un fo : Int32), SIS (isq (l p) l p m) un fo → ∃ (un' fo' : Int32), c_X1_search_L56 F (u + 1) c1 c (nI m) ifF un fo (nI (p + 1 + m)) = (if fo' = 0 then (c_X1_search_b162 F c1 un' fo' ((1 - ifF : Int32).toInt64) c) else (c_X1_search_b162 F c1 un' fo' ((ifF : Int32).toInt64) c)) ∧ SIS (isq (l p) l p m) un' fo' := fun u un fo hs => by
    refine ⟨un, fo, ?_, hs⟩
    rw [c_X1_search_L56, tp1, ob_s, nI_add, if_pos (nI_lt (by omega) (by omega))]
  intro d
  induction d with
  | zero =>
    intro j u un fo d1 d2 d3 hs
    obtain ⟨u, rfl⟩ : ∃ z, u = z + 1 := ⟨u - 1, by omega⟩
    have ej : j = m := by omega
    rw [ej] at hs ⊢
    exact fin u un fo hs
  | succ d ih =>
    intro j u un fo d1 d2 d3 hs
    obtain ⟨u, rfl⟩ : ∃ z, u = z + 1 := ⟨u - 1, by omega⟩
    by_cases ej : j = m
    · rw [ej] at hs ⊢
      exact fin u un fo hs
    · have sx := sn p (by omega)
      have sj := sn (p + 1 + j) (by omega)
      have rdA : ∀ (α : Type) (G : Int32 → Option α), (Option.bind (gA c1 2 75 c) fun v => Option.bind (rA c1 75 c v (nI (p + 1 + j))) fun w => G w) = G (kA c1 75 c (p + 1 + j)) := fun α G => h1.rdA (by omega)
      have rdB : ∀ (α : Type) (G : Int64 → Option α), (Option.bind (gA c1 2 74 c) fun v => Option.bind (rB c1 74 c v (nI (p + 1 + j))) fun w => G w) = G (kB c1 74 c (p + 1 + j)) := fun α G => h1.rdB (by omega)
      have rc : ∀ (y : Int32) (un' : Int32), c_X1_search_b139 F (c_X1_search_L56 F u) c1 c (nI m) ifF un' (nI (p + 1 + j)) y = c_X1_search_L56 F u c1 c (nI m) ifF un' y (nI (p + 1 + (j + 1))) := fun y un' => by
        unfold c_X1_search_b139
        rw [nI_1]
        rfl
      have b86 : ∀ (y0 : Int32), c_X1_search_b86 F (c_X1_search_L56 F u) c1 c (nI m) ifF fo (nI (p + 1 + j)) y0 = c_X1_search_L56 F u c1 c (nI m) ifF y0 (if fo = 0 then (if kA c1 75 c p = 0 then (if kA c1 75 c (p + 1 + j) = 0 then (if kB c1 74 c (p + 1 + j) = kB c1 74 c p then 1 else 0) else 0) else 0) else 1) (nI (p + 1 + (j + 1))) := fun y0 => by
        unfold c_X1_search_b86 c_X1_search_b134 c_X1_search_b138
        rw [gA_ok h1.oc, h5, ob_s, tp1, ob_s, rA_n h1.ca.e75 h5 (by rw [h1.ca.l75]; omega) (by rw [h1.ca.l75]; omega), ob_s, ob_s, rA_n h1.ca.e75 h5 (by rw [h1.ca.l75]; omega) (by rw [h1.ca.l75]; omega), ob_s, gA_ok h1.oc, h4, ob_s, rB_n h1.ca.e74 h4 (by rw [h1.ca.l74]; omega) (by rw [h1.ca.l74]; omega), ob_s, ob_s, ob_s, rB_n h1.ca.e74 h4 (by rw [h1.ca.l74]; omega) (by rw [h1.ca.l74]; omega), ob_s, rc, rc]
        by_cases q1 : fo = 0
        · rw [if_pos q1, if_pos q1]
          by_cases q2 : kA c1 75 c p = 0
          · rw [if_pos q2, if_pos q2]
            by_cases q3 : kA c1 75 c (p + 1 + j) = 0
            · rw [if_pos q3, if_pos q3]
              by_cases q4 : kB c1 74 c (p + 1 + j) = kB c1 74 c p
              · rw [if_pos q4, if_pos q4]
              · rw [if_neg q4, if_neg q4]
            · rw [if_neg q3, if_neg q3]
          · rw [if_neg q2, if_neg q2]
        · rw [if_neg q1, if_neg q1]
      have st : c_X1_search_L56 F (u + 1) c1 c (nI m) ifF un fo (nI (p + 1 + j)) = c_X1_search_L56 F u c1 c (nI m) ifF (if un = 0 then (if kA c1 75 c (p + 1 + j) = 0 then 0 else 1) else 1) (if fo = 0 then (if kA c1 75 c p = 0 then (if kA c1 75 c (p + 1 + j) = 0 then (if kB c1 74 c (p + 1 + j) = kB c1 74 c p then 1 else 0) else 0) else 0) else 1) (nI (p + 1 + (j + 1))) := by
        rw [c_X1_search_L56, tp1, ob_s, nI_add, if_neg (fun w => absurd ((nI_ltI (by omega) (by omega)).mp w) (by omega)), rdA]
        unfold c_X1_search_b81
        by_cases q1 : un = 0
        · rw [if_pos q1, if_pos q1]
          by_cases q2 : kA c1 75 c (p + 1 + j) = 0
          · rw [if_pos q2, b86]
            simp only [if_pos q2]
          · rw [if_neg q2, b86]
            simp only [if_neg q2]
        · rw [if_neg q1, b86, if_neg q1]
      rw [st]
      refine ih (j + 1) u _ _ (by omega) (by omega) (by omega) ?_
      show SIS (inM (l p) (isq (l p) l p j) (l (p + 1 + j))) _ _
      generalize isq (l p) l p j = is at hs ⊢
      rcases sj with ⟨y1, y2⟩ | ⟨y1, -, y2⟩
      · rw [y1, y2]
        rcases sx with ⟨x1, x2⟩ | ⟨x1, -, x2⟩
        · rw [x1, x2]
          show SIS (if kB c1 74 c (p + 1 + j) = kB c1 74 c p then 1 else is) _ _
          by_cases q : kB c1 74 c (p + 1 + j) = kB c1 74 c p
          · rw [if_pos q, if_pos q]
            refine Or.inl ⟨rfl, ?_⟩
            by_cases f0 : fo = 0
            · rw [if_pos f0]; rfl
            · rw [if_neg f0]
          · rw [if_neg q, if_neg q]
            rcases hs with ⟨z1, z2⟩ | ⟨z1, z2, z3⟩ | ⟨z1, z2, z3⟩
            · exact Or.inl ⟨z1, by rw [z2]; rfl⟩
            · exact Or.inr (Or.inl ⟨z1, by rw [z2]; rfl, by rw [z3]; rfl⟩)
            · exact Or.inr (Or.inr ⟨z1, by rw [z2]; rfl, by rw [z3]; rfl⟩)
        · rw [x1, x2]
          show SIS is _ _
          rcases hs with ⟨z1, z2⟩ | ⟨z1, z2, z3⟩ | ⟨z1, z2, z3⟩
          · exact Or.inl ⟨z1, by rw [z2]; rfl⟩
          · exact Or.inr (Or.inl ⟨z1, by rw [z2]; rfl, by rw [z3]; rfl⟩)
          · exact Or.inr (Or.inr ⟨z1, by rw [z2]; rfl, by rw [z3]; rfl⟩)
      · rw [y1, y2]
        show SIS (if is = 1 then 1 else 2) _ _
        rcases hs with ⟨z1, z2⟩ | ⟨z1, z2, z3⟩ | ⟨z1, z2, z3⟩
        · rw [if_pos z1]
          exact Or.inl ⟨rfl, by rw [z2]; rfl⟩
        · rw [if_neg (by rw [z1]; decide)]
          refine Or.inr (Or.inl ⟨rfl, ?_, by rw [z3]; rfl⟩)
          rw [z2, if_pos rfl, if_neg (show ¬ (1 : Int32) = 0 by decide)]
          by_cases q : kA c1 75 c p = 0
          · rw [if_pos q]
          · rw [if_neg q]
        · rw [if_neg (by rw [z1]; decide)]
          refine Or.inr (Or.inl ⟨rfl, ?_, by rw [z3]; rfl⟩)
          rw [z2, if_pos rfl, if_neg (show ¬ (1 : Int32) = 0 by decide)]
          by_cases q : kA c1 75 c p = 0
          · rw [if_pos q]
          · rw [if_neg q]
theorem search_c {F c cap p m : Nat} {l : Nat → OV} {ifF h9 : Int32} {cs : CS} (hF : 10000 ≤ F) (hh : (ifF = 1 ∧ h9 = 0) ∨ (ifF = 0 ∧ h9 = 1)) (h : STK c cap l (p + m + 1) cs) : ∃ cs', c_X1_search F cs c (nI m) ifF = some cs' ∧ STK c cap (ul l p (ofT (inR h9 (isq (l p) l p m)))) (p + 1) cs' ∧ EVF c cs cs' := by
  have pc := h.pc
  have cp := h.cp
  have h1 := h.low (q := p) (by omega)
  obtain ⟨c1, hc1⟩ : ∃ y, y = sI cs 76 c (nI p) := ⟨_, rfl⟩
  have sn : ∀ i, i < p + m + 1 → CV (kB c1 74 c i) (kA c1 75 c i) (l i) := fun i hi => by rw [hc1]; exact h.sv i hi
  have f1 : EVF c cs c1 := by rw [hc1]; exact EVF.i
  rw [← hc1] at h1
  obtain ⟨j5, h5⟩ := h1.ca.p75
  have tp1 : gI c1 2 76 c = some (nI p) := by rw [gI_ok h1.oc, h1.tp]
  have e2 : nI (p + m + 1) - nI (m + 1) = nI p := by
    have q := nI_add p (m + 1)
    rw [show p + m + 1 = p + (m + 1) by omega, ← q]
    exact Int32.add_sub_cancel _ _
  obtain ⟨un0, hu0⟩ : ∃ y : Int32, y = (if kA c1 75 c p = 0 then 0 else 1) := ⟨_, rfl⟩
  have s0 : SIS (isq (l p) l p 0) un0 0 := by
    show SIS (if fl (l p) = 0 then 0 else 2) un0 0
    rcases sn p (by omega) with ⟨x1, x2⟩ | ⟨x1, -, x2⟩
    · rw [x1] at hu0
      rw [x2, hu0]
      exact Or.inr (Or.inr ⟨rfl, rfl, rfl⟩)
    · rw [x1] at hu0
      rw [x2, hu0]
      exact Or.inr (Or.inl ⟨rfl, rfl, rfl⟩)
  obtain ⟨un', fo', r1, r2⟩ := srch_L (F := F) (ifF := ifF) h1 sn (by omega) m 0 F un0 0 (by omega) (by omega) (Nat.zero_le _) s0
  have b44 : ∀ y, y = un0 → c_X1_search_b44 F c1 c (nI m) ifF y = c_X1_search_L56 F F c1 c (nI m) ifF un0 0 (nI (p + 1 + 0)) := fun y hy => by
    unfold c_X1_search_b44
    rw [tp1, ob_s, nI_1, hy]
  have run : c_X1_search F cs c (nI m) ifF = c_X1_search_L56 F F c1 c (nI m) ifF un0 0 (nI (p + 1 + 0)) := by
    unfold c_X1_search
    rw [if_neg (nI_pos (by omega)), gI_ok h.oc, ob_s, h.tp, nI_1, if_pos (nI_le (by omega) (by omega)), ob_s, e2, pI_ok h.oc, ob_s, ← hc1, gA_ok h1.oc, h5, ob_s, tp1, ob_s, rA_n h1.ca.e75 h5 (by rw [h1.ca.l75]; omega) (by rw [h1.ca.l75]; omega), ob_s]
    by_cases q : kA c1 75 c p = 0
    · rw [if_pos q, b44 0 (by rw [hu0, if_pos q])]
    · rw [if_neg q, b44 1 (by rw [hu0, if_neg q])]
  have go : ∀ (v : Int64) (b : Int32) (x : OV), ((b = 0 ∧ x = some v) ∨ (b = 1 ∧ x = none)) → ∃ cs', c_X1_search_b176 F c1 b v c = some cs' ∧ STK c cap (ul l p x) (p + 1) cs' ∧ EVF c cs cs' := fun v b x hx => by
    obtain ⟨cs', e1, e2, e3⟩ := push_ok (F := F) h1 (by omega) hx
    refine ⟨cs', ?_, e2, f1.trans e3⟩
    unfold c_X1_search_b176
    rw [ckE_ok h1.oc, ob_s, e1, ob_s]
  rw [run, r1]
  unfold c_X1_search_b162 c_X1_search_b175
  generalize isq (l p) l p m = is at r2 ⊢
  rcases r2 with ⟨z1, z2⟩ | ⟨z1, z2, z3⟩ | ⟨z1, z2, z3⟩
  · rw [z1, z2, if_neg (show ¬ (1 : Int32) = 0 by decide), if_neg (show ¬ (1 : Int32) = 0 by decide)]
    refine go _ _ _ (Or.inl ⟨rfl, ?_⟩)
    rcases hh with ⟨a, b⟩ | ⟨a, b⟩ <;> rw [a, b] <;> rfl
  · rw [z1, z2, z3, if_pos rfl, if_pos rfl, if_neg (show ¬ (1 : Int32) = 0 by decide)]
    exact go _ _ _ (Or.inr ⟨rfl, rfl⟩)
  · rw [z1, z2, z3, if_pos rfl, if_pos rfl, if_pos rfl]
    refine go _ _ _ (Or.inl ⟨rfl, ?_⟩)
    rcases hh with ⟨a, b⟩ | ⟨a, b⟩ <;> rw [a, b] <;> rfl

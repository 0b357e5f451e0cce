/-! the class's reading of a QUERY behind a fault: it goes on, and tells nothing new -/
def WS (t c cap lf : Nat) (cs : CS) : Prop := (FS t c cs) ∧ (KB cs) ∧ (CA c cap cs) ∧ (cap ≤ 120) ∧ (37 < t) ∧ (37 < c) ∧ (kI cs 325 t = nI lf) ∧ (lf ≤ 3) ∧ ((358, t) ∈ kE cs) ∧ (∃ j, kP cs 326 t = some j) ∧ (kL cs 326 t = 3)
theorem WS.f {t c cap lf : Nat} {cs : CS} (h : WS t c cap lf cs) : FS t c cs := h.1
theorem WS.kb {t c cap lf : Nat} {cs : CS} (h : WS t c cap lf cs) : KB cs := h.2.1
theorem WS.ca {t c cap lf : Nat} {cs : CS} (h : WS t c cap lf cs) : CA c cap cs := h.2.2.1
theorem WS.cp {t c cap lf : Nat} {cs : CS} (h : WS t c cap lf cs) : cap ≤ 120 := h.2.2.2.1
theorem WS.t37 {t c cap lf : Nat} {cs : CS} (h : WS t c cap lf cs) : 37 < t := h.2.2.2.2.1
theorem WS.c37 {t c cap lf : Nat} {cs : CS} (h : WS t c cap lf cs) : 37 < c := h.2.2.2.2.2.1
theorem WS.cl {t c cap lf : Nat} {cs : CS} (h : WS t c cap lf cs) : kI cs 325 t = nI lf := h.2.2.2.2.2.2.1
theorem WS.l3 {t c cap lf : Nat} {cs : CS} (h : WS t c cap lf cs) : lf ≤ 3 := h.2.2.2.2.2.2.2.1
theorem WS.e326 {t c cap lf : Nat} {cs : CS} (h : WS t c cap lf cs) : (358, t) ∈ kE cs := h.2.2.2.2.2.2.2.2.1
theorem WS.p326 {t c cap lf : Nat} {cs : CS} (h : WS t c cap lf cs) : ∃ j, kP cs 326 t = some j := h.2.2.2.2.2.2.2.2.2.1
theorem WS.l326 {t c cap lf : Nat} {cs : CS} (h : WS t c cap lf cs) : kL cs 326 t = 3 := h.2.2.2.2.2.2.2.2.2.2
/-- below K nothing but the Text's nest, SELECT and mark of aggregates has changed -/
def GF (t K : Nat) (a b : CS) : Prop := EM a b ∧ kK a ≤ kK b ∧ ∀ x i, i < K → ¬ (i = t ∧ (x = 329 ∨ x = 330 ∨ x = 331)) → AT a b x i
theorem GF.refl {t K : Nat} {a : CS} : GF t K a a := ⟨EM.refl, Nat.le_refl _, fun _ _ _ _ => AT.refl⟩
theorem GF.trans {t K : Nat} {a b c : CS} (h : GF t K a b) (g : GF t K b c) : GF t K a c := ⟨h.1.trans g.1, Nat.le_trans h.2.1 g.2.1, fun x i hi hx => (h.2.2 x i hi hx).trans (g.2.2 x i hi hx)⟩
theorem GF.le {t K L : Nat} {a b : CS} (h : GF t K a b) (g : L ≤ K) : GF t L a b := ⟨h.1, h.2.1, fun x i hi hx => h.2.2 x i (by omega) hx⟩
theorem GF.gw {t K : Nat} {a b : CS} (h : GW K a b) : GF t K a b := ⟨h.1, h.2.1, fun x i hi _ => h.2.2 x i hi⟩
theorem GF.text {t K k : Nat} {a : CS} {v : Int32} (hk : k = 329 ∨ k = 331) : GF t K a (sI a k t v) := ⟨EM.refl, Nat.le_refl _, fun x i _ hx => AT.sI (fun y => hx ⟨y.2, by omega⟩)⟩
theorem GF.sel {t K : Nat} {a : CS} {v : Option Nat} : GF t K a (sR a 330 t v) := ⟨EM.refl, Nat.le_refl _, fun x i _ hx => AT.sR (fun y => hx ⟨y.2, by omega⟩)⟩
theorem WS.gf {t c cap lf K : Nat} {a b : CS} (h : WS t c cap lf a) (g : GF t K a b) (kb : KB b) (ht : t < K) (hc : c < K) : WS t c cap lf b := by
  have at' : ∀ x, ¬ (x = 329 ∨ x = 330 ∨ x = 331) → AT a b x t := fun x hx => g.2.2 x t ht (fun y => hx y.2)
  have t37 := h.t37
  have c37 := h.c37
  have gb : ∀ x i, i ≤ 37 → AT a b x i := fun x i hi => g.2.2 x i (by omega) (fun y => by omega)
  by_cases hct : c = t
  · have gc : ∀ x, 64 ≤ x → x < 96 → AT a b x c := fun x x1 x2 => g.2.2 x c hc (fun y => by omega)
    refine ⟨⟨h.f.h.gw g.1 gb (at' 327 (by decide)) (at' 322 (by decide)), by rw [(at' 320 (by decide)).i]; exact h.f.f, by rw [(at' 328 (by decide)).i]; exact h.f.i⟩, kb, h.ca.gw g.1 gc, h.cp, h.t37, h.c37, by rw [(at' 325 (by decide)).i]; exact h.cl, h.l3, g.1 _ h.e326, by rw [(at' 326 (by decide)).p]; exact h.p326, by rw [(at' 326 (by decide)).l]; exact h.l326⟩
  · have gc : ∀ x, 64 ≤ x → x < 96 → AT a b x c := fun x x1 x2 => g.2.2 x c hc (fun y => hct y.1)
    refine ⟨⟨h.f.h.gw g.1 gb (at' 327 (by decide)) (at' 322 (by decide)), by rw [(at' 320 (by decide)).i]; exact h.f.f, by rw [(at' 328 (by decide)).i]; exact h.f.i⟩, kb, h.ca.gw g.1 gc, h.cp, h.t37, h.c37, by rw [(at' 325 (by decide)).i]; exact h.cl, h.l3, g.1 _ h.e326, by rw [(at' 326 (by decide)).p]; exact h.p326, by rw [(at' 326 (by decide)).l]; exact h.l326⟩
theorem PB.gf {t c K : Nat} {a b : CS} {rs : RS} (h : PB t c a rs) (hf : FS t c b) (g : GF t K a b) (ht : t < K) : PB t c b rs := by
  have at' : ∀ x, ¬ (x = 329 ∨ x = 330 ∨ x = 331) → AT a b x t := fun x hx => g.2.2 x t ht (fun y => hx y.2)
  exact ⟨hf, h.r, by rw [(at' 320 (by decide)).i]; exact h.e1, by rw [(at' 321 (by decide)).i]; exact h.e2⟩
theorem WS.t0 {t c cap lf : Nat} {cs : CS} (h : WS t c cap lf cs) : t < kK cs := h.kb _ h.f.h.o
theorem WS.c0 {t c cap lf : Nat} {cs : CS} (h : WS t c cap lf cs) : c < kK cs := h.kb _ h.f.h.oc
theorem num_f {F t c : Nat} {cs : CS} (h : FS t c cs) : ∃ v, c_X9_number F cs t = some v := by
  obtain ⟨i, hi, h2⟩ := h.i
  exact ⟨_, num_ok h.h hi h2⟩
theorem beg57 {F t : Nat} {cs : CS} {y : Int32} : c_X9_beginsExpr F cs t 57 y = some 0 := by
  unfold c_X9_beginsExpr c_X9_beginsExpr_b137
  rw [if_neg (by decide), if_neg (by decide), if_neg (by decide), if_neg (by decide), if_neg (by decide), if_neg (by decide), if_neg (by decide), if_neg (by decide), if_neg (by decide), if_neg (by decide), if_neg (by decide), if_neg (by decide), if_neg (by decide), if_neg (by decide), if_neg (by decide)]
theorem rn_f {F t c : Nat} {cs : CS} {x y : Int32} (h : FS t c cs) : c_X9_refuseNinth F cs t x y = some cs := by
  obtain ⟨v, hv⟩ := herf (F := F) h
  unfold c_X9_refuseNinth c_X9_refuseNinth_b23 c_X9_refuseNinth_b30
  by_cases hx : x = 0
  · rw [if_pos hx]
  · rw [if_neg hx, ckE_ok h.h.o, ob_s, knd_f h.h h.f, ob_s, ob_s, beg57, ob_s, if_pos rfl, ob_s, hv, ob_s, ob_s, ref_f h.h h.f, ob_s]
theorem rdn_f {F t c : Nat} {cs : CS} (h : FS t c cs) : ∃ v, c_X9_readName F cs t = some (cs, v) := by
  obtain ⟨v, hv⟩ := num_f (F := F) h
  refine ⟨v, ?_⟩
  unfold c_X9_readName
  rw [ckE_ok h.h.o, ob_s, hv, ob_s, ob_s, expf h (by decide), ob_s]
theorem rdu_f {F t c : Nat} {cs : CS} {x : Int64} (h : FS t c cs) : ∃ v, c_X9_readNumber F cs t x = some (cs, v) := by
  obtain ⟨v, hv⟩ := num_f (F := F) h
  refine ⟨v, ?_⟩
  unfold c_X9_readNumber c_X9_readNumber_b29
  rw [ckE_ok h.h.o, ob_s, hv, ob_s, ob_s, knd_f h.h h.f, ob_s, if_neg (by decide), ob_s, expf h (by decide), ob_s]
theorem has_any {F c cap : Nat} {cs : CS} {x : Int32} (ho : (2, c) ∈ kE cs) (ha : CA c cap cs) (hc : cap ≤ 120) : c_X1_has F cs c x = some 0 ∨ (c_X1_has F cs c x = some 1 ∧ ∃ r, x = nI r ∧ r < cap) := by
  obtain ⟨j65, p65⟩ := ha.p65
  unfold c_X1_has c_X1_has_b25 c_X1_has_b26
  by_cases y : x < 0
  · rw [if_pos y]
    exact Or.inl rfl
  · rw [if_neg y, gI_ok ho, ob_s]
    by_cases y2 : kI cs 64 c ≤ x
    · rw [if_pos y2]
      exact Or.inl rfl
    · rw [if_neg y2, gA_ok ho, p65, ob_s, lnA_n ha.e65 p65, ob_s, ha.l65]
      by_cases y3 : nI cap ≤ x
      · rw [if_pos y3]
        exact Or.inl rfl
      · rw [if_neg y3]
        obtain ⟨j, j1, j2, -⟩ := pk_mu y y3 (by omega)
        exact Or.inr ⟨rfl, j, j2, j1⟩
/-- one column laid, or none where there is no room -/
theorem add_any {F o m : Nat} {cs : CS} {r : Int32} {nm : Int64} {mk ty : Int32} (h : CLM o m cs) : ∃ cs' m', c_X2_add F cs o r nm mk ty = some cs' ∧ CLM o m' cs' ∧ cs'.1 = cs.1 ∧ ∀ x i, ¬ (96 ≤ x ∧ x ≤ 100 ∧ i = o) → AT cs cs' x i := by
  by_cases hm : m < 8
  · exact ⟨_, m + 1, adC_ok h hm, adC_clm h hm, rfl, fun x i hx => adC_at hx⟩
  · exact ⟨cs, m, ad_full h hm, h, rfl, fun _ _ _ => AT.refl⟩
theorem item_f {F t c cap lf o m : Nat} {cs : CS} (hF : 10000 ≤ F) (h : WS t c cap lf cs) (hc : CLM o m cs) : ∃ cs' m', c_X9_readItem F cs t o = some cs' ∧ CLM o m' cs' ∧ cs'.1 = cs.1 ∧ ∀ x i, ¬ (96 ≤ x ∧ x ≤ 100 ∧ i = o) → AT cs cs' x i := by
  obtain ⟨v, hv⟩ := herf (F := F) h.f
  obtain ⟨b, hb⟩ := tf1 (k := 300) hF (by decide) h.f
  have fin : ∀ (x : Int32) (y : Int64), ∃ cs' m', c_X9_readItem_b91 F cs o x y = some cs' ∧ CLM o m' cs' ∧ cs'.1 = cs.1 ∧ ∀ x i, ¬ (96 ≤ x ∧ x ≤ 100 ∧ i = o) → AT cs cs' x i := fun x y => by
    obtain ⟨cs', m', e1, e2⟩ := add_any (F := F) (r := x) (nm := y) (mk := 0) (ty := 1) hc
    refine ⟨cs', m', ?_, e2⟩
    unfold c_X9_readItem_b91
    rw [ckE_ok hc.e, ob_s, e1, ob_s]
  unfold c_X9_readItem
  rw [ckE_ok hc.e, ob_s, clm_full hc, ob_s, ckE_ok h.f.h.o, ob_s, rn_f h.f, ob_s, ckE_ok h.f.h.o, ob_s, hv, ob_s, ob_s]
  show ∃ cs' m', (Option.bind ((tabc_X9_readExpr F 300).1 cs t) _) = some cs' ∧ _
  rw [hb, ob_s]
  show ∃ cs' m', (Option.bind (ckE cs 10 t) fun _ => Option.bind (c_X9_accept F cs t 17) _) = some cs' ∧ _
  rw [ckE_ok h.f.h.o, ob_s, acc_f h.f (by decide), ob_s, if_pos rfl]
  show ∃ cs' m', (Option.bind (gR cs 10 322 t) fun v_14 => Option.bind (v_14) fun i_16 => Option.bind (ckE cs 2 i_16) fun _ => Option.bind (c_X1_has F cs i_16 b) fun v_15 => if v_15 = 0 then (c_X9_readItem_b91 F cs o b (-1)) else (Option.bind (gR cs 10 322 t) fun v_19 => Option.bind (v_19) fun i_20 => Option.bind (gA cs 2 65 i_20) fun v_21 => Option.bind (rA cs 65 i_20 v_21 b) fun v_22 => if v_22 = 39 then (Option.bind (gR cs 10 322 t) fun v_24 => Option.bind (v_24) fun i_25 => Option.bind (gA cs 2 66 i_25) fun v_26 => Option.bind (rA cs 66 i_25 v_26 b) fun v_27 => if v_27 = v then (Option.bind (gR cs 10 322 t) fun v_29 => Option.bind (v_29) fun i_30 => Option.bind (gA cs 2 69 i_30) fun v_31 => Option.bind (rB cs 69 i_30 v_31 b) fun v_32 => c_X9_readItem_b91 F cs o b v_32) else (c_X9_readItem_b91 F cs o b (-1))) else (c_X9_readItem_b91 F cs o b (-1)))) = some cs' ∧ _
  rw [gR_ok h.f.h.o, ob_s, h.f.h.rc, ob_s, ckE_ok h.f.h.oc, ob_s]
  rcases has_any (F := F) (x := b) h.f.h.oc h.ca h.cp with e | ⟨e, r, r1, r2⟩
  · rw [e, ob_s, if_pos rfl]
    exact fin _ _
  · obtain ⟨j65, p65⟩ := h.ca.p65
    obtain ⟨j66, p66⟩ := h.ca.p66
    obtain ⟨j69, p69⟩ := h.ca.p69
    have hcp := h.cp
    rw [e, ob_s, if_neg (by decide), ob_s, ob_s, gA_ok h.f.h.oc, p65, ob_s, r1, rA_n h.ca.e65 p65 (by rw [h.ca.l65]; exact r2) (by rw [h.ca.l65]; omega), ob_s]
    by_cases y : kA cs 65 c r = 39
    · rw [if_pos y, ob_s, ob_s, gA_ok h.f.h.oc, p66, ob_s, rA_n h.ca.e66 p66 (by rw [h.ca.l66]; exact r2) (by rw [h.ca.l66]; omega), ob_s]
      by_cases y2 : kA cs 66 c r = v
      · rw [if_pos y2, ob_s, ob_s, gA_ok h.f.h.oc, p69, ob_s, rB_n h.ca.e69 p69 (by rw [h.ca.l69]; exact r2) (by rw [h.ca.l69]; omega), ob_s]
        exact fin _ _
      · rw [if_neg y2]
        exact fin _ _
    · rw [if_neg y]
      exact fin _ _

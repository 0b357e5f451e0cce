/-! where no EXPR begins, the class refuses there -/
theorem beg_no {F t κ : Nat} {cs : CS} (hb : c_X9_beginsExpr F cs t (nI κ) 0 = some 0) : κ ≠ 19 ∧ κ ≠ 26 ∧ κ ≠ 30 ∧ κ ≠ 31 ∧ κ ≠ 36 ∧ κ ≠ 38 ∧ κ ≠ 39 ∧ κ ≠ 40 ∧ κ ≠ 41 ∧ κ ≠ 46 := by
  have ab : ¬ (some 1 : Option Int32) = some 0 := by decide
  refine ⟨?_, ?_, ?_, ?_, ?_, ?_, ?_, ?_, ?_, ?_⟩
  · intro y
    subst y
    unfold c_X9_beginsExpr at hb
    rw [if_pos (by decide)] at hb
    exact ab hb
  · intro y
    subst y
    unfold c_X9_beginsExpr at hb
    rw [if_neg (by decide), if_neg (by decide), if_pos (by decide)] at hb
    exact ab hb
  · intro y
    subst y
    unfold c_X9_beginsExpr at hb
    rw [if_neg (by decide), if_neg (by decide), if_neg (by decide), if_pos (by decide)] at hb
    exact ab hb
  · intro y
    subst y
    unfold c_X9_beginsExpr at hb
    rw [if_neg (by decide), if_neg (by decide), if_neg (by decide), if_neg (by decide), if_pos (by decide)] at hb
    exact ab hb
  · intro y
    subst y
    unfold c_X9_beginsExpr at hb
    rw [if_neg (by decide), if_neg (by decide), if_neg (by decide), if_neg (by decide), if_neg (by decide), if_neg (by decide), if_neg (by decide), if_neg (by decide), if_neg (by decide), if_pos (by decide)] at hb
    exact ab hb
  · intro y
    subst y
    unfold c_X9_beginsExpr at hb
    rw [if_neg (by decide), if_neg (by decide), if_neg (by decide), if_neg (by decide), if_neg (by decide), if_neg (by decide), if_neg (by decide), if_neg (by decide), if_neg (by decide), if_neg (by decide), if_pos (by decide)] at hb
    exact ab hb
  · intro y
    subst y
    unfold c_X9_beginsExpr at hb
    rw [if_neg (by decide), if_neg (by decide), if_neg (by decide), if_neg (by decide), if_neg (by decide), if_neg (by decide), if_neg (by decide), if_neg (by decide), if_neg (by decide), if_neg (by decide), if_neg (by decide), if_pos (by decide)] at hb
    exact ab hb
  · intro y
    subst y
    unfold c_X9_beginsExpr at hb
    rw [if_neg (by decide), if_neg (by decide), if_neg (by decide), if_neg (by decide), if_neg (by decide), if_neg (by decide), if_neg (by decide), if_neg (by decide), if_neg (by decide), if_neg (by decide), if_neg (by decide), if_neg (by decide), if_pos (by decide)] at hb
    exact ab hb
  · intro y
    subst y
    unfold c_X9_beginsExpr at hb
    rw [if_neg (by decide), if_neg (by decide), if_neg (by decide), if_neg (by decide), if_neg (by decide), if_neg (by decide), if_neg (by decide), if_neg (by decide), if_neg (by decide), if_neg (by decide), if_neg (by decide), if_neg (by decide), if_neg (by decide), if_pos (by decide)] at hb
    exact ab hb
  · intro y
    subst y
    unfold c_X9_beginsExpr at hb
    rw [if_neg (by decide), if_neg (by decide), if_neg (by decide), if_neg (by decide), if_neg (by decide), if_neg (by decide), if_neg (by decide), if_neg (by decide), if_neg (by decide), if_neg (by decide), if_neg (by decide), if_neg (by decide), if_neg (by decide), if_neg (by decide), if_pos (by decide)] at hb
    exact ab hb
theorem cn_one {n : Nat} {f : Nat → Int32} {M t c cap q sel : Nat} {ma : Bool} {F i z s p κ : Nat} {T T2 : TC_X9_readExpr} {cs : CS} {rs : RS} (hA : T.2.2.2.2.2.2.2.2.2.2.1 = cb_X9_readAggregate F T2) (h : PG n f M t c cap q sel ma i z s cs rs) (hk : TK n f i p κ cs rs) (hb : c_X9_beginsExpr F cs t (nI κ) 0 = some 0) : cb_X9_readOne F T cs t = some (sI (sI cs 320 t 1) 321 t (kA cs 353 9 i)) := by
  have ho := h.h.o
  have hkl := hk.kl
  obtain ⟨y19, y26, y30, y31, y36, y38, y39, y40, y41, y46⟩ := beg_no hb
  have kd := knd_ok (F := F) h.h h.f0 h.ci h.i2 hk
  have ne : ∀ (x : Nat) (v : Int32), v = nI x → x < 60 → κ ≠ x → ¬ nI κ = v := fun x v e hx hn w => hn ((nI_eq (by omega) (by omega)).mp (w.trans e))
  have ga : c_X9_beginsExpr_b132 F cs t = some 0 → cb_X9_readAggregate F T2 cs t = some (sI (sI cs 320 t 1) 321 t (kA cs 353 9 i)) := fun e => by
    have e2 := (b108_1 (F := F) (x1 := 0) h).2
    rw [e] at e2
    have cm0 : kI cs 331 t = 0 := h.cm.trans (Option.some.inj e2).symm
    rw [agg_c h hk, if_pos cm0]
    unfold c_X9_readAggregate_b36
    rw [ckE_ok ho, ob_s, ref_ok h.h h.f0, ob_s]
  unfold cb_X9_readOne
  rw [ckE_ok ho, ob_s, kd, ob_s]
  by_cases y32 : κ = 32
  · subst y32
    unfold c_X9_beginsExpr at hb
    rw [if_neg (by decide), if_neg (by decide), if_neg (by decide), if_neg (by decide), if_neg (by decide), if_pos (by decide)] at hb
    rw [if_neg (by decide), if_neg (by decide), if_neg (by decide), if_neg (by decide), if_pos (by decide)]
    unfold c_X9_readOne_b175 c_X9_readOne_b191
    rw [ckE_ok ho, ob_s, hA, ga hb, ob_s]
  by_cases y33 : κ = 33
  · subst y33
    unfold c_X9_beginsExpr at hb
    rw [if_neg (by decide), if_neg (by decide), if_neg (by decide), if_neg (by decide), if_neg (by decide), if_neg (by decide), if_pos (by decide)] at hb
    rw [if_neg (by decide), if_neg (by decide), if_neg (by decide), if_neg (by decide), if_neg (by decide), if_pos (by decide)]
    unfold c_X9_readOne_b175 c_X9_readOne_b191
    rw [ckE_ok ho, ob_s, hA, ga hb, ob_s]
  by_cases y34 : κ = 34
  · subst y34
    unfold c_X9_beginsExpr at hb
    rw [if_neg (by decide), if_neg (by decide), if_neg (by decide), if_neg (by decide), if_neg (by decide), if_neg (by decide), if_neg (by decide), if_pos (by decide)] at hb
    rw [if_neg (by decide), if_neg (by decide), if_neg (by decide), if_neg (by decide), if_neg (by decide), if_neg (by decide), if_pos (by decide)]
    unfold c_X9_readOne_b175 c_X9_readOne_b191
    rw [ckE_ok ho, ob_s, hA, ga hb, ob_s]
  by_cases y35 : κ = 35
  · subst y35
    unfold c_X9_beginsExpr at hb
    rw [if_neg (by decide), if_neg (by decide), if_neg (by decide), if_neg (by decide), if_neg (by decide), if_neg (by decide), if_neg (by decide), if_neg (by decide), if_pos (by decide)] at hb
    rw [if_neg (by decide), if_neg (by decide), if_neg (by decide), if_neg (by decide), if_neg (by decide), if_neg (by decide), if_neg (by decide), if_pos (by decide)]
    unfold c_X9_readOne_b175 c_X9_readOne_b191
    rw [ckE_ok ho, ob_s, hA, ga hb, ob_s]
  rw [if_neg (ne 19 19 (by decide) (by decide) y19), if_neg (ne 26 26 (by decide) (by decide) y26), if_neg (ne 30 30 (by decide) (by decide) y30), if_neg (ne 31 31 (by decide) (by decide) y31), if_neg (ne 32 32 (by decide) (by decide) y32), if_neg (ne 33 33 (by decide) (by decide) y33), if_neg (ne 34 34 (by decide) (by decide) y34), if_neg (ne 35 35 (by decide) (by decide) y35), if_neg (ne 36 36 (by decide) (by decide) y36), if_neg (ne 38 38 (by decide) (by decide) y38), if_neg (ne 39 39 (by decide) (by decide) y39), if_neg (ne 40 40 (by decide) (by decide) y40), if_neg (ne 41 41 (by decide) (by decide) y41)]
  unfold c_X9_readOne_b182 c_X9_readOne_b191
  rw [ckE_ok ho, ob_s, her_ok (F := F) h.h h.ci h.i2, ob_s, ob_s, ref_ok h.h h.f0, ob_s]
theorem cn_sign {n : Nat} {f : Nat → Int32} {M t c cap q sel : Nat} {ma : Bool} {F i z s p κ : Nat} {T : TC_X9_readExpr} {cs : CS} {rs : RS} (h : PG n f M t c cap q sel ma i z s cs rs) (hk : TK n f i p κ cs rs) (hb : c_X9_beginsExpr F cs t (nI κ) 0 = some 0) (hT : T.2.2.2.2.2.2.2.1 cs t = some (sI (sI cs 320 t 1) 321 t (kA cs 353 9 i))) : cb_X9_readSign F T cs t = some (sI (sI cs 320 t 1) 321 t (kA cs 353 9 i)) := by
  have hkl := hk.kl
  have y46 := (beg_no hb).2.2.2.2.2.2.2.2.2
  have kd := knd_ok (F := F) h.h h.f0 h.ci h.i2 hk
  unfold cb_X9_readSign
  rw [ckE_ok h.h.o, ob_s, kd, ob_s, if_neg (show ¬ nI κ = 46 from fun w => y46 ((nI_eq (b := 46) (by omega) (by decide)).mp w)), ob_s, hT, ob_s]
theorem cn_part {n : Nat} {f : Nat → Int32} {M t c cap q sel : Nat} {ma : Bool} {F v i z s : Nat} {T : TC_X9_readExpr} {cs : CS} {rs : RS} (hF : F = v + 1) (h : PG n f M t c cap q sel ma i z s cs rs) (hT : T.2.2.2.2.2.2.1 cs t = some (sI (sI cs 320 t 1) 321 t (kA cs 353 9 i))) : cb_X9_readPart F T cs t = some (sI (sI cs 320 t 1) 321 t (kA cs 353 9 i)) := by
  have pb := h.bad (a := 1) (b := kA cs 353 9 i) (by decide)
  unfold cb_X9_readPart
  rw [gR_ok h.h.o, ob_s, h.h.rc, ob_s, gI_ok h.h.oc, ob_s, ckE_ok h.h.o, ob_s, her_ok (F := F) h.h h.ci h.i2, ob_s, ob_s, hT, ob_s]
  generalize hG : F = G
  rw [hG] at hF
  subst hF
  exact cf_part_L pb.s
theorem cn_sum {n : Nat} {f : Nat → Int32} {M t c cap q sel : Nat} {ma : Bool} {F v i z s : Nat} {T : TC_X9_readExpr} {cs : CS} {rs : RS} (hF : F = v + 1) (h : PG n f M t c cap q sel ma i z s cs rs) (hT : T.2.2.2.2.2.1 cs t = some (sI (sI cs 320 t 1) 321 t (kA cs 353 9 i))) : cb_X9_readSum F T cs t = some (sI (sI cs 320 t 1) 321 t (kA cs 353 9 i)) := by
  have pb := h.bad (a := 1) (b := kA cs 353 9 i) (by decide)
  unfold cb_X9_readSum
  rw [gR_ok h.h.o, ob_s, h.h.rc, ob_s, gI_ok h.h.oc, ob_s, ckE_ok h.h.o, ob_s, her_ok (F := F) h.h h.ci h.i2, ob_s, ob_s, hT, ob_s]
  generalize hG : F = G
  rw [hG] at hF
  subst hF
  exact cf_sum_L pb.s

/-! does an EXPR begin here: both -/
theorem itx_ok {F n M i p κ x : Nat} {f : Nat → Int32} {cs : CS} {rs : RS} (hF : 10000 ≤ F) (h : TX n f M cs rs) (hi : i ≤ M) (k : TK n f i p κ cs rs) (w : κ ≤ 39) (hx : x < 42) (hx2 : swK x < 39) : m_isText F rs (nI i) x = some (if κ = swK x then 1 else 0) := by
  obtain ⟨l, wd, -, e1, e2⟩ := h.wd hi k w
  obtain ⟨b, b1, b2⟩ := it_ok (F := F) hF wd hx hx2
  rw [b1]
  rcases b2 with ⟨q1, q2⟩ | ⟨q1, q2⟩
  · have : κ = swK x := by
      by_cases y : κ = 39
      · exact absurd q2.symm (e2 y (swK x) hx2)
      · exact tn_inj κ (by omega) (swK x) hx2 ((e1 (by omega)).trans q2)
    rw [if_pos this, q1]
  · have : κ ≠ swK x := fun y => q2 (by rw [← e1 (by omega), y])
    rw [if_neg this, q1]
theorem itk_ok {F n M i p κ : Nat} {f : Nat → Int32} {cs : CS} {rs : RS} (hF : 10000 ≤ F) (h : TX n f M cs rs) (hi : i ≤ M) (k : TK n f i p κ cs rs) (w : κ ≤ 39) : m_isTaken F rs (nI i) = some (if κ = 39 then 0 else 1) := by
  obtain ⟨l, wd, -, e1, e2⟩ := h.wd hi k w
  obtain ⟨b, b1, b2⟩ := tk_ok (F := F) hF wd
  rw [b1]
  rcases b2 with ⟨q1, q, q2, q3⟩ | ⟨q1, q2⟩
  · have : κ ≠ 39 := fun y => e2 y q q2 q3
    rw [if_neg this, q1]
  · have : κ = 39 := by
      rcases Nat.lt_or_ge κ 39 with y | y
      · exact absurd (e1 y) (q2 κ y)
      · omega
    rw [if_pos this, q1]
theorem b108_1 {n : Nat} {f : Nat → Int32} {M t c cap q sel : Nat} {ma : Bool} {F i z s : Nat} {cs : CS} {rs : RS} {x1 : Int32} (h : PG n f M t c cap q sel ma i z s cs rs) : m_begins_b103 F rs x1 = some (if ma = true then 1 else 0) ∧ c_X9_beginsExpr_b132 F cs t = some (if ma = true then 1 else 0) := by
  have nz : ¬ (1 : Int32) = 0 := by decide
  unfold m_begins_b103 m_begins_b108 m_begins_b131 m_begins_b132 c_X9_beginsExpr_b132
  rw [if_neg nz, gI_ok h.h.o, ob_s, h.cm]
  rcases h.rm with ⟨e, w1, w2⟩ | ⟨e, w⟩
  · rw [if_neg (show ¬ rs.1 72 = 0 by rw [w1]; decide), if_pos w2, if_pos e]
    exact ⟨rfl, rfl⟩
  · have e' : ¬ ma = true := by rw [e]; decide
    rw [if_neg e']
    by_cases y : rs.1 72 = 0
    · rw [if_pos y]
      exact ⟨rfl, rfl⟩
    · rw [if_neg y, if_neg (show ¬ rs.1 73 = 0 by
        rcases w with w | w
        · exact absurd w y
        · rw [w]; decide)]
      exact ⟨rfl, rfl⟩
theorem sim_beg {n : Nat} {f : Nat → Int32} {M t c cap q sel : Nat} {ma : Bool} {F i z s p κ : Nat} {cs : CS} {rs : RS} {x1 x2 : Int32} (hF : 10000 ≤ F) (h : PG n f M t c cap q sel ma i z s cs rs) (hk : TK n f i p κ cs rs) (hx : (x1 = 1 ∧ x2 = 0) ∨ (x1 = 0 ∧ x2 = 1)) : ∃ b : Int32, m_begins F rs x1 = some b ∧ c_X9_beginsExpr F cs t (nI κ) x2 = some b ∧ (b = 0 ∨ b = 1) := by
  have hi2 := h.i2
  have him := h.im
  have hkl := hk.kl
  have r01 : (2001 : Nat) < 2147483648 := by decide
  have nz : ¬ (1 : Int32) = 0 := by decide
  have ne : ∀ (x : Nat) (v : Int32), v = nI x → x < 60 → κ ≠ x → ¬ nI κ = v := fun x v e hx hn w => hn ((nI_eq (by omega) (by omega)).mp (w.trans e))
  obtain ⟨p1, p2⟩ := b108_1 (F := F) (x1 := x1) h
  have pv : (if ma = true then (1 : Int32) else 0) = 0 ∨ (if ma = true then (1 : Int32) else 0) = 1 := by
    by_cases y : ma = true
    · rw [if_pos y]; exact Or.inr rfl
    · rw [if_neg y]; exact Or.inl rfl
  unfold m_begins
  rw [if_neg (show ¬ rs.1 21 = 0 by rw [h.g1]; decide), h.ri, rdI_n hi2 r01, ob_s]
  by_cases w39 : κ ≤ 39
  · rw [(hk.wd w39).1, if_pos rfl]
    have w5 := itx_ok (F := F) (x := 5) hF h.x him hk w39 (by decide) (by decide)
    rw [show swK 5 = 32 by decide] at w5
    have w6 := itx_ok (F := F) (x := 6) hF h.x him hk w39 (by decide) (by decide)
    rw [show swK 6 = 33 by decide] at w6
    have w7 := itx_ok (F := F) (x := 7) hF h.x him hk w39 (by decide) (by decide)
    rw [show swK 7 = 34 by decide] at w7
    have w8 := itx_ok (F := F) (x := 8) hF h.x him hk w39 (by decide) (by decide)
    rw [show swK 8 = 35 by decide] at w8
    have w9 := itx_ok (F := F) (x := 9) hF h.x him hk w39 (by decide) (by decide)
    rw [show swK 9 = 26 by decide] at w9
    have w10 := itx_ok (F := F) (x := 10) hF h.x him hk w39 (by decide) (by decide)
    rw [show swK 10 = 30 by decide] at w10
    have w11 := itx_ok (F := F) (x := 11) hF h.x him hk w39 (by decide) (by decide)
    rw [show swK 11 = 31 by decide] at w11
    have w12 := itx_ok (F := F) (x := 12) hF h.x him hk w39 (by decide) (by decide)
    rw [show swK 12 = 19 by decide] at w12
    have w13 := itx_ok (F := F) (x := 13) hF h.x him hk w39 (by decide) (by decide)
    rw [show swK 13 = 36 by decide] at w13
    have w14 := itx_ok (F := F) (x := 14) hF h.x him hk w39 (by decide) (by decide)
    rw [show swK 14 = 38 by decide] at w14
    have w16 := itx_ok (F := F) (x := 16) hF h.x him hk w39 (by decide) (by decide)
    rw [show swK 16 = 25 by decide] at w16
    have wt := itk_ok (F := F) hF h.x him hk w39
    by_cases y32 : κ = 32
    · rw [if_pos y32] at w5
      refine ⟨_, ?_, ?_, pv⟩
      · rw [w5, ob_s, if_neg nz]
        exact p1
      · subst y32
        unfold c_X9_beginsExpr
        rw [if_neg (by decide), if_neg (by decide), if_neg (by decide), if_neg (by decide), if_neg (by decide), if_pos (by decide)]
        exact p2
    rw [if_neg y32] at w5
    by_cases y33 : κ = 33
    · rw [if_pos y33] at w6
      refine ⟨_, ?_, ?_, pv⟩
      · rw [w5, ob_s, if_pos rfl, w6, ob_s, if_neg nz]
        exact p1
      · subst y33
        unfold c_X9_beginsExpr
        rw [if_neg (by decide), if_neg (by decide), if_neg (by decide), if_neg (by decide), if_neg (by decide), if_neg (by decide), if_pos (by decide)]
        exact p2
    rw [if_neg y33] at w6
    by_cases y34 : κ = 34
    · rw [if_pos y34] at w7
      refine ⟨_, ?_, ?_, pv⟩
      · rw [w5, ob_s, if_pos rfl, w6, ob_s, if_pos rfl, w7, ob_s, if_neg nz]
        exact p1
      · subst y34
        unfold c_X9_beginsExpr
        rw [if_neg (by decide), if_neg (by decide), if_neg (by decide), if_neg (by decide), if_neg (by decide), if_neg (by decide), if_neg (by decide), if_pos (by decide)]
        exact p2
    rw [if_neg y34] at w7
    by_cases y35 : κ = 35
    · rw [if_pos y35] at w8
      refine ⟨_, ?_, ?_, pv⟩
      · rw [w5, ob_s, if_pos rfl, w6, ob_s, if_pos rfl, w7, ob_s, if_pos rfl, w8, ob_s, if_neg nz]
        exact p1
      · subst y35
        unfold c_X9_beginsExpr
        rw [if_neg (by decide), if_neg (by decide), if_neg (by decide), if_neg (by decide), if_neg (by decide), if_neg (by decide), if_neg (by decide), if_neg (by decide), if_pos (by decide)]
        exact p2
    rw [if_neg y35] at w8
    have hq : ∀ x, m_begins_b108 F rs x1 0 = x → (Option.bind (m_isText F rs (nI i) 5) fun v_28 => if v_28 = 0 then (Option.bind (m_isText F rs (nI i) 6) fun v_30 => if v_30 = 0 then (Option.bind (m_isText F rs (nI i) 7) fun v_32 => if v_32 = 0 then (Option.bind (m_isText F rs (nI i) 8) fun v_34 => if v_34 = 0 then (m_begins_b108 F rs x1 0) else (m_begins_b103 F rs x1)) else (m_begins_b103 F rs x1)) else (m_begins_b103 F rs x1)) else (m_begins_b103 F rs x1)) = x := fun x e => by
      rw [w5, ob_s, if_pos rfl, w6, ob_s, if_pos rfl, w7, ob_s, if_pos rfl, w8, ob_s, if_pos rfl, e]
    by_cases y26 : κ = 26
    · rw [if_pos y26] at w9
      refine ⟨1, hq _ ?_, ?_, Or.inr rfl⟩
      · unfold m_begins_b108
        rw [if_pos rfl, h.ri, w9, ob_s, if_neg nz]
        rfl
      · subst y26
        unfold c_X9_beginsExpr
        rw [if_neg (by decide), if_neg (by decide), if_pos (by decide)]
        rfl
    rw [if_neg y26] at w9
    by_cases y30 : κ = 30
    · rw [if_pos y30] at w10
      refine ⟨1, hq _ ?_, ?_, Or.inr rfl⟩
      · unfold m_begins_b108
        rw [if_pos rfl, h.ri, w9, ob_s, if_pos rfl, w10, ob_s, if_neg nz]
        rfl
      · subst y30
        unfold c_X9_beginsExpr
        rw [if_neg (by decide), if_neg (by decide), if_neg (by decide), if_pos (by decide)]
        rfl
    rw [if_neg y30] at w10
    by_cases y31 : κ = 31
    · rw [if_pos y31] at w11
      refine ⟨1, hq _ ?_, ?_, Or.inr rfl⟩
      · unfold m_begins_b108
        rw [if_pos rfl, h.ri, w9, ob_s, if_pos rfl, w10, ob_s, if_pos rfl, w11, ob_s, if_neg nz]
        rfl
      · subst y31
        unfold c_X9_beginsExpr
        rw [if_neg (by decide), if_neg (by decide), if_neg (by decide), if_neg (by decide), if_pos (by decide)]
        rfl
    rw [if_neg y31] at w11
    by_cases y19 : κ = 19
    · rw [if_pos y19] at w12
      refine ⟨1, hq _ ?_, ?_, Or.inr rfl⟩
      · unfold m_begins_b108
        rw [if_pos rfl, h.ri, w9, ob_s, if_pos rfl, w10, ob_s, if_pos rfl, w11, ob_s, if_pos rfl, w12, ob_s, if_neg nz]
        rfl
      · subst y19
        unfold c_X9_beginsExpr
        rw [if_pos (by decide)]
        rfl
    rw [if_neg y19] at w12
    by_cases y36 : κ = 36
    · rw [if_pos y36] at w13
      refine ⟨1, hq _ ?_, ?_, Or.inr rfl⟩
      · unfold m_begins_b108
        rw [if_pos rfl, h.ri, w9, ob_s, if_pos rfl, w10, ob_s, if_pos rfl, w11, ob_s, if_pos rfl, w12, ob_s, if_pos rfl, w13, ob_s, if_neg nz]
        rfl
      · subst y36
        unfold c_X9_beginsExpr
        rw [if_neg (by decide), if_neg (by decide), if_neg (by decide), if_neg (by decide), if_neg (by decide), if_neg (by decide), if_neg (by decide), if_neg (by decide), if_neg (by decide), if_pos (by decide)]
        rfl
    rw [if_neg y36] at w13
    by_cases y38 : κ = 38
    · rw [if_pos y38] at w14
      refine ⟨1, hq _ ?_, ?_, Or.inr rfl⟩
      · unfold m_begins_b108
        rw [if_pos rfl, h.ri, w9, ob_s, if_pos rfl, w10, ob_s, if_pos rfl, w11, ob_s, if_pos rfl, w12, ob_s, if_pos rfl, w13, ob_s, if_pos rfl, w14, ob_s, if_neg nz]
        rfl
      · subst y38
        unfold c_X9_beginsExpr
        rw [if_neg (by decide), if_neg (by decide), if_neg (by decide), if_neg (by decide), if_neg (by decide), if_neg (by decide), if_neg (by decide), if_neg (by decide), if_neg (by decide), if_neg (by decide), if_pos (by decide)]
        rfl
    rw [if_neg y38] at w14
    have hs : ∀ x, m_begins_b222 F rs x1 0 = x → m_begins_b108 F rs x1 0 = x := fun x e => by
      unfold m_begins_b108
      rw [if_pos rfl, h.ri, w9, ob_s, if_pos rfl, w10, ob_s, if_pos rfl, w11, ob_s, if_pos rfl, w12, ob_s, if_pos rfl, w13, ob_s, if_pos rfl, w14, ob_s, if_pos rfl, e]
    by_cases y39 : κ = 39
    · rw [if_pos y39] at wt
      refine ⟨1, hq _ (hs _ ?_), ?_, Or.inr rfl⟩
      · unfold m_begins_b222
        rw [if_pos rfl, h.ri, wt, ob_s, if_pos rfl]
        rfl
      · subst y39
        unfold c_X9_beginsExpr
        rw [if_neg (by decide), if_neg (by decide), if_neg (by decide), if_neg (by decide), if_neg (by decide), if_neg (by decide), if_neg (by decide), if_neg (by decide), if_neg (by decide), if_neg (by decide), if_neg (by decide), if_pos (by decide)]
        rfl
    rw [if_neg y39] at wt
    by_cases y25 : κ = 25
    · rw [if_pos y25] at w16
      refine ⟨x2, hq _ (hs _ ?_), ?_, ?_⟩
      · unfold m_begins_b222
        rw [if_pos rfl, h.ri, wt, ob_s, if_neg nz]
        rcases hx with ⟨e1, e2⟩ | ⟨e1, e2⟩
        · rw [e1, e2, if_neg nz]
          rfl
        · rw [e1, e2, if_pos rfl, w16, ob_s, if_neg nz]
          rfl
      · subst y25
        unfold c_X9_beginsExpr
        rw [if_neg (by decide), if_pos (by decide)]
        rcases hx with ⟨-, e2⟩ | ⟨-, e2⟩ <;> rw [e2] <;> rfl
      · rcases hx with ⟨-, e2⟩ | ⟨-, e2⟩
        · exact Or.inl e2
        · exact Or.inr e2
    rw [if_neg y25] at w16
    refine ⟨0, hq _ (hs _ ?_), ?_, Or.inl rfl⟩
    · unfold m_begins_b222
      rw [if_pos rfl, h.ri, wt, ob_s, if_neg nz]
      rcases hx with ⟨e1, -⟩ | ⟨e1, -⟩
      · rw [e1, if_neg nz]
        rfl
      · rw [e1, if_pos rfl, w16, ob_s, if_pos rfl]
        rfl
    · unfold c_X9_beginsExpr
      rw [if_neg (ne 19 19 (by decide) (by decide) y19), if_neg (ne 25 25 (by decide) (by decide) y25), if_neg (ne 26 26 (by decide) (by decide) y26), if_neg (ne 30 30 (by decide) (by decide) y30), if_neg (ne 31 31 (by decide) (by decide) y31), if_neg (ne 32 32 (by decide) (by decide) y32), if_neg (ne 33 33 (by decide) (by decide) y33), if_neg (ne 34 34 (by decide) (by decide) y34), if_neg (ne 35 35 (by decide) (by decide) y35), if_neg (ne 36 36 (by decide) (by decide) y36), if_neg (ne 38 38 (by decide) (by decide) y38), if_neg (ne 39 39 (by decide) (by decide) y39), if_neg (ne 40 40 (by decide) (by decide) (by omega)), if_neg (ne 41 41 (by decide) (by decide) (by omega)), if_neg (ne 46 46 (by decide) (by decide) (by omega))]
      rfl
  · have c0 : ∀ x y : Option Int32, (if nI κ = 40 then x else if nI κ = 41 then x else if nI κ = 46 then x else y) = (if κ = 40 ∨ κ = 41 ∨ κ = 46 then x else y) := fun x y => by
      by_cases y40 : κ = 40
      · rw [if_pos (show nI κ = 40 by rw [y40]; decide), if_pos (Or.inl y40)]
      · rw [if_neg (ne 40 40 (by decide) (by decide) y40)]
        by_cases y41 : κ = 41
        · rw [if_pos (show nI κ = 41 by rw [y41]; decide), if_pos (Or.inr (Or.inl y41))]
        · rw [if_neg (ne 41 41 (by decide) (by decide) y41)]
          by_cases y46 : κ = 46
          · rw [if_pos (show nI κ = 46 by rw [y46]; decide), if_pos (Or.inr (Or.inr y46))]
          · rw [if_neg (ne 46 46 (by decide) (by decide) y46), if_neg (by omega)]
    have ce : c_X9_beginsExpr F cs t (nI κ) x2 = if κ = 40 ∨ κ = 41 ∨ κ = 46 then c_X9_beginsExpr_b128 F cs else c_X9_beginsExpr_b137 F cs := by
      unfold c_X9_beginsExpr
      rw [if_neg (ne 19 19 (by decide) (by decide) (by omega)), if_neg (ne 25 25 (by decide) (by decide) (by omega)), if_neg (ne 26 26 (by decide) (by decide) (by omega)), if_neg (ne 30 30 (by decide) (by decide) (by omega)), if_neg (ne 31 31 (by decide) (by decide) (by omega)), if_neg (ne 32 32 (by decide) (by decide) (by omega)), if_neg (ne 33 33 (by decide) (by decide) (by omega)), if_neg (ne 34 34 (by decide) (by decide) (by omega)), if_neg (ne 35 35 (by decide) (by decide) (by omega)), if_neg (ne 36 36 (by decide) (by decide) (by omega)), if_neg (ne 38 38 (by decide) (by decide) (by omega)), if_neg (ne 39 39 (by decide) (by decide) (by omega)), c0]
    have t1 : rs.2.2.1 14 i ≠ 1 := by
      by_cases y1 : κ = 40
      · rw [(hk.nu y1).1]; decide
      · by_cases y2 : κ = 56
        · rw [hk.en y2]; decide
        · by_cases y3 : κ = 57
          · rw [hk.bad y3]; decide
          · rw [hk.sg (by omega) (by omega)]
            exact (st_no κ (by omega) (by omega)).2.1
    rw [if_neg t1, ce]
    by_cases y40 : κ = 40
    · rw [(hk.nu y40).1, if_pos rfl, if_pos (Or.inl y40)]
      exact ⟨1, rfl, rfl, Or.inr rfl⟩
    by_cases y41 : κ = 41
    · rw [hk.sg (by omega) (by omega), y41, if_neg (by decide), if_pos (by decide), if_pos (by decide)]
      exact ⟨1, rfl, rfl, Or.inr rfl⟩
    by_cases y46 : κ = 46
    · rw [hk.sg (by omega) (by omega), y46, if_neg (by decide), if_neg (by decide), if_pos (by decide), if_pos (by decide)]
      exact ⟨1, rfl, rfl, Or.inr rfl⟩
    have t3 : rs.2.2.1 14 i ≠ 2 ∧ rs.2.2.1 14 i ≠ 40 ∧ rs.2.2.1 14 i ≠ 45 := by
      by_cases y2 : κ = 56
      · rw [hk.en y2]; decide
      · by_cases y3 : κ = 57
        · rw [hk.bad y3]; decide
        · rw [hk.sg (by omega) (by omega)]
          refine ⟨(st_no κ (by omega) (by omega)).2.2.1, fun e => y41 (st_sep κ (by omega) (by omega) 41 (by decide) (by decide) (e.trans (by decide))), fun e => y46 (st_sep κ (by omega) (by omega) 46 (by decide) (by decide) (e.trans (by decide)))⟩
    rw [if_neg t3.1, if_neg t3.2.1, if_neg t3.2.2, if_neg (by omega)]
    exact ⟨0, rfl, rfl, Or.inl rfl⟩

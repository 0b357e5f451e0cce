/-! one EXPR that is no act, of both -/
def b_oneR (F : Nat) (T' : TG_expr) (u : Int32) (cs : RS) : Option (RS × Int32) := (Option.bind (m_takeWord F cs 9) fun z_20 => if z_20.2 = 0 then (Option.bind (m_takeWord F z_20.1 10) fun z_22 => if z_22.2 = 0 then (Option.bind (m_takeWord F z_22.1 11) fun z_24 => if z_24.2 = 0 then (Option.bind (m_isSign F z_24.1 40) fun v_26 => if v_26 = 0 then (Option.bind (m_isWord F z_24.1 12) fun v_28 => if v_28 = 0 then (Option.bind (m_isWord F z_24.1 13) fun v_30 => if v_30 = 0 then (Option.bind (m_isWord F z_24.1 5) fun v_32 => if v_32 = 0 then (Option.bind (m_isWord F z_24.1 6) fun v_34 => if v_34 = 0 then (Option.bind (m_isWord F z_24.1 7) fun v_36 => if v_36 = 0 then (Option.bind (m_isWord F z_24.1 8) fun v_38 => if v_38 = 0 then (Option.bind (m_columnOf F z_24.1 u) fun z_40 => m_one_b493 F T' z_40.1 u z_40.2) else (m_one_b478 F T' z_24.1 u)) else (m_one_b478 F T' z_24.1 u)) else (m_one_b478 F T' z_24.1 u)) else (m_one_b478 F T' z_24.1 u)) else (Option.bind (m_deeper F z_24.1 u) fun cs_41 => Option.bind (m_needSign F (setF cs_41 18 ((cs_41.1 18) + 1)) 40) fun cs_42 => if (cs_42.1 21) = 0 then (m_one_b382 F T' cs_42 u 0) else (Option.bind (T'.1 cs_42 ) fun z_44 => m_one_b382 F T' z_44.1 u z_44.2))) else (Option.bind (m_deeper F z_24.1 u) fun cs_45 => Option.bind (m_needWord F (setF cs_45 18 ((cs_45.1 18) + 1)) 17) fun cs_46 => if (cs_46.1 21) = 0 then (m_one_b253 F T' cs_46 u 0) else (Option.bind (T'.1 cs_46 ) fun z_48 => m_one_b253 F T' z_48.1 u z_48.2))) else (Option.bind (m_deeper F z_24.1 u) fun cs_49 => if ((setF cs_49 18 ((cs_49.1 18) + 1)).1 21) = 0 then (m_one_b186 F T' (setF cs_49 18 ((cs_49.1 18) + 1)) u 0) else (Option.bind (T'.1 (setF cs_49 18 ((cs_49.1 18) + 1)) ) fun z_51 => m_one_b186 F T' z_51.1 u z_51.2))) else (Option.bind (m_make F z_24.1 4 (-1) (-1) (-1) u u) fun z_52 => m_one_b493 F T' z_52.1 u z_52.2)) else (Option.bind (m_make F z_22.1 3 (-1) (-1) (-1) u u) fun z_53 => m_one_b493 F T' z_53.1 u z_53.2)) else (Option.bind (m_make F z_20.1 2 (-1) (-1) (-1) u u) fun z_54 => m_one_b493 F T' z_54.1 u z_54.2))
def b_oneS (F : Nat) (T' : TG_expr) (u : Int32) (cs : RS) (v_26 : Int32) : Option (RS × Int32) := if v_26 = 0 then (Option.bind (m_isWord F cs 12) fun v_28 => if v_28 = 0 then (Option.bind (m_isWord F cs 13) fun v_30 => if v_30 = 0 then (Option.bind (m_isWord F cs 5) fun v_32 => if v_32 = 0 then (Option.bind (m_isWord F cs 6) fun v_34 => if v_34 = 0 then (Option.bind (m_isWord F cs 7) fun v_36 => if v_36 = 0 then (Option.bind (m_isWord F cs 8) fun v_38 => if v_38 = 0 then (Option.bind (m_columnOf F cs u) fun z_40 => m_one_b493 F T' z_40.1 u z_40.2) else (m_one_b478 F T' cs u)) else (m_one_b478 F T' cs u)) else (m_one_b478 F T' cs u)) else (m_one_b478 F T' cs u)) else (Option.bind (m_deeper F cs u) fun cs_41 => Option.bind (m_needSign F (setF cs_41 18 ((cs_41.1 18) + 1)) 40) fun cs_42 => if (cs_42.1 21) = 0 then (m_one_b382 F T' cs_42 u 0) else (Option.bind (T'.1 cs_42 ) fun z_44 => m_one_b382 F T' z_44.1 u z_44.2))) else (Option.bind (m_deeper F cs u) fun cs_45 => Option.bind (m_needWord F (setF cs_45 18 ((cs_45.1 18) + 1)) 17) fun cs_46 => if (cs_46.1 21) = 0 then (m_one_b253 F T' cs_46 u 0) else (Option.bind (T'.1 cs_46 ) fun z_48 => m_one_b253 F T' z_48.1 u z_48.2))) else (Option.bind (m_deeper F cs u) fun cs_49 => if ((setF cs_49 18 ((cs_49.1 18) + 1)).1 21) = 0 then (m_one_b186 F T' (setF cs_49 18 ((cs_49.1 18) + 1)) u 0) else (Option.bind (T'.1 (setF cs_49 18 ((cs_49.1 18) + 1)) ) fun z_51 => m_one_b186 F T' z_51.1 u z_51.2))
theorem sim_one {n : Nat} {f : Nat → Int32} {M t c cap q sel : Nat} {ma : Bool} {F z : Nat} {T T2 : TC_X9_readExpr} {T' T2' : TG_expr} (hF : 10000 ≤ F) (hC : T.2.2.2.2.2.2.2.2.1 = cb_X9_readCase F T2) (hS : T.2.2.2.2.2.2.2.2.2.1 = cb_X9_readSpan F T2) (hA : T.2.2.2.2.2.2.2.2.2.2.1 = cb_X9_readAggregate F T2) (hA' : T'.2.2.2.2.2.2.2.2 = b_aggregate F T2') (hT : z < 12 → SX n f M t c cap q sel ma (z + 1) T.1 T'.1) (hT2 : z < 12 → SX n f M t c cap q sel ma (z + 1) T2.1 T'.1) (hT3 : z < 12 → ∀ q', SX n f M t c cap q' sel false (z + 1) T2.1 T2'.1) (hTf : ∀ x, FS t c x → ∃ b, T.1 x t = some (x, b)) (hTf2 : ∀ x, FS t c x → ∃ b, T2.1 x t = some (x, b)) : SE n f M t c cap q sel ma z (cb_X9_readOne F T) (b_one F T') := by
  intro i s cs rs h
  have ho := h.h.o
  have hi2 := h.i2
  have him := h.im
  have r01 : (2001 : Nat) < 2147483648 := by decide
  have nz : ¬ (1 : Int32) = 0 := by decide
  obtain ⟨p, κ, hk, hk1, hk2, kd, hkl, pr⟩ := h.tok (F := F)
  have lt : κ < 56 → i < M := fun w => by
    rcases Nat.lt_or_ge i M with y | y
    · exact y
    · have := hk2 (by omega); omega
  have w9 := iw_ok (F := F) (x := 9) hF h.x him hk h.g1 h.ri (by decide) (by decide)
  have w10 := iw_ok (F := F) (x := 10) hF h.x him hk h.g1 h.ri (by decide) (by decide)
  have w11 := iw_ok (F := F) (x := 11) hF h.x him hk h.g1 h.ri (by decide) (by decide)
  have w12 := iw_ok (F := F) (x := 12) hF h.x him hk h.g1 h.ri (by decide) (by decide)
  have w13 := iw_ok (F := F) (x := 13) hF h.x him hk h.g1 h.ri (by decide) (by decide)
  have w5 := iw_ok (F := F) (x := 5) hF h.x him hk h.g1 h.ri (by decide) (by decide)
  have w6 := iw_ok (F := F) (x := 6) hF h.x him hk h.g1 h.ri (by decide) (by decide)
  have w7 := iw_ok (F := F) (x := 7) hF h.x him hk h.g1 h.ri (by decide) (by decide)
  have w8 := iw_ok (F := F) (x := 8) hF h.x him hk h.g1 h.ri (by decide) (by decide)
  have w14 := iw_ok (F := F) (x := 14) hF h.x him hk h.g1 h.ri (by decide) (by decide)
  have g40 := ig_ok (F := F) (q := 41) h.x him hk h.g1 h.ri (by decide) (by decide)
  rw [show swK 9 = 26 by decide] at w9
  rw [show swK 10 = 30 by decide] at w10
  rw [show swK 11 = 31 by decide] at w11
  rw [show swK 12 = 19 by decide] at w12
  rw [show swK 13 = 36 by decide] at w13
  rw [show swK 5 = 32 by decide] at w5
  rw [show swK 6 = 33 by decide] at w6
  rw [show swK 7 = 34 by decide] at w7
  rw [show swK 8 = 35 by decide] at w8
  rw [show swK 14 = 38 by decide] at w14
  rw [show st (nI 41) = 40 by decide] at g40
  have t14 : κ ≠ 40 → rs.2.2.1 14 i ≠ 2 := fun w => by
    rcases Nat.lt_or_ge κ 40 with y | y
    · rw [(hk.wd (by omega)).1]; decide
    · rcases Nat.lt_or_ge κ 56 with y2 | y2
      · rw [hk.sg (by omega) (by omega)]
        exact (st_no κ y2 (by omega)).2.2.1
      · rcases Nat.lt_or_ge κ 57 with y3 | y3
        · rw [hk.en (by omega)]; decide
        · rw [hk.bad (by omega)]; decide
  have cl : ∀ x, (if nI κ = 19 then (Option.bind (T.2.2.2.2.2.2.2.2.1 cs t) fun cs_14 => some cs_14) else (if nI κ = 26 then (Option.bind (c_X9_readLiteral F cs t) fun y => some y) else (if nI κ = 30 then (Option.bind (c_X9_readLiteral F cs t) fun y => some y) else (if nI κ = 31 then (Option.bind (c_X9_readLiteral F cs t) fun y => some y) else (if nI κ = 32 then (Option.bind (T.2.2.2.2.2.2.2.2.2.2.1 cs t) fun y => some y) else (if nI κ = 33 then (Option.bind (T.2.2.2.2.2.2.2.2.2.2.1 cs t) fun y => some y) else (if nI κ = 34 then (Option.bind (T.2.2.2.2.2.2.2.2.2.2.1 cs t) fun y => some y) else (if nI κ = 35 then (Option.bind (T.2.2.2.2.2.2.2.2.2.2.1 cs t) fun y => some y) else (if nI κ = 36 then (Option.bind (T.2.2.2.2.2.2.2.2.2.1 cs t) fun y => some y) else (if nI κ = 38 then (Option.bind (c_X9_readColumn F cs t) fun y => some y) else (if nI κ = 39 then (Option.bind (c_X9_readColumn F cs t) fun y => some y) else (if nI κ = 40 then (Option.bind (c_X9_readLiteral F cs t) fun y => some y) else (if nI κ = 41 then (Option.bind (c_X9_deepen F cs t) fun cs_30 => Option.bind (ckE cs_30 10 t) fun _ => Option.bind (c_X9_accept F cs_30 t 41) fun z_32 => Option.bind (ckE z_32.1 10 t) fun _ => Option.bind (T.1 z_32.1 t) fun z_34 => Option.bind (ckE z_34.1 10 t) fun _ => Option.bind (c_X9_expect F z_34.1 t 42) fun cs_36 => Option.bind (gI cs_36 10 329 t) fun v_38 => Option.bind (pI cs_36 10 329 t (v_38 - 1)) fun cs_39 => c_X9_readOne_b191 F T cs_39) else (c_X9_readOne_b182 F T cs t)))))))))))))) = x → cb_X9_readOne F T cs t = x := fun x hx => by
    rw [← hx]
    unfold cb_X9_readOne c_X9_readOne_b112 c_X9_readOne_b119 c_X9_readOne_b175
    rw [ckE_ok ho, ob_s, kd, ob_s]
    rfl
  have hd : ∀ x, (if rs.2.2.1 14 i = 2 then (Option.bind (m_make F (setF rs 18 (nI (i + 1))) 1 (-1) (-1) (-1) (kA cs 353 9 i) (kA cs 353 9 i)) fun z_56 => Option.bind (wrL z_56.1 28 121 z_56.2 (rs.2.2.2 17 i)) fun cs_57 => some (setF cs_57 74 (kA cs 353 9 i), z_56.2)) else (b_oneR F T' (kA cs 353 9 i) rs)) = x → b_one F T' rs = x := fun x hx => by
    rw [← hx]
    unfold b_one
    rw [h.ri, rdI_n hi2 r01, ob_s, if_neg (show ¬ rs.1 21 = 0 by rw [h.g1]; decide), rdI_n hi2 r01, ob_s, pr, rdL_n hi2 r01, ob_s, nI_1]
    rfl
  by_cases y40 : κ = 40
  · subst y40
    obtain ⟨a1, a, -, a2, a3⟩ := hk.nu rfl
    obtain ⟨cs', rs', m, e1, e2, e3⟩ := sim_lit (F := F) h hk (lt (by decide)) true (Or.inl ⟨rfl, rfl, rfl⟩)
    refine ⟨cs', rs', m, cl _ ?_, hd _ ?_, e3⟩
    · rw [if_neg (by decide), if_neg (by decide), if_neg (by decide), if_neg (by decide), if_neg (by decide), if_neg (by decide), if_neg (by decide), if_neg (by decide), if_neg (by decide), if_neg (by decide), if_neg (by decide), if_pos (by decide), e1, ob_s]
    · rw [if_pos a1, a3, ← a2]
      exact e2
  by_cases y26 : κ = 26
  · subst y26
    obtain ⟨cs', rs', m, e1, e2, e3⟩ := sim_lit (F := F) (k' := 2) h hk (lt (by decide)) false (Or.inr (Or.inl ⟨rfl, rfl, rfl⟩))
    rw [if_pos rfl] at w9
    refine ⟨cs', rs', m, cl _ ?_, hd _ ?_, e3⟩
    · rw [if_neg (by decide), if_pos (by decide), e1, ob_s]
    · rw [if_neg (t14 (by decide))]
      unfold b_oneR
      rw [tw_y h.ri w9, ob_s, if_neg nz]
      exact e2
  by_cases y30 : κ = 30
  · subst y30
    obtain ⟨cs', rs', m, e1, e2, e3⟩ := sim_lit (F := F) (k' := 3) h hk (lt (by decide)) false (Or.inr (Or.inr (Or.inl ⟨rfl, rfl, rfl⟩)))
    rw [if_neg (by decide)] at w9
    rw [if_pos rfl] at w10
    refine ⟨cs', rs', m, cl _ ?_, hd _ ?_, e3⟩
    · rw [if_neg (by decide), if_neg (by decide), if_pos (by decide), e1, ob_s]
    · rw [if_neg (t14 (by decide))]
      unfold b_oneR
      rw [tw_n h.ri w9, ob_s, if_pos rfl, tw_y h.ri w10, ob_s, if_neg nz]
      exact e2
  by_cases y31 : κ = 31
  · subst y31
    obtain ⟨cs', rs', m, e1, e2, e3⟩ := sim_lit (F := F) (k' := 4) h hk (lt (by decide)) false (Or.inr (Or.inr (Or.inr ⟨rfl, rfl, rfl⟩)))
    rw [if_neg (by decide)] at w9
    rw [if_neg (by decide)] at w10
    rw [if_pos rfl] at w11
    refine ⟨cs', rs', m, cl _ ?_, hd _ ?_, e3⟩
    · rw [if_neg (by decide), if_neg (by decide), if_neg (by decide), if_pos (by decide), e1, ob_s]
    · rw [if_neg (t14 (by decide))]
      unfold b_oneR
      rw [tw_n h.ri w9, ob_s, if_pos rfl, tw_n h.ri w10, ob_s, if_pos rfl, tw_y h.ri w11, ob_s, if_neg nz]
      exact e2
  rw [if_neg y26] at w9
  rw [if_neg y30] at w10
  rw [if_neg y31] at w11
  have hr : ∀ x, (Option.bind (m_isSign F rs 40) fun v_26 => b_oneS F T' (kA cs 353 9 i) rs v_26) = x → b_one F T' rs = x := fun x hx => hd x (by
    rw [if_neg (t14 y40)]
    unfold b_oneR
    rw [tw_n h.ri w9, ob_s, if_pos rfl, tw_n h.ri w10, ob_s, if_pos rfl, tw_n h.ri w11, ob_s, if_pos rfl]
    exact hx)
  by_cases y41 : κ = 41
  · subst y41
    obtain ⟨cs', rs', m, e1, e2, e3⟩ := sim_bra (F := F) (T := T) (T' := T') hT hTf h hk (lt (by decide))
    refine ⟨cs', rs', m, cl _ ?_, hr _ ?_, e3⟩
    · rw [if_neg (by decide), if_neg (by decide), if_neg (by decide), if_neg (by decide), if_neg (by decide), if_neg (by decide), if_neg (by decide), if_neg (by decide), if_neg (by decide), if_neg (by decide), if_neg (by decide), if_neg (by decide), if_pos (by decide)]
      exact e1
    · rw [g40, ob_s, if_pos rfl]
      unfold b_oneS
      rw [if_neg nz]
      exact e2
  rw [if_neg y41] at g40
  by_cases y19 : κ = 19
  · subst y19
    obtain ⟨cs', rs', m, e1, e2, e3⟩ := sim_case (F := F) (T := T2) (T' := T') hF hT2 hTf2 h hk (lt (by decide))
    refine ⟨cs', rs', m, cl _ ?_, hr _ ?_, e3⟩
    · rw [if_pos (by decide), hC, e1, ob_s]
    · rw [g40, ob_s]
      unfold b_oneS
      rw [if_pos rfl, w12, ob_s, if_pos rfl, if_neg nz]
      exact e2
  rw [if_neg y19] at w12
  by_cases y36 : κ = 36
  · subst y36
    obtain ⟨cs', rs', m, e1, e2, e3⟩ := sim_span (F := F) (T := T2) (T' := T') hT2 hTf2 h hk (lt (by decide))
    refine ⟨cs', rs', m, cl _ ?_, hr _ ?_, e3⟩
    · rw [if_neg (by decide), if_neg (by decide), if_neg (by decide), if_neg (by decide), if_neg (by decide), if_neg (by decide), if_neg (by decide), if_neg (by decide), if_pos (by decide), hS, e1, ob_s]
    · rw [g40, ob_s]
      unfold b_oneS
      rw [if_pos rfl, w12, ob_s, if_pos rfl, w13, ob_s, if_pos rfl, if_neg nz]
      exact e2
  rw [if_neg y36] at w13
  by_cases y32 : κ = 32
  · subst y32
    obtain ⟨cs', rs', m, e1, e2, e3⟩ := sim_agg (F := F) (T := T2) (T' := T2') hF hT3 hTf2 h hk (Or.inl rfl) (lt (by decide))
    refine ⟨cs', setF rs' 74 (kA cs 353 9 i), m, cl _ ?_, hr _ ?_, e3⟩
    · rw [if_neg (by decide), if_neg (by decide), if_neg (by decide), if_neg (by decide), if_pos (by decide), hA, e1, ob_s]
    · rw [g40, ob_s]
      unfold b_oneS
      rw [if_pos rfl, w12, ob_s, if_pos rfl, w13, ob_s, if_pos rfl, w5, ob_s, if_pos rfl, if_neg nz]
      unfold m_one_b478
      rw [hA', e2, ob_s]
      rfl
  rw [if_neg y32] at w5
  by_cases y33 : κ = 33
  · subst y33
    obtain ⟨cs', rs', m, e1, e2, e3⟩ := sim_agg (F := F) (T := T2) (T' := T2') hF hT3 hTf2 h hk (Or.inr (Or.inl rfl)) (lt (by decide))
    refine ⟨cs', setF rs' 74 (kA cs 353 9 i), m, cl _ ?_, hr _ ?_, e3⟩
    · rw [if_neg (by decide), if_neg (by decide), if_neg (by decide), if_neg (by decide), if_neg (by decide), if_pos (by decide), hA, e1, ob_s]
    · rw [g40, ob_s]
      unfold b_oneS
      rw [if_pos rfl, w12, ob_s, if_pos rfl, w13, ob_s, if_pos rfl, w5, ob_s, if_pos rfl, w6, ob_s, if_pos rfl, if_neg nz]
      unfold m_one_b478
      rw [hA', e2, ob_s]
      rfl
  rw [if_neg y33] at w6
  by_cases y34 : κ = 34
  · subst y34
    obtain ⟨cs', rs', m, e1, e2, e3⟩ := sim_agg (F := F) (T := T2) (T' := T2') hF hT3 hTf2 h hk (Or.inr (Or.inr (Or.inl rfl))) (lt (by decide))
    refine ⟨cs', setF rs' 74 (kA cs 353 9 i), m, cl _ ?_, hr _ ?_, e3⟩
    · rw [if_neg (by decide), if_neg (by decide), if_neg (by decide), if_neg (by decide), if_neg (by decide), if_neg (by decide), if_pos (by decide), hA, e1, ob_s]
    · rw [g40, ob_s]
      unfold b_oneS
      rw [if_pos rfl, w12, ob_s, if_pos rfl, w13, ob_s, if_pos rfl, w5, ob_s, if_pos rfl, w6, ob_s, if_pos rfl, w7, ob_s, if_pos rfl, if_neg nz]
      unfold m_one_b478
      rw [hA', e2, ob_s]
      rfl
  rw [if_neg y34] at w7
  by_cases y35 : κ = 35
  · subst y35
    obtain ⟨cs', rs', m, e1, e2, e3⟩ := sim_agg (F := F) (T := T2) (T' := T2') hF hT3 hTf2 h hk (Or.inr (Or.inr (Or.inr rfl))) (lt (by decide))
    refine ⟨cs', setF rs' 74 (kA cs 353 9 i), m, cl _ ?_, hr _ ?_, e3⟩
    · rw [if_neg (by decide), if_neg (by decide), if_neg (by decide), if_neg (by decide), if_neg (by decide), if_neg (by decide), if_neg (by decide), if_pos (by decide), hA, e1, ob_s]
    · rw [g40, ob_s]
      unfold b_oneS
      rw [if_pos rfl, w12, ob_s, if_pos rfl, w13, ob_s, if_pos rfl, w5, ob_s, if_pos rfl, w6, ob_s, if_pos rfl, w7, ob_s, if_pos rfl, w8, ob_s, if_pos rfl, if_neg nz]
      unfold m_one_b478
      rw [hA', e2, ob_s]
      rfl
  rw [if_neg y35] at w8
  have hq : ∀ x, (Option.bind (m_columnOf F rs (kA cs 353 9 i)) fun z_40 => some (setF z_40.1 74 (kA cs 353 9 i), z_40.2)) = x → b_one F T' rs = x := fun x hx => hr x (by
    rw [g40, ob_s]
    unfold b_oneS
    rw [if_pos rfl, w12, ob_s, if_pos rfl, w13, ob_s, if_pos rfl, w5, ob_s, if_pos rfl, w6, ob_s, if_pos rfl, w7, ob_s, if_pos rfl, w8, ob_s, if_pos rfl]
    exact hx)
  by_cases y38 : κ = 38
  · subst y38
    obtain ⟨cs', rs', m, e1, e2, e3⟩ := sim_col (F := F) hF h hk (lt (by decide)) (Or.inl rfl)
    refine ⟨cs', setF rs' 74 (kA cs 353 9 i), m, cl _ ?_, hq _ ?_, e3⟩
    · rw [if_neg (by decide), if_neg (by decide), if_neg (by decide), if_neg (by decide), if_neg (by decide), if_neg (by decide), if_neg (by decide), if_neg (by decide), if_neg (by decide), if_pos (by decide), e1, ob_s]
    · rw [e2, ob_s]
  by_cases y39 : κ = 39
  · subst y39
    obtain ⟨cs', rs', m, e1, e2, e3⟩ := sim_col (F := F) hF h hk (lt (by decide)) (Or.inr rfl)
    refine ⟨cs', setF rs' 74 (kA cs 353 9 i), m, cl _ ?_, hq _ ?_, e3⟩
    · rw [if_neg (by decide), if_neg (by decide), if_neg (by decide), if_neg (by decide), if_neg (by decide), if_neg (by decide), if_neg (by decide), if_neg (by decide), if_neg (by decide), if_neg (by decide), if_pos (by decide), e1, ob_s]
    · rw [e2, ob_s]
  have ne : ∀ (x : Nat) (v : Int32), v = nI x → x < 60 → κ ≠ x → ¬ nI κ = v := fun x v e hx hn w => hn ((nI_eq (by omega) (by omega)).mp (w.trans e))
  have pb := h.bad (a := 1) (b := kA cs 353 9 i) (by decide)
  rw [if_neg y38] at w14
  have hnm := ina_ok (F := F) hF h.x him hk h.g1 h.ri
  rw [if_neg y39] at hnm
  obtain ⟨j, j1, j2⟩ := pb.r.i
  refine ⟨sI (sI cs 320 t 1) 321 t (kA cs 353 9 i), setF (setI (setI (setF (setF (setF rs 21 0) 19 1) 20 (kA cs 353 9 i)) 30 0 (nI i)) 27 0 (-1)) 74 (kA cs 353 9 i), 0, cl _ ?_, hq _ ?_, Or.inr ⟨pb.r30.r27.s74, (FO.sI (Or.inl ⟨by decide, rfl⟩)).trans (FO.sI (Or.inl ⟨by decide, rfl⟩)), (((((FR.setF (by unfold eR; omega)).trans (FR.setF (by unfold eR; omega))).trans (FR.setF (by unfold eR; omega))).trans (FR.setI (by unfold eR; omega))).trans (FR.setI (by unfold eR; omega))).trans (FR.setF (by unfold eR; omega))⟩⟩
  · rw [if_neg (ne 19 19 (by decide) (by decide) y19), if_neg (ne 26 26 (by decide) (by decide) y26), if_neg (ne 30 30 (by decide) (by decide) y30), if_neg (ne 31 31 (by decide) (by decide) y31), if_neg (ne 32 32 (by decide) (by decide) y32), if_neg (ne 33 33 (by decide) (by decide) y33), if_neg (ne 34 34 (by decide) (by decide) y34), if_neg (ne 35 35 (by decide) (by decide) y35), if_neg (ne 36 36 (by decide) (by decide) y36), if_neg (ne 38 38 (by decide) (by decide) y38), if_neg (ne 39 39 (by decide) (by decide) y39), if_neg (ne 40 40 (by decide) (by decide) y40), if_neg (ne 41 41 (by decide) (by decide) y41)]
    unfold c_X9_readOne_b182 c_X9_readOne_b191
    rw [ckE_ok ho, ob_s, her_ok (F := F) h.h h.ci hi2, ob_s, ob_s, ref_ok h.h h.f0, ob_s]
  · unfold m_columnOf m_columnOf_b56
    rw [tw_n h.ri w14, ob_s, if_pos rfl, na_n h.ri hi2 h.g1 hnm, ob_s, pr, tg_n j1 (ig_f pb.r.g), ob_s, if_pos rfl, mk_f pb.r, ob_s, wr30, ob_s, wr27, ob_s, ob_s]

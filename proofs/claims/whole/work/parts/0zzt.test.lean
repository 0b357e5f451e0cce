/-! a list from its first word; tests -/
theorem sim_list {n : Nat} {f : Nat → Int32} {M t c cap q sel : Nat} {ma : Bool} {F z i s i1 s1 i2 : Nat} {T : TC_X9_readExpr} {T' : TG_expr} {cs cs1 cs2 : CS} {rs rs1 rs2 : RS} {k hw mt : Int32} (hF : 10000 ≤ F) (hT : SE n f M t c cap q sel ma z T.2.2.2.2.1 T'.2.2.2.2.1) (hN : NS n f M t c cap q sel ma F z T.2.2.2.2.1) (hs : ∀ x, FS t c x → T.2.2.2.2.1 x t = some x) (hf : ∀ r, FT r → T'.2.2.2.2.1 r = some (r, 0)) (hk : (k = 27 ∧ hw = 0) ∨ (k = 60 ∧ hw = 1)) (he : EG n f M t c cap q sel ma i z s cs rs i1 s1 cs1 rs1) (h2 : PG n f M t c cap q sel ma i2 z s1 cs2 rs2) (hi : i1 ≤ i2) (sq : SQ t c q sel ma cs1 rs1 cs2 rs2) (hV : VW c cs2 rs2 = VW c cs1 rs1) : ∃ cs' rs' a, cb_X9_readList F T cs2 t k (nI s) (kA cs 353 9 i) mt = some cs' ∧ (Option.bind (m_needWord F rs2 22) fun cs_23 => Option.bind (m_needSign F cs_23 40) fun cs_24 => m_test_L234 F T' F cs_24 (nI (s1 - 1)) (kA cs 353 9 i) mt hw (-1) (-1) 0 1) = some (rs', a) ∧ EP n f M t c cap q sel ma i z s cs rs cs' rs' a := by
  have a1 := he.il
  have a2 := he.le
  have a3 := he.sl
  -- behind a fault
  have bad : ∀ (cs3 : CS) (rs3 : RS), PB t c cs3 rs3 → FO (PX t c q) cs cs3 → FR eR rs rs3 → ∃ rs' a, c_X9_readList_L21 F T F cs3 t k (nI s) (kA cs 353 9 i) mt 0 1 0 = some cs3 ∧ m_test_L234 F T' F rs3 (nI (s1 - 1)) (kA cs 353 9 i) mt hw (-1) (-1) 0 1 = some (rs', a) ∧ EP n f M t c cap q sel ma i z s cs rs cs3 rs' a := fun cs3 rs3 pb fo fr => by
    have e1 := liL1_f (F := F) (v := F - 2) (u1 := k) (u2 := nI s) (u3 := kA cs 353 9 i) (u4 := mt) hs pb.s
    rw [show F - 2 + 2 = F by omega] at e1
    have e2 := mtL_f (F := F) (v := F - 1) (T' := T') (u1 := nI (s1 - 1)) (u2 := kA cs 353 9 i) (u3 := mt) (u5 := hw) (u6 := -1) (u7 := -1) (u8 := 0) (u9 := 1) pb.r
    rw [show F - 1 + 1 = F by omega] at e2
    obtain ⟨rs', a, b1, b2⟩ := li_bad (F := F) (i := i) (z := z) (s := s) (T' := T') (n := n) (f := f) (M := M) (cap := cap) (sel := sel) (ma := ma) (u1 := nI (s1 - 1)) (u3 := mt) (u5 := hw) (u6 := -1) pb fo fr
    exact ⟨rs', a, e1, e2.trans b1, b2⟩
  unfold cb_X9_readList
  rw [ckE_ok h2.h.o, ob_s]
  have nd := h2.need (F := F) (x := 22) hF (by decide) (by decide)
  rw [show nI (swK 22) = 27 by decide] at nd
  have sq0 := he.sq.trans sq
  rcases nd with ⟨w1, w2, w3⟩ | ⟨csB, rsB, w2, w3, pb, sqB⟩
  · have hn := h2.next w1
    have sqA : SQ t c q sel ma cs2 rs2 (sI cs2 328 t (nI (i2 + 1))) (setF rs2 18 (nI (i2 + 1))) := (SQ.text (by decide)).trans (SQ.ref (by unfold eR; omega))
    have VA : VW c (sI cs2 328 t (nI (i2 + 1))) (setF rs2 18 (nI (i2 + 1))) = VW c cs2 rs2 := rfl
    obtain ⟨csA, hcsA⟩ : ∃ x, x = sI cs2 328 t (nI (i2 + 1)) := ⟨_, rfl⟩
    obtain ⟨rsA, hrsA⟩ : ∃ x, x = setF rs2 18 (nI (i2 + 1)) := ⟨_, rfl⟩
    rw [← hcsA] at hn sqA VA w2
    rw [← hrsA] at hn sqA VA w3
    rw [w2, ob_s, w3, ob_s, ckE_ok hn.h.o, ob_s]
    have nd := hn.needS (F := F) (k := 41) (by decide) (by decide)
    rw [show nI 41 = 41 by decide, show st 41 = 40 by decide] at nd
    rcases nd with ⟨v1, v2, v3⟩ | ⟨csB, rsB, v2, v3, pb, sqB⟩
    · have hm := hn.next v1
      have sqC : SQ t c q sel ma csA rsA (sI csA 328 t (nI (i2 + 1 + 1))) (setF rsA 18 (nI (i2 + 1 + 1))) := (SQ.text (by decide)).trans (SQ.ref (by unfold eR; omega))
      have VC : VW c (sI csA 328 t (nI (i2 + 1 + 1))) (setF rsA 18 (nI (i2 + 1 + 1))) = VW c csA rsA := rfl
      rw [v2, ob_s, v3, ob_s]
      obtain ⟨csC, hcsC⟩ : ∃ x, x = sI csA 328 t (nI (i2 + 1 + 1)) := ⟨_, rfl⟩
      obtain ⟨rsC, hrsC⟩ : ∃ x, x = setF rsA 18 (nI (i2 + 1 + 1)) := ⟨_, rfl⟩
      rw [← hcsC] at hm sqC VC ⊢
      rw [← hrsC] at hm sqC VC ⊢
      have V1 : VW c csC rsC = VW c cs1 rs1 := by rw [VC, VA, hV]
      have sqT : SQ t c q sel ma cs1 rs1 csC rsC := (sq.trans sqA).trans sqC
      have li : LI n f M t c cap q sel ma i z s s1 cs rs 0 0 (i2 + 1 + 1) s1 csC rsC := ⟨hm, by omega, a3, Nat.le_refl _, by omega, fun x hx => by rw [V1, he.kp x hx], he.sq.trans sqT, he.ke.keep sqT (fun x _ _ => by rw [V1]), fun R => by rw [V1]; exact he.tr R, Or.inl ⟨rfl, rfl⟩⟩
      have r := sim_list_L (mt := mt) hF hT hN hs hf hk F F 0 0 (i2 + 1 + 1) s1 csC rsC (by omega) (by omega) (by decide) li
      rw [if_pos (rfl : 0 = 0), if_pos (rfl : 0 = 0)] at r
      exact r
    · rw [v2, ob_s, v3, ob_s]
      obtain ⟨rs', a, b1, b2, b3⟩ := bad csB rsB pb ((sq0.trans sqA).trans sqB).1 ((sq0.trans sqA).trans sqB).2.1
      exact ⟨csB, rs', a, b1, b2, b3⟩
  · obtain ⟨j, j1, j2⟩ := pb.r.i
    rw [w2, ob_s, w3, ob_s, ckE_ok pb.s.h.o, ob_s, expf pb.s (by decide), ob_s, ng_f j1 j2 pb.r.g, ob_s]
    obtain ⟨rs', a, b1, b2, b3⟩ := bad csB rsB pb (sq0.trans sqB).1 (sq0.trans sqB).2.1
    exact ⟨csB, rs', a, b1, b2, b3⟩
theorem cmp_if {α : Type} {v : Int32} {X Y : α} (h : v = 61 ∨ v = 400 ∨ v = 60 ∨ v = 401 ∨ v = 62 ∨ v = 402) : (if v = 61 then X else (if v = 400 then X else (if v = 60 then X else (if v = 401 then X else (if v = 62 then X else (if v = 402 then X else Y)))))) = X := by
  by_cases a1 : v = 61
  · rw [if_pos a1]
  rw [if_neg a1]
  by_cases a2 : v = 400
  · rw [if_pos a2]
  rw [if_neg a2]
  by_cases a3 : v = 60
  · rw [if_pos a3]
  rw [if_neg a3]
  by_cases a4 : v = 401
  · rw [if_pos a4]
  rw [if_neg a4]
  by_cases a5 : v = 62
  · rw [if_pos a5]
  rw [if_neg a5]
  by_cases a6 : v = 402
  · rw [if_pos a6]
  rcases h with h | h | h | h | h | h
  · exact absurd h a1
  · exact absurd h a2
  · exact absurd h a3
  · exact absurd h a4
  · exact absurd h a5
  · exact absurd h a6
theorem cmq_if {α : Type} {v : Int32} {X Y : α} (h : v = 50 ∨ v = 51 ∨ v = 52 ∨ v = 53 ∨ v = 54 ∨ v = 55) : (if v = 50 then X else (if v = 51 then X else (if v = 52 then X else (if v = 53 then X else (if v = 54 then X else (if v = 55 then X else Y)))))) = X := by
  by_cases a1 : v = 50
  · rw [if_pos a1]
  rw [if_neg a1]
  by_cases a2 : v = 51
  · rw [if_pos a2]
  rw [if_neg a2]
  by_cases a3 : v = 52
  · rw [if_pos a3]
  rw [if_neg a3]
  by_cases a4 : v = 53
  · rw [if_pos a4]
  rw [if_neg a4]
  by_cases a5 : v = 54
  · rw [if_pos a5]
  rw [if_neg a5]
  by_cases a6 : v = 55
  · rw [if_pos a6]
  rcases h with h | h | h | h | h | h
  · exact absurd h a1
  · exact absurd h a2
  · exact absurd h a3
  · exact absurd h a4
  · exact absurd h a5
  · exact absurd h a6
/-- what sort a token has that is no compare -/
theorem tk_nc {n i p κ : Nat} {f : Nat → Int32} {cs : CS} {rs : RS} (h : TK n f i p κ cs rs) (hk : κ < 50 ∨ 55 < κ) : rs.2.2.1 14 i ≠ 61 ∧ rs.2.2.1 14 i ≠ 400 ∧ rs.2.2.1 14 i ≠ 60 ∧ rs.2.2.1 14 i ≠ 401 ∧ rs.2.2.1 14 i ≠ 62 ∧ rs.2.2.1 14 i ≠ 402 := by
  have h57 := h.kl
  by_cases y1 : κ ≤ 39
  · rw [(h.wd y1).1]; decide
  by_cases y2 : κ = 40
  · rw [(h.nu y2).1]; decide
  by_cases y3 : κ = 56
  · rw [h.en y3]; decide
  by_cases y4 : κ = 57
  · rw [h.bad y4]; decide
  rw [h.sg (by omega) (by omega)]
  have : κ = 41 ∨ κ = 42 ∨ κ = 43 ∨ κ = 44 ∨ κ = 45 ∨ κ = 46 ∨ κ = 47 ∨ κ = 48 ∨ κ = 49 := by omega
  rcases this with e | e | e | e | e | e | e | e | e <;> rw [e] <;> decide
theorem tk_yc {n i p κ : Nat} {f : Nat → Int32} {cs : CS} {rs : RS} (h : TK n f i p κ cs rs) (h1 : 50 ≤ κ) (h2 : κ ≤ 55) : rs.2.2.1 14 i = st (nI κ) ∧ (st (nI κ) = 61 ∨ st (nI κ) = 400 ∨ st (nI κ) = 60 ∨ st (nI κ) = 401 ∨ st (nI κ) = 62 ∨ st (nI κ) = 402) ∧ (nI κ = 50 ∨ nI κ = 51 ∨ nI κ = 52 ∨ nI κ = 53 ∨ nI κ = 54 ∨ nI κ = 55) := by
  refine ⟨h.sg (by omega) h2, ?_⟩
  have : κ = 50 ∨ κ = 51 ∨ κ = 52 ∨ κ = 53 ∨ κ = 54 ∨ κ = 55 := by omega
  rcases this with e | e | e | e | e | e <;> rw [e] <;> decide
theorem sim_test {n : Nat} {f : Nat → Int32} {M t c cap q sel : Nat} {ma : Bool} {F z : Nat} {T T2 : TC_X9_readExpr} {T' : TG_expr} (hF : 10000 ≤ F) (hT : SE n f M t c cap q sel ma z T.2.2.2.2.1 T'.2.2.2.2.1) (hL : T.2.2.2.2.2.2.2.2.2.2.2 = cb_X9_readList F T2) (hT2 : SE n f M t c cap q sel ma z T2.2.2.2.2.1 T'.2.2.2.2.1) (hN : NS n f M t c cap q sel ma F z T2.2.2.2.2.1) (hs : ∀ x, FS t c x → T2.2.2.2.2.1 x t = some x) (hf : ∀ r, FT r → T'.2.2.2.2.1 r = some (r, 0)) : SE n f M t c cap q sel ma z (cb_X9_readTest F T) (b_test F T') := by
  intro i s cs rs hg
  have ho := hg.h.o
  have hh := her_ok (F := F) hg.h hg.ci hg.i2
  obtain ⟨cs1, rs1, a1, e1, e2, e3⟩ := hT i s cs rs hg
  unfold cb_X9_readTest b_test
  rw [gR_ok ho, ob_s, hg.h.rc, ob_s, gI_ok hg.h.oc, ob_s, hg.cn, ckE_ok ho, ob_s, hh, ob_s, ob_s, e1, ob_s, e2, ob_s]
  rcases e3 with ⟨i1, s1, g, ea, e74⟩ | ⟨pb, fo, fr⟩
  · subst ea
    have ho1 := g.g.h.o
    have hh1 := her_ok (F := F) g.g.h g.g.ci g.g.i2
    obtain ⟨p, κ, hk, hka, hkb, kd, hkl, pr⟩ := g.g.tok (F := F)
    have ri : rs1.1 18 = nI i1 := g.g.ri
    have im := g.g.im
    have ne : ∀ x v, v = nI x → x < 60 → κ ≠ x → ¬ nI κ = v := fun x v hv hx hκ y => by
      rw [hv] at y
      exact hκ ((nI_eq (by omega) (by omega)).mp y)
    have w21 := iw_ok (F := F) (x := 21) hF g.g.x im hk g.g.g1 ri (by decide) (by decide)
    have w16 := iw_ok (F := F) (x := 16) hF g.g.x im hk g.g.g1 ri (by decide) (by decide)
    have w22 := iw_ok (F := F) (x := 22) hF g.g.x im hk g.g.g1 ri (by decide) (by decide)
    rw [show swK 21 = 24 by decide] at w21
    rw [show swK 16 = 25 by decide] at w16
    rw [show swK 22 = 27 by decide] at w22
    have nz : ¬ (1 : Int32) = 0 := by decide
    rw [ckE_ok ho1, ob_s, hh1, ob_s, ob_s, kd, ob_s, e74]
    show ∃ cs' rs' a, _ ∧ (Option.bind (rdI (rs1.2.2.1 15) 2001 (rs1.1 18)) fun v_36 => Option.bind (rdI (rs1.2.2.1 14) 2001 (rs1.1 18)) fun v_37 => if (rs1.1 21) = 0 then _ else _) = _ ∧ _
    rw [ri, rdI_n g.g.i2 (by decide), ob_s, rdI_n g.g.i2 (by decide), ob_s, ob_s, if_neg (show ¬ rs1.1 21 = 0 by rw [g.g.g1]; decide), pr]
    by_cases yc : 50 ≤ κ ∧ κ ≤ 55
    · have hiM : i1 < M := by
        rcases Nat.lt_or_ge i1 M with w | w
        · exact w
        · have := hkb (by omega); omega
      obtain ⟨q1, q2, q3⟩ := tk_yc hk yc.1 yc.2
      rw [q1, cmp_if q2, if_neg (ne 24 24 (by decide) (by decide) (by omega)), if_neg (ne 25 25 (by decide) (by decide) (by omega)), if_neg (ne 27 27 (by decide) (by decide) (by omega)), cmq_if q3]
      exact sim_cmp (p := p) hT g hiM yc.1 yc.2
    · obtain ⟨q1, q2, q3, q4, q5, q6⟩ := tk_nc hk (by omega)
      rw [if_neg q1, if_neg q2, if_neg q3, if_neg q4, if_neg q5, if_neg q6]
      unfold m_test_b123
      by_cases y24 : κ = 24
      · have hiM : i1 < M := by
          rcases Nat.lt_or_ge i1 M with w | w
          · exact w
          · have := hkb (by omega); omega
        have hn := g.g.next hiM
        rw [if_pos y24] at w21
        rw [if_pos (show nI κ = 24 by rw [y24]; decide), gI_ok ho1, ob_s, g.g.ci, nI_1, pI_ok ho1, ob_s, ckE_ok hn.h.o, ob_s, tw_y ri w21, ob_s, if_neg nz]
        exact sim_is hF g hiM
      · rw [if_neg y24] at w21
        rw [if_neg (ne 24 24 (by decide) (by decide) y24), tw_n ri w21, ob_s, if_pos rfl]
        show ∃ cs' rs' a, _ ∧ (Option.bind (m_isWord F rs1 16) fun v_27 => if v_27 = 0 then (Option.bind (m_isWord F rs1 22) fun v_29 => if v_29 = 0 then (m_test_b371 F T' rs1 (nI (s1 - 1)) (kA cs 353 9 i)) else (m_test_b200 F T' rs1 (nI (s1 - 1)) (kA cs 353 9 i) (kA cs1 353 9 i1))) else (m_test_b200 F T' rs1 (nI (s1 - 1)) (kA cs 353 9 i) (kA cs1 353 9 i1))) = _ ∧ _
        by_cases y25 : κ = 25
        · have hiM : i1 < M := by
            rcases Nat.lt_or_ge i1 M with w | w
            · exact w
            · have := hkb (by omega); omega
          have hn := g.g.next hiM
          rw [if_pos y25] at w16
          rw [if_pos (show nI κ = 25 by rw [y25]; decide), gI_ok ho1, ob_s, g.g.ci, nI_1, pI_ok ho1, ob_s, ckE_ok hn.h.o, ob_s, hL, w16, ob_s, if_neg nz]
          unfold m_test_b200
          rw [tw_y ri w16, ob_s]
          obtain ⟨cs', rs', a, r1, r2, r3⟩ := sim_list (mt := kA cs1 353 9 i1) (k := 60) (hw := 1) hF hT2 hN hs hf (Or.inr ⟨rfl, rfl⟩) g hn (by omega) ((SQ.text (by decide)).trans (SQ.ref (by unfold eR; omega))) rfl
          refine ⟨cs', rs', a, ?_, r2, r3⟩
          rw [r1, ob_s]
          rfl
        · rw [if_neg y25] at w16
          rw [if_neg (ne 25 25 (by decide) (by decide) y25), w16, ob_s, if_pos rfl]
          by_cases y27 : κ = 27
          · rw [if_pos y27] at w22
            rw [if_pos (show nI κ = 27 by rw [y27]; decide), hL, w22, ob_s, if_neg nz]
            unfold m_test_b200
            rw [tw_n ri w16, ob_s]
            obtain ⟨cs', rs', a, r1, r2, r3⟩ := sim_list (mt := kA cs1 353 9 i1) (k := 27) (hw := 0) hF hT2 hN hs hf (Or.inl ⟨rfl, rfl⟩) g g.g (Nat.le_refl _) (SQ.refl cs1 rs1) rfl
            refine ⟨cs', rs', a, ?_, r2, r3⟩
            rw [r1, ob_s]
            rfl
          · rw [if_neg y27] at w22
            rw [if_neg (ne 27 27 (by decide) (by decide) y27), w22, ob_s, if_pos rfl, if_neg (ne 50 50 (by decide) (by decide) (by omega)), if_neg (ne 51 51 (by decide) (by decide) (by omega)), if_neg (ne 52 52 (by decide) (by decide) (by omega)), if_neg (ne 53 53 (by decide) (by decide) (by omega)), if_neg (ne 54 54 (by decide) (by decide) (by omega)), if_neg (ne 55 55 (by decide) (by decide) (by omega))]
            exact ⟨cs1, setF rs1 74 (kA cs 353 9 i), nI (s1 - 1), rfl, rfl, Or.inl ⟨i1, s1, g.s74, rfl, rfl⟩⟩
  · obtain ⟨j, j1, j2⟩ := pb.r.i
    refine ⟨cs1, rs1, a1, ?_, ?_, Or.inr ⟨pb, fo, fr⟩⟩
    · obtain ⟨v, hv⟩ := herf (F := F) pb.s
      unfold c_X9_readTest_b282
      rw [ckE_ok pb.s.h.o, ob_s, hv, ob_s, ob_s, knd_f pb.s.h pb.s.f, ob_s]
      simp only [show ¬ (57 : Int32) = 24 by decide, show ¬ (57 : Int32) = 25 by decide, show ¬ (57 : Int32) = 27 by decide, show ¬ (57 : Int32) = 50 by decide, show ¬ (57 : Int32) = 51 by decide, show ¬ (57 : Int32) = 52 by decide, show ¬ (57 : Int32) = 53 by decide, show ¬ (57 : Int32) = 54 by decide, show ¬ (57 : Int32) = 55 by decide, if_false]
    · show (Option.bind (rdI (rs1.2.2.1 15) 2001 (rs1.1 18)) fun v_36 => Option.bind (rdI (rs1.2.2.1 14) 2001 (rs1.1 18)) fun v_37 => if (rs1.1 21) = 0 then _ else _) = _
      rw [j1, rdI_n j2 (by decide), ob_s, rdI_n j2 (by decide), ob_s, if_pos pb.r.g]
      unfold m_test_b123 m_test_b371
      rw [tw_n j1 (iw_f pb.r.g), ob_s, if_pos rfl]
      show (Option.bind (m_isWord F rs1 16) fun v_27 => if v_27 = 0 then (Option.bind (m_isWord F rs1 22) fun v_29 => if v_29 = 0 then _ else _) else _) = _
      rw [iw_f pb.r.g, ob_s, if_pos rfl, iw_f pb.r.g, ob_s, if_pos rfl, setF_same]

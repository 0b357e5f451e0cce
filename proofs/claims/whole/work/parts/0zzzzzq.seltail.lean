/-! a SELECT behind its SOURCES: its groups, its items, both -/
theorem JZ.ra {t c k so it gr e : Nat} {cs cs' : CS} {rs rs' : RS} (j : JZ t c k so it gr e cs rs cs' rs') : (rs'.2.2.1 49 = rs.2.2.1 49 ∧ rs'.2.2.1 53 = rs.2.2.1 53 ∧ rs'.2.2.1 61 = rs.2.2.1 61) := ⟨j.fr.a (by unfold jK; omega), j.fr.a (by unfold jK; omega), j.fr.a (by unfold jK; omega)⟩
theorem SEP.jz {t c k so it gr e ns : Nat} {cs cs' : CS} {rs rs' : RS} (h : SEP so e ns gr cs rs) (j : JZ t c k so it gr e cs rs cs' rs') : SEP so e ns gr cs' rs' := h.mv (j.a0 195 so (by omega) (by omega) (by omega) (by omega)) (fun oo => j.a0 235 oo (by omega) (by omega) (by omega) (by omega)) j.ra
theorem JH.jz {n : Nat} {f : Nat → Int32} {M t c cap s k : Nat} {V : VT} {so e it gr : Nat} {D : Nat → Prop} {cs cs' : CS} {rs rs' : RS} (h : JH n f M t c cap s k V D cs rs) (j : JZ t c k so it gr e cs rs cs' rs') (f1 : kI cs' 320 t = kI cs 320 t) (f2 : kI cs' 321 t = kI cs 321 t) (g : ∀ q, q = 19 ∨ q = 20 ∨ q = 21 → rs'.1 q = rs.1 q) (c72 : ∀ y, vk V y = 39 → D y → kA cs' 72 c y = kA cs 72 c y) (r33 : rs'.2.2.1 33 = rs.2.2.1 33) : JH n f M t c cap s k V D cs' rs' := h.mv0 (j.jk (lo := 0) (hi := so + it + gr + 1) (Sl := 0) (Sh := e + 1) ⟨Nat.zero_le _, Nat.zero_le _, Nat.zero_le _⟩ ⟨by omega, by omega, by omega⟩ (Nat.zero_le _) (by omega)) f1 f2 (g 21 (by omega)) (g 19 (by omega)) (g 20 (by omega)) c72 r33
/-- the groups of a SELECT, until the slots of its aggregates -/
theorem grp_H {n : Nat} {f : Nat → Int32} {M t c cap s k : Nat} {V : VT} {so e it gr mi ns mg na : Nat} {D : Nat → Prop} {F : Nat} {T : TG_judgeQuery} {u3 b : Int32} {cs : CS} {rs : RS} (hF : 10000 ≤ F) (sk : SKV V s) (hs : s ≤ 120) (h : JH n f M t c cap s k V D cs rs) (sl : SLT n f M c s V so e it gr mi ns mg na cs rs) (md : rs.1 21 = 1 → MD n f M k so e ns 0 0 V 0 cs rs ∧ SEP so e ns gr cs rs ∧ u3 = b ∧ ((kI cs 206 so = 0 ∧ b = 1) ∨ (kI cs 206 so ≠ 0 ∧ b = 0))) : ∃ cs' rs' D', c_X0_checkGroups F cs k so = c_X0_checkGroups_L152 F F cs' k so gr 0 ∧ m_judgeSelect_b346 F T rs (nI e) u3 = m_judgeSelect_b554 F T rs' (nI e) u3 ∧ JH n f M t c cap s k V D' cs' rs' ∧ JZ t c k so it gr e cs rs cs' rs' ∧ (rs'.1 21 = 1 → rs.1 21 = 1 ∧ MD n f M k so e ns 0 0 V 0 cs' rs' ∧ (∀ z, D z → D' z) ∧ (∀ z, z < mg → CVR V s (kA cs 97 gr z) D') ∧ ∀ z, z < mg → TYR (kA cs' 100 gr z) (rs'.2.2.1 80 (8 * e + z))) := by
  have e60 := sl.e60
  have hag := sl.ag
  have n12 := hag.n12
  obtain ⟨a42, a43⟩ := sl.a42
  rcases sl.hg with ⟨g1, g2, g3⟩ | ⟨g1, g2, g3⟩
  · -- no group by
    have m0 : CLM gr 0 cs := by rw [← g3]; exact sl.cg.1
    have fin : ∀ c1 : CS, CLM gr 0 c1 → c_X0_checkGroups_b72 F c1 k so (some gr) = c_X0_checkGroups_L152 F F c1 k so gr 0 := fun c1 w => by
      unfold c_X0_checkGroups_b72
      obtain ⟨u, hu⟩ : ∃ u, F = u + 1 := ⟨F - 1, by omega⟩
      have q := grp_end (F := F) (u := u) (y := 0) (k := k) (so := so) w (Nat.le_refl _) (by omega)
      rw [← hu] at q
      exact q
    have ref : m_judgeSelect_b346 F T rs (nI e) u3 = m_judgeSelect_b527 F T rs (nI e) u3 := by
      unfold m_judgeSelect_b346
      rw [rdI_n e60 (by decide), ob_s, g2, if_pos rfl]
    by_cases w : na = 0
    · refine ⟨cs, rs, D, ?_, ?_, h, JZ.refl, fun g => ⟨g, (md g).1, fun _ hz => hz, fun z hz => absurd hz (by omega), fun z hz => absurd hz (by omega)⟩⟩
      · unfold c_X0_checkGroups
        rw [gR_ok sl.e6, ob_s, sl.r200, gI_ok sl.e6, ob_s, g1, if_pos rfl, gI_ok sl.e6, ob_s, hag.k, w, if_pos (show nI 0 ≤ 0 by decide)]
        exact fin cs m0
      · rw [ref]
        unfold m_judgeSelect_b527
        rw [rdI_n e60 (by decide), ob_s, a42, w, if_pos (show nI 0 ≤ 0 by decide)]
    · obtain ⟨x, x1, x2, x3⟩ := a43 (by omega)
      have n0 : ¬ nI na ≤ 0 := show ¬ nI na ≤ nI 0 from nI_ge (by omega) (by omega)
      obtain ⟨pj, hpj⟩ := hag.p
      obtain ⟨c1, r1, b1, b2, b3, b4, b5, b6, b7⟩ := bound_H (F := F) (u := kI cs 206 so) (b := b) (p := kA cs 66 c x) h (fun g => (md g).2.2.2)
      have cls : c_X0_checkGroups F cs k so = c_X0_checkGroups_b72 F c1 k so (some gr) := by
        unfold c_X0_checkGroups
        rw [gR_ok sl.e6, ob_s, sl.r200, gI_ok sl.e6, ob_s, g1, if_pos rfl, gI_ok sl.e6, ob_s, hag.k, if_neg n0, gR_ok h.ck.o, ob_s, gA_ok sl.e6, hpj, ob_s]
        rw [show (0 : Int32) = nI 0 by decide, rA_n hag.e hpj (by rw [hag.l]; omega) (by rw [hag.l]; omega), ob_s, x2, h.ck.r34, ob_s, ckE_ok h.ck.oc, ob_s, ck_has h.ck x1, ob_s, if_neg (by decide), gI_ok sl.e6, ob_s, ob_s, ob_s]
        obtain ⟨j66, p66⟩ := h.ck.ca.p66
        have sc := h.ck.sc
        have cp := h.ck.cp
        rw [gA_ok h.ck.oc, p66, ob_s, ob_s, rA_n hag.e hpj (by rw [hag.l]; omega) (by rw [hag.l]; omega), ob_s, x2, rA_n h.ck.ca.e66 p66 (by rw [h.ck.ca.l66]; omega) (by rw [h.ck.ca.l66]; omega), ob_s, ckE_ok h.ck.o, ob_s, b1, ob_s]
      have m1 : CLM gr 0 c1 := m0.keep (EM.of (congrArg (fun z => z.2.2) b3.c1)) (fun y y1 y2 => b7 y gr (by omega))
      have cls' := cls.trans (fin c1 m1)
      by_cases g : rs.1 21 = 0
      · have q : r1 = rs := by
          have : m_bounded F rs b (kA cs 66 c x) = some rs := by
            unfold m_bounded m_bounded_b17
            by_cases z1 : b = 0
            · rw [if_pos z1]
              by_cases z2 : rs.1 75 = 0
              · rw [if_pos z2, tell_f g, ob_s]
              · rw [if_neg z2]
            · rw [if_neg z1]
          exact Option.some.inj (b2.symm.trans this)
        rw [q] at b3 b4
        refine ⟨c1, rs, D, cls', ?_, b4, JZ.jf b3, fun g' => absurd (g.symm.trans g') (by decide)⟩
        rw [ref]
        unfold m_judgeSelect_b527
        rw [rdI_n e60 (by decide), ob_s, a42, if_neg n0, if_pos g]
      · have g' : rs.1 21 = 1 := by
          rcases h.st with ⟨-, q, -⟩ | ⟨-, q, -⟩
          · exact q
          · exact absurd q g
        obtain ⟨md1, md2, md3, md4⟩ := md g'
        refine ⟨c1, r1, D, cls', ?_, b4, JZ.jf b3, fun _ => ⟨g', md1.jf b3, fun _ hz => hz, fun z hz => absurd hz (by omega), fun z hz => absurd hz (by omega)⟩⟩
        rw [ref]
        unfold m_judgeSelect_b527
        rw [rdI_n e60 (by decide), ob_s, a42, if_neg n0, if_neg g, rdI_n e60 (by decide), ob_s, x3, md3, b2, ob_s]
  · -- group by
    have n0 : ¬ kI cs 198 so = 0 := by rw [g1]; decide
    obtain ⟨c1, r1, b1, b2, b3, b4, b5, b6, b7⟩ := bound_H (F := F) (u := kI cs 206 so) (b := b) (p := kI cs 199 so) h (fun g => (md g).2.2.2)
    have cls : c_X0_checkGroups F cs k so = c_X0_checkGroups_L74 F F c1 k so (some gr) (nI 0) := by
      unfold c_X0_checkGroups c_X0_checkGroups_b72
      rw [gR_ok sl.e6, ob_s, sl.r200, gI_ok sl.e6, ob_s, if_neg n0, gI_ok sl.e6, ob_s, gI_ok sl.e6, ob_s, ckE_ok h.ck.o, ob_s, b1, ob_s]
      rfl
    have j1 : JZ t c k so it gr e cs rs c1 r1 := JZ.jf b3
    have sl1 := sl.jz j1
    have m8 := sl1.cg.1.m8
    -- behind a fault
    have bad : ∀ r2 : RS, JH n f M t c cap s k V D c1 r2 → JF t c cs rs c1 r2 → SLT n f M c s V so e it gr mi ns mg na c1 r2 → r2.1 21 = 0 → m_judgeSelect_b346 F T rs (nI e) u3 = m_judgeSelect_b554 F T r2 (nI e) u3 → ∃ cs' rs' D', c_X0_checkGroups F cs k so = c_X0_checkGroups_L152 F F cs' k so gr 0 ∧ m_judgeSelect_b346 F T rs (nI e) u3 = m_judgeSelect_b554 F T rs' (nI e) u3 ∧ JH n f M t c cap s k V D' cs' rs' ∧ JZ t c k so it gr e cs rs cs' rs' ∧ (rs'.1 21 = 1 → rs.1 21 = 1 ∧ MD n f M k so e ns 0 0 V 0 cs' rs' ∧ (∀ z, D z → D' z) ∧ (∀ z, z < mg → CVR V s (kA cs 97 gr z) D') ∧ ∀ z, z < mg → TYR (kA cs' 100 gr z) (rs'.2.2.1 80 (8 * e + z))) := fun r2 w1 w2 w3 w4 w5 => by
      obtain ⟨cs', t1, t2, t3⟩ := grps_F (gr := gr) (m := mg) (e := e) (so := so) hF sk hs mg 0 F D c1 r2 (by omega) (by omega) (by omega) w1 w4 w3.cg
      exact ⟨cs', r2, D, cls.trans t1, w5, t2, (JZ.jf w2).trans (JZ.jc t3 (Or.inr rfl)), fun g => absurd (w4.symm.trans g) (by decide)⟩
    by_cases g : rs.1 21 = 0
    · have q : r1 = rs := by
        have : m_bounded F rs b (kI cs 199 so) = some rs := by
          unfold m_bounded m_bounded_b17
          by_cases z1 : b = 0
          · rw [if_pos z1]
            by_cases z2 : rs.1 75 = 0
            · rw [if_pos z2, tell_f g, ob_s]
            · rw [if_neg z2]
          · rw [if_neg z1]
        exact Option.some.inj (b2.symm.trans this)
      rw [q] at b3 b4 sl1
      refine bad rs b4 b3 sl1 g ?_
      unfold m_judgeSelect_b346
      rw [rdI_n e60 (by decide), ob_s, if_neg g3, if_pos g]
      unfold m_judgeSelect_b527
      rw [rdI_n e60 (by decide), ob_s, a42]
      by_cases z : nI na ≤ 0
      · rw [if_pos z]
      · rw [if_neg z, if_pos g]
    · have g' : rs.1 21 = 1 := by
        rcases h.st with ⟨-, q, -⟩ | ⟨-, q, -⟩
        · exact q
        · exact absurd q g
      obtain ⟨md1, md2, md3, md4⟩ := md g'
      have ref : m_judgeSelect_b346 F T rs (nI e) u3 = m_judgeSelect_L378 F T F r1 (nI e) u3 (nI 0) := by
        unfold m_judgeSelect_b346
        rw [rdI_n e60 (by decide), ob_s, if_neg g3, if_neg g, ob_s, g2, md3, b2, ob_s]
        rfl
      rcases b4.st with ⟨s1, s2, s3⟩ | ⟨s1, s2, s3, s4⟩
      · have sp1 := md2.jz j1
        obtain ⟨cs', rs', D', t1, t2, t3, t4, t5⟩ := grps_L (so := so) (ns := ns) (T := T) (u3 := u3) hF sk hs e60 (I := fun c2 r2 => MD n f M k so e ns 0 0 V 0 c2 r2 ∧ SEP so e ns gr c2 r2) (fun _ _ w => w.1) (fun _ _ _ _ w j => ⟨w.1.jf j, w.2.jz (JZ.jf (k := k) (it := it) j)⟩) (fun c2 r2 z v v' hz w => ⟨⟨w.1.1.own w.2 (Nat.le_refl _) hz (Or.inr rfl), w.1.2.1, w.1.2.2⟩, w.2.mv (AT.sA (by omega)) (fun oo => AT.sA (by omega)) ⟨funext (fun j => sIa_n (by omega)), funext (fun j => sIa_n (by omega)), funext (fun j => sIa_n (by omega))⟩⟩) mg 0 F F D c1 r1 (by omega) (by omega) (by omega) (by omega) b4 s2 ⟨md1.jf b3, sp1⟩ sl1.cg sl1.gn sl1.rg (fun z hz => absurd hz (by omega))
        refine ⟨cs', rs', D', cls.trans t1, ?_, t3, j1.trans (JZ.jc t4 (Or.inr rfl)), fun gg => ?_⟩
        · rw [ref, t2]
          rfl
        · obtain ⟨q1, q2, q3, q4⟩ := t5 gg
          refine ⟨g', q1.1, q2, fun z hz r a hr1 hr2 hr3 hr4 x' x1' x2' => q3 z r a (by omega) hz ?_ hr2 hr3 hr4 x' x1' x2', q4⟩
          rw [(j1.a0 97 gr (by omega) (by omega) (by omega) (by omega)).a]
          exact hr1
      · refine bad r1 b4 b3 sl1 s2 ?_
        rw [ref]
        obtain ⟨u, hu⟩ : ∃ u, F = u + 1 := ⟨F - 1, by omega⟩
        have q : m_judgeSelect_L378 F T (u + 1) r1 (nI e) u3 (nI 0) = m_judgeSelect_b524 F T r1 (nI e) u3 := by
          rw [m_judgeSelect_L378, rdI_n e60 (by decide), ob_s, sl1.rg]
          by_cases z : nI mg ≤ nI 0
          · rw [if_pos z]
          · rw [if_neg z, if_pos s2]
        rw [← hu] at q
        exact q

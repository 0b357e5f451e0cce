/-! minus, not -/
theorem sim_sign {n : Nat} {f : Nat → Int32} {M t c cap q sel : Nat} {ma : Bool} {F z : Nat} {T : TC_X9_readExpr} {T' : TG_expr} (hF : 10000 ≤ F) (hT1 : SE n f M t c cap q sel ma z T.2.2.2.2.2.2.2.1 T'.2.2.2.2.2.2.2.1) (hT2 : z < 12 → SE n f M t c cap q sel ma (z + 1) T.2.2.2.2.2.2.1 T'.2.2.2.2.2.2.1) : SE n f M t c cap q sel ma z (cb_X9_readSign F T) (b_sign F T') := by
  intro i s cs rs hg
  have ho := hg.h.o
  have hi2 := hg.i2
  have him := hg.im
  have hmn := hg.x.mn
  have hn2 := hg.x.n2
  have hsi := hg.si
  have hz2 := hg.z2
  have hh := her_ok (F := F) hg.h hg.ci hi2
  obtain ⟨p, κ, hk, hk1, hk2⟩ := hg.wd
  have hkl := hk.kl
  have kd := knd_ok (F := F) hg.h hg.f0 hg.ci hi2 hk
  have r01 : (2001 : Nat) < 2147483648 := by decide
  have nz : ¬ (1 : Int32) = 0 := by decide
  have pr : rs.2.2.1 15 i = kA cs 353 9 i := by rw [hk.pr, hk.pc]
  have hw := ig_ok (F := F) (q := 46) hg.x him hk hg.g1 hg.ri (by decide) (by decide)
  rw [show st (nI 46) = 45 by decide] at hw
  by_cases yk : κ = 46
  · have zk : nI κ = 46 := by rw [yk]; decide
    have hiM : i < M := by
      rcases Nat.lt_or_ge i M with y | y
      · exact y
      · have := hk2 (by omega); omega
    by_cases h12 : z < 12
    · have hd := hg.deep h12
      have kd1 : c_X9_kind F (sI cs 329 t (nI (z + 1))) t = some 46 := by
        have := knd_ok (F := F) hd.h hd.f0 hd.ci hi2 (tk_keep hk (FO.sI (W := PX t c q) (Or.inl ⟨by decide, rfl⟩)) (FR.setF (k := 70) (v := nI (z + 1)) (by unfold eR; omega)))
        rw [zk] at this
        exact this
      have ac := acc_y hd.h hd.ci kd1
      have hn := hd.next hiM
      obtain ⟨csA, hcsA⟩ : ∃ x, x = sI (sI cs 329 t (nI (z + 1))) 328 t (nI (i + 1)) := ⟨_, rfl⟩
      obtain ⟨rsA, hrsA⟩ : ∃ x, x = setF (setF rs 70 (nI (z + 1))) 18 (nI (i + 1)) := ⟨_, rfl⟩
      rw [← hcsA, ← hrsA] at hn
      have sqA : SQ t c q sel ma cs rs csA rsA := by
        rw [hcsA, hrsA]
        exact ((SQ.text (by decide)).trans (SQ.text (by decide))).trans ((SQ.ref (by unfold eR; omega)).trans (SQ.ref (by unfold eR; omega)))
      have VA : VW c csA rsA = VW c cs rs := by rw [hcsA, hrsA]; rfl
      obtain ⟨cs1, rs1, a1, e1, e2, e3⟩ := hT2 h12 (i + 1) s csA rsA hn
      have hc : ∀ cs1, T.2.2.2.2.2.2.1 csA t = some cs1 → cb_X9_readSign F T cs t = c_X9_readSign_b49 F T cs1 t (nI s) (kA cs 353 9 i) := fun cs1 e1 => by
        unfold cb_X9_readSign
        rw [ckE_ok ho, ob_s, kd, ob_s, if_pos zk, gR_ok ho, ob_s, hg.h.rc, ob_s, gI_ok hg.h.oc, ob_s, hg.cn, ob_s, hh, ob_s, ob_s, dee_ok hg.h hg.cz h12, ob_s, ckE_ok hd.h.o, ob_s, ac, ob_s]
        show Option.bind (gI (sI (sI cs 329 t (nI (z + 1))) 328 t (nI (i + 1))) 10 320 t) _ = _
        rw [← hcsA, gI_ok hn.h.o, ob_s, if_pos hn.f0, ckE_ok hn.h.o, ob_s, e1, ob_s]
      have hm : ∀ rs1 a1, T'.2.2.2.2.2.2.1 rsA = some (rs1, a1) → b_sign F T' rs = m_sign_b54 F T' rs1 (kA cs 353 9 i) a1 := fun rs1 a1 e2 => by
        unfold b_sign
        rw [hw, ob_s, if_pos yk, if_neg nz, hg.ri, rdI_n hi2 r01, ob_s, pr, mde_ok hg.rz h12, ob_s]
        rw [show (setF rs 70 (nI (z + 1))).1 18 = nI i from hg.ri, nI_1, ← hrsA, if_neg (show ¬ rsA.1 21 = 0 by rw [hn.g1]; decide), e2, ob_s]
      rcases e3 with ⟨i1, s1, g, ea, e74⟩ | ⟨pb, fo, fr⟩
      · subst ea
        have b1 := g.il
        have a1' := g.sl
        have l1 := g.le
        have hr := g.g.rise
        have im1 := g.g.im
        have sqB : SQ t c q sel ma cs1 rs1 (sI cs1 329 t (nI z)) (setF rs1 70 (nI z)) := (SQ.text (by decide)).trans (SQ.ref (by unfold eR; omega))
        have cz1 : kI cs1 329 t = nI (z + 1) := g.g.cz
        have rz1 : rs1.1 70 = nI (z + 1) := g.g.rz
        rcases PG.mk (F := F) (k := 58) (bg := kA cs 353 9 i) (mt := kA cs 353 9 i) (pt := 1) (k' := 17) (a := nI (s1 - 1)) (b := -1) (d := -1) (fi := s) hr (by omega) (by omega) with ⟨cs3, rs3, f1, f2, f3, f4, f5, f6, f7, f8, f9, f10, f11⟩ | ⟨cs3, rs3, f1, f2, f3, f4, f5⟩
        · have sqC : SQ t c q sel ma (sI cs1 329 t (nI z)) (setF rs1 70 (nI z)) cs3 rs3 := by rw [f10, f11]; exact SQ.mk hr.cn (by have := f3.s2; omega)
          have V1 : ∀ x, x ≠ s1 → VW c cs3 rs3 x = VW c cs1 rs1 x := fun x hx => f4 x hx
          have hkk : vk (VW c cs3 rs3) s1 = 58 := by unfold vk; rw [f5]
          refine ⟨cs3, setF rs3 74 (kA cs 353 9 i), nI s1, ?_, ?_, Or.inl ⟨i1, s1 + 1, (EG.of f3 (by omega) (by omega) (by omega) (fun x hx => by rw [V1 x (by omega), g.kp x hx, VA]) (fun R => ?_) (((sqA.trans g.sq).trans sqB).trans sqC) (((g.ke.keep sqB (fun _ _ _ => rfl)).keep sqC (fun x x1 x2 => f4 x (by omega))).snoc (by rw [hkk]; decide) (fun y => absurd y (by unfold AGN; rw [hkk]; decide))) (Or.inr (by omega)) (by unfold rx; rw [f5])).s74, rfl, rfl⟩⟩
          · rw [hc cs1 e1]
            unfold c_X9_readSign_b49
            rw [gI_ok g.g.h.o, ob_s, cz1, nI_pred, pI_ok g.g.h.o, ob_s, ckE_ok hr.h.o, ob_s, f1, ob_s]
          · rw [hm rs1 _ e2]
            unfold m_sign_b54
            rw [rz1, nI_pred, f2, ob_s]
          · refine ⟨by omega, by unfold vf; rw [f5], by unfold vb rb; rw [f5], Or.inr (Or.inl ⟨by omega, ?_, by unfold rl; rw [f5], (TR.fr _ _ _ _ (fun x q1 q2 => V1 x (by omega)) (g.tr R)).le (by omega)⟩)⟩
            unfold UNA vp vk rk rh
            rw [f5]
            exact ⟨rfl, Or.inr (Or.inl ⟨rfl, rfl⟩)⟩
        · refine ⟨cs3, setF rs3 74 (kA cs 353 9 i), 0, ?_, ?_, Or.inr ⟨f3.s74, ((sqA.trans g.sq).trans sqB).1.trans f4, (((sqA.trans g.sq).trans sqB).2.1.trans f5).trans (FR.setF (by unfold eR; omega))⟩⟩
          · rw [hc cs1 e1]
            unfold c_X9_readSign_b49
            rw [gI_ok g.g.h.o, ob_s, cz1, nI_pred, pI_ok g.g.h.o, ob_s, ckE_ok hr.h.o, ob_s, f1, ob_s]
          · rw [hm rs1 _ e2]
            unfold m_sign_b54
            rw [rz1, nI_pred, f2, ob_s]
      · obtain ⟨v1, hv1⟩ : ∃ v, v = kI cs1 329 t - 1 := ⟨_, rfl⟩
        obtain ⟨v2, hv2⟩ : ∃ v, v = rs1.1 70 - 1 := ⟨_, rfl⟩
        have pb2 : PB t c (sI cs1 329 t v1) (setF rs1 70 v2) := (pb.ch (by decide)).rh (by decide)
        refine ⟨sI cs1 329 t v1, setF (setF rs1 70 v2) 74 (kA cs 353 9 i), 0, ?_, ?_, Or.inr ⟨pb2.s74, (sqA.1.trans fo).trans (FO.sI (Or.inl ⟨by decide, rfl⟩)), ((sqA.2.1.trans fr).trans (FR.setF (by unfold eR; omega))).trans (FR.setF (by unfold eR; omega))⟩⟩
        · rw [hc cs1 e1]
          unfold c_X9_readSign_b49
          rw [gI_ok pb.s.h.o, ob_s, pI_ok pb.s.h.o, ob_s, ← hv1, ckE_ok pb2.s.h.o, ob_s, cpl_f pb2.s, ob_s]
        · rw [hm rs1 _ e2]
          unfold m_sign_b54
          rw [← hv2, mk_f pb2.r, ob_s]
    · have ez : z = 12 := by omega
      subst ez
      have pb0 := hg.bad (a := 7) (b := kA cs 353 9 i) (by decide)
      have pb1 : PB t c (sI (sI (sI cs 320 t 7) 321 t (kA cs 353 9 i)) 329 t (nI (12 + 1))) (setF (setF (setF (setF rs 70 (nI 13)) 21 0) 19 7) 20 (kA cs 353 9 i)) := by
        have := (pb0.ch (k := 329) (v := nI (12 + 1)) (by decide))
        exact ⟨this.s, ⟨rfl, i, hg.ri, hi2⟩, this.e1, this.e2⟩
      obtain ⟨csB, hcsB⟩ : ∃ x, x = sI (sI (sI cs 320 t 7) 321 t (kA cs 353 9 i)) 329 t (nI (12 + 1)) := ⟨_, rfl⟩
      obtain ⟨rsB, hrsB⟩ : ∃ x, x = setF (setF (setF (setF rs 70 (nI 13)) 21 0) 19 7) 20 (kA cs 353 9 i) := ⟨_, rfl⟩
      rw [← hcsB, ← hrsB] at pb1
      have i18 : rsB.1 18 = nI i := by rw [hrsB]; exact hg.ri
      have pb2 := pb1.at (i := i + 1) (by omega)
      obtain ⟨v1, hv1⟩ : ∃ v, v = kI csB 329 t - 1 := ⟨_, rfl⟩
      obtain ⟨v2, hv2⟩ : ∃ v, v = (setF rsB 18 (nI (i + 1))).1 70 - 1 := ⟨_, rfl⟩
      have pb3 : PB t c (sI csB 329 t v1) (setF (setF rsB 18 (nI (i + 1))) 70 v2) := (pb2.ch (by decide)).rh (by decide)
      refine ⟨sI csB 329 t v1, setF (setF (setF rsB 18 (nI (i + 1))) 70 v2) 74 (kA cs 353 9 i), 0, ?_, ?_, Or.inr ⟨pb3.s74, ?_, ?_⟩⟩
      · unfold cb_X9_readSign c_X9_readSign_b49
        rw [ckE_ok ho, ob_s, kd, ob_s, if_pos zk, gR_ok ho, ob_s, hg.h.rc, ob_s, gI_ok hg.h.oc, ob_s, ob_s, hh, ob_s, ob_s, dee_b hg.h hg.f0 hg.ci hi2 hg.cz (Nat.le_refl _) (by decide), ob_s, ← hcsB, ckE_ok pb1.s.h.o, ob_s, acc_f pb1.s (by decide), ob_s]
        show Option.bind (gI csB 10 320 t) _ = _
        rw [gI_ok pb1.s.h.o, ob_s, if_neg pb1.s.f]
        show Option.bind (gI csB 10 329 t) _ = _
        rw [gI_ok pb1.s.h.o, ob_s, pI_ok pb1.s.h.o, ob_s, ← hv1, ckE_ok pb3.s.h.o, ob_s, cpl_f pb3.s, ob_s]
      · unfold b_sign m_sign_b54
        rw [hw, ob_s, if_pos yk, if_neg nz, hg.ri, rdI_n hi2 r01, ob_s, pr, mde_b hg.g1 hg.rz, ob_s, ← hrsB, i18, nI_1, if_pos pb2.r.g, ← hv2, mk_f pb3.r, ob_s]
      · rw [hcsB]
        exact (((FO.sI (Or.inl ⟨by decide, rfl⟩)).trans (FO.sI (Or.inl ⟨by decide, rfl⟩))).trans (FO.sI (Or.inl ⟨by decide, rfl⟩))).trans (FO.sI (Or.inl ⟨by decide, rfl⟩))
      · rw [hrsB]
        exact ((((((FR.setF (by unfold eR; omega)).trans (FR.setF (by unfold eR; omega))).trans (FR.setF (by unfold eR; omega))).trans (FR.setF (by unfold eR; omega))).trans (FR.setF (by unfold eR; omega))).trans (FR.setF (by unfold eR; omega))).trans (FR.setF (by unfold eR; omega))
  · have zk : ¬ nI κ = 46 := fun w => yk ((nI_eq (b := 46) (by omega) (by decide)).mp w)
    obtain ⟨cs1, rs1, a1, e1, e2, e3⟩ := hT1 i s cs rs hg
    refine ⟨cs1, rs1, a1, ?_, ?_, e3⟩
    · unfold cb_X9_readSign
      rw [ckE_ok ho, ob_s, kd, ob_s, if_neg zk, ob_s, e1, ob_s]
    · unfold b_sign
      rw [hw, ob_s, if_neg yk, if_pos rfl, e2, ob_s]
theorem sim_neg {n : Nat} {f : Nat → Int32} {M t c cap q sel : Nat} {ma : Bool} {F z : Nat} {T : TC_X9_readExpr} {T' : TG_expr} (hF : 10000 ≤ F) (hT1 : SE n f M t c cap q sel ma z T.2.2.2.1 T'.2.2.2.1) (hT2 : z < 12 → SE n f M t c cap q sel ma (z + 1) T.2.2.1 T'.2.2.1) : SE n f M t c cap q sel ma z (cb_X9_readNegation F T) (b_notExpr F T') := by
  intro i s cs rs hg
  have ho := hg.h.o
  have hi2 := hg.i2
  have him := hg.im
  have hmn := hg.x.mn
  have hn2 := hg.x.n2
  have hsi := hg.si
  have hz2 := hg.z2
  have hh := her_ok (F := F) hg.h hg.ci hi2
  obtain ⟨p, κ, hk, hk1, hk2⟩ := hg.wd
  have hkl := hk.kl
  have kd := knd_ok (F := F) hg.h hg.f0 hg.ci hi2 hk
  have r01 : (2001 : Nat) < 2147483648 := by decide
  have nz : ¬ (1 : Int32) = 0 := by decide
  have pr : rs.2.2.1 15 i = kA cs 353 9 i := by rw [hk.pr, hk.pc]
  have hw := iw_ok (F := F) (x := 16) hF hg.x him hk hg.g1 hg.ri (by decide) (by decide)
  rw [show swK 16 = 25 by decide] at hw
  by_cases yk : κ = 25
  · have zk : nI κ = 25 := by rw [yk]; decide
    have hiM : i < M := by
      rcases Nat.lt_or_ge i M with y | y
      · exact y
      · have := hk2 (by omega); omega
    by_cases h12 : z < 12
    · have hd := hg.deep h12
      have kd1 : c_X9_kind F (sI cs 329 t (nI (z + 1))) t = some 25 := by
        have := knd_ok (F := F) hd.h hd.f0 hd.ci hi2 (tk_keep hk (FO.sI (W := PX t c q) (Or.inl ⟨by decide, rfl⟩)) (FR.setF (k := 70) (v := nI (z + 1)) (by unfold eR; omega)))
        rw [zk] at this
        exact this
      have ac := acc_y hd.h hd.ci kd1
      have hn := hd.next hiM
      obtain ⟨csA, hcsA⟩ : ∃ x, x = sI (sI cs 329 t (nI (z + 1))) 328 t (nI (i + 1)) := ⟨_, rfl⟩
      obtain ⟨rsA, hrsA⟩ : ∃ x, x = setF (setF rs 70 (nI (z + 1))) 18 (nI (i + 1)) := ⟨_, rfl⟩
      rw [← hcsA, ← hrsA] at hn
      have sqA : SQ t c q sel ma cs rs csA rsA := by
        rw [hcsA, hrsA]
        exact ((SQ.text (by decide)).trans (SQ.text (by decide))).trans ((SQ.ref (by unfold eR; omega)).trans (SQ.ref (by unfold eR; omega)))
      have VA : VW c csA rsA = VW c cs rs := by rw [hcsA, hrsA]; rfl
      obtain ⟨cs1, rs1, a1, e1, e2, e3⟩ := hT2 h12 (i + 1) s csA rsA hn
      have hc : ∀ cs1, T.2.2.1 csA t = some cs1 → cb_X9_readNegation F T cs t = c_X9_readNegation_b49 F T cs1 t (nI s) (kA cs 353 9 i) := fun cs1 e1 => by
        unfold cb_X9_readNegation
        rw [ckE_ok ho, ob_s, kd, ob_s, if_pos zk, gR_ok ho, ob_s, hg.h.rc, ob_s, gI_ok hg.h.oc, ob_s, hg.cn, ob_s, hh, ob_s, ob_s, dee_ok hg.h hg.cz h12, ob_s, ckE_ok hd.h.o, ob_s, ac, ob_s]
        show Option.bind (gI (sI (sI cs 329 t (nI (z + 1))) 328 t (nI (i + 1))) 10 320 t) _ = _
        rw [← hcsA, gI_ok hn.h.o, ob_s, if_pos hn.f0, ckE_ok hn.h.o, ob_s, e1, ob_s]
      have hm : ∀ rs1 a1, T'.2.2.1 rsA = some (rs1, a1) → b_notExpr F T' rs = m_notExpr_b55 F T' rs1 (kA cs 353 9 i) a1 := fun rs1 a1 e2 => by
        unfold b_notExpr
        rw [hw, ob_s, if_pos yk, if_neg nz, hg.ri, rdI_n hi2 r01, ob_s, pr, mde_ok hg.rz h12, ob_s]
        rw [show (setF rs 70 (nI (z + 1))).1 18 = nI i from hg.ri, nI_1, ← hrsA, if_neg (show ¬ rsA.1 21 = 0 by rw [hn.g1]; decide), e2, ob_s]
      rcases e3 with ⟨i1, s1, g, ea, e74⟩ | ⟨pb, fo, fr⟩
      · subst ea
        have b1 := g.il
        have a1' := g.sl
        have l1 := g.le
        have hr := g.g.rise
        have im1 := g.g.im
        have sqB : SQ t c q sel ma cs1 rs1 (sI cs1 329 t (nI z)) (setF rs1 70 (nI z)) := (SQ.text (by decide)).trans (SQ.ref (by unfold eR; omega))
        have cz1 : kI cs1 329 t = nI (z + 1) := g.g.cz
        have rz1 : rs1.1 70 = nI (z + 1) := g.g.rz
        rcases PG.mk (F := F) (k := 25) (bg := kA cs 353 9 i) (mt := kA cs 353 9 i) (pt := 1) (k' := 8) (a := nI (s1 - 1)) (b := -1) (d := -1) (fi := s) hr (by omega) (by omega) with ⟨cs3, rs3, f1, f2, f3, f4, f5, f6, f7, f8, f9, f10, f11⟩ | ⟨cs3, rs3, f1, f2, f3, f4, f5⟩
        · have sqC : SQ t c q sel ma (sI cs1 329 t (nI z)) (setF rs1 70 (nI z)) cs3 rs3 := by rw [f10, f11]; exact SQ.mk hr.cn (by have := f3.s2; omega)
          have V1 : ∀ x, x ≠ s1 → VW c cs3 rs3 x = VW c cs1 rs1 x := fun x hx => f4 x hx
          have hkk : vk (VW c cs3 rs3) s1 = 25 := by unfold vk; rw [f5]
          refine ⟨cs3, setF rs3 74 (kA cs 353 9 i), nI s1, ?_, ?_, Or.inl ⟨i1, s1 + 1, (EG.of f3 (by omega) (by omega) (by omega) (fun x hx => by rw [V1 x (by omega), g.kp x hx, VA]) (fun R => ?_) (((sqA.trans g.sq).trans sqB).trans sqC) (((g.ke.keep sqB (fun _ _ _ => rfl)).keep sqC (fun x x1 x2 => f4 x (by omega))).snoc (by rw [hkk]; decide) (fun y => absurd y (by unfold AGN; rw [hkk]; decide))) (Or.inr (by omega)) (by unfold rx; rw [f5])).s74, rfl, rfl⟩⟩
          · rw [hc cs1 e1]
            unfold c_X9_readNegation_b49
            rw [gI_ok g.g.h.o, ob_s, cz1, nI_pred, pI_ok g.g.h.o, ob_s, ckE_ok hr.h.o, ob_s, f1, ob_s]
          · rw [hm rs1 _ e2]
            unfold m_notExpr_b55
            rw [rz1, nI_pred, f2, ob_s]
          · refine ⟨by omega, by unfold vf; rw [f5], by unfold vb rb; rw [f5], Or.inr (Or.inl ⟨by omega, ?_, by unfold rl; rw [f5], (TR.fr _ _ _ _ (fun x q1 q2 => V1 x (by omega)) (g.tr R)).le (by omega)⟩)⟩
            unfold UNA vp vk rk rh
            rw [f5]
            exact ⟨rfl, Or.inl ⟨rfl, rfl⟩⟩
        · refine ⟨cs3, setF rs3 74 (kA cs 353 9 i), 0, ?_, ?_, Or.inr ⟨f3.s74, ((sqA.trans g.sq).trans sqB).1.trans f4, (((sqA.trans g.sq).trans sqB).2.1.trans f5).trans (FR.setF (by unfold eR; omega))⟩⟩
          · rw [hc cs1 e1]
            unfold c_X9_readNegation_b49
            rw [gI_ok g.g.h.o, ob_s, cz1, nI_pred, pI_ok g.g.h.o, ob_s, ckE_ok hr.h.o, ob_s, f1, ob_s]
          · rw [hm rs1 _ e2]
            unfold m_notExpr_b55
            rw [rz1, nI_pred, f2, ob_s]
      · obtain ⟨v1, hv1⟩ : ∃ v, v = kI cs1 329 t - 1 := ⟨_, rfl⟩
        obtain ⟨v2, hv2⟩ : ∃ v, v = rs1.1 70 - 1 := ⟨_, rfl⟩
        have pb2 : PB t c (sI cs1 329 t v1) (setF rs1 70 v2) := (pb.ch (by decide)).rh (by decide)
        refine ⟨sI cs1 329 t v1, setF (setF rs1 70 v2) 74 (kA cs 353 9 i), 0, ?_, ?_, Or.inr ⟨pb2.s74, (sqA.1.trans fo).trans (FO.sI (Or.inl ⟨by decide, rfl⟩)), ((sqA.2.1.trans fr).trans (FR.setF (by unfold eR; omega))).trans (FR.setF (by unfold eR; omega))⟩⟩
        · rw [hc cs1 e1]
          unfold c_X9_readNegation_b49
          rw [gI_ok pb.s.h.o, ob_s, pI_ok pb.s.h.o, ob_s, ← hv1, ckE_ok pb2.s.h.o, ob_s, cpl_f pb2.s, ob_s]
        · rw [hm rs1 _ e2]
          unfold m_notExpr_b55
          rw [← hv2, mk_f pb2.r, ob_s]
    · have ez : z = 12 := by omega
      subst ez
      have pb0 := hg.bad (a := 7) (b := kA cs 353 9 i) (by decide)
      have pb1 : PB t c (sI (sI (sI cs 320 t 7) 321 t (kA cs 353 9 i)) 329 t (nI (12 + 1))) (setF (setF (setF (setF rs 70 (nI 13)) 21 0) 19 7) 20 (kA cs 353 9 i)) := by
        have := (pb0.ch (k := 329) (v := nI (12 + 1)) (by decide))
        exact ⟨this.s, ⟨rfl, i, hg.ri, hi2⟩, this.e1, this.e2⟩
      obtain ⟨csB, hcsB⟩ : ∃ x, x = sI (sI (sI cs 320 t 7) 321 t (kA cs 353 9 i)) 329 t (nI (12 + 1)) := ⟨_, rfl⟩
      obtain ⟨rsB, hrsB⟩ : ∃ x, x = setF (setF (setF (setF rs 70 (nI 13)) 21 0) 19 7) 20 (kA cs 353 9 i) := ⟨_, rfl⟩
      rw [← hcsB, ← hrsB] at pb1
      have i18 : rsB.1 18 = nI i := by rw [hrsB]; exact hg.ri
      have pb2 := pb1.at (i := i + 1) (by omega)
      obtain ⟨v1, hv1⟩ : ∃ v, v = kI csB 329 t - 1 := ⟨_, rfl⟩
      obtain ⟨v2, hv2⟩ : ∃ v, v = (setF rsB 18 (nI (i + 1))).1 70 - 1 := ⟨_, rfl⟩
      have pb3 : PB t c (sI csB 329 t v1) (setF (setF rsB 18 (nI (i + 1))) 70 v2) := (pb2.ch (by decide)).rh (by decide)
      refine ⟨sI csB 329 t v1, setF (setF (setF rsB 18 (nI (i + 1))) 70 v2) 74 (kA cs 353 9 i), 0, ?_, ?_, Or.inr ⟨pb3.s74, ?_, ?_⟩⟩
      · unfold cb_X9_readNegation c_X9_readNegation_b49
        rw [ckE_ok ho, ob_s, kd, ob_s, if_pos zk, gR_ok ho, ob_s, hg.h.rc, ob_s, gI_ok hg.h.oc, ob_s, ob_s, hh, ob_s, ob_s, dee_b hg.h hg.f0 hg.ci hi2 hg.cz (Nat.le_refl _) (by decide), ob_s, ← hcsB, ckE_ok pb1.s.h.o, ob_s, acc_f pb1.s (by decide), ob_s]
        show Option.bind (gI csB 10 320 t) _ = _
        rw [gI_ok pb1.s.h.o, ob_s, if_neg pb1.s.f]
        show Option.bind (gI csB 10 329 t) _ = _
        rw [gI_ok pb1.s.h.o, ob_s, pI_ok pb1.s.h.o, ob_s, ← hv1, ckE_ok pb3.s.h.o, ob_s, cpl_f pb3.s, ob_s]
      · unfold b_notExpr m_notExpr_b55
        rw [hw, ob_s, if_pos yk, if_neg nz, hg.ri, rdI_n hi2 r01, ob_s, pr, mde_b hg.g1 hg.rz, ob_s, ← hrsB, i18, nI_1, if_pos pb2.r.g, ← hv2, mk_f pb3.r, ob_s]
      · rw [hcsB]
        exact (((FO.sI (Or.inl ⟨by decide, rfl⟩)).trans (FO.sI (Or.inl ⟨by decide, rfl⟩))).trans (FO.sI (Or.inl ⟨by decide, rfl⟩))).trans (FO.sI (Or.inl ⟨by decide, rfl⟩))
      · rw [hrsB]
        exact ((((((FR.setF (by unfold eR; omega)).trans (FR.setF (by unfold eR; omega))).trans (FR.setF (by unfold eR; omega))).trans (FR.setF (by unfold eR; omega))).trans (FR.setF (by unfold eR; omega))).trans (FR.setF (by unfold eR; omega))).trans (FR.setF (by unfold eR; omega))
  · have zk : ¬ nI κ = 25 := fun w => yk ((nI_eq (b := 25) (by omega) (by decide)).mp w)
    obtain ⟨cs1, rs1, a1, e1, e2, e3⟩ := hT1 i s cs rs hg
    refine ⟨cs1, rs1, a1, ?_, ?_, e3⟩
    · unfold cb_X9_readNegation
      rw [ckE_ok ho, ob_s, kd, ob_s, if_neg zk, ob_s, e1, ob_s]
    · unfold b_notExpr
      rw [hw, ob_s, if_neg yk, if_pos rfl, e2, ob_s]

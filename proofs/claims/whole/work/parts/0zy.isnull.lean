/-! is null -/
theorem is_top {n : Nat} {f : Nat → Int32} {M t c cap q sel : Nat} {ma : Bool} {F z i s i1 s1 i3 : Nat} {T : TC_X9_readExpr} {T' : TG_expr} {cs cs1 cs2 : CS} {rs rs1 rs2 : RS} {k hw mt : Int32} (he : EG n f M t c cap q sel ma i z s cs rs i1 s1 cs1 rs1) (hp : PG n f M t c cap q sel ma i3 z s1 cs2 rs2) (hi : i1 < i3) (sq : SQ t c q sel ma cs1 rs1 cs2 rs2) (hV : VW c cs2 rs2 = VW c cs1 rs1) (hk : (k = 24 ∧ hw = 0) ∨ (k = 59 ∧ hw = 1)) : ∃ cs' rs' a, Option.bind (c_X9_complete F cs2 t k (nI s) (kA cs 353 9 i) mt 1) (fun z_9 => c_X9_readTest_b282 F T z_9.1) = some cs' ∧ Option.bind (m_make F rs2 10 (nI (s1 - 1)) (-1) (-1) (kA cs 353 9 i) mt) (fun z_33 => m_test_b176 F T' z_33.1 z_33.2 (kA cs 353 9 i) hw z_33.2) = some (rs', a) ∧ EP n f M t c cap q sel ma i z s cs rs cs' rs' a := by
  have a1 := he.sl
  have b1 := he.il
  have l1 := he.le
  have hsi := he.g.si
  rcases PG.mk (F := F) (k := k) (bg := kA cs 353 9 i) (mt := mt) (pt := 1) (k' := 10) (a := nI (s1 - 1)) (b := -1) (d := -1) (fi := s) hp (by omega) (by omega) with ⟨cs3, rs3, f1, f2, f3, f4, f5, f6, f7, f8, f9, f10, f11⟩ | ⟨cs3, rs3, f1, f2, f3, f4, f5⟩
  · have hs3 := f3.s2
    have sqC : SQ t c q sel ma cs2 rs2 cs3 rs3 := by rw [f10, f11]; exact SQ.mk hp.cn (by have := f3.s2; omega)
    have sqD : SQ t c q sel ma cs2 rs2 cs3 (setI rs3 27 s1 hw) := sqC.trans (SQ.refI (by unfold eR; omega))
    have V1 : ∀ x, x ≠ s1 → VW c cs3 (setI rs3 27 s1 hw) x = VW c cs1 rs1 x := fun x hx => by rw [V27 hx, f4 x hx, hV]
    have Vs : VW c cs3 (setI rs3 27 s1 hw) s1 = ((k, nI s, 1, kA cs 353 9 i, kB cs2 69 c s1, -1, -1), (10, nI (s1 - 1), -1, -1, hw, 0, kA cs 353 9 i, -1, 0)) := by rw [V27s, f5]
    have hkk : vk (VW c cs3 (setI rs3 27 s1 hw)) s1 = k := by unfold vk; rw [Vs]
    have k39 : k ≠ 39 := by rcases hk with y | y <;> rw [y.1] <;> decide
    have nag : ¬ AGN (VW c cs3 (setI rs3 27 s1 hw)) s1 := by
      unfold AGN
      rw [hkk]
      rcases hk with y | y <;> rw [y.1] <;> decide
    refine ⟨cs3, setF (setI rs3 27 s1 hw) 74 (kA cs 353 9 i), nI s1, ?_, ?_, Or.inl ⟨i3, s1 + 1, (EG.of f3.r27 (by omega) (by omega) (by omega) (fun x hx => by rw [V1 x (by omega), he.kp x hx]) (fun R => ?_) ((he.sq.trans sq).trans sqD) (KE.snoc (he.ke.keep (sq.trans sqD) (fun x x1 x2 => V1 x (by omega))) (by rw [hkk]; exact k39) (fun y => absurd y nag)) (Or.inr (by omega)) (by unfold rx; rw [Vs])).s74, rfl, rfl⟩⟩
    · rw [f1, ob_s]; rfl
    · rw [f2, ob_s]
      show Option.bind (wrI rs3 27 121 (nI s1) hw) _ = _
      rw [wrI_n (by omega) (by decide), ob_s]
      rfl
    · refine ⟨by omega, by unfold vf; rw [Vs], by unfold vb rb; rw [Vs], Or.inr (Or.inl ⟨by omega, ?_, by unfold rl; rw [Vs], (TR.fr _ _ _ _ (fun x q1 q2 => V1 x (by omega)) (he.tr R)).le (by omega)⟩)⟩
      unfold UNA vp vk rk rh
      rw [Vs]
      refine ⟨rfl, Or.inr (Or.inr ?_)⟩
      rcases hk with y | y
      · exact Or.inl ⟨y.1, rfl, y.2⟩
      · exact Or.inr ⟨y.1, rfl, y.2⟩
  · refine ⟨cs3, setF (setI rs3 27 0 hw) 74 (kA cs 353 9 i), 0, ?_, ?_, Or.inr ⟨f3.r27.s74, (he.sq.trans sq).1.trans f4, (((he.sq.trans sq).2.1.trans f5).trans (FR.setI (by unfold eR; omega))).trans (FR.setF (by unfold eR; omega))⟩⟩
    · rw [f1, ob_s]; rfl
    · rw [f2, ob_s]
      show Option.bind (wrI rs3 27 121 0 hw) _ = _
      rw [wr27, ob_s]
      rfl
theorem sim_is {n : Nat} {f : Nat → Int32} {M t c cap q sel : Nat} {ma : Bool} {F z i s i1 s1 : Nat} {T : TC_X9_readExpr} {T' : TG_expr} {cs cs1 : CS} {rs rs1 : RS} {mt : Int32} (hF : 10000 ≤ F) (he : EG n f M t c cap q sel ma i z s cs rs i1 s1 cs1 rs1) (hiM : i1 < M) : ∃ cs' rs' a, (Option.bind (c_X9_accept F (sI cs1 328 t (nI (i1 + 1))) t 25) fun z_25 => if z_25.2 = 0 then (c_X9_readTest_b226 F T z_25.1 t (nI s) (kA cs 353 9 i) mt 24) else (c_X9_readTest_b226 F T z_25.1 t (nI s) (kA cs 353 9 i) mt 59)) = some cs' ∧ (Option.bind (m_takeWord F (setF rs1 18 (nI (i1 + 1))) 16) fun z_31 => Option.bind (m_needWord F z_31.1 9) fun cs_32 => Option.bind (m_make F cs_32 10 (nI (s1 - 1)) (-1) (-1) (kA cs 353 9 i) mt) fun z_33 => if z_31.2 = 0 then (m_test_b176 F T' z_33.1 z_33.2 (kA cs 353 9 i) 0 z_33.2) else (m_test_b176 F T' z_33.1 z_33.2 (kA cs 353 9 i) 1 z_33.2)) = some (rs', a) ∧ EP n f M t c cap q sel ma i z s cs rs cs' rs' a := by
  have hn := he.g.next hiM
  have sqA : SQ t c q sel ma cs1 rs1 (sI cs1 328 t (nI (i1 + 1))) (setF rs1 18 (nI (i1 + 1))) := (SQ.text (by decide)).trans (SQ.ref (by unfold eR; omega))
  -- behind the word not, or without it
  have fin : ∀ (i2 : Nat) (cs2 : CS) (rs2 : RS) (k hw : Int32), i1 < i2 → PG n f M t c cap q sel ma i2 z s1 cs2 rs2 → SQ t c q sel ma cs1 rs1 cs2 rs2 → VW c cs2 rs2 = VW c cs1 rs1 → ((k = 24 ∧ hw = 0) ∨ (k = 59 ∧ hw = 1)) → ∃ cs' rs' a, c_X9_readTest_b226 F T cs2 t (nI s) (kA cs 353 9 i) mt k = some cs' ∧ (Option.bind (m_needWord F rs2 9) fun cs_32 => Option.bind (m_make F cs_32 10 (nI (s1 - 1)) (-1) (-1) (kA cs 353 9 i) mt) fun z_33 => m_test_b176 F T' z_33.1 z_33.2 (kA cs 353 9 i) hw z_33.2) = some (rs', a) ∧ EP n f M t c cap q sel ma i z s cs rs cs' rs' a := fun i2 cs2 rs2 k hw hlt hg2 sq hV hk => by
    unfold c_X9_readTest_b226
    rw [ckE_ok hg2.h.o, ob_s]
    have nd := hg2.need (F := F) (x := 9) hF (by decide) (by decide)
    rw [show nI (swK 9) = 26 by decide] at nd
    rcases nd with ⟨w1, w2, w3⟩ | ⟨csB, rsB, w2, w3, pb, sqB⟩
    · have hg3 := hg2.next w1
      rw [w2, ob_s, w3, ob_s, ckE_ok hg3.h.o, ob_s]
      exact is_top he hg3 (by omega) (sq.trans ((SQ.text (by decide)).trans (SQ.ref (by unfold eR; omega)))) (by rw [← hV]; rfl) hk
    · rw [w2, ob_s, w3, ob_s, ckE_ok pb.s.h.o, ob_s, cpl_f pb.s, ob_s, mk_f pb.r, ob_s]
      refine ⟨csB, setF (setI rsB 27 0 hw) 74 (kA cs 353 9 i), 0, rfl, ?_, Or.inr ⟨pb.r27.s74, ((he.sq.trans sq).trans sqB).1, (((he.sq.trans sq).trans sqB).2.1.trans (FR.setI (by unfold eR; omega))).trans (FR.setF (by unfold eR; omega))⟩⟩
      show Option.bind (wrI rsB 27 121 0 hw) _ = _
      rw [wr27, ob_s]
      rfl
  have my := hn.may (F := F) (x := 16) hF (by decide) (by decide)
  rw [show nI (swK 16) = 25 by decide] at my
  rcases my with ⟨w1, w2, w3⟩ | ⟨w2, w3⟩
  · have hg2 := hn.next w1
    obtain ⟨cs', rs', a, r1, r2, r3⟩ := fin (i1 + 1 + 1) _ _ 59 1 (by omega) hg2 (sqA.trans ((SQ.text (by decide)).trans (SQ.ref (by unfold eR; omega)))) rfl (Or.inr ⟨rfl, rfl⟩)
    refine ⟨cs', rs', a, ?_, ?_, r3⟩
    · rw [w2, ob_s, if_neg (show ¬ (1 : Int32) = 0 by decide)]
      exact r1
    · rw [w3, ob_s]
      simp only [if_neg (show ¬ (1 : Int32) = 0 by decide)]
      exact r2
  · obtain ⟨cs', rs', a, r1, r2, r3⟩ := fin (i1 + 1) _ _ 24 0 (by omega) hn sqA rfl (Or.inl ⟨rfl, rfl⟩)
    refine ⟨cs', rs', a, ?_, ?_, r3⟩
    · rw [w2, ob_s, if_pos rfl]
      exact r1
    · rw [w3, ob_s]
      simp only [if_pos (rfl : (0 : Int32) = 0)]
      exact r2

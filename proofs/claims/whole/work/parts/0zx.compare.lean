/-! compares; is null -/
theorem PG.r27 {n : Nat} {f : Nat → Int32} {M t c cap q sel : Nat} {ma : Bool} {i z s j : Nat} {cs : CS} {rs : RS} {u : Int32} (h : PG n f M t c cap q sel ma i z s cs rs) : PG n f M t c cap q sel ma i z s cs (setI rs 27 j u) := ⟨h.h, h.x, h.f0, h.ci, h.cz, h.cn, h.g1, h.ri, h.rz, h.rn, h.im, h.si, h.s2, h.z2, h.cp, h.ca, h.cm, h.rm, h.ag⟩
theorem PB.r27 {t c j : Nat} {cs : CS} {rs : RS} {u : Int32} (h : PB t c cs rs) : PB t c cs (setI rs 27 j u) := ⟨h.s, ⟨h.r.g, h.r.i⟩, h.e1, h.e2⟩
theorem V27 {c j x : Nat} {cs : CS} {rs : RS} {u : Int32} (h : x ≠ j) : VW c cs (setI rs 27 j u) x = VW c cs rs x := by
  show (_, (rs.2.2.1 23 x, rs.2.2.1 24 x, rs.2.2.1 25 x, rs.2.2.1 26 x, upd (rs.2.2.1 27) j u x, rs.2.2.2 28 x, rs.2.2.1 29 x, rs.2.2.1 32 x, rs.2.2.1 30 x)) = _
  rw [pk_un h]
  rfl
theorem V27s {c j : Nat} {cs : CS} {rs : RS} {u : Int32} : VW c cs (setI rs 27 j u) j = ((VW c cs rs j).1, ((VW c cs rs j).2.1, (VW c cs rs j).2.2.1, (VW c cs rs j).2.2.2.1, (VW c cs rs j).2.2.2.2.1, u, (VW c cs rs j).2.2.2.2.2.2)) := by
  show (_, (rs.2.2.1 23 j, rs.2.2.1 24 j, rs.2.2.1 25 j, rs.2.2.1 26 j, upd (rs.2.2.1 27) j u j, rs.2.2.2 28 j, rs.2.2.1 29 j, rs.2.2.1 32 j, rs.2.2.1 30 j)) = _
  rw [pk_us]
  rfl
theorem wr27 {rs : RS} {v : Int32} : wrI rs 27 121 0 v = some (setI rs 27 0 v) := wrI_ok (x := 0) (n := 121) rfl (by decide) (by decide)
theorem sim_cmp {n : Nat} {f : Nat → Int32} {M t c cap q sel : Nat} {ma : Bool} {F z i s i1 s1 p κ : Nat} {T : TC_X9_readExpr} {T' : TG_expr} {cs cs1 : CS} {rs rs1 : RS} (hT : SE n f M t c cap q sel ma z T.2.2.2.2.1 T'.2.2.2.2.1) (he : EG n f M t c cap q sel ma i z s cs rs i1 s1 cs1 rs1) (hiM : i1 < M) (h50 : 50 ≤ κ) (h55 : κ ≤ 55) : ∃ cs' rs' a, c_X9_readTest_b172 F T cs1 t (nI s) (kA cs 353 9 i) (kA cs1 353 9 i1) (nI κ) = some cs' ∧ m_test_b83 F T' rs1 (nI (s1 - 1)) (kA cs 353 9 i) (kA cs1 353 9 i1) (st (nI κ)) = some (rs', a) ∧ EP n f M t c cap q sel ma i z s cs rs cs' rs' a := by
  have hg := he.g
  have ho := hg.h.o
  have hn := hg.next hiM
  have a1 := he.sl
  have b1 := he.il
  have l1 := he.le
  have hsi := hg.si
  have s120 := hg.s2
  obtain ⟨csA, hcsA⟩ : ∃ x, x = sI cs1 328 t (nI (i1 + 1)) := ⟨_, rfl⟩
  obtain ⟨rsA, hrsA⟩ : ∃ x, x = setF rs1 18 (nI (i1 + 1)) := ⟨_, rfl⟩
  rw [← hcsA, ← hrsA] at hn
  have sqA : SQ t c q sel ma cs1 rs1 csA rsA := by
    rw [hcsA, hrsA]
    exact (SQ.text (by decide)).trans (SQ.ref (by unfold eR; omega))
  have VA : VW c csA rsA = VW c cs1 rs1 := by rw [hcsA, hrsA]; rfl
  obtain ⟨cs2, rs2, a2, e1, e2, e3⟩ := hT (i1 + 1) s1 csA rsA hn
  have hc : ∀ x, Option.bind (c_X9_complete F cs2 t (nI κ) (nI s) (kA cs 353 9 i) (kA cs1 353 9 i1) 2) (fun z_5 => c_X9_readTest_b282 F T z_5.1) = x → (10, t) ∈ kE cs2 → c_X9_readTest_b172 F T cs1 t (nI s) (kA cs 353 9 i) (kA cs1 353 9 i1) (nI κ) = x := fun x hx ho2 => by
    unfold c_X9_readTest_b172
    rw [gI_ok ho, ob_s, hg.ci, nI_1, pI_ok ho, ob_s, ← hcsA, ckE_ok hn.h.o, ob_s, e1, ob_s, ckE_ok ho2, ob_s, hx]
  have hm : ∀ x, Option.bind (m_make F rs2 9 (nI (s1 - 1)) a2 (-1) (kA cs 353 9 i) (kA cs1 353 9 i1)) (fun z_2 => Option.bind (wrI z_2.1 27 121 z_2.2 (st (nI κ))) fun cs_3 => m_test_b371 F T' cs_3 z_2.2 (kA cs 353 9 i)) = x → m_test_b83 F T' rs1 (nI (s1 - 1)) (kA cs 353 9 i) (kA cs1 353 9 i1) (st (nI κ)) = x := fun x hx => by
    unfold m_test_b83
    rw [hg.ri, nI_1, ← hrsA, e2, ob_s, hx]
  rcases e3 with ⟨i2, s2, g, ea, e74⟩ | ⟨pb, fo, fr⟩
  · subst ea
    have a2' := g.sl
    have b2 := g.il
    have l2 := g.le
    have s2' := g.g.s2
    rcases PG.mk (F := F) (k := nI κ) (bg := kA cs 353 9 i) (mt := kA cs1 353 9 i1) (pt := 2) (k' := 9) (a := nI (s1 - 1)) (b := nI (s2 - 1)) (d := -1) (fi := s) g.g (by omega) (by omega) with ⟨cs3, rs3, f1, f2, f3, f4, f5, f6, f7, f8, f9, f10, f11⟩ | ⟨cs3, rs3, f1, f2, f3, f4, f5⟩
    · have hs3 := f3.s2
      have sqC : SQ t c q sel ma cs2 rs2 cs3 rs3 := by rw [f10, f11]; exact SQ.mk g.g.cn (by have := f3.s2; omega)
      have sqD : SQ t c q sel ma cs2 rs2 cs3 (setI rs3 27 s2 (st (nI κ))) := sqC.trans (SQ.refI (by unfold eR; omega))
      have V3 : ∀ x, x ≠ s2 → VW c cs3 (setI rs3 27 s2 (st (nI κ))) x = VW c cs2 rs2 x := fun x hx => by rw [V27 hx, f4 x hx]
      have V1 : ∀ x, x < s1 → VW c cs3 (setI rs3 27 s2 (st (nI κ))) x = VW c cs1 rs1 x := fun x hx => by rw [V3 x (by omega), g.kp x hx, VA]
      have Vs : VW c cs3 (setI rs3 27 s2 (st (nI κ))) s2 = ((nI κ, nI s, 2, kA cs 353 9 i, kB cs2 69 c s2, -1, -1), (9, nI (s1 - 1), nI (s2 - 1), -1, st (nI κ), 0, kA cs 353 9 i, -1, 0)) := by rw [V27s, f5]
      have hkk : vk (VW c cs3 (setI rs3 27 s2 (st (nI κ)))) s2 = nI κ := by unfold vk; rw [Vs]
      have k39 : nI κ ≠ 39 := fun y => by have := (nI_eq (b := 39) (by omega) (by decide)).mp y; omega
      have nag : ¬ AGN (VW c cs3 (setI rs3 27 s2 (st (nI κ)))) s2 := fun y => by
        unfold AGN at y
        rw [hkk] at y
        rcases y with y | y | y | y | y
        · have := (nI_eq (b := 32) (by omega) (by decide)).mp y; omega
        · have := (nI_eq (b := 33) (by omega) (by decide)).mp y; omega
        · have := (nI_eq (b := 34) (by omega) (by decide)).mp y; omega
        · have := (nI_eq (b := 35) (by omega) (by decide)).mp y; omega
        · have := (nI_eq (b := 61) (by omega) (by decide)).mp y; omega
      refine ⟨cs3, setF (setI rs3 27 s2 (st (nI κ))) 74 (kA cs 353 9 i), nI s2, hc _ ?_ g.g.h.o, hm _ ?_, Or.inl ⟨i2, s2 + 1, (EG.of f3.r27 (by omega) (by omega) (by omega) (fun x hx => by rw [V1 x (by omega), he.kp x hx]) (fun R => ?_) (((he.sq.trans sqA).trans g.sq).trans sqD) (KE.snoc (KE.join ((((he.ke.keep sqA (fun x _ _ => by rw [VA])).keep g.sq (fun x x1 x2 => g.kp x x2))).keep sqD (fun x x1 x2 => V3 x (by omega))) (g.ke.keep sqD (fun x x1 x2 => V3 x (by omega)))) (by rw [hkk]; exact k39) (fun y => absurd y nag)) (Or.inr (by omega)) (by unfold rx; rw [Vs])).s74, rfl, rfl⟩⟩
      · rw [f1, ob_s]; rfl
      · rw [f2, ob_s]
        show Option.bind (wrI rs3 27 121 (nI s2) (st (nI κ))) _ = _
        rw [wrI_n (by omega) (by decide), ob_s]
        rfl
      · refine ⟨by omega, by unfold vf; rw [Vs], by unfold vb rb; rw [Vs], Or.inr (Or.inr (Or.inl ⟨s1, by omega, by omega, ?_, by unfold rl; rw [Vs], by unfold rr; rw [Vs], (TR.fr _ _ _ _ (fun x q1 q2 => V1 x (by omega)) (he.tr R)).le (by omega), (TR.fr _ _ _ _ (fun x q1 q2 => V3 x (by omega)) (g.tr R)).le (by omega)⟩))⟩
        unfold BIN vp vk rk rh
        rw [Vs]
        exact ⟨rfl, Or.inr (Or.inr (Or.inr (Or.inr (Or.inr (Or.inr (Or.inr (Or.inr ⟨κ, h50, h55, rfl, rfl, rfl⟩)))))))⟩
    · refine ⟨cs3, setF (setI rs3 27 0 (st (nI κ))) 74 (kA cs 353 9 i), 0, hc _ ?_ g.g.h.o, hm _ ?_, Or.inr ⟨f3.r27.s74, ((he.sq.trans sqA).trans g.sq).1.trans f4, ((((he.sq.trans sqA).trans g.sq).2.1.trans f5).trans (FR.setI (by unfold eR; omega))).trans (FR.setF (by unfold eR; omega))⟩⟩
      · rw [f1, ob_s]; rfl
      · rw [f2, ob_s]
        show Option.bind (wrI rs3 27 121 0 (st (nI κ))) _ = _
        rw [wr27, ob_s]
        rfl
  · refine ⟨cs2, setF (setI rs2 27 0 (st (nI κ))) 74 (kA cs 353 9 i), 0, hc _ ?_ pb.s.h.o, hm _ ?_, Or.inr ⟨pb.r27.s74, (he.sq.trans sqA).1.trans fo, (((he.sq.trans sqA).2.1.trans fr).trans (FR.setI (by unfold eR; omega))).trans (FR.setF (by unfold eR; omega))⟩⟩
    · rw [cpl_f pb.s, ob_s]; rfl
    · rw [mk_f pb.r, ob_s]
      show Option.bind (wrI rs2 27 121 0 (st (nI κ))) _ = _
      rw [wr27, ob_s]
      rfl
/-- what stands at the next token -/
theorem PG.tok {n : Nat} {f : Nat → Int32} {M t c cap q sel : Nat} {ma : Bool} {F i z s : Nat} {cs : CS} {rs : RS} (h : PG n f M t c cap q sel ma i z s cs rs) : ∃ p κ, TK n f i p κ cs rs ∧ (i < M → κ < 56) ∧ (i = M → 56 ≤ κ) ∧ c_X9_kind F cs t = some (nI κ) ∧ κ ≤ 57 ∧ rs.2.2.1 15 i = kA cs 353 9 i := by
  obtain ⟨p, κ, hk, hk1, hk2⟩ := h.wd
  exact ⟨p, κ, hk, hk1, hk2, knd_ok h.h h.f0 h.ci h.i2 hk, hk.kl, by rw [hk.pr, hk.pc]⟩
/-- a word that must stand there -/
theorem PG.need {n : Nat} {f : Nat → Int32} {M t c cap q sel : Nat} {ma : Bool} {F i z s x : Nat} {cs : CS} {rs : RS} (hF : 10000 ≤ F) (h : PG n f M t c cap q sel ma i z s cs rs) (hx : x < 42) (hx2 : swK x < 39) : (i < M ∧ c_X9_expect F cs t (nI (swK x)) = some (sI cs 328 t (nI (i + 1))) ∧ m_needWord F rs x = some (setF rs 18 (nI (i + 1)))) ∨ (∃ cs' rs', c_X9_expect F cs t (nI (swK x)) = some cs' ∧ m_needWord F rs x = some rs' ∧ PB t c cs' rs' ∧ SQ t c q sel ma cs rs cs' rs') := by
  obtain ⟨p, κ, hk, hk1, hk2, kd, hkl, pr⟩ := h.tok (F := F)
  have hw := iw_ok (F := F) (x := x) hF h.x h.im hk h.g1 h.ri hx hx2
  have him := h.im
  by_cases y : κ = swK x
  · rw [if_pos y] at hw
    have hiM : i < M := by
      rcases Nat.lt_or_ge i M with w | w
      · exact w
      · have := hk2 (by omega); omega
    rw [y] at kd
    exact Or.inl ⟨hiM, exp_y h.h h.ci kd, nw_y h.ri hw⟩
  · rw [if_neg y] at hw
    have ne : nI κ ≠ nI (swK x) := fun w => y ((nI_eq (by omega) (by omega)).mp w)
    refine Or.inr ⟨_, _, exp_n h.h h.f0 h.ci h.i2 kd ne, nw_n h.ri h.i2 h.g1 hw, ?_, ?_⟩
    · rw [pr]
      exact h.bad (by decide)
    · exact ((SQ.text (by decide)).trans (SQ.text (by decide))).trans (((SQ.ref (by unfold eR; omega)).trans (SQ.ref (by unfold eR; omega))).trans (SQ.ref (by unfold eR; omega)))
/-- a sign that must stand there -/
theorem PG.needS {n : Nat} {f : Nat → Int32} {M t c cap q sel : Nat} {ma : Bool} {F i z s k : Nat} {cs : CS} {rs : RS} (h : PG n f M t c cap q sel ma i z s cs rs) (hk1 : 41 ≤ k) (hk2 : k < 56) : (i < M ∧ c_X9_expect F cs t (nI k) = some (sI cs 328 t (nI (i + 1))) ∧ m_needSign F rs (st (nI k)) = some (setF rs 18 (nI (i + 1)))) ∨ (∃ cs' rs', c_X9_expect F cs t (nI k) = some cs' ∧ m_needSign F rs (st (nI k)) = some rs' ∧ PB t c cs' rs' ∧ SQ t c q sel ma cs rs cs' rs') := by
  obtain ⟨p, κ, hk, hka, hkb, kd, hkl, pr⟩ := h.tok (F := F)
  have hw := ig_ok (F := F) (q := k) h.x h.im hk h.g1 h.ri hk1 hk2
  have him := h.im
  by_cases y : κ = k
  · rw [if_pos y] at hw
    have hiM : i < M := by
      rcases Nat.lt_or_ge i M with w | w
      · exact w
      · have := hkb (by omega); omega
    rw [y] at kd
    exact Or.inl ⟨hiM, exp_y h.h h.ci kd, ng_y h.ri hw⟩
  · rw [if_neg y] at hw
    have ne : nI κ ≠ nI k := fun w => y ((nI_eq (by omega) (by omega)).mp w)
    refine Or.inr ⟨_, _, exp_n h.h h.f0 h.ci h.i2 kd ne, ng_n h.ri h.i2 h.g1 hw, ?_, ?_⟩
    · rw [pr]
      exact h.bad (by decide)
    · exact ((SQ.text (by decide)).trans (SQ.text (by decide))).trans (((SQ.ref (by unfold eR; omega)).trans (SQ.ref (by unfold eR; omega))).trans (SQ.ref (by unfold eR; omega)))
/-- a word that may stand there -/
theorem PG.may {n : Nat} {f : Nat → Int32} {M t c cap q sel : Nat} {ma : Bool} {F i z s x : Nat} {cs : CS} {rs : RS} (hF : 10000 ≤ F) (h : PG n f M t c cap q sel ma i z s cs rs) (hx : x < 42) (hx2 : swK x < 39) : (i < M ∧ c_X9_accept F cs t (nI (swK x)) = some (sI cs 328 t (nI (i + 1)), 1) ∧ m_takeWord F rs x = some (setF rs 18 (nI (i + 1)), 1)) ∨ (c_X9_accept F cs t (nI (swK x)) = some (cs, 0) ∧ m_takeWord F rs x = some (rs, 0)) := by
  obtain ⟨p, κ, hk, hk1, hk2, kd, hkl, pr⟩ := h.tok (F := F)
  have hw := iw_ok (F := F) (x := x) hF h.x h.im hk h.g1 h.ri hx hx2
  have him := h.im
  by_cases y : κ = swK x
  · rw [if_pos y] at hw
    have hiM : i < M := by
      rcases Nat.lt_or_ge i M with w | w
      · exact w
      · have := hk2 (by omega); omega
    rw [y] at kd
    exact Or.inl ⟨hiM, acc_y h.h h.ci kd, tw_y h.ri hw⟩
  · rw [if_neg y] at hw
    have ne : nI κ ≠ nI (swK x) := fun w => y ((nI_eq (by omega) (by omega)).mp w)
    exact Or.inr ⟨acc_n h.h h.ci kd ne, tw_n h.ri hw⟩
/-- a sign that may stand there -/
theorem PG.mayS {n : Nat} {f : Nat → Int32} {M t c cap q sel : Nat} {ma : Bool} {F i z s k : Nat} {cs : CS} {rs : RS} (h : PG n f M t c cap q sel ma i z s cs rs) (hk1 : 41 ≤ k) (hk2 : k < 56) : (i < M ∧ c_X9_accept F cs t (nI k) = some (sI cs 328 t (nI (i + 1)), 1) ∧ m_takeSign F rs (st (nI k)) = some (setF rs 18 (nI (i + 1)), 1)) ∨ (c_X9_accept F cs t (nI k) = some (cs, 0) ∧ m_takeSign F rs (st (nI k)) = some (rs, 0)) := by
  obtain ⟨p, κ, hk, hka, hkb, kd, hkl, pr⟩ := h.tok (F := F)
  have hw := ig_ok (F := F) (q := k) h.x h.im hk h.g1 h.ri hk1 hk2
  have him := h.im
  by_cases y : κ = k
  · rw [if_pos y] at hw
    have hiM : i < M := by
      rcases Nat.lt_or_ge i M with w | w
      · exact w
      · have := hkb (by omega); omega
    rw [y] at kd
    exact Or.inl ⟨hiM, acc_y h.h h.ci kd, tg_y h.ri hw⟩
  · rw [if_neg y] at hw
    have ne : nI κ ≠ nI k := fun w => y ((nI_eq (by omega) (by omega)).mp w)
    exact Or.inr ⟨acc_n h.h h.ci kd ne, tg_n h.ri hw⟩

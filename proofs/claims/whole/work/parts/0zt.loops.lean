/-! loops of two-sided acts -/

theorem mfl_part {F u : Nat} {T : TG_expr} {rs : RS} {a v : Int32} (h : FT rs) : m_part_L10 F T (u + 1) rs a v = some (setF rs 74 v, a) := by
  rw [m_part_L10, ig_f h.g, ob_s, if_pos rfl, ig_f h.g, ob_s, if_pos rfl, ig_f h.g, ob_s, if_pos rfl]
theorem mfl_sum {F u : Nat} {T : TG_expr} {rs : RS} {a v : Int32} (h : FT rs) : m_sum_L10 F T (u + 1) rs a v = some (setF rs 74 v, a) := by
  rw [m_sum_L10, ig_f h.g, ob_s, if_pos rfl, ig_f h.g, ob_s, if_pos rfl]

theorem sim_part_L {n : Nat} {f : Nat → Int32} {M t c cap q sel : Nat} {ma : Bool} {F z i s : Nat} {T : TC_X9_readExpr} {T' : TG_expr} {cs : CS} {rs : RS} (hF : 10000 ≤ F) (hT : SE n f M t c cap q sel ma z T.2.2.2.2.2.2.1 T'.2.2.2.2.2.2.1) : ∀ (u x i1 s1 : Nat) (cs1 : CS) (rs1 : RS), M - i1 < u → x < i1 → EG n f M t c cap q sel ma i z s cs rs i1 s1 cs1 rs1 → ∃ cs' rs' a, c_X9_readPart_L19 F T u cs1 t (nI s) (kA cs 353 9 i) (nI x) = some cs' ∧ m_part_L10 F T' u rs1 (nI (s1 - 1)) (kA cs 353 9 i) = some (rs', a) ∧ EP n f M t c cap q sel ma i z s cs rs cs' rs' a
  | 0, _, _, _, _, _, hu, _, _ => by omega
  | u + 1, x, i1, s1, cs1, rs1, hu, hx, he => by
    have hg := he.g
    have hi2 := hg.i2
    have him := hg.im
    have ho := hg.h.o
    obtain ⟨p, κ, hk, hk1, hk2⟩ := hg.wd
    have hkl := hk.kl
    have kd := knd_ok (F := F) hg.h hg.f0 hg.ci hi2 hk
    have hh := her_ok (F := F) hg.h hg.ci hi2
    have cx : ¬ (2000 : Int32) ≤ nI x := nI_ge (b := 2000) (by have := hg.x.mn; have := hg.x.n2; omega) (by decide)
    have s47 := ig_ok (F := F) (q := 47) hg.x him hk hg.g1 hg.ri (by decide) (by decide)
    rw [show st (nI 47) = 42 by decide] at s47
    have s48 := ig_ok (F := F) (q := 48) hg.x him hk hg.g1 hg.ri (by decide) (by decide)
    rw [show st (nI 48) = 47 by decide] at s48
    have s49 := ig_ok (F := F) (q := 49) hg.x him hk hg.g1 hg.ri (by decide) (by decide)
    rw [show st (nI 49) = 37 by decide] at s49
    have go : κ = 47 ∨ κ = 48 ∨ κ = 49 → ∀ kk : Int32, BIN (fun _ => ((nI κ, 0, 2, 0, 0, 0, 0), (kk, 0, 0, 0, 0, 0, 0, 0, 0))) 0 → ∃ cs' rs' a, c_X9_readPart_b53 F T (c_X9_readPart_L19 F T u) cs1 t (nI s) (kA cs 353 9 i) (nI x) = some cs' ∧ m_part_b87 F T' (m_part_L10 F T' u) rs1 (nI (s1 - 1)) (kA cs 353 9 i) (kA cs1 353 9 i1) kk = some (rs', a) ∧ EP n f M t c cap q sel ma i z s cs rs cs' rs' a := fun hκ kk hb => by
      have hiM : i1 < M := by
        rcases Nat.lt_or_ge i1 M with y | y
        · exact y
        · have := hk2 (by omega); omega
      have hn := hg.next hiM
      obtain ⟨cs2, rs2, a2, e1, e2, e3⟩ := hT (i1 + 1) s1 _ _ hn
      rcases e3 with ⟨i2, s2, g, ea, e74⟩ | ⟨pb, fo, fr⟩
      · subst ea
        have k39 : nI κ ≠ 39 := fun y => by have := (nI_eq (b := 39) (by omega) (by decide)).mp y; omega
        have nag : ¬ AGN (fun _ => ((nI κ, 0, 0, 0, 0, 0, 0), (0, 0, 0, 0, 0, 0, 0, 0, 0))) 0 := fun y => by
          have y : nI κ = 32 ∨ nI κ = 33 ∨ nI κ = 34 ∨ nI κ = 35 ∨ nI κ = 61 := y
          rcases y with y | y | y | y | y
          · have := (nI_eq (b := 32) (by omega) (by decide)).mp y; omega
          · have := (nI_eq (b := 33) (by omega) (by decide)).mp y; omega
          · have := (nI_eq (b := 34) (by omega) (by decide)).mp y; omega
          · have := (nI_eq (b := 35) (by omega) (by decide)).mp y; omega
          · have := (nI_eq (b := 61) (by omega) (by decide)).mp y; omega
        have hil := g.il
        rcases EG.bin (F := F) (mt := kA cs1 353 9 i1) he hiM g hb k39 nag with ⟨cs3, rs3, f1, f2, f3⟩ | ⟨cs3, rs3, f1, f2, f3, f4, f5⟩
        · obtain ⟨cs', rs', a, r1, r2, r3⟩ := sim_part_L hF hT u (x + 1) i2 (s2 + 1) cs3 rs3 (by omega) (by omega) f3
          refine ⟨cs', rs', a, ?_, ?_, r3⟩
          · unfold c_X9_readPart_b53
            rw [ckE_ok ho, ob_s, kd, ob_s, ob_s, hh, ob_s, gI_ok ho, ob_s, hg.ci, nI_1, pI_ok ho, ob_s, ckE_ok hn.h.o, ob_s, e1, ob_s, ckE_ok g.g.h.o, ob_s]
            rw [f1, ob_s, nI_1]
            exact r1
          · unfold m_part_b87
            rw [hg.ri, nI_1, e2, ob_s]
            rw [f2, ob_s]
            exact r2
        · obtain ⟨v, rfl⟩ : ∃ v, u = v + 1 := ⟨u - 1, by omega⟩
          refine ⟨cs3, setF rs3 74 (kA cs 353 9 i), 0, ?_, ?_, Or.inr ⟨f3.s74, f4, f5.trans (FR.setF (by unfold eR; omega))⟩⟩
          · unfold c_X9_readPart_b53
            rw [ckE_ok ho, ob_s, kd, ob_s, ob_s, hh, ob_s, gI_ok ho, ob_s, hg.ci, nI_1, pI_ok ho, ob_s, ckE_ok hn.h.o, ob_s, e1, ob_s, ckE_ok g.g.h.o, ob_s]
            rw [f1, ob_s, nI_1]
            exact cf_part_L f3.s
          · unfold m_part_b87
            rw [hg.ri, nI_1, e2, ob_s]
            rw [f2, ob_s]
            exact mfl_part f3.r
      · obtain ⟨v, rfl⟩ : ∃ v, u = v + 1 := ⟨u - 1, by omega⟩
        have w1 : FO (PX t c q) cs1 (sI cs1 328 t (nI (i1 + 1))) := FO.sI (Or.inl ⟨by decide, rfl⟩)
        have g1 : FR eR rs1 (setF rs1 18 (nI (i1 + 1))) := FR.setF (Or.inl (by omega))
        have f3 := pb
        refine ⟨cs2, setF rs2 74 (kA cs 353 9 i), 0, ?_, ?_, Or.inr ⟨pb.s74, (he.fo.trans w1).trans fo, ((he.fr.trans g1).trans fr).trans (FR.setF (by unfold eR; omega))⟩⟩
        · unfold c_X9_readPart_b53
          rw [ckE_ok ho, ob_s, kd, ob_s, ob_s, hh, ob_s, gI_ok ho, ob_s, hg.ci, nI_1, pI_ok ho, ob_s, ckE_ok hn.h.o, ob_s, e1, ob_s, ckE_ok pb.s.h.o, ob_s]
          rw [cpl_f pb.s, ob_s, nI_1]
          exact cf_part_L f3.s
        · unfold m_part_b87
          rw [hg.ri, nI_1, e2, ob_s]
          rw [mk_f pb.r, ob_s]
          exact mfl_part f3.r
    have pr : rs1.2.2.1 15 i1 = kA cs1 353 9 i1 := by rw [hk.pr, hk.pc]
    have nz : ¬ (1 : Int32) = 0 := by decide
    have r01 : (2001 : Nat) < 2147483648 := by decide
    simp only [c_X9_readPart_L19, if_neg cx, ckE_ok ho, kd, m_part_L10, s47, s48, s49, ob_s, c_X9_readPart_b97]
    by_cases y47 : κ = 47
    · have z47 : nI κ = 47 := by rw [y47]; decide
      have sg : rs1.2.2.1 14 i1 = 42 := by rw [hk.sg (by omega) (by omega), y47]; decide
      simp only [if_pos z47, if_pos y47, if_neg nz, if_pos (rfl : (0 : Int32) = 0), m_part_b37, hg.ri, rdI_n hi2 r01, ob_s, sg, pr, if_pos (rfl : (42 : Int32) = 42), if_neg (show ¬ (42 : Int32) = 47 by decide)]
      exact go (Or.inl y47) 14 ⟨rfl, Or.inr (Or.inr (Or.inr (Or.inr (Or.inl ⟨z47, rfl⟩))))⟩
    have z47 : ¬ nI κ = 47 := fun w => y47 ((nI_eq (b := 47) (by omega) (by decide)).mp w)
    by_cases y48 : κ = 48
    · have z48 : nI κ = 48 := by rw [y48]; decide
      have sg : rs1.2.2.1 14 i1 = 47 := by rw [hk.sg (by omega) (by omega), y48]; decide
      simp only [if_pos z48, if_pos y48, if_neg z47, if_neg y47, if_neg nz, if_pos (rfl : (0 : Int32) = 0), m_part_b37, hg.ri, rdI_n hi2 r01, ob_s, sg, pr, if_pos (rfl : (47 : Int32) = 47), if_neg (show ¬ (47 : Int32) = 42 by decide)]
      exact go (Or.inr (Or.inl y48)) 15 ⟨rfl, Or.inr (Or.inr (Or.inr (Or.inr (Or.inr (Or.inl ⟨z48, rfl⟩)))))⟩
    have z48 : ¬ nI κ = 48 := fun w => y48 ((nI_eq (b := 48) (by omega) (by decide)).mp w)
    by_cases y49 : κ = 49
    · have z49 : nI κ = 49 := by rw [y49]; decide
      have sg : rs1.2.2.1 14 i1 = 37 := by rw [hk.sg (by omega) (by omega), y49]; decide
      simp only [if_pos z49, if_pos y49, if_neg z47, if_neg y47, if_neg z48, if_neg y48, if_neg nz, if_pos (rfl : (0 : Int32) = 0), m_part_b37, hg.ri, rdI_n hi2 r01, ob_s, sg, pr, if_pos (rfl : (37 : Int32) = 37), if_neg (show ¬ (37 : Int32) = 42 by decide), if_neg (show ¬ (37 : Int32) = 47 by decide)]
      exact go (Or.inr (Or.inr y49)) 16 ⟨rfl, Or.inr (Or.inr (Or.inr (Or.inr (Or.inr (Or.inr (Or.inl ⟨z49, rfl⟩))))))⟩
    have z49 : ¬ nI κ = 49 := fun w => y49 ((nI_eq (b := 49) (by omega) (by decide)).mp w)
    simp only [if_neg z47, if_neg y47, if_neg z48, if_neg y48, if_neg z49, if_neg y49, if_pos (rfl : (0 : Int32) = 0)]
    exact ⟨cs1, setF rs1 74 (kA cs 353 9 i), nI (s1 - 1), rfl, rfl, Or.inl ⟨i1, s1, he.s74, rfl, rfl⟩⟩
theorem sim_sum_L {n : Nat} {f : Nat → Int32} {M t c cap q sel : Nat} {ma : Bool} {F z i s : Nat} {T : TC_X9_readExpr} {T' : TG_expr} {cs : CS} {rs : RS} (hF : 10000 ≤ F) (hT : SE n f M t c cap q sel ma z T.2.2.2.2.2.1 T'.2.2.2.2.2.1) : ∀ (u x i1 s1 : Nat) (cs1 : CS) (rs1 : RS), M - i1 < u → x < i1 → EG n f M t c cap q sel ma i z s cs rs i1 s1 cs1 rs1 → ∃ cs' rs' a, c_X9_readSum_L19 F T u cs1 t (nI s) (kA cs 353 9 i) (nI x) = some cs' ∧ m_sum_L10 F T' u rs1 (nI (s1 - 1)) (kA cs 353 9 i) = some (rs', a) ∧ EP n f M t c cap q sel ma i z s cs rs cs' rs' a
  | 0, _, _, _, _, _, hu, _, _ => by omega
  | u + 1, x, i1, s1, cs1, rs1, hu, hx, he => by
    have hg := he.g
    have hi2 := hg.i2
    have him := hg.im
    have ho := hg.h.o
    obtain ⟨p, κ, hk, hk1, hk2⟩ := hg.wd
    have hkl := hk.kl
    have kd := knd_ok (F := F) hg.h hg.f0 hg.ci hi2 hk
    have hh := her_ok (F := F) hg.h hg.ci hi2
    have cx : ¬ (2000 : Int32) ≤ nI x := nI_ge (b := 2000) (by have := hg.x.mn; have := hg.x.n2; omega) (by decide)
    have s45 := ig_ok (F := F) (q := 45) hg.x him hk hg.g1 hg.ri (by decide) (by decide)
    rw [show st (nI 45) = 43 by decide] at s45
    have s46 := ig_ok (F := F) (q := 46) hg.x him hk hg.g1 hg.ri (by decide) (by decide)
    rw [show st (nI 46) = 45 by decide] at s46
    have go : κ = 45 ∨ κ = 46 → ∀ kk : Int32, BIN (fun _ => ((nI κ, 0, 2, 0, 0, 0, 0), (kk, 0, 0, 0, 0, 0, 0, 0, 0))) 0 → ∃ cs' rs' a, c_X9_readSum_b44 F T (c_X9_readSum_L19 F T u) cs1 t (nI s) (kA cs 353 9 i) (nI x) = some cs' ∧ m_sum_b59 F T' (m_sum_L10 F T' u) rs1 (nI (s1 - 1)) (kA cs 353 9 i) (kA cs1 353 9 i1) kk = some (rs', a) ∧ EP n f M t c cap q sel ma i z s cs rs cs' rs' a := fun hκ kk hb => by
      have hiM : i1 < M := by
        rcases Nat.lt_or_ge i1 M with y | y
        · exact y
        · have := hk2 (by omega); omega
      have hn := hg.next hiM
      obtain ⟨cs2, rs2, a2, e1, e2, e3⟩ := hT (i1 + 1) s1 _ _ hn
      rcases e3 with ⟨i2, s2, g, ea, e74⟩ | ⟨pb, fo, fr⟩
      · subst ea
        have k39 : nI κ ≠ 39 := fun y => by have := (nI_eq (b := 39) (by omega) (by decide)).mp y; omega
        have nag : ¬ AGN (fun _ => ((nI κ, 0, 0, 0, 0, 0, 0), (0, 0, 0, 0, 0, 0, 0, 0, 0))) 0 := fun y => by
          have y : nI κ = 32 ∨ nI κ = 33 ∨ nI κ = 34 ∨ nI κ = 35 ∨ nI κ = 61 := y
          rcases y with y | y | y | y | y
          · have := (nI_eq (b := 32) (by omega) (by decide)).mp y; omega
          · have := (nI_eq (b := 33) (by omega) (by decide)).mp y; omega
          · have := (nI_eq (b := 34) (by omega) (by decide)).mp y; omega
          · have := (nI_eq (b := 35) (by omega) (by decide)).mp y; omega
          · have := (nI_eq (b := 61) (by omega) (by decide)).mp y; omega
        have hil := g.il
        rcases EG.bin (F := F) (mt := kA cs1 353 9 i1) he hiM g hb k39 nag with ⟨cs3, rs3, f1, f2, f3⟩ | ⟨cs3, rs3, f1, f2, f3, f4, f5⟩
        · obtain ⟨cs', rs', a, r1, r2, r3⟩ := sim_sum_L hF hT u (x + 1) i2 (s2 + 1) cs3 rs3 (by omega) (by omega) f3
          refine ⟨cs', rs', a, ?_, ?_, r3⟩
          · unfold c_X9_readSum_b44
            rw [ckE_ok ho, ob_s, kd, ob_s, ob_s, hh, ob_s, gI_ok ho, ob_s, hg.ci, nI_1, pI_ok ho, ob_s, ckE_ok hn.h.o, ob_s, e1, ob_s, ckE_ok g.g.h.o, ob_s]
            rw [f1, ob_s, nI_1]
            exact r1
          · unfold m_sum_b59
            rw [hg.ri, nI_1, e2, ob_s]
            rw [f2, ob_s]
            exact r2
        · obtain ⟨v, rfl⟩ : ∃ v, u = v + 1 := ⟨u - 1, by omega⟩
          refine ⟨cs3, setF rs3 74 (kA cs 353 9 i), 0, ?_, ?_, Or.inr ⟨f3.s74, f4, f5.trans (FR.setF (by unfold eR; omega))⟩⟩
          · unfold c_X9_readSum_b44
            rw [ckE_ok ho, ob_s, kd, ob_s, ob_s, hh, ob_s, gI_ok ho, ob_s, hg.ci, nI_1, pI_ok ho, ob_s, ckE_ok hn.h.o, ob_s, e1, ob_s, ckE_ok g.g.h.o, ob_s]
            rw [f1, ob_s, nI_1]
            exact cf_sum_L f3.s
          · unfold m_sum_b59
            rw [hg.ri, nI_1, e2, ob_s]
            rw [f2, ob_s]
            exact mfl_sum f3.r
      · obtain ⟨v, rfl⟩ : ∃ v, u = v + 1 := ⟨u - 1, by omega⟩
        have w1 : FO (PX t c q) cs1 (sI cs1 328 t (nI (i1 + 1))) := FO.sI (Or.inl ⟨by decide, rfl⟩)
        have g1 : FR eR rs1 (setF rs1 18 (nI (i1 + 1))) := FR.setF (Or.inl (by omega))
        have f3 := pb
        refine ⟨cs2, setF rs2 74 (kA cs 353 9 i), 0, ?_, ?_, Or.inr ⟨pb.s74, (he.fo.trans w1).trans fo, ((he.fr.trans g1).trans fr).trans (FR.setF (by unfold eR; omega))⟩⟩
        · unfold c_X9_readSum_b44
          rw [ckE_ok ho, ob_s, kd, ob_s, ob_s, hh, ob_s, gI_ok ho, ob_s, hg.ci, nI_1, pI_ok ho, ob_s, ckE_ok hn.h.o, ob_s, e1, ob_s, ckE_ok pb.s.h.o, ob_s]
          rw [cpl_f pb.s, ob_s, nI_1]
          exact cf_sum_L f3.s
        · unfold m_sum_b59
          rw [hg.ri, nI_1, e2, ob_s]
          rw [mk_f pb.r, ob_s]
          exact mfl_sum f3.r
    have pr : rs1.2.2.1 15 i1 = kA cs1 353 9 i1 := by rw [hk.pr, hk.pc]
    have nz : ¬ (1 : Int32) = 0 := by decide
    have r01 : (2001 : Nat) < 2147483648 := by decide
    simp only [c_X9_readSum_L19, if_neg cx, ckE_ok ho, kd, m_sum_L10, s45, s46, ob_s, c_X9_readSum_b88]
    by_cases y45 : κ = 45
    · have z45 : nI κ = 45 := by rw [y45]; decide
      have sg : rs1.2.2.1 14 i1 = 43 := by rw [hk.sg (by omega) (by omega), y45]; decide
      simp only [if_pos z45, if_pos y45, if_neg nz, if_pos (rfl : (0 : Int32) = 0), m_sum_b28, hg.ri, rdI_n hi2 r01, ob_s, sg, pr, if_pos (rfl : (43 : Int32) = 43)]
      exact go (Or.inl y45) 12 ⟨rfl, Or.inr (Or.inr (Or.inl ⟨z45, rfl⟩))⟩
    have z45 : ¬ nI κ = 45 := fun w => y45 ((nI_eq (b := 45) (by omega) (by decide)).mp w)
    by_cases y46 : κ = 46
    · have z46 : nI κ = 46 := by rw [y46]; decide
      have sg : rs1.2.2.1 14 i1 = 45 := by rw [hk.sg (by omega) (by omega), y46]; decide
      simp only [if_pos z46, if_pos y46, if_neg z45, if_neg y45, if_neg nz, if_pos (rfl : (0 : Int32) = 0), m_sum_b28, hg.ri, rdI_n hi2 r01, ob_s, sg, pr, if_pos (rfl : (45 : Int32) = 45), if_neg (show ¬ (45 : Int32) = 43 by decide)]
      exact go (Or.inr y46) 13 ⟨rfl, Or.inr (Or.inr (Or.inr (Or.inl ⟨z46, rfl⟩)))⟩
    have z46 : ¬ nI κ = 46 := fun w => y46 ((nI_eq (b := 46) (by omega) (by decide)).mp w)
    simp only [if_neg z45, if_neg y45, if_neg z46, if_neg y46, if_pos (rfl : (0 : Int32) = 0)]
    exact ⟨cs1, setF rs1 74 (kA cs 353 9 i), nI (s1 - 1), rfl, rfl, Or.inl ⟨i1, s1, he.s74, rfl, rfl⟩⟩
theorem sim_part {n : Nat} {f : Nat → Int32} {M t c cap q sel : Nat} {ma : Bool} {F z : Nat} {T : TC_X9_readExpr} {T' : TG_expr} (hF : 10000 ≤ F) (hT : SE n f M t c cap q sel ma z T.2.2.2.2.2.2.1 T'.2.2.2.2.2.2.1) : SE n f M t c cap q sel ma z (cb_X9_readPart F T) (b_part F T') := by
  intro i s cs rs hg
  have ho := hg.h.o
  have hh := her_ok (F := F) hg.h hg.ci hg.i2
  obtain ⟨u, hu⟩ : ∃ u, F = u + 1 := ⟨F - 1, by omega⟩
  obtain ⟨cs1, rs1, a1, e1, e2, e3⟩ := hT i s cs rs hg
  unfold cb_X9_readPart b_part
  rw [gR_ok ho, ob_s, hg.h.rc, ob_s, gI_ok hg.h.oc, ob_s, hg.cn, ckE_ok ho, ob_s, hh, ob_s, ob_s, e1, ob_s, e2, ob_s]
  rcases e3 with ⟨i1, s1, g, ea, e74⟩ | ⟨pb, fo, fr⟩
  · subst ea
    rw [show (0 : Int32) = nI 0 from rfl, e74]
    have := g.il
    have := g.g.im
    have := g.g.x.mn
    have := g.g.x.n2
    exact sim_part_L hF hT F 0 i1 s1 cs1 rs1 (by omega) (by omega) g
  · refine ⟨cs1, rs1, a1, ?_, ?_, Or.inr ⟨pb, fo, fr⟩⟩
    · rw [hu]; exact cf_part_L pb.s
    · rw [hu]; exact mf_part_L pb.r

theorem sim_sum {n : Nat} {f : Nat → Int32} {M t c cap q sel : Nat} {ma : Bool} {F z : Nat} {T : TC_X9_readExpr} {T' : TG_expr} (hF : 10000 ≤ F) (hT : SE n f M t c cap q sel ma z T.2.2.2.2.2.1 T'.2.2.2.2.2.1) : SE n f M t c cap q sel ma z (cb_X9_readSum F T) (b_sum F T') := by
  intro i s cs rs hg
  have ho := hg.h.o
  have hh := her_ok (F := F) hg.h hg.ci hg.i2
  obtain ⟨u, hu⟩ : ∃ u, F = u + 1 := ⟨F - 1, by omega⟩
  obtain ⟨cs1, rs1, a1, e1, e2, e3⟩ := hT i s cs rs hg
  unfold cb_X9_readSum b_sum
  rw [gR_ok ho, ob_s, hg.h.rc, ob_s, gI_ok hg.h.oc, ob_s, hg.cn, ckE_ok ho, ob_s, hh, ob_s, ob_s, e1, ob_s, e2, ob_s]
  rcases e3 with ⟨i1, s1, g, ea, e74⟩ | ⟨pb, fo, fr⟩
  · subst ea
    rw [show (0 : Int32) = nI 0 from rfl, e74]
    have := g.il
    have := g.g.im
    have := g.g.x.mn
    have := g.g.x.n2
    exact sim_sum_L hF hT F 0 i1 s1 cs1 rs1 (by omega) (by omega) g
  · refine ⟨cs1, rs1, a1, ?_, ?_, Or.inr ⟨pb, fo, fr⟩⟩
    · rw [hu]; exact cf_sum_L pb.s
    · rw [hu]; exact mf_sum_L pb.r

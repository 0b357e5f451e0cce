/-! and, or -/
/-- the same for readExpr, which tells the node -/
def SX (n : Nat) (f : Nat → Int32) (M t c cap q sel : Nat) (ma : Bool) (z : Nat) (P : CS → Nat → Option (CS × Int32)) (P' : RS → Option (RS × Int32)) : Prop := ∀ (i s : Nat) (cs : CS) (rs : RS), PG n f M t c cap q sel ma i z s cs rs → ∃ cs' rs' a b, P cs t = some (cs', b) ∧ P' rs = some (rs', a) ∧ EP n f M t c cap q sel ma i z s cs rs cs' rs' a ∧ (kI cs' 320 t = 0 → b = a)
theorem mfl_andExpr {F u : Nat} {T : TG_expr} {rs : RS} {a v : Int32} (h : FT rs) : m_andExpr_L10 F T (u + 1) rs a v = some (setF rs 74 v, a) := by
  rw [m_andExpr_L10, if_pos h.g]
  rfl
theorem sim_conj_L {n : Nat} {f : Nat → Int32} {M t c cap q sel : Nat} {ma : Bool} {F z i s : Nat} {T : TC_X9_readExpr} {T' : TG_expr} {cs : CS} {rs : RS} (hF : 10000 ≤ F) (hT : SE n f M t c cap q sel ma z T.2.2.1 T'.2.2.1) : ∀ (u x i1 s1 : Nat) (cs1 : CS) (rs1 : RS), M - i1 < u → x < i1 → EG n f M t c cap q sel ma i z s cs rs i1 s1 cs1 rs1 → ∃ cs' rs' a, c_X9_readConjunction_L19 F T u cs1 t (nI s) (kA cs 353 9 i) (nI x) = some cs' ∧ m_andExpr_L10 F T' u rs1 (nI (s1 - 1)) (kA cs 353 9 i) = some (rs', a) ∧ EP n f M t c cap q sel ma i z s cs rs cs' rs' a
  | 0, _, _, _, _, _, hu, _, _ => by omega
  | u + 1, x, i1, s1, cs1, rs1, hu, hx, he => by
    have hg := he.g
    have hi2 := hg.i2
    have him := hg.im
    have ho := hg.h.o
    obtain ⟨p, κ, hk, hk1, hk2⟩ := hg.wd
    have hkl := hk.kl
    have kd := knd_ok (F := F) hg.h hg.f0 hg.ci hi2 hk
    have hh := her_ok (F := F) hg.h hg.ci hi2
    have cx : ¬ (2000 : Int32) ≤ nI x := nI_ge (b := 2000) (by have := hg.x.mn; have := hg.x.n2; omega) (by decide)
    have hw := iw_ok (F := F) (x := 23) hF hg.x him hk hg.g1 hg.ri (by decide) (by decide)
    rw [show swK 23 = 28 by decide] at hw
    have pr : rs1.2.2.1 15 i1 = kA cs1 353 9 i1 := by rw [hk.pr, hk.pc]
    have nz : ¬ (1 : Int32) = 0 := by decide
    have ng : ¬ rs1.1 21 = 0 := by rw [hg.g1]; decide
    have r01 : (2001 : Nat) < 2147483648 := by decide
    by_cases yk : κ = 28
    · have zk : nI κ = 28 := by rw [yk]; decide
      have hiM : i1 < M := by
        rcases Nat.lt_or_ge i1 M with y | y
        · exact y
        · have := hk2 (by omega); omega
      have hn := hg.next hiM
      obtain ⟨cs2, rs2, a2, e1, e2, e3⟩ := hT (i1 + 1) s1 _ _ hn
      rcases e3 with ⟨i2, s2, g, ea, e74⟩ | ⟨pb, fo, fr⟩
      · subst ea
        have hil := g.il
        rcases EG.bin (F := F) (k := 28) (k' := 6) (mt := kA cs1 353 9 i1) he hiM g ⟨rfl, Or.inl ⟨rfl, rfl⟩⟩ (by decide) (by unfold AGN vk; decide) with ⟨cs3, rs3, f1, f2, f3⟩ | ⟨cs3, rs3, f1, f2, f3, f4, f5⟩
        · obtain ⟨cs', rs', a, r1, r2, r3⟩ := sim_conj_L hF hT u (x + 1) i2 (s2 + 1) cs3 rs3 (by omega) (by omega) f3
          refine ⟨cs', rs', a, ?_, ?_, r3⟩
          · rw [c_X9_readConjunction_L19, if_neg cx, ckE_ok ho, ob_s, kd, ob_s, if_pos zk, ob_s, hh, ob_s, gI_ok ho, ob_s, hg.ci, nI_1, pI_ok ho, ob_s, ckE_ok hn.h.o, ob_s, e1, ob_s, ckE_ok g.g.h.o, ob_s, f1, ob_s, nI_1]
            exact r1
          · rw [m_andExpr_L10, if_neg ng, hw, ob_s, if_pos yk, if_neg nz, hg.ri, rdI_n hi2 r01, ob_s, nI_1, e2, ob_s, pr, f2, ob_s]
            exact r2
        · obtain ⟨v, rfl⟩ : ∃ v, u = v + 1 := ⟨u - 1, by omega⟩
          refine ⟨cs3, setF rs3 74 (kA cs 353 9 i), 0, ?_, ?_, Or.inr ⟨f3.s74, f4, f5.trans (FR.setF (by unfold eR; omega))⟩⟩
          · rw [c_X9_readConjunction_L19, if_neg cx, ckE_ok ho, ob_s, kd, ob_s, if_pos zk, ob_s, hh, ob_s, gI_ok ho, ob_s, hg.ci, nI_1, pI_ok ho, ob_s, ckE_ok hn.h.o, ob_s, e1, ob_s, ckE_ok g.g.h.o, ob_s, f1, ob_s, nI_1]
            exact cf_conj_L f3.s
          · rw [m_andExpr_L10, if_neg ng, hw, ob_s, if_pos yk, if_neg nz, hg.ri, rdI_n hi2 r01, ob_s, nI_1, e2, ob_s, pr, f2, ob_s]
            exact mfl_andExpr f3.r
      · obtain ⟨v, rfl⟩ : ∃ v, u = v + 1 := ⟨u - 1, by omega⟩
        have w1 : FO (PX t c q) cs1 (sI cs1 328 t (nI (i1 + 1))) := FO.sI (Or.inl ⟨by decide, rfl⟩)
        have g1 : FR eR rs1 (setF rs1 18 (nI (i1 + 1))) := FR.setF (Or.inl (by omega))
        refine ⟨cs2, setF rs2 74 (kA cs 353 9 i), 0, ?_, ?_, Or.inr ⟨pb.s74, (he.fo.trans w1).trans fo, ((he.fr.trans g1).trans fr).trans (FR.setF (by unfold eR; omega))⟩⟩
        · rw [c_X9_readConjunction_L19, if_neg cx, ckE_ok ho, ob_s, kd, ob_s, if_pos zk, ob_s, hh, ob_s, gI_ok ho, ob_s, hg.ci, nI_1, pI_ok ho, ob_s, ckE_ok hn.h.o, ob_s, e1, ob_s, ckE_ok pb.s.h.o, ob_s, cpl_f pb.s, ob_s, nI_1]
          exact cf_conj_L pb.s
        · rw [m_andExpr_L10, if_neg ng, hw, ob_s, if_pos yk, if_neg nz, hg.ri, rdI_n hi2 r01, ob_s, nI_1, e2, ob_s, mk_f pb.r, ob_s]
          exact mfl_andExpr pb.r
    · have zk : ¬ nI κ = 28 := fun w => yk ((nI_eq (b := 28) (by omega) (by decide)).mp w)
      refine ⟨cs1, setF rs1 74 (kA cs 353 9 i), nI (s1 - 1), ?_, ?_, Or.inl ⟨i1, s1, he.s74, rfl, rfl⟩⟩
      · rw [c_X9_readConjunction_L19, if_neg cx, ckE_ok ho, ob_s, kd, ob_s, if_neg zk]
        rfl
      · rw [m_andExpr_L10, if_neg ng, hw, ob_s, if_neg yk, if_pos rfl]
        rfl
theorem sim_conj {n : Nat} {f : Nat → Int32} {M t c cap q sel : Nat} {ma : Bool} {F z : Nat} {T : TC_X9_readExpr} {T' : TG_expr} (hF : 10000 ≤ F) (hT : SE n f M t c cap q sel ma z T.2.2.1 T'.2.2.1) : SE n f M t c cap q sel ma z (cb_X9_readConjunction F T) (b_andExpr F T') := by
  intro i s cs rs hg
  have ho := hg.h.o
  have hh := her_ok (F := F) hg.h hg.ci hg.i2
  obtain ⟨u, hu⟩ : ∃ u, F = u + 1 := ⟨F - 1, by omega⟩
  obtain ⟨cs1, rs1, a1, e1, e2, e3⟩ := hT i s cs rs hg
  unfold cb_X9_readConjunction b_andExpr
  rw [gR_ok ho, ob_s, hg.h.rc, ob_s, gI_ok hg.h.oc, ob_s, hg.cn, ckE_ok ho, ob_s, hh, ob_s, ob_s, e1, ob_s, e2, ob_s]
  rcases e3 with ⟨i1, s1, g, ea, e74⟩ | ⟨pb, fo, fr⟩
  · subst ea
    rw [show (0 : Int32) = nI 0 from rfl, e74]
    have := g.il
    have := g.g.im
    have := g.g.x.mn
    have := g.g.x.n2
    exact sim_conj_L hF hT F 0 i1 s1 cs1 rs1 (by omega) (by omega) g
  · refine ⟨cs1, setF rs1 74 (rs1.1 74), a1, ?_, ?_, Or.inr ⟨pb.s74, fo, fr.trans (FR.setF (by unfold eR; omega))⟩⟩
    · rw [hu]; exact cf_conj_L pb.s
    · rw [hu]; exact mfl_andExpr pb.r
theorem mfl_expr {F u : Nat} {T : TG_expr} {rs : RS} {a v : Int32} (h : FT rs) : m_expr_L10 F T (u + 1) rs a v = some (setF rs 74 v, a) := by
  rw [m_expr_L10, if_pos h.g]
  rfl
theorem sim_expr_L {n : Nat} {f : Nat → Int32} {M t c cap q sel : Nat} {ma : Bool} {F z i s : Nat} {T : TC_X9_readExpr} {T' : TG_expr} {cs : CS} {rs : RS} (hF : 10000 ≤ F) (hT : SE n f M t c cap q sel ma z T.2.1 T'.2.1) : ∀ (u x i1 s1 : Nat) (cs1 : CS) (rs1 : RS), M - i1 < u → x < i1 → EG n f M t c cap q sel ma i z s cs rs i1 s1 cs1 rs1 → ∃ cs' rs' a b, c_X9_readExpr_L19 F T u cs1 t (nI s) (kA cs 353 9 i) (nI x) = some (cs', b) ∧ m_expr_L10 F T' u rs1 (nI (s1 - 1)) (kA cs 353 9 i) = some (rs', a) ∧ EP n f M t c cap q sel ma i z s cs rs cs' rs' a ∧ (kI cs' 320 t = 0 → b = a)
  | 0, _, _, _, _, _, hu, _, _ => by omega
  | u + 1, x, i1, s1, cs1, rs1, hu, hx, he => by
    have hg := he.g
    have hi2 := hg.i2
    have him := hg.im
    have ho := hg.h.o
    obtain ⟨p, κ, hk, hk1, hk2⟩ := hg.wd
    have hkl := hk.kl
    have kd := knd_ok (F := F) hg.h hg.f0 hg.ci hi2 hk
    have hh := her_ok (F := F) hg.h hg.ci hi2
    have cx : ¬ (2000 : Int32) ≤ nI x := nI_ge (b := 2000) (by have := hg.x.mn; have := hg.x.n2; omega) (by decide)
    have hw := iw_ok (F := F) (x := 24) hF hg.x him hk hg.g1 hg.ri (by decide) (by decide)
    rw [show swK 24 = 29 by decide] at hw
    have pr : rs1.2.2.1 15 i1 = kA cs1 353 9 i1 := by rw [hk.pr, hk.pc]
    have nz : ¬ (1 : Int32) = 0 := by decide
    have ng : ¬ rs1.1 21 = 0 := by rw [hg.g1]; decide
    have r01 : (2001 : Nat) < 2147483648 := by decide
    by_cases yk : κ = 29
    · have zk : nI κ = 29 := by rw [yk]; decide
      have hiM : i1 < M := by
        rcases Nat.lt_or_ge i1 M with y | y
        · exact y
        · have := hk2 (by omega); omega
      have hn := hg.next hiM
      obtain ⟨cs2, rs2, a2, e1, e2, e3⟩ := hT (i1 + 1) s1 _ _ hn
      rcases e3 with ⟨i2, s2, g, ea, e74⟩ | ⟨pb, fo, fr⟩
      · subst ea
        have hil := g.il
        rcases EG.bin (F := F) (k := 29) (k' := 7) (mt := kA cs1 353 9 i1) he hiM g ⟨rfl, Or.inr (Or.inl ⟨rfl, rfl⟩)⟩ (by decide) (by unfold AGN vk; decide) with ⟨cs3, rs3, f1, f2, f3⟩ | ⟨cs3, rs3, f1, f2, f3, f4, f5⟩
        · obtain ⟨cs', rs', a, b, r1, r2, r3⟩ := sim_expr_L hF hT u (x + 1) i2 (s2 + 1) cs3 rs3 (by omega) (by omega) f3
          refine ⟨cs', rs', a, b, ?_, ?_, r3⟩
          · rw [c_X9_readExpr_L19, if_neg cx, ckE_ok ho, ob_s, kd, ob_s, if_pos zk, ob_s, hh, ob_s, gI_ok ho, ob_s, hg.ci, nI_1, pI_ok ho, ob_s, ckE_ok hn.h.o, ob_s, e1, ob_s, ckE_ok g.g.h.o, ob_s, f1, ob_s, nI_1]
            exact r1
          · rw [m_expr_L10, if_neg ng, hw, ob_s, if_pos yk, if_neg nz, hg.ri, rdI_n hi2 r01, ob_s, nI_1, e2, ob_s, pr, f2, ob_s]
            exact r2
        · obtain ⟨v, rfl⟩ : ∃ v, u = v + 1 := ⟨u - 1, by omega⟩
          refine ⟨cs3, setF rs3 74 (kA cs 353 9 i), 0, kI cs3 64 c - 1, ?_, ?_, Or.inr ⟨f3.s74, f4, f5.trans (FR.setF (by unfold eR; omega))⟩, fun y => absurd y f3.s.f⟩
          · rw [c_X9_readExpr_L19, if_neg cx, ckE_ok ho, ob_s, kd, ob_s, if_pos zk, ob_s, hh, ob_s, gI_ok ho, ob_s, hg.ci, nI_1, pI_ok ho, ob_s, ckE_ok hn.h.o, ob_s, e1, ob_s, ckE_ok g.g.h.o, ob_s, f1, ob_s, nI_1]
            exact cf_expr_L f3.s
          · rw [m_expr_L10, if_neg ng, hw, ob_s, if_pos yk, if_neg nz, hg.ri, rdI_n hi2 r01, ob_s, nI_1, e2, ob_s, pr, f2, ob_s]
            exact mfl_expr f3.r
      · obtain ⟨v, rfl⟩ : ∃ v, u = v + 1 := ⟨u - 1, by omega⟩
        have w1 : FO (PX t c q) cs1 (sI cs1 328 t (nI (i1 + 1))) := FO.sI (Or.inl ⟨by decide, rfl⟩)
        have g1 : FR eR rs1 (setF rs1 18 (nI (i1 + 1))) := FR.setF (Or.inl (by omega))
        refine ⟨cs2, setF rs2 74 (kA cs 353 9 i), 0, kI cs2 64 c - 1, ?_, ?_, Or.inr ⟨pb.s74, (he.fo.trans w1).trans fo, ((he.fr.trans g1).trans fr).trans (FR.setF (by unfold eR; omega))⟩, fun y => absurd y pb.s.f⟩
        · rw [c_X9_readExpr_L19, if_neg cx, ckE_ok ho, ob_s, kd, ob_s, if_pos zk, ob_s, hh, ob_s, gI_ok ho, ob_s, hg.ci, nI_1, pI_ok ho, ob_s, ckE_ok hn.h.o, ob_s, e1, ob_s, ckE_ok pb.s.h.o, ob_s, cpl_f pb.s, ob_s, nI_1]
          exact cf_expr_L pb.s
        · rw [m_expr_L10, if_neg ng, hw, ob_s, if_pos yk, if_neg nz, hg.ri, rdI_n hi2 r01, ob_s, nI_1, e2, ob_s, mk_f pb.r, ob_s]
          exact mfl_expr pb.r
    · have zk : ¬ nI κ = 29 := fun w => yk ((nI_eq (b := 29) (by omega) (by decide)).mp w)
      refine ⟨cs1, setF rs1 74 (kA cs 353 9 i), nI (s1 - 1), nI (s1 - 1), ?_, ?_, Or.inl ⟨i1, s1, he.s74, rfl, rfl⟩, fun _ => rfl⟩
      · rw [c_X9_readExpr_L19, if_neg cx, ckE_ok ho, ob_s, kd, ob_s, if_neg zk]
        unfold c_X9_readExpr_b73
        have := he.sl
        rw [gR_ok ho, ob_s, hg.h.rc, ob_s, gI_ok hg.h.oc, ob_s, hg.cn, show s1 = (s1 - 1) + 1 by omega, nI_pred]
        rfl
      · rw [m_expr_L10, if_neg ng, hw, ob_s, if_neg yk, if_pos rfl]
        rfl
theorem sim_expr {n : Nat} {f : Nat → Int32} {M t c cap q sel : Nat} {ma : Bool} {F z : Nat} {T : TC_X9_readExpr} {T' : TG_expr} (hF : 10000 ≤ F) (hT : SE n f M t c cap q sel ma z T.2.1 T'.2.1) : SX n f M t c cap q sel ma z (cb_X9_readExpr F T) (b_expr F T') := by
  intro i s cs rs hg
  have ho := hg.h.o
  have hh := her_ok (F := F) hg.h hg.ci hg.i2
  obtain ⟨u, hu⟩ : ∃ u, F = u + 1 := ⟨F - 1, by omega⟩
  obtain ⟨cs1, rs1, a1, e1, e2, e3⟩ := hT i s cs rs hg
  unfold cb_X9_readExpr b_expr
  rw [gR_ok ho, ob_s, hg.h.rc, ob_s, gI_ok hg.h.oc, ob_s, hg.cn, ckE_ok ho, ob_s, hh, ob_s, ob_s, e1, ob_s, e2, ob_s]
  rcases e3 with ⟨i1, s1, g, ea, e74⟩ | ⟨pb, fo, fr⟩
  · subst ea
    rw [show (0 : Int32) = nI 0 from rfl, e74]
    have := g.il
    have := g.g.im
    have := g.g.x.mn
    have := g.g.x.n2
    exact sim_expr_L hF hT F 0 i1 s1 cs1 rs1 (by omega) (by omega) g
  · refine ⟨cs1, setF rs1 74 (rs1.1 74), a1, kI cs1 64 c - 1, ?_, ?_, Or.inr ⟨pb.s74, fo, fr.trans (FR.setF (by unfold eR; omega))⟩, fun y => absurd y pb.s.f⟩
    · rw [hu]; exact cf_expr_L pb.s
    · rw [hu]; exact mfl_expr pb.r

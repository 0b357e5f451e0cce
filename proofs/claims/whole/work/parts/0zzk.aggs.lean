/-! an aggregate of both -/
theorem PB.ra {t c : Nat} {cs : CS} {rs rs' : RS} (h : PB t c cs rs) (e : rs'.1 = rs.1) : PB t c cs rs' := by
  obtain ⟨i, j1, j2⟩ := h.r.i
  exact ⟨h.s, ⟨by rw [e]; exact h.r.g, i, by rw [e]; exact j1, j2⟩, by rw [e]; exact h.e1, by rw [e]; exact h.e2⟩
theorem EP.fo {n : Nat} {f : Nat → Int32} {M t c cap q sel : Nat} {ma : Bool} {i z s : Nat} {cs cs' : CS} {rs rs' : RS} {a : Int32} (h : EP n f M t c cap q sel ma i z s cs rs cs' rs' a) : FO (PX t c q) cs cs' := by
  rcases h with ⟨i', s', g, -, -⟩ | ⟨-, fo, -⟩
  · exact g.fo
  · exact fo
theorem b113_0 {F t q : Nat} {T : TC_X9_readExpr} {cs : CS} {κ s u : Int32} (h : (10, t) ∈ kE cs) : c_X9_readAggregate_b113 F T cs t κ s u q 0 = kcl F T t q s u κ 1 (sI cs 331 t 1) := by
  have z0 : (0 : Int32) = 0 := rfl
  unfold c_X9_readAggregate_b113 c_X9_readAggregate_b146 kcl
  rw [pI_ok h, ob_s]
  simp only [if_pos z0, if_true]
theorem b113_1 {F t q : Nat} {T : TC_X9_readExpr} {cs : CS} {κ s u : Int32} (h : (10, t) ∈ kE cs) : c_X9_readAggregate_b113 F T cs t κ s u q 1 = kcl F T t q s u 61 0 (sI cs 331 t 1) := by
  have z0 : ¬ (1 : Int32) = 0 := by decide
  unfold c_X9_readAggregate_b113 c_X9_readAggregate_b146 kcl
  rw [pI_ok h, ob_s]
  simp only [if_neg z0]
theorem b54_ok {F sel : Nat} {T' : TG_expr} {rs : RS} {u : Int32} (h : rs.1 71 = nI sel) (hs : sel < 60) : ∃ r2, m_aggregate_b54 F T' rs u = m_aggregate_b77 F T' r2 u ∧ r2.1 = rs.1 ∧ r2.2.2.1 42 = rs.2.2.1 42 ∧ (rs.2.2.1 43 sel = -1 → r2.2.2.1 43 sel = u) ∧ (rs.2.2.1 43 sel ≠ -1 → r2.2.2.1 43 sel = rs.2.2.1 43 sel) ∧ FR eR rs r2 ∧ (∀ c cs, VW c cs r2 = VW c cs rs) ∧ ∀ j, j ≠ sel → r2.2.2.1 43 j = rs.2.2.1 43 j := by
  unfold m_aggregate_b54
  rw [h, rdI_n hs (by decide), ob_s]
  by_cases y : rs.2.2.1 43 sel = -1
  · rw [if_pos y, wrI_n hs (by decide), ob_s]
    refine ⟨_, rfl, rfl, rfl, fun _ => ?_, fun w => absurd y w, FR.setI (by unfold eR; omega), fun c cs => rfl, fun j hj => (show upd (rs.2.2.1 43) sel u j = rs.2.2.1 43 j from pk_un hj)⟩
    show upd (rs.2.2.1 43) sel u sel = u
    exact pk_us
  · rw [if_neg y]
    exact ⟨rs, rfl, rfl, rfl, fun w => absurd w y, fun _ => rfl, FR.refl rs, fun _ _ => rfl, fun _ _ => rfl⟩
theorem agg_go {F n : Nat} {f : Nat → Int32} {M t c cap q sel i z s p κ k : Nat} {T : TC_X9_readExpr} {T' : TG_expr} {cs : CS} {rs r2 : RS} {u : Int32} (hF : 10000 ≤ F) (hT : ∀ q', SX n f M t c cap q' sel false (z + 1) T.1 T'.1) (hTf : ∀ x, FS t c x → ∃ b, T.1 x t = some (x, b)) (h : PG n f M t c cap q sel true i z s cs rs) (hk : TK n f i p κ cs rs) (hκ : κ = 32 ∨ κ = 33 ∨ κ = 34 ∨ κ = 35) (hiM : i < M) (h12 : z < 12) (k12 : k < 12) (ck : kI cs 203 q = nI k) (e2 : r2.1 = rs.1) (r42 : r2.2.2.1 42 sel = nI (k + 1)) (k0 : k = 0 → r2.2.2.1 43 sel = u) (k1 : 0 < k → ∃ x, x < s ∧ kA cs 202 q 0 = nI x ∧ r2.2.2.1 43 sel = kA cs 66 c x ∧ r2.2.2.1 43 sel ≠ -1) (um : u ≠ -1) (ua : u = kA cs 353 9 i) (fr2 : FR eR rs r2) (v2 : ∀ c cs, VW c cs r2 = VW c cs rs) (f4 : ∀ j, j ≠ sel → r2.2.2.1 42 j = rs.2.2.1 42 j ∧ r2.2.2.1 43 j = rs.2.2.1 43 j) : ∃ cs' rs' a, kag1 F T t q (nI κ) (nI s) u (sI cs 329 t (nI (z + 1))) = some cs' ∧ mag1 F T' u (setF r2 70 (nI (z + 1))) = some (rs', a) ∧ EP n f M t c cap q sel true i z s cs rs cs' (setF rs' 74 u) a := by
  have nz : ¬ (1 : Int32) = 0 := by decide
  have ag := h.ag rfl
  have kli : ∀ j, j < k → ∃ x, x < s ∧ kA cs 202 q j = nI x ∧ AGC (kA cs 65 c x) := by
    obtain ⟨kk, kk12, kck, -, -, -, kli⟩ := ag.k
    have e : kk = k := (nI_eq (by omega) (by omega)).mp (kck.symm.trans ck)
    rw [← e]
    exact kli
  have hsi := h.si
  have hs2 := h.s2
  have hmn := h.x.mn
  have hn2 := h.x.n2
  have cm1 : kI cs 331 t = 1 := h.cm
  have rm : rs.1 72 = 1 ∧ rs.1 73 = 0 := by
    rcases h.rm with ⟨-, w1, w2⟩ | ⟨w, -⟩
    · exact ⟨w1, w2⟩
    · exact absurd w (by decide)
  have jD := ((h.jt.ra fr2 e2).ch (k := 329) (v := nI (z + 1)) (by decide)).rh (k := 70) (v := nI (z + 1)) (by unfold eR; omega)
  have tkD : TK n f i p κ (sI cs 329 t (nI (z + 1))) (setF r2 70 (nI (z + 1))) := tk_keep (q := q) hk (FO.sI (W := PX t c q) (Or.inl ⟨by decide, rfl⟩)) (fr2.trans (FR.setF (by unfold eR; omega)))
  obtain ⟨K', hK, hm⟩ := mag1_ok (T' := T') (u := u) hF jD tkD hκ
  have kdD : c_X9_kind F (sI cs 329 t (nI (z + 1))) t = some (nI κ) := knd_ok jD.h jD.f0 jD.ci jD.i2 tkD
  have jA := jD.next hiM
  rw [hm, mag_129, show (setF r2 70 (nI (z + 1))).1 18 = nI i from jD.ri, nI_1]
  unfold kag1
  rw [ckE_ok jD.h.o, ob_s, acc_y jD.h jD.ci kdD, ob_s]
  show ∃ cs' rs' a, Option.bind (ckE (sI (sI cs 329 t (nI (z + 1))) 328 t (nI (i + 1))) 10 t) _ = _ ∧ _ ∧ _
  rw [ckE_ok jA.h.o, ob_s]
  have foA : FO (PX t c q) cs (sI (sI cs 329 t (nI (z + 1))) 328 t (nI (i + 1))) := (FO.sI (Or.inl ⟨by decide, rfl⟩)).trans (FO.sI (Or.inl ⟨by decide, rfl⟩))
  have frA : FR eR rs (setF (setF r2 70 (nI (z + 1))) 18 (nI (i + 1))) := (fr2.trans (FR.setF (by unfold eR; omega))).trans (FR.setF (by unfold eR; omega))
  have hn := jA.needS (F := F) (q := q) (k := 41) (by decide) (by decide)
  rw [show nI 41 = 41 by decide, show st 41 = 40 by decide] at hn
  rcases hn with ⟨hi, d1, d2⟩ | ⟨cs2, rs2, d1, d2, pb, fo, fr⟩
  · rw [d1, ob_s, d2, ob_s]
    have jB := jA.next hi
    have jC := jB.ch (k := 331) (v := 0) (by decide)
    unfold kag2
    rw [pI_ok jB.h.o, ob_s]
    have foC : FO (PX t c q) cs (sI (sI (sI (sI cs 329 t (nI (z + 1))) 328 t (nI (i + 1))) 328 t (nI (i + 1 + 1))) 331 t 0) := (foA.trans (FO.sI (Or.inl ⟨by decide, rfl⟩))).trans (FO.sI (Or.inl ⟨by decide, rfl⟩))
    have frB : FR eR rs (setF (setF (setF r2 70 (nI (z + 1))) 18 (nI (i + 1))) 18 (nI (i + 1 + 1))) := frA.trans (FR.setF (by unfold eR; omega))
    have iC : ∀ x y, x ≠ 328 → x ≠ 329 → x ≠ 331 → kI (sI (sI (sI (sI cs 329 t (nI (z + 1))) 328 t (nI (i + 1))) 328 t (nI (i + 1 + 1))) 331 t 0) x y = kI cs x y := fun x y a1 a2 a3 => by
      show u2 (u2 (u2 (u2 (kI cs) 329 t (nI (z + 1))) 328 t (nI (i + 1))) 328 t (nI (i + 1 + 1))) 331 t 0 x y = _
      rw [u2_n (fun w => a3 w.1), u2_n (fun w => a1 w.1), u2_n (fun w => a1 w.1), u2_n (fun w => a2 w.1)]
    have czC : kI (sI (sI (sI (sI cs 329 t (nI (z + 1))) 328 t (nI (i + 1))) 328 t (nI (i + 1 + 1))) 331 t 0) 329 t = nI (z + 1) := by
      show u2 (u2 (u2 (u2 (kI cs) 329 t (nI (z + 1))) 328 t (nI (i + 1))) 328 t (nI (i + 1 + 1))) 331 t 0 329 t = _
      rw [u2_n (fun w => absurd w.1 (by decide)), u2_n (fun w => absurd w.1 (by decide)), u2_n (fun w => absurd w.1 (by decide)), u2_s]
    have cmC : kI (sI (sI (sI (sI cs 329 t (nI (z + 1))) 328 t (nI (i + 1))) 328 t (nI (i + 1 + 1))) 331 t 0) 331 t = 0 := u2_s
    have aC : kA (sI (sI (sI (sI cs 329 t (nI (z + 1))) 328 t (nI (i + 1))) 328 t (nI (i + 1 + 1))) 331 t 0) = kA cs := rfl
    have axC : AXS c q cs (sI (sI (sI (sI cs 329 t (nI (z + 1))) 328 t (nI (i + 1))) 328 t (nI (i + 1 + 1))) 331 t 0) := (((AXS.text (by decide) (by decide)).trans (AXS.text (by decide) (by decide))).trans (AXS.text (by decide) (by decide))).trans (AXS.text (by decide) (by decide))
    have VC : ∀ r, VW c (sI (sI (sI (sI cs 329 t (nI (z + 1))) 328 t (nI (i + 1))) 328 t (nI (i + 1 + 1))) 331 t 0) r = VW c cs r := fun _ => rfl
    have VB : ∀ x, VW c x (setF (setF (setF r2 70 (nI (z + 1))) 18 (nI (i + 1))) 18 (nI (i + 1 + 1))) = VW c x rs := fun x => by rw [← v2 c x]; rfl
    have r70 : (setF (setF (setF r2 70 (nI (z + 1))) 18 (nI (i + 1))) 18 (nI (i + 1 + 1))).1 70 = nI (z + 1) := rfl
    have r22 : (setF (setF (setF r2 70 (nI (z + 1))) 18 (nI (i + 1))) 18 (nI (i + 1 + 1))).1 22 = nI s := by
      show r2.1 22 = _
      rw [e2]; exact h.rn
    have r71 : (setF (setF (setF r2 70 (nI (z + 1))) 18 (nI (i + 1))) 18 (nI (i + 1 + 1))).1 71 = nI sel := by
      show r2.1 71 = _
      rw [e2]; exact ag.rs'
    have r72 : (setF (setF (setF r2 70 (nI (z + 1))) 18 (nI (i + 1))) 18 (nI (i + 1 + 1))).1 72 = 1 := by
      show r2.1 72 = _
      rw [e2]; exact rm.1
    have r73 : (setF (setF (setF r2 70 (nI (z + 1))) 18 (nI (i + 1))) 18 (nI (i + 1 + 1))).1 73 = 0 := by
      show r2.1 73 = _
      rw [e2]; exact rm.2
    have rB : (setF (setF (setF r2 70 (nI (z + 1))) 18 (nI (i + 1))) 18 (nI (i + 1 + 1))).2 = r2.2 := rfl
    obtain ⟨csC, hcsC⟩ : ∃ x, x = sI (sI (sI (sI cs 329 t (nI (z + 1))) 328 t (nI (i + 1))) 328 t (nI (i + 1 + 1))) 331 t 0 := ⟨_, rfl⟩
    obtain ⟨rsB, hrsB⟩ : ∃ x, x = setF (setF (setF r2 70 (nI (z + 1))) 18 (nI (i + 1))) 18 (nI (i + 1 + 1)) := ⟨_, rfl⟩
    rw [← hcsC] at jC foC iC czC cmC aC axC VC ⊢
    rw [← hrsB] at jC frB VB r70 r22 r71 r72 r73 rB ⊢
    have oth : ∃ cs' rs' a, c_X9_readAggregate_b100 F T csC t (nI κ) (nI s) u q = some cs' ∧ m_aggregate_b169 F T' rsB u K' = some (rs', a) ∧ EP n f M t c cap q sel true i z s cs rs cs' (setF rs' 74 u) a := by
      have jF := jC.rh (k := 73) (v := 1) (by unfold eR; omega)
      have pf : ∀ q', PG n f M t c cap q' sel false (i + 1 + 1) (z + 1) s csC (setF rsB 73 1) := fun q' => ⟨jF.h, jF.x, jF.f0, jF.ci, czC, by rw [iC 64 c (by decide) (by decide) (by decide)]; exact h.cn, jF.g1, jF.ri, r70, r22, jF.im, by omega, hs2, by omega, h.cp, h.ca.fo foC, by rw [cmC]; rfl, Or.inr ⟨rfl, Or.inr rfl⟩, fun w => absurd w (by decide)⟩
      obtain ⟨cs1, rs1, a, b, t1, t2, t3, t4⟩ := hT q (i + 1 + 1) s csC (setF rsB 73 1) (pf q)
      obtain ⟨cs1', rs1', a', b', t1', t2', t3', t4'⟩ := hT (q + 1) (i + 1 + 1) s csC (setF rsB 73 1) (pf (q + 1))
      have ecs : cs1' = cs1 := by
        have w := t1'.symm.trans t1
        exact congrArg Prod.fst (Option.some.inj w)
      have foQ := t3'.fo
      rw [ecs] at foQ
      unfold c_X9_readAggregate_b100 c_X9_readAggregate_b101 m_aggregate_b169
      rw [if_pos rfl, ckE_ok jC.h.o, ob_s, t1, ob_s, if_neg (show ¬ (setF rsB 73 1).1 21 = 0 by rw [jF.g1]; decide), t2, ob_s]
      show ∃ cs' rs' a', c_X9_readAggregate_b113 F T cs1 t (nI κ) (nI s) u q 0 = some cs' ∧ m_aggregate_b195 F T' (setF rs1 73 0) u K' a = some (rs', a') ∧ _
      rcases t3 with ⟨i1, s1, g, ea, -⟩ | ⟨pb, fo, fr⟩
      · rw [b113_0 g.g.h.o]
        have l1 := g.il
        have l2 := g.sl
        have l3 := g.le
        have j1 := (g.g.jt.ch (k := 331) (v := 1) (by decide)).rh (k := 73) (v := 0) (by unfold eR; omega)
        have q203 := (foQ.2.2.2.2.2 203 q (by unfold PX; omega)).1
        have q202 := (foQ.2.2.2.2.2 202 q (by unfold PX; omega)).2.2.1
        have i1I : ∀ x y, x ≠ 331 → kI (sI cs1 331 t 1) x y = kI cs1 x y := fun x y a1 => by
          show u2 (kI cs1) 331 t 1 x y = _
          rw [u2_n (fun w => a1 w.1)]
        have fo1 : FO (PX t c q) cs (sI cs1 331 t 1) := (foC.trans g.fo).trans (FO.sI (Or.inl ⟨by decide, rfl⟩))
        have fr1 : FR eR rs (setF rs1 73 0) := ((frB.trans (FR.setF (by unfold eR; omega))).trans g.fr).trans (FR.setF (by unfold eR; omega))
        have fa := g.fa.1 rfl
        have f42 : (setF rs1 73 0).2.2.1 42 = r2.2.2.1 42 := fa.1.trans (by show rsB.2.2.1 42 = _; rw [rB])
        have f43 : (setF rs1 73 0).2.2.1 43 = r2.2.2.1 43 := fa.2.trans (by show rsB.2.2.1 43 = _; rw [rB])
        have kp1 : ∀ x, x < s → VW c (sI cs1 331 t 1) (setF rs1 73 0) x = VW c cs rs x := fun x hx => by
          show VW c cs1 rs1 x = _
          rw [g.kp x hx]
          show VW c csC rsB x = _
          rw [VB, VC]
        have a202 : kA (sI cs1 331 t 1) 202 q = kA cs 202 q := by
          show kA cs1 202 q = _
          rw [q202, aC]
        have c203 : kI (sI cs1 331 t 1) 203 q = kI cs 203 q := by rw [i1I 203 q (by decide), q203, iC 203 q (by decide) (by decide) (by decide)]
        have t71 : (setF rs1 73 0).1 71 = nI sel := by
          have w := g.fr.f (k := 71) (by unfold eR; omega)
          show rs1.1 71 = _
          rw [w]; exact r71
        have t72 : (setF rs1 73 0).1 72 = 1 := by
          have w := g.fr.f (k := 72) (by unfold eR; omega)
          show rs1.1 72 = _
          rw [w]; exact r72
        have ac : AC n f M t c cap q sel i z s cs rs u k i1 s1 (sI cs1 331 t 1) (setF rs1 73 0) := by
          refine ⟨j1, ?_, g.g.rz, h12, ?_, g.g.rn, by omega, g.g.si, g.g.s2, by omega, by omega, h.cp, h.ca.fo fo1, u2_s, ⟨t72, rfl⟩, ?_, ?_, ?_, ?_, ?_, t71, ag.sl, k12, c203.trans ck, ?_, ?_, ?_, um, ua, kp1, fo1, fr1, ?_, ?_, ?_, (fun x hx => by rw [f42, f43]; exact f4 x hx), (axC.trans g.ax).trans (AXS.text (by decide) (by decide)), rm.2, (fun j' hj' => by
            obtain ⟨x, x1, x2, x3⟩ := kli j' hj'
            refine ⟨x, x1, by rw [a202]; exact x2, ?_⟩
            have v1 : kA (sI cs1 331 t 1) 65 c x = kA cs 65 c x := congrArg (fun v => v.1.1) (kp1 x x1)
            rw [v1]
            exact x3)⟩
          · rw [i1I 329 t (by decide)]; exact g.g.cz
          · rw [i1I 64 c (by decide)]; exact g.g.cn
          · rw [fo1.2.1]; exact ag.rq
          · rw [fo1.e]; exact ag.oq
          · rw [fo1.e]; exact ag.e
          · rw [fo1.2.2.1]; exact ag.p
          · rw [fo1.2.2.2.2.1]; exact ag.l
          · rw [f42]; exact r42
          · intro w; rw [f43]; exact k0 w
          · intro w
            obtain ⟨x, x1, x2, x3, x4⟩ := k1 w
            refine ⟨x, x1, by rw [a202]; exact x2, ?_, by rw [f43]; exact x4⟩
            rw [f43, x3]
            exact (congrArg (fun v => v.1.2.2.2.1) (kp1 x x1)).symm
          · intro x hx
            obtain ⟨j', k', m1, m2, m3, m4⟩ := hx
            exact ⟨j', k', m1, c203.trans m2, m3, by rw [a202]; exact m4⟩
          · intro x x1 x2 x3
            exact (g.co x x1 x2 x3).keep rfl (FO.sI (W := PX t c q) (Or.inl ⟨by decide, rfl⟩)) (FR.setF (by unfold eR; omega))
          · intro x x1 x2 x3
            exact absurd (g.an x x1 x2 x3).1 (by decide)
        refine ac.close (Or.inr ⟨rfl, l2, ea, ?_, fun R => g.tr R⟩)
        rcases hK with ⟨w1, w2⟩ | ⟨w1, w2⟩ | ⟨w1, w2⟩ | ⟨w1, w2⟩
        · exact Or.inl ⟨by rw [w1]; decide, w2⟩
        · exact Or.inr (Or.inl ⟨by rw [w1]; decide, w2⟩)
        · exact Or.inr (Or.inr (Or.inl ⟨by rw [w1]; decide, w2⟩))
        · exact Or.inr (Or.inr (Or.inr ⟨by rw [w1]; decide, w2⟩))
      · obtain ⟨cs', m1, m2, m3⟩ := ag113_f (F := F) (T := T) (q := q) (u := q) (u1 := nI κ) (u2 := nI s) (u3 := u) (u5 := 0) (pb.rh (k := 73) (v := 0) (by decide))
        obtain ⟨rs', p1, p2, p3⟩ := ag195_f (F := F) (T' := T') (u1 := u) (u2 := K') (u3 := a) m2
        exact ⟨cs', rs', 0, m1, p1, Or.inr ⟨p2.s74, (foC.trans fo).trans m3, ((((frB.trans (FR.setF (by unfold eR; omega))).trans fr).trans (FR.setF (by unfold eR; omega))).trans p3).trans (FR.setF (by unfold eR; omega))⟩⟩
    unfold mag2
    by_cases y : κ = 32
    · have yK : K' = 21 := by rcases hK with ⟨-, w⟩ | ⟨w, -⟩ | ⟨w, -⟩ | ⟨w, -⟩ <;> first | exact w | omega
      rw [if_pos (show nI κ = 32 by rw [y]; decide), if_pos yK, ckE_ok jC.h.o, ob_s]
      have hs := jC.mayS (F := F) (k := 47) (by decide) (by decide)
      rw [show nI 47 = 47 by decide, show st 47 = 42 by decide] at hs
      rcases hs with ⟨hi3, b1, b2⟩ | ⟨b1, b2⟩
      · rw [b1, ob_s, if_neg nz, b2, ob_s, if_neg nz]
        have jE := jC.next hi3
        have j1 := jE.ch (k := 331) (v := 1) (by decide)
        unfold c_X9_readAggregate_b101
        rw [if_neg nz, b113_1 jE.h.o]
        have i1I : ∀ x y, x ≠ 331 → x ≠ 328 → kI (sI (sI csC 328 t (nI (i + 1 + 1 + 1))) 331 t 1) x y = kI csC x y := fun x y a1 a2 => by
          show u2 (u2 (kI csC) 328 t (nI (i + 1 + 1 + 1))) 331 t 1 x y = _
          rw [u2_n (fun w => a1 w.1), u2_n (fun w => a2 w.1)]
        have fo1 : FO (PX t c q) cs (sI (sI csC 328 t (nI (i + 1 + 1 + 1))) 331 t 1) := (foC.trans (FO.sI (Or.inl ⟨by decide, rfl⟩))).trans (FO.sI (Or.inl ⟨by decide, rfl⟩))
        have fr1 : FR eR rs (setF rsB 18 (nI (i + 1 + 1 + 1))) := frB.trans (FR.setF (by unfold eR; omega))
        have f42 : (setF rsB 18 (nI (i + 1 + 1 + 1))).2.2.1 42 = r2.2.2.1 42 := by show rsB.2.2.1 42 = _; rw [rB]
        have f43 : (setF rsB 18 (nI (i + 1 + 1 + 1))).2.2.1 43 = r2.2.2.1 43 := by show rsB.2.2.1 43 = _; rw [rB]
        have kp1 : ∀ x, VW c (sI (sI csC 328 t (nI (i + 1 + 1 + 1))) 331 t 1) (setF rsB 18 (nI (i + 1 + 1 + 1))) x = VW c cs rs x := fun x => by
          show VW c csC rsB x = _
          rw [VB, VC]
        have a202 : kA (sI (sI csC 328 t (nI (i + 1 + 1 + 1))) 331 t 1) = kA cs := aC
        have c203 : kI (sI (sI csC 328 t (nI (i + 1 + 1 + 1))) 331 t 1) 203 q = kI cs 203 q := by rw [i1I 203 q (by decide) (by decide), iC 203 q (by decide) (by decide) (by decide)]
        have ac : AC n f M t c cap q sel i z s cs rs u k (i + 1 + 1 + 1) s (sI (sI csC 328 t (nI (i + 1 + 1 + 1))) 331 t 1) (setF rsB 18 (nI (i + 1 + 1 + 1))) := by
          refine ⟨j1, ?_, r70, h12, ?_, r22, by omega, by omega, hs2, by omega, by omega, h.cp, h.ca.fo fo1, u2_s, ⟨r72, r73⟩, ?_, ?_, ?_, ?_, ?_, r71, ag.sl, k12, c203.trans ck, ?_, ?_, ?_, um, ua, fun x _ => kp1 x, fo1, fr1, ?_, (fun x x1 x2 => by omega), (fun x x1 x2 => by omega), (fun x hx => by rw [f42, f43]; exact f4 x hx), (axC.trans (AXS.text (by decide) (by decide))).trans (AXS.text (by decide) (by decide)), rm.2, (fun j' hj' => by
            rw [a202]
            exact kli j' hj')⟩
          · rw [i1I 329 t (by decide) (by decide)]; exact czC
          · rw [i1I 64 c (by decide) (by decide), iC 64 c (by decide) (by decide) (by decide)]; exact h.cn
          · rw [fo1.2.1]; exact ag.rq
          · rw [fo1.e]; exact ag.oq
          · rw [fo1.e]; exact ag.e
          · rw [fo1.2.2.1]; exact ag.p
          · rw [fo1.2.2.2.2.1]; exact ag.l
          · rw [f42]; exact r42
          · intro w; rw [f43]; exact k0 w
          · intro w
            rw [f43, a202]
            exact k1 w
          · intro x hx
            obtain ⟨j', k', m1, m2, m3, m4⟩ := hx
            exact ⟨j', k', m1, c203.trans m2, m3, by rw [a202]; exact m4⟩
        exact ac.close (Or.inl ⟨rfl, rfl, rfl, rfl⟩)
      · rw [b1, ob_s, if_pos rfl, b2, ob_s, if_pos rfl]
        exact oth
    · have yK : K' ≠ 21 := by
        rcases hK with ⟨w, -⟩ | ⟨-, w⟩ | ⟨-, w⟩ | ⟨-, w⟩
        · exact absurd w y
        · rw [w]; decide
        · rw [w]; decide
        · rw [w]; decide
      rw [if_neg (fun w : nI κ = 32 => y ((nI_eq (b := 32) (by omega) (by decide)).mp w)), if_neg yK]
      exact oth
  · rw [d1, ob_s, d2, ob_s]
    obtain ⟨cs', m1, m2, m3⟩ := kag2_f (F := F) (T := T) (q := q) (u := q) (u1 := nI κ) (u2 := nI s) (u3 := u) hTf pb
    obtain ⟨rs', p1, p2, p3⟩ := mag2_f (F := F) (T' := T') (u1 := u) (y0 := K') m2
    exact ⟨cs', rs', 0, m1, p1, Or.inr ⟨p2.s74, (foA.trans fo).trans m3, ((frA.trans fr).trans p3).trans (FR.setF (by unfold eR; omega))⟩⟩

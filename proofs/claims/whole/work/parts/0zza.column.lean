/-! columns -/
theorem PG.b70 {n : Nat} {f : Nat → Int32} {M t c cap q sel : Nat} {ma : Bool} {i z s j : Nat} {cs : CS} {rs : RS} {v : Int64} (h : PG n f M t c cap q sel ma i z s cs rs) : PG n f M t c cap q sel ma i z s (sB cs 70 c j v) rs := by
  have w : FO (PX t c q) cs (sB cs 70 c j v) := FO.sB (Or.inr (Or.inl ⟨by decide, rfl⟩))
  exact ⟨h.h.fo w, h.x.fo w (FR.refl rs), h.f0, h.ci, h.cz, h.cn, h.g1, h.ri, h.rz, h.rn, h.im, h.si, h.s2, h.z2, h.cp, h.ca.fo w, h.cm, h.rm, fun y => by
    have a := h.ag y
    exact ⟨a.rq, a.oq, a.e, a.p, a.l, a.rs', a.sl, a.k⟩⟩
theorem PG.r30 {n : Nat} {f : Nat → Int32} {M t c cap q sel : Nat} {ma : Bool} {i z s j : Nat} {cs : CS} {rs : RS} {u : Int32} (h : PG n f M t c cap q sel ma i z s cs rs) : PG n f M t c cap q sel ma i z s cs (setI rs 30 j u) := ⟨h.h, h.x, h.f0, h.ci, h.cz, h.cn, h.g1, h.ri, h.rz, h.rn, h.im, h.si, h.s2, h.z2, h.cp, h.ca, h.cm, h.rm, h.ag⟩
theorem PB.r30 {t c j : Nat} {cs : CS} {rs : RS} {u : Int32} (h : PB t c cs rs) : PB t c cs (setI rs 30 j u) := ⟨h.s, ⟨h.r.g, h.r.i⟩, h.e1, h.e2⟩
theorem VB70 {c j x : Nat} {cs : CS} {rs : RS} {v : Int64} (h : x ≠ j) : VW c (sB cs 70 c j v) rs x = VW c cs rs x := by
  have e1 : kB (sB cs 70 c j v) 70 c = vp_updL (kB cs 70 c) j v := u2_s
  have e2 : kB (sB cs 70 c j v) 69 c = kB cs 69 c := by
    show u2 (kB cs) 70 c (vp_updL (kB cs 70 c) j v) 69 c = _
    rw [u2_n (fun y => absurd y.1 (by decide))]
  unfold VW
  rw [e1, e2, pk_uLn h]
  rfl
theorem VB70s {c j : Nat} {cs : CS} {rs : RS} {v : Int64} : VW c (sB cs 70 c j v) rs j = (((VW c cs rs j).1.1, (VW c cs rs j).1.2.1, (VW c cs rs j).1.2.2.1, (VW c cs rs j).1.2.2.2.1, (VW c cs rs j).1.2.2.2.2.1, (VW c cs rs j).1.2.2.2.2.2.1, v), (VW c cs rs j).2) := by
  have e1 : kB (sB cs 70 c j v) 70 c = vp_updL (kB cs 70 c) j v := u2_s
  have e2 : kB (sB cs 70 c j v) 69 c = kB cs 69 c := by
    show u2 (kB cs) 70 c (vp_updL (kB cs 70 c) j v) 69 c = _
    rw [u2_n (fun y => absurd y.1 (by decide))]
  unfold VW
  rw [e1, e2, pk_uLs]
  rfl
theorem V30 {c j x : Nat} {cs : CS} {rs : RS} {u : Int32} (h : x ≠ j) : VW c cs (setI rs 30 j u) x = VW c cs rs x := by
  show (_, (rs.2.2.1 23 x, rs.2.2.1 24 x, rs.2.2.1 25 x, rs.2.2.1 26 x, rs.2.2.1 27 x, rs.2.2.2 28 x, rs.2.2.1 29 x, rs.2.2.1 32 x, upd (rs.2.2.1 30) j u x)) = _
  rw [pk_un h]
  rfl
theorem V30s {c j : Nat} {cs : CS} {rs : RS} {u : Int32} : VW c cs (setI rs 30 j u) j = ((VW c cs rs j).1, ((VW c cs rs j).2.1, (VW c cs rs j).2.2.1, (VW c cs rs j).2.2.2.1, (VW c cs rs j).2.2.2.2.1, (VW c cs rs j).2.2.2.2.2.1, (VW c cs rs j).2.2.2.2.2.2.1, (VW c cs rs j).2.2.2.2.2.2.2.1, (VW c cs rs j).2.2.2.2.2.2.2.2.1, u)) := by
  show (_, (rs.2.2.1 23 j, rs.2.2.1 24 j, rs.2.2.1 25 j, rs.2.2.1 26 j, rs.2.2.1 27 j, rs.2.2.2 28 j, rs.2.2.1 29 j, rs.2.2.1 32 j, upd (rs.2.2.1 30) j u j)) = _
  rw [pk_us]
  rfl
theorem wr30 {rs : RS} {v : Int32} : wrI rs 30 121 0 v = some (setI rs 30 0 v) := wrI_ok (x := 0) (n := 121) rfl (by decide) (by decide)
theorem nI_nm1 {j : Nat} (h : j < 2147483648) : nI j ≠ -1 := fun e => by
  have := nI_toInt (n := j) (by omega)
  rw [e] at this
  simp at this
theorem col_top {n : Nat} {f : Nat → Int32} {M t c cap q sel : Nat} {ma : Bool} {F z i s i3 : Nat} {cs cs2 : CS} {rs rs2 : RS} {v o : Int64} {tk hu : Int32} (hp : PG n f M t c cap q sel ma i3 z s cs2 rs2) (hi : i < i3) (hsi : s ≤ i) (sq : SQ t c q sel ma cs rs cs2 rs2) (hV : VW c cs2 rs2 = VW c cs rs) (hM : M < 2147483648) (hc : (o = -1 ∧ hu = -1 ∧ i3 = i + 1 ∧ ∃ k, k = i ∧ k ≤ M ∧ tk = nI k ∧ NM n f k v cs rs) ∨ (∃ k j, k = i ∧ k ≤ M ∧ j ≤ M ∧ tk = nI k ∧ hu = nI j ∧ i3 = i + 3 ∧ NM9 n f k o cs rs ∧ NM n f j v cs rs)) : ∃ cs' rs' a, c_X9_readColumn_b97 F cs2 t (kA cs 353 9 i) v o = some cs' ∧ m_columnOf_b56 F rs2 (kA cs 353 9 i) tk hu = some (rs', a) ∧ EP n f M t c cap q sel ma i z s cs rs cs' (setF rs' 74 (kA cs 353 9 i)) a := by
  have ho := hp.h.o
  have him := hp.im
  have hcl : ∀ x : Option CS, (Option.bind (c_X9_complete F cs2 t 39 (nI s) (kA cs 353 9 i) (kA cs 353 9 i) 0) fun z_4 => Option.bind (gR z_4.1 10 322 t) fun v_6 => Option.bind (v_6) fun i_8 => Option.bind (ckE z_4.1 2 i_8) fun _ => Option.bind (c_X1_has F z_4.1 i_8 z_4.2) fun v_7 => if v_7 = 0 then (c_X9_readColumn_b150 F z_4.1) else (Option.bind (gR z_4.1 10 322 t) fun v_11 => Option.bind (v_11) fun i_12 => Option.bind (gA z_4.1 2 69 i_12) fun v_13 => Option.bind (wB z_4.1 69 i_12 v_13 z_4.2 v) fun cs_14 => Option.bind (gR cs_14 10 322 t) fun v_15 => Option.bind (v_15) fun i_16 => Option.bind (gA cs_14 2 70 i_16) fun v_17 => Option.bind (wB cs_14 70 i_16 v_17 z_4.2 o) fun cs_18 => c_X9_readColumn_b150 F cs_18)) = x → c_X9_readColumn_b97 F cs2 t (kA cs 353 9 i) v o = x := fun x hx => by
    unfold c_X9_readColumn_b97
    rw [gR_ok ho, ob_s, hp.h.rc, ob_s, gI_ok hp.h.oc, ob_s, hp.cn, ckE_ok ho, ob_s, hx]
  rcases PG.mk (F := F) (k := 39) (bg := kA cs 353 9 i) (mt := kA cs 353 9 i) (pt := 0) (k' := 5) (a := -1) (b := -1) (d := -1) (fi := s) hp (by omega) (Nat.le_refl _) with ⟨cs3, rs3, f1, f2, f3, f4, f5, f6, f7, f8, f9, f10, f11⟩ | ⟨cs3, rs3, f1, f2, f3, f4, f5⟩
  · obtain ⟨hcap, hcap2⟩ := f3.cap
    obtain ⟨j69, p69⟩ := f3.ca.p69
    obtain ⟨j70, p70⟩ := f3.ca.p70
    have h120 := f3.s2
    have sqC : SQ t c q sel ma cs2 rs2 cs3 rs3 := by rw [f10, f11]; exact SQ.mk hp.cn (by have := f3.s2; omega)
    obtain ⟨cs4, hcs4⟩ : ∃ x, x = sB cs3 69 c s v := ⟨_, rfl⟩
    have p4 : PG n f M t c cap q sel ma i3 z (s + 1) cs4 rs3 := by rw [hcs4]; exact f3.b69
    have p5 : PG n f M t c cap q sel ma i3 z (s + 1) (sB cs4 70 c s o) (setI (setI rs3 30 s tk) 27 s hu) := p4.b70.r30.r27
    have sqD : SQ t c q sel ma cs3 rs3 (sB cs4 70 c s o) (setI (setI rs3 30 s tk) 27 s hu) := by
      rw [hcs4]
      exact ((SQ.codeB (by decide)).trans (SQ.codeB (by decide))).trans ((SQ.refI (by unfold eR; omega)).trans (SQ.refI (by unfold eR; omega)))
    have Vo : ∀ x, x ≠ s → VW c (sB cs4 70 c s o) (setI (setI rs3 30 s tk) 27 s hu) x = VW c cs rs x := fun x hx => by rw [V27 hx, V30 hx, VB70 hx, hcs4, VB69 hx, f4 x hx, hV]
    have Vs : VW c (sB cs4 70 c s o) (setI (setI rs3 30 s tk) 27 s hu) s = ((39, nI s, 0, kA cs 353 9 i, v, -1, o), (5, -1, -1, -1, hu, 0, kA cs 353 9 i, -1, tk)) := by rw [V27s, V30s, VB70s, hcs4, VB69s, f5]
    have SQ5 := (sq.trans sqC).trans sqD
    have hkk : vk (VW c (sB cs4 70 c s o) (setI (setI rs3 30 s tk) 27 s hu)) s = 39 := by unfold vk; rw [Vs]
    have eg : EG n f M t c cap q sel ma i z s cs rs i3 (s + 1) (sB cs4 70 c s o) (setI (setI rs3 30 s tk) 27 s hu) := by
      refine ⟨p5, hi, by omega, by omega, fun x hx => Vo x (by omega), fun R => ?_, SQ5.1, SQ5.2.1, fun x x1 x2 x3 => ?_, fun x x1 x2 x3 => ?_, SQ5.2.2.1, fun _ _ => ?_, SQ5.2.2.2.1, (by rw [show s + 1 - 1 = s by omega]; unfold rx; rw [Vs]), SQ5.2.2.2.2⟩
      · rw [show s + 1 - s = 0 + 1 by omega, show s + 1 - 1 = s by omega]
        refine ⟨Nat.le_refl _, by unfold vf; rw [Vs], by unfold vb rb; rw [Vs], Or.inl ⟨rfl, Or.inl (by unfold vs; rw [Vs]), ?_⟩⟩
        unfold LEAF vk rk
        rw [Vs]
        exact Or.inr (Or.inr (Or.inr (Or.inr (Or.inl ⟨rfl, rfl⟩))))
      · have : x = s := by omega
        subst this
        unfold COL vo rh rw' vn vb
        rw [Vs]
        rcases hc with ⟨c1, c2, c3, k, ck, c4, c5, c6⟩ | ⟨k, j, ck, c1, c2, c3, c4, c5, c6, c7⟩
        · exact Or.inl ⟨c1, c2, k, by rw [ck]; exact (pl_keep SQ5.1).symm, c4, c5, c6.keep SQ5.1 SQ5.2.1⟩
        · exact Or.inr ⟨k, j, by rw [ck]; exact (pl_keep SQ5.1).symm, c1, c2, c3, c4, c6.keep SQ5.1 SQ5.2.1, c7.keep SQ5.1 SQ5.2.1⟩
      · have : x = s := by omega
        subst this
        unfold AGN at x3
        rw [hkk] at x3
        exact absurd x3 (by decide)
      · refine ⟨i, Nat.le_refl _, by omega, by unfold vb; rw [Vs], ?_⟩
        have e : rh (VW c (sB cs4 70 c s o) (setI (setI rs3 30 s tk) 27 s hu)) s = hu := by unfold rh; rw [Vs]
        rw [e]
        rcases hc with ⟨c1, c2, c3, k, c0, c4, c5, c6⟩ | ⟨k, j, c0, c1, c2, c3, c4, c5, c6, c7⟩
        · rw [if_pos c2]; omega
        · rw [if_neg (by rw [c4]; exact nI_nm1 (by omega))]; omega
    refine ⟨sB cs4 70 c s o, setI (setI rs3 30 s tk) 27 s hu, nI s, hcl _ ?_, ?_, Or.inl ⟨i3, s + 1, eg.s74, rfl, rfl⟩⟩
    · rw [f1, ob_s]
      show (Option.bind (gR cs3 10 322 t) fun v_6 => Option.bind (v_6) fun i_8 => Option.bind (ckE cs3 2 i_8) fun _ => Option.bind (c_X1_has F cs3 i_8 (nI s)) fun v_7 => if v_7 = 0 then (c_X9_readColumn_b150 F cs3) else (Option.bind (gR cs3 10 322 t) fun v_11 => Option.bind (v_11) fun i_12 => Option.bind (gA cs3 2 69 i_12) fun v_13 => Option.bind (wB cs3 69 i_12 v_13 (nI s) v) fun cs_14 => Option.bind (gR cs_14 10 322 t) fun v_15 => Option.bind (v_15) fun i_16 => Option.bind (gA cs_14 2 70 i_16) fun v_17 => Option.bind (wB cs_14 70 i_16 v_17 (nI s) o) fun cs_18 => c_X9_readColumn_b150 F cs_18)) = _
      have p70' : kP cs4 70 c = some j70 := by rw [hcs4]; exact p70
      rw [gR_ok f3.h.o, ob_s, f3.h.rc, ob_s, ckE_ok f3.h.oc, ob_s, has_y f3.h.oc f3.ca f3.cn hcap hcap2, ob_s, if_neg (by decide), ob_s, ob_s, gA_ok f3.h.oc, p69, ob_s, wB_n f3.ca.e69 p69 (by rw [f3.ca.l69]; exact hcap) (by rw [f3.ca.l69]; omega), ob_s, ← hcs4, gR_ok p4.h.o, ob_s, p4.h.rc, ob_s, gA_ok p4.h.oc, p70', ob_s, wB_n p4.ca.e70 p70' (by rw [p4.ca.l70]; exact hcap) (by rw [p4.ca.l70]; omega), ob_s]
      rfl
    · unfold m_columnOf_b56
      rw [f2, ob_s]
      show (Option.bind (wrI rs3 30 121 (nI s) tk) fun cs_2 => Option.bind (wrI cs_2 27 121 (nI s) hu) fun cs_3 => some (cs_3, nI s)) = _
      rw [wrI_n (by omega) (by decide), ob_s, wrI_n (by omega) (by decide), ob_s]
  · refine ⟨cs3, setI (setI rs3 30 0 tk) 27 0 hu, 0, hcl _ ?_, ?_, Or.inr ⟨f3.r30.r27.s74, sq.1.trans f4, (((sq.2.1.trans f5).trans (FR.setI (by unfold eR; omega))).trans (FR.setI (by unfold eR; omega))).trans (FR.setF (by unfold eR; omega))⟩⟩
    · rw [f1, ob_s]
      show (Option.bind (gR cs3 10 322 t) fun v_6 => Option.bind (v_6) fun i_8 => Option.bind (ckE cs3 2 i_8) fun _ => Option.bind (c_X1_has F cs3 i_8 (-1)) fun v_7 => if v_7 = 0 then (c_X9_readColumn_b150 F cs3) else _) = _
      rw [gR_ok f3.s.h.o, ob_s, f3.s.h.rc, ob_s, ckE_ok f3.s.h.oc, ob_s, has_n, ob_s, if_pos rfl]
      rfl
    · unfold m_columnOf_b56
      rw [f2, ob_s]
      show (Option.bind (wrI rs3 30 121 0 tk) fun cs_2 => Option.bind (wrI cs_2 27 121 0 hu) fun cs_3 => some (cs_3, 0)) = _
      rw [wr30, ob_s, wr27, ob_s]
/-- behind a fault -/
theorem col_f {F t c : Nat} {cs : CS} {rs : RS} {v o : Int64} {bg tk hu : Int32} (h : PB t c cs rs) : c_X9_readColumn_b97 F cs t bg v o = some cs ∧ m_columnOf_b56 F rs bg tk hu = some (setI (setI rs 30 0 tk) 27 0 hu, 0) := by
  constructor
  · unfold c_X9_readColumn_b97
    rw [gR_ok h.s.h.o, ob_s, h.s.h.rc, ob_s, gI_ok h.s.h.oc, ob_s, ckE_ok h.s.h.o, ob_s, cpl_f h.s, ob_s]
    show (Option.bind (gR cs 10 322 t) fun v_6 => Option.bind (v_6) fun i_8 => Option.bind (ckE cs 2 i_8) fun _ => Option.bind (c_X1_has F cs i_8 (-1)) fun v_7 => if v_7 = 0 then (c_X9_readColumn_b150 F cs) else _) = _
    rw [gR_ok h.s.h.o, ob_s, h.s.h.rc, ob_s, ckE_ok h.s.h.oc, ob_s, has_n, ob_s, if_pos rfl]
    rfl
  · unfold m_columnOf_b56
    rw [mk_f h.r, ob_s]
    show (Option.bind (wrI rs 30 121 0 tk) fun cs_2 => Option.bind (wrI cs_2 27 121 0 hu) fun cs_3 => some (cs_3, 0)) = _
    rw [wr30, ob_s, wr27, ob_s]

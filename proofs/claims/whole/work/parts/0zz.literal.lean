/-! numbers, null, true, false -/
theorem has_y {F c cap s : Nat} {cs : CS} (ho : (2, c) ∈ kE cs) (ha : CA c cap cs) (hn : kI cs 64 c = nI (s + 1)) (hs : s < cap) (hc : cap ≤ 120) : c_X1_has F cs c (nI s) = some 1 := by
  obtain ⟨j65, p65⟩ := ha.p65
  unfold c_X1_has c_X1_has_b26
  rw [if_neg (nI_pos (by omega)), gI_ok ho, ob_s, hn, if_neg (nI_ge (by omega) (by omega)), gA_ok ho, p65, ob_s, lnA_n ha.e65 p65, ob_s, ha.l65, if_neg (nI_ge hs (by omega))]
  rfl
theorem has_n {F c : Nat} {cs : CS} : c_X1_has F cs c (-1) = some 0 := by
  unfold c_X1_has c_X1_has_b25 c_X1_has_b26
  rw [if_pos (by decide)]
  rfl
theorem PG.cap {n : Nat} {f : Nat → Int32} {M t c cap q sel : Nat} {ma : Bool} {i z s : Nat} {cs : CS} {rs : RS} (h : PG n f M t c cap q sel ma i z (s + 1) cs rs) : s < cap ∧ cap ≤ 120 := by
  have h1 := h.si
  have h2 := h.im
  have h3 := h.x.mn
  have h4 := h.s2
  rcases h.cp with y | y <;> omega
theorem PG.b69 {n : Nat} {f : Nat → Int32} {M t c cap q sel : Nat} {ma : Bool} {i z s j : Nat} {cs : CS} {rs : RS} {v : Int64} (h : PG n f M t c cap q sel ma i z s cs rs) : PG n f M t c cap q sel ma i z s (sB cs 69 c j v) rs := by
  have w : FO (PX t c q) cs (sB cs 69 c j v) := FO.sB (Or.inr (Or.inl ⟨by decide, rfl⟩))
  exact ⟨h.h.fo w, h.x.fo w (FR.refl rs), h.f0, h.ci, h.cz, h.cn, h.g1, h.ri, h.rz, h.rn, h.im, h.si, h.s2, h.z2, h.cp, h.ca.fo w, h.cm, h.rm, fun y => by
    have a := h.ag y
    exact ⟨a.rq, a.oq, a.e, a.p, a.l, a.rs', a.sl, a.k⟩⟩
theorem PG.r28 {n : Nat} {f : Nat → Int32} {M t c cap q sel : Nat} {ma : Bool} {i z s j : Nat} {cs : CS} {rs : RS} {u : Int64} (h : PG n f M t c cap q sel ma i z s cs rs) : PG n f M t c cap q sel ma i z s cs (setL rs 28 j u) := ⟨h.h, h.x.fo (FO.refl (W := PX t c q) cs) (FR.setL (by unfold eR; omega)), h.f0, h.ci, h.cz, h.cn, h.g1, h.ri, h.rz, h.rn, h.im, h.si, h.s2, h.z2, h.cp, h.ca, h.cm, h.rm, h.ag⟩
theorem PB.r28 {t c j : Nat} {cs : CS} {rs : RS} {u : Int64} (h : PB t c cs rs) : PB t c cs (setL rs 28 j u) := ⟨h.s, ⟨h.r.g, h.r.i⟩, h.e1, h.e2⟩
theorem VB69 {c j x : Nat} {cs : CS} {rs : RS} {v : Int64} (h : x ≠ j) : VW c (sB cs 69 c j v) rs x = VW c cs rs x := by
  have e1 : kB (sB cs 69 c j v) 69 c = vp_updL (kB cs 69 c) j v := u2_s
  have e2 : kB (sB cs 69 c j v) 70 c = kB cs 70 c := by
    show u2 (kB cs) 69 c (vp_updL (kB cs 69 c) j v) 70 c = _
    rw [u2_n (fun y => absurd y.1 (by decide))]
  unfold VW
  rw [e1, e2, pk_uLn h]
  rfl
theorem VB69s {c j : Nat} {cs : CS} {rs : RS} {v : Int64} : VW c (sB cs 69 c j v) rs j = (((VW c cs rs j).1.1, (VW c cs rs j).1.2.1, (VW c cs rs j).1.2.2.1, (VW c cs rs j).1.2.2.2.1, v, (VW c cs rs j).1.2.2.2.2.2), (VW c cs rs j).2) := by
  have e1 : kB (sB cs 69 c j v) 69 c = vp_updL (kB cs 69 c) j v := u2_s
  have e2 : kB (sB cs 69 c j v) 70 c = kB cs 70 c := by
    show u2 (kB cs) 69 c (vp_updL (kB cs 69 c) j v) 70 c = _
    rw [u2_n (fun y => absurd y.1 (by decide))]
  unfold VW
  rw [e1, e2, pk_uLs]
  rfl
theorem V28 {c j x : Nat} {cs : CS} {rs : RS} {u : Int64} (h : x ≠ j) : VW c cs (setL rs 28 j u) x = VW c cs rs x := by
  show (_, (rs.2.2.1 23 x, rs.2.2.1 24 x, rs.2.2.1 25 x, rs.2.2.1 26 x, rs.2.2.1 27 x, vp_updL (rs.2.2.2 28) j u x, rs.2.2.1 29 x, rs.2.2.1 32 x, rs.2.2.1 30 x)) = _
  rw [pk_uLn h]
  rfl
theorem V28s {c j : Nat} {cs : CS} {rs : RS} {u : Int64} : VW c cs (setL rs 28 j u) j = ((VW c cs rs j).1, ((VW c cs rs j).2.1, (VW c cs rs j).2.2.1, (VW c cs rs j).2.2.2.1, (VW c cs rs j).2.2.2.2.1, (VW c cs rs j).2.2.2.2.2.1, u, (VW c cs rs j).2.2.2.2.2.2.2)) := by
  show (_, (rs.2.2.1 23 j, rs.2.2.1 24 j, rs.2.2.1 25 j, rs.2.2.1 26 j, rs.2.2.1 27 j, vp_updL (rs.2.2.2 28) j u j, rs.2.2.1 29 j, rs.2.2.1 32 j, rs.2.2.1 30 j)) = _
  rw [pk_uLs]
  rfl
/-- the class's literal, up to its node -/
theorem lit_c {n : Nat} {f : Nat → Int32} {M t c cap q sel : Nat} {ma : Bool} {F i z s p κ : Nat} {cs : CS} {rs : RS} (h : PG n f M t c cap q sel ma i z s cs rs) (hk : TK n f i p κ cs rs) (x : Option CS) (hx : (Option.bind (c_X9_complete F (sI cs 328 t (nI (i + 1))) t (nI κ) (nI s) (kA cs 353 9 i) (kA cs 353 9 i) 0) fun z_12 => Option.bind (gR z_12.1 10 322 t) fun v_14 => Option.bind (v_14) fun i_16 => Option.bind (ckE z_12.1 2 i_16) fun _ => Option.bind (c_X1_has F z_12.1 i_16 z_12.2) fun v_15 => if v_15 = 0 then (c_X9_readLiteral_b65 F z_12.1) else (Option.bind (gR z_12.1 10 322 t) fun v_19 => Option.bind (v_19) fun i_20 => Option.bind (gA z_12.1 2 69 i_20) fun v_21 => Option.bind (wB z_12.1 69 i_20 v_21 z_12.2 (kB cs 354 9 i)) fun cs_22 => c_X9_readLiteral_b65 F cs_22)) = x) : c_X9_readLiteral F cs t = x := by
  have ho := h.h.o
  have hsA : SH t c (sI cs 328 t (nI (i + 1))) := h.h.fo (FO.sI (W := PX t c q) (Or.inl ⟨by decide, rfl⟩))
  have cn : kI (sI cs 328 t (nI (i + 1))) 64 c = nI s := by
    show u2 (kI cs) 328 t (nI (i + 1)) 64 c = nI s
    rw [u2_n (fun y => absurd y.1 (by decide))]
    exact h.cn
  unfold c_X9_readLiteral
  rw [ckE_ok ho, ob_s, knd_ok h.h h.f0 h.ci h.i2 hk, ob_s, ob_s, her_ok h.h h.ci h.i2, ob_s, ob_s, num_ok h.h h.ci h.i2, ob_s, gI_ok ho, ob_s, h.ci, nI_1, pI_ok ho, ob_s, gR_ok hsA.o, ob_s, hsA.rc, ob_s, gI_ok hsA.oc, ob_s, cn, ckE_ok hsA.o, ob_s, hx]
/-- a literal in both: k' its act in the reference; tl: what is written of its value there -/
theorem sim_lit {n : Nat} {f : Nat → Int32} {M t c cap q sel : Nat} {ma : Bool} {F i z s p κ : Nat} {cs : CS} {rs : RS} {k' : Int32} (h : PG n f M t c cap q sel ma i z s cs rs) (hk : TK n f i p κ cs rs) (hiM : i < M) (tl : Bool) (hl : (κ = 40 ∧ k' = 1 ∧ tl = true) ∨ (κ = 26 ∧ k' = 2 ∧ tl = false) ∨ (κ = 30 ∧ k' = 3 ∧ tl = false) ∨ (κ = 31 ∧ k' = 4 ∧ tl = false)) : ∃ cs' rs' a, c_X9_readLiteral F cs t = some cs' ∧ (Option.bind (m_make F (setF rs 18 (nI (i + 1))) k' (-1) (-1) (-1) (kA cs 353 9 i) (kA cs 353 9 i)) fun z_56 => if tl = true then (Option.bind (wrL z_56.1 28 121 z_56.2 (kB cs 354 9 i)) fun cs_57 => some (setF cs_57 74 (kA cs 353 9 i), z_56.2)) else some (setF z_56.1 74 (kA cs 353 9 i), z_56.2)) = some (rs', a) ∧ EP n f M t c cap q sel ma i z s cs rs cs' rs' a := by
  have hn := h.next hiM
  have hsi := h.si
  obtain ⟨csA, hcsA⟩ : ∃ x, x = sI cs 328 t (nI (i + 1)) := ⟨_, rfl⟩
  obtain ⟨rsA, hrsA⟩ : ∃ x, x = setF rs 18 (nI (i + 1)) := ⟨_, rfl⟩
  have sqA : SQ t c q sel ma cs rs csA rsA := by
    rw [hcsA, hrsA]
    exact (SQ.text (by decide)).trans (SQ.ref (by unfold eR; omega))
  have VA : VW c csA rsA = VW c cs rs := by rw [hcsA, hrsA]; rfl
  have lc := lit_c (F := F) h hk
  rw [← hcsA] at hn lc
  rw [← hrsA] at hn ⊢
  have κ57 := hk.kl
  have kne : κ ≠ 39 ∧ ¬ (κ = 32 ∨ κ = 33 ∨ κ = 34 ∨ κ = 35 ∨ κ = 61) := by omega
  rcases PG.mk (F := F) (k := nI κ) (bg := kA cs 353 9 i) (mt := kA cs 353 9 i) (pt := 0) (k' := k') (a := -1) (b := -1) (d := -1) (fi := s) hn (by omega) (Nat.le_refl _) with ⟨cs3, rs3, f1, f2, f3, f4, f5, f6, f7, f8, f9, f10, f11⟩ | ⟨cs3, rs3, f1, f2, f3, f4, f5⟩
  · obtain ⟨hcap, hcap2⟩ := f3.cap
    obtain ⟨j69, p69⟩ := f3.ca.p69
    have h120 := f3.s2
    have sqC : SQ t c q sel ma csA rsA cs3 rs3 := by rw [f10, f11]; exact SQ.mk hn.cn (by have := f3.s2; omega)
    obtain ⟨v, hv⟩ : ∃ v, v = kB cs 354 9 i := ⟨_, rfl⟩
    have done : ∀ rsF : RS, SQ t c q sel ma cs3 rs3 (sB cs3 69 c s v) rsF → PG n f M t c cap q sel ma (i + 1) z (s + 1) (sB cs3 69 c s v) rsF → (∀ x, x ≠ s → VW c (sB cs3 69 c s v) rsF x = VW c cs3 rs3 x) → vk (VW c (sB cs3 69 c s v) rsF) s = nI κ → vf (VW c (sB cs3 69 c s v) rsF) s = nI s → vb (VW c (sB cs3 69 c s v) rsF) s = rb (VW c (sB cs3 69 c s v) rsF) s → vs (VW c (sB cs3 69 c s v) rsF) s = -1 → LEAF (VW c (sB cs3 69 c s v) rsF) s → rx (VW c (sB cs3 69 c s v) rsF) s = -1 → EG n f M t c cap q sel ma i z s cs rs (i + 1) (s + 1) (sB cs3 69 c s v) rsF := fun rsF g1 g2 g3 g4 g5 g6 g7 g8 g9 => by
      have k39 : vk (VW c (sB cs3 69 c s v) rsF) s ≠ 39 := by
        rw [g4]
        exact fun y => kne.1 ((nI_eq (b := 39) (by omega) (by decide)).mp y)
      refine EG.of g2 (by omega) (Nat.le_refl _) (by omega) (fun x hx => by rw [g3 x (by omega), f4 x (by omega), VA]) (fun R => ?_) ((sqA.trans sqC).trans g1) (KE.nil.snoc k39 (fun y => absurd y ?_)) (Or.inl k39) g9
      · rw [Nat.sub_self]
        exact ⟨Nat.le_refl _, g5, g6, Or.inl ⟨rfl, Or.inl g7, g8⟩⟩
      · unfold AGN
        rw [g4]
        intro y
        refine kne.2 ?_
        rcases y with y | y | y | y | y
        · exact Or.inl ((nI_eq (b := 32) (by omega) (by decide)).mp y)
        · exact Or.inr (Or.inl ((nI_eq (b := 33) (by omega) (by decide)).mp y))
        · exact Or.inr (Or.inr (Or.inl ((nI_eq (b := 34) (by omega) (by decide)).mp y)))
        · exact Or.inr (Or.inr (Or.inr (Or.inl ((nI_eq (b := 35) (by omega) (by decide)).mp y))))
        · exact Or.inr (Or.inr (Or.inr (Or.inr ((nI_eq (b := 61) (by omega) (by decide)).mp y))))
    have hc : c_X9_readLiteral F cs t = some (sB cs3 69 c s v) := by
      refine lc _ ?_
      rw [f1, ob_s]
      show (Option.bind (gR cs3 10 322 t) fun v_14 => Option.bind (v_14) fun i_16 => Option.bind (ckE cs3 2 i_16) fun _ => Option.bind (c_X1_has F cs3 i_16 (nI s)) fun v_15 => if v_15 = 0 then (c_X9_readLiteral_b65 F cs3) else (Option.bind (gR cs3 10 322 t) fun v_19 => Option.bind (v_19) fun i_20 => Option.bind (gA cs3 2 69 i_20) fun v_21 => Option.bind (wB cs3 69 i_20 v_21 (nI s) (kB cs 354 9 i)) fun cs_22 => c_X9_readLiteral_b65 F cs_22)) = _
      rw [gR_ok f3.h.o, ob_s, f3.h.rc, ob_s, ckE_ok f3.h.oc, ob_s, has_y f3.h.oc f3.ca f3.cn hcap hcap2, ob_s, if_neg (by decide), ob_s, ob_s, gA_ok f3.h.oc, p69, ob_s, wB_n f3.ca.e69 p69 (by rw [f3.ca.l69]; exact hcap) (by rw [f3.ca.l69]; omega), ob_s, ← hv]
      rfl
    have sqE : SQ t c q sel ma cs3 rs3 (sB cs3 69 c s v) rs3 := SQ.codeB (by decide)
    rw [f2, ob_s]
    cases tl with
    | true =>
      have hq : κ = 40 ∧ k' = 1 := by
        rcases hl with y | y | y | y
        · exact ⟨y.1, y.2.1⟩
        · exact absurd y.2.2 (by decide)
        · exact absurd y.2.2 (by decide)
        · exact absurd y.2.2 (by decide)
      have Vs : VW c (sB cs3 69 c s v) (setL rs3 28 s v) s = ((nI κ, nI s, 0, kA cs 353 9 i, v, -1, -1), (k', -1, -1, -1, 0, v, kA cs 353 9 i, -1, 0)) := by rw [V28s, VB69s, f5]
      refine ⟨sB cs3 69 c s v, setF (setL rs3 28 s v) 74 (kA cs 353 9 i), nI s, hc, ?_, Or.inl ⟨i + 1, s + 1, (done (setL rs3 28 s v) (sqE.trans (SQ.refL (by unfold eR; omega))) f3.b69.r28 (fun x hx => by rw [V28 hx, VB69 hx]) (by unfold vk; rw [Vs]) (by unfold vf; rw [Vs]) (by unfold vb rb; rw [Vs]) (by unfold vs; rw [Vs]) (Or.inl ⟨?_, ?_, ?_⟩) (by unfold rx; rw [Vs])).s74, rfl, rfl⟩⟩
      · rw [if_pos rfl, ← hv]
        show Option.bind (wrL rs3 28 121 (nI s) v) _ = _
        rw [wrL_n (by omega) (by decide), ob_s]
      · unfold vk; rw [Vs, hq.1]; show nI 40 = 40; decide
      · unfold rk; rw [Vs]; exact hq.2
      · unfold vn rv'; rw [Vs]
    | false =>
      have Vs : VW c (sB cs3 69 c s v) rs3 s = ((nI κ, nI s, 0, kA cs 353 9 i, v, -1, -1), (k', -1, -1, -1, 0, 0, kA cs 353 9 i, -1, 0)) := by rw [VB69s, f5]
      have lf : LEAF (VW c (sB cs3 69 c s v) rs3) s := by
        unfold LEAF vk rk vn rv'
        rw [Vs]
        rcases hl with y | y | y | y
        · exact absurd y.2.2 (by decide)
        · exact Or.inr (Or.inl ⟨by rw [y.1]; show nI 26 = 26; decide, y.2.1⟩)
        · exact Or.inr (Or.inr (Or.inl ⟨by rw [y.1]; show nI 30 = 30; decide, y.2.1⟩))
        · exact Or.inr (Or.inr (Or.inr (Or.inl ⟨by rw [y.1]; show nI 31 = 31; decide, y.2.1⟩)))
      exact ⟨sB cs3 69 c s v, setF rs3 74 (kA cs 353 9 i), nI s, hc, rfl, Or.inl ⟨i + 1, s + 1, (done rs3 sqE f3.b69 (fun x hx => by rw [VB69 hx]) (by unfold vk; rw [Vs]) (by unfold vf; rw [Vs]) (by unfold vb rb; rw [Vs]) (by unfold vs; rw [Vs]) lf (by unfold rx; rw [Vs])).s74, rfl, rfl⟩⟩
  · have hc : c_X9_readLiteral F cs t = some cs3 := by
      refine lc _ ?_
      rw [f1, ob_s]
      show (Option.bind (gR cs3 10 322 t) fun v_14 => Option.bind (v_14) fun i_16 => Option.bind (ckE cs3 2 i_16) fun _ => Option.bind (c_X1_has F cs3 i_16 (-1)) fun v_15 => if v_15 = 0 then (c_X9_readLiteral_b65 F cs3) else _) = _
      rw [gR_ok f3.s.h.o, ob_s, f3.s.h.rc, ob_s, ckE_ok f3.s.h.oc, ob_s, has_n, ob_s, if_pos rfl]
      rfl
    rw [f2, ob_s]
    cases tl with
    | true =>
      refine ⟨cs3, setF (setL rs3 28 0 (kB cs 354 9 i)) 74 (kA cs 353 9 i), 0, hc, ?_, Or.inr ⟨f3.r28.s74, sqA.1.trans f4, ((sqA.2.1.trans f5).trans (FR.setL (by unfold eR; omega))).trans (FR.setF (by unfold eR; omega))⟩⟩
      rw [if_pos rfl]
      show Option.bind (wrL rs3 28 121 0 (kB cs 354 9 i)) _ = _
      rw [show wrL rs3 28 121 0 (kB cs 354 9 i) = some (setL rs3 28 0 (kB cs 354 9 i)) from wrL_ok (x := 0) (n := 121) rfl (by decide) (by decide), ob_s]
    | false => exact ⟨cs3, setF rs3 74 (kA cs 353 9 i), 0, hc, rfl, Or.inr ⟨f3.s74, sqA.1.trans f4, (sqA.2.1.trans f5).trans (FR.setF (by unfold eR; omega))⟩⟩

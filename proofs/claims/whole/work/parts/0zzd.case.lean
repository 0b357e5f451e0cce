/-! brackets, case, span -/
theorem setF_comm {rs : RS} {a b : Nat} {u v : Int32} (h : a ≠ b) : setF (setF rs a u) b v = setF (setF rs b v) a u := by
  unfold setF
  refine Prod.ext (funext fun x => ?_) rfl
  show upd (upd rs.1 a u) b v x = upd (upd rs.1 b v) a u x
  by_cases y : x = a
  · subst y
    rw [pk_un h, pk_us, pk_us]
  · by_cases w : x = b
    · subst w
      rw [pk_us, pk_un y, pk_us]
    · rw [pk_un w, pk_un y, pk_un y, pk_un w]
/-- the sign that ends a bracket: class before, reference behind the step up -/
theorem PG.shut {n : Nat} {f : Nat → Int32} {M t c cap q sel : Nat} {ma : Bool} {F i z s : Nat} {cs : CS} {rs : RS} (h : PG n f M t c cap q sel ma i (z + 1) s cs rs) : (i < M ∧ c_X9_expect F cs t 42 = some (sI cs 328 t (nI (i + 1))) ∧ m_needSign F (setF rs 70 (nI z)) 41 = some (setF (setF rs 18 (nI (i + 1))) 70 (nI z))) ∨ (∃ cs' rs', c_X9_expect F cs t 42 = some cs' ∧ m_needSign F (setF rs 70 (nI z)) 41 = some rs' ∧ PB t c cs' rs' ∧ SQ t c q sel ma cs rs cs' rs') := by
  obtain ⟨p, κ, hk, hka, hkb, kd, hkl, pr⟩ := h.tok (F := F)
  have hw := ig_ok (F := F) (rs := setF rs 70 (nI z)) (q := 42) h.rise.x h.im (tk_keep (q := q) hk (FO.sI (W := PX t c q) (Or.inl ⟨by decide, rfl⟩)) (FR.setF (k := 70) (v := nI z) (by unfold eR; omega))) h.g1 h.ri (by decide) (by decide)
  rw [show st (nI 42) = 41 by decide] at hw
  have him := h.im
  by_cases y : κ = 42
  · rw [if_pos y] at hw
    have hiM : i < M := by
      rcases Nat.lt_or_ge i M with w | w
      · exact w
      · have := hkb (by omega); omega
    rw [y, show nI 42 = 42 by decide] at kd
    refine Or.inl ⟨hiM, exp_y h.h h.ci kd, ?_⟩
    rw [setF_comm (rs := rs) (a := 18) (b := 70) (by decide)]
    exact ng_y (show (setF rs 70 (nI z)).1 18 = nI i from h.ri) hw
  · rw [if_neg y] at hw
    have ne : nI κ ≠ 42 := fun w => y ((nI_eq (b := 42) (by omega) (by decide)).mp w)
    refine Or.inr ⟨_, _, exp_n h.h h.f0 h.ci h.i2 kd ne, ng_n (show (setF rs 70 (nI z)).1 18 = nI i from h.ri) h.i2 (show (setF rs 70 (nI z)).1 21 = 1 from h.g1) hw, ?_, ?_⟩
    · rw [show (setF rs 70 (nI z)).2.2.1 15 i = kA cs 353 9 i from pr]
      have pb := h.bad (a := 1) (b := kA cs 353 9 i) (by decide)
      exact ⟨pb.s, ⟨rfl, i, h.ri, h.i2⟩, pb.e1, pb.e2⟩
    · exact ((SQ.text (by decide)).trans (SQ.text (by decide))).trans ((((SQ.ref (by unfold eR; omega)).trans (SQ.ref (by unfold eR; omega))).trans (SQ.ref (by unfold eR; omega))).trans (SQ.ref (by unfold eR; omega)))
theorem sim_bra {n : Nat} {f : Nat → Int32} {M t c cap q sel : Nat} {ma : Bool} {F z i s p : Nat} {T : TC_X9_readExpr} {T' : TG_expr} {cs : CS} {rs : RS} (hT : z < 12 → SX n f M t c cap q sel ma (z + 1) T.1 T'.1) (hTf : ∀ x, FS t c x → ∃ b, T.1 x t = some (x, b)) (h : PG n f M t c cap q sel ma i z s cs rs) (hk : TK n f i p 41 cs rs) (hiM : i < M) : ∃ cs' rs' a, (Option.bind (c_X9_deepen F cs t) fun cs_30 => Option.bind (ckE cs_30 10 t) fun _ => Option.bind (c_X9_accept F cs_30 t 41) fun z_32 => Option.bind (ckE z_32.1 10 t) fun _ => Option.bind (T.1 z_32.1 t) fun z_34 => Option.bind (ckE z_34.1 10 t) fun _ => Option.bind (c_X9_expect F z_34.1 t 42) fun cs_36 => Option.bind (gI cs_36 10 329 t) fun v_38 => Option.bind (pI cs_36 10 329 t (v_38 - 1)) fun cs_39 => c_X9_readOne_b191 F T cs_39) = some cs' ∧ (Option.bind (m_deeper F rs (kA cs 353 9 i)) fun cs_49 => if ((setF cs_49 18 ((cs_49.1 18) + 1)).1 21) = 0 then (m_one_b186 F T' (setF cs_49 18 ((cs_49.1 18) + 1)) (kA cs 353 9 i) 0) else (Option.bind (T'.1 (setF cs_49 18 ((cs_49.1 18) + 1)) ) fun z_51 => m_one_b186 F T' z_51.1 (kA cs 353 9 i) z_51.2)) = some (rs', a) ∧ EP n f M t c cap q sel ma i z s cs rs cs' rs' a := by
  obtain ⟨csD, csA, x, rsD, rsA, d1, d2, d3, d4, d5, d6, d7⟩ := h.enter (F := F) hk hiM
  rw [show nI 41 = 41 by decide] at d3
  rw [d1, ob_s, ckE_ok d2, ob_s, d3, ob_s, d5, ob_s, d6]
  show ∃ cs' rs' a, (Option.bind (ckE csA 10 t) fun _ => Option.bind (T.1 csA t) fun z_34 => Option.bind (ckE z_34.1 10 t) fun _ => Option.bind (c_X9_expect F z_34.1 t 42) fun cs_36 => Option.bind (gI cs_36 10 329 t) fun v_38 => Option.bind (pI cs_36 10 329 t (v_38 - 1)) fun cs_39 => some cs_39) = some cs' ∧ _
  rw [ckE_ok d4, ob_s]
  have tailc : ∀ (cs1 : CS), FS t c cs1 → (Option.bind (ckE cs1 10 t) fun _ => Option.bind (c_X9_expect F cs1 t 42) fun cs_36 => Option.bind (gI cs_36 10 329 t) fun v_38 => Option.bind (pI cs_36 10 329 t (v_38 - 1)) fun cs_39 => some cs_39) = some (sI cs1 329 t (kI cs1 329 t - 1)) := fun cs1 hf => by
    rw [ckE_ok hf.h.o, ob_s, expf hf (by decide), ob_s, gI_ok hf.h.o, ob_s, pI_ok hf.h.o, ob_s]
  have tailr : ∀ (rs1 : RS) (y : Int32), FT rs1 → m_one_b186 F T' rs1 (kA cs 353 9 i) y = some (setF (setF rs1 70 (rs1.1 70 - 1)) 74 (kA cs 353 9 i), y) := fun rs1 y hf => by
    obtain ⟨i', j1, j2⟩ := hf.i
    unfold m_one_b186
    rw [ng_f (show (setF rs1 70 (rs1.1 70 - 1)).1 18 = nI i' from j1) j2 (show (setF rs1 70 (rs1.1 70 - 1)).1 21 = 0 from hf.g), ob_s]
    rfl
  rcases d7 with ⟨h12, gc⟩ | ⟨pb, fo, fr⟩
  · obtain ⟨cs1, rs1, a, b, e1, e2, e3, e4⟩ := hT h12 (i + 1) s csA rsA gc.g
    rw [e1, ob_s, if_neg (show ¬ rsA.1 21 = 0 by rw [gc.g.g1]; decide), e2, ob_s]
    rcases e3 with ⟨i1, s1, g, ea, e74⟩ | ⟨pb, fo, fr⟩
    · have cz1 : kI cs1 329 t = nI (z + 1) := g.g.cz
      have rz1 : rs1.1 70 = nI (z + 1) := g.g.rz
      rcases g.g.shut (F := F) with ⟨hi1, u1, u2⟩ | ⟨cs2, rs2, u1, u2, u3, u4⟩
      · have hn := g.g.next hi1
        have hr := hn.rise
        have cz2 : kI (sI cs1 328 t (nI (i1 + 1))) 329 t = nI (z + 1) := hn.cz
        have sqB : SQ t c q sel ma cs1 rs1 (sI (sI cs1 328 t (nI (i1 + 1))) 329 t (nI z)) (setF (setF (setF rs1 18 (nI (i1 + 1))) 70 (nI z)) 74 (kA cs 353 9 i)) := ((SQ.text (by decide)).trans (SQ.text (by decide))).trans (((SQ.ref (by unfold eR; omega)).trans (SQ.ref (by unfold eR; omega))).trans (SQ.ref (by unfold eR; omega)))
        have sqT := (gc.sq.trans g.sq).trans sqB
        have keT := g.ke.keep sqB (fun _ _ _ => rfl)
        have l1 := g.il
        have l2 := g.le
        have l3 := g.sl
        refine ⟨sI (sI cs1 328 t (nI (i1 + 1))) 329 t (nI z), setF (setF (setF rs1 18 (nI (i1 + 1))) 70 (nI z)) 74 (kA cs 353 9 i), a, ?_, ?_, Or.inl ⟨i1 + 1, s1, ⟨hr.s74, by omega, by omega, by omega, fun x hx => (g.kp x hx).trans (gc.kp x hx), fun R => g.tr R, sqT.1, sqT.2.1, keT.co, keT.an, sqT.2.2.1, fun y1 y2 => ?_, sqT.2.2.2.1, g.nx, sqT.2.2.2.2⟩, ea, rfl⟩⟩
        · show (Option.bind (ckE cs1 10 t) fun _ => _) = _
          rw [ckE_ok g.g.h.o, ob_s, u1, ob_s, gI_ok hn.h.o, ob_s, cz2, nI_pred, pI_ok hn.h.o, ob_s]
        · unfold m_one_b186
          rw [rz1, nI_pred, u2, ob_s]
          rfl
        · obtain ⟨j, j1, j2, j3, j4⟩ := g.lf y1 y2
          refine ⟨j, by omega, j2, j3.trans (pl_keep gc.sq.1), ?_⟩
          show i1 + 1 = i + (if rh (VW c cs1 rs1) s = -1 then 1 else 3) + 2 * (j - i)
          rw [j4]
          split <;> omega
      · obtain ⟨p1, p2, p3, p4, p5⟩ := u3.close (F := F) (k := 0) (fi := 0) (bg := 0) (pt := 0) (k' := 0) (a := 0) (b := 0) (d := 0) (u := kA cs 353 9 i) ((gc.sq.trans g.sq).trans u4).1 ((gc.sq.trans g.sq).trans u4).2.1
        refine ⟨sI cs2 329 t (kI cs2 329 t - 1), setF rs2 74 (kA cs 353 9 i), a, ?_, ?_, Or.inr ⟨(u3.ch (by decide)).s74, p4, ((gc.sq.trans g.sq).trans u4).2.1.trans (FR.setF (by unfold eR; omega))⟩⟩
        · show (Option.bind (ckE cs1 10 t) fun _ => _) = _
          rw [ckE_ok g.g.h.o, ob_s, u1, ob_s, gI_ok u3.s.h.o, ob_s, pI_ok u3.s.h.o, ob_s]
        · unfold m_one_b186
          rw [rz1, nI_pred, u2, ob_s]
          rfl
    · obtain ⟨p1, p2, p3, p4, p5⟩ := pb.close (F := F) (k := 0) (fi := 0) (bg := 0) (pt := 0) (k' := 0) (a := 0) (b := 0) (d := 0) (u := kA cs 353 9 i) (gc.sq.1.trans fo) (gc.sq.2.1.trans fr)
      exact ⟨_, _, a, tailc cs1 pb.s, tailr rs1 a pb.r, Or.inr ⟨p3, p4, p5⟩⟩
  · obtain ⟨b, hb⟩ := hTf csA pb.s
    obtain ⟨p1, p2, p3, p4, p5⟩ := pb.close (F := F) (k := 0) (fi := 0) (bg := 0) (pt := 0) (k' := 0) (a := 0) (b := 0) (d := 0) (u := kA cs 353 9 i) fo fr
    rw [hb, ob_s, if_pos pb.r.g]
    exact ⟨_, _, 0, tailc csA pb.s, tailr rsA 0 pb.r, Or.inr ⟨p3, p4, p5⟩⟩

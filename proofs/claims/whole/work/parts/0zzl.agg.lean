/-! an aggregate of both -/
theorem agg_c {n : Nat} {f : Nat → Int32} {M t c cap q sel : Nat} {ma : Bool} {F i z s p κ : Nat} {T : TC_X9_readExpr} {cs : CS} {rs : RS} (h : PG n f M t c cap q sel ma i z s cs rs) (hk : TK n f i p κ cs rs) : cb_X9_readAggregate F T cs t = if kI cs 331 t = 0 then c_X9_readAggregate_b36 F T cs t (kA cs 353 9 i) else oc (kR cs 330 t) (c_X9_readAggregate_b36 F T cs t (kA cs 353 9 i)) (fun i_38 => Option.bind (gI cs 6 203 i_38) fun v_39 => if v_39 < 12 then (c_X9_readAggregate_b60 F T cs t (nI κ) (nI s) (kA cs 353 9 i) i_38) else (Option.bind (ckE cs 10 t) fun _ => Option.bind (c_X9_refuse F cs t 7 (kA cs 353 9 i)) fun cs_41 => c_X9_readAggregate_b60 F T cs_41 t (nI κ) (nI s) (kA cs 353 9 i) i_38)) := by
  have ho := h.h.o
  have kd := knd_ok (F := F) h.h h.f0 h.ci h.i2 hk
  have hh := her_ok (F := F) h.h h.ci h.i2
  unfold cb_X9_readAggregate
  rw [ckE_ok ho, ob_s, kd, ob_s, gR_ok ho, ob_s, h.h.rc, ob_s, gI_ok h.h.oc, ob_s, h.cn, ob_s, hh, ob_s, gR_ok ho, ob_s, gI_ok ho, ob_s]
theorem sim_agg {n : Nat} {f : Nat → Int32} {M t c cap q sel : Nat} {ma : Bool} {F i z s p κ : Nat} {T : TC_X9_readExpr} {T' : TG_expr} {cs : CS} {rs : RS} (hF : 10000 ≤ F) (hT : z < 12 → ∀ q', SX n f M t c cap q' sel false (z + 1) T.1 T'.1) (hTf : ∀ x, FS t c x → ∃ b, T.1 x t = some (x, b)) (h : PG n f M t c cap q sel ma i z s cs rs) (hk : TK n f i p κ cs rs) (hκ : κ = 32 ∨ κ = 33 ∨ κ = 34 ∨ κ = 35) (hiM : i < M) : ∃ cs' rs' a, cb_X9_readAggregate F T cs t = some cs' ∧ b_aggregate F T' rs (kA cs 353 9 i) = some (rs', a) ∧ EP n f M t c cap q sel ma i z s cs rs cs' (setF rs' 74 (kA cs 353 9 i)) a := by
  have ho := h.h.o
  have hi2 := h.i2
  have hmn := h.x.mn
  have hn2 := h.x.n2
  have nz : ¬ (1 : Int32) = 0 := by decide
  have pr : rs.2.2.1 15 i = kA cs 353 9 i := by rw [hk.pr, hk.pc]
  have um : kA cs 353 9 i ≠ -1 := fun w => nI_pos (n := p) (by have := hk.pl; omega) (by rw [← hk.pc, w]; decide)
  obtain ⟨u, hu⟩ : ∃ u, u = kA cs 353 9 i := ⟨_, rfl⟩
  rw [agg_c h hk, ← hu]
  rw [← hu] at um pr
  cases ma with
  | false =>
    have cm0 : kI cs 331 t = 0 := h.cm
    have hb := h.bad (a := 1) (b := u) (by decide)
    have w : rs.1 72 = 0 ∨ rs.1 73 = 1 := by
      rcases h.rm with ⟨w, -⟩ | ⟨-, w⟩
      · exact absurd w (by decide)
      · exact w
    refine ⟨_, _, 0, ?_, ?_, Or.inr ⟨hb.s74, (FO.sI (Or.inl ⟨by decide, rfl⟩)).trans (FO.sI (Or.inl ⟨by decide, rfl⟩)), (((FR.setF (by unfold eR; omega)).trans (FR.setF (by unfold eR; omega))).trans (FR.setF (by unfold eR; omega))).trans (FR.setF (by unfold eR; omega))⟩⟩
    · rw [if_pos cm0]
      unfold c_X9_readAggregate_b36
      rw [ckE_ok ho, ob_s, ref_ok h.h h.f0, ob_s]
    · unfold b_aggregate m_aggregate_b14
      by_cases y : rs.1 72 = 0
      · rw [if_pos y, wro_ok h.g1 h.ri hi2, ob_s, pr]
      · rw [if_neg y, if_neg (show ¬ rs.1 73 = 0 by
          rcases w with w | w
          · exact absurd w y
          · rw [w]; decide), wro_ok h.g1 h.ri hi2, ob_s, pr]
  | true =>
    have cm1 : kI cs 331 t = 1 := h.cm
    have ag := h.ag rfl
    obtain ⟨k, k12, ck, rk', k4, k5, k6⟩ := ag.k
    have rm : rs.1 72 = 1 ∧ rs.1 73 = 0 := by
      rcases h.rm with ⟨-, w1, w2⟩ | ⟨w, -⟩
      · exact ⟨w1, w2⟩
      · exact absurd w (by decide)
    rw [if_neg (show ¬ kI cs 331 t = 0 by rw [cm1]; decide), ag.rq, show ∀ (x : Option CS) (g : Nat → Option CS), oc (some q) x g = g q from fun _ _ => rfl, gI_ok ag.oq, ob_s, ck]
    have s42 : (setI rs 42 sel (nI (k + 1))).2.2.1 42 sel = nI (k + 1) := by
      show upd (rs.2.2.1 42) sel (nI (k + 1)) sel = _
      exact pk_us
    have s42o : ∀ j, j ≠ sel → (setI rs 42 sel (nI (k + 1))).2.2.1 42 j = rs.2.2.1 42 j := fun j hj => by
      show upd (rs.2.2.1 42) sel (nI (k + 1)) j = _
      exact pk_un hj
    have s43 : (setI rs 42 sel (nI (k + 1))).2.2.1 43 = rs.2.2.1 43 := rfl
    have s71 : (setI rs 42 sel (nI (k + 1))).1 71 = nI sel := ag.rs'
    have s1 : (setI rs 42 sel (nI (k + 1))).1 = rs.1 := rfl
    have sV : ∀ c cs, VW c cs (setI rs 42 sel (nI (k + 1))) = VW c cs rs := fun _ _ => rfl
    have sF : FR eR rs (setI rs 42 sel (nI (k + 1))) := FR.setI (by unfold eR; omega)
    obtain ⟨r1, hr1⟩ : ∃ x, x = setI rs 42 sel (nI (k + 1)) := ⟨_, rfl⟩
    rw [← hr1] at s42 s42o s43 s71 s1 sV sF
    unfold b_aggregate
    rw [if_neg (show ¬ rs.1 72 = 0 by rw [rm.1]; decide), if_pos rm.2, ag.rs', rdI_n ag.sl (by decide), ob_s, rk', nI_1, wrI_n ag.sl (by decide), ob_s, ← hr1, s71, rdI_n ag.sl (by decide), ob_s, s42]
    by_cases y : k < 12
    · rw [if_pos (show nI k < 12 from nI_lt (b := 12) y (by decide)), if_neg (show ¬ nI (k + 1) = 13 from fun w => by have := (nI_eq (b := 13) (by omega) (by decide)).mp w; omega)]
      obtain ⟨r2, b1, b2, b3, b4, b5, b6, b7, b8⟩ := b54_ok (F := F) (T' := T') (u := u) s71 ag.sl
      have e2 : r2.1 = rs.1 := b2.trans s1
      have fr2 := sF.trans b6
      rw [b1, kag_60, ckE_ok ho, ob_s, mag_77]
      by_cases h12 : z < 12
      · rw [dee_ok h.h h.cz h12, ob_s, mde_ok (show r2.1 70 = nI z by rw [e2]; exact h.rz) h12, ob_s]
        refine agg_go hF (hT h12) hTf h hk hκ hiM h12 y ck e2 (by rw [b3]; exact s42) (fun w => ?_) (fun w => ?_) um hu fr2 (fun c cs => by rw [b7, sV]) (fun j hj => ⟨by rw [b3]; exact s42o j hj, by rw [b8 j hj, s43]⟩)
        · exact b4 (by rw [s43]; exact k4 w)
        · obtain ⟨x, x1, x2, x3, x4⟩ := k5 w
          have v := b5 (by rw [s43]; exact x4)
          exact ⟨x, x1, x2, by rw [v, s43]; exact x3, by rw [v, s43]; exact x4⟩
      · have ez : z = 12 := by have := h.z2; omega
        subst ez
        have pb0 := (h.jt.ra fr2 e2).bad (a := 7) (b := u) (by decide)
        have pb1 : PB t c (sI (sI (sI cs 320 t 7) 321 t u) 329 t (nI (12 + 1))) (setF (setF (setF (setF r2 70 (nI 13)) 21 0) 19 7) 20 u) := by
          have := (pb0.ch (k := 329) (v := nI (12 + 1)) (by decide))
          exact ⟨this.s, ⟨rfl, i, by show r2.1 18 = _; rw [e2]; exact h.ri, hi2⟩, this.e1, this.e2⟩
        rw [dee_b h.h h.f0 h.ci hi2 h.cz (Nat.le_refl _) (by decide), ob_s, ← hu, mde_b (show r2.1 21 = 1 by rw [e2]; exact h.g1) (show r2.1 70 = nI 12 by rw [e2]; exact h.rz), ob_s]
        obtain ⟨cs', m1, m2, m3⟩ := kag1_f (F := F) (T := T) (q := q) (u := q) (u1 := nI κ) (u2 := nI s) (u3 := u) hTf pb1 (by rcases hκ with w | w | w | w <;> rw [w] <;> decide)
        obtain ⟨rs', p1, p2, p3⟩ := mag1_f (F := F) (T' := T') (u1 := u) (i := i) m2 (by show r2.1 18 = _; rw [e2]; exact h.ri) (by omega)
        exact ⟨cs', rs', 0, m1, p1, Or.inr ⟨p2.s74, (((FO.sI (Or.inl ⟨by decide, rfl⟩)).trans (FO.sI (Or.inl ⟨by decide, rfl⟩))).trans (FO.sI (Or.inl ⟨by decide, rfl⟩))).trans m3, (((fr2.trans ((((FR.setF (by unfold eR; omega)).trans (FR.setF (by unfold eR; omega))).trans (FR.setF (by unfold eR; omega))).trans (FR.setF (by unfold eR; omega)))).trans p3)).trans (FR.setF (by unfold eR; omega))⟩⟩
    · have ek : k = 12 := by omega
      subst ek
      have j1 := h.jt.ra sF s1
      have pb := j1.bad (a := 7) (b := u) (by decide)
      rw [if_neg (show ¬ nI 12 < 12 by decide), if_pos (show nI (12 + 1) = 13 by decide), ckE_ok ho, ob_s, ref_ok h.h h.f0, ob_s, tel_ok j1.g1, ob_s]
      obtain ⟨r2, b1, b2, b3, b4, b5, b6, b7, b8⟩ := b54_ok (F := F) (T' := T') (u := u) (rs := setF (setF (setF r1 21 0) 19 7) 20 u) s71 ag.sl
      rw [b1]
      have pb2 := pb.ra b2
      obtain ⟨cs', m1, m2, m3⟩ := kag_f (F := F) (T := T) (q := q) (u := q) (u1 := nI κ) (u2 := nI s) (u3 := u) hTf pb2 (by rcases hκ with w | w | w | w <;> rw [w] <;> decide)
      obtain ⟨rs', p1, p2, p3⟩ := mag_f (F := F) (T' := T') (u1 := u) (i := i) m2 (by rw [b2]; exact j1.ri) (by omega)
      exact ⟨cs', rs', 0, m1, p1, Or.inr ⟨p2.s74, ((FO.sI (Or.inl ⟨by decide, rfl⟩)).trans (FO.sI (Or.inl ⟨by decide, rfl⟩))).trans m3, ((((sF.trans (((FR.setF (by unfold eR; omega)).trans (FR.setF (by unfold eR; omega))).trans (FR.setF (by unfold eR; omega)))).trans b6).trans p3)).trans (FR.setF (by unfold eR; omega))⟩⟩

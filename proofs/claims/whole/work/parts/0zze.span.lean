/-! case, span -/
def kst (F : Nat) (T : TC_X9_readExpr) (w : Int32) (t : Nat) (K : CS → Option CS) (cs : CS) : Option CS := Option.bind (ckE cs 10 t) fun _ => Option.bind (c_X9_expect F cs t w) fun cs_18 => Option.bind (ckE cs_18 10 t) fun _ => Option.bind (T.1 cs_18 t) fun z_20 => K z_20.1
def ken (F : Nat) (w k fi bg pt : Int32) (t : Nat) (cs : CS) : Option CS := Option.bind (ckE cs 10 t) fun _ => Option.bind (c_X9_expect F cs t w) fun cs_22 => Option.bind (gI cs_22 10 329 t) fun v_24 => Option.bind (pI cs_22 10 329 t (v_24 - 1)) fun cs_25 => Option.bind (ckE cs_25 10 t) fun _ => Option.bind (c_X9_complete F cs_25 t k fi bg bg pt) fun z_26 => some z_26.1
theorem kst_ok {F t : Nat} {T : TC_X9_readExpr} {w b : Int32} {K : CS → Option CS} {cs cs2 cs3 : CS} (h1 : (10, t) ∈ kE cs) (h2 : c_X9_expect F cs t w = some cs2) (h3 : (10, t) ∈ kE cs2) (h4 : T.1 cs2 t = some (cs3, b)) : kst F T w t K cs = K cs3 := by
  unfold kst
  rw [ckE_ok h1, ob_s, h2, ob_s, ckE_ok h3, ob_s, h4, ob_s]
theorem kst_f {F t c : Nat} {T : TC_X9_readExpr} {w : Int32} {K : CS → Option CS} {cs : CS} (hTf : ∀ x, FS t c x → ∃ b, T.1 x t = some (x, b)) (h : FS t c cs) (hw : w ≠ 57) : kst F T w t K cs = K cs := by
  obtain ⟨b, hb⟩ := hTf cs h
  exact kst_ok h.h.o (expf h hw) h.h.o hb
theorem ken_f {F t c : Nat} {w k fi bg pt : Int32} {cs : CS} {rs : RS} (h : PB t c cs rs) (hw : w ≠ 57) : ken F w k fi bg pt t cs = some (sI cs 329 t (kI cs 329 t - 1)) := by
  unfold ken
  rw [ckE_ok h.s.h.o, ob_s, expf h.s hw, ob_s]
  exact (h.close (q := 0) (rs0 := rs) (k' := 0) (a := 0) (b := 0) (d := 0) (u := 0) (FO.refl cs) (FR.refl rs)).1
theorem b300_f {F : Nat} {T' : TG_expr} {rs : RS} {u a b y : Int32} (h : FT rs) : m_one_b300 F T' rs u a b y = some (setF (setF rs 70 (rs.1 70 - 1)) 74 u, 0) := by
  obtain ⟨i, j1, j2⟩ := h.i
  have hf : FT (setF rs 70 (rs.1 70 - 1)) := ⟨h.g, i, j1, j2⟩
  unfold m_one_b300
  rw [nw_f j1 j2 h.g, ob_s, mk_f hf, ob_s]
  rfl
theorem b276_f {F : Nat} {T' : TG_expr} {rs : RS} {u a y : Int32} (h : FT rs) : m_one_b276 F T' rs u a y = some (setF (setF rs 70 (rs.1 70 - 1)) 74 u, 0) := by
  obtain ⟨i, j1, j2⟩ := h.i
  unfold m_one_b276
  rw [nw_f j1 j2 h.g, ob_s, if_pos h.g, b300_f h]
theorem b253_f {F : Nat} {T' : TG_expr} {rs : RS} {u y : Int32} (h : FT rs) : m_one_b253 F T' rs u y = some (setF (setF rs 70 (rs.1 70 - 1)) 74 u, 0) := by
  obtain ⟨i, j1, j2⟩ := h.i
  unfold m_one_b253
  rw [nw_f j1 j2 h.g, ob_s, if_pos h.g, b276_f h]
theorem b404_f {F : Nat} {T' : TG_expr} {rs : RS} {u a y : Int32} (h : FT rs) : m_one_b404 F T' rs u a y = some (setF (setF rs 70 (rs.1 70 - 1)) 74 u, 0) := by
  obtain ⟨i, j1, j2⟩ := h.i
  have hf : FT (setF rs 70 (rs.1 70 - 1)) := ⟨h.g, i, j1, j2⟩
  unfold m_one_b404
  rw [ng_f j1 j2 h.g, ob_s, mk_f hf, ob_s]
  rfl
theorem b382_f {F : Nat} {T' : TG_expr} {rs : RS} {u y : Int32} (h : FT rs) : m_one_b382 F T' rs u y = some (setF (setF rs 70 (rs.1 70 - 1)) 74 u, 0) := by
  obtain ⟨i, j1, j2⟩ := h.i
  unfold m_one_b382
  rw [ng_f j1 j2 h.g, ob_s, if_pos h.g, b404_f h]
theorem sim_case {n : Nat} {f : Nat → Int32} {M t c cap q sel : Nat} {ma : Bool} {F z i s p : Nat} {T : TC_X9_readExpr} {T' : TG_expr} {cs : CS} {rs : RS} (hF : 10000 ≤ F) (hT : z < 12 → SX n f M t c cap q sel ma (z + 1) T.1 T'.1) (hTf : ∀ x, FS t c x → ∃ b, T.1 x t = some (x, b)) (h : PG n f M t c cap q sel ma i z s cs rs) (hk : TK n f i p 19 cs rs) (hiM : i < M) : ∃ cs' rs' a, cb_X9_readCase F T cs t = some cs' ∧ (Option.bind (m_deeper F rs (kA cs 353 9 i)) fun cs_45 => Option.bind (m_needWord F (setF cs_45 18 ((cs_45.1 18) + 1)) 17) fun cs_46 => if (cs_46.1 21) = 0 then (m_one_b253 F T' cs_46 (kA cs 353 9 i) 0) else (Option.bind (T'.1 cs_46 ) fun z_48 => m_one_b253 F T' z_48.1 (kA cs 353 9 i) z_48.2)) = some (rs', a) ∧ EP n f M t c cap q sel ma i z s cs rs cs' rs' a := by
  have ho := h.h.o
  obtain ⟨csD, csA, x, rsD, rsA, d1, d2, d3, d4, d5, d6, d7⟩ := h.enter (F := F) hk hiM
  rw [show nI 19 = 19 by decide] at d3
  obtain ⟨u, hu⟩ : ∃ u, u = kA cs 353 9 i := ⟨_, rfl⟩
  have hc : cb_X9_readCase F T cs t = kst F T 20 t (kst F T 21 t (kst F T 22 t (ken F 23 19 (nI s) u 3 t))) csA := by
    unfold cb_X9_readCase
    rw [gR_ok ho, ob_s, h.h.rc, ob_s, gI_ok h.h.oc, ob_s, h.cn, ckE_ok ho, ob_s, her_ok (F := F) h.h h.ci h.i2, ob_s, ob_s, d1, ob_s, ckE_ok d2, ob_s, d3, ob_s, hu]
    rfl
  rw [hc, d5, ob_s, d6, ← hu]
  rcases d7 with ⟨h12, gc⟩ | ⟨pb, fo, fr⟩
  · have hX := hT h12
    have n0 := gc.g.need (F := F) (x := 17) hF (by decide) (by decide)
    rw [show nI (swK 17) = 20 by decide] at n0
    obtain ⟨cs2, rs2, cs3, rs3, a1, b1, e1, e2, e3, e4, e5, e6, e7⟩ := gc.step hX hTf n0
    rw [kst_ok d4 e1 e3 e5, e2, ob_s, (show (if rs2.1 21 = 0 then m_one_b253 F T' rs2 u 0 else Option.bind (T'.1 rs2) fun z_48 => m_one_b253 F T' z_48.1 u z_48.2) = m_one_b253 F T' rs3 u a1 from e6 (fun r y => m_one_b253 F T' r u y))]
    rcases e7 with ⟨i1, s1, l1, ea1, g1⟩ | ⟨pb, fo, fr⟩
    · have n1 := g1.g.need (F := F) (x := 18) hF (by decide) (by decide)
      rw [show nI (swK 18) = 21 by decide] at n1
      obtain ⟨cs4, rs4, cs5, rs5, a2, b2, f1, f2, f3, f4, f5, f6, f7⟩ := g1.step hX hTf n1
      unfold m_one_b253
      rw [kst_ok e4 f1 f3 f5, f2, ob_s, (show (if rs4.1 21 = 0 then m_one_b276 F T' rs4 u a1 0 else Option.bind (T'.1 rs4) fun z_48 => m_one_b276 F T' z_48.1 u a1 z_48.2) = m_one_b276 F T' rs5 u a1 a2 from f6 (fun r y => m_one_b276 F T' r u a1 y))]
      rcases f7 with ⟨i2, s2, l2, ea2, g2⟩ | ⟨pb, fo, fr⟩
      · have n2 := g2.g.need (F := F) (x := 19) hF (by decide) (by decide)
        rw [show nI (swK 19) = 22 by decide] at n2
        obtain ⟨cs6, rs6, cs7, rs7, a3, b3, k1, k2, k3, k4, k5, k6, k7⟩ := g2.step hX hTf n2
        unfold m_one_b276
        rw [kst_ok f4 k1 k3 k5, k2, ob_s, (show (if rs6.1 21 = 0 then m_one_b300 F T' rs6 u a1 a2 0 else Option.bind (T'.1 rs6) fun z_48 => m_one_b300 F T' z_48.1 u a1 a2 z_48.2) = m_one_b300 F T' rs7 u a1 a2 a3 from k6 (fun r y => m_one_b300 F T' r u a1 a2 y))]
        rcases k7 with ⟨i3, s3, l3, ea3, g3⟩ | ⟨pb, fo, fr⟩
        · have n3 := g3.g.need (F := F) (x := 20) hF (by decide) (by decide)
          rw [show nI (swK 20) = 23 by decide] at n3
          obtain ⟨cs8, rs8, cs9, rs9, m, c1, c2, c3, c4, c5⟩ := g3.close (F := F) (k := 19) (bg := u) (pt := 3) (k' := 18) (a := a1) (b := a2) (d := a3) n3 (by omega) (by decide) (by decide) (fun W hQ hv R => by
            obtain ⟨⟨⟨-, t1⟩, t2⟩, t3⟩ := hQ
            obtain ⟨v, hv⟩ := hv
            exact ⟨by omega, by unfold vf; rw [hv], by unfold vb rb; rw [hv], Or.inr (Or.inr (Or.inr (Or.inl ⟨s1, s2, by omega, by omega, by omega, by unfold vp; rw [hv], by unfold vk; rw [hv], by unfold rk; rw [hv], by unfold rl; rw [hv]; exact ea1, by unfold rr; rw [hv]; exact ea2, by unfold rt; rw [hv]; exact ea3, (t1 R).le (by omega), (t2 R).le (by omega), (t3 R).le (by omega)⟩)))⟩) hu
          refine ⟨cs9, setF rs9 74 u, m, ?_, ?_, c5⟩
          · unfold ken
            rw [ckE_ok k4, ob_s, c1, ob_s]
            exact c3
          · unfold m_one_b300
            rw [c2, ob_s, c4, ob_s]
            rfl
        · obtain ⟨-, -, p3, p4, p5⟩ := pb.close (F := F) (k := 0) (fi := 0) (bg := 0) (pt := 0) (k' := 0) (a := 0) (b := 0) (d := 0) (u := u) fo fr
          exact ⟨_, _, 0, ken_f pb (by decide), b300_f pb.r, Or.inr ⟨p3, p4, p5⟩⟩
      · obtain ⟨-, -, p3, p4, p5⟩ := pb.close (F := F) (k := 0) (fi := 0) (bg := 0) (pt := 0) (k' := 0) (a := 0) (b := 0) (d := 0) (u := u) fo fr
        exact ⟨_, _, 0, (kst_f hTf pb.s (by decide)).trans (ken_f pb (by decide)), b276_f pb.r, Or.inr ⟨p3, p4, p5⟩⟩
    · obtain ⟨-, -, p3, p4, p5⟩ := pb.close (F := F) (k := 0) (fi := 0) (bg := 0) (pt := 0) (k' := 0) (a := 0) (b := 0) (d := 0) (u := u) fo fr
      exact ⟨_, _, 0, (kst_f hTf pb.s (by decide)).trans ((kst_f hTf pb.s (by decide)).trans (ken_f pb (by decide))), b253_f pb.r, Or.inr ⟨p3, p4, p5⟩⟩
  · obtain ⟨-, -, p3, p4, p5⟩ := pb.close (F := F) (k := 0) (fi := 0) (bg := 0) (pt := 0) (k' := 0) (a := 0) (b := 0) (d := 0) (u := u) fo fr
    obtain ⟨i', j1, j2⟩ := pb.r.i
    rw [nw_f j1 j2 pb.r.g, ob_s, if_pos pb.r.g]
    exact ⟨_, _, 0, (kst_f hTf pb.s (by decide)).trans ((kst_f hTf pb.s (by decide)).trans ((kst_f hTf pb.s (by decide)).trans (ken_f pb (by decide)))), b253_f pb.r, Or.inr ⟨p3, p4, p5⟩⟩
theorem sim_span {n : Nat} {f : Nat → Int32} {M t c cap q sel : Nat} {ma : Bool} {F z i s p : Nat} {T : TC_X9_readExpr} {T' : TG_expr} {cs : CS} {rs : RS} (hT : z < 12 → SX n f M t c cap q sel ma (z + 1) T.1 T'.1) (hTf : ∀ x, FS t c x → ∃ b, T.1 x t = some (x, b)) (h : PG n f M t c cap q sel ma i z s cs rs) (hk : TK n f i p 36 cs rs) (hiM : i < M) : ∃ cs' rs' a, cb_X9_readSpan F T cs t = some cs' ∧ (Option.bind (m_deeper F rs (kA cs 353 9 i)) fun cs_41 => Option.bind (m_needSign F (setF cs_41 18 ((cs_41.1 18) + 1)) 40) fun cs_42 => if (cs_42.1 21) = 0 then (m_one_b382 F T' cs_42 (kA cs 353 9 i) 0) else (Option.bind (T'.1 cs_42 ) fun z_44 => m_one_b382 F T' z_44.1 (kA cs 353 9 i) z_44.2)) = some (rs', a) ∧ EP n f M t c cap q sel ma i z s cs rs cs' rs' a := by
  have ho := h.h.o
  obtain ⟨csD, csA, x, rsD, rsA, d1, d2, d3, d4, d5, d6, d7⟩ := h.enter (F := F) hk hiM
  rw [show nI 36 = 36 by decide] at d3
  obtain ⟨u, hu⟩ : ∃ u, u = kA cs 353 9 i := ⟨_, rfl⟩
  have hc : cb_X9_readSpan F T cs t = kst F T 41 t (kst F T 43 t (ken F 42 36 (nI s) u 2 t)) csA := by
    unfold cb_X9_readSpan
    rw [gR_ok ho, ob_s, h.h.rc, ob_s, gI_ok h.h.oc, ob_s, h.cn, ckE_ok ho, ob_s, her_ok (F := F) h.h h.ci h.i2, ob_s, ob_s, d1, ob_s, ckE_ok d2, ob_s, d3, ob_s, hu]
    rfl
  rw [hc, d5, ob_s, d6, ← hu]
  rcases d7 with ⟨h12, gc⟩ | ⟨pb, fo, fr⟩
  · have hX := hT h12
    have n0 := gc.g.needS (F := F) (k := 41) (by decide) (by decide)
    rw [show nI 41 = 41 by decide, show st 41 = 40 by decide] at n0
    obtain ⟨cs2, rs2, cs3, rs3, a1, b1, e1, e2, e3, e4, e5, e6, e7⟩ := gc.step hX hTf n0
    rw [kst_ok d4 e1 e3 e5, e2, ob_s, (show (if rs2.1 21 = 0 then m_one_b382 F T' rs2 u 0 else Option.bind (T'.1 rs2) fun z_48 => m_one_b382 F T' z_48.1 u z_48.2) = m_one_b382 F T' rs3 u a1 from e6 (fun r y => m_one_b382 F T' r u y))]
    rcases e7 with ⟨i1, s1, l1, ea1, g1⟩ | ⟨pb, fo, fr⟩
    · have n1 := g1.g.needS (F := F) (k := 43) (by decide) (by decide)
      rw [show nI 43 = 43 by decide, show st 43 = 44 by decide] at n1
      obtain ⟨cs4, rs4, cs5, rs5, a2, b2, f1, f2, f3, f4, f5, f6, f7⟩ := g1.step hX hTf n1
      unfold m_one_b382
      rw [kst_ok e4 f1 f3 f5, f2, ob_s, (show (if rs4.1 21 = 0 then m_one_b404 F T' rs4 u a1 0 else Option.bind (T'.1 rs4) fun z_48 => m_one_b404 F T' z_48.1 u a1 z_48.2) = m_one_b404 F T' rs5 u a1 a2 from f6 (fun r y => m_one_b404 F T' r u a1 y))]
      rcases f7 with ⟨i2, s2, l2, ea2, g2⟩ | ⟨pb, fo, fr⟩
      · have n3 := g2.g.needS (F := F) (k := 42) (by decide) (by decide)
        rw [show nI 42 = 42 by decide, show st 42 = 41 by decide] at n3
        obtain ⟨cs8, rs8, cs9, rs9, m, c1, c2, c3, c4, c5⟩ := g2.close (F := F) (k := 36) (bg := u) (pt := 2) (k' := 19) (a := a1) (b := a2) (d := -1) n3 (by omega) (by decide) (by decide) (fun W hQ hv R => by
          obtain ⟨⟨-, t1⟩, t2⟩ := hQ
          obtain ⟨v, hv⟩ := hv
          refine ⟨by omega, by unfold vf; rw [hv], by unfold vb rb; rw [hv], Or.inr (Or.inr (Or.inl ⟨s1, by omega, by omega, ?_, by unfold rl; rw [hv]; exact ea1, by unfold rr; rw [hv]; exact ea2, (t1 R).le (by omega), (t2 R).le (by omega)⟩))⟩
          unfold BIN vp vk rk rh
          rw [hv]
          exact ⟨rfl, Or.inr (Or.inr (Or.inr (Or.inr (Or.inr (Or.inr (Or.inr (Or.inl ⟨rfl, rfl⟩)))))))⟩) hu
        refine ⟨cs9, setF rs9 74 u, m, ?_, ?_, c5⟩
        · unfold ken
          rw [ckE_ok f4, ob_s, c1, ob_s]
          exact c3
        · unfold m_one_b404
          rw [c2, ob_s, c4, ob_s]
          rfl
      · obtain ⟨-, -, p3, p4, p5⟩ := pb.close (F := F) (k := 0) (fi := 0) (bg := 0) (pt := 0) (k' := 0) (a := 0) (b := 0) (d := 0) (u := u) fo fr
        exact ⟨_, _, 0, ken_f pb (by decide), b404_f pb.r, Or.inr ⟨p3, p4, p5⟩⟩
    · obtain ⟨-, -, p3, p4, p5⟩ := pb.close (F := F) (k := 0) (fi := 0) (bg := 0) (pt := 0) (k' := 0) (a := 0) (b := 0) (d := 0) (u := u) fo fr
      exact ⟨_, _, 0, (kst_f hTf pb.s (by decide)).trans (ken_f pb (by decide)), b382_f pb.r, Or.inr ⟨p3, p4, p5⟩⟩
  · obtain ⟨-, -, p3, p4, p5⟩ := pb.close (F := F) (k := 0) (fi := 0) (bg := 0) (pt := 0) (k' := 0) (a := 0) (b := 0) (d := 0) (u := u) fo fr
    obtain ⟨i', j1, j2⟩ := pb.r.i
    rw [ng_f j1 j2 pb.r.g, ob_s, if_pos pb.r.g]
    exact ⟨_, _, 0, (kst_f hTf pb.s (by decide)).trans ((kst_f hTf pb.s (by decide)).trans (ken_f pb (by decide))), b382_f pb.r, Or.inr ⟨p3, p4, p5⟩⟩

/-! the ninth member of a list: both tell, and the same -/
theorem ninth {n : Nat} {f : Nat → Int32} {M t c cap q sel : Nat} {ma : Bool} {F i z s : Nat} {T : TC_X9_readExpr} {T' : TG_expr} {cs : CS} {rs : RS} (hF : 10000 ≤ F) (hT : SE n f M t c cap q sel ma z T.2.2.2.2.1 T'.2.2.2.2.1) (hN : ∀ (p κ : Nat), TK n f i p κ cs rs → c_X9_beginsExpr F cs t (nI κ) 0 = some 0 → T.2.2.2.2.1 cs t = some (sI (sI cs 320 t 1) 321 t (kA cs 353 9 i))) (hf : ∀ r, FT r → T'.2.2.2.2.1 r = some (r, 0)) (h : PG n f M t c cap q sel ma i z s cs rs) (G : RS × Int32 → Option (RS × Int32)) : ∃ cs5 rs5 a, c_X9_refuseNinth F cs t 1 0 = some cs5 ∧ (Option.bind (m_begins F rs 1) fun v_18 => if v_18 = 0 then (Option.bind (T'.2.2.2.2.1 rs) G) else (Option.bind (rdI (rs.2.2.1 15) 2001 (rs.1 18)) fun v_20 => Option.bind (m_tell F rs 7 v_20) fun cs_21 => Option.bind (T'.2.2.2.2.1 cs_21) G)) = G (rs5, a) ∧ PB t c cs5 rs5 ∧ FO (PX t c q) cs cs5 ∧ FR eR rs rs5 := by
  have ho := h.h.o
  have nz : ¬ (1 : Int32) = 0 := by decide
  obtain ⟨p, κ, hk, -, -, kd, hkl, pr⟩ := h.tok (F := F)
  obtain ⟨b, b1, b2, b3⟩ := sim_beg (F := F) (x1 := 1) (x2 := 0) hF h hk (Or.inl ⟨rfl, rfl⟩)
  have hh := her_ok (F := F) h.h h.ci h.i2
  have fo : ∀ v, FO (PX t c q) cs (sI (sI cs 320 t v) 321 t (kA cs 353 9 i)) := fun v => (FO.sI (Or.inl ⟨by decide, rfl⟩)).trans (FO.sI (Or.inl ⟨by decide, rfl⟩))
  unfold c_X9_refuseNinth c_X9_refuseNinth_b23 c_X9_refuseNinth_b30
  rw [if_neg nz, ckE_ok ho, ob_s, kd, ob_s, ob_s, b2, ob_s]
  rcases b3 with e | e
  · subst e
    rw [if_pos rfl, ob_s, hh, ob_s, ob_s, ref_ok h.h h.f0, ob_s, b1, ob_s, if_pos rfl]
    obtain ⟨cs', rs', a, e1, e2, e3⟩ := hT i s cs rs h
    have e4 : cs' = sI (sI cs 320 t 1) 321 t (kA cs 353 9 i) := Option.some.inj (e1.symm.trans (hN p κ hk b2))
    subst e4
    rw [e2, ob_s]
    rcases e3 with ⟨i', s', g, -, -⟩ | ⟨pb, -, fr⟩
    · exact absurd g.g.f0 (h.bad (a := 1) (b := kA cs 353 9 i) (by decide)).s.f
    · exact ⟨_, rs', a, rfl, rfl, pb, fo 1, fr⟩
  · subst e
    have pb := h.bad (a := 7) (b := kA cs 353 9 i) (by decide)
    rw [if_neg nz, ob_s, hh, ob_s, ob_s, ref_ok h.h h.f0, ob_s, b1, ob_s, if_neg nz, h.ri, rdI_n h.i2 (by decide), ob_s, pr, tel_ok h.g1, ob_s, hf _ pb.r, ob_s]
    exact ⟨_, _, 0, rfl, rfl, pb, fo 7, ((FR.setF (by unfold eR; omega)).trans (FR.setF (by unfold eR; omega))).trans (FR.setF (by unfold eR; omega))⟩

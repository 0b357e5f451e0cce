/-! a whole EXPR that is the ninth -/
theorem beg1_no {F t κ : Nat} {cs : CS} (hκ : κ < 60) (hb : c_X9_beginsExpr F cs t (nI κ) 1 = some 0) : c_X9_beginsExpr F cs t (nI κ) 0 = some 0 ∧ κ ≠ 25 := by
  have ne : ∀ x v, v = nI x → x < 60 → κ ≠ x → ¬ nI κ = v := fun x v hv hx hκ' y => by
    rw [hv] at y
    exact hκ' ((nI_eq (by omega) (by omega)).mp y)
  by_cases y25 : κ = 25
  · subst y25
    unfold c_X9_beginsExpr at hb
    rw [if_neg (by decide), if_pos (by decide)] at hb
    exact absurd hb (by decide)
  · refine ⟨?_, y25⟩
    by_cases y19 : κ = 19
    · subst y19
      unfold c_X9_beginsExpr at hb ⊢
      rw [if_pos (by decide)] at hb ⊢
      exact hb
    · unfold c_X9_beginsExpr at hb ⊢
      rw [if_neg (ne 19 19 (by decide) (by decide) y19), if_neg (ne 25 25 (by decide) (by decide) y25)] at hb ⊢
      exact hb
theorem cn_test {n : Nat} {f : Nat → Int32} {M t c cap q sel : Nat} {ma : Bool} {F i z s : Nat} {T : TC_X9_readExpr} {cs : CS} {rs : RS} (h : PG n f M t c cap q sel ma i z s cs rs) (hT : T.2.2.2.2.1 cs t = some (sI (sI cs 320 t 1) 321 t (kA cs 353 9 i))) : cb_X9_readTest F T cs t = some (sI (sI cs 320 t 1) 321 t (kA cs 353 9 i)) := by
  have pb := h.bad (a := 1) (b := kA cs 353 9 i) (by decide)
  obtain ⟨cs1, hcs1⟩ : ∃ x, x = sI (sI cs 320 t 1) 321 t (kA cs 353 9 i) := ⟨_, rfl⟩
  rw [← hcs1] at pb hT ⊢
  obtain ⟨v, hv⟩ := herf (F := F) pb.s
  unfold cb_X9_readTest c_X9_readTest_b282
  rw [gR_ok h.h.o, ob_s, h.h.rc, ob_s, gI_ok h.h.oc, ob_s, ckE_ok h.h.o, ob_s, her_ok (F := F) h.h h.ci h.i2, ob_s, ob_s, hT, ob_s, ckE_ok pb.s.h.o, ob_s, hv, ob_s, ob_s, knd_f pb.s.h pb.s.f, ob_s]
  simp only [show ¬ (57 : Int32) = 24 by decide, show ¬ (57 : Int32) = 25 by decide, show ¬ (57 : Int32) = 27 by decide, show ¬ (57 : Int32) = 50 by decide, show ¬ (57 : Int32) = 51 by decide, show ¬ (57 : Int32) = 52 by decide, show ¬ (57 : Int32) = 53 by decide, show ¬ (57 : Int32) = 54 by decide, show ¬ (57 : Int32) = 55 by decide, if_false]
theorem cn_neg {n : Nat} {f : Nat → Int32} {M t c cap q sel : Nat} {ma : Bool} {F i z s p κ : Nat} {T : TC_X9_readExpr} {cs : CS} {rs : RS} (h : PG n f M t c cap q sel ma i z s cs rs) (hk : TK n f i p κ cs rs) (y25 : κ ≠ 25) (hT : T.2.2.2.1 cs t = some (sI (sI cs 320 t 1) 321 t (kA cs 353 9 i))) : cb_X9_readNegation F T cs t = some (sI (sI cs 320 t 1) 321 t (kA cs 353 9 i)) := by
  have hkl := hk.kl
  have kd := knd_ok (F := F) h.h h.f0 h.ci h.i2 hk
  unfold cb_X9_readNegation
  rw [ckE_ok h.h.o, ob_s, kd, ob_s, if_neg (show ¬ nI κ = 25 from fun w => y25 ((nI_eq (b := 25) (by omega) (by decide)).mp w)), ob_s, hT, ob_s]
theorem cn_conj {n : Nat} {f : Nat → Int32} {M t c cap q sel : Nat} {ma : Bool} {F v i z s : Nat} {T : TC_X9_readExpr} {cs : CS} {rs : RS} (hF : F = v + 1) (h : PG n f M t c cap q sel ma i z s cs rs) (hT : T.2.2.1 cs t = some (sI (sI cs 320 t 1) 321 t (kA cs 353 9 i))) : cb_X9_readConjunction F T cs t = some (sI (sI cs 320 t 1) 321 t (kA cs 353 9 i)) := by
  have pb := h.bad (a := 1) (b := kA cs 353 9 i) (by decide)
  unfold cb_X9_readConjunction
  rw [gR_ok h.h.o, ob_s, h.h.rc, ob_s, gI_ok h.h.oc, ob_s, ckE_ok h.h.o, ob_s, her_ok (F := F) h.h h.ci h.i2, ob_s, ob_s, hT, ob_s]
  generalize hG : F = G
  rw [hG] at hF
  subst hF
  exact cf_conj_L pb.s
theorem cn_expr {n : Nat} {f : Nat → Int32} {M t c cap q sel : Nat} {ma : Bool} {F v i z s : Nat} {T : TC_X9_readExpr} {cs : CS} {rs : RS} (hF : F = v + 1) (h : PG n f M t c cap q sel ma i z s cs rs) (hT : T.2.1 cs t = some (sI (sI cs 320 t 1) 321 t (kA cs 353 9 i))) : ∃ b, cb_X9_readExpr F T cs t = some (sI (sI cs 320 t 1) 321 t (kA cs 353 9 i), b) := by
  have pb := h.bad (a := 1) (b := kA cs 353 9 i) (by decide)
  unfold cb_X9_readExpr
  rw [gR_ok h.h.o, ob_s, h.h.rc, ob_s, gI_ok h.h.oc, ob_s, ckE_ok h.h.o, ob_s, her_ok (F := F) h.h h.ci h.i2, ob_s, ob_s, hT, ob_s]
  generalize hG : F = G
  rw [hG] at hF
  subst hF
  exact ⟨_, cf_expr_L pb.s⟩
theorem nx_tab {n : Nat} {f : Nat → Int32} {M t c cap q sel : Nat} {ma : Bool} {F i z s p κ k : Nat} {cs : CS} {rs : RS} (hF : 10000 ≤ F) (hk9 : 9 ≤ k) (h : PG n f M t c cap q sel ma i z s cs rs) (hk : TK n f i p κ cs rs) (hb : c_X9_beginsExpr F cs t (nI κ) 1 = some 0) : ∃ b, (tabc_X9_readExpr F k).1 cs t = some (sI (sI cs 320 t 1) 321 t (kA cs 353 9 i), b) := by
  obtain ⟨j, rfl⟩ : ∃ j, k = j + 1 + 1 + 1 + 1 + 1 + 1 + 1 + 1 + 1 := ⟨k - 9, by omega⟩
  obtain ⟨u, hu⟩ : ∃ u, F = u + 1 := ⟨F - 1, by omega⟩
  obtain ⟨b1, b2⟩ := beg1_no (by have := hk.kl; omega) hb
  have h5 : (tabc_X9_readExpr F (j + 1 + 1 + 1 + 1 + 1)).2.2.2.2.1 cs t = some (sI (sI cs 320 t 1) 321 t (kA cs 353 9 i)) := ns_tab (k := j + 1 + 1 + 1 + 1 + 1) hF (by omega) i s cs rs h p κ hk b1
  have h6 : (tabc_X9_readExpr F (j + 1 + 1 + 1 + 1 + 1 + 1)).2.2.2.1 cs t = some (sI (sI cs 320 t 1) 321 t (kA cs 353 9 i)) := cn_test (T := tabc_X9_readExpr F (j + 1 + 1 + 1 + 1 + 1)) h h5
  have h7 : (tabc_X9_readExpr F (j + 1 + 1 + 1 + 1 + 1 + 1 + 1)).2.2.1 cs t = some (sI (sI cs 320 t 1) 321 t (kA cs 353 9 i)) := cn_neg (T := tabc_X9_readExpr F (j + 1 + 1 + 1 + 1 + 1 + 1)) h hk b2 h6
  have h8 : (tabc_X9_readExpr F (j + 1 + 1 + 1 + 1 + 1 + 1 + 1 + 1)).2.1 cs t = some (sI (sI cs 320 t 1) 321 t (kA cs 353 9 i)) := cn_conj (T := tabc_X9_readExpr F (j + 1 + 1 + 1 + 1 + 1 + 1 + 1)) hu h h7
  exact cn_expr (T := tabc_X9_readExpr F (j + 1 + 1 + 1 + 1 + 1 + 1 + 1 + 1)) hu h h8
/-- an EXPR where m of at most eight have been read -/
theorem root_step {n : Nat} {f : Nat → Int32} {M t c cap q sel : Nat} {ma : Bool} {F i z s m : Nat} {cs : CS} {rs : RS} (hF : 10000 ≤ F) (h : PG n f M t c cap q sel ma i z s cs rs) (hm : m ≤ 8) : ∃ cs5 cs6 rs6 a b v, c_X9_refuseNinth F cs t (if m < 8 then 0 else 1) 1 = some cs5 ∧ (10, t) ∈ kE cs5 ∧ c_X9_here F cs5 t = some v ∧ c_X9_readExpr F 300 cs5 t = some (cs6, b) ∧ (10, t) ∈ kE cs6 ∧ (∀ K : RS → Int32 → Int32 → Option (RS × Int32), (if nI m = 8 then (Option.bind (m_begins F rs 0) fun v_77 => if v_77 = 0 then (if (rs.1 21) = 0 then K rs (rs.1 18) 0 else (Option.bind (m_expr F 300 rs) fun z_72 => K z_72.1 (rs.1 18) z_72.2)) else (Option.bind (rdI (rs.2.2.1 15) 2001 (rs.1 18)) fun v_79 => Option.bind (m_tell F rs 7 v_79) fun cs_80 => if (cs_80.1 21) = 0 then K cs_80 (cs_80.1 18) 0 else (Option.bind (m_expr F 300 cs_80) fun z_72 => K z_72.1 (cs_80.1 18) z_72.2))) else (if (rs.1 21) = 0 then K rs (rs.1 18) 0 else (Option.bind (m_expr F 300 rs) fun z_72 => K z_72.1 (rs.1 18) z_72.2))) = K rs6 (nI i) a) ∧ ((m < 8 ∧ v = kA cs 353 9 i ∧ ∃ i' s', EG n f M t c cap q sel ma i z s cs rs i' s' cs6 rs6 ∧ a = nI (s' - 1) ∧ b = nI (s' - 1)) ∨ (PB t c cs6 rs6 ∧ FO (PX t c q) cs cs6 ∧ FR eR rs rs6)) := by
  have ho := h.h.o
  have nz : ¬ (1 : Int32) = 0 := by decide
  have hg : ¬ rs.1 21 = 0 := by rw [h.g1]; decide
  have hh := her_ok (F := F) h.h h.ci h.i2
  obtain ⟨cs6, rs6, a, b, e1, e2, e3, e4⟩ := sim_ex (z := z) hF h.z2 i s cs rs h
  by_cases y : m < 8
  · have y8 : ¬ nI m = 8 := fun w => by
      have := (nI_eq (b := 8) (by omega) (by decide)).mp w
      omega
    have r0 : c_X9_refuseNinth F cs t 0 1 = some cs := by
      unfold c_X9_refuseNinth c_X9_refuseNinth_b30
      rw [if_pos rfl]
    refine ⟨cs, cs6, rs6, a, b, kA cs 353 9 i, by rw [if_pos y]; exact r0, ho, hh, e1, ?_, fun K => ?_, ?_⟩
    · rcases e3 with ⟨i', s', g, _, _⟩ | ⟨pb, _, _⟩
      · exact g.g.h.o
      · exact pb.s.h.o
    · rw [if_neg y8, if_neg hg, e2, ob_s, h.ri]
    · rcases e3 with ⟨i', s', g, ea, _⟩ | ⟨pb, fo, fr⟩
      · exact Or.inl ⟨y, rfl, i', s', g, ea, (e4 g.g.f0).trans ea⟩
      · exact Or.inr ⟨pb, fo, fr⟩
  · have e8 : m = 8 := by omega
    subst e8
    obtain ⟨p, κ, hk, -, -, kd, hkl, pr⟩ := h.tok (F := F)
    obtain ⟨bb, b1, b2, b3⟩ := sim_beg (F := F) (x1 := 0) (x2 := 1) hF h hk (Or.inr ⟨rfl, rfl⟩)
    have fo : ∀ v, FO (PX t c q) cs (sI (sI cs 320 t v) 321 t (kA cs 353 9 i)) := fun v => (FO.sI (Or.inl ⟨by decide, rfl⟩)).trans (FO.sI (Or.inl ⟨by decide, rfl⟩))
    have rn : ∀ x, (bb = 0 → x = (1 : Int32)) → (bb = 1 → x = 7) → c_X9_refuseNinth F cs t 1 1 = some (sI (sI cs 320 t x) 321 t (kA cs 353 9 i)) := fun x x1 x2 => by
      unfold c_X9_refuseNinth c_X9_refuseNinth_b23 c_X9_refuseNinth_b30
      rw [if_neg nz, ckE_ok ho, ob_s, kd, ob_s, ob_s, b2, ob_s]
      rcases b3 with w | w
      · rw [if_pos w, ob_s, hh, ob_s, ob_s, ref_ok h.h h.f0, ob_s, x1 w]
      · rw [if_neg (show ¬ bb = 0 by rw [w]; decide), ob_s, hh, ob_s, ob_s, ref_ok h.h h.f0, ob_s, x2 w]
    rcases b3 with w | w
    · have pb0 := h.bad (a := 1) (b := kA cs 353 9 i) (by decide)
      obtain ⟨b', hb'⟩ := nx_tab (k := 300) hF (by decide) h hk (by rw [b2, w])
      have ecs : cs6 = sI (sI cs 320 t 1) 321 t (kA cs 353 9 i) := congrArg Prod.fst (Option.some.inj (e1.symm.trans hb'))
      obtain ⟨b9, hb9⟩ := tf1 (k := 300) hF (by decide) pb0.s
      obtain ⟨v, hv⟩ := herf (F := F) pb0.s
      refine ⟨_, _, rs6, a, b9, v, (by rw [if_neg y]; exact rn 1 (fun _ => rfl) (fun x => absurd (w.symm.trans x) (by decide))), pb0.s.h.o, hv, hb9, pb0.s.h.o, fun K => ?_, Or.inr ?_⟩
      · rw [if_pos (show nI 8 = 8 by decide), b1, ob_s, if_pos w, if_neg hg, e2, ob_s, h.ri]
      · rcases e3 with ⟨i', s', g, _, _⟩ | ⟨pb, fo', fr⟩
        · exact absurd g.g.f0 (by rw [ecs]; exact pb0.s.f)
        · rw [← ecs]
          exact ⟨pb, fo', fr⟩
    · have pb := h.bad (a := 7) (b := kA cs 353 9 i) (by decide)
      obtain ⟨b9, hb9⟩ := tf1 (k := 300) hF (by decide) pb.s
      obtain ⟨v, hv⟩ := herf (F := F) pb.s
      refine ⟨_, _, _, 0, b9, v, (by rw [if_neg y]; exact rn 7 (fun x => absurd (w.symm.trans x) (by decide)) (fun _ => rfl)), pb.s.h.o, hv, hb9, pb.s.h.o, fun K => ?_, Or.inr ⟨pb, fo 7, ((FR.setF (by unfold eR; omega)).trans (FR.setF (by unfold eR; omega))).trans (FR.setF (by unfold eR; omega))⟩⟩
      rw [if_pos (show nI 8 = 8 by decide), b1, ob_s, if_neg (show ¬ bb = 0 by rw [w]; decide), h.ri, rdI_n h.i2 (by decide), ob_s, pr, tel_ok h.g1, ob_s, if_pos pb.r.g]
      show K _ (rs.1 18) 0 = _
      rw [h.ri]

/-! a SELECT's items -/
theorem L50_0 {F v t o : Nat} {T : TC_X9_readQuery} {u1 : Option Nat} {cs : CS} {w : Int32} : c_X9_readSelect_L50 F T (v + 1) cs t u1 o 0 w = c_X9_readSelect_b83 F T cs t u1 o := by
  rw [c_X9_readSelect_L50]
  by_cases y : 2000 ≤ w
  · rw [if_pos y]
  · rw [if_neg y, if_pos rfl]
theorem L133_0 {F v : Nat} {T : TG_queryOf} {rs : RS} {a b : Int32} : m_selectOf_L133 F T (v + 1) rs a b 0 = m_selectOf_b356 F T rs a b := by
  rw [m_selectOf_L133, if_pos rfl]
def iR (F t o : Nat) (u1 : Option Nat) (T : TC_X9_readQuery) (v : Nat) (w : Int32) (cs : CS) : Option (CS × Nat) := Option.bind (ckE cs 10 t) fun _ => Option.bind (c_X9_accept F cs t 43) fun z_31 => (c_X9_readSelect_L50 F T v) z_31.1 t u1 o z_31.2 (w + 1)
def iT (F t it : Nat) (v7 b : Int32) (cs : CS) : Option CS := Option.bind (ckE cs 10 t) fun _ => Option.bind (c_X9_accept F cs t 17) fun z_11 => if z_11.2 = 0 then iN F t it b v7 z_11.1 else (Option.bind (ckE z_11.1 10 t) fun _ => Option.bind (c_X9_readName F z_11.1 t) fun z_33 => c_X9_readItem_b91 F z_33.1 it b z_33.2)
theorem L50_1 {F v t o : Nat} {T : TC_X9_readQuery} {u1 : Option Nat} {cs : CS} {w : Int32} (hw : ¬ 2000 ≤ w) : c_X9_readSelect_L50 F T (v + 1) cs t u1 o 1 w = Option.bind (gR cs 6 194 o) fun v_27 => Option.bind (v_27) fun i_28 => Option.bind (ckE cs 10 t) fun _ => Option.bind (c_X9_readItem F cs t i_28) fun cs_29 => iR F t o u1 T v w cs_29 := by
  rw [c_X9_readSelect_L50, if_neg hw, if_neg (by decide)]
  rfl
theorem item_iT {F t it : Nat} {cs : CS} : c_X9_readItem F cs t it = Option.bind (ckE cs 3 it) fun _ => Option.bind (c_X2_isFull F cs it) fun v_3 => Option.bind (ckE cs 10 t) fun _ => Option.bind (c_X9_refuseNinth F cs t v_3 1) fun cs_5 => Option.bind (ckE cs_5 10 t) fun _ => Option.bind (c_X9_here F cs_5 t) fun v_7 => Option.bind (ckE cs_5 10 t) fun _ => Option.bind (c_X9_readExpr F 300 cs_5 t) fun z_9 => iT F t it v_7 z_9.2 z_9.1 := by
  unfold c_X9_readItem
  rfl
/-- the class behind a fault in an item -/
theorem FW.coli {t c cap K0 S0 l0 o it lf r : Nat} {cs0 cs : CS} {rs : RS} {m : Nat} {cs' : CS} (h : FW t c cap K0 S0 l0 cs0 o it lf r cs rs) (q : cs'.1 = cs.1) (a : ∀ x j, ¬ (96 ≤ x ∧ x ≤ 100 ∧ j = it) → AT cs cs' x j) (hc : CLM it m cs') : FW t c cap K0 S0 l0 cs0 o it lf r cs' rs := by
  obtain ⟨x1, x2, x3, x4⟩ := h.kx
  have h1 := h.kr
  have h2 := h.mr
  have em : EM cs cs' := EM.of (congrArg (fun z => z.2.2) q)
  have kk : kK cs' = kK cs := congrArg (fun z => z.1) q
  have km : kM cs' = kM cs := congrArg (fun z => z.2.1) q
  have g : GF t it cs cs' := ⟨em, by omega, fun x i hi _ => a x i (by omega)⟩
  have ws := h.ws.gf g (h.ws.kb.of q) (by omega) (by omega)
  have wo := h.wo
  exact ⟨h.pb.gf ws.f g (by omega), ws, ⟨em _ wo.e, em _ wo.e195, by rw [(a 195 o (by omega)).p]; exact wo.p195, by rw [(a 195 o (by omega)).l]; exact wo.l195, by rw [(a 196 o (by omega)).i]; exact wo.n196, by rw [(a 194 o (by omega)).r]; exact wo.r194, m, hc⟩, h.em.trans em, fun x j a1 a2 a3 => (h.a0 x j a1 a2 a3).trans (a x j (by omega)), h.kx, by omega, by omega⟩
theorem iB_f {t c cap K0 S0 l0 o it lf r : Nat} {cs0 cs : CS} {rs : RS} {F : Nat} {b : Int32} {nm : Int64} (h : FW t c cap K0 S0 l0 cs0 o it lf r cs rs) : ∃ cs', c_X9_readItem_b91 F cs it b nm = some cs' ∧ FW t c cap K0 S0 l0 cs0 o it lf r cs' rs := by
  obtain ⟨m, hc⟩ := h.wo.ci
  obtain ⟨cs', m', e1, e2, e3, e4⟩ := add_any (F := F) (r := b) (nm := nm) (mk := 0) (ty := 1) hc
  refine ⟨cs', ?_, h.coli e3 e4 e2⟩
  unfold c_X9_readItem_b91
  rw [ckE_ok hc.e, ob_s, e1, ob_s]
theorem iN_f {t c cap K0 S0 l0 o it lf r : Nat} {cs0 cs : CS} {rs : RS} {F : Nat} {b v : Int32} (h : FW t c cap K0 S0 l0 cs0 o it lf r cs rs) : ∃ cs', iN F t it b v cs = some cs' ∧ FW t c cap K0 S0 l0 cs0 o it lf r cs' rs := by
  have w := h.ws
  unfold iN
  rw [gR_ok w.f.h.o, ob_s, w.f.h.rc, ob_s, ckE_ok w.f.h.oc, ob_s]
  rcases has_any (F := F) (x := b) w.f.h.oc w.ca w.cp with e | ⟨e, r', r1, r2⟩
  · rw [e, ob_s, if_pos rfl]
    exact iB_f h
  · obtain ⟨j65, p65⟩ := w.ca.p65
    obtain ⟨j66, p66⟩ := w.ca.p66
    obtain ⟨j69, p69⟩ := w.ca.p69
    have hcp := w.cp
    rw [e, ob_s, if_neg (by decide), ob_s, ob_s, gA_ok w.f.h.oc, p65, ob_s, r1, rA_n w.ca.e65 p65 (by rw [w.ca.l65]; exact r2) (by rw [w.ca.l65]; omega), ob_s]
    by_cases y : kA cs 65 c r' = 39
    · rw [if_pos y, ob_s, ob_s, gA_ok w.f.h.oc, p66, ob_s, rA_n w.ca.e66 p66 (by rw [w.ca.l66]; exact r2) (by rw [w.ca.l66]; omega), ob_s]
      by_cases y2 : kA cs 66 c r' = v
      · rw [if_pos y2, ob_s, ob_s, gA_ok w.f.h.oc, p69, ob_s, rB_n w.ca.e69 p69 (by rw [w.ca.l69]; exact r2) (by rw [w.ca.l69]; omega), ob_s]
        exact iB_f h
      · rw [if_neg y2]
        exact iB_f h
    · rw [if_neg y]
      exact iB_f h
theorem b83_w {n : Nat} {f : Nat → Int32} {M t c cap : Nat} {d K0 S0 Q0 s0 l0 ql z o e it lf r F : Nat} {u1 : Option Nat} {u2 : Int32} {cs0 cs : CS} {rs0 rs rs' : RS} {Ts Tr T : TC_X9_readQuery} (hF : 10000 ≤ F) (hR0 : Ts.2.2.1 = cb_X9_readSources F Tr) (hR : Tr.2.2.2 = cb_X9_readSource F T) (h : FW t c cap K0 S0 l0 cs0 o it lf r cs rs) (hr : r + 6 ≤ 2400 + 10 * (12 - z)) (rb : RB rs rs') : ∃ cs', c_X9_readSelect_b83 F Ts cs t u1 o = some (cs', o) ∧ SPO n f M t c cap d K0 S0 Q0 s0 l0 ql z u1 u2 cs0 rs0 o e it cs' rs' := by
  obtain ⟨c3, s1, s2, s3, s4, s5, s6⟩ := src_f (F := F) (T := T) h.ws
  have fw3 := h.grow s2 s3 s5 s6
  obtain ⟨csX, t1, t2⟩ := b5_f (F := F) (T := Tr) hF fw3 s4
  obtain ⟨cs', t5, t6⟩ := jn_bad (F := F) (T := Ts) (n := n) (f := f) (M := M) (d := d) (Q0 := Q0) (s0 := s0) (ql := ql) (z := z) (e := e) (u1 := u1) (u2 := u2) (rs0 := rs0) t2 hr rb
  refine ⟨cs', ?_, t6⟩
  unfold c_X9_readSelect_b83
  rw [ckE_ok h.ws.f.h.o, ob_s, expf h.ws.f (by decide), ob_s, ckE_ok h.ws.f.h.o, ob_s, hR0]
  unfold cb_X9_readSources
  rw [ckE_ok h.ws.f.h.o, ob_s, hR, s1, ob_s]
  show (Option.bind (c_X9_readSources_b5 F Tr c3 t o (kK cs) o) _) = _
  rw [t1, ob_s]
  exact t5
theorem iR_f {n : Nat} {f : Nat → Int32} {M t c cap : Nat} {d K0 S0 Q0 s0 l0 ql z o e it lf r F v : Nat} {u1 : Option Nat} {u2 w : Int32} {cs0 cs : CS} {rs0 rs rs' : RS} {Ts Tr T : TC_X9_readQuery} (hF : 10000 ≤ F) (hR0 : Ts.2.2.1 = cb_X9_readSources F Tr) (hR : Tr.2.2.2 = cb_X9_readSource F T) (h : FW t c cap K0 S0 l0 cs0 o it lf r cs rs) (hr : r + 6 ≤ 2400 + 10 * (12 - z)) (rb : RB rs rs') : ∃ cs', iR F t o u1 Ts (v + 1) w cs = some (cs', o) ∧ SPO n f M t c cap d K0 S0 Q0 s0 l0 ql z u1 u2 cs0 rs0 o e it cs' rs' := by
  obtain ⟨cs', e1, e2⟩ := b83_w (n := n) (f := f) (M := M) (d := d) (Q0 := Q0) (s0 := s0) (ql := ql) (e := e) (u1 := u1) (u2 := u2) (rs0 := rs0) hF hR0 hR h hr rb
  refine ⟨cs', ?_, e2⟩
  unfold iR
  rw [ckE_ok h.ws.f.h.o, ob_s, acc_f h.ws.f (by decide), ob_s]
  show c_X9_readSelect_L50 F Ts (v + 1) cs t u1 o 0 (w + 1) = _
  rw [L50_0]
  exact e1
/-- and the reference -/
theorem mi345_f {F v : Nat} {T T2 : TG_queryOf} {rs : RS} {a b : Int32} (hF : 10000 ≤ F) (hS : T.2.2 = b_source F T2) (h : FT rs) : ∃ rs', m_selectOf_b345 F T (m_selectOf_L133 F T (v + 1)) rs a b = some (rs', a) ∧ RB rs rs' := by
  obtain ⟨i, j1, j2⟩ := h.i
  unfold m_selectOf_b345
  rw [tg_n j1 (ig_f h.g), ob_s]
  exact m133_f hF hS h
theorem mi300_f {F v : Nat} {T T2 : TG_queryOf} {rs : RS} {a b x y w : Int32} (hF : 10000 ≤ F) (hS : T.2.2 = b_source F T2) (h : FT rs) : ∃ rs', m_selectOf_b300 F T (m_selectOf_L133 F T (v + 1)) rs a b x y w = some (rs', a) ∧ RB rs rs' := by
  unfold m_selectOf_b300
  rw [if_pos h.g]
  exact mi345_f hF hS h
theorem mi204_f {F v : Nat} {T T2 : TG_queryOf} {rs : RS} {a b x y w : Int32} (hF : 10000 ≤ F) (hS : T.2.2 = b_source F T2) (h : FT rs) : ∃ rs', m_selectOf_b204 F T (m_selectOf_L133 F T (v + 1)) rs a b x y w = some (rs', a) ∧ RB rs rs' := by
  obtain ⟨i, j1, j2⟩ := h.i
  unfold m_selectOf_b204 m_selectOf_b281 m_selectOf_b282
  rw [if_pos h.g, tw_n j1 (iw_f h.g), ob_s, if_pos rfl]
  exact mi300_f hF hS h
theorem m300_w {F e m : Nat} {T : TG_queryOf} {rc : RS → Int32 → Int32 → Int32 → Option (RS × Int32)} {rs : RS} {u2 x w : Int32} (g1 : rs.1 21 = 1) (r36 : rs.2.2.1 36 e = nI m) (he : e < 60) (hm : m < 8) : m_selectOf_b300 F T rc rs (nI e) u2 (nI m) x w = m_selectOf_b345 F T rc (setI (setI (setI rs 44 (8 * e + m) x) 45 (8 * e + m) w) 36 e (nI (m + 1))) (nI e) u2 := by
  unfold m_selectOf_b300
  rw [if_neg (show ¬ rs.1 21 = 0 by rw [g1]; decide), nI_8, nI_add, wrI_n (by omega) (by decide), ob_s, wrI_n (by omega) (by decide), ob_s, rdI_n he (by decide), ob_s, show (setI (setI rs 44 (8 * e + m) x) 45 (8 * e + m) w).2.2.1 36 e = nI m from r36, nI_1, wrI_n he (by decide), ob_s]
theorem it_L {n : Nat} {f : Nat → Int32} {M t c cap : Nat} {d K0 S0 Q0 s0 l0 ql z o e it gr lf S Q : Nat} {u1 : Option Nat} {u2 : Int32} {cs0 : CS} {rs0 : RS} {F : Nat} {Ts Tr T T2 T3 T4 T5 : TC_X9_readQuery} {Tq T' : TG_queryOf} (hF : 10000 ≤ F) (hR0 : Ts.2.2.1 = cb_X9_readSources F Tr) (hR : Tr.2.2.2 = cb_X9_readSource F T) (hS : Tq.2.2 = b_source F T') (hQ : z < 12 → QS n f M t c cap d (z + 1) T.1 T'.1) (hT1 : T.1 = cb_X9_readQuery F T2) (hT2 : T2.2.1 = cb_X9_readSelect F T3) (hT3 : T3.2.2.1 = cb_X9_readSources F T4) (hT4 : T4.2.2.2 = cb_X9_readSource F T5) : ∀ (u v m i s : Nat) (cs : CS) (rs : RS), 11 ≤ u + m → 11 ≤ v + m → m ≤ 8 → SG none n f M t c cap d K0 S0 Q0 s0 l0 ql z u1 u2 cs0 rs0 o e it gr m 0 0 0 i s lf S Q cs rs → kI cs 331 t = 1 → rs.1 72 = 1 → kI cs 198 o = 0 → ∃ cs' rs', c_X9_readSelect_L50 F Ts u cs t u1 o 1 (nI m) = some (cs', o) ∧ m_selectOf_L133 F Tq v rs (nI e) u2 1 = some (rs', nI e) ∧ SPO n f M t c cap d K0 S0 Q0 s0 l0 ql z u1 u2 cs0 rs0 o e it cs' rs' := by
  intro u
  induction u with
  | zero => intro v m i s cs rs q1 q2 q3; exact absurd q1 (by omega)
  | succ u ih =>
    intro v m i s cs rs q1 q2 q3 g cm rm h0
    obtain ⟨v, rfl⟩ : ∃ x, v = x + 1 := ⟨v - 1, by omega⟩
    obtain ⟨u', hu'⟩ : ∃ x, u = x + 1 := ⟨u - 1, by omega⟩
    obtain ⟨v', hv'⟩ : ∃ x, v = x + 1 := ⟨v - 1, by omega⟩
    have nz : ¬ (1 : Int32) = 0 := by decide
    obtain ⟨k1, k2, k3, k4⟩ := g.os.od
    obtain ⟨y1, y2, y3⟩ := g.kx
    have e60 := g.os.e60
    have tail : ∀ (i4 s4 : Nat) (c4 : CS) (r4 : RS), m < 8 → SG none n f M t c cap d K0 S0 Q0 s0 l0 ql z u1 u2 cs0 rs0 o e it gr (m + 1) 0 0 0 i4 s4 lf S Q c4 r4 → kI c4 331 t = 1 → r4.1 72 = 1 → kI c4 198 o = 0 → ∃ cs' rs', iR F t o u1 Ts u (nI m) c4 = some (cs', o) ∧ m_selectOf_b345 F Tq (m_selectOf_L133 F Tq v) r4 (nI e) u2 = some (rs', nI e) ∧ SPO n f M t c cap d K0 S0 Q0 s0 l0 ql z u1 u2 cs0 rs0 o e it cs' rs' := by
      intro i4 s4 c4 r4 m8 g4 cm4 rm4 h4
      unfold iR m_selectOf_b345
      rw [ckE_ok g4.b.h.o, ob_s, nI_1]
      have ms := g4.b.jt.mayS (F := F) (k := 43) (by decide) (by decide)
      rw [show nI 43 = 43 by decide, show st 43 = 44 by decide] at ms
      rcases ms with ⟨z1, z2, z3⟩ | ⟨z2, z3⟩
      · rw [z2, ob_s, z3, ob_s]
        exact ih v (m + 1) (i4 + 1) s4 _ _ (by omega) (by omega) (by omega) (g4.tok z1) ((kI_n (by omega)).trans cm4) rm4 ((kI_n (by omega)).trans h4)
      · rw [z2, ob_s, z3, ob_s, hu', hv']
        show ∃ cs' rs', c_X9_readSelect_L50 F Ts (u' + 1) c4 t u1 o 0 (nI (m + 1)) = some (cs', o) ∧ m_selectOf_L133 F Tq (v' + 1) r4 (nI e) u2 0 = _ ∧ _
        rw [L50_0, L133_0]
        exact st_f hF hR0 hR hS hQ hT1 hT2 hT3 hT4 (by omega) g4 h4
    have ci := g.os.ci
    have pg := g.pg1 cm rm
    obtain ⟨cs5, cs6, rs6, a, b, v0, f1, f2, f3, f4, f5, f6, f7⟩ := root_step (F := F) (m := m) hF pg q3
    have er := f6 (fun r x y => m_selectOf_b204 F Tq (m_selectOf_L133 F Tq v) r (nI e) u2 (nI m) x y)
    rw [L50_1 (show ¬ 2000 ≤ nI m from nI_ge (b := 2000) (by omega) (by decide)), gR_ok g.os.e6, ob_s, g.os.r194, ob_s, ckE_ok g.b.h.o, ob_s, item_iT, ckE_ok ci.e, ob_s, clm_full ci, ob_s, ckE_ok g.b.h.o, ob_s, f1, ob_s, ckE_ok f2, ob_s, f3, ob_s, ob_s, f4, ob_s, m_selectOf_L133, if_neg nz, if_neg (show ¬ rs.1 21 = 0 by rw [g.b.g1]; decide), rdI_n e60 (by decide), ob_s, g.os.ri]
    unfold m_selectOf_b183
    rw [show (if nI m = 8 then _ else _ : Option (RS × Int32)) = _ from er]
    show ∃ cs' rs', (Option.bind (iT F t it v0 b cs6) fun cs_29 => iR F t o u1 Ts u (nI m) cs_29) = some (cs', o) ∧ m_selectOf_b204 F Tq (m_selectOf_L133 F Tq v) rs6 (nI e) u2 (nI m) (nI i) a = some (rs', nI e) ∧ _
    rcases f7 with ⟨m8, ev, i', s', x, ea, eb⟩ | ⟨pb, fo, fr⟩
    · subst ea
      subst eb
      subst ev
      have g1 := g.ex1 x
      have cm1 : kI cs6 331 t = 1 := x.g.cm.trans (if_pos rfl)
      have rm1 : rs6.1 72 = 1 := (x.fr.f (by unfold eR; omega)).trans rm
      have h01 : kI cs6 198 o = 0 := (AT.fo x.fo (by unfold PX; omega)).i.trans h0
      have t37 := g.b.t37
      have c37 := g.b.c37
      obtain ⟨nm, w, n1, n2, n3⟩ := itn (F := F) x (AT.fo (x := 353) (i := 9) x.fo (by unfold PX; omega)).a
      have rt : RT n f M c o true s' (s' - 1) cs6 rs6 := RT.eg x
      have my := g1.b.jt.may (F := F) (x := 25) hF (by decide) (by decide)
      rw [show nI (swK 25) = 17 by decide] at my
      rw [n3]
      unfold iT m_selectOf_b282
      rw [ckE_ok g1.b.h.o, ob_s]
      rcases my with ⟨w1, w2, w3, -, -⟩ | ⟨w2, w3, -, -⟩
      · have g2 := g1.tok w1
        have cm2 : kI (sI cs6 328 t (nI (i' + 1))) 331 t = 1 := (kI_n (by omega)).trans cm1
        have h02 : kI (sI cs6 328 t (nI (i' + 1))) 198 o = 0 := (kI_n (by omega)).trans h01
        have rm2 : (setF rs6 18 (nI (i' + 1))).1 72 = 1 := rm1
        have am2 : ∀ x, AM o cs6 x → AM o (sI cs6 328 t (nI (i' + 1))) x := fun x hx => by
          obtain ⟨j, k, m1, m2, m3, m4⟩ := hx
          exact ⟨j, k, m1, (kI_n (by omega)).trans m2, m3, m4⟩
        have rt2 : RT n f M c o true s' (s' - 1) (sI cs6 328 t (nI (i' + 1))) (setF rs6 18 (nI (i' + 1))) := rt.keep (Nat.le_refl _) (fun _ _ => rfl) TKF.refl am2
        have nu2 := num_ok (F := F) g2.b.h g2.b.ci g2.b.jt.i2
        rw [w2, ob_s, w3, ob_s, if_neg nz, if_neg nz]
        obtain ⟨c2, hc2⟩ : ∃ x, x = sI cs6 328 t (nI (i' + 1)) := ⟨_, rfl⟩
        obtain ⟨r2, hr2⟩ : ∃ x, x = setF rs6 18 (nI (i' + 1)) := ⟨_, rfl⟩
        rw [← hc2] at g2 cm2 h02 rt2 nu2 ⊢
        rw [← hr2] at g2 rt2 rm2 ⊢
        have pg2 := g2.pg1 cm2 rm2
        show ∃ cs' rs', (Option.bind (Option.bind (ckE c2 10 t) fun _ => Option.bind (c_X9_readName F c2 t) fun z_33 => c_X9_readItem_b91 F z_33.1 it (nI (s' - 1)) z_33.2) fun cs_29 => iR F t o u1 Ts u (nI m) cs_29) = some (cs', o) ∧ (Option.bind (m_name F r2) fun z_60 => m_selectOf_b300 F Tq (m_selectOf_L133 F Tq v) z_60.1 (nI e) u2 (nI m) (nI (s' - 1)) z_60.2) = some (rs', nI e) ∧ _
        unfold c_X9_readName
        rw [ckE_ok g2.b.h.o, ob_s, ob_s, nu2, ob_s, ob_s]
        rcases pg2.nm (F := F) hF with ⟨t1, t2, t3, p, tk⟩ | ⟨c3, r3, t2, t3, pb, sq⟩
        · have g3 := g2.tok t1
          have cm3 : kI (sI c2 328 t (nI (i' + 1 + 1))) 331 t = 1 := (kI_n (by omega)).trans cm2
          have h03 : kI (sI c2 328 t (nI (i' + 1 + 1))) 198 o = 0 := (kI_n (by omega)).trans h02
          have am3 : ∀ x, AM o c2 x → AM o (sI c2 328 t (nI (i' + 1 + 1))) x := fun x hx => by
            obtain ⟨j, k, m1, m2, m3, m4⟩ := hx
            exact ⟨j, k, m1, (kI_n (by omega)).trans m2, m3, m4⟩
          have rt3 : RT n f M c o true s' (s' - 1) (sI c2 328 t (nI (i' + 1 + 1))) (setF r2 18 (nI (i' + 1 + 1))) := rt2.keep (Nat.le_refl _) (fun _ _ => rfl) TKF.refl am3
          have nm3 : NMR n f M (kB c2 354 9 (i' + 1)) (nI (i' + 1)) (sI c2 328 t (nI (i' + 1 + 1))) (setF r2 18 (nI (i' + 1 + 1))) := Or.inr ⟨i' + 1, g2.b.im, rfl, p, 39, tk.f TKF.refl, Or.inl ⟨rfl, rfl⟩⟩
          have rm3 : (setF r2 18 (nI (i' + 1 + 1))).1 72 = 1 := rm2
          rw [t2, t3]
          obtain ⟨c3, hc3⟩ : ∃ x, x = sI c2 328 t (nI (i' + 1 + 1)) := ⟨_, rfl⟩
          obtain ⟨r3, hr3⟩ : ∃ x, x = setF r2 18 (nI (i' + 1 + 1)) := ⟨_, rfl⟩
          rw [← hc3] at g3 cm3 h03 rt3 nm3 ⊢
          rw [← hr3] at g3 rt3 nm3 rm3 ⊢
          have g4 := g3.addi (r := nI (s' - 1)) (nw := nI (i' + 1)) (nm := kB c2 354 9 (i' + 1)) (mk := 0) m8 rfl ⟨s' - 1, rfl, rt3, nm3⟩
          obtain ⟨cs', rs', a1, a2, a3⟩ := tail (i' + 1 + 1) s' _ _ m8 g4 ((adC_at (by omega)).i.trans cm3) rm3 ((adC_at (by omega)).i.trans h03)
          refine ⟨cs', rs', ?_, ?_, a3⟩
          · show (Option.bind (c_X9_readItem_b91 F c3 it (nI (s' - 1)) (kB c2 354 9 (i' + 1))) fun cs_29 => iR F t o u1 Ts u (nI m) cs_29) = _
            unfold c_X9_readItem_b91
            rw [ckE_ok g3.os.ci.e, ob_s, adC_ok (F := F) g3.os.ci m8, ob_s, ob_s]
            exact a1
          · rw [ob_s]
            show m_selectOf_b300 F Tq (m_selectOf_L133 F Tq v) r3 (nI e) u2 (nI m) (nI (s' - 1)) (nI (i' + 1)) = _
            rw [m300_w g3.b.g1 g3.os.ri e60 m8]
            exact a2
        · have fw := g2.fw sq.1 (by have := g2.k0; omega) pb
          obtain ⟨c4, b1, b2⟩ := iB_f (F := F) (b := nI (s' - 1)) (nm := kB c2 354 9 (i' + 1)) fw
          obtain ⟨rs', d1, d2⟩ := mi300_f (F := F) (v := v') (T := Tq) (a := nI e) (b := u2) (x := nI m) (y := nI (s' - 1)) (w := nI (i' + 1)) hF hS pb.r
          obtain ⟨cs', a1, a2⟩ := iR_f (n := n) (f := f) (M := M) (d := d) (Q0 := Q0) (s0 := s0) (ql := ql) (z := z) (e := e) (u1 := u1) (u2 := u2) (w := nI m) (v := u') (rs0 := rs0) hF hR0 hR b2 (by omega) d2
          refine ⟨cs', rs', ?_, ?_, a2⟩
          · rw [t2]
            show (Option.bind (c_X9_readItem_b91 F c3 it (nI (s' - 1)) (kB c2 354 9 (i' + 1))) fun cs_29 => iR F t o u1 Ts u (nI m) cs_29) = _
            rw [b1, ob_s, hu']
            exact a1
          · rw [t3, ob_s, hv']
            exact d1
      · rw [w2, ob_s, w3, ob_s, if_pos rfl, if_pos rfl, n2, m300_w g1.b.g1 g1.os.ri e60 m8]
        have g4 := g1.addi (r := nI (s' - 1)) (nw := w) (nm := nm) (mk := 0) m8 rfl ⟨s' - 1, rfl, rt, n1⟩
        obtain ⟨cs', rs', a1, a2, a3⟩ := tail i' s' _ _ m8 g4 ((adC_at (by omega)).i.trans cm1) rm1 ((adC_at (by omega)).i.trans h01)
        refine ⟨cs', rs', ?_, a2, a3⟩
        unfold c_X9_readItem_b91
        rw [ckE_ok g1.os.ci.e, ob_s, adC_ok (F := F) g1.os.ci m8, ob_s, ob_s]
        exact a1
    · have fw := g.fw fo (by omega) pb
      obtain ⟨c4, b1, b2⟩ := iN_f (F := F) (b := b) (v := v0) fw
      obtain ⟨rs', d1, d2⟩ := mi204_f (F := F) (v := v') (T := Tq) (a := nI e) (b := u2) (x := nI m) (y := nI i) (w := a) hF hS pb.r
      obtain ⟨cs', a1, a2⟩ := iR_f (n := n) (f := f) (M := M) (d := d) (Q0 := Q0) (s0 := s0) (ql := ql) (z := z) (e := e) (u1 := u1) (u2 := u2) (w := nI m) (v := u') (rs0 := rs0) hF hR0 hR b2 (by omega) d2
      refine ⟨cs', rs', ?_, ?_, a2⟩
      · unfold iT
        rw [ckE_ok fw.ws.f.h.o, ob_s, acc_f fw.ws.f (by decide), ob_s, if_pos rfl]
        show (Option.bind (iN F t it b v0 cs6) _) = _
        rw [b1, ob_s, hu']
        exact a1
      · rw [hv']
        exact d1

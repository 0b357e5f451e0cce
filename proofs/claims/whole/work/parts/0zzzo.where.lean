/-! a SELECT: where and group by -/
theorem L29_f {F v t c cap K0 S0 l0 o it lf r i m : Nat} {cs0 cs : CS} {rs : RS} (hF : 10000 ≤ F) (h : FW t c cap K0 S0 l0 cs0 o it lf r cs rs) (hr : kR cs 200 o = some i) (hc : CLM i m cs) (hi : it < i) : ∃ cs', c_X9_readGroups_L29 F (v + 2) cs t o 1 0 = some cs' ∧ FW t c cap K0 S0 l0 cs0 o it lf r cs' rs := by
  obtain ⟨b, hb⟩ := tf1 (k := 300) hF (by decide) h.ws.f
  obtain ⟨cs', e1, e2⟩ := gT1_f (F := F) (v := v) (w := 0) (b := b) h hr hc hi
  refine ⟨cs', ?_, e2⟩
  rw [show v + 2 = (v + 1) + 1 from rfl, L29_1 (by decide), gR_ok h.wo.e, ob_s, hr, ob_s, ckE_ok hc.e, ob_s, clm_full hc, ob_s, ckE_ok h.ws.f.h.o, ob_s, rn_f h.ws.f, ob_s, ckE_ok h.ws.f.h.o, ob_s]
  show (Option.bind ((tabc_X9_readExpr F 300).1 cs t) _) = _
  rw [hb, ob_s]
  exact e1
/-- from behind where on -/
theorem st_g {n : Nat} {f : Nat → Int32} {M t c cap : Nat} {d K0 S0 Q0 s0 l0 ql z o e it gr mi ns i s lf S Q : Nat} {u1 : Option Nat} {u2 : Int32} {cs0 cs : CS} {rs0 rs : RS} {F : Nat} {T : TC_X9_readQuery} {T' : TG_queryOf} (hF : 10000 ≤ F) (g : SG none n f M t c cap d K0 S0 Q0 s0 l0 ql z u1 u2 cs0 rs0 o e it gr mi ns ns 0 i s lf S Q cs rs) (h1 : 1 ≤ mi) (h2 : 1 ≤ ns) (cm : kI cs 331 t = 0) (rm : rs.1 72 = 0) (h0 : kI cs 198 o = 0) : ∃ cs' rs', c_X9_readSelect_b115 F T cs t u1 o = some (cs', o) ∧ m_selectOf_b544 F T' rs (nI e) u2 = some (rs', nI e) ∧ SPO n f M t c cap d K0 S0 Q0 s0 l0 ql z u1 u2 cs0 rs0 o e it cs' rs' := by
  obtain ⟨k1, k2, k3, k4⟩ := g.os.od
  obtain ⟨y1, y2, y3⟩ := g.kx
  have e60 := g.os.e60
  have nz : ¬ (1 : Int32) = 0 := by decide
  have my := g.b.jt.may (F := F) (x := 32) hF (by decide) (by decide)
  rw [show swK 32 = 7 by decide] at my
  unfold c_X9_readSelect_b115 m_selectOf_b544
  rw [ckE_ok g.b.h.o, ob_s]
  rcases my with ⟨w1, -, -, w4, w5⟩ | ⟨-, -, w4, κ, w5, w6, w7⟩
  · obtain ⟨p, κ, hk, -, -, kd, hkl, pr⟩ := g.b.jt.tok (F := F)
    have eκ : κ = 7 := (nI_eq (by omega) (by omega)).mp (Option.some.inj (kd.symm.trans w5))
    subst eκ
    have pne : kA cs 353 9 i ≠ -1 := fun w => nI_pos (n := p) (by have := hk.pl; have := g.b.x.n2; omega) (by rw [← hk.pc, w]; decide)
    have hh := her_ok (F := F) g.b.h g.b.ci g.b.jt.i2
    have ca : ∀ x j, ¬ (j = o ∧ (x = 197 ∨ x = 198 ∨ x = 199 ∨ x = 201)) → AT cs (sI (sI cs 198 o 1) 199 o (kA cs 353 9 i)) x j := fun x j hx => (AT.sI (by omega)).trans (AT.sI (by omega))
    have ra : ∀ k j, ¬ (j = e ∧ (k = 38 ∨ k = 40 ∨ k = 41)) → (setI rs 40 e (kA cs 353 9 i)).2.2.1 k j = rs.2.2.1 k j := fun k j hk => by
      show (if k = 40 then upd (rs.2.2.1 40) e (kA cs 353 9 i) else rs.2.2.1 k) j = _
      by_cases w : k = 40
      · subst w
        rw [if_pos rfl]
        exact pk_un (by omega)
      · rw [if_neg w]
    have hg : kI (sI (sI cs 198 o 1) 199 o (kA cs 353 9 i)) 198 o = 1 ∧ (setI rs 40 e (kA cs 353 9 i)).2.2.1 40 e = kI (sI (sI cs 198 o 1) 199 o (kA cs 353 9 i)) 199 o ∧ (setI rs 40 e (kA cs 353 9 i)).2.2.1 40 e ≠ -1 := by
      refine ⟨(kI_n (by omega)).trans kI_s, ?_, ?_⟩
      · rw [kI_s]; exact pk_us
      · rw [show (setI rs 40 e (kA cs 353 9 i)).2.2.1 40 e = kA cs 353 9 i from pk_us]
        exact pne
    have a197 : kI (sI (sI cs 198 o 1) 199 o (kA cs 353 9 i)) 197 o = kI cs 197 o := (kI_n (by omega)).trans (kI_n (by omega))
    have a201 : kI (sI (sI cs 198 o 1) 199 o (kA cs 353 9 i)) 201 o = kI cs 201 o := (kI_n (by omega)).trans (kI_n (by omega))
    have g1 := g.own (cs' := sI (sI cs 198 o 1) 199 o (kA cs 353 9 i)) (rs' := setI rs 40 e (kA cs 353 9 i)) rfl ca rfl rfl ra rfl (g.os.wh.kf a197 rfl (Nat.le_refl _) (fun _ _ => rfl) TKF.refl) (g.os.hv.keep a201 rfl (Nat.le_refl _) (fun _ _ => rfl) TKF.refl (fun x hx => by
      obtain ⟨j, k, m1, m2, m3, m4⟩ := hx
      exact ⟨j, k, m1, ((kI_n (by omega)).trans (kI_n (by omega))).trans m2, m3, m4⟩)) (Or.inr hg)
    have cm1 : kI (sI (sI cs 198 o 1) 199 o (kA cs 353 9 i)) 331 t = 0 := ((kI_n (by omega)).trans (kI_n (by omega))).trans cm
    have hk1 : TK n f i p 7 (sI (sI cs 198 o 1) 199 o (kA cs 353 9 i)) (setI rs 40 e (kA cs 353 9 i)) := hk.f TKF.refl
    have kd1 := exp_y (F := F) g1.b.h g1.b.ci (knd_ok g1.b.h g1.b.f0 g1.b.ci g1.b.jt.i2 hk1)
    rw [show nI 7 = 7 by decide] at kd1
    have oc : (6, o) ∈ kE (sI cs 198 o 1) := g.os.e6
    have ot : (10, t) ∈ kE (sI cs 198 o 1) := g.b.h.o
    have hh1 : c_X9_here F (sI cs 198 o 1) t = some (kA cs 353 9 i) := her_ok (c := c) ⟨g.b.h.b, g.b.h.o, g.b.h.tk, g.b.h.rc, g.b.h.oc⟩ ((kI_n (by omega)).trans g.b.ci) g.b.jt.i2
    have cls : c_X9_readGroups F cs t o = Option.bind (c_X9_expect F (sI (sI (sI cs 198 o 1) 199 o (kA cs 353 9 i)) 328 t (nI (i + 1))) t 8) fun cs_29 => c_X9_readGroups_L29 F F cs_29 t o 1 0 := by
      unfold c_X9_readGroups
      rw [pI_ok g.os.e6, ob_s, ckE_ok ot, ob_s, hh1, ob_s, pI_ok oc, ob_s, ckE_ok g1.b.h.o, ob_s, kd1, ob_s, ckE_ok (g1.tok w1).b.h.o, ob_s]
    have g2 := g1.tok w1
    have cm2 : kI (sI (sI (sI cs 198 o 1) 199 o (kA cs 353 9 i)) 328 t (nI (i + 1))) 331 t = 0 := (kI_n (by omega)).trans cm1
    have hg2 : kI (sI (sI (sI cs 198 o 1) 199 o (kA cs 353 9 i)) 328 t (nI (i + 1))) 198 o = 1 ∧ (setF (setI rs 40 e (kA cs 353 9 i)) 18 (nI (i + 1))).2.2.1 40 e = kI (sI (sI (sI cs 198 o 1) 199 o (kA cs 353 9 i)) 328 t (nI (i + 1))) 199 o ∧ (setF (setI rs 40 e (kA cs 353 9 i)) 18 (nI (i + 1))).2.2.1 40 e ≠ -1 := by
      rw [kI_n (show ¬ (198 = 328 ∧ o = t) by omega), kI_n (show ¬ (199 = 328 ∧ o = t) by omega)]
      exact hg
    have rm2 : (setF (setI rs 40 e (kA cs 353 9 i)) 18 (nI (i + 1))).1 72 = 0 := rm
    have ri2 : (setI rs 40 e (kA cs 353 9 i)).1 18 = nI i := g.b.ri
    rw [w5, ob_s, if_pos (show nI 7 = 7 by decide), ob_s, w4, ob_s, if_neg nz, g.b.ri, rdI_n g.b.jt.i2 (by decide), ob_s, pr, wrI_n e60 (by decide), ob_s, cls, ri2, nI_1]
    obtain ⟨c2, hc2⟩ : ∃ x, x = sI (sI (sI cs 198 o 1) 199 o (kA cs 353 9 i)) 328 t (nI (i + 1)) := ⟨_, rfl⟩
    obtain ⟨r2, hr2⟩ : ∃ x, x = setF (setI rs 40 e (kA cs 353 9 i)) 18 (nI (i + 1)) := ⟨_, rfl⟩
    rw [← hc2] at g2 cm2 hg2 ⊢
    rw [← hr2] at g2 hg2 rm2 ⊢
    have nd := g2.b.jt.need (F := F) (x := 33) hF (by decide) (by decide)
    rw [show nI (swK 33) = 8 by decide] at nd
    rcases nd with ⟨v1, v2, v3⟩ | ⟨v2, v3⟩
    · have g3 := g2.tok v1
      obtain ⟨csX, cs', rs', a1, a2, a3, a4⟩ := grp_L (T := T) (T' := T') hF h1 h2 F F 0 (i + 1 + 1) s _ _ (by omega) (by omega) (by decide) g3 ((kI_n (by omega)).trans cm2) rm2 (by
        rw [kI_n (show ¬ (198 = 328 ∧ o = t) by omega), kI_n (show ¬ (199 = 328 ∧ o = t) by omega)]
        exact hg2)
      refine ⟨cs', rs', ?_, ?_, a4⟩
      · rw [v2, ob_s]
        show (Option.bind (c_X9_readGroups_L29 F F (sI c2 328 t (nI (i + 1 + 1))) t o 1 (nI 0)) _) = _
        rw [a1, ob_s]
        exact a2
      · rw [v3, ob_s]
        exact a3
    · have fw := g2.bad (a := 1) (v := kA c2 353 9 (i + 1)) (by decide)
      have acg : CLM gr 0 (sI (sI c2 320 t 1) 321 t (kA c2 353 9 (i + 1))) := g2.os.cg.keep EM.refl (fun x a1 a2 => (AT.sI (by omega)).trans (AT.sI (by omega)))
      have rr : kR (sI (sI c2 320 t 1) 321 t (kA c2 353 9 (i + 1))) 200 o = some gr := g2.os.r200
      obtain ⟨csX, x1, x2⟩ := L29_f (F := F) (v := F - 2) hF fw rr acg (by omega)
      rw [show F - 2 + 2 = F by omega] at x1
      obtain ⟨cs', z1, z2⟩ := grp_bad (F := F) (T := T) (n := n) (f := f) (M := M) (d := d) (Q0 := Q0) (s0 := s0) (ql := ql) (z := z) (e := e) (u1 := u1) (u2 := u2) (rs0 := rs0) x2
      have l := m589_f (F := F) (v := F - 1) (T := T') (u1 := nI e) (u2 := u2) (u4 := 1) fw.pb.r
      rw [show F - 1 + 1 = F by omega] at l
      refine ⟨cs', _, ?_, ?_, z2⟩
      · rw [v2, ob_s, x1, ob_s]
        exact z1
      · rw [v3, ob_s]
        exact l
  · rw [w5, ob_s, if_neg (show ¬ nI κ = 7 from fun w => w7 ((nI_eq (b := 7) (by omega) (by decide)).mp w)), w4, ob_s, if_pos rfl]
    exact st_h hF g h1 h2 (fun w => absurd h0 w)
/-- from behind the SOURCES on -/
theorem st_w {n : Nat} {f : Nat → Int32} {M t c cap : Nat} {d K0 S0 Q0 s0 l0 ql z o e it gr mi ns i s lf S Q : Nat} {u1 : Option Nat} {u2 : Int32} {cs0 cs : CS} {rs0 rs : RS} {F : Nat} {T : TC_X9_readQuery} {T' : TG_queryOf} (hF : 10000 ≤ F) (g : SG none n f M t c cap d K0 S0 Q0 s0 l0 ql z u1 u2 cs0 rs0 o e it gr mi ns ns 0 i s lf S Q cs rs) (h1 : 1 ≤ mi) (h2 : 1 ≤ ns) (h0 : kI cs 198 o = 0) : ∃ cs' rs', c_X9_readSelect_b93 F T cs t u1 o = some (cs', o) ∧ m_selectOf_b503 F T' rs (nI e) u2 = some (rs', nI e) ∧ SPO n f M t c cap d K0 S0 Q0 s0 l0 ql z u1 u2 cs0 rs0 o e it cs' rs' := by
  obtain ⟨k1, k2, k3, k4⟩ := g.os.od
  obtain ⟨y1, y2, y3⟩ := g.kx
  have e60 := g.os.e60
  have nz : ¬ (1 : Int32) = 0 := by decide
  have g1 := ((g.mark (v := 0)).selr).markr (v := 0)
  have cm1 : kI (sI cs 331 t 0) 331 t = 0 := kI_s
  have h01 : kI (sI cs 331 t 0) 198 o = 0 := (kI_n (by omega)).trans h0
  have rm1 : (setF (setF rs 71 (nI e)) 72 0).1 72 = 0 := rfl
  unfold c_X9_readSelect_b93 m_selectOf_b503
  rw [pI_ok g.b.h.o, ob_s]
  obtain ⟨c1, hc1⟩ : ∃ x, x = sI cs 331 t 0 := ⟨_, rfl⟩
  obtain ⟨r1, hr1⟩ : ∃ x, x = setF (setF rs 71 (nI e)) 72 0 := ⟨_, rfl⟩
  rw [← hc1] at g1 cm1 h01 ⊢
  rw [← hr1] at g1 rm1 ⊢
  rw [ckE_ok g1.b.h.o, ob_s]
  have my := g1.b.jt.may (F := F) (x := 31) hF (by decide) (by decide)
  rw [show nI (swK 31) = 6 by decide] at my
  rcases my with ⟨w1, w2, w3, -, -⟩ | ⟨w2, w3, -, -⟩
  · have g2 := g1.tok w1
    have cm2 : kI (sI c1 328 t (nI (i + 1))) 331 t = 0 := (kI_n (by omega)).trans cm1
    have h02 : kI (sI c1 328 t (nI (i + 1))) 198 o = 0 := (kI_n (by omega)).trans h01
    have rm2 : (setF r1 18 (nI (i + 1))).1 72 = 0 := rm1
    obtain ⟨c2, hc2⟩ : ∃ x, x = sI c1 328 t (nI (i + 1)) := ⟨_, rfl⟩
    obtain ⟨r2, hr2⟩ : ∃ x, x = setF r1 18 (nI (i + 1)) := ⟨_, rfl⟩
    rw [← hc2] at g2 cm2 h02 w2
    rw [← hr2] at g2 rm2 w3
    have pg := g2.pg0 (q := kK c2) (sel := 60) cm2 rm2
    obtain ⟨c4, r4, a, b, e1, e2, e3, e4⟩ := sim_ex (z := z) hF g2.b.z2 (i + 1) s c2 r2 pg
    rw [w2, ob_s, w3, ob_s, if_neg nz, if_neg nz]
    show ∃ cs' rs', (Option.bind (ckE c2 10 t) fun _ => Option.bind (c_X9_readExpr F 300 c2 t) fun z_18 => Option.bind (pI z_18.1 6 197 o z_18.2) fun cs_20 => c_X9_readSelect_b115 F T cs_20 t u1 o) = some (cs', o) ∧ (if (r2.1 21) = 0 then (m_selectOf_b543 F T' r2 (nI e) u2 0 (nI e)) else (Option.bind (m_expr F 300 r2) fun z_34 => m_selectOf_b543 F T' z_34.1 (nI e) u2 z_34.2 (nI e))) = some (rs', nI e) ∧ _
    rw [ckE_ok g2.b.h.o, ob_s, e1, ob_s, if_neg (show ¬ r2.1 21 = 0 by rw [g2.b.g1]; decide), e2, ob_s]
    show ∃ cs' rs', (Option.bind (pI c4 6 197 o b) fun cs_20 => c_X9_readSelect_b115 F T cs_20 t u1 o) = some (cs', o) ∧ m_selectOf_b543 F T' r4 (nI e) u2 a (nI e) = some (rs', nI e) ∧ _
    unfold m_selectOf_b543
    rcases e3 with ⟨i', s', h, ea, -⟩ | ⟨pb, fo, fr⟩
    · have eb := (e4 h.g.f0).trans ea
      have g4 := g2.ex0 h
      have sl := h.sl
      have cm4 : kI c4 331 t = 0 := h.g.cm
      have rm4 : r4.1 72 = 0 := (h.fr.f (by unfold eR; omega)).trans rm2
      have h04 : kI c4 198 o = 0 := (AT.fo h.fo (by unfold PX; omega)).i.trans h02
      have rt : RT n f M c 0 false s' (s' - 1) c4 r4 := (RT.eg h).f0
      have ow := g4.own (cs' := sI c4 197 o (nI (s' - 1))) (rs' := setI r4 38 e (nI (s' - 1))) rfl (fun x j hx => AT.sI (by omega)) rfl rfl (fun k j hk => ?_) rfl ?_ ?_ ?_
      · obtain ⟨cs', rs', s1, s2, s3⟩ := st_g (T := T) (T' := T') hF ow h1 h2 ((kI_n (by omega)).trans cm4) rm4 ((kI_n (by omega)).trans h04)
        refine ⟨cs', rs', ?_, ?_, s3⟩
        · rw [eb, pI_ok g4.os.e6, ob_s]
          exact s1
        · rw [ea, wrI_n e60 (by decide), ob_s]
          exact s2
      · show (if k = 38 then upd (r4.2.2.1 38) e (nI (s' - 1)) else r4.2.2.1 k) j = _
        by_cases w : k = 38
        · subst w
          rw [if_pos rfl]
          exact pk_un (by omega)
        · rw [if_neg w]
      · exact Or.inr ⟨s' - 1, kI_s, pk_us, rt.kf (Nat.le_refl _) (fun _ _ => rfl) TKF.refl⟩
      · exact g4.os.hv.keep (kI_n (by omega)) rfl (Nat.le_refl _) (fun _ _ => rfl) TKF.refl (fun x hx => by
          obtain ⟨j, k, m1, m2, m3, m4⟩ := hx
          exact ⟨j, k, m1, (kI_n (by omega)).trans m2, m3, m4⟩)
      · have := g4.os.hg
        rw [show kI (sI c4 197 o (nI (s' - 1))) 198 o = kI c4 198 o from kI_n (by omega), show kI (sI c4 197 o (nI (s' - 1))) 199 o = kI c4 199 o from kI_n (by omega)]
        exact this
    · have fw := (g2.fw fo (by have := g2.k0; omega) pb).own (x := 197) (v := b) (rs' := setI r4 38 e a) (by omega) (RB.ar rfl)
      refine ⟨_, _, ?_, ?_, Or.inr ⟨lf, ((fw.mark (v := 1)).end' (v := u1) (w := u2)).le (by omega)⟩⟩
      · rw [pI_ok (g2.fw fo (by have := g2.k0; omega) pb).wo.e, ob_s]
        exact b115_f fw.ws
      · rw [wrI_n e60 (by decide), ob_s]
        exact m544_f fw.pb.r
  · rw [w2, ob_s, w3, ob_s, if_pos rfl, if_pos rfl]
    exact st_g hF g1 h1 h2 cm1 rm1 h01

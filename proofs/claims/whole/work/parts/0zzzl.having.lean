/-! a SELECT: having -/
theorem kI_n {cs : CS} {t j x i : Nat} {v : Int32} (h : ¬ (x = t ∧ i = j)) : kI (sI cs t j v) x i = kI cs x i := u2_n h
theorem kI_s {cs : CS} {t j : Nat} {v : Int32} : kI (sI cs t j v) t j = v := u2_s
theorem FW.own {t c cap K0 S0 l0 o it lf r x : Nat} {v : Int32} {cs0 cs : CS} {rs rs' : RS} (h : FW t c cap K0 S0 l0 cs0 o it lf r cs rs) (hx : x = 197 ∨ x = 198 ∨ x = 199 ∨ x = 201) (rb : RB rs rs') : FW t c cap K0 S0 l0 cs0 o it lf r (sI cs x o v) rs' := by
  obtain ⟨x1, x2, x3, x4⟩ := h.kx
  have g : GF t o cs (sI cs x o v) := GF.gw (GW.sI (Nat.le_refl _))
  have ws := h.ws.gf g h.ws.kb (by omega) (by omega)
  exact ⟨(h.pb.gf ws.f g (by omega)).rb rb, ws, h.wo.keep EM.refl (fun y hy => AT.sI (by omega)) (fun y a1 a2 => AT.sI (by omega)), h.em, fun y j a1 a2 a3 => (h.a0 y j a1 a2 a3).trans (AT.sI (by omega)), h.kx, h.kr, h.mr⟩
theorem FW.it0 {t c cap K0 S0 l0 o it lf r : Nat} {cs0 cs : CS} {rs : RS} (h : FW t c cap K0 S0 l0 cs0 o it lf r cs rs) : it < kK cs := by
  obtain ⟨m, hm⟩ := h.wo.ci
  exact h.ws.kb _ hm.e
theorem FW.end' {t c cap K0 S0 l0 o it lf r : Nat} {cs0 cs : CS} {rs : RS} {v : Option Nat} {w : Int32} (h : FW t c cap K0 S0 l0 cs0 o it lf r cs rs) : FW t c cap K0 S0 l0 cs0 o it lf r (sR cs 330 t v) (setF rs 71 w) := h.gf (K := kK cs) GF.sel (RB.setF (Or.inr (Or.inl rfl))) h.it0 rfl
theorem FW.mark {t c cap K0 S0 l0 o it lf r : Nat} {cs0 cs : CS} {rs : RS} {v : Int32} (h : FW t c cap K0 S0 l0 cs0 o it lf r cs rs) : FW t c cap K0 S0 l0 cs0 o it lf r (sI cs 331 t v) rs := h.gf (K := kK cs) (GF.text (Or.inr rfl)) RB.refl h.it0 rfl
theorem FW.rb {t c cap K0 S0 l0 o it lf r : Nat} {cs0 cs : CS} {rs rs' : RS} (h : FW t c cap K0 S0 l0 cs0 o it lf r cs rs) (g : RB rs rs') : FW t c cap K0 S0 l0 cs0 o it lf r cs rs' := ⟨h.pb.rb g, h.ws, h.wo, h.em, h.a0, h.kx, h.kr, h.mr⟩
theorem st_h {n : Nat} {f : Nat → Int32} {M t c cap : Nat} {d K0 S0 Q0 s0 l0 ql z o e it gr mi ns mg i s lf S Q : Nat} {u1 : Option Nat} {u2 : Int32} {cs0 cs : CS} {rs0 rs : RS} {F : Nat} {T : TC_X9_readQuery} {T' : TG_queryOf} (hF : 10000 ≤ F) (g : SG none n f M t c cap d K0 S0 Q0 s0 l0 ql z u1 u2 cs0 rs0 o e it gr mi ns ns mg i s lf S Q cs rs) (h1 : 1 ≤ mi) (h2 : 1 ≤ ns) (h3 : kI cs 198 o ≠ 0 → 1 ≤ mg) : ∃ cs' rs', c_X9_readSelect_b129 F T cs t u1 o = some (cs', o) ∧ m_selectOf_b736 F T' rs (nI e) u2 = some (rs', nI e) ∧ SPO n f M t c cap d K0 S0 Q0 s0 l0 ql z u1 u2 cs0 rs0 o e it cs' rs' := by
  obtain ⟨k1, k2, k3, k4⟩ := g.os.od
  obtain ⟨y1, y2, y3⟩ := g.kx
  have e60 := g.os.e60
  have nz : ¬ (1 : Int32) = 0 := by decide
  have g1 := g.mark (v := 1)
  have h31 : kI (sI cs 331 t 1) 198 o = kI cs 198 o := kI_n (by omega)
  have m1 : kI (sI cs 331 t 1) 331 t = 1 := u2_s
  have o1 : c_X9_readSelect_b129 F T cs t u1 o = Option.bind (c_X9_accept F (sI cs 331 t 1) t 9) fun z_3 => if z_3.2 = 0 then (c_X9_readSelect_b151 F T z_3.1 t u1 o) else (Option.bind (ckE z_3.1 10 t) fun _ => Option.bind (c_X9_readExpr F 300 z_3.1 t) fun z_6 => Option.bind (pI z_6.1 6 201 o z_6.2) fun cs_8 => c_X9_readSelect_b151 F T cs_8 t u1 o) := by
    unfold c_X9_readSelect_b129
    rw [pI_ok g.b.h.o, ob_s, ckE_ok g1.b.h.o, ob_s]
  obtain ⟨c1, hc1⟩ : ∃ x, x = sI cs 331 t 1 := ⟨_, rfl⟩
  rw [← hc1] at g1 h31 m1 o1
  rw [← h31] at h3
  rw [o1]
  unfold m_selectOf_b736
  have my := g1.b.jt.may (F := F) (x := 34) hF (by decide) (by decide)
  rw [show nI (swK 34) = 9 by decide] at my
  rcases my with ⟨w1, w2, w3, -, -⟩ | ⟨w2, w3, -, -⟩
  · have g2 := g1.tok w1
    have m2 : kI (sI c1 328 t (nI (i + 1))) 331 t = 1 := (kI_n (by omega)).trans m1
    have h32 : kI (sI c1 328 t (nI (i + 1))) 198 o = kI c1 198 o := kI_n (by omega)
    obtain ⟨c2, hc2⟩ : ∃ x, x = sI c1 328 t (nI (i + 1)) := ⟨_, rfl⟩
    obtain ⟨r2, hr2⟩ : ∃ x, x = setF rs 18 (nI (i + 1)) := ⟨_, rfl⟩
    rw [← hc2] at g2 m2 w2 h32
    rw [← hr2] at g2 w3
    rw [← h32] at h3
    have g3 := g2.markr (v := 1)
    have pg := g3.pg1 m2 rfl
    obtain ⟨c4, r4, a, b, e1, e2, e3, e4⟩ := sim_ex (z := z) hF g3.b.z2 (i + 1) s c2 (setF r2 72 1) pg
    rw [w2, ob_s, w3, ob_s, if_neg nz, if_neg nz]
    show ∃ cs' rs', (Option.bind (ckE c2 10 t) fun _ => Option.bind (c_X9_readExpr F 300 c2 t) fun z_6 => Option.bind (pI z_6.1 6 201 o z_6.2) fun cs_8 => c_X9_readSelect_b151 F T cs_8 t u1 o) = some (cs', o) ∧ (if ((setF r2 72 1).1 21) = 0 then (m_selectOf_b771 F T' (setF r2 72 1) (nI e) u2 0 (nI e)) else (Option.bind (m_expr F 300 (setF r2 72 1)) fun z_5 => m_selectOf_b771 F T' z_5.1 (nI e) u2 z_5.2 (nI e))) = some (rs', nI e) ∧ _
    rw [ckE_ok g2.b.h.o, ob_s, e1, ob_s, if_neg (show ¬ (setF r2 72 1).1 21 = 0 by rw [g3.b.g1]; decide), e2, ob_s]
    show ∃ cs' rs', (Option.bind (pI c4 6 201 o b) fun cs_8 => c_X9_readSelect_b151 F T cs_8 t u1 o) = some (cs', o) ∧ m_selectOf_b771 F T' r4 (nI e) u2 a (nI e) = some (rs', nI e) ∧ _
    unfold c_X9_readSelect_b151 m_selectOf_b771 m_selectOf_b777
    rcases e3 with ⟨i', s', h, ea, -⟩ | ⟨pb, fo, fr⟩
    · have eb := (e4 h.g.f0).trans ea
      have g4 := g3.ex1 h
      have sl := h.sl
      have h33 : kI c4 198 o = kI c2 198 o := (AT.fo h.fo (by unfold PX; omega)).i
      have rt := RT.eg h
      have ow := g4.own (cs' := sI c4 201 o (nI (s' - 1))) (rs' := setI r4 41 e (nI (s' - 1))) rfl (fun x j hx => AT.sI (by omega)) rfl rfl (fun k j hk => ?_) rfl ?_ ?_ ?_
      · have g6 := ow.markr (v := 0)
        have f6 := g6.fin (Or.inr ⟨s' - 1, by have := g4.b.s2; omega, rfl, kI_s⟩) h1 h2 (by
          show kI (sI c4 201 o (nI (s' - 1))) 198 o ≠ 0 → 1 ≤ mg
          rw [show kI (sI c4 201 o (nI (s' - 1))) 198 o = kI c4 198 o from kI_n (by omega), h33]
          exact h3)
        refine ⟨_, _, ?_, ?_, f6⟩
        · rw [eb, pI_ok g4.os.e6, ob_s, pR_ok (cs := sI c4 201 o (nI (s' - 1))) g4.b.h.o, ob_s]
        · rw [ea, wrI_n e60 (by decide), ob_s]
      · show (if k = 41 then upd (r4.2.2.1 41) e (nI (s' - 1)) else r4.2.2.1 k) j = _
        by_cases w : k = 41
        · subst w
          rw [if_pos rfl]
          exact pk_un (by omega)
        · rw [if_neg w]
      · exact g4.os.wh.kf (kI_n (by omega)) rfl (Nat.le_refl _) (fun _ _ => rfl) TKF.refl
      · refine Or.inr ⟨s' - 1, u2_s, pk_us, ?_⟩
        exact rt.keep (Nat.le_refl _) (fun _ _ => rfl) TKF.refl (fun x hx => by
          obtain ⟨j, k, m1, m2, m3, m4⟩ := hx
          exact ⟨j, k, m1, (kI_n (by omega)).trans m2, m3, m4⟩)
      · have := g4.os.hg
        rw [show kI (sI c4 201 o (nI (s' - 1))) 198 o = kI c4 198 o from kI_n (by omega), show kI (sI c4 201 o (nI (s' - 1))) 199 o = kI c4 199 o from kI_n (by omega)]
        exact this
    · have fw := g3.fw fo (by omega) pb
      refine ⟨_, _, ?_, ?_, Or.inr ⟨lf, (((fw.own (x := 201) (v := b) (rs' := setI r4 41 e a) (by omega) (RB.ar rfl)).rb (RB.setF (k := 72) (v := 0) (Or.inr (Or.inr rfl)))).end' (v := u1) (w := u2)).le (by omega)⟩⟩
      · rw [pI_ok fw.wo.e, ob_s, pR_ok (cs := sI c4 201 o b) fw.ws.f.h.o, ob_s]
      · rw [wrI_n e60 (by decide), ob_s]
  · rw [w2, ob_s, w3, ob_s, if_pos rfl, if_pos rfl]
    unfold c_X9_readSelect_b151 m_selectOf_b777
    refine ⟨_, _, ?_, rfl, g1.fin (Or.inl rfl) h1 h2 h3⟩
    show Option.bind (pR c1 10 330 t u1) _ = _
    rw [pR_ok g1.b.h.o, ob_s]

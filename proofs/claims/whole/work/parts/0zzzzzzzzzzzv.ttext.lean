/-! a text is taken by both -/
def QGD (F n nst : Nat) (cs cX : CS) (rs rsX : RS) : Prop := ∃ (M cap s lf S Q oq : Nat) (V : VT) (D : Nat → Prop) (cS c0 cR c4 : CS), GCH F n (rs.2.2.1 0) (kK cs) oq nst cs cS c0 cR c4 cX ∧ TXG F n (rs.2.2.1 0) M (kK cs) (kK cs + 1) cap (kK cs + 30) (kK cR) s lf S Q oq 15 V D cX rsX ∧ kK cR < kK cX ∧ COV7 rsX
theorem take_both {F i n nst : Nat} {cs : CS} {rs rsB : RS} (hF : 10000 ≤ F) (hFF : F < 1000000) (h : SIM F i cs rs) (tp : TP n cs rs) (st : ST nst cs rs) (hR : ∀ j, j < n → rsB.2.2.1 2 j = rs.2.2.1 0 j) (r3 : rsB.1 3 = nI n) (b4 : rsB.1 4 = rs.1 4) (b5 : rsB.2.2.1 5 = rs.2.2.1 5) : ∃ cX rsX, c_X11_query F cs 0 = c_X11_query_b63 F cX 0 (kK cs) ∧ m_take F rsB = some rsX ∧ GRW cs cX ∧ kK cX ≤ kK cs + 2601 ∧ kM cX ≤ kM cs + 30006 ∧ (10, kK cs) ∈ kE cX ∧ FR tkA rsB rsX ∧ (387, 9) ∉ kE cX ∧ DFC cX ∧ ((kI cX 320 (kK cs) ≠ 0 ∧ rsX.1 21 = 0 ∧ rsX.1 19 = kI cX 320 (kK cs) ∧ rsX.1 20 = kI cX 321 (kK cs)) ∨ (kI cX 320 (kK cs) = 0 ∧ rsX.1 21 = 1 ∧ rsX.1 19 = 0 ∧ QGD F n nst cs cX rs rsX)) := by
  have k0 := h.k0
  obtain ⟨cS, M, c0, cap, cR, rsT, rs', q1, q2, q3, q4, q5, q6, q7, q8, q9, q10, q11, q12, q13, q14, q15, q16, q17, q18, q19, q20⟩ := take_read (F := F) (rs := rsB) hF h.b h.df h.k0 h.wd tp.le tp.bt tp.eq hR r3
  rw [q8] at q3 q4 q5 q15 q18 q20
  rw [q9] at q16
  have nw : nwO cS 10 12 = some (nO cS 10 12) := if_pos q11.1
  have oT : (12, 0) ∈ kE (nO cS 10 12) := List.mem_append.mpr (Or.inl q10.o)
  have aT : ∀ x, 384 ≤ x → x < 400 → AT cS (nO cS 10 12) x 0 := fun x h1 h2 => nO_AT (by omega)
  have hd : c_X11_query F cs 0 = c_X11_query_b35 F cR 0 (kK cs) := by
    unfold c_X11_query
    rw [gR_ok h.b.o, ob_s, gA_ok h.b.o, h.b.p384, ob_s, gI_ok h.b.o, ob_s, tp.ci, h.b.rT, ob_s, ckE_ok h.b.oT, ob_s, q1, ob_s, nw, ob_s]
    unfold c_X11_query_b18
    rw [gR_ok oT, ob_s, gI_ok oT, ob_s, (aT 387 (by omega) (by omega)).r, q10.rT, ob_s, (aT 385 (by omega) (by omega)).i, (q13 385 0 (by omega)).i, tp.ci, q8, q3, ob_s]
    unfold c_X11_query_b30
    rw [ckE_ok q4, ob_s, q5, ob_s]
  have k3 := (mo_c_X9_init F _ _ _ _ _ q3).1
  have k5 := (mo_c_X9_read F _ _ _ q5).1
  have kT : kK (nO cS 10 12) = kK cS + 1 := rfl
  have gS : GRW cs cS := ⟨fun y j hp w => q12 (y, j) hp w, fun x j _ h2 _ _ => q13 x j h2, q14, q10, by omega⟩
  have gR : GRW cs cR := gS.step h.k0 q17 (fun x j h1 _ _ => q18 x j h1) (by omega)
  have nbS := scan_nb q1
  have nbT : (387, 9) ∉ kE (nO cS 10 12) := fun w => by
    rcases List.mem_append.mp w with w | w
    · exact nbS w
    · exact absurd (Prod.mk.inj (List.mem_singleton.mp w)).1 (by decide)
  have nbR : (387, 9) ∉ kE cR := fun w => nbT (nb_c_X9_init F _ _ _ _ _ q3 (nb_c_X9_read F _ _ _ q5 w))
  have tk := take_mTk q2 q6
  rcases q20 with ⟨s, lf, S, Q, oq, r⟩ | pb
  · have hK : kK cs + 30 ≤ kK cR := by
      have w := r.g.qr
      obtain ⟨w0, w1⟩ : S ≤ S ∧ QRY (QR X0 n (rs.2.2.1 0) M (kK cs + 1) s S Q cR rs' 12) X0 n (rs.2.2.1 0) M (kK cs + 1) s 0 S 0 Q (kK cs + 30) (kK cR) oq 0 cR rs' := w
      have := w1.od
      omega
    have bR := r.g.h.b
    have f4 : rs'.1 4 = rs.1 4 := (q7.f (by unfold tkA; omega)).trans b4
    have f5 : rs'.2.2.1 5 = rs.2.2.1 5 := (q7.a (by unfold tkA; omega)).trans b5
    have aG : ∀ x, x = 256 ∨ x = 258 → AT cs cR x 2 := fun x hx => gR.at' x 2 (by omega) (by omega) (by omega) (by omega)
    have stm : STM nst cR rs' := ⟨bR.oS, by rw [(aG 256 (by omega)).i]; exact st.ci, by rw [f4]; exact st.ri, st.le, bR.e258, ⟨_, bR.p258⟩, bR.l258, fun d hd => by rw [(aG 258 (by omega)).a, f5]; exact st.col d hd⟩
    obtain ⟨c4, c5, rs5, D, h1, h2, h3, h4, h5, h6, h7, h8, h9, h10, h11⟩ := chk_all (F := F) hF hFF r q19 stm hK (by omega)
    have em4 : EM cR c4 := fun p hp => by
      rw [show kE c4 = kE (nO cR 1 6) from congrArg (fun z => z.2.2) h7]
      exact List.mem_append.mpr (Or.inl hp)
    have k4 : kK c4 = kK cR + 1 := congrArg (fun z => z.1) h7
    have m4 : kM c4 = kM cR + 6 := congrArg (fun z => z.2.1) h7
    have e51 := h9.c1
    have k5' : kK c5 = kK c4 := congrArg (fun z => z.1) e51
    have m5' : kM c5 = kM c4 := congrArg (fun z => z.2.1) e51
    have e5 : kE c5 = kE c4 := congrArg (fun z => z.2.2) e51
    have em5 : EM cR c5 := fun p hp => by
      rw [e5]
      exact em4 p hp
    have g5 : GRW cs c5 := gR.step h.k0 em5 (fun x j hj hx _ => (h6 x j hx).trans (h10.2.2.1 x j (by omega) (by omega) (by omega) (fun w => by have := w.1.1; omega))) (by omega)
    have d4 : DFC c4 := dg_c_X0_init F _ _ _ _ c4 h1 (DG.nwO (if_pos q19.1 : nwO cR 1 6 = some (nO cR 1 6)) q19)
    have d5 : DFC c5 := dg_c_X0_checkQuery F 300 c4 _ oq c5 h4 d4
    have nb5 : (387, 9) ∉ kE c5 := fun w => by
      rw [e5, show kE c4 = kE (nO cR 1 6) from congrArg (fun z => z.2.2) h7] at w
      rcases List.mem_append.mp w with w | w
      · exact nbR w
      · exact absurd (Prod.mk.inj (List.mem_singleton.mp w)).1 (by decide)
    refine ⟨c5, rs5, ?_, ?_, g5, by omega, by omega, em5 _ r.g.h.o, q7.trans (h9.fr.mono (fun k hk => by unfold jK at hk; unfold tkA; omega)), nb5, d5, ?_⟩
    · rw [hd]
      unfold c_X11_query_b35
      rw [gI_ok r.g.h.o, ob_s, if_pos r.g.f0, show nwO cR 1 6 = some (nO cR 1 6) from if_pos q19.1, ob_s]
      unfold c_X11_query_b45
      have o12 : (12, 0) ∈ kE (nO cR 1 6) := List.mem_append.mpr (Or.inl bR.o)
      rw [gR_ok o12, ob_s, (nO_AT (cs := cR) (X := 1) (m := 6) (x := 386) (j := 0) (by omega)).r, bR.rS, ob_s, h1, ob_s, gR_ok (em4 _ r.g.h.o), ob_s, h3, ob_s, ckE_ok h2, ob_s, h4, ob_s]
    · rw [tk]
      exact b98_good r.g.g1 h5
    · rcases h8.st with ⟨s1, s2, s3⟩ | ⟨s1, s2, s3, s4⟩
      · refine Or.inr ⟨s1, s2, ?_, M, cap, s, lf, S, Q, oq, _, D, cS, c0, cR, c4, ⟨h.b, h.df, h.k0, h.wd, tp.le, tp.bt, tp.eq, q1, q8.symm, q3, q5, r.g.f0, h1, h3, h4, s1, st.ci, st.le⟩, txg_of hF (by omega) r hK ⟨by omega, by omega⟩ em4 h6 h8 h9 (h11 s2) s2, by omega, (mtk_cov q6 (by rw [r.g.g1]; decide)).e7 (E7.fr h9.fr (fun k hk w => by unfold jK at w; omega))⟩
        have z19' : rs'.1 19 = 0 := gp_mTk q6 (by rw [r.g.g1]; decide)
        exact ((gp_m_judgeQuery h5) (by rw [s2]; decide)).2.trans z19'
      · exact Or.inl ⟨s1, s2, s3, s4⟩
  · refine ⟨cR, rs', ?_, ?_, gR, by omega, by omega, pb.s.h.o, q7, nbR, q19, Or.inl ⟨pb.s.f, pb.r.g, pb.e1.symm, pb.e2.symm⟩⟩
    · rw [hd]
      unfold c_X11_query_b35
      rw [gI_ok pb.s.h.o, ob_s, if_neg pb.s.f]
    · rw [tk]
      exact b98_bad pb.r.g

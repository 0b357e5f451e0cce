/-! a whole text is read: once more, with what was kept -/
def rdR (k : Nat) : Prop := (18 ≤ k ∧ k ≤ 30) ∨ k = 32 ∨ (34 ≤ k ∧ k ≤ 75)
theorem sim_read2 {F n M : Nat} {f : Nat → Int32} {cs : CS} {rs : RS} (hF : 10000 ≤ F) (x : TX n f M cs rs) (b : Bas cs) (kb : KB cs) (k0 : 100 ≤ kK cs) : ∃ c0 cap cs' rs', c_X9_init F (nO cs 10 12) (kK cs) 9 (nI n) = some c0 ∧ (10, kK cs) ∈ kE c0 ∧ c_X9_read F c0 (kK cs) = some cs' ∧ mTk F rs = some rs' ∧ kK cs' ≤ kK cs + 2600 ∧ kM cs' ≤ kM cs + 30000 ∧ EM cs cs' ∧ (∀ x j, j < kK cs → AT cs cs' x j) ∧ ((∃ s lf S Q oq, s ≤ M ∧ FR rdR rs rs' ∧ RDG n f M (kK cs) (kK cs + 1) cap (kK cs + 30) s lf S Q oq cs' rs') ∨ (PB (kK cs) (kK cs + 1) cs' rs' ∧ KB cs')) := by
  obtain ⟨c0, cap, q0, kb0, gw0, hcap, kk0, km0, nt⟩ := new_text (F := F) kb x.n2
  have b0 : Bas c0 := b.gw gw0.1 (fun x i hi => gw0.2.2 x i (by omega))
  have a9 : ∀ x, AT cs c0 x 9 := fun x => gw0.2.2 x 9 (by omega)
  obtain ⟨r0, hr0⟩ : ∃ y, y = setF (setF (setF (setF (setF (setF (setF (setF (setF (setF (setF rs 18 0) 21 1) 19 0) 22 0) 34 0) 59 0) 69 0) 70 0) 71 0) 72 0) 73 0 := ⟨_, rfl⟩
  have fr0 : FR rdR rs r0 := by
    rw [hr0]
    iterate 10 refine FR.trans ?_ (FR.setF (by unfold rdR; omega))
    exact FR.setF (by unfold rdR; omega)
  have ra : r0.2.2.1 = rs.2.2.1 ∧ r0.2.2.2 = rs.2.2.2 := by rw [hr0]; exact ⟨rfl, rfl⟩
  have x0 : TX n f M c0 r0 := x.f' ⟨(a9 352).a, (a9 353).a, (a9 354).b, by rw [ra.1], by rw [ra.1], by rw [ra.1], by rw [ra.2], by rw [ra.1]⟩
  have bg0 : BG n f M (kK cs) (kK cs + 1) cap 0 0 0 0 0 0 c0 r0 := by
    refine ⟨⟨b0, nt.o, nt.r327, nt.r322, nt.oc⟩, x0, nt.z 320 (by decide) (by decide) (by decide) (by decide) (by decide), nt.z 328 (by decide) (by decide) (by decide) (by decide) (by decide), nt.z 329 (by decide) (by decide) (by decide) (by decide) (by decide), nt.c64, ?_, ?_, ?_, ?_, Nat.zero_le _, Nat.le_refl _, by omega, by omega, hcap, nt.ca, ?_, kb0, by omega, by omega, nt.z 325 (by decide) (by decide) (by decide) (by decide) (by decide), ?_, by omega, nt.e326, nt.p326, nt.l326, ?_, ?_⟩
    all_goals (rw [hr0]; rfl)
  have my := bg0.jt.may (F := F) (x := 2) hF (by decide) (by decide)
  rw [show nI (swK 2) = 37 by decide] at my
  have st : ∃ i v c1 r1, c_X9_accept F c0 (kK cs) 37 = some (c1, v) ∧ m_takeWord F r0 2 = some (r1, v) ∧ (v = 0 ∨ v = 1) ∧ BG n f M (kK cs) (kK cs + 1) cap i 0 0 0 0 0 c1 r1 ∧ kK c1 = kK c0 ∧ kM c1 = kM c0 ∧ kE c1 = kE c0 ∧ (∀ x j, j ≠ kK cs → AT c0 c1 x j) ∧ FR rdR r0 r1 := by
    rcases my with ⟨w1, w2, w3, -, -⟩ | ⟨w2, w3, -, -⟩
    · exact ⟨1, 1, _, _, w2, w3, Or.inr rfl, bg0.next w1, rfl, rfl, rfl, fun x j hj => AT.sI (by omega), FR.setF (by unfold rdR; omega)⟩
    · exact ⟨0, 0, _, _, w2, w3, Or.inl rfl, bg0, rfl, rfl, rfl, fun x j hj => AT.refl, FR.refl _⟩
  obtain ⟨i1, v, c1, r1, s1, s2, hv, bg1, kk1, km1, s3, s4, s5⟩ := st
  have bg2 := bg1.s324 (v := v) (w := v)
  have u324 : kI (sI c1 324 (kK cs) v) 324 (kK cs) = v := kI_s
  have r75 : (setF r1 75 v).1 75 = v := rfl
  have sm2 : SM (kK cs) 0 0 (sI c1 324 (kK cs) v) (setF r1 75 v) := ⟨fun k hk => absurd hk (by omega), fun w => rfl⟩
  have ckz : ckZ v = some v := if_pos hv
  have kk2 : kK (sI c1 324 (kK cs) v) = kK c0 ∧ kM (sI c1 324 (kK cs) v) = kM c0 := ⟨kk1, km1⟩
  have o1 := bg1.h.o
  obtain ⟨c2, hc2⟩ : ∃ y, y = sI c1 324 (kK cs) v := ⟨_, rfl⟩
  obtain ⟨r2, hr2⟩ : ∃ y, y = setF r1 75 v := ⟨_, rfl⟩
  have q2 : pI c1 10 324 (kK cs) v = some c2 := by rw [pI_ok o1, hc2]
  rw [← hc2] at bg2 u324 sm2 kk2
  rw [← hr2] at bg2 r75 sm2
  have em02 : EM cs c2 := fun q hq => by
    rw [hc2]
    have w := gw0.1 q hq
    have e9 : kE c1 = kE c0 := s3
    show q ∈ kE c1
    rw [e9]
    exact w
  have a02 : ∀ x j, j < kK cs → AT cs c2 x j := fun x j hj => by
    rw [hc2]
    exact ((gw0.2.2 x j hj).trans (s4 x j (by omega))).trans (AT.sI (by omega))
  obtain ⟨c3, r3, oq, e1, e2, e3⟩ := sim_query (F := F) hF i1 0 0 0 0 c2 r2 bg2 sm2 (by omega) (by omega)
  have eC : c_X9_read F c0 (kK cs) = c_X9_read_b15 F c3 (kK cs) oq (kK cs) := by
    unfold c_X9_read
    rw [ckE_ok nt.o, ob_s, s1, ob_s, ckz, ob_s, q2, ob_s, ckE_ok bg2.h.o, ob_s, e1, ob_s]
  have eR : mTk F rs = if (r3.1 21) = 0 then some r3 else (Option.bind (rdI (r3.2.2.1 14) 2001 (r3.1 18)) fun v_8 => if v_8 = 0 then some r3 else m_wrong F r3) := by
    unfold mTk
    rw [← hr0, s2, ob_s, ckz, ob_s, ← hr2, e2, ob_s]
  refine ⟨c0, cap, ?_⟩
  rw [eC, eR]
  unfold c_X9_read_b15
  rcases e3 with ⟨i, s, lf, S, Q, b3, pd, qr, sm, r330, r71, ⟨j1, j2, j3, j4, j5⟩, kr, mr, ct⟩ | ⟨lf, fq⟩
  · obtain ⟨p, κ, hk, hka, hkb, kd, hkl, pr⟩ := b3.jt.tok (F := F)
    have i2 := b3.jt.i2
    have l3 := b3.l3
    have tK : kK cs < kK c2 := by omega
    have cK : kK cs + 1 < kK c2 := by omega
    have u3 : kI c3 324 (kK cs) = v := by rw [(pd.tt 324 (by omega)).i]; exact u324
    have r3v : r3.1 75 = v := by rw [pd.qf.1.f (by unfold pR'; omega)]; exact r75
    have scap : s ≤ cap := by
      have := b3.si
      have := b3.s2
      have := b3.im
      have := b3.x.mn
      rcases b3.cp with y | ⟨y1, y2⟩ <;> omega
    rw [pR_ok b3.h.o, ob_s, if_neg (show ¬ r3.1 21 = 0 by rw [b3.g1]; decide), b3.ri, rdI_n i2 (by decide), ob_s]
    have sh4 : SH (kK cs) (kK cs + 1) (sR c3 323 (kK cs) (some oq)) := ⟨b3.h.b.gw EM.refl (fun x i hi => AT.sR (by have := b3.t37; omega)), b3.h.o, (AT.sR (cs := c3) (t := 323) (j := kK cs) (v := some oq) (x := 327) (i := kK cs) (by omega)).r.trans b3.h.tk, (AT.sR (cs := c3) (t := 323) (j := kK cs) (v := some oq) (x := 322) (i := kK cs) (by omega)).r.trans b3.h.rc, b3.h.oc⟩
    have kd4 : c_X9_kind F (sR c3 323 (kK cs) (some oq)) (kK cs) = some (nI κ) := knd_ok sh4 b3.f0 b3.ci i2 (hk.f TKF.refl)
    rw [ckE_ok sh4.o, ob_s]
    by_cases y : κ = 56
    · have kd5 : c_X9_kind F (sR c3 323 (kK cs) (some oq)) (kK cs) = some 56 := by rw [kd4, y]; rfl
      rw [exp_y sh4 b3.ci kd5, ob_s, if_pos (hk.en y)]
      have fz : FZ (kK cs + 1) (kK c2) (kK c3) 0 S 0 Q s c3 r3 (sI (sR c3 323 (kK cs) (some oq)) 328 (kK cs) (nI (i + 1))) r3 := ⟨⟨EM.refl, fun x j a1 a2 _ => (AT.sR (by omega)).trans (AT.sI (by omega)), fun j a1 a2 => ((AT.sR (cs := c3) (by omega)).trans (AT.sI (by omega))).ap, fun _ _ => rfl, TKF.refl⟩, fun k j a1 a2 a3 a4 a5 => rfl, fun j _ a2 => rfl⟩
      have q4 : QR X0 n f M (kK cs + 1) s S Q (sI (sR c3 323 (kK cs) (some oq)) 328 (kK cs) (nI (i + 1))) r3 13 S 0 0 (kK c2) (kK c3) oq 0 := QR.keep (Nat.le_refl _) b3.s2 (Nat.le_refl _) (Nat.le_refl _) (Nat.le_refl _) (Nat.le_refl _) 13 S 0 0 (kK c2) (kK c3) oq 0 qr fz (fun x w1 w2 w3 => CLM.keep w3 EM.refl (fun y z1 z2 => (AT.sR (by omega)).trans (AT.sI (by omega))))
      have sm4 : SM (kK cs) lf S (sI (sR c3 323 (kK cs) (some oq)) 328 (kK cs) (nI (i + 1))) r3 := by
        refine ⟨sm.1, fun w => ?_⟩
        rw [← sm.2 w, lsm_eq (cs := c3) lf (fun k hk => ?_)]
        unfold lk1
        rw [show kQ (sI (sR c3 323 (kK cs) (some oq)) 328 (kK cs) (nI (i + 1))) 326 (kK cs) k = kQ c3 326 (kK cs) k from rfl]
        cases hq : kQ c3 326 (kK cs) k with
        | none => rfl
        | some o' =>
          show w (kI (sI (sR c3 323 (kK cs) (some oq)) 328 (kK cs) (nI (i + 1))) 224 o') (kJ c3 230 o') = w (kI c3 224 o') (kJ c3 230 o')
          rw [kI_n (by omega)]
          rfl
      refine ⟨_, _, q0, nt.o, rfl, rfl, ?_, ?_, fun q hq => pd.em q (em02 q hq), fun x j hj => (a02 x j hj).trans ((pd.a0 x j (by omega) (by omega) (by omega)).trans ((AT.sR (by omega)).trans (AT.sI (by omega)))), Or.inl ⟨s, lf, S, Q, oq, by have := b3.si; have := b3.im; omega, ?_, ?_⟩⟩
      · show kK c3 ≤ _
        omega
      · show kM c3 ≤ _
        omega
      · refine (fr0.trans (s5.trans ?_)).trans (pd.qf.1.mono (fun k hk => by unfold pR' at hk; unfold rdR; omega))
        rw [hr2]
        exact FR.setF (by unfold rdR; omega)
      · rw [show kK cs + 30 = kK c2 by omega]
        exact ⟨⟨sh4.b, sh4.o, sh4.tk, sh4.rc, sh4.oc⟩, b3.x.f' TKF.refl, (kI_n (by omega)).trans b3.f0, (kI_n (by omega)).trans b3.cn, b3.g1, b3.rn, b3.s2, b3.cp, scap, b3.ca, b3.kb, b3.t37, b3.c37, ⟨tK, cK⟩, (kI_n (by omega)).trans b3.cl, b3.rl, l3, b3.e326, b3.p326, b3.l326, b3.rS, b3.rQ, q4, sm4, u2_s, ⟨by rw [kI_n (by omega), r3v]; exact u3, by rw [r3v]; exact hv⟩, ⟨j1, j2, j3, j5, by omega⟩⟩
    · have ne : nI κ ≠ 56 := fun w => y ((nI_eq (b := 56) (by omega) (by decide)).mp w)
      have n0 : ¬ r3.2.2.1 14 i = 0 := tk_n0 hk y
      rw [exp_n sh4 b3.f0 b3.ci i2 kd4 ne, ob_s, if_neg n0, wro_ok b3.g1 b3.ri i2, pr]
      have pb := b3.jt.bad (a := 1) (b := kA c3 353 9 i) (by decide)
      refine ⟨_, _, q0, nt.o, rfl, rfl, ?_, ?_, fun q hq => pd.em q (em02 q hq), fun x j hj => (a02 x j hj).trans ((pd.a0 x j (by omega) (by omega) (by omega)).trans ((AT.sR (by omega)).trans ((AT.sI (by omega)).trans (AT.sI (by omega))))), Or.inr ⟨⟨⟨⟨sh4.b, sh4.o, sh4.tk, sh4.rc, sh4.oc⟩, pb.s.f, pb.s.i⟩, pb.r, pb.e1, pb.e2⟩, b3.kb⟩⟩
      · show kK c3 ≤ _
        omega
      · show kM c3 ≤ _
        omega
  · have fs := fq.ws.f
    have hkr := fq.kr
    have hmr := fq.mr
    have fs4 : FS (kK cs) (kK cs + 1) (sR c3 323 (kK cs) (some oq)) := ⟨⟨fs.h.b.gw EM.refl (fun x i hi => AT.sR (by omega)), fs.h.o, (AT.sR (cs := c3) (t := 323) (j := kK cs) (v := some oq) (x := 327) (i := kK cs) (by omega)).r.trans fs.h.tk, (AT.sR (cs := c3) (t := 323) (j := kK cs) (v := some oq) (x := 322) (i := kK cs) (by omega)).r.trans fs.h.rc, fs.h.oc⟩, fs.f, fs.i⟩
    rw [pR_ok fs.h.o, ob_s, ckE_ok fs4.h.o, ob_s, expf fs4 (by decide), ob_s, if_pos fq.pb.r.g]
    refine ⟨_, _, q0, nt.o, rfl, rfl, ?_, ?_, fun q hq => fq.em q (em02 q hq), fun x j hj => (a02 x j hj).trans ((fq.a0 x j (by omega) (by omega) (by omega)).trans (AT.sR (by omega))), Or.inr ⟨⟨fs4, fq.pb.r, fq.pb.e1, fq.pb.e2⟩, fq.ws.kb⟩⟩
    · show kK c3 ≤ _
      omega
    · show kM c3 ≤ _
      omega

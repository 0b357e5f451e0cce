/-! a text is read, and taken again -/
def tkA (k : Nat) : Prop := 14 ≤ k ∧ k ≤ 80
theorem take_read {F n : Nat} {f : Nat → Int32} {cg : CS} {rs : RS} (hF : 10000 ≤ F) (b : Bas cg) (df : DFC cg) (k0 : 100 ≤ kK cg) (wd : ∀ j, j < 39 → kB cg 358 9 j = lN (tn j)) (n2 : n ≤ 2000) (zb : ∀ i, i < n → zisB (f i)) (tp : ∀ i, i < n → kA cg 384 0 i = f i) (hR : ∀ i, i < n → rs.2.2.1 2 i = f i) (r3 : rs.1 3 = nI n) : ∃ cS M c0 cap cR rsT rs', c_X10_scan F cg 9 0 1 (nI n) = some cS ∧ m_tokens F rs = some rsT ∧ c_X9_init F (nO cS 10 12) (kK cS) 9 (nI n) = some c0 ∧ (10, kK cS) ∈ kE c0 ∧ c_X9_read F c0 (kK cS) = some cR ∧ mTk F rsT = some rs' ∧ FR tkA rs rs' ∧ kK cS = kK cg ∧ kM cS = kM cg ∧ Bas cS ∧ DFC cS ∧ (∀ p : Nat × Nat, p ≠ (387, 9) → p ∈ kE cg → p ∈ kE cS) ∧ (∀ x j, x / 32 ≠ 11 → AT cg cS x j) ∧ kB cS 358 9 = kB cg 358 9 ∧ kK cR ≤ kK cS + 2600 ∧ kM cR ≤ kM cS + 30000 ∧ EM cS cR ∧ (∀ x j, j < kK cS → AT cS cR x j) ∧ DFC cR ∧ ((∃ s lf S Q oq, RDK n f M (kK cS) (kK cS + 1) cap (kK cS + 30) s lf S Q oq cR rs') ∨ PB (kK cS) (kK cS + 1) cR rs') := by
  obtain ⟨cS, rsT, M, s1, s2, s3, s4, s5, s6, s7, s8, s9, s10, s11⟩ := sim_scan (F := F) hF b df.1 wd n2 zb tp hR r3
  have dS : DFC cS := dg_c_X10_scan F cg 9 0 1 (nI n) cS s1 df
  obtain ⟨c0, cap, cR, rs', q0, q1, q2, q3, q4, q5, q6, q7, q8, q9⟩ := rd_all (F := F) hF s3 s4 dS (by omega) (fun κ h1 h2 => tx_lt hF b wd n2 zb tp hR s1 s3 h1 h2)
  refine ⟨cS, M, c0, cap, cR, rsT, rs', s1, s2, q0, q1, q2, q3, ?_, s6, s7, s4, dS, s8, s9, s10, q4, q5, q6, q7, q8, ?_⟩
  · exact (s11.mono (fun k hk => by unfold tkR at hk; unfold tkA; omega)).trans ((fp_mTk q3).mono (fun k hk => by unfold rdR at hk; unfold tkA; omega))
  · rcases q9 with ⟨s, lf, S, Q, oq, -, w⟩ | w
    · exact Or.inl ⟨s, lf, S, Q, oq, w⟩
    · exact Or.inr w
theorem init_k {F k t s : Nat} {cs c4 : CS} (h : c_X0_init F cs k t s = some c4) : kR c4 32 k = some t ∧ (∀ x j, x / 32 ≠ 1 → AT cs c4 x j) ∧ c4.1 = cs.1 := by
  unfold c_X0_init at h
  replace h := ob h; obtain ⟨c1, g1, h⟩ := h
  replace h := ob h; obtain ⟨c2, g2, h⟩ := h
  replace h := ob h; obtain ⟨v3, g3, h⟩ := h
  replace h := ob h; obtain ⟨c5, g5, h⟩ := h
  obtain ⟨a1, b1⟩ := pR_some g1
  obtain ⟨a2, b2⟩ := pR_some g2
  obtain ⟨a5, b5⟩ := pR_some g5
  rw [← Option.some.inj h, ← b5, ← b2, ← b1]
  refine ⟨?_, fun x j hx => ((AT.sR (by omega)).trans (AT.sR (by omega))).trans (AT.sR (by omega)), rfl⟩
  have e1 : AT (sR cs 32 k (some t)) (sR (sR (sR cs 32 k (some t)) 33 k (some s)) 34 k v3) 32 k := (AT.sR (by omega)).trans (AT.sR (by omega))
  rw [e1.r]
  exact u2_s
theorem b98_good {F : Nat} {rs rs5 : RS} (h : rs.1 21 = 1) (e : m_judgeQuery F 300 rs 0 = some rs5) : m_take_b98 F rs = some rs5 := by
  unfold m_take_b98 m_take_b110
  rw [if_neg (by rw [h]; decide), e, ob_s]
theorem b98_bad {F : Nat} {rs : RS} (h : rs.1 21 = 0) : m_take_b98 F rs = some rs := by
  unfold m_take_b98 m_take_b110
  rw [if_pos h]
theorem nO_AT {cs : CS} {X m x j : Nat} (h : ¬ (x / 32 = X ∧ j = kK cs)) : AT cs (nO cs X m) x j := AT.ng h
theorem retake {F n t oq ss nst ar : Nat} {f : Nat → Int32} {cg cS c0 cR c4 c5 cs : CS} {rs : RS} (hF : 10000 ≤ F) (hFF : F < 1000000) (g : GCH F n f t oq ss cg cS c0 cR c4 c5) (hR : ∀ i, i < n → rs.2.2.1 2 i = f i) (r3 : rs.1 3 = nI n) (bs : Bas cs) (st : ST nst cs rs) (ssl : ss ≤ nst) (col : ∀ d, d < ss → kA cg 258 2 d = kA cs 258 2 d) (na : ar ≠ t + 1) : ∃ (rs9 : RS) (M cap s lf S Q : Nat) (V : VT) (D : Nat → Prop), m_take F rs = some rs9 ∧ FR tkA rs rs9 ∧ rs9.1 21 = 1 ∧ rs9.1 19 = 0 ∧ TXG F n f M t (t + 1) cap (t + 30) (kK cR) s lf S Q oq ar V D (sgX (kI cs 256 2) (kA cs 258 2) c5) rs9 ∧ COV7 rs9 := by
  obtain ⟨cS', M, c0', cap, cR', rsT, rs', q1, q2, q3, q4, q5, q6, q7, q8, q9, q10, q11, q12, q13, q14, q15, q16, q17, q18, q19, q20⟩ := take_read (F := F) (rs := rs) hF g.b g.df g.k0 g.wd g.n2 g.zb g.tp hR r3
  have eS : cS' = cS := Option.some.inj (q1.symm.trans g.e1)
  rw [eS] at q3 q4 q5 q8 q9 q10 q11 q12 q13 q14 q15 q16 q17 q18 q20
  rw [← g.tS] at q3 q5 q20
  have e0 : c0' = c0 := Option.some.inj (q3.symm.trans g.e2)
  rw [e0] at q5
  have eR : cR' = cR := Option.some.inj (q5.symm.trans g.e3)
  rw [eR] at q15 q16 q17 q18 q19 q20
  have k0 := g.k0
  have tS := g.tS
  rcases q20 with ⟨s, lf, S, Q, oq', r⟩ | pb
  · obtain ⟨i32, ia, i1⟩ := init_k g.e4
    have hK : t + 30 ≤ kK cR := by
      have w := r.g.qr
      obtain ⟨w0, w1⟩ : S ≤ S ∧ QRY (QR X0 n f M (t + 1) s S Q cR rs' 12) X0 n f M (t + 1) s 0 S 0 Q (t + 30) (kK cR) oq' 0 cR rs' := w
      have := w1.od
      omega
    have aG : ∀ x, x = 256 ∨ x = 258 → AT cg cR x 2 := fun x hx => (q13 x 2 (by omega)).trans (q18 x 2 (by omega))
    have a4 : ∀ x j, x / 32 ≠ 1 → AT cR c4 x j := fun x j hx => (nO_AT (by omega)).trans (ia x j hx)
    obtain ⟨n9, hn9⟩ : ∃ z, z = kI cs 256 2 := ⟨_, rfl⟩
    obtain ⟨a9, ha9⟩ : ∃ z, z = kA cs 258 2 := ⟨_, rfl⟩
    rw [← hn9, ← ha9]
    have n9v : n9 = nI nst := by rw [hn9]; exact st.ci
    have rr := rdk_sg (n9 := n9) (a9 := a9) r hK
    have dd : DFC (sgX n9 a9 cR) := dfc_sg q19 (by omega)
    have fr4 : rs'.1 4 = rs.1 4 := q7.f (by unfold tkA; omega)
    have fr5 : rs'.2.2.1 5 = rs.2.2.1 5 := q7.a (by unfold tkA; omega)
    have bR := r.g.h.b
    have stm : STM nst (sgX n9 a9 cR) rs' := by
      refine ⟨bR.oS, sg_256.trans n9v, fr4.trans st.ri, st.le, bR.e258, ⟨_, bR.p258⟩, bR.l258, fun d hd => ?_⟩
      obtain ⟨m, m1, m2, m3, m4⟩ := st.col d hd
      refine ⟨m, m1, m2, ?_, by rw [fr5]; exact m4⟩
      rw [sg_258, ha9]
      exact m3
    obtain ⟨c4', c5', rs5, D, h1, h2, h3, h4, h5, h6, h7, h8, h9, h10, h11⟩ := chk_all (F := F) hF hFF rr dd stm hK (by omega)
    have e4 : c4' = sgX n9 a9 c4 := by
      have w := sg_init (n9 := n9) (a9 := a9) g.e4
      rw [← sg_nO (by decide)] at w
      exact Option.some.inj (h1.symm.trans w)
    rw [e4] at h3 h4 h6 h7 h9 h10 h11
    have eo : oq' = oq := by
      have w : kR (sgX n9 a9 c4) 323 t = kR c4 323 t := rfl
      exact Option.some.inj (h3.symm.trans (w.trans g.r4))
    rw [eo] at r h4 h11
    have sgh : SGH n9 a9 ss (kK cR) t c4 := by
      refine ⟨?_, fun d hd => ?_, i32, g.s0.2, nst, n9v, ssl, st.le⟩
      · rw [(a4 256 2 (by omega)).i, (aG 256 (by omega)).i]
        exact g.s0.1
      · rw [(a4 258 2 (by omega)).a, (aG 258 (by omega)).a, ha9]
        exact (col d hd).symm
    have hs := (hs_c_X0_checkQuery sgh g.e5).2 g.f5
    have e5 : c5' = sgX n9 a9 c5 := Option.some.inj (h4.symm.trans hs.2)
    rw [e5] at h8 h9 h10 h11
    have f5 : kI (sgX n9 a9 c5) 320 t = 0 := (sg_I (by decide)).trans g.f5
    have g21 : rs5.1 21 = 1 := by
      rcases h8.st with ⟨s1, s2, s3⟩ | ⟨s1, -⟩
      · exact s2
      · exact absurd f5 s1
    have z19' : rs'.1 19 = 0 := gp_mTk q6 (by rw [r.g.g1]; decide)
    have z19 : rs5.1 19 = 0 := ((gp_m_judgeQuery h5) (by rw [g21]; decide)).2.trans z19'
    have r2 := rdk_sg (n9 := n9) (a9 := a9) r hK
    refine ⟨rs5, M, cap, s, lf, S, Q, _, D, ?_, q7.trans (h9.fr.mono (fun k hk => by unfold jK at hk; unfold tkA; omega)), g21, z19, txg_of (cR := sgX n9 a9 cR) hF na r2 hK ⟨by omega, by omega⟩ (fun p hp => ?_) h6 h8 h9 (h11 g21) g21, (mtk_cov q6 (by rw [r.g.g1]; decide)).e7 (E7.fr h9.fr (fun k hk w => by unfold jK at w; omega))⟩
    · rw [take_mTk q2 q6]
      exact b98_good r.g.g1 h5
    · have w : kE (sgX n9 a9 c4) = kE c4 := rfl
      rw [w, show kE c4 = kE (nO cR 1 6) from congrArg (fun z => z.2.2) i1]
      exact List.mem_append.mpr (Or.inl hp)
  · exact absurd g.f3 pb.s.f

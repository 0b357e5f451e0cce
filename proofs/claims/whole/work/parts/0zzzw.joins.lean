/-! a SELECT: from and the joins -/
theorem FW.grow {t c cap K0 S0 l0 o it lf r : Nat} {cs0 cs : CS} {rs : RS} {cs' : CS} (h : FW t c cap K0 S0 l0 cs0 o it lf r cs rs) (ws : WS t c cap lf cs') (g : GF t (kK cs) cs cs') (kk : kK cs' = kK cs + 6) (km : kM cs' = kM cs + 49) : FW t c cap K0 S0 l0 cs0 o it lf (r + 6) cs' rs := by
  obtain ⟨x1, x2, x3, x4⟩ := h.kx
  have it0 := h.it0
  have h1 := h.kr
  have h2 := h.mr
  exact ⟨h.pb.gf ws.f g h.ws.t0, ws, h.wo.keep g.1 (fun x hx => g.2.2 x o (by omega) (by omega)) (fun x a1 a2 => g.2.2 x it (by omega) (by omega)), h.em.trans g.1, fun x j a1 a2 a3 => (h.a0 x j a1 a2 a3).trans (g.2.2 x j (by omega) (by omega)), h.kx, by omega, by omega⟩
theorem FW.src {t c cap K0 S0 l0 o it lf r : Nat} {cs0 cs : CS} {rs : RS} {F oo : Nat} (h : FW t c cap K0 S0 l0 cs0 o it lf r cs rs) (ho : (7, oo) ∈ kE cs) : ∃ cs', c_X9_addSource F cs o oo = some cs' ∧ FW t c cap K0 S0 l0 cs0 o it lf r cs' rs := by
  obtain ⟨x1, x2, x3, x4⟩ := h.kx
  obtain ⟨cs', e1, wo, q, a⟩ := adds_f (F := F) h.wo ho
  have h1 := h.kr
  have h2 := h.mr
  have em : EM cs cs' := EM.of (congrArg (fun z => z.2.2) q)
  have kk : kK cs' = kK cs := congrArg (fun z => z.1) q
  have km : kM cs' = kM cs := congrArg (fun z => z.2.1) q
  have g : GF t o cs cs' := ⟨em, by omega, fun x i hi _ => a x i (by omega)⟩
  have ws := h.ws.gf g (h.ws.kb.of q) (by omega) (by omega)
  exact ⟨cs', e1, ⟨h.pb.gf ws.f g (by omega), ws, wo, h.em.trans em, fun x j a1 a2 a3 => (h.a0 x j a1 a2 a3).trans (a x j (by omega)), h.kx, by omega, by omega⟩⟩
theorem tl3_f {t c cap K0 S0 l0 o it lf r : Nat} {cs0 cs : CS} {rs : RS} {F oo : Nat} {rc : CS → Nat → Nat → Int32 → Option CS} {v w : Int32} (hb : ∀ cs, FS t c cs → rc cs t o w = some cs) (h : FW t c cap K0 S0 l0 cs0 o it lf r cs rs) (ho : (7, oo) ∈ kE cs) (hoo : it < oo) : ∃ csX, (Option.bind (pI cs 7 233 oo v) fun cs_9 => Option.bind (c_X9_addSource F cs_9 o oo) fun cs_10 => rc cs_10 t o w) = some csX ∧ FW t c cap K0 S0 l0 cs0 o it lf r csX rs := by
  have h1 : FW t c cap K0 S0 l0 cs0 o it lf r (sI cs 233 oo v) rs := h.gf (K := oo) (GF.gw (GW.sI (Nat.le_refl _))) RB.refl hoo rfl
  obtain ⟨c2, e1, h2⟩ := h1.src (F := F) (oo := oo) ho
  refine ⟨c2, ?_, h2⟩
  rw [pI_ok ho, ob_s, e1, ob_s]
  exact hb c2 h2.ws.f
theorem tl2_f {t c cap K0 S0 l0 o it lf r : Nat} {cs0 cs : CS} {rs : RS} {F oo : Nat} {rc : CS → Nat → Nat → Int32 → Option CS} {w : Int32} (hF : 10000 ≤ F) (hb : ∀ cs, FS t c cs → rc cs t o w = some cs) (h : FW t c cap K0 S0 l0 cs0 o it lf r cs rs) (ho : (7, oo) ∈ kE cs) (hoo : it < oo) : ∃ csX, (Option.bind (pI cs 10 331 t 0) fun cs_6 => Option.bind (ckE cs_6 10 t) fun _ => Option.bind (c_X9_readExpr F 300 cs_6 t) fun z_7 => Option.bind (pI z_7.1 7 233 oo z_7.2) fun cs_9 => Option.bind (c_X9_addSource F cs_9 o oo) fun cs_10 => rc cs_10 t o w) = some csX ∧ FW t c cap K0 S0 l0 cs0 o it lf r csX rs := by
  have h1 := h.mark (v := 0)
  obtain ⟨b, hb1⟩ := tf1 (k := 300) hF (by decide) h1.ws.f
  obtain ⟨cX, e1, e2⟩ := tl3_f (F := F) (v := b) hb h1 ho hoo
  refine ⟨cX, ?_, e2⟩
  rw [pI_ok h.ws.f.h.o, ob_s, ckE_ok h1.ws.f.h.o, ob_s]
  show (Option.bind ((tabc_X9_readExpr F 300).1 (sI cs 331 t 0) t) _) = _
  rw [hb1, ob_s]
  exact e1
theorem b54_f {t c cap K0 S0 l0 o it lf r : Nat} {cs0 cs : CS} {rs : RS} {F oo : Nat} {T : TC_X9_readQuery} {rc : CS → Nat → Nat → Int32 → Option CS} {w L pl : Int32} (hF : 10000 ≤ F) (hb : ∀ cs, FS t c cs → rc cs t o (w + 1) = some cs) (hL : L = 0 ∨ L = 1) (h : FW t c cap K0 S0 l0 cs0 o it lf r cs rs) (ho : (7, oo) ∈ kE cs) (hoo : it < oo) : ∃ csX, c_X9_readSources_b54 F T rc cs t o w L pl oo = some csX ∧ FW t c cap K0 S0 l0 cs0 o it lf r csX rs := by
  have h1 : FW t c cap K0 S0 l0 cs0 o it lf r (sI (sI cs 231 oo L) 232 oo pl) rs := h.gf (K := oo) (GF.gw ((GW.sI (Nat.le_refl _)).trans (GW.sI (Nat.le_refl _)))) RB.refl hoo rfl
  obtain ⟨cX, e1, e2⟩ := tl2_f (F := F) hF hb h1 ho hoo
  refine ⟨cX, ?_, e2⟩
  unfold c_X9_readSources_b54
  rw [show ckZ L = some L from if_pos hL, ob_s, pI_ok ho, ob_s, pI_ok (cs := sI cs 231 oo L) ho, ob_s, ckE_ok h1.ws.f.h.o, ob_s, expf h1.ws.f (by decide), ob_s]
  exact e1
theorem mj_f {F : Nat} {T : TG_queryOf} {rc : RS → Int32 → Int32 → Option (RS × Int32)} {rs : RS} {u1 u2 u7 : Int32} (hb : ∀ rs, FT rs → ∃ rs', rc rs u1 u2 = some (rs', u1) ∧ RB rs rs') (h : FT rs) : ∃ rs', (Option.bind (m_needWord F (setF (setF rs 71 u1) 72 0) 30) fun cs_42 => if (cs_42.1 21) = 0 then (m_selectOf_b482 F T rc cs_42 u1 u2 u7 0) else (Option.bind (m_expr F 300 cs_42 ) fun z_44 => m_selectOf_b482 F T rc z_44.1 u1 u2 u7 z_44.2)) = some (rs', u1) ∧ RB rs rs' := by
  have r1 : RB rs (setF (setF rs 71 u1) 72 0) := (RB.setF (Or.inr (Or.inl rfl))).trans (RB.setF (Or.inr (Or.inr rfl)))
  have h1 := h.rb r1
  obtain ⟨i, j1, j2⟩ := h1.i
  obtain ⟨rs', e1, e2⟩ := hb _ h1
  refine ⟨rs', ?_, r1.trans e2⟩
  rw [nw_f j1 j2 h1.g, ob_s, if_pos h1.g]
  unfold m_selectOf_b482 m_selectOf_b500
  rw [if_pos h1.g]
  exact e1
theorem jn_bad {n : Nat} {f : Nat → Int32} {M t c cap : Nat} {d K0 S0 Q0 s0 l0 ql z o e it lf r : Nat} {u1 : Option Nat} {u2 : Int32} {cs0 cs : CS} {rs0 rs rs' : RS} {F : Nat} {T : TC_X9_readQuery} (h : FW t c cap K0 S0 l0 cs0 o it lf r cs rs) (hr : r ≤ 2400 + 10 * (12 - z)) (rb : RB rs rs') : ∃ cs', c_X9_readSelect_b93 F T cs t u1 o = some (cs', o) ∧ SPO n f M t c cap d K0 S0 Q0 s0 l0 ql z u1 u2 cs0 rs0 o e it cs' rs' := by
  have h1 := (h.mark (v := 0)).mark (v := 1)
  exact ⟨_, b93_f h.ws, Or.inr ⟨lf, (h1.gf (K := kK cs) (cs' := sR (sI (sI cs 331 t 0) 331 t 1) 330 t u1) GF.sel rb h.it0 rfl).le hr⟩⟩
/-- one join -/
theorem jn_step {n : Nat} {f : Nat → Int32} {M t c cap : Nat} {d K0 S0 Q0 s0 l0 ql z o e it gr mi ns i s lf S Q : Nat} {u1 : Option Nat} {u2 : Int32} {cs0 cs : CS} {rs0 rs : RS} {F : Nat} {Ts Tr T T2 T3 T4 T5 : TC_X9_readQuery} {Tq T' : TG_queryOf} {rc : CS → Nat → Nat → Int32 → Option CS} {rc' : RS → Int32 → Int32 → Option (RS × Int32)} {w : Int32} (hF : 10000 ≤ F) (hR : Tr.2.2.2 = cb_X9_readSource F T) (hS : Tq.2.2 = b_source F T') (hQ : z < 12 → QS n f M t c cap d (z + 1) T.1 T'.1) (hT1 : T.1 = cb_X9_readQuery F T2) (hT2 : T2.2.1 = cb_X9_readSelect F T3) (hT3 : T3.2.2.1 = cb_X9_readSources F T4) (hT4 : T4.2.2.2 = cb_X9_readSource F T5) (hb : ∀ cs, FS t c cs → rc cs t o (w + 1) = some cs) (hb' : ∀ rs, FT rs → ∃ rs', rc' rs (nI e) u2 = some (rs', nI e) ∧ RB rs rs') (hg : ns < 3 → ∀ (i s lf S Q : Nat) (cs : CS) (rs : RS), SG none n f M t c cap d K0 S0 Q0 s0 l0 ql z u1 u2 cs0 rs0 o e it gr mi (ns + 1) (ns + 1) 0 i s lf S Q cs rs → kI cs 198 o = 0 → ∃ csX cs' rs', rc cs t o (w + 1) = some csX ∧ c_X9_readSelect_b93 F Ts csX t u1 o = some (cs', o) ∧ rc' rs (nI e) u2 = some (rs', nI e) ∧ SPO n f M t c cap d K0 S0 Q0 s0 l0 ql z u1 u2 cs0 rs0 o e it cs' rs') (g : SG none n f M t c cap d K0 S0 Q0 s0 l0 ql z u1 u2 cs0 rs0 o e it gr mi ns ns 0 i s lf S Q cs rs) (h1 : 1 ≤ ns) (h0 : kI cs 198 o = 0) : ∃ csX cs' rs', c_X9_readSources_b33 F Tr rc cs t o w = some csX ∧ c_X9_readSelect_b93 F Ts csX t u1 o = some (cs', o) ∧ m_selectOf_b402 F Tq rc' rs (nI e) u2 = some (rs', nI e) ∧ SPO n f M t c cap d K0 S0 Q0 s0 l0 ql z u1 u2 cs0 rs0 o e it cs' rs' := by
  obtain ⟨k1, k2, k3, k4⟩ := g.os.od
  obtain ⟨y1, y2, y3⟩ := g.kx
  have e60 := g.os.e60
  have lft : ∃ i1 cs1 rs1 L, (L = 0 ∨ L = 1) ∧ SG none n f M t c cap d K0 S0 Q0 s0 l0 ql z u1 u2 cs0 rs0 o e it gr mi ns ns 0 i1 s lf S Q cs1 rs1 ∧ kI cs1 198 o = 0 ∧ kK cs1 = kK cs ∧ c_X9_accept F cs t 4 = some (cs1, L) ∧ m_takeWord F rs 29 = some (rs1, L) := by
    have my := g.b.jt.may (F := F) (x := 29) hF (by decide) (by decide)
    rw [show nI (swK 29) = 4 by decide] at my
    rcases my with ⟨w1, w2, w3, -, -⟩ | ⟨w2, w3, -, -⟩
    · exact ⟨i + 1, _, _, 1, Or.inr rfl, g.tok w1, (kI_n (by omega)).trans h0, rfl, w2, w3⟩
    · exact ⟨i, cs, rs, 0, Or.inl rfl, g, h0, rfl, w2, w3⟩
  obtain ⟨i1, c1, r1, L, hL, g1, h01, kk1, e1, e2⟩ := lft
  obtain ⟨p1, κ1, -, -, -, -, -, pr⟩ := g1.b.jt.tok (F := F)
  have hh := her_ok (F := F) g1.b.h g1.b.ci g1.b.jt.i2
  obtain ⟨pl, hpl⟩ : ∃ x, x = kA c1 353 9 i1 := ⟨_, rfl⟩
  rw [← hpl] at hh pr
  unfold c_X9_readSources_b33 m_selectOf_b402
  rw [ckE_ok g.b.h.o, ob_s, e1, ob_s, e2, ob_s]
  show ∃ csX cs' rs', (Option.bind (ckE c1 10 t) fun _ => Option.bind (c_X9_here F c1 t) fun v_13 => Option.bind (ckE c1 10 t) fun _ => Option.bind (c_X9_expect F c1 t 3) fun cs_15 => Option.bind (ckE cs_15 10 t) fun _ => Option.bind (Tr.2.2.2 cs_15 t) fun z_17 => c_X9_readSources_b54 F Tr rc z_17.1 t o w L v_13 z_17.2) = some csX ∧ _ ∧ (Option.bind (rdI (r1.2.2.1 15) 2001 (r1.1 18)) fun v_38 => Option.bind (m_needWord F r1 28) fun cs_39 => Option.bind (rdI (cs_39.2.2.1 37) 60 (nI e)) fun v_40 => Option.bind (Tq.2.2 cs_39 (nI e) L v_38) fun cs_41 => Option.bind (m_needWord F (setF (setF cs_41 71 (nI e)) 72 0) 30) fun cs_42 => if (cs_42.1 21) = 0 then (m_selectOf_b482 F Tq rc' cs_42 (nI e) u2 ((3 * nI e) + v_40) 0) else (Option.bind (m_expr F 300 cs_42 ) fun z_44 => m_selectOf_b482 F Tq rc' z_44.1 (nI e) u2 ((3 * nI e) + v_40) z_44.2)) = some (rs', nI e) ∧ _
  rw [ckE_ok g1.b.h.o, ob_s, hh, ob_s, ob_s, g1.b.ri, rdI_n g1.b.jt.i2 (by decide), ob_s, pr]
  have nd := g1.b.jt.need (F := F) (x := 28) hF (by decide) (by decide)
  rw [show nI (swK 28) = 3 by decide] at nd
  rcases nd with ⟨v1, v2, v3⟩ | ⟨v2, v3⟩
  · have g2 := g1.tok v1
    have h02 : kI (sI c1 328 t (nI (i1 + 1))) 198 o = 0 := (kI_n (by omega)).trans h01
    rw [v2, ob_s, v3, ob_s]
    obtain ⟨c2, hc2⟩ : ∃ x, x = sI c1 328 t (nI (i1 + 1)) := ⟨_, rfl⟩
    obtain ⟨r2, hr2⟩ : ∃ x, x = setF r1 18 (nI (i1 + 1)) := ⟨_, rfl⟩
    rw [← hc2] at g2 h02 ⊢
    rw [← hr2] at g2 ⊢
    obtain ⟨c3, r3, q1, q2, q3⟩ := src_g (T := T) (T' := T') (x2 := L) (x3 := pl) hF g2 hL hQ hT1 hT2 hT3 hT4
    rw [ckE_ok g2.b.h.o, ob_s, hR, q1, ob_s, rdI_n e60 (by decide), ob_s, g2.os.rn, hS, q2, ob_s, nI_3, nI_add]
    have k42 := g2.k0.2.2.2
    obtain ⟨oo, hoo⟩ : ∃ x, x = kK c2 := ⟨_, rfl⟩
    unfold SRO at q3
    rw [← hoo] at q3 k42 ⊢
    show ∃ csX cs' rs', c_X9_readSources_b54 F Tr rc c3 t o w L pl oo = some csX ∧ _
    rcases q3 with ⟨i3, s3, lf3, S3, Q3, g3, ob3, v231, v233, v56, v57, v58, v198⟩ | ⟨lf3, fw, ho⟩
    · have h3 : SGP n f M t c cap d K0 S0 Q0 s0 l0 ql z u1 u2 cs0 rs0 o e it gr mi ns 0 oo i3 s3 lf3 S3 Q3 c3 r3 := ⟨g3, ob3⟩
      have hn3 := h3.os.nr3
      have ho := h3.sb.e
      have oh := h3.sb.oh
      obtain ⟨x1, x2, x3, x4, x5, x6⟩ := g3.ix
      have h4 : SGP n f M t c cap d K0 S0 Q0 s0 l0 ql z u1 u2 cs0 rs0 o e it gr mi ns 0 oo i3 s3 lf3 S3 Q3 (sI (sI c3 231 oo L) 232 oo pl) r3 := h3.ow rfl (fun x j hx => (AT.sI (by omega)).trans (AT.sI (by omega))) rfl rfl (fun _ _ _ => rfl) rfl
      have a231 : kI (sI (sI c3 231 oo L) 232 oo pl) 231 oo = L := (kI_n (by omega)).trans kI_s
      have a232 : kI (sI (sI c3 231 oo L) 232 oo pl) 232 oo = pl := kI_s
      have a198 : kI (sI (sI c3 231 oo L) 232 oo pl) 198 o = 0 := ((kI_n (by omega)).trans (kI_n (by omega))).trans (v198.trans h02)
      have ho4 : (7, oo) ∈ kE (sI (sI c3 231 oo L) 232 oo pl) := ho
      have kk4 : kK (sI (sI c3 231 oo L) 232 oo pl) = kK c3 := rfl
      unfold c_X9_readSources_b54
      rw [show ckZ L = some L from if_pos hL, ob_s, pI_ok ho, ob_s, pI_ok (cs := sI c3 231 oo L) ho, ob_s, ckE_ok h4.g.b.h.o, ob_s]
      have h5 := h4.marks (v := 0)
      have rv5 : (setF (setF r3 71 (nI e)) 72 0).2.2.1 56 (3 * e + ns) = L ∧ (setF (setF r3 71 (nI e)) 72 0).2.2.1 57 (3 * e + ns) = pl := ⟨v56, v57⟩
      have rm5 : (setF (setF r3 71 (nI e)) 72 0).1 72 = 0 := rfl
      obtain ⟨c5, hc5⟩ : ∃ x, x = sI (sI c3 231 oo L) 232 oo pl := ⟨_, rfl⟩
      obtain ⟨r5, hr5⟩ : ∃ x, x = setF (setF r3 71 (nI e)) 72 0 := ⟨_, rfl⟩
      rw [← hc5] at h5 a231 a232 a198 ho4 kk4 ⊢
      rw [← hr5] at h5 rv5 rm5 ⊢
      have nd := h5.g.b.jt.need (F := F) (x := 30) hF (by decide) (by decide)
      rw [show nI (swK 30) = 5 by decide] at nd
      rcases nd with ⟨z1, z2, z3⟩ | ⟨z2, z3⟩
      · have h6 := (h5.tok z1).mark (v := 0)
        have o6 : (10, t) ∈ kE (sI c5 328 t (nI (i3 + 1))) := (h5.tok z1).g.b.h.o
        have cm6 : kI (sI (sI c5 328 t (nI (i3 + 1))) 331 t 0) 331 t = 0 := kI_s
        have rm6 : (setF r5 18 (nI (i3 + 1))).1 72 = 0 := rm5
        have b231 : kI (sI (sI c5 328 t (nI (i3 + 1))) 331 t 0) 231 oo = L := ((kI_n (by omega)).trans (kI_n (by omega))).trans a231
        have b232 : kI (sI (sI c5 328 t (nI (i3 + 1))) 331 t 0) 232 oo = pl := ((kI_n (by omega)).trans (kI_n (by omega))).trans a232
        have b198 : kI (sI (sI c5 328 t (nI (i3 + 1))) 331 t 0) 198 o = 0 := ((kI_n (by omega)).trans (kI_n (by omega))).trans a198
        have ho6 : (7, oo) ∈ kE (sI (sI c5 328 t (nI (i3 + 1))) 331 t 0) := ho4
        have kk6 : kK (sI (sI c5 328 t (nI (i3 + 1))) 331 t 0) = kK c3 := kk4
        have rv6 : (setF r5 18 (nI (i3 + 1))).2.2.1 56 (3 * e + ns) = L ∧ (setF r5 18 (nI (i3 + 1))).2.2.1 57 (3 * e + ns) = pl := rv5
        rw [z2, ob_s, pI_ok o6, ob_s, ckE_ok h6.g.b.h.o, ob_s, z3, ob_s]
        obtain ⟨c6, hc6⟩ : ∃ x, x = sI (sI c5 328 t (nI (i3 + 1))) 331 t 0 := ⟨_, rfl⟩
        obtain ⟨r6, hr6⟩ : ∃ x, x = setF r5 18 (nI (i3 + 1)) := ⟨_, rfl⟩
        rw [← hc6] at h6 cm6 b231 b232 b198 ho6 kk6 ⊢
        rw [← hr6] at h6 rm6 rv6 ⊢
        have pg := h6.g.pg0 (q := kK c6) (sel := 60) cm6 rm6
        obtain ⟨c7, r7, a, b, f1, f2, f3, f4⟩ := sim_ex (z := z) hF h6.g.b.z2 (i3 + 1) s3 c6 r6 pg
        rw [f1, ob_s, if_neg (show ¬ r6.1 21 = 0 by rw [h6.g.b.g1]; decide), f2, ob_s]
        show ∃ csX cs' rs', (Option.bind (pI c7 7 233 oo b) fun cs_9 => Option.bind (c_X9_addSource F cs_9 o oo) fun cs_10 => rc cs_10 t o (w + 1)) = some csX ∧ c_X9_readSelect_b93 F Ts csX t u1 o = some (cs', o) ∧ m_selectOf_b482 F Tq rc' r7 (nI e) u2 (nI (3 * e + ns)) a = some (rs', nI e) ∧ _
        unfold m_selectOf_b482 m_selectOf_b500
        rcases f3 with ⟨i7, s7, x, ea, -⟩ | ⟨pb, fo, fr⟩
        · have eb := (f4 x.g.f0).trans ea
          have h7 := h6.ex0 x
          have sl := x.sl
          have p7 : PD t c (kK c6) S3 Q3 s3 lf3 c6 r6 c7 r7 := PD.ex0 x (Nat.le_refl _) (Nat.le_refl _)
          have ap : ∀ y j, j < kK c6 → ¬ (y / 32 = 10) → ¬ (y / 32 = 2) → AT c6 c7 y j := fun y j a1 a2 a3 => p7.a0 y j a1 (by omega) (by omega)
          have ar : ∀ k, 49 ≤ k → k ≤ 58 → r7.2.2.1 k (3 * e + ns) = r6.2.2.1 k (3 * e + ns) := fun k a1 a2 => p7.qf.2.1 k _ (by omega) (by omega) (by unfold wd; rw [if_neg (by omega), if_neg (by omega), if_pos (by omega)]; omega)
          have s27 := h7.g.b.s2
          have rt : RT n f M c 0 false s7 (s7 - 1) c7 r7 := (RT.eg x).f0
          have h8 : SGP n f M t c cap d K0 S0 Q0 s0 l0 ql z u1 u2 cs0 rs0 o e it gr mi ns 0 oo i7 s7 lf3 S3 Q3 (sI c7 233 oo (nI (s7 - 1))) (setI r7 58 (3 * e + ns) (nI (s7 - 1))) := by
            refine h7.ow rfl (fun x j hx => AT.sI (by omega)) rfl rfl (fun k j hk => ?_) rfl
            show (if k = 58 then upd (r7.2.2.1 58) (3 * e + ns) (nI (s7 - 1)) else r7.2.2.1 k) j = _
            by_cases w : k = 58
            · subst w
              rw [if_pos rfl]
              exact pk_un (by omega)
            · rw [if_neg w]
          have d231 : kI (sI c7 233 oo (nI (s7 - 1))) 231 oo = L := ((kI_n (by omega)).trans (ap 231 oo (by omega) (by omega) (by omega)).i).trans b231
          have d232 : kI (sI c7 233 oo (nI (s7 - 1))) 232 oo = pl := ((kI_n (by omega)).trans (ap 232 oo (by omega) (by omega) (by omega)).i).trans b232
          have d198 : kI (sI c7 233 oo (nI (s7 - 1))) 198 o = 0 := ((kI_n (by omega)).trans (ap 198 o (by omega) (by omega) (by omega)).i).trans b198
          have w56 : (setI r7 58 (3 * e + ns) (nI (s7 - 1))).2.2.1 56 (3 * e + ns) = L := (ar 56 (by omega) (by omega)).trans rv6.1
          have w57 : (setI r7 58 (3 * e + ns) (nI (s7 - 1))).2.2.1 57 (3 * e + ns) = pl := (ar 57 (by omega) (by omega)).trans rv6.2
          obtain ⟨c9, g1', g2', g3'⟩ := h8.adds (F := F) ⟨by rw [d231]; exact w56, by rw [d231]; exact hL⟩ (Or.inr ⟨h1, by rw [d232]; exact w57⟩) (Or.inr ⟨s7 - 1, kI_s, pk_us, rt.kf (Nat.le_refl _) (fun _ _ => rfl) TKF.refl⟩) ⟨fun w => absurd w (by omega), fun _ => by rw [kI_s]; exact nI_nm1 (by omega)⟩
          obtain ⟨csX, cs', rs', t1, t2, t3, t4⟩ := hg (by omega) i7 s7 lf3 S3 Q3 c9 _ g2' (by rw [(g3' 198 o (by omega)).i]; exact d198)
          refine ⟨csX, cs', rs', ?_, t2, ?_, t4⟩
          · rw [eb, pI_ok h7.sb.e, ob_s, g1', ob_s]
            exact t1
          · rw [if_neg (show ¬ r7.1 21 = 0 by rw [h7.g.b.g1]; decide), ea, wrI_n (show 3 * e + ns < 180 by omega) (by decide), ob_s]
            exact t3
        · have fw := h6.g.fw fo (by have := h6.g.k0; omega) pb
          have o7 : (7, oo) ∈ kE c7 := by rw [fo.e]; exact ho6
          obtain ⟨csX, t1, t2⟩ := tl3_f (F := F) (v := b) hb fw o7 (by omega)
          obtain ⟨rs', t3, t4⟩ := hb' _ pb.r
          obtain ⟨cs', t5, t6⟩ := jn_bad (F := F) (T := Ts) (n := n) (f := f) (M := M) (d := d) (Q0 := Q0) (s0 := s0) (ql := ql) (z := z) (e := e) (u1 := u1) (u2 := u2) (rs0 := rs0) t2 (by omega) t4
          refine ⟨csX, cs', rs', t1, t5, ?_, t6⟩
          rw [if_pos pb.r.g]
          exact t3
      · have fw := h5.g.bad (a := 1) (v := kA c5 353 9 i3) (by decide)
        obtain ⟨csX, t1, t2⟩ := tl2_f (F := F) (oo := oo) hF hb fw ho4 (by omega)
        obtain ⟨rs', t3, t4⟩ := hb' _ fw.pb.r
        obtain ⟨cs', t5, t6⟩ := jn_bad (F := F) (T := Ts) (n := n) (f := f) (M := M) (d := d) (Q0 := Q0) (s0 := s0) (ql := ql) (z := z) (e := e) (u1 := u1) (u2 := u2) (rs0 := rs0) t2 (by omega) t4
        refine ⟨csX, cs', rs', ?_, t5, ?_, t6⟩
        · rw [z2, ob_s]
          exact t1
        · rw [z3, ob_s, if_pos fw.pb.r.g]
          unfold m_selectOf_b482 m_selectOf_b500
          rw [if_pos fw.pb.r.g]
          exact t3
    · obtain ⟨csX, t1, t2⟩ := b54_f (F := F) (T := Tr) (w := w) (pl := pl) hF hb hL fw ho (by omega)
      obtain ⟨rs', t3, t4⟩ := mj_f (F := F) (T := Tq) (u7 := nI (3 * e + ns)) hb' fw.pb.r
      obtain ⟨cs', t5, t6⟩ := jn_bad (F := F) (T := Ts) (n := n) (f := f) (M := M) (d := d) (Q0 := Q0) (s0 := s0) (ql := ql) (z := z) (e := e) (u1 := u1) (u2 := u2) (rs0 := rs0) t2 (Nat.le_refl _) t4
      exact ⟨csX, cs', rs', t1, t5, t3, t6⟩
  · have fw := g1.bad (a := 1) (v := pl) (by decide)
    rw [← hpl] at v2 v3
    obtain ⟨c3, s1, s2, s3, s4, s5, s6⟩ := src_f (F := F) (T := T) fw.ws
    have fw3 := fw.grow s2 s3 s5 s6
    have k42 := g1.k0.2.2.2
    obtain ⟨csX, t1, t2⟩ := b54_f (F := F) (T := Tr) (w := w) (pl := pl) hF hb hL fw3 s4 (show it < kK c1 by omega)
    obtain ⟨rs', t3, t4⟩ := mj_f (F := F) (T := Tq) (u7 := 3 * nI e + (setF (setF (setF r1 21 0) 19 1) 20 pl).2.2.1 37 e) hb' fw.pb.r
    obtain ⟨cs', t5, t6⟩ := jn_bad (F := F) (T := Ts) (n := n) (f := f) (M := M) (d := d) (Q0 := Q0) (s0 := s0) (ql := ql) (z := z) (e := e) (u1 := u1) (u2 := u2) (rs0 := rs0) t2 (by omega) t4
    refine ⟨csX, cs', rs', ?_, t5, ?_, t6⟩
    · rw [v2, ob_s, ckE_ok fw.ws.f.h.o, ob_s, hR, s1, ob_s]
      exact t1
    · rw [v3, ob_s, rdI_n e60 (by decide), ob_s, hS, msrc_f fw.pb.r, ob_s]
      exact t3

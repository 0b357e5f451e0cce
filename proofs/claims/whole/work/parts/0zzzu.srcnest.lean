/-! a SOURCE of the open SELECT: a QUERY in brackets -/
theorem kR_u {cs : CS} {oo : Nat} {v : Option Nat} {w : Int32} : kR (sI (sR cs 225 oo v) 227 oo w) 225 oo = v := u2_s
theorem src_nest {n : Nat} {f : Nat → Int32} {M t c cap : Nat} {d K0 S0 Q0 s0 l0 ql z o e it gr mi ns mg i s lf S Q : Nat} {u1 : Option Nat} {u2 : Int32} {cs0 cs : CS} {rs0 rs : RS} {F p : Nat} {T T2 T3 T4 T5 : TC_X9_readQuery} {T' : TG_queryOf} {c2 : CS} {x2 x3 : Int32} (hF : 10000 ≤ F) (g : SG none n f M t c cap d K0 S0 Q0 s0 l0 ql z u1 u2 cs0 rs0 o e it gr mi ns ns mg i s lf S Q cs rs) (hx : x2 = 0 ∨ x2 = 1) (hQ : z < 12 → QS n f M t c cap d (z + 1) T.1 T'.1) (hT1 : T.1 = cb_X9_readQuery F T2) (hT2 : T2.2.1 = cb_X9_readSelect F T3) (hT3 : T3.2.2.1 = cb_X9_readSources F T4) (hT4 : T4.2.2.2 = cb_X9_readSource F T5) (b2 : BG n f M t c cap i z s lf S Q c2 rs) (sn : SN (kK cs) (kA cs 353 9 i) c2) (k2 : kK c2 = kK cs + 6) (m2 : kM c2 = kM cs + 49) (em2 : EM cs c2) (a2 : ∀ x j, j < kK cs → AT cs c2 x j) (hk : TK n f i p 41 c2 rs) (hiM : i < M) : ∃ cs' rs', (Option.bind (c_X9_deepen F c2 t) fun cs_31 => Option.bind (ckE cs_31 10 t) fun _ => Option.bind (c_X9_expect F cs_31 t 41) fun cs_33 => Option.bind (ckE cs_33 10 t) fun _ => Option.bind (T.1 cs_33 t) fun z_35 => c_X9_readSource_b40 F T z_35.1 t (kK cs) z_35.2 (kK cs)) = some (cs', kK cs) ∧ (Option.bind (rdI (rs.2.2.1 15) 2001 (rs.1 18)) fun v_54 => Option.bind (m_deeper F rs v_54) fun cs_55 => if ((setF cs_55 18 ((cs_55.1 18) + 1)).1 21) = 0 then (m_source_b67 F T' (setF cs_55 18 ((cs_55.1 18) + 1)) (nI e) x2 x3 (nI (3 * e + ns)) 0) else (Option.bind (T'.1 (setF cs_55 18 ((cs_55.1 18) + 1)) ) fun z_57 => m_source_b67 F T' z_57.1 (nI e) x2 x3 (nI (3 * e + ns)) z_57.2)) = some rs' ∧ SRO n f M t c cap d K0 S0 Q0 s0 l0 ql z u1 u2 cs0 rs0 o e it gr mi ns mg x2 x3 cs cs' rs' := by
  obtain ⟨k1, k2', k3, k4⟩ := g.os.od
  obtain ⟨x1, xe, x3', x4, x5, x6⟩ := g.ix
  obtain ⟨y1, y2, y3⟩ := g.kx
  have e60 := g.os.e60
  have h52 := g.cnt
  have l3 := g.b.l3
  have n3 := g.os.n3
  have z2 := g.b.z2
  have t0 := g.b.t0
  have c0 := g.b.c0
  have t37 := g.b.t37
  have rn := g.os.rn
  have gct := g.ct
  have gp0 := g.p0
  have gqs := g.qs
  have i2 := g.b.jt.i2
  obtain ⟨j, hj⟩ : ∃ j, j = 3 * e + ns := ⟨_, rfl⟩
  obtain ⟨oo, hoo⟩ : ∃ x, x = kK cs := ⟨_, rfl⟩
  rw [← hj]
  rw [← hoo] at sn k2 t0 c0 ⊢
  have h180 : j < 180 := by omega
  have ho : 37 < oo ∧ t < oo ∧ c < oo := ⟨by omega, t0, c0⟩
  have pr : rs.2.2.1 15 i = kA c2 353 9 i := by rw [hk.pr, hk.pc]
  by_cases h12 : z < 12
  · have b3 := b2.deep h12
    have kd3 := exp_y (F := F) b3.h b3.ci (knd_ok b3.h b3.f0 b3.ci i2 (hk.f (cs' := sI c2 329 t (nI (z + 1))) (rs' := setF rs 70 (nI (z + 1))) TKF.refl))
    rw [show nI 41 = 41 by decide] at kd3
    have b4 := b3.next hiM
    have pd2 : PD t c (kK cs) S Q s lf cs rs c2 rs := ⟨em2, by omega, fun x y h1 _ _ => a2 x y h1, fun x _ => a2 x t (by omega), fun x _ => congrFun (VW.eq (fun y _ _ => a2 y c (by omega)) (fun _ _ => ⟨rfl, rfl⟩)) x, ⟨(a2 352 9 (by omega)).a, (a2 353 9 (by omega)).a, (a2 354 9 (by omega)).b, rfl, rfl, rfl, rfl, rfl⟩, QF.refl, fun k _ => by rw [(a2 326 t (by omega)).q]⟩
    have pd4 : PD t c (kK cs) S Q s lf cs rs (sI (sI c2 329 t (nI (z + 1))) 328 t (nI (i + 1))) (setF (setF rs 70 (nI (z + 1))) 18 (nI (i + 1))) := (((pd2.trans (PD.tx (by omega))).trans (PD.rF (by unfold pR'; omega))).trans (PD.tx (by omega))).trans (PD.rF (by unfold pR'; omega))
    have sm4 := g.sm.keep g.b.kb (Nat.le_refl _) pd4
    have a24 : ∀ x y, ¬ (y = t ∧ (x = 328 ∨ x = 329)) → AT c2 (sI (sI c2 329 t (nI (z + 1))) 328 t (nI (i + 1))) x y := fun x y h => (AT.sI (by omega)).trans (AT.sI (by omega))
    have kk4 : kK (sI (sI c2 329 t (nI (z + 1))) 328 t (nI (i + 1))) = oo + 6 ∧ kM (sI (sI c2 329 t (nI (z + 1))) 328 t (nI (i + 1))) = kM cs + 49 := ⟨k2, m2⟩
    have em24 : EM c2 (sI (sI c2 329 t (nI (z + 1))) 328 t (nI (i + 1))) := EM.refl
    have ra4 : (setF (setF rs 70 (nI (z + 1))) 18 (nI (i + 1))).2 = rs.2 := rfl
    have r714 : (setF (setF rs 70 (nI (z + 1))) 18 (nI (i + 1))).1 71 = nI e := g.r7
    have ri3 : (setF rs 70 (nI (z + 1))).1 18 = nI i := g.b.ri
    rw [dee_ok b2.h b2.cz h12, ob_s, ckE_ok b3.h.o, ob_s, kd3, ob_s, ckE_ok b4.h.o, ob_s, g.b.ri, rdI_n i2 (by decide), ob_s, mde_ok g.b.rz h12, ob_s, ri3, nI_1]
    obtain ⟨c4, hc4⟩ : ∃ x, x = sI (sI c2 329 t (nI (z + 1))) 328 t (nI (i + 1)) := ⟨_, rfl⟩
    obtain ⟨r4, hr4⟩ : ∃ x, x = setF (setF rs 70 (nI (z + 1))) 18 (nI (i + 1)) := ⟨_, rfl⟩
    rw [← hc4] at b4 pd4 sm4 a24 kk4 em24 ⊢
    rw [← hr4] at b4 pd4 sm4 ra4 r714 ⊢
    obtain ⟨c5, r5, oi, q1, q2, qpo⟩ := hQ h12 (i + 1) s lf S Q c4 r4 b4 sm4 (by omega) gqs
    rw [q1, ob_s, if_neg (show ¬ r4.1 21 = 0 by rw [b4.g1]; decide), q2, ob_s]
    show ∃ cs' rs', c_X9_readSource_b40 F T c5 t oo oi oo = some (cs', oo) ∧ m_source_b67 F T' r5 (nI e) x2 x3 (nI j) (nI Q) = some rs' ∧ _
    have o74 : (7, oo) ∈ kE c4 := em24 _ sn.e
    rcases qpo with ⟨i5, s5, lf5, S5, Q5, b5, pd5, qr5, sm5, r35, r75, ⟨g1, g2, g3, g4, g5⟩, kr5, mr5, ct5⟩ | ⟨lf5, fq⟩
    · have l35 := b5.l3
      have hn : ns < 3 := by omega
      have i52 := b5.jt.i2
      have o75 : (7, oo) ∈ kE c5 := pd5.em _ o74
      have kk5 := pd5.kk
      have a45 : ∀ x y, y ≤ oo + 1 → ¬ (x / 32 = 10 ∧ y = t) → ¬ (x / 32 = 2 ∧ y = c) → AT c4 c5 x y := fun x y h1 h2 h3 => pd5.a0 x y (by omega) h2 h3
      have oA : (7, oo) ∈ kE (sR c5 225 oo (some oi)) := o75
      have bA : BG n f M t c cap i5 (z + 1) s5 lf5 S5 Q5 (sR c5 225 oo (some oi)) r5 := b5.obj (oo := oo) rfl (fun x y hy => AT.sR (by omega)) ho
      have hhA := her_ok (F := F) bA.h bA.ci bA.jt.i2
      have b6 : BG n f M t c cap i5 (z + 1) s5 lf5 S5 Q5 (sI (sR c5 225 oo (some oi)) 227 oo (kA c5 353 9 i5)) r5 := bA.obj (oo := oo) rfl (fun x y hy => AT.sI (by omega)) ho
      have a56 : ∀ x y, ¬ (y = oo ∧ (x = 225 ∨ x = 227)) → AT c5 (sI (sR c5 225 oo (some oi)) 227 oo (kA c5 353 9 i5)) x y := fun x y h => (AT.sR (by omega)).trans (AT.sI (by omega))
      have v225 : kR (sI (sR c5 225 oo (some oi)) 227 oo (kA c5 353 9 i5)) 225 oo = some oi := kR_u
      have v227 : kI (sI (sR c5 225 oo (some oi)) 227 oo (kA c5 353 9 i5)) 227 oo = kA c5 353 9 i5 := kI_s
      have q6 : (sI (sR c5 225 oo (some oi)) 227 oo (kA c5 353 9 i5)).1 = c5.1 := rfl
      have cls : c_X9_readSource_b40 F T c5 t oo oi oo = Option.bind (c_X9_expect F (sI (sR c5 225 oo (some oi)) 227 oo (kA c5 353 9 i5)) t 42) fun cs_21 => Option.bind (gI cs_21 10 329 t) fun v_23 => Option.bind (pI cs_21 10 329 t (v_23 - 1)) fun cs_24 => c_X9_readSource_b75 F T cs_24 t oo := by
        unfold c_X9_readSource_b40
        rw [pR_ok o75, ob_s, ckE_ok bA.h.o, ob_s, hhA, ob_s]
        show (Option.bind (pI (sR c5 225 oo (some oi)) 7 227 oo (kA c5 353 9 i5)) _) = _
        rw [pI_ok oA, ob_s, ckE_ok b6.h.o, ob_s]
      obtain ⟨p5, κ5, hk5, -, -, -, -, pr5⟩ := b5.jt.tok (F := F)
      have rz5 : r5.1 70 = nI (z + 1) := b5.rz
      rw [cls]
      unfold m_source_b67 m_source_b129
      rw [rz5, nI_pred]
      have ri6 : (setF r5 70 (nI z)).1 18 = nI i5 := b5.ri
      rw [ri6]
      obtain ⟨c6, hc6⟩ : ∃ x, x = sI (sR c5 225 oo (some oi)) 227 oo (kA c5 353 9 i5) := ⟨_, rfl⟩
      rw [← hc6] at b6 a56 v225 v227 q6 ⊢
      have j6 : JT n f M t c i5 c6 (setF r5 70 (nI z)) := b6.jt.rh (k := 70) (v := nI z) (by unfold eR; omega)
      show ∃ cs' rs', _ ∧ (Option.bind (rdI (r5.2.2.1 15) 2001 (nI i5)) fun v_22 => Option.bind (m_needSign F (setF r5 70 (nI z)) 41) fun cs_23 => if (cs_23.1 21) = 0 then (m_source_b300 F T' cs_23 (nI e) x2 x3 (nI j)) else (Option.bind (wrI cs_23 49 180 (nI j) (-1)) fun cs_25 => Option.bind (wrI cs_25 53 180 (nI j) (nI Q)) fun cs_26 => Option.bind (wrI cs_26 54 180 (nI j) v_22) fun cs_27 => m_source_b300 F T' cs_27 (nI e) x2 x3 (nI j))) = some rs' ∧ _
      rw [rdI_n i52 (by decide), ob_s, pr5]
      have nd := j6.needS (F := F) (q := oo) (k := 42) (by decide) (by decide)
      rw [show nI 42 = 42 by decide, show st 42 = 41 by decide] at nd
      have o76 : (7, oo) ∈ kE c6 := by
        have : kE c6 = kE c5 := congrArg (fun z => z.2.2) q6
        rw [this]; exact o75
      rcases nd with ⟨v1, v2, v3⟩ | ⟨c7, r7, v2, v3, pb, fo, fr⟩
      · have b7 := b6.next v1
        have cz7 : kI (sI c6 328 t (nI (i5 + 1))) 329 t = nI (z + 1) := b7.cz
        have b8c : BG n f M t c cap (i5 + 1) z s5 lf5 S5 Q5 (sI (sI c6 328 t (nI (i5 + 1))) 329 t (nI z)) (setF (setF r5 70 (nI z)) 18 (nI (i5 + 1))) := by
          have w := (b6.rise).next v1
          rw [sI_comm (by decide)] at w
          exact w
        have gg : ¬ (setF (setF r5 70 (nI z)) 18 (nI (i5 + 1))).1 21 = 0 := by rw [b8c.g1]; decide
        rw [v2, ob_s, gI_ok b7.h.o, ob_s, cz7, nI_pred, pI_ok b7.h.o, ob_s, v3, ob_s, if_neg gg, wrI_n h180 (by decide), ob_s, wrI_n h180 (by decide), ob_s, wrI_n h180 (by decide), ob_s]
        have a68 : ∀ x y, ¬ (y = t ∧ (x = 328 ∨ x = 329)) → AT c6 (sI (sI c6 328 t (nI (i5 + 1))) 329 t (nI z)) x y := fun x y h => (AT.sI (by omega)).trans (AT.sI (by omega))
        have q8 : (sI (sI c6 328 t (nI (i5 + 1))) 329 t (nI z)).1 = c6.1 := rfl
        have b8 : BG n f M t c cap (i5 + 1) z s5 lf5 S5 Q5 (sI (sI c6 328 t (nI (i5 + 1))) 329 t (nI z)) (setI (setI (setI (setF (setF r5 70 (nI z)) 18 (nI (i5 + 1))) 49 j (-1)) 53 j (nI Q)) 54 j (kA c5 353 9 i5)) := b8c.arr rfl (fun k hk => ⟨((if_neg (by omega)).trans (if_neg (by omega))).trans (if_neg (by omega)), rfl⟩)
        have ra8 : ∀ k y, ¬ (y = j ∧ (k = 49 ∨ k = 53 ∨ k = 54)) → (setI (setI (setI (setF (setF r5 70 (nI z)) 18 (nI (i5 + 1))) 49 j (-1)) 53 j (nI Q)) 54 j (kA c5 353 9 i5)).2.2.1 k y = r5.2.2.1 k y := fun k y hk => by
          show (if k = 54 then upd (r5.2.2.1 54) j (kA c5 353 9 i5) else if k = 53 then upd (r5.2.2.1 53) j (nI Q) else if k = 49 then upd (r5.2.2.1 49) j (-1) else r5.2.2.1 k) y = _
          by_cases w1 : k = 54
          · subst w1
            rw [if_pos rfl]
            exact pk_un (by omega)
          rw [if_neg w1]
          by_cases w2 : k = 53
          · subst w2
            rw [if_pos rfl]
            exact pk_un (by omega)
          rw [if_neg w2]
          by_cases w3 : k = 49
          · subst w3
            rw [if_pos rfl]
            exact pk_un (by omega)
          rw [if_neg w3]
        have rv8 : (setI (setI (setI (setF (setF r5 70 (nI z)) 18 (nI (i5 + 1))) 49 j (-1)) 53 j (nI Q)) 54 j (kA c5 353 9 i5)).2.2.1 49 j = -1 ∧ (setI (setI (setI (setF (setF r5 70 (nI z)) 18 (nI (i5 + 1))) 49 j (-1)) 53 j (nI Q)) 54 j (kA c5 353 9 i5)).2.2.1 53 j = nI Q ∧ (setI (setI (setI (setF (setF r5 70 (nI z)) 18 (nI (i5 + 1))) 49 j (-1)) 53 j (nI Q)) 54 j (kA c5 353 9 i5)).2.2.1 54 j = kA c5 353 9 i5 := ⟨pk_us, pk_us, pk_us⟩
        have rl8 : (setI (setI (setI (setF (setF r5 70 (nI z)) 18 (nI (i5 + 1))) 49 j (-1)) 53 j (nI Q)) 54 j (kA c5 353 9 i5)).2.2.2 = r5.2.2.2 ∧ (setI (setI (setI (setF (setF r5 70 (nI z)) 18 (nI (i5 + 1))) 49 j (-1)) 53 j (nI Q)) 54 j (kA c5 353 9 i5)).2.1 = r5.2.1 := ⟨rfl, rfl⟩
        have rf8 : ∀ k, k ≠ 18 → k ≠ 70 → (setI (setI (setI (setF (setF r5 70 (nI z)) 18 (nI (i5 + 1))) 49 j (-1)) 53 j (nI Q)) 54 j (kA c5 353 9 i5)).1 k = r5.1 k := fun k h1 h2 => (pk_un h1).trans (pk_un h2)
        obtain ⟨c8, hc8⟩ : ∃ x, x = sI (sI c6 328 t (nI (i5 + 1))) 329 t (nI z) := ⟨_, rfl⟩
        obtain ⟨r8, hr8⟩ : ∃ x, x = setI (setI (setI (setF (setF r5 70 (nI z)) 18 (nI (i5 + 1))) 49 j (-1)) 53 j (nI Q)) 54 j (kA c5 353 9 i5) := ⟨_, rfl⟩
        rw [← hc8] at b8 a68 q8 ⊢
        rw [← hr8] at b8 ra8 rv8 rl8 rf8 ⊢
        have o78 : (7, oo) ∈ kE c8 := by
          have : kE c8 = kE c6 := congrArg (fun z => z.2.2) q8
          rw [this]; exact o76
        have r37_5 : r5.2.2.1 37 e = nI ns := by
          rw [pd5.qf.2.1 37 e (by decide) (by decide) (by unfold wd; rw [if_pos (by decide)]; exact xe), ra4]; exact rn
        have a58 : ∀ x y, ¬ (y = oo ∧ (x = 225 ∨ x = 227)) → ¬ (y = t ∧ (x = 328 ∨ x = 329)) → AT c5 c8 x y := fun x y h1 h2 => (a56 x y h1).trans (a68 x y h2)
        have a25 : ∀ x, x / 32 = 7 → AT c2 c5 x oo := fun x hx => (a24 x oo (by omega)).trans (a45 x oo (by omega) (by omega) (by omega))
        have k8 : kJ c8 230 oo = -1 := by
          rw [(a58 230 oo (by omega) (by omega)).j, (a25 230 (by decide)).j]; exact sn.j230
        obtain ⟨cs', rs', t1, t2, t3⟩ := src_tail (T := T) (T' := T') (x2 := x2) (x3 := x3) (e := e) (ns := ns) (j := j) hF b8 o78 ho h180 e60 (by rw [ra8 37 e (by omega)]; exact r37_5) hx (Or.inr ⟨oi, by rw [(a68 225 oo (by omega)).r]; exact v225, rv8.1⟩) k8
        refine ⟨cs', rs', t1, t2, ?_⟩
        have q58 : c8.1 = c5.1 := q8.trans q6
        rcases t3 with ⟨i', b', q', a', f', r', l', w', n37, nm, v56, v57, v58, kp⟩ | tf
        · have q5' : cs'.1 = c5.1 := q'.trans q58
          have kk : kK cs' = kK c5 := congrArg (fun z => z.1) q5'
          have km : kM cs' = kM c5 := congrArg (fun z => z.2.1) q5'
          have em5 : EM c5 cs' := EM.of (congrArg (fun z => z.2.2) q5')
          have ac : ∀ x y, ¬ (y = oo ∧ (x = 225 ∨ x = 227 ∨ x = 228 ∨ x = 229 ∨ x = 230)) → ¬ (y = t ∧ (x = 328 ∨ x = 329)) → AT c5 cs' x y := fun x y h1 h2 => (a58 x y (by omega) h2).trans (a' x y (by omega) (by omega))
          have ra : ∀ k y, ¬ (y = j ∧ 49 ≤ k ∧ k ≤ 58) → ¬ (y = e ∧ k = 37) → rs'.2.2.1 k y = r5.2.2.1 k y := fun k y h1 h2 => (r' k y (by omega) h2).trans (ra8 k y (by omega))
          have rl : ∀ k y, ¬ (y = j ∧ k = 52) → rs'.2.2.2 k y = r5.2.2.2 k y := fun k y h => by rw [l' k y h, rl8.1]
          have r33 : ∀ k, k ≤ 33 → rs'.2.2.1 k = r5.2.2.1 k ∧ rs'.2.2.2 k = r5.2.2.2 k := fun k hk => ⟨funext (fun y => ra k y (by omega) (by omega)), funext (fun y => rl k y (by omega))⟩
          have vw : VW c cs' rs' = VW c c5 r5 := VW.eq (fun x x1 x2 => ac x c (by omega) (by omega)) r33
          have tk : TKF c5 r5 cs' rs' := ⟨(ac 352 9 (by omega) (by omega)).a, (ac 353 9 (by omega) (by omega)).a, (ac 354 9 (by omega) (by omega)).b, (r33 14 (by decide)).1, (r33 15 (by decide)).1, (r33 16 (by decide)).1, (r33 17 (by decide)).2, (r33 2 (by decide)).1⟩
          have pE : PZ t c (kK cs) S Q s lf e ns c5 r5 cs' rs' := by
            refine ⟨em5, by omega, fun x y h1 h2 h3 => ac x y (by omega) (by omega), fun x hx => ac x t (by omega) (by omega), fun x _ => congrFun vw x, tk, ⟨⟨Or.inr (by rw [w', rl8.2]), fun k hk => ?_⟩, fun k y h1 h2 h3 h4 h5 => ra k y (by omega) (by omega), fun y h1 h2 => rl 52 y (by omega)⟩, fun k _ => by rw [(ac 326 t (by omega) (by omega)).q]⟩
            unfold pR' at hk
            exact ⟨by rw [f' k (by omega), rf8 k (by omega) (by omega)], funext (fun y => ra k y (by omega) (by omega)), funext (fun y => rl k y (by omega))⟩
          have pT : PZ t c (kK cs) S Q s lf e ns cs rs cs' rs' := (PZ.of pd4).trans ((PZ.of (pd5.le (by omega) (Nat.le_refl _) (Nat.le_refl _) (Nat.le_refl _) (Nat.le_refl _))).trans pE)
          have r3f : kR cs' 330 t = some o := by rw [(ac 330 t (by omega) (by omega)).r, r35, (a24 330 t (by omega)).r, (a2 330 t (by omega)).r]; exact g.r3
          have r7f : rs'.1 71 = nI e := by rw [f' 71 (by decide), rf8 71 (by decide) (by decide), r75]; exact r714
          have v49' : rs'.2.2.1 49 j = -1 := by rw [r' 49 j (by omega) (by omega)]; exact rv8.1
          have kp0 : kJ cs' 230 oo = -1 ∧ rs'.2.2.1 51 j = 0 := by
            rcases kp with y | y
            · exact y
            · exact absurd rv8.1 y.1
          have v230 : kJ cs' 230 oo = kJ c5 230 oo := by rw [kp0.1, (a25 230 (by decide)).j, sn.j230]
          have sm' : SM t lf5 S5 cs' rs' := sm5.nest (e := e) (ns := ns) b5.kb em5 (fun k _ => by rw [(ac 326 t (by omega) (by omega)).q]) (fun y hy => ⟨(ac 224 y (by omega) (by omega)).i, by
              by_cases w : y = oo
              · rw [w]; exact v230
              · exact (ac 230 y (by omega) (by omega)).j⟩) (fun y hy => ra 37 y (by omega) (by omega)) r37_5 n37 (fun y hy => ⟨ra 49 y (by omega) (by omega), ra 51 y (by omega) (by omega), rl 52 y (by omega)⟩) hn (by omega) (by rw [← hj]; exact v49')
          obtain ⟨sg, so0⟩ := g.srcup pT b' sm' r3f r7f g4 (by omega) (by omega) g5 (by omega) (by omega) (Or.inl (by omega)) g3 n37
          have s25 := b5.s2
          have qrF : QR X0 n f M c s5 S5 Q5 cs' rs' d S5 S ql (kK c4) (kK c5) oi Q := by
            refine QR.lo (QR.keep (Nat.le_refl _) s25 (Nat.le_refl _) (Nat.le_refl _) (Nat.le_refl _) (Nat.le_refl _) d S5 S Q (kK c4) (kK c5) oi Q qr5 ⟨⟨em5, fun x y h1 h2 h3 => ac x y (by omega) (by omega), fun y h1 h2 => (ac 100 y (by omega) (by omega)).ap, fun x _ => congrFun vw x, tk⟩, fun k y h1 h2 h3 h4 h5 => ra k y (fun w => ?_) (fun w => ?_), fun y h1 h2 => rl 52 y (by omega)⟩ (fun x h1 h2 h3 => CLM.keep h3 em5 (fun w w1 w2 => ac w x (by omega) (by omega)))) (Nat.le_refl _) x6
            · unfold wd at h4
              rw [if_neg (by omega), if_neg (by omega), if_pos (by omega)] at h4
              omega
            · unfold wd at h4
              rw [if_pos (by omega)] at h4
              omega
          have ao : ∀ x, x / 32 = 7 → ¬ (x = 225 ∨ x = 227 ∨ x = 228 ∨ x = 229 ∨ x = 230) → AT c2 cs' x oo := fun x h1 h2 => (a25 x h1).trans (ac x oo (by omega) (by omega))
          have v225' : kR cs' 225 oo = some oi := by rw [(a' 225 oo (by omega) (by omega)).r, (a68 225 oo (by omega)).r]; exact v225
          have v227' : kI cs' 227 oo = kA c5 353 9 i5 := by rw [(a' 227 oo (by omega) (by omega)).i, (a68 227 oo (by omega)).i]; exact v227
          have v53' : rs'.2.2.1 53 j = nI Q := by rw [r' 53 j (by omega) (by omega)]; exact rv8.2.1
          have v54' : rs'.2.2.1 54 j = kA c5 353 9 i5 := by rw [r' 54 j (by omega) (by omega)]; exact rv8.2.2
          have hE : (7, oo) ∈ kE cs' := em5 _ o75
          have c198 : kI cs' 198 o = kI cs 198 o := by rw [(ac 198 o (by omega) (by omega)).i, (a45 198 o (by omega) (by omega) (by omega)).i, (a24 198 o (by omega)).i, (a2 198 o (by omega)).i]
          have ccl : X0 (oo + 1) cs' := (sn.cc.keep em24 (fun x h1 h2 => a24 x _ (by omega))).keep (pd5.em.trans em5) (fun x h1 h2 => (a45 x (oo + 1) (by omega) (by omega) (by omega)).trans (ac x (oo + 1) (by omega) (by omega)))
          subst hoo
          subst hj
          rw [← kk] at qrF
          exact Or.inl ⟨i', s5, lf5, S5, Q5, sg, ⟨S, S5, ⟨g.ix.2.1, by omega, fun w => absurd v49' w⟩, so0, ⟨hE, Nat.le_refl _, by omega, nm, Or.inr ⟨by rw [(ao 224 (by decide) (by omega)).i]; exact sn.i224, v49', kp0.2, by rw [v227', v54'], oi, Q, kK c4, by omega, v225', v53', by omega, qrF⟩, ⟨kK cs + 1, by omega, by omega, by rw [(ao 235 (by decide) (by omega)).r]; exact sn.r235, ccl⟩⟩⟩, by rw [(ao 231 (by decide) (by omega)).i]; exact sn.i231, by rw [(ao 233 (by decide) (by omega)).i]; exact sn.i233, v56, v57, v58, c198⟩
        · have ws := tf.ws b8 ⟨t0, c0⟩
          obtain ⟨w1', w2', w3'⟩ := tf
          have q5' : cs'.1 = c5.1 := w2'.trans q58
          have kk : kK cs' = kK c5 := congrArg (fun z => z.1) q5'
          have km : kM cs' = kM c5 := congrArg (fun z => z.2.1) q5'
          have em' : EM c5 cs' := EM.of (congrArg (fun z => z.2.2) q5')
          have S5b : S5 ≤ 52 := by omega
          refine Or.inr ⟨lf5, g.fwx w1' ws ((em2.trans em24).trans (pd5.em.trans em')) (fun x y h1 h2 h3 => (((a2 x y h1).trans (a24 x y (by omega))).trans (a45 x y (by omega) h2 h3)).trans ((a58 x y (by omega) (by omega)).trans (w3' x y (by omega) (by omega)))) (by omega) (by omega), by rw [← hoo]; exact em' _ o75⟩
      · have ws6 := b6.ws fo pb.s
        have S5b : S5 ≤ 52 := by omega
        have q7 : c7.1 = c6.1 := fo.1
        have o77 : (7, oo) ∈ kE c7 := by rw [fo.e]; exact o76
        have gB : GF t (kK c7) c7 (sI c7 329 t (kI c7 329 t - 1)) := GF.text (Or.inl rfl)
        have wB : WS t c cap lf5 (sI c7 329 t (kI c7 329 t - 1)) := ws6.gf gB ws6.kb ws6.t0 ws6.c0
        have pbB : PB t c (sI c7 329 t (kI c7 329 t - 1)) r7 := pb.gf wB.f gB ws6.t0
        have o78 : (7, oo) ∈ kE (sI c7 329 t (kI c7 329 t - 1)) := o77
        obtain ⟨cs', w1, w2, w3, w4, w5⟩ := b75_pb (F := F) (T := T) pbB wB o78 ⟨t0, c0⟩
        rw [v2, ob_s, gI_ok pb.s.h.o, ob_s, pI_ok pb.s.h.o, ob_s, v3, ob_s, if_pos pb.r.g, m300_f pb.r]
        have q5' : cs'.1 = c5.1 := w4.trans (q7.trans q6)
        have kk : kK cs' = kK c5 := congrArg (fun z => z.1) q5'
        have km : kM cs' = kM c5 := congrArg (fun z => z.2.1) q5'
        have em' : EM c5 cs' := EM.of (congrArg (fun z => z.2.2) q5')
        refine ⟨cs', r7, w1, rfl, Or.inr ⟨lf5, g.fwx w2 w3 ((em2.trans em24).trans (pd5.em.trans em')) (fun x y h1 h2 h3 => (((a2 x y h1).trans (a24 x y (by omega))).trans (a45 x y (by omega) h2 h3)).trans ((((a56 x y (by omega)).trans (AT.fo fo (by unfold PX; omega))).trans (AT.sI (by omega))).trans (w5 x y (by omega)))) (by omega) (by omega), by rw [← hoo]; exact em' _ o75⟩⟩
    · have o75 : (7, oo) ∈ kE c5 := fq.em _ o74
      have hkr := fq.kr
      have hmr := fq.mr
      obtain ⟨cs', w1, w2, w3, w4, w5⟩ := b40_f (F := F) (T := T) (oi := oi) fq.pb fq.ws o75 ⟨t0, c0, by omega⟩
      rw [m67_f fq.pb.r]
      have kk : kK cs' = kK c5 := congrArg (fun z => z.1) w4
      have km : kM cs' = kM c5 := congrArg (fun z => z.2.1) w4
      have em' : EM c5 cs' := EM.of (congrArg (fun z => z.2.2) w4)
      refine ⟨cs', _, w1, rfl, Or.inr ⟨lf5, g.fwx (w2.rb (RB.setF (Or.inl rfl))) w3 ((em2.trans em24).trans (fq.em.trans em')) (fun x y h1 h2 h3 => (((a2 x y h1).trans (a24 x y (by omega))).trans (fq.a0 x y (by omega) h2 h3)).trans (w5 x y (by omega) (by omega))) (by omega) (by omega), by rw [← hoo]; exact em' _ o75⟩⟩
  · have ez : z = 12 := by omega
    subst ez
    have pb0 := b2.jt.bad (a := 7) (b := kA c2 353 9 i) (by decide)
    have fo0 : FO (PX t c oo) c2 (sI (sI c2 320 t 7) 321 t (kA c2 353 9 i)) := (FO.sI (Or.inl ⟨by decide, rfl⟩)).trans (FO.sI (Or.inl ⟨by decide, rfl⟩))
    have ws0 := b2.ws fo0 pb0.s
    have g0 : GF t (kK c2) (sI (sI c2 320 t 7) 321 t (kA c2 353 9 i)) (sI (sI (sI c2 320 t 7) 321 t (kA c2 353 9 i)) 329 t (nI (12 + 1))) := GF.text (Or.inl rfl)
    have ws1 := ws0.gf g0 ws0.kb ws0.t0 ws0.c0
    have pb1 : PB t c (sI (sI (sI c2 320 t 7) 321 t (kA c2 353 9 i)) 329 t (nI (12 + 1))) (setF (setF (setF (setF (setF rs 70 (nI 13)) 21 0) 19 7) 20 (kA c2 353 9 i)) 18 (nI (i + 1))) := by
      have w := pb0.gf ws1.f g0 ws0.t0
      exact ⟨w.s, ⟨rfl, i + 1, rfl, by have := g.b.im; have := g.b.x.mn; have := g.b.x.n2; omega⟩, w.e1, w.e2⟩
    have ri9 : (setF (setF (setF (setF rs 70 (nI 13)) 21 0) 19 7) 20 (kA c2 353 9 i)).1 18 = nI i := g.b.ri
    rw [dee_b b2.h b2.f0 b2.ci i2 b2.cz (Nat.le_refl _) (by decide), ob_s, ckE_ok ws1.f.h.o, ob_s, expf ws1.f (by decide), ob_s, ckE_ok ws1.f.h.o, ob_s, g.b.ri, rdI_n i2 (by decide), ob_s, pr, mde_b g.b.g1 g.b.rz, ob_s, ri9, nI_1]
    have aA : ∀ x y, ¬ (y = t ∧ (x = 320 ∨ x = 321 ∨ x = 329)) → AT c2 (sI (sI (sI c2 320 t 7) 321 t (kA c2 353 9 i)) 329 t (nI (12 + 1))) x y := fun x y h => ((AT.sI (by omega)).trans (AT.sI (by omega))).trans (AT.sI (by omega))
    have oA : (7, oo) ∈ kE (sI (sI (sI c2 320 t 7) 321 t (kA c2 353 9 i)) 329 t (nI (12 + 1))) := sn.e
    have kA' : kK (sI (sI (sI c2 320 t 7) 321 t (kA c2 353 9 i)) 329 t (nI (12 + 1))) = oo + 6 ∧ kM (sI (sI (sI c2 320 t 7) 321 t (kA c2 353 9 i)) 329 t (nI (12 + 1))) = kM cs + 49 := ⟨k2, m2⟩
    have emA : EM c2 (sI (sI (sI c2 320 t 7) 321 t (kA c2 353 9 i)) 329 t (nI (12 + 1))) := EM.refl
    obtain ⟨cA, hcA⟩ : ∃ x, x = sI (sI (sI c2 320 t 7) 321 t (kA c2 353 9 i)) 329 t (nI (12 + 1)) := ⟨_, rfl⟩
    rw [← hcA] at ws1 pb1 aA oA kA' emA ⊢
    obtain ⟨c5, q1, q2, q3, q4, q5, q6, q7⟩ := qry_f (F := F) hF hT2 hT3 hT4 ws1
    have o75 := q3.1 _ oA
    have pb5 := pb1.gf q2.f q3 ws1.t0
    obtain ⟨cs', w1, w2, w3, w4, w5⟩ := b40_f (F := F) (T := T) (oi := kK cA) pb5 q2 o75 ⟨t0, c0, by omega⟩
    rw [hT1, q1, ob_s, if_pos pb1.r.g, m67_f pb1.r]
    have kk : kK cs' = kK c5 := congrArg (fun z => z.1) w4
    have km : kM cs' = kM c5 := congrArg (fun z => z.2.1) w4
    have em' : EM c5 cs' := EM.of (congrArg (fun z => z.2.2) w4)
    refine ⟨cs', _, w1, rfl, Or.inr ⟨lf, g.fwx (w2.rb (RB.setF (Or.inl rfl))) w3 ((em2.trans emA).trans (q3.1.trans em')) (fun x y h1 h2 h3 => (((a2 x y h1).trans (aA x y (by omega))).trans (q3.2.2 x y (by omega) (by omega))).trans (w5 x y (by omega) (by omega))) (by omega) (by omega), by rw [← hoo]; exact em' _ o75⟩⟩

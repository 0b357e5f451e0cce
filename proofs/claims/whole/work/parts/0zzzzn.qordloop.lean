/-! order by: its limit, its columns, both -/
theorem lN_100 {a : Nat} (h : a < 9223372036854775808) : lN a ≤ 100 ↔ a ≤ 100 := by
  rw [Int64.le_iff_toInt_le, pk_lT (by omega), show (100 : Int64).toInt = 100 by decide +kernel]
  omega
theorem lN_32 : ∀ a, a < 101 → (lN a).toInt32 = nI a := by decide +kernel
theorem mn_le {F a : Nat} {cs : CS} (h : a ≤ 100) : c_J9_min_f86c9 F cs (lN a) 100 = some (lN a) := by
  unfold c_J9_min_f86c9 c_J9_min_f86c9_b11
  rw [if_neg]
  rw [Int64.lt_iff_toInt_lt, pk_lT (by omega), show (100 : Int64).toInt = 100 by decide +kernel]
  omega
theorem QO.lim {n : Nat} {f : Nat → Int32} {M t c cap : Nat} {d z S0 Q0 s0 l0 m i1 s1 lf S Q mo i s : Nat} {cs0 csS cs : CS} {rs0 rsS rs : RS} {v : Int32} (h : QO n f M t c cap d z S0 Q0 s0 l0 cs0 rs0 m i1 s1 lf S Q csS rsS mo i s cs rs) : QO n f M t c cap d z S0 Q0 s0 l0 cs0 rs0 m i1 s1 lf S Q csS rsS mo i s (sI cs 132 (kK cs0) v) (setI rs 68 Q0 v) := by
  obtain ⟨x1, x2, x3, x4, x5, x6⟩ := h.g.ix
  obtain ⟨y1, y2, y3⟩ := h.g.kx
  have ki := h.ki
  have km := h.km
  have kk0 := h.g.pd.kk
  have m8 := h.cl.m8
  have od2 : kK cs0 < kK csS := (show QRY (QR X0 n f M c s1 S Q csS rsS d) X0 n f M c s1 S0 S Q0 Q (kK cs0) (kK csS) (kK cs0) Q0 csS rsS from h.g.qr.2).od.2
  have ca : ∀ x j, ¬ (x = 132 ∧ j = kK cs0) → AT cs (sI cs 132 (kK cs0) v) x j := fun x j hx => AT.sI hx
  have ra : ∀ k j, ¬ (k = 68 ∧ j = Q0) → (setI rs 68 Q0 v).2.2.1 k j = rs.2.2.1 k j := fun k j h => sIa_n h
  have c1 : (sI cs 132 (kK cs0) v).1 = cs.1 := rfl
  have rf : (setI rs 68 Q0 v).1 = rs.1 := rfl
  have rw0 : (setI rs 68 Q0 v).2.1 = rs.2.1 := rfl
  have rl : (setI rs 68 Q0 v).2.2.2 = rs.2.2.2 := rfl
  obtain ⟨cs', hcs'⟩ : ∃ x, x = sI cs 132 (kK cs0) v := ⟨_, rfl⟩
  obtain ⟨r', hr'⟩ : ∃ x, x = setI rs 68 Q0 v := ⟨_, rfl⟩
  rw [← hcs'] at ca c1 ⊢
  rw [← hr'] at ra rf rw0 rl ⊢
  have em : EM cs cs' := EM.of (congrArg (fun z => z.2.2) c1)
  have kk : kK cs' = kK cs := congrArg (fun z => z.1) c1
  have kmm : kM cs' = kM cs := congrArg (fun z => z.2.1) c1
  have r33 : ∀ k, k ≤ 33 → r'.2.2.1 k = rs.2.2.1 k ∧ r'.2.2.2 k = rs.2.2.2 k := fun k hk => ⟨funext (fun j => ra k j (by omega)), by rw [rl]⟩
  have vw : VW c cs' r' = VW c cs rs := VW.eq (fun x a1 a2 => ca x c (by omega)) r33
  have tk : TKF cs rs cs' r' := ⟨(ca 352 9 (by omega)).a, (ca 353 9 (by omega)).a, (ca 354 9 (by omega)).b, (r33 14 (by decide)).1, (r33 15 (by decide)).1, (r33 16 (by decide)).1, (r33 17 (by decide)).2, (r33 2 (by decide)).1⟩
  have kp : ∀ x, x < s → VW c cs' r' x = VW c cs rs x := fun x _ => congrFun vw x
  have b' : BG n f M t c cap i z s lf S Q cs' r' := h.b.mv em (h.b.kb.of c1) (fun x j hj => ca x j (by omega)) (fun x _ _ _ _ => ca x t (by omega)) (fun x _ _ => ca x c (by omega)) (fun k _ _ _ _ => by rw [rf]) r33 (by rw [rf]; exact h.b.rS) (by rw [rf]; exact h.b.rQ)
  have po : PO t c (kK csS) S Q s1 lf (kK cs0) Q0 cs rs cs' r' := by
    refine ⟨em, by omega, fun x j a1 _ _ a4 => ca x j (by omega), fun x _ => ca x t (by omega), fun x _ => congrFun vw x, tk, ⟨⟨Or.inr rw0, fun k hk => ?_⟩, fun k j a1 a2 a3 a4 a5 => ra k j (by omega), fun j _ => by rw [rl]⟩, fun k _ => by rw [(ca 326 t (by omega)).q]⟩
    unfold pR' at hk
    exact ⟨by rw [rf], funext (fun j => ra k j (by omega)), by rw [rl]⟩
  have sm : SM t lf S cs' r' := by
    refine ⟨fun k hk => ?_, fun w => ?_⟩
    · obtain ⟨o', o1, o2⟩ := h.sm.1 k hk
      exact ⟨o', by rw [(ca 326 t (by omega)).q]; exact o1, em _ o2⟩
    · rw [lsm_eq (cs := cs) lf (fun k hk => ?_), rsm_eq (rs := rs) S (fun s k hs hk => ?_)]
      · exact h.sm.2 w
      · unfold rk1
        rw [ra 37 s (by omega), ra 49 (3 * s + k) (by omega), ra 51 (3 * s + k) (by omega), rl]
      · unfold lk1
        rw [(ca 326 t (by omega)).q]
        cases hq : kQ cs 326 t k with
        | none => rfl
        | some o' =>
          show w (kI cs' 224 o') (kJ cs' 230 o') = w (kI cs 224 o') (kJ cs 230 o')
          rw [(ca 224 o' (by omega)).i, (ca 230 o' (by omega)).j]
  refine ⟨h.g, h.p.trans po, b', sm, by rw [(ca 330 t (by omega)).r]; exact h.r3, by rw [rf]; exact h.r7, h.hs, by omega, by omega, h.cl.keep em (fun x a1 a2 => ca x _ (by omega)), by rw [(ca 130 _ (by omega)).r]; exact h.o1, by rw [ra 64 Q0 (by omega)]; exact h.r64, by rw [(ca 131 _ (by omega)).i, ra 65 Q0 (by omega)]; exact h.r65, fun k hk => ?_⟩
  obtain ⟨r, b1, b2, b3, b4, b5⟩ := h.its k hk
  exact ⟨r, by rw [(ca 97 _ (by omega)).a]; exact b1, by rw [ra 66 _ (by omega)]; exact b2, b3.kf (Nat.le_refl _) kp tk, by rw [(ca 99 _ (by omega)).a, ra 67 _ (by omega)]; exact b4, by rw [(ca 99 _ (by omega)).a]; exact b5⟩
theorem ord_lim {n : Nat} {f : Nat → Int32} {M t c cap : Nat} {d z S0 Q0 s0 l0 m i1 s1 lf S Q mo i s : Nat} {cs0 csS cs : CS} {rs0 rsS rs : RS} {F : Nat} {T' : TG_queryOf} (hF : 10000 ≤ F) (h : QO n f M t c cap d z S0 Q0 s0 l0 cs0 rs0 m i1 s1 lf S Q csS rsS mo i s cs rs) (m1 : 1 ≤ mo) : ∃ cs' rs', c_X9_readOrder_b107 F cs t (kK cs0) = some cs' ∧ m_queryOf_b376 F T' rs (nI Q0) = some (rs', nI Q0) ∧ QPO n f M t c cap (d + 1) z S0 Q0 s0 l0 cs0 rs0 (kK cs0) cs' rs' := by
  have Q60 : Q0 < 60 := (show QRY (QR X0 n f M c s1 S Q csS rsS d) X0 n f M c s1 S0 S Q0 Q (kK cs0) (kK csS) (kK cs0) Q0 csS rsS from h.g.qr.2).qb.2.2
  have e4 : (4, kK cs0) ∈ kE cs := h.p.em _ (show QRY (QR X0 n f M c s1 S Q csS rsS d) X0 n f M c s1 S0 S Q0 Q (kK cs0) (kK csS) (kK cs0) Q0 csS rsS from h.g.qr.2).e4
  have nd := h.b.jt.need (F := F) (x := 41) hF (by decide) (by decide)
  rw [show nI (swK 41) = 16 by decide] at nd
  rw [b107_o, ckE_ok h.b.h.o, ob_s]
  unfold m_queryOf_b376
  rcases nd with ⟨w1, w2, w3⟩ | ⟨w2, w3⟩
  · have h1 := h.tok w1
    rw [w2, ob_s, w3, ob_s]
    have e41 : (4, kK cs0) ∈ kE (sI cs 328 t (nI (i + 1))) := e4
    obtain ⟨c1, hc1⟩ : ∃ x, x = sI cs 328 t (nI (i + 1)) := ⟨_, rfl⟩
    obtain ⟨r1, hr1⟩ : ∃ x, x = setF rs 18 (nI (i + 1)) := ⟨_, rfl⟩
    rw [← hc1] at h1 e41 ⊢
    rw [← hr1] at h1 ⊢
    have b1 := h1.b
    have i2 := b1.jt.i2
    have nu := num_ok (F := F) b1.h b1.ci i2
    have hh := her_ok (F := F) b1.h b1.ci i2
    obtain ⟨p, κ, hk, hka, hkb, kd, hkl, pr⟩ := b1.jt.tok (F := F)
    rw [if_neg (show ¬ r1.1 21 = 0 by rw [b1.g1]; decide), b1.ri, rdI_n i2 (by decide), ob_s]
    unfold m_queryOf_b419 m_queryOf_b423 m_queryOf_b456
    by_cases y40 : κ = 40
    · have hiM : i + 1 < M := by
        have := b1.im
        rcases Nat.lt_or_ge (i + 1) M with w | w
        · exact w
        · have := hkb (by omega); omega
      obtain ⟨n1, a, a1, a2, a3⟩ := hk.nu y40
      rw [y40, show nI 40 = 40 by decide] at kd
      have rn : c_X9_readNumber F c1 t 100 = if lN a ≤ 100 then (c_X9_readNumber_b29 F c1 t (lN a)) else (Option.bind (ckE c1 10 t) fun _ => Option.bind (c_X9_here F c1 t) fun v_9 => Option.bind (ckE c1 10 t) fun _ => Option.bind (c_X9_refuse F c1 t 1 v_9) fun cs_11 => c_X9_readNumber_b29 F cs_11 t (lN a)) := by
        unfold c_X9_readNumber
        rw [ckE_ok b1.h.o, ob_s, nu, ob_s, ob_s, kd, ob_s, if_pos rfl, a2]
      rw [if_pos n1, rdL_n i2 (by decide), ob_s, a3]
      by_cases le : a ≤ 100
      · have h2 := (h1.tok hiM).lim (v := nI a)
        rw [if_pos ((lN_100 a1).mpr le)] at rn
        refine ⟨_, _, ?_, ?_, h2.fin m1 ⟨le, kI_s, pk_us⟩⟩
        · unfold oL
          unfold c_X9_readNumber_b29 at rn
          rw [ckE_ok b1.h.o, ob_s, exp_y b1.h b1.ci kd, ob_s] at rn
          have e42 : (4, kK cs0) ∈ kE (sI c1 328 t (nI (i + 1 + 1))) := e41
          rw [ckE_ok b1.h.o, ob_s, rn, ob_s, mn_le le, ob_s, pI_ok e42, ob_s, lN_32 a (by omega)]
        · rw [if_pos ((lN_100 a1).mpr le), if_neg (show ¬ r1.1 21 = 0 by rw [b1.g1]; decide), b1.ri, rdL_n i2 (by decide), ob_s, a3, lN_32 a (by omega), wrI_n Q60 (by decide), ob_s]
          show some (setF (setI r1 68 Q0 (nI a)) 18 (r1.1 18 + 1), nI Q0) = _
          rw [b1.ri, nI_1]
          rfl
      · have gt : ¬ lN a ≤ 100 := fun w => le ((lN_100 a1).mp w)
        have fd := h1.bad (a := 1) (v := kA c1 353 9 (i + 1)) (by decide)
        rw [if_neg gt, ckE_ok b1.h.o, ob_s, hh, ob_s, ob_s, ref_ok b1.h b1.f0, ob_s] at rn
        unfold c_X9_readNumber_b29 at rn
        have fs := fd.q.ws.f
        rw [ckE_ok fs.h.o, ob_s, expf fs (by decide), ob_s] at rn
        obtain ⟨x, hx⟩ := mn_any (F := F) (cs := sI (sI c1 320 t 1) 321 t (kA c1 353 9 (i + 1))) (v := lN a) (w := 100)
        obtain ⟨d1, d2, d3⟩ := fd.od
        refine ⟨sI (sI (sI c1 320 t 1) 321 t (kA c1 353 9 (i + 1))) 132 (kK cs0) x.toInt32, _, ?_, ?_, Or.inr ⟨lf, fd.q.up rfl (fun y j hj => AT.sI (by omega)) d2 d3⟩⟩
        · unfold oL
          rw [ckE_ok b1.h.o, ob_s, rn, ob_s, hx, ob_s, pI_ok fd.e4, ob_s]
        · rw [if_neg gt, wro_ok b1.g1 b1.ri i2, ob_s, pr, if_pos fd.q.pb.r.g]
    · have ne40 : ¬ nI κ = 40 := fun w => y40 ((nI_eq (b := 40) (by omega) (by decide)).mp w)
      have fd := h1.bad (a := 1) (v := kA c1 353 9 (i + 1)) (by decide)
      have rn : c_X9_readNumber F c1 t 100 = some (sI (sI c1 320 t 1) 321 t (kA c1 353 9 (i + 1)), kB c1 354 9 (i + 1)) := by
        unfold c_X9_readNumber c_X9_readNumber_b29
        rw [ckE_ok b1.h.o, ob_s, nu, ob_s, ob_s, kd, ob_s, if_neg ne40, ob_s, exp_n b1.h b1.f0 b1.ci i2 kd ne40, ob_s]
      obtain ⟨x, hx⟩ := mn_any (F := F) (cs := sI (sI c1 320 t 1) 321 t (kA c1 353 9 (i + 1))) (v := kB c1 354 9 (i + 1)) (w := 100)
      obtain ⟨d1, d2, d3⟩ := fd.od
      refine ⟨sI (sI (sI c1 320 t 1) 321 t (kA c1 353 9 (i + 1))) 132 (kK cs0) x.toInt32, _, ?_, ?_, Or.inr ⟨lf, fd.q.up rfl (fun y j hj => AT.sI (by omega)) d2 d3⟩⟩
      · unfold oL
        rw [ckE_ok b1.h.o, ob_s, rn, ob_s, hx, ob_s, pI_ok fd.e4, ob_s]
      · rw [if_neg (tk_nn hk y40), wro_ok b1.g1 b1.ri i2, ob_s, pr, if_pos fd.q.pb.r.g]
  · have fd := h.bad (a := 1) (v := kA cs 353 9 i) (by decide)
    obtain ⟨cs', e1, e2⟩ := oL_f (F := F) fd
    rw [w2, ob_s, w3, ob_s, if_pos fd.q.pb.r.g]
    unfold m_queryOf_b423 m_queryOf_b456
    rw [if_pos fd.q.pb.r.g]
    exact ⟨cs', _, e1, rfl, Or.inr ⟨lf, e2⟩⟩
theorem ord_L {n : Nat} {f : Nat → Int32} {M t c cap : Nat} {d z S0 Q0 s0 l0 m i1 s1 lf S Q : Nat} {cs0 csS : CS} {rs0 rsS : RS} {F : Nat} {T' : TG_queryOf} (hF : 10000 ≤ F) : ∀ (u v mo i s : Nat) (cs : CS) (rs : RS), 11 ≤ u + mo → 11 ≤ v + mo → mo ≤ 8 → QO n f M t c cap d z S0 Q0 s0 l0 cs0 rs0 m i1 s1 lf S Q csS rsS mo i s cs rs → kI cs 331 t = 0 → rs.1 72 = 0 → ∃ cs' rs', c_X9_readOrder_L43 F u cs t (kK cs0) (kK csS) 1 (nI mo) = some cs' ∧ m_queryOf_L246 F T' v rs (nI Q0) 1 = some (rs', nI Q0) ∧ QPO n f M t c cap (d + 1) z S0 Q0 s0 l0 cs0 rs0 (kK cs0) cs' rs' := by
  intro u
  induction u with
  | zero => intro v mo i s cs rs q1 q2 q3; exact absurd q1 (by omega)
  | succ u ih =>
    intro v mo i s cs rs q1 q2 q3 h cm rm
    obtain ⟨v, rfl⟩ : ∃ x, v = x + 1 := ⟨v - 1, by omega⟩
    obtain ⟨u', hu'⟩ : ∃ x, u = x + 1 := ⟨u - 1, by omega⟩
    obtain ⟨v', hv'⟩ : ∃ x, v = x + 1 := ⟨v - 1, by omega⟩
    have nz : ¬ (1 : Int32) = 0 := by decide
    have Q60 : Q0 < 60 := (show QRY (QR X0 n f M c s1 S Q csS rsS d) X0 n f M c s1 S0 S Q0 Q (kK cs0) (kK csS) (kK cs0) Q0 csS rsS from h.g.qr.2).qb.2.2
    have ho := h.b.h.o
    have ki := h.ki
    have kk0 := h.g.pd.kk
    obtain ⟨y1, y2, y3⟩ := h.g.kx
    have t0 : t ≠ kK csS := by omega
    have pg : PG n f M t c cap (kK cs) 60 false i z s cs rs := h.b.pg (by rw [if_neg (by decide)]; exact cm) (by rw [if_neg (by decide)]; exact rm) (fun w => absurd w (by decide))
    obtain ⟨cs5, cs6, rs6, a, b, v0, f1, f2, f3, f4, f5, f6, f7⟩ := root_step (F := F) (m := mo) hF pg q3
    have er := f6 (fun r _ y => m_queryOf_b310 F T' (m_queryOf_L246 F T' v) r (nI Q0) (nI mo) y)
    have eC : c_X9_readOrder_L43 F (u + 1) cs t (kK cs0) (kK csS) 1 (nI mo) = oT F t (kK cs0) (kK csS) (c_X9_readOrder_L43 F u) (nI mo) b cs6 := by
      rw [L43_1 (show ¬ 2000 ≤ nI mo from nI_ge (b := 2000) (by omega) (by decide)), ckE_ok h.cl.e, ob_s, clm_full h.cl, ob_s, ckE_ok ho, ob_s, f1, ob_s, ckE_ok f2, ob_s, f4, ob_s]
    have eRf : m_queryOf_L246 F T' (v + 1) rs (nI Q0) 1 = m_queryOf_b310 F T' (m_queryOf_L246 F T' v) rs6 (nI Q0) (nI mo) a := by
      rw [m_queryOf_L246, if_neg nz, if_neg (show ¬ rs.1 21 = 0 by rw [h.b.g1]; decide), rdI_n Q60 (by decide), ob_s, h.r64]
      unfold m_queryOf_b295
      exact er
    rw [eC, eRf]
    rcases f7 with ⟨m8, -, i', s', x, ea, eb⟩ | ⟨pb, fo, fr⟩
    · subst ea
      subst eb
      have h1 := h.ex0 x
      have cm1 : kI cs6 331 t = 0 := x.g.cm
      have rm1 : rs6.1 72 = 0 := (x.fr.f (by unfold eR; omega)).trans rm
      have rt : RT n f M c 0 false s' (s' - 1) cs6 rs6 := (RT.eg x).f0
      have step : ∀ (i2 : Nat) (c2 : CS) (r2 : RS) (ds : Int32), QO n f M t c cap d z S0 Q0 s0 l0 cs0 rs0 m i1 s1 lf S Q csS rsS mo i2 s' c2 r2 → kI c2 331 t = 0 → r2.1 72 = 0 → RT n f M c 0 false s' (s' - 1) c2 r2 → (ds = 0 ∨ ds = 1) → ∃ cs' rs', c_X9_readOrder_b90 F (c_X9_readOrder_L43 F u) c2 t (kK cs0) (kK csS) (nI mo) ds (-1) (nI (s' - 1)) (kK csS) = some cs' ∧ (Option.bind (wrI r2 66 480 ((8 * nI Q0) + nI mo) (nI (s' - 1))) fun cs_14 => Option.bind (wrI cs_14 67 480 ((8 * nI Q0) + nI mo) ds) fun cs_15 => Option.bind (rdI (cs_15.2.2.1 64) 60 (nI Q0)) fun v_16 => Option.bind (wrI cs_15 64 60 (nI Q0) (v_16 + 1)) fun cs_17 => m_queryOf_b366 F T' (m_queryOf_L246 F T' v) cs_17 (nI Q0)) = some (rs', nI Q0) ∧ QPO n f M t c cap (d + 1) z S0 Q0 s0 l0 cs0 rs0 (kK cs0) cs' rs' := by
        intro i2 c2 r2 ds h2 cm2 rm2 rt2 hd
        have h3 := h2.add (nm := -1) m8 rt2 hd
        have cadd := adC_ok (F := F) (r := nI (s' - 1)) (nm := -1) (mk := ds) (ty := 1) h2.cl m8
        have cm3 : kI (adC c2 (kK csS) mo (nI (s' - 1)) (-1) ds 1) 331 t = 0 := (adC_at (by omega)).i.trans cm2
        have r64 : r2.2.2.1 64 Q0 = nI mo := h2.r64
        have wr : (Option.bind (wrI r2 66 480 ((8 * nI Q0) + nI mo) (nI (s' - 1))) fun cs_14 => Option.bind (wrI cs_14 67 480 ((8 * nI Q0) + nI mo) ds) fun cs_15 => Option.bind (rdI (cs_15.2.2.1 64) 60 (nI Q0)) fun v_16 => Option.bind (wrI cs_15 64 60 (nI Q0) (v_16 + 1)) fun cs_17 => m_queryOf_b366 F T' (m_queryOf_L246 F T' v) cs_17 (nI Q0)) = m_queryOf_b366 F T' (m_queryOf_L246 F T' v) (setI (setI (setI r2 66 (8 * Q0 + mo) (nI (s' - 1))) 67 (8 * Q0 + mo) ds) 64 Q0 (nI (mo + 1))) (nI Q0) := by
          rw [nI_8, nI_add, wrI_n (by omega) (by decide), ob_s, wrI_n (by omega) (by decide), ob_s, rdI_n Q60 (by decide), ob_s, show (setI (setI r2 66 (8 * Q0 + mo) (nI (s' - 1))) 67 (8 * Q0 + mo) ds).2.2.1 64 Q0 = nI mo from r64, nI_1, wrI_n Q60 (by decide), ob_s]
        have rm3 : (setI (setI (setI r2 66 (8 * Q0 + mo) (nI (s' - 1))) 67 (8 * Q0 + mo) ds) 64 Q0 (nI (mo + 1))).1 72 = 0 := rm2
        rw [wr]
        obtain ⟨c3, hc3⟩ : ∃ x, x = adC c2 (kK csS) mo (nI (s' - 1)) (-1) ds 1 := ⟨_, rfl⟩
        obtain ⟨r3, hr3⟩ : ∃ x, x = setI (setI (setI r2 66 (8 * Q0 + mo) (nI (s' - 1))) 67 (8 * Q0 + mo) ds) 64 Q0 (nI (mo + 1)) := ⟨_, rfl⟩
        rw [← hc3] at h3 cadd cm3
        rw [← hr3] at h3 rm3 ⊢
        unfold c_X9_readOrder_b90 m_queryOf_b366
        rw [ckE_ok h2.cl.e, ob_s, cadd, ob_s, ckE_ok h3.b.h.o, ob_s, nI_1]
        have ms := h3.b.jt.mayS (F := F) (k := 43) (by decide) (by decide)
        rw [show nI 43 = 43 by decide, show st 43 = 44 by decide] at ms
        rcases ms with ⟨z1, z2, z3⟩ | ⟨z2, z3⟩
        · rw [z2, ob_s, z3, ob_s]
          exact ih v (mo + 1) (i2 + 1) s' _ _ (by omega) (by omega) (by omega) (h3.tok z1) ((kI_n (by omega)).trans cm3) rm3
        · rw [z2, ob_s, z3, ob_s, hu', hv']
          show ∃ cs' rs', c_X9_readOrder_L43 F (u' + 1) c3 t (kK cs0) (kK csS) 0 (nI (mo + 1)) = some cs' ∧ m_queryOf_L246 F T' (v' + 1) r3 (nI Q0) 0 = _ ∧ _
          rw [L43_0, L246_0]
          exact ord_lim hF h3 (by omega)
      have my := h1.b.jt.may (F := F) (x := 40) hF (by decide) (by decide)
      rw [show nI (swK 40) = 15 by decide] at my
      unfold oT m_queryOf_b310
      rw [ckE_ok h1.b.h.o, ob_s]
      rcases my with ⟨w1, w2, w3, -, -⟩ | ⟨w2, w3, -, -⟩
      · have h2 := h1.tok w1
        have cm2 : kI (sI cs6 328 t (nI (i' + 1))) 331 t = 0 := (kI_n (by omega)).trans cm1
        have rt2 : RT n f M c 0 false s' (s' - 1) (sI cs6 328 t (nI (i' + 1))) (setF rs6 18 (nI (i' + 1))) := rt.kf (Nat.le_refl _) (fun _ _ => rfl) TKF.refl
        have s2 := step (i' + 1) _ _ 1 h2 cm2 rm1 rt2 (Or.inr rfl)
        rw [w2, ob_s, w3, ob_s, if_neg nz, if_neg (show ¬ (setF rs6 18 (nI (i' + 1))).1 21 = 0 by rw [h2.b.g1]; decide), show vp_nar .boolean 1 = 1 by decide]
        exact s2
      · have s2 := step i' _ _ 0 h1 cm1 rm1 rt (Or.inl rfl)
        rw [w2, ob_s, w3, ob_s, if_pos rfl, if_neg (show ¬ rs6.1 21 = 0 by rw [h1.b.g1]; decide), show vp_nar .boolean 0 = 0 by decide]
        exact s2
    · have fd := h.fd fo (by omega) pb
      rw [hu', hv', q310_f pb.r]
      obtain ⟨cs', e1, e2⟩ := oT_f (F := F) (v := u') (w := nI mo) (b := b) fd
      exact ⟨cs', _, e1, rfl, Or.inr ⟨lf, e2⟩⟩
theorem ord_Lf {F v t c cap K0 S0 l0 lf r oc : Nat} {cs0 cs : CS} {rs : RS} (hF : 10000 ≤ F) (h : FD t c cap K0 S0 l0 cs0 lf r oc cs rs) : ∃ cs', c_X9_readOrder_L43 F (v + 2) cs t K0 oc 1 0 = some cs' ∧ FQ t c cap K0 S0 l0 cs0 lf r cs' rs := by
  have fs := h.q.ws.f
  obtain ⟨m, hc⟩ := h.cl
  obtain ⟨b, hb⟩ := tf1 (k := 300) hF (by decide) fs
  obtain ⟨cs', e1, e2⟩ := oT_f (F := F) (v := v) (w := 0) (b := b) h
  refine ⟨cs', ?_, e2⟩
  rw [show v + 2 = (v + 1) + 1 from rfl, L43_1 (by decide), ckE_ok hc.e, ob_s, clm_full hc, ob_s, ckE_ok fs.h.o, ob_s, rn_f fs, ob_s, ckE_ok fs.h.o, ob_s]
  show (Option.bind ((tabc_X9_readExpr F 300).1 cs t) _) = _
  rw [hb, ob_s]
  exact e1
/-- a whole order by, from the word order on -/
theorem q_ord {n : Nat} {f : Nat → Int32} {M t c cap : Nat} {d z S0 Q0 s0 l0 m i s lf S Q : Nat} {cs0 cs : CS} {rs0 rs : RS} {F : Nat} {T' : TG_queryOf} (hF : 10000 ≤ F) (g : QG n f M t c cap d z S0 Q0 s0 l0 cs0 rs0 m i s lf S Q cs rs) (hi : i < M) (hk0 : c_X9_kind F cs t = some (nI 14)) : ∃ cs' rs', c_X9_readOrder F cs t (kK cs0) = some cs' ∧ (Option.bind (wrI rs 65 60 (nI Q0) (kA cs 353 9 i)) fun cs_31 => Option.bind (m_needWord F (setF cs_31 18 ((cs_31.1 18) + 1)) 33) fun cs_32 => m_queryOf_L246 F T' F (setF cs_32 72 0) (nI Q0) 1) = some (rs', nI Q0) ∧ QPO n f M t c cap (d + 1) z S0 Q0 s0 l0 cs0 rs0 (kK cs0) cs' rs' := by
  have Y : QRY (QR X0 n f M c s S Q cs rs d) X0 n f M c s S0 S Q0 Q (kK cs0) (kK cs) (kK cs0) Q0 cs rs := g.qr.2
  have Q60 : Q0 < 60 := Y.qb.2.2
  obtain ⟨p, κ, hk, -, -, kd, hkl, pr⟩ := g.b.jt.tok (F := F)
  have eκ : κ = 14 := (nI_eq (by omega) (by omega)).mp (Option.some.inj (kd.symm.trans hk0))
  subst eκ
  have pne : kA cs 353 9 i ≠ -1 := fun w => nI_pos (n := p) (by have := hk.pl; have := g.b.x.n2; omega) (by rw [← hk.pc, w]; decide)
  obtain ⟨c2, q2, h⟩ := QO.start (F := F) g pne
  have e4 : (4, kK cs0) ∈ kE c2 := h.p.em _ Y.e4
  have a353 : kA c2 353 9 = kA cs 353 9 := h.p.tk.2.1
  obtain ⟨y1, y2, y3⟩ := g.kx
  have hh : c_X9_here F (sR c2 130 (kK cs0) (some (kK cs))) t = some (kA cs 353 9 i) := by
    have w : c_X9_here F (sR c2 130 (kK cs0) (some (kK cs))) t = some (kA c2 353 9 i) := her_ok (c := c) ⟨h.b.h.b, h.b.h.o, h.b.h.tk, h.b.h.rc, h.b.h.oc⟩ ((kI_n (v := kA cs 353 9 i) (show ¬ (328 = 131 ∧ t = kK cs0) by omega)).symm.trans h.b.ci) g.b.jt.i2
    rw [w, a353]
  have hkk := h.p.tk
  have hk1 : TK n f i p 14 (sI (sR c2 130 (kK cs0) (some (kK cs))) 131 (kK cs0) (kA cs 353 9 i)) (setI rs 65 Q0 (kA cs 353 9 i)) := hk.f h.p.tk
  have kd1 := exp_y (F := F) h.b.h h.b.ci (knd_ok h.b.h h.b.f0 h.b.ci h.b.jt.i2 hk1)
  rw [show nI 14 = 14 by decide] at kd1
  have o1 : (10, t) ∈ kE (sR c2 130 (kK cs0) (some (kK cs))) := h.b.h.o
  have e43 : (4, kK cs0) ∈ kE (sR c2 130 (kK cs0) (some (kK cs))) := e4
  have cls : c_X9_readOrder F cs t (kK cs0) = Option.bind (c_X9_expect F (sI (sI (sR c2 130 (kK cs0) (some (kK cs))) 131 (kK cs0) (kA cs 353 9 i)) 328 t (nI (i + 1))) t 8) fun cs_28 => Option.bind (pI cs_28 10 331 t 0) fun cs_30 => c_X9_readOrder_L43 F F cs_30 t (kK cs0) (kK cs) 1 0 := by
    unfold c_X9_readOrder c_X9_readOrder_b3 c_X9_readOrder_b7
    rw [nwO_ok g.b.kb, ob_s, q2, ob_s, pR_ok e4, ob_s, ckE_ok o1, ob_s, hh, ob_s, pI_ok e43, ob_s, ckE_ok h.b.h.o, ob_s, kd1, ob_s, ckE_ok (h.tok hi).b.h.o, ob_s]
  have ref : (Option.bind (wrI rs 65 60 (nI Q0) (kA cs 353 9 i)) fun cs_31 => Option.bind (m_needWord F (setF cs_31 18 ((cs_31.1 18) + 1)) 33) fun cs_32 => m_queryOf_L246 F T' F (setF cs_32 72 0) (nI Q0) 1) = Option.bind (m_needWord F (setF (setI rs 65 Q0 (kA cs 353 9 i)) 18 (nI (i + 1))) 33) fun cs_32 => m_queryOf_L246 F T' F (setF cs_32 72 0) (nI Q0) 1 := by
    rw [wrI_n Q60 (by decide), ob_s, show (setI rs 65 Q0 (kA cs 353 9 i)).1 18 = nI i from g.b.ri, nI_1]
  rw [cls, ref]
  have h1 := h.tok hi
  obtain ⟨c3, hc3⟩ : ∃ x, x = sI (sI (sR c2 130 (kK cs0) (some (kK cs))) 131 (kK cs0) (kA cs 353 9 i)) 328 t (nI (i + 1)) := ⟨_, rfl⟩
  obtain ⟨r3, hr3⟩ : ∃ x, x = setF (setI rs 65 Q0 (kA cs 353 9 i)) 18 (nI (i + 1)) := ⟨_, rfl⟩
  rw [← hc3] at h1 ⊢
  rw [← hr3] at h1 ⊢
  have nd := h1.b.jt.need (F := F) (x := 33) hF (by decide) (by decide)
  rw [show nI (swK 33) = 8 by decide] at nd
  rcases nd with ⟨w1, w2, w3⟩ | ⟨w2, w3⟩
  · have h2 := (h1.tok w1).mark (v := 0) (w := 0)
    obtain ⟨cs', rs', e1, e2, e3⟩ := ord_L (T' := T') hF F F 0 (i + 1 + 1) s _ _ (by omega) (by omega) (by omega) h2 kI_s rfl
    refine ⟨cs', rs', ?_, ?_, e3⟩
    · rw [w2, ob_s, pI_ok (h1.tok w1).b.h.o, ob_s]
      exact e1
    · rw [w3, ob_s]
      exact e2
  · have fd := h1.bad (a := 1) (v := kA c3 353 9 (i + 1)) (by decide)
    have foX : FO (PX t c (kK cs0)) c3 (sI (sI (sI c3 320 t 1) 321 t (kA c3 353 9 (i + 1))) 331 t 0) := ((FO.sI (Or.inl ⟨by decide, rfl⟩)).trans (FO.sI (Or.inl ⟨by decide, rfl⟩))).trans (FO.sI (Or.inl ⟨by decide, rfl⟩))
    have pbX : PB t c (sI (sI (sI c3 320 t 1) 321 t (kA c3 353 9 (i + 1))) 331 t 0) (setF (setF (setF (setF r3 21 0) 19 1) 20 (kA c3 353 9 (i + 1))) 72 0) := (fd.q.pb.ch (k := 331) (by decide)).rh (k := 72) (by decide)
    have fdX := h1.fd foX (Nat.le_refl _) pbX
    obtain ⟨cs', e1, e2⟩ := ord_Lf (F := F) (v := F - 2) hF fdX
    rw [show F - 2 + 2 = F by omega] at e1
    have l : m_queryOf_L246 F T' (F - 1 + 1) (setF (setF (setF (setF r3 21 0) 19 1) 20 (kA c3 353 9 (i + 1))) 72 0) (nI Q0) 1 = some (setF (setF (setF (setF r3 21 0) 19 1) 20 (kA c3 353 9 (i + 1))) 72 0, nI Q0) := by
      rw [m_queryOf_L246, if_neg (by decide), if_pos pbX.r.g]
      exact q376_f pbX.r
    rw [show F - 1 + 1 = F by omega] at l
    refine ⟨cs', _, ?_, ?_, Or.inr ⟨lf, e2⟩⟩
    · rw [w2, ob_s, pI_ok fd.q.ws.f.h.o, ob_s]
      exact e1
    · rw [w3, ob_s]
      exact l

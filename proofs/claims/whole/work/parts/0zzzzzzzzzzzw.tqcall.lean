/-! the call query -/
theorem AT.sym {a b : CS} {x i : Nat} (h : AT a b x i) : AT b a x i := ⟨h.i.symm, h.j.symm, h.r.symm, h.p.symm, h.a.symm, h.b.symm, h.q.symm, h.l.symm⟩
theorem KPN.any {c k : Nat} {a b : CS} {x y : RS} (h : KPN c k a x b y) (z : RS) : KPN c k a z b z := ⟨h.em, h.at', h.pl, h.a7, fun _ _ => rfl, fun _ _ _ _ => ⟨rfl, rfl, rfl⟩⟩
theorem KPN.sg {c k : Nat} {a b : CS} {x y : RS} {n9 : Int32} {a9 : Nat → Int32} (h : KPN c k a x b y) (z : RS) : KPN c k (sgX n9 a9 a) z b z := ⟨h.em, fun x j h1 h2 hx h3 => (sg_AT (by omega)).sym.trans (h.at' x j h1 h2 hx h3), h.pl, fun x j h1 h2 h3 => (sg_AT (by omega)).sym.trans (h.a7 x j h1 h2 h3), fun _ _ => rfl, fun _ _ _ _ => ⟨rfl, rfl, rfl⟩⟩
def c3F (cX : CS) (v : Int32) : CS := sI (sI (sI cX 385 0 0) 398 0 0) 388 0 v
theorem c3_at {cX : CS} {v : Int32} {x j : Nat} (h : ¬ (j = 0 ∧ q0F x)) : AT cX (c3F cX v) x j := by
  unfold q0F at h
  exact ((AT.sI (by omega)).trans (AT.sI (by omega))).trans (AT.sI (by omega))
theorem c3_385 {cX : CS} {v : Int32} : kI (c3F cX v) 385 0 = 0 := by
  have e : AT (sI cX 385 0 0) (c3F cX v) 385 0 := (AT.sI (by omega)).trans (AT.sI (by omega))
  rw [e.i]
  show u2 (kI cX) 385 0 0 385 0 = 0
  exact u2_s
theorem c3_398 {cX : CS} {v : Int32} : kI (c3F cX v) 398 0 = 0 := by
  have e : AT (sI (sI cX 385 0 0) 398 0 0) (c3F cX v) 398 0 := AT.sI (by omega)
  rw [e.i]
  show u2 (kI (sI cX 385 0 0)) 398 0 0 398 0 = 0
  exact u2_s
theorem c3_388 {cX : CS} {v : Int32} : kI (c3F cX v) 388 0 = v := by
  show u2 (kI (sI (sI cX 385 0 0) 398 0 0)) 388 0 v 388 0 = v
  exact u2_s
theorem b63_ok {F t : Nat} {cX : CS} (o : (12, 0) ∈ kE cX) (ot : (10, t) ∈ kE cX) : c_X11_query_b63 F cX 0 t = if kI cX 320 t = 0 then (Option.bind (pR (c3F cX (kI cX 320 t)) 12 389 0 (some t)) fun cs_19 => Option.bind (nwO cs_19 5 3) fun cs_20 => c_X11_query_b105 F cs_20 0 t (kK cs_19) 0) else some (c3F cX (kI cX 320 t), (-10) - kI cX 321 t) := by
  have e : kI (sI (sI cX 385 0 0) 398 0 0) 320 t = kI cX 320 t := ((AT.sI (cs := cX) (t := 385) (j := 0) (x := 320) (i := t) (v := 0) (by omega)).trans (AT.sI (by omega))).i
  have e2 : ∀ v x, x = 320 ∨ x = 321 → kI (c3F cX v) x t = kI cX x t := fun v x hx => (c3_at (by unfold q0F; omega)).i
  unfold c_X11_query_b63
  rw [pI_ok o, ob_s, pI_ok (cs := sI cX 385 0 0) o, ob_s, gI_ok (cs := sI (sI cX 385 0 0) 398 0 0) ot, ob_s, e, pI_ok (cs := sI (sI cX 385 0 0) 398 0 0) o, ob_s]
  show (Option.bind (gI (c3F cX (kI cX 320 t)) 10 320 t) fun v_17 => if v_17 = 0 then _ else (Option.bind (gI (c3F cX (kI cX 320 t)) 10 321 t) fun v_21 => some (c3F cX (kI cX 320 t), (-10) - v_21))) = _
  rw [gI_ok (cs := c3F cX (kI cX 320 t)) ot, ob_s, e2 _ 320 (by omega), gI_ok (cs := c3F cX (kI cX 320 t)) ot, ob_s, e2 _ 321 (by omega)]
  rfl
def qrA (q : Nat) : Prop := q = 1 ∨ q = 2 ∨ q = 3 ∨ q = 110 ∨ (14 ≤ q ∧ q ≤ 80)
theorem query_ok {F i : Nat} {cs : CS} {rs : RS} (hF : 10000 ≤ F) (hFF : F < 1000000) (h : SIM F i cs rs) : ∃ cs' rs' v, c_X11_query F cs 0 = some (cs', v) ∧ m_query F rs = some (rs', v) ∧ SIM F (i + 3) cs' rs' := by
  obtain ⟨n, tp⟩ := h.tp
  obtain ⟨nst, st, s5, -⟩ := h.st
  have n2 := tp.le
  obtain ⟨rsA, eA, fA, cA⟩ := copy_10 (F := F) n2 n 0 F (setF rs 3 (rs.1 1)) (by omega) (by omega) (Nat.zero_le _) tp.ri tp.bt (fun j hj => absurd hj (Nat.not_lt_zero _))
  obtain ⟨rsB, hB⟩ : ∃ z, z = setF (setF rsA 1 0) 110 0 := ⟨_, rfl⟩
  have fB : FR qrA rs rsB := by
    rw [hB]
    exact ((FR.setF (by unfold qrA; omega)).trans (fA.mono (fun k hk => by unfold cp2 at hk; unfold qrA; omega))).trans ((FR.setF (by unfold qrA; omega)).trans (FR.setF (by unfold qrA; omega)))
  have rB3 : rsB.1 3 = nI n := by
    have e1 : rsB.1 3 = rsA.1 3 := by
      rw [hB]
      rfl
    have e2 : rsA.1 3 = (setF rs 3 (rs.1 1)).1 3 := fA.f (by unfold cp2; omega)
    rw [e1, e2]
    exact (sF_s).trans tp.ri
  have rB2 : ∀ j, j < n → rsB.2.2.1 2 j = rs.2.2.1 0 j := fun j hj => by
    have e1 : rsB.2.2.1 2 = rsA.2.2.1 2 := by rw [hB]; rfl
    rw [e1]
    exact cA j hj
  have rB110 : rsB.1 110 = 0 := by rw [hB]; exact sF_s
  have rB1 : rsB.1 1 = 0 := by rw [hB]; rfl
  obtain ⟨cX, rsX, e1, e2, gX, k1, m1, oX, fX, nbX, dX, cases'⟩ := take_both hF hFF h tp st rB2 rB3 (fB.f (by unfold qrA; omega)) (fB.a (by unfold qrA; omega))
  have fX' : FR qrA rs rsX := fB.trans (fX.mono (fun k hk => by unfold tkA at hk; unfold qrA; omega))
  obtain ⟨rsY, hY⟩ : ∃ z, z = setF rsX 82 (rsX.1 19) := ⟨_, rfl⟩
  have y82 : rsY.1 82 = rsX.1 19 := by rw [hY]; exact sF_s
  have yn : ∀ q, q ≠ 82 → rsY.1 q = rsX.1 q := fun q hq => by rw [hY]; exact pk_un hq
  have ya : rsY.2 = rsX.2 := by rw [hY]; rfl
  have fY : FR (fun q => qrA q ∨ q = 82) rs rsY := by
    rw [hY]
    exact (fX'.mono (fun k hk => Or.inl hk)).trans (FR.setF (Or.inr rfl))
  have x1 : rsX.1 1 = 0 := (fX.f (by unfold tkA; omega)).trans rB1
  have x110 : rsX.1 110 = 0 := (fX.f (by unfold tkA; omega)).trans rB110
  obtain ⟨c3, hc3⟩ : ∃ z, z = c3F cX (kI cX 320 (kK cs)) := ⟨_, rfl⟩
  have a3 : ∀ x j, ¬ (j = 0 ∧ q0F x) → AT cX c3 x j := fun x j hx => by rw [hc3]; exact c3_at hx
  have e3 : kE c3 = kE cX := by rw [hc3]; rfl
  have kk3 : kK c3 = kK cX := by rw [hc3]; rfl
  have km3 : kM c3 = kM cX := by rw [hc3]; rfl
  have em3 : EM cX c3 := fun p hp => by rw [e3]; exact hp
  have g3 : GRW cs c3 := gX.step h.k0 em3 (fun x j _ _ hq => a3 x j hq) (by omega)
  have o12 : (12, 0) ∈ kE cX := gX.b.o
  have d3 : DFC c3 := by
    rw [hc3]
    exact DG.pI (pI_ok (X := 12) (cs := sI (sI cX 385 0 0) 398 0 0) o12) (DG.pI (pI_ok (X := 12) (cs := sI cX 385 0 0) o12) (DG.pI (pI_ok (X := 12) o12) dX))
  have hS : SIM F (i + 2) c3 (rsI rs (kI cX 320 (kK cs))) := sim_grown h g3 d3 (by omega) (by omega) (by rw [hc3]; exact c3_385) (by rw [hc3]; exact c3_398) (by rw [hc3]; exact c3_388) (fun w => nbX (by rw [← e3]; exact w))
  have b63 := b63_ok (F := F) o12 oX
  rw [← hc3] at b63
  have qi : ∀ q, q ≠ 1 ∧ q ≠ 110 ∧ q ≠ 82 → (rsI rs (kI cX 320 (kK cs))).1 q = rs.1 q := fun q hq => (pk_un hq.2.2).trans ((pk_un hq.2.1).trans (pk_un hq.1))
  have hm : m_query F rs = tl10 F rsA := eA
  rcases cases' with ⟨s1, s2, s3, s4⟩ | ⟨s1, s2, s3, gd⟩
  · -- a fault
    rw [if_neg s1] at b63
    have m1' : m_query F rs = if rsY.1 81 = 0 then (m_query_b117 F rsY (rsY.1 20)) else (m_query_L87 F F (setF rsY 3 (rsY.1 84)) (rsY.1 20) 0) := by
      rw [hm]
      unfold tl10
      rw [← hB, e2, ob_s, ← hY, if_pos (by rw [yn 21 (by omega)]; exact s2)]
    obtain ⟨n3, st3, s53, tx3⟩ := hS.st
    have y20 : rsY.1 20 = kI cX 321 (kK cs) := (yn 20 (by omega)).trans s4
    rcases tx3 with q | ⟨n', ff, M, t, cap, s, lf, S', Q, oq, ss, r, il, w, V, D, cg, cS, c0, cR, c4, c5, csH, rsH, od, S0, RR, Sr, C, CH, q⟩
    · have r81 : rs.1 81 = 0 := (qi 81 (by omega)).symm.trans q.h81
      have y81 : rsY.1 81 = 0 := (fY.f (by unfold qrA; omega)).trans r81
      refine ⟨c3, rsY, (-10) - kI cX 321 (kK cs), by rw [e1, b63], ?_, SIM.up (hS.ref (nst := n3) (fun k hk => ?_) ?_ ⟨0, by rw [hc3]; exact c3_385, by rw [yn 1 (by omega)]; exact x1, by omega, fun k hk => absurd hk (Nat.not_lt_zero _), fun k hk => absurd hk (Nat.not_lt_zero _)⟩ ?_ st3 s53 (Or.inl ⟨q.s9, q.s0, y81, q.c5, q.cc, by rw [yn 110 (by omega)]; exact x110⟩))⟩
      · rw [m1', if_pos y81, y20]
        rfl
      · obtain ⟨p1, p2, p3⟩ := fY.2 k (by unfold qrA; omega)
        exact ⟨p1.trans (qi k (by omega)).symm, p2, p3⟩
      · exact fY.1.resolve_left (by unfold qrA; omega)
      · rw [y82, s3]
        rfl
    · have y81 : rsY.1 81 = 1 := (fY.f (by unfold qrA; omega)).trans ((qi 81 (by omega)).symm.trans q.h81)
      have g84 : rs.1 84 = nI n' := (qi 84 (by omega)).symm.trans q.gt.1
      have g83 : ∀ j, j < n' → rs.2.2.1 83 j = ff j := q.gt.2
      have y84 : rsY.1 84 = nI n' := (fY.f (by unfold qrA; omega)).trans g84
      have y83 : rsY.2.2.1 83 = rs.2.2.1 83 := fY.a (by unfold qrA; omega)
      obtain ⟨rsZ, hZ⟩ : ∃ z, z = setF rsY 3 (rsY.1 84) := ⟨_, rfl⟩
      have zn : ∀ k, k ≠ 3 → rsZ.1 k = rsY.1 k := fun k hk => by rw [hZ]; exact pk_un hk
      have fZ : FR (fun k => qrA k ∨ k = 82) rs rsZ := by
        rw [hZ]
        exact fY.trans (FR.setF (Or.inl (by unfold qrA; omega)))
      have z83 : rsZ.2.2.1 83 = rs.2.2.1 83 := fZ.a (by unfold qrA; omega)
      have nn := q.gc.n2
      obtain ⟨rsW, eW, fW, cW'⟩ := copy_87 (F := F) (n := n') (v := rsY.1 20) nn n' 0 F rsZ (by omega) (by omega) (Nat.zero_le _) ((zn 84 (by omega)).trans y84) (fun j hj => by rw [z83, g83 j hj]; exact q.gc.zb j hj) (fun j hj => absurd hj (Nat.not_lt_zero _))
      have fW' : FR (fun k => qrA k ∨ k = 82) rs rsW := fZ.trans (fW.mono (fun k hk => by unfold cp2 at hk; exact Or.inl (by unfold qrA; omega)))
      have w3 : rsW.1 3 = nI n' := (fW.f (by unfold cp2; omega)).trans (by rw [hZ]; exact sF_s.trans y84)
      have stW : ST n3 c3 rsW := st3.mv (fun _ _ _ => AT.refl) (fW'.1.resolve_left (by unfold qrA; omega)) (fun k k1 k2 => by
        obtain ⟨p1, p2, p3⟩ := fW'.2 k (by unfold qrA; omega)
        exact ⟨p1.trans (qi k (by omega)).symm, p2, p3⟩)
      obtain ⟨o1, o2, o3, o4, o5, o6⟩ := q.tx.od
      obtain ⟨rs9, M9, cap9, s9, lf9, S9, Q9, V9, D9, u1, u2', u3, u4, u5, u6⟩ := retake (ar := 15) hF hFF q.gc (fun j hj => by rw [cW' j hj, z83]; exact g83 j hj) w3 hS.b stW q.sx.1 q.sx.2 (by omega)
      have f9 : FR (fun k => qrA k ∨ k = 82) rs rs9 := fW'.trans (u2'.mono (fun k hk => by unfold tkA at hk; exact Or.inl (by unfold qrA; omega)))
      have r9 : ∀ k, ¬ (qrA k ∨ k = 82) → rs9.1 k = (rsI rs (kI cX 320 (kK cs))).1 k ∧ rs9.2.2.1 k = (rsI rs (kI cX 320 (kK cs))).2.2.1 k ∧ rs9.2.2.2 k = (rsI rs (kI cX 320 (kK cs))).2.2.2 k := fun k hk => by
        obtain ⟨p1, p2, p3⟩ := f9.2 k hk
        exact ⟨p1.trans (qi k (by unfold qrA at hk; omega)).symm, p2, p3⟩
      have n9 : ∀ k, k = 1 ∨ k = 110 ∨ k = 82 → rs9.1 k = rsY.1 k := fun k hk => (u2'.f (by unfold tkA; omega)).trans ((fW.f (by unfold cp2; omega)).trans (zn k (by omega)))
      have z110 : rs9.1 110 = 0 := (n9 110 (by omega)).trans ((yn 110 (by omega)).trans x110)
      obtain ⟨M8, cc, cl, cu⟩ := q.al.cc
      have al : ARL w 20 25 30 od S0 RR Sr [] [] c3 rs9 := q.al.go (fun _ _ _ => AT.refl) (fun k k1 k2 => r9 k (by unfold qrA; omega)) ⟨M8, cc.mv EM.refl AT.refl AT.refl (by rw [hc3]; exact c3_398) (Or.inr rfl), Nat.zero_le _, cu⟩ (q.al.ch.mv z110 (r9 111 (by unfold qrA; omega)).2.1 (r9 113 (by unfold qrA; omega)).2.1 (r9 112 (by unfold qrA; omega)).2.2 (Or.inr rfl)) CHM.nil
      refine ⟨c3, rs9, (-10) - kI cX 321 (kK cs), by rw [e1, b63], ?_, SIM.up (hS.ref (nst := n3) (fun k hk => r9 k (by unfold qrA; omega)) (f9.1.resolve_left (by unfold qrA; omega)) ⟨0, by rw [hc3]; exact c3_385, by rw [n9 1 (by omega), yn 1 (by omega)]; exact x1, by omega, fun k hk => absurd hk (Nat.not_lt_zero _), fun k hk => absurd hk (Nat.not_lt_zero _)⟩ ?_ st3 s53 (Or.inr ⟨n', ff, M9, t, cap9, s9, lf9, S9, Q9, oq, ss, r, il, w, V9, D9, cg, cS, c0, cR, c4, c5, _, rs9, od, S0, RR, Sr, [], [], u5, q.gk.sg rs9, q.gc, q.gk.any rs9, q.kc, ⟨by rw [(r9 84 (by unfold qrA; omega)).1]; exact q.gt.1, fun j hj => by rw [(r9 83 (by unfold qrA; omega)).2.1]; exact q.gt.2 j hj⟩, q.an, q.rn, q.r6, al, q.oi, by rw [(r9 81 (by unfold qrA; omega)).1]; exact q.h81, q.sx, q.nb, u6⟩))⟩
      · rw [m1', if_neg (by rw [y81]; decide), ← hZ, show (0 : Int32) = nI 0 from rfl, eW, u1, ob_s, y20]
        rfl
      · rw [n9 82 (by omega), y82, s3]
        rfl
  · -- a good text
    rw [if_pos s1] at b63
    obtain ⟨M, cap, s, lf, S, Q, oq, V, D, cS, c0, cR, c4, gc, tx, kcR, cvX⟩ := gd
    obtain ⟨o1, o2, o3, o4, o5, o6⟩ := tx.od
    obtain ⟨n3, st3, s53, tx3⟩ := hS.st
    have en : n3 = nst := by
      have z1 := st3.le
      have z2 := st.le
      exact (nI_eq (by omega) (by omega)).mp (st3.ri.symm.trans ((qi 4 (by omega)).trans st.ri))
    rw [en] at st3 s53
    obtain ⟨e, it, mi, f1, ⟨f2, f3⟩, e60, f4, f5, f6, -⟩ := tx.fi
    obtain ⟨r, hr⟩ : ∃ z, z = kK c3 := ⟨_, rfl⟩
    obtain ⟨c6, hc6⟩ : ∃ z, z = nO (sR c3 389 0 (some (kK cs))) 5 3 := ⟨_, rfl⟩
    obtain ⟨c7, hc7⟩ : ∃ z, z = sR (sR (sR (sR c6 160 r (some 2)) 161 r (some (kK cs + 1))) 162 r (some 15)) 390 0 (some r) := ⟨_, rfl⟩
    have a6 : ∀ x j, ¬ (j = 0 ∧ x = 389) → ¬ (x / 32 = 5 ∧ j = r) → AT c3 c6 x j := fun x j h1 h2 => by
      rw [hc6]
      exact (AT.sR (by omega)).trans (nO_AT (fun w => h2 ⟨w.1, w.2.trans hr.symm⟩))
    have a67 : ∀ x j, ¬ (j = 0 ∧ x = 390) → ¬ (x / 32 = 5 ∧ j = r) → AT c6 c7 x j := fun x j h1 h2 => by
      rw [hc7]
      exact (((AT.sR (by omega)).trans (AT.sR (by omega))).trans (AT.sR (by omega))).trans (AT.sR (by omega))
    have a7 : ∀ x j, ¬ (j = 0 ∧ (x = 389 ∨ x = 390)) → ¬ (x / 32 = 5 ∧ j = r) → AT c3 c7 x j := fun x j h1 h2 => (a6 x j (by omega) h2).trans (a67 x j (by omega) h2)
    have e6 : kE c6 = kE c3 ++ [(5, r)] := by rw [hc6, hr]; rfl
    have e7 : kE c7 = kE c3 ++ [(5, r)] := by rw [hc7]; exact e6
    have kk7 : kK c7 = kK c3 + 1 := by rw [hc7, hc6]; rfl
    have km7 : kM c7 = kM c3 + 3 := by rw [hc7, hc6]; rfl
    have em6 : EM c3 c6 := fun p hp => by rw [e6]; exact List.mem_append.mpr (Or.inl hp)
    have em7 : EM c3 c7 := fun p hp => by rw [e7]; exact List.mem_append.mpr (Or.inl hp)
    have r6' : (5, r) ∈ kE c6 := by rw [e6]; exact List.mem_append.mpr (Or.inr (List.mem_singleton.mpr rfl))
    have r7 : (5, r) ∈ kE c7 := by rw [e7]; exact List.mem_append.mpr (Or.inr (List.mem_singleton.mpr rfl))
    have bs7 : Bas c7 := hS.b.mv em7 (fun x hx => (a7 x 0 (by omega) (by omega)).r) (fun x j hx => by
      have w := a7 x j (by unfold PLB at hx; omega) (by unfold PLB at hx; omega)
      exact ⟨w.p, w.l⟩)
    have t3 : ∀ x, 320 ≤ x → x < 352 → AT cX c3 x (kK cs) := fun x h1 h2 => a3 x _ (by omega)
    have tr : ¬ (kK cs = r) := by omega
    have hd7 : c_X11_query F cs 0 = Option.bind (c_X11_answer F c7 0 0) fun cs_11 => c_X11_query_b129 F cs_11 0 := by
      rw [e1, b63, pR_ok hS.b.o, ob_s, show nwO (sR c3 389 0 (some (kK cs))) 5 3 = some c6 from (by rw [hc6]; exact if_pos d3.1), ob_s, show kK (sR c3 389 0 (some (kK cs))) = r from hr.symm]
      unfold c_X11_query_b105
      rw [gR_ok (em6 _ hS.b.o), ob_s, gR_ok (em6 _ (em3 _ oX)), ob_s, gR_ok (em6 _ hS.b.o), ob_s, (a6 391 0 (by omega) (by omega)).r, hS.s1, ob_s, (a6 322 (kK cs) (by omega) (by omega)).r, (t3 322 (by omega) (by omega)).r, tx.r322, ob_s, (a6 386 0 (by omega) (by omega)).r, hS.b.rS, ob_s]
      unfold c_X4_init
      rw [pR_ok r6', ob_s, pR_ok (cs := sR c6 160 r (some 2)) r6', ob_s, pR_ok (cs := sR (sR c6 160 r (some 2)) 161 r (some (kK cs + 1))) r6', ob_s, ob_s, pR_ok (cs := sR (sR (sR c6 160 r (some 2)) 161 r (some (kK cs + 1))) 162 r (some 15)) (em6 _ hS.b.o), ob_s, ← hc7, ckE_ok bs7.o, ob_s]
    obtain ⟨rsV, hV⟩ : ∃ z, z = setF (setF rsY 81 1) 84 ((setF rsY 81 1).1 3) := ⟨_, rfl⟩
    have m1' : m_query F rs = m_query_L137 F F rsV 0 := by
      rw [hm]
      unfold tl10
      rw [← hB, e2, ob_s, ← hY, if_neg (by rw [yn 21 (by omega), s2]; decide), ← hV]
    have v3 : rsV.1 3 = nI n := by
      have z : rsV.1 3 = rsY.1 3 := by rw [hV]; rfl
      rw [z, yn 3 (by omega), fX.f (by unfold tkA; omega)]
      exact rB3
    have v84 : rsV.1 84 = nI n := by
      have z : rsV.1 84 = rsY.1 3 := by rw [hV]; rfl
      rw [z, yn 3 (by omega), fX.f (by unfold tkA; omega)]
      exact rB3
    have v81 : rsV.1 81 = 1 := by rw [hV]; rfl
    have v2 : rsV.2.2.1 2 = rsB.2.2.1 2 := by
      have z : rsV.2.2.1 2 = rsY.2.2.1 2 := by rw [hV]; rfl
      rw [z, ya]
      exact fX.a (by unfold tkA; omega)
    obtain ⟨rsG, eG, fG, cG⟩ := copy_137 (F := F) n2 n 0 F rsV (by omega) (by omega) (Nat.zero_le _) v3 (fun j hj => by rw [v2, rB2 j hj]; exact tp.bt j hj) (fun j hj => absurd hj (Nat.not_lt_zero _))
    have fGX : FR (fun q => 81 ≤ q ∧ q ≤ 84) rsX rsG := by
      have z1 : FR (fun q => 81 ≤ q ∧ q ≤ 84) rsX rsV := by
        rw [hV, hY]
        exact (FR.setF ⟨by omega, by omega⟩).trans ((FR.setF ⟨by omega, by omega⟩).trans (FR.setF ⟨by omega, by omega⟩))
      exact z1.trans (fG.mono (fun k hk => by unfold cp83 at hk; omega))
    have fGr : FR (fun q => qrA q ∨ (81 ≤ q ∧ q ≤ 84)) rs rsG := (fX'.mono (fun k hk => Or.inl hk)).trans (fGX.mono (fun k hk => Or.inr hk))
    have r0 : ∀ q, (4 ≤ q ∧ q ≤ 13) ∨ (85 ≤ q ∧ q ≤ 109) → rsG.1 q = (rsI rs (kI cX 320 (kK cs))).1 q ∧ rsG.2.2.1 q = (rsI rs (kI cX 320 (kK cs))).2.2.1 q ∧ rsG.2.2.2 q = (rsI rs (kI cX 320 (kK cs))).2.2.2 q := fun q hq => by
      obtain ⟨p1, p2, p3⟩ := fGr.2 q (by unfold qrA; omega)
      exact ⟨p1.trans (qi q (by omega)).symm, p2, p3⟩
    have wmG : rsG.2.1 = rs.2.1 := fGr.1.resolve_left (by unfold qrA; omega)
    have kp : KPN (kK cs + 1) (kK cR) cX rsX c7 rsG := by
      refine ⟨em3.trans em7, fun x j h1 h2 hx _ => (a3 x j (by omega)).trans (a7 x j (by omega) (by omega)), fun x j hx h1 h2 => ?_, fun x j h1 h2 h3 => (a3 x j (by unfold q0F; omega)).trans (a7 x j (by omega) (by omega)), fun d _ => by rw [fGX.a (by omega)], fun q h1 h2 h3 => fGX.2 q (by omega)⟩
      have w := (a3 x j (by omega)).trans (a7 x j (by omega) (by omega))
      exact ⟨w.p, w.l⟩
    obtain ⟨w0, wq⟩ : S ≤ S ∧ QRY (QR XJ n (rs.2.2.1 0) M (kK cs + 1) s S Q cX rsX 12) XJ n (rs.2.2.1 0) M (kK cs + 1) s 0 S 0 Q (kK cs + 30) (kK cR) oq 0 cX rsX := tx.qr
    obtain ⟨d1, d2⟩ := wq.od
    have aq : ∀ x, 96 ≤ x → x < 160 → AT cX c7 x oq := fun x h1 h2 => (a3 x oq (by omega)).trans (a7 x oq (by omega) (by omega))
    have ai : ∀ x, 96 ≤ x → x < 160 → AT cX c7 x it := fun x h1 h2 => (a3 x it (by omega)).trans (a7 x it (by omega) (by omega))
    have k389 : kR c7 389 0 = some (kK cs) := by
      have z : AT (sR c3 389 0 (some (kK cs))) c7 389 0 := (show AT (sR c3 389 0 (some (kK cs))) c6 389 0 from by rw [hc6]; exact nO_AT (by omega)).trans (a67 389 0 (by omega) (by omega))
      rw [z.r]
      show u2 (kR c3) 389 0 (some (kK cs)) 389 0 = _
      exact u2_s
    have k390 : kR c7 390 0 = some r := by
      rw [hc7]
      show u2 (kR (sR (sR (sR c6 160 r (some 2)) 161 r (some (kK cs + 1))) 162 r (some 15))) 390 0 (some r) 390 0 = _
      exact u2_s
    have k162 : kR c7 162 r = some 15 := by
      have z : AT (sR (sR (sR c6 160 r (some 2)) 161 r (some (kK cs + 1))) 162 r (some 15)) c7 162 r := by rw [hc7]; exact AT.sR (by omega)
      rw [z.r]
      show u2 _ 162 r (some 15) 162 r = _
      exact u2_s
    have k161 : kR c7 161 r = some (kK cs + 1) := by
      have z : AT (sR (sR c6 160 r (some 2)) 161 r (some (kK cs + 1))) c7 161 r := by rw [hc7]; exact (AT.sR (by omega)).trans (AT.sR (by omega))
      rw [z.r]
      show u2 _ 161 r (some (kK cs + 1)) 161 r = _
      exact u2_s
    have k160 : kR c7 160 r = some 2 := by
      have z : AT (sR c6 160 r (some 2)) c7 160 r := by rw [hc7]; exact ((AT.sR (by omega)).trans (AT.sR (by omega))).trans (AT.sR (by omega))
      rw [z.r]
      show u2 _ 160 r (some 2) 160 r = _
      exact u2_s
    have A : ∀ x, 391 ≤ x → x ≤ 398 → AT c3 c7 x 0 := fun x h1 h2 => a7 x 0 (by omega) (by omega)
    have an : ANX (kK cs) r oq it mi 15 20 25 30 c7 := ⟨bs7.o, k389, k390, by rw [(A 391 (by omega) (by omega)).r]; exact hS.s1, by rw [(A 392 (by omega) (by omega)).r]; exact hS.s2, by rw [(A 393 (by omega) (by omega)).r]; exact hS.s3, by rw [(A 394 (by omega) (by omega)).r]; exact hS.s4, r7, em7 _ (em3 _ oX), by rw [(a7 323 (kK cs) (by omega) (by omega)).r, (t3 323 (by omega) (by omega)).r]; exact tx.r323, em7 _ (em3 _ wq.e4), by rw [(aq 129 (by omega) (by omega)).r]; exact f1, f6.keep (em3.trans em7) (fun x h1 h2 => ai x (by omega) (by omega))⟩
    have rn : RUN r (kK cs + 1) 15 c7 := ⟨r7, em7 _ (em3 _ tx.oc), k161, k162⟩
    have sts : ∀ ar B, ar < 38 → STS ar B c3 → STS ar B c7 := fun ar B h1 w => w.at' em7 (a7 288 ar (by omega) (by omega)) (a7 289 ar (by omega) (by omega)) (a7 290 ar (by omega) (by omega)) (a7 291 ar (by omega) (by omega))
    have c398 : kI c3 398 0 = 0 := by rw [hc3]; exact c3_398
    have cc3 : CCS 0 [] c3 := by
      rcases tx3 with q | ⟨n', ff, M', t', cap', s', lf', S', Q', oq', ss, r', il, w, V', D', cg, cS', c0', cR', c4', c5, csH, rsH, od, S0, RR, Sr, C, CH, q⟩
      · exact q.cc
      · obtain ⟨M9, cc, -, -⟩ := q.al.cc
        exact cc.z c398
    have cc7 : CCS 0 [] c7 := cc3.at' em7 (A 396 (by omega) (by omega)) (A 397 (by omega) (by omega)) (A 398 (by omega) (by omega))
    have l6 := (A 396 (by omega) (by omega)).l
    have l7 := (A 397 (by omega) (by omega)).l
    have st7 : ST nst c7 rsG := st3.mv (fun x h1 h2 => a7 x 2 (by omega) (by omega)) wmG (fun q h1 h2 => r0 q (by omega))
    obtain ⟨so, no, p1, p2, p3, p4⟩ := hS.x1
    have g81 : rsG.1 81 = 1 := (fG.f (by unfold cp83; omega)).trans v81
    obtain ⟨c9, rs9, od, R, C, CH, e9, e9', al, oi, chn, gf, t1, t2, t3', t4, rm, rn9, z86, z97⟩ := ans_now (tb := false) (S' := []) tx kp bs7 st7 (fun d h1 h2 => by rw [(r0 5 (by omega)).2.1]; exact s53 d h1 h2) (fun j => by rw [(r0 9 (by omega)).2.1]; exact hS.f9 j) (fun j => by rw [(r0 86 (by omega)).2.1]; exact hS.fb j) (by rw [(r0 97 (by omega)).1]; exact hS.z97) (by rw [g81]; decide) an rn k160 (by decide) (by decide) (sts _ _ (by omega) hS.b1) (sts _ _ (by omega) hS.b2) (sts _ _ (by omega) hS.b3) (sts _ _ (by omega) hS.b4) cc7 (by rw [l6, l7]; exact hS.le) (by rw [l6]; exact hS.l8) (by rw [l6]; exact hS.lu) (RWS.nil (Nat.zero_le _)) (fun w => absurd w (by decide)) (Nat.zero_le _) List.Pairwise.nil (fun L hL => absurd hL (List.not_mem_nil)) (by rw [(r0 104 (by omega)).1]; exact p1) (by rw [(r0 101 (by omega)).1]; exact p2) p3 (fun j hj => by rw [(r0 106 (by omega)).2.1]; exact p4 j hj) (fun w => absurd w (by decide)) (fun _ => rfl)
    rw [if_neg (by decide)] at e9 e9'
    have pl : PLR c7 c9 := pl_c_X11_answer F c7 0 0 c9 e9
    have nb : NB c7 c9 := nb_c_X11_answer F c7 0 0 c9 e9
    have kk : kK c7 ≤ kK c9 := (mo_c_X11_answer F c7 0 0 c9 e9).1
    have d7 : DFC c7 := by
      have z1 : DFC c6 := by
        have nwz : nwO (sR c3 389 0 (some (kK cs))) 5 3 = some c6 := by rw [hc6]; exact if_pos d3.1
        exact DG.nwO nwz (DG.pR (pR_ok (X := 12) hS.b.o) d3)
      rw [hc7]
      exact DG.pR (pR_ok (X := 12) (cs := sR (sR (sR c6 160 r (some 2)) 161 r (some (kK cs + 1))) 162 r (some 15)) (em6 _ hS.b.o)) (DG.pR (pR_ok (X := 5) (cs := sR (sR c6 160 r (some 2)) 161 r (some (kK cs + 1))) r6') (DG.pR (pR_ok (X := 5) (cs := sR c6 160 r (some 2)) r6') (DG.pR (pR_ok (X := 5) r6') z1)))
    have df := dg_c_X11_answer F c7 0 0 c9 e9 d7
    have kp9 : KPN (kK cs + 1) (kK cR) c7 rsG c9 rs9 := KPN.gf gf pl rn9
    have at' : ∀ x j, ¬ (288 ≤ x ∧ x ≤ 291) → ¬ (74 ≤ x ∧ x ≤ 76) → ¬ (395 ≤ x ∧ x ≤ 398) → AT c7 c9 x j := gf.2
    have a0 : ∀ x j, j < 38 → (224 ≤ x ∧ x ≤ 287) ∨ (320 ≤ x ∧ x ≤ 388) ∨ (391 ≤ x ∧ x ≤ 394) → AT c3 c9 x j := fun x j hj hx => (a7 x j (by omega) (by omega)).trans (gf.2 x j (by omega) (by omega) (by omega))
    have r9 : ∀ q, q < 85 → rs9.1 q = rsG.1 q ∧ rs9.2.2.1 q = rsG.2.2.1 q ∧ rs9.2.2.2 q = rsG.2.2.2 q := fun q hq => rn9.2 q (by omega)
    have r93 : ∀ q, 4 ≤ q → q ≤ 13 → rs9.1 q = (rsI rs (kI cX 320 (kK cs))).1 q ∧ rs9.2.2.1 q = (rsI rs (kI cX 320 (kK cs))).2.2.1 q ∧ rs9.2.2.2 q = (rsI rs (kI cX 320 (kK cs))).2.2.2 q := fun q h1 h2 => ⟨(r9 q (by omega)).1.trans (r0 q (by omega)).1, (r9 q (by omega)).2.1.trans (r0 q (by omega)).2.1, (r9 q (by omega)).2.2.trans (r0 q (by omega)).2.2⟩
    obtain ⟨nd, dr⟩ := hS.dr
    have rm1 := rm.1
    have rm2 := rm.2
    have h1 := hS.rm
    have h2 := hS.rk
    have lpl : ∀ x ar, (x = 288 ∨ x = 290) → ar < 38 → kL c7 x ar = kL c3 x ar := fun x ar hx har => (a7 x ar (by omega) (by omega)).l
    have pa : PTA 15 20 25 30 c7 = PTA 15 20 25 30 c3 := by
      unfold PTA
      rw [lpl 288 15 (by omega) (by omega), lpl 290 15 (by omega) (by omega), lpl 288 20 (by omega) (by omega), lpl 290 20 (by omega) (by omega), lpl 288 25 (by omega) (by omega), lpl 290 25 (by omega) (by omega), lpl 288 30 (by omega) (by omega), lpl 290 30 (by omega) (by omega), l6]
    have pk : PTK 15 20 25 30 c7 = PTK 15 20 25 30 c3 := by
      unfold PTK
      rw [lpl 288 15 (by omega) (by omega), lpl 290 15 (by omega) (by omega), lpl 288 20 (by omega) (by omega), lpl 290 20 (by omega) (by omega), lpl 288 25 (by omega) (by omega), lpl 290 25 (by omega) (by omega), lpl 288 30 (by omega) (by omega), lpl 290 30 (by omega) (by omega), l6]
    have w8 := al.w8
    have sw2 : (srtK kO R).length * mi ≤ 512 * 8 := mul_up al.l6 w8
    have k3 := hS.k0
    have g1' : rsG.1 1 = 0 := (fGX.f (by omega)).trans x1
    have g82 : rsG.1 82 = 0 := by
      have z : rsV.1 82 = rsY.1 82 := by rw [hV]; rfl
      rw [fG.f (by unfold cp83; omega), z, y82]
      exact s3
    have c7em : EM c7 c9 := gf.1
    have nb9 : (387, 9) ∉ kE c9 := fun w => by
      have z := nb w
      rw [e7] at z
      rcases List.mem_append.mp z with z | z
      · rw [e3] at z
        exact nbX z
      · exact absurd (Prod.mk.inj (List.mem_singleton.mp z)).1 (by decide)
    refine ⟨c9, rs9, nI mi, ?_, ?_, ⟨bs7.gf gf pl, df, by omega, fun j hj => by rw [(a0 358 9 (by omega) (by omega)).b]; exact hS.wd j hj, ⟨0, by rw [(a0 385 0 (by omega) (by omega)).i, hc3]; exact c3_385, by rw [(r9 1 (by omega)).1]; exact g1', by omega, fun k hk => absurd hk (Nat.not_lt_zero _), fun k hk => absurd hk (Nat.not_lt_zero _)⟩, ⟨nd, dr.mv (fun x x1 x2 => a0 x 2 (by omega) (by omega)) (fun q q1 q2 => r93 q (by omega) (by omega))⟩, fun j => by rw [(r93 9 (by omega) (by omega)).2.1]; exact hS.f9 j, z86, z97, by rw [(a0 388 0 (by omega) (by omega)).i, (r9 82 (by omega)).1, g82, hc3]; exact c3_388.trans s1, by rw [(a0 391 0 (by omega) (by omega)).r]; exact hS.s1, by rw [(a0 392 0 (by omega) (by omega)).r]; exact hS.s2, by rw [(a0 393 0 (by omega) (by omega)).r]; exact hS.s3, by rw [(a0 394 0 (by omega) (by omega)).r]; exact hS.s4, t1, t2, t3', t4, al.le, al.l8, al.lu, by omega, by omega, hS.ca.pn (fun y hy => c7em _ (em7 _ hy)) (fun x hx => ?_), ⟨_, mi, al.x4, al.x1, by omega, fun j hj => al.ws.bit hj⟩, nst, st3.mv (fun x x1 x2 => a0 x 2 (by omega) (by omega)) (rn9.1.trans wmG) (fun q q1 q2 => r93 q (by omega) (by omega)), fun d d1 d2 => by rw [(r93 5 (by omega) (by omega)).2.1]; exact s53 d d1 d2, Or.inr ⟨n, rs.2.2.1 0, M, kK cs, cap, s, lf, S, Q, oq, nst, r, it, mi, V, D, cs, cS, c0, cR, c4, cX, cX, rsX, od, [], R, _, C, CH, tx, kp.trans kp9, gc, (kp.trans kp9).one, by omega, ⟨by rw [(r9 84 (by omega)).1, fG.f (by unfold cp83; omega)]; exact v84, fun j hj => by rw [(r9 83 (by omega)).2.1, cG j hj, v2]; exact rB2 j hj⟩, an.gf gf, ⟨c7em _ rn.o, c7em _ rn.oc, by rw [(at' 161 r (by omega) (by omega) (by omega)).r]; exact rn.cd, by rw [(at' 162 r (by omega) (by omega) (by omega)).r]; exact rn.sp⟩, by rw [(at' 160 r (by omega) (by omega) (by omega)).r]; exact k160, al, by rw [(at' 130 oq (by omega) (by omega) (by omega)).r]; exact oi, by rw [(r9 81 (by omega)).1]; exact g81, ⟨Nat.le_refl _, fun d hd => ?_⟩, nb9, cvX⟩⟩⟩
    · rw [hd7, e9, ob_s]
      unfold c_X11_query_b129
      rw [ckE_ok (c7em _ bs7.o), ob_s, (an.gf gf).wd, ob_s]
    · rw [m1', show (0 : Int32) = nI 0 from rfl, eG]
      unfold tl137
      rw [e9', ob_s, show (0 : Int32) = nI 0 from rfl, rdI_n (by omega) (by omega), ob_s, (r9 61 (by omega)).2.1, fGX.a (by omega), f4, rdI_n (by omega) (by omega), ob_s, (r9 36 (by omega)).2.1, fGX.a (by omega), f5]
    · have w1 := a7 x 37 (by omega) (by omega)
      have w2 := pl x 37 (by unfold PLX; omega)
      exact ⟨w2.1.trans w1.p, w2.2.trans w1.l⟩
    · have z1 := (g3.at' 258 2 (by have := h.k0; omega) (by omega) (by omega) (by omega)).a
      rw [(a0 258 2 (by omega) (by omega)).a, z1]
theorem ok_3 {F i : Nat} {cs : CS} {rs : RS} (hF : 10000 ≤ F) (hFF : F < 1000000) (h : SIM F i cs rs) (x1 x2 x3 x4 x5 : Int32) : OKC F (i + 3) (lk_3 F cs rs x1 x2 x3 x4 x5) := by
  obtain ⟨cs', rs', v, e1, e2, s⟩ := query_ok hF hFF h
  refine ⟨cs', rs', ?_, s⟩
  unfold lk_3
  rw [ckE_ok h.b.o, ob_s, e1, ob_s, e2, ob_s]
  exact if_pos rfl

/-! a text comes: what stood stands -/
def rsI (rs : RS) (v : Int32) : RS := setF (setF (setF rs 1 0) 110 0) 82 v
theorem sim_grown {F i : Nat} {cs cs' : CS} {rs : RS} {v : Int32} (h : SIM F i cs rs) (g : GRW cs cs') (df : DFC cs') (k1 : kK cs' ≤ kK cs + 2700) (m1 : kM cs' ≤ kM cs + 31000) (t0 : kI cs' 385 0 = 0) (c8 : kI cs' 398 0 = 0) (lf : kI cs' 388 0 = v) (nb : (387, 9) ∉ kE cs') : SIM F (i + 2) cs' (rsI rs v) := by
  have k0 := h.k0
  have r0 : ∀ q, q ≠ 1 ∧ q ≠ 110 ∧ q ≠ 82 → (rsI rs v).1 q = rs.1 q ∧ (rsI rs v).2.2.1 q = rs.2.2.1 q ∧ (rsI rs v).2.2.2 q = rs.2.2.2 q := fun q hq => ⟨(pk_un hq.2.2).trans ((pk_un hq.2.1).trans (pk_un hq.1)), rfl, rfl⟩
  obtain ⟨nst, st, s5, tx⟩ := h.st
  have a0 : ∀ x, 386 ≤ x → x < 400 → ¬ q0F x → AT cs cs' x 0 := fun x h1 h2 h3 => g.at' x 0 (by omega) (by omega) (by omega) (fun w => h3 w.2)
  refine h.grow g df k1 m1 t0 lf (fun q hq => r0 q (by omega)) rfl rfl st s5 ?_
  rcases tx with q | ⟨n, ff, M, t, cap, s, lf', S', Q, oq, ss, r, il, w, V, D, cg, cS, c0, cR, c4, c5, csH, rsH, od, S0, RR, Sr, C, CH, q⟩
  · exact Or.inl ⟨by rw [(a0 389 (by omega) (by omega) (by unfold q0F; omega)).r]; exact q.s9, by rw [(a0 390 (by omega) (by omega) (by unfold q0F; omega)).r]; exact q.s0, q.h81, by rw [(a0 395 (by omega) (by omega) (by unfold q0F; omega)).i]; exact q.c5, q.cc.gw (fun y hy => g.em y 0 (fun e => absurd (Prod.mk.inj e).2 (by decide)) hy) (a0 396 (by omega) (by omega) (by unfold q0F; omega)) (a0 397 (by omega) (by omega) (by unfold q0F; omega)) c8, rfl⟩
  · have kc := q.kc
    obtain ⟨o1, o2, o3, o4, o5, o6⟩ := q.tx.od
    have kp : KPN (t + 1) (kK cR) cs rs cs' (rsI rs v) := KPN.gr g q.nb kc (fun _ _ => rfl) (fun k h1 h2 h3 => r0 k (by omega))
    have em : EM cs cs' := kp.em
    have at' : ∀ x j, j < kK cs → (128 ≤ x ∧ x < 352) → AT cs cs' x j := fun x j hj hx => g.at' x j hj (by omega) (by omega) (by unfold q0F; omega)
    have rk : r < kK cs := h.df.lt q.rn.o
    have ik : il < kK cs := h.df.lt q.an.ic.e
    have qk : oq < kK cs := h.df.lt q.an.oq
    have a1 : ∀ x j, (288 ≤ x ∧ x ≤ 291) ∨ (395 ≤ x ∧ x ≤ 397) → j < 38 → ¬ (395 ≤ x ∧ j ≠ 0) → AT cs cs' x j := fun x j hx hj _ => g.at' x j (by omega) (by omega) (by omega) (by unfold q0F; omega)
    obtain ⟨M9, cc, cl, cu⟩ := q.al.cc
    have al := q.al
    have a8 := fun j (hj : j < 38) => a1 288 j (by omega) hj (by omega)
    have a9 := fun j (hj : j < 38) => a1 289 j (by omega) hj (by omega)
    have a6 := a0 396 (by omega) (by omega) (by unfold q0F; omega)
    have a7 := a0 397 (by omega) (by omega) (by unfold q0F; omega)
    have g0 : ∀ k, 100 ≤ k → k ≤ 109 → (rsI rs v).1 k = rs.1 k := fun k h1 h2 => (r0 k (by omega)).1
    have al' : ARL w 20 25 30 od S0 RR Sr [] [] cs' (rsI rs v) := ⟨by rw [(a0 395 (by omega) (by omega) (by unfold q0F; omega)).i]; exact al.c5, al.r2.at' (a8 20 (by omega)) (a9 20 (by omega)), al.r3.at' (a8 25 (by omega)) (a9 25 (by omega)), al.r4.at' (a8 30 (by omega)) (a9 30 (by omega)), ⟨0, cc.gw (fun y hy => em _ hy) a6 a7 c8, Nat.zero_le _, by omega⟩, by rw [a6.l, a7.l]; exact al.le, by rw [a6.l]; exact al.l8, by rw [a6.l]; exact al.lu, by rw [g0 100 (by omega) (by omega)]; exact al.x0, by rw [g0 101 (by omega) (by omega)]; exact al.x1, by rw [g0 104 (by omega) (by omega)]; exact al.x4, al.ws.fr rfl rfl, al.wa.fr rfl rfl, al.ch.mv (C' := []) rfl rfl rfl rfl (Or.inr rfl), CHM.nil, al.lS, al.l6, al.lR, al.l0, al.so, al.w8⟩
    refine Or.inr ⟨n, ff, M, t, cap, s, lf', S', Q, oq, ss, r, il, w, V, D, cg, cS, c0, cR, c4, c5, csH, rsH, od, S0, RR, Sr, [], [], q.tx, q.kp.trans kp, q.gc, (q.gk.trans kp).one, by have := g.kk; omega, ⟨by rw [(r0 84 (by omega)).1]; exact q.gt.1, q.gt.2⟩, ?_, ⟨em _ q.rn.o, em _ q.rn.oc, by rw [(at' 161 r rk (by omega)).r]; exact q.rn.cd, by rw [(at' 162 r rk (by omega)).r]; exact q.rn.sp⟩, by rw [(at' 160 r rk (by omega)).r]; exact q.r6, al', by rw [(at' 130 oq qk (by omega)).r]; exact q.oi, by rw [(r0 81 (by omega)).1]; exact q.h81, ⟨q.sx.1, fun d hd => by rw [(at' 258 2 (by omega) (by omega)).a]; exact q.sx.2 d hd⟩, nb, q.cv⟩
    have an := q.an
    exact ⟨em _ an.o, by rw [(a0 389 (by omega) (by omega) (by unfold q0F; omega)).r]; exact an.st, by rw [(a0 390 (by omega) (by omega) (by unfold q0F; omega)).r]; exact an.rn, by rw [(a0 391 (by omega) (by omega) (by unfold q0F; omega)).r]; exact an.s1, by rw [(a0 392 (by omega) (by omega) (by unfold q0F; omega)).r]; exact an.s2, by rw [(a0 393 (by omega) (by omega) (by unfold q0F; omega)).r]; exact an.s3, by rw [(a0 394 (by omega) (by omega) (by unfold q0F; omega)).r]; exact an.s4, em _ an.or', em _ an.ot, by rw [(at' 323 t (by omega) (by omega)).r]; exact an.tp, em _ an.oq, by rw [(at' 129 oq qk (by omega)).r]; exact an.im, an.ic.keep em (fun x x1 x2 => g.at' x il ik (by omega) (by omega) (by unfold q0F; omega))⟩
/-- the reference alone goes on -/
theorem SIM.ref {F i nst : Nat} {cs : CS} {rs rs' : RS} (h : SIM F i cs rs) (r0 : ∀ q, (4 ≤ q ∧ q ≤ 13) ∨ (85 ≤ q ∧ q ≤ 109) → rs'.1 q = rs.1 q ∧ rs'.2.2.1 q = rs.2.2.1 q ∧ rs'.2.2.2 q = rs.2.2.2 q) (wm : rs'.2.1 = rs.2.1) (tp : ∃ n, TP n cs rs') (lf : rs'.1 82 = rs.1 82) (st : ST nst cs rs) (s5 : ∀ d, nst ≤ d → d ≤ 9 → rs.2.2.1 5 d = 0) (tx : NOQ cs rs' ∨ STY F nst cs rs') : SIM F i cs rs' := by
  obtain ⟨d, dr⟩ := h.dr
  obtain ⟨so, no, q1, q2, q3, q4⟩ := h.x1
  exact ⟨h.b, h.df, h.k0, h.wd, tp, ⟨d, dr.mv (fun _ _ _ => AT.refl) (fun q _ _ => r0 q (by omega))⟩, fun j => by rw [(r0 9 (by omega)).2.1]; exact h.f9 j, fun j => by rw [(r0 86 (by omega)).2.1]; exact h.fb j, by rw [(r0 97 (by omega)).1]; exact h.z97, by rw [lf]; exact h.lf, h.s1, h.s2, h.s3, h.s4, h.b1, h.b2, h.b3, h.b4, h.le, h.l8, h.lu, h.rm, h.rk, h.ca, ⟨so, no, by rw [(r0 104 (by omega)).1]; exact q1, by rw [(r0 101 (by omega)).1]; exact q2, q3, fun j hj => by rw [(r0 106 (by omega)).2.1]; exact q4 j hj⟩, nst, st.mv (fun _ _ _ => AT.refl) wm (fun q _ _ => r0 q (by omega)), fun d d1 d2 => by rw [(r0 5 (by omega)).2.1]; exact s5 d d1 d2, tx⟩
theorem scan_nb {F : Nat} {n : Int32} {cs cS : CS} (h : c_X10_scan F cs 9 0 1 n = some cS) : (387, 9) ∉ kE cS := by
  unfold c_X10_scan at h
  replace h := ob h; obtain ⟨c1, g1, h⟩ := h
  replace h := ob h; obtain ⟨v2, g2, h⟩ := h
  replace h := ob h; obtain ⟨c3, g3, h⟩ := h
  replace h := ob h; obtain ⟨c4, g4, h⟩ := h
  intro w
  have w1 := ((NB.pI g3).trans ((NB.pI g4).trans (nb_c_X10_scan_L25 F F c4 9 1 0 cS h))) w
  obtain ⟨-, e⟩ := pBy_some g1
  rw [← e] at w1
  exact (sBy_E.mp w1).2 rfl

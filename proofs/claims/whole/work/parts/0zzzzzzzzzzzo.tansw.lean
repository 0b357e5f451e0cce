/-! an answer between two calls -/
def PLB (x j : Nat) : Prop := (x = 384 ∧ j = 0) ∨ (258 ≤ x ∧ x ≤ 263 ∧ j = 2) ∨ ((x = 352 ∨ x = 353 ∨ x = 354 ∨ x = 358) ∧ j = 9) ∨ ((x = 74 ∨ x = 75) ∧ j = 37)
theorem Bas.mv {a b : CS} (h : Bas a) (em : EM a b) (r : ∀ x, x = 386 ∨ x = 387 ∨ x = 399 → kR b x 0 = kR a x 0) (pl : ∀ x j, PLB x j → kP b x j = kP a x j ∧ kL b x j = kL a x j) : Bas b := ⟨em _ h.o, em _ h.e384, (pl 384 0 (by unfold PLB; omega)).1.trans h.p384, (pl 384 0 (by unfold PLB; omega)).2.trans h.l384, (r 386 (by omega)).trans h.rS, em _ h.oS, em _ h.e258, (pl 258 2 (by unfold PLB; omega)).1.trans h.p258, (pl 258 2 (by unfold PLB; omega)).2.trans h.l258, em _ h.e259, (pl 259 2 (by unfold PLB; omega)).1.trans h.p259, (pl 259 2 (by unfold PLB; omega)).2.trans h.l259, em _ h.e260, (pl 260 2 (by unfold PLB; omega)).1.trans h.p260, (pl 260 2 (by unfold PLB; omega)).2.trans h.l260, em _ h.e261, (pl 261 2 (by unfold PLB; omega)).1.trans h.p261, (pl 261 2 (by unfold PLB; omega)).2.trans h.l261, em _ h.e262, (pl 262 2 (by unfold PLB; omega)).1.trans h.p262, (pl 262 2 (by unfold PLB; omega)).2.trans h.l262, em _ h.e263, (pl 263 2 (by unfold PLB; omega)).1.trans h.p263, (pl 263 2 (by unfold PLB; omega)).2.trans h.l263, (r 387 (by omega)).trans h.rT, em _ h.oT, em _ h.e352, (pl 352 9 (by unfold PLB; omega)).1.trans h.p352, (pl 352 9 (by unfold PLB; omega)).2.trans h.l352, em _ h.e353, (pl 353 9 (by unfold PLB; omega)).1.trans h.p353, (pl 353 9 (by unfold PLB; omega)).2.trans h.l353, em _ h.e354, (pl 354 9 (by unfold PLB; omega)).1.trans h.p354, (pl 354 9 (by unfold PLB; omega)).2.trans h.l354, em _ h.e358, (pl 358 9 (by unfold PLB; omega)).1.trans h.p358, (pl 358 9 (by unfold PLB; omega)).2.trans h.l358, (r 399 (by omega)).trans h.rC, em _ h.oC, em _ h.e74, (pl 74 37 (by unfold PLB; omega)).1.trans h.p74, (pl 74 37 (by unfold PLB; omega)).2.trans h.l74, em _ h.e75, (pl 75 37 (by unfold PLB; omega)).1.trans h.p75, (pl 75 37 (by unfold PLB; omega)).2.trans h.l75⟩
theorem TP.mv {n : Nat} {a b : CS} {rs rs' : RS} (h : TP n a rs) (h4 : kA b 384 0 = kA a 384 0) (h5 : kI b 385 0 = kI a 385 0) (r0 : rs'.2.2.1 0 = rs.2.2.1 0) (r1 : rs'.1 1 = rs.1 1) : TP n b rs' := ⟨by rw [h5]; exact h.ci, by rw [r1]; exact h.ri, h.le, fun k hk => by rw [h4, r0]; exact h.eq k hk, fun k hk => by rw [r0]; exact h.bt k hk⟩
theorem DR.mv {d : Nat} {a b : CS} {rs rs' : RS} (h : DR d a rs) (at' : ∀ x, 262 ≤ x → x ≤ 264 → AT a b x 2) (g : ∀ q, 11 ≤ q → q ≤ 13 → rs'.1 q = rs.1 q ∧ rs'.2.2.1 q = rs.2.2.1 q ∧ rs'.2.2.2 q = rs.2.2.2 q) : DR d b rs' := ⟨by rw [(at' 264 (by omega) (by omega)).i]; exact h.ci, by rw [(g 11 (by omega) (by omega)).1]; exact h.ri, h.le, fun k hk => by rw [(at' 262 (by omega) (by omega)).b, (at' 263 (by omega) (by omega)).a, (g 12 (by omega) (by omega)).2.2, (g 13 (by omega) (by omega)).2.1]; exact h.eq k hk⟩
theorem ST.mv {n : Nat} {a b : CS} {rs rs' : RS} (h : ST n a rs) (at' : ∀ x, 256 ≤ x → x ≤ 261 → AT a b x 2) (w : rs'.2.1 = rs.2.1) (g : ∀ q, 4 ≤ q → q ≤ 9 → rs'.1 q = rs.1 q ∧ rs'.2.2.1 q = rs.2.2.1 q ∧ rs'.2.2.2 q = rs.2.2.2 q) : ST n b rs' := by
  have g6 := (g 6 (by omega) (by omega)).2.1
  have a8 := (at' 258 (by omega) (by omega)).a
  refine ⟨by rw [(at' 256 (by omega) (by omega)).i]; exact h.ci, by rw [(g 4 (by omega) (by omega)).1]; exact h.ri, h.le, fun k hk => by rw [a8, (g 5 (by omega) (by omega)).2.1]; exact h.col k hk, by rw [(at' 257 (by omega) (by omega)).j, w]; exact h.wm, fun r hr => by rw [(at' 261 (by omega) (by omega)).a, g6]; exact h.th r hr, fun r hr h8 => by rw [g6]; exact h.out r hr h8, fun s c p hs hp hc hk ht => ?_⟩
  rw [a8] at hk
  rw [g6] at ht
  rw [(at' 259 (by omega) (by omega)).b, (at' 260 (by omega) (by omega)).a, (g 7 (by omega) (by omega)).2.2, (g 8 (by omega) (by omega)).2.2, (g 9 (by omega) (by omega)).2.1]
  exact h.val s c p hs hp hc hk ht
theorem CCS.z {M : Nat} {C : CCT} {a : CS} (h : CCS M C a) (c : kI a 398 0 = 0) : CCS 0 [] a := ⟨h.o, h.e6, h.p6, Nat.zero_le _, h.u6, h.e7, h.p7, Nat.zero_le _, h.u7, c, fun t ht => absurd ht (Nat.not_lt_zero _)⟩
theorem KPN.gf {c k : Nat} {a b : CS} {rs rs' : RS} (g : GFR a b) (p : PLR a b) (n : RNW rs rs') : KPN c k a rs b rs' := ⟨g.1, fun x j _ _ hx _ => g.2 x j (by omega) (by omega) (by omega), fun x j hx _ _ => p x j (by unfold PLX; omega), fun x j h1 h2 _ => g.2 x j (by omega) (by omega) (by omega), fun d _ => by rw [(n.2 5 (by omega)).2.1], fun q h1 h2 h3 => n.2 q (by omega)⟩
theorem Bas.gf {a b : CS} (h : Bas a) (g : GFR a b) (p : PLR a b) : Bas b := h.mv g.1 (fun x hx => (g.2 x 0 (by omega) (by omega) (by omega)).r) (fun x j hx => p x j (by unfold PLB at hx; unfold PLX; omega))
theorem sim_answer {F i : Nat} {cs : CS} {rs : RS} (h : SIM F i cs rs) (h8 : kI cs 398 0 = 0) (h110 : rs.1 110 = 0) : ∃ cs' rs', c_X11_answer F cs 0 1 = some cs' ∧ m_renew F rs 1 = some rs' ∧ SIM F i cs' rs' ∧ kI cs' 398 0 = rs'.1 110 := by
  obtain ⟨nst, st, s5, q | ⟨n, ff, M, t, cap, s, lf, S', Q, oq, ss, r, il, w, V, D, cg, cS, c0, cR, c4, c5, csH, rsH, od, S0, RR, Sr, C, CH, q⟩⟩ := h.st
  · refine ⟨cs, rs, ?_, ?_, h, h8.trans h110.symm⟩
    · unfold c_X11_answer
      rw [gR_ok h.b.o, ob_s, q.s9]
      rfl
    · unfold m_renew
      rw [if_pos q.h81]
  · obtain ⟨M9, cc, -, -⟩ := q.al.cc
    have w8 := q.al.w8
    have sw : Sr.length * w ≤ 512 * 8 := mul_up q.al.l6 w8
    obtain ⟨c9, rs9, od', R', C', CH', e1, e2, al, oi, -, gf, t1, t2, t3, t4, rm, rn, z86, z97⟩ := ans_now (tb := true) (S' := Sr) q.tx q.kp h.b st s5 h.f9 h.fb h.z97 (by rw [q.h81]; decide) q.an q.rn q.r6 (by decide) (by decide) h.b1 h.b2 h.b3 h.b4 (cc.z h8) h.le h.l8 h.lu q.al.r3 (fun _ => q.al.c5) q.al.l6 q.al.so q.al.lS q.al.x4 q.al.x1 (by omega) (fun j hj => q.al.ws.bit hj) (fun _ => ⟨rfl, rfl, q.al.ws⟩) (fun w => absurd w (by decide))
    rw [if_pos rfl] at e1 e2
    have pl : PLR cs c9 := pl_c_X11_answer F cs 0 1 c9 e1
    have nb : NB cs c9 := nb_c_X11_answer F cs 0 1 c9 e1
    have df := dg_c_X11_answer F cs 0 1 c9 e1 h.df
    have kp : KPN (t + 1) (kK cR) cs rs c9 rs9 := KPN.gf gf pl rn
    have kk : kK cs ≤ kK c9 := (mo_c_X11_answer F cs 0 1 c9 e1).1
    have at' : ∀ x j, ¬ (288 ≤ x ∧ x ≤ 291) → ¬ (74 ≤ x ∧ x ≤ 76) → ¬ (395 ≤ x ∧ x ≤ 398) → AT cs c9 x j := gf.2
    have a0 : ∀ x j, (224 ≤ x ∧ x ≤ 287) ∨ (320 ≤ x ∧ x ≤ 394) → AT cs c9 x j := fun x j hx => gf.2 x j (by omega) (by omega) (by omega)
    have r0 : ∀ q, q < 85 → rs9.1 q = rs.1 q ∧ rs9.2.2.1 q = rs.2.2.1 q ∧ rs9.2.2.2 q = rs.2.2.2 q := fun q hq => rn.2 q (by omega)
    obtain ⟨nt, tp⟩ := h.tp
    obtain ⟨nd, dr⟩ := h.dr
    have rm1 := rm.1
    have rm2 := rm.2
    have h1 := h.rm
    have h2 := h.rk
    have lr := al.lR
    have l6 := al.l6
    have sw2 : (srtK kO R').length * w ≤ 512 * 8 := mul_up l6 w8
    obtain ⟨M8, cc9, -, -⟩ := al.cc
    refine ⟨c9, rs9, e1, e2, ⟨h.b.gf gf pl, df, by have := h.k0; omega, fun j hj => by rw [(a0 358 9 (by omega)).b]; exact h.wd j hj, ⟨nt, tp.mv (a0 384 0 (by omega)).a (a0 385 0 (by omega)).i (r0 0 (by omega)).2.1 (r0 1 (by omega)).1⟩, ⟨nd, dr.mv (fun x x1 x2 => a0 x 2 (by omega)) (fun q q1 q2 => r0 q (by omega))⟩, fun j => by rw [(r0 9 (by omega)).2.1]; exact h.f9 j, z86, z97, by rw [(a0 388 0 (by omega)).i, (r0 82 (by omega)).1]; exact h.lf, by rw [(a0 391 0 (by omega)).r]; exact h.s1, by rw [(a0 392 0 (by omega)).r]; exact h.s2, by rw [(a0 393 0 (by omega)).r]; exact h.s3, by rw [(a0 394 0 (by omega)).r]; exact h.s4, t1, t2, t3, t4, al.le, al.l8, al.lu, by omega, by omega, h.ca.pn (fun y w => gf.1 _ w) (fun x hx => pl x 37 (by unfold PLX; omega)), ⟨_, w, al.x4, al.x1, by omega, fun j hj => al.ws.bit hj⟩, nst, st.mv (fun x x1 x2 => a0 x 2 (by omega)) rn.1 (fun q q1 q2 => r0 q (by omega)), fun d d1 d2 => by rw [(r0 5 (by omega)).2.1]; exact s5 d d1 d2, Or.inr ⟨n, ff, M, t, cap, s, lf, S', Q, oq, ss, r, il, w, V, D, cg, cS, c0, cR, c4, c5, csH, rsH, od', Sr, R', _, C', CH', q.tx, q.kp.trans kp, q.gc, (q.gk.trans kp).one, by have := q.kc; omega, ⟨by rw [(r0 84 (by omega)).1]; exact q.gt.1, fun j hj => by rw [(r0 83 (by omega)).2.1]; exact q.gt.2 j hj⟩, q.an.gf gf, ⟨gf.1 _ q.rn.o, gf.1 _ q.rn.oc, by rw [(at' 161 r (by omega) (by omega) (by omega)).r]; exact q.rn.cd, by rw [(at' 162 r (by omega) (by omega) (by omega)).r]; exact q.rn.sp⟩, by rw [(at' 160 r (by omega) (by omega) (by omega)).r]; exact q.r6, al, by rw [(at' 130 oq (by omega) (by omega) (by omega)).r]; exact oi, by rw [(r0 81 (by omega)).1]; exact q.h81, ⟨q.sx.1, fun d hd => by rw [(a0 258 2 (by omega)).a]; exact q.sx.2 d hd⟩, fun w => q.nb (nb w), q.cv⟩⟩, ?_⟩
    rw [cc9.c, al.ch.c0, al.cm.1]

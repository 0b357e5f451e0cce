/-! a whole QUERY, but for what stands behind its sets -/
theorem q_g {n : Nat} {f : Nat → Int32} {M t c cap : Nat} {d z F : Nat} {T : TC_X9_readQuery} {T' : TG_queryOf} (hF : 10000 ≤ F) (hSS : SS n f M t c cap d z T.2.1 T'.2.1) (hE : ∀ (S0 Q0 s0 l0 : Nat) (cs0 : CS) (rs0 : RS) (m i s lf S Q : Nat) (cs : CS) (rs : RS), QG n f M t c cap d z S0 Q0 s0 l0 cs0 rs0 m i s lf S Q cs rs → ∃ cs' rs', c_X9_readQuery_b119 F T cs t (kK cs0) = some (cs', kK cs0) ∧ m_queryOf_b197 F T' rs (nI Q0) = some (rs', nI Q0) ∧ QPO n f M t c cap (d + 1) z S0 Q0 s0 l0 cs0 rs0 (kK cs0) cs' rs') : QS n f M t c cap (d + 1) z (cb_X9_readQuery F T) (b_queryOf F T') := by
  intro i s lf S Q cs rs b sm p0 qs
  have t0 := b.t0
  have c0 := b.c0
  have l3 := b.l3
  have z2 := b.z2
  have nz : ¬ (1 : Int32) = 0 := by decide
  have q60 : Q < 60 := by omega
  obtain ⟨b1, pd1, sm1⟩ := q_start b sm
  obtain ⟨c2, r2, e1, e2, e3⟩ := hSS i s lf S (Q + 1) _ _ b1 sm1 p0 (by omega)
  have n4 : (4, kK cs) ∈ kE (nO cs 4 6) := nO_new
  have kn : kK (nO cs 4 6) = kK cs + 1 ∧ kM (nO cs 4 6) = kM cs + 6 := ⟨rfl, rfl⟩
  have i60 : (inQ Q rs).2.2.1 60 Q = nI 0 := pk_us
  have a330 : kR (nO cs 4 6) 330 t = kR cs 330 t := (AT.ng (by omega)).r
  have f71 : (inQ Q rs).1 71 = rs.1 71 := rfl
  have gg1 : ¬ (inQ Q rs).1 21 = 0 := by rw [b1.g1]; decide
  have eL : m_queryOf_L50 F T' F = m_queryOf_L50 F T' (F - 2 + 1 + 1) := by rw [show F - 2 + 1 + 1 = F by omega]
  have eC : c_X9_readQuery_L14 F T F = c_X9_readQuery_L14 F T (F - 1 + 1) := by rw [show F - 1 + 1 = F by omega]
  have em1 : EM cs (nO cs 4 6) := nO_em
  have aN : ∀ x j, j < kK cs → AT cs (nO cs 4 6) x j := fun x j h => AT.no1 h
  unfold cb_X9_readQuery c_X9_readQuery_b3 c_X9_readQuery_b8 c_X9_readQuery_b11
  rw [nwO_ok b.kb, ob_s, ckE_ok b1.h.o, ob_s, e1, ob_s, bqry_1 b.rQ q60, eL, m_queryOf_L50, if_neg nz, if_neg gg1, e2, ob_s, rdI_n q60 (by decide), ob_s]
  show ∃ cs' rs' oq, (Option.bind (c_X3_init F c2 (kK cs) (kK cs + 1)) fun cs_29 => c_X9_readQuery_L14 F T F cs_29 t (kK cs) 0) = some (cs', oq) ∧ (if r2.1 21 = 0 then (m_queryOf_b122 F T' (m_queryOf_L50 F T' (F - 2 + 1)) r2 (nI Q) 1 0) else (Option.bind (wrI r2 61 300 ((5 * nI Q) + r2.2.2.1 60 Q) (nI S)) fun cs_47 => Option.bind (wrI cs_47 62 300 ((5 * nI Q) + r2.2.2.1 60 Q) 0) fun cs_48 => Option.bind (wrI cs_48 63 300 ((5 * nI Q) + r2.2.2.1 60 Q) 0) fun cs_49 => Option.bind (rdI (cs_49.2.2.1 60) 60 (nI Q)) fun v_50 => Option.bind (wrI cs_49 60 60 (nI Q) (v_50 + 1)) fun cs_51 => m_queryOf_b122 F T' (m_queryOf_L50 F T' (F - 2 + 1)) cs_51 (nI Q) 1 0)) = some (rs', nI Q) ∧ _
  rw [eC]
  rcases e3 with ⟨i2, s2, lf2, S2, Q2, b2, pd2, se, sm2, r3, r7, ⟨j1, j2, j3, j4, j5, j6⟩, kr2, mr2, ct2, qs2⟩ | ⟨lf2, fw⟩
  · have e4 : (4, kK cs) ∈ kE c2 := pd2.em _ n4
    have e6 : (6, kK cs + 1) ∈ kE c2 := by
      obtain ⟨it, gr, mi, ns, mg, w, -⟩ := se
      exact w.e6
    have r60 : r2.2.2.1 60 Q = nI 0 := (pd2.qf.2.1 60 Q (by omega) (by omega) (by unfold wd; rw [if_neg (by omega), if_neg (by omega), if_neg (by omega), if_neg (by omega), if_neg (by omega)]; omega)).trans i60
    obtain ⟨c3, n1, n2, n3, n4', n5, n6, n7, n8, n9, n10, n11, n12, n13, n14⟩ := new_query (F := F) e4 e6 b2.kb
    have g := QG.base (d := d) b p0 qs pd1 b2 pd2 se sm2 (r3.trans a330) (r7.trans f71) ⟨j2, by omega, j4, j5⟩ (by omega) (by omega) ct2 qs2 n2 n3 n4' n5 n6 n7 n8 n9 n10 n11 n12 n13 n14
    obtain ⟨cs', rs', u1, u2', u3⟩ := set_L (T := T) (T' := T') hF hSS (hE S Q s lf cs rs) 2 1 (F - 1) (F - 2) 0 i2 s2 lf2 S2 Q2 0 c3 _ rfl (by omega) (by omega) (by decide) g
    refine ⟨cs', rs', kK cs, ?_, ?_, u3⟩
    · rw [n1, ob_s]
      exact u1
    · rw [if_neg (show ¬ r2.1 21 = 0 by rw [b2.g1]; decide), r60, nI_5, nI_add, wrI_n (by omega) (by decide), ob_s, wrI_n (by omega) (by decide), ob_s, wrI_n (by omega) (by decide), ob_s, rdI_n q60 (by decide), ob_s, show (setI (setI (setI r2 61 (5 * Q + 0) (nI S)) 62 (5 * Q + 0) 0) 63 (5 * Q + 0) 0).2.2.1 60 Q = nI 0 from r60, nI_1, wrI_n q60 (by decide), ob_s]
      exact u2'
  · have e4 : (4, kK cs) ∈ kE c2 := fw.em _ n4
    have hkr := fw.kr
    have hmr := fw.mr
    obtain ⟨c3, n1, n2, n3, n4', n5, -, -, -, -, -, -, -, -, n14⟩ := new_query (F := F) e4 fw.wo.e fw.ws.kb
    have kx := fw.it0
    have g3 : GF t (kK cs) c2 c3 := ⟨n3, by omega, fun x j h1 _ => n14 x j (by omega) (by omega)⟩
    have ws := fw.ws.gf g3 n2 t0 c0
    refine ⟨c3, r2, kK cs, ?_, ?_, Or.inr ⟨lf2, fw.pb.gf ws.f g3 t0, ws, em1.trans (fw.em.trans n3), fun x j h1 h2 h3 => (aN x j h1).trans ((fw.a0 x j (by omega) h2 h3).trans (n14 x j (by omega) (by omega))), by omega, by omega⟩⟩
    · rw [show c_X3_init F c2 (kK cs) (kK cs + 1) = some c3 from n1, ob_s]
      exact L14_f ws.f
    · rw [if_pos fw.pb.r.g]
      exact mq122_f fw.pb.r

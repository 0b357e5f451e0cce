/-! one SELECT more of a QUERY, read and laid -/
/-- two methods that read a SELECT at nest z, one of each -/
def SS (n : Nat) (f : Nat → Int32) (M t c cap d z : Nat) (P : CS → Nat → Option (CS × Nat)) (P' : RS → Option (RS × Int32)) : Prop := ∀ (i s lf S Q : Nat) (cs : CS) (rs : RS), BG n f M t c cap i z s lf S Q cs rs → SM t lf S cs rs → S ≤ 13 * lf + z → Q ≤ S + 1 → ∃ cs' rs', P cs t = some (cs', kK cs) ∧ P' rs = some (rs', nI S) ∧ SPO n f M t c cap d (kK cs) S Q s lf Q z (kR cs 330 t) (rs.1 71) cs rs (kK cs) S (kK cs + 1) cs' rs'
theorem set_step {n : Nat} {f : Nat → Int32} {M t c cap : Nat} {d z S0 Q0 s0 l0 m i s lf S Q : Nat} {cs0 cs : CS} {rs0 rs : RS} {F v' : Nat} {T : TC_X9_readQuery} {T' : TG_queryOf} {rc : CS → Nat → Nat → Int32 → Option (CS × Nat)} {w a A B pl u5 : Int32} (hSS : SS n f M t c cap d z T.2.1 T'.2.1) (hA : A = if u5 = 0 then a else 11) (hset : SETR A B) (hb : ∀ cs, FS t c cs → rc cs t (kK cs0) (w + 1) = some (cs, kK cs0)) (hb' : ∀ rs, FT rs → m_queryOf_b122 F T' (m_queryOf_L50 F T' v') rs (nI Q0) 1 B = some (rs, nI Q0)) (hn : ∀ (i s lf S Q : Nat) (cs : CS) (rs : RS), m < 3 → QG n f M t c cap d z S0 Q0 s0 l0 cs0 rs0 (m + 1) i s lf S Q cs rs → ∃ cs' rs', rc cs t (kK cs0) (w + 1) = some (cs', kK cs0) ∧ m_queryOf_b122 F T' (m_queryOf_L50 F T' v') rs (nI Q0) 1 B = some (rs', nI Q0) ∧ QPO n f M t c cap (d + 1) z S0 Q0 s0 l0 cs0 rs0 (kK cs0) cs' rs') (g : QG n f M t c cap d z S0 Q0 s0 l0 cs0 rs0 m i s lf S Q cs rs) : ∃ cs' rs', c_X9_readQuery_b72 F T rc cs t (kK cs0) w a pl u5 = some (cs', kK cs0) ∧ m_queryOf_L50 F T' (v' + 1) rs (nI Q0) 1 B pl = some (rs', nI Q0) ∧ QPO n f M t c cap (d + 1) z S0 Q0 s0 l0 cs0 rs0 (kK cs0) cs' rs' := by
  obtain ⟨x1, x2, x3, x4, x5, x6⟩ := g.ix
  obtain ⟨y1, y2, y3⟩ := g.kx
  have hct := g.ct
  have hp0 := g.p0
  have l3 := g.b.l3
  have z2 := g.b.z2
  have kk0 := g.pd.kk
  have nz : ¬ (1 : Int32) = 0 := by decide
  have q60 : Q0 < 60 := by omega
  obtain ⟨c2, r2, e1, e2, e3⟩ := hSS i s lf S Q cs rs g.b g.sm (by omega) (by omega)
  have cls : c_X9_readQuery_b72 F T rc cs t (kK cs0) w a pl u5 = c_X9_readQuery_b93 F T rc c2 t (kK cs0) w pl (kK cs) A (kK cs) := by
    unfold c_X9_readQuery_b72
    rw [ckE_ok g.b.h.o, ob_s, e1, ob_s]
    unfold c_X9_readQuery_b78
    rw [hA]
    by_cases w1 : u5 = 0
    · rw [if_pos w1, if_pos w1]
    · rw [if_neg w1, if_neg w1]
  rw [cls, m_queryOf_L50, if_neg nz, if_neg (show ¬ rs.1 21 = 0 by rw [g.b.g1]; decide), e2, ob_s, rdI_n q60 (by decide), ob_s]
  show ∃ cs' rs', _ ∧ (if r2.1 21 = 0 then (m_queryOf_b122 F T' (m_queryOf_L50 F T' v') r2 (nI Q0) 1 B) else (Option.bind (wrI r2 61 300 ((5 * nI Q0) + r2.2.2.1 60 Q0) (nI S)) fun cs_47 => Option.bind (wrI cs_47 62 300 ((5 * nI Q0) + r2.2.2.1 60 Q0) B) fun cs_48 => Option.bind (wrI cs_48 63 300 ((5 * nI Q0) + r2.2.2.1 60 Q0) pl) fun cs_49 => Option.bind (rdI (cs_49.2.2.1 60) 60 (nI Q0)) fun v_50 => Option.bind (wrI cs_49 60 60 (nI Q0) (v_50 + 1)) fun cs_51 => m_queryOf_b122 F T' (m_queryOf_L50 F T' v') cs_51 (nI Q0) 1 B)) = _ ∧ _
  unfold c_X9_readQuery_b93 c_X9_readQuery_b112
  rcases e3 with ⟨i2, s2, lf2, S2, Q2, b2, pd2, se, sm2, r3, r7, ⟨j1, j2, j3, j4, j5, j6⟩, kr2, mr2, ct2, qs2⟩ | ⟨lf2, fw⟩
  · have l32 := b2.l3
    obtain ⟨g2, q2⟩ := g.mv pd2 b2 sm2 r3 r7 j4 (by omega) j3 (by omega) (by omega) (by omega) (by omega) qs2
    have se2 : SEL (QR X0 n f M c s2 S2 Q2 c2 r2 d) X0 n f M c s2 (kK cs) (kK c2) (Q0 + 1) (kK cs) S c2 r2 := se.lo (fun su sl l h' a b hp => hp.lo (Nat.le_refl _) (by omega))
    obtain ⟨L, c3, t1, t2, g3⟩ := g2.lay (a := A) (b0 := B) (pl := pl) q2 pd2.kk se2 ⟨by omega, j2⟩ (by omega) hset
    have e6 : (6, kK cs) ∈ kE c2 := by
      obtain ⟨it, gr, mi, ns, mg, w, -⟩ := se
      exact w.e6
    have e6B : (6, kK cs) ∈ kE (sI c2 204 (kK cs) A) := e6
    have o4 : (4, kK cs0) ∈ kE (sI (sI c2 204 (kK cs) A) 205 (kK cs) pl) := (show QRY (QR X0 n f M c s2 S2 Q2 c2 r2 d) X0 n f M c s2 S0 S Q0 Q2 (kK cs0) (kK cs) (kK cs0) Q0 c2 r2 from q2.2).e4
    obtain ⟨cs', rs', u1, u2', u3⟩ := hn i2 s2 lf2 S2 Q2 c3 _ (by omega) g3
    refine ⟨cs', rs', ?_, ?_, u3⟩
    · rw [pI_ok e6, ob_s, pI_ok e6B, ob_s, gR_ok o4, ob_s, t1, ob_s, t2, ob_s]
      exact u1
    · rw [if_neg (show ¬ r2.1 21 = 0 by rw [b2.g1]; decide), g2.r60, nI_5, nI_add, wrI_n (by omega) (by decide), ob_s, wrI_n (by omega) (by decide), ob_s, wrI_n (by omega) (by decide), ob_s, rdI_n q60 (by decide), ob_s, show (setI (setI (setI r2 61 (5 * Q0 + m) (nI S)) 62 (5 * Q0 + m) B) 63 (5 * Q0 + m) pl).2.2.1 60 Q0 = nI m from g2.r60, nI_1, wrI_n q60 (by decide), ob_s]
      exact u2'
  · have fq := g.fq fw
    have e6 : (6, kK cs) ∈ kE c2 := fw.wo.e
    have e6B : (6, kK cs) ∈ kE (sI c2 204 (kK cs) A) := e6
    have Y : QRY (QR X0 n f M c s S Q cs rs d) X0 n f M c s S0 S Q0 Q (kK cs0) (kK cs) (kK cs0) Q0 cs rs := g.qr.2
    obtain ⟨L, m', lb, ub, wb, l1, l2, l3', l4, l5, ⟨j0, l6⟩, l7, l8, l9, l10, l11, -⟩ := Y.ls
    have od2 := Y.od.2
    have aC : ∀ x j, j < kK cs → ¬ (x / 32 = 10 ∧ j = t) → ¬ (x / 32 = 2 ∧ j = c) → AT cs c2 x j := fw.a0
    have o4 : (4, kK cs0) ∈ kE (sI (sI c2 204 (kK cs) A) 205 (kK cs) pl) := fw.em _ Y.e4
    have a2 : ∀ x j, ¬ (j = kK cs ∧ (x = 204 ∨ x = 205)) → AT c2 (sI (sI c2 204 (kK cs) A) 205 (kK cs) pl) x j := fun x j h => (AT.sI (by omega)).trans (AT.sI (by omega))
    have E2 : kE (sI (sI c2 204 (kK cs) A) 205 (kK cs) pl) = kE c2 := rfl
    have g2 : GF t (kK cs) c2 (sI (sI c2 204 (kK cs) A) 205 (kK cs) pl) := GF.gw ((GW.sI (Nat.le_refl _)).trans (GW.sI (Nat.le_refl _)))
    have q2 : (sI (sI c2 204 (kK cs) A) 205 (kK cs) pl).1 = c2.1 := rfl
    rw [pI_ok e6, ob_s, pI_ok e6B, ob_s, gR_ok o4, ob_s, if_pos fw.pb.r.g, hb' _ fw.pb.r]
    obtain ⟨c3, hc3⟩ : ∃ x, x = sI (sI c2 204 (kK cs) A) 205 (kK cs) pl := ⟨_, rfl⟩
    rw [← hc3] at o4 a2 E2 g2 q2 ⊢
    have aL : ∀ x, x ≤ 2 → AT cs c3 x L := fun x hx => (aC x L (by omega) (by omega) (by omega)).trans (a2 x L (by omega))
    have t1 : kR c3 128 (kK cs0) = some L := by rw [(a2 128 _ (by omega)).r, (aC 128 _ (by omega) (by omega) (by omega)).r]; exact l1
    have p1 : kP c3 1 L = some j0 := by rw [(aL 1 (by decide)).p]; exact l6
    have i2 : kI c3 2 L = nI m' := by rw [(aL 2 (by decide)).i]; exact l8
    have ad : lAd c3 L (kK cs) = some (sLA c3 L (kK cs)) := by
      unfold lAd
      rw [p1, ob_s, if_pos ⟨by rw [E2]; exact fw.em _ l4, by rw [E2]; exact fw.em _ l5, by rw [E2]; exact e6, rfl, by rw [(aL 1 (by decide)).l]; exact l7, by rw [i2]; exact nI_pos (by omega), by rw [i2, show (10 : Int32) = nI 10 by decide]; exact nI_lt (by omega) (by decide)⟩]
    have a3 : ∀ x j, ¬ (j = L ∧ x ≤ 2) → AT c3 (sLA c3 L (kK cs)) x j := fun x j h => ((AT.sI (by omega)).trans (AT.sI (by omega))).trans (AT.sQ (by omega))
    have q3 : (sLA c3 L (kK cs)).1 = c2.1 := q2
    obtain ⟨c4, hc4⟩ : ∃ x, x = sLA c3 L (kK cs) := ⟨_, rfl⟩
    rw [← hc4] at ad a3 q3
    have em : EM c2 c4 := EM.of (congrArg (fun z => z.2.2) q3)
    have kk : kK c4 = kK c2 := congrArg (fun z => z.1) q3
    have km : kM c4 = kM c2 := congrArg (fun z => z.2.1) q3
    have g4 : GF t (kK cs0) c2 c4 := ⟨em, by omega, fun x j h1 _ => (a2 x j (by omega)).trans (a3 x j (by omega))⟩
    have ws := fq.ws.gf g4 (fq.ws.kb.of q3) y1 y2
    have hkr := fq.kr
    have hmr := fq.mr
    refine ⟨c4, r2, ?_, rfl, Or.inr ⟨lf2, fq.pb.gf ws.f g4 y1, ws, fq.em.trans em, fun x j h1 h2 h3 => (fq.a0 x j h1 h2 h3).trans ((a2 x j (by omega)).trans (a3 x j (by omega))), by omega, by omega⟩⟩
    rw [t1, ob_s, ad, ob_s]
    exact hb c4 ws.f

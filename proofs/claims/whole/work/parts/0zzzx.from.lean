/-! a SELECT from the word from on -/
theorem jn_L {n : Nat} {f : Nat → Int32} {M t c cap : Nat} {d K0 S0 Q0 s0 l0 ql z o e it gr mi : Nat} {u1 : Option Nat} {u2 : Int32} {cs0 : CS} {rs0 : RS} {F : Nat} {Ts Tr T T2 T3 T4 T5 : TC_X9_readQuery} {Tq T' : TG_queryOf} (hF : 10000 ≤ F) (hR : Tr.2.2.2 = cb_X9_readSource F T) (hS : Tq.2.2 = b_source F T') (hQ : z < 12 → QS n f M t c cap d (z + 1) T.1 T'.1) (hT1 : T.1 = cb_X9_readQuery F T2) (hT2 : T2.2.1 = cb_X9_readSelect F T3) (hT3 : T3.2.2.1 = cb_X9_readSources F T4) (hT4 : T4.2.2.2 = cb_X9_readSource F T5) (h1 : 1 ≤ mi) : ∀ (k ns v v' w i s lf S Q : Nat) (cs : CS) (rs : RS), ns + k = 3 → 1 ≤ ns → k < v → k < v' → w + k < 1000 → SG none n f M t c cap d K0 S0 Q0 s0 l0 ql z u1 u2 cs0 rs0 o e it gr mi ns ns 0 i s lf S Q cs rs → kI cs 198 o = 0 → ∃ csX cs' rs', c_X9_readSources_L10 F Tr (v + 1) cs t o (nI w) = some csX ∧ c_X9_readSelect_b93 F Ts csX t u1 o = some (cs', o) ∧ m_selectOf_L375 F Tq (v' + 1) rs (nI e) u2 = some (rs', nI e) ∧ SPO n f M t c cap d K0 S0 Q0 s0 l0 ql z u1 u2 cs0 rs0 o e it cs' rs' := by
  intro k
  induction k with
  | zero =>
    intro ns v v' w i s lf S Q cs rs q1 q2 q3 q4 q5 g h0
    obtain ⟨v1, rfl⟩ : ∃ x, v = x + 1 := ⟨v - 1, by omega⟩
    obtain ⟨v2, rfl⟩ : ∃ x, v' = x + 1 := ⟨v' - 1, by omega⟩
    have nz : ¬ (1 : Int32) = 0 := by decide
    have st := jn_step (Ts := Ts) (w := nI w) hF hR hS hQ hT1 hT2 hT3 hT4 (rc := c_X9_readSources_L10 F Tr (v1 + 1)) (rc' := m_selectOf_L375 F Tq (v2 + 1)) (fun cs h => L10_f h) (fun rs h => m375_f h) (fun w => absurd w (by omega)) g q2 h0
    have m8 := g.b.jt.may (F := F) (x := 28) hF (by decide) (by decide)
    have m9 := g.b.jt.may (F := F) (x := 29) hF (by decide) (by decide)
    rw [show swK 28 = 3 by decide] at m8
    rw [show swK 29 = 4 by decide] at m9
    rw [c_X9_readSources_L10, m_selectOf_L375, if_neg (show ¬ (2000 : Int32) ≤ nI w by rw [show (2000 : Int32) = nI 2000 by decide]; exact nI_ge (by omega) (by decide)), if_neg (show ¬ rs.1 21 = 0 by rw [g.b.g1]; decide), ckE_ok g.b.h.o, ob_s]
    rcases m8 with ⟨-, -, -, a1, a2⟩ | ⟨-, -, a1, κ, a2, a3, a4⟩
    · rw [a2, ob_s, if_pos (show nI 3 = 3 by decide), a1, ob_s, if_neg nz]
      exact st
    · rw [a2, ob_s, if_neg (show ¬ nI κ = 3 from fun w => a4 ((nI_eq (b := 3) (by omega) (by decide)).mp w)), a1, ob_s, ob_s, ob_s, if_pos rfl]
      rcases m9 with ⟨-, -, -, b1, b2⟩ | ⟨-, -, b1, κ', b2, b3, b4⟩
      · have ek : nI κ = nI 4 := Option.some.inj (a2.symm.trans b2)
        rw [if_pos (show nI κ = 4 by rw [ek]; decide), b1, ob_s, if_neg nz]
        exact st
      · have ek : nI κ = nI κ' := Option.some.inj (a2.symm.trans b2)
        rw [if_neg (show ¬ nI κ = 4 from fun w => b4 ((nI_eq (b := 4) (by omega) (by decide)).mp (ek.symm.trans w))), b1, ob_s, if_pos rfl]
        obtain ⟨cs', rs', s1, s2, s3⟩ := st_w (T := Ts) (T' := Tq) hF g h1 q2 h0
        exact ⟨cs, cs', rs', rfl, s1, s2, s3⟩
  | succ k ih =>
    intro ns v v' w i s lf S Q cs rs q1 q2 q3 q4 q5 g h0
    obtain ⟨v1, rfl⟩ : ∃ x, v = x + 1 := ⟨v - 1, by omega⟩
    obtain ⟨v2, rfl⟩ : ∃ x, v' = x + 1 := ⟨v' - 1, by omega⟩
    have nz : ¬ (1 : Int32) = 0 := by decide
    have st := jn_step (Ts := Ts) (w := nI w) hF hR hS hQ hT1 hT2 hT3 hT4 (rc := c_X9_readSources_L10 F Tr (v1 + 1)) (rc' := m_selectOf_L375 F Tq (v2 + 1)) (fun cs h => L10_f h) (fun rs h => m375_f h) (fun w1 i' s' lf' S' Q' cs' rs' g' h' => by
      rw [nI_1]
      exact ih (ns + 1) v1 v2 (w + 1) i' s' lf' S' Q' cs' rs' (by omega) (by omega) (by omega) (by omega) (by omega) g' h') g q2 h0
    have m8 := g.b.jt.may (F := F) (x := 28) hF (by decide) (by decide)
    have m9 := g.b.jt.may (F := F) (x := 29) hF (by decide) (by decide)
    rw [show swK 28 = 3 by decide] at m8
    rw [show swK 29 = 4 by decide] at m9
    rw [c_X9_readSources_L10, m_selectOf_L375, if_neg (show ¬ (2000 : Int32) ≤ nI w by rw [show (2000 : Int32) = nI 2000 by decide]; exact nI_ge (by omega) (by decide)), if_neg (show ¬ rs.1 21 = 0 by rw [g.b.g1]; decide), ckE_ok g.b.h.o, ob_s]
    rcases m8 with ⟨-, -, -, a1, a2⟩ | ⟨-, -, a1, κ, a2, a3, a4⟩
    · rw [a2, ob_s, if_pos (show nI 3 = 3 by decide), a1, ob_s, if_neg nz]
      exact st
    · rw [a2, ob_s, if_neg (show ¬ nI κ = 3 from fun w => a4 ((nI_eq (b := 3) (by omega) (by decide)).mp w)), a1, ob_s, ob_s, ob_s, if_pos rfl]
      rcases m9 with ⟨-, -, -, b1, b2⟩ | ⟨-, -, b1, κ', b2, b3, b4⟩
      · have ek : nI κ = nI 4 := Option.some.inj (a2.symm.trans b2)
        rw [if_pos (show nI κ = 4 by rw [ek]; decide), b1, ob_s, if_neg nz]
        exact st
      · have ek : nI κ = nI κ' := Option.some.inj (a2.symm.trans b2)
        rw [if_neg (show ¬ nI κ = 4 from fun w => b4 ((nI_eq (b := 4) (by omega) (by decide)).mp (ek.symm.trans w))), b1, ob_s, if_pos rfl]
        obtain ⟨cs', rs', s1, s2, s3⟩ := st_w (T := Ts) (T' := Tq) hF g h1 q2 h0
        exact ⟨cs, cs', rs', rfl, s1, s2, s3⟩
theorem b5_f {t c cap K0 S0 l0 o it lf r : Nat} {cs0 cs : CS} {rs : RS} {F oo : Nat} {T : TC_X9_readQuery} (hF : 10000 ≤ F) (h : FW t c cap K0 S0 l0 cs0 o it lf r cs rs) (ho : (7, oo) ∈ kE cs) : ∃ csX, c_X9_readSources_b5 F T cs t o oo o = some csX ∧ FW t c cap K0 S0 l0 cs0 o it lf r csX rs := by
  obtain ⟨c2, e1, h2⟩ := h.src (F := F) (oo := oo) ho
  refine ⟨c2, ?_, h2⟩
  unfold c_X9_readSources_b5
  rw [e1, ob_s]
  have l := L10_f (F := F) (v := F - 1) (T := T) (o := o) (w := 0) h2.ws.f
  rw [show F - 1 + 1 = F by omega] at l
  exact l
/-- from the word from on -/
theorem st_f {n : Nat} {f : Nat → Int32} {M t c cap : Nat} {d K0 S0 Q0 s0 l0 ql z o e it gr mi i s lf S Q : Nat} {u1 : Option Nat} {u2 : Int32} {cs0 cs : CS} {rs0 rs : RS} {F : Nat} {Ts Tr T T2 T3 T4 T5 : TC_X9_readQuery} {Tq T' : TG_queryOf} (hF : 10000 ≤ F) (hR0 : Ts.2.2.1 = cb_X9_readSources F Tr) (hR : Tr.2.2.2 = cb_X9_readSource F T) (hS : Tq.2.2 = b_source F T') (hQ : z < 12 → QS n f M t c cap d (z + 1) T.1 T'.1) (hT1 : T.1 = cb_X9_readQuery F T2) (hT2 : T2.2.1 = cb_X9_readSelect F T3) (hT3 : T3.2.2.1 = cb_X9_readSources F T4) (hT4 : T4.2.2.2 = cb_X9_readSource F T5) (h1 : 1 ≤ mi) (g : SG none n f M t c cap d K0 S0 Q0 s0 l0 ql z u1 u2 cs0 rs0 o e it gr mi 0 0 0 i s lf S Q cs rs) (h0 : kI cs 198 o = 0) : ∃ cs' rs', c_X9_readSelect_b83 F Ts cs t u1 o = some (cs', o) ∧ m_selectOf_b356 F Tq rs (nI e) u2 = some (rs', nI e) ∧ SPO n f M t c cap d K0 S0 Q0 s0 l0 ql z u1 u2 cs0 rs0 o e it cs' rs' := by
  obtain ⟨k1, k2, k3, k4⟩ := g.os.od
  obtain ⟨y1, y2, y3⟩ := g.kx
  have e60 := g.os.e60
  have g1 := g.markr (v := 0)
  unfold c_X9_readSelect_b83 m_selectOf_b356
  rw [ckE_ok g.b.h.o, ob_s]
  obtain ⟨r1, hr1⟩ : ∃ x, x = setF rs 72 0 := ⟨_, rfl⟩
  rw [← hr1] at g1 ⊢
  have nd := g1.b.jt.need (F := F) (x := 26) hF (by decide) (by decide)
  rw [show nI (swK 26) = 2 by decide] at nd
  rcases nd with ⟨v1, v2, v3⟩ | ⟨v2, v3⟩
  · have g2 := g1.tok v1
    have h02 : kI (sI cs 328 t (nI (i + 1))) 198 o = 0 := (kI_n (by omega)).trans h0
    rw [v2, ob_s, v3, ob_s]
    obtain ⟨c2, hc2⟩ : ∃ x, x = sI cs 328 t (nI (i + 1)) := ⟨_, rfl⟩
    obtain ⟨r2, hr2⟩ : ∃ x, x = setF r1 18 (nI (i + 1)) := ⟨_, rfl⟩
    rw [← hc2] at g2 h02 ⊢
    rw [← hr2] at g2 ⊢
    obtain ⟨c3, r3, q1, q2, q3⟩ := src_g (T := T) (T' := T') (x2 := 0) (x3 := -1) hF g2 (Or.inl rfl) hQ hT1 hT2 hT3 hT4
    rw [ckE_ok g2.b.h.o, ob_s, hR0, hS, q2, ob_s]
    unfold cb_X9_readSources
    rw [ckE_ok g2.b.h.o, ob_s, hR, q1, ob_s]
    obtain ⟨oo, hoo⟩ : ∃ x, x = kK c2 := ⟨_, rfl⟩
    unfold SRO at q3
    rw [← hoo] at q3 ⊢
    show ∃ cs' rs', (Option.bind (c_X9_readSources_b5 F Tr c3 t o oo o) fun cs_23 => c_X9_readSelect_b93 F Ts cs_23 t u1 o) = some (cs', o) ∧ _
    rcases q3 with ⟨i3, s3, lf3, S3, Q3, g3, ob3, v231, v233, v56, v57, v58, v198⟩ | ⟨lf3, fw, ho⟩
    · have h3 : SGP n f M t c cap d K0 S0 Q0 s0 l0 ql z u1 u2 cs0 rs0 o e it gr mi 0 0 oo i3 s3 lf3 S3 Q3 c3 r3 := ⟨g3, ob3⟩
      obtain ⟨c4, w1, w2, w3⟩ := h3.adds (F := F) ⟨by rw [v231]; exact v56, Or.inl v231⟩ (Or.inl ⟨rfl, v57⟩) (Or.inl ⟨v233, v58⟩) ⟨fun _ => v233, fun w => absurd w (by omega)⟩
      obtain ⟨csX, cs', rs', t1, t2, t3, t4⟩ := jn_L (Ts := Ts) hF hR hS hQ hT1 hT2 hT3 hT4 h1 2 1 (F - 1) (F - 1) 0 i3 s3 lf3 S3 Q3 c4 r3 rfl (Nat.le_refl _) (by omega) (by omega) (by decide) w2 (by rw [(w3 198 o (by omega)).i, v198]; exact h02)
      rw [show F - 1 + 1 = F by omega] at t1 t3
      refine ⟨cs', rs', ?_, t3, t4⟩
      unfold c_X9_readSources_b5
      rw [w1, ob_s]
      show (Option.bind (c_X9_readSources_L10 F Tr F c4 t o (nI 0)) _) = _
      rw [t1, ob_s]
      exact t2
    · obtain ⟨csX, t1, t2⟩ := b5_f (F := F) (T := Tr) hF fw ho
      obtain ⟨rs', t3, t4⟩ := m375_f (F := F) (v := F - 1) (T := Tq) (u1 := nI e) (u2 := u2) fw.pb.r
      rw [show F - 1 + 1 = F by omega] at t3
      obtain ⟨cs', t5, t6⟩ := jn_bad (F := F) (T := Ts) (n := n) (f := f) (M := M) (d := d) (Q0 := Q0) (s0 := s0) (ql := ql) (z := z) (e := e) (u1 := u1) (u2 := u2) (rs0 := rs0) t2 (Nat.le_refl _) t4
      refine ⟨cs', rs', ?_, t3, t6⟩
      rw [t1, ob_s]
      exact t5
  · have fw := g1.bad (a := 1) (v := kA cs 353 9 i) (by decide)
    obtain ⟨c3, s1, s2, s3, s4, s5, s6⟩ := src_f (F := F) (T := T) fw.ws
    have fw3 := fw.grow s2 s3 s5 s6
    obtain ⟨csX, t1, t2⟩ := b5_f (F := F) (T := Tr) hF fw3 s4
    obtain ⟨rs', t3, t4⟩ := m375_f (F := F) (v := F - 1) (T := Tq) (u1 := nI e) (u2 := u2) fw.pb.r
    rw [show F - 1 + 1 = F by omega] at t3
    obtain ⟨cs', t5, t6⟩ := jn_bad (F := F) (T := Ts) (n := n) (f := f) (M := M) (d := d) (Q0 := Q0) (s0 := s0) (ql := ql) (z := z) (e := e) (u1 := u1) (u2 := u2) (rs0 := rs0) t2 (by omega) t4
    refine ⟨cs', rs', ?_, ?_, t6⟩
    · rw [v2, ob_s, ckE_ok fw.ws.f.h.o, ob_s, hR0]
      unfold cb_X9_readSources
      rw [ckE_ok fw.ws.f.h.o, ob_s, hR, s1, ob_s]
      show (Option.bind (c_X9_readSources_b5 F Tr c3 t o (kK cs) o) _) = _
      rw [show c_X9_readSources_b5 F Tr c3 t o (kK cs) o = some csX from t1, ob_s]
      exact t5
    · rw [v3, ob_s, hS, msrc_f fw.pb.r, ob_s]
      exact t3

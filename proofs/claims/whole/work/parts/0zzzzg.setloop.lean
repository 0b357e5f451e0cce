/-! the sets of a QUERY -/
theorem bset_y {F κ : Nat} {cs : CS} (h : κ = 10 ∨ κ = 12 ∨ κ = 13) : c_X9_beginsSet F cs (nI κ) = some 1 := by
  unfold c_X9_beginsSet c_X9_beginsSet_b18 c_X9_beginsSet_b23
  rcases h with h | h | h
  · subst h
    rw [if_pos (by decide)]
    rfl
  · subst h
    rw [if_neg (by decide), if_pos (by decide)]
    rfl
  · subst h
    rw [if_neg (by decide), if_neg (by decide), if_pos (by decide)]
    rfl
theorem bset_n {F κ : Nat} {cs : CS} (h : κ ≠ 10 ∧ κ ≠ 12 ∧ κ ≠ 13) (hl : κ ≤ 57) : c_X9_beginsSet F cs (nI κ) = some 0 := by
  unfold c_X9_beginsSet c_X9_beginsSet_b23
  rw [if_neg (show ¬ nI κ = 10 from fun w => h.1 ((nI_eq (b := 10) (by omega) (by decide)).mp w)), if_neg (show ¬ nI κ = 12 from fun w => h.2.1 ((nI_eq (b := 12) (by omega) (by decide)).mp w)), if_neg (show ¬ nI κ = 13 from fun w => h.2.2 ((nI_eq (b := 13) (by omega) (by decide)).mp w))]
  rfl
theorem mq197_f {F : Nat} {T : TG_queryOf} {rs : RS} {q : Int32} (h : FT rs) : m_queryOf_b197 F T rs q = some (rs, q) := by
  unfold m_queryOf_b197 m_queryOf_b456
  rw [iw_f h.g, ob_s, if_pos rfl]
theorem mq122_f {F v : Nat} {T : TG_queryOf} {rs : RS} {q B : Int32} (h : FT rs) : m_queryOf_b122 F T (m_queryOf_L50 F T (v + 1)) rs q 1 B = some (rs, q) := by
  obtain ⟨i, j1, j2⟩ := h.i
  unfold m_queryOf_b122 m_queryOf_b194
  rw [j1, rdI_n j2 (by decide), ob_s, tw_n j1 (iw_f h.g), ob_s, if_pos rfl, tw_n j1 (iw_f h.g), ob_s, if_pos rfl, tw_n j1 (iw_f h.g), ob_s, if_pos rfl, m_queryOf_L50, if_pos rfl]
  exact mq197_f h
theorem set_head {n : Nat} {f : Nat → Int32} {M t c cap : Nat} {d z S0 Q0 s0 l0 m i s lf S Q : Nat} {cs0 cs : CS} {rs0 rs : RS} {F v w : Nat} {T : TC_X9_readQuery} {T' : TG_queryOf} {rc' : RS → Int32 → Int32 → Int32 → Int32 → Option (RS × Int32)} {u3 : Int32} (hF : 10000 ≤ F) (hw : w < 1000) (st : ∀ (a A B pl u5 : Int32) (i : Nat) (cs : CS) (rs : RS), A = (if u5 = 0 then a else 11) → SETR A B → QG n f M t c cap d z S0 Q0 s0 l0 cs0 rs0 m i s lf S Q cs rs → ∃ cs' rs', c_X9_readQuery_b72 F T (c_X9_readQuery_L14 F T v) cs t (kK cs0) (nI w) a pl u5 = some (cs', kK cs0) ∧ rc' rs (nI Q0) 1 B pl = some (rs', nI Q0) ∧ QPO n f M t c cap (d + 1) z S0 Q0 s0 l0 cs0 rs0 (kK cs0) cs' rs') (h0 : ∀ (rs : RS) (a b : Int32), rc' rs (nI Q0) 0 a b = m_queryOf_b197 F T' rs (nI Q0)) (hE : ∃ cs' rs', c_X9_readQuery_b119 F T cs t (kK cs0) = some (cs', kK cs0) ∧ m_queryOf_b197 F T' rs (nI Q0) = some (rs', nI Q0) ∧ QPO n f M t c cap (d + 1) z S0 Q0 s0 l0 cs0 rs0 (kK cs0) cs' rs') (g : QG n f M t c cap d z S0 Q0 s0 l0 cs0 rs0 m i s lf S Q cs rs) : ∃ cs' rs', c_X9_readQuery_L14 F T (v + 1) cs t (kK cs0) (nI w) = some (cs', kK cs0) ∧ m_queryOf_b122 F T' rc' rs (nI Q0) 1 u3 = some (rs', nI Q0) ∧ QPO n f M t c cap (d + 1) z S0 Q0 s0 l0 cs0 rs0 (kK cs0) cs' rs' := by
  have nz : ¬ (1 : Int32) = 0 := by decide
  have o := g.b.h.o
  obtain ⟨p, κ, hk, -, -, kd, hkl, pr⟩ := g.b.jt.tok (F := F)
  have hh := her_ok (F := F) g.b.h g.b.ci g.b.jt.i2
  have i2 := g.b.jt.i2
  have m5 := g.b.jt.may (F := F) (x := 35) hF (by decide) (by decide)
  have m7 := g.b.jt.may (F := F) (x := 37) hF (by decide) (by decide)
  have m8 := g.b.jt.may (F := F) (x := 38) hF (by decide) (by decide)
  rw [show swK 35 = 10 by decide] at m5
  rw [show swK 37 = 12 by decide] at m7
  rw [show swK 38 = 13 by decide] at m8
  obtain ⟨pl, hpl⟩ : ∃ x, x = kA cs 353 9 i := ⟨_, rfl⟩
  rw [← hpl] at hh pr
  rw [c_X9_readQuery_L14, if_neg (show ¬ (2000 : Int32) ≤ nI w by rw [show (2000 : Int32) = nI 2000 by decide]; exact nI_ge (by omega) (by decide)), ckE_ok o, ob_s, kd, ob_s]
  unfold m_queryOf_b122
  rw [g.b.ri, rdI_n i2 (by decide), ob_s, pr]
  rcases m5 with ⟨w1, -, w3, -, w5⟩ | ⟨-, w3, -, κ1, w5, w6, w7⟩
  · have eκ : κ = 10 := (nI_eq (by omega) (by decide)).mp (Option.some.inj (kd.symm.trans w5))
    subst eκ
    have g1 := g.tok w1
    rw [bset_y (Or.inl rfl), ob_s, if_neg nz, ob_s, ob_s, ob_s, hh, ob_s, gI_ok o, ob_s, g.b.ci, nI_1, pI_ok o, ob_s, if_pos (show nI 10 = 10 by decide), w3, ob_s, if_neg nz]
    show ∃ cs' rs', (Option.bind (ckE (sI cs 328 t (nI (i + 1))) 10 t) fun _ => Option.bind (c_X9_accept F (sI cs 328 t (nI (i + 1))) t 11) fun z_26 => if z_26.2 = 0 then (c_X9_readQuery_b71 F T (c_X9_readQuery_L14 F T v) z_26.1 t (kK cs0) (nI w) (nI 10) pl) else (c_X9_readQuery_b72 F T (c_X9_readQuery_L14 F T v) z_26.1 t (kK cs0) (nI w) (nI 10) pl 1)) = some (cs', kK cs0) ∧ (Option.bind (m_takeWord F (setF rs 18 (nI (i + 1))) 36) fun z_40 => if z_40.2 = 0 then (m_queryOf_b158 F T' rc' z_40.1 (nI Q0) 1 pl 2) else (m_queryOf_b158 F T' rc' z_40.1 (nI Q0) 1 pl 1)) = some (rs', nI Q0) ∧ _
    have m6 := g1.b.jt.may (F := F) (x := 36) hF (by decide) (by decide)
    rw [show nI (swK 36) = 11 by decide] at m6
    unfold m_queryOf_b158 m_queryOf_b194 c_X9_readQuery_b71
    rw [ckE_ok g1.b.h.o, ob_s]
    rcases m6 with ⟨a1, a2, a3, -, -⟩ | ⟨a2, a3, -, -⟩
    · rw [a2, ob_s, a3, ob_s, if_neg nz, if_neg nz]
      exact st (nI 10) 11 1 pl 1 _ _ _ (if_neg nz).symm (Or.inr (Or.inl ⟨rfl, rfl⟩)) (g1.tok a1)
    · rw [a2, ob_s, a3, ob_s, if_pos rfl, if_pos rfl]
      exact st (nI 10) 10 2 pl 0 _ _ _ (by rw [if_pos rfl]; decide) (Or.inl ⟨rfl, rfl⟩) g1
  · have n10 : κ ≠ 10 := fun w => w7 ((nI_eq (a := κ1) (b := 10) (by omega) (by decide)).mp (Option.some.inj (w5.symm.trans (by rw [kd, w]))))
    rcases m7 with ⟨b1, -, b3, -, b5⟩ | ⟨-, b3, -, κ2, b5, b6, b7⟩
    · have eκ : κ = 12 := (nI_eq (by omega) (by decide)).mp (Option.some.inj (kd.symm.trans b5))
      subst eκ
      have g1 := g.tok b1
      rw [bset_y (Or.inr (Or.inl rfl)), ob_s, if_neg nz, ob_s, ob_s, ob_s, hh, ob_s, gI_ok o, ob_s, g.b.ci, nI_1, pI_ok o, ob_s, if_neg (show ¬ nI 12 = 10 by decide), w3, ob_s, if_pos rfl, b3, ob_s, if_neg nz]
      unfold m_queryOf_b194 c_X9_readQuery_b71
      exact st (nI 12) 12 3 pl 0 _ _ _ (by rw [if_pos rfl]; decide) (Or.inr (Or.inr (Or.inl ⟨rfl, rfl⟩))) g1
    · have n12 : κ ≠ 12 := fun w => b7 ((nI_eq (a := κ2) (b := 12) (by omega) (by decide)).mp (Option.some.inj (b5.symm.trans (by rw [kd, w]))))
      rcases m8 with ⟨d1, -, d3, -, d5⟩ | ⟨-, d3, -, κ3, d5, d6, d7⟩
      · have eκ : κ = 13 := (nI_eq (by omega) (by decide)).mp (Option.some.inj (kd.symm.trans d5))
        subst eκ
        have g1 := g.tok d1
        rw [bset_y (Or.inr (Or.inr rfl)), ob_s, if_neg nz, ob_s, ob_s, ob_s, hh, ob_s, gI_ok o, ob_s, g.b.ci, nI_1, pI_ok o, ob_s, if_neg (show ¬ nI 13 = 10 by decide), w3, ob_s, if_pos rfl, b3, ob_s, if_pos rfl, d3, ob_s, if_neg nz]
        unfold m_queryOf_b194 c_X9_readQuery_b71
        exact st (nI 13) 13 4 pl 0 _ _ _ (by rw [if_pos rfl]; decide) (Or.inr (Or.inr (Or.inr ⟨rfl, rfl⟩))) g1
      · have n13 : κ ≠ 13 := fun w => d7 ((nI_eq (a := κ3) (b := 13) (by omega) (by decide)).mp (Option.some.inj (d5.symm.trans (by rw [kd, w]))))
        obtain ⟨cs', rs', h1, h2, h3⟩ := hE
        refine ⟨cs', rs', ?_, ?_, h3⟩
        · rw [bset_n ⟨n10, n12, n13⟩ hkl, ob_s, if_pos rfl]
          exact h1
        · rw [w3, ob_s, ob_s, if_pos rfl, b3, ob_s, if_pos rfl, d3, ob_s, if_pos rfl]
          unfold m_queryOf_b194
          rw [h0]
          exact h2
theorem set_L {n : Nat} {f : Nat → Int32} {M t c cap : Nat} {d z S0 Q0 s0 l0 F : Nat} {cs0 : CS} {rs0 : RS} {T : TC_X9_readQuery} {T' : TG_queryOf} (hF : 10000 ≤ F) (hSS : SS n f M t c cap d z T.2.1 T'.2.1) (hE : ∀ (m i s lf S Q : Nat) (cs : CS) (rs : RS), QG n f M t c cap d z S0 Q0 s0 l0 cs0 rs0 m i s lf S Q cs rs → ∃ cs' rs', c_X9_readQuery_b119 F T cs t (kK cs0) = some (cs', kK cs0) ∧ m_queryOf_b197 F T' rs (nI Q0) = some (rs', nI Q0) ∧ QPO n f M t c cap (d + 1) z S0 Q0 s0 l0 cs0 rs0 (kK cs0) cs' rs') : ∀ (k m v v' w i s lf S Q : Nat) (u3 : Int32) (cs : CS) (rs : RS), m + k = 3 → k < v → k < v' → w + k < 1000 → QG n f M t c cap d z S0 Q0 s0 l0 cs0 rs0 m i s lf S Q cs rs → ∃ cs' rs', c_X9_readQuery_L14 F T (v + 1) cs t (kK cs0) (nI w) = some (cs', kK cs0) ∧ m_queryOf_b122 F T' (m_queryOf_L50 F T' (v' + 1)) rs (nI Q0) 1 u3 = some (rs', nI Q0) ∧ QPO n f M t c cap (d + 1) z S0 Q0 s0 l0 cs0 rs0 (kK cs0) cs' rs' := by
  intro k
  induction k with
  | zero =>
    intro m v v' w i s lf S Q u3 cs rs q1 q2 q3 q4 g
    obtain ⟨v1, rfl⟩ : ∃ x, v = x + 1 := ⟨v - 1, by omega⟩
    obtain ⟨v2, rfl⟩ : ∃ x, v' = x + 1 := ⟨v' - 1, by omega⟩
    exact set_head hF (by omega) (fun a A B pl u5 i' cs' rs' e1 e2 g' => set_step hSS e1 e2 (fun cs h => L14_f h) (fun rs h => mq122_f h) (fun _ _ _ _ _ _ _ w => absurd w (by omega)) g') (fun rs a b => by rw [m_queryOf_L50, if_pos rfl]) (hE _ _ _ _ _ _ _ _ g) g
  | succ k ih =>
    intro m v v' w i s lf S Q u3 cs rs q1 q2 q3 q4 g
    obtain ⟨v1, rfl⟩ : ∃ x, v = x + 1 := ⟨v - 1, by omega⟩
    obtain ⟨v2, rfl⟩ : ∃ x, v' = x + 1 := ⟨v' - 1, by omega⟩
    exact set_head hF (by omega) (fun a A B pl u5 i' cs' rs' e1 e2 g' => set_step hSS e1 e2 (fun cs h => L14_f h) (fun rs h => mq122_f h) (fun i2 s2 lf2 S2 Q2 cs2 rs2 w2 g2 => by
      rw [nI_1]
      exact ih (m + 1) v1 v2 (w + 1) i2 s2 lf2 S2 Q2 B cs2 rs2 (by omega) (by omega) (by omega) (by omega) g2) g') (fun rs a b => by rw [m_queryOf_L50, if_pos rfl]) (hE _ _ _ _ _ _ _ _ g) g

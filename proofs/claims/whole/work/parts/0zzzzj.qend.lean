/-! behind the sets of a QUERY: with and without order by -/
theorem q_end {n : Nat} {f : Nat → Int32} {M t c cap : Nat} {d z S0 Q0 s0 l0 m i s lf S Q : Nat} {cs0 cs : CS} {rs0 rs : RS} {F : Nat} {T : TC_X9_readQuery} {T' : TG_queryOf} (hF : 10000 ≤ F) (g : QG n f M t c cap d z S0 Q0 s0 l0 cs0 rs0 m i s lf S Q cs rs) (hO : i < M → c_X9_kind F cs t = some (nI 14) → ∃ cs' rs', c_X9_readOrder F cs t (kK cs0) = some cs' ∧ (Option.bind (wrI rs 65 60 (nI Q0) (kA cs 353 9 i)) fun cs_31 => Option.bind (m_needWord F (setF cs_31 18 ((cs_31.1 18) + 1)) 33) fun cs_32 => m_queryOf_L246 F T' F (setF cs_32 72 0) (nI Q0) 1) = some (rs', nI Q0) ∧ QPO n f M t c cap (d + 1) z S0 Q0 s0 l0 cs0 rs0 (kK cs0) cs' rs') : ∃ cs' rs', c_X9_readQuery_b119 F T cs t (kK cs0) = some (cs', kK cs0) ∧ m_queryOf_b197 F T' rs (nI Q0) = some (rs', nI Q0) ∧ QPO n f M t c cap (d + 1) z S0 Q0 s0 l0 cs0 rs0 (kK cs0) cs' rs' := by
  have nz : ¬ (1 : Int32) = 0 := by decide
  have o := g.b.h.o
  obtain ⟨p, κ, hk, -, -, kd, hkl, pr⟩ := g.b.jt.tok (F := F)
  have i2 := g.b.jt.i2
  have my := g.b.jt.may (F := F) (x := 39) hF (by decide) (by decide)
  rw [show swK 39 = 14 by decide] at my
  unfold c_X9_readQuery_b119 c_X9_readQuery_b133 m_queryOf_b197 m_queryOf_b456
  rcases my with ⟨w1, -, -, w4, w5⟩ | ⟨-, -, w4, κ1, w5, w6, w7⟩
  · obtain ⟨cs', rs', h1, h2, h3⟩ := hO w1 w5
    refine ⟨cs', rs', ?_, ?_, h3⟩
    · rw [ckE_ok o, ob_s, w5, ob_s, if_pos (show nI 14 = 14 by decide), ob_s, h1, ob_s]
    · rw [w4, ob_s, if_neg nz, g.b.ri, rdI_n i2 (by decide), ob_s, pr]
      exact h2
  · refine ⟨cs, rs, ?_, ?_, g.fin⟩
    · rw [ckE_ok o, ob_s, w5, ob_s, if_neg (show ¬ nI κ1 = 14 from fun w => w7 ((nI_eq (b := 14) (by omega) (by decide)).mp w))]
    · rw [w4, ob_s, if_pos rfl]

/-! a SELECT's own words, while one of its SOURCES is checked -/
theorem SLT.ju {n : Nat} {f : Nat → Int32} {M t c s k : Nat} {V : VT} {so e it gr mi ns mg na i lo hi Sl Sh : Nat} {cs cs' : CS} {rs rs' : RS} (h : SLT n f M c s V so e it gr mi ns mg na cs rs) (j : JU t c k so e i lo hi Sl Sh cs rs cs' rs') (hl : so < lo ∧ it < lo ∧ gr < lo) (hn : so ≠ c ∧ so ≠ t ∧ it ≠ c ∧ it ≠ t ∧ gr ≠ c ∧ gr ≠ t) : SLT n f M c s V so e it gr mi ns mg na cs' rs' := by
  obtain ⟨l1, l2, l3⟩ := hl
  obtain ⟨n1, n2, n3', n4, n5, n6⟩ := hn
  have em : EM cs cs' := EM.of (congrArg (fun z => z.2.2) j.c1)
  have a : ∀ x, 192 ≤ x → x ≤ 205 → AT cs cs' x so := fun x _ _ => j.a0 x so (by unfold kX; omega) (by omega)
  have r : ∀ q, 35 ≤ q → q ≤ 48 → q ≠ 46 → rs'.2.2.1 q = rs.2.2.1 q := fun q _ _ _ => j.fr.a (by unfold jK; omega)
  have tk := j.tkf
  have k4 : ∀ col, col = it ∨ col = gr → ∀ x, 96 ≤ x → x ≤ 100 → AT cs cs' x col := fun col hc x _ _ => j.a0 x col (by unfold kX; omega) (by omega)
  refine ⟨em _ h.e6, h.e60, by rw [(a 194 (by omega) (by omega)).r]; exact h.r194, by rw [(a 200 (by omega) (by omega)).r]; exact h.r200, h.ne, by rw [(a 196 (by omega) (by omega)).i]; exact h.i196, h.n3, em _ h.e195, by rw [(a 195 (by omega) (by omega)).p]; exact h.p195, by rw [(a 195 (by omega) (by omega)).l]; exact h.l195, ?_, ?_, ?_, ?_, by rw [r 37 (by omega) (by omega) (by omega)]; exact h.rn, by rw [r 36 (by omega) (by omega) (by omega)]; exact h.ri, by rw [r 39 (by omega) (by omega) (by omega)]; exact h.rg, h.ci.mv em (k4 it (Or.inl rfl)) (r 44 (by omega) (by omega) (by omega)) tk, h.cg.mv em (k4 gr (Or.inr rfl)) (r 47 (by omega) (by omega) (by omega)) tk, h.gn.f' tk (k4 gr (Or.inr rfl) 98 (by omega) (by omega)).b (k4 gr (Or.inr rfl) 99 (by omega) (by omega)).a (r 48 (by omega) (by omega) (by omega)), h.ag.mv em (a 202 (by omega) (by omega)) (a 203 (by omega) (by omega)) (j.a0 65 c (by unfold kX; omega) (by omega)), ?_⟩
  · rw [(a 197 (by omega) (by omega)).i, r 38 (by omega) (by omega) (by omega)]
    exact h.wh.f' tk
  · rw [(a 201 (by omega) (by omega)).i, r 41 (by omega) (by omega) (by omega)]
    exact h.hv.f' tk
  · rw [(a 198 (by omega) (by omega)).i, (a 199 (by omega) (by omega)).i, r 40 (by omega) (by omega) (by omega)]
    exact h.hg
  · rw [(a 192 (by omega) (by omega)).i, (a 193 (by omega) (by omega)).i, r 35 (by omega) (by omega) (by omega)]
    exact h.ds
  · rw [r 42 (by omega) (by omega) (by omega), r 43 (by omega) (by omega) (by omega), (a 202 (by omega) (by omega)).a, (j.a0 66 c (by unfold kX; omega) (by omega)).a]
    exact h.a42

/-! a SOURCE that has been checked is still the SOURCE that was read -/
theorem SRC.jd {P P' : Nat → Nat → Nat → Nat → Nat → Nat → Prop} {X X' : Nat → CS → Prop} {n : Nat} {f : Nat → Int32} {M c s lo hi u ql i oo j : Nat} {cs cs' : CS} {rs rs' : RS} (sc : SRC P X n f M c s lo hi u ql i oo j cs rs) (em : EM cs cs') (aO : ∀ x, 224 ≤ x → x ≤ 235 → x ≠ 234 → AT cs cs' x oo) (tk : TKF cs rs cs' rs') (hV : ∀ x, x < s → VW c cs' rs' x = VW c cs rs x) (r : ∀ q, 49 ≤ q → q ≤ 58 → rs'.2.2.1 q = rs.2.2.1 q) (rl : rs'.2.2.2 52 = rs.2.2.2 52) (hP : ∀ l oi qi, oo + 1 < l → kR cs 225 oo = some oi → rs.2.2.1 53 j = nI qi → qi < 60 → P u ql l hi oi qi → P' u ql l hi oi qi) (xj : X' (oo + 1) cs') : SRC P' X' n f M c s lo hi u ql i oo j cs' rs' := by
  have g : ∀ x, 224 ≤ x → x ≤ 233 → AT cs cs' x oo := fun x x1 x2 => aO x x1 (by omega) (by omega)
  refine ⟨⟨em _ sc.b.e, sc.b.ol, sc.b.oh, ?_, ?_, ?_⟩, ?_, ?_, sc.on.kf (g 233 (by omega) (by omega)).i (by rw [r 58 (by omega) (by omega)]) (Nat.le_refl _) hV tk, ?_⟩
  · obtain ⟨k', k1, k2, k3, k4⟩ := sc.b.nm
    exact ⟨k', k1, by rw [r 55 (by omega) (by omega)]; exact k2, by rw [(g 228 (by omega) (by omega)).j]; exact k3.f tk, by rw [(g 229 (by omega) (by omega)).i, tk.2.1]; exact k4⟩
  · rw [(g 224 (by omega) (by omega)).i, (g 225 (by omega) (by omega)).r, (g 226 (by omega) (by omega)).i, (g 227 (by omega) (by omega)).i, (g 230 (by omega) (by omega)).j, r 49 (by omega) (by omega), r 50 (by omega) (by omega), r 51 (by omega) (by omega), r 53 (by omega) (by omega), r 54 (by omega) (by omega), rl]
    rcases sc.b.kd with y | ⟨y1, y2, y3, y4, oi, qi, lo', y5, y6, y7, y8, y9⟩
    · exact Or.inl y
    · exact Or.inr ⟨y1, y2, y3, y4, oi, qi, lo', y5, y6, y7, y8, hP lo' oi qi y5 y6 y7 y8 y9⟩
  · obtain ⟨cl, c1, c2, c3, c4⟩ := sc.b.cl
    rw [c1] at c2 c3
    exact ⟨oo + 1, rfl, c2, by rw [(aO 235 (by omega) (by omega) (by omega)).r]; exact c3, xj⟩
  · rw [r 56 (by omega) (by omega), (g 231 (by omega) (by omega)).i]
    exact sc.ou
  · rw [r 57 (by omega) (by omega), (g 232 (by omega) (by omega)).i]
    exact sc.jn
  · rw [(g 233 (by omega) (by omega)).i]
    exact sc.o1
/-- a SOURCE seen gives what is left for later -/
theorem SRD.of {PQ : Nat → Nat → Prop} {n : Nat} {f : Nat → Int32} {M s oo e i off m : Nat} {V : VT} {D : Nat → Prop} {cs : CS} {rs : RS} (ps : PSC n f M oo (oo + 1) m (3 * e + i) cs rs) (h4 : kI cs 234 oo = nI off) (cv : CVR V s (kI cs 233 oo) D) (leaf : rs.2.2.1 49 (3 * e + i) ≠ -1 → kR cs 225 oo = none) (inn : ∀ oi qi, qi < 60 → rs.2.2.1 49 (3 * e + i) = -1 → kR cs 225 oo = some oi → rs.2.2.1 53 (3 * e + i) = nI qi → PQ oi qi) : SRD PQ s V D oo e i off m cs rs := by
  refine ⟨ps.cm.sz, h4, ps.cm.m8, cv, fun dd h9 h49 => ?_, fun oi qi w0 w1 w2 => ?_⟩
  · rcases ps.kd with ⟨d, cnt, d6, c4, e1, a49, a5, -⟩ | ⟨qi, ei, -, -, a49, -⟩
    · have ed : d = dd := (nI_eq (by omega) (by omega)).mp (a49.symm.trans h49)
      rw [← ed, e1]
      exact ⟨by omega, a5⟩
    · exact absurd (h49.symm.trans a49) (nI_nm1 (by omega))
  · rcases ps.kd with ⟨d, cnt, d6, c4, e1, a49, a5, -⟩ | ⟨q', ei, p1, p2, a49, p3, p4, p5, -⟩
    · rw [leaf (by rw [a49]; exact nI_nm1 (by omega))] at w1
      cases w1
    · have r2 := inn oi qi w0 a49 w1 w2
      have eq : q' = qi := (nI_eq (by omega) (by omega)).mp (p3.symm.trans w2)
      rw [eq] at p4
      exact ⟨r2, ei, p2, p4, p5⟩

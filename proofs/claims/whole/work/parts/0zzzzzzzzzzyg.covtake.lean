/-! a taken text is covered by its tree -/
def COV7 (rs : RS) : Prop := ∃ S Q, rs.1 34 = nI S ∧ (S ≤ 60 ∧ Q ≤ 60) ∧ ∀ e, e < S → RC7 rs 0 0 S Q 300 0 e
theorem COV7.e7 {a b : RS} (h : COV7 a) (e : E7 a b) : COV7 b := by
  obtain ⟨S, Q, h1, h2, h3⟩ := h
  exact ⟨S, Q, by rw [e.1.1]; exact h1, h2, fun x hx => RC7.mv (e.sb S Q).sr (Nat.le_refl _) (Nat.le_refl _) (Nat.le_refl _) (Nat.le_refl _) 300 0 x (h3 x hx)⟩
theorem mtk_cov {F : Nat} {r r2 : RS} (e2 : mTk F r = some r2) (g : r2.1 21 ≠ 0) : COV7 r2 := by
  unfold mTk at e2
  replace e2 := ob e2; obtain ⟨z4, g4, e2⟩ := e2
  replace e2 := ob e2; obtain ⟨w, gw, e2⟩ := e2
  replace e2 := ob e2; obtain ⟨z6, g6, e2⟩ := e2
  have q4 : E7 _ z4.1 := E7.fe (fe_m_takeWord g4)
  have b4 : BS7 0 0 0 (setF z4.1 75 z4.2) := by
    refine BS7.e7 (a := z4.1) ⟨?_, ?_, ?_, by omega, by omega, by omega⟩ (E7.setF (by omega))
    · rw [q4.1.1]
      rfl
    · rw [q4.1.2.1]
      rfl
    · rw [q4.1.2.2]
      rfl
  have fin : r2 = z6.1 := by
    rcases ite_or e2 with e2 | e2
    · exact (Option.some.inj e2).symm
    · replace e2 := ob e2; obtain ⟨v8, g8, e2⟩ := e2
      rcases ite_or e2 with e2 | e2
      · exact (Option.some.inj e2).symm
      · exact absurd (wrong_0 e2) g
  rw [fin] at g ⊢
  obtain ⟨S', Q', l', k1, k2, k3, k4, k5, k6, k7⟩ := (cov_tab (F := F) 300).1 _ z6.1 z6.2 0 0 0 g6 g b4
  exact ⟨S', Q', k1.s, ⟨k1.sb, k1.qb⟩, fun e he => k7 e (Nat.zero_le _) he⟩
/-- the SOURCES of a select are streams that stand, or QUERIES -/
def FV7 (nst : Nat) (rs : RS) (e : Nat) : Prop := ∃ ns, rs.2.2.1 37 e = nI ns ∧ ns ≤ 3 ∧ ∀ i, i < ns → rs.2.2.1 49 (3 * e + i) = -1 ∨ ∃ d, d < nst ∧ rs.2.2.1 49 (3 * e + i) = nI d ∧ ((rs.2.2.1 51 (3 * e + i) = 0) ∨ (rs.2.2.1 51 (3 * e + i) = 1 ∧ 0 ≤ rs.2.2.2 52 (3 * e + i)))
theorem cov_walk {V : VT} {c s K k nst S Q : Nat} {D : Nat → Prop} {cs : CS} {rs : RS} (s60 : S ≤ 60) (q60 : Q ≤ 60) (s5 : ∀ d, nst ≤ d → d ≤ 9 → rs.2.2.1 5 d = 0) : ∀ (n d Su Sl Ql lo hi oq q e : Nat), QXX V c s cs rs d Su Sl Ql lo hi oq q → JDN c s V D K k cs rs d oq q → RC7 rs 0 0 S Q n q e → FV7 nst rs e := by
  intro n
  induction n with
  | zero => exact fun _ _ _ _ _ _ _ _ _ _ _ h => h.elim
  | succ n ih =>
    intro d Su Sl Ql lo hi oq q e qx jd rc
    cases d with
    | zero => exact qx.elim
    | succ d =>
      have w : QRYX (QXX V c s cs rs d) XJ V c s Sl Su Ql lo hi oq q cs rs := qx
      obtain ⟨L, m, lb, ub, wb, l1, l4, l5, l6, l7, l8, l9, l10, l11, lw, l14, so0, l15, l16⟩ := w.ls
      obtain ⟨j1, j2, L', m', j3, j4, j5, j6, j7, j8, j9⟩ := jd
      have eL : L' = L := Option.some.inj (j5.symm.trans l1)
      rw [eL] at j3 j4 j6 j8
      have em : m' = m := (nI_eq (by omega) (by omega)).mp (j6.symm.trans l8)
      rw [em] at j8
      obtain ⟨-, kk, m7, e', r1, r2, r3, r4, ⟨-, r5⟩, r6⟩ := rc
      have em7 : m7 = m := (nI_eq (by omega) (by omega)).mp (r1.symm.trans l9)
      rw [em7] at r3
      obtain ⟨so, e1, t1, t2, t3, t4, ⟨it, gr, mi, ns, mg, o, ap, m1, n1, mgk⟩, t6⟩ := l14 kk r3
      have e60 := o.e60
      have ee : e1 = e' := (nI_eq (by omega) (by omega)).mp (t2.symm.trans r4)
      rw [ee] at o e60
      obtain ⟨so2, e2, u1, u2', u3⟩ := j8 kk r3
      have eso : so2 = so := Option.some.inj (u1.symm.trans t1)
      obtain ⟨-, -, it', gr', mi', mg', na, ns', x1, x2, x3, x4, x5, x6, x7, x8, x9, x10, x11, x12, x13, ⟨x14, e60'⟩, x15, x16, x17, x18, x19, x20⟩ := u3
      have ee2 : e2 = e' := (nI_eq (by omega) (by omega)).mp (u2'.symm.trans r4)
      rw [eso] at x10 x20
      rw [ee2] at x20
      have n3 := o.n3
      have ens : ns' = ns := (nI_eq (by omega) (by omega)).mp (x10.symm.trans o.i196)
      rw [ens] at x20
      obtain ⟨b, u, v, b0, b1, b2, b3, b4, sr⟩ := o.so
      rcases r6 with r6 | ⟨i, ns7, q', y1, y2, y3, y4, y5, y6⟩
      · rw [r6]
        refine ⟨ns, o.rn, n3, ?_⟩
        intro i y3
        obtain ⟨oo, z1, z2⟩ := sr i y3
        rcases z2.b.kd with ⟨dd, d9, d1, d2, d3, d4, d5, d6⟩ | ⟨-, d2, -⟩
        · refine Or.inr ⟨dd, ?_, d2, ?_⟩
          · obtain ⟨oo', m2, a, h1, h2, h3, h4, h5, h6, h7, h8, h9, h10, h11, h12⟩ := x20 i y3
            obtain ⟨k1, k2⟩ := h11 dd d9 d2
            rcases Nat.lt_or_ge dd nst with w0 | w0
            · exact w0
            · have z := s5 dd w0 d9
              rw [k2] at z
              exact absurd z (nI_ne0 (by omega) (by omega))
          · rcases d6 with ⟨-, k2⟩ | ⟨k1, k2, k3⟩
            · exact Or.inl k2
            · exact Or.inr ⟨k1, by rw [← k2]; exact k3⟩
        · exact Or.inl d2
      · have en : ns7 = ns := (nI_eq (by omega) (by omega)).mp (y1.symm.trans o.rn)
        rw [en] at y3
        obtain ⟨oo, z1, z2⟩ := sr i y3
        rcases z2.b.kd with ⟨dd, d9, d1, d2, -⟩ | ⟨-, -, -, -, oi, qi, lo', -, d6, d7, d8, d9⟩
        · rw [d2] at y4
          exact absurd y4 (nI_nm1 (by omega))
        · have ql : q' < Q := by
            cases n with
            | zero => exact y6.elim
            | succ n => exact y6.1.2
          have eq' : qi = q' := (nI_eq (by omega) (by omega)).mp (d7.symm.trans y5)
          obtain ⟨oo', m2, a, h1, h2, h3, h4, h5, h6, h7, h8, h9, h10, h11, h12⟩ := x20 i y3
          have eo : oo' = oo := Option.some.inj (h3.symm.trans z1)
          rw [eo] at h12
          obtain ⟨k1, -⟩ := h12 oi qi d8 d6 d7
          rw [eq'] at k1 d9
          exact ih d _ _ _ _ _ oi q' e d9.2 k1 y6

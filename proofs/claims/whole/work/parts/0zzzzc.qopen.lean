/-! an open QUERY in both -/
theorem QRY.hi {P : Nat → Nat → Nat → Nat → Nat → Nat → Nat → Prop} {X : Nat → CS → Prop} {n : Nat} {f : Nat → Int32} {M c s Sl Sb Ql Qb lo hi hi' oq q : Nat} {cs : CS} {rs : RS} (h : QRY P X n f M c s Sl Sb Ql Qb lo hi oq q cs rs) (hh : hi ≤ hi') : QRY P X n f M c s Sl Sb Ql Qb lo hi' oq q cs rs := by
  obtain ⟨d1, d2⟩ := h.od
  refine ⟨h.e4, ⟨d1, by omega⟩, h.qb, ?_, ?_⟩
  · obtain ⟨L, m, lb, ub, wb, l1, l2, l3, l4, l5, l6, l7, l8, l9, l10, l11, l12, l13, lw, l14, l15⟩ := h.ls
    exact ⟨L, m, lb, ub, wb, l1, l2, by omega, l4, l5, l6, l7, l8, l9, l10, l11, fun k hk => by
      obtain ⟨a1, a2, a3⟩ := l12 k hk
      exact ⟨a1, by omega, a3⟩, l13, lw, l14, l15⟩
  · rcases h.or' with y | ⟨oc, m, y1, y2, y3, y4⟩
    · exact Or.inl y
    · exact Or.inr ⟨oc, m, y1, y2, by omega, y4⟩
theorem QR.su {X : Nat → CS → Prop} {n : Nat} {f : Nat → Int32} {M c s Sb Qb d Su Su' Sl Ql lo hi hi' oq q : Nat} {cs : CS} {rs : RS} (h : QR X n f M c s Sb Qb cs rs (d + 1) Su Sl Ql lo hi oq q) (h1 : Su ≤ Su') (h2 : Su' ≤ Sb) (hh : hi ≤ hi') : QR X n f M c s Sb Qb cs rs (d + 1) Su' Sl Ql lo hi' oq q := by
  obtain ⟨w0, w⟩ : Su ≤ Sb ∧ QRY (QR X n f M c s Sb Qb cs rs d) X n f M c s Sl Su Ql Qb lo hi oq q cs rs := h
  obtain ⟨L, m, lb, ub, wb, l1, l2, l3, l4, l5, l6, l7, l8, l9, l10, l11, l12, l13, ⟨lw1, lw2, lw3⟩, l14, l15⟩ := w.ls
  exact ⟨h2, (show QRY (QR X n f M c s Sb Qb cs rs d) X n f M c s Sl Su' Ql Qb lo hi oq q cs rs from ⟨w.e4, w.od, w.qb, ⟨L, m, lb, ub, wb, l1, l2, l3, l4, l5, l6, l7, l8, l9, l10, l11, l12, l13, ⟨lw1, lw2, by omega⟩, l14, l15⟩, w.or'⟩).hi hh⟩
theorem SEL.lo {P P' : Nat → Nat → Nat → Nat → Nat → Nat → Nat → Prop} {X : Nat → CS → Prop} {n : Nat} {f : Nat → Int32} {M c s lo hi ql ql' o e : Nat} {cs : CS} {rs : RS} (h : SEL P X n f M c s lo hi ql o e cs rs) (hP : ∀ su sl l h' a b, P su sl ql l h' a b → P' su sl ql' l h' a b) : SEL P' X n f M c s lo hi ql' o e cs rs := by
  obtain ⟨it, gr, mi, ns, mg, g, h2, h3, h4, h5⟩ := h
  refine ⟨it, gr, mi, ns, mg, ⟨g.e6, g.od, g.e60, g.r194, g.r200, g.ci, g.cg, g.e195, g.p195, g.l195, g.i196, g.n3, g.nr3, g.ds, g.ri, g.rn, g.rg, g.wh, g.hv, g.hg, g.is, g.gs, ?_⟩, h2, h3, h4, h5⟩
  obtain ⟨b, u, v, b0, b1, b2, u0, u1, b3⟩ := g.so
  refine ⟨b, u, v, b0, b1, b2, u0, u1, fun k hk => ?_⟩
  obtain ⟨oo, o1, o2⟩ := b3 k hk
  refine ⟨oo, o1, ⟨⟨o2.b.e, o2.b.ol, o2.b.oh, o2.b.nm, ?_, o2.b.cl⟩, o2.ou, o2.jn, o2.on, o2.o1⟩⟩
  rcases o2.b.kd with y | ⟨y1, y2, y3, y4, oi, qi, lo', y5, y6, y7, y8, y9⟩
  · exact Or.inl y
  · exact Or.inr ⟨y1, y2, y3, y4, oi, qi, lo', y5, y6, y7, y8, hP _ _ _ _ _ _ y9⟩
def QG (n : Nat) (f : Nat → Int32) (M t c cap d z S0 Q0 s0 l0 : Nat) (cs0 : CS) (rs0 : RS) (m i s lf S Q : Nat) (cs : CS) (rs : RS) : Prop := (BG n f M t c cap i z s lf S Q cs rs) ∧ (PD t c (kK cs0) S0 Q0 s0 l0 cs0 rs0 cs rs) ∧ (QR X0 n f M c s S Q cs rs (d + 1) S S0 Q0 (kK cs0) (kK cs) (kK cs0) Q0) ∧ (SM t lf S cs rs) ∧ (kR cs 330 t = kR cs0 330 t) ∧ (rs.1 71 = rs0.1 71) ∧ (rs.2.2.1 60 Q0 = nI m) ∧ (kR cs 130 (kK cs0) = none) ∧ (S0 < S ∧ Q0 < Q ∧ Q ≤ S ∧ s0 ≤ s ∧ l0 + m ≤ lf ∧ 1 ≤ m) ∧ (t < kK cs0 ∧ c < kK cs0 ∧ 37 < kK cs0) ∧ (kK cs + 40 * S0 + 40 * l0 + 16 ≤ kK cs0 + 40 * S + 40 * lf) ∧ (kM cs + 400 * S0 + 400 * l0 + 160 ≤ kM cs0 + 400 * S + 400 * lf) ∧ (S + z + 13 * l0 ≤ S0 + 13 * lf) ∧ (S0 ≤ 13 * l0 + z)
theorem QG.b {n : Nat} {f : Nat → Int32} {M t c cap d z S0 Q0 s0 l0 : Nat} {cs0 : CS} {rs0 : RS} {m i s lf S Q : Nat} {cs : CS} {rs : RS} (h : QG n f M t c cap d z S0 Q0 s0 l0 cs0 rs0 m i s lf S Q cs rs) : BG n f M t c cap i z s lf S Q cs rs := h.1
theorem QG.pd {n : Nat} {f : Nat → Int32} {M t c cap d z S0 Q0 s0 l0 : Nat} {cs0 : CS} {rs0 : RS} {m i s lf S Q : Nat} {cs : CS} {rs : RS} (h : QG n f M t c cap d z S0 Q0 s0 l0 cs0 rs0 m i s lf S Q cs rs) : PD t c (kK cs0) S0 Q0 s0 l0 cs0 rs0 cs rs := h.2.1
theorem QG.qr {n : Nat} {f : Nat → Int32} {M t c cap d z S0 Q0 s0 l0 : Nat} {cs0 : CS} {rs0 : RS} {m i s lf S Q : Nat} {cs : CS} {rs : RS} (h : QG n f M t c cap d z S0 Q0 s0 l0 cs0 rs0 m i s lf S Q cs rs) : QR X0 n f M c s S Q cs rs (d + 1) S S0 Q0 (kK cs0) (kK cs) (kK cs0) Q0 := h.2.2.1
theorem QG.sm {n : Nat} {f : Nat → Int32} {M t c cap d z S0 Q0 s0 l0 : Nat} {cs0 : CS} {rs0 : RS} {m i s lf S Q : Nat} {cs : CS} {rs : RS} (h : QG n f M t c cap d z S0 Q0 s0 l0 cs0 rs0 m i s lf S Q cs rs) : SM t lf S cs rs := h.2.2.2.1
theorem QG.r3 {n : Nat} {f : Nat → Int32} {M t c cap d z S0 Q0 s0 l0 : Nat} {cs0 : CS} {rs0 : RS} {m i s lf S Q : Nat} {cs : CS} {rs : RS} (h : QG n f M t c cap d z S0 Q0 s0 l0 cs0 rs0 m i s lf S Q cs rs) : kR cs 330 t = kR cs0 330 t := h.2.2.2.2.1
theorem QG.r7 {n : Nat} {f : Nat → Int32} {M t c cap d z S0 Q0 s0 l0 : Nat} {cs0 : CS} {rs0 : RS} {m i s lf S Q : Nat} {cs : CS} {rs : RS} (h : QG n f M t c cap d z S0 Q0 s0 l0 cs0 rs0 m i s lf S Q cs rs) : rs.1 71 = rs0.1 71 := h.2.2.2.2.2.1
theorem QG.r60 {n : Nat} {f : Nat → Int32} {M t c cap d z S0 Q0 s0 l0 : Nat} {cs0 : CS} {rs0 : RS} {m i s lf S Q : Nat} {cs : CS} {rs : RS} (h : QG n f M t c cap d z S0 Q0 s0 l0 cs0 rs0 m i s lf S Q cs rs) : rs.2.2.1 60 Q0 = nI m := h.2.2.2.2.2.2.1
theorem QG.o13 {n : Nat} {f : Nat → Int32} {M t c cap d z S0 Q0 s0 l0 : Nat} {cs0 : CS} {rs0 : RS} {m i s lf S Q : Nat} {cs : CS} {rs : RS} (h : QG n f M t c cap d z S0 Q0 s0 l0 cs0 rs0 m i s lf S Q cs rs) : kR cs 130 (kK cs0) = none := h.2.2.2.2.2.2.2.1
theorem QG.ix {n : Nat} {f : Nat → Int32} {M t c cap d z S0 Q0 s0 l0 : Nat} {cs0 : CS} {rs0 : RS} {m i s lf S Q : Nat} {cs : CS} {rs : RS} (h : QG n f M t c cap d z S0 Q0 s0 l0 cs0 rs0 m i s lf S Q cs rs) : S0 < S ∧ Q0 < Q ∧ Q ≤ S ∧ s0 ≤ s ∧ l0 + m ≤ lf ∧ 1 ≤ m := h.2.2.2.2.2.2.2.2.1
theorem QG.kx {n : Nat} {f : Nat → Int32} {M t c cap d z S0 Q0 s0 l0 : Nat} {cs0 : CS} {rs0 : RS} {m i s lf S Q : Nat} {cs : CS} {rs : RS} (h : QG n f M t c cap d z S0 Q0 s0 l0 cs0 rs0 m i s lf S Q cs rs) : t < kK cs0 ∧ c < kK cs0 ∧ 37 < kK cs0 := h.2.2.2.2.2.2.2.2.2.1
theorem QG.kr {n : Nat} {f : Nat → Int32} {M t c cap d z S0 Q0 s0 l0 : Nat} {cs0 : CS} {rs0 : RS} {m i s lf S Q : Nat} {cs : CS} {rs : RS} (h : QG n f M t c cap d z S0 Q0 s0 l0 cs0 rs0 m i s lf S Q cs rs) : kK cs + 40 * S0 + 40 * l0 + 16 ≤ kK cs0 + 40 * S + 40 * lf := h.2.2.2.2.2.2.2.2.2.2.1
theorem QG.mr {n : Nat} {f : Nat → Int32} {M t c cap d z S0 Q0 s0 l0 : Nat} {cs0 : CS} {rs0 : RS} {m i s lf S Q : Nat} {cs : CS} {rs : RS} (h : QG n f M t c cap d z S0 Q0 s0 l0 cs0 rs0 m i s lf S Q cs rs) : kM cs + 400 * S0 + 400 * l0 + 160 ≤ kM cs0 + 400 * S + 400 * lf := h.2.2.2.2.2.2.2.2.2.2.2.1
theorem QG.ct {n : Nat} {f : Nat → Int32} {M t c cap d z S0 Q0 s0 l0 : Nat} {cs0 : CS} {rs0 : RS} {m i s lf S Q : Nat} {cs : CS} {rs : RS} (h : QG n f M t c cap d z S0 Q0 s0 l0 cs0 rs0 m i s lf S Q cs rs) : S + z + 13 * l0 ≤ S0 + 13 * lf := h.2.2.2.2.2.2.2.2.2.2.2.2.1
theorem QG.p0 {n : Nat} {f : Nat → Int32} {M t c cap d z S0 Q0 s0 l0 : Nat} {cs0 : CS} {rs0 : RS} {m i s lf S Q : Nat} {cs : CS} {rs : RS} (h : QG n f M t c cap d z S0 Q0 s0 l0 cs0 rs0 m i s lf S Q cs rs) : S0 ≤ 13 * l0 + z := h.2.2.2.2.2.2.2.2.2.2.2.2.2
/-- a step that leaves all alone that was read; what was read stays below kK cs -/
theorem QG.mv {n : Nat} {f : Nat → Int32} {M t c cap : Nat} {d z S0 Q0 s0 l0 m i s lf S Q : Nat} {cs0 cs : CS} {rs0 rs : RS} {i' s' lf' S' Q' : Nat} {cs' : CS} {rs' : RS} (g : QG n f M t c cap d z S0 Q0 s0 l0 cs0 rs0 m i s lf S Q cs rs) (p : PD t c (kK cs) S Q s lf cs rs cs' rs') (b : BG n f M t c cap i' z s' lf' S' Q' cs' rs') (sm : SM t lf' S' cs' rs') (r3 : kR cs' 330 t = kR cs 330 t) (r7 : rs'.1 71 = rs.1 71) (hs : s ≤ s') (hS : S ≤ S') (hQ : Q ≤ Q') (hl : lf ≤ lf') (kr : kK cs' + 40 * S + 40 * lf ≤ kK cs + 40 * S' + 40 * lf') (mr : kM cs' + 400 * S + 400 * lf ≤ kM cs + 400 * S' + 400 * lf') (ct : S' + 13 * lf ≤ S + 13 * lf') (qs : Q' ≤ S') : QG n f M t c cap d z S0 Q0 s0 l0 cs0 rs0 m i' s' lf' S' Q' cs' rs' ∧ QR X0 n f M c s' S' Q' cs' rs' (d + 1) S S0 Q0 (kK cs0) (kK cs) (kK cs0) Q0 := by
  obtain ⟨x1, x2, x3, x4, x5, x6⟩ := g.ix
  obtain ⟨y1, y2, y3⟩ := g.kx
  have hkr := g.kr
  have hmr := g.mr
  have hct := g.ct
  have q' : QR X0 n f M c s' S' Q' cs' rs' (d + 1) S S0 Q0 (kK cs0) (kK cs) (kK cs0) Q0 := QR.keep hs b.s2 (Nat.le_refl _) (Nat.le_refl _) hS hQ (d + 1) S S0 Q0 (kK cs0) (kK cs) (kK cs0) Q0 g.qr (FZ.pd p (Nat.le_refl _) y1 y2) (fun x _ w2 w3 => X0.pd w3 p w2)
  have o2 := (show QRY (QR X0 n f M c s S Q cs rs d) X0 n f M c s S0 S Q0 Q (kK cs0) (kK cs) (kK cs0) Q0 cs rs from g.qr.2).od.2
  have q2 : QR X0 n f M c s' S' Q' cs' rs' (d + 1) S' S0 Q0 (kK cs0) (kK cs') (kK cs0) Q0 := q'.su hS (Nat.le_refl _) p.kk
  exact ⟨⟨b, g.pd.trans (p.le (by omega) (by omega) (by omega) x4 (by omega)), q2, sm, r3.trans g.r3, r7.trans g.r7, (p.qf.2.1 60 Q0 (by omega) (by omega) (by unfold wd; rw [if_neg (by omega), if_neg (by omega), if_neg (by omega), if_neg (by omega), if_neg (by omega)]; exact x2)).trans g.r60, by rw [(p.a0 130 (kK cs0) o2 (by omega) (by omega)).r]; exact g.o13, ⟨by omega, by omega, qs, by omega, by omega, x6⟩, g.kx, by omega, by omega, by omega, g.p0⟩, q'⟩
theorem QG.mv0 {n : Nat} {f : Nat → Int32} {M t c cap : Nat} {d z S0 Q0 s0 l0 m i s lf S Q : Nat} {cs0 cs : CS} {rs0 rs : RS} {i' s' : Nat} {cs' : CS} {rs' : RS} (g : QG n f M t c cap d z S0 Q0 s0 l0 cs0 rs0 m i s lf S Q cs rs) (p : PD t c (kK cs) S Q s lf cs rs cs' rs') (b : BG n f M t c cap i' z s' lf S Q cs' rs') (r3 : kR cs' 330 t = kR cs 330 t) (r7 : rs'.1 71 = rs.1 71) (hs : s ≤ s') (c1 : cs'.1 = cs.1) : QG n f M t c cap d z S0 Q0 s0 l0 cs0 rs0 m i' s' lf S Q cs' rs' := by
  have k1 : kK cs' = kK cs := congrArg (fun z => z.1) c1
  have k2 : kM cs' = kM cs := congrArg (fun z => z.2.1) c1
  exact (g.mv p b (g.sm.keep g.b.kb (Nat.le_refl _) p) r3 r7 hs (Nat.le_refl _) (Nat.le_refl _) (Nat.le_refl _) (by omega) (by omega) (Nat.le_refl _) g.ix.2.2.1).1
theorem QG.tok {n : Nat} {f : Nat → Int32} {M t c cap : Nat} {d z S0 Q0 s0 l0 m i s lf S Q : Nat} {cs0 cs : CS} {rs0 rs : RS} (g : QG n f M t c cap d z S0 Q0 s0 l0 cs0 rs0 m i s lf S Q cs rs) (hi : i < M) : QG n f M t c cap d z S0 Q0 s0 l0 cs0 rs0 m (i + 1) s lf S Q (sI cs 328 t (nI (i + 1))) (setF rs 18 (nI (i + 1))) := g.mv0 ((PD.tx (by omega)).trans (PD.rF (by unfold pR'; omega))) (g.b.next hi) rfl rfl (Nat.le_refl _) rfl
/-- a QUERY without order by is whole -/
theorem QG.fin {n : Nat} {f : Nat → Int32} {M t c cap : Nat} {d z S0 Q0 s0 l0 m i s lf S Q : Nat} {cs0 cs : CS} {rs0 rs : RS} (g : QG n f M t c cap d z S0 Q0 s0 l0 cs0 rs0 m i s lf S Q cs rs) : QPO n f M t c cap (d + 1) z S0 Q0 s0 l0 cs0 rs0 (kK cs0) cs rs := by
  obtain ⟨x1, x2, x3, x4, x5, x6⟩ := g.ix
  have hkr := g.kr
  have hmr := g.mr
  exact Or.inl ⟨i, s, lf, S, Q, g.b, g.pd, g.qr, g.sm, g.r3, g.r7, ⟨x1, x2, x3, x4, by omega⟩, by omega, by omega, g.ct⟩
/-- behind a fault in a SELECT of the QUERY -/
theorem QG.fq {n : Nat} {f : Nat → Int32} {M t c cap : Nat} {d z S0 Q0 s0 l0 m i s lf S Q : Nat} {cs0 cs : CS} {rs0 rs : RS} {o it lf' r : Nat} {cs' : CS} {rs' : RS} (g : QG n f M t c cap d z S0 Q0 s0 l0 cs0 rs0 m i s lf S Q cs rs) (h : FW t c cap (kK cs) S lf cs o it lf' r cs' rs') : FQ t c cap (kK cs0) S0 l0 cs0 lf' r cs' rs' := by
  obtain ⟨x1, x2, x3, x4, x5, x6⟩ := g.ix
  have hkr := g.kr
  have hmr := g.mr
  have h1 := h.kr
  have h2 := h.mr
  have kk := g.pd.kk
  exact ⟨h.pb, h.ws, g.pd.em.trans h.em, fun x j a1 a2 a3 => (g.pd.a0 x j a1 a2 a3).trans (h.a0 x j (by omega) a2 a3), by omega, by omega⟩

/-! a QUERY as it was read: what the class's own check needs of it -/
theorem RT.rtt {n : Nat} {f : Nat → Int32} {M c : Nat} {q s r : Nat} {ma : Bool} {V : VT} {cs : CS} {rs : RS} (h : RT n f M c q ma s r cs rs) (hv : ∀ y, y < s → VW c cs rs y = V y) : ∃ a, RTT V s r a := by
  obtain ⟨a, a1, a2, a3, a4⟩ := h
  exact ⟨a, a1, a2, TR.fr _ _ _ _ (fun x q1 q2 => (hv x (by omega)).symm) (a3 r)⟩
theorem OPT.rot {n : Nat} {f : Nat → Int32} {M c : Nat} {q s : Nat} {ma : Bool} {v w : Int32} {V : VT} {cs : CS} {rs : RS} (h : OPT n f M c q ma s v w cs rs) (hv : ∀ y, y < s → VW c cs rs y = V y) : ROT V s v := by
  rcases h with ⟨h1, -⟩ | ⟨r, h1, -, h3⟩
  · exact Or.inl h1
  · obtain ⟨a, ha⟩ := h3.rtt hv
    exact Or.inr ⟨r, a, h1, ha⟩
theorem AGP.noa {n : Nat} {f : Nat → Int32} {M c : Nat} {β : Option Nat} {s o e it mi : Nat} {cs : CS} {rs : RS} (h : AGP β n f M c s o e it mi cs rs) (hs : s ≤ 120) : NOA c o cs := fun i y h1 h2 h3 h4 => by
  obtain ⟨k, k1, k2, k3, k4, k5, k6⟩ := h.k
  rw [k2] at h2
  have ik := (nI_ltI (a := i) (b := k) h1 (by omega)).mp h2
  obtain ⟨x, x1, x2, x3⟩ := k6 i ik
  have e1 : y = x := (nI_eq (by omega) (by omega)).mp (h3.symm.trans x2)
  rw [e1]
  intro w
  rw [w] at x3
  unfold AGC at x3
  revert x3
  decide
theorem SEL.sst {P : Nat → Nat → Nat → Nat → Nat → Nat → Nat → Prop} {PQ : QPR} {n : Nat} {f : Nat → Int32} {M c : Nat} {V : VT} {s lo hi ql so e : Nat} {cs : CS} {rs : RS} (hs : s ≤ 120) (hv : ∀ y, y < s → VW c cs rs y = V y) (hP : ∀ su sl l h a b, P su sl ql l h a b → PQ l h a) (g : SEL P X0 n f M c s lo hi ql so e cs rs) : SST PQ V c s lo hi so cs := by
  obtain ⟨it, gr, mi, ns, mg, o, ap, m1, n1, -⟩ := g
  obtain ⟨b, u, v, b0, bm, bh, -, -, sr⟩ := o.so
  refine ⟨it, gr, mi, ns, mg, b, ⟨o.od, o.r194, o.r200, o.ci, o.cg, o.i196, o.n3, ?_, o.wh.rot hv, o.hv.rot hv, fun y hy => ?_, fun y hy => ?_, ap.noa hs⟩, o.e6, o.e195, o.p195, o.l195, n1, b0, bm, bh, fun i hi0 => ?_⟩
  · obtain ⟨j, hj⟩ := ap.p
    rw [hj]
    exact fun w => nomatch w
  · obtain ⟨r, h1, -, h3, -⟩ := o.is y hy
    obtain ⟨a, ha⟩ := h3.rtt hv
    exact ⟨r, a, h1, ha⟩
  · obtain ⟨r, j, h1, -, h3, -⟩ := o.gs y hy
    obtain ⟨a, ha⟩ := h3.rtt hv
    exact ⟨r, a, h1, ha⟩
  · obtain ⟨oo, s1, s2⟩ := sr i hi0
    obtain ⟨cl, c1, c2, c3, c4⟩ := s2.b.cl
    rw [c1] at c2 c3 c4
    refine ⟨oo, s1, s2.b.e, s2.b.ol, c2, c3, c4, s2.on.rot hv, ?_⟩
    rcases s2.b.kd with ⟨d, d1, d2, d3, d4, -⟩ | ⟨-, -, -, -, oi, qi, lo', w1, w2, w3, w4, w5⟩
    · exact Or.inl d4
    · exact Or.inr ⟨oi, lo', w2, w1, hP _ _ _ _ _ _ w5⟩
/-- the projection -/
theorem QR.qst {n : Nat} {f : Nat → Int32} {M c : Nat} {V : VT} {s S Q : Nat} {cs : CS} {rs : RS} (hs : s ≤ 120) (hv : ∀ y, y < s → VW c cs rs y = V y) : ∀ (d Su Sl Ql lo hi oq q : Nat), QR X0 n f M c s S Q cs rs d Su Sl Ql lo hi oq q → QST V c s cs d lo hi oq
  | 0, _, _, _, _, _, _, _, h => h.elim
  | d + 1, Su, Sl, Ql, lo, hi, oq, q, ⟨w0, w⟩ => by
    obtain ⟨d1, d2⟩ := w.od
    obtain ⟨L, m, lb, ub, wb, l1, l2, l3, l4, l5, l6, l7, l8, l9, l10, l11, l12, l13, lw, l14, so0, l15, l16⟩ := w.ls
    obtain ⟨so1, e0, y1, y2, y0, y3, ⟨it, gr, mi, ns, mg, o1, -⟩, -⟩ := l14 0 (by omega)
    have es : so1 = so0 := Option.some.inj (y1.symm.trans l15)
    have r129 : kR cs 129 oq = some it := by rw [l16, ← es]; exact o1.r194
    refine ⟨L, m, it, lb, ub, d1, l2, l3, w.e4, l1, l4, l5, l6, l7, l8, l10, l11, r129, fun j hj => ?_, l13, fun j hj => ?_, fun oc ho => ?_⟩
    · obtain ⟨so, e, x1, x2, x0, x3, ⟨it', gr', mi', ns', mg', o2, -⟩, -⟩ := l14 j hj
      obtain ⟨v1, v2, v3, -⟩ := l12 j hj
      have := o2.od
      exact ⟨v1, by omega, v2, v3⟩
    · obtain ⟨so, e, x1, x2, x0, x3, x4, -⟩ := l14 j hj
      refine ⟨so, x1, x4.sst hs hv (fun su sl l h a b w => QR.qst hs hv d su sl (q + 1) l h a b w.2), fun j0 => ?_⟩
      rw [j0] at x1
      have e2 : so = so0 := Option.some.inj (x1.symm.trans l15)
      rw [e2, ← l16]
      exact r129
    · rcases w.or' with ⟨z1, -⟩ | ⟨oc', mo, z1, z2, z3, z4, z5, z6, z7, z8, z9, z10⟩
      · rw [z1] at ho
        cases ho
      · have eo : oc' = oc := Option.some.inj (z1.symm.trans ho)
        rw [eo] at z2 z3 z4 z10
        refine ⟨z2, z3, fun j hj => (l12 j hj).2.2.2 oc ho, mo, z4, fun y hy => ?_, fun y r a hy hr rt => ?_⟩
        · obtain ⟨r, h1, -, h3, -⟩ := z10 y hy
          obtain ⟨a, ha⟩ := h3.rtt hv
          exact ⟨r, a, h1, ha⟩
        · obtain ⟨r', h1, -, h3, -⟩ := z10 y hy
          obtain ⟨a', q1, q2, q3, q4⟩ := h3
          have er : r' = r := (nI_eq (by omega) (by have := rt.2.1; omega)).mp (h1.symm.trans hr)
          rw [er] at q1 q2 q3 q4
          have ea : a' = a := by
            have t1 : TR V (r + 1 - a') r a' r := TR.fr _ _ _ _ (fun x q1 q2 => (hv x (by omega)).symm) (q3 r)
            have v1 := RTT.vf (s := s) ⟨q1, q2, t1⟩
            exact (nI_eq (by omega) (by have := rt.1; omega)).mp (v1.symm.trans rt.vf)
          rw [ea] at q4
          intro z z1 z2 w
          have e := hv z (by omega)
          have w' : AGN (VW c cs rs) z := by
            unfold AGC vk at w
            unfold AGN vk
            rw [e]
            exact w
          exact absurd (q4.an z z1 (by omega) w').1 (by decide)

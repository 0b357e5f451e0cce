/-! a SELECT that was read, as its checking sees it -/
theorem SLT.of {β : Option Nat} {P : Nat → Nat → Nat → Nat → Nat → Nat → Nat → Prop} {X : Nat → CS → Prop} {n : Nat} {f : Nat → Int32} {M c s lo hi ql o e it gr mi ns mg : Nat} {V : VT} {cs : CS} {rs : RS} (h : OSA P X n f M c s lo hi ql o e it gr mi ns ns mg cs rs) (g : AGP β n f M c s o e it mi cs rs) (hv : ∀ y, y < s → VW c cs rs y = V y) : ∃ na, SLT n f M c s V o e it gr mi ns mg na cs rs := by
  obtain ⟨d1, d2, d3, d4⟩ := h.od
  obtain ⟨na, k1, k2, k3, k4, k5, k6⟩ := g.k
  refine ⟨na, h.e6, h.e60, h.r194, h.r200, d3, h.i196, h.n3, h.e195, h.p195, h.l195, h.wh.opx hv, h.hv.opx hv, h.hg, h.ds, h.rn, h.ri, h.rg, ⟨h.ci, fun y hy => ?_⟩, ⟨h.cg, fun y hy => ?_⟩, fun y hy => ?_, ⟨h.e6, g.e, g.p, g.l, k2, k1, k6⟩, k3, fun hp => ?_⟩
  · obtain ⟨r, r1, r2, r3, -⟩ := h.is y hy
    obtain ⟨a, ex⟩ := r3.exr hv
    exact ⟨r, a, r1, r2, ex, fun w => absurd w (by omega)⟩
  · obtain ⟨r, j, r1, r2, r3, -⟩ := h.gs y hy
    obtain ⟨a, ex⟩ := r3.exr hv
    exact ⟨r, a, r1, r2, ex, fun w => absurd w (by omega)⟩
  · obtain ⟨r, j, -, -, -, r4, r5, r6, r7⟩ := h.gs y hy
    exact ⟨j, r4, r5, r6, r7⟩
  · obtain ⟨x, x1, x2, x3, -⟩ := k5 hp
    exact ⟨x, x1, x2, x3⟩
theorem SAR.of {P : Nat → Nat → Nat → Nat → Nat → Nat → Nat → Prop} {X : Nat → CS → Prop} {n : Nat} {f : Nat → Int32} {M c s lo hi ql o e it gr mi ns nr mg : Nat} {cs : CS} {rs : RS} (h : OSA P X n f M c s lo hi ql o e it gr mi ns nr mg cs rs) : SAR o ns cs := ⟨h.e6, h.e195, h.p195, h.l195, h.n3⟩
theorem SNM.of {P : Nat → Nat → Nat → Nat → Nat → Nat → Nat → Prop} {X : Nat → CS → Prop} {n : Nat} {f : Nat → Int32} {M c s lo hi ql o e it gr mi ns nr mg : Nat} {cs : CS} {rs : RS} (h : OSA P X n f M c s lo hi ql o e it gr mi ns nr mg cs rs) : SNM n f M o e ns cs rs := fun j hj => by
  obtain ⟨b, u, v, -, -, -, -, -, b3⟩ := h.so
  obtain ⟨oo, q1, q2⟩ := b3 j hj
  obtain ⟨k', k1, k2, k3, k4⟩ := q2.b.nm
  exact ⟨oo, k', q1, q2.b.e, k1, k2, k3, k4⟩

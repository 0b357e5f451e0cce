/-! a SELECT without groups, in both -/
/-- all of a SELECT's types, its own numbers -/
def TSB (PQ : Nat → CS → Prop) (V : VT) (s c so it gr mi ns mg : Nat) (cs : CS) : Prop := (TRU V s c (some so) (nI ns) none (kI cs 197 so) cs) ∧ (COZ V s c cs (some so) (nI ns) none gr mg cs) ∧ (TRU V s c (some so) (nI ns) (gnm cs so gr) (kI cs 201 so) cs) ∧ (COZ V s c cs (some so) (nI ns) (gnm cs so gr) it mi cs) ∧ (∀ i, i < ns → ∃ oo, kQ cs 195 so i = some oo ∧ TSO PQ V s c cs so i oo cs)
theorem TSB.wh {PQ : Nat → CS → Prop} {V : VT} {s c so it gr mi ns mg : Nat} {cs : CS} (h : TSB PQ V s c so it gr mi ns mg cs) : TRU V s c (some so) (nI ns) none (kI cs 197 so) cs := h.1
theorem TSB.gs {PQ : Nat → CS → Prop} {V : VT} {s c so it gr mi ns mg : Nat} {cs : CS} (h : TSB PQ V s c so it gr mi ns mg cs) : COZ V s c cs (some so) (nI ns) none gr mg cs := h.2.1
theorem TSB.hv {PQ : Nat → CS → Prop} {V : VT} {s c so it gr mi ns mg : Nat} {cs : CS} (h : TSB PQ V s c so it gr mi ns mg cs) : TRU V s c (some so) (nI ns) (gnm cs so gr) (kI cs 201 so) cs := h.2.2.1
theorem TSB.is {PQ : Nat → CS → Prop} {V : VT} {s c so it gr mi ns mg : Nat} {cs : CS} (h : TSB PQ V s c so it gr mi ns mg cs) : COZ V s c cs (some so) (nI ns) (gnm cs so gr) it mi cs := h.2.2.2.1
theorem TSB.sr {PQ : Nat → CS → Prop} {V : VT} {s c so it gr mi ns mg : Nat} {cs : CS} (h : TSB PQ V s c so it gr mi ns mg cs) : ∀ i, i < ns → ∃ oo, kQ cs 195 so i = some oo ∧ TSO PQ V s c cs so i oo cs := h.2.2.2.2
theorem TSE.b {PQ : Nat → CS → Prop} {P : Nat → Nat → Nat → Nat → Nat → Nat → Nat → Prop} {X : Nat → CS → Prop} {lo hi ql e it gr mi mg : Nat} {V : VT} {s c so ns : Nat} {cs : CS} {rs : RS} (h : TSE PQ V s c cs so cs) (o : OSX P X V s lo hi ql so e it gr mi ns mg cs rs) : TSB PQ V s c so it gr mi ns mg cs := by
  obtain ⟨it2, gr2, mi2, ns2, mg2, h1, h2, h3, h4, h5, h6, h7, h8, h9, h10, h11⟩ := h
  have e1 : it2 = it := Option.some.inj (h1.symm.trans o.r194)
  have e2 : gr2 = gr := Option.some.inj (h2.symm.trans o.r200)
  rw [e1] at h3 h10
  rw [e2] at h4 h8 h9 h10
  have e3 := h3.same o.ci
  have e4 := h4.same o.cg
  have e5 : ns2 = ns := (nI_eq (by omega) (by have := o.n3; omega)).mp (h5.symm.trans o.i196)
  rw [e3] at h10
  rw [e4] at h8
  rw [e5] at h7 h8 h9 h10 h11
  exact ⟨h7, h8, h9, h10, h11⟩
/-- what the joint check covers of a SELECT -/
def CVB (V : VT) (s so it gr mi mg : Nat) (D : Nat → Prop) (cs : CS) : Prop := (CVR V s (kI cs 197 so) D) ∧ (CVR V s (kI cs 201 so) D) ∧ (∀ z, z < mg → CVR V s (kA cs 97 gr z) D) ∧ (∀ z, z < mi → CVR V s (kA cs 97 it z) D)
theorem CVB.wh {V : VT} {s so it gr mi mg : Nat} {D : Nat → Prop} {cs : CS} (h : CVB V s so it gr mi mg D cs) : CVR V s (kI cs 197 so) D := h.1
theorem CVB.hv {V : VT} {s so it gr mi mg : Nat} {D : Nat → Prop} {cs : CS} (h : CVB V s so it gr mi mg D cs) : CVR V s (kI cs 201 so) D := h.2.1
theorem CVB.gs {V : VT} {s so it gr mi mg : Nat} {D : Nat → Prop} {cs : CS} (h : CVB V s so it gr mi mg D cs) : ∀ z, z < mg → CVR V s (kA cs 97 gr z) D := h.2.2.1
theorem CVB.is {V : VT} {s so it gr mi mg : Nat} {D : Nat → Prop} {cs : CS} (h : CVB V s so it gr mi mg D cs) : ∀ z, z < mi → CVR V s (kA cs 97 it z) D := h.2.2.2
theorem dsb {a b : Int32} (h : (a = 0 ∧ b = -1) ∨ (a = 1 ∧ b ≠ -1)) : ∃ di : Bool, (di = true ↔ a ≠ 0) ∧ (di = true ↔ b ≠ -1) := by
  rcases h with ⟨h1, h2⟩ | ⟨h1, h2⟩
  · exact ⟨false, ⟨fun w => (by cases w), fun w => absurd h1 w⟩, ⟨fun w => (by cases w), fun w => absurd h2 w⟩⟩
  · exact ⟨true, ⟨fun _ => by rw [h1]; decide, fun _ => rfl⟩, ⟨fun _ => h2, fun _ => rfl⟩⟩
/-- without groups -/
theorem EBX.selp {F : Nat} {V : VT} {c cap s ar : Nat} {D : Nat → Prop} {cs : CS} {rs : RS} {so ns : Nat} {w : Nat → Nat} {ty : Nat → Nat → Int32} {P : Nat → Nat → Nat → Nat → Nat → Nat → Nat → Prop} {X : Nat → CS → Prop} {lo hi ql e it gr mi mg : Nat} {PQ : Nat → CS → Prop} (b : EBX F V c cap s ar D cs rs) (o : OSX P X V s lo hi ql so e it gr mi ns mg cs rs) (ap : AGPX (hvr so cs) c s so e it mi cs rs) (m1 : 1 ≤ mi) (te : TSB PQ V s c so it gr mi ns mg cs) (cv : CVB V s so it gr mi mg D cs) (sq : SCQ so ns w ty cs) (W1 : wid w (ns - 1) ≤ 100) (g0 : kI cs 198 so = 0) (a0 : kI cs 203 so ≤ 0) : ∃ (di : Bool) (wh hc : OVF), SLC F c ar so (wid w (ns - 1)) mi false di 0 0 gr it s cap (fun _ => 0) (fun _ => 0) (RWT ns w ty) (RWT ns w ty) wh hc (cvS V c cs it) (cvS V c cs gr) (fun _ _ => none) cs ∧ SLM F e (wid w (ns - 1)) mi false false di 0 wh hc (cvS V c cs it) (cvS V c cs gr) none (fun _ _ _ => none) rs ∧ ∀ y L, y < mi → RWT ns w ty L → kA cs 100 it y = 2 → TV (cvS V c cs it y L) := by
  have n3 := o.n3
  have m8 := o.ci.m8
  obtain ⟨k, k1, k2, k3, -⟩ := ap.k
  have kz : k = 0 := by
    rcases Nat.eq_zero_or_pos k with q | q
    · exact q
    · rw [k2] at a0
      exact absurd a0 (nI_ge (a := 0) q (by omega))
  have noA : ∀ x, ¬ AM so cs x := fun x hx => by
    obtain ⟨j, k', m1', m2, m3, -⟩ := hx
    have := (nI_eq (a := k') (b := k) (by omega) (by omega)).mp (m2.symm.trans k2)
    omega
  have gn : gnm cs so gr = none := if_pos ⟨g0, a0⟩
  have tis := te.is
  have thv := te.hv
  rw [gn] at tis thv
  obtain ⟨wh, w1, w2⟩ := b.whr o.wh te.wh cv.wh sq n3
  have hav : ∃ hc : OVF, OPC F c ar (wid w (ns - 1)) (kI cs 201 so) (RWT ns w ty) hc cs ∧ OPF F (wid w (ns - 1)) (rs.2.2.1 41 e) hc rs := by
    rcases o.hv with ⟨h1, h2⟩ | ⟨r, h1, h2, h3⟩
    · exact ⟨none, h1, h2⟩
    · obtain ⟨a, rt, no⟩ := h3.tw1 noA
      have rs' := rt.2.1
      have s1 := b.s1
      obtain ⟨wt, -⟩ := thv r a h1 rt
      obtain ⟨q1, q2, -⟩ := b.root wt rt no (cv.hv.at' h1 rt) sq n3
      exact ⟨some (evS V c cs r), ⟨r, h1, by omega, q1⟩, ⟨r, h2, by omega, q2⟩⟩
  obtain ⟨hc, h1, h2⟩ := hav
  obtain ⟨i1, i2, i3⟩ := b.cols (rr := fun y => rs.2.2.1 44 (8 * e + y)) o.ci (fun y hy => by
    obtain ⟨r, q1, q2, q3⟩ := o.is y hy
    obtain ⟨a, rt, no⟩ := q3.tw1 noA
    exact ⟨r, a, q1, q2, rt, no⟩) tis cv.is sq n3
  obtain ⟨di, d1, d2⟩ := dsb (a := kI cs 192 so) (b := rs.2.2.1 35 e) (by
    rcases o.ds with ⟨q1, q2⟩ | ⟨q1, -, q2⟩
    · exact Or.inl ⟨q1, q2⟩
    · exact Or.inr ⟨q1, q2⟩)
  have r40 : rs.2.2.1 40 e = -1 := by
    rcases o.hg with ⟨-, q, -⟩ | ⟨q, -⟩
    · exact q
    · rw [g0] at q
      exact absurd q (by decide)
  refine ⟨di, wh, hc, ⟨o.e6, W1, m1, w1, Or.inr ⟨rfl, g0, a0⟩, o.r194, i1, h1, fun w => (by cases w), d1⟩, ⟨o.e60, W1, m8, o.ri, w2, ?_, fun _ => ⟨h2, i2⟩, fun w => (by cases w), d2⟩, i3⟩
  rw [r40, k3, kz]
  decide

/-! the SOURCES of a checked SELECT: places and types of their columns -/
def TY12 (v : Int32) : Prop := v = 1 ∨ v = 2
def ooN (cs : CS) (so i : Nat) : Nat := match kQ cs 195 so i with
  | none => 0
  | some o => o
theorem ooN_is {cs : CS} {so i oo : Nat} (h : kQ cs 195 so i = some oo) : ooN cs so i = oo := by
  unfold ooN
  rw [h]
def owN (cs : CS) (so i : Nat) : Nat := (kI cs 96 (ooN cs so i + 1)).toNatClampNeg
def otN (cs : CS) (so i col : Nat) : Int32 := kA cs 100 (ooN cs so i + 1) col
theorem wd0_s {w : Nat → Nat} : ∀ i, wd0 w (i + 1) = wd0 w i + w i := fun i => by
  cases i with
  | zero => show w 0 = 0 + w 0; omega
  | succ i => rfl
theorem scq_start {PJ : Nat → Nat → Prop} {s lo hi so e ns : Nat} {V : VT} {D : Nat → Prop} {cs : CS} {rs : RS} (sd : ∀ i, i < ns → SDO PJ s V D lo hi so e i cs rs) : ∀ i, i < ns → ∃ oo, kQ cs 195 so i = some oo ∧ kI cs 96 (oo + 1) = nI (owN cs so i) ∧ owN cs so i ≤ 8 ∧ kI cs 234 oo = nI (wd0 (owN cs so) i) ∧ wd0 (owN cs so) i ≤ 100 := fun i => by
  induction i with
  | zero =>
    intro h
    obtain ⟨oo, m, a, h1, h2, h3, h4, h5, h6, h7, h8, -⟩ := sd 0 h
    have ew : owN cs so 0 = m := by
      unfold owN
      rw [ooN_is h3, h4]
      exact nI_clamp (by omega)
    have a0 := h8 rfl
    refine ⟨oo, h3, by rw [ew]; exact h4, by omega, ?_, ?_⟩
    · rw [h5, a0]
      rfl
    · show 0 ≤ 100
      omega
  | succ i ih =>
    intro h
    obtain ⟨oo, m, a, h1, h2, h3, h4, h5, h6, h7, h8, h9, -⟩ := sd (i + 1) h
    obtain ⟨o1, x1, x2, x3, x4, x5⟩ := ih (by omega)
    obtain ⟨oo', m', a', q1, q2, q3, q4, q5, q6⟩ := h9 (by omega)
    rw [Nat.add_sub_cancel] at q3
    have e1 : oo' = o1 := Option.some.inj (q3.symm.trans x1)
    rw [e1] at q4 q5
    have ew : owN cs so (i + 1) = m := by
      unfold owN
      rw [ooN_is h3, h4]
      exact nI_clamp (by omega)
    have e2 : a' = wd0 (owN cs so) i := (nI_eq (by omega) (by omega)).mp (q5.symm.trans x4)
    have e3 : m' = owN cs so i := (nI_eq (by omega) (by omega)).mp (q4.symm.trans x2)
    have e4 : wd0 (owN cs so) (i + 1) = a := by rw [wd0_s]; omega
    exact ⟨oo, h3, by rw [ew]; exact h4, by omega, by rw [h5, e4], by omega⟩
theorem scq_of {P : Nat → Nat → Nat → Nat → Nat → Nat → Nat → Prop} {X : Nat → CS → Prop} {PQ : Nat → CS → Prop} {PJ : Nat → Nat → Prop} {c s lo hi ql lo' hi' so e it gr mi ns mg : Nat} {V : VT} {D : Nat → Prop} {cs : CS} {rs : RS} (o : OSX P X V s lo' hi' ql so e it gr mi ns mg cs rs) (sd : ∀ i, i < ns → SDO PJ s V D lo hi so e i cs rs) (ts : ∀ i, i < ns → ∃ oo, kQ cs 195 so i = some oo ∧ TSO PQ V s c cs so i oo cs) (hin : ∀ i oo oi, i < ns → kQ cs 195 so i = some oo → kR cs 225 oo = some oi → PQ oi cs → ∃ it9, kR cs 129 oi = some it9 ∧ ∀ y, y < 8 → nI y < kI cs 96 (oo + 1) → TY12 (kA cs 100 it9 y)) : SCQ so ns (owN cs so) (otN cs so) cs := fun i hi0 => by
  obtain ⟨oo, x1, x2, x3, x4, x5⟩ := scq_start sd i hi0
  obtain ⟨b, u, v, -, -, -, -, -, sr⟩ := o.so
  obtain ⟨o1, q1, q2⟩ := sr i hi0
  have e1 : o1 = oo := Option.some.inj (q1.symm.trans x1)
  rw [e1] at q2
  obtain ⟨cl, c1, c2, c3, c4⟩ := q2.b.cl
  rw [c1] at c3
  obtain ⟨o2, y1, y2, y3, y4⟩ := ts i hi0
  have e2 : o2 = oo := Option.some.inj (y1.symm.trans x1)
  rw [e2] at y2 y3 y4
  refine ⟨oo, oo + 1, x1, c3, x4, x2, x3, x5, fun col hc => ?_⟩
  have hlt : nI col < kI cs 96 (oo + 1) := by
    rw [x2]
    exact nI_lt hc (by omega)
  have et : otN cs so i col = kA cs 100 (oo + 1) col := by
    unfold otN
    rw [ooN_is x1]
  refine ⟨et.symm, ?_⟩
  rw [et]
  cases h225 : kR cs 225 oo with
  | none =>
    exact Or.inl (y3 h225 col (by omega) hlt)
  | some oi =>
    obtain ⟨p1, p2⟩ := y4 oi h225
    obtain ⟨it9, r1, r2⟩ := hin i oo oi hi0 x1 h225 p1
    rw [p2 it9 r1 col (by omega) hlt]
    exact r2 col (by omega) hlt
/-- the class's SOURCES, for its runs -/
theorem ssc_of {P : Nat → Nat → Nat → Nat → Nat → Nat → Nat → Prop} {PJ : Nat → Nat → Prop} {s lo hi ql lo' hi' so e it gr mi ns mg : Nat} {V : VT} {D : Nat → Prop} {cs : CS} {rs : RS} (o : OSX P XJ V s lo' hi' ql so e it gr mi ns mg cs rs) (sd : ∀ i, i < ns → SDO PJ s V D lo hi so e i cs rs) : SSC so ns (owN cs so) (ooN cs so) cs := by
  refine ⟨o.e6, o.i196, o.e195, o.p195, by rw [o.l195]; exact o.n3, by rw [o.l195]; omega, fun i hi0 => ?_⟩
  obtain ⟨oo, x1, x2, x3, x4, x5⟩ := scq_start sd i hi0
  obtain ⟨b, u, v, -, -, -, -, -, sr⟩ := o.so
  obtain ⟨o1, q1, q2⟩ := sr i hi0
  have e1 : o1 = oo := Option.some.inj (q1.symm.trans x1)
  rw [e1] at q2
  obtain ⟨cl, c1, c2, c3, m, cm⟩ := q2.b.cl
  rw [ooN_is x1]
  have em : m = owN cs so i := (nI_eq (by have := cm.m8; omega) (by omega)).mp (cm.sz.symm.trans (by rw [c1]; exact x2))
  rw [em] at cm
  exact ⟨x1, q2.b.e, x4, cl, c3, cm⟩
/-- types of a checked list of columns are 1 or 2 -/
theorem stt_12 (v : Int32) : TY12 (stt v) := by
  unfold stt TY12
  by_cases q : v = 2
  · rw [if_pos q]; exact Or.inr rfl
  · rw [if_neg q]; exact Or.inl rfl
theorem COZ.t12 {V : VT} {s c col m : Nat} {so nm : Option Nat} {sn : Int32} {cs0 cs : CS} (h : COZ V s c cs0 so sn nm col m cs) (ro : ROC V s col m cs0) : ∀ y, y < m → TY12 (kA cs 100 col y) := fun y hy => by
  obtain ⟨r, a, h1, h2⟩ := ro y hy
  rw [(h y r a hy h1 h2).2]
  exact stt_12 _
theorem stt_2 {v : Int32} (h : stt v = 2) : ¬ v &&& 2 = 0 := by
  unfold stt at h
  by_cases q : v = 2
  · rw [q]; decide
  · rw [if_neg q] at h
    exact absurd h (by decide)

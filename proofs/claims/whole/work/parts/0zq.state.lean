/-! both at reading: what holds between two steps -/
def FO (W : Nat → Nat → Prop) (cs cs' : CS) : Prop := cs'.1 = cs.1 ∧ kR cs' = kR cs ∧ kP cs' = kP cs ∧ kQ cs' = kQ cs ∧ kL cs' = kL cs ∧ ∀ t i, ¬ W t i → kI cs' t i = kI cs t i ∧ kJ cs' t i = kJ cs t i ∧ kA cs' t i = kA cs t i ∧ kB cs' t i = kB cs t i
theorem FO.refl {W : Nat → Nat → Prop} (cs : CS) : FO W cs cs := ⟨rfl, rfl, rfl, rfl, rfl, fun _ _ _ => ⟨rfl, rfl, rfl, rfl⟩⟩
theorem FO.trans {W : Nat → Nat → Prop} {a b c : CS} (h : FO W a b) (g : FO W b c) : FO W a c := by
  obtain ⟨h1, h2, h3, h4, h5, h6⟩ := h
  obtain ⟨g1, g2, g3, g4, g5, g6⟩ := g
  exact ⟨g1.trans h1, g2.trans h2, g3.trans h3, g4.trans h4, g5.trans h5, fun t i ht => ⟨(g6 t i ht).1.trans (h6 t i ht).1, (g6 t i ht).2.1.trans (h6 t i ht).2.1, (g6 t i ht).2.2.1.trans (h6 t i ht).2.2.1, (g6 t i ht).2.2.2.trans (h6 t i ht).2.2.2⟩⟩
theorem FO.sI {W : Nat → Nat → Prop} {cs : CS} {t i : Nat} {v : Int32} (h : W t i) : FO W cs (sI cs t i v) := ⟨rfl, rfl, rfl, rfl, rfl, fun x y hx => ⟨if_neg (fun (z : x = t ∧ y = i) => hx (by rw [z.1, z.2]; exact h)), rfl, rfl, rfl⟩⟩
theorem FO.sA {W : Nat → Nat → Prop} {cs : CS} {t i j : Nat} {v : Int32} (h : W t i) : FO W cs (sA cs t i j v) := ⟨rfl, rfl, rfl, rfl, rfl, fun x y hx => ⟨rfl, rfl, if_neg (fun (z : x = t ∧ y = i) => hx (by rw [z.1, z.2]; exact h)), rfl⟩⟩
theorem FO.sB {W : Nat → Nat → Prop} {cs : CS} {t i j : Nat} {v : Int64} (h : W t i) : FO W cs (sB cs t i j v) := ⟨rfl, rfl, rfl, rfl, rfl, fun x y hx => ⟨rfl, rfl, rfl, if_neg (fun (z : x = t ∧ y = i) => hx (by rw [z.1, z.2]; exact h))⟩⟩
theorem FO.e {W : Nat → Nat → Prop} {a b : CS} (h : FO W a b) : kE b = kE a := congrArg (fun z => z.2.2) h.1
theorem Bas.fo {W : Nat → Nat → Prop} {a b : CS} (h : Bas a) (f : FO W a b) : Bas b := by
  have e := f.e
  obtain ⟨-, r, p, -, l, -⟩ := f
  unfold Bas at h ⊢
  rw [e, r, p, l]
  exact h
theorem SH.fo {W : Nat → Nat → Prop} {t c : Nat} {a d : CS} (h : SH t c a) (x : FO W a d) : SH t c d := by
  have e := x.e
  have r := x.2.1
  exact ⟨h.b.fo x, by rw [e]; exact h.o, by rw [r]; exact h.tk, by rw [r]; exact h.rc, by rw [e]; exact h.oc⟩
/-- what reading an EXPR may write: the Text t, its Code c, the Select q -/
def PX (t c q : Nat) (x y : Nat) : Prop := ((x = 320 ∨ x = 321 ∨ x = 328 ∨ x = 329 ∨ x = 331) ∧ y = t) ∨ (x / 32 = 2 ∧ y = c) ∨ ((x = 202 ∨ x = 203) ∧ y = q)
def eR (k : Nat) : Prop := (18 ≤ k ∧ k ≤ 30) ∨ k = 32 ∨ k = 42 ∨ k = 43 ∨ k = 70 ∨ k = 73 ∨ k = 74
theorem TX.fo {n M t c q : Nat} {f : Nat → Int32} {cs cs' : CS} {rs rs' : RS} (h : TX n f M cs rs) (x : FO (PX t c q) cs cs') (y : FR eR rs rs') : TX n f M cs' rs' := by
  have a := (x.2.2.2.2.2 352 9 (by unfold PX; omega)).2.2.1
  have b := (x.2.2.2.2.2 353 9 (by unfold PX; omega)).2.2.1
  have d := (x.2.2.2.2.2 354 9 (by unfold PX; omega)).2.2.2
  have r2 := y.a (k := 2) (by unfold eR; omega)
  have r14 := y.a (k := 14) (by unfold eR; omega)
  have r15 := y.a (k := 15) (by unfold eR; omega)
  have r16 := y.a (k := 16) (by unfold eR; omega)
  have r17 := y.l (k := 17) (by unfold eR; omega)
  refine ⟨h.n2, h.mn, fun k hk => by rw [r2]; exact h.tx k hk, h.by', fun j hj => ?_, fun x y hx hy => by rw [b]; exact h.pm x y hx hy⟩
  obtain ⟨p, κ, k1, k2, k3⟩ := h.tk j hj
  exact ⟨p, κ, k1.keep (by rw [a]) (by rw [b]) (by rw [d]) (by rw [r14]) (by rw [r15]) (by rw [r16]) (by rw [r17]), k2, k3⟩
/-- the Code's arrays -/
def CA (c cap : Nat) (cs : CS) : Prop := ((97, c) ∈ kE cs) ∧ (∃ j, kP cs 65 c = some j) ∧ (kL cs 65 c = cap) ∧ ((98, c) ∈ kE cs) ∧ (∃ j, kP cs 66 c = some j) ∧ (kL cs 66 c = cap) ∧ ((99, c) ∈ kE cs) ∧ (∃ j, kP cs 67 c = some j) ∧ (kL cs 67 c = cap) ∧ ((100, c) ∈ kE cs) ∧ (∃ j, kP cs 68 c = some j) ∧ (kL cs 68 c = cap) ∧ ((101, c) ∈ kE cs) ∧ (∃ j, kP cs 69 c = some j) ∧ (kL cs 69 c = cap) ∧ ((102, c) ∈ kE cs) ∧ (∃ j, kP cs 70 c = some j) ∧ (kL cs 70 c = cap) ∧ ((103, c) ∈ kE cs) ∧ (∃ j, kP cs 71 c = some j) ∧ (kL cs 71 c = cap) ∧ ((104, c) ∈ kE cs) ∧ (∃ j, kP cs 72 c = some j) ∧ (kL cs 72 c = cap) ∧ ((105, c) ∈ kE cs) ∧ (∃ j, kP cs 73 c = some j) ∧ (kL cs 73 c = cap) ∧ ((106, c) ∈ kE cs) ∧ (∃ j, kP cs 74 c = some j) ∧ (kL cs 74 c = cap) ∧ ((107, c) ∈ kE cs) ∧ (∃ j, kP cs 75 c = some j) ∧ (kL cs 75 c = cap)
theorem CA.e65 {c cap : Nat} {cs : CS} (h : CA c cap cs) : (97, c) ∈ kE cs := h.1
theorem CA.p65 {c cap : Nat} {cs : CS} (h : CA c cap cs) : ∃ j, kP cs 65 c = some j := h.2.1
theorem CA.l65 {c cap : Nat} {cs : CS} (h : CA c cap cs) : kL cs 65 c = cap := h.2.2.1
theorem CA.e66 {c cap : Nat} {cs : CS} (h : CA c cap cs) : (98, c) ∈ kE cs := h.2.2.2.1
theorem CA.p66 {c cap : Nat} {cs : CS} (h : CA c cap cs) : ∃ j, kP cs 66 c = some j := h.2.2.2.2.1
theorem CA.l66 {c cap : Nat} {cs : CS} (h : CA c cap cs) : kL cs 66 c = cap := h.2.2.2.2.2.1
theorem CA.e67 {c cap : Nat} {cs : CS} (h : CA c cap cs) : (99, c) ∈ kE cs := h.2.2.2.2.2.2.1
theorem CA.p67 {c cap : Nat} {cs : CS} (h : CA c cap cs) : ∃ j, kP cs 67 c = some j := h.2.2.2.2.2.2.2.1
theorem CA.l67 {c cap : Nat} {cs : CS} (h : CA c cap cs) : kL cs 67 c = cap := h.2.2.2.2.2.2.2.2.1
theorem CA.e68 {c cap : Nat} {cs : CS} (h : CA c cap cs) : (100, c) ∈ kE cs := h.2.2.2.2.2.2.2.2.2.1
theorem CA.p68 {c cap : Nat} {cs : CS} (h : CA c cap cs) : ∃ j, kP cs 68 c = some j := h.2.2.2.2.2.2.2.2.2.2.1
theorem CA.l68 {c cap : Nat} {cs : CS} (h : CA c cap cs) : kL cs 68 c = cap := h.2.2.2.2.2.2.2.2.2.2.2.1
theorem CA.e69 {c cap : Nat} {cs : CS} (h : CA c cap cs) : (101, c) ∈ kE cs := h.2.2.2.2.2.2.2.2.2.2.2.2.1
theorem CA.p69 {c cap : Nat} {cs : CS} (h : CA c cap cs) : ∃ j, kP cs 69 c = some j := h.2.2.2.2.2.2.2.2.2.2.2.2.2.1
theorem CA.l69 {c cap : Nat} {cs : CS} (h : CA c cap cs) : kL cs 69 c = cap := h.2.2.2.2.2.2.2.2.2.2.2.2.2.2.1
theorem CA.e70 {c cap : Nat} {cs : CS} (h : CA c cap cs) : (102, c) ∈ kE cs := h.2.2.2.2.2.2.2.2.2.2.2.2.2.2.2.1
theorem CA.p70 {c cap : Nat} {cs : CS} (h : CA c cap cs) : ∃ j, kP cs 70 c = some j := h.2.2.2.2.2.2.2.2.2.2.2.2.2.2.2.2.1
theorem CA.l70 {c cap : Nat} {cs : CS} (h : CA c cap cs) : kL cs 70 c = cap := h.2.2.2.2.2.2.2.2.2.2.2.2.2.2.2.2.2.1
theorem CA.e71 {c cap : Nat} {cs : CS} (h : CA c cap cs) : (103, c) ∈ kE cs := h.2.2.2.2.2.2.2.2.2.2.2.2.2.2.2.2.2.2.1
theorem CA.p71 {c cap : Nat} {cs : CS} (h : CA c cap cs) : ∃ j, kP cs 71 c = some j := h.2.2.2.2.2.2.2.2.2.2.2.2.2.2.2.2.2.2.2.1
theorem CA.l71 {c cap : Nat} {cs : CS} (h : CA c cap cs) : kL cs 71 c = cap := h.2.2.2.2.2.2.2.2.2.2.2.2.2.2.2.2.2.2.2.2.1
theorem CA.e72 {c cap : Nat} {cs : CS} (h : CA c cap cs) : (104, c) ∈ kE cs := h.2.2.2.2.2.2.2.2.2.2.2.2.2.2.2.2.2.2.2.2.2.1
theorem CA.p72 {c cap : Nat} {cs : CS} (h : CA c cap cs) : ∃ j, kP cs 72 c = some j := h.2.2.2.2.2.2.2.2.2.2.2.2.2.2.2.2.2.2.2.2.2.2.1
theorem CA.l72 {c cap : Nat} {cs : CS} (h : CA c cap cs) : kL cs 72 c = cap := h.2.2.2.2.2.2.2.2.2.2.2.2.2.2.2.2.2.2.2.2.2.2.2.1
theorem CA.e73 {c cap : Nat} {cs : CS} (h : CA c cap cs) : (105, c) ∈ kE cs := h.2.2.2.2.2.2.2.2.2.2.2.2.2.2.2.2.2.2.2.2.2.2.2.2.1
theorem CA.p73 {c cap : Nat} {cs : CS} (h : CA c cap cs) : ∃ j, kP cs 73 c = some j := h.2.2.2.2.2.2.2.2.2.2.2.2.2.2.2.2.2.2.2.2.2.2.2.2.2.1
theorem CA.l73 {c cap : Nat} {cs : CS} (h : CA c cap cs) : kL cs 73 c = cap := h.2.2.2.2.2.2.2.2.2.2.2.2.2.2.2.2.2.2.2.2.2.2.2.2.2.2.1
theorem CA.e74 {c cap : Nat} {cs : CS} (h : CA c cap cs) : (106, c) ∈ kE cs := h.2.2.2.2.2.2.2.2.2.2.2.2.2.2.2.2.2.2.2.2.2.2.2.2.2.2.2.1
theorem CA.p74 {c cap : Nat} {cs : CS} (h : CA c cap cs) : ∃ j, kP cs 74 c = some j := h.2.2.2.2.2.2.2.2.2.2.2.2.2.2.2.2.2.2.2.2.2.2.2.2.2.2.2.2.1
theorem CA.l74 {c cap : Nat} {cs : CS} (h : CA c cap cs) : kL cs 74 c = cap := h.2.2.2.2.2.2.2.2.2.2.2.2.2.2.2.2.2.2.2.2.2.2.2.2.2.2.2.2.2.1
theorem CA.e75 {c cap : Nat} {cs : CS} (h : CA c cap cs) : (107, c) ∈ kE cs := h.2.2.2.2.2.2.2.2.2.2.2.2.2.2.2.2.2.2.2.2.2.2.2.2.2.2.2.2.2.2.1
theorem CA.p75 {c cap : Nat} {cs : CS} (h : CA c cap cs) : ∃ j, kP cs 75 c = some j := h.2.2.2.2.2.2.2.2.2.2.2.2.2.2.2.2.2.2.2.2.2.2.2.2.2.2.2.2.2.2.2.1
theorem CA.l75 {c cap : Nat} {cs : CS} (h : CA c cap cs) : kL cs 75 c = cap := h.2.2.2.2.2.2.2.2.2.2.2.2.2.2.2.2.2.2.2.2.2.2.2.2.2.2.2.2.2.2.2.2
theorem CA.fo {W : Nat → Nat → Prop} {c cap : Nat} {a b : CS} (h : CA c cap a) (f : FO W a b) : CA c cap b := by
  have e := f.e
  obtain ⟨-, -, p, -, l, -⟩ := f
  unfold CA at h ⊢
  rw [e, p, l]
  exact h
/-- the SELECT whose aggregates are counted -/
def AGR (t q sel c s : Nat) (cs : CS) (rs : RS) : Prop := (kR cs 330 t = some q) ∧ ((6, q) ∈ kE cs) ∧ ((234, q) ∈ kE cs) ∧ (∃ j, kP cs 202 q = some j) ∧ (kL cs 202 q = 12) ∧ (rs.1 71 = nI sel) ∧ (sel < 60) ∧ (∃ k, k ≤ 12 ∧ kI cs 203 q = nI k ∧ rs.2.2.1 42 sel = nI k ∧ (k = 0 → rs.2.2.1 43 sel = -1) ∧ (0 < k → ∃ x, x < s ∧ kA cs 202 q 0 = nI x ∧ rs.2.2.1 43 sel = kA cs 66 c x ∧ rs.2.2.1 43 sel ≠ -1) ∧ (∀ j, j < k → ∃ x, x < s ∧ kA cs 202 q j = nI x ∧ AGC (kA cs 65 c x)))
theorem AGR.rq {t q sel c s : Nat} {cs : CS} {rs : RS} (h : AGR t q sel c s cs rs) : kR cs 330 t = some q := h.1
theorem AGR.oq {t q sel c s : Nat} {cs : CS} {rs : RS} (h : AGR t q sel c s cs rs) : (6, q) ∈ kE cs := h.2.1
theorem AGR.e {t q sel c s : Nat} {cs : CS} {rs : RS} (h : AGR t q sel c s cs rs) : (234, q) ∈ kE cs := h.2.2.1
theorem AGR.p {t q sel c s : Nat} {cs : CS} {rs : RS} (h : AGR t q sel c s cs rs) : ∃ j, kP cs 202 q = some j := h.2.2.2.1
theorem AGR.l {t q sel c s : Nat} {cs : CS} {rs : RS} (h : AGR t q sel c s cs rs) : kL cs 202 q = 12 := h.2.2.2.2.1
theorem AGR.rs' {t q sel c s : Nat} {cs : CS} {rs : RS} (h : AGR t q sel c s cs rs) : rs.1 71 = nI sel := h.2.2.2.2.2.1
theorem AGR.sl {t q sel c s : Nat} {cs : CS} {rs : RS} (h : AGR t q sel c s cs rs) : sel < 60 := h.2.2.2.2.2.2.1
theorem AGR.k {t q sel c s : Nat} {cs : CS} {rs : RS} (h : AGR t q sel c s cs rs) : ∃ k, k ≤ 12 ∧ kI cs 203 q = nI k ∧ rs.2.2.1 42 sel = nI k ∧ (k = 0 → rs.2.2.1 43 sel = -1) ∧ (0 < k → ∃ x, x < s ∧ kA cs 202 q 0 = nI x ∧ rs.2.2.1 43 sel = kA cs 66 c x ∧ rs.2.2.1 43 sel ≠ -1) ∧ (∀ j, j < k → ∃ x, x < s ∧ kA cs 202 q j = nI x ∧ AGC (kA cs 65 c x)) := h.2.2.2.2.2.2.2
/-- no fault yet: i tokens taken, nest z, s nodes -/
def PG (n : Nat) (f : Nat → Int32) (M t c cap q sel : Nat) (ma : Bool) (i z s : Nat) (cs : CS) (rs : RS) : Prop := (SH t c cs) ∧ (TX n f M cs rs) ∧ (kI cs 320 t = 0) ∧ (kI cs 328 t = nI i) ∧ (kI cs 329 t = nI z) ∧ (kI cs 64 c = nI s) ∧ (rs.1 21 = 1) ∧ (rs.1 18 = nI i) ∧ (rs.1 70 = nI z) ∧ (rs.1 22 = nI s) ∧ (i ≤ M) ∧ (s ≤ i) ∧ (s ≤ 120) ∧ (z ≤ 12) ∧ (cap = 120 ∨ (cap = n ∧ n ≤ 120)) ∧ (CA c cap cs) ∧ (kI cs 331 t = if ma = true then 1 else 0) ∧ ((ma = true ∧ rs.1 72 = 1 ∧ rs.1 73 = 0) ∨ (ma = false ∧ (rs.1 72 = 0 ∨ rs.1 73 = 1))) ∧ (ma = true → AGR t q sel c s cs rs)
theorem PG.h {n : Nat} {f : Nat → Int32} {M t c cap q sel : Nat} {ma : Bool} {i z s : Nat} {cs : CS} {rs : RS} (h : PG n f M t c cap q sel ma i z s cs rs) : SH t c cs := h.1
theorem PG.x {n : Nat} {f : Nat → Int32} {M t c cap q sel : Nat} {ma : Bool} {i z s : Nat} {cs : CS} {rs : RS} (h : PG n f M t c cap q sel ma i z s cs rs) : TX n f M cs rs := h.2.1
theorem PG.f0 {n : Nat} {f : Nat → Int32} {M t c cap q sel : Nat} {ma : Bool} {i z s : Nat} {cs : CS} {rs : RS} (h : PG n f M t c cap q sel ma i z s cs rs) : kI cs 320 t = 0 := h.2.2.1
theorem PG.ci {n : Nat} {f : Nat → Int32} {M t c cap q sel : Nat} {ma : Bool} {i z s : Nat} {cs : CS} {rs : RS} (h : PG n f M t c cap q sel ma i z s cs rs) : kI cs 328 t = nI i := h.2.2.2.1
theorem PG.cz {n : Nat} {f : Nat → Int32} {M t c cap q sel : Nat} {ma : Bool} {i z s : Nat} {cs : CS} {rs : RS} (h : PG n f M t c cap q sel ma i z s cs rs) : kI cs 329 t = nI z := h.2.2.2.2.1
theorem PG.cn {n : Nat} {f : Nat → Int32} {M t c cap q sel : Nat} {ma : Bool} {i z s : Nat} {cs : CS} {rs : RS} (h : PG n f M t c cap q sel ma i z s cs rs) : kI cs 64 c = nI s := h.2.2.2.2.2.1
theorem PG.g1 {n : Nat} {f : Nat → Int32} {M t c cap q sel : Nat} {ma : Bool} {i z s : Nat} {cs : CS} {rs : RS} (h : PG n f M t c cap q sel ma i z s cs rs) : rs.1 21 = 1 := h.2.2.2.2.2.2.1
theorem PG.ri {n : Nat} {f : Nat → Int32} {M t c cap q sel : Nat} {ma : Bool} {i z s : Nat} {cs : CS} {rs : RS} (h : PG n f M t c cap q sel ma i z s cs rs) : rs.1 18 = nI i := h.2.2.2.2.2.2.2.1
theorem PG.rz {n : Nat} {f : Nat → Int32} {M t c cap q sel : Nat} {ma : Bool} {i z s : Nat} {cs : CS} {rs : RS} (h : PG n f M t c cap q sel ma i z s cs rs) : rs.1 70 = nI z := h.2.2.2.2.2.2.2.2.1
theorem PG.rn {n : Nat} {f : Nat → Int32} {M t c cap q sel : Nat} {ma : Bool} {i z s : Nat} {cs : CS} {rs : RS} (h : PG n f M t c cap q sel ma i z s cs rs) : rs.1 22 = nI s := h.2.2.2.2.2.2.2.2.2.1
theorem PG.im {n : Nat} {f : Nat → Int32} {M t c cap q sel : Nat} {ma : Bool} {i z s : Nat} {cs : CS} {rs : RS} (h : PG n f M t c cap q sel ma i z s cs rs) : i ≤ M := h.2.2.2.2.2.2.2.2.2.2.1
theorem PG.si {n : Nat} {f : Nat → Int32} {M t c cap q sel : Nat} {ma : Bool} {i z s : Nat} {cs : CS} {rs : RS} (h : PG n f M t c cap q sel ma i z s cs rs) : s ≤ i := h.2.2.2.2.2.2.2.2.2.2.2.1
theorem PG.s2 {n : Nat} {f : Nat → Int32} {M t c cap q sel : Nat} {ma : Bool} {i z s : Nat} {cs : CS} {rs : RS} (h : PG n f M t c cap q sel ma i z s cs rs) : s ≤ 120 := h.2.2.2.2.2.2.2.2.2.2.2.2.1
theorem PG.z2 {n : Nat} {f : Nat → Int32} {M t c cap q sel : Nat} {ma : Bool} {i z s : Nat} {cs : CS} {rs : RS} (h : PG n f M t c cap q sel ma i z s cs rs) : z ≤ 12 := h.2.2.2.2.2.2.2.2.2.2.2.2.2.1
theorem PG.cp {n : Nat} {f : Nat → Int32} {M t c cap q sel : Nat} {ma : Bool} {i z s : Nat} {cs : CS} {rs : RS} (h : PG n f M t c cap q sel ma i z s cs rs) : cap = 120 ∨ (cap = n ∧ n ≤ 120) := h.2.2.2.2.2.2.2.2.2.2.2.2.2.2.1
theorem PG.ca {n : Nat} {f : Nat → Int32} {M t c cap q sel : Nat} {ma : Bool} {i z s : Nat} {cs : CS} {rs : RS} (h : PG n f M t c cap q sel ma i z s cs rs) : CA c cap cs := h.2.2.2.2.2.2.2.2.2.2.2.2.2.2.2.1
theorem PG.cm {n : Nat} {f : Nat → Int32} {M t c cap q sel : Nat} {ma : Bool} {i z s : Nat} {cs : CS} {rs : RS} (h : PG n f M t c cap q sel ma i z s cs rs) : kI cs 331 t = if ma = true then 1 else 0 := h.2.2.2.2.2.2.2.2.2.2.2.2.2.2.2.2.1
theorem PG.rm {n : Nat} {f : Nat → Int32} {M t c cap q sel : Nat} {ma : Bool} {i z s : Nat} {cs : CS} {rs : RS} (h : PG n f M t c cap q sel ma i z s cs rs) : (ma = true ∧ rs.1 72 = 1 ∧ rs.1 73 = 0) ∨ (ma = false ∧ (rs.1 72 = 0 ∨ rs.1 73 = 1)) := h.2.2.2.2.2.2.2.2.2.2.2.2.2.2.2.2.2.1
theorem PG.ag {n : Nat} {f : Nat → Int32} {M t c cap q sel : Nat} {ma : Bool} {i z s : Nat} {cs : CS} {rs : RS} (h : PG n f M t c cap q sel ma i z s cs rs) : ma = true → AGR t q sel c s cs rs := h.2.2.2.2.2.2.2.2.2.2.2.2.2.2.2.2.2.2
/-- a fault: both tell the same -/
def PB (t c : Nat) (cs : CS) (rs : RS) : Prop := (FS t c cs) ∧ (FT rs) ∧ (kI cs 320 t = rs.1 19) ∧ (kI cs 321 t = rs.1 20)
theorem PB.s {t c : Nat} {cs : CS} {rs : RS} (h : PB t c cs rs) : FS t c cs := h.1
theorem PB.r {t c : Nat} {cs : CS} {rs : RS} (h : PB t c cs rs) : FT rs := h.2.1
theorem PB.e1 {t c : Nat} {cs : CS} {rs : RS} (h : PB t c cs rs) : kI cs 320 t = rs.1 19 := h.2.2.1
theorem PB.e2 {t c : Nat} {cs : CS} {rs : RS} (h : PB t c cs rs) : kI cs 321 t = rs.1 20 := h.2.2.2
theorem PG.i2 {n : Nat} {f : Nat → Int32} {M t c cap q sel : Nat} {ma : Bool} {i z s : Nat} {cs : CS} {rs : RS} (h : PG n f M t c cap q sel ma i z s cs rs) : i < 2001 := by
  have := h.im
  have := h.x.mn
  have := h.x.n2
  omega
/-- both refuse -/
theorem PG.bad {n : Nat} {f : Nat → Int32} {M t c cap q sel : Nat} {ma : Bool} {i z s : Nat} {cs : CS} {rs : RS} {a b : Int32} (h : PG n f M t c cap q sel ma i z s cs rs) (ha : a ≠ 0) : PB t c (sI (sI cs 320 t a) 321 t b) (setF (setF (setF rs 21 0) 19 a) 20 b) := by
  have w : FO (PX t c q) cs (sI (sI cs 320 t a) 321 t b) := (FO.sI (Or.inl ⟨by decide, rfl⟩)).trans (FO.sI (Or.inl ⟨by decide, rfl⟩))
  have e : kI (sI (sI cs 320 t a) 321 t b) 320 t = a := by
    show u2 (u2 (kI cs) 320 t a) 321 t b 320 t = a
    rw [u2_n (fun q => absurd q.1 (by decide)), u2_s]
  refine ⟨⟨h.h.fo w, by rw [e]; exact ha, i, ?_, h.i2⟩, ⟨rfl, i, h.ri, h.i2⟩, e.trans rfl, u2_s⟩
  show u2 (u2 (kI cs) 320 t a) 321 t b 328 t = nI i
  rw [u2_n (fun q => absurd q.1 (by decide)), u2_n (fun q => absurd q.1 (by decide))]
  exact h.ci
theorem PG.wd {n : Nat} {f : Nat → Int32} {M t c cap q sel : Nat} {ma : Bool} {i z s : Nat} {cs : CS} {rs : RS} (h : PG n f M t c cap q sel ma i z s cs rs) : ∃ p κ, TK n f i p κ cs rs ∧ (i < M → κ < 56) ∧ (i = M → 56 ≤ κ) := h.x.tk i h.im
/-- a step over one token -/
theorem PG.next {n : Nat} {f : Nat → Int32} {M t c cap q sel : Nat} {ma : Bool} {i z s : Nat} {cs : CS} {rs : RS} (h : PG n f M t c cap q sel ma i z s cs rs) (hi : i < M) : PG n f M t c cap q sel ma (i + 1) z s (sI cs 328 t (nI (i + 1))) (setF rs 18 (nI (i + 1))) := by
  have w : FO (PX t c q) cs (sI cs 328 t (nI (i + 1))) := FO.sI (Or.inl ⟨by decide, rfl⟩)
  have g : FR eR rs (setF rs 18 (nI (i + 1))) := FR.setF (Or.inl (by omega))
  have := h.si
  refine ⟨h.h.fo w, h.x.fo w g, ?_, u2_s, ?_, ?_, h.g1, rfl, h.rz, h.rn, hi, by omega, h.s2, h.z2, h.cp, h.ca.fo w, ?_, h.rm, fun y => ?_⟩
  · show u2 (kI cs) 328 t (nI (i + 1)) 320 t = 0
    rw [u2_n (fun q => absurd q.1 (by decide))]; exact h.f0
  · show u2 (kI cs) 328 t (nI (i + 1)) 329 t = nI z
    rw [u2_n (fun q => absurd q.1 (by decide))]; exact h.cz
  · show u2 (kI cs) 328 t (nI (i + 1)) 64 c = nI s
    rw [u2_n (fun q => absurd q.1 (by decide))]; exact h.cn
  · show u2 (kI cs) 328 t (nI (i + 1)) 331 t = _
    rw [u2_n (fun q => absurd q.1 (by decide))]; exact h.cm
  · have a := h.ag y
    obtain ⟨k, k1, k2, k3, k4⟩ := a.k
    refine ⟨a.rq, a.oq, a.e, a.p, a.l, a.rs', a.sl, k, k1, ?_, k3, k4⟩
    show u2 (kI cs) 328 t (nI (i + 1)) 203 q = nI k
    rw [u2_n (fun q => absurd q.1 (by decide))]; exact k2

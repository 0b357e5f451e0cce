/-! cells made: what stays -/
/-- the field x of the object i is the same in both -/
def AT (cs cs' : CS) (x i : Nat) : Prop := kI cs' x i = kI cs x i ∧ kJ cs' x i = kJ cs x i ∧ kR cs' x i = kR cs x i ∧ kP cs' x i = kP cs x i ∧ kA cs' x i = kA cs x i ∧ kB cs' x i = kB cs x i ∧ kQ cs' x i = kQ cs x i ∧ kL cs' x i = kL cs x i
theorem AT.refl {cs : CS} {x i : Nat} : AT cs cs x i := ⟨rfl, rfl, rfl, rfl, rfl, rfl, rfl, rfl⟩
theorem AT.trans {a b c : CS} {x i : Nat} (h : AT a b x i) (g : AT b c x i) : AT a c x i := ⟨g.1.trans h.1, g.2.1.trans h.2.1, g.2.2.1.trans h.2.2.1, g.2.2.2.1.trans h.2.2.2.1, g.2.2.2.2.1.trans h.2.2.2.2.1, g.2.2.2.2.2.1.trans h.2.2.2.2.2.1, g.2.2.2.2.2.2.1.trans h.2.2.2.2.2.2.1, g.2.2.2.2.2.2.2.trans h.2.2.2.2.2.2.2⟩
theorem AT.i {a b : CS} {x i : Nat} (h : AT a b x i) : kI b x i = kI a x i := h.1
theorem AT.j {a b : CS} {x i : Nat} (h : AT a b x i) : kJ b x i = kJ a x i := h.2.1
theorem AT.r {a b : CS} {x i : Nat} (h : AT a b x i) : kR b x i = kR a x i := h.2.2.1
theorem AT.p {a b : CS} {x i : Nat} (h : AT a b x i) : kP b x i = kP a x i := h.2.2.2.1
theorem AT.a {a b : CS} {x i : Nat} (h : AT a b x i) : kA b x i = kA a x i := h.2.2.2.2.1
theorem AT.b {a b : CS} {x i : Nat} (h : AT a b x i) : kB b x i = kB a x i := h.2.2.2.2.2.1
theorem AT.q {a b : CS} {x i : Nat} (h : AT a b x i) : kQ b x i = kQ a x i := h.2.2.2.2.2.2.1
theorem AT.l {a b : CS} {x i : Nat} (h : AT a b x i) : kL b x i = kL a x i := h.2.2.2.2.2.2.2
theorem AT.sI {cs : CS} {t j x i : Nat} {v : Int32} (h : ¬ (x = t ∧ i = j)) : AT cs (sI cs t j v) x i := ⟨u2_n h, rfl, rfl, rfl, rfl, rfl, rfl, rfl⟩
theorem AT.sJ {cs : CS} {t j x i : Nat} {v : Int64} (h : ¬ (x = t ∧ i = j)) : AT cs (sJ cs t j v) x i := ⟨rfl, u2_n h, rfl, rfl, rfl, rfl, rfl, rfl⟩
theorem AT.sR {cs : CS} {t j x i : Nat} {v : Option Nat} (h : ¬ (x = t ∧ i = j)) : AT cs (sR cs t j v) x i := ⟨rfl, rfl, u2_n h, rfl, rfl, rfl, rfl, rfl⟩
theorem AT.sA {cs : CS} {t j y x i : Nat} {v : Int32} (h : ¬ (x = t ∧ i = j)) : AT cs (sA cs t j y v) x i := ⟨rfl, rfl, rfl, rfl, u2_n h, rfl, rfl, rfl⟩
theorem AT.sB {cs : CS} {t j y x i : Nat} {v : Int64} (h : ¬ (x = t ∧ i = j)) : AT cs (sB cs t j y v) x i := ⟨rfl, rfl, rfl, rfl, rfl, u2_n h, rfl, rfl⟩
theorem AT.sQ {cs : CS} {t j y x i : Nat} {v : Option Nat} (h : ¬ (x = t ∧ i = j)) : AT cs (sQ cs t j y v) x i := ⟨rfl, rfl, rfl, rfl, rfl, rfl, u2_n h, rfl⟩
theorem AT.no1 {cs : CS} {X n x i : Nat} (h : i < kK cs) : AT cs (nO cs X n) x i := ⟨if_neg (fun y => by omega), if_neg (fun y => by omega), if_neg (fun y => by omega), if_neg (fun y => by omega), rfl, rfl, rfl, rfl⟩
theorem AT.nA {cs : CS} {t j n x i : Nat} {f : Nat → Int32} {g : Nat → Int64} (h : ¬ (x = t ∧ i = j)) : AT cs (nA cs t j n f g) x i := ⟨rfl, rfl, rfl, u2_n h, u2_n h, u2_n h, u2_n h, u2_n h⟩
theorem AT.fo {W : Nat → Nat → Prop} {a b : CS} {x i : Nat} (h : FO W a b) (g : ¬ W x i) : AT a b x i := by
  obtain ⟨-, r, p, q, l, w⟩ := h
  obtain ⟨w1, w2, w3, w4⟩ := w x i g
  exact ⟨w1, w2, by rw [r], by rw [p], w3, w4, by rw [q], by rw [l]⟩
theorem AT.ng {cs : CS} {X n x i : Nat} (h : ¬ (x / 32 = X ∧ i = kK cs)) : AT cs (nO cs X n) x i := ⟨if_neg h, if_neg h, if_neg h, if_neg h, rfl, rfl, rfl, rfl⟩
/-- every live cell's object has been made -/
def KB (cs : CS) : Prop := ∀ p ∈ kE cs, p.2 < kK cs
/-- what lived lives -/
def EM (a b : CS) : Prop := ∀ p ∈ kE a, p ∈ kE b
theorem EM.refl {a : CS} : EM a a := fun _ h => h
theorem EM.trans {a b c : CS} (h : EM a b) (g : EM b c) : EM a c := fun p x => g p (h p x)
theorem EM.of {a b : CS} (h : kE b = kE a) : EM a b := fun p x => by rw [h]; exact x
theorem KB.of {a b : CS} (h : KB a) (g : b.1 = a.1) : KB b := by
  unfold KB kE kK at h ⊢
  rw [g]
  exact h
theorem nO_E {cs : CS} {X n : Nat} {p : Nat × Nat} : p ∈ kE (nO cs X n) ↔ p ∈ kE cs ∨ p = (X, kK cs) := by
  show p ∈ kE cs ++ [(X, kK cs)] ↔ _
  rw [List.mem_append, List.mem_singleton]
theorem nA_E {cs : CS} {t i n : Nat} {f : Nat → Int32} {g : Nat → Int64} {p : Nat × Nat} : p ∈ kE (nA cs t i n f g) ↔ p ∈ kE cs ∨ p = (32 + t, i) := by
  show p ∈ (if (32 + t, i) ∈ kE cs then kE cs else kE cs ++ [(32 + t, i)]) ↔ _
  by_cases y : (32 + t, i) ∈ kE cs
  · rw [if_pos y]
    constructor
    · exact Or.inl
    · intro h
      rcases h with h | h
      · exact h
      · rw [h]; exact y
  · rw [if_neg y, List.mem_append, List.mem_singleton]
theorem nO_em {cs : CS} {X n : Nat} : EM cs (nO cs X n) := fun _ h => nO_E.mpr (Or.inl h)
theorem nA_em {cs : CS} {t i n : Nat} {f : Nat → Int32} {g : Nat → Int64} : EM cs (nA cs t i n f g) := fun _ h => nA_E.mpr (Or.inl h)
theorem nO_kb {cs : CS} {X n : Nat} (h : KB cs) : KB (nO cs X n) := fun p hp => by
  show p.2 < kK cs + 1
  rcases nO_E.mp hp with y | y
  · have := h p y; omega
  · rw [y]; exact Nat.lt_succ_self _
theorem nA_kb {cs : CS} {t i n : Nat} {f : Nat → Int32} {g : Nat → Int64} (h : KB cs) (hi : i < kK cs) : KB (nA cs t i n f g) := fun p hp => by
  show p.2 < kK cs + 1
  rcases nA_E.mp hp with y | y
  · have := h p y; omega
  · rw [y]; show i < kK cs + 1; omega
theorem nO_new {cs : CS} {X n : Nat} : (X, kK cs) ∈ kE (nO cs X n) := nO_E.mpr (Or.inr rfl)
theorem nA_new {cs : CS} {t i n : Nat} {f : Nat → Int32} {g : Nat → Int64} : (32 + t, i) ∈ kE (nA cs t i n f g) := nA_E.mpr (Or.inr rfl)
theorem nwO_ok {cs : CS} {X n : Nat} (h : KB cs) : nwO cs X n = some (nO cs X n) := if_pos h
theorem nwA_ok {cs : CS} {X t i n : Nat} {x : Int32} (h : (X, i) ∈ kE cs) (hx : x = nI n) (hn : n ≤ 10000000) : nwA cs X t i x = some (nA cs t i n (fun _ => 0) (fun _ => 0)) := by
  have e : x.toNatClampNeg = n := by rw [hx]; exact nI_clamp (by omega)
  unfold nwA
  rw [if_pos ⟨h, by rw [hx]; exact nI_pos (by omega), by rw [e]; exact hn⟩, e]
theorem nO_z {cs : CS} {X n x : Nat} (h : x / 32 = X) : kI (nO cs X n) x (kK cs) = 0 ∧ kJ (nO cs X n) x (kK cs) = 0 ∧ kR (nO cs X n) x (kK cs) = none ∧ kP (nO cs X n) x (kK cs) = none := ⟨if_pos ⟨h, rfl⟩, if_pos ⟨h, rfl⟩, if_pos ⟨h, rfl⟩, if_pos ⟨h, rfl⟩⟩
theorem nA_is {cs : CS} {t i n : Nat} {f : Nat → Int32} {g : Nat → Int64} : kP (nA cs t i n f g) t i = some (kK cs) ∧ kL (nA cs t i n f g) t i = n ∧ kA (nA cs t i n f g) t i = f ∧ kB (nA cs t i n f g) t i = g ∧ kQ (nA cs t i n f g) t i = fun _ => none := ⟨u2_s, u2_s, u2_s, u2_s, u2_s⟩
/-- a list of at most eight columns, m of them laid -/
def CLM (o m : Nat) (cs : CS) : Prop := ((3, o) ∈ kE cs) ∧ ((129, o) ∈ kE cs) ∧ (∃ j, kP cs 97 o = some j) ∧ (kL cs 97 o = 8) ∧ ((130, o) ∈ kE cs) ∧ (∃ j, kP cs 98 o = some j) ∧ (kL cs 98 o = 8) ∧ ((131, o) ∈ kE cs) ∧ (∃ j, kP cs 99 o = some j) ∧ (kL cs 99 o = 8) ∧ ((132, o) ∈ kE cs) ∧ (∃ j, kP cs 100 o = some j) ∧ (kL cs 100 o = 8) ∧ (kI cs 96 o = nI m) ∧ (m ≤ 8)
theorem CLM.e {o m : Nat} {cs : CS} (h : CLM o m cs) : (3, o) ∈ kE cs := h.1
theorem CLM.e97 {o m : Nat} {cs : CS} (h : CLM o m cs) : (129, o) ∈ kE cs := h.2.1
theorem CLM.p97 {o m : Nat} {cs : CS} (h : CLM o m cs) : ∃ j, kP cs 97 o = some j := h.2.2.1
theorem CLM.l97 {o m : Nat} {cs : CS} (h : CLM o m cs) : kL cs 97 o = 8 := h.2.2.2.1
theorem CLM.e98 {o m : Nat} {cs : CS} (h : CLM o m cs) : (130, o) ∈ kE cs := h.2.2.2.2.1
theorem CLM.p98 {o m : Nat} {cs : CS} (h : CLM o m cs) : ∃ j, kP cs 98 o = some j := h.2.2.2.2.2.1
theorem CLM.l98 {o m : Nat} {cs : CS} (h : CLM o m cs) : kL cs 98 o = 8 := h.2.2.2.2.2.2.1
theorem CLM.e99 {o m : Nat} {cs : CS} (h : CLM o m cs) : (131, o) ∈ kE cs := h.2.2.2.2.2.2.2.1
theorem CLM.p99 {o m : Nat} {cs : CS} (h : CLM o m cs) : ∃ j, kP cs 99 o = some j := h.2.2.2.2.2.2.2.2.1
theorem CLM.l99 {o m : Nat} {cs : CS} (h : CLM o m cs) : kL cs 99 o = 8 := h.2.2.2.2.2.2.2.2.2.1
theorem CLM.e100 {o m : Nat} {cs : CS} (h : CLM o m cs) : (132, o) ∈ kE cs := h.2.2.2.2.2.2.2.2.2.2.1
theorem CLM.p100 {o m : Nat} {cs : CS} (h : CLM o m cs) : ∃ j, kP cs 100 o = some j := h.2.2.2.2.2.2.2.2.2.2.2.1
theorem CLM.l100 {o m : Nat} {cs : CS} (h : CLM o m cs) : kL cs 100 o = 8 := h.2.2.2.2.2.2.2.2.2.2.2.2.1
theorem CLM.sz {o m : Nat} {cs : CS} (h : CLM o m cs) : kI cs 96 o = nI m := h.2.2.2.2.2.2.2.2.2.2.2.2.2.1
theorem CLM.m8 {o m : Nat} {cs : CS} (h : CLM o m cs) : m ≤ 8 := h.2.2.2.2.2.2.2.2.2.2.2.2.2.2
theorem CLM.keep {o m : Nat} {a b : CS} (h : CLM o m a) (he : EM a b) (g : ∀ x, 96 ≤ x → x ≤ 100 → AT a b x o) : CLM o m b := by
  have g96 := g 96 (by omega) (by omega)
  have g97 := g 97 (by omega) (by omega)
  have g98 := g 98 (by omega) (by omega)
  have g99 := g 99 (by omega) (by omega)
  have g100 := g 100 (by omega) (by omega)
  exact ⟨he _ h.e, he _ h.e97, by rw [g97.p]; exact h.p97, by rw [g97.l]; exact h.l97, he _ h.e98, by rw [g98.p]; exact h.p98, by rw [g98.l]; exact h.l98, he _ h.e99, by rw [g99.p]; exact h.p99, by rw [g99.l]; exact h.l99, he _ h.e100, by rw [g100.p]; exact h.p100, by rw [g100.l]; exact h.l100, by rw [g96.i]; exact h.sz, h.m8⟩
/-- a column more -/
def adC (cs : CS) (o m : Nat) (r : Int32) (nm : Int64) (mk ty : Int32) : CS := sI (sA (sA (sB (sA cs 97 o m r) 98 o m nm) 99 o m mk) 100 o m ty) 96 o (nI (m + 1))
theorem clm_full {F o m : Nat} {cs : CS} (h : CLM o m cs) : c_X2_isFull F cs o = some (if m < 8 then 0 else 1) := by
  have h8 := h.m8
  unfold c_X2_isFull c_X2_isFull_b14
  rw [gI_ok h.e, ob_s, h.sz]
  by_cases y : m < 8
  · rw [if_pos (show nI m < 8 from nI_lt (b := 8) y (by decide)), if_pos y]; rfl
  · rw [if_neg (show ¬ nI m < 8 from nI_nlt (b := 8) (by omega) (by omega)), if_neg y]; rfl
theorem adC_ok {F o m : Nat} {cs : CS} {r : Int32} {nm : Int64} {mk ty : Int32} (h : CLM o m cs) (hm : m < 8) : c_X2_add F cs o r nm mk ty = some (adC cs o m r nm mk ty) := by
  obtain ⟨j97, p97⟩ := h.p97
  obtain ⟨j98, p98⟩ := h.p98
  obtain ⟨j99, p99⟩ := h.p99
  obtain ⟨j100, p100⟩ := h.p100
  unfold c_X2_add adC
  rw [ckE_ok h.e, ob_s, clm_full h, if_pos hm, ob_s, if_pos rfl, gA_ok h.e, p97, ob_s, gI_ok h.e, ob_s, h.sz, wA_n h.e97 p97 (by rw [h.l97]; exact hm) (by rw [h.l97]; decide), ob_s]
  rw [gA_ok (cs := sA cs 97 o m r) h.e, show kP (sA cs 97 o m r) 98 o = some j98 from p98, ob_s, gI_ok (cs := sA cs 97 o m r) h.e, ob_s, show kI (sA cs 97 o m r) 96 o = nI m from h.sz, wB_n (cs := sA cs 97 o m r) h.e98 p98 (by show m < kL cs 98 o; rw [h.l98]; exact hm) (by show kL cs 98 o < _; rw [h.l98]; decide), ob_s]
  rw [gA_ok (cs := sB (sA cs 97 o m r) 98 o m nm) h.e, show kP (sB (sA cs 97 o m r) 98 o m nm) 99 o = some j99 from p99, ob_s, gI_ok (cs := sB (sA cs 97 o m r) 98 o m nm) h.e, ob_s, show kI (sB (sA cs 97 o m r) 98 o m nm) 96 o = nI m from h.sz, wA_n (cs := sB (sA cs 97 o m r) 98 o m nm) h.e99 p99 (by show m < kL cs 99 o; rw [h.l99]; exact hm) (by show kL cs 99 o < _; rw [h.l99]; decide), ob_s]
  rw [gA_ok (cs := sA (sB (sA cs 97 o m r) 98 o m nm) 99 o m mk) h.e, show kP (sA (sB (sA cs 97 o m r) 98 o m nm) 99 o m mk) 100 o = some j100 from p100, ob_s, gI_ok (cs := sA (sB (sA cs 97 o m r) 98 o m nm) 99 o m mk) h.e, ob_s, show kI (sA (sB (sA cs 97 o m r) 98 o m nm) 99 o m mk) 96 o = nI m from h.sz, wA_n (cs := sA (sB (sA cs 97 o m r) 98 o m nm) 99 o m mk) h.e100 p100 (by show m < kL cs 100 o; rw [h.l100]; exact hm) (by show kL cs 100 o < _; rw [h.l100]; decide), ob_s]
  rw [gI_ok (cs := sA (sA (sB (sA cs 97 o m r) 98 o m nm) 99 o m mk) 100 o m ty) h.e, ob_s, pI_ok (cs := sA (sA (sB (sA cs 97 o m r) 98 o m nm) 99 o m mk) 100 o m ty) h.e, ob_s, show kI (sA (sA (sB (sA cs 97 o m r) 98 o m nm) 99 o m mk) 100 o m ty) 96 o = nI m from h.sz, nI_1]
theorem ad_full {F o m : Nat} {cs : CS} {r : Int32} {nm : Int64} {mk ty : Int32} (h : CLM o m cs) (hm : ¬ m < 8) : c_X2_add F cs o r nm mk ty = some cs := by
  unfold c_X2_add
  rw [ckE_ok h.e, ob_s, clm_full h, if_neg hm, ob_s, if_neg (by decide)]
theorem adC_at {o m x i : Nat} {cs : CS} {r : Int32} {nm : Int64} {mk ty : Int32} (h : ¬ (96 ≤ x ∧ x ≤ 100 ∧ i = o)) : AT cs (adC cs o m r nm mk ty) x i := ((((AT.sA (fun y => h ⟨by omega, by omega, y.2⟩)).trans (AT.sB (fun y => h ⟨by omega, by omega, y.2⟩))).trans (AT.sA (fun y => h ⟨by omega, by omega, y.2⟩))).trans (AT.sA (fun y => h ⟨by omega, by omega, y.2⟩))).trans (AT.sI (fun y => h ⟨by omega, by omega, y.2⟩))
theorem adC_clm {o m : Nat} {cs : CS} {r : Int32} {nm : Int64} {mk ty : Int32} (h : CLM o m cs) (hm : m < 8) : CLM o (m + 1) (adC cs o m r nm mk ty) := ⟨h.e, h.e97, h.p97, h.l97, h.e98, h.p98, h.l98, h.e99, h.p99, h.l99, h.e100, h.p100, h.l100, u2_s, hm⟩
theorem adC_97 {o m : Nat} {cs : CS} {r : Int32} {nm : Int64} {mk ty : Int32} : kA (adC cs o m r nm mk ty) 97 o = upd (kA cs 97 o) m r := by simp [adC, kA_sA, kA_sB, kA_sI, u2]
theorem adC_98 {o m : Nat} {cs : CS} {r : Int32} {nm : Int64} {mk ty : Int32} : kB (adC cs o m r nm mk ty) 98 o = vp_updL (kB cs 98 o) m nm := by simp [adC, kB_sA, kB_sB, kB_sI, u2]
theorem adC_99 {o m : Nat} {cs : CS} {r : Int32} {nm : Int64} {mk ty : Int32} : kA (adC cs o m r nm mk ty) 99 o = upd (kA cs 99 o) m mk := by simp [adC, kA_sA, kA_sB, kA_sI, u2]
theorem adC_1 {o m : Nat} {cs : CS} {r : Int32} {nm : Int64} {mk ty : Int32} : (adC cs o m r nm mk ty).1 = cs.1 := rfl

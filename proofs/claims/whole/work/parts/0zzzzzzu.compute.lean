/-! the class computes the value of an EXPR -/
theorem TR.lf {V : VT} : ∀ (d R a e : Nat), TR V d R a e → LEAF V a
  | 0, _, _, _, h => h.elim
  | d + 1, R, a, e, h => by
    obtain ⟨-, -, -, t⟩ := h
    rcases t with ⟨t1, t2, lf⟩ | ⟨t1, un, t2, t3⟩ | ⟨g, t1, t2, bi, t3, t4, t5, t6⟩ | ⟨g, k, t1, t2, t3, t4, t5, t6, t7, t8, t9, t10, t11, t12⟩ | ⟨m, g, r, t1, t2, t3, t4, t5, nn, t6, t7, t8, t9⟩ | ⟨t1, ak, t2, t3, t4, t5⟩
    · rw [t1]; exact lf
    · exact TR.lf d R a (e - 1) t3
    · exact TR.lf d R a (g - 1) t5
    · exact TR.lf d R a (g - 1) t10
    · exact TR.lf d R a (g - 1) t8
    · exact TR.lf d (e - 1) a (e - 1) t4
/-- no skip from within: a node that is no leaf is not skipped from -/
def NSK (V : VT) (A root : Nat) : Prop := ∀ y, A ≤ y → y ≤ root → LEAF V y ∨ vs V y = -1 ∨ ∃ q, root < q ∧ q < 1000 ∧ vs V y = nI q
theorem NSK.of {V : VT} {s d R A root : Nat} (sk : SKV V s) (hs : s ≤ 120) (hr : root < s) (h : TR V d R A root) : NSK V A root := fun y y1 y2 => by
  rcases sk y (by omega) with z | ⟨q, q1, q2, q3, q4, q5⟩
  · exact Or.inr (Or.inl z)
  · by_cases w : root < q
    · exact Or.inr (Or.inr ⟨q, w, by omega, q3⟩)
    · obtain ⟨b, b1, b2, b3, b4⟩ := TR.suba q5 d R A root h (by omega) (by omega)
      have e : b = y := (nI_eq (by omega) (by omega)).mp (b3.symm.trans q4)
      rw [e] at b4
      exact Or.inl (TR.lf d R y q b4)
def TV (x : OV) : Prop := x = none ∨ x = some 0 ∨ x = some 1
/-- the values that not, and, or take in are truths -/
def OKT (V : VT) (g : Nat → OV) : Nat → Nat → Nat → Prop
  | 0, _, _ => True
  | d + 1, a, e => (rk V e = 8 → TV (g (e - 1))) ∧ (UNA V e → OKT V g d a (e - 1)) ∧ (∀ h, a < h → h < e → BIN V e → rl V e = nI (h - 1) → ((rk V e = 6 ∨ rk V e = 7) → TV (g (h - 1)) ∧ TV (g (e - 1))) ∧ OKT V g d a (h - 1) ∧ OKT V g d h (e - 1)) ∧ (∀ h k, a < h → h < k → k < e → rk V e = 18 → rl V e = nI (h - 1) → rr V e = nI (k - 1) → OKT V g d a (h - 1) ∧ OKT V g d h (k - 1) ∧ OKT V g d k (e - 1)) ∧ (∀ m h r R, a < h → h ≤ r → INN V m e → rl V e = nI (h - 1) → rr V e = nI r → CH (TR V d R) V m h r (e - 1) → OKT V g d a (h - 1) ∧ CH (OKT V g d) V m h r (e - 1))
/-- a strip with room for n cells -/
def STR (ar n : Nat) (cs : CS) : Prop := ((9, ar) ∈ kE cs) ∧ ((320, ar) ∈ kE cs) ∧ (∃ j, kP cs 288 ar = some j) ∧ (kL cs 288 ar = n) ∧ ((321, ar) ∈ kE cs) ∧ (∃ j, kP cs 289 ar = some j) ∧ (kL cs 289 ar = n) ∧ (n < 100000000) ∧ (∀ i, i < n → kA cs 289 ar i = 0 ∨ (kA cs 289 ar i = 1 ∧ kB cs 288 ar i = 0))
theorem STR.o {ar n : Nat} {cs : CS} (h : STR ar n cs) : (9, ar) ∈ kE cs := h.1
theorem STR.e8 {ar n : Nat} {cs : CS} (h : STR ar n cs) : (320, ar) ∈ kE cs := h.2.1
theorem STR.p8 {ar n : Nat} {cs : CS} (h : STR ar n cs) : ∃ j, kP cs 288 ar = some j := h.2.2.1
theorem STR.l8 {ar n : Nat} {cs : CS} (h : STR ar n cs) : kL cs 288 ar = n := h.2.2.2.1
theorem STR.e9 {ar n : Nat} {cs : CS} (h : STR ar n cs) : (321, ar) ∈ kE cs := h.2.2.2.2.1
theorem STR.p9 {ar n : Nat} {cs : CS} (h : STR ar n cs) : ∃ j, kP cs 289 ar = some j := h.2.2.2.2.2.1
theorem STR.l9 {ar n : Nat} {cs : CS} (h : STR ar n cs) : kL cs 289 ar = n := h.2.2.2.2.2.2.1
theorem STR.n2 {ar n : Nat} {cs : CS} (h : STR ar n cs) : n < 100000000 := h.2.2.2.2.2.2.2.1
theorem STR.nb {ar n : Nat} {cs : CS} (h : STR ar n cs) : ∀ i, i < n → kA cs 289 ar i = 0 ∨ (kA cs 289 ar i = 1 ∧ kB cs 288 ar i = 0) := h.2.2.2.2.2.2.2.2
/-- a cell of a strip -/
def sv (cs : CS) (ar i : Nat) : OV := if i < kL cs 288 ar then (if kA cs 289 ar i = 0 then some (kB cs 288 ar i) else none) else none
theorem STR.at' {ar n : Nat} {a b : CS} (h : STR ar n a) (em : EM a b) (g8 : AT a b 288 ar) (g9 : AT a b 289 ar) : STR ar n b := ⟨em _ h.o, em _ h.e8, by rw [g8.p]; exact h.p8, by rw [g8.l]; exact h.l8, em _ h.e9, by rw [g9.p]; exact h.p9, by rw [g9.l]; exact h.l9, h.n2, fun i hi => by rw [g8.b, g9.a]; exact h.nb i hi⟩
theorem sv.at' {ar i : Nat} {a b : CS} (g8 : AT a b 288 ar) (g9 : AT a b 289 ar) : sv b ar i = sv a ar i := by
  unfold sv
  rw [g8.l, g8.b, g9.a]
theorem holds_ok {F ar n i : Nat} {cs : CS} (h : STR ar n cs) (hi : i < 2147483648) : c_X8_holds F cs ar (nI i) = some (if i < n then 1 else 0) := by
  obtain ⟨j8, h8⟩ := h.p8
  obtain ⟨j9, h9⟩ := h.p9
  have n2 := h.n2
  unfold c_X8_holds c_X8_holds_b26 c_X8_holds_b27
  rw [if_neg (nI_pos hi), gA_ok h.o, h8, ob_s, lnA_n h.e8 h8, ob_s, h.l8, gA_ok h.o, h9, ob_s, lnA_n h.e9 h9, ob_s, h.l9]
  by_cases w : i < n
  · rw [if_neg (nI_ge w (by omega)), if_neg (nI_ge w (by omega)), if_pos w]; rfl
  · rw [if_pos (nI_le (by omega) hi), if_neg w]; rfl
theorem val_ok {F ar n i : Nat} {cs : CS} (h : STR ar n cs) (hi : i < 2147483648) : c_X8_valueOf F cs ar (nI i) = some (vl (sv cs ar i)) ∧ c_X8_isBlank F cs ar (nI i) = some (fl (sv cs ar i)) := by
  obtain ⟨j8, h8⟩ := h.p8
  obtain ⟨j9, h9⟩ := h.p9
  have n2 := h.n2
  unfold c_X8_valueOf c_X8_valueOf_b18 c_X8_isBlank c_X8_isBlank_b17 c_X8_isBlank_b22 sv
  rw [ckE_ok h.o, ob_s, ob_s, holds_ok h hi, ob_s, ob_s, h.l8]
  by_cases w : i < n
  · rw [if_pos w, if_pos w, if_neg (show ¬ (1 : Int32) = 0 by decide), if_neg (show ¬ (1 : Int32) = 0 by decide), gA_ok h.o, h8, ob_s, rB_n h.e8 h8 (by rw [h.l8]; omega) (by rw [h.l8]; omega), ob_s, gA_ok h.o, h9, ob_s, rA_n h.e9 h9 (by rw [h.l9]; omega) (by rw [h.l9]; omega), ob_s]
    rcases h.nb i w with q | ⟨q, q2⟩
    · rw [q, if_pos rfl, if_pos rfl]
      exact ⟨rfl, rfl⟩
    · rw [q, if_neg (show ¬ (1 : Int32) = 0 by decide), if_neg (show ¬ (1 : Int32) = 0 by decide), q2]
      exact ⟨rfl, rfl⟩
  · rw [if_neg w, if_neg w, if_pos rfl, if_pos rfl]
    exact ⟨rfl, rfl⟩
def CW (c : Nat) (cs : CS) (e : Nat) : Int32 × Int32 × Int32 × Int32 × Int64 × Int32 × Int64 := (kA cs 65 c e, kA cs 67 c e, kA cs 68 c e, kA cs 66 c e, kB cs 69 c e, kA cs 71 c e, kB cs 70 c e)
/-- what stands while an EXPR is computed over the row at base -/
def CST (c s ar n base : Nat) (V : VT) (cev : Nat → OV) (A E : Nat) (cs : CS) : Prop := (∀ y, y < s → CW c cs y = (V y).1) ∧ (STR ar n cs) ∧ (s ≤ 120) ∧ (∀ y, A ≤ y → y ≤ E → (vk V y = 39 ∨ AGC (vk V y)) → ∃ i, i < 2147483648 ∧ nI base + kA cs 72 c y = nI i ∧ cev y = sv cs ar i)
theorem CST.cw {c s ar n base : Nat} {V : VT} {cev : Nat → OV} {A E : Nat} {cs : CS} (h : CST c s ar n base V cev A E cs) : ∀ y, y < s → CW c cs y = (V y).1 := h.1
theorem CST.st {c s ar n base : Nat} {V : VT} {cev : Nat → OV} {A E : Nat} {cs : CS} (h : CST c s ar n base V cev A E cs) : STR ar n cs := h.2.1
theorem CST.s2 {c s ar n base : Nat} {V : VT} {cev : Nat → OV} {A E : Nat} {cs : CS} (h : CST c s ar n base V cev A E cs) : s ≤ 120 := h.2.2.1
theorem CST.ev {c s ar n base : Nat} {V : VT} {cev : Nat → OV} {A E : Nat} {cs : CS} (h : CST c s ar n base V cev A E cs) : ∀ y, A ≤ y → y ≤ E → (vk V y = 39 ∨ AGC (vk V y)) → ∃ i, i < 2147483648 ∧ nI base + kA cs 72 c y = nI i ∧ cev y = sv cs ar i := h.2.2.2
theorem CST.evf {c s ar n base A E : Nat} {V : VT} {cev : Nat → OV} {a b : CS} (h : CST c s ar n base V cev A E a) (f : EVF c a b) (hc : ar ≠ c) : CST c s ar n base V cev A E b := by
  have g : ∀ x, 65 ≤ x → x ≤ 73 → AT a b x c := fun x _ _ => f.2.1 x c (by omega)
  have g8 : AT a b 288 ar := f.2.1 288 ar (by omega)
  have g9 : AT a b 289 ar := f.2.1 289 ar (by omega)
  refine ⟨fun y hy => ?_, h.st.at' f.em g8 g9, h.s2, fun y y1 y2 y3 => ?_⟩
  · have q := h.cw y hy
    unfold CW at q ⊢
    rw [(g 65 (by omega) (by omega)).a, (g 67 (by omega) (by omega)).a, (g 68 (by omega) (by omega)).a, (g 66 (by omega) (by omega)).a, (g 69 (by omega) (by omega)).b, (g 71 (by omega) (by omega)).a, (g 70 (by omega) (by omega)).b]
    exact q
  · obtain ⟨i, i1, i2, i3⟩ := h.ev y y1 y2 y3
    exact ⟨i, i1, by rw [(g 72 (by omega) (by omega)).a]; exact i2, by rw [sv.at' g8 g9]; exact i3⟩
theorem CST.k {c s ar n base A E y : Nat} {V : VT} {cev : Nat → OV} {cs : CS} (h : CST c s ar n base V cev A E cs) (hy : y < s) : kA cs 65 c y = vk V y ∧ kA cs 67 c y = vf V y ∧ kA cs 68 c y = vp V y ∧ kB cs 69 c y = vn V y ∧ kA cs 71 c y = vs V y := by
  have q := h.cw y hy
  exact ⟨congrArg (fun z => z.1) q, congrArg (fun z => z.2.1) q, congrArg (fun z => z.2.2.1) q, congrArg (fun z => z.2.2.2.2.1) q, congrArg (fun z => z.2.2.2.2.2.1) q⟩
theorem rc_65 {c cap s ar n base A E y : Nat} {V : VT} {cev : Nat → OV} {cs : CS} {α : Type} {G : Int32 → Option α} (h : CST c s ar n base V cev A E cs) (ca : CA c cap cs) (oc : (2, c) ∈ kE cs) (cp : cap ≤ 120) (hsc : s ≤ cap) (hy : y < s) : (Option.bind (gA cs 2 65 c) fun v => Option.bind (rA cs 65 c v (nI y)) fun w => G w) = G (vk V y) := by
  obtain ⟨j, hj⟩ := ca.p65
  rw [gA_ok oc, hj, ob_s, rA_n ca.e65 hj (by rw [ca.l65]; omega) (by rw [ca.l65]; omega), ob_s, (h.k hy).1]
theorem rc_71 {c cap s ar n base A E y : Nat} {V : VT} {cev : Nat → OV} {cs : CS} {α : Type} {G : Int32 → Option α} (h : CST c s ar n base V cev A E cs) (ca : CA c cap cs) (oc : (2, c) ∈ kE cs) (cp : cap ≤ 120) (hsc : s ≤ cap) (hy : y < s) : (Option.bind (gA cs 2 71 c) fun v => Option.bind (rA cs 71 c v (nI y)) fun w => G w) = G (vs V y) := by
  obtain ⟨j, hj⟩ := ca.p71
  rw [gA_ok oc, hj, ob_s, rA_n ca.e71 hj (by rw [ca.l71]; omega) (by rw [ca.l71]; omega), ob_s, (h.k hy).2.2.2.2]
/-- the values of acts, by the class's kinds -/
theorem ag_val {V : VT} {col agg : Nat → OV} {e : Nat} (h : e < 199) (k : LEAF V e ∨ AGK V e) : (vk V e = 40 → EV V col agg e = some (vn V e)) ∧ (vk V e = 26 → EV V col agg e = none) ∧ (vk V e = 30 → EV V col agg e = some 1) ∧ (vk V e = 31 → EV V col agg e = some 0) ∧ (vk V e = 39 → EV V col agg e = col e) ∧ (AGC (vk V e) → EV V col agg e = agg e) := by
  have ne : ∀ {a b : Int32}, vk V e = a → vk V e = b → a ≠ b → False := fun h1 h2 h3 => h3 (h1.symm.trans h2)
  rcases k with k | ⟨-, k⟩
  · rcases k with ⟨y, z, w⟩ | ⟨y, z⟩ | ⟨y, z⟩ | ⟨y, z⟩ | ⟨y, z⟩ | ⟨y, z⟩
    · exact ⟨fun _ => (EV.lit h z).trans (by rw [w]), fun q => (ne y q (by decide)).elim, fun q => (ne y q (by decide)).elim, fun q => (ne y q (by decide)).elim, fun q => (ne y q (by decide)).elim, fun q => by unfold AGC at q; rw [y] at q; exact absurd q (by decide)⟩
    · exact ⟨fun q => (ne y q (by decide)).elim, fun _ => EV.nul h z, fun q => (ne y q (by decide)).elim, fun q => (ne y q (by decide)).elim, fun q => (ne y q (by decide)).elim, fun q => by unfold AGC at q; rw [y] at q; exact absurd q (by decide)⟩
    · exact ⟨fun q => (ne y q (by decide)).elim, fun q => (ne y q (by decide)).elim, fun _ => EV.tru h z, fun q => (ne y q (by decide)).elim, fun q => (ne y q (by decide)).elim, fun q => by unfold AGC at q; rw [y] at q; exact absurd q (by decide)⟩
    · exact ⟨fun q => (ne y q (by decide)).elim, fun q => (ne y q (by decide)).elim, fun q => (ne y q (by decide)).elim, fun _ => EV.fal h z, fun q => (ne y q (by decide)).elim, fun q => by unfold AGC at q; rw [y] at q; exact absurd q (by decide)⟩
    · exact ⟨fun q => (ne y q (by decide)).elim, fun q => (ne y q (by decide)).elim, fun q => (ne y q (by decide)).elim, fun q => (ne y q (by decide)).elim, fun _ => EV.col h z, fun q => by unfold AGC at q; rw [y] at q; exact absurd q (by decide)⟩
    · exact ⟨fun q => (ne y q (by decide)).elim, fun q => (ne y q (by decide)).elim, fun q => (ne y q (by decide)).elim, fun q => (ne y q (by decide)).elim, fun q => (ne y q (by decide)).elim, fun _ => EV.agg h (Or.inl z)⟩
  · rcases k with ⟨y, z⟩ | ⟨y, z⟩ | ⟨y, z⟩ | ⟨y, z⟩
    · exact ⟨fun q => (ne y q (by decide)).elim, fun q => (ne y q (by decide)).elim, fun q => (ne y q (by decide)).elim, fun q => (ne y q (by decide)).elim, fun q => (ne y q (by decide)).elim, fun _ => EV.agg h (by rw [z]; decide)⟩
    · exact ⟨fun q => (ne y q (by decide)).elim, fun q => (ne y q (by decide)).elim, fun q => (ne y q (by decide)).elim, fun q => (ne y q (by decide)).elim, fun q => (ne y q (by decide)).elim, fun _ => EV.agg h (by rw [z]; decide)⟩
    · exact ⟨fun q => (ne y q (by decide)).elim, fun q => (ne y q (by decide)).elim, fun q => (ne y q (by decide)).elim, fun q => (ne y q (by decide)).elim, fun q => (ne y q (by decide)).elim, fun _ => EV.agg h (by rw [z]; decide)⟩
    · exact ⟨fun q => (ne y q (by decide)).elim, fun q => (ne y q (by decide)).elim, fun q => (ne y q (by decide)).elim, fun q => (ne y q (by decide)).elim, fun q => (ne y q (by decide)).elim, fun _ => EV.agg h (by rw [z]; decide)⟩
/-- a leaf, or an aggregate, laid on the stack -/
theorem leaf_c {F c cap s ar n base A E root p e : Nat} {V : VT} {cev : Nat → OV} {l : Nat → OV} {cs : CS} {rc : CS → Nat → Int32 → Nat → Int32 → Int32 → Option (CS × Int32)} (h : CST c s ar n base V cev A E cs) (sk : STK c cap l p cs) (hp : p < cap) (hsc : s ≤ cap) (he : e < s) (eA : A ≤ e) (eE : e ≤ E) (k : LEAF V e ∨ AGK V e) : ∃ cs', c_X1_compute_b61 F rc cs c (nI root) ar (nI base) (nI e) = rc cs' c (nI root) ar (nI base) (nI (e + 1)) ∧ STK c cap (ul l p (EV V cev cev e)) (p + 1) cs' ∧ EVF c cs cs' := by
  have s2 := h.s2
  have cp := sk.cp
  obtain ⟨v1, v2, v3, v4, v5, v6⟩ := ag_val (V := V) (col := cev) (agg := cev) (e := e) (by omega) k
  have go : ∀ (v : Int64) (b : Int32), ((b = 0 ∧ EV V cev cev e = some v) ∨ (b = 1 ∧ EV V cev cev e = none)) → ∃ cs', (Option.bind (ckE cs 2 c) fun _ => Option.bind (c_X1_push F cs c v b) fun z => c_X1_compute_b404 F rc z c (nI root) ar (nI base) (nI e)) = rc cs' c (nI root) ar (nI base) (nI (e + 1)) ∧ STK c cap (ul l p (EV V cev cev e)) (p + 1) cs' ∧ EVF c cs cs' := fun v b hx => by
    obtain ⟨cs', e1, e2, e3⟩ := push_ok (F := F) sk hp hx
    refine ⟨cs', ?_, e2, e3⟩
    rw [ckE_ok sk.oc, ob_s, e1, ob_s]
    unfold c_X1_compute_b404
    rw [nI_1]
  have cell : (vk V e = 39 ∨ AGC (vk V e)) → ∃ cs', c_X1_compute_b298 F rc cs c (nI root) ar (nI base) (nI e) = rc cs' c (nI root) ar (nI base) (nI (e + 1)) ∧ STK c cap (ul l p (EV V cev cev e)) (p + 1) cs' ∧ EVF c cs cs' := fun q => by
    obtain ⟨i, i1, i2, i3⟩ := h.ev e eA eE q
    have ee : EV V cev cev e = cev e := by
      rcases q with q | q
      · exact v5 q
      · exact v6 q
    obtain ⟨w1, w2⟩ := val_ok (F := F) h.st i1
    obtain ⟨j7, h7⟩ := sk.ca.p72
    unfold c_X1_compute_b298 c_X1_compute_b333
    rw [gA_ok sk.oc, h7, ob_s, rA_n sk.ca.e72 h7 (by rw [sk.ca.l72]; omega) (by rw [sk.ca.l72]; omega), ob_s, i2, ckE_ok h.st.o, ob_s, w1, ob_s, ob_s, rA_n sk.ca.e72 h7 (by rw [sk.ca.l72]; omega) (by rw [sk.ca.l72]; omega), ob_s, i2, ob_s, w2, ob_s]
    rw [← i3, ← ee]
    cases hx : EV V cev cev e with
    | none =>
      rw [hx] at go
      rw [if_neg (show ¬ fl none = 0 by decide)]
      exact go _ 1 (Or.inr ⟨rfl, rfl⟩)
    | some w =>
      rw [hx] at go
      rw [if_pos (show fl (some w) = 0 from rfl)]
      exact go w 0 (Or.inl ⟨rfl, rfl⟩)
  unfold c_X1_compute_b61
  rw [rc_65 h sk.ca sk.oc cp hsc he]
  have kk : vk V e = 40 ∨ vk V e = 26 ∨ vk V e = 30 ∨ vk V e = 31 ∨ vk V e = 39 ∨ vk V e = 61 ∨ vk V e = 32 ∨ vk V e = 33 ∨ vk V e = 34 ∨ vk V e = 35 := by
    rcases k with k | ⟨-, k⟩
    · rcases k with ⟨y, z, w⟩ | ⟨y, z⟩ | ⟨y, z⟩ | ⟨y, z⟩ | ⟨y, z⟩ | ⟨y, z⟩ <;> rw [y] <;> decide
    · rcases k with ⟨y, z⟩ | ⟨y, z⟩ | ⟨y, z⟩ | ⟨y, z⟩ <;> rw [y] <;> decide
  rcases kk with q | q | q | q | q | q | q | q | q | q
  · have v := v1 q
    obtain ⟨j9, h9⟩ := sk.ca.p69
    rw [q]
    simp +decide only [reduceIte]
    rw [gA_ok sk.oc, h9, ob_s, rB_n sk.ca.e69 h9 (by rw [sk.ca.l69]; omega) (by rw [sk.ca.l69]; omega), ob_s, (h.k he).2.2.2.1]
    exact go _ 0 (Or.inl ⟨rfl, v⟩)
  · have v := v2 q
    rw [q]
    simp +decide only [reduceIte]
    exact go _ 1 (Or.inr ⟨rfl, v⟩)
  · have v := v3 q
    rw [q]
    simp +decide only [reduceIte]
    exact go _ 0 (Or.inl ⟨rfl, v⟩)
  · have v := v4 q
    rw [q]
    simp +decide only [reduceIte]
    exact go _ 0 (Or.inl ⟨rfl, v⟩)
  · have v := cell (Or.inl q)
    rw [q]
    simp +decide only [reduceIte]
    exact v
  · have v := cell (Or.inr (by unfold AGC; rw [q]; decide))
    rw [q]
    simp +decide only [reduceIte]
    exact v
  · have v := cell (Or.inr (by unfold AGC; rw [q]; decide))
    rw [q]
    simp +decide only [reduceIte]
    exact v
  · have v := cell (Or.inr (by unfold AGC; rw [q]; decide))
    rw [q]
    simp +decide only [reduceIte]
    exact v
  · have v := cell (Or.inr (by unfold AGC; rw [q]; decide))
    rw [q]
    simp +decide only [reduceIte]
    exact v
  · have v := cell (Or.inr (by unfold AGC; rw [q]; decide))
    rw [q]
    simp +decide only [reduceIte]
    exact v

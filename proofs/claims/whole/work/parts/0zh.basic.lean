/-! what stands from the start on -/
def Bas (cs : CS) : Prop := ((12, 0) ∈ kE cs) ∧ ((416, 0) ∈ kE cs) ∧ (kP cs 384 0 = some 1) ∧ (kL cs 384 0 = 2000) ∧ (kR cs 386 0 = some 2) ∧ ((8, 2) ∈ kE cs) ∧ ((290, 2) ∈ kE cs) ∧ (kP cs 258 2 = some 3) ∧ (kL cs 258 2 = 6) ∧ ((291, 2) ∈ kE cs) ∧ (kP cs 259 2 = some 4) ∧ (kL cs 259 2 = 240) ∧ ((292, 2) ∈ kE cs) ∧ (kP cs 260 2 = some 5) ∧ (kL cs 260 2 = 240) ∧ ((293, 2) ∈ kE cs) ∧ (kP cs 261 2 = some 6) ∧ (kL cs 261 2 = 48) ∧ ((294, 2) ∈ kE cs) ∧ (kP cs 262 2 = some 7) ∧ (kL cs 262 2 = 4) ∧ ((295, 2) ∈ kE cs) ∧ (kP cs 263 2 = some 8) ∧ (kL cs 263 2 = 4) ∧ (kR cs 387 0 = some 9) ∧ ((11, 9) ∈ kE cs) ∧ ((384, 9) ∈ kE cs) ∧ (kP cs 352 9 = some 10) ∧ (kL cs 352 9 = 2001) ∧ ((385, 9) ∈ kE cs) ∧ (kP cs 353 9 = some 11) ∧ (kL cs 353 9 = 2001) ∧ ((386, 9) ∈ kE cs) ∧ (kP cs 354 9 = some 12) ∧ (kL cs 354 9 = 2001) ∧ ((390, 9) ∈ kE cs) ∧ (kP cs 358 9 = some 14) ∧ (kL cs 358 9 = 39) ∧ (kR cs 399 0 = some 37) ∧ ((2, 37) ∈ kE cs) ∧ ((106, 37) ∈ kE cs) ∧ (kP cs 74 37 = some 47) ∧ (kL cs 74 37 = 2) ∧ ((107, 37) ∈ kE cs) ∧ (kP cs 75 37 = some 48) ∧ (kL cs 75 37 = 2)
theorem Bas.o {cs : CS} (h : Bas cs) : (12, 0) ∈ kE cs := h.1
theorem Bas.e384 {cs : CS} (h : Bas cs) : (416, 0) ∈ kE cs := h.2.1
theorem Bas.p384 {cs : CS} (h : Bas cs) : kP cs 384 0 = some 1 := h.2.2.1
theorem Bas.l384 {cs : CS} (h : Bas cs) : kL cs 384 0 = 2000 := h.2.2.2.1
theorem Bas.rS {cs : CS} (h : Bas cs) : kR cs 386 0 = some 2 := h.2.2.2.2.1
theorem Bas.oS {cs : CS} (h : Bas cs) : (8, 2) ∈ kE cs := h.2.2.2.2.2.1
theorem Bas.e258 {cs : CS} (h : Bas cs) : (290, 2) ∈ kE cs := h.2.2.2.2.2.2.1
theorem Bas.p258 {cs : CS} (h : Bas cs) : kP cs 258 2 = some 3 := h.2.2.2.2.2.2.2.1
theorem Bas.l258 {cs : CS} (h : Bas cs) : kL cs 258 2 = 6 := h.2.2.2.2.2.2.2.2.1
theorem Bas.e259 {cs : CS} (h : Bas cs) : (291, 2) ∈ kE cs := h.2.2.2.2.2.2.2.2.2.1
theorem Bas.p259 {cs : CS} (h : Bas cs) : kP cs 259 2 = some 4 := h.2.2.2.2.2.2.2.2.2.2.1
theorem Bas.l259 {cs : CS} (h : Bas cs) : kL cs 259 2 = 240 := h.2.2.2.2.2.2.2.2.2.2.2.1
theorem Bas.e260 {cs : CS} (h : Bas cs) : (292, 2) ∈ kE cs := h.2.2.2.2.2.2.2.2.2.2.2.2.1
theorem Bas.p260 {cs : CS} (h : Bas cs) : kP cs 260 2 = some 5 := h.2.2.2.2.2.2.2.2.2.2.2.2.2.1
theorem Bas.l260 {cs : CS} (h : Bas cs) : kL cs 260 2 = 240 := h.2.2.2.2.2.2.2.2.2.2.2.2.2.2.1
theorem Bas.e261 {cs : CS} (h : Bas cs) : (293, 2) ∈ kE cs := h.2.2.2.2.2.2.2.2.2.2.2.2.2.2.2.1
theorem Bas.p261 {cs : CS} (h : Bas cs) : kP cs 261 2 = some 6 := h.2.2.2.2.2.2.2.2.2.2.2.2.2.2.2.2.1
theorem Bas.l261 {cs : CS} (h : Bas cs) : kL cs 261 2 = 48 := h.2.2.2.2.2.2.2.2.2.2.2.2.2.2.2.2.2.1
theorem Bas.e262 {cs : CS} (h : Bas cs) : (294, 2) ∈ kE cs := h.2.2.2.2.2.2.2.2.2.2.2.2.2.2.2.2.2.2.1
theorem Bas.p262 {cs : CS} (h : Bas cs) : kP cs 262 2 = some 7 := h.2.2.2.2.2.2.2.2.2.2.2.2.2.2.2.2.2.2.2.1
theorem Bas.l262 {cs : CS} (h : Bas cs) : kL cs 262 2 = 4 := h.2.2.2.2.2.2.2.2.2.2.2.2.2.2.2.2.2.2.2.2.1
theorem Bas.e263 {cs : CS} (h : Bas cs) : (295, 2) ∈ kE cs := h.2.2.2.2.2.2.2.2.2.2.2.2.2.2.2.2.2.2.2.2.2.1
theorem Bas.p263 {cs : CS} (h : Bas cs) : kP cs 263 2 = some 8 := h.2.2.2.2.2.2.2.2.2.2.2.2.2.2.2.2.2.2.2.2.2.2.1
theorem Bas.l263 {cs : CS} (h : Bas cs) : kL cs 263 2 = 4 := h.2.2.2.2.2.2.2.2.2.2.2.2.2.2.2.2.2.2.2.2.2.2.2.1
theorem Bas.rT {cs : CS} (h : Bas cs) : kR cs 387 0 = some 9 := h.2.2.2.2.2.2.2.2.2.2.2.2.2.2.2.2.2.2.2.2.2.2.2.2.1
theorem Bas.oT {cs : CS} (h : Bas cs) : (11, 9) ∈ kE cs := h.2.2.2.2.2.2.2.2.2.2.2.2.2.2.2.2.2.2.2.2.2.2.2.2.2.1
theorem Bas.e352 {cs : CS} (h : Bas cs) : (384, 9) ∈ kE cs := h.2.2.2.2.2.2.2.2.2.2.2.2.2.2.2.2.2.2.2.2.2.2.2.2.2.2.1
theorem Bas.p352 {cs : CS} (h : Bas cs) : kP cs 352 9 = some 10 := h.2.2.2.2.2.2.2.2.2.2.2.2.2.2.2.2.2.2.2.2.2.2.2.2.2.2.2.1
theorem Bas.l352 {cs : CS} (h : Bas cs) : kL cs 352 9 = 2001 := h.2.2.2.2.2.2.2.2.2.2.2.2.2.2.2.2.2.2.2.2.2.2.2.2.2.2.2.2.1
theorem Bas.e353 {cs : CS} (h : Bas cs) : (385, 9) ∈ kE cs := h.2.2.2.2.2.2.2.2.2.2.2.2.2.2.2.2.2.2.2.2.2.2.2.2.2.2.2.2.2.1
theorem Bas.p353 {cs : CS} (h : Bas cs) : kP cs 353 9 = some 11 := h.2.2.2.2.2.2.2.2.2.2.2.2.2.2.2.2.2.2.2.2.2.2.2.2.2.2.2.2.2.2.1
theorem Bas.l353 {cs : CS} (h : Bas cs) : kL cs 353 9 = 2001 := h.2.2.2.2.2.2.2.2.2.2.2.2.2.2.2.2.2.2.2.2.2.2.2.2.2.2.2.2.2.2.2.1
theorem Bas.e354 {cs : CS} (h : Bas cs) : (386, 9) ∈ kE cs := h.2.2.2.2.2.2.2.2.2.2.2.2.2.2.2.2.2.2.2.2.2.2.2.2.2.2.2.2.2.2.2.2.1
theorem Bas.p354 {cs : CS} (h : Bas cs) : kP cs 354 9 = some 12 := h.2.2.2.2.2.2.2.2.2.2.2.2.2.2.2.2.2.2.2.2.2.2.2.2.2.2.2.2.2.2.2.2.2.1
theorem Bas.l354 {cs : CS} (h : Bas cs) : kL cs 354 9 = 2001 := h.2.2.2.2.2.2.2.2.2.2.2.2.2.2.2.2.2.2.2.2.2.2.2.2.2.2.2.2.2.2.2.2.2.2.1
theorem Bas.e358 {cs : CS} (h : Bas cs) : (390, 9) ∈ kE cs := h.2.2.2.2.2.2.2.2.2.2.2.2.2.2.2.2.2.2.2.2.2.2.2.2.2.2.2.2.2.2.2.2.2.2.2.1
theorem Bas.p358 {cs : CS} (h : Bas cs) : kP cs 358 9 = some 14 := h.2.2.2.2.2.2.2.2.2.2.2.2.2.2.2.2.2.2.2.2.2.2.2.2.2.2.2.2.2.2.2.2.2.2.2.2.1
theorem Bas.l358 {cs : CS} (h : Bas cs) : kL cs 358 9 = 39 := h.2.2.2.2.2.2.2.2.2.2.2.2.2.2.2.2.2.2.2.2.2.2.2.2.2.2.2.2.2.2.2.2.2.2.2.2.2.1
theorem Bas.rC {cs : CS} (h : Bas cs) : kR cs 399 0 = some 37 := h.2.2.2.2.2.2.2.2.2.2.2.2.2.2.2.2.2.2.2.2.2.2.2.2.2.2.2.2.2.2.2.2.2.2.2.2.2.2.1
theorem Bas.oC {cs : CS} (h : Bas cs) : (2, 37) ∈ kE cs := h.2.2.2.2.2.2.2.2.2.2.2.2.2.2.2.2.2.2.2.2.2.2.2.2.2.2.2.2.2.2.2.2.2.2.2.2.2.2.2.1
theorem Bas.e74 {cs : CS} (h : Bas cs) : (106, 37) ∈ kE cs := h.2.2.2.2.2.2.2.2.2.2.2.2.2.2.2.2.2.2.2.2.2.2.2.2.2.2.2.2.2.2.2.2.2.2.2.2.2.2.2.2.1
theorem Bas.p74 {cs : CS} (h : Bas cs) : kP cs 74 37 = some 47 := h.2.2.2.2.2.2.2.2.2.2.2.2.2.2.2.2.2.2.2.2.2.2.2.2.2.2.2.2.2.2.2.2.2.2.2.2.2.2.2.2.2.1
theorem Bas.l74 {cs : CS} (h : Bas cs) : kL cs 74 37 = 2 := h.2.2.2.2.2.2.2.2.2.2.2.2.2.2.2.2.2.2.2.2.2.2.2.2.2.2.2.2.2.2.2.2.2.2.2.2.2.2.2.2.2.2.1
theorem Bas.e75 {cs : CS} (h : Bas cs) : (107, 37) ∈ kE cs := h.2.2.2.2.2.2.2.2.2.2.2.2.2.2.2.2.2.2.2.2.2.2.2.2.2.2.2.2.2.2.2.2.2.2.2.2.2.2.2.2.2.2.2.1
theorem Bas.p75 {cs : CS} (h : Bas cs) : kP cs 75 37 = some 48 := h.2.2.2.2.2.2.2.2.2.2.2.2.2.2.2.2.2.2.2.2.2.2.2.2.2.2.2.2.2.2.2.2.2.2.2.2.2.2.2.2.2.2.2.2.1
theorem Bas.l75 {cs : CS} (h : Bas cs) : kL cs 75 37 = 2 := h.2.2.2.2.2.2.2.2.2.2.2.2.2.2.2.2.2.2.2.2.2.2.2.2.2.2.2.2.2.2.2.2.2.2.2.2.2.2.2.2.2.2.2.2.2
theorem Bas.fx {S : Nat → Prop} {a b : CS} (h : Bas a) (f : FX S a b) : Bas b := by
  have e := f.e
  obtain ⟨-, r, p, -, l, -⟩ := f
  unfold Bas at h ⊢
  rw [e, r, p, l]
  exact h
def zisB (c : Int32) : Prop := ∃ m, m < 256 ∧ c = nI m - 128
/-- the tapes -/
def TP (n : Nat) (cs : CS) (rs : RS) : Prop := (kI cs 385 0 = nI n) ∧ (rs.1 1 = nI n) ∧ (n ≤ 2000) ∧ (∀ k, k < n → kA cs 384 0 k = rs.2.2.1 0 k) ∧ (∀ k, k < n → zisB (rs.2.2.1 0 k))
theorem TP.ci {n : Nat} {cs : CS} {rs : RS} (h : TP n cs rs) : kI cs 385 0 = nI n := h.1
theorem TP.ri {n : Nat} {cs : CS} {rs : RS} (h : TP n cs rs) : rs.1 1 = nI n := h.2.1
theorem TP.le {n : Nat} {cs : CS} {rs : RS} (h : TP n cs rs) : n ≤ 2000 := h.2.2.1
theorem TP.eq {n : Nat} {cs : CS} {rs : RS} (h : TP n cs rs) : ∀ k, k < n → kA cs 384 0 k = rs.2.2.1 0 k := h.2.2.2.1
theorem TP.bt {n : Nat} {cs : CS} {rs : RS} (h : TP n cs rs) : ∀ k, k < n → zisB (rs.2.2.1 0 k) := h.2.2.2.2
/-- the drafts -/
def DR (d : Nat) (cs : CS) (rs : RS) : Prop := (kI cs 264 2 = nI d) ∧ (rs.1 11 = nI d) ∧ (d ≤ 4) ∧ (∀ k, k < d → kB cs 262 2 k = rs.2.2.2 12 k ∧ kA cs 263 2 k = rs.2.2.1 13 k ∧ (rs.2.2.1 13 k = 0 ∨ rs.2.2.1 13 k = 1 ∧ rs.2.2.2 12 k = 0))
theorem DR.ci {d : Nat} {cs : CS} {rs : RS} (h : DR d cs rs) : kI cs 264 2 = nI d := h.1
theorem DR.ri {d : Nat} {cs : CS} {rs : RS} (h : DR d cs rs) : rs.1 11 = nI d := h.2.1
theorem DR.le {d : Nat} {cs : CS} {rs : RS} (h : DR d cs rs) : d ≤ 4 := h.2.2.1
theorem DR.eq {d : Nat} {cs : CS} {rs : RS} (h : DR d cs rs) : ∀ k, k < d → kB cs 262 2 k = rs.2.2.2 12 k ∧ kA cs 263 2 k = rs.2.2.1 13 k ∧ (rs.2.2.1 13 k = 0 ∨ rs.2.2.1 13 k = 1 ∧ rs.2.2.2 12 k = 0) := h.2.2.2
/-- the streams and their rows -/
def ST (n : Nat) (cs : CS) (rs : RS) : Prop := (kI cs 256 2 = nI n) ∧ (rs.1 4 = nI n) ∧ (n ≤ 6) ∧ (∀ k, k < n → ∃ c, 1 ≤ c ∧ c ≤ 4 ∧ kA cs 258 2 k = nI c ∧ rs.2.2.1 5 k = nI c) ∧ (kJ cs 257 2 = rs.2.1) ∧ (∀ r, r < 48 → kA cs 261 2 r = rs.2.2.1 6 r ∧ (rs.2.2.1 6 r = 0 ∨ rs.2.2.1 6 r = 1)) ∧ (∀ r, r < 48 → 8 * n ≤ r → rs.2.2.1 6 r = 0) ∧ (∀ s c p, s < n → p < 8 → c ≤ 4 → kA cs 258 2 s = nI c → rs.2.2.1 6 (8 * s + p) = 1 → (∀ k, k < c → kB cs 259 2 (5 * (8 * s + p) + k) = rs.2.2.2 8 (4 * (8 * s + p) + k) ∧ kA cs 260 2 (5 * (8 * s + p) + k) = rs.2.2.1 9 (4 * (8 * s + p) + k) ∧ (rs.2.2.1 9 (4 * (8 * s + p) + k) = 0 ∨ rs.2.2.1 9 (4 * (8 * s + p) + k) = 1 ∧ rs.2.2.2 8 (4 * (8 * s + p) + k) = 0)) ∧ kB cs 259 2 (5 * (8 * s + p) + c) = rs.2.2.2 7 (8 * s + p) ∧ kA cs 260 2 (5 * (8 * s + p) + c) = 0)
theorem ST.ci {n : Nat} {cs : CS} {rs : RS} (h : ST n cs rs) : kI cs 256 2 = nI n := h.1
theorem ST.ri {n : Nat} {cs : CS} {rs : RS} (h : ST n cs rs) : rs.1 4 = nI n := h.2.1
theorem ST.le {n : Nat} {cs : CS} {rs : RS} (h : ST n cs rs) : n ≤ 6 := h.2.2.1
theorem ST.col {n : Nat} {cs : CS} {rs : RS} (h : ST n cs rs) : ∀ k, k < n → ∃ c, 1 ≤ c ∧ c ≤ 4 ∧ kA cs 258 2 k = nI c ∧ rs.2.2.1 5 k = nI c := h.2.2.2.1
theorem ST.wm {n : Nat} {cs : CS} {rs : RS} (h : ST n cs rs) : kJ cs 257 2 = rs.2.1 := h.2.2.2.2.1
theorem ST.th {n : Nat} {cs : CS} {rs : RS} (h : ST n cs rs) : ∀ r, r < 48 → kA cs 261 2 r = rs.2.2.1 6 r ∧ (rs.2.2.1 6 r = 0 ∨ rs.2.2.1 6 r = 1) := h.2.2.2.2.2.1
theorem ST.out {n : Nat} {cs : CS} {rs : RS} (h : ST n cs rs) : ∀ r, r < 48 → 8 * n ≤ r → rs.2.2.1 6 r = 0 := h.2.2.2.2.2.2.1
theorem ST.val {n : Nat} {cs : CS} {rs : RS} (h : ST n cs rs) : ∀ s c p, s < n → p < 8 → c ≤ 4 → kA cs 258 2 s = nI c → rs.2.2.1 6 (8 * s + p) = 1 → (∀ k, k < c → kB cs 259 2 (5 * (8 * s + p) + k) = rs.2.2.2 8 (4 * (8 * s + p) + k) ∧ kA cs 260 2 (5 * (8 * s + p) + k) = rs.2.2.1 9 (4 * (8 * s + p) + k) ∧ (rs.2.2.1 9 (4 * (8 * s + p) + k) = 0 ∨ rs.2.2.1 9 (4 * (8 * s + p) + k) = 1 ∧ rs.2.2.2 8 (4 * (8 * s + p) + k) = 0)) ∧ kB cs 259 2 (5 * (8 * s + p) + c) = rs.2.2.2 7 (8 * s + p) ∧ kA cs 260 2 (5 * (8 * s + p) + c) = 0 := h.2.2.2.2.2.2.2
/-! feed -/
def bv (x s : Int32) : Int32 := vp_nar .byte ((x >>> (s &&& 31)).toInt8.toInt32)
theorem tk_step {cs : CS} {F f n : Nat} {x s : Int32} (hB : Bas cs) (hn : kI cs 385 0 = nI n) (h : n < 2000) (hs : ¬ s < 0) : c_X11_takeFour_L3 F (f + 1) cs 0 x s = c_X11_takeFour_L3 F f (sI (sA cs 384 0 n (bv x s)) 385 0 (nI (n + 1))) 0 x (s + (-8)) := by
  have hle : ¬ nI 2000 ≤ nI n := nI_ge h (by decide)
  rw [c_X11_takeFour_L3]
  simp only [if_neg hs, gI_ok hB.o, gA_ok hB.o, hB.p384, lnA_n hB.e384 hB.p384, hB.l384, hn, ob_s, if_neg hle, wA_n hB.e384 hB.p384 (show n < kL cs 384 0 by rw [hB.l384]; exact h) (show kL cs 384 0 < 2147483648 by rw [hB.l384]; decide), gI_ok (cs := sA cs 384 0 n (vp_nar .byte ((x >>> (s &&& 31)).toInt8.toInt32))) hB.o, pI_ok (cs := sA cs 384 0 n (vp_nar .byte ((x >>> (s &&& 31)).toInt8.toInt32))) hB.o, kI_sA, nI_1, c_X11_takeFour_b42]
  rfl
theorem ly_step {rs : RS} {F f n : Nat} {x s : Int32} (hn : rs.1 1 = nI n) (h : n < 2000) (hs : ¬ s < 0) : m_lay_L3 F (f + 1) rs x s = m_lay_L3 F f (setF (setI rs 0 n (bv x s)) 1 (nI (n + 1))) x (s + (-8)) := by
  rw [m_lay_L3]
  simp only [if_neg hs, hn, wrI_n h (by decide), ob_s, setI_1, nI_1]
  rfl
theorem bv_b (x s : Int32) : zisB (bv x s) := by
  unfold bv
  rw [pk_vb]
  generalize (x >>> (s &&& 31)).toInt8 = z
  have h1 := Int8.le_toInt z
  have h2 := Int8.toInt_lt z
  refine ⟨(z.toInt + 128).toNat, by omega, Int32.toInt_inj.mp ?_⟩
  rw [show (128 : Int32) = nI 128 from rfl, pk_sub_toInt (by omega) (by decide), Int8.toInt_toInt32]
  omega
theorem TP.step {n : Nat} {cs : CS} {rs : RS} (h : TP n cs rs) (hl : n < 2000) (v : Int32) (hv : zisB v) : TP (n + 1) (sI (sA cs 384 0 n v) 385 0 (nI (n + 1))) (setF (setI rs 0 n v) 1 (nI (n + 1))) := by
  refine ⟨rfl, rfl, hl, fun k hk => ?_, fun k hk => ?_⟩
  · show upd (kA cs 384 0) n v k = upd (rs.2.2.1 0) n v k
    by_cases e : k = n
    · subst e; rw [pk_us, pk_us]
    · rw [pk_un e, pk_un e]; exact h.eq k (by omega)
  · show zisB (upd (rs.2.2.1 0) n v k)
    by_cases e : k = n
    · subst e; rw [pk_us]; exact hv
    · rw [pk_un e]; exact h.bt k (by omega)
def tS (t : Nat) : Prop := t = 384 ∨ t = 385
def tR (k : Nat) : Prop := k = 0 ∨ k = 1
theorem four {F n : Nat} {cs : CS} {rs : RS} {x : Int32} (hF : 10000 ≤ F) (hB : Bas cs) (h : TP n cs rs) (hl : n + 4 ≤ 2000) : ∃ cs' rs', c_X11_takeFour F cs 0 x = some cs' ∧ m_lay F rs x = some rs' ∧ TP (n + 4) cs' rs' ∧ FX tS cs cs' ∧ FR tR rs rs' := by
  obtain ⟨f, rfl⟩ : ∃ f, F = f + 1 + 1 + 1 + 1 + 1 := ⟨F - 5, by omega⟩
  have g : ∀ (m : Nat) (a : CS) (b : RS) (v : Int32), FX tS a (sI (sA a 384 0 m v) 385 0 (nI (m + 1))) ∧ FR tR b (setF (setI b 0 m v) 1 (nI (m + 1))) := fun _ _ _ v => ⟨(FX.sA (Or.inl rfl)).trans (FX.sI (Or.inr rfl)), (FR.setI (Or.inl rfl)).trans (FR.setF (Or.inr rfl))⟩
  have h1 := h.step (by omega) (bv x 24) (bv_b x 24)
  have g1 := g n cs rs (bv x 24)
  have h2 := h1.step (by omega) (bv x 16) (bv_b x 16)
  have g2 := g (n + 1) (sI (sA cs 384 0 n (bv x 24)) 385 0 (nI (n + 1))) (setF (setI rs 0 n (bv x 24)) 1 (nI (n + 1))) (bv x 16)
  have h3 := h2.step (by omega) (bv x 8) (bv_b x 8)
  have g3 := g (n + 1 + 1) (sI (sA (sI (sA cs 384 0 n (bv x 24)) 385 0 (nI (n + 1))) 384 0 (n + 1) (bv x 16)) 385 0 (nI (n + 1 + 1))) (setF (setI (setF (setI rs 0 n (bv x 24)) 1 (nI (n + 1))) 0 (n + 1) (bv x 16)) 1 (nI (n + 1 + 1))) (bv x 8)
  have h4 := h3.step (by omega) (bv x 0) (bv_b x 0)
  have g4 := g (n + 1 + 1 + 1) (sI (sA (sI (sA (sI (sA cs 384 0 n (bv x 24)) 385 0 (nI (n + 1))) 384 0 (n + 1) (bv x 16)) 385 0 (nI (n + 1 + 1))) 384 0 (n + 1 + 1) (bv x 8)) 385 0 (nI (n + 1 + 1 + 1))) (setF (setI (setF (setI (setF (setI rs 0 n (bv x 24)) 1 (nI (n + 1))) 0 (n + 1) (bv x 16)) 1 (nI (n + 1 + 1))) 0 (n + 1 + 1) (bv x 8)) 1 (nI (n + 1 + 1 + 1))) (bv x 0)
  refine ⟨_, _, ?_, ?_, h4, ((g1.1.trans g2.1).trans g3.1).trans g4.1, ((g1.2.trans g2.2).trans g3.2).trans g4.2⟩
  · unfold c_X11_takeFour
    rw [tk_step hB h.ci (by omega) (by decide), show (24 : Int32) + (-8) = 16 by decide, tk_step (hB.fx g1.1) h1.ci (by omega) (by decide), show (16 : Int32) + (-8) = 8 by decide, tk_step (hB.fx (g1.1.trans g2.1)) h2.ci (by omega) (by decide), show (8 : Int32) + (-8) = 0 by decide, tk_step (hB.fx ((g1.1.trans g2.1).trans g3.1)) h3.ci (by omega) (by decide), show (0 : Int32) + (-8) = -8 by decide, c_X11_takeFour_L3, if_pos (by decide)]
  · unfold m_lay
    rw [ly_step h.ri (by omega) (by decide), show (24 : Int32) + (-8) = 16 by decide, ly_step h1.ri (by omega) (by decide), show (16 : Int32) + (-8) = 8 by decide, ly_step h2.ri (by omega) (by decide), show (8 : Int32) + (-8) = 0 by decide, ly_step h3.ri (by omega) (by decide), show (0 : Int32) + (-8) = -8 by decide, m_lay_L3, if_pos (by decide)]
theorem sim_feed {F n : Nat} {cs : CS} {rs : RS} {x1 x2 x3 x4 x5 : Int32} (hF : 10000 ≤ F) (hB : Bas cs) (h : TP n cs rs) : ∃ cs' rs' r m, c_X11_feed F cs 0 x1 x2 x3 x4 x5 = some (cs', r) ∧ m_feed F rs x1 x2 x3 x4 x5 = some (rs', r) ∧ TP m cs' rs' ∧ FX tS cs cs' ∧ FR tR rs rs' := by
  by_cases hn : n ≤ 1980
  · obtain ⟨c1, r1, a1, b1, t1, f1, q1⟩ := four (x := x1) hF hB h (by omega)
    obtain ⟨c2, r2, a2, b2, t2, f2, q2⟩ := four (x := x2) hF (hB.fx f1) t1 (by omega)
    obtain ⟨c3, r3, a3, b3, t3, f3, q3⟩ := four (x := x3) hF (hB.fx (f1.trans f2)) t2 (by omega)
    obtain ⟨c4, r4, a4, b4, t4, f4, q4⟩ := four (x := x4) hF (hB.fx ((f1.trans f2).trans f3)) t3 (by omega)
    obtain ⟨c5, r5, a5, b5, t5, f5, q5⟩ := four (x := x5) hF (hB.fx (((f1.trans f2).trans f3).trans f4)) t4 (by omega)
    refine ⟨c5, r5, nI (n + 4 + 4 + 4 + 4 + 4), _, ?_, ?_, t5, (((f1.trans f2).trans f3).trans f4).trans f5, (((q1.trans q2).trans q3).trans q4).trans q5⟩
    · have hle : nI n ≤ (1980 : Int32) := nI_le (b := 1980) hn (by decide)
      unfold c_X11_feed
      simp only [gI_ok hB.o, ob_s, h.ci, if_pos hle, ckE_ok hB.o, a1, ckE_ok (hB.fx f1).o, a2, ckE_ok (hB.fx (f1.trans f2)).o, a3, ckE_ok (hB.fx ((f1.trans f2).trans f3)).o, a4, ckE_ok (hB.fx (((f1.trans f2).trans f3).trans f4)).o, a5, gI_ok (hB.fx ((((f1.trans f2).trans f3).trans f4).trans f5)).o, t5.ci]
    · have hle : nI n + 20 ≤ (2000 : Int32) := by rw [nI_k n 20 20 rfl]; exact nI_le (b := 2000) (by omega) (by decide)
      unfold m_feed
      simp only [h.ri, if_pos hle, b1, b2, b3, b4, b5, ob_s, t5.ri]
  · refine ⟨cs, rs, -1, n, ?_, ?_, h, FX.refl cs, FR.refl rs⟩
    · have hle : ¬ nI n ≤ (1980 : Int32) := nI_ge (a := 1980) (by omega) (by have := h.le; omega)
      unfold c_X11_feed
      simp only [gI_ok hB.o, ob_s, h.ci, if_neg hle]
    · have hle : ¬ nI n + 20 ≤ (2000 : Int32) := by rw [nI_k n 20 20 rfl]; exact nI_ge (a := 2000) (by omega) (by have := h.le; omega)
      unfold m_feed
      simp only [h.ri, if_neg hle]
/-! cut -/
theorem sim_cut {F n : Nat} {cs : CS} {rs : RS} {x1 : Int32} (hB : Bas cs) (h : TP n cs rs) : ∃ cs' rs' r m, c_X11_cut F cs 0 x1 = some (cs', r) ∧ m_cut F rs x1 = some (rs', r) ∧ TP m cs' rs' ∧ FX tS cs cs' ∧ FR tR rs rs' := by
  unfold c_X11_cut m_cut c_X11_cut_b12 m_cut_b12
  by_cases h0 : x1 < 0
  · exact ⟨cs, rs, -1, n, if_pos h0, if_pos h0, h, FX.refl cs, FR.refl rs⟩
  · rw [if_neg h0, if_neg h0, gI_ok hB.o, ob_s, h.ci, h.ri]
    by_cases h1 : x1 ≤ nI n
    · obtain ⟨k, hk, rfl⟩ := nI_of h0
      have hkn : k ≤ n := (nI_leI hk (by have := h.le; omega)).mp h1
      refine ⟨sI cs 385 0 (nI k), setF rs 1 (nI k), nI n - nI k, k, ?_, ?_, ⟨rfl, rfl, by have := h.le; omega, fun j hj => h.eq j (by omega), fun j hj => h.bt j (by omega)⟩, FX.sI (Or.inr rfl), FR.setF (Or.inr rfl)⟩
      · rw [if_pos h1, ob_s, pI_ok hB.o, ob_s]
      · rw [if_pos h1]
    · exact ⟨cs, rs, -1, n, if_neg h1, if_neg h1, h, FX.refl cs, FR.refl rs⟩
/-! value and nothing -/
def dS (t : Nat) : Prop := t = 262 ∨ t = 263 ∨ t = 264
def dR (k : Nat) : Prop := k = 11 ∨ k = 12 ∨ k = 13
theorem sim_draft {F d : Nat} {cs : CS} {rs : RS} {v : Int64} {x : Int32} (hB : Bas cs) (h : DR d cs rs) (hx : x = 0 ∨ x = 1 ∧ v = 0) : ∃ cs' rs' r m, c_X7_draft F cs 2 v x = some (cs', r) ∧ m_draft F rs v x = some (rs', r) ∧ DR m cs' rs' ∧ FX dS cs cs' ∧ FR dR rs rs' := by
  have nb : vp_nar .byte x = x := by rcases hx with e | e <;> (first | rw [e] | rw [e.1]) <;> decide
  have nz : vp_nar .boolean x = x := by rcases hx with e | e <;> (first | rw [e] | rw [e.1]) <;> decide
  unfold c_X7_draft m_draft c_X7_draft_b24
  simp only [gI_ok hB.oS, gA_ok hB.oS, hB.p262, hB.p263, lnA_n hB.e262 hB.p262, lnA_n hB.e263 hB.p263, hB.l262, hB.l263, ob_s, h.ci, h.ri]
  by_cases h4 : d = 4
  · subst h4
    exact ⟨cs, rs, -1, 4, if_pos (by decide), if_pos (by decide), h, FX.refl cs, FR.refl rs⟩
  · have hd : d < 4 := by have := h.le; omega
    have c1 : ¬ nI 4 ≤ nI d := nI_ge hd (by decide)
    have c2 : nI d < nI 4 := nI_lt hd (by decide)
    have c3 : ¬ nI d = 4 := fun e => h4 ((nI_eq (b := 4) (by omega) (by decide)).mp e)
    refine ⟨sI (sA (sB cs 262 2 d v) 263 2 d x) 264 2 (nI (d + 1)), setF (setI (setL rs 12 d v) 13 d x) 11 (nI (d + 1)), nI (d + 1), d + 1, ?_, ?_, ⟨rfl, rfl, hd, fun k hk => ?_⟩, ((FX.sB (Or.inl rfl)).trans (FX.sA (Or.inr (Or.inl rfl)))).trans (FX.sI (Or.inr (Or.inr rfl))), ((FR.setL (Or.inr (Or.inl rfl))).trans (FR.setI (Or.inr (Or.inr rfl)))).trans (FR.setF (Or.inl rfl))⟩
    · rw [if_neg c1, if_pos c2, wB_n hB.e262 hB.p262 (by rw [hB.l262]; exact hd) (by rw [hB.l262]; decide), ob_s, gA_ok (cs := sB cs 262 2 d v) hB.oS, show kP (sB cs 262 2 d v) 263 2 = some 8 from hB.p263, ob_s, gI_ok (cs := sB cs 262 2 d v) hB.oS, ob_s, show kI (sB cs 262 2 d v) 264 2 = nI d from h.ci, wA_n (cs := sB cs 262 2 d v) hB.e263 hB.p263 (by show d < kL cs 263 2; rw [hB.l263]; exact hd) (by show kL cs 263 2 < _; rw [hB.l263]; decide), ob_s, nb, gI_ok (cs := sA (sB cs 262 2 d v) 263 2 d x) hB.oS, ob_s, show kI (sA (sB cs 262 2 d v) 263 2 d x) 264 2 = nI d from h.ci, nI_1, pI_ok (cs := sA (sB cs 262 2 d v) 263 2 d x) hB.oS, ob_s, gI_ok (cs := sI (sA (sB cs 262 2 d v) 263 2 d x) 264 2 (nI (d + 1))) hB.oS, ob_s]
      rfl
    · simp only [if_neg c3, wrL_n hd (show (4 : Nat) < 2147483648 by decide), wrI_n hd (show (4 : Nat) < 2147483648 by decide), ob_s, setL_1, setI_1, setF_1, h.ri, nz, nI_1, pk_us]
    · show vp_updL (kB cs 262 2) d v k = vp_updL (rs.2.2.2 12) d v k ∧ upd (kA cs 263 2) d x k = upd (rs.2.2.1 13) d x k ∧ (upd (rs.2.2.1 13) d x k = 0 ∨ upd (rs.2.2.1 13) d x k = 1 ∧ vp_updL (rs.2.2.2 12) d v k = 0)
      by_cases e : k = d
      · subst e
        rw [pk_us, pk_us, pk_uLs, pk_uLs]
        exact ⟨rfl, rfl, hx⟩
      · rw [pk_un e, pk_un e, pk_uLn e, pk_uLn e]
        exact h.eq k (by omega)
theorem sim_value {F d : Nat} {cs : CS} {rs : RS} {v : Int64} (hB : Bas cs) (h : DR d cs rs) : ∃ cs' rs' r m, c_X11_value F cs 0 v = some (cs', r) ∧ m_value F rs v = some (rs', r) ∧ DR m cs' rs' ∧ FX dS cs cs' ∧ FR dR rs rs' := by
  obtain ⟨cs', rs', r, m, e1, e2, h1, h2, h3⟩ := sim_draft (F := F) (v := v) (x := 0) hB h (Or.inl rfl)
  refine ⟨cs', rs', r, m, ?_, ?_, h1, h2, h3⟩
  · unfold c_X11_value
    simp only [gR_ok hB.o, hB.rS, ob_s, ckE_ok hB.oS, e1]
  · unfold m_value
    simp only [e2, ob_s]
theorem sim_nothing {F d : Nat} {cs : CS} {rs : RS} (hB : Bas cs) (h : DR d cs rs) : ∃ cs' rs' r m, c_X11_nothing F cs 0 = some (cs', r) ∧ m_nothing F rs = some (rs', r) ∧ DR m cs' rs' ∧ FX dS cs cs' ∧ FR dR rs rs' := by
  obtain ⟨cs', rs', r, m, e1, e2, h1, h2, h3⟩ := sim_draft (F := F) (v := 0) (x := 1) hB h (Or.inr ⟨rfl, rfl⟩)
  refine ⟨cs', rs', r, m, ?_, ?_, h1, h2, h3⟩
  · unfold c_X11_nothing
    simp only [gR_ok hB.o, hB.rS, ob_s, ckE_ok hB.oS, e1]
  · unfold m_nothing
    simp only [e2, ob_s]
/-! stream -/
def oS (t : Nat) : Prop := t = 256 ∨ t = 258
def oR (k : Nat) : Prop := k = 4 ∨ k = 5
theorem sim_stream {F n : Nat} {cs : CS} {rs : RS} {x1 : Int32} (hB : Bas cs) (h : ST n cs rs) : ∃ cs' rs' r m, c_X11_stream F cs 0 x1 = some (cs', r) ∧ m_stream F rs x1 = some (rs', r) ∧ ST m cs' rs' ∧ n ≤ m ∧ (∀ k, k < n → kA cs' 258 2 k = kA cs 258 2 k ∧ rs'.2.2.1 5 k = rs.2.2.1 5 k) ∧ FX oS cs cs' ∧ FR oR rs rs' := by
  unfold c_X11_stream
  simp only [gR_ok hB.o, hB.rS, ob_s, ckE_ok hB.oS]
  unfold c_X7_open m_stream c_X7_open_b22 m_stream_b19
  have same : ∀ (r : Int32), ∃ cs' rs' r' m, some (cs, r) = some (cs', r') ∧ some (rs, r) = some (rs', r') ∧ ST m cs' rs' ∧ n ≤ m ∧ (∀ k, k < n → kA cs' 258 2 k = kA cs 258 2 k ∧ rs'.2.2.1 5 k = rs.2.2.1 5 k) ∧ FX oS cs cs' ∧ FR oR rs rs' := fun r => ⟨cs, rs, r, n, rfl, rfl, h, Nat.le_refl _, fun _ _ => ⟨rfl, rfl⟩, FX.refl cs, FR.refl rs⟩
  by_cases h1 : x1 < 1
  · simp only [if_pos h1, ob_s]
    exact same (-1)
  · by_cases h4 : 4 < x1
    · simp only [if_neg h1, if_pos h4, ob_s]
      exact same (-1)
    · have h0 : ¬ x1 < 0 := fun q => h1 (Int32.lt_iff_toInt_lt.mpr (by have := Int32.lt_iff_toInt_lt.mp q; simp at this ⊢; omega))
      obtain ⟨c, hc, rfl⟩ := nI_of h0
      have c1 : 1 ≤ c := by
        rcases Nat.lt_or_ge c 1 with q | q
        · exact absurd (nI_lt (b := 1) q (by decide)) h1
        · exact q
      have c4 : c ≤ 4 := by
        rcases Nat.lt_or_ge 4 c with q | q
        · exact absurd (nI_lt (a := 4) q (by omega)) h4
        · exact q
      simp only [if_neg h1, if_neg h4, gI_ok hB.oS, gA_ok hB.oS, hB.p258, lnA_n hB.e258 hB.p258, hB.l258, ob_s, h.ci, h.ri]
      by_cases h6 : n = 6
      · subst h6
        have q1 : ¬ nI 6 < nI 6 := by decide
        have q2 : nI 6 = 6 := by decide
        simp only [if_neg q1, if_pos q2, ob_s]
        exact same (-1)
      · have hn : n < 6 := by have := h.le; omega
        have q1 : nI n < nI 6 := nI_lt hn (by decide)
        have q2 : ¬ nI n = 6 := fun e => h6 ((nI_eq (b := 6) (by omega) (by decide)).mp e)
        refine ⟨sI (sA cs 258 2 n (nI c)) 256 2 (nI (n + 1)), setF (setI rs 5 n (nI c)) 4 (nI (n + 1)), nI n, n + 1, ?_, ?_, ⟨rfl, rfl, hn, fun k hk => ?_, h.wm, h.th, fun r hr h8 => h.out r hr (by omega), fun s c' p hs hp hc4 hk ht => ?_⟩, Nat.le_succ n, fun k hk => ?_, (FX.sA (Or.inr rfl)).trans (FX.sI (Or.inl rfl)), (FR.setI (Or.inr rfl)).trans (FR.setF (Or.inl rfl))⟩
        · rw [if_pos q1, wA_n hB.e258 hB.p258 (by rw [hB.l258]; exact hn) (by rw [hB.l258]; decide), ob_s, gI_ok (cs := sA cs 258 2 n (nI c)) hB.oS, ob_s, show kI (sA cs 258 2 n (nI c)) 256 2 = nI n from h.ci, nI_1, pI_ok (cs := sA cs 258 2 n (nI c)) hB.oS, ob_s, gI_ok (cs := sI (sA cs 258 2 n (nI c)) 256 2 (nI (n + 1))) hB.oS, ob_s, ob_s]
          show some (_, nI (n + 1) - 1) = _
          rw [nI_pred]
        · simp only [if_neg q2, wrI_n hn (show (6 : Nat) < 2147483648 by decide), ob_s, setI_1, setF_1, h.ri, nI_1, pk_us, nI_pred]
        · show ∃ c', 1 ≤ c' ∧ c' ≤ 4 ∧ upd (kA cs 258 2) n (nI c) k = nI c' ∧ upd (rs.2.2.1 5) n (nI c) k = nI c'
          by_cases e : k = n
          · subst e
            exact ⟨c, c1, c4, pk_us, pk_us⟩
          · rw [pk_un e, pk_un e]
            exact h.col k (by omega)
        · have hk : upd (kA cs 258 2) n (nI c) s = nI c' := hk
          have ht2 : rs.2.2.1 6 (8 * s + p) = 1 := ht
          by_cases e : s = n
          · have := h.out (8 * s + p) (by omega) (by omega)
            rw [this] at ht2
            exact absurd ht2 (by decide)
          · rw [pk_un e] at hk
            exact h.val s c' p (by omega) hp hc4 hk ht2
        · show upd (kA cs 258 2) n (nI c) k = kA cs 258 2 k ∧ upd (rs.2.2.1 5) n (nI c) k = rs.2.2.1 5 k
          exact ⟨pk_un (by omega), pk_un (by omega)⟩

/-! a text that was read and checked, and what stays of it -/
def TXG (F n : Nat) (f : Nat → Int32) (M t c cap K k s lf S Q oq ar : Nat) (V : VT) (D : Nat → Prop) (cs : CS) (rs : RS) : Prop := (10000 ≤ F) ∧ (ar ≠ c) ∧ (QR XJ n f M c s S Q cs rs 13 S 0 0 K k oq 0) ∧ (JDN c s V D K k cs rs 13 oq 0) ∧ (TQY V s c cs 13 oq cs) ∧ (∀ y, y < s → VW c cs rs y = V y) ∧ (SKV V s) ∧ (s ≤ 120) ∧ (s ≤ cap) ∧ (cap ≤ 120) ∧ (CA c cap cs) ∧ ((2, c) ∈ kE cs) ∧ (kI cs 64 c = nI s) ∧ (∀ y, D y → vk V y = 39 → kA cs 72 c y = rs.2.2.1 33 y) ∧ (SM t lf S cs rs) ∧ (lf ≤ 3) ∧ (rs.1 22 = nI s) ∧ (rs.1 34 = nI S) ∧ (rs.1 69 = nI lf) ∧ (kI cs 325 t = nI lf) ∧ (kR cs 323 t = some oq) ∧ (kR cs 322 t = some c) ∧ ((10, t) ∈ kE cs) ∧ ((358, t) ∈ kE cs) ∧ (∃ j, kP cs 326 t = some j) ∧ (kL cs 326 t = 3) ∧ (∀ j, j < lf → ∀ oo, kQ cs 326 t j = some oo → oo < k) ∧ (∃ e it mi, kR cs 129 oq = some it ∧ (K ≤ it ∧ it < k) ∧ e < 60 ∧ rs.2.2.1 61 0 = nI e ∧ rs.2.2.1 36 e = nI mi ∧ CLM it mi cs ∧ ∀ y, y < mi → TYR (kA cs 100 it y) (rs.2.2.1 46 (8 * e + y))) ∧ (38 ≤ t ∧ t < K ∧ 38 ≤ c ∧ c < K ∧ K ≤ k ∧ S ≤ 39)
theorem TXG.hF {F n : Nat} {f : Nat → Int32} {M t c cap K k s lf S Q oq ar : Nat} {V : VT} {D : Nat → Prop} {cs : CS} {rs : RS} (h : TXG F n f M t c cap K k s lf S Q oq ar V D cs rs) : 10000 ≤ F := h.1
theorem TXG.ne {F n : Nat} {f : Nat → Int32} {M t c cap K k s lf S Q oq ar : Nat} {V : VT} {D : Nat → Prop} {cs : CS} {rs : RS} (h : TXG F n f M t c cap K k s lf S Q oq ar V D cs rs) : ar ≠ c := h.2.1
theorem TXG.qr {F n : Nat} {f : Nat → Int32} {M t c cap K k s lf S Q oq ar : Nat} {V : VT} {D : Nat → Prop} {cs : CS} {rs : RS} (h : TXG F n f M t c cap K k s lf S Q oq ar V D cs rs) : QR XJ n f M c s S Q cs rs 13 S 0 0 K k oq 0 := h.2.2.1
theorem TXG.jd {F n : Nat} {f : Nat → Int32} {M t c cap K k s lf S Q oq ar : Nat} {V : VT} {D : Nat → Prop} {cs : CS} {rs : RS} (h : TXG F n f M t c cap K k s lf S Q oq ar V D cs rs) : JDN c s V D K k cs rs 13 oq 0 := h.2.2.2.1
theorem TXG.ty {F n : Nat} {f : Nat → Int32} {M t c cap K k s lf S Q oq ar : Nat} {V : VT} {D : Nat → Prop} {cs : CS} {rs : RS} (h : TXG F n f M t c cap K k s lf S Q oq ar V D cs rs) : TQY V s c cs 13 oq cs := h.2.2.2.2.1
theorem TXG.vw {F n : Nat} {f : Nat → Int32} {M t c cap K k s lf S Q oq ar : Nat} {V : VT} {D : Nat → Prop} {cs : CS} {rs : RS} (h : TXG F n f M t c cap K k s lf S Q oq ar V D cs rs) : ∀ y, y < s → VW c cs rs y = V y := h.2.2.2.2.2.1
theorem TXG.sk {F n : Nat} {f : Nat → Int32} {M t c cap K k s lf S Q oq ar : Nat} {V : VT} {D : Nat → Prop} {cs : CS} {rs : RS} (h : TXG F n f M t c cap K k s lf S Q oq ar V D cs rs) : SKV V s := h.2.2.2.2.2.2.1
theorem TXG.s1 {F n : Nat} {f : Nat → Int32} {M t c cap K k s lf S Q oq ar : Nat} {V : VT} {D : Nat → Prop} {cs : CS} {rs : RS} (h : TXG F n f M t c cap K k s lf S Q oq ar V D cs rs) : s ≤ 120 := h.2.2.2.2.2.2.2.1
theorem TXG.sc {F n : Nat} {f : Nat → Int32} {M t c cap K k s lf S Q oq ar : Nat} {V : VT} {D : Nat → Prop} {cs : CS} {rs : RS} (h : TXG F n f M t c cap K k s lf S Q oq ar V D cs rs) : s ≤ cap := h.2.2.2.2.2.2.2.2.1
theorem TXG.cp {F n : Nat} {f : Nat → Int32} {M t c cap K k s lf S Q oq ar : Nat} {V : VT} {D : Nat → Prop} {cs : CS} {rs : RS} (h : TXG F n f M t c cap K k s lf S Q oq ar V D cs rs) : cap ≤ 120 := h.2.2.2.2.2.2.2.2.2.1
theorem TXG.ca {F n : Nat} {f : Nat → Int32} {M t c cap K k s lf S Q oq ar : Nat} {V : VT} {D : Nat → Prop} {cs : CS} {rs : RS} (h : TXG F n f M t c cap K k s lf S Q oq ar V D cs rs) : CA c cap cs := h.2.2.2.2.2.2.2.2.2.2.1
theorem TXG.oc {F n : Nat} {f : Nat → Int32} {M t c cap K k s lf S Q oq ar : Nat} {V : VT} {D : Nat → Prop} {cs : CS} {rs : RS} (h : TXG F n f M t c cap K k s lf S Q oq ar V D cs rs) : (2, c) ∈ kE cs := h.2.2.2.2.2.2.2.2.2.2.2.1
theorem TXG.sz {F n : Nat} {f : Nat → Int32} {M t c cap K k s lf S Q oq ar : Nat} {V : VT} {D : Nat → Prop} {cs : CS} {rs : RS} (h : TXG F n f M t c cap K k s lf S Q oq ar V D cs rs) : kI cs 64 c = nI s := h.2.2.2.2.2.2.2.2.2.2.2.2.1
theorem TXG.dd {F n : Nat} {f : Nat → Int32} {M t c cap K k s lf S Q oq ar : Nat} {V : VT} {D : Nat → Prop} {cs : CS} {rs : RS} (h : TXG F n f M t c cap K k s lf S Q oq ar V D cs rs) : ∀ y, D y → vk V y = 39 → kA cs 72 c y = rs.2.2.1 33 y := h.2.2.2.2.2.2.2.2.2.2.2.2.2.1
theorem TXG.sm {F n : Nat} {f : Nat → Int32} {M t c cap K k s lf S Q oq ar : Nat} {V : VT} {D : Nat → Prop} {cs : CS} {rs : RS} (h : TXG F n f M t c cap K k s lf S Q oq ar V D cs rs) : SM t lf S cs rs := h.2.2.2.2.2.2.2.2.2.2.2.2.2.2.1
theorem TXG.l3 {F n : Nat} {f : Nat → Int32} {M t c cap K k s lf S Q oq ar : Nat} {V : VT} {D : Nat → Prop} {cs : CS} {rs : RS} (h : TXG F n f M t c cap K k s lf S Q oq ar V D cs rs) : lf ≤ 3 := h.2.2.2.2.2.2.2.2.2.2.2.2.2.2.2.1
theorem TXG.r22 {F n : Nat} {f : Nat → Int32} {M t c cap K k s lf S Q oq ar : Nat} {V : VT} {D : Nat → Prop} {cs : CS} {rs : RS} (h : TXG F n f M t c cap K k s lf S Q oq ar V D cs rs) : rs.1 22 = nI s := h.2.2.2.2.2.2.2.2.2.2.2.2.2.2.2.2.1
theorem TXG.r34 {F n : Nat} {f : Nat → Int32} {M t c cap K k s lf S Q oq ar : Nat} {V : VT} {D : Nat → Prop} {cs : CS} {rs : RS} (h : TXG F n f M t c cap K k s lf S Q oq ar V D cs rs) : rs.1 34 = nI S := h.2.2.2.2.2.2.2.2.2.2.2.2.2.2.2.2.2.1
theorem TXG.r69 {F n : Nat} {f : Nat → Int32} {M t c cap K k s lf S Q oq ar : Nat} {V : VT} {D : Nat → Prop} {cs : CS} {rs : RS} (h : TXG F n f M t c cap K k s lf S Q oq ar V D cs rs) : rs.1 69 = nI lf := h.2.2.2.2.2.2.2.2.2.2.2.2.2.2.2.2.2.2.1
theorem TXG.c325 {F n : Nat} {f : Nat → Int32} {M t c cap K k s lf S Q oq ar : Nat} {V : VT} {D : Nat → Prop} {cs : CS} {rs : RS} (h : TXG F n f M t c cap K k s lf S Q oq ar V D cs rs) : kI cs 325 t = nI lf := h.2.2.2.2.2.2.2.2.2.2.2.2.2.2.2.2.2.2.2.1
theorem TXG.r323 {F n : Nat} {f : Nat → Int32} {M t c cap K k s lf S Q oq ar : Nat} {V : VT} {D : Nat → Prop} {cs : CS} {rs : RS} (h : TXG F n f M t c cap K k s lf S Q oq ar V D cs rs) : kR cs 323 t = some oq := h.2.2.2.2.2.2.2.2.2.2.2.2.2.2.2.2.2.2.2.2.1
theorem TXG.r322 {F n : Nat} {f : Nat → Int32} {M t c cap K k s lf S Q oq ar : Nat} {V : VT} {D : Nat → Prop} {cs : CS} {rs : RS} (h : TXG F n f M t c cap K k s lf S Q oq ar V D cs rs) : kR cs 322 t = some c := h.2.2.2.2.2.2.2.2.2.2.2.2.2.2.2.2.2.2.2.2.2.1
theorem TXG.o10 {F n : Nat} {f : Nat → Int32} {M t c cap K k s lf S Q oq ar : Nat} {V : VT} {D : Nat → Prop} {cs : CS} {rs : RS} (h : TXG F n f M t c cap K k s lf S Q oq ar V D cs rs) : (10, t) ∈ kE cs := h.2.2.2.2.2.2.2.2.2.2.2.2.2.2.2.2.2.2.2.2.2.2.1
theorem TXG.e326 {F n : Nat} {f : Nat → Int32} {M t c cap K k s lf S Q oq ar : Nat} {V : VT} {D : Nat → Prop} {cs : CS} {rs : RS} (h : TXG F n f M t c cap K k s lf S Q oq ar V D cs rs) : (358, t) ∈ kE cs := h.2.2.2.2.2.2.2.2.2.2.2.2.2.2.2.2.2.2.2.2.2.2.2.1
theorem TXG.p326 {F n : Nat} {f : Nat → Int32} {M t c cap K k s lf S Q oq ar : Nat} {V : VT} {D : Nat → Prop} {cs : CS} {rs : RS} (h : TXG F n f M t c cap K k s lf S Q oq ar V D cs rs) : ∃ j, kP cs 326 t = some j := h.2.2.2.2.2.2.2.2.2.2.2.2.2.2.2.2.2.2.2.2.2.2.2.2.1
theorem TXG.l326 {F n : Nat} {f : Nat → Int32} {M t c cap K k s lf S Q oq ar : Nat} {V : VT} {D : Nat → Prop} {cs : CS} {rs : RS} (h : TXG F n f M t c cap K k s lf S Q oq ar V D cs rs) : kL cs 326 t = 3 := h.2.2.2.2.2.2.2.2.2.2.2.2.2.2.2.2.2.2.2.2.2.2.2.2.2.1
theorem TXG.kb {F n : Nat} {f : Nat → Int32} {M t c cap K k s lf S Q oq ar : Nat} {V : VT} {D : Nat → Prop} {cs : CS} {rs : RS} (h : TXG F n f M t c cap K k s lf S Q oq ar V D cs rs) : ∀ j, j < lf → ∀ oo, kQ cs 326 t j = some oo → oo < k := h.2.2.2.2.2.2.2.2.2.2.2.2.2.2.2.2.2.2.2.2.2.2.2.2.2.2.1
theorem TXG.fi {F n : Nat} {f : Nat → Int32} {M t c cap K k s lf S Q oq ar : Nat} {V : VT} {D : Nat → Prop} {cs : CS} {rs : RS} (h : TXG F n f M t c cap K k s lf S Q oq ar V D cs rs) : ∃ e it mi, kR cs 129 oq = some it ∧ (K ≤ it ∧ it < k) ∧ e < 60 ∧ rs.2.2.1 61 0 = nI e ∧ rs.2.2.1 36 e = nI mi ∧ CLM it mi cs ∧ ∀ y, y < mi → TYR (kA cs 100 it y) (rs.2.2.1 46 (8 * e + y)) := h.2.2.2.2.2.2.2.2.2.2.2.2.2.2.2.2.2.2.2.2.2.2.2.2.2.2.2.1
theorem TXG.od {F n : Nat} {f : Nat → Int32} {M t c cap K k s lf S Q oq ar : Nat} {V : VT} {D : Nat → Prop} {cs : CS} {rs : RS} (h : TXG F n f M t c cap K k s lf S Q oq ar V D cs rs) : 38 ≤ t ∧ t < K ∧ 38 ≤ c ∧ c < K ∧ K ≤ k ∧ S ≤ 39 := h.2.2.2.2.2.2.2.2.2.2.2.2.2.2.2.2.2.2.2.2.2.2.2.2.2.2.2.2
theorem SDO.now {PQ PQ' : Nat → Nat → Prop} {s lo hi so e i : Nat} {V : VT} {D : Nat → Prop} {cs cs' : CS} {rs rs' : RS} (h : SDO PQ s V D lo hi so e i cs rs) (hso : lo ≤ so ∧ so < hi) (hA : ∀ x j, lo ≤ j → j < hi → (x < 32 ∨ 63 < x ∧ x < 74 ∨ 76 < x ∧ x < 256 ∨ 320 ≤ x ∧ x < 352) → AT cs cs' x j) (r : ∀ q, q = 36 ∨ q = 49 ∨ q = 53 ∨ q = 61 → rs'.2.2.1 q = rs.2.2.1 q) (r5 : ∀ d, rs.2.2.1 5 d ≠ 0 → rs'.2.2.1 5 d = rs.2.2.1 5 d) (hP : ∀ oi qi, PQ oi qi → PQ' oi qi) : SDO PQ' s V D lo hi so e i cs' rs' := by
  obtain ⟨oo, m, a, h1, h2, h3, h4, h5, h6, h7, h8, h9, h10, h11, h12⟩ := h
  refine ⟨oo, m, a, h1, h2, by rw [(hA 195 so hso.1 hso.2 (by omega)).q]; exact h3, by rw [(hA 96 (oo + 1) (by omega) (by omega) (by omega)).i]; exact h4, by rw [(hA 234 oo (by omega) (by omega) (by omega)).i]; exact h5, h6, h7, h8, fun hi0 => ?_, ?_, fun d d9 w => ?_, ?_⟩
  · obtain ⟨oo', m', a', q1, q2, q3, q4, q5, q6⟩ := h9 hi0
    exact ⟨oo', m', a', q1, q2, by rw [(hA 195 so hso.1 hso.2 (by omega)).q]; exact q3, by rw [(hA 96 (oo' + 1) (by omega) (by omega) (by omega)).i]; exact q4, by rw [(hA 234 oo' (by omega) (by omega) (by omega)).i]; exact q5, q6⟩
  · rw [(hA 233 oo (by omega) (by omega) (by omega)).i]
    exact h10
  · rw [r 49 (by omega)] at w
    obtain ⟨q1, q2⟩ := h11 d d9 w
    refine ⟨q1, ?_⟩
    rw [r5 d (by rw [q2]; exact nI_ne0 (by omega) (by omega))]
    exact q2
  · rw [(hA 225 oo (by omega) (by omega) (by omega)).r, r 53 (by omega), r 61 (by omega), r 36 (by omega)]
    exact fun oi qi w0 w1 w2 => ⟨hP oi qi (h12 oi qi w0 w1 w2).1, (h12 oi qi w0 w1 w2).2⟩
theorem SDN.now {PQ PQ' : Nat → Nat → Prop} {c s lo hi so e : Nat} {V : VT} {D : Nat → Prop} {cs cs' : CS} {rs rs' : RS} (h : SDN PQ c s V D lo hi so e cs rs) (hA : ∀ x j, lo ≤ j → j < hi → (x < 32 ∨ 63 < x ∧ x < 74 ∨ 76 < x ∧ x < 256 ∨ 320 ≤ x ∧ x < 352) → AT cs cs' x j) (h72 : kA cs' 72 c = kA cs 72 c) (r : ∀ q, q = 36 ∨ q = 49 ∨ q = 53 ∨ q = 61 → rs'.2.2.1 q = rs.2.2.1 q) (r5 : ∀ d, rs.2.2.1 5 d ≠ 0 → rs'.2.2.1 5 d = rs.2.2.1 5 d) (hP : ∀ oi qi, PQ oi qi → PQ' oi qi) : SDN PQ' c s V D lo hi so e cs' rs' := by
  obtain ⟨s1, s2, it, gr, mi, mg, na, ns, h1, h2, h3, h4, h5, h6, h7, h8, h9, h10, h11, h12, h13, h14, h15, h16, h17, h18, h19, h20⟩ := h
  have aso : ∀ x, (x < 32 ∨ 63 < x ∧ x < 74 ∨ 76 < x ∧ x < 256 ∨ 320 ≤ x ∧ x < 352) → AT cs cs' x so := fun x => hA x so s1 s2
  refine ⟨s1, s2, it, gr, mi, mg, na, ns, h1, h2, h3, h4, by rw [(aso 194 (by omega)).r]; exact h5, by rw [(aso 200 (by omega)).r]; exact h6, by rw [(hA 96 it h1 h2 (by omega)).i]; exact h7, by rw [(hA 96 gr h3 h4 (by omega)).i]; exact h8, by rw [(aso 203 (by omega)).i]; exact h9, by rw [(aso 196 (by omega)).i]; exact h10, h11, h12, h13, h14, by rw [(aso 197 (by omega)).i]; exact h15, by rw [(aso 201 (by omega)).i]; exact h16, fun z hz => by rw [(hA 97 gr h3 h4 (by omega)).a]; exact h17 z hz, fun z hz => by rw [(hA 97 it h1 h2 (by omega)).a]; exact h18 z hz, ?_, fun i hi0 => (h20 i hi0).now ⟨s1, s2⟩ hA r r5 hP⟩
  rw [(aso 202 (by omega)).a, h72]
  exact h19
theorem JDN.now {c s lo hi : Nat} {V : VT} {D : Nat → Prop} {cs cs' : CS} {rs rs' : RS} (hA : ∀ x j, lo ≤ j → j < hi → (x < 32 ∨ 63 < x ∧ x < 74 ∨ 76 < x ∧ x < 256 ∨ 320 ≤ x ∧ x < 352) → AT cs cs' x j) (h72 : kA cs' 72 c = kA cs 72 c) (r : ∀ q, q = 36 ∨ q = 49 ∨ q = 53 ∨ q = 61 → rs'.2.2.1 q = rs.2.2.1 q) (r5 : ∀ d, rs.2.2.1 5 d ≠ 0 → rs'.2.2.1 5 d = rs.2.2.1 5 d) : ∀ d oq q, JDN c s V D lo hi cs rs d oq q → JDN c s V D lo hi cs' rs' d oq q
  | 0, _, _, h => h.elim
  | d + 1, oq, q, h => by
    obtain ⟨h1, h2, L, m, h3, h4, h5, h6, h7, h8, h9⟩ := h
    refine ⟨h1, h2, L, m, h3, h4, by rw [(hA 128 oq h1 h2 (by omega)).r]; exact h5, by rw [(hA 2 L h3 h4 (by omega)).i]; exact h6, h7, fun i hi0 => ?_, fun oc hoc => ?_⟩
    · obtain ⟨so, e, q1, q2, q3⟩ := h8 i hi0
      exact ⟨so, e, by rw [(hA 1 L h3 h4 (by omega)).q]; exact q1, by rw [r 61 (by omega)]; exact q2, q3.now hA h72 r r5 (fun oi qi w => JDN.now hA h72 r r5 d oi qi w)⟩
    · rw [(hA 130 oq h1 h2 (by omega)).r] at hoc
      obtain ⟨q1, q2, mo, q3, q4, q5⟩ := h9 oc hoc
      exact ⟨q1, q2, mo, q3, by rw [(hA 96 oc q1 q2 (by omega)).i]; exact q4, fun z hz => by rw [(hA 97 oc q1 q2 (by omega)).a]; exact q5 z hz⟩
/-- a text's objects and arrays, then and now -/
def KPN (c k : Nat) (csH : CS) (rsH : RS) (cs : CS) (rs : RS) : Prop := (EM csH cs) ∧ (∀ x j, 38 ≤ j → j < k → (x < 32 ∨ 63 < x ∧ x < 74 ∨ 76 < x ∧ x < 256 ∨ 320 ≤ x ∧ x < 352) → ¬ (j = c ∧ 74 ≤ x ∧ x ≤ 76) → AT csH cs x j) ∧ (∀ x j, 64 ≤ x ∧ x < 256 → 38 ≤ j → j < k → kP cs x j = kP csH x j ∧ kL cs x j = kL csH x j) ∧ (∀ x j, 224 ≤ x → x < 256 → j < k → AT csH cs x j) ∧ (∀ d, rsH.2.2.1 5 d ≠ 0 → rs.2.2.1 5 d = rsH.2.2.1 5 d) ∧ (∀ q, 18 ≤ q → q ≤ 80 → ¬ (19 ≤ q ∧ q ≤ 21) → rs.1 q = rsH.1 q ∧ rs.2.2.1 q = rsH.2.2.1 q ∧ rs.2.2.2 q = rsH.2.2.2 q)
theorem KPN.em {c k : Nat} {csH : CS} {rsH : RS} {cs : CS} {rs : RS} (h : KPN c k csH rsH cs rs) : EM csH cs := h.1
theorem KPN.at' {c k : Nat} {csH : CS} {rsH : RS} {cs : CS} {rs : RS} (h : KPN c k csH rsH cs rs) : ∀ x j, 38 ≤ j → j < k → (x < 32 ∨ 63 < x ∧ x < 74 ∨ 76 < x ∧ x < 256 ∨ 320 ≤ x ∧ x < 352) → ¬ (j = c ∧ 74 ≤ x ∧ x ≤ 76) → AT csH cs x j := h.2.1
theorem KPN.pl {c k : Nat} {csH : CS} {rsH : RS} {cs : CS} {rs : RS} (h : KPN c k csH rsH cs rs) : ∀ x j, 64 ≤ x ∧ x < 256 → 38 ≤ j → j < k → kP cs x j = kP csH x j ∧ kL cs x j = kL csH x j := h.2.2.1
theorem KPN.a7 {c k : Nat} {csH : CS} {rsH : RS} {cs : CS} {rs : RS} (h : KPN c k csH rsH cs rs) : ∀ x j, 224 ≤ x → x < 256 → j < k → AT csH cs x j := h.2.2.2.1
theorem KPN.r5 {c k : Nat} {csH : CS} {rsH : RS} {cs : CS} {rs : RS} (h : KPN c k csH rsH cs rs) : ∀ d, rsH.2.2.1 5 d ≠ 0 → rs.2.2.1 5 d = rsH.2.2.1 5 d := h.2.2.2.2.1
theorem KPN.fr {c k : Nat} {csH : CS} {rsH : RS} {cs : CS} {rs : RS} (h : KPN c k csH rsH cs rs) : ∀ q, 18 ≤ q → q ≤ 80 → ¬ (19 ≤ q ∧ q ≤ 21) → rs.1 q = rsH.1 q ∧ rs.2.2.1 q = rsH.2.2.1 q ∧ rs.2.2.2 q = rsH.2.2.2 q := h.2.2.2.2.2
theorem KPN.refl {c k : Nat} {cs : CS} {rs : RS} : KPN c k cs rs cs rs := ⟨EM.refl, fun _ _ _ _ _ _ => AT.refl, fun _ _ _ _ _ => ⟨rfl, rfl⟩, fun _ _ _ _ _ => AT.refl, fun _ _ => rfl, fun _ _ _ _ => ⟨rfl, rfl, rfl⟩⟩
theorem KPN.trans {c k : Nat} {a b d : CS} {x y z : RS} (h : KPN c k a x b y) (g : KPN c k b y d z) : KPN c k a x d z := ⟨h.em.trans g.em, fun u j h1 h2 hx h3 => (h.at' u j h1 h2 hx h3).trans (g.at' u j h1 h2 hx h3), fun u j h0 h1 h2 => ⟨(g.pl u j h0 h1 h2).1.trans (h.pl u j h0 h1 h2).1, (g.pl u j h0 h1 h2).2.trans (h.pl u j h0 h1 h2).2⟩, fun u j h1 h2 h3 => (h.a7 u j h1 h2 h3).trans (g.a7 u j h1 h2 h3), fun d hd => (g.r5 d (by rw [h.r5 d hd]; exact hd)).trans (h.r5 d hd), fun q h1 h2 h3 => ⟨(g.fr q h1 h2 h3).1.trans (h.fr q h1 h2 h3).1, (g.fr q h1 h2 h3).2.1.trans (h.fr q h1 h2 h3).2.1, (g.fr q h1 h2 h3).2.2.trans (h.fr q h1 h2 h3).2.2⟩⟩
theorem CA.pn {c cap : Nat} {a b : CS} (h : CA c cap a) (e : ∀ y, (y, c) ∈ kE a → (y, c) ∈ kE b) (pl : ∀ x, 64 ≤ x ∧ x < 256 → kP b x c = kP a x c ∧ kL b x c = kL a x c) : CA c cap b := by
  have p := fun x hx => (pl x hx).1
  have l := fun x hx => (pl x hx).2
  refine ⟨e _ h.e65, ?_, ?_, e _ h.e66, ?_, ?_, e _ h.e67, ?_, ?_, e _ h.e68, ?_, ?_, e _ h.e69, ?_, ?_, e _ h.e70, ?_, ?_, e _ h.e71, ?_, ?_, e _ h.e72, ?_, ?_, e _ h.e73, ?_, ?_, e _ h.e74, ?_, ?_, e _ h.e75, ?_, ?_⟩
  · rw [p 65 (by decide)]; exact h.p65
  · rw [l 65 (by decide)]; exact h.l65
  · rw [p 66 (by decide)]; exact h.p66
  · rw [l 66 (by decide)]; exact h.l66
  · rw [p 67 (by decide)]; exact h.p67
  · rw [l 67 (by decide)]; exact h.l67
  · rw [p 68 (by decide)]; exact h.p68
  · rw [l 68 (by decide)]; exact h.l68
  · rw [p 69 (by decide)]; exact h.p69
  · rw [l 69 (by decide)]; exact h.l69
  · rw [p 70 (by decide)]; exact h.p70
  · rw [l 70 (by decide)]; exact h.l70
  · rw [p 71 (by decide)]; exact h.p71
  · rw [l 71 (by decide)]; exact h.l71
  · rw [p 72 (by decide)]; exact h.p72
  · rw [l 72 (by decide)]; exact h.l72
  · rw [p 73 (by decide)]; exact h.p73
  · rw [l 73 (by decide)]; exact h.l73
  · rw [p 74 (by decide)]; exact h.p74
  · rw [l 74 (by decide)]; exact h.l74
  · rw [p 75 (by decide)]; exact h.p75
  · rw [l 75 (by decide)]; exact h.l75
theorem KPN.vw {c k : Nat} {csH cs : CS} {rsH rs : RS} (g : KPN c k csH rsH cs rs) (h1 : 38 ≤ c) (h2 : c < k) : VW c cs rs = VW c csH rsH := by
  have a : ∀ x, 64 ≤ x → x ≤ 73 → AT csH cs x c := fun x x1 x2 => g.at' x c h1 h2 (by omega) (by omega)
  unfold VW
  rw [(a 65 (by omega) (by omega)).a, (a 66 (by omega) (by omega)).a, (a 67 (by omega) (by omega)).a, (a 68 (by omega) (by omega)).a, (a 69 (by omega) (by omega)).b, (a 70 (by omega) (by omega)).b, (a 71 (by omega) (by omega)).a, (g.fr 23 (by omega) (by omega) (by omega)).2.1, (g.fr 24 (by omega) (by omega) (by omega)).2.1, (g.fr 25 (by omega) (by omega) (by omega)).2.1, (g.fr 26 (by omega) (by omega) (by omega)).2.1, (g.fr 27 (by omega) (by omega) (by omega)).2.1, (g.fr 28 (by omega) (by omega) (by omega)).2.2, (g.fr 29 (by omega) (by omega) (by omega)).2.1, (g.fr 32 (by omega) (by omega) (by omega)).2.1, (g.fr 30 (by omega) (by omega) (by omega)).2.1]
theorem rsm_rs {w : Int32 → Int64 → Nat} {a b : RS} (h37 : b.2.2.1 37 = a.2.2.1 37) (h49 : b.2.2.1 49 = a.2.2.1 49) (h51 : b.2.2.1 51 = a.2.2.1 51) (h52 : b.2.2.2 52 = a.2.2.2 52) (S : Nat) : rsm w b S = rsm w a S := rsm_eq S (fun s k _ _ => by
  unfold rk1
  rw [h37, h49, h51, h52])
theorem lsm_1 {t : Nat} {cs : CS} : ∀ lf, lsm (fun _ _ => 1) t cs lf ≤ lf
  | 0 => Nat.le_refl _
  | lf + 1 => by
    have ih := lsm_1 (t := t) (cs := cs) lf
    have e : lk1 (fun _ _ => 1) t cs lf ≤ 1 := by
      unfold lk1
      cases kQ cs 326 t lf with
      | none => exact Nat.zero_le _
      | some oo => exact Nat.le_refl _
    show lsm (fun _ _ => 1) t cs lf + lk1 (fun _ _ => 1) t cs lf ≤ lf + 1
    omega
/-- the joint plan of the standing text, now -/
theorem jp_now {F n : Nat} {f : Nat → Int32} {M t c cap K k s lf S Q oq ar : Nat} {V : VT} {D : Nat → Prop} {csH cs : CS} {rsH rs : RS} {r B nst : Nat} (h : TXG F n f M t c cap K k s lf S Q oq ar V D csH rsH) (g : KPN c k csH rsH cs rs) (hBB : B ≤ 400000) (bs : Bas cs) (st : ST nst cs rs) (s5 : ∀ d, nst ≤ d → d ≤ 9 → rs.2.2.1 5 d = 0) (rn : RUN r c ar cs) (r160 : kR cs 160 r = some 2) : JQC F r c ar B 13 cs rs 3 oq 0 := by
  obtain ⟨o1, o2, o3, o4, o5, o6⟩ := h.od
  have ek := g.vw o3 (by omega)
  have hv : ∀ y, y < s → VW c cs rs y = V y := fun y hy => by rw [ek]; exact h.vw y hy
  have ac : ∀ x, (x < 32 ∨ 63 < x ∧ x < 74 ∨ 76 < x ∧ x < 256 ∨ 320 ≤ x ∧ x < 352) ∧ ¬ (74 ≤ x ∧ x ≤ 76) → AT csH cs x c := fun x hx => g.at' x c o3 (by omega) hx.1 (fun w => hx.2 w.2)
  have ra : ∀ q, 22 ≤ q → q ≤ 80 → rs.2.2.1 q = rsH.2.2.1 q := fun q h1 h2 => (g.fr q (by omega) h2 (by omega)).2.1
  have eb : EBX F V c cap s ar D cs rs := ⟨h.hF, h.ne, h.sk, h.s1, h.sc, h.cp, h.ca.pn (fun y w => g.em _ w) (fun x hx => g.pl x c hx o3 (by omega)), g.em _ h.oc, by rw [(ac 64 (by omega)).i]; exact h.sz, fun y hy => congrArg (fun z => z.1) (hv y hy), fun y hy => congrArg (fun z => z.2) (hv y hy), fun y h1 h2 => by rw [(ac 72 (by omega)).a, ra 33 (by omega) (by omega)]; exact h.dd y h1 h2⟩
  have at' : ∀ x j, K ≤ j → j < k → (x < 32 ∨ 63 < x ∧ x < 74 ∨ 76 < x ∧ x < 256 ∨ 320 ≤ x ∧ x < 352) → AT csH cs x j := fun x j h1 h2 hx => g.at' x j (by omega) h2 hx (by omega)
  have kx : KPX c s K k V csH rsH cs rs := ⟨g.em, at', h.vw, hv, fun q h1 h2 => ra q (by omega) (by omega), (g.fr 52 (by omega) (by omega) (by omega)).2.2⟩
  have kH : KPX c s K k V csH rsH csH rsH := ⟨EM.refl, fun _ _ _ _ _ => AT.refl, h.vw, h.vw, fun _ _ _ => rfl, rfl⟩
  have qx := QR.x 13 S 0 0 K k oq 0 kx h.qr
  have qH := QR.x 13 S 0 0 K k oq 0 kH h.qr
  have c72 : kA cs 72 c = kA csH 72 c := (ac 72 (by omega)).a
  have jd : JDN c s V D K k cs rs 13 oq 0 := JDN.now at' c72 (fun q hq => ra q (by omega) (by omega)) g.r5 13 oq 0 h.jd
  have ty := (TQY.tm ⟨at', fun x hx => ac x (by omega), g.em⟩ 13 S 0 0 K k oq 0 qH h.jd h.ty).1
  have l0 : lc rs S ≤ lc rs 0 + 3 := by
    have e1 := h.sm.2 (fun _ _ => 1)
    have e2 : lc rs S = rsm (fun _ _ => 1) rsH S := rsm_rs (ra 37 (by omega) (by omega)) (ra 49 (by omega) (by omega)) (ra 51 (by omega) (by omega)) (g.fr 52 (by omega) (by omega) (by omega)).2.2 S
    have e3 := lsm_1 (t := t) (cs := csH) lf
    have := h.l3
    omega
  exact jp_all eb hBB hv bs st s5 rn r160 13 S 0 0 K k oq 0 qx jd ty 3 l0 (Nat.le_refl _)

/-! the SELECTS of a QUERY, one after another -/
theorem list_get {F L i m so : Nat} {cs : CS} (e0 : (0, L) ∈ kE cs) (e33 : (33, L) ∈ kE cs) (p1 : ∃ j, kP cs 1 L = some j) (l1 : kL cs 1 L = 10) (i2 : kI cs 2 L = nI m) (hm : m ≤ 10) (hi : i < m) (hq : kQ cs 1 L i = some so) : c_Jx4a65c_get_915e3 F cs L (nI i) = some so := by
  obtain ⟨j, hj⟩ := p1
  unfold c_Jx4a65c_get_915e3 c_J15_checkIndex_7cf53 c_J3_checkIndex_8e157 c_Jx4a65c_elementData_915e3
  rw [gI_ok e0, ob_s, i2, if_neg (nI_pos (by omega)), if_pos (nI_lt hi (by omega)), ob_s, ob_s, ckE_ok e0, ob_s, gA_ok e0, hj, ob_s, rQ_n e33 hj (by rw [l1]; omega) (by rw [l1]; omega), ob_s, hq, ob_s, ob_s]
theorem list_size {F L m : Nat} {cs : CS} (e0 : (0, L) ∈ kE cs) (i2 : kI cs 2 L = nI m) : c_Jx4a65c_size_8abf5 F cs L = some (nI m) := by
  unfold c_Jx4a65c_size_8abf5
  rw [gI_ok e0, ob_s, i2]
/-- a SELECT of one QUERY while another is checked -/
theorem SEL.jk {X : Nat → CS → Prop} {n : Nat} {f : Nat → Int32} {M t c k s B S Q d lo hi ql so e lo2 hi2 Sl2 Sh2 : Nat} {cs cs' : CS} {rs rs' : RS} (hs : s ≤ 120) (h : SEL (QB B (QR X n f M c s S Q cs rs d)) X n f M c s lo hi ql so e cs rs) (j : JK t c k lo2 hi2 Sl2 Sh2 cs rs cs' rs') (hd : hi ≤ lo2 ∨ hi2 ≤ lo) (h2 : t < lo ∧ c < lo ∧ hi ≤ k) (hV : ∀ x, x < s → VW c cs' rs' x = VW c cs rs x) (hX : ∀ x, lo ≤ x → x < hi → X x cs → X x cs') (he : e < S) : SEL (QB B (QR X n f M c s S Q cs' rs' d)) X n f M c s lo hi ql so e cs' rs' := by
  have em : EM cs cs' := EM.of (congrArg (fun z => z.2.2) j.c1)
  have a : ∀ x y, lo ≤ y → y < hi → AT cs cs' x y := fun x y y1 y2 => j.a0 x y (by unfold kX; omega)
  have fy : ∀ l u, lo ≤ l → u ≤ hi → FY c l u s cs rs cs' rs' := fun l u hl hu => ⟨em, fun x y y1 y2 _ => a x y (by omega) (by omega), fun y y1 y2 => (a 100 y (by omega) (by omega)).ap, hV, j.tkf⟩
  have fz : ∀ l u Sa Qa, lo ≤ l → u ≤ hi → FZ c l u Sa S Qa Q s cs rs cs' rs' := fun l u Sa Qa hl hu => ⟨fy l u hl hu, fun q y w1 w2 w3 _ _ => by rw [j.fr.a (k := q) (by unfold jK; omega)], fun y _ _ => by rw [j.fr.l (k := 52) (by unfold jK; omega)]⟩
  exact h.keep (fz lo hi 0 0 (Nat.le_refl _) (Nat.le_refl _)) (Nat.le_refl _) hs ⟨Nat.zero_le _, he⟩ (fun su sl l h' a' b' _ q1 q2 q3 => ⟨q3.1, QR.keep (Nat.le_refl _) hs (Nat.le_refl _) (Nat.le_refl _) (Nat.le_refl _) (Nat.le_refl _) d su sl ql l h' a' b' q3.2 (fz l h' sl ql q1 q2) (fun x x1 x2 x3 => hX x (by omega) (by omega) x3)⟩) hX
theorem SCP.jk {n : Nat} {f : Nat → Int32} {M t c k s K B S Q d lo hi ql so e lo2 hi2 Sl2 Sh2 : Nat} {V : VT} {D D' : Nat → Prop} {cs cs' : CS} {rs rs' : RS} (hs : s ≤ 120) (h : SCP n f M c s V S Q d lo hi ql B so e D cs rs) (j : JK t c k lo2 hi2 Sl2 Sh2 cs rs cs' rs') (hd : hi ≤ lo2 ∨ hi2 ≤ lo) (hS : e < Sl2 ∨ Sh2 ≤ e) (h2 : t < K ∧ c < K ∧ K ≤ lo ∧ hi ≤ k ∧ K ≤ lo2) (uq : UQ K c s cs) (hV : ∀ x, x < s → VW c cs' rs' x = VW c cs rs x) (hD : ∀ z, D z → D' z) (he : e < S) : SCP n f M c s V S Q d lo hi ql B so e D' cs' rs' := by
  obtain ⟨k1, k2, k3, k4, k5⟩ := h2
  obtain ⟨p1, p2, ⟨b, ns, p3, p4, p5⟩, it, mi, q1, q2, q3, q4, q5, q6, q7⟩ := h
  have em : EM cs cs' := EM.of (congrArg (fun z => z.2.2) j.c1)
  have a : ∀ x y, lo ≤ y → y < hi → AT cs cs' x y := fun x y y1 y2 => j.a0 x y (by unfold kX; omega)
  have so1 : lo ≤ so ∧ so < hi := ⟨p2.1, p2.2.1⟩
  have h72 : ∀ y o, y < s → lo ≤ o → o < hi → AM o cs y → kA cs' 72 c y = kA cs 72 c y := fun y o hy o1 o2 ham => by
    obtain ⟨n39, un⟩ := uq o y (by omega) hy ham
    exact j.s72 y n39 (fun o' z1 z2 z3 => by
      have := un o' (by omega) z3
      omega)
  have r : ∀ q, q = 5 ∨ q = 36 ∨ q = 49 ∨ q = 53 ∨ q = 61 → rs'.2.2.1 q = rs.2.2.1 q := fun q hq => j.fr.a (by unfold jK; omega)
  refine ⟨p1.jk hs j hd ⟨by omega, by omega, k4⟩ hV (fun x x1 x2 w => XJ.at' em (fun y => a y x x1 x2) w) he, p2.keep (Nat.le_refl _) (Nat.le_refl _) (fun x y y1 y2 _ _ _ => a x y y1 y2) h72 hD r (fun oi qi w => JDN.keep (Nat.le_refl _) (Nat.le_refl _) (fun x y y1 y2 _ _ _ => a x y y1 y2) h72 hD r d oi qi w), ⟨b, ns, p3, by rw [j.fr.a (k := 37) (by unfold jK; omega)]; exact p4, p5.1.fr j.fr, by rw [(a 206 so so1.1 so1.2).i]; exact p5.2⟩, it, mi, by rw [(a 194 so so1.1 so1.2).r]; exact q1, q2, q3, by rw [r 36 (by omega)]; exact q4, q5.keep em (fun x _ _ => a x it q2 q3), fun y hy => ?_, fun y hy => ?_⟩
  · rw [(a 98 it q2 q3).b, j.fr.a (k := 45) (by unfold jK; omega)]
    exact (q6 y hy).f j.tkf
  · have m8 := q5.m8
    rw [(a 100 it q2 q3).a, j.r8 46 _ (Or.inl rfl) (by omega)]
    exact q7 y hy
/-- the QUERY oq / q with m SELECTS, i of them checked -/
def QLI (n : Nat) (f : Nat → Int32) (M t c cap s k : Nat) (V : VT) (ss S Q K d oq q L m it : Nat) (lb ub wb : Nat → Nat) (i : Nat) (D : Nat → Prop) (b : Int32) (cs : CS) (rs : RS) : Prop := (JH n f M t c cap s k V D cs rs) ∧ (STM ss cs rs) ∧ (UQ K c s cs) ∧ ((4, oq) ∈ kE cs) ∧ (kR cs 128 oq = some L) ∧ ((0, L) ∈ kE cs) ∧ ((33, L) ∈ kE cs) ∧ (∃ j, kP cs 1 L = some j) ∧ (kL cs 1 L = 10) ∧ (kI cs 2 L = nI m) ∧ (rs.2.2.1 60 q = nI m) ∧ (kR cs 129 oq = some it) ∧ (∃ so, kQ cs 1 L 0 = some so ∧ kR cs 194 so = some it) ∧ (∃ mi, CLM it mi cs) ∧ (∀ j, j < m → ∃ so e, kQ cs 1 L j = some so ∧ rs.2.2.1 61 (5 * q + j) = nI e ∧ wb j ≤ e ∧ e < wb (j + 1) ∧ e < 60 ∧ (6, so) ∈ kE cs ∧ (0 < j → SETR (kI cs 204 so) (rs.2.2.1 62 (5 * q + j)) ∧ kI cs 205 so = rs.2.2.1 63 (5 * q + j)) ∧ (i ≤ j → SEL (QB (wb (j + 1)) (QR X0 n f M c s S Q cs rs d)) X0 n f M c s (lb j) (ub j) (q + 1) so e cs rs ∧ Z0 (lb j) (ub j) cs) ∧ (rs.1 21 = 1 → j < i → SCP n f M c s V S Q d (lb j) (ub j) (q + 1) (wb (j + 1)) so e D cs rs)) ∧ (rs.1 21 = 1 → KQr d q i b rs ∧ ((kI cs 133 oq = 0 ∧ b = 1) ∨ (kI cs 133 oq ≠ 0 ∧ b = 0)))
theorem QLI.h {n : Nat} {f : Nat → Int32} {M t c cap s k : Nat} {V : VT} {ss S Q K d oq q L m it : Nat} {lb ub wb : Nat → Nat} {i : Nat} {D : Nat → Prop} {b : Int32} {cs : CS} {rs : RS} (h : QLI n f M t c cap s k V ss S Q K d oq q L m it lb ub wb i D b cs rs) : JH n f M t c cap s k V D cs rs := h.1
theorem QLI.st {n : Nat} {f : Nat → Int32} {M t c cap s k : Nat} {V : VT} {ss S Q K d oq q L m it : Nat} {lb ub wb : Nat → Nat} {i : Nat} {D : Nat → Prop} {b : Int32} {cs : CS} {rs : RS} (h : QLI n f M t c cap s k V ss S Q K d oq q L m it lb ub wb i D b cs rs) : STM ss cs rs := h.2.1
theorem QLI.uq {n : Nat} {f : Nat → Int32} {M t c cap s k : Nat} {V : VT} {ss S Q K d oq q L m it : Nat} {lb ub wb : Nat → Nat} {i : Nat} {D : Nat → Prop} {b : Int32} {cs : CS} {rs : RS} (h : QLI n f M t c cap s k V ss S Q K d oq q L m it lb ub wb i D b cs rs) : UQ K c s cs := h.2.2.1
theorem QLI.e4 {n : Nat} {f : Nat → Int32} {M t c cap s k : Nat} {V : VT} {ss S Q K d oq q L m it : Nat} {lb ub wb : Nat → Nat} {i : Nat} {D : Nat → Prop} {b : Int32} {cs : CS} {rs : RS} (h : QLI n f M t c cap s k V ss S Q K d oq q L m it lb ub wb i D b cs rs) : (4, oq) ∈ kE cs := h.2.2.2.1
theorem QLI.r128 {n : Nat} {f : Nat → Int32} {M t c cap s k : Nat} {V : VT} {ss S Q K d oq q L m it : Nat} {lb ub wb : Nat → Nat} {i : Nat} {D : Nat → Prop} {b : Int32} {cs : CS} {rs : RS} (h : QLI n f M t c cap s k V ss S Q K d oq q L m it lb ub wb i D b cs rs) : kR cs 128 oq = some L := h.2.2.2.2.1
theorem QLI.e0 {n : Nat} {f : Nat → Int32} {M t c cap s k : Nat} {V : VT} {ss S Q K d oq q L m it : Nat} {lb ub wb : Nat → Nat} {i : Nat} {D : Nat → Prop} {b : Int32} {cs : CS} {rs : RS} (h : QLI n f M t c cap s k V ss S Q K d oq q L m it lb ub wb i D b cs rs) : (0, L) ∈ kE cs := h.2.2.2.2.2.1
theorem QLI.e33 {n : Nat} {f : Nat → Int32} {M t c cap s k : Nat} {V : VT} {ss S Q K d oq q L m it : Nat} {lb ub wb : Nat → Nat} {i : Nat} {D : Nat → Prop} {b : Int32} {cs : CS} {rs : RS} (h : QLI n f M t c cap s k V ss S Q K d oq q L m it lb ub wb i D b cs rs) : (33, L) ∈ kE cs := h.2.2.2.2.2.2.1
theorem QLI.p1 {n : Nat} {f : Nat → Int32} {M t c cap s k : Nat} {V : VT} {ss S Q K d oq q L m it : Nat} {lb ub wb : Nat → Nat} {i : Nat} {D : Nat → Prop} {b : Int32} {cs : CS} {rs : RS} (h : QLI n f M t c cap s k V ss S Q K d oq q L m it lb ub wb i D b cs rs) : ∃ j, kP cs 1 L = some j := h.2.2.2.2.2.2.2.1
theorem QLI.l1 {n : Nat} {f : Nat → Int32} {M t c cap s k : Nat} {V : VT} {ss S Q K d oq q L m it : Nat} {lb ub wb : Nat → Nat} {i : Nat} {D : Nat → Prop} {b : Int32} {cs : CS} {rs : RS} (h : QLI n f M t c cap s k V ss S Q K d oq q L m it lb ub wb i D b cs rs) : kL cs 1 L = 10 := h.2.2.2.2.2.2.2.2.1
theorem QLI.i2 {n : Nat} {f : Nat → Int32} {M t c cap s k : Nat} {V : VT} {ss S Q K d oq q L m it : Nat} {lb ub wb : Nat → Nat} {i : Nat} {D : Nat → Prop} {b : Int32} {cs : CS} {rs : RS} (h : QLI n f M t c cap s k V ss S Q K d oq q L m it lb ub wb i D b cs rs) : kI cs 2 L = nI m := h.2.2.2.2.2.2.2.2.2.1
theorem QLI.r60 {n : Nat} {f : Nat → Int32} {M t c cap s k : Nat} {V : VT} {ss S Q K d oq q L m it : Nat} {lb ub wb : Nat → Nat} {i : Nat} {D : Nat → Prop} {b : Int32} {cs : CS} {rs : RS} (h : QLI n f M t c cap s k V ss S Q K d oq q L m it lb ub wb i D b cs rs) : rs.2.2.1 60 q = nI m := h.2.2.2.2.2.2.2.2.2.2.1
theorem QLI.r129 {n : Nat} {f : Nat → Int32} {M t c cap s k : Nat} {V : VT} {ss S Q K d oq q L m it : Nat} {lb ub wb : Nat → Nat} {i : Nat} {D : Nat → Prop} {b : Int32} {cs : CS} {rs : RS} (h : QLI n f M t c cap s k V ss S Q K d oq q L m it lb ub wb i D b cs rs) : kR cs 129 oq = some it := h.2.2.2.2.2.2.2.2.2.2.2.1
theorem QLI.s0 {n : Nat} {f : Nat → Int32} {M t c cap s k : Nat} {V : VT} {ss S Q K d oq q L m it : Nat} {lb ub wb : Nat → Nat} {i : Nat} {D : Nat → Prop} {b : Int32} {cs : CS} {rs : RS} (h : QLI n f M t c cap s k V ss S Q K d oq q L m it lb ub wb i D b cs rs) : ∃ so, kQ cs 1 L 0 = some so ∧ kR cs 194 so = some it := h.2.2.2.2.2.2.2.2.2.2.2.2.1
theorem QLI.cm {n : Nat} {f : Nat → Int32} {M t c cap s k : Nat} {V : VT} {ss S Q K d oq q L m it : Nat} {lb ub wb : Nat → Nat} {i : Nat} {D : Nat → Prop} {b : Int32} {cs : CS} {rs : RS} (h : QLI n f M t c cap s k V ss S Q K d oq q L m it lb ub wb i D b cs rs) : ∃ mi, CLM it mi cs := h.2.2.2.2.2.2.2.2.2.2.2.2.2.1
theorem QLI.sq {n : Nat} {f : Nat → Int32} {M t c cap s k : Nat} {V : VT} {ss S Q K d oq q L m it : Nat} {lb ub wb : Nat → Nat} {i : Nat} {D : Nat → Prop} {b : Int32} {cs : CS} {rs : RS} (h : QLI n f M t c cap s k V ss S Q K d oq q L m it lb ub wb i D b cs rs) : ∀ j, j < m → ∃ so e, kQ cs 1 L j = some so ∧ rs.2.2.1 61 (5 * q + j) = nI e ∧ wb j ≤ e ∧ e < wb (j + 1) ∧ e < 60 ∧ (6, so) ∈ kE cs ∧ (0 < j → SETR (kI cs 204 so) (rs.2.2.1 62 (5 * q + j)) ∧ kI cs 205 so = rs.2.2.1 63 (5 * q + j)) ∧ (i ≤ j → SEL (QB (wb (j + 1)) (QR X0 n f M c s S Q cs rs d)) X0 n f M c s (lb j) (ub j) (q + 1) so e cs rs ∧ Z0 (lb j) (ub j) cs) ∧ (rs.1 21 = 1 → j < i → SCP n f M c s V S Q d (lb j) (ub j) (q + 1) (wb (j + 1)) so e D cs rs) := h.2.2.2.2.2.2.2.2.2.2.2.2.2.2.1
theorem QLI.kp {n : Nat} {f : Nat → Int32} {M t c cap s k : Nat} {V : VT} {ss S Q K d oq q L m it : Nat} {lb ub wb : Nat → Nat} {i : Nat} {D : Nat → Prop} {b : Int32} {cs : CS} {rs : RS} (h : QLI n f M t c cap s k V ss S Q K d oq q L m it lb ub wb i D b cs rs) : rs.1 21 = 1 → KQr d q i b rs ∧ ((kI cs 133 oq = 0 ∧ b = 1) ∨ (kI cs 133 oq ≠ 0 ∧ b = 0)) := h.2.2.2.2.2.2.2.2.2.2.2.2.2.2.2
/-- where the SELECTS of a QUERY lie -/
def BUQ (t c K k S oq q L m lo hi Sl Su : Nat) (lb ub wb : Nat → Nat) : Prop := (t < K ∧ c < K ∧ K ≤ lo ∧ hi ≤ k) ∧ (lo ≤ oq ∧ oq < L ∧ L < hi) ∧ (∀ j, j < m → oq < lb j ∧ ub j ≤ hi ∧ (ub j ≤ L ∨ L < lb j)) ∧ (∀ j, j + 1 < m → ub j ≤ lb (j + 1)) ∧ (∀ j, j < m → lb j < ub j) ∧ (Sl ≤ wb 0 ∧ (∀ j, j < m → wb j ≤ wb (j + 1)) ∧ wb m ≤ Su) ∧ (Su ≤ S) ∧ (q < 60) ∧ (1 ≤ m ∧ m ≤ 3)
theorem BUQ.kk {t c K k S oq q L m lo hi Sl Su : Nat} {lb ub wb : Nat → Nat} (h : BUQ t c K k S oq q L m lo hi Sl Su lb ub wb) : t < K ∧ c < K ∧ K ≤ lo ∧ hi ≤ k := h.1
theorem BUQ.oq {t c K k S oq q L m lo hi Sl Su : Nat} {lb ub wb : Nat → Nat} (h : BUQ t c K k S oq q L m lo hi Sl Su lb ub wb) : lo ≤ oq ∧ oq < L ∧ L < hi := h.2.1
theorem BUQ.lu {t c K k S oq q L m lo hi Sl Su : Nat} {lb ub wb : Nat → Nat} (h : BUQ t c K k S oq q L m lo hi Sl Su lb ub wb) : ∀ j, j < m → oq < lb j ∧ ub j ≤ hi ∧ (ub j ≤ L ∨ L < lb j) := h.2.2.1
theorem BUQ.lo' {t c K k S oq q L m lo hi Sl Su : Nat} {lb ub wb : Nat → Nat} (h : BUQ t c K k S oq q L m lo hi Sl Su lb ub wb) : ∀ j, j + 1 < m → ub j ≤ lb (j + 1) := h.2.2.2.1
theorem BUQ.le {t c K k S oq q L m lo hi Sl Su : Nat} {lb ub wb : Nat → Nat} (h : BUQ t c K k S oq q L m lo hi Sl Su lb ub wb) : ∀ j, j < m → lb j < ub j := h.2.2.2.2.1
theorem BUQ.wb {t c K k S oq q L m lo hi Sl Su : Nat} {lb ub wb : Nat → Nat} (h : BUQ t c K k S oq q L m lo hi Sl Su lb ub wb) : Sl ≤ wb 0 ∧ (∀ j, j < m → wb j ≤ wb (j + 1)) ∧ wb m ≤ Su := h.2.2.2.2.2.1
theorem BUQ.su {t c K k S oq q L m lo hi Sl Su : Nat} {lb ub wb : Nat → Nat} (h : BUQ t c K k S oq q L m lo hi Sl Su lb ub wb) : Su ≤ S := h.2.2.2.2.2.2.1
theorem BUQ.q6 {t c K k S oq q L m lo hi Sl Su : Nat} {lb ub wb : Nat → Nat} (h : BUQ t c K k S oq q L m lo hi Sl Su lb ub wb) : q < 60 := h.2.2.2.2.2.2.2.1
theorem BUQ.m3 {t c K k S oq q L m lo hi Sl Su : Nat} {lb ub wb : Nat → Nat} (h : BUQ t c K k S oq q L m lo hi Sl Su lb ub wb) : 1 ≤ m ∧ m ≤ 3 := h.2.2.2.2.2.2.2.2
theorem BUQ.dj {t c K k S oq q L m lo hi Sl Su : Nat} {lb ub wb : Nat → Nat} (h : BUQ t c K k S oq q L m lo hi Sl Su lb ub wb) : ∀ d j, j + d + 1 < m → ub j ≤ lb (j + d + 1)
  | 0, j, hj => h.lo' j (by omega)
  | d + 1, j, hj => by
    have w := h.dj d j (by omega)
    have w2 := h.lo' (j + d + 1) (by omega)
    have w3 := h.le (j + d + 1) (by omega)
    rw [show j + (d + 1) + 1 = j + d + 1 + 1 by omega]
    omega
theorem BUQ.dis {t c K k S oq q L m lo hi Sl Su : Nat} {lb ub wb : Nat → Nat} (h : BUQ t c K k S oq q L m lo hi Sl Su lb ub wb) {i j : Nat} (hi' : i < m) (hj : j < m) (hn : i ≠ j) : ub j ≤ lb i ∨ ub i ≤ lb j := by
  by_cases w : j < i
  · have := h.dj (i - j - 1) j (by omega)
    rw [show j + (i - j - 1) + 1 = i by omega] at this
    exact Or.inl this
  · have := h.dj (j - i - 1) i (by omega)
    rw [show i + (j - i - 1) + 1 = j by omega] at this
    exact Or.inr this
theorem BUQ.wl {t c K k S oq q L m lo hi Sl Su : Nat} {lb ub wb : Nat → Nat} (h : BUQ t c K k S oq q L m lo hi Sl Su lb ub wb) {i j : Nat} (h1 : i ≤ j) (h2 : j ≤ m) : wb i ≤ wb j := by
  have := mono_b h.wb.2.1 (j - i) i (by omega)
  rwa [show i + (j - i) = j by omega] at this
theorem qli_step {n : Nat} {f : Nat → Int32} {M t c cap s k : Nat} {V : VT} {ss S Q K d oq q L m it lo hi Sl Su : Nat} {lb ub wb : Nat → Nat} {i : Nat} {D : Nat → Prop} {b : Int32} {F x x' e0 : Nat} {T T1 T2 T2' : TC_X0_checkQuery} {T' T1' : TG_judgeQuery} {cs : CS} {rs : RS} (hF : 10000 ≤ F) (sk : SKV V s) (hs : s ≤ 120) (hd : d ≤ 90) (bv : BUQ t c K k S oq q L m lo hi Sl Su lb ub wb) (hJ : JQS n f M t c cap s k V ss S Q K d T2.1 T1'.1) (hT0 : T.2.1 = cb_X0_checkSelect F T1) (hT2 : T1.2.2.1 = cb_X0_checkSource F T2') (hT : T2'.2.2.2 = cb_X0_checkInner F T2) (hT' : T'.2 = b_judgeSelect F T1') (hin : i < m) (r61 : rs.2.2.1 61 (5 * q) = nI e0) (he0 : e0 < 60) (h : QLI n f M t c cap s k V ss S Q K d oq q L m it lb ub wb i D b cs rs) (g1 : rs.1 21 = 1) : ∃ cs' rs' D' b', c_X0_checkQuery_L2 F T (x + 1) cs k oq (nI i) = c_X0_checkQuery_L2 F T x cs' k oq (nI (i + 1)) ∧ m_judgeQuery_L14 F T' (x' + 1) rs (nI q) (nI e0) b (nI i) = m_judgeQuery_L14 F T' x' rs' (nI q) (nI e0) b' (nI (i + 1)) ∧ JK t c k lo hi Sl Su cs rs cs' rs' ∧ (∀ y j, lo ≤ j → j < hi → (∀ i', i' < m → ¬ (lb i' ≤ j ∧ j < ub i')) → j ≠ oq → AT cs cs' y j) ∧ (rs'.1 21 = 1 → ∀ z, D z → D' z) ∧ QLI n f M t c cap s k V ss S Q K d oq q L m it lb ub wb (i + 1) D' b' cs' rs' := by
  obtain ⟨k1, k2, k3, k4⟩ := bv.kk
  obtain ⟨o1, o2, o3⟩ := bv.oq
  obtain ⟨u1, u2, u3⟩ := bv.lu i hin
  have m3 := bv.m3
  have q6 := bv.q6
  have le := bv.le i hin
  obtain ⟨so, e, a1, a2, a3, a4, a5, a6, a7, a8, -⟩ := h.sq i hin
  obtain ⟨se, z0⟩ := a8 (Nat.le_refl _)
  have wSl := bv.wl (i := 0) (j := i) (Nat.zero_le _) (by omega)
  have wSu := bv.wl (i := i + 1) (j := m) (by omega) (Nat.le_refl _)
  have hw := bv.wb
  have su := bv.su
  obtain ⟨c1, r1, D1, t1, t2, t3, t4, ⟨jt, mj, t5, t6, t7, t8, t9⟩, t10⟩ := sel_H (T := T1) (T2 := T2) (T2' := T2') (T' := T1') (B := wb (i + 1)) hF sk hs hd ⟨k1, k2, by omega, by omega⟩ a4 hJ hT2 hT h.h g1 h.st h.uq z0 se
  have em1 : EM cs c1 := EM.of (congrArg (fun z => z.2.2) t4.c1)
  have hV1 : ∀ y, y < s → VW c c1 r1 y = VW c cs rs y := fun y hy => (t3.v y hy).trans (h.h.v y hy).symm
  have out1 : ∀ x j, lo ≤ j → j < hi → ¬ (lb i ≤ j ∧ j < ub i) → AT cs c1 x j := fun x j j1 j2 j3 => t4.a0 x j (by unfold kX; omega)
  have aL : ∀ x, x ≤ 2 → ∀ j, AT cs c1 x j := fun x hx j => t4.a0 x j (by unfold kX; omega)
  have ra1 : ∀ q, ¬ jK q → r1.2.2.1 q = rs.2.2.1 q := fun q hq => t4.fr.a hq
  -- kept
  obtain ⟨bk, nk, n1, n2, n3, n4⟩ := SEL.kept (fun Su Sl Ql lo hi oq q w => QR.kept d Su Sl Ql lo hi oq q w) se
  have kept : m_isKeptSelect F 300 r1 (nI e) (nI nk) = some bk := (n4.fr t4.fr).run hF (by omega) n1
  obtain ⟨y0, hy0⟩ : ∃ y : Int32, y = (if kI c1 133 oq = 0 then (if kI c1 206 so = 0 then 0 else 1) else 1) := ⟨_, rfl⟩
  obtain ⟨b', hb'⟩ : ∃ y : Int32, y = (if b = 0 then 0 else (if bk = 0 then 0 else 1)) := ⟨_, rfl⟩
  obtain ⟨c2, hc2⟩ : ∃ y, y = sI c1 133 oq y0 := ⟨_, rfl⟩
  have ck0 : ckZ y0 = some y0 := by
    rw [hy0]
    by_cases w1 : kI c1 133 oq = 0
    · rw [if_pos w1]
      by_cases w2 : kI c1 206 so = 0
      · rw [if_pos w2]; rfl
      · rw [if_neg w2]; rfl
    · rw [if_neg w1]; rfl
  have cls1 : ∀ G : Option CS, (if nI i ≤ 0 then (c_X0_checkQuery_L2 F T x c2 k oq (nI (i + 1))) else (Option.bind (c_X0_checkSet F c2 k oq so) fun cs_13 => c_X0_checkQuery_L2 F T x cs_13 k oq (nI (i + 1)))) = G → c_X0_checkQuery_L2 F T (x + 1) cs k oq (nI i) = G := fun G hG => by
    rw [c_X0_checkQuery_L2, gR_ok h.e4, ob_s, h.r128, ob_s, ckE_ok h.e0, ob_s, list_size h.e0 h.i2, ob_s, if_neg (nI_ge hin (by omega)), ckE_ok h.h.ck.o, ob_s, isf_ok h.h, ob_s]
    rcases h.h.st with ⟨s1, s2, s3⟩ | ⟨s1, s2, s3, s4⟩
    · rw [if_pos s1, if_pos rfl, ob_s, ob_s, ckE_ok h.e0, ob_s, list_get h.e0 h.e33 h.p1 h.l1 h.i2 (by omega) hin a1, ob_s, ckE_ok a6, ob_s, ob_s, hT0, t1, ob_s, gI_ok (em1 _ h.e4), ob_s]
      unfold c_X0_checkQuery_b52 c_X0_checkQuery_b57 c_X0_checkQuery_b70
      rw [nI_1]
      have fin : (Option.bind (ckZ y0) fun _ => Option.bind (pI c1 4 133 oq y0) fun cs_10 => if nI i ≤ 0 then (c_X0_checkQuery_L2 F T x cs_10 k oq (nI (i + 1))) else (Option.bind (ckE cs_10 1 k) fun _ => Option.bind (c_X0_checkSet F cs_10 k oq so) fun cs_13 => c_X0_checkQuery_L2 F T x cs_13 k oq (nI (i + 1)))) = G := by
        rw [ck0, ob_s, pI_ok (em1 _ h.e4), ob_s, ← hc2, ckE_ok (show (1, k) ∈ kE c2 by rw [hc2]; exact t3.ck.o), ob_s]
        exact hG
      by_cases w1 : kI c1 133 oq = 0
      · rw [if_pos w1, gI_ok (em1 _ a6), ob_s]
        rw [if_pos w1] at hy0
        by_cases w2 : kI c1 206 so = 0
        · rw [if_pos w2] at hy0
          rw [hy0] at fin
          rw [if_pos w2]
          exact fin
        · rw [if_neg w2] at hy0
          rw [hy0] at fin
          rw [if_neg w2]
          exact fin
      · rw [if_neg w1] at hy0
        rw [hy0] at fin
        rw [if_neg w1]
        exact fin
    · exact absurd (s2.symm.trans g1) (by decide)
  have ref1 : m_judgeQuery_L14 F T' (x' + 1) rs (nI q) (nI e0) b (nI i) = m_judgeQuery_b76 F T' (m_judgeQuery_L14 F T' x') r1 (nI q) (nI e0) (nI i) (nI e) b' := by
    rw [m_judgeQuery_L14, rdI_n q6 (by decide), ob_s, h.r60, if_neg (nI_ge hin (by omega)), if_neg (by rw [g1]; decide), nI_5, nI_add, rdI_n (by omega) (by decide), ob_s, a2, hT', t2, ob_s, rdI_n a5 (by decide), ob_s, ra1 37 (by unfold jK; omega), n2, kept, ob_s, hb']
    unfold m_judgeQuery_b75
    by_cases w1 : b = 0
    · rw [if_pos w1, if_pos w1]
    · rw [if_neg w1, if_neg w1]
      by_cases w2 : bk = 0
      · rw [if_pos w2, if_pos w2]
      · rw [if_neg w2, if_neg w2]
  -- the word of what was kept, written
  have at2 : ∀ x j, ¬ (x = 133 ∧ j = oq) → AT c1 c2 x j := fun x j hx => by rw [hc2]; exact AT.sI (by omega)
  have em2 : EM c1 c2 := by rw [hc2]; exact EM.of rfl
  have j2 : JK t c k lo hi Sl Su c1 r1 c2 r1 := JK.cls (by rw [hc2]; rfl) (fun x j hx => at2 x j (fun w => hx ⟨by unfold kX; omega, by omega⟩)) (fun x j => by rw [hc2]; exact ⟨rfl, rfl⟩)
  have h2 : JH n f M t c cap s k V D1 c2 r1 := t3.mv0 j2 (at2 320 t (by omega)).i (at2 321 t (by omega)).i rfl rfl rfl (fun y _ _ => by rw [(at2 72 c (by omega)).a]) rfl
  have j12 : JK t c k lo hi Sl Su cs rs c2 r1 := (t4.mono (by omega) (by omega) (by omega) (by omega)).trans j2
  have em12 : EM cs c2 := fun z hz => em2 z (em1 z hz)
  have i133 : kI c1 133 oq = kI cs 133 oq := (out1 133 oq o1 (by omega) (by omega)).i
  have kp2 : r1.1 21 = 1 → KQr d q (i + 1) b' r1 ∧ ((kI c2 133 oq = 0 ∧ b' = 1) ∨ (kI c2 133 oq ≠ 0 ∧ b' = 0)) := fun g => by
    obtain ⟨-, -, -, ⟨bq, ns, w1, w2, w3⟩, -⟩ := t10 g
    obtain ⟨p1, p2⟩ := h.kp g1
    have ens : nk = ns := (nI_eq (by omega) (by omega)).mp ((n2.symm.trans (by rw [← ra1 37 (by unfold jK; omega)])).trans w2)
    have ebq : bk = bq := by
      have w4 := (n4.fr t4.fr).run (F := 10000) (n := 300) (Nat.le_refl _) (by omega) n1
      have w5 := w3.1.run (F := 10000) (n := 300) (Nat.le_refl _) (by omega) w1
      rw [← ens] at w5
      exact Option.some.inj (w4.symm.trans w5)
    have b01 := n4.b
    have kq := (p1.fr t4.fr).add n4.b ⟨e, nk, a5, n1, by rw [ra1 61 (by unfold jK; omega)]; exact a2, by rw [ra1 37 (by unfold jK; omega)]; exact n2, n4.fr t4.fr⟩
    have eb : b' = (if b = 0 then 0 else bk) := by
      rw [hb']
      rcases b01 with w | w <;> rw [w] <;> rfl
    refine ⟨by rw [eb]; exact kq, ?_⟩
    rw [hc2, kI_s, hy0, i133, eb]
    rw [← ebq] at w3
    rcases p2 with ⟨x1, x2⟩ | ⟨x1, x2⟩
    · rw [if_pos x1, x2, if_neg (show ¬ (1 : Int32) = 0 by decide)]
      rcases w3.2 with ⟨x3, x4⟩ | ⟨x3, x4⟩
      · rw [if_pos x3, x4]; exact Or.inl ⟨rfl, rfl⟩
      · rw [if_neg x3, x4]; exact Or.inr ⟨by decide, rfl⟩
    · rw [if_neg x1, x2, if_pos rfl]
      exact Or.inr ⟨by decide, rfl⟩
  obtain ⟨m0, cm0⟩ := h.cm
  have uq1 : UQ K c s c1 := h.uq.at' (fun o => ⟨t4.a0 202 o (by unfold kX; omega), t4.a0 203 o (by unfold kX; omega)⟩) (t4.a0 65 c (by unfold kX; omega))
  -- the state behind the SELECT and its word
  have cm2 : ∃ mi, CLM it mi c2 := by
    by_cases w : i = 0
    · obtain ⟨so', w1, w2⟩ := h.s0
      rw [w] at a1
      have es : so = so' := Option.some.inj (a1.symm.trans w1)
      rw [es] at t5
      have ei : jt = it := Option.some.inj (t5.symm.trans w2)
      rw [ei] at t7
      exact ⟨mj, t7.keep em2 (fun y _ _ => at2 y it (by omega))⟩
    · obtain ⟨so', w1, w2⟩ := h.s0
      obtain ⟨so0, e9, b1, b2, b3, b4, b5, b6, b7, b8, b9⟩ := h.sq 0 (by omega)
      have es : so0 = so' := Option.some.inj (b1.symm.trans w1)
      obtain ⟨-, -, -, it', mi', y1, y2, y3, -⟩ := b9 g1 (by omega)
      rw [es, w2] at y1
      have ei : it = it' := Option.some.inj y1
      have dj := bv.dis hin (show 0 < m by omega) w
      have lu0 := bv.lu 0 (by omega)
      exact ⟨m0, cm0.keep em12 (fun y _ _ => (out1 y it (by omega) (by omega) (by omega)).trans (at2 y it (by omega)))⟩
  have seq2 : ∀ j, j < m → ∃ so e, kQ c2 1 L j = some so ∧ r1.2.2.1 61 (5 * q + j) = nI e ∧ wb j ≤ e ∧ e < wb (j + 1) ∧ e < 60 ∧ (6, so) ∈ kE c2 ∧ (0 < j → SETR (kI c2 204 so) (r1.2.2.1 62 (5 * q + j)) ∧ kI c2 205 so = r1.2.2.1 63 (5 * q + j)) ∧ (i + 1 ≤ j → SEL (QB (wb (j + 1)) (QR X0 n f M c s S Q c2 r1 d)) X0 n f M c s (lb j) (ub j) (q + 1) so e c2 r1 ∧ Z0 (lb j) (ub j) c2) ∧ (r1.1 21 = 1 → j < i + 1 → SCP n f M c s V S Q d (lb j) (ub j) (q + 1) (wb (j + 1)) so e D1 c2 r1) := fun j hj => by
    obtain ⟨sj, ej, b1, b2, b3, b4, b5, b6, b7, b8, b9⟩ := h.sq j hj
    obtain ⟨v1, v2, v3⟩ := bv.lu j hj
    have lej := bv.le j hj
    have wj := bv.wl (i := j + 1) (j := m) (by omega) (Nat.le_refl _)
    have a204 : ∀ x, x = 204 ∨ x = 205 → AT cs c2 x sj := fun x hx => (t4.a0 x sj (by unfold kX; omega)).trans (at2 x sj (by omega))
    have j2' : JK t c k oq (oq + 1) 0 0 c1 r1 c2 r1 := JK.cls (by rw [hc2]; rfl) (fun x j hx => at2 x j (fun w => hx ⟨by unfold kX; omega, by omega⟩)) (fun x j => by rw [hc2]; exact ⟨rfl, rfl⟩)
    have hV2 : ∀ y, y < s → VW c c2 r1 y = VW c c1 r1 y := fun y hy => (h2.v y hy).trans (t3.v y hy).symm
    refine ⟨sj, ej, by rw [(at2 1 L (by omega)).q, (aL 1 (by omega) L).q]; exact b1, by rw [ra1 61 (by unfold jK; omega)]; exact b2, b3, b4, b5, em12 _ b6, fun hp => ?_, fun hij => ?_, fun g hji => ?_⟩
    · rw [(a204 204 (by omega)).i, (a204 205 (by omega)).i, ra1 62 (by unfold jK; omega), ra1 63 (by unfold jK; omega)]
      exact b7 hp
    · obtain ⟨y1, y2⟩ := b8 (by omega)
      have dj := bv.dis hin hj (by omega)
      refine ⟨(y1.jk hs t4 dj ⟨by omega, by omega, by omega⟩ hV1 (fun x x1 x2 w => X0.at' em1 (fun y => t4.a0 y x (by unfold kX; omega)) w) (by omega)).jk hs j2' (Or.inr (by omega)) ⟨by omega, by omega, by omega⟩ hV2 (fun x x1 x2 w => X0.at' em2 (fun y => at2 y x (by omega)) w) (by omega), y2.at' (fun x z z1 z2 _ => (t4.a0 x z (by unfold kX; omega)).trans (at2 x z (by omega)))⟩
    · obtain ⟨y1, y2⟩ := t10 g
      by_cases w : j = i
      · have es : sj = so := Option.some.inj (b1.symm.trans (by rw [w]; exact a1))
        have ee : ej = e := (nI_eq (by omega) (by omega)).mp (b2.symm.trans (by rw [w]; exact a2))
        rw [es, ee, w]
        exact y2.jk (K := K) hs j2' (Or.inr (by omega)) (Or.inr (Nat.zero_le _)) ⟨k1, k2, by omega, by omega, by omega⟩ uq1 hV2 (fun _ hz => hz) (by omega)
      · have dj := bv.dis hin hj (fun z => w z.symm)
        have wji := bv.wl (i := j + 1) (j := i) (by omega) (by omega)
        exact ((b9 g1 (by omega)).jk (K := K) hs t4 dj (Or.inl (by omega)) ⟨k1, k2, by omega, by omega, by omega⟩ h.uq hV1 y1 (by omega)).jk (K := K) hs j2' (Or.inr (by omega)) (Or.inr (Nat.zero_le _)) ⟨k1, k2, by omega, by omega, by omega⟩ uq1 hV2 (fun _ hz => hz) (by omega)
  have s02 : ∃ so, kQ c2 1 L 0 = some so ∧ kR c2 194 so = some it := by
    obtain ⟨so', w1, w2⟩ := h.s0
    exact ⟨so', by rw [(at2 1 L (by omega)).q, (aL 1 (by omega) L).q]; exact w1, by rw [(at2 194 so' (by omega)).r, (t4.a0 194 so' (by unfold kX; omega)).r]; exact w2⟩
  have base : QLI n f M t c cap s k V ss S Q K d oq q L m it lb ub wb (i + 1) D1 b' c2 r1 := ⟨h2, h.st.jk j12, uq1.at' (fun o => ⟨at2 202 o (by omega), at2 203 o (by omega)⟩) (at2 65 c (by omega)), em12 _ h.e4, by rw [(at2 128 oq (by omega)).r, (t4.a0 128 oq (by unfold kX; omega)).r]; exact h.r128, em12 _ h.e0, em12 _ h.e33, by rw [(at2 1 L (by omega)).p, (aL 1 (by omega) L).p]; exact h.p1, by rw [(at2 1 L (by omega)).l, (aL 1 (by omega) L).l]; exact h.l1, by rw [(at2 2 L (by omega)).i, (aL 2 (by omega) L).i]; exact h.i2, by rw [ra1 60 (by unfold jK; omega)]; exact h.r60, by rw [(at2 129 oq (by omega)).r, (t4.a0 129 oq (by unfold kX; omega)).r]; exact h.r129, s02, cm2, seq2, kp2⟩
  by_cases w0 : i = 0
  · refine ⟨c2, r1, D1, b', cls1 _ (by rw [if_pos (by rw [w0]; decide)]), ?_, j12, fun y j z1 z2 z3 z4 => (out1 y j z1 z2 (z3 i hin)).trans (at2 y j (by omega)), fun g => (t10 g).1, base⟩
    rw [ref1]
    unfold m_judgeQuery_b76 m_judgeQuery_b221
    rw [if_pos (show nI i ≤ 0 by rw [w0]; decide), nI_1]
  · obtain ⟨mi2, cmi⟩ := cm2
    obtain ⟨x1, x2⟩ := a7 (by omega)
    have a2so : ∀ x, x = 194 ∨ x = 204 ∨ x = 205 → AT cs c2 x so := fun x hx => (t4.a0 x so (by unfold kX; omega)).trans (at2 x so (by omega))
    obtain ⟨c3, r3, y1, y2, y3, y4, y5, y6, y7⟩ := set_H (T' := T') (rc := m_judgeQuery_L14 F T' x') (i := i) (q := q) (e := e) (e0 := e0) (it := it) (jt := jt) (m := mj) (m0 := mi2) (b := b') hF q6 (by omega) a5 he0 h2 (em12 _ h.e4) (em12 _ a6) base.r129 (by rw [(at2 194 so (by omega)).r]; exact t6) cmi (t7.keep em2 (fun y _ _ => at2 y jt (by omega))) (by omega) (by rw [(a2so 204 (by omega)).i, ra1 62 (by unfold jK; omega)]; exact x1) (by rw [(a2so 205 (by omega)).i, ra1 63 (by unfold jK; omega)]; exact x2) (fun g => by
      obtain ⟨so0, e9, z1, z2, z3, z4, z5, z6, z7, z8, z9⟩ := seq2 0 (by omega)
      obtain ⟨-, -, -, it', mi', v1, v2, v3, v4, v5, v6, v7⟩ := z9 g (by omega)
      obtain ⟨so', w1, w2⟩ := s02
      have es : so0 = so' := Option.some.inj (z1.symm.trans w1)
      rw [es, w2] at v1
      have ei : it = it' := Option.some.inj v1
      rw [← ei] at v5 v7
      have emi : mi2 = mi' := (nI_eq (by have := cmi.m8; omega) (by have := v5.m8; omega)).mp (cmi.sz.symm.trans v5.sz)
      have e9e : e9 = e0 := (nI_eq (by omega) (by omega)).mp (z2.symm.trans ((congrFun (ra1 61 (by unfold jK; omega)) _).trans r61))
      obtain ⟨si, ei', q1, q2, q3, q4, q5, q6', q7, q8, q9⟩ := seq2 i hin
      obtain ⟨-, -, -, jt', mj', p1, p2, p3, p4, p5, p6, p7⟩ := q9 g (by omega)
      have es' : si = so := Option.some.inj (q1.symm.trans (by rw [(at2 1 L (by omega)).q, (aL 1 (by omega) L).q]; exact a1))
      have eei : ei' = e := (nI_eq (by omega) (by omega)).mp (q2.symm.trans ((congrFun (ra1 61 (by unfold jK; omega)) _).trans a2))
      rw [es', (at2 194 so (by omega)).r, t6] at p1
      have ej : jt = jt' := Option.some.inj p1
      rw [← ej] at p5 p7
      have t7' := t7.keep em2 (fun y _ _ => at2 y jt (by omega))
      have emj : mj = mj' := (nI_eq (by have := t7.m8; omega) (by have := p5.m8; omega)).mp (t7'.sz.symm.trans p5.sz)
      refine ⟨(kp2 g).2, by rw [emj, ← eei]; exact p4, by rw [emi, ← e9e]; exact v4, fun z hz => by rw [← e9e]; exact v7 z (by omega), fun z hz => by rw [← eei]; exact p7 z (by omega)⟩)
    have j3 : JK t c k lo hi Sl Su c2 r1 c3 r3 := JK.jf y4
    have em3 : EM c2 c3 := EM.of (congrArg (fun z => z.2.2) y4.c1)
    have at3 : ∀ x j, x < 320 → AT c2 c3 x j := fun x j hx => y6 x j (by omega)
    have hV3 : ∀ y, y < s → VW c c3 r3 y = VW c c2 r1 y := fun y hy => (y3.v y hy).trans (h2.v y hy).symm
    have j3' : JK t c k hi hi 0 0 c2 r1 c3 r3 := JK.jf y4
    have ra3 : ∀ q, r3.2.2.1 q = r1.2.2.1 q := fun q => by rw [y7]
    have uq2 := base.uq
    refine ⟨c3, r3, D1, b', cls1 _ (by rw [if_neg (show ¬ nI i ≤ 0 from nI_ge (a := 0) (b := i) (by omega) (by omega)), y1, ob_s]), ref1.trans y2, j12.trans j3, fun y j z1 z2 z3 z4 => ((out1 y j z1 z2 (z3 i hin)).trans (at2 y j (by omega))).trans (y6 y j (by omega)), fun g => (t10 (y5 g)).1, ⟨y3, base.st.jk j3, uq2.at' (fun o => ⟨at3 202 o (by omega), at3 203 o (by omega)⟩) (at3 65 c (by omega)), em3 _ base.e4, by rw [(at3 128 oq (by omega)).r]; exact base.r128, em3 _ base.e0, em3 _ base.e33, by rw [(at3 1 L (by omega)).p]; exact base.p1, by rw [(at3 1 L (by omega)).l]; exact base.l1, by rw [(at3 2 L (by omega)).i]; exact base.i2, by rw [ra3]; exact base.r60, by rw [(at3 129 oq (by omega)).r]; exact base.r129, ?_, ⟨mi2, cmi.keep em3 (fun y _ _ => at3 y it (by omega))⟩, fun j hj => ?_, fun g => ?_⟩⟩
    · obtain ⟨so', w1, w2⟩ := s02
      exact ⟨so', by rw [(at3 1 L (by omega)).q]; exact w1, by rw [(at3 194 so' (by omega)).r]; exact w2⟩
    · obtain ⟨sj, ej, b1, b2, b3, b4, b5, b6, b7, b8, b9⟩ := seq2 j hj
      obtain ⟨v1, v2, v3⟩ := bv.lu j hj
      have wj := bv.wl (i := j + 1) (j := m) (by omega) (Nat.le_refl _)
      refine ⟨sj, ej, by rw [(at3 1 L (by omega)).q]; exact b1, by rw [ra3]; exact b2, b3, b4, b5, em3 _ b6, fun hp => by rw [(at3 204 sj (by omega)).i, (at3 205 sj (by omega)).i, ra3, ra3]; exact b7 hp, fun hij => ?_, fun g hji => ?_⟩
      · obtain ⟨z1, z2⟩ := b8 hij
        exact ⟨z1.jk hs j3' (Or.inl v2) ⟨by omega, by omega, by omega⟩ hV3 (fun x x1 x2 w => X0.at' em3 (fun y => y6 y x (by omega)) w) (by omega), z2.at' (fun x z z1 z2 hx => at3 x z (by omega))⟩
      · exact (b9 (y5 g) hji).jk (K := K) hs j3' (Or.inl v2) (Or.inr (Nat.zero_le _)) ⟨by omega, by omega, by omega, by omega, by omega⟩ uq2 hV3 (fun _ hz => hz) (by omega)
    · obtain ⟨z1, z2⟩ := kp2 (y5 g)
      exact ⟨z1.fr j3.fr, by rw [(at3 133 oq (by omega)).i]; exact z2⟩

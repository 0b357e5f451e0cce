/-! the class's strips: room, put, copy -/
/-- a strip, at most 2 * B cells -/
def STS (ar B : Nat) (cs : CS) : Prop := (STR ar (kL cs 288 ar) cs) ∧ (64 ≤ kL cs 288 ar) ∧ (kL cs 288 ar ≤ 2 * B) ∧ ((322, ar) ∈ kE cs) ∧ (∃ j, kP cs 290 ar = some j) ∧ ((323, ar) ∈ kE cs) ∧ (∃ j, kP cs 291 ar = some j) ∧ (kL cs 291 ar = kL cs 290 ar) ∧ (8 ≤ kL cs 290 ar) ∧ (kL cs 290 ar ≤ 1200)
theorem STS.st {ar B : Nat} {cs : CS} (h : STS ar B cs) : STR ar (kL cs 288 ar) cs := h.1
theorem STS.lo {ar B : Nat} {cs : CS} (h : STS ar B cs) : 64 ≤ kL cs 288 ar := h.2.1
theorem STS.hi {ar B : Nat} {cs : CS} (h : STS ar B cs) : kL cs 288 ar ≤ 2 * B := h.2.2.1
theorem STS.e10 {ar B : Nat} {cs : CS} (h : STS ar B cs) : (322, ar) ∈ kE cs := h.2.2.2.1
theorem STS.p10 {ar B : Nat} {cs : CS} (h : STS ar B cs) : ∃ j, kP cs 290 ar = some j := h.2.2.2.2.1
theorem STS.e11 {ar B : Nat} {cs : CS} (h : STS ar B cs) : (323, ar) ∈ kE cs := h.2.2.2.2.2.1
theorem STS.p11 {ar B : Nat} {cs : CS} (h : STS ar B cs) : ∃ j, kP cs 291 ar = some j := h.2.2.2.2.2.2.1
theorem STS.l11 {ar B : Nat} {cs : CS} (h : STS ar B cs) : kL cs 291 ar = kL cs 290 ar := h.2.2.2.2.2.2.2.1
theorem STS.o8 {ar B : Nat} {cs : CS} (h : STS ar B cs) : 8 ≤ kL cs 290 ar := h.2.2.2.2.2.2.2.2.1
theorem STS.oh {ar B : Nat} {cs : CS} (h : STS ar B cs) : kL cs 290 ar ≤ 1200 := h.2.2.2.2.2.2.2.2.2
/-- what a run writes: the strip from cell m on, the stack of the code -/
def STF (c ar m : Nat) (cs cs' : CS) : Prop := (EM cs cs') ∧ (∀ x j, ¬ (j = ar ∧ 288 ≤ x ∧ x ≤ 291) → ¬ (j = c ∧ 74 ≤ x ∧ x ≤ 76) → AT cs cs' x j) ∧ (∀ x j, ¬ (j = ar ∧ 288 ≤ x ∧ x ≤ 291) → kP cs' x j = kP cs x j ∧ kL cs' x j = kL cs x j) ∧ (kL cs 288 ar ≤ kL cs' 288 ar) ∧ (kL cs 290 ar ≤ kL cs' 290 ar) ∧ (∀ i, i < m → i < kL cs 288 ar → sv cs' ar i = sv cs ar i) ∧ (kM cs' + 4 * (kL cs 288 ar + kL cs 290 ar) ≤ kM cs + 4 * (kL cs' 288 ar + kL cs' 290 ar)) ∧ (16 * kK cs' + kL cs 288 ar + 16 * kL cs 290 ar ≤ 16 * kK cs + kL cs' 288 ar + 16 * kL cs' 290 ar)
theorem STF.em {c ar m : Nat} {cs cs' : CS} (h : STF c ar m cs cs') : EM cs cs' := h.1
theorem STF.fr {c ar m : Nat} {cs cs' : CS} (h : STF c ar m cs cs') : ∀ x j, ¬ (j = ar ∧ 288 ≤ x ∧ x ≤ 291) → ¬ (j = c ∧ 74 ≤ x ∧ x ≤ 76) → AT cs cs' x j := h.2.1
theorem STF.pl {c ar m : Nat} {cs cs' : CS} (h : STF c ar m cs cs') : ∀ x j, ¬ (j = ar ∧ 288 ≤ x ∧ x ≤ 291) → kP cs' x j = kP cs x j ∧ kL cs' x j = kL cs x j := h.2.2.1
theorem STF.ln {c ar m : Nat} {cs cs' : CS} (h : STF c ar m cs cs') : kL cs 288 ar ≤ kL cs' 288 ar := h.2.2.2.1
theorem STF.lp {c ar m : Nat} {cs cs' : CS} (h : STF c ar m cs cs') : kL cs 290 ar ≤ kL cs' 290 ar := h.2.2.2.2.1
theorem STF.ce {c ar m : Nat} {cs cs' : CS} (h : STF c ar m cs cs') : ∀ i, i < m → i < kL cs 288 ar → sv cs' ar i = sv cs ar i := h.2.2.2.2.2.1
theorem STF.km {c ar m : Nat} {cs cs' : CS} (h : STF c ar m cs cs') : kM cs' + 4 * (kL cs 288 ar + kL cs 290 ar) ≤ kM cs + 4 * (kL cs' 288 ar + kL cs' 290 ar) := h.2.2.2.2.2.2.1
theorem STF.kk {c ar m : Nat} {cs cs' : CS} (h : STF c ar m cs cs') : 16 * kK cs' + kL cs 288 ar + 16 * kL cs 290 ar ≤ 16 * kK cs + kL cs' 288 ar + 16 * kL cs' 290 ar := h.2.2.2.2.2.2.2
theorem STF.refl {c ar m : Nat} {cs : CS} : STF c ar m cs cs := ⟨EM.refl, fun _ _ _ _ => AT.refl, fun _ _ _ => ⟨rfl, rfl⟩, Nat.le_refl _, Nat.le_refl _, fun _ _ _ => rfl, Nat.le_refl _, Nat.le_refl _⟩
theorem STF.trans {c ar m m' : Nat} {a b d : CS} (h : STF c ar m a b) (g : STF c ar m' b d) (hm : m ≤ m') : STF c ar m a d := by
  have h1 := h.km
  have h2 := g.km
  have h3 := h.kk
  have h4 := g.kk
  exact ⟨h.em.trans g.em, fun x j h1 h2 => (h.fr x j h1 h2).trans (g.fr x j h1 h2), fun x j h1 => ⟨(g.pl x j h1).1.trans (h.pl x j h1).1, (g.pl x j h1).2.trans (h.pl x j h1).2⟩, Nat.le_trans h.ln g.ln, Nat.le_trans h.lp g.lp, fun i h1 h2 => (g.ce i (by omega) (Nat.lt_of_lt_of_le h2 h.ln)).trans (h.ce i h1 h2), by omega, by omega⟩
theorem STF.mono {c ar m m' : Nat} {a b : CS} (h : STF c ar m' a b) (hm : m ≤ m') : STF c ar m a b := ⟨h.em, h.fr, h.pl, h.ln, h.lp, fun i h1 => h.ce i (by omega), h.km, h.kk⟩
theorem EVF.stf {c ar m : Nat} {a b : CS} (h : EVF c a b) : STF c ar m a b := by
  have e1 : kK b = kK a := congrArg (fun z => z.1) h.1
  have e2 : kM b = kM a := congrArg (fun z => z.2.1) h.1
  have g8 : AT a b 288 ar := h.2.1 288 ar (by omega)
  have g9 : AT a b 289 ar := h.2.1 289 ar (by omega)
  have g0 : AT a b 290 ar := h.2.1 290 ar (by omega)
  have l8 := g8.l
  have l0 := g0.l
  exact ⟨h.em, fun x j _ h2 => h.2.1 x j h2, fun x j _ => h.2.2 x j, Nat.le_of_eq l8.symm, Nat.le_of_eq l0.symm, fun i _ _ => sv.at' g8 g9, by omega, by omega⟩
theorem STS.at' {ar B : Nat} {a b : CS} (h : STS ar B a) (em : EM a b) (g8 : AT a b 288 ar) (g9 : AT a b 289 ar) (g0 : AT a b 290 ar) (g1 : AT a b 291 ar) : STS ar B b :=
  ⟨by rw [g8.l]; exact h.st.at' em g8 g9, by rw [g8.l]; exact h.lo, by rw [g8.l]; exact h.hi, em _ h.e10, by rw [g0.p]; exact h.p10, em _ h.e11, by rw [g1.p]; exact h.p11, by rw [g1.l, g0.l]; exact h.l11, by rw [g0.l]; exact h.o8, by rw [g0.l]; exact h.oh⟩
theorem STS.evf {c ar B : Nat} {a b : CS} (h : STS ar B a) (g : EVF c a b) : STS ar B b := h.at' g.em (g.2.1 288 ar (by omega)) (g.2.1 289 ar (by omega)) (g.2.1 290 ar (by omega)) (g.2.1 291 ar (by omega))
/-- only cells have changed -/
theorem STS.ch {ar B : Nat} {a b : CS} (h : STS ar B a) (e1 : b.1 = a.1) (g : ∀ x j, ¬ (j = ar ∧ (x = 288 ∨ x = 289)) → AT a b x j) (pl : ∀ x j, kP b x j = kP a x j ∧ kL b x j = kL a x j) (nb : ∀ i, i < kL a 288 ar → kA b 289 ar i = 0 ∨ (kA b 289 ar i = 1 ∧ kB b 288 ar i = 0)) : STS ar B b := by
  have em : EM a b := EM.of (congrArg (fun z => z.2.2) e1)
  have l8 := (pl 288 ar).2
  have l9 := (pl 289 ar).2
  have g0 : AT a b 290 ar := g 290 ar (by omega)
  have g1 : AT a b 291 ar := g 291 ar (by omega)
  exact ⟨⟨em _ h.st.o, em _ h.st.e8, by rw [(pl 288 ar).1]; exact h.st.p8, rfl, em _ h.st.e9, by rw [(pl 289 ar).1]; exact h.st.p9, by rw [l9, l8]; exact h.st.l9, by rw [l8]; exact h.st.n2, fun i hi => nb i (by rw [← l8]; exact hi)⟩, by rw [l8]; exact h.lo, by rw [l8]; exact h.hi, em _ h.e10, by rw [g0.p]; exact h.p10, em _ h.e11, by rw [g1.p]; exact h.p11, by rw [g1.l, g0.l]; exact h.l11, by rw [g0.l]; exact h.o8, by rw [g0.l]; exact h.oh⟩
theorem STF.ch {c ar m : Nat} {a b : CS} (e1 : b.1 = a.1) (g : ∀ x j, ¬ (j = ar ∧ (x = 288 ∨ x = 289)) → AT a b x j) (pl : ∀ x j, kP b x j = kP a x j ∧ kL b x j = kL a x j) (ce : ∀ i, i < m → i < kL a 288 ar → sv b ar i = sv a ar i) : STF c ar m a b := by
  have em : EM a b := EM.of (congrArg (fun z => z.2.2) e1)
  have e2 : kK b = kK a := congrArg (fun z => z.1) e1
  have e3 : kM b = kM a := congrArg (fun z => z.2.1) e1
  have l8 := (pl 288 ar).2
  have l0 := (pl 290 ar).2
  exact ⟨em, fun x j h1 _ => g x j (by omega), fun x j _ => pl x j, Nat.le_of_eq l8.symm, Nat.le_of_eq l0.symm, ce, by omega, by omega⟩
theorem gwB_n {cs : CS} {X t i j n : Nat} (a1 : (X, i) ∈ kE cs) (a2 : (32 + t, i) ∈ kE cs) (a3 : kP cs t i = some j) (h1 : kL cs t i < n) (h2 : n < 1000000) : gwB cs X t i j (nI n) = some (nA cs t i n (kA cs t i) (va_cpy (kB cs t i) (fun _ => 0) 0 0 (kL cs t i))) := by
  unfold gwB
  rw [nI_clamp (by omega), if_pos ⟨a1, a2, a3, nI_pos (by omega), h1, h2⟩]
theorem gwA_n {cs : CS} {X t i j n : Nat} (a1 : (X, i) ∈ kE cs) (a2 : (32 + t, i) ∈ kE cs) (a3 : kP cs t i = some j) (h1 : kL cs t i < n) (h2 : n < 1000000) (hf : ∀ y, y < kL cs t i → fits .byte (.int (kA cs t i y)) = true) : gwA cs X t i j (nI n) = some (nA cs t i n (va_cpy (kA cs t i) (fun _ => 0) 0 0 (kL cs t i)) (kB cs t i)) := by
  unfold gwA
  rw [nI_clamp (by omega), if_pos ⟨a1, a2, a3, nI_pos (by omega), h1, h2, hf⟩]
theorem nI_2 (a : Nat) : (2 : Int32) * nI a = nI (2 * a) := pk_mul 2 a
theorem reserve_ok {F ar B k : Nat} {cs : CS} (h : STS ar B cs) (hB : B ≤ 400000) (hk : k ≤ B) : ∃ cs', c_X8_reserve F cs ar (nI k) = some cs' ∧ STS ar B cs' ∧ k ≤ kL cs' 288 ar ∧ (∀ i, i < kL cs 288 ar → sv cs' ar i = sv cs ar i) ∧ AT cs cs' 290 ar ∧ ∀ c m, STF c ar m cs cs' := by
  obtain ⟨j8, h8⟩ := h.st.p8
  obtain ⟨j9, h9⟩ := h.st.p9
  obtain ⟨n0, hn0⟩ : ∃ z, z = kL cs 288 ar := ⟨_, rfl⟩
  have n2 := h.st.n2
  have lo := h.lo
  have hi := h.hi
  have l9 := h.st.l9
  have nb := h.st.nb
  have o8 := h.o8
  rw [← hn0] at n2 lo hi l9 nb
  unfold c_X8_reserve c_X8_reserve_b23 c_X8_reserve_b37
  rw [gA_ok h.st.o, h8, ob_s, lnA_n h.st.e8 h8, ob_s, ← hn0]
  by_cases w : k ≤ n0
  · rw [if_pos (nI_le w (by omega))]
    exact ⟨cs, rfl, h, by omega, fun _ _ => rfl, AT.refl, fun _ _ => STF.refl⟩
  · rw [if_neg (nI_ge (by omega) (by omega)), ob_s, nI_2, gwB_n h.st.o h.st.e8 h8 (by omega) (by omega), ob_s]
    obtain ⟨c1, hc1⟩ : ∃ z, z = nA cs 288 ar (2 * k) (kA cs 288 ar) (va_cpy (kB cs 288 ar) (fun _ => 0) 0 0 (kL cs 288 ar)) := ⟨_, rfl⟩
    rw [← hc1]
    have em1 : EM cs c1 := by rw [hc1]; exact nA_em
    have at1 : ∀ x j, ¬ (x = 288 ∧ j = ar) → AT cs c1 x j := fun x j hx => by rw [hc1]; exact AT.nA hx
    have a9 := at1 289 ar (by omega)
    have hf : ∀ y, y < kL c1 289 ar → fits .byte (.int (kA c1 289 ar y)) = true := fun y hy => by
      rw [a9.l, l9] at hy
      rw [a9.a]
      refine fit01 ?_
      rcases nb y hy with q | ⟨q, -⟩
      · exact Or.inl q
      · exact Or.inr q
    rw [gA_ok (em1 _ h.st.o), a9.p, h9, ob_s, gwA_n (em1 _ h.st.o) (em1 _ h.st.e9) (by rw [a9.p]; exact h9) (by rw [a9.l, l9]; omega) (by omega) hf, ob_s]
    obtain ⟨c2, hc2⟩ : ∃ z, z = nA c1 289 ar (2 * k) (va_cpy (kA c1 289 ar) (fun _ => 0) 0 0 (kL c1 289 ar)) (kB c1 289 ar) := ⟨_, rfl⟩
    rw [← hc2]
    have em2 : EM c1 c2 := by rw [hc2]; exact nA_em
    have at2 : ∀ x j, ¬ (x = 289 ∧ j = ar) → AT c1 c2 x j := fun x j hx => by rw [hc2]; exact AT.nA hx
    have em := em1.trans em2
    have att : ∀ x j, ¬ (j = ar ∧ (x = 288 ∨ x = 289)) → AT cs c2 x j := fun x j hx => (at1 x j (by omega)).trans (at2 x j (by omega))
    have b8 := at2 288 ar (by omega)
    have l8' : kL c2 288 ar = 2 * k := by
      rw [b8.l, hc1]
      exact u2_s
    have l9' : kL c2 289 ar = 2 * k := by
      rw [hc2]
      exact u2_s
    have p8' : ∃ j, kP c2 288 ar = some j := ⟨kK cs, by rw [b8.p, hc1]; exact u2_s⟩
    have p9' : ∃ j, kP c2 289 ar = some j := ⟨kK c1, by rw [hc2]; exact u2_s⟩
    have kb : ∀ i, kB c2 288 ar i = if i < n0 then kB cs 288 ar i else 0 := fun i => by
      rw [b8.b, hc1]
      show u2 (kB cs) 288 ar (va_cpy (kB cs 288 ar) (fun _ => 0) 0 0 (kL cs 288 ar)) 288 ar i = _
      rw [u2_s, ← hn0]
      unfold va_cpy
      by_cases q : i < n0
      · rw [if_pos ⟨Nat.zero_le _, by omega⟩, if_pos q, show 0 + (i - 0) = i by omega]
      · rw [if_neg (by omega), if_neg q]
    have ka : ∀ i, kA c2 289 ar i = if i < n0 then kA cs 289 ar i else 0 := fun i => by
      rw [hc2]
      show u2 (kA c1) 289 ar (va_cpy (kA c1 289 ar) (fun _ => 0) 0 0 (kL c1 289 ar)) 289 ar i = _
      rw [u2_s, a9.l, l9, a9.a]
      unfold va_cpy
      by_cases q : i < n0
      · rw [if_pos ⟨Nat.zero_le _, by omega⟩, if_pos q, show 0 + (i - 0) = i by omega]
      · rw [if_neg (by omega), if_neg q]
    have sve : ∀ i, i < n0 → sv c2 ar i = sv cs ar i := fun i hi => by
      unfold sv
      rw [l8', ← hn0, if_pos (by omega), if_pos hi, ka, if_pos hi, kb, if_pos hi]
    have g0 : AT cs c2 290 ar := att 290 ar (by omega)
    have g1 : AT cs c2 291 ar := att 291 ar (by omega)
    have k1 : kK c2 = kK cs + 1 + 1 := by rw [hc2, hc1]; rfl
    have k2 : kM c2 = kM cs + 2 * k + 2 * k := by rw [hc2, hc1]; rfl
    have l0 := g0.l
    refine ⟨c2, rfl, ⟨⟨em _ h.st.o, em _ h.st.e8, p8', rfl, em _ h.st.e9, p9', by rw [l9', l8'], by rw [l8']; omega, fun i hi => ?_⟩, by rw [l8']; omega, by rw [l8']; omega, em _ h.e10, by rw [g0.p]; exact h.p10, em _ h.e11, by rw [g1.p]; exact h.p11, by rw [g1.l, g0.l]; exact h.l11, by rw [g0.l]; exact h.o8, by rw [g0.l]; exact h.oh⟩, by rw [l8']; omega, sve, g0, fun c m => ⟨em, fun x j h1 _ => att x j (by omega), fun x j h1 => ⟨(att x j (by omega)).p, (att x j (by omega)).l⟩, by rw [l8']; omega, Nat.le_of_eq l0.symm, fun i _ hi => sve i (by omega), by omega, by omega⟩⟩
    rw [ka, kb]
    by_cases q : i < n0
    · rw [if_pos q, if_pos q]
      exact nb i q
    · rw [if_neg q]
      exact Or.inl rfl
theorem holds_y {F ar n i : Nat} {cs : CS} (h : STR ar n cs) (hi : i < n) : c_X8_holds F cs ar (nI i) = some 1 := by
  have n2 := h.n2
  rw [holds_ok h (by omega), if_pos hi]
theorem sset_ok {F ar B i : Nat} {v : Int64} {b : Int32} {x : OV} {c1 : CS} (s1 : STS ar B c1) (hB : B ≤ 400000) (l1 : i < kL c1 288 ar) (hx : (b = 0 ∧ x = some v) ∨ (b = 1 ∧ x = none)) : ∃ cs', c_X8_set F c1 ar (nI i) v b = some cs' ∧ STS ar B cs' ∧ kL cs' 288 ar = kL c1 288 ar ∧ sv cs' ar i = x ∧ (∀ k, k ≠ i → sv cs' ar k = sv c1 ar k) ∧ ∀ c m, m ≤ i → STF c ar m c1 cs' := by
  obtain ⟨j8, h8⟩ := s1.st.p8
  obtain ⟨j9, h9⟩ := s1.st.p9
  have hi1 := s1.hi
  have n2 := s1.st.n2
  have nar : vp_nar .byte b.toInt8.toInt32 = b := by
    rcases hx with ⟨q, -⟩ | ⟨q, -⟩ <;> rw [q] <;> rfl
  obtain ⟨v', hv⟩ : ∃ v' : Int64, v' = if b = 0 then v else 0 := ⟨_, rfl⟩
  obtain ⟨c2, hc2⟩ : ∃ z, z = sB c1 288 ar i v' := ⟨_, rfl⟩
  obtain ⟨c3, hc3⟩ : ∃ z, z = sA c2 289 ar i b := ⟨_, rfl⟩
  have o2 : (9, ar) ∈ kE c2 := by rw [hc2]; exact s1.st.o
  have run : c_X8_set F c1 ar (nI i) v b = some c3 := by
    have fin : c_X8_set_b23 F c1 ar (nI i) b v' (nI i) ar j8 = some c3 := by
      unfold c_X8_set_b23 c_X8_set_b33
      rw [wB_n s1.st.e8 h8 (by omega) (by omega), ob_s, ← hc2, gA_ok o2, show kP c2 289 ar = some j9 by rw [hc2]; exact h9, ob_s, nar, wA_n (by rw [hc2]; exact s1.st.e9) (by rw [hc2]; exact h9) (by rw [hc2]; show i < kL c1 289 ar; rw [s1.st.l9]; omega) (by rw [hc2]; show kL c1 289 ar < _; rw [s1.st.l9]; omega), ob_s, ← hc3]
    unfold c_X8_set
    rw [ckE_ok s1.st.o, ob_s, holds_y s1.st (by omega), ob_s, if_neg (show ¬ (1 : Int32) = 0 by decide), gA_ok s1.st.o, h8, ob_s]
    rcases hx with ⟨q, -⟩ | ⟨q, -⟩
    · rw [if_pos q]
      rw [if_pos q] at hv
      rw [← hv]
      exact fin
    · rw [if_neg (by rw [q]; decide)]
      rw [if_neg (by rw [q]; decide)] at hv
      rw [← hv]
      exact fin
  have e3 : c3.1 = c1.1 := by rw [hc3, hc2]; rfl
  have g3 : ∀ x j, ¬ (j = ar ∧ (x = 288 ∨ x = 289)) → AT c1 c3 x j := fun x j hx => by
    rw [hc3]
    refine AT.trans ?_ (AT.sA (by omega))
    rw [hc2]
    exact AT.sB (by omega)
  have pl3 : ∀ x j, kP c3 x j = kP c1 x j ∧ kL c3 x j = kL c1 x j := fun x j => by rw [hc3, hc2]; exact ⟨rfl, rfl⟩
  have kb : ∀ k, kB c3 288 ar k = if k = i then v' else kB c1 288 ar k := fun k => by
    rw [hc3]
    show kB c2 288 ar k = _
    rw [hc2]
    show u2 (kB c1) 288 ar (vp_updL (kB c1 288 ar) i v') 288 ar k = _
    rw [u2_s]
    rfl
  have ka : ∀ k, kA c3 289 ar k = if k = i then b else kA c1 289 ar k := fun k => by
    rw [hc3]
    show u2 (kA c2) 289 ar (upd (kA c2 289 ar) i b) 289 ar k = _
    rw [u2_s, hc2]
    rfl
  have nb : ∀ k, k < kL c1 288 ar → kA c3 289 ar k = 0 ∨ (kA c3 289 ar k = 1 ∧ kB c3 288 ar k = 0) := fun k hk => by
    rw [ka, kb]
    by_cases q : k = i
    · rw [if_pos q, if_pos q]
      rcases hx with ⟨q1, -⟩ | ⟨q1, -⟩
      · exact Or.inl q1
      · exact Or.inr ⟨q1, by rw [hv, if_neg (by rw [q1]; decide)]⟩
    · rw [if_neg q, if_neg q]
      exact s1.st.nb k hk
  have svk : ∀ k, k ≠ i → sv c3 ar k = sv c1 ar k := fun k hk => by
    unfold sv
    rw [(pl3 288 ar).2, ka, if_neg hk, kb, if_neg hk]
  refine ⟨c3, run, s1.ch e3 g3 pl3 nb, (pl3 288 ar).2, ?_, svk, fun c m hm => STF.ch e3 g3 pl3 (fun k k1 _ => svk k (by omega))⟩
  unfold sv
  rw [(pl3 288 ar).2, if_pos (by omega), ka, if_pos rfl, kb, if_pos rfl]
  rcases hx with ⟨q1, q2⟩ | ⟨q1, q2⟩
  · rw [if_pos q1, q2, hv, if_pos q1]
  · rw [if_neg (by rw [q1]; decide), q2]
theorem put_ok {F ar B i : Nat} {v : Int64} {b : Int32} {x : OV} {cs : CS} (h : STS ar B cs) (hB : B ≤ 400000) (hi : i < B) (hx : (b = 0 ∧ x = some v) ∨ (b = 1 ∧ x = none)) : ∃ cs', c_X8_put F cs ar (nI i) v b = some cs' ∧ STS ar B cs' ∧ i < kL cs' 288 ar ∧ sv cs' ar i = x ∧ (∀ k, k ≠ i → k < kL cs 288 ar → sv cs' ar k = sv cs ar k) ∧ ∀ c m, m ≤ i → STF c ar m cs cs' := by
  obtain ⟨c1, e1, s1, l1, v1, a1, f1⟩ := reserve_ok (F := F) h hB (show i + 1 ≤ B by omega)
  obtain ⟨c3, e3, s3, l3, x3, k3, f3⟩ := sset_ok (F := F) (v := v) (b := b) s1 hB (show i < kL c1 288 ar by omega) hx
  refine ⟨c3, ?_, s3, by rw [l3]; omega, x3, fun k k1 k2 => (k3 k k1).trans (v1 k k2), fun c m hm => (f1 c m).trans (f3 c m hm) (Nat.le_refl _)⟩
  unfold c_X8_put
  rw [ckE_ok h.st.o, ob_s, nI_1, e1, ob_s]
  unfold c_X8_put_b7
  rw [ckE_ok s1.st.o, ob_s, e3, ob_s]
theorem nI_max {a b : Nat} (ha : a < 2147483648) (hb : b < 2147483648) : (if nI a < nI b then nI b else nI a) = nI (if a < b then b else a) := by
  by_cases q : a < b
  · rw [if_pos q, if_pos (nI_lt q (by omega))]
  · rw [if_neg q, if_neg (nI_nlt (by omega) (by omega))]
theorem scopy_ok {F ar B fr to n : Nat} {cs : CS} (h : STS ar B cs) (hB : B ≤ 400000) (h1 : fr + n ≤ kL cs 288 ar) (h2 : fr + n ≤ B) (h3 : to + n ≤ B) : ∃ cs', c_X8_copy F cs ar (nI fr) (nI to) (nI n) = some cs' ∧ STS ar B cs' ∧ to + n ≤ kL cs' 288 ar ∧ (∀ k, k < n → sv cs' ar (to + k) = sv cs ar (fr + k)) ∧ (∀ k, ¬ (to ≤ k ∧ k < to + n) → k < kL cs 288 ar → sv cs' ar k = sv cs ar k) ∧ AT cs cs' 290 ar ∧ ∀ c m, m ≤ to → STF c ar m cs cs' := by
  obtain ⟨mx, hmx⟩ : ∃ z, z = if fr < to then to else fr := ⟨_, rfl⟩
  have m1 : fr ≤ mx ∧ to ≤ mx ∧ mx + n ≤ B := by
    rw [hmx]
    by_cases q : fr < to
    · rw [if_pos q]; omega
    · rw [if_neg q]; omega
  obtain ⟨c1, e1, s1, l1, v1, a1, f1⟩ := reserve_ok (F := F) h hB m1.2.2
  obtain ⟨j8, h8⟩ := s1.st.p8
  obtain ⟨j9, h9⟩ := s1.st.p9
  have hi1 := s1.hi
  have n2 := s1.st.n2
  have ln := (f1 0 0).ln
  have l9 := s1.st.l9
  have top : c_X8_copy F cs ar (nI fr) (nI to) (nI n) = c_X8_copy_b11 F c1 ar (nI fr) (nI to) (nI n) := by
    unfold c_X8_copy
    rw [ckE_ok h.st.o, ob_s, nI_max (by omega) (by omega), ← hmx, nI_add, e1, ob_s]
  rw [top]
  by_cases z : n = 0
  · unfold c_X8_copy_b11 c_X8_copy_b83
    rw [z, if_pos (show nI 0 ≤ 0 by decide)]
    exact ⟨c1, rfl, s1, by omega, fun k hk => absurd hk (by omega), fun k _ hk => v1 k hk, a1, fun c m _ => f1 c m⟩
  · obtain ⟨c2, hc2⟩ : ∃ z, z = xB c1 288 ar (va_cpy (kB c1 288 ar) (kB c1 288 ar) fr to n) := ⟨_, rfl⟩
    obtain ⟨c3, hc3⟩ : ∃ z, z = xA c2 289 ar (va_cpy (kA c2 289 ar) (kA c2 289 ar) fr to n) := ⟨_, rfl⟩
    have o2 : (9, ar) ∈ kE c2 := by rw [hc2]; exact s1.st.o
    have e9 : (321, ar) ∈ kE c2 := by rw [hc2]; exact s1.st.e9
    have p9 : kP c2 289 ar = some j9 := by rw [hc2]; exact h9
    have l92 : kL c2 289 ar = kL c1 288 ar := by rw [hc2]; exact l9
    have hf : ∀ x, x < n → fits .byte (.int (kA c2 289 ar (fr + x))) = true := fun x hx => by
      rw [hc2]
      show fits .byte (.int (kA c1 289 ar (fr + x))) = true
      refine fit01 ?_
      rcases s1.st.nb (fr + x) (by omega) with q | ⟨q, -⟩
      · exact Or.inl q
      · exact Or.inr q
    have run : c_X8_copy_b11 F c1 ar (nI fr) (nI to) (nI n) = some c3 := by
      unfold c_X8_copy_b11 c_X8_copy_b83
      rw [if_neg (nI_nle (by omega) (by omega)), ckE_ok s1.st.o, ob_s, holds_y s1.st (by omega), ob_s, if_neg (show ¬ (1 : Int32) = 0 by decide), ob_s, holds_y s1.st (by omega), ob_s, if_neg (show ¬ (1 : Int32) = 0 by decide), ob_s, nI_add, nI_p1 (by omega), holds_y s1.st (by omega), ob_s, if_neg (show ¬ (1 : Int32) = 0 by decide), ob_s, nI_add, nI_p1 (by omega), holds_y s1.st (by omega), ob_s, if_neg (show ¬ (1 : Int32) = 0 by decide), gA_ok s1.st.o, h8, ob_s, ob_s, cpB_n s1.st.e8 h8 s1.st.e8 h8 (by omega) (by omega) (by omega) (by omega), ob_s, ← hc2, gA_ok o2, p9, ob_s, ob_s, cpA_n e9 p9 e9 p9 (by omega) (by omega) (by omega) (by omega) hf, ob_s, ← hc3]
    have e3 : c3.1 = c1.1 := by rw [hc3, hc2]; rfl
    have g3 : ∀ x j, ¬ (j = ar ∧ (x = 288 ∨ x = 289)) → AT c1 c3 x j := fun x j hx => by
      rw [hc3, hc2]
      exact ⟨rfl, rfl, rfl, rfl, u2_n (by omega), u2_n (by omega), rfl, rfl⟩
    have pl3 : ∀ x j, kP c3 x j = kP c1 x j ∧ kL c3 x j = kL c1 x j := fun x j => by rw [hc3, hc2]; exact ⟨rfl, rfl⟩
    have kb : ∀ k, kB c3 288 ar k = if to ≤ k ∧ k < to + n then kB c1 288 ar (fr + (k - to)) else kB c1 288 ar k := fun k => by
      rw [hc3]
      show kB c2 288 ar k = _
      rw [hc2]
      show u2 (kB c1) 288 ar (va_cpy (kB c1 288 ar) (kB c1 288 ar) fr to n) 288 ar k = _
      rw [u2_s]
      rfl
    have ka : ∀ k, kA c3 289 ar k = if to ≤ k ∧ k < to + n then kA c1 289 ar (fr + (k - to)) else kA c1 289 ar k := fun k => by
      rw [hc3]
      show u2 (kA c2) 289 ar (va_cpy (kA c2 289 ar) (kA c2 289 ar) fr to n) 289 ar k = _
      rw [u2_s, hc2]
      rfl
    have svc : ∀ k, k < kL c1 288 ar → sv c3 ar k = if to ≤ k ∧ k < to + n then sv c1 ar (fr + (k - to)) else sv c1 ar k := fun k hk => by
      by_cases q : to ≤ k ∧ k < to + n
      · rw [if_pos q]
        unfold sv
        rw [(pl3 288 ar).2, if_pos hk, ka, kb, if_pos q, if_pos q, if_pos (show fr + (k - to) < kL c1 288 ar by omega)]
      · rw [if_neg q]
        unfold sv
        rw [(pl3 288 ar).2, if_pos hk, if_pos hk, ka, kb, if_neg q, if_neg q]
    have nb : ∀ k, k < kL c1 288 ar → kA c3 289 ar k = 0 ∨ (kA c3 289 ar k = 1 ∧ kB c3 288 ar k = 0) := fun k hk => by
      rw [ka, kb]
      by_cases q : to ≤ k ∧ k < to + n
      · rw [if_pos q, if_pos q]
        exact s1.st.nb _ (by omega)
      · rw [if_neg q, if_neg q]
        exact s1.st.nb k hk
    refine ⟨c3, run, s1.ch e3 g3 pl3 nb, by rw [(pl3 288 ar).2]; omega, fun k hk => ?_, fun k k1 k2 => ?_, a1.trans (g3 290 ar (by omega)), fun c m hm => (f1 c m).trans (STF.ch e3 g3 pl3 (fun k k1 k2 => ?_)) (Nat.le_refl _)⟩
    · rw [svc _ (by omega), if_pos (by omega), show fr + (to + k - to) = fr + k by omega]
      exact v1 _ (by omega)
    · rw [svc k (by omega), if_neg k1]
      exact v1 k k2
    · rw [svc k k2, if_neg (by omega)]

/-! signs -/
def kd0 (c : Int32) : Int32 := if c = 40 then 41 else if c = 41 then 42 else if c = 44 then 43 else if c = 46 then 44 else if c = 43 then 45 else if c = 45 then 46 else if c = 42 then 47 else if c = 47 then 48 else if c = 37 then 49 else if c = 61 then 50 else if c = 60 then 51 else if c = 62 then 52 else 57
def lgs (κ d : Int32) : Int32 := if κ = 51 ∧ d = 62 then 53 else if κ = 51 ∧ d = 61 then 54 else if κ = 52 ∧ d = 61 then 55 else κ
def two (c d : Int32) : Int32 := if c = 60 ∧ d = 62 then 400 else if c = 60 ∧ d = 61 then 401 else if c = 62 ∧ d = 61 then 402 else 0
def srt (c d : Int32) : Int32 := if two c d = 0 then (if kd0 c = 57 then 3 else c) else two c d
def st (κ : Int32) : Int32 := if κ = 41 then 40 else if κ = 42 then 41 else if κ = 43 then 44 else if κ = 44 then 46 else if κ = 45 then 43 else if κ = 46 then 45 else if κ = 47 then 42 else if κ = 48 then 47 else if κ = 49 then 37 else if κ = 50 then 61 else if κ = 51 then 60 else if κ = 52 then 62 else if κ = 53 then 400 else if κ = 54 then 401 else if κ = 55 then 402 else 3
theorem sg_of : ∀ m, m < 256 → (if (0 : Int32) ≤ nI m - 128 then (ixA 1 (((nI m - 128).toUInt32 % 65536).toInt32)).map (fun v => if (0 : Int32) ≤ v then 41 + v else 57) else some 57) = some (kd0 (nI m - 128)) := by
  unfold kd0
  decide +kernel
theorem ss_ok {F : Nat} {cs : CS} {c : Int32} (hb : zisB c) : c_X10_scanSign F cs 9 c = c_X10_scanSign_b29 F cs 9 (kd0 c) := by
  obtain ⟨m, hm, rfl⟩ := hb
  have h := sg_of m hm
  generalize nI m - 128 = c at h ⊢
  unfold c_X10_scanSign c_X10_scanSign_b15
  by_cases h0 : (0 : Int32) ≤ c
  · rw [if_pos h0] at h ⊢
    cases hx : ixA 1 ((c.toUInt32 % 65536).toInt32) with
    | none => rw [hx] at h; cases h
    | some v =>
      rw [hx] at h
      have h : (if (0 : Int32) ≤ v then 41 + v else 57) = kd0 c := Option.some.inj h
      rw [ob_s, ← h]
      by_cases h1 : (0 : Int32) ≤ v
      · rw [if_pos h1, if_pos h1]
      · rw [if_neg h1, if_neg h1]
  · rw [if_neg h0] at h ⊢
    rw [← Option.some.inj h, if_neg (by decide)]
theorem c_lgs (F : Nat) (cs : CS) (κ d : Int32) : c_X10_longerSign F cs κ d = some (lgs κ d) := by
  unfold c_X10_longerSign c_X10_longerSign_b15 c_X10_longerSign_b30 c_X10_longerSign_b47 c_X10_longerSign_b48 lgs
  by_cases h1 : κ = 51
  · subst h1
    by_cases h2 : d = 62
    · subst h2; rfl
    · by_cases h3 : d = 61
      · subst h3; rfl
      · simp [h2, h3]
  · by_cases h4 : κ = 52
    · subst h4
      by_cases h3 : d = 61
      · subst h3; rfl
      · simp [h3]
    · simp [h1, h4]
theorem b381_ok {F : Nat} {rc : RS → Int32 → Int32 → Int32 → Option RS} {rs : RS} {n t k c p y : Int32} : m_tokens_b381 F rc rs n t k c p y = m_tokens_b472 F rc rs n t k c p y (if kd0 c = 57 then 0 else 1) := by
  unfold m_tokens_b381 m_tokens_b467 kd0
  by_cases h1 : c = 40
  · subst h1; rfl
  rw [if_neg h1, if_neg h1]
  by_cases h2 : c = 41
  · subst h2; rfl
  rw [if_neg h2, if_neg h2]
  by_cases h3 : c = 44
  · subst h3; rfl
  rw [if_neg h3, if_neg h3]
  by_cases h4 : c = 46
  · subst h4; rfl
  rw [if_neg h4, if_neg h4]
  by_cases h5 : c = 43
  · subst h5; rfl
  rw [if_neg h5, if_neg h5]
  by_cases h6 : c = 45
  · subst h6; rfl
  rw [if_neg h6, if_neg h6]
  by_cases h7 : c = 42
  · subst h7; rfl
  rw [if_neg h7, if_neg h7]
  by_cases h8 : c = 47
  · subst h8; rfl
  rw [if_neg h8, if_neg h8]
  by_cases h9 : c = 37
  · subst h9; rfl
  rw [if_neg h9, if_neg h9]
  by_cases h10 : c = 61
  · subst h10; rfl
  rw [if_neg h10, if_neg h10]
  by_cases h11 : c = 60
  · subst h11; rfl
  rw [if_neg h11, if_neg h11]
  by_cases h12 : c = 62
  · subst h12; rfl
  rw [if_neg h12, if_neg h12]
  rfl
theorem b318_ok {F : Nat} {rc : RS → Int32 → Int32 → Int32 → Option RS} {rs : RS} {n t k c p d : Int32} : m_tokens_b318 F rc rs n t k c p d = Option.bind (wrI rs 14 2001 t (srt c d)) fun r => m_tokens_b514 F rc r n t (k + (if two c d = 0 then 1 else 2)) p := by
  have h : m_tokens_b318 F rc rs n t k c p d = m_tokens_b381 F rc rs n t k c p (two c d) := by
    unfold m_tokens_b318 m_tokens_b340 m_tokens_b360 m_tokens_b380 two
    by_cases h1 : c = 60
    · subst h1
      by_cases h2 : d = 62
      · subst h2; rfl
      · by_cases h3 : d = 61
        · subst h3; rfl
        · simp [h2, h3]
    · by_cases h4 : c = 62
      · subst h4
        by_cases h3 : d = 61
        · subst h3; rfl
        · simp [h3]
      · simp [h1, h4]
  rw [h, b381_ok]
  unfold m_tokens_b472 m_tokens_b500 m_tokens_b512 srt
  by_cases h0 : two c d = 0
  · rw [if_pos h0, if_pos h0, if_pos h0]
    by_cases h5 : kd0 c = 57
    · rw [if_pos h5, if_pos h5, if_pos rfl]
      simp only [if_pos h0]
    · rw [if_neg h5, if_neg h5, if_neg (by decide)]
      simp only [if_pos h0]
  · rw [if_neg h0, if_neg h0, if_neg h0]
    simp only [if_neg h0]
theorem sr_61 : ∀ m, m < 256 → srt (nI m - 128) 61 = st (lgs (kd0 (nI m - 128)) 61) ∧ (two (nI m - 128) 61 = 0 ↔ lgs (kd0 (nI m - 128)) 61 = kd0 (nI m - 128)) := by
  unfold srt st lgs kd0 two
  decide +kernel
theorem sr_62 : ∀ m, m < 256 → srt (nI m - 128) 62 = st (lgs (kd0 (nI m - 128)) 62) ∧ (two (nI m - 128) 62 = 0 ↔ lgs (kd0 (nI m - 128)) 62 = kd0 (nI m - 128)) := by
  unfold srt st lgs kd0 two
  decide +kernel
theorem sr_0 : ∀ m, m < 256 → (if kd0 (nI m - 128) = 57 then 3 else nI m - 128) = st (kd0 (nI m - 128)) := by
  unfold st kd0
  decide +kernel
theorem kd_of : ∀ m, m < 256 → ∃ κ, κ < 58 ∧ kd0 (nI m - 128) = nI κ ∧ (κ = 57 ∨ 41 ≤ κ ∧ κ ≤ 52) := by
  unfold kd0
  decide +kernel
theorem sr_ok {c dC dR : Int32} (hb : zisB c) (h : dC = dR ∨ dC = -1 ∧ dR = 0) : srt c dR = st (lgs (kd0 c) dC) ∧ (two c dR = 0 ↔ lgs (kd0 c) dC = kd0 c) := by
  obtain ⟨m, hm, rfl⟩ := hb
  have oth : ∀ d : Int32, d ≠ 61 → d ≠ 62 → two (nI m - 128) d = 0 ∧ lgs (kd0 (nI m - 128)) d = kd0 (nI m - 128) := fun d h1 h2 => by
    unfold two lgs
    simp [h1, h2]
  rcases h with h | ⟨h, h'⟩
  · subst h
    by_cases h1 : dC = 61
    · subst h1; exact sr_61 m hm
    · by_cases h2 : dC = 62
      · subst h2; exact sr_62 m hm
      · obtain ⟨a, b⟩ := oth dC h1 h2
        refine ⟨?_, ⟨fun _ => b, fun _ => a⟩⟩
        unfold srt
        rw [if_pos a, b]
        exact sr_0 m hm
  · subst h h'
    obtain ⟨a, -⟩ := oth 0 (by decide) (by decide)
    obtain ⟨-, b⟩ := oth (-1) (by decide) (by decide)
    refine ⟨?_, ⟨fun _ => b, fun _ => a⟩⟩
    unfold srt
    rw [if_pos a, b]
    exact sr_0 m hm
theorem lg_n {c d : Int32} (hb : zisB c) : ∃ κ, κ < 58 ∧ lgs (kd0 c) d = nI κ ∧ (κ = 57 ∨ 41 ≤ κ ∧ κ ≤ 55) := by
  obtain ⟨m, hm, rfl⟩ := hb
  obtain ⟨κ, h1, h2, h3⟩ := kd_of m hm
  unfold lgs
  by_cases q1 : kd0 (nI m - 128) = 51 ∧ d = 62
  · exact ⟨53, by decide, if_pos q1, Or.inr (by decide)⟩
  · rw [if_neg q1]
    by_cases q2 : kd0 (nI m - 128) = 51 ∧ d = 61
    · exact ⟨54, by decide, if_pos q2, Or.inr (by decide)⟩
    · rw [if_neg q2]
      by_cases q3 : kd0 (nI m - 128) = 52 ∧ d = 61
      · exact ⟨55, by decide, if_pos q3, Or.inr (by decide)⟩
      · rw [if_neg q3]
        exact ⟨κ, h1, h2, by omega⟩
/-! one token -/
def TK (n : Nat) (f : Nat → Int32) (i p κ : Nat) (cs : CS) (rs : RS) : Prop := (kA cs 352 9 i = nI κ) ∧ (κ ≤ 57) ∧ (kA cs 353 9 i = nI p) ∧ (rs.2.2.1 15 i = nI p) ∧ (p ≤ n) ∧ (κ ≤ 39 → rs.2.2.1 14 i = 1 ∧ ∃ l, 1 ≤ l ∧ l ≤ 12 ∧ p + l ≤ n ∧ rs.2.2.1 16 i = nI l ∧ kB cs 354 9 i = lN (zwn f p l) ∧ (∀ j, j < l → zwc (f (p + j))) ∧ (κ < 39 → tn κ = zwn f p l) ∧ (κ = 39 → ∀ j, j < 39 → tn j ≠ zwn f p l)) ∧ (κ = 40 → rs.2.2.1 14 i = 2 ∧ ∃ a, a < 9223372036854775808 ∧ kB cs 354 9 i = lN a ∧ rs.2.2.2 17 i = lN a) ∧ (41 ≤ κ → κ ≤ 55 → rs.2.2.1 14 i = st (nI κ)) ∧ (κ = 56 → rs.2.2.1 14 i = 0) ∧ (κ = 57 → rs.2.2.1 14 i = 3)
theorem TK.kd {n : Nat} {f : Nat → Int32} {i p κ : Nat} {cs : CS} {rs : RS} (h : TK n f i p κ cs rs) : kA cs 352 9 i = nI κ := h.1
theorem TK.kl {n : Nat} {f : Nat → Int32} {i p κ : Nat} {cs : CS} {rs : RS} (h : TK n f i p κ cs rs) : κ ≤ 57 := h.2.1
theorem TK.pc {n : Nat} {f : Nat → Int32} {i p κ : Nat} {cs : CS} {rs : RS} (h : TK n f i p κ cs rs) : kA cs 353 9 i = nI p := h.2.2.1
theorem TK.pr {n : Nat} {f : Nat → Int32} {i p κ : Nat} {cs : CS} {rs : RS} (h : TK n f i p κ cs rs) : rs.2.2.1 15 i = nI p := h.2.2.2.1
theorem TK.pl {n : Nat} {f : Nat → Int32} {i p κ : Nat} {cs : CS} {rs : RS} (h : TK n f i p κ cs rs) : p ≤ n := h.2.2.2.2.1
theorem TK.wd {n : Nat} {f : Nat → Int32} {i p κ : Nat} {cs : CS} {rs : RS} (h : TK n f i p κ cs rs) : κ ≤ 39 → rs.2.2.1 14 i = 1 ∧ ∃ l, 1 ≤ l ∧ l ≤ 12 ∧ p + l ≤ n ∧ rs.2.2.1 16 i = nI l ∧ kB cs 354 9 i = lN (zwn f p l) ∧ (∀ j, j < l → zwc (f (p + j))) ∧ (κ < 39 → tn κ = zwn f p l) ∧ (κ = 39 → ∀ j, j < 39 → tn j ≠ zwn f p l) := h.2.2.2.2.2.1
theorem TK.nu {n : Nat} {f : Nat → Int32} {i p κ : Nat} {cs : CS} {rs : RS} (h : TK n f i p κ cs rs) : κ = 40 → rs.2.2.1 14 i = 2 ∧ ∃ a, a < 9223372036854775808 ∧ kB cs 354 9 i = lN a ∧ rs.2.2.2 17 i = lN a := h.2.2.2.2.2.2.1
theorem TK.sg {n : Nat} {f : Nat → Int32} {i p κ : Nat} {cs : CS} {rs : RS} (h : TK n f i p κ cs rs) : 41 ≤ κ → κ ≤ 55 → rs.2.2.1 14 i = st (nI κ) := h.2.2.2.2.2.2.2.1
theorem TK.en {n : Nat} {f : Nat → Int32} {i p κ : Nat} {cs : CS} {rs : RS} (h : TK n f i p κ cs rs) : κ = 56 → rs.2.2.1 14 i = 0 := h.2.2.2.2.2.2.2.2.1
theorem TK.bad {n : Nat} {f : Nat → Int32} {i p κ : Nat} {cs : CS} {rs : RS} (h : TK n f i p κ cs rs) : κ = 57 → rs.2.2.1 14 i = 3 := h.2.2.2.2.2.2.2.2.2
def tkR (k : Nat) : Prop := k = 14 ∨ k = 15 ∨ k = 16 ∨ k = 17
/-- but for the token i nothing of the tokens has changed -/
def KC (i : Nat) (a b : CS) : Prop := FX kS a b ∧ ∀ j, j ≠ i → kA b 352 9 j = kA a 352 9 j ∧ kA b 353 9 j = kA a 353 9 j ∧ kB b 354 9 j = kB a 354 9 j
def KR' (i : Nat) (a b : RS) : Prop := FR tkR a b ∧ ∀ j, j ≠ i → b.2.2.1 14 j = a.2.2.1 14 j ∧ b.2.2.1 15 j = a.2.2.1 15 j ∧ b.2.2.1 16 j = a.2.2.1 16 j ∧ b.2.2.2 17 j = a.2.2.2 17 j
theorem KC.trans {i : Nat} {a b c : CS} (h : KC i a b) (g : KC i b c) : KC i a c := ⟨h.1.trans g.1, fun j hj => ⟨(g.2 j hj).1.trans (h.2 j hj).1, (g.2 j hj).2.1.trans (h.2 j hj).2.1, (g.2 j hj).2.2.trans (h.2 j hj).2.2⟩⟩
theorem KC.s352 {i : Nat} {a : CS} {v : Int32} : KC i a (sA a 352 9 i v) := ⟨FX.sA (Or.inl rfl), fun j hj => ⟨pk_un hj, rfl, rfl⟩⟩
theorem KC.s353 {i : Nat} {a : CS} {v : Int32} : KC i a (sA a 353 9 i v) := ⟨FX.sA (Or.inr (Or.inl rfl)), fun j hj => ⟨rfl, pk_un hj, rfl⟩⟩
theorem KC.s354 {i : Nat} {a : CS} {v : Int64} : KC i a (sB a 354 9 i v) := ⟨FX.sB (Or.inr (Or.inr (Or.inl rfl))), fun j hj => ⟨rfl, rfl, pk_uLn hj⟩⟩
theorem KC.s357 {i : Nat} {a : CS} {v : Int32} : KC i a (sI a 357 9 v) := ⟨FX.sI (Or.inr (Or.inr (Or.inr rfl))), fun j hj => ⟨rfl, rfl, rfl⟩⟩
theorem KC.nx {i : Nat} {a b : CS} (h : FX nS a b) : KC i a b := ⟨h.mono (fun _ => nS_k), fun j hj => ⟨congrFun (h.a (by unfold nS; omega) 9) j, congrFun (h.a (by unfold nS; omega) 9) j, congrFun (h.b (by unfold nS; omega) 9) j⟩⟩
theorem KR'.trans {i : Nat} {a b c : RS} (h : KR' i a b) (g : KR' i b c) : KR' i a c := ⟨h.1.trans g.1, fun j hj => ⟨(g.2 j hj).1.trans (h.2 j hj).1, (g.2 j hj).2.1.trans (h.2 j hj).2.1, (g.2 j hj).2.2.1.trans (h.2 j hj).2.2.1, (g.2 j hj).2.2.2.trans (h.2 j hj).2.2.2⟩⟩
theorem KR'.s14 {i : Nat} {a : RS} {v : Int32} : KR' i a (setI a 14 i v) := ⟨FR.setI (Or.inl rfl), fun j hj => ⟨pk_un hj, rfl, rfl, rfl⟩⟩
theorem KR'.s15 {i : Nat} {a : RS} {v : Int32} : KR' i a (setI a 15 i v) := ⟨FR.setI (Or.inr (Or.inl rfl)), fun j hj => ⟨rfl, pk_un hj, rfl, rfl⟩⟩
theorem KR'.s16 {i : Nat} {a : RS} {v : Int32} : KR' i a (setI a 16 i v) := ⟨FR.setI (Or.inr (Or.inr (Or.inl rfl))), fun j hj => ⟨rfl, rfl, pk_un hj, rfl⟩⟩
theorem KR'.s17 {i : Nat} {a : RS} {v : Int64} : KR' i a (setL a 17 i v) := ⟨FR.setL (Or.inr (Or.inr (Or.inr rfl))), fun j hj => ⟨rfl, rfl, rfl, pk_uLn hj⟩⟩
theorem tok_step {F u n k i : Nat} {f : Nat → Int32} {cs : CS} {rs : RS} (hF : 10000 ≤ F) (h : TW n f cs) (hf : ∀ k, k < n → zisB (f k)) (hr : ∀ k, k < n → rs.2.2.1 2 k = f k) (hk : kI cs 357 9 = nI k) (hkn : k < n) (hb : zbl (f k) = 0) (hi : i < 2001) : ∃ cs' rs' k' κ, c_X10_scanToken F (sA cs 353 9 i (nI k)) 9 (nI i) = some cs' ∧ m_tokens_L9 F (u + 1) rs (nI n) (nI i) (nI k) = m_tokens_L9 F u rs' (nI n) (nI (i + 1)) (nI k') ∧ k < k' ∧ k' ≤ n ∧ TK n f i k κ cs' rs' ∧ κ ≠ 56 ∧ KC i cs cs' ∧ KR' i rs rs' ∧ kI cs' 357 9 = nI k' := by
  have hl := h.le
  obtain ⟨c1, hc1⟩ : ∃ c, c = sB (sA cs 353 9 i (nI k)) 354 9 i 0 := ⟨_, rfl⟩
  obtain ⟨r1, hr1⟩ : ∃ r, r = setL (setI rs 15 i (nI k)) 17 i 0 := ⟨_, rfl⟩
  have KC1 : KC i cs c1 := by rw [hc1]; exact KC.s353.trans KC.s354
  have KR1 : KR' i rs r1 := by rw [hr1]; exact KR'.s15.trans KR'.s17
  have h1 := h.fx KC1.1
  have hB1 := h1.b
  have k1 : kI c1 357 9 = nI k := by rw [hc1]; exact hk
  have p1 : kA c1 353 9 i = nI k := by rw [hc1]; exact pk_us
  have q1 : r1.2.2.1 15 i = nI k := by rw [hr1]; exact pk_us
  have n1 : r1.2.2.2 17 i = 0 := by rw [hr1]; exact pk_uLs
  have hr' : ∀ k, k < n → r1.2.2.1 2 k = f k := by rw [hr1]; exact hr
  have n32 : ¬ f k = 32 := fun e => by rw [e] at hb; exact absurd hb (by decide)
  have n9 : ¬ f k = 9 := fun e => by rw [e] at hb; exact absurd hb (by decide)
  have n13 : ¬ f k = 13 := fun e => by rw [e] at hb; exact absurd hb (by decide)
  have n10 : ¬ f k = 10 := fun e => by rw [e] at hb; exact absurd hb (by decide)
  have hc : c_X10_scanToken F (sA cs 353 9 i (nI k)) 9 (nI i) = if zlt (f k) = 0 then (if zdg (f k) = 0 then (Option.bind (c_X10_scanSign F c1 9 (f k)) fun z => Option.bind (wA z.1 352 9 10 (nI i) z.2) fun c => some c) else (Option.bind (c_X10_scanNumber F c1 9 (nI i)) fun c => some c)) else (Option.bind (c_X10_scanWord F c1 9 (nI i)) fun c => some c) := by
    have h0 : TW n f (sA cs 353 9 i (nI k)) := h.fx (FX.sA (Or.inr (Or.inl rfl)))
    have hB0 := h0.b
    have k0 : kI (sA cs 353 9 i (nI k)) 357 9 = nI k := hk
    unfold c_X10_scanToken c_X10_scanToken_b79
    rw [gI_ok hB0.oT, ob_s, k0, ckE_ok hB0.oT, ob_s, by_in h0 hkn, ob_s, gA_ok hB0.oT, hB0.p354, ob_s, wB_n hB0.e354 hB0.p354 (by rw [hB0.l354]; exact hi) (by rw [hB0.l354]; decide), ob_s, ← hc1, gI_ok hB1.oT, ob_s, gI_ok hB1.oT, ob_s, k1, h1.s, if_pos (nI_lt hkn (by omega))]
    simp only [c_lt, c_dg, ob_s, gA_ok hB1.oT, hB1.p352, ckE_ok hB1.oT]
  have hm : m_tokens_L9 F (u + 1) rs (nI n) (nI i) (nI k) = if zlt (f k) = 0 then (if zdg (f k) = 0 then (if nI n ≤ nI (k + 1) then (m_tokens_b318 F (m_tokens_L9 F u) r1 (nI n) (nI i) (nI k) (f k) (nI k) 0) else (Option.bind (rdI (r1.2.2.1 2) 2000 (nI (k + 1))) fun v_70 => m_tokens_b318 F (m_tokens_L9 F u) r1 (nI n) (nI i) (nI k) (f k) (nI k) v_70)) else (m_tokens_L150 F (m_tokens_L9 F u) F r1 (nI n) (nI i) (nI k) (nI k) 1)) else (m_tokens_L81 F (m_tokens_L9 F u) F r1 (nI n) (nI i) (nI k) (nI k)) := by
    rw [m_tokens_L9, if_neg (nI_ge hkn (by omega)), rdI_n (by omega) (by decide), ob_s, hr k hkn, if_neg n32, if_neg n9, if_neg n13, if_neg n10, wrI_n hi (by decide), ob_s, wrL_n hi (by decide), ob_s, ← hr1]
    simp only [m_lt, m_dg, ob_s, nI_1]
  by_cases z1 : zlt (f k) = 0
  · by_cases z2 : zdg (f k) = 0
    · rw [if_pos z1, if_pos z2] at hc hm
      obtain ⟨dC, hdC⟩ : ∃ d, d = if k + 1 < n then f (k + 1) else (-1 : Int32) := ⟨_, rfl⟩
      obtain ⟨dR, hdR⟩ : ∃ d, d = if k + 1 < n then f (k + 1) else (0 : Int32) := ⟨_, rfl⟩
      have hd : dC = dR ∨ dC = -1 ∧ dR = 0 := by
        by_cases y : k + 1 < n
        · rw [if_pos y] at hdC hdR; exact Or.inl (hdC.trans hdR.symm)
        · rw [if_neg y] at hdC hdR; exact Or.inr ⟨hdC, hdR⟩
      have hm2 : m_tokens_L9 F (u + 1) rs (nI n) (nI i) (nI k) = m_tokens_b318 F (m_tokens_L9 F u) r1 (nI n) (nI i) (nI k) (f k) (nI k) dR := by
        rw [hm]
        by_cases y : k + 1 < n
        · rw [if_neg (nI_ge y (by omega)), rdI_n (by omega) (by decide), ob_s, hr' (k + 1) y, hdR, if_pos y]
        · rw [if_pos (nI_le (by omega) (by omega)), hdR, if_neg y]
      obtain ⟨s1, s2⟩ := sr_ok (hf k hkn) hd
      obtain ⟨κ, κ1, κ2, κ3⟩ := lg_n (c := f k) (d := dC) (hf k hkn)
      have two_n : ¬ two (f k) dR = 0 → k + 1 < n := fun y => by
        rcases Nat.lt_or_ge (k + 1) n with q | q
        · exact q
        · rw [if_neg (by omega)] at hdR
          rw [hdR] at y
          exact absurd (by unfold two; simp) y
      obtain ⟨k', hk'⟩ : ∃ k', k' = if two (f k) dR = 0 then k + 1 else k + 2 := ⟨_, rfl⟩
      have k'1 : k < k' ∧ k' ≤ n := by
        by_cases y : two (f k) dR = 0
        · rw [if_pos y] at hk'; omega
        · have := two_n y
          rw [if_neg y] at hk'; omega
      obtain ⟨c2, hc2, k2, F2⟩ : ∃ c2, c_X10_scanSign F c1 9 (f k) = some (c2, nI κ) ∧ kI c2 357 9 = nI k' ∧ FX nS c1 c2 := by
        rw [ss_ok (hf k hkn)]
        unfold c_X10_scanSign_b29
        obtain ⟨c2, hc2⟩ : ∃ c, c = sI c1 357 9 (nI (k + 1)) := ⟨_, rfl⟩
        have KC2 : FX nS c1 c2 := by rw [hc2]; exact FX.sI rfl
        have h2 := h1.fx (KC2.mono (fun _ => nS_k))
        have k2 : kI c2 357 9 = nI (k + 1) := by rw [hc2]; rfl
        have hby : c_X10_byteAt F c2 9 (nI (k + 1)) = some dC := by
          by_cases y : k + 1 < n
          · rw [by_in h2 y, hdC, if_pos y]
          · rw [by_out h2 (by omega) (by omega), hdC, if_neg y]
        rw [gI_ok hB1.oT, ob_s, k1, nI_1, pI_ok hB1.oT, ob_s, ← hc2, gI_ok h2.b.oT, ob_s, k2, ckE_ok h2.b.oT, ob_s, hby, ob_s, c_lgs, ob_s]
        by_cases y : lgs (kd0 (f k)) dC = kd0 (f k)
        · refine ⟨c2, ?_, ?_, KC2⟩
          · rw [if_pos y, ← κ2, y]
          · rw [hk', if_pos (s2.mpr y)]; exact k2
        · refine ⟨sI c2 357 9 (nI (k + 2)), ?_, ?_, KC2.trans (FX.sI rfl)⟩
          · rw [if_neg y, ob_s, nI_1, pI_ok h2.b.oT, ob_s, κ2]
          · rw [hk', if_neg (fun q => y (s2.mp q))]; rfl
      have KC2 : KC i c1 c2 := KC.nx F2
      have h2 := h1.fx KC2.1
      have hB2 := h2.b
      refine ⟨sA c2 352 9 i (nI κ), setI (setI r1 14 i (srt (f k) dR)) 16 i (nI (k' - k)), k', κ, ?_, ?_, k'1.1, k'1.2, ⟨pk_us, by omega, ?_, q1, by omega, fun q => by omega, fun q => by omega, fun q1 q2 => ?_, fun q => by omega, fun q => ?_⟩, by omega, (KC1.trans KC2).trans KC.s352, KR1.trans (KR'.s14.trans KR'.s16), k2⟩
      · rw [hc, hc2, ob_s, wA_n hB2.e352 hB2.p352 (by rw [hB2.l352]; exact hi) (by rw [hB2.l352]; decide), ob_s]
      · rw [hm2, b318_ok, wrI_n hi (by decide), ob_s]
        unfold m_tokens_b514 m_tokens_b527
        have ek : nI k + (if two (f k) dR = 0 then 1 else 2) = nI k' := by
          rw [hk']
          by_cases y : two (f k) dR = 0
          · rw [if_pos y, if_pos y, nI_1]
          · rw [if_neg y, if_neg y]; exact nI_add k 2
        rw [ek, pk_sub (by omega), wrI_n hi (by decide), ob_s, nI_1]
      · show kA c2 353 9 i = nI k
        rw [congrFun (F2.a (by unfold nS; omega) 9) i]
        exact p1
      · show upd (r1.2.2.1 14) i (srt (f k) dR) i = _
        rw [pk_us, s1, κ2]
      · show upd (r1.2.2.1 14) i (srt (f k) dR) i = _
        rw [pk_us, s1, κ2, q]
        decide
    · rw [if_pos z1, if_neg z2] at hc hm
      obtain ⟨e, he⟩ := zBE_ex (fun c => zdg c ≠ 0) f (n - k) n k (by omega) rfl
      have hke : k < e := by
        rcases Nat.lt_or_ge k e with q | q
        · exact q
        · have : e = k := by have := he.1; omega
          subst this
          rcases he.2.2.2 with y | y
          · omega
          · exact absurd z2 y
      have hen := he.2.1
      obtain ⟨c2, hc2⟩ : ∃ c, c = sA c1 352 9 i 40 := ⟨_, rfl⟩
      have KC2 : KC i c1 c2 := by rw [hc2]; exact KC.s352
      have h2 := h1.fx KC2.1
      obtain ⟨c3, r3, v', b', e1, e2, e3, e4, e5, e6, e7, e8, e9, e10, e11⟩ := nu_ok (F := F) (n := n) (p := k) (e := e) (i := i) (rc := m_tokens_L9 F u) hf hi F k c2 r1 0 true h2 hr' (by rw [hc2]; exact k1) he (by omega) (by rw [hc2]; exact pk_us) (fun _ => ⟨0, by decide, by decide, n1⟩)
      have KC3 : KC i c2 c3 := ⟨e3, fun j hj => ⟨e6 j hj, by rw [e4], by rw [e5]⟩⟩
      have KR3 : KR' i r1 r3 := ⟨e7.mono (fun _ q => Or.inr (Or.inr (Or.inr q))), fun j hj => ⟨congrFun (e7.a (by unfold mR; omega)) j, congrFun (e7.a (by unfold mR; omega)) j, congrFun (e7.a (by unfold mR; omega)) j, e8 j hj⟩⟩
      have h3 := h2.fx KC3.1
      have hB3 := h3.b
      have hen := he.2.1
      obtain ⟨d, hd⟩ : ∃ d, d = if e < n then f e else (-1 : Int32) := ⟨_, rfl⟩
      obtain ⟨c4, hc4⟩ : ∃ c, c = sB c3 354 9 i v' := ⟨_, rfl⟩
      have KC4 : KC i c3 c4 := by rw [hc4]; exact KC.s354
      have h4 := h3.fx KC4.1
      have hB4 := h4.b
      have k4 : kI c4 357 9 = nI e := by rw [hc4]; exact e9
      have hby : c_X10_byteAt F c4 9 (nI e) = some d := by
        by_cases y : e < n
        · rw [by_in h4 y, hd, if_pos y]
        · rw [by_out h4 (by omega) (by omega), hd, if_neg y]
      have hcl : c_X10_scanToken F (sA cs 353 9 i (nI k)) 9 (nI i) = some (if zlt d = 0 then c4 else sA c4 352 9 i 57) := by
        rw [hc]
        unfold c_X10_scanNumber
        rw [gA_ok hB1.oT, hB1.p352, ob_s, wA_n hB1.e352 hB1.p352 (by rw [hB1.l352]; exact hi) (by rw [hB1.l352]; decide), ob_s, ← hc2, e1]
        unfold c_X10_scanNumber_b98 c_X10_scanNumber_b127
        rw [gA_ok hB3.oT, hB3.p354, ob_s, wB_n hB3.e354 hB3.p354 (by rw [hB3.l354]; exact hi) (by rw [hB3.l354]; decide), ob_s, ← hc4, gI_ok hB4.oT, ob_s, k4, ckE_ok hB4.oT, ob_s, hby, ob_s, c_lt, ob_s]
        by_cases y : zlt d = 0
        · rw [if_pos y, if_pos y, ob_s]
        · rw [if_neg y, if_neg y, gA_ok hB4.oT, hB4.p352, ob_s, wA_n hB4.e352 hB4.p352 (by rw [hB4.l352]; exact hi) (by rw [hB4.l352]; decide), ob_s, ob_s]
      have hml : ∀ s : Int32, s = (if b' = true ∧ zlt d = 0 then 2 else 3) → m_tokens_L9 F (u + 1) rs (nI n) (nI i) (nI k) = m_tokens_L9 F u (setI (setI r3 14 i s) 16 i (nI (e - k))) (nI n) (nI (i + 1)) (nI e) := fun s hs => by
        have fin : ∀ s : Int32, m_tokens_b295 F (m_tokens_L9 F u) r3 (nI n) (nI i) (nI e) (nI k) s (nI i) = m_tokens_L9 F u (setI (setI r3 14 i s) 16 i (nI (e - k))) (nI n) (nI (i + 1)) (nI e) := fun s => by
          unfold m_tokens_b295 m_tokens_b514 m_tokens_b527
          rw [wrI_n hi (by decide), ob_s, pk_sub (by omega), wrI_n hi (by decide), ob_s, nI_1]
        rw [hm, show (1 : Int32) = ok1 true from rfl, e2, hs]
        unfold m_tokens_b263 m_tokens_b290 m_tokens_b294
        cases b'
        · rw [if_pos (show ok1 false = 0 from rfl), if_neg (fun q => by cases q.1)]
          exact fin 3
        · rw [if_neg (show ¬ ok1 true = 0 by decide)]
          by_cases y : e < n
          · rw [if_pos y] at hd
            rw [if_neg (nI_ge y (by omega)), rdI_n (by omega) (by decide), ob_s, congrFun (e7.a (k := 2) (by unfold mR; omega)) e, hr' e y, ← hd, m_lt, ob_s]
            by_cases w : zlt d = 0
            · rw [if_pos w, if_pos ⟨rfl, w⟩]; exact fin 2
            · rw [if_neg w, if_neg (fun q => w q.2)]; exact fin 3
          · rw [if_neg y] at hd
            rw [if_pos (nI_le (by omega) (by omega)), if_pos ⟨rfl, by rw [hd]; decide⟩]
            exact fin 2
      have p3 : kA c3 353 9 i = nI k := by
        rw [e4, hc2]
        exact p1
      have q3 : r3.2.2.1 15 i = nI k := by rw [congrFun (e7.a (k := 15) (by unfold mR; omega)) i]; exact q1
      by_cases good : b' = true ∧ zlt d = 0
      · obtain ⟨a, a1, a2, a3⟩ := e11 good.1
        refine ⟨c4, setI (setI r3 14 i 2) 16 i (nI (e - k)), e, 40, by rw [hcl, if_pos good.2], hml 2 (by rw [if_pos good]), hke, hen, ⟨?_, by decide, ?_, q3, by omega, fun q => by omega, fun _ => ⟨pk_us, a, a1, ?_, ?_⟩, fun q => by omega, fun q => by omega, fun q => by omega⟩, by decide, ((KC1.trans KC2).trans KC3).trans KC4, (KR1.trans KR3).trans (KR'.s14.trans KR'.s16), k4⟩
        · rw [hc4]
          show kA c3 352 9 i = nI 40
          rw [e10, good.1]; rfl
        · rw [hc4]; exact p3
        · rw [hc4]
          show vp_updL (kB c3 354 9) i v' i = lN a
          rw [pk_uLs, a2]
        · show r3.2.2.2 17 i = lN a
          rw [a3, a2]
      · have bad : ∀ cF : CS, kA cF 352 9 i = 57 → kA cF 353 9 i = nI k → KC i c4 cF → kI cF 357 9 = nI e → c_X10_scanToken F (sA cs 353 9 i (nI k)) 9 (nI i) = some cF → ∃ cs' rs' k' κ, c_X10_scanToken F (sA cs 353 9 i (nI k)) 9 (nI i) = some cs' ∧ m_tokens_L9 F (u + 1) rs (nI n) (nI i) (nI k) = m_tokens_L9 F u rs' (nI n) (nI (i + 1)) (nI k') ∧ k < k' ∧ k' ≤ n ∧ TK n f i k κ cs' rs' ∧ κ ≠ 56 ∧ KC i cs cs' ∧ KR' i rs rs' ∧ kI cs' 357 9 = nI k' := fun cF g1 g2 g3 g4 g5 => ⟨cF, setI (setI r3 14 i 3) 16 i (nI (e - k)), e, 57, g5, hml 3 (by rw [if_neg good]), hke, hen, ⟨g1, by decide, g2, q3, by omega, fun q => by omega, fun q => by omega, fun _ q => by omega, fun q => by omega, fun _ => pk_us⟩, by decide, (((KC1.trans KC2).trans KC3).trans KC4).trans g3, (KR1.trans KR3).trans (KR'.s14.trans KR'.s16), g4⟩
        by_cases w : zlt d = 0
        · have bf : b' = false := by
            cases b'
            · rfl
            · exact absurd ⟨rfl, w⟩ good
          refine bad c4 ?_ (by rw [hc4]; exact p3) ⟨FX.refl c4, fun _ _ => ⟨rfl, rfl, rfl⟩⟩ k4 (by rw [hcl, if_pos w])
          rw [hc4]
          show kA c3 352 9 i = 57
          rw [e10, bf]; rfl
        · exact bad (sA c4 352 9 i 57) pk_us (by rw [hc4]; exact p3) KC.s352 k4 (by rw [hcl, if_neg w])
  · rw [if_neg z1] at hc hm
    obtain ⟨e, he⟩ := zBE_ex zwc f (n - k) n k (by omega) rfl
    have hke : k < e := by
      rcases Nat.lt_or_ge k e with q | q
      · exact q
      · have : e = k := by have := he.1; omega
        subst this
        rcases he.2.2.2 with y | y
        · omega
        · exact absurd (Or.inl z1) y
    have hen := he.2.1
    obtain ⟨c2, a1, F2, a3⟩ := sw_ok (F := F) (n := n) (p := k) (e := e) (i := i) hf F k c1 h1 k1 (Nat.le_refl _) he (by omega)
    have KC2 : KC i c1 c2 := KC.nx F2
    have h2 := h1.fx KC2.1
    have hB2 := h2.b
    obtain ⟨w, hw⟩ : ∃ w, w = zwn f k (e - k) := ⟨_, rfl⟩
    rw [← hw] at a1
    obtain ⟨c3, hc3⟩ : ∃ c, c = sB c2 354 9 i (lN w) := ⟨_, rfl⟩
    have KC3 : KC i c2 c3 := by rw [hc3]; exact KC.s354
    have h3 := h2.fx KC3.1
    have hB3 := h3.b
    have k3 : kI c3 357 9 = nI e := by rw [hc3]; exact a3
    have p3 : kA c3 353 9 i = nI k := by
      rw [hc3]
      show kA c2 353 9 i = nI k
      rw [congrFun (F2.a (by unfold nS; omega) 9) i]
      exact p1
    have hcl : ∀ κ : Nat, (if e - k ≤ 12 then c_X10_wordKind F c3 9 (lN w) else some 57) = some (nI κ) → c_X10_scanToken F (sA cs 353 9 i (nI k)) 9 (nI i) = some (sA c3 352 9 i (nI κ)) := fun κ hκ => by
      rw [hc]
      unfold c_X10_scanWord
      rw [gI_ok hB1.oT, ob_s, k1, show (0 : Int64) = lN (zwn f k (k - k)) by rw [Nat.sub_self]; rfl, a1]
      unfold c_X10_scanWord_b78 c_X10_scanWord_b111
      rw [gA_ok hB2.oT, hB2.p354, ob_s, wB_n hB2.e354 hB2.p354 (by rw [hB2.l354]; exact hi) (by rw [hB2.l354]; decide), ob_s, ← hc3, gA_ok hB3.oT, hB3.p352, ob_s, gI_ok hB3.oT, ob_s, k3, pk_sub (by omega)]
      by_cases y : e - k ≤ 12
      · rw [if_pos y] at hκ
        rw [if_pos (show nI (e - k) ≤ 12 from nI_le (b := 12) y (by decide)), ckE_ok hB3.oT, ob_s, hκ, ob_s, wA_n hB3.e352 hB3.p352 (by rw [hB3.l352]; exact hi) (by rw [hB3.l352]; decide), ob_s, ob_s]
      · rw [if_neg y] at hκ
        rw [if_neg (show ¬ nI (e - k) ≤ 12 from nI_ge (a := 12) (by omega) (by omega)), Option.some.inj hκ, wA_n hB3.e352 hB3.p352 (by rw [hB3.l352]; exact hi) (by rw [hB3.l352]; decide), ob_s, ob_s]
    have hml : ∀ s : Int32, s = (if e - k ≤ 12 then 1 else 3) → m_tokens_L9 F (u + 1) rs (nI n) (nI i) (nI k) = m_tokens_L9 F u (setI (setI r1 14 i s) 16 i (nI (e - k))) (nI n) (nI (i + 1)) (nI e) := fun s hs => by
      rw [hm, rw_ok hl hr' F k he (by omega), hs]
      unfold m_tokens_b116 m_tokens_b135 m_tokens_b514 m_tokens_b527
      rw [pk_sub (by omega)]
      by_cases y : e - k ≤ 12
      · rw [if_pos (show nI (e - k) ≤ 12 from nI_le (b := 12) y (by decide)), if_pos y, wrI_n hi (by decide), ob_s, wrI_n hi (by decide), ob_s, nI_1]
      · rw [if_neg (show ¬ nI (e - k) ≤ 12 from nI_ge (a := 12) (by omega) (by omega)), if_neg y, wrI_n hi (by decide), ob_s, wrI_n hi (by decide), ob_s, nI_1]
    by_cases y : e - k ≤ 12
    · have hwc : ∀ j, j < e - k → zwc (f (k + j)) := fun j hj => he.2.2.1 (k + j) (by omega) (by omega)
      have hw2 : w < 9223372036854775808 := by
        rw [hw]
        exact Nat.lt_trans (zwn_lt (e - k) (fun j hj => (cN_k (hf (k + j) (by omega)) (hwc j hj)).2.2)) (p37 (e - k) y)
      obtain ⟨κ, κ1, κ2, κ3, κ4⟩ := wk_ok (F := F) h3 hw2 F 0 (by omega) (fun i hi => by omega) (by omega)
      refine ⟨sA c3 352 9 i (nI κ), setI (setI r1 14 i 1) 16 i (nI (e - k)), e, κ, hcl κ (by rw [if_pos y]; exact κ1), hml 1 (by rw [if_pos y]), hke, hen, ⟨pk_us, by omega, p3, q1, by omega, fun _ => ⟨pk_us, e - k, by omega, y, by omega, pk_us, ?_, hwc, ?_, ?_⟩, fun q => by omega, fun q => by omega, fun q => by omega, fun q => by omega⟩, by omega, ((KC1.trans KC2).trans KC3).trans KC.s352, KR1.trans (KR'.s14.trans KR'.s16), k3⟩
      · rw [hc3]
        show vp_updL (kB c2 354 9) i (lN w) i = _
        rw [pk_uLs, hw]
      · rw [← hw]; exact κ3
      · rw [← hw]; exact κ4
    · exact ⟨sA c3 352 9 i (nI 57), setI (setI r1 14 i 3) 16 i (nI (e - k)), e, 57, hcl 57 (by rw [if_neg y]; rfl), hml 3 (by rw [if_neg y]), hke, hen, ⟨pk_us, by decide, p3, q1, by omega, fun q => by omega, fun q => by omega, fun _ q => by omega, fun q => by omega, fun _ => pk_us⟩, by decide, ((KC1.trans KC2).trans KC3).trans KC.s352, KR1.trans (KR'.s14.trans KR'.s16), k3⟩

/-! a text more: what stood stays -/
theorem STS.gw {ar B : Nat} {a b : CS} (h : STS ar B a) (em : ∀ y, (y, ar) ∈ kE a → (y, ar) ∈ kE b) (g8 : AT a b 288 ar) (g9 : AT a b 289 ar) (g0 : AT a b 290 ar) (g1 : AT a b 291 ar) : STS ar B b := by
  have s := h.st
  have st : STR ar (kL a 288 ar) b := ⟨em _ s.o, em _ s.e8, by rw [g8.p]; exact s.p8, by rw [g8.l], em _ s.e9, by rw [g9.p]; exact s.p9, by rw [g9.l]; exact s.l9, s.n2, fun i hi => by rw [g8.b, g9.a]; exact s.nb i hi⟩
  exact ⟨by rw [g8.l]; exact st, by rw [g8.l]; exact h.lo, by rw [g8.l]; exact h.hi, em _ h.e10, by rw [g0.p]; exact h.p10, em _ h.e11, by rw [g1.p]; exact h.p11, by rw [g1.l, g0.l]; exact h.l11, by rw [g0.l]; exact h.o8, by rw [g0.l]; exact h.oh⟩
theorem CCS.gw {M : Nat} {C : CCT} {a b : CS} (h : CCS M C a) (em : ∀ y, (y, 0) ∈ kE a → (y, 0) ∈ kE b) (g6 : AT a b 396 0) (g7 : AT a b 397 0) (c : kI b 398 0 = 0) : CCS 0 [] b := ⟨em _ h.o, em _ h.e6, by rw [g6.p]; exact h.p6, Nat.zero_le _, by rw [g6.l]; exact h.u6, em _ h.e7, by rw [g7.p]; exact h.p7, Nat.zero_le _, by rw [g7.l]; exact h.u7, c, fun t ht => absurd ht (Nat.not_lt_zero _)⟩
def q0F (x : Nat) : Prop := x = 385 ∨ x = 388 ∨ x = 398
def GRW (cs cs' : CS) : Prop := (∀ y j, (y, j) ≠ (387, 9) → (y, j) ∈ kE cs → (y, j) ∈ kE cs') ∧ (∀ x j, j < kK cs → x / 32 ≠ 11 → x / 32 ≠ 1 → ¬ (j = 0 ∧ q0F x) → AT cs cs' x j) ∧ (kB cs' 358 9 = kB cs 358 9) ∧ (Bas cs') ∧ (kK cs ≤ kK cs')
theorem GRW.em {cs cs' : CS} (h : GRW cs cs') : ∀ y j, (y, j) ≠ (387, 9) → (y, j) ∈ kE cs → (y, j) ∈ kE cs' := h.1
theorem GRW.at' {cs cs' : CS} (h : GRW cs cs') : ∀ x j, j < kK cs → x / 32 ≠ 11 → x / 32 ≠ 1 → ¬ (j = 0 ∧ q0F x) → AT cs cs' x j := h.2.1
theorem GRW.wb {cs cs' : CS} (h : GRW cs cs') : kB cs' 358 9 = kB cs 358 9 := h.2.2.1
theorem GRW.b {cs cs' : CS} (h : GRW cs cs') : Bas cs' := h.2.2.2.1
theorem GRW.kk {cs cs' : CS} (h : GRW cs cs') : kK cs ≤ kK cs' := h.2.2.2.2
theorem GRW.step {a b d : CS} (h : GRW a b) (k0 : 100 ≤ kK a) (em : EM b d) (at' : ∀ x j, j < kK a → x / 32 ≠ 1 → ¬ (j = 0 ∧ q0F x) → AT b d x j) (kk : kK b ≤ kK d) : GRW a d := by
  refine ⟨fun y j hp w => em _ (h.em y j hp w), fun x j h1 h2 h3 h4 => (h.at' x j h1 h2 h3 h4).trans (at' x j h1 h3 h4), ?_, h.b.mv em (fun x hx => (at' x 0 (by omega) (by omega) (by unfold q0F; omega)).r) (fun x j hx => ?_), Nat.le_trans h.kk kk⟩
  · rw [(at' 358 9 (by omega) (by omega) (by omega)).b]
    exact h.wb
  · have w := at' x j (by unfold PLB at hx; omega) (by unfold PLB at hx; omega) (by unfold PLB at hx; unfold q0F; omega)
    exact ⟨w.p, w.l⟩
/-- both, a text read -/
theorem SIM.grow {F i nst : Nat} {cs cs' : CS} {rs rs' : RS} (h : SIM F i cs rs) (g : GRW cs cs') (df : DFC cs') (k1 : kK cs' ≤ kK cs + 2700) (m1 : kM cs' ≤ kM cs + 31000) (t0 : kI cs' 385 0 = 0) (lf : kI cs' 388 0 = rs'.1 82) (r0 : ∀ q, (4 ≤ q ∧ q ≤ 13) ∨ (85 ≤ q ∧ q ≤ 109) → rs'.1 q = rs.1 q ∧ rs'.2.2.1 q = rs.2.2.1 q ∧ rs'.2.2.2 q = rs.2.2.2 q) (wm : rs'.2.1 = rs.2.1) (r1 : rs'.1 1 = 0) (st : ST nst cs rs) (s5 : ∀ d, nst ≤ d → d ≤ 9 → rs.2.2.1 5 d = 0) (tx : NOQ cs' rs' ∨ STY F nst cs' rs') : SIM F (i + 2) cs' rs' := by
  have k0 := h.k0
  have kk := g.kk
  have a0 : ∀ x j, j < 38 → (224 ≤ x ∧ x < 352) ∨ (384 ≤ x ∧ x < 400) → ¬ (j = 0 ∧ q0F x) → AT cs cs' x j := fun x j hj hx hq => g.at' x j (by omega) (by omega) (by omega) hq
  have sts : ∀ ar B, ar < 38 → ar ≠ 9 → STS ar B cs → STS ar B cs' := fun ar B h1 h2 w => w.gw (fun y hy => g.em y ar (fun e => h2 (Prod.mk.inj e).2) hy) (a0 288 ar h1 (by omega) (by unfold q0F; omega)) (a0 289 ar h1 (by omega) (by unfold q0F; omega)) (a0 290 ar h1 (by omega) (by unfold q0F; omega)) (a0 291 ar h1 (by omega) (by unfold q0F; omega))
  have nq : ∀ x, ¬ q0F x → ¬ ((0 : Nat) = 0 ∧ q0F x) := fun x hx w => hx w.2
  have n0 : ∀ j x, j ≠ 0 → ¬ (j = 0 ∧ q0F x) := fun j x hj w => hj w.1
  have l6 := (a0 396 0 (by omega) (by omega) (by unfold q0F; omega)).l
  have l7 := (a0 397 0 (by omega) (by omega) (by unfold q0F; omega)).l
  have pl : ∀ x ar, (x = 288 ∨ x = 290) → ar < 38 → kL cs' x ar = kL cs x ar := fun x ar hx har => (a0 x ar har (by omega) (by unfold q0F; omega)).l
  have pa : PTA 15 20 25 30 cs' = PTA 15 20 25 30 cs := by
    unfold PTA
    rw [pl 288 15 (by omega) (by omega), pl 290 15 (by omega) (by omega), pl 288 20 (by omega) (by omega), pl 290 20 (by omega) (by omega), pl 288 25 (by omega) (by omega), pl 290 25 (by omega) (by omega), pl 288 30 (by omega) (by omega), pl 290 30 (by omega) (by omega), l6]
  have pk : PTK 15 20 25 30 cs' = PTK 15 20 25 30 cs := by
    unfold PTK
    rw [pl 288 15 (by omega) (by omega), pl 290 15 (by omega) (by omega), pl 288 20 (by omega) (by omega), pl 290 20 (by omega) (by omega), pl 288 25 (by omega) (by omega), pl 290 25 (by omega) (by omega), pl 288 30 (by omega) (by omega), pl 290 30 (by omega) (by omega), l6]
  have hm := h.rm
  have hk := h.rk
  obtain ⟨d, dr⟩ := h.dr
  obtain ⟨so, no, q1, q2, q3, q4⟩ := h.x1
  refine ⟨g.b, df, by omega, fun j hj => by rw [g.wb]; exact h.wd j hj, ⟨0, t0, r1, by omega, fun k hk => absurd hk (Nat.not_lt_zero _), fun k hk => absurd hk (Nat.not_lt_zero _)⟩, ⟨d, dr.mv (fun x _ _ => a0 x 2 (by omega) (by omega) (by omega)) (fun q _ _ => r0 q (by omega))⟩, fun j => by rw [(r0 9 (by omega)).2.1]; exact h.f9 j, fun j => by rw [(r0 86 (by omega)).2.1]; exact h.fb j, by rw [(r0 97 (by omega)).1]; exact h.z97, lf, by rw [(a0 391 0 (by omega) (by omega) (by unfold q0F; omega)).r]; exact h.s1, by rw [(a0 392 0 (by omega) (by omega) (by unfold q0F; omega)).r]; exact h.s2, by rw [(a0 393 0 (by omega) (by omega) (by unfold q0F; omega)).r]; exact h.s3, by rw [(a0 394 0 (by omega) (by omega) (by unfold q0F; omega)).r]; exact h.s4, sts _ _ (by omega) (by omega) h.b1, sts _ _ (by omega) (by omega) h.b2, sts _ _ (by omega) (by omega) h.b3, sts _ _ (by omega) (by omega) h.b4, by rw [l6, l7]; exact h.le, by rw [l6]; exact h.l8, by rw [l6]; exact h.lu, by rw [pa]; omega, by rw [pk]; omega, h.ca.pn (fun y hy => g.em y 37 (fun e => absurd (Prod.mk.inj e).2 (by decide)) hy) (fun x hx => ?_), ⟨so, no, by rw [(r0 104 (by omega)).1]; exact q1, by rw [(r0 101 (by omega)).1]; exact q2, q3, fun j hj => by rw [(r0 106 (by omega)).2.1]; exact q4 j hj⟩, nst, st.mv (fun x _ _ => a0 x 2 (by omega) (by omega) (by omega)) wm (fun q _ _ => r0 q (by omega)), fun d d1 d2 => by rw [(r0 5 (by omega)).2.1]; exact s5 d d1 d2, tx⟩
  have w := g.at' x 37 (by omega) (by omega) (by omega) (by omega)
  exact ⟨w.p, w.l⟩
theorem KPN.gr {c k : Nat} {a b : CS} {rs rs' : RS} (g : GRW a b) (nb : (387, 9) ∉ kE a) (kc : k ≤ kK a) (r5 : ∀ d, rs.2.2.1 5 d ≠ 0 → rs'.2.2.1 5 d = rs.2.2.1 5 d) (fr : ∀ q, 18 ≤ q → q ≤ 80 → ¬ (19 ≤ q ∧ q ≤ 21) → rs'.1 q = rs.1 q ∧ rs'.2.2.1 q = rs.2.2.1 q ∧ rs'.2.2.2 q = rs.2.2.2 q) : KPN c k a rs b rs' := by
  refine ⟨fun p hp => g.em p.1 p.2 (fun e => nb (e ▸ hp)) hp, fun x j h1 h2 hx _ => g.at' x j (by omega) (by omega) (by omega) (by omega), fun x j hx h1 h2 => ?_, fun x j h1 h2 h3 => g.at' x j (by omega) (by omega) (by omega) (by unfold q0F; omega), r5, fr⟩
  have w := g.at' x j (by omega) (by omega) (by omega) (by omega)
  exact ⟨w.p, w.l⟩
/-! texts are copied -/
theorem nar_b2 : ∀ m, m < 256 → vp_nar .byte (nI m - 128) = nI m - 128 := by decide +kernel
theorem nar_z {c : Int32} (h : zisB c) : vp_nar .byte c = c := by
  obtain ⟨m, m1, m2⟩ := h
  rw [m2]
  exact nar_b2 m m1
def cp2 (k : Nat) : Prop := k = 2
def cp83 (k : Nat) : Prop := k = 83
def tl10 (F : Nat) (cs1 : RS) : Option (RS × Int32) := Option.bind (m_take F (setF (setF cs1 1 0) 110 0)) fun cs_12 => if ((setF cs_12 82 (cs_12.1 19)).1 21) = 0 then (if ((setF cs_12 82 (cs_12.1 19)).1 81) = 0 then (m_query_b117 F (setF cs_12 82 (cs_12.1 19)) ((setF cs_12 82 (cs_12.1 19)).1 20)) else (m_query_L87 F F (setF (setF cs_12 82 (cs_12.1 19)) 3 ((setF cs_12 82 (cs_12.1 19)).1 84)) ((setF cs_12 82 (cs_12.1 19)).1 20) 0)) else (m_query_L137 F F (setF (setF (setF cs_12 82 (cs_12.1 19)) 81 1) 84 ((setF (setF cs_12 82 (cs_12.1 19)) 81 1).1 3)) 0)
theorem copy_10 {F n : Nat} (hn : n ≤ 2000) : ∀ (d u w : Nat) (rs : RS), n - u ≤ d → d < w → u ≤ n → rs.1 1 = nI n → (∀ i, i < n → zisB (rs.2.2.1 0 i)) → (∀ i, i < u → rs.2.2.1 2 i = rs.2.2.1 0 i) → ∃ rs', m_query_L10 F w rs (nI u) = tl10 F rs' ∧ FR cp2 rs rs' ∧ ∀ i, i < n → rs'.2.2.1 2 i = rs.2.2.1 0 i := by
  intro d
  induction d with
  | zero =>
    intro u w rs h1 h2 h3 r1 zb hc
    obtain ⟨w, rfl⟩ : ∃ z, w = z + 1 := ⟨w - 1, by omega⟩
    have eu : u = n := by omega
    rw [eu] at hc ⊢
    refine ⟨rs, ?_, FR.refl rs, hc⟩
    rw [m_query_L10, r1, if_pos (nI_le (Nat.le_refl _) (by omega))]
    rfl
  | succ d ih =>
    intro u w rs h1 h2 h3 r1 zb hc
    obtain ⟨w, rfl⟩ : ∃ z, w = z + 1 := ⟨w - 1, by omega⟩
    by_cases eu : u = n
    · rw [eu] at hc ⊢
      refine ⟨rs, ?_, FR.refl rs, hc⟩
      rw [m_query_L10, r1, if_pos (nI_le (Nat.le_refl _) (by omega))]
      rfl
    · obtain ⟨rs', e1, e2, e3⟩ := ih (u + 1) w (setI rs 2 u (rs.2.2.1 0 u)) (by omega) (by omega) (by omega) r1 zb (fun i hi => by
        show upd (rs.2.2.1 2) u (rs.2.2.1 0 u) i = rs.2.2.1 0 i
        by_cases q : i = u
        · rw [q, pk_us]
        · rw [pk_un q]
          exact hc i (by omega))
      refine ⟨rs', ?_, (FR.setI (S := cp2) (show cp2 2 from rfl)).trans e2, e3⟩
      rw [m_query_L10, r1, if_neg (nI_ge (by omega) (by omega)), rdI_n (by omega) (by omega), ob_s, nar_z (zb u (by omega)), wrI_n (by omega) (by omega), ob_s, nI_1]
      exact e1
theorem copy_87 {F n : Nat} {v : Int32} (hn : n ≤ 2000) : ∀ (d u w : Nat) (rs : RS), n - u ≤ d → d < w → u ≤ n → rs.1 84 = nI n → (∀ i, i < n → zisB (rs.2.2.1 83 i)) → (∀ i, i < u → rs.2.2.1 2 i = rs.2.2.1 83 i) → ∃ rs', m_query_L87 F w rs v (nI u) = (Option.bind (m_take F rs') fun cs_2 => m_query_b117 F cs_2 v) ∧ FR cp2 rs rs' ∧ ∀ i, i < n → rs'.2.2.1 2 i = rs.2.2.1 83 i := by
  intro d
  induction d with
  | zero =>
    intro u w rs h1 h2 h3 r1 zb hc
    obtain ⟨w, rfl⟩ : ∃ z, w = z + 1 := ⟨w - 1, by omega⟩
    have eu : u = n := by omega
    rw [eu] at hc ⊢
    refine ⟨rs, ?_, FR.refl rs, hc⟩
    rw [m_query_L87, r1, if_pos (nI_le (Nat.le_refl _) (by omega))]
  | succ d ih =>
    intro u w rs h1 h2 h3 r1 zb hc
    obtain ⟨w, rfl⟩ : ∃ z, w = z + 1 := ⟨w - 1, by omega⟩
    by_cases eu : u = n
    · rw [eu] at hc ⊢
      refine ⟨rs, ?_, FR.refl rs, hc⟩
      rw [m_query_L87, r1, if_pos (nI_le (Nat.le_refl _) (by omega))]
    · obtain ⟨rs', e1, e2, e3⟩ := ih (u + 1) w (setI rs 2 u (rs.2.2.1 83 u)) (by omega) (by omega) (by omega) r1 zb (fun i hi => by
        show upd (rs.2.2.1 2) u (rs.2.2.1 83 u) i = rs.2.2.1 83 i
        by_cases q : i = u
        · rw [q, pk_us]
        · rw [pk_un q]
          exact hc i (by omega))
      refine ⟨rs', ?_, (FR.setI (S := cp2) (show cp2 2 from rfl)).trans e2, e3⟩
      rw [m_query_L87, r1, if_neg (nI_ge (by omega) (by omega)), rdI_n (by omega) (by omega), ob_s, nar_z (zb u (by omega)), wrI_n (by omega) (by omega), ob_s, nI_1]
      exact e1
def tl137 (F : Nat) (cs1 : RS) : Option (RS × Int32) := Option.bind (m_renew F cs1 0) fun cs_6 => Option.bind (rdI (cs_6.2.2.1 61) 300 0) fun v_7 => Option.bind (rdI (cs_6.2.2.1 36) 60 v_7) fun v_8 => some (cs_6, v_8)
theorem copy_137 {F n : Nat} (hn : n ≤ 2000) : ∀ (d u w : Nat) (rs : RS), n - u ≤ d → d < w → u ≤ n → rs.1 3 = nI n → (∀ i, i < n → zisB (rs.2.2.1 2 i)) → (∀ i, i < u → rs.2.2.1 83 i = rs.2.2.1 2 i) → ∃ rs', m_query_L137 F w rs (nI u) = tl137 F rs' ∧ FR cp83 rs rs' ∧ ∀ i, i < n → rs'.2.2.1 83 i = rs.2.2.1 2 i := by
  intro d
  induction d with
  | zero =>
    intro u w rs h1 h2 h3 r1 zb hc
    obtain ⟨w, rfl⟩ : ∃ z, w = z + 1 := ⟨w - 1, by omega⟩
    have eu : u = n := by omega
    rw [eu] at hc ⊢
    refine ⟨rs, ?_, FR.refl rs, hc⟩
    rw [m_query_L137, r1, if_pos (nI_le (Nat.le_refl _) (by omega))]
    rfl
  | succ d ih =>
    intro u w rs h1 h2 h3 r1 zb hc
    obtain ⟨w, rfl⟩ : ∃ z, w = z + 1 := ⟨w - 1, by omega⟩
    by_cases eu : u = n
    · rw [eu] at hc ⊢
      refine ⟨rs, ?_, FR.refl rs, hc⟩
      rw [m_query_L137, r1, if_pos (nI_le (Nat.le_refl _) (by omega))]
      rfl
    · obtain ⟨rs', e1, e2, e3⟩ := ih (u + 1) w (setI rs 83 u (rs.2.2.1 2 u)) (by omega) (by omega) (by omega) r1 zb (fun i hi => by
        show upd (rs.2.2.1 83) u (rs.2.2.1 2 u) i = rs.2.2.1 2 i
        by_cases q : i = u
        · rw [q, pk_us]
        · rw [pk_un q]
          exact hc i (by omega))
      refine ⟨rs', ?_, (FR.setI (S := cp83) (show cp83 83 from rfl)).trans e2, e3⟩
      rw [m_query_L137, r1, if_neg (nI_ge (by omega) (by omega)), rdI_n (by omega) (by omega), ob_s, nar_z (zb u (by omega)), wrI_n (by omega) (by omega), ob_s, nI_1]
      exact e1

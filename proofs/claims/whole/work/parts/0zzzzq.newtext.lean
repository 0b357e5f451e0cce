/-! a new Text -/
def NT (t c cap : Nat) (cs : CS) : Prop := ((10, t) ∈ kE cs) ∧ (kR cs 327 t = some 9) ∧ (kR cs 322 t = some c) ∧ ((2, c) ∈ kE cs) ∧ (CA c cap cs) ∧ (kI cs 64 c = 0) ∧ (∀ x, x / 32 = 10 → x ≠ 322 → x ≠ 323 → x ≠ 326 → x ≠ 327 → kI cs x t = 0) ∧ ((358, t) ∈ kE cs) ∧ (∃ j, kP cs 326 t = some j) ∧ (kL cs 326 t = 3)
theorem NT.o {t c cap : Nat} {cs : CS} (h : NT t c cap cs) : (10, t) ∈ kE cs := h.1
theorem NT.r327 {t c cap : Nat} {cs : CS} (h : NT t c cap cs) : kR cs 327 t = some 9 := h.2.1
theorem NT.r322 {t c cap : Nat} {cs : CS} (h : NT t c cap cs) : kR cs 322 t = some c := h.2.2.1
theorem NT.oc {t c cap : Nat} {cs : CS} (h : NT t c cap cs) : (2, c) ∈ kE cs := h.2.2.2.1
theorem NT.ca {t c cap : Nat} {cs : CS} (h : NT t c cap cs) : CA c cap cs := h.2.2.2.2.1
theorem NT.c64 {t c cap : Nat} {cs : CS} (h : NT t c cap cs) : kI cs 64 c = 0 := h.2.2.2.2.2.1
theorem NT.z {t c cap : Nat} {cs : CS} (h : NT t c cap cs) : ∀ x, x / 32 = 10 → x ≠ 322 → x ≠ 323 → x ≠ 326 → x ≠ 327 → kI cs x t = 0 := h.2.2.2.2.2.2.1
theorem NT.e326 {t c cap : Nat} {cs : CS} (h : NT t c cap cs) : (358, t) ∈ kE cs := h.2.2.2.2.2.2.2.1
theorem NT.p326 {t c cap : Nat} {cs : CS} (h : NT t c cap cs) : ∃ j, kP cs 326 t = some j := h.2.2.2.2.2.2.2.2.1
theorem NT.l326 {t c cap : Nat} {cs : CS} (h : NT t c cap cs) : kL cs 326 t = 3 := h.2.2.2.2.2.2.2.2.2
theorem new_text {F n : Nat} {cs : CS} (hb : KB cs) (hn : n ≤ 2000) : ∃ cs' cap, c_X9_init F (nO cs 10 12) (kK cs) 9 (nI n) = some cs' ∧ KB cs' ∧ GW (kK cs) cs cs' ∧ (cap = 120 ∨ (cap = n ∧ n ≤ 120)) ∧ kK cs' = kK cs + 30 ∧ kM cs' ≤ kM cs + 1500 ∧ NT (kK cs) (kK cs + 1) cap cs' := by
  obtain ⟨cap, hc1, hc2, hc3⟩ : ∃ cap, (cap = 120 ∨ (cap = n ∧ n ≤ 120)) ∧ (if nI n < 120 then nI n else 120) = nI cap ∧ cap ≤ 120 := by
    by_cases y : n < 120
    · exact ⟨n, Or.inr ⟨rfl, by omega⟩, if_pos (show nI n < nI 120 from nI_lt y (by decide)), by omega⟩
    · exact ⟨120, Or.inl rfl, if_neg (show ¬ nI n < nI 120 from nI_nlt (a := n) (b := 120) (by omega) (by omega)), by omega⟩
  have k0 : kK (nO cs 10 12) = kK cs + 1 ∧ kM (nO cs 10 12) = kM cs + 12 := ⟨rfl, rfl⟩
  have kb0 : KB (nO cs 10 12) := nO_kb hb
  have g0 : ∀ x j, j < kK cs → AT cs (nO cs 10 12) x j := fun x j h => AT.no1 h
  have z0 : ∀ x, x / 32 = 10 → kI (nO cs 10 12) x (kK cs) = 0 ∧ kJ (nO cs 10 12) x (kK cs) = 0 ∧ kR (nO cs 10 12) x (kK cs) = none ∧ kP (nO cs 10 12) x (kK cs) = none := fun x hx => nO_z hx
  have o0 : (10, kK cs) ∈ kE (nO cs 10 12) := nO_new
  have m0 : EM cs (nO cs 10 12) := nO_em
  obtain ⟨t, ht⟩ : ∃ x, x = kK cs := ⟨_, rfl⟩
  obtain ⟨c0, h0⟩ : ∃ x, x = nO cs 10 12 := ⟨_, rfl⟩
  rw [← h0, ← ht] at o0
  rw [← h0] at k0 kb0 m0 ⊢
  rw [← h0, ← ht] at z0 g0
  rw [← ht] at k0 ⊢
  have k1 : kK (sR c0 327 t (some 9)) = kK c0 ∧ kM (sR c0 327 t (some 9)) = kM c0 := ⟨rfl, rfl⟩
  have v1 : kR (sR c0 327 t (some 9)) 327 t = some 9 := u2_s
  have a1 : ∀ x j, ¬ (x = 327 ∧ j = t) → AT c0 (sR c0 327 t (some 9)) x j := fun x j h => AT.sR h
  have kb1 : KB (sR c0 327 t (some 9)) := kb0
  have o1 : (10, t) ∈ kE (sR c0 327 t (some 9)) := o0
  have m1 : EM c0 (sR c0 327 t (some 9)) := EM.refl
  have q1 : pR c0 10 327 t (some 9) = some (sR c0 327 t (some 9)) := pR_ok o0
  obtain ⟨c1, h1⟩ : ∃ x, x = sR c0 327 t (some 9) := ⟨_, rfl⟩
  rw [← h1] at k1 v1 a1 kb1 o1 m1 q1
  have k2 : kK (nO c1 2 13) = kK c1 + 1 ∧ kM (nO c1 2 13) = kM c1 + 13 := ⟨rfl, rfl⟩
  have kb2 : KB (nO c1 2 13) := nO_kb kb1
  have g2 : ∀ x j, j < kK c1 → AT c1 (nO c1 2 13) x j := fun x j h => AT.no1 h
  have z2 : ∀ x, x / 32 = 2 → kI (nO c1 2 13) x (kK c1) = 0 ∧ kJ (nO c1 2 13) x (kK c1) = 0 ∧ kR (nO c1 2 13) x (kK c1) = none ∧ kP (nO c1 2 13) x (kK c1) = none := fun x hx => nO_z hx
  have o2 : (2, kK c1) ∈ kE (nO c1 2 13) := nO_new
  have m2 : EM c1 (nO c1 2 13) := nO_em
  have q2 : nwO c1 2 13 = some (nO c1 2 13) := nwO_ok kb1
  obtain ⟨c2, h2⟩ : ∃ x, x = nO c1 2 13 := ⟨_, rfl⟩
  have ec : kK c1 = t + 1 := by omega
  rw [← h2] at k2 kb2 g2 z2 o2 m2 q2
  rw [ec] at g2 z2 o2
  obtain ⟨c3, q3, kb3, m3, k3a, k3b, a3, ca3⟩ := new_code (F := F) o2 kb2 hc3
  have k4 : kK (sR c3 322 t (some (t + 1))) = kK c3 ∧ kM (sR c3 322 t (some (t + 1))) = kM c3 := ⟨rfl, rfl⟩
  have v4 : kR (sR c3 322 t (some (t + 1))) 322 t = some (t + 1) := u2_s
  have a4 : ∀ x j, ¬ (x = 322 ∧ j = t) → AT c3 (sR c3 322 t (some (t + 1))) x j := fun x j h => AT.sR h
  have kb4 : KB (sR c3 322 t (some (t + 1))) := kb3
  have o3 : (10, t) ∈ kE c3 := m3 _ (m2 _ o1)
  have m4 : EM c3 (sR c3 322 t (some (t + 1))) := EM.refl
  have q4 : pR c3 10 322 t (some (t + 1)) = some (sR c3 322 t (some (t + 1))) := pR_ok o3
  obtain ⟨c4, h4⟩ : ∃ x, x = sR c3 322 t (some (t + 1)) := ⟨_, rfl⟩
  rw [← h4] at k4 v4 a4 kb4 m4 q4
  have o4 : (10, t) ∈ kE c4 := m4 _ o3
  have lt4 : t < kK c4 := kb4 _ o4
  have q5 : nwA c4 10 326 t 3 = some (nA c4 326 t 3 (fun _ => 0) (fun _ => 0)) := nwA_ok o4 rfl (by decide)
  have e5 := nA_is (cs := c4) (t := 326) (i := t) (n := 3) (f := fun _ => 0) (g := fun _ => 0)
  have w5 := nA_new (cs := c4) (t := 326) (i := t) (n := 3) (f := fun _ => 0) (g := fun _ => 0)
  have a5 : ∀ x j, ¬ (x = 326 ∧ j = t) → AT c4 (nA c4 326 t 3 (fun _ => 0) (fun _ => 0)) x j := fun x j h => AT.nA h
  have m5 : EM c4 (nA c4 326 t 3 (fun _ => 0) (fun _ => 0)) := nA_em
  have kb5 : KB (nA c4 326 t 3 (fun _ => 0) (fun _ => 0)) := nA_kb kb4 lt4
  have k5 : kK (nA c4 326 t 3 (fun _ => 0) (fun _ => 0)) = kK c4 + 1 ∧ kM (nA c4 326 t 3 (fun _ => 0) (fun _ => 0)) = kM c4 + 3 := ⟨rfl, rfl⟩
  obtain ⟨c5, h5⟩ : ∃ x, x = nA c4 326 t 3 (fun _ => 0) (fun _ => 0) := ⟨_, rfl⟩
  rw [← h5] at q5 e5 w5 a5 m5 kb5 k5
  have k6 : kK (nO c5 4 6) = kK c5 + 1 ∧ kM (nO c5 4 6) = kM c5 + 6 := ⟨rfl, rfl⟩
  have kb6 : KB (nO c5 4 6) := nO_kb kb5
  have g6 : ∀ x j, j < kK c5 → AT c5 (nO c5 4 6) x j := fun x j h => AT.no1 h
  have o6 : (4, kK c5) ∈ kE (nO c5 4 6) := nO_new
  have m6 : EM c5 (nO c5 4 6) := nO_em
  have q6 : nwO c5 4 6 = some (nO c5 4 6) := nwO_ok kb5
  obtain ⟨c6, h6⟩ : ∃ x, x = nO c5 4 6 := ⟨_, rfl⟩
  rw [← h6] at k6 kb6 g6 o6 m6 q6
  obtain ⟨c7, it, gr, q7, kb7, gw7, -, -, k7a, k7b, ns7⟩ := new_select (F := F) kb6
  have q7' : nwO c6 6 15 = some (nO c6 6 15) := nwO_ok kb6
  obtain ⟨c8, q8, kb8, m8, k8a, k8b, -, -, -, -, -, -, -, -, a8⟩ := new_query (F := F) (gw7.1 _ o6) ns7.e kb7
  have o8 : (10, t) ∈ kE c8 := m8 _ (gw7.1 _ (m6 _ (m5 _ o4)))
  have q9 : pR c8 10 323 t (some (kK c5)) = some (sR c8 323 t (some (kK c5))) := pR_ok o8
  have u8 : ∀ x j, j < kK c5 → AT c5 c8 x j := fun x j h => ((g6 x j h).trans (gw7.2.2 x j (by omega))).trans (a8 x j (by omega) (by omega))
  have u9 : ∀ x j, j < kK c5 → ¬ (x = 323 ∧ j = t) → AT c5 (sR c8 323 t (some (kK c5))) x j := fun x j h h' => (u8 x j h).trans (AT.sR h')
  have em9 : EM c5 (sR c8 323 t (some (kK c5))) := (m6.trans gw7.1).trans m8
  have b5 : ∀ x j, j < t → AT cs c5 x j := fun x j h => (((((g0 x j h).trans (a1 x j (by omega))).trans (g2 x j (by omega))).trans (a3 x j (by omega))).trans (a4 x j (by omega))).trans (a5 x j (by omega))
  have t5 : ∀ x, x / 32 = 10 → x ≠ 322 → x ≠ 326 → AT c1 c5 x t := fun x hx n1 n2 => ((g2 x t (by omega)).trans (a3 x t (by omega))).trans ((a4 x t (by omega)).trans (a5 x t (by omega)))
  have d5 : ∀ x, AT c3 c5 x (t + 1) := fun x => (a4 x (t + 1) (by omega)).trans (a5 x (t + 1) (by omega))
  have em35 : EM c3 c5 := m4.trans m5
  refine ⟨sR c8 323 t (some (kK c5)), cap, ?_, kb8, ⟨(m0.trans (m1.trans (m2.trans m3))).trans (em35.trans em9), ?_, fun x j h => (b5 x j (by omega)).trans (u9 x j (by omega) (by omega))⟩, hc1, ?_, ?_, ?_⟩
  · unfold c_X9_init c_X9_init_b13 c_X9_init_b23 c_X9_init_b34 c_X9_init_b38 c_X9_init_b42 c_X9_init_b46 c_X9_init_b49
    rw [q1, ob_s, q2, ob_s, ec, hc2, q3, ob_s, q4, ob_s, q5, ob_s, q6, ob_s, q7', ob_s, q7, ob_s, q8, ob_s, q9, ob_s]
  · show kK cs ≤ kK c8
    omega
  · show kK c8 = _
    omega
  · show kM c8 ≤ _
    omega
  · have tl : t < kK c5 := by omega
    have cl : t + 1 < kK c5 := by omega
    have uc : ∀ x, AT c3 (sR c8 323 t (some (kK c5))) x (t + 1) := fun x => (d5 x).trans (u9 x _ cl (by omega))
    have emc : EM c3 (sR c8 323 t (some (kK c5))) := em35.trans em9
    refine ⟨em9 _ (m5 _ o4), ?_, ?_, emc _ (m3 _ o2), ⟨emc _ ca3.e65, ?_, ?_, emc _ ca3.e66, ?_, ?_, emc _ ca3.e67, ?_, ?_, emc _ ca3.e68, ?_, ?_, emc _ ca3.e69, ?_, ?_, emc _ ca3.e70, ?_, ?_, emc _ ca3.e71, ?_, ?_, emc _ ca3.e72, ?_, ?_, emc _ ca3.e73, ?_, ?_, emc _ ca3.e74, ?_, ?_, emc _ ca3.e75, ?_, ?_⟩, ?_, ?_, em9 _ w5, ?_, ?_⟩
    · rw [((t5 327 (by decide) (by decide) (by decide)).trans (u9 327 t tl (by omega))).r]; exact v1
    · rw [((a5 322 t (by omega)).trans (u9 322 t tl (by omega))).r]; exact v4
    · rw [(uc 65).p]; exact ca3.p65
    · rw [(uc 65).l]; exact ca3.l65
    · rw [(uc 66).p]; exact ca3.p66
    · rw [(uc 66).l]; exact ca3.l66
    · rw [(uc 67).p]; exact ca3.p67
    · rw [(uc 67).l]; exact ca3.l67
    · rw [(uc 68).p]; exact ca3.p68
    · rw [(uc 68).l]; exact ca3.l68
    · rw [(uc 69).p]; exact ca3.p69
    · rw [(uc 69).l]; exact ca3.l69
    · rw [(uc 70).p]; exact ca3.p70
    · rw [(uc 70).l]; exact ca3.l70
    · rw [(uc 71).p]; exact ca3.p71
    · rw [(uc 71).l]; exact ca3.l71
    · rw [(uc 72).p]; exact ca3.p72
    · rw [(uc 72).l]; exact ca3.l72
    · rw [(uc 73).p]; exact ca3.p73
    · rw [(uc 73).l]; exact ca3.l73
    · rw [(uc 74).p]; exact ca3.p74
    · rw [(uc 74).l]; exact ca3.l74
    · rw [(uc 75).p]; exact ca3.p75
    · rw [(uc 75).l]; exact ca3.l75
    · rw [((a3 64 (t + 1) (by omega)).trans (uc 64)).i]; exact (z2 64 (by decide)).1
    · intro x hx y1 y2 y3 y4
      rw [(((a1 x t (by omega)).trans ((g2 x t (by omega)).trans (a3 x t (by omega)))).trans ((a4 x t (by omega)).trans ((a5 x t (by omega)).trans (u9 x t tl (by omega))))).i]
      exact (z0 x hx).1
    · rw [(u9 326 t tl (by omega)).p]; exact ⟨_, e5.1⟩
    · rw [(u9 326 t tl (by omega)).l]; exact e5.2.1

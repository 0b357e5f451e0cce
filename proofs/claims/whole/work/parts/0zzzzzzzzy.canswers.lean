/-! the class renews its answer, behind the run -/
theorem RWS.at' {ar p w : Nat} {rows : LL} {a b : CS} (h : RWS ar p w rows a) (g8 : AT a b 288 ar) (g9 : AT a b 289 ar) : RWS ar p w rows b := h.mv (Nat.le_of_eq g8.l.symm) (fun i _ _ => sv.at' g8 g9)
theorem CCS.at' {M : Nat} {C : CCT} {a b : CS} (h : CCS M C a) (em : EM a b) (g6 : AT a b 396 0) (g7 : AT a b 397 0) (g8 : AT a b 398 0) : CCS M C b := ⟨em _ h.o, em _ h.e6, by rw [g6.p]; exact h.p6, by rw [g6.l]; exact h.l6, by rw [g6.l]; exact h.u6, em _ h.e7, by rw [g7.p]; exact h.p7, by rw [g7.l]; exact h.l7, by rw [g7.l]; exact h.u7, by rw [g8.i]; exact h.c, fun t ht => by rw [g6.a, g7.a]; exact h.r t ht⟩
theorem CCS.stf {M c ar m : Nat} {C : CCT} {a b : CS} (h : CCS M C a) (f : STF c ar m a b) : CCS M C b := h.at' f.em (f.fr 396 0 (by omega) (by omega)) (f.fr 397 0 (by omega) (by omega)) (f.fr 398 0 (by omega) (by omega))
/-- what a renewed answer is, in the class -/
def ANS (w a2 a3 a4 B : Nat) (tb : Bool) (S0 R : LL) (cs : CS) : Prop := (kI cs 395 0 = nI R.length) ∧ (STS a2 B cs) ∧ (STS a3 B cs) ∧ (STS a4 B cs) ∧ (RWS a2 0 w R cs) ∧ (RWS a3 0 w (srtK kO R) cs) ∧ (RWS a4 0 w S0 cs) ∧ (∃ M D1 D2, CCS M (D1 ++ D2) cs ∧ ((D1 ++ D2).length ≤ M ∧ M ≤ S0.length + R.length) ∧ (tb = false → D1 = [] ∧ D2 = []) ∧ (tb = true → D1.map (fun z => (S0.getD z.1 [], z.2)) = (chP S0 (srtK kO R)).map (fun z => (z.1, (-1) * nI z.2)) ∧ (∀ z, z ∈ D1 → z.1 < S0.length) ∧ D2.map (fun z => ((srtK kO R).getD z.1 [], z.2)) = (chP (srtK kO R) S0).map (fun z => (z.1, 1 * nI z.2)) ∧ (∀ z, z ∈ D2 → z.1 < R.length))) ∧ (kL cs 397 0 = kL cs 396 0) ∧ (8 ≤ kL cs 396 0) ∧ (kL cs 396 0 ≤ 2400)
theorem ANS.c5 {w a2 a3 a4 B : Nat} {tb : Bool} {S0 R : LL} {cs : CS} (h : ANS w a2 a3 a4 B tb S0 R cs) : kI cs 395 0 = nI R.length := h.1
theorem ANS.b2 {w a2 a3 a4 B : Nat} {tb : Bool} {S0 R : LL} {cs : CS} (h : ANS w a2 a3 a4 B tb S0 R cs) : STS a2 B cs := h.2.1
theorem ANS.b3 {w a2 a3 a4 B : Nat} {tb : Bool} {S0 R : LL} {cs : CS} (h : ANS w a2 a3 a4 B tb S0 R cs) : STS a3 B cs := h.2.2.1
theorem ANS.b4 {w a2 a3 a4 B : Nat} {tb : Bool} {S0 R : LL} {cs : CS} (h : ANS w a2 a3 a4 B tb S0 R cs) : STS a4 B cs := h.2.2.2.1
theorem ANS.r2 {w a2 a3 a4 B : Nat} {tb : Bool} {S0 R : LL} {cs : CS} (h : ANS w a2 a3 a4 B tb S0 R cs) : RWS a2 0 w R cs := h.2.2.2.2.1
theorem ANS.r3 {w a2 a3 a4 B : Nat} {tb : Bool} {S0 R : LL} {cs : CS} (h : ANS w a2 a3 a4 B tb S0 R cs) : RWS a3 0 w (srtK kO R) cs := h.2.2.2.2.2.1
theorem ANS.r4 {w a2 a3 a4 B : Nat} {tb : Bool} {S0 R : LL} {cs : CS} (h : ANS w a2 a3 a4 B tb S0 R cs) : RWS a4 0 w S0 cs := h.2.2.2.2.2.2.1
theorem ANS.ch {w a2 a3 a4 B : Nat} {tb : Bool} {S0 R : LL} {cs : CS} (h : ANS w a2 a3 a4 B tb S0 R cs) : ∃ M D1 D2, CCS M (D1 ++ D2) cs ∧ ((D1 ++ D2).length ≤ M ∧ M ≤ S0.length + R.length) ∧ (tb = false → D1 = [] ∧ D2 = []) ∧ (tb = true → D1.map (fun z => (S0.getD z.1 [], z.2)) = (chP S0 (srtK kO R)).map (fun z => (z.1, (-1) * nI z.2)) ∧ (∀ z, z ∈ D1 → z.1 < S0.length) ∧ D2.map (fun z => ((srtK kO R).getD z.1 [], z.2)) = (chP (srtK kO R) S0).map (fun z => (z.1, 1 * nI z.2)) ∧ (∀ z, z ∈ D2 → z.1 < R.length)) := h.2.2.2.2.2.2.2.1
theorem ANS.le {w a2 a3 a4 B : Nat} {tb : Bool} {S0 R : LL} {cs : CS} (h : ANS w a2 a3 a4 B tb S0 R cs) : kL cs 397 0 = kL cs 396 0 := h.2.2.2.2.2.2.2.2.1
theorem ANS.l8 {w a2 a3 a4 B : Nat} {tb : Bool} {S0 R : LL} {cs : CS} (h : ANS w a2 a3 a4 B tb S0 R cs) : 8 ≤ kL cs 396 0 := h.2.2.2.2.2.2.2.2.2.1
theorem ANS.lu {w a2 a3 a4 B : Nat} {tb : Bool} {S0 R : LL} {cs : CS} (h : ANS w a2 a3 a4 B tb S0 R cs) : kL cs 396 0 ≤ 2400 := h.2.2.2.2.2.2.2.2.2.2
/-- the room that four strips and the changes have taken -/
def PTA (a1 a2 a3 a4 : Nat) (cs : CS) : Nat := 4 * (kL cs 288 a1 + kL cs 290 a1) + 4 * (kL cs 288 a2 + kL cs 290 a2) + 4 * (kL cs 288 a3 + kL cs 290 a3) + 4 * (kL cs 288 a4 + kL cs 290 a4) + 4 * kL cs 396 0
def PTK (a1 a2 a3 a4 : Nat) (cs : CS) : Nat := (kL cs 288 a1 + 16 * kL cs 290 a1) + (kL cs 288 a2 + 16 * kL cs 290 a2) + (kL cs 288 a3 + 16 * kL cs 290 a3) + (kL cs 288 a4 + 16 * kL cs 290 a4) + 16 * kL cs 396 0
def RMF (a1 a2 a3 a4 : Nat) (a b : CS) : Prop := kM b + PTA a1 a2 a3 a4 a ≤ kM a + PTA a1 a2 a3 a4 b ∧ 16 * kK b + PTK a1 a2 a3 a4 a ≤ 16 * kK a + PTK a1 a2 a3 a4 b
theorem RMF.trans {a1 a2 a3 a4 : Nat} {a b d : CS} (h : RMF a1 a2 a3 a4 a b) (g : RMF a1 a2 a3 a4 b d) : RMF a1 a2 a3 a4 a d := by
  unfold RMF at h g ⊢
  omega
theorem RMF.same {a1 a2 a3 a4 : Nat} {a b : CS} (h1 : b.1 = a.1) (h2 : ∀ x j, kL b x j = kL a x j) : RMF a1 a2 a3 a4 a b := by
  have k1 : kK b = kK a := congrArg (fun z => z.1) h1
  have k2 : kM b = kM a := congrArg (fun z => z.2.1) h1
  unfold RMF PTA PTK
  simp only [h2, k1, k2]
  omega
theorem STF.rm {c ar m a1 a2 a3 a4 : Nat} {a b : CS} (h : STF c ar m a b) (ne : a1 ≠ a2 ∧ a1 ≠ a3 ∧ a1 ≠ a4 ∧ a2 ≠ a3 ∧ a2 ≠ a4 ∧ a3 ≠ a4) (hin : ar = a1 ∨ ar = a2 ∨ ar = a3 ∨ ar = a4) : RMF a1 a2 a3 a4 a b := by
  have km := h.km
  have kk := h.kk
  have l6 := (h.pl 396 0 (by omega)).2
  have q : ∀ j, j ≠ ar → kL b 288 j = kL a 288 j ∧ kL b 290 j = kL a 290 j := fun j hj => ⟨(h.pl 288 j (by omega)).2, (h.pl 290 j (by omega)).2⟩
  unfold RMF PTA PTK
  rcases hin with e | e | e | e
  · rw [e] at km kk q
    have q2 := q a2 (by omega)
    have q3 := q a3 (by omega)
    have q4 := q a4 (by omega)
    omega
  · rw [e] at km kk q
    have q2 := q a1 (by omega)
    have q3 := q a3 (by omega)
    have q4 := q a4 (by omega)
    omega
  · rw [e] at km kk q
    have q2 := q a1 (by omega)
    have q3 := q a2 (by omega)
    have q4 := q a4 (by omega)
    omega
  · rw [e] at km kk q
    have q2 := q a1 (by omega)
    have q3 := q a2 (by omega)
    have q4 := q a3 (by omega)
    omega
theorem ans_2 {F t r q il w a1 a2 a3 a4 B B1 c : Nat} {tb : Bool} {S0 R : LL} {c1 : CS} (hF : 10000 ≤ F) (h : ANX t r q il w a1 a2 a3 a4 c1) (ne : a1 ≠ a2 ∧ a1 ≠ a3 ∧ a1 ≠ a4 ∧ a2 ≠ a3 ∧ a2 ≠ a4 ∧ a3 ≠ a4) (b2 : STS a2 B c1) (b3 : STS a3 B c1) (b4 : STS a4 B c1) (hB : B ≤ 400000) (hw : w ≤ 8) (run : CRO c a1 B1 0 w R c1 (c_X4_runQuery F 300 c1 r q 0)) (hR : R.length ≤ 600) (hb : R.length * w + R.length * w ≤ B) (hS : RWS a4 0 w S0 c1) (s6 : S0.length ≤ 600) (so : SRT kO S0) (cc : CCS 0 [] c1) (le : kL c1 397 0 = kL c1 396 0) (l8 : 8 ≤ kL c1 396 0) (lu : kL c1 396 0 ≤ 2400) : ∃ c9, c_X11_answer_b57 F c1 0 (if tb = true then 1 else 0) (nI w) (nI S0.length) = some c9 ∧ ANS w a2 a3 a4 B tb S0 R c9 ∧ STS a1 B1 c9 ∧ GFR c1 c9 ∧ RMF a1 a2 a3 a4 c1 c9 := by
  have ne' := ne
  obtain ⟨n12, n13, n14, n23, n24, n34⟩ := ne
  obtain ⟨c2, e2, t2, r2, f2⟩ := run
  have d2 := b2.of f2 (by omega)
  have d3 := b3.of f2 (by omega)
  have d4 := b4.of f2 (by omega)
  have hS2 := hS.of' f2 (by omega)
  have x2 := h.gf f2.gf
  have cc2 := cc.stf f2
  obtain ⟨c3, hc3⟩ : ∃ z, z = sI c2 395 0 (nI R.length) := ⟨_, rfl⟩
  have g3 : ∀ x j, ¬ (x = 395 ∧ j = 0) → AT c2 c3 x j := fun x j hx => by rw [hc3]; exact AT.sI hx
  have em3 : EM c2 c3 := by rw [hc3]; exact EM.of rfl
  have up : ∀ {ar Bx : Nat}, STS ar Bx c2 → STS ar Bx c3 := fun {ar Bx} z => z.at' em3 (g3 288 ar (by omega)) (g3 289 ar (by omega)) (g3 290 ar (by omega)) (g3 291 ar (by omega))
  have upr : ∀ {ar : Nat} {rows : LL}, RWS ar 0 w rows c2 → RWS ar 0 w rows c3 := fun {ar rows} z => z.at' (g3 288 ar (by omega)) (g3 289 ar (by omega))
  have x3 := x2.gf (⟨em3, fun x j _ _ q3 => g3 x j (by omega)⟩ : GFR c2 c3)
  have k3 : kI c3 395 0 = nI R.length := by rw [hc3]; exact kI_s
  have cc3 := cc2.at' em3 (g3 396 0 (by omega)) (g3 397 0 (by omega)) (g3 398 0 (by omega))
  have bR := (upr r2).bd
  rw [Nat.zero_add] at bR
  obtain ⟨c4, e4, t4, l4, v4, f4'⟩ := take_ok (F := F) (n := R.length * w) (up d2) (up t2).st (by omega) hB (by omega) bR
  have f4 := f4' c
  have q2 := take_rows (upr r2) rfl l4 v4
  have x4 := x3.gf f4.gf
  have k4 : kI c4 395 0 = nI R.length := by rw [(f4.fr 395 0 (by omega) (by omega)).i]; exact k3
  have u1 := (up t2).of f4 n12
  have u3 := (up d3).of f4 (by omega)
  have u4 := (up d4).of f4 (by omega)
  have r14 := (upr r2).of' f4 n12
  have hS4 := (upr hS2).of' f4 (by omega)
  have cc4 := cc3.stf f4
  have bR4 := r14.bd
  rw [Nat.zero_add] at bR4
  obtain ⟨c5, e5, t5, l5, v5, f5'⟩ := take_ok (F := F) (n := R.length * w) u3 u1.st n13 hB (by omega) bR4
  have f5 := f5' c
  have q3 := take_rows r14 rfl l5 v5
  have x5 := x4.gf f5.gf
  have k5 : kI c5 395 0 = nI R.length := by rw [(f5.fr 395 0 (by omega) (by omega)).i]; exact k4
  obtain ⟨c6, e6, t6, r6, f6'⟩ := sort_ok (F := F) (down := 0) hF hB (by omega) hR (by omega) t5 q3
  have f6 := f6' c 0 (Nat.le_refl _)
  have e6' : c_X8_sort F c5 a3 0 (nI R.length) (nI w) 0 = some c6 := e6
  rw [kd_0] at r6
  have x6 := x5.gf f6.gf
  have k6 : kI c6 395 0 = nI R.length := by rw [(f6.fr 395 0 (by omega) (by omega)).i]; exact k5
  have w1 := (u1.of f5 n13).of f6 n13
  have w2 := (t4.of f5 n23).of f6 n23
  have w4 := (u4.of f5 (by omega)).of f6 (by omega)
  have v2 := (q2.of' f5 n23).of' f6 n23
  have hS6 := (hS4.of' f5 (by omega)).of' f6 (by omega)
  have cc6 := (cc4.stf f5).stf f6
  have gf6 : GFR c1 c6 := (((f2.gf.trans ⟨em3, fun x j _ _ q3 => g3 x j (by omega)⟩).trans f4.gf).trans f5.gf).trans f6.gf
  have rm6 : RMF a1 a2 a3 a4 c1 c6 := (((f2.rm ne' (Or.inl rfl)).trans (RMF.same (by rw [hc3]; rfl) (fun x j => by rw [hc3]; rfl))).trans (f4.rm ne' (Or.inr (Or.inl rfl)))).trans ((f5.rm ne' (Or.inr (Or.inr (Or.inl rfl)))).trans (f6.rm ne' (Or.inr (Or.inr (Or.inl rfl)))))
  have ln6 : ∀ x, 396 ≤ x ∧ x ≤ 397 → kL c6 x 0 = kL c1 x 0 := fun x hx => by
    rw [(f6.fr x 0 (by omega) (by omega)).l, (f5.fr x 0 (by omega) (by omega)).l, (f4.fr x 0 (by omega) (by omega)).l, (g3 x 0 (by omega)).l, (f2.fr x 0 (by omega) (by omega)).l]
  have m6 := ln6 396 (by omega)
  have m7 := ln6 397 (by omega)
  have ls : (srtK kO R).length = R.length := (srt_perm R).length_eq
  have pre : c_X11_answer_b57 F c1 0 (if tb = true then 1 else 0) (nI w) (nI S0.length) = c_X11_answer_b125 F c6 0 (if tb = true then 1 else 0) (nI S0.length) := by
    unfold c_X11_answer_b57 c_X11_answer_b74 c_X11_answer_b94 c_X11_answer_b111
    rw [gR_ok h.o, ob_s, gR_ok h.o, ob_s, h.st, ob_s, gR_ok h.ot, ob_s, h.tp, ob_s, h.rn, ob_s, ckE_ok h.or', ob_s, e2, ob_s]
    show (Option.bind (pI c2 12 395 0 (nI R.length)) fun cs_31 => Option.bind (gR cs_31 12 392 0) fun v_32 => Option.bind (gR cs_31 12 391 0) fun v_33 => Option.bind (gI cs_31 12 395 0) fun v_34 => Option.bind (v_33) fun i_35 => Option.bind (v_32) fun i_37 => Option.bind (ckE cs_31 9 i_37) fun _ => Option.bind (c_X8_take F cs_31 i_37 i_35 (v_34 * nI w)) fun cs_36 => Option.bind (gR cs_36 12 393 0) fun v_24 => Option.bind (gR cs_36 12 391 0) fun v_25 => Option.bind (gI cs_36 12 395 0) fun v_26 => Option.bind (v_25) fun i_27 => Option.bind (v_24) fun i_29 => Option.bind (ckE cs_36 9 i_29) fun _ => Option.bind (c_X8_take F cs_36 i_29 i_27 (v_26 * nI w)) fun cs_28 => Option.bind (gR cs_28 12 393 0) fun v_19 => Option.bind (gI cs_28 12 395 0) fun v_20 => Option.bind (v_19) fun i_22 => Option.bind (ckE cs_28 9 i_22) fun _ => Option.bind (c_X8_sort F cs_28 i_22 0 v_20 (nI w) 0) fun cs_21 => c_X11_answer_b125 F cs_21 0 (if tb = true then 1 else 0) (nI S0.length)) = _
    rw [pI_ok x2.o, ob_s, ← hc3, gR_ok x3.o, ob_s, gR_ok x3.o, ob_s, gI_ok x3.o, ob_s, x3.s1, ob_s, x3.s2, ob_s, ckE_ok (up d2).st.o, ob_s, k3, pk_mul, e4, ob_s, gR_ok x4.o, ob_s, gR_ok x4.o, ob_s, gI_ok x4.o, ob_s, x4.s1, ob_s, x4.s3, ob_s, ckE_ok u3.st.o, ob_s, k4, pk_mul, e5, ob_s, gR_ok x5.o, ob_s, gI_ok x5.o, ob_s, x5.s3, ob_s, ckE_ok t5.st.o, ob_s, k5, e6', ob_s]
  rw [pre]
  unfold c_X11_answer_b125 c_X11_answer_b175
  by_cases z : tb = true
  · rw [if_pos z, if_neg (show ¬ (1 : Int32) = 0 by decide), gI_ok x6.o, ob_s, k6, ckE_ok x6.o, ob_s, nI_add]
    obtain ⟨c7, e7, y1, y2, y3, y4, y5, y6, y7, y8⟩ := room_ok (F := F) (m := S0.length + R.length) cc6 (by omega) (by omega) (by omega) (by omega)
    have p7 : ∀ {ar Bx : Nat}, STS ar Bx c6 → STS ar Bx c7 := fun {ar Bx} s => s.at' y5 (y6 288 ar (by omega)) (y6 289 ar (by omega)) (y6 290 ar (by omega)) (y6 291 ar (by omega))
    have pr7 : ∀ {ar : Nat} {rows : LL}, RWS ar 0 w rows c6 → RWS ar 0 w rows c7 := fun {ar rows} s => s.at' (y6 288 ar (by omega)) (y6 289 ar (by omega))
    have rm7 : RMF a1 a2 a3 a4 c6 c7 := by
      have q : ∀ j, kL c7 288 j = kL c6 288 j ∧ kL c7 290 j = kL c6 290 j := fun j => ⟨(y6 288 j (by omega)).l, (y6 290 j (by omega)).l⟩
      have q1 := q a1
      have q2 := q a2
      have q3 := q a3
      have q4 := q a4
      unfold RMF PTA PTK
      omega
    have gf7 : GFR c6 c7 := ⟨y5, fun x j _ _ q3 => y6 x j (by omega)⟩
    have x7 := x6.gf gf7
    have k7 : kI c7 395 0 = nI R.length := by rw [(y6 395 0 (by omega)).i]; exact k6
    rw [e7, ob_s]
    obtain ⟨D1, c8, e8, f8, h8, i1, i2⟩ := tells_ok (F := F) (C0 := []) (sg := -1) hF (by omega) x7.wd so (srt_srt R) s6 (by rw [ls]; exact hR) (by rw [List.length_nil]; omega) (p7 w4).st (p7 t6).st (pr7 hS6) (pr7 r6) y1
    rw [List.nil_append] at h8
    have x8 := x7.gf f8.gf
    have k8 : kI c8 395 0 = nI R.length := by rw [(f8.at' 395 0 (by omega)).i]; exact k7
    have d1l : D1.length ≤ S0.length := by
      have e := congrArg List.length i1
      rw [List.length_map, List.length_map] at e
      rw [e]
      exact chP_len
    obtain ⟨D2, c9, e9, f9, h9, i3, i4⟩ := tells_ok (F := F) (C0 := D1) (sg := 1) hF (by omega) x8.wd (srt_srt R) so (by rw [ls]; exact hR) s6 (by rw [ls]; omega) (f8.str (p7 t6).st) (f8.str (p7 w4).st) (f8.rws (pr7 r6)) (f8.rws (pr7 hS6)) h8
    have d2l : D2.length ≤ R.length := by
      have e := congrArg List.length i3
      rw [List.length_map, List.length_map] at e
      rw [e, ← ls]
      exact chP_len
    rw [ls] at e8 e9 i4
    have p9 : ∀ {ar Bx : Nat}, STS ar Bx c6 → STS ar Bx c9 := fun {ar Bx} s => (p7 s).at' (f8.em.trans f9.em) ((f8.at' 288 ar (by omega)).trans (f9.at' 288 ar (by omega))) ((f8.at' 289 ar (by omega)).trans (f9.at' 289 ar (by omega))) ((f8.at' 290 ar (by omega)).trans (f9.at' 290 ar (by omega))) ((f8.at' 291 ar (by omega)).trans (f9.at' 291 ar (by omega)))
    have pr9 : ∀ {ar : Nat} {rows : LL}, RWS ar 0 w rows c6 → RWS ar 0 w rows c9 := fun {ar rows} s => f9.rws (f8.rws (pr7 s))
    have l9 : ∀ x, kL c9 x 0 = kL c7 x 0 := fun x => by rw [(f9.pl x 0).2, (f8.pl x 0).2]
    have l96 := l9 396
    have l97 := l9 397
    refine ⟨c9, ?_, ⟨by rw [(f9.at' 395 0 (by omega)).i]; exact k8, p9 w2, p9 t6, p9 w4, pr9 v2, pr9 r6, pr9 hS6, ⟨_, D1, D2, h9, ⟨by rw [List.length_append]; omega, Nat.le_refl _⟩, fun w => absurd z (by rw [w]; decide), fun _ => ⟨i1, i2, i3, i4⟩⟩, by omega, by omega, by omega⟩, p9 w1, ((gf6.trans gf7).trans f8.gf).trans f9.gf, (rm6.trans rm7).trans ((RMF.same f8.e1 (fun x j => (f8.pl x j).2)).trans (RMF.same f9.e1 (fun x j => (f9.pl x j).2)))⟩
    unfold c_X11_answer_b139 c_X11_answer_b175
    rw [gR_ok x7.o, ob_s, gR_ok x7.o, ob_s, gI_ok x7.o, ob_s, x7.s3, ob_s, x7.s4, ob_s, ckE_ok x7.o, ob_s, k7, e8, ob_s, gR_ok x8.o, ob_s, gI_ok x8.o, ob_s, gR_ok x8.o, ob_s, x8.s4, ob_s, x8.s3, ob_s, ckE_ok x8.o, ob_s, k8, e9, ob_s]
  · have zf : tb = false := by
      cases tb with
      | false => rfl
      | true => exact absurd rfl z
    rw [if_neg z, if_pos rfl]
    exact ⟨c6, rfl, ⟨k6, w2, t6, w4, v2, r6, hS6, ⟨0, [], [], cc6, ⟨Nat.le_refl _, Nat.zero_le _⟩, fun _ => ⟨rfl, rfl⟩, fun w => absurd w z⟩, by omega, by omega, by omega⟩, w1, gf6, rm6⟩

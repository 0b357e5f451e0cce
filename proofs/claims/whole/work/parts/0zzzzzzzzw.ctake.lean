/-! the class keeps an answer; room for changes -/
theorem take_ok {F ar br B m n : Nat} {cs : CS} (h : STS ar B cs) (g : STR br m cs) (hne : br ≠ ar) (hB : B ≤ 400000) (hn : n ≤ B) (hl : n ≤ m) : ∃ cs', c_X8_take F cs ar br (nI n) = some cs' ∧ STS ar B cs' ∧ n ≤ kL cs' 288 ar ∧ (∀ k, k < n → sv cs' ar k = sv cs br k) ∧ ∀ c, STF c ar 0 cs cs' := by
  obtain ⟨c1, e1, s1, l1, v1, a1, f1⟩ := reserve_ok (F := F) h hB hn
  have fr := f1 ar 0
  have b8 : AT cs c1 288 br := fr.fr 288 br (by omega) (by omega)
  have b9 : AT cs c1 289 br := fr.fr 289 br (by omega) (by omega)
  have g1 : STR br m c1 := g.at' fr.em b8 b9
  have hi1 := s1.hi
  have n2 := s1.st.n2
  have m2 := g1.n2
  have l9 := s1.st.l9
  have k8 := g1.l8
  have k9 := g1.l9
  obtain ⟨j8, h8⟩ := s1.st.p8
  obtain ⟨j9, h9⟩ := s1.st.p9
  obtain ⟨i8, q8⟩ := g1.p8
  obtain ⟨i9, q9⟩ := g1.p9
  have top : c_X8_take F cs ar br (nI n) = c_X8_take_b5 F c1 ar br (nI n) := by
    unfold c_X8_take
    rw [ckE_ok h.st.o, ob_s, e1, ob_s]
  rw [top]
  by_cases z : n = 0
  · unfold c_X8_take_b5 c_X8_take_b57
    rw [z, if_pos (show nI 0 ≤ 0 by decide)]
    exact ⟨c1, rfl, s1, by omega, fun k hk => absurd hk (by omega), fun c => f1 c 0⟩
  · obtain ⟨c2, hc2⟩ : ∃ z, z = xB c1 288 ar (va_cpy (kB c1 288 br) (kB c1 288 ar) 0 0 n) := ⟨_, rfl⟩
    obtain ⟨c3, hc3⟩ : ∃ z, z = xA c2 289 ar (va_cpy (kA c2 289 br) (kA c2 289 ar) 0 0 n) := ⟨_, rfl⟩
    have o2 : (9, ar) ∈ kE c2 := by rw [hc2]; exact s1.st.o
    have o2b : (9, br) ∈ kE c2 := by rw [hc2]; exact g1.o
    have e9 : (321, ar) ∈ kE c2 := by rw [hc2]; exact s1.st.e9
    have e9b : (321, br) ∈ kE c2 := by rw [hc2]; exact g1.e9
    have p9 : kP c2 289 ar = some j9 := by rw [hc2]; exact h9
    have p9b : kP c2 289 br = some i9 := by rw [hc2]; exact q9
    have l92 : kL c2 289 ar = kL c1 288 ar := by rw [hc2]; exact l9
    have l92b : kL c2 289 br = m := by rw [hc2]; exact k9
    have hf : ∀ x, x < n → fits .byte (.int (kA c2 289 br (0 + x))) = true := fun x hx => by
      rw [hc2]
      show fits .byte (.int (kA c1 289 br (0 + x))) = true
      refine fit01 ?_
      rcases g1.nb (0 + x) (by omega) with q | ⟨q, -⟩
      · exact Or.inl q
      · exact Or.inr q
    have cpb := cpB_n (cs := c1) (t1 := 288) (i1 := br) (t2 := 288) (i2 := ar) (sp := 0) (dp := 0) (n := n) g1.e8 q8 s1.st.e8 h8 (by omega) (by omega) (by omega) (by omega)
    have cpa := cpA_n (cs := c2) (t1 := 289) (i1 := br) (t2 := 289) (i2 := ar) (sp := 0) (dp := 0) (n := n) e9b p9b e9 p9 (by omega) (by omega) (by omega) (by omega) hf
    have cpb' : cpB c1 288 br i8 0 288 ar j8 0 (nI n) = _ := cpb
    have cpa' : cpA c2 289 br i9 0 289 ar j9 0 (nI n) = _ := cpa
    have run : c_X8_take_b5 F c1 ar br (nI n) = some c3 := by
      unfold c_X8_take_b5 c_X8_take_b57
      rw [if_neg (nI_nle (by omega) (by omega)), ckE_ok s1.st.o, ob_s, nI_p1 (by omega), holds_y s1.st (by omega), ob_s, if_neg (show ¬ (1 : Int32) = 0 by decide), ckE_ok g1.o, ob_s, holds_y g1 (by omega), ob_s, if_neg (show ¬ (1 : Int32) = 0 by decide), gA_ok g1.o, q8, ob_s, gA_ok s1.st.o, h8, ob_s, cpb', ob_s, ← hc2, gA_ok o2b, p9b, ob_s, gA_ok o2, p9, ob_s, cpa', ob_s, ← hc3]
    have e3 : c3.1 = c1.1 := by rw [hc3, hc2]; rfl
    have g3 : ∀ x j, ¬ (j = ar ∧ (x = 288 ∨ x = 289)) → AT c1 c3 x j := fun x j hx => by
      rw [hc3, hc2]
      exact ⟨rfl, rfl, rfl, rfl, u2_n (by omega), u2_n (by omega), rfl, rfl⟩
    have pl3 : ∀ x j, kP c3 x j = kP c1 x j ∧ kL c3 x j = kL c1 x j := fun x j => by rw [hc3, hc2]; exact ⟨rfl, rfl⟩
    have kb : ∀ k, kB c3 288 ar k = if k < n then kB c1 288 br k else kB c1 288 ar k := fun k => by
      rw [hc3]
      show kB c2 288 ar k = _
      rw [hc2]
      show u2 (kB c1) 288 ar (va_cpy (kB c1 288 br) (kB c1 288 ar) 0 0 n) 288 ar k = _
      rw [u2_s]
      unfold va_cpy
      by_cases q : k < n
      · rw [if_pos ⟨Nat.zero_le _, by omega⟩, if_pos q, show 0 + (k - 0) = k by omega]
      · rw [if_neg (by omega), if_neg q]
    have ka : ∀ k, kA c3 289 ar k = if k < n then kA c1 289 br k else kA c1 289 ar k := fun k => by
      rw [hc3]
      show u2 (kA c2) 289 ar (va_cpy (kA c2 289 br) (kA c2 289 ar) 0 0 n) 289 ar k = _
      rw [u2_s, hc2]
      show va_cpy (kA c1 289 br) (kA c1 289 ar) 0 0 n k = _
      unfold va_cpy
      by_cases q : k < n
      · rw [if_pos ⟨Nat.zero_le _, by omega⟩, if_pos q, show 0 + (k - 0) = k by omega]
      · rw [if_neg (by omega), if_neg q]
    have nb : ∀ k, k < kL c1 288 ar → kA c3 289 ar k = 0 ∨ (kA c3 289 ar k = 1 ∧ kB c3 288 ar k = 0) := fun k hk => by
      rw [ka, kb]
      by_cases q : k < n
      · rw [if_pos q, if_pos q]
        exact g1.nb _ (by omega)
      · rw [if_neg q, if_neg q]
        exact s1.st.nb k hk
    refine ⟨c3, run, s1.ch e3 g3 pl3 nb, by rw [(pl3 288 ar).2]; omega, fun k hk => ?_, fun c => (f1 c 0).trans (STF.ch e3 g3 pl3 (fun k k1 _ => absurd k1 (by omega))) (Nat.le_refl _)⟩
    rw [← sv.at' (i := k) b8 b9]
    unfold sv
    rw [(pl3 288 ar).2, if_pos (show k < kL c1 288 ar by omega), k8, if_pos (show k < m by omega), ka, if_pos hk, kb, if_pos hk]
theorem nA_l' {cs : CS} {t i n : Nat} {f : Nat → Int32} {g : Nat → Int64} : kL (nA cs t i n f g) t i = n := u2_s
theorem nA_p' {cs : CS} {t i n : Nat} {f : Nat → Int32} {g : Nat → Int64} : kP (nA cs t i n f g) t i = some (kK cs) := u2_s
/-- room for m changes -/
theorem room_ok {F m : Nat} {cs : CS} (h : CCS 0 [] cs) (eq : kL cs 397 0 = kL cs 396 0) (h8 : 8 ≤ kL cs 396 0) (hm : m ≤ 1200) (hu : kL cs 396 0 ≤ 2400) : ∃ cs', c_X11_makeRoomForChanges F cs 0 (nI m) = some cs' ∧ CCS m [] cs' ∧ kL cs' 397 0 = kL cs' 396 0 ∧ kL cs 396 0 ≤ kL cs' 396 0 ∧ kL cs' 396 0 ≤ 2400 ∧ EM cs cs' ∧ (∀ x j, ¬ (j = 0 ∧ (x = 396 ∨ x = 397)) → AT cs cs' x j) ∧ kM cs' + 4 * kL cs 396 0 ≤ kM cs + 4 * kL cs' 396 0 ∧ kK cs' + kL cs 396 0 ≤ kK cs + kL cs' 396 0 := by
  obtain ⟨j6, h6⟩ := h.p6
  obtain ⟨j7, h7⟩ := h.p7
  unfold c_X11_makeRoomForChanges
  rw [gA_ok h.o, h6, ob_s, lnA_n h.e6 h6, ob_s]
  by_cases q : kL cs 396 0 < m
  · rw [if_pos (nI_lt q (by omega))]
    unfold c_X11_makeRoomForChanges_b18 c_X11_makeRoomForChanges_b27 c_X11_makeRoomForChanges_b36
    rw [nI_2, nwA_n h.o (by omega), ob_s]
    obtain ⟨c1, hc1⟩ : ∃ z, z = nA cs 396 0 (2 * m) (fun _ => 0) (fun _ => 0) := ⟨_, rfl⟩
    rw [← hc1]
    have em1 : EM cs c1 := by rw [hc1]; exact nA_em
    have at1 : ∀ x j, ¬ (x = 396 ∧ j = 0) → AT cs c1 x j := fun x j hx => by rw [hc1]; exact AT.nA hx
    rw [nwA_n (em1 _ h.o) (by omega), ob_s]
    obtain ⟨c2, hc2⟩ : ∃ z, z = nA c1 397 0 (2 * m) (fun _ => 0) (fun _ => 0) := ⟨_, rfl⟩
    rw [← hc2]
    have em2 : EM c1 c2 := by rw [hc2]; exact nA_em
    have at2 : ∀ x j, ¬ (x = 397 ∧ j = 0) → AT c1 c2 x j := fun x j hx => by rw [hc2]; exact AT.nA hx
    have att : ∀ x j, ¬ (j = 0 ∧ (x = 396 ∨ x = 397)) → AT cs c2 x j := fun x j hx => (at1 x j (by omega)).trans (at2 x j (by omega))
    have b0 := at2 396 0 (by omega)
    have l0 : kL c2 396 0 = 2 * m := by rw [b0.l, hc1]; exact nA_l'
    have l1 : kL c2 397 0 = 2 * m := by rw [hc2]; exact nA_l'
    have p0 : ∃ j, kP c2 396 0 = some j := ⟨kK cs, by rw [b0.p, hc1]; exact nA_p'⟩
    have p1 : ∃ j, kP c2 397 0 = some j := ⟨kK c1, by rw [hc2]; exact nA_p'⟩
    have em := em1.trans em2
    have k1 : kK c2 = kK cs + 1 + 1 := by rw [hc2, hc1]; rfl
    have k2 : kM c2 = kM cs + 2 * m + 2 * m := by rw [hc2, hc1]; rfl
    exact ⟨c2, rfl, ⟨em _ h.o, em _ h.e6, p0, by omega, by omega, em _ h.e7, p1, by omega, by omega, by rw [(att 398 0 (by omega)).i]; exact h.c, fun t ht => absurd ht (by rw [List.length_nil]; omega)⟩, by omega, by omega, by omega, em, att, by omega, by omega⟩
  · rw [if_neg (nI_nlt (by omega) (by omega)), gA_ok h.o, h7, ob_s, lnA_n h.e7 h7, ob_s, if_pos (nI_le (by omega) (by omega))]
    exact ⟨cs, rfl, ⟨h.o, h.e6, h.p6, by omega, by omega, h.e7, h.p7, by omega, by omega, h.c, h.r⟩, eq, Nat.le_refl _, hu, EM.refl, fun _ _ _ => AT.refl, Nat.le_refl _, Nat.le_refl _⟩
/-- all rows of one answer told against another -/
theorem tells_ok {F M w n1 n2 ar1 ar2 : Nat} {A E : LL} {C0 : CCT} {sg : Int32} {cs : CS} (hF : 10000 ≤ F) (hw : w ≤ 100) (wd : c_X11_width F cs 0 = some (nI w)) (sa : SRT kO A) (se : SRT kO E) (a6 : A.length ≤ 600) (e6 : E.length ≤ 600) (hM : C0.length + A.length ≤ M) (s1 : STR ar1 n1 cs) (s2 : STR ar2 n2 cs) (hA : RWS ar1 0 w A cs) (hE : RWS ar2 0 w E cs) (ch : CCS M C0 cs) : ∃ D cs', c_X11_tellChanges F cs 0 ar1 (nI A.length) ar2 (nI E.length) sg = some cs' ∧ TCF cs cs' ∧ CCS M (C0 ++ D) cs' ∧ D.map (fun z => (A.getD z.1 [], z.2)) = (chP A E).map (fun z => (z.1, sg * nI z.2)) ∧ (∀ z, z ∈ D → z.1 < A.length) := by
  obtain ⟨D, cs', g1, g2, g3, g4⟩ := tel_L (F := F) (M := M) (w := w) (ar1 := ar1) (ar2 := ar2) (C0 := C0) (sg := sg) hF hw sa se a6 e6 hM A.length 0 0 F [] cs (by omega) (by omega) (by omega) (by omega) (fun y z hy _ => by rw [List.take_zero] at hy; cases hy) (fun y z hy _ => by rw [List.take_zero] at hy; cases hy) s1 s2 hA hE (by rw [List.append_nil]; exact ch) ⟨rfl, fun z hz => by cases hz⟩ (by rw [List.length_nil]; exact Nat.le_refl _)
  refine ⟨D, cs', ?_, g2, g3, ?_, g4.2⟩
  · unfold c_X11_tellChanges
    rw [ckE_ok ch.o, ob_s, wd, ob_s]
    exact g1
  · have e := g4.1
    rw [List.take_of_length_le (Nat.le_refl _)] at e
    exact e

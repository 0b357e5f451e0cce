/-! the tokens of a text, both -/
theorem Bas.by' {a b : CS} (h : Bas a) (he : ∀ p : Nat × Nat, p ≠ (387, 9) → p ∈ kE a → p ∈ kE b) (g : ∀ x i, i ≤ 37 → ¬ (x = 355 ∨ x = 356 ∨ x = 357 ∨ x = 382) → AT a b x i) : Bas b := ⟨he _ (by decide) h.o, he _ (by decide) h.e384, by rw [(g 384 0 (by decide) (by decide)).p]; exact h.p384, by rw [(g 384 0 (by decide) (by decide)).l]; exact h.l384, by rw [(g 386 0 (by decide) (by decide)).r]; exact h.rS, he _ (by decide) h.oS, he _ (by decide) h.e258, by rw [(g 258 2 (by decide) (by decide)).p]; exact h.p258, by rw [(g 258 2 (by decide) (by decide)).l]; exact h.l258, he _ (by decide) h.e259, by rw [(g 259 2 (by decide) (by decide)).p]; exact h.p259, by rw [(g 259 2 (by decide) (by decide)).l]; exact h.l259, he _ (by decide) h.e260, by rw [(g 260 2 (by decide) (by decide)).p]; exact h.p260, by rw [(g 260 2 (by decide) (by decide)).l]; exact h.l260, he _ (by decide) h.e261, by rw [(g 261 2 (by decide) (by decide)).p]; exact h.p261, by rw [(g 261 2 (by decide) (by decide)).l]; exact h.l261, he _ (by decide) h.e262, by rw [(g 262 2 (by decide) (by decide)).p]; exact h.p262, by rw [(g 262 2 (by decide) (by decide)).l]; exact h.l262, he _ (by decide) h.e263, by rw [(g 263 2 (by decide) (by decide)).p]; exact h.p263, by rw [(g 263 2 (by decide) (by decide)).l]; exact h.l263, by rw [(g 387 0 (by decide) (by decide)).r]; exact h.rT, he _ (by decide) h.oT, he _ (by decide) h.e352, by rw [(g 352 9 (by decide) (by decide)).p]; exact h.p352, by rw [(g 352 9 (by decide) (by decide)).l]; exact h.l352, he _ (by decide) h.e353, by rw [(g 353 9 (by decide) (by decide)).p]; exact h.p353, by rw [(g 353 9 (by decide) (by decide)).l]; exact h.l353, he _ (by decide) h.e354, by rw [(g 354 9 (by decide) (by decide)).p]; exact h.p354, by rw [(g 354 9 (by decide) (by decide)).l]; exact h.l354, he _ (by decide) h.e358, by rw [(g 358 9 (by decide) (by decide)).p]; exact h.p358, by rw [(g 358 9 (by decide) (by decide)).l]; exact h.l358, by rw [(g 399 0 (by decide) (by decide)).r]; exact h.rC, he _ (by decide) h.oC, he _ (by decide) h.e74, by rw [(g 74 37 (by decide) (by decide)).p]; exact h.p74, by rw [(g 74 37 (by decide) (by decide)).l]; exact h.l74, he _ (by decide) h.e75, by rw [(g 75 37 (by decide) (by decide)).p]; exact h.p75, by rw [(g 75 37 (by decide) (by decide)).l]; exact h.l75⟩
theorem sBy_E {cs : CS} {i x j : Nat} {p : Nat × Nat} : p ∈ kE (sBy cs i x j) ↔ p ∈ kE cs ∧ p ≠ (387, i) := by
  show p ∈ (kE cs).filter (fun q => !(q == (387, i))) ↔ _
  rw [List.mem_filter]
  constructor
  · intro h
    exact ⟨h.1, fun w => by have := h.2; rw [w] at this; simp at this⟩
  · intro h
    exact ⟨h.1, by
      have := h.2
      simp [this]⟩
theorem sim_scan {F n : Nat} {f : Nat → Int32} {cs : CS} {rs : RS} (hF : 10000 ≤ F) (b : Bas cs) (kb : KB cs) (w : ∀ j, j < 39 → kB cs 358 9 j = lN (tn j)) (hn : n ≤ 2000) (hf : ∀ k, k < n → zisB (f k)) (hA : ∀ k, k < n → kA cs 384 0 k = f k) (hR : ∀ k, k < n → rs.2.2.1 2 k = f k) (r3 : rs.1 3 = nI n) : ∃ cs' rs' M, c_X10_scan F cs 9 0 1 (nI n) = some cs' ∧ m_tokens F rs = some rs' ∧ TX n f M cs' rs' ∧ Bas cs' ∧ KB cs' ∧ kK cs' = kK cs ∧ kM cs' = kM cs ∧ (∀ p : Nat × Nat, p ≠ (387, 9) → p ∈ kE cs → p ∈ kE cs') ∧ (∀ x j, x / 32 ≠ 11 → AT cs cs' x j) ∧ kB cs' 358 9 = kB cs 358 9 ∧ FR tkR rs rs' := by
  have he1 : ∀ p : Nat × Nat, p ≠ (387, 9) → p ∈ kE cs → p ∈ kE (sBy cs 9 0 1) := fun p h1 h2 => sBy_E.mpr ⟨h2, h1⟩
  have a1 : ∀ x j, ¬ ((x = 355 ∨ x = 382) ∧ j = 9) → AT cs (sBy cs 9 0 1) x j := fun x j h => ⟨rfl, rfl, u2_n (by omega), u2_n (by omega), rfl, rfl, rfl, rfl⟩
  have kb1 : KB (sBy cs 9 0 1) := fun p hp => kb p (sBy_E.mp hp).1
  have v1 : kR (sBy cs 9 0 1) 382 9 = some 0 := by
    show u2 cs.2.2.2.1 382 9 (some 0) 382 9 = some 0
    exact u2_s
  have v2 : kP (sBy cs 9 0 1) 355 9 = some 1 := by
    show u2 cs.2.2.2.2.1 355 9 (some 1) 355 9 = some 1
    exact u2_s
  have k1 : kK (sBy cs 9 0 1) = kK cs ∧ kM (sBy cs 9 0 1) = kM cs := ⟨rfl, rfl⟩
  have q1 : pBy cs 9 0 1 = some (sBy cs 9 0 1) := if_pos ⟨b.oT, b.p384⟩
  have b1 : Bas (sBy cs 9 0 1) := b.by' he1 (fun x i _ hx => a1 x i (by omega))
  obtain ⟨c1, hc1⟩ : ∃ x, x = sBy cs 9 0 1 := ⟨_, rfl⟩
  rw [← hc1] at he1 a1 kb1 v1 v2 k1 q1 b1
  have q2 : lnA c1 384 0 1 = some (nI 2000) := by rw [lnA_n b1.e384 b1.p384, b1.l384]
  have q3 : (if nI 2000 < nI n then nI 2000 else nI n) = nI n := if_neg (nI_nlt (a := 2000) (b := n) (by omega) (by decide))
  have a2 : ∀ x j, ¬ ((x = 356 ∨ x = 357) ∧ j = 9) → AT c1 (sI (sI c1 356 9 (nI n)) 357 9 0) x j := fun x j h => (AT.sI (by omega)).trans (AT.sI (by omega))
  have b2 : Bas (sI (sI c1 356 9 (nI n)) 357 9 0) := b1.by' (fun p _ h => h) (fun x i _ hx => a2 x i (by omega))
  have t2 : TW n f (sI (sI c1 356 9 (nI n)) 357 9 0) := by
    refine ⟨b2, v1, v2, (kI_n (by omega)).trans kI_s, hn, fun k hk => ?_, fun j hj => ?_⟩
    · show kA c1 384 0 k = f k
      rw [(a1 384 0 (by omega)).a]
      exact hA k hk
    · show kB c1 358 9 j = _
      rw [(a1 358 9 (by omega)).b]
      exact w j hj
  obtain ⟨cs', rs', M, e1, e2, e3, e4, e5, e6⟩ := scan_all (F := F) hF hf n 0 0 F F (sI (sI c1 356 9 (nI n)) 357 9 0) rs (by omega) (by omega) (by omega) (by omega) (by omega) t2 kI_s hR
  obtain ⟨x1, x2, x3, x4, x5, x6⟩ := e4.1
  have a3 : ∀ x j, ¬ kS x → AT (sI (sI c1 356 9 (nI n)) 357 9 0) cs' x j := fun x j h => ⟨congrFun (x6 x h).1 j, congrFun (x6 x h).2.1 j, by rw [x2], by rw [x3], congrFun (x6 x h).2.2.1 j, congrFun (x6 x h).2.2.2 j, by rw [x4], by rw [x5]⟩
  have em3 : ∀ p, p ∈ kE c1 → p ∈ kE cs' := fun p h => by
    rw [show kE cs' = kE c1 from congrArg (fun z => z.2.2) x1]
    exact h
  refine ⟨cs', rs', M, ?_, ?_, ⟨hn, e3.2.1, fun k hk => by rw [(e5.1.2 2 (by unfold tkR; omega)).2.1]; exact hR k hk, hf, fun j hj => e3.2.2 j (Nat.zero_le _) hj, fun a b h1 h2 => e6.lt hn a b (Nat.zero_le _) h1 h2⟩, ?_, ?_, ?_, ?_, fun p h1 h2 => em3 p (he1 p h1 h2), fun x j hx => ((a1 x j (by omega)).trans (a2 x j (by omega))).trans (a3 x j (by unfold kS; omega)), ?_, e5.1⟩
  · unfold c_X10_scan
    rw [q1, ob_s, q2, ob_s, q3, pI_ok b1.oT, ob_s, pI_ok (show (11, 9) ∈ kE (sI c1 356 9 (nI n)) from b1.oT), ob_s]
    exact e1
  · unfold m_tokens
    rw [r3]
    exact e2
  · exact b2.fx e4.1
  · intro p hp
    rw [show kK cs' = kK c1 from congrArg (fun z => z.1) x1]
    rw [show kE cs' = kE c1 from congrArg (fun z => z.2.2) x1] at hp
    exact kb1 p hp
  · rw [show kK cs' = kK c1 from congrArg (fun z => z.1) x1]
    exact k1.1
  · rw [show kM cs' = kM c1 from congrArg (fun z => z.2.1) x1]
    exact k1.2
  · rw [(a3 358 9 (by unfold kS; omega)).b]
    show kB c1 358 9 = _
    rw [(a1 358 9 (by omega)).b]

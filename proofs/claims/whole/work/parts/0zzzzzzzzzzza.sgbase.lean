/-! other streams under the class -/
theorem bd_s {α β : Type} {x : Option α} {v : α} {f : α → Option β} (e : x = some v) : Option.bind x f = f v := by
  rw [e]
  rfl
/-- n9 streams whose columns are a9 -/
def sgX (n9 : Int32) (a9 : Nat → Int32) (cs : CS) : CS := (cs.1, u2 cs.2.1 256 2 n9, cs.2.2.1, cs.2.2.2.1, cs.2.2.2.2.1, u2 cs.2.2.2.2.2.1 258 2 a9, cs.2.2.2.2.2.2.1, cs.2.2.2.2.2.2.2.1, cs.2.2.2.2.2.2.2.2)
theorem sg_E {n9 : Int32} {a9 : Nat → Int32} {cs : CS} : kE (sgX n9 a9 cs) = kE cs := rfl
theorem sg_I {n9 : Int32} {a9 : Nat → Int32} {cs : CS} {x i : Nat} (h : x ≠ 256) : kI (sgX n9 a9 cs) x i = kI cs x i := u2_n (fun w => h w.1)
theorem sg_A {n9 : Int32} {a9 : Nat → Int32} {cs : CS} {x i : Nat} (h : x ≠ 258) : kA (sgX n9 a9 cs) x i = kA cs x i := u2_n (fun w => h w.1)
theorem sg_256 {n9 : Int32} {a9 : Nat → Int32} {cs : CS} : kI (sgX n9 a9 cs) 256 2 = n9 := by
  show u2 cs.2.1 256 2 n9 256 2 = n9
  exact u2_s
theorem sg_258 {n9 : Int32} {a9 : Nat → Int32} {cs : CS} : kA (sgX n9 a9 cs) 258 2 = a9 := by
  show u2 cs.2.2.2.2.2.1 258 2 a9 258 2 = a9
  exact u2_s
theorem sg_Ij {n9 : Int32} {a9 : Nat → Int32} {cs : CS} {x i : Nat} (h : i ≠ 2) : kI (sgX n9 a9 cs) x i = kI cs x i := by
  show u2 cs.2.1 256 2 n9 x i = cs.2.1 x i
  exact u2_n (fun w => h w.2)
theorem sg_Aj {n9 : Int32} {a9 : Nat → Int32} {cs : CS} {x i : Nat} (h : i ≠ 2) : kA (sgX n9 a9 cs) x i = kA cs x i := by
  show u2 cs.2.2.2.2.2.1 258 2 a9 x i = cs.2.2.2.2.2.1 x i
  exact u2_n (fun w => h w.2)
theorem u2_com {α : Type} {f : Nat → Nat → α} {t i x j : Nat} {v w : α} (h : ¬ (t = x ∧ i = j)) : u2 (u2 f x j w) t i v = u2 (u2 f t i v) x j w := by
  funext a b
  unfold u2
  by_cases q : a = t ∧ b = i
  · rw [if_pos q, if_neg (fun z => h ⟨q.1.symm.trans z.1, q.2.symm.trans z.2⟩), if_pos q]
  · rw [if_neg q]
    by_cases q2 : a = x ∧ b = j
    · rw [if_pos q2, if_pos q2]
    · rw [if_neg q2, if_neg q2, if_neg q]
theorem sg_sI {n9 : Int32} {a9 : Nat → Int32} {cs : CS} {x i : Nat} {v : Int32} (h : x ≠ 256) : sI (sgX n9 a9 cs) x i v = sgX n9 a9 (sI cs x i v) := by
  have e : u2 (u2 cs.2.1 256 2 n9) x i v = u2 (u2 cs.2.1 x i v) 256 2 n9 := u2_com (fun w => h w.1)
  show (cs.1, u2 (u2 cs.2.1 256 2 n9) x i v, _, _, _, _, _, _, _) = (cs.1, u2 (u2 cs.2.1 x i v) 256 2 n9, _, _, _, _, _, _, _)
  rw [e]
  rfl
theorem sg_sR {n9 : Int32} {a9 : Nat → Int32} {cs : CS} {x i : Nat} {v : Option Nat} : sR (sgX n9 a9 cs) x i v = sgX n9 a9 (sR cs x i v) := rfl
theorem sg_sB {n9 : Int32} {a9 : Nat → Int32} {cs : CS} {x i j : Nat} {v : Int64} : sB (sgX n9 a9 cs) x i j v = sgX n9 a9 (sB cs x i j v) := rfl
theorem sg_sA {n9 : Int32} {a9 : Nat → Int32} {cs : CS} {x i j : Nat} {v : Int32} (h : x ≠ 258) : sA (sgX n9 a9 cs) x i j v = sgX n9 a9 (sA cs x i j v) := by
  have e0 : u2 cs.2.2.2.2.2.1 258 2 a9 x i = cs.2.2.2.2.2.1 x i := u2_n (fun w => h w.1)
  have e : u2 (u2 cs.2.2.2.2.2.1 258 2 a9) x i (upd (u2 cs.2.2.2.2.2.1 258 2 a9 x i) j v) = u2 (u2 cs.2.2.2.2.2.1 x i (upd (cs.2.2.2.2.2.1 x i) j v)) 258 2 a9 := by
    rw [e0]
    exact u2_com (fun w => h w.1)
  show (cs.1, _, _, _, _, u2 (u2 cs.2.2.2.2.2.1 258 2 a9) x i (upd (u2 cs.2.2.2.2.2.1 258 2 a9 x i) j v), _, _, _) = (cs.1, _, _, _, _, u2 (u2 cs.2.2.2.2.2.1 x i (upd (cs.2.2.2.2.2.1 x i) j v)) 258 2 a9, _, _, _)
  rw [e]
  rfl
theorem sgI {n9 : Int32} {a9 : Nat → Int32} {cs : CS} {X x i : Nat} {v : Int32} (hx : x ≠ 256) (h : gI cs X x i = some v) : gI (sgX n9 a9 cs) X x i = some v := by
  obtain ⟨h1, h2⟩ := gI_some h
  rw [gI_ok (cs := sgX n9 a9 cs) h1, sg_I hx, h2]
theorem sgJ {n9 : Int32} {a9 : Nat → Int32} {cs : CS} {X x i : Nat} {v : Int64} (h : gJ cs X x i = some v) : gJ (sgX n9 a9 cs) X x i = some v := h
theorem sgR {n9 : Int32} {a9 : Nat → Int32} {cs : CS} {X x i : Nat} {v : Option Nat} (h : gR cs X x i = some v) : gR (sgX n9 a9 cs) X x i = some v := h
theorem sgA {n9 : Int32} {a9 : Nat → Int32} {cs : CS} {X x i v : Nat} (h : gA cs X x i = some v) : gA (sgX n9 a9 cs) X x i = some v := h
theorem sgLn {n9 : Int32} {a9 : Nat → Int32} {cs : CS} {x i j : Nat} {v : Int32} (h : lnA cs x i j = some v) : lnA (sgX n9 a9 cs) x i j = some v := h
theorem sgrB {n9 : Int32} {a9 : Nat → Int32} {cs : CS} {x i j : Nat} {y : Int32} {v : Int64} (h : rB cs x i j y = some v) : rB (sgX n9 a9 cs) x i j y = some v := h
theorem sgrQ {n9 : Int32} {a9 : Nat → Int32} {cs : CS} {x i j : Nat} {y : Int32} {v : Option Nat} (h : rQ cs x i j y = some v) : rQ (sgX n9 a9 cs) x i j y = some v := h
theorem sgck {n9 : Int32} {a9 : Nat → Int32} {cs : CS} {X i : Nat} {v : Unit} (h : ckE cs X i = some v) : ckE (sgX n9 a9 cs) X i = some v := h
theorem sgrA {n9 : Int32} {a9 : Nat → Int32} {cs : CS} {x i j : Nat} {y v : Int32} (hx : x ≠ 258) (h : rA cs x i j y = some v) : rA (sgX n9 a9 cs) x i j y = some v := by
  have e : rA (sgX n9 a9 cs) x i j y = rA cs x i j y := by
    unfold rA
    rw [sg_A hx]
    rfl
  rw [e]
  exact h
/-- what is known of the streams under check -/
def SGH (n9 : Int32) (a9 : Nat → Int32) (s9 k9 t9 : Nat) (cs : CS) : Prop := kI cs 256 2 = nI s9 ∧ (∀ d, d < s9 → a9 d = kA cs 258 2 d) ∧ kR cs 32 k9 = some t9 ∧ s9 ≤ 6 ∧ ∃ m, n9 = nI m ∧ s9 ≤ m ∧ m ≤ 6
def HSG (n9 : Int32) (a9 : Nat → Int32) (s9 k9 t9 : Nat) (cs cs9 : CS) (e : Prop) : Prop := SGH n9 a9 s9 k9 t9 cs9 ∧ (kI cs9 320 t9 = 0 → kI cs 320 t9 = 0 ∧ e)
theorem SGH.mv {n9 : Int32} {a9 : Nat → Int32} {s9 k9 t9 : Nat} {cs cs1 : CS} (H : SGH n9 a9 s9 k9 t9 cs) (h1 : kI cs1 256 2 = kI cs 256 2) (h2 : kA cs1 258 2 = kA cs 258 2) (h3 : kR cs1 32 k9 = kR cs 32 k9) : SGH n9 a9 s9 k9 t9 cs1 := by
  unfold SGH
  rw [h1, h2, h3]
  exact H
theorem hs_pI {n9 : Int32} {a9 : Nat → Int32} {s9 k9 t9 : Nat} {cs cs1 : CS} {X x i : Nat} {v : Int32} (hx : x ≠ 256 ∧ x ≠ 320) (H : SGH n9 a9 s9 k9 t9 cs) (h : pI cs X x i v = some cs1) : HSG n9 a9 s9 k9 t9 cs cs1 (pI (sgX n9 a9 cs) X x i v = some (sgX n9 a9 cs1)) := by
  obtain ⟨h1, h2⟩ := pI_some h
  rw [← h2]
  refine ⟨H.mv (u2_n (fun w => hx.1 w.1.symm)) rfl rfl, fun z => ⟨?_, ?_⟩⟩
  · rw [kI_n (fun w => hx.2 w.1.symm)] at z
    exact z
  · rw [pI_ok (cs := sgX n9 a9 cs) h1, sg_sI hx.1]
theorem hs_pR {n9 : Int32} {a9 : Nat → Int32} {s9 k9 t9 : Nat} {cs cs1 : CS} {X x i : Nat} {v : Option Nat} (hx : x ≠ 32) (H : SGH n9 a9 s9 k9 t9 cs) (h : pR cs X x i v = some cs1) : HSG n9 a9 s9 k9 t9 cs cs1 (pR (sgX n9 a9 cs) X x i v = some (sgX n9 a9 cs1)) := by
  obtain ⟨h1, h2⟩ := pR_some h
  rw [← h2]
  refine ⟨H.mv rfl rfl (u2_n (fun w => hx w.1.symm)), fun z => ⟨z, ?_⟩⟩
  rw [pR_ok (cs := sgX n9 a9 cs) h1, sg_sR]
theorem hs_wA {n9 : Int32} {a9 : Nat → Int32} {s9 k9 t9 : Nat} {cs cs1 : CS} {x i j : Nat} {y v : Int32} (hx : x ≠ 258) (H : SGH n9 a9 s9 k9 t9 cs) (h : wA cs x i j y v = some cs1) : HSG n9 a9 s9 k9 t9 cs cs1 (wA (sgX n9 a9 cs) x i j y v = some (sgX n9 a9 cs1)) := by
  obtain ⟨h1, h2⟩ := wA_some h
  rw [← h2]
  refine ⟨H.mv rfl (u2_n (fun w => hx w.1.symm)) rfl, fun z => ⟨z, ?_⟩⟩
  have e : wA (sgX n9 a9 cs) x i j y v = some (sA (sgX n9 a9 cs) x i y.toNatClampNeg v) := if_pos h1
  rw [e, sg_sA hx]
theorem hs_wB {n9 : Int32} {a9 : Nat → Int32} {s9 k9 t9 : Nat} {cs cs1 : CS} {x i j : Nat} {y : Int32} {v : Int64} (H : SGH n9 a9 s9 k9 t9 cs) (h : wB cs x i j y v = some cs1) : HSG n9 a9 s9 k9 t9 cs cs1 (wB (sgX n9 a9 cs) x i j y v = some (sgX n9 a9 cs1)) := by
  obtain ⟨h1, h2⟩ := wB_some h
  rw [← h2]
  refine ⟨H.mv rfl rfl rfl, fun z => ⟨z, ?_⟩⟩
  have e : wB (sgX n9 a9 cs) x i j y v = some (sB (sgX n9 a9 cs) x i y.toNatClampNeg v) := if_pos h1
  rw [e, sg_sB]
theorem hs_c_X9_refuse {n9 : Int32} {a9 : Nat → Int32} {s9 k9 t9 : Nat} {F : Nat} {cs : CS} {x0 : Nat} {x1 x2 : Int32} {cs9 : CS} (H : SGH n9 a9 s9 k9 t9 cs) (h : c_X9_refuse F cs x0 x1 x2 = some cs9) : HSG n9 a9 s9 k9 t9 cs cs9 (c_X9_refuse F (sgX n9 a9 cs) x0 x1 x2 = some (sgX n9 a9 cs9)) := by
  unfold c_X9_refuse at h
  replace h := ob h
  obtain ⟨v1, g1, h⟩ := h
  by_cases c1 : v1 = 0
  · replace h := (if_pos c1).symm.trans h
    replace h := ob h
    obtain ⟨c3, g3, h⟩ := h
    replace h := ob h
    obtain ⟨c4, g4, h⟩ := h
    obtain ⟨h1, h2⟩ := pI_some g3
    have H3 : SGH n9 a9 s9 k9 t9 c3 := by
      rw [← h2]
      exact H.mv (kI_n (by omega)) rfl rfl
    have s4 := hs_pI (by decide) H3 g4
    rw [← Option.some.inj (show some c4 = some cs9 from h)]
    refine ⟨s4.1, fun z => ?_⟩
    obtain ⟨z4, e4⟩ := s4.2 z
    have e3 : pI (sgX n9 a9 cs) 10 320 x0 x1 = some (sgX n9 a9 c3) := by
      rw [pI_ok (cs := sgX n9 a9 cs) h1, sg_sI (by decide), h2]
    refine ⟨?_, ?_⟩
    · by_cases q : t9 = x0
      · rw [q, (gI_some g1).2, c1]
      · rw [← h2, kI_n (fun w => q w.2)] at z4
        exact z4
    · unfold c_X9_refuse
      rw [sgI (by decide) g1, ob_s, if_pos c1, e3, ob_s, e4, ob_s]
      rfl
  · replace h := (if_neg c1).symm.trans h
    rw [← Option.some.inj (show some cs = some cs9 from h)]
    refine ⟨H, fun z => ⟨z, ?_⟩⟩
    unfold c_X9_refuse
    rw [sgI (by decide) g1, ob_s, if_neg c1]
    rfl

def tkF (g : Nat → Int32) (n : Nat) (tk : Nat → Int64) (k : Nat) : Nat × Int32 × Int64 :=
  if n ≤ k then (k, 56, 0) else if ltI (g k) = 0 then (if dgI (g k) = 0 then (sgE (sgK (g k)) (btF g n (k + 1)) k, lsI (sgK (g k)) (btF g n (k + 1)), 0)
    else ((nuF g n (n - k) k 0 40).1, (if ltI (btF g n (nuF g n (n - k) k 0 40).1) = 0 then (nuF g n (n - k) k 0 40).2.2 else 57), (nuF g n (n - k) k 0 40).2.1))
    else ((wdF g n (n - k) k 0).1, wdK tk k (wdF g n (n - k) k 0).1 (wdF g n (n - k) k 0).2, (wdF g n (n - k) k 0).2)
theorem updLd {g : Nat → Int64} {i : Nat} {x y : Int64} : vp_updL (vp_updL g i x) i y = vp_updL g i y := by
  funext j
  by_cases h : j = i
  · subst h; rw [pk_uLs, pk_uLs]
  · rw [pk_uLn h, pk_uLn h, pk_uLn h]
theorem tkF_e {g : Nat → Int32} {n : Nat} {tk : Nat → Int64} {k : Nat} (h : n ≤ k) : (k, 56, 0) = tkF g n tk k := (if_pos h).symm
theorem tkF_w {g : Nat → Int32} {n : Nat} {tk : Nat → Int64} {k k2 : Nat} {v2 : Int64} (h : ¬ n ≤ k) (h1 : ¬ ltI (g k) = 0) (hw : (k2, v2) = wdF g n (n - k) k 0) : (k2, wdK tk k k2 v2, v2) = tkF g n tk k := by
  unfold tkF; rw [if_neg h, if_neg h1, ← hw]
theorem tkF_d {g : Nat → Int32} {n : Nat} {tk : Nat → Int64} {k k2 : Nat} {v2 : Int64} {q2 : Int32} (h : ¬ n ≤ k) (h1 : ltI (g k) = 0) (h2 : ¬ dgI (g k) = 0) (hw : ∃ q : Int32, (k2, v2, q) = nuF g n (n - k) k 0 40 ∧ q2 = if ltI (btF g n k2) = 0 then q else 57) : (k2, q2, v2) = tkF g n tk k := by
  obtain ⟨q, hw, rfl⟩ := hw
  unfold tkF; rw [if_neg h, if_pos h1, if_neg h2, ← hw]
theorem tkF_s {g : Nat → Int32} {n : Nat} {tk : Nat → Int64} {k k2 : Nat} {q2 : Int32} (h : ¬ n ≤ k) (h1 : ltI (g k) = 0) (h2 : dgI (g k) = 0) (hq : q2 = lsI (sgK (g k)) (btF g n (k + 1))) (hk : k2 = sgE (sgK (g k)) (btF g n (k + 1)) k) : (k2, q2, 0) = tkF g n tk k := by
  subst hq; subst hk; unfold tkF; rw [if_neg h, if_pos h1, if_pos h2]
theorem wdF_le (g : Nat → Int32) (n : Nat) : ∀ f k v, k + f ≤ n ∨ f = 0 → (wdF g n f k v).1 ≤ max k n
  | 0, k, v, _ => Nat.le_max_left _ _
  | f + 1, k, v, h => by
    have h : k + (f + 1) ≤ n := by omega
    unfold wdF
    split
    · exact Nat.le_max_left _ _
    · split
      · exact Nat.le_max_left _ _
      · have := wdF_le g n f (k + 1) (v * 37 + (lcd (g k)).toInt64) (by omega); omega
theorem nuF_le (g : Nat → Int32) (n : Nat) : ∀ f k v q, k + f ≤ n ∨ f = 0 → (nuF g n f k v q).1 ≤ max k n
  | 0, k, v, q, _ => Nat.le_max_left _ _
  | f + 1, k, v, q, h => by
    have h : k + (f + 1) ≤ n := by omega
    unfold nuF
    split
    · exact Nat.le_max_left _ _
    · split
      · exact Nat.le_max_left _ _
      · split
        · have := nuF_le g n f (k + 1) (v * 10 + (g k - 48).toInt64) q (by omega); omega
        · have := nuF_le g n f (k + 1) v 57 (by omega); omega
theorem tkF_le (g : Nat → Int32) (n : Nat) (tk : Nat → Int64) (k : Nat) (h : k ≤ n) : (tkF g n tk k).1 ≤ n + 1 := by
  unfold tkF
  split
  · exact Nat.le_succ_of_le h
  · split
    · split
      · show sgE _ _ k ≤ n + 1; unfold sgE; split <;> omega
      · have := nuF_le g n (n - k) k 0 40 (by omega); show (nuF g n (n - k) k 0 40).1 ≤ n + 1; omega
    · have := wdF_le g n (n - k) k 0 (by omega); show (wdF g n (n - k) k 0).1 ≤ n + 1; omega
theorem skB_le (g : Nat → Int32) (n : Nat) : ∀ f k, k + f ≤ n ∨ f = 0 → skB g n f k ≤ max k n
  | 0, k, _ => Nat.le_max_left _ _
  | f + 1, k, h => by
    have h : k + (f + 1) ≤ n := by omega
    unfold skB
    split
    · exact Nat.le_max_left _ _
    · split
      · exact Nat.le_max_left _ _
      · have := skB_le g n f (k + 1) (by omega); omega
/-- where the i-th token's search begins -/
def psF (g : Nat → Int32) (n : Nat) (tk : Nat → Int64) : Nat → Nat | 0 => 0 | i + 1 => (tkF g n tk (skB g n (n - psF g n tk i) (psF g n tk i))).1
def plF (g : Nat → Int32) (n : Nat) (tk : Nat → Int64) (i : Nat) : Nat := skB g n (n - psF g n tk i) (psF g n tk i)
def kiF (g : Nat → Int32) (n : Nat) (tk : Nat → Int64) (i : Nat) : Int32 := (tkF g n tk (plF g n tk i)).2.1
def nbF (g : Nat → Int32) (n : Nat) (tk : Nat → Int64) (i : Nat) : Int64 := (tkF g n tk (plF g n tk i)).2.2
def mrI (k : Int32) : Int32 := if k = 56 then 0 else if k = 57 then 0 else 1
def moreI (g : Nat → Int32) (n : Nat) (tk : Nat → Int64) : Nat → Int32 | 0 => 1 | i + 1 => mrI (kiF g n tk i)
theorem psF_le (g : Nat → Int32) (n : Nat) (tk : Nat → Int64) : ∀ i, psF g n tk i ≤ n + 1
  | 0 => Nat.zero_le _
  | i + 1 => by
    have ih := psF_le g n tk i
    have h1 := skB_le g n (n - psF g n tk i) (psF g n tk i) (by omega)
    show (tkF g n tk (skB g n (n - psF g n tk i) (psF g n tk i))).1 ≤ n + 1
    rcases Nat.lt_or_ge n (skB g n (n - psF g n tk i) (psF g n tk i)) with h | h
    · rw [← tkF_e (Nat.le_of_lt h)]; show skB g n (n - psF g n tk i) (psF g n tk i) ≤ n + 1; omega
    · exact tkF_le g n tk _ h
theorem plF_le (g : Nat → Int32) (n : Nat) (tk : Nat → Int64) (i : Nat) : plF g n tk i ≤ n + 1 := by
  have ih := psF_le g n tk i; have h1 := skB_le g n (n - psF g n tk i) (psF g n tk i) (by omega); unfold plF; omega
def laid (f t : Nat → Int32) (i : Nat) : Nat → Int32 := fun j => if j < i then t j else f j
def laidL (f t : Nat → Int64) (i : Nat) : Nat → Int64 := fun j => if j < i then t j else f j
theorem laid_s {f t : Nat → Int32} {i : Nat} : upd (laid f t i) i (t i) = laid f t (i + 1) := by
  funext j
  by_cases h : j = i
  · subst h; rw [pk_us]; exact (if_pos (Nat.lt_succ_self _)).symm
  · rw [pk_un h]; unfold laid
    by_cases h2 : j < i
    · rw [if_pos h2, if_pos (by omega)]
    · rw [if_neg h2, if_neg (by omega)]
theorem laidL_s {f t : Nat → Int64} {i : Nat} : vp_updL (laidL f t i) i (t i) = laidL f t (i + 1) := by
  funext j
  by_cases h : j = i
  · subst h; rw [pk_uLs]; exact (if_pos (Nat.lt_succ_self _)).symm
  · rw [pk_uLn h]; unfold laidL
    by_cases h2 : j < i
    · rw [if_pos h2, if_pos (by omega)]
    · rw [if_neg h2, if_neg (by omega)]
theorem laid_0 {f t : Nat → Int32} : laid f t 0 = f := by funext j; exact if_neg (Nat.not_lt_zero _)
theorem laidL_0 {f t : Nat → Int64} : laidL f t 0 = f := by funext j; exact if_neg (Nat.not_lt_zero _)
theorem sc_ext {f : Nat → Int32} {i : Nat} (h : ∀ j, j < i → ¬ f j = 0) (hi : ¬ f i = 0) : ∀ j, j < i + 1 → ¬ f j = 0 := by
  intro j hj
  rcases Nat.lt_or_ge j i with h9 | h9
  · exact h j h9
  · have e9 : j = i := by omega
    rw [e9]; exact hi
theorem dX10_scanToken_0 : decode cX10_scanToken 0 = .ok (.aload_n 0, 1) := by decide +kernel
theorem dX10_scanToken_1 : decode cX10_scanToken 1 = .ok (.aload_n 0, 1) := by decide +kernel
theorem dX10_scanToken_2 : decode cX10_scanToken 2 = .ok (.getfield 57, 3) := by decide +kernel
theorem dX10_scanToken_5 : decode cX10_scanToken 5 = .ok (.invokevirtual 67, 3) := by decide +kernel
theorem dX10_scanToken_8 : decode cX10_scanToken 8 = .ok (.istore_n 2, 1) := by decide +kernel
theorem dX10_scanToken_9 : decode cX10_scanToken 9 = .ok (.aload_n 0, 1) := by decide +kernel
theorem dX10_scanToken_10 : decode cX10_scanToken 10 = .ok (.getfield 18, 3) := by decide +kernel
theorem dX10_scanToken_13 : decode cX10_scanToken 13 = .ok (.iload_n 1, 1) := by decide +kernel
theorem dX10_scanToken_14 : decode cX10_scanToken 14 = .ok (.lconst 0, 1) := by decide +kernel
theorem dX10_scanToken_15 : decode cX10_scanToken 15 = .ok (.lastore, 1) := by decide +kernel
theorem dX10_scanToken_16 : decode cX10_scanToken 16 = .ok (.aload_n 0, 1) := by decide +kernel
theorem dX10_scanToken_17 : decode cX10_scanToken 17 = .ok (.getfield 57, 3) := by decide +kernel
theorem dX10_scanToken_20 : decode cX10_scanToken 20 = .ok (.aload_n 0, 1) := by decide +kernel
theorem dX10_scanToken_21 : decode cX10_scanToken 21 = .ok (.getfield 53, 3) := by decide +kernel
theorem dX10_scanToken_24 : decode cX10_scanToken 24 = .ok (.if_icmp .lt 14, 3) := by decide +kernel
theorem dX10_scanToken_27 : decode cX10_scanToken 27 = .ok (.aload_n 0, 1) := by decide +kernel
theorem dX10_scanToken_28 : decode cX10_scanToken 28 = .ok (.getfield 9, 3) := by decide +kernel
theorem dX10_scanToken_31 : decode cX10_scanToken 31 = .ok (.iload_n 1, 1) := by decide +kernel
theorem dX10_scanToken_32 : decode cX10_scanToken 32 = .ok (.bipush 56, 2) := by decide +kernel
theorem dX10_scanToken_34 : decode cX10_scanToken 34 = .ok (.iastore, 1) := by decide +kernel
theorem dX10_scanToken_35 : decode cX10_scanToken 35 = .ok (.goto 44, 3) := by decide +kernel
theorem dX10_scanToken_38 : decode cX10_scanToken 38 = .ok (.iload_n 2, 1) := by decide +kernel
theorem dX10_scanToken_39 : decode cX10_scanToken 39 = .ok (.invokestatic 70, 3) := by decide +kernel
theorem dX10_scanToken_42 : decode cX10_scanToken 42 = .ok (.ifCond .eq 11, 3) := by decide +kernel
theorem dX10_scanToken_45 : decode cX10_scanToken 45 = .ok (.aload_n 0, 1) := by decide +kernel
theorem dX10_scanToken_46 : decode cX10_scanToken 46 = .ok (.iload_n 1, 1) := by decide +kernel
theorem dX10_scanToken_47 : decode cX10_scanToken 47 = .ok (.invokevirtual 74, 3) := by decide +kernel
theorem dX10_scanToken_50 : decode cX10_scanToken 50 = .ok (.goto 29, 3) := by decide +kernel
theorem dX10_scanToken_53 : decode cX10_scanToken 53 = .ok (.iload_n 2, 1) := by decide +kernel
theorem dX10_scanToken_54 : decode cX10_scanToken 54 = .ok (.invokestatic 77, 3) := by decide +kernel
theorem dX10_scanToken_57 : decode cX10_scanToken 57 = .ok (.ifCond .eq 11, 3) := by decide +kernel
theorem dX10_scanToken_60 : decode cX10_scanToken 60 = .ok (.aload_n 0, 1) := by decide +kernel
theorem dX10_scanToken_61 : decode cX10_scanToken 61 = .ok (.iload_n 1, 1) := by decide +kernel
theorem dX10_scanToken_62 : decode cX10_scanToken 62 = .ok (.invokevirtual 80, 3) := by decide +kernel
theorem dX10_scanToken_65 : decode cX10_scanToken 65 = .ok (.goto 14, 3) := by decide +kernel
theorem dX10_scanToken_68 : decode cX10_scanToken 68 = .ok (.aload_n 0, 1) := by decide +kernel
theorem dX10_scanToken_69 : decode cX10_scanToken 69 = .ok (.getfield 9, 3) := by decide +kernel
theorem dX10_scanToken_72 : decode cX10_scanToken 72 = .ok (.iload_n 1, 1) := by decide +kernel
theorem dX10_scanToken_73 : decode cX10_scanToken 73 = .ok (.aload_n 0, 1) := by decide +kernel
theorem dX10_scanToken_74 : decode cX10_scanToken 74 = .ok (.iload_n 2, 1) := by decide +kernel
theorem dX10_scanToken_75 : decode cX10_scanToken 75 = .ok (.invokevirtual 83, 3) := by decide +kernel
theorem dX10_scanToken_78 : decode cX10_scanToken 78 = .ok (.iastore, 1) := by decide +kernel
theorem dX10_scanToken_79 : decode cX10_scanToken 79 = .ok (.return_, 1) := by decide +kernel
abbrev cs_t_X10_scanToken (cB cI cJ cZ : ClassId) (h0 hT hKi hNu hW n k0 : Nat) (g kf : Nat → Int32) (vf tk : Nat → Int64) (y1 : Value) (i : Nat) (K V : Nat → Nat) (fz : Value) : va_W := [(h0, .inr (11, [.ref hKi, y1, .ref hNu, .ref hT, .int (nI n), .int (nI k0), .ref hW])), (hT, .inl (cB, 2000, .inl g)), (hKi, .inl (cI, 2001, .inl kf)), (hNu, .inl (cJ, 2001, .inr (.inl vf))), (hW, .inl (cJ, 39, .inr (.inl tk)))]
abbrev pc_t_X10_scanToken (dC : Nat → ClassId) (dI : Nat → Nat → Nat) (sz : Nat) (cB cI cJ cZ : ClassId) (h0 hT hKi hNu hW n k0 : Nat) (g kf : Nat → Int32) (vf tk : Nat → Int64) (y1 : Value) (i : Nat) (K V : Nat → Nat) (fz : Value) : Array Value → State → Prop := va_Pc [.ref h0, .int (nI i)] (fun U => U.heap.size = sz ∧ va_P (dC, dI) vwCl [(h0, .inr (11, [.ref hKi, y1, .ref hNu, .ref hT, .int (nI n), .int (nI k0), .ref hW])), (hT, .inl (cB, 2000, .inl g)), (hKi, .inl (cI, 2001, .inl kf)), (hNu, .inl (cJ, 2001, .inr (.inl vf))), (hW, .inl (cJ, 39, .inr (.inl tk)))] U.heap ∧ va_K (dC, dI) vwCl [(cB, .byte), (cI, .int), (cJ, .long), (cZ, .boolean)] U ∧ va_D (fun _ => True) [(h0, .inr (11, [.ref hKi, y1, .ref hNu, .ref hT, .int (nI n), .int (nI k0), .ref hW])), (hT, .inl (cB, 2000, .inl g)), (hKi, .inl (cI, 2001, .inl kf)), (hNu, .inl (cJ, 2001, .inr (.inl vf))), (hW, .inl (cJ, 39, .inr (.inl tk)))] ∧ zE K V fz (va_A (cs_t_X10_scanToken cB cI cJ cZ h0 hT hKi hNu hW n k0 g kf vf tk y1 i K V fz) sz) U)
abbrev qc_t_X10_scanToken (dC : Nat → ClassId) (dI : Nat → Nat → Nat) (cB cI cJ cZ : ClassId) (h0 hT hKi hNu hW n k0 : Nat) (g kf : Nat → Int32) (vf tk : Nat → Int64) (y1 : Value) (i : Nat) (K V : Nat → Nat) (fz : Value) (A : Nat → Prop) : Array Value → State → Outcome → State → Prop := va_Qv (fun (u : Nat × Int32 × Int64) => match u with | (k2, q2, v2) => (k2, q2, v2) = tkF g n tk k0) (fun (u : Nat × Int32 × Int64) t_ => match u with | (k2, q2, v2) => va_P (dC, dI) vwCl [(h0, .inr (11, [.ref hKi, y1, .ref hNu, .ref hT, .int (nI n), .int (nI k2), .ref hW])), (hT, .inl (cB, 2000, .inl g)), (hKi, .inl (cI, 2001, .inl (upd kf i q2))), (hNu, .inl (cJ, 2001, .inr (.inl (vp_updL vf i v2)))), (hW, .inl (cJ, 39, .inr (.inl tk)))] t_.heap ∧ va_K (dC, dI) vwCl [(cB, .byte), (cI, .int), (cJ, .long), (cZ, .boolean)] t_ ∧ va_D A [(h0, .inr (11, [.ref hKi, y1, .ref hNu, .ref hT, .int (nI n), .int (nI k2), .ref hW])), (hT, .inl (cB, 2000, .inl g)), (hKi, .inl (cI, 2001, .inl (upd kf i q2))), (hNu, .inl (cJ, 2001, .inr (.inl (vp_updL vf i v2)))), (hW, .inl (cJ, 39, .inr (.inl tk)))]) A
set_option maxHeartbeats 4000000 in
set_option maxRecDepth 100000 in
theorem t_X10_scanToken (l : Launch) (dC : Nat → ClassId) (dI : Nat → Nat → Nat) (sz : Nat) (cB cI cJ cZ : ClassId) (h0 hT hKi hNu hW n k0 : Nat) (g kf : Nat → Int32) (vf tk : Nat → Int64) (y1 : Value) (i : Nat) (K V : Nat → Nat) (fz : Value) (hn : n ≤ 2000) (hk0 : k0 ≤ 2001) (hi : i < 2001) (hgb : sb_Fit g) : Met l yX10_scanToken (wsOf yX10_scanToken cX10_scanToken 3 none) ({ frames := 6, cells := 0, slots := 0, locals := 360 }) (pc_t_X10_scanToken dC dI sz cB cI cJ cZ h0 hT hKi hNu hW n k0 g kf vf tk y1 i K V fz) (qc_t_X10_scanToken dC dI cB cI cJ cZ h0 hT hKi hNu hW n k0 g kf vf tk y1 i K V fz (va_A (cs_t_X10_scanToken cB cI cJ cZ h0 hT hKi hNu hW n k0 g kf vf tk y1 i K V fz) sz)) 0 0 (va_A (cs_t_X10_scanToken cB cI cJ cZ h0 hT hKi hNu hW n k0 g kf vf tk y1 i K V fz) sz) := by
  refine Met.ofW (cc := cX10_scanToken) (maxL := 3) (ret := none) (by decide) rfl ?_
  intro p e s m args below meth c s₁ B hml hv
  obtain ⟨rfl, hsz, hP, hK, hD0, hZ⟩ := hv
  have hx := B.exec
  have hb := B.bytes
  have hr := B.returns
  have hts := atoms_spec (ws := (wsOf yX10_scanToken cX10_scanToken 3 none)) B.pre
  have hown : s.vm.findClass RX10 = some m.cls := findClass_of_methodNamed B.named
  have hlocks := B.notSynchronized
  subst hsz
  have hD := hD0.self (sz := s.heap.size)
  generalize hAe : va_A (cs_t_X10_scanToken cB cI cJ cZ h0 hT hKi hNu hW n k0 g kf vf tk y1 i K V fz) s.heap.size = A at hD hZ ⊢
  have hA : ∀ q : Nat, s.heap.size ≤ q → A q := fun q h => by rw [← hAe]; exact Or.inr h
  have hS : va_S A s.heap s.heap [] := va_S.rf
  have hP : va_P (dC, dI) vwCl [(h0, .inr (11, [.ref hKi, y1, .ref hNu, .ref hT, .int (nI n), .int (nI k0), .ref hW])), (hT, .inl (cB, 2000, .inl g)), (hKi, .inl (cI, 2001, .inl kf)), (hNu, .inl (cJ, 2001, .inr (.inl vf))), (hW, .inl (cJ, 39, .inr (.inl tk)))] s.heap := hP
  have hl := lv_entry ([.ref h0, .int (nI i)]) (n := 3) (Nat.le_of_ble_eq_true rfl)
  rw [lg_entry_eq]
  generalize (lg_sl ([.ref h0, .int (nI i)]) ++ List.replicate (3 - (lg_sl ([.ref h0, .int (nI i)])).length) Slot.unset).toArray = ls at hl ⊢
  have hl : lv_has ls 3 [(0, .ref h0), (1, .int (nI i))] := hl
  refine lv_aload_n hx hb dX10_scanToken_0 rfl (lv_at hl 0 rfl) ?_
  refine lv_aload_n hx hb dX10_scanToken_1 rfl (lv_at hl 0 rfl) ?_
  refine va_get (D := (dC, dI)) (ci := 11) (v := .int (nI k0)) (C := RX10) (T := TX10) (N := 7) hx hb hts (fun w h => List.mem_cons_of_mem _ (uG_X10 w h)) hown hK hP 0 rfl rfl 5 (by decide) (hts _ (List.mem_cons_of_mem _ kw_326)) (fun _ h9 => h9) rfl dX10_scanToken_2 ?_
  have hPc := hP.sub (ws' := [(h0, .inr (11, [.ref hKi, y1, .ref hNu, .ref hT, .int (nI n), .int (nI k0), .ref hW])), (hT, .inl (cB, 2000, .inl g))]) [0, 1] rfl
  have hDc := hD.sub (ws' := [(h0, .inr (11, [.ref hKi, y1, .ref hNu, .ref hT, .int (nI n), .int (nI k0), .ref hW])), (hT, .inl (cB, 2000, .inl g))]) [0, 1] (by decide) rfl
  have hKc := hK.sub (tys' := [(cB, .byte), (cI, .int), (cJ, .long), (cZ, .boolean)]) [0, 1, 2, 3] rfl
  have hFc := va_free (wc := [(h0, .inr (11, [.ref hKi, y1, .ref hNu, .ref hT, .int (nI n), .int (nI k0), .ref hW])), (hT, .inl (cB, 2000, .inl g))]) hD hS hA [0, 1] rfl
  refine va_calli (va_runV (As := [.int (nI k0)]) (rest := []) ⟨hx, hb, hml, hown, hts⟩ (t_X10_byteAt l dC dI s.heap.size cB cI cJ cZ h0 hT n k0 g (.ref hKi) y1 (.ref hNu) (.ref hW) k0 hn (by omega)) (cwV 1 hts (gd_all (in_V kw_512 kw_514 kw_2 kw_183 kc_X10_byteAt)) rfl rfl rfl (by decide +kernel) ⟨Nat.le_of_ble_eq_true rfl, Nat.le_of_ble_eq_true rfl⟩) ⟨fun a U g mk q => by obtain ⟨q0, q1, qP, qK, qD⟩ := q; exact ⟨q0, q1, qP, va_K.moved (u := U) (U := U.calling g mk a) (Vm.Alike.refl U.vm) qK, qD⟩, va_recv hKc hPc (ci := 11) (q0 := 0) rfl rfl, fun U hU hW => ⟨rfl, by rw [hU], by rw [hU]; exact hPc, va_K.moved hW.alike hKc, hDc.weaken (fun _ _ _ _ => trivial)⟩⟩ rfl rfl hl.1 rfl (lv_room (Nat.le_of_ble_eq_true rfl)) dX10_scanToken_5 ⟨Nat.le_of_ble_eq_true rfl, Nat.le_of_ble_eq_true rfl⟩) hS (fun q _ h => hFc q h) hFc (fun r_1 u t_ H1 locs ht hvm hw hB hz1 hk1 hS => ?_)
  obtain ⟨hP1, hK1, hD1⟩ := hB
  rw [ht] at hP1
  have hK1 := va_K.moved hvm.symm hK1
  obtain ⟨hP, hD⟩ := va_join (wr := [(hKi, .inl (cI, 2001, .inl kf)), (hNu, .inl (cJ, 2001, .inr (.inl vf))), (hW, .inl (cJ, 39, .inr (.inl tk)))]) (w1 := [(h0, .inr (11, [.ref hKi, y1, .ref hNu, .ref hT, .int (nI n), .int (nI k0), .ref hW])), (hT, .inl (cB, 2000, .inl g))]) hP hD [0, 1] [2, 3, 4] rfl rfl (by decide) (by decide) hk1 hFc hP1 hD1
  have hK := (hK.sub (tys' := []) [] rfl).app hK1
  generalize H1 = H at hP hS ⊢
  have hP : va_P (dC, dI) vwCl [(hKi, .inl (cI, 2001, .inl kf)), (hNu, .inl (cJ, 2001, .inr (.inl vf))), (hW, .inl (cJ, 39, .inr (.inl tk))), (h0, .inr (11, [.ref hKi, y1, .ref hNu, .ref hT, .int (nI n), .int (nI k0), .ref hW])), (hT, .inl (cB, 2000, .inl g))] H := hP
  have hD : va_D A [(hKi, .inl (cI, 2001, .inl kf)), (hNu, .inl (cJ, 2001, .inr (.inl vf))), (hW, .inl (cJ, 39, .inr (.inl tk))), (h0, .inr (11, [.ref hKi, y1, .ref hNu, .ref hT, .int (nI n), .int (nI k0), .ref hW])), (hT, .inl (cB, 2000, .inl g))] := hD
  have hK : va_K (dC, dI) vwCl [(cB, .byte), (cI, .int), (cJ, .long), (cZ, .boolean)] s := hK
  have er_1 : r_1 = btF g n k0 := hw
  rw [er_1]
  refine lv_istore_n (lv' := [(2, .int (btF g n k0)), (0, .ref h0), (1, .int (nI i))]) hx hb dX10_scanToken_8 rfl hl (by decide) rfl (fun ls hl => ?_)
  refine lv_aload_n hx hb dX10_scanToken_9 rfl (lv_at hl 1 rfl) ?_
  refine va_get (D := (dC, dI)) (ci := 11) (v := .ref hNu) (C := RX10) (T := TX10) (N := 7) hx hb hts (fun w h => List.mem_cons_of_mem _ (uG_X10 w h)) hown hK hP 3 rfl rfl 2 (by decide) (hts _ (List.mem_cons_of_mem _ kw_322)) (fun _ h9 => h9) rfl dX10_scanToken_10 ?_
  refine lv_iload_n hx hb dX10_scanToken_13 rfl (lv_at hl 2 rfl) ?_
  refine lv_lconst (v := 0) hx hb dX10_scanToken_14 (by decide) ?_
  refine va_last hx hb hK hP hD hS 1 2 rfl rfl (i := (nI i)) (x := 0) (vp_in_nI (n := i) (N := 2001) (by omega) (by omega)) dX10_scanToken_15 (fun H locs hP hD hS => ?_)
  rw [show (nI i).toNatClampNeg = i from nI_clamp (n := i) (by omega)] at hP hD
  have hP : va_P (dC, dI) vwCl [(hKi, .inl (cI, 2001, .inl kf)), (hNu, .inl (cJ, 2001, .inr (.inl (vp_updL vf i 0)))), (hW, .inl (cJ, 39, .inr (.inl tk))), (h0, .inr (11, [.ref hKi, y1, .ref hNu, .ref hT, .int (nI n), .int (nI k0), .ref hW])), (hT, .inl (cB, 2000, .inl g))] H := hP
  have hD : va_D A [(hKi, .inl (cI, 2001, .inl kf)), (hNu, .inl (cJ, 2001, .inr (.inl (vp_updL vf i 0)))), (hW, .inl (cJ, 39, .inr (.inl tk))), (h0, .inr (11, [.ref hKi, y1, .ref hNu, .ref hT, .int (nI n), .int (nI k0), .ref hW])), (hT, .inl (cB, 2000, .inl g))] := hD
  refine lv_aload_n hx hb dX10_scanToken_16 rfl (lv_at hl 1 rfl) ?_
  refine va_get (D := (dC, dI)) (ci := 11) (v := .int (nI k0)) (C := RX10) (T := TX10) (N := 7) hx hb hts (fun w h => List.mem_cons_of_mem _ (uG_X10 w h)) hown hK hP 3 rfl rfl 5 (by decide) (hts _ (List.mem_cons_of_mem _ kw_326)) (fun _ h9 => h9) rfl dX10_scanToken_17 ?_
  refine lv_aload_n hx hb dX10_scanToken_20 rfl (lv_at hl 1 rfl) ?_
  refine va_get (D := (dC, dI)) (ci := 11) (v := .int (nI n)) (C := RX10) (T := TX10) (N := 7) hx hb hts (fun w h => List.mem_cons_of_mem _ (uG_X10 w h)) hown hK hP 3 rfl rfl 4 (by decide) (hts _ (List.mem_cons_of_mem _ kw_325)) (fun _ h9 => h9) rfl dX10_scanToken_21 ?_
  refine lv_icmp_lt (tgt := 38) hx hb dX10_scanToken_24 (by decide) (fun c_2 => ?_) (fun c_2 => ?_)
  · skip
    have c_2 : k0 < n := (nI_ltI (a := k0) (b := n) (by omega) (by omega)).mp c_2
    have eb : btF g n k0 = g k0 := if_neg (show ¬ n ≤ k0 by omega)
    rw [eb] at hl
    have hl : lv_has ls 3 [(2, .int (g k0)), (0, .ref h0), (1, .int (nI i))] := hl
    refine lv_iload_n hx hb dX10_scanToken_38 rfl (lv_at hl 0 rfl) ?_
    have hPc := hP.sub (ws' := []) [] rfl
    have hDc := hD.sub (ws' := []) [] (by decide) rfl
    have hKc := hK.sub (tys' := [(cB, .byte), (cI, .int), (cJ, .long), (cZ, .boolean)]) [0, 1, 2, 3] rfl
    have hFc := va_free (wc := []) hD hS hA [] rfl
    refine va_calli (va_runS (As := [.int (g k0)]) (rest := []) ⟨hx, hb, hml, hown, hts⟩ (t_X10_isLetter l dC dI H.size cB cI cJ cZ (g k0)) ⟨callB_of 1 hts (gd_all (in_I kc_X10_isLetter)) rfl rfl rfl (hts _ (List.mem_cons_of_mem _ kw_183)) (hts _ (List.mem_cons_of_mem _ kw_523)) (by decide +kernel) ⟨Nat.le_of_ble_eq_true rfl, Nat.le_of_ble_eq_true rfl⟩, hts _ (List.mem_cons_of_mem _ kw_524)⟩ ⟨fun a U g mk q => by obtain ⟨q0, q1, qP, qK, qD⟩ := q; exact ⟨q0, q1, qP, va_K.moved (u := U) (U := U.calling g mk a) (Vm.Alike.refl U.vm) qK, qD⟩, fun U hU hW => ⟨rfl, by rw [hU], by rw [hU]; exact hPc, va_K.moved hW.alike hKc, hDc.weaken (fun _ _ _ _ => trivial)⟩⟩ rfl rfl hl.1 rfl (lv_room (Nat.le_of_ble_eq_true rfl)) dX10_scanToken_39 ⟨Nat.le_of_ble_eq_true rfl, Nat.le_of_ble_eq_true rfl⟩) hS (fun q _ h => hFc q h) hFc (fun r_3 u t_ H1 locs ht hvm hw hB hz1 hk1 hS => ?_)
    obtain ⟨hP1, hK1, hD1⟩ := hB
    rw [ht] at hP1
    have hK1 := va_K.moved hvm.symm hK1
    obtain ⟨hP, hD⟩ := va_join (wr := [(hKi, .inl (cI, 2001, .inl kf)), (hNu, .inl (cJ, 2001, .inr (.inl (vp_updL vf i 0)))), (hW, .inl (cJ, 39, .inr (.inl tk))), (h0, .inr (11, [.ref hKi, y1, .ref hNu, .ref hT, .int (nI n), .int (nI k0), .ref hW])), (hT, .inl (cB, 2000, .inl g))]) (w1 := []) hP hD [] [0, 1, 2, 3, 4] rfl rfl (by decide) (by decide) hk1 hFc hP1 hD1
    have hK := (hK.sub (tys' := []) [] rfl).app hK1
    generalize H1 = H at hP hS ⊢
    have hP : va_P (dC, dI) vwCl [(hKi, .inl (cI, 2001, .inl kf)), (hNu, .inl (cJ, 2001, .inr (.inl (vp_updL vf i 0)))), (hW, .inl (cJ, 39, .inr (.inl tk))), (h0, .inr (11, [.ref hKi, y1, .ref hNu, .ref hT, .int (nI n), .int (nI k0), .ref hW])), (hT, .inl (cB, 2000, .inl g))] H := hP
    have hD : va_D A [(hKi, .inl (cI, 2001, .inl kf)), (hNu, .inl (cJ, 2001, .inr (.inl (vp_updL vf i 0)))), (hW, .inl (cJ, 39, .inr (.inl tk))), (h0, .inr (11, [.ref hKi, y1, .ref hNu, .ref hT, .int (nI n), .int (nI k0), .ref hW])), (hT, .inl (cB, 2000, .inl g))] := hD
    have hK : va_K (dC, dI) vwCl [(cB, .byte), (cI, .int), (cJ, .long), (cZ, .boolean)] s := hK
    have er_3 : r_3 = ltI (g k0) := hw
    rw [er_3]
    refine lv_if_eq (tgt := 53) hx hb dX10_scanToken_42 (by decide) (fun c_4 => ?_) (fun c_4 => ?_)
    · skip
      refine lv_iload_n hx hb dX10_scanToken_53 rfl (lv_at hl 0 rfl) ?_
      have hPc := hP.sub (ws' := []) [] rfl
      have hDc := hD.sub (ws' := []) [] (by decide) rfl
      have hKc := hK.sub (tys' := [(cB, .byte), (cI, .int), (cJ, .long), (cZ, .boolean)]) [0, 1, 2, 3] rfl
      have hFc := va_free (wc := []) hD hS hA [] rfl
      refine va_calli (va_runS (As := [.int (g k0)]) (rest := []) ⟨hx, hb, hml, hown, hts⟩ (t_X10_isDigit l dC dI H.size cB cI cJ cZ (g k0)) ⟨callB_of 1 hts (gd_all (in_I kc_X10_isDigit)) rfl rfl rfl (hts _ (List.mem_cons_of_mem _ kw_183)) (hts _ (List.mem_cons_of_mem _ kw_315)) (by decide +kernel) ⟨Nat.le_of_ble_eq_true rfl, Nat.le_of_ble_eq_true rfl⟩, hts _ (List.mem_cons_of_mem _ kw_316)⟩ ⟨fun a U g mk q => by obtain ⟨q0, q1, qP, qK, qD⟩ := q; exact ⟨q0, q1, qP, va_K.moved (u := U) (U := U.calling g mk a) (Vm.Alike.refl U.vm) qK, qD⟩, fun U hU hW => ⟨rfl, by rw [hU], by rw [hU]; exact hPc, va_K.moved hW.alike hKc, hDc.weaken (fun _ _ _ _ => trivial)⟩⟩ rfl rfl hl.1 rfl (lv_room (Nat.le_of_ble_eq_true rfl)) dX10_scanToken_54 ⟨Nat.le_of_ble_eq_true rfl, Nat.le_of_ble_eq_true rfl⟩) hS (fun q _ h => hFc q h) hFc (fun r_5 u t_ H1 locs ht hvm hw hB hz1 hk1 hS => ?_)
      obtain ⟨hP1, hK1, hD1⟩ := hB
      rw [ht] at hP1
      have hK1 := va_K.moved hvm.symm hK1
      obtain ⟨hP, hD⟩ := va_join (wr := [(hKi, .inl (cI, 2001, .inl kf)), (hNu, .inl (cJ, 2001, .inr (.inl (vp_updL vf i 0)))), (hW, .inl (cJ, 39, .inr (.inl tk))), (h0, .inr (11, [.ref hKi, y1, .ref hNu, .ref hT, .int (nI n), .int (nI k0), .ref hW])), (hT, .inl (cB, 2000, .inl g))]) (w1 := []) hP hD [] [0, 1, 2, 3, 4] rfl rfl (by decide) (by decide) hk1 hFc hP1 hD1
      have hK := (hK.sub (tys' := []) [] rfl).app hK1
      generalize H1 = H at hP hS ⊢
      have hP : va_P (dC, dI) vwCl [(hKi, .inl (cI, 2001, .inl kf)), (hNu, .inl (cJ, 2001, .inr (.inl (vp_updL vf i 0)))), (hW, .inl (cJ, 39, .inr (.inl tk))), (h0, .inr (11, [.ref hKi, y1, .ref hNu, .ref hT, .int (nI n), .int (nI k0), .ref hW])), (hT, .inl (cB, 2000, .inl g))] H := hP
      have hD : va_D A [(hKi, .inl (cI, 2001, .inl kf)), (hNu, .inl (cJ, 2001, .inr (.inl (vp_updL vf i 0)))), (hW, .inl (cJ, 39, .inr (.inl tk))), (h0, .inr (11, [.ref hKi, y1, .ref hNu, .ref hT, .int (nI n), .int (nI k0), .ref hW])), (hT, .inl (cB, 2000, .inl g))] := hD
      have hK : va_K (dC, dI) vwCl [(cB, .byte), (cI, .int), (cJ, .long), (cZ, .boolean)] s := hK
      have er_5 : r_5 = dgI (g k0) := hw
      rw [er_5]
      refine lv_if_eq (tgt := 68) hx hb dX10_scanToken_57 (by decide) (fun c_6 => ?_) (fun c_6 => ?_)
      · skip
        refine lv_aload_n hx hb dX10_scanToken_68 rfl (lv_at hl 1 rfl) ?_
        refine va_get (D := (dC, dI)) (ci := 11) (v := .ref hKi) (C := RX10) (T := TX10) (N := 7) hx hb hts (fun w h => List.mem_cons_of_mem _ (uG_X10 w h)) hown hK hP 3 rfl rfl 0 (by decide) (hts _ (List.mem_cons_of_mem _ kw_318)) (fun _ h9 => h9) rfl dX10_scanToken_69 ?_
        refine lv_iload_n hx hb dX10_scanToken_72 rfl (lv_at hl 2 rfl) ?_
        refine lv_aload_n hx hb dX10_scanToken_73 rfl (lv_at hl 1 rfl) ?_
        refine lv_iload_n hx hb dX10_scanToken_74 rfl (lv_at hl 0 rfl) ?_
        have hPc := hP.sub (ws' := [(h0, .inr (11, [.ref hKi, y1, .ref hNu, .ref hT, .int (nI n), .int (nI k0), .ref hW])), (hT, .inl (cB, 2000, .inl g))]) [3, 4] rfl
        have hDc := hD.sub (ws' := [(h0, .inr (11, [.ref hKi, y1, .ref hNu, .ref hT, .int (nI n), .int (nI k0), .ref hW])), (hT, .inl (cB, 2000, .inl g))]) [3, 4] (by decide) rfl
        have hKc := hK.sub (tys' := [(cB, .byte), (cI, .int), (cJ, .long), (cZ, .boolean)]) [0, 1, 2, 3] rfl
        have hFc := va_free (wc := [(h0, .inr (11, [.ref hKi, y1, .ref hNu, .ref hT, .int (nI n), .int (nI k0), .ref hW])), (hT, .inl (cB, 2000, .inl g))]) hD hS hA [3, 4] rfl
        refine va_calli (va_runV (As := [.int (g k0)]) (rest := [.int (nI i), .ref hKi]) ⟨hx, hb, hml, hown, hts⟩ (t_X10_scanSign l dC dI H.size cB cI cJ cZ h0 hT n k0 g (.ref hKi) y1 (.ref hNu) (.ref hW) (g k0) K V fz hn (by omega) (hgb k0)) (cwV 1 hts (gd_all (in_V kw_540 kw_542 kw_7 kw_183 kc_X10_scanSign)) rfl rfl rfl (by decide +kernel) ⟨Nat.le_of_ble_eq_true rfl, Nat.le_of_ble_eq_true rfl⟩) ⟨fun a U g mk q => by obtain ⟨q0, q1, qP, qK, qD, qZ⟩ := q; exact ⟨q0, q1, qP, va_K.moved (u := U) (U := U.calling g mk a) (Vm.Alike.refl U.vm) qK, qD, zE.same (u := U) (U := U.calling g mk a) rfl rfl qZ⟩, va_recv hKc hPc (ci := 11) (q0 := 0) rfl rfl, fun U hU hW => ⟨rfl, by rw [hU], by rw [hU]; exact hPc, va_K.moved hW.alike hKc, hDc.weaken (fun _ _ _ _ => trivial), zE.go hZ hS hU hW hFc⟩⟩ rfl rfl hl.1 rfl (lv_room (Nat.le_of_ble_eq_true rfl)) dX10_scanToken_75 ⟨Nat.le_of_ble_eq_true rfl, Nat.le_of_ble_eq_true rfl⟩) hS (fun q _ h => hFc q h) hFc (fun r_7 u t_ H1 locs ht hvm hw hB hz1 hk1 hS => ?_)
        obtain ⟨k3, hk3⟩ : ∃ k3 : Nat, k3 = u := ⟨u, rfl⟩
        subst hk3
        obtain ⟨hP1, hK1, hD1⟩ := hB
        obtain ⟨hw, hw2⟩ := hw
        rw [ht] at hP1
        have hK1 := va_K.moved hvm.symm hK1
        obtain ⟨hP, hD⟩ := va_join (wr := [(hKi, .inl (cI, 2001, .inl kf)), (hNu, .inl (cJ, 2001, .inr (.inl (vp_updL vf i 0)))), (hW, .inl (cJ, 39, .inr (.inl tk)))]) (w1 := [(h0, .inr (11, [.ref hKi, y1, .ref hNu, .ref hT, .int (nI n), .int (nI k3), .ref hW])), (hT, .inl (cB, 2000, .inl g))]) hP hD [3, 4] [0, 1, 2] rfl rfl (by decide) (by decide) hk1 hFc hP1 hD1
        have hK := (hK.sub (tys' := []) [] rfl).app hK1
        generalize H1 = H at hP hS ⊢
        have hP : va_P (dC, dI) vwCl [(hKi, .inl (cI, 2001, .inl kf)), (hNu, .inl (cJ, 2001, .inr (.inl (vp_updL vf i 0)))), (hW, .inl (cJ, 39, .inr (.inl tk))), (h0, .inr (11, [.ref hKi, y1, .ref hNu, .ref hT, .int (nI n), .int (nI k3), .ref hW])), (hT, .inl (cB, 2000, .inl g))] H := hP
        have hD : va_D A [(hKi, .inl (cI, 2001, .inl kf)), (hNu, .inl (cJ, 2001, .inr (.inl (vp_updL vf i 0)))), (hW, .inl (cJ, 39, .inr (.inl tk))), (h0, .inr (11, [.ref hKi, y1, .ref hNu, .ref hT, .int (nI n), .int (nI k3), .ref hW])), (hT, .inl (cB, 2000, .inl g))] := hD
        have hK : va_K (dC, dI) vwCl [(cB, .byte), (cI, .int), (cJ, .long), (cZ, .boolean)] s := hK
        have hks := hw2
        have er_7 : r_7 = lsI (sgK (g k0)) (btF g n (k0 + 1)) := hw
        rw [er_7]
        refine va_iast hx hb hK hP hD hS 0 1 rfl rfl (i := (nI i)) (x := (lsI (sgK (g k0)) (btF g n (k0 + 1)))) (vp_in_nI (n := i) (N := 2001) (by omega) (by omega)) dX10_scanToken_78 (fun H locs hP hD hS => ?_)
        rw [show (nI i).toNatClampNeg = i from nI_clamp (n := i) (by omega)] at hP hD
        have hP : va_P (dC, dI) vwCl [(hKi, .inl (cI, 2001, .inl (upd kf i (lsI (sgK (g k0)) (btF g n (k0 + 1)))))), (hNu, .inl (cJ, 2001, .inr (.inl (vp_updL vf i 0)))), (hW, .inl (cJ, 39, .inr (.inl tk))), (h0, .inr (11, [.ref hKi, y1, .ref hNu, .ref hT, .int (nI n), .int (nI k3), .ref hW])), (hT, .inl (cB, 2000, .inl g))] H := hP
        have hD : va_D A [(hKi, .inl (cI, 2001, .inl (upd kf i (lsI (sgK (g k0)) (btF g n (k0 + 1)))))), (hNu, .inl (cJ, 2001, .inr (.inl (vp_updL vf i 0)))), (hW, .inl (cJ, 39, .inr (.inl tk))), (h0, .inr (11, [.ref hKi, y1, .ref hNu, .ref hT, .int (nI n), .int (nI k3), .ref hW])), (hT, .inl (cB, 2000, .inl g))] := hD
        have hP9 := hP.sub (ws' := [(h0, .inr (11, [.ref hKi, y1, .ref hNu, .ref hT, .int (nI n), .int (nI k3), .ref hW])), (hT, .inl (cB, 2000, .inl g)), (hKi, .inl (cI, 2001, .inl (upd kf i (lsI (sgK (g k0)) (btF g n (k0 + 1)))))), (hNu, .inl (cJ, 2001, .inr (.inl (vp_updL vf i 0)))), (hW, .inl (cJ, 39, .inr (.inl tk)))]) [3, 4, 0, 1, 2] rfl
        have hD9 := hD.sub (ws' := [(h0, .inr (11, [.ref hKi, y1, .ref hNu, .ref hT, .int (nI n), .int (nI k3), .ref hW])), (hT, .inl (cB, 2000, .inl g)), (hKi, .inl (cI, 2001, .inl (upd kf i (lsI (sgK (g k0)) (btF g n (k0 + 1)))))), (hNu, .inl (cJ, 2001, .inr (.inl (vp_updL vf i 0)))), (hW, .inl (cJ, 39, .inr (.inl tk)))]) [3, 4, 0, 1, 2] (by decide) rfl
        have hK9 := hK.sub (tys' := [(cB, .byte), (cI, .int), (cJ, .long), (cZ, .boolean)]) [0, 1, 2, 3] rfl
        exact W.vret hx hb hr (fun t_ ht hW => ⟨⟨(k3, lsI (sgK (g k0)) (btF g n (k0 + 1)), 0), rfl, tkF_s (by omega) c_4 c_6 rfl hks, by rw [ht]; exact hP9, va_K.moved hW.alike hK9, hD9⟩, hS.F ht⟩) hS.2.2 dX10_scanToken_79
      · skip
        refine lv_aload_n hx hb dX10_scanToken_60 rfl (lv_at hl 1 rfl) ?_
        refine lv_iload_n hx hb dX10_scanToken_61 rfl (lv_at hl 2 rfl) ?_
        have hPc := hP.sub (ws' := [(h0, .inr (11, [.ref hKi, y1, .ref hNu, .ref hT, .int (nI n), .int (nI k0), .ref hW])), (hT, .inl (cB, 2000, .inl g)), (hKi, .inl (cI, 2001, .inl kf)), (hNu, .inl (cJ, 2001, .inr (.inl (vp_updL vf i 0)))), (hW, .inl (cJ, 39, .inr (.inl tk)))]) [3, 4, 0, 1, 2] rfl
        have hDc := hD.sub (ws' := [(h0, .inr (11, [.ref hKi, y1, .ref hNu, .ref hT, .int (nI n), .int (nI k0), .ref hW])), (hT, .inl (cB, 2000, .inl g)), (hKi, .inl (cI, 2001, .inl kf)), (hNu, .inl (cJ, 2001, .inr (.inl (vp_updL vf i 0)))), (hW, .inl (cJ, 39, .inr (.inl tk)))]) [3, 4, 0, 1, 2] (by decide) rfl
        have hKc := hK.sub (tys' := [(cB, .byte), (cI, .int), (cJ, .long), (cZ, .boolean)]) [0, 1, 2, 3] rfl
        have hFc := va_free (wc := [(h0, .inr (11, [.ref hKi, y1, .ref hNu, .ref hT, .int (nI n), .int (nI k0), .ref hW])), (hT, .inl (cB, 2000, .inl g)), (hKi, .inl (cI, 2001, .inl kf)), (hNu, .inl (cJ, 2001, .inr (.inl (vp_updL vf i 0)))), (hW, .inl (cJ, 39, .inr (.inl tk)))]) hD hS hA [3, 4, 0, 1, 2] rfl
        refine va_callv (va_runV (As := [.int (nI i)]) (rest := []) ⟨hx, hb, hml, hown, hts⟩ (t_X10_scanNumber l dC dI H.size cB cI cJ cZ h0 hT hKi hNu hW n k0 g kf (vp_updL vf i 0) tk y1 i hn (by omega) hi) (cwV 1 hts (gd_all (in_V kw_534 kw_536 kw_6 kw_183 kc_X10_scanNumber)) rfl rfl rfl (by decide +kernel) ⟨Nat.le_of_ble_eq_true rfl, Nat.le_of_ble_eq_true rfl⟩) ⟨fun a U g mk q => by obtain ⟨q0, q1, qP, qK, qD⟩ := q; exact ⟨q0, q1, qP, va_K.moved (u := U) (U := U.calling g mk a) (Vm.Alike.refl U.vm) qK, qD⟩, va_recv hKc hPc (ci := 11) (q0 := 0) rfl rfl, fun U hU hW => ⟨rfl, by rw [hU], by rw [hU]; exact hPc, va_K.moved hW.alike hKc, hDc.weaken (fun _ _ _ _ => trivial)⟩⟩ rfl rfl hl.1 rfl (lv_room (Nat.le_of_ble_eq_true rfl)) dX10_scanToken_62 ⟨Nat.le_of_ble_eq_true rfl, Nat.le_of_ble_eq_true rfl⟩) hS (fun q _ h => hFc q h) hFc (fun u t_ H1 locs ht hvm hw hB hz1 hk1 hS => ?_)
        obtain ⟨k3, v3, q3⟩ := u
        obtain ⟨hP1, hK1, hD1⟩ := hB
        rw [updLd] at hP1 hD1
        rw [ht] at hP1
        have hK1 := va_K.moved hvm.symm hK1
        obtain ⟨hP, hD⟩ := va_join (wr := []) (w1 := [(h0, .inr (11, [.ref hKi, y1, .ref hNu, .ref hT, .int (nI n), .int (nI k3), .ref hW])), (hT, .inl (cB, 2000, .inl g)), (hKi, .inl (cI, 2001, .inl (upd kf i q3))), (hNu, .inl (cJ, 2001, .inr (.inl (vp_updL vf i v3)))), (hW, .inl (cJ, 39, .inr (.inl tk)))]) hP hD [3, 4, 0, 1, 2] [] rfl rfl (by decide) (by decide) hk1 hFc hP1 hD1
        have hK := (hK.sub (tys' := []) [] rfl).app hK1
        generalize H1 = H at hP hS ⊢
        have hP : va_P (dC, dI) vwCl [(h0, .inr (11, [.ref hKi, y1, .ref hNu, .ref hT, .int (nI n), .int (nI k3), .ref hW])), (hT, .inl (cB, 2000, .inl g)), (hKi, .inl (cI, 2001, .inl (upd kf i q3))), (hNu, .inl (cJ, 2001, .inr (.inl (vp_updL vf i v3)))), (hW, .inl (cJ, 39, .inr (.inl tk)))] H := hP
        have hD : va_D A [(h0, .inr (11, [.ref hKi, y1, .ref hNu, .ref hT, .int (nI n), .int (nI k3), .ref hW])), (hT, .inl (cB, 2000, .inl g)), (hKi, .inl (cI, 2001, .inl (upd kf i q3))), (hNu, .inl (cJ, 2001, .inr (.inl (vp_updL vf i v3)))), (hW, .inl (cJ, 39, .inr (.inl tk)))] := hD
        have hK : va_K (dC, dI) vwCl [(cB, .byte), (cI, .int), (cJ, .long), (cZ, .boolean)] s := hK
        refine lv_goto (tgt := 79) hx hb dX10_scanToken_65 (by decide) ?_
        have hP9 := hP.sub (ws' := [(h0, .inr (11, [.ref hKi, y1, .ref hNu, .ref hT, .int (nI n), .int (nI k3), .ref hW])), (hT, .inl (cB, 2000, .inl g)), (hKi, .inl (cI, 2001, .inl (upd kf i q3))), (hNu, .inl (cJ, 2001, .inr (.inl (vp_updL vf i v3)))), (hW, .inl (cJ, 39, .inr (.inl tk)))]) [0, 1, 2, 3, 4] rfl
        have hD9 := hD.sub (ws' := [(h0, .inr (11, [.ref hKi, y1, .ref hNu, .ref hT, .int (nI n), .int (nI k3), .ref hW])), (hT, .inl (cB, 2000, .inl g)), (hKi, .inl (cI, 2001, .inl (upd kf i q3))), (hNu, .inl (cJ, 2001, .inr (.inl (vp_updL vf i v3)))), (hW, .inl (cJ, 39, .inr (.inl tk)))]) [0, 1, 2, 3, 4] (by decide) rfl
        have hK9 := hK.sub (tys' := [(cB, .byte), (cI, .int), (cJ, .long), (cZ, .boolean)]) [0, 1, 2, 3] rfl
        exact W.vret hx hb hr (fun t_ ht hW => ⟨⟨(k3, q3, v3), rfl, tkF_d (by omega) c_4 c_6 hw, by rw [ht]; exact hP9, va_K.moved hW.alike hK9, hD9⟩, hS.F ht⟩) hS.2.2 dX10_scanToken_79
    · skip
      refine lv_aload_n hx hb dX10_scanToken_45 rfl (lv_at hl 1 rfl) ?_
      refine lv_iload_n hx hb dX10_scanToken_46 rfl (lv_at hl 2 rfl) ?_
      have hPc := hP.sub (ws' := [(h0, .inr (11, [.ref hKi, y1, .ref hNu, .ref hT, .int (nI n), .int (nI k0), .ref hW])), (hT, .inl (cB, 2000, .inl g)), (hKi, .inl (cI, 2001, .inl kf)), (hNu, .inl (cJ, 2001, .inr (.inl (vp_updL vf i 0)))), (hW, .inl (cJ, 39, .inr (.inl tk)))]) [3, 4, 0, 1, 2] rfl
      have hDc := hD.sub (ws' := [(h0, .inr (11, [.ref hKi, y1, .ref hNu, .ref hT, .int (nI n), .int (nI k0), .ref hW])), (hT, .inl (cB, 2000, .inl g)), (hKi, .inl (cI, 2001, .inl kf)), (hNu, .inl (cJ, 2001, .inr (.inl (vp_updL vf i 0)))), (hW, .inl (cJ, 39, .inr (.inl tk)))]) [3, 4, 0, 1, 2] (by decide) rfl
      have hKc := hK.sub (tys' := [(cB, .byte), (cI, .int), (cJ, .long), (cZ, .boolean)]) [0, 1, 2, 3] rfl
      have hFc := va_free (wc := [(h0, .inr (11, [.ref hKi, y1, .ref hNu, .ref hT, .int (nI n), .int (nI k0), .ref hW])), (hT, .inl (cB, 2000, .inl g)), (hKi, .inl (cI, 2001, .inl kf)), (hNu, .inl (cJ, 2001, .inr (.inl (vp_updL vf i 0)))), (hW, .inl (cJ, 39, .inr (.inl tk)))]) hD hS hA [3, 4, 0, 1, 2] rfl
      refine va_callv (va_runV (As := [.int (nI i)]) (rest := []) ⟨hx, hb, hml, hown, hts⟩ (t_X10_scanWord l dC dI H.size cB cI cJ cZ h0 hT hKi hNu hW n k0 g kf (vp_updL vf i 0) tk y1 i hn (by omega) hi) (cwV 1 hts (gd_all (in_V kw_526 kw_528 kw_4 kw_183 kc_X10_scanWord)) rfl rfl rfl (by decide +kernel) ⟨Nat.le_of_ble_eq_true rfl, Nat.le_of_ble_eq_true rfl⟩) ⟨fun a U g mk q => by obtain ⟨q0, q1, qP, qK, qD⟩ := q; exact ⟨q0, q1, qP, va_K.moved (u := U) (U := U.calling g mk a) (Vm.Alike.refl U.vm) qK, qD⟩, va_recv hKc hPc (ci := 11) (q0 := 0) rfl rfl, fun U hU hW => ⟨rfl, by rw [hU], by rw [hU]; exact hPc, va_K.moved hW.alike hKc, hDc.weaken (fun _ _ _ _ => trivial)⟩⟩ rfl rfl hl.1 rfl (lv_room (Nat.le_of_ble_eq_true rfl)) dX10_scanToken_47 ⟨Nat.le_of_ble_eq_true rfl, Nat.le_of_ble_eq_true rfl⟩) hS (fun q _ h => hFc q h) hFc (fun u t_ H1 locs ht hvm hw hB hz1 hk1 hS => ?_)
      obtain ⟨k3, v3⟩ := u
      obtain ⟨hP1, hK1, hD1⟩ := hB
      rw [updLd] at hP1 hD1
      rw [ht] at hP1
      have hK1 := va_K.moved hvm.symm hK1
      obtain ⟨hP, hD⟩ := va_join (wr := []) (w1 := [(h0, .inr (11, [.ref hKi, y1, .ref hNu, .ref hT, .int (nI n), .int (nI k3), .ref hW])), (hT, .inl (cB, 2000, .inl g)), (hKi, .inl (cI, 2001, .inl (upd kf i (wdK tk k0 k3 v3)))), (hNu, .inl (cJ, 2001, .inr (.inl (vp_updL vf i v3)))), (hW, .inl (cJ, 39, .inr (.inl tk)))]) hP hD [3, 4, 0, 1, 2] [] rfl rfl (by decide) (by decide) hk1 hFc hP1 hD1
      have hK := (hK.sub (tys' := []) [] rfl).app hK1
      generalize H1 = H at hP hS ⊢
      have hP : va_P (dC, dI) vwCl [(h0, .inr (11, [.ref hKi, y1, .ref hNu, .ref hT, .int (nI n), .int (nI k3), .ref hW])), (hT, .inl (cB, 2000, .inl g)), (hKi, .inl (cI, 2001, .inl (upd kf i (wdK tk k0 k3 v3)))), (hNu, .inl (cJ, 2001, .inr (.inl (vp_updL vf i v3)))), (hW, .inl (cJ, 39, .inr (.inl tk)))] H := hP
      have hD : va_D A [(h0, .inr (11, [.ref hKi, y1, .ref hNu, .ref hT, .int (nI n), .int (nI k3), .ref hW])), (hT, .inl (cB, 2000, .inl g)), (hKi, .inl (cI, 2001, .inl (upd kf i (wdK tk k0 k3 v3)))), (hNu, .inl (cJ, 2001, .inr (.inl (vp_updL vf i v3)))), (hW, .inl (cJ, 39, .inr (.inl tk)))] := hD
      have hK : va_K (dC, dI) vwCl [(cB, .byte), (cI, .int), (cJ, .long), (cZ, .boolean)] s := hK
      refine lv_goto (tgt := 79) hx hb dX10_scanToken_50 (by decide) ?_
      have hP9 := hP.sub (ws' := [(h0, .inr (11, [.ref hKi, y1, .ref hNu, .ref hT, .int (nI n), .int (nI k3), .ref hW])), (hT, .inl (cB, 2000, .inl g)), (hKi, .inl (cI, 2001, .inl (upd kf i (wdK tk k0 k3 v3)))), (hNu, .inl (cJ, 2001, .inr (.inl (vp_updL vf i v3)))), (hW, .inl (cJ, 39, .inr (.inl tk)))]) [0, 1, 2, 3, 4] rfl
      have hD9 := hD.sub (ws' := [(h0, .inr (11, [.ref hKi, y1, .ref hNu, .ref hT, .int (nI n), .int (nI k3), .ref hW])), (hT, .inl (cB, 2000, .inl g)), (hKi, .inl (cI, 2001, .inl (upd kf i (wdK tk k0 k3 v3)))), (hNu, .inl (cJ, 2001, .inr (.inl (vp_updL vf i v3)))), (hW, .inl (cJ, 39, .inr (.inl tk)))]) [0, 1, 2, 3, 4] (by decide) rfl
      have hK9 := hK.sub (tys' := [(cB, .byte), (cI, .int), (cJ, .long), (cZ, .boolean)]) [0, 1, 2, 3] rfl
      exact W.vret hx hb hr (fun t_ ht hW => ⟨⟨(k3, wdK tk k0 k3 v3, v3), rfl, tkF_w (by omega) c_4 hw, by rw [ht]; exact hP9, va_K.moved hW.alike hK9, hD9⟩, hS.F ht⟩) hS.2.2 dX10_scanToken_79
  · skip
    have c_2 : ¬ (k0 < n) := fun h => c_2 ((nI_ltI (a := k0) (b := n) (by omega) (by omega)).mpr h)
    refine lv_aload_n hx hb dX10_scanToken_27 rfl (lv_at hl 1 rfl) ?_
    refine va_get (D := (dC, dI)) (ci := 11) (v := .ref hKi) (C := RX10) (T := TX10) (N := 7) hx hb hts (fun w h => List.mem_cons_of_mem _ (uG_X10 w h)) hown hK hP 3 rfl rfl 0 (by decide) (hts _ (List.mem_cons_of_mem _ kw_318)) (fun _ h9 => h9) rfl dX10_scanToken_28 ?_
    refine lv_iload_n hx hb dX10_scanToken_31 rfl (lv_at hl 2 rfl) ?_
    refine lv_bipush (v := 56) hx hb dX10_scanToken_32 (by decide) ?_
    refine va_iast hx hb hK hP hD hS 0 1 rfl rfl (i := (nI i)) (x := 56) (vp_in_nI (n := i) (N := 2001) (by omega) (by omega)) dX10_scanToken_34 (fun H locs hP hD hS => ?_)
    rw [show (nI i).toNatClampNeg = i from nI_clamp (n := i) (by omega)] at hP hD
    have hP : va_P (dC, dI) vwCl [(hKi, .inl (cI, 2001, .inl (upd kf i 56))), (hNu, .inl (cJ, 2001, .inr (.inl (vp_updL vf i 0)))), (hW, .inl (cJ, 39, .inr (.inl tk))), (h0, .inr (11, [.ref hKi, y1, .ref hNu, .ref hT, .int (nI n), .int (nI k0), .ref hW])), (hT, .inl (cB, 2000, .inl g))] H := hP
    have hD : va_D A [(hKi, .inl (cI, 2001, .inl (upd kf i 56))), (hNu, .inl (cJ, 2001, .inr (.inl (vp_updL vf i 0)))), (hW, .inl (cJ, 39, .inr (.inl tk))), (h0, .inr (11, [.ref hKi, y1, .ref hNu, .ref hT, .int (nI n), .int (nI k0), .ref hW])), (hT, .inl (cB, 2000, .inl g))] := hD
    refine lv_goto (tgt := 79) hx hb dX10_scanToken_35 (by decide) ?_
    have hP9 := hP.sub (ws' := [(h0, .inr (11, [.ref hKi, y1, .ref hNu, .ref hT, .int (nI n), .int (nI k0), .ref hW])), (hT, .inl (cB, 2000, .inl g)), (hKi, .inl (cI, 2001, .inl (upd kf i 56))), (hNu, .inl (cJ, 2001, .inr (.inl (vp_updL vf i 0)))), (hW, .inl (cJ, 39, .inr (.inl tk)))]) [3, 4, 0, 1, 2] rfl
    have hD9 := hD.sub (ws' := [(h0, .inr (11, [.ref hKi, y1, .ref hNu, .ref hT, .int (nI n), .int (nI k0), .ref hW])), (hT, .inl (cB, 2000, .inl g)), (hKi, .inl (cI, 2001, .inl (upd kf i 56))), (hNu, .inl (cJ, 2001, .inr (.inl (vp_updL vf i 0)))), (hW, .inl (cJ, 39, .inr (.inl tk)))]) [3, 4, 0, 1, 2] (by decide) rfl
    have hK9 := hK.sub (tys' := [(cB, .byte), (cI, .int), (cJ, .long), (cZ, .boolean)]) [0, 1, 2, 3] rfl
    exact W.vret hx hb hr (fun t_ ht hW => ⟨⟨(k0, 56, 0), rfl, tkF_e (by omega), by rw [ht]; exact hP9, va_K.moved hW.alike hK9, hD9⟩, hS.F ht⟩) hS.2.2 dX10_scanToken_79
theorem dX10_scan_0 : decode cX10_scan 0 = .ok (.aload_n 0, 1) := by decide +kernel
theorem dX10_scan_1 : decode cX10_scan 1 = .ok (.aload_n 1, 1) := by decide +kernel
theorem dX10_scan_2 : decode cX10_scan 2 = .ok (.putfield 22, 3) := by decide +kernel
theorem dX10_scan_5 : decode cX10_scan 5 = .ok (.aload_n 0, 1) := by decide +kernel
theorem dX10_scan_6 : decode cX10_scan 6 = .ok (.iload_n 2, 1) := by decide +kernel
theorem dX10_scan_7 : decode cX10_scan 7 = .ok (.aload_n 1, 1) := by decide +kernel
theorem dX10_scan_8 : decode cX10_scan 8 = .ok (.arraylength, 1) := by decide +kernel
theorem dX10_scan_9 : decode cX10_scan 9 = .ok (.invokestatic 47, 3) := by decide +kernel
theorem dX10_scan_12 : decode cX10_scan 12 = .ok (.putfield 53, 3) := by decide +kernel
theorem dX10_scan_15 : decode cX10_scan 15 = .ok (.aload_n 0, 1) := by decide +kernel
theorem dX10_scan_16 : decode cX10_scan 16 = .ok (.iconst 0, 1) := by decide +kernel
theorem dX10_scan_17 : decode cX10_scan 17 = .ok (.putfield 57, 3) := by decide +kernel
theorem dX10_scan_20 : decode cX10_scan 20 = .ok (.iconst 1, 1) := by decide +kernel
theorem dX10_scan_21 : decode cX10_scan 21 = .ok (.istore_n 3, 1) := by decide +kernel
theorem dX10_scan_22 : decode cX10_scan 22 = .ok (.iconst 0, 1) := by decide +kernel
theorem dX10_scan_23 : decode cX10_scan 23 = .ok (.istore 4, 2) := by decide +kernel
theorem dX10_scan_25 : decode cX10_scan 25 = .ok (.iload 4, 2) := by decide +kernel
theorem dX10_scan_27 : decode cX10_scan 27 = .ok (.aload_n 0, 1) := by decide +kernel
theorem dX10_scan_28 : decode cX10_scan 28 = .ok (.getfield 9, 3) := by decide +kernel
theorem dX10_scan_31 : decode cX10_scan 31 = .ok (.arraylength, 1) := by decide +kernel
theorem dX10_scan_32 : decode cX10_scan 32 = .ok (.if_icmp .ge 64, 3) := by decide +kernel
theorem dX10_scan_35 : decode cX10_scan 35 = .ok (.iload_n 3, 1) := by decide +kernel
theorem dX10_scan_36 : decode cX10_scan 36 = .ok (.ifCond .eq 60, 3) := by decide +kernel
theorem dX10_scan_39 : decode cX10_scan 39 = .ok (.aload_n 0, 1) := by decide +kernel
theorem dX10_scan_40 : decode cX10_scan 40 = .ok (.invokevirtual 60, 3) := by decide +kernel
theorem dX10_scan_43 : decode cX10_scan 43 = .ok (.aload_n 0, 1) := by decide +kernel
theorem dX10_scan_44 : decode cX10_scan 44 = .ok (.getfield 15, 3) := by decide +kernel
theorem dX10_scan_47 : decode cX10_scan 47 = .ok (.iload 4, 2) := by decide +kernel
theorem dX10_scan_49 : decode cX10_scan 49 = .ok (.aload_n 0, 1) := by decide +kernel
theorem dX10_scan_50 : decode cX10_scan 50 = .ok (.getfield 57, 3) := by decide +kernel
theorem dX10_scan_53 : decode cX10_scan 53 = .ok (.iastore, 1) := by decide +kernel
theorem dX10_scan_54 : decode cX10_scan 54 = .ok (.aload_n 0, 1) := by decide +kernel
theorem dX10_scan_55 : decode cX10_scan 55 = .ok (.iload 4, 2) := by decide +kernel
theorem dX10_scan_57 : decode cX10_scan 57 = .ok (.invokevirtual 63, 3) := by decide +kernel
theorem dX10_scan_60 : decode cX10_scan 60 = .ok (.aload_n 0, 1) := by decide +kernel
theorem dX10_scan_61 : decode cX10_scan 61 = .ok (.getfield 9, 3) := by decide +kernel
theorem dX10_scan_64 : decode cX10_scan 64 = .ok (.iload 4, 2) := by decide +kernel
theorem dX10_scan_66 : decode cX10_scan 66 = .ok (.iaload, 1) := by decide +kernel
theorem dX10_scan_67 : decode cX10_scan 67 = .ok (.bipush 56, 2) := by decide +kernel
theorem dX10_scan_69 : decode cX10_scan 69 = .ok (.if_icmp .eq 19, 3) := by decide +kernel
theorem dX10_scan_72 : decode cX10_scan 72 = .ok (.aload_n 0, 1) := by decide +kernel
theorem dX10_scan_73 : decode cX10_scan 73 = .ok (.getfield 9, 3) := by decide +kernel
theorem dX10_scan_76 : decode cX10_scan 76 = .ok (.iload 4, 2) := by decide +kernel
theorem dX10_scan_78 : decode cX10_scan 78 = .ok (.iaload, 1) := by decide +kernel
theorem dX10_scan_79 : decode cX10_scan 79 = .ok (.bipush 57, 2) := by decide +kernel
theorem dX10_scan_81 : decode cX10_scan 81 = .ok (.if_icmp .eq 7, 3) := by decide +kernel
theorem dX10_scan_84 : decode cX10_scan 84 = .ok (.iconst 1, 1) := by decide +kernel
theorem dX10_scan_85 : decode cX10_scan 85 = .ok (.goto 4, 3) := by decide +kernel
theorem dX10_scan_88 : decode cX10_scan 88 = .ok (.iconst 0, 1) := by decide +kernel
theorem dX10_scan_89 : decode cX10_scan 89 = .ok (.istore_n 3, 1) := by decide +kernel
theorem dX10_scan_90 : decode cX10_scan 90 = .ok (.iinc 4 1, 3) := by decide +kernel
theorem dX10_scan_93 : decode cX10_scan 93 = .ok (.goto (-68), 3) := by decide +kernel
theorem dX10_scan_96 : decode cX10_scan 96 = .ok (.return_, 1) := by decide +kernel
abbrev cs_t_X10_scan (cB cI cJ cZ : ClassId) (h0 hT hKi hPl hNu hW n : Nat) (g kf pf : Nat → Int32) (vf tk : Nat → Int64) (y3 : Value) (j4 j5 : Int32) (K V : Nat → Nat) (fz : Value) : va_W := [(h0, .inr (11, [.ref hKi, .ref hPl, .ref hNu, y3, .int j4, .int j5, .ref hW])), (hT, .inl (cB, 2000, .inl g)), (hKi, .inl (cI, 2001, .inl kf)), (hNu, .inl (cJ, 2001, .inr (.inl vf))), (hW, .inl (cJ, 39, .inr (.inl tk))), (hPl, .inl (cI, 2001, .inl pf))]
abbrev pc_t_X10_scan (dC : Nat → ClassId) (dI : Nat → Nat → Nat) (sz : Nat) (cB cI cJ cZ : ClassId) (h0 hT hKi hPl hNu hW n : Nat) (g kf pf : Nat → Int32) (vf tk : Nat → Int64) (y3 : Value) (j4 j5 : Int32) (K V : Nat → Nat) (fz : Value) : Array Value → State → Prop := va_Pc [.ref h0, .ref hT, .int (nI n)] (fun U => U.heap.size = sz ∧ va_P (dC, dI) vwCl [(h0, .inr (11, [.ref hKi, .ref hPl, .ref hNu, y3, .int j4, .int j5, .ref hW])), (hT, .inl (cB, 2000, .inl g)), (hKi, .inl (cI, 2001, .inl kf)), (hNu, .inl (cJ, 2001, .inr (.inl vf))), (hW, .inl (cJ, 39, .inr (.inl tk))), (hPl, .inl (cI, 2001, .inl pf))] U.heap ∧ va_K (dC, dI) vwCl [(cB, .byte), (cI, .int), (cJ, .long), (cZ, .boolean)] U ∧ va_D (fun _ => True) [(h0, .inr (11, [.ref hKi, .ref hPl, .ref hNu, y3, .int j4, .int j5, .ref hW])), (hT, .inl (cB, 2000, .inl g)), (hKi, .inl (cI, 2001, .inl kf)), (hNu, .inl (cJ, 2001, .inr (.inl vf))), (hW, .inl (cJ, 39, .inr (.inl tk))), (hPl, .inl (cI, 2001, .inl pf))] ∧ zE K V fz (va_A (cs_t_X10_scan cB cI cJ cZ h0 hT hKi hPl hNu hW n g kf pf vf tk y3 j4 j5 K V fz) sz) U)
abbrev qc_t_X10_scan (dC : Nat → ClassId) (dI : Nat → Nat → Nat) (cB cI cJ cZ : ClassId) (h0 hT hKi hPl hNu hW n : Nat) (g kf pf : Nat → Int32) (vf tk : Nat → Int64) (y3 : Value) (j4 j5 : Int32) (K V : Nat → Nat) (fz : Value) (A : Nat → Prop) : Array Value → State → Outcome → State → Prop := va_Qv (fun (u : Nat) => match u with | i2 => (i2 = 2001 ∨ moreI g n tk i2 = 0) ∧ ∀ j, j < i2 → ¬ moreI g n tk j = 0) (fun (u : Nat) t_ => match u with | i2 => va_P (dC, dI) vwCl [(h0, .inr (11, [.ref hKi, .ref hPl, .ref hNu, .ref hT, .int (nI n), .int (nI (psF g n tk i2)), .ref hW])), (hT, .inl (cB, 2000, .inl g)), (hKi, .inl (cI, 2001, .inl (laid kf (kiF g n tk) i2))), (hNu, .inl (cJ, 2001, .inr (.inl (laidL vf (nbF g n tk) i2)))), (hW, .inl (cJ, 39, .inr (.inl tk))), (hPl, .inl (cI, 2001, .inl (laid pf (fun j => nI (plF g n tk j)) i2)))] t_.heap ∧ va_K (dC, dI) vwCl [(cB, .byte), (cI, .int), (cJ, .long), (cZ, .boolean)] t_ ∧ va_D A [(h0, .inr (11, [.ref hKi, .ref hPl, .ref hNu, .ref hT, .int (nI n), .int (nI (psF g n tk i2)), .ref hW])), (hT, .inl (cB, 2000, .inl g)), (hKi, .inl (cI, 2001, .inl (laid kf (kiF g n tk) i2))), (hNu, .inl (cJ, 2001, .inr (.inl (laidL vf (nbF g n tk) i2)))), (hW, .inl (cJ, 39, .inr (.inl tk))), (hPl, .inl (cI, 2001, .inl (laid pf (fun j => nI (plF g n tk j)) i2)))]) A
set_option maxHeartbeats 4000000 in
set_option maxRecDepth 100000 in
theorem t_X10_scan (l : Launch) (dC : Nat → ClassId) (dI : Nat → Nat → Nat) (sz : Nat) (cB cI cJ cZ : ClassId) (h0 hT hKi hPl hNu hW n : Nat) (g kf pf : Nat → Int32) (vf tk : Nat → Int64) (y3 : Value) (j4 j5 : Int32) (K V : Nat → Nat) (fz : Value) (hn : n ≤ 2000) (hgb : sb_Fit g) : Met l yX10_scan (wsOf yX10_scan cX10_scan 5 none) ({ frames := 7, cells := 0, slots := 0, locals := 420 }) (pc_t_X10_scan dC dI sz cB cI cJ cZ h0 hT hKi hPl hNu hW n g kf pf vf tk y3 j4 j5 K V fz) (qc_t_X10_scan dC dI cB cI cJ cZ h0 hT hKi hPl hNu hW n g kf pf vf tk y3 j4 j5 K V fz (va_A (cs_t_X10_scan cB cI cJ cZ h0 hT hKi hPl hNu hW n g kf pf vf tk y3 j4 j5 K V fz) sz)) 0 0 (va_A (cs_t_X10_scan cB cI cJ cZ h0 hT hKi hPl hNu hW n g kf pf vf tk y3 j4 j5 K V fz) sz) := by
  refine Met.ofW (cc := cX10_scan) (maxL := 5) (ret := none) (by decide) rfl ?_
  intro p e s m args below meth c s₁ B hml hv
  obtain ⟨rfl, hsz, hP, hK, hD0, hZ⟩ := hv
  have hx := B.exec
  have hb := B.bytes
  have hr := B.returns
  have hts := atoms_spec (ws := (wsOf yX10_scan cX10_scan 5 none)) B.pre
  have hown : s.vm.findClass RX10 = some m.cls := findClass_of_methodNamed B.named
  have hlocks := B.notSynchronized
  subst hsz
  have hD := hD0.self (sz := s.heap.size)
  generalize hAe : va_A (cs_t_X10_scan cB cI cJ cZ h0 hT hKi hPl hNu hW n g kf pf vf tk y3 j4 j5 K V fz) s.heap.size = A at hD hZ ⊢
  have hA : ∀ q : Nat, s.heap.size ≤ q → A q := fun q h => by rw [← hAe]; exact Or.inr h
  have hS : va_S A s.heap s.heap [] := va_S.rf
  have hP : va_P (dC, dI) vwCl [(h0, .inr (11, [.ref hKi, .ref hPl, .ref hNu, y3, .int j4, .int j5, .ref hW])), (hT, .inl (cB, 2000, .inl g)), (hKi, .inl (cI, 2001, .inl kf)), (hNu, .inl (cJ, 2001, .inr (.inl vf))), (hW, .inl (cJ, 39, .inr (.inl tk))), (hPl, .inl (cI, 2001, .inl pf))] s.heap := hP
  have hl := lv_entry ([.ref h0, .ref hT, .int (nI n)]) (n := 5) (Nat.le_of_ble_eq_true rfl)
  rw [lg_entry_eq]
  generalize (lg_sl ([.ref h0, .ref hT, .int (nI n)]) ++ List.replicate (5 - (lg_sl ([.ref h0, .ref hT, .int (nI n)])).length) Slot.unset).toArray = ls at hl ⊢
  have hl : lv_has ls 5 [(0, .ref h0), (1, .ref hT), (2, .int (nI n))] := hl
  refine lv_aload_n hx hb dX10_scan_0 rfl (lv_at hl 0 rfl) ?_
  refine lv_aload_n hx hb dX10_scan_1 rfl (lv_at hl 1 rfl) ?_
  refine va_put (D := (dC, dI)) (ci := 11) (v := .ref hT) (ty := .array .byte) (C := RX10) (T := TX10) (N := 7) hx hb hts (fun w h => List.mem_cons_of_mem _ (uG_X10 w h)) tyX10 tyX10_ok nmX10 hown hK hP hD hS 0 rfl rfl 3 (by decide) (hts _ (List.mem_cons_of_mem _ kw_324)) (fun _ h9 => h9) rfl (by decide +kernel) rfl rfl (Nat.le_of_ble_eq_true rfl) dX10_scan_2 (fun H locs hP hD hS => ?_)
  have hP : va_P (dC, dI) vwCl [(h0, .inr (11, [.ref hKi, .ref hPl, .ref hNu, .ref hT, .int j4, .int j5, .ref hW])), (hT, .inl (cB, 2000, .inl g)), (hKi, .inl (cI, 2001, .inl kf)), (hNu, .inl (cJ, 2001, .inr (.inl vf))), (hW, .inl (cJ, 39, .inr (.inl tk))), (hPl, .inl (cI, 2001, .inl pf))] H := hP
  have hD : va_D A [(h0, .inr (11, [.ref hKi, .ref hPl, .ref hNu, .ref hT, .int j4, .int j5, .ref hW])), (hT, .inl (cB, 2000, .inl g)), (hKi, .inl (cI, 2001, .inl kf)), (hNu, .inl (cJ, 2001, .inr (.inl vf))), (hW, .inl (cJ, 39, .inr (.inl tk))), (hPl, .inl (cI, 2001, .inl pf))] := hD
  refine lv_aload_n hx hb dX10_scan_5 rfl (lv_at hl 0 rfl) ?_
  refine lv_iload_n hx hb dX10_scan_6 rfl (lv_at hl 2 rfl) ?_
  refine lv_aload_n hx hb dX10_scan_7 rfl (lv_at hl 1 rfl) ?_
  refine va_alen (v := 2000) hx hb hK hP 1 0 rfl rfl rfl dX10_scan_8 ?_
  refine va_mmin hx hb (hml.trans hl.1.symm) hown (hts _ (List.mem_cons_of_mem _ kw_505)) (hts _ (List.mem_cons_of_mem _ kw_506)) (hts _ (List.mem_cons_of_mem _ kw_190)) (hts _ (List.mem_cons_of_mem _ kc_min)) (Nat.le_of_ble_eq_true rfl) (Nat.le_of_ble_eq_true rfl) (Nat.le_of_ble_eq_true rfl) (Nat.le_of_ble_eq_true rfl) dX10_scan_9 ?_
  refine lv_topi (fun x_1 ex_1 => ?_)
  have ex_1 : x_1 = nI n := by rw [ex_1]; exact if_neg (fun h => by have := (nI_ltI (a := 2000) (b := n) (by omega) (by omega)).mp h; omega)
  subst ex_1
  refine va_put (D := (dC, dI)) (ci := 11) (v := .int (nI n)) (ty := .int) (C := RX10) (T := TX10) (N := 7) hx hb hts (fun w h => List.mem_cons_of_mem _ (uG_X10 w h)) tyX10 tyX10_ok nmX10 hown hK hP hD hS 0 rfl rfl 4 (by decide) (hts _ (List.mem_cons_of_mem _ kw_325)) (fun _ h9 => h9) rfl (by decide +kernel) rfl rfl (Nat.le_of_ble_eq_true rfl) dX10_scan_12 (fun H locs hP hD hS => ?_)
  have hP : va_P (dC, dI) vwCl [(h0, .inr (11, [.ref hKi, .ref hPl, .ref hNu, .ref hT, .int (nI n), .int j5, .ref hW])), (hT, .inl (cB, 2000, .inl g)), (hKi, .inl (cI, 2001, .inl kf)), (hNu, .inl (cJ, 2001, .inr (.inl vf))), (hW, .inl (cJ, 39, .inr (.inl tk))), (hPl, .inl (cI, 2001, .inl pf))] H := hP
  have hD : va_D A [(h0, .inr (11, [.ref hKi, .ref hPl, .ref hNu, .ref hT, .int (nI n), .int j5, .ref hW])), (hT, .inl (cB, 2000, .inl g)), (hKi, .inl (cI, 2001, .inl kf)), (hNu, .inl (cJ, 2001, .inr (.inl vf))), (hW, .inl (cJ, 39, .inr (.inl tk))), (hPl, .inl (cI, 2001, .inl pf))] := hD
  refine lv_aload_n hx hb dX10_scan_15 rfl (lv_at hl 0 rfl) ?_
  refine lv_iconst (v := 0) hx hb dX10_scan_16 (by decide) ?_
  refine va_put (D := (dC, dI)) (ci := 11) (v := .int 0) (ty := .int) (C := RX10) (T := TX10) (N := 7) hx hb hts (fun w h => List.mem_cons_of_mem _ (uG_X10 w h)) tyX10 tyX10_ok nmX10 hown hK hP hD hS 0 rfl rfl 5 (by decide) (hts _ (List.mem_cons_of_mem _ kw_326)) (fun _ h9 => h9) rfl (by decide +kernel) rfl rfl (Nat.le_of_ble_eq_true rfl) dX10_scan_17 (fun H locs hP hD hS => ?_)
  have hP : va_P (dC, dI) vwCl [(h0, .inr (11, [.ref hKi, .ref hPl, .ref hNu, .ref hT, .int (nI n), .int 0, .ref hW])), (hT, .inl (cB, 2000, .inl g)), (hKi, .inl (cI, 2001, .inl kf)), (hNu, .inl (cJ, 2001, .inr (.inl vf))), (hW, .inl (cJ, 39, .inr (.inl tk))), (hPl, .inl (cI, 2001, .inl pf))] H := hP
  have hD : va_D A [(h0, .inr (11, [.ref hKi, .ref hPl, .ref hNu, .ref hT, .int (nI n), .int 0, .ref hW])), (hT, .inl (cB, 2000, .inl g)), (hKi, .inl (cI, 2001, .inl kf)), (hNu, .inl (cJ, 2001, .inr (.inl vf))), (hW, .inl (cJ, 39, .inr (.inl tk))), (hPl, .inl (cI, 2001, .inl pf))] := hD
  refine lv_iconst (v := 1) hx hb dX10_scan_20 (by decide) ?_
  refine lv_istore_n (lv' := [(3, .int 1), (0, .ref h0), (1, .ref hT), (2, .int (nI n))]) hx hb dX10_scan_21 rfl hl (by decide) rfl (fun ls hl => ?_)
  have e0 : laid kf (kiF g n tk) 0 = kf := laid_0
  have e1 : laid pf (fun j => nI (plF g n tk j)) 0 = pf := laid_0
  have e2 : laidL vf (nbF g n tk) 0 = vf := laidL_0
  rw [← e0, ← e1, ← e2] at hP hD
  have hP : va_P (dC, dI) vwCl [(h0, .inr (11, [.ref hKi, .ref hPl, .ref hNu, .ref hT, .int (nI n), .int (nI (psF g n tk 0)), .ref hW])), (hT, .inl (cB, 2000, .inl g)), (hKi, .inl (cI, 2001, .inl (laid kf (kiF g n tk) 0))), (hNu, .inl (cJ, 2001, .inr (.inl (laidL vf (nbF g n tk) 0)))), (hW, .inl (cJ, 39, .inr (.inl tk))), (hPl, .inl (cI, 2001, .inl (laid pf (fun j => nI (plF g n tk j)) 0)))] H := hP
  have hD : va_D A [(h0, .inr (11, [.ref hKi, .ref hPl, .ref hNu, .ref hT, .int (nI n), .int (nI (psF g n tk 0)), .ref hW])), (hT, .inl (cB, 2000, .inl g)), (hKi, .inl (cI, 2001, .inl (laid kf (kiF g n tk) 0))), (hNu, .inl (cJ, 2001, .inr (.inl (laidL vf (nbF g n tk) 0)))), (hW, .inl (cJ, 39, .inr (.inl tk))), (hPl, .inl (cI, 2001, .inl (laid pf (fun j => nI (plF g n tk j)) 0)))] := hD
  refine lv_iconst (v := 0) hx hb dX10_scan_22 (by decide) ?_
  refine lv_istore (lv' := [(4, .int 0), (3, .int 1), (0, .ref h0), (1, .ref hT), (2, .int (nI n))]) hx hb dX10_scan_23 hl (by decide) rfl (fun ls hl => ?_)
  have lp_25 : ∀ (n_ : Nat) (i : Nat), i ≤ 2001 → (∀ j, j < i → ¬ moreI g n tk j = 0) → 2001 - i < n_ → ∀ (H : Heap) (locs : List Loc) (ls : Array Slot), va_P (dC, dI) vwCl [(h0, .inr (11, [.ref hKi, .ref hPl, .ref hNu, .ref hT, .int (nI n), .int (nI (psF g n tk i)), .ref hW])), (hT, .inl (cB, 2000, .inl g)), (hKi, .inl (cI, 2001, .inl (laid kf (kiF g n tk) i))), (hNu, .inl (cJ, 2001, .inr (.inl (laidL vf (nbF g n tk) i)))), (hW, .inl (cJ, 39, .inr (.inl tk))), (hPl, .inl (cI, 2001, .inl (laid pf (fun j => nI (plF g n tk j)) i)))] H → va_D A [(h0, .inr (11, [.ref hKi, .ref hPl, .ref hNu, .ref hT, .int (nI n), .int (nI (psF g n tk i)), .ref hW])), (hT, .inl (cB, 2000, .inl g)), (hKi, .inl (cI, 2001, .inl (laid kf (kiF g n tk) i))), (hNu, .inl (cJ, 2001, .inr (.inl (laidL vf (nbF g n tk) i)))), (hW, .inl (cJ, 39, .inr (.inl tk))), (hPl, .inl (cI, 2001, .inl (laid pf (fun j => nI (plF g n tk j)) i)))] → va_S A s.heap H locs → lv_has ls 5 [(4, .int (nI i)), (3, .int (moreI g n tk i)), (0, .ref h0), (1, .ref hT), (2, .int (nI n))] → W p l e (headSpec (wsOf yX10_scan cX10_scan 5 none) ({ frames := 7, cells := 0, slots := 0, locals := 420 })).room s m ([.ref h0, .ref hT, .int (nI n)] : List Value).toArray below meth c H locs 0 0 (MQ below (qc_t_X10_scan dC dI cB cI cJ cZ h0 hT hKi hPl hNu hW n g kf pf vf tk y3 j4 j5 K V fz A) ([.ref h0, .ref hT, .int (nI n)] : List Value).toArray s 0 0 A) (F0 m 25 ls []) := by
    intro n_
    induction n_ with
    | zero => intro i hi hgo hm; exact absurd hm (Nat.not_lt_zero _)
    | succ n_ ih_25 =>
      intro i hi hgo hm H locs ls hP hD hS hl
      have hps := psF_le g n tk i
      have hpl := plF_le g n tk i
      refine lv_iload hx hb dX10_scan_25 (lv_at hl 0 rfl) ?_
      refine lv_aload_n hx hb dX10_scan_27 rfl (lv_at hl 2 rfl) ?_
      refine va_get (D := (dC, dI)) (ci := 11) (v := .ref hKi) (C := RX10) (T := TX10) (N := 7) hx hb hts (fun w h => List.mem_cons_of_mem _ (uG_X10 w h)) hown hK hP 0 rfl rfl 0 (by decide) (hts _ (List.mem_cons_of_mem _ kw_318)) (fun _ h9 => h9) rfl dX10_scan_28 ?_
      refine va_alen (v := 2001) hx hb hK hP 2 1 rfl rfl rfl dX10_scan_31 ?_
      refine lv_icmp_ge (tgt := 96) hx hb dX10_scan_32 (by decide) (fun c_2 => ?_) (fun c_2 => ?_)
      · skip
        have c_2 : 2001 ≤ i := (nI_leI (a := 2001) (b := i) (by omega) (by omega)).mp c_2
        have hP9 := hP.sub (ws' := [(h0, .inr (11, [.ref hKi, .ref hPl, .ref hNu, .ref hT, .int (nI n), .int (nI (psF g n tk i)), .ref hW])), (hT, .inl (cB, 2000, .inl g)), (hKi, .inl (cI, 2001, .inl (laid kf (kiF g n tk) i))), (hNu, .inl (cJ, 2001, .inr (.inl (laidL vf (nbF g n tk) i)))), (hW, .inl (cJ, 39, .inr (.inl tk))), (hPl, .inl (cI, 2001, .inl (laid pf (fun j => nI (plF g n tk j)) i)))]) [0, 1, 2, 3, 4, 5] rfl
        have hD9 := hD.sub (ws' := [(h0, .inr (11, [.ref hKi, .ref hPl, .ref hNu, .ref hT, .int (nI n), .int (nI (psF g n tk i)), .ref hW])), (hT, .inl (cB, 2000, .inl g)), (hKi, .inl (cI, 2001, .inl (laid kf (kiF g n tk) i))), (hNu, .inl (cJ, 2001, .inr (.inl (laidL vf (nbF g n tk) i)))), (hW, .inl (cJ, 39, .inr (.inl tk))), (hPl, .inl (cI, 2001, .inl (laid pf (fun j => nI (plF g n tk j)) i)))]) [0, 1, 2, 3, 4, 5] (by decide) rfl
        have hK9 := hK.sub (tys' := [(cB, .byte), (cI, .int), (cJ, .long), (cZ, .boolean)]) [0, 1, 2, 3] rfl
        exact W.vret hx hb hr (fun t_ ht hW => ⟨⟨i, rfl, ⟨Or.inl (by omega), hgo⟩, by rw [ht]; exact hP9, va_K.moved hW.alike hK9, hD9⟩, hS.F ht⟩) hS.2.2 dX10_scan_96
      · skip
        have c_2 : ¬ (2001 ≤ i) := fun h => c_2 ((nI_leI (a := 2001) (b := i) (by omega) (by omega)).mpr h)
        refine lv_iload_n hx hb dX10_scan_35 rfl (lv_at hl 1 rfl) ?_
        refine lv_if_eq (tgt := 96) hx hb dX10_scan_36 (by decide) (fun c_3 => ?_) (fun c_3 => ?_)
        · skip
          have hP9 := hP.sub (ws' := [(h0, .inr (11, [.ref hKi, .ref hPl, .ref hNu, .ref hT, .int (nI n), .int (nI (psF g n tk i)), .ref hW])), (hT, .inl (cB, 2000, .inl g)), (hKi, .inl (cI, 2001, .inl (laid kf (kiF g n tk) i))), (hNu, .inl (cJ, 2001, .inr (.inl (laidL vf (nbF g n tk) i)))), (hW, .inl (cJ, 39, .inr (.inl tk))), (hPl, .inl (cI, 2001, .inl (laid pf (fun j => nI (plF g n tk j)) i)))]) [0, 1, 2, 3, 4, 5] rfl
          have hD9 := hD.sub (ws' := [(h0, .inr (11, [.ref hKi, .ref hPl, .ref hNu, .ref hT, .int (nI n), .int (nI (psF g n tk i)), .ref hW])), (hT, .inl (cB, 2000, .inl g)), (hKi, .inl (cI, 2001, .inl (laid kf (kiF g n tk) i))), (hNu, .inl (cJ, 2001, .inr (.inl (laidL vf (nbF g n tk) i)))), (hW, .inl (cJ, 39, .inr (.inl tk))), (hPl, .inl (cI, 2001, .inl (laid pf (fun j => nI (plF g n tk j)) i)))]) [0, 1, 2, 3, 4, 5] (by decide) rfl
          have hK9 := hK.sub (tys' := [(cB, .byte), (cI, .int), (cJ, .long), (cZ, .boolean)]) [0, 1, 2, 3] rfl
          exact W.vret hx hb hr (fun t_ ht hW => ⟨⟨i, rfl, ⟨Or.inr c_3, hgo⟩, by rw [ht]; exact hP9, va_K.moved hW.alike hK9, hD9⟩, hS.F ht⟩) hS.2.2 dX10_scan_96
        · skip
          refine lv_aload_n hx hb dX10_scan_39 rfl (lv_at hl 2 rfl) ?_
          have hPc := hP.sub (ws' := [(h0, .inr (11, [.ref hKi, .ref hPl, .ref hNu, .ref hT, .int (nI n), .int (nI (psF g n tk i)), .ref hW])), (hT, .inl (cB, 2000, .inl g))]) [0, 1] rfl
          have hDc := hD.sub (ws' := [(h0, .inr (11, [.ref hKi, .ref hPl, .ref hNu, .ref hT, .int (nI n), .int (nI (psF g n tk i)), .ref hW])), (hT, .inl (cB, 2000, .inl g))]) [0, 1] (by decide) rfl
          have hKc := hK.sub (tys' := [(cB, .byte), (cI, .int), (cJ, .long), (cZ, .boolean)]) [0, 1, 2, 3] rfl
          have hFc := va_free (wc := [(h0, .inr (11, [.ref hKi, .ref hPl, .ref hNu, .ref hT, .int (nI n), .int (nI (psF g n tk i)), .ref hW])), (hT, .inl (cB, 2000, .inl g))]) hD hS hA [0, 1] rfl
          refine va_callv (va_runV (As := []) (rest := []) ⟨hx, hb, hml, hown, hts⟩ (t_X10_skipBlanks l dC dI H.size cB cI cJ cZ h0 hT n (psF g n tk i) g (.ref hKi) (.ref hPl) (.ref hNu) (.ref hW) hn (by omega)) (cwV 0 hts (gd_all (in_V kw_508 kw_510 kw_1 kw_183 kc_X10_skipBlanks)) rfl rfl rfl (by decide +kernel) ⟨Nat.le_of_ble_eq_true rfl, Nat.le_of_ble_eq_true rfl⟩) ⟨fun a U g mk q => by obtain ⟨q0, q1, qP, qK, qD⟩ := q; exact ⟨q0, q1, qP, va_K.moved (u := U) (U := U.calling g mk a) (Vm.Alike.refl U.vm) qK, qD⟩, va_recv hKc hPc (ci := 11) (q0 := 0) rfl rfl, fun U hU hW => ⟨rfl, by rw [hU], by rw [hU]; exact hPc, va_K.moved hW.alike hKc, hDc.weaken (fun _ _ _ _ => trivial)⟩⟩ rfl rfl hl.1 rfl (lv_room (Nat.le_of_ble_eq_true rfl)) dX10_scan_40 ⟨Nat.le_of_ble_eq_true rfl, Nat.le_of_ble_eq_true rfl⟩) hS (fun q _ h => hFc q h) hFc (fun u t_ H1 locs ht hvm hw hB hz1 hk1 hS => ?_)
          obtain ⟨hP1, hK1, hD1⟩ := hB
          have hw : u = plF g n tk i := hw
          rw [hw] at hP1 hD1
          rw [ht] at hP1
          have hK1 := va_K.moved hvm.symm hK1
          obtain ⟨hP, hD⟩ := va_join (wr := [(hKi, .inl (cI, 2001, .inl (laid kf (kiF g n tk) i))), (hNu, .inl (cJ, 2001, .inr (.inl (laidL vf (nbF g n tk) i)))), (hW, .inl (cJ, 39, .inr (.inl tk))), (hPl, .inl (cI, 2001, .inl (laid pf (fun j => nI (plF g n tk j)) i)))]) (w1 := [(h0, .inr (11, [.ref hKi, .ref hPl, .ref hNu, .ref hT, .int (nI n), .int (nI (plF g n tk i)), .ref hW])), (hT, .inl (cB, 2000, .inl g))]) hP hD [0, 1] [2, 3, 4, 5] rfl rfl (by decide) (by decide) hk1 hFc hP1 hD1
          have hK := (hK.sub (tys' := []) [] rfl).app hK1
          generalize H1 = H at hP hS ⊢
          have hP : va_P (dC, dI) vwCl [(hKi, .inl (cI, 2001, .inl (laid kf (kiF g n tk) i))), (hNu, .inl (cJ, 2001, .inr (.inl (laidL vf (nbF g n tk) i)))), (hW, .inl (cJ, 39, .inr (.inl tk))), (hPl, .inl (cI, 2001, .inl (laid pf (fun j => nI (plF g n tk j)) i))), (h0, .inr (11, [.ref hKi, .ref hPl, .ref hNu, .ref hT, .int (nI n), .int (nI (plF g n tk i)), .ref hW])), (hT, .inl (cB, 2000, .inl g))] H := hP
          have hD : va_D A [(hKi, .inl (cI, 2001, .inl (laid kf (kiF g n tk) i))), (hNu, .inl (cJ, 2001, .inr (.inl (laidL vf (nbF g n tk) i)))), (hW, .inl (cJ, 39, .inr (.inl tk))), (hPl, .inl (cI, 2001, .inl (laid pf (fun j => nI (plF g n tk j)) i))), (h0, .inr (11, [.ref hKi, .ref hPl, .ref hNu, .ref hT, .int (nI n), .int (nI (plF g n tk i)), .ref hW])), (hT, .inl (cB, 2000, .inl g))] := hD
          have hK : va_K (dC, dI) vwCl [(cB, .byte), (cI, .int), (cJ, .long), (cZ, .boolean)] s := hK
          refine lv_aload_n hx hb dX10_scan_43 rfl (lv_at hl 2 rfl) ?_
          refine va_get (D := (dC, dI)) (ci := 11) (v := .ref hPl) (C := RX10) (T := TX10) (N := 7) hx hb hts (fun w h => List.mem_cons_of_mem _ (uG_X10 w h)) hown hK hP 4 rfl rfl 1 (by decide) (hts _ (List.mem_cons_of_mem _ kw_320)) (fun _ h9 => h9) rfl dX10_scan_44 ?_
          refine lv_iload hx hb dX10_scan_47 (lv_at hl 0 rfl) ?_
          refine lv_aload_n hx hb dX10_scan_49 rfl (lv_at hl 2 rfl) ?_
          refine va_get (D := (dC, dI)) (ci := 11) (v := .int (nI (plF g n tk i))) (C := RX10) (T := TX10) (N := 7) hx hb hts (fun w h => List.mem_cons_of_mem _ (uG_X10 w h)) hown hK hP 4 rfl rfl 5 (by decide) (hts _ (List.mem_cons_of_mem _ kw_326)) (fun _ h9 => h9) rfl dX10_scan_50 ?_
          refine va_iast hx hb hK hP hD hS 3 1 rfl rfl (i := (nI i)) (x := (nI (plF g n tk i))) (vp_in_nI (n := i) (N := 2001) (by omega) (by omega)) dX10_scan_53 (fun H locs hP hD hS => ?_)
          rw [show (nI i).toNatClampNeg = i from nI_clamp (n := i) (by omega)] at hP hD
          have hP : va_P (dC, dI) vwCl [(hKi, .inl (cI, 2001, .inl (laid kf (kiF g n tk) i))), (hNu, .inl (cJ, 2001, .inr (.inl (laidL vf (nbF g n tk) i)))), (hW, .inl (cJ, 39, .inr (.inl tk))), (hPl, .inl (cI, 2001, .inl (upd (laid pf (fun j => nI (plF g n tk j)) i) i (nI (plF g n tk i))))), (h0, .inr (11, [.ref hKi, .ref hPl, .ref hNu, .ref hT, .int (nI n), .int (nI (plF g n tk i)), .ref hW])), (hT, .inl (cB, 2000, .inl g))] H := hP
          have hD : va_D A [(hKi, .inl (cI, 2001, .inl (laid kf (kiF g n tk) i))), (hNu, .inl (cJ, 2001, .inr (.inl (laidL vf (nbF g n tk) i)))), (hW, .inl (cJ, 39, .inr (.inl tk))), (hPl, .inl (cI, 2001, .inl (upd (laid pf (fun j => nI (plF g n tk j)) i) i (nI (plF g n tk i))))), (h0, .inr (11, [.ref hKi, .ref hPl, .ref hNu, .ref hT, .int (nI n), .int (nI (plF g n tk i)), .ref hW])), (hT, .inl (cB, 2000, .inl g))] := hD
          have ep : upd (laid pf (fun j => nI (plF g n tk j)) i) i (nI (plF g n tk i)) = laid pf (fun j => nI (plF g n tk j)) (i + 1) := laid_s (t := fun j => nI (plF g n tk j))
          rw [ep] at hP hD
          have hP : va_P (dC, dI) vwCl [(hKi, .inl (cI, 2001, .inl (laid kf (kiF g n tk) i))), (hNu, .inl (cJ, 2001, .inr (.inl (laidL vf (nbF g n tk) i)))), (hW, .inl (cJ, 39, .inr (.inl tk))), (hPl, .inl (cI, 2001, .inl (laid pf (fun j => nI (plF g n tk j)) (i + 1)))), (h0, .inr (11, [.ref hKi, .ref hPl, .ref hNu, .ref hT, .int (nI n), .int (nI (plF g n tk i)), .ref hW])), (hT, .inl (cB, 2000, .inl g))] H := hP
          have hD : va_D A [(hKi, .inl (cI, 2001, .inl (laid kf (kiF g n tk) i))), (hNu, .inl (cJ, 2001, .inr (.inl (laidL vf (nbF g n tk) i)))), (hW, .inl (cJ, 39, .inr (.inl tk))), (hPl, .inl (cI, 2001, .inl (laid pf (fun j => nI (plF g n tk j)) (i + 1)))), (h0, .inr (11, [.ref hKi, .ref hPl, .ref hNu, .ref hT, .int (nI n), .int (nI (plF g n tk i)), .ref hW])), (hT, .inl (cB, 2000, .inl g))] := hD
          refine lv_aload_n hx hb dX10_scan_54 rfl (lv_at hl 2 rfl) ?_
          refine lv_iload hx hb dX10_scan_55 (lv_at hl 0 rfl) ?_
          have hPc := hP.sub (ws' := [(h0, .inr (11, [.ref hKi, .ref hPl, .ref hNu, .ref hT, .int (nI n), .int (nI (plF g n tk i)), .ref hW])), (hT, .inl (cB, 2000, .inl g)), (hKi, .inl (cI, 2001, .inl (laid kf (kiF g n tk) i))), (hNu, .inl (cJ, 2001, .inr (.inl (laidL vf (nbF g n tk) i)))), (hW, .inl (cJ, 39, .inr (.inl tk)))]) [4, 5, 0, 1, 2] rfl
          have hDc := hD.sub (ws' := [(h0, .inr (11, [.ref hKi, .ref hPl, .ref hNu, .ref hT, .int (nI n), .int (nI (plF g n tk i)), .ref hW])), (hT, .inl (cB, 2000, .inl g)), (hKi, .inl (cI, 2001, .inl (laid kf (kiF g n tk) i))), (hNu, .inl (cJ, 2001, .inr (.inl (laidL vf (nbF g n tk) i)))), (hW, .inl (cJ, 39, .inr (.inl tk)))]) [4, 5, 0, 1, 2] (by decide) rfl
          have hKc := hK.sub (tys' := [(cB, .byte), (cI, .int), (cJ, .long), (cZ, .boolean)]) [0, 1, 2, 3] rfl
          have hFc := va_free (wc := [(h0, .inr (11, [.ref hKi, .ref hPl, .ref hNu, .ref hT, .int (nI n), .int (nI (plF g n tk i)), .ref hW])), (hT, .inl (cB, 2000, .inl g)), (hKi, .inl (cI, 2001, .inl (laid kf (kiF g n tk) i))), (hNu, .inl (cJ, 2001, .inr (.inl (laidL vf (nbF g n tk) i)))), (hW, .inl (cJ, 39, .inr (.inl tk)))]) hD hS hA [4, 5, 0, 1, 2] rfl
          refine va_callv (va_runV (As := [.int (nI i)]) (rest := []) ⟨hx, hb, hml, hown, hts⟩ (t_X10_scanToken l dC dI H.size cB cI cJ cZ h0 hT hKi hNu hW n (plF g n tk i) g (laid kf (kiF g n tk) i) (laidL vf (nbF g n tk) i) tk (.ref hPl) i K V fz hn (by omega) (by omega) hgb) (cwV 1 hts (gd_all (in_V kw_519 kw_521 kw_3 kw_183 kc_X10_scanToken)) rfl rfl rfl (by decide +kernel) ⟨Nat.le_of_ble_eq_true rfl, Nat.le_of_ble_eq_true rfl⟩) ⟨fun a U g mk q => by obtain ⟨q0, q1, qP, qK, qD, qZ⟩ := q; exact ⟨q0, q1, qP, va_K.moved (u := U) (U := U.calling g mk a) (Vm.Alike.refl U.vm) qK, qD, zE.same (u := U) (U := U.calling g mk a) rfl rfl qZ⟩, va_recv hKc hPc (ci := 11) (q0 := 0) rfl rfl, fun U hU hW => ⟨rfl, by rw [hU], by rw [hU]; exact hPc, va_K.moved hW.alike hKc, hDc.weaken (fun _ _ _ _ => trivial), zE.go hZ hS hU hW hFc⟩⟩ rfl rfl hl.1 rfl (lv_room (Nat.le_of_ble_eq_true rfl)) dX10_scan_57 ⟨Nat.le_of_ble_eq_true rfl, Nat.le_of_ble_eq_true rfl⟩) hS (fun q _ h => hFc q h) hFc (fun u t_ H1 locs ht hvm hw hB hz1 hk1 hS => ?_)
          obtain ⟨k3, q3, v3⟩ := u
          obtain ⟨hP1, hK1, hD1⟩ := hB
          have hw : (k3, q3, v3) = tkF g n tk (plF g n tk i) := hw
          have e1 : k3 = psF g n tk (i + 1) := congrArg Prod.fst hw
          have e2 : q3 = kiF g n tk i := congrArg (fun z => z.2.1) hw
          have e3 : v3 = nbF g n tk i := congrArg (fun z => z.2.2) hw
          rw [e1, e2, e3, laid_s, laidL_s] at hP1 hD1
          rw [ht] at hP1
          have hK1 := va_K.moved hvm.symm hK1
          obtain ⟨hP, hD⟩ := va_join (wr := [(hPl, .inl (cI, 2001, .inl (laid pf (fun j => nI (plF g n tk j)) (i + 1))))]) (w1 := [(h0, .inr (11, [.ref hKi, .ref hPl, .ref hNu, .ref hT, .int (nI n), .int (nI (psF g n tk (i + 1))), .ref hW])), (hT, .inl (cB, 2000, .inl g)), (hKi, .inl (cI, 2001, .inl (laid kf (kiF g n tk) (i + 1)))), (hNu, .inl (cJ, 2001, .inr (.inl (laidL vf (nbF g n tk) (i + 1))))), (hW, .inl (cJ, 39, .inr (.inl tk)))]) hP hD [4, 5, 0, 1, 2] [3] rfl rfl (by decide) (by decide) hk1 hFc hP1 hD1
          have hK := (hK.sub (tys' := []) [] rfl).app hK1
          generalize H1 = H at hP hS ⊢
          have hP : va_P (dC, dI) vwCl [(hPl, .inl (cI, 2001, .inl (laid pf (fun j => nI (plF g n tk j)) (i + 1)))), (h0, .inr (11, [.ref hKi, .ref hPl, .ref hNu, .ref hT, .int (nI n), .int (nI (psF g n tk (i + 1))), .ref hW])), (hT, .inl (cB, 2000, .inl g)), (hKi, .inl (cI, 2001, .inl (laid kf (kiF g n tk) (i + 1)))), (hNu, .inl (cJ, 2001, .inr (.inl (laidL vf (nbF g n tk) (i + 1))))), (hW, .inl (cJ, 39, .inr (.inl tk)))] H := hP
          have hD : va_D A [(hPl, .inl (cI, 2001, .inl (laid pf (fun j => nI (plF g n tk j)) (i + 1)))), (h0, .inr (11, [.ref hKi, .ref hPl, .ref hNu, .ref hT, .int (nI n), .int (nI (psF g n tk (i + 1))), .ref hW])), (hT, .inl (cB, 2000, .inl g)), (hKi, .inl (cI, 2001, .inl (laid kf (kiF g n tk) (i + 1)))), (hNu, .inl (cJ, 2001, .inr (.inl (laidL vf (nbF g n tk) (i + 1))))), (hW, .inl (cJ, 39, .inr (.inl tk)))] := hD
          have hK : va_K (dC, dI) vwCl [(cB, .byte), (cI, .int), (cJ, .long), (cZ, .boolean)] s := hK
          have mg_6 : ∀ (H : Heap) (locs : List Loc), va_P (dC, dI) vwCl [(hPl, .inl (cI, 2001, .inl (laid pf (fun j => nI (plF g n tk j)) (i + 1)))), (h0, .inr (11, [.ref hKi, .ref hPl, .ref hNu, .ref hT, .int (nI n), .int (nI (psF g n tk (i + 1))), .ref hW])), (hT, .inl (cB, 2000, .inl g)), (hKi, .inl (cI, 2001, .inl (laid kf (kiF g n tk) (i + 1)))), (hNu, .inl (cJ, 2001, .inr (.inl (laidL vf (nbF g n tk) (i + 1))))), (hW, .inl (cJ, 39, .inr (.inl tk)))] H → va_D A [(hPl, .inl (cI, 2001, .inl (laid pf (fun j => nI (plF g n tk j)) (i + 1)))), (h0, .inr (11, [.ref hKi, .ref hPl, .ref hNu, .ref hT, .int (nI n), .int (nI (psF g n tk (i + 1))), .ref hW])), (hT, .inl (cB, 2000, .inl g)), (hKi, .inl (cI, 2001, .inl (laid kf (kiF g n tk) (i + 1)))), (hNu, .inl (cJ, 2001, .inr (.inl (laidL vf (nbF g n tk) (i + 1))))), (hW, .inl (cJ, 39, .inr (.inl tk)))] → va_S A s.heap H locs → W p l e (headSpec (wsOf yX10_scan cX10_scan 5 none) ({ frames := 7, cells := 0, slots := 0, locals := 420 })).room s m ([.ref h0, .ref hT, .int (nI n)] : List Value).toArray below meth c H locs 0 0 (MQ below (qc_t_X10_scan dC dI cB cI cJ cZ h0 hT hKi hPl hNu hW n g kf pf vf tk y3 j4 j5 K V fz A) ([.ref h0, .ref hT, .int (nI n)] : List Value).toArray s 0 0 A) (F0 m 89 ls [.int (mrI (kiF g n tk i))]) := by
            intro H locs hP hD hS
            refine lv_istore_n (lv' := [(3, .int (mrI (kiF g n tk i))), (4, .int (nI i)), (0, .ref h0), (1, .ref hT), (2, .int (nI n))]) hx hb dX10_scan_89 rfl hl (by decide) rfl (fun ls hl => ?_)
            refine lv_iinc (v := nI (i + 1)) (lv' := [(4, .int (nI (i + 1))), (3, .int (mrI (kiF g n tk i))), (0, .ref h0), (1, .ref hT), (2, .int (nI n))]) hx hb dX10_scan_90 hl (k := 1) rfl (nI_add i 1) (by decide) rfl (fun ls hl => ?_)
            refine lv_goto (tgt := 25) hx hb dX10_scan_93 (by decide) ?_
            exact ih_25 (i + 1) (by omega) (sc_ext hgo c_3) (by omega) _ _ _ (hP.sub [1, 2, 3, 4, 5, 0] rfl) (hD.sub [1, 2, 3, 4, 5, 0] (by decide) rfl) hS (lv_sub hl [0, 1, 2, 3, 4] rfl)
          refine lv_aload_n hx hb dX10_scan_60 rfl (lv_at hl 2 rfl) ?_
          refine va_get (D := (dC, dI)) (ci := 11) (v := .ref hKi) (C := RX10) (T := TX10) (N := 7) hx hb hts (fun w h => List.mem_cons_of_mem _ (uG_X10 w h)) hown hK hP 1 rfl rfl 0 (by decide) (hts _ (List.mem_cons_of_mem _ kw_318)) (fun _ h9 => h9) rfl dX10_scan_61 ?_
          refine lv_iload hx hb dX10_scan_64 (lv_at hl 0 rfl) ?_
          refine va_iald hx hb hK hP 3 1 rfl rfl (i := (nI i)) (vp_in_nI (n := i) (N := 2001) (by omega) (by omega)) dX10_scan_66 ?_
          refine lv_topi (fun x_7 ex_7 => ?_)
          have ex_7 : x_7 = (laid kf (kiF g n tk) (i + 1)) i := ex_7.trans (congrArg (laid kf (kiF g n tk) (i + 1)) (nI_clamp (n := i) (by omega)))
          have ex_7 : x_7 = kiF g n tk i := ex_7.trans (if_pos (Nat.lt_succ_self _))
          subst ex_7
          refine lv_bipush (v := 56) hx hb dX10_scan_67 (by decide) ?_
          refine lv_icmp_eq (tgt := 88) hx hb dX10_scan_69 (by decide) (fun c_8 => ?_) (fun c_8 => ?_)
          · skip
            refine lv_iconst (v := 0) hx hb dX10_scan_88 (by decide) ?_
            exact W.eq (by unfold mrI; rw [if_pos c_8]) (mg_6 _ _ hP hD hS)
          · skip
            refine lv_aload_n hx hb dX10_scan_72 rfl (lv_at hl 2 rfl) ?_
            refine va_get (D := (dC, dI)) (ci := 11) (v := .ref hKi) (C := RX10) (T := TX10) (N := 7) hx hb hts (fun w h => List.mem_cons_of_mem _ (uG_X10 w h)) hown hK hP 1 rfl rfl 0 (by decide) (hts _ (List.mem_cons_of_mem _ kw_318)) (fun _ h9 => h9) rfl dX10_scan_73 ?_
            refine lv_iload hx hb dX10_scan_76 (lv_at hl 0 rfl) ?_
            refine va_iald hx hb hK hP 3 1 rfl rfl (i := (nI i)) (vp_in_nI (n := i) (N := 2001) (by omega) (by omega)) dX10_scan_78 ?_
            refine lv_topi (fun x_9 ex_9 => ?_)
            have ex_9 : x_9 = (laid kf (kiF g n tk) (i + 1)) i := ex_9.trans (congrArg (laid kf (kiF g n tk) (i + 1)) (nI_clamp (n := i) (by omega)))
            have ex_9 : x_9 = kiF g n tk i := ex_9.trans (if_pos (Nat.lt_succ_self _))
            subst ex_9
            refine lv_bipush (v := 57) hx hb dX10_scan_79 (by decide) ?_
            refine lv_icmp_eq (tgt := 88) hx hb dX10_scan_81 (by decide) (fun c_10 => ?_) (fun c_10 => ?_)
            · skip
              refine lv_iconst (v := 0) hx hb dX10_scan_88 (by decide) ?_
              exact W.eq (by unfold mrI; rw [if_neg c_8, if_pos c_10]) (mg_6 _ _ hP hD hS)
            · skip
              refine lv_iconst (v := 1) hx hb dX10_scan_84 (by decide) ?_
              refine lv_goto (tgt := 89) hx hb dX10_scan_85 (by decide) ?_
              exact W.eq (by unfold mrI; rw [if_neg c_8, if_neg c_10]) (mg_6 _ _ hP hD hS)
  exact lp_25 _ 0 (Nat.zero_le _) (fun _ h => absurd h (Nat.not_lt_zero _)) (Nat.lt_succ_self _) _ _ _ (hP.sub [0, 1, 2, 3, 4, 5] rfl) (hD.sub [0, 1, 2, 3, 4, 5] (by decide) rfl) hS (lv_sub hl [0, 1, 2, 3, 4] rfl)


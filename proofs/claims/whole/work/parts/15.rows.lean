/-! what is there -/
def hvI (x : Int32) : Int32 := if x = 0 then 0 else 1
theorem hvI_eq {x : Int32} (h : hvI x = 0) : x = 0 := by unfold hvI at h; by_cases e : x = 0 <;> simp_all
theorem hvI_ne {x : Int32} (h : ¬ hvI x = 0) : ¬ x = 0 := fun e => h (by unfold hvI; rw [if_pos e])
def freeR (tf : Nat → Int32) (b : Nat) : Int32 := if tf (b + 0) = 0 then 0 else if tf (b + 1) = 0 then 1 else if tf (b + 2) = 0 then 2 else if tf (b + 3) = 0 then 3 else if tf (b + 4) = 0 then 4 else if tf (b + 5) = 0 then 5 else if tf (b + 6) = 0 then 6 else if tf (b + 7) = 0 then 7 else -1
def sumI (tf : Nat → Int32) : Nat → Int32 | 0 => 0 | n + 1 => sumI tf n + tf n
theorem dX7_exists_0 : decode cX7_exists 0 = .ok (.iload_n 1, 1) := by decide +kernel
theorem dX7_exists_1 : decode cX7_exists 1 = .ok (.ifCond .lt 24, 3) := by decide +kernel
theorem dX7_exists_4 : decode cX7_exists 4 = .ok (.iload_n 1, 1) := by decide +kernel
theorem dX7_exists_5 : decode cX7_exists 5 = .ok (.aload_n 0, 1) := by decide +kernel
theorem dX7_exists_6 : decode cX7_exists 6 = .ok (.getfield 40, 3) := by decide +kernel
theorem dX7_exists_9 : decode cX7_exists 9 = .ok (.if_icmp .ge 16, 3) := by decide +kernel
theorem dX7_exists_12 : decode cX7_exists 12 = .ok (.iload_n 1, 1) := by decide +kernel
theorem dX7_exists_13 : decode cX7_exists 13 = .ok (.aload_n 0, 1) := by decide +kernel
theorem dX7_exists_14 : decode cX7_exists 14 = .ok (.getfield 19, 3) := by decide +kernel
theorem dX7_exists_17 : decode cX7_exists 17 = .ok (.arraylength, 1) := by decide +kernel
theorem dX7_exists_18 : decode cX7_exists 18 = .ok (.if_icmp .ge 7, 3) := by decide +kernel
theorem dX7_exists_21 : decode cX7_exists 21 = .ok (.iconst 1, 1) := by decide +kernel
theorem dX7_exists_22 : decode cX7_exists 22 = .ok (.goto 4, 3) := by decide +kernel
theorem dX7_exists_25 : decode cX7_exists 25 = .ok (.iconst 0, 1) := by decide +kernel
theorem dX7_exists_26 : decode cX7_exists 26 = .ok (.ireturn, 1) := by decide +kernel
abbrev cs_t_X7_exists_in (cB cI cJ cZ : ClassId) (h0 hC : Nat) (k : Nat) (cf : Nat → Int32) (wm : Int64) (wv wn wt wx wy : Value) (d : Int32) (i : Nat) : va_W := [(h0, .inr (8, [.int (nI k), .long wm, .ref hC, wv, wn, wt, wx, wy, .int d])), (hC, .inl (cI, 6, .inl cf))]
abbrev pc_t_X7_exists_in (dC : Nat → ClassId) (dI : Nat → Nat → Nat) (sz : Nat) (cB cI cJ cZ : ClassId) (h0 hC : Nat) (k : Nat) (cf : Nat → Int32) (wm : Int64) (wv wn wt wx wy : Value) (d : Int32) (i : Nat) : Array Value → State → Prop := va_Pc [.ref h0, .int (nI i)] (fun U => U.heap.size = sz ∧ va_P (dC, dI) vwCl [(h0, .inr (8, [.int (nI k), .long wm, .ref hC, wv, wn, wt, wx, wy, .int d])), (hC, .inl (cI, 6, .inl cf))] U.heap ∧ va_K (dC, dI) vwCl [(cB, .byte), (cI, .int), (cJ, .long), (cZ, .boolean)] U ∧ va_D (fun _ => True) [(h0, .inr (8, [.int (nI k), .long wm, .ref hC, wv, wn, wt, wx, wy, .int d])), (hC, .inl (cI, 6, .inl cf))])
abbrev qc_t_X7_exists_in (dC : Nat → ClassId) (dI : Nat → Nat → Nat) (cB cI cJ cZ : ClassId) (h0 hC : Nat) (k : Nat) (cf : Nat → Int32) (wm : Int64) (wv wn wt wx wy : Value) (d : Int32) (i : Nat) (A : Nat → Prop) : Array Value → State → Outcome → State → Prop := va_Qi (fun (r : Int32) (u : Unit) => match u with | _ => r = 1) (fun (u : Unit) t_ => match u with | _ => va_P (dC, dI) vwCl [(h0, .inr (8, [.int (nI k), .long wm, .ref hC, wv, wn, wt, wx, wy, .int d])), (hC, .inl (cI, 6, .inl cf))] t_.heap ∧ va_K (dC, dI) vwCl [(cB, .byte), (cI, .int), (cJ, .long), (cZ, .boolean)] t_ ∧ va_D A [(h0, .inr (8, [.int (nI k), .long wm, .ref hC, wv, wn, wt, wx, wy, .int d])), (hC, .inl (cI, 6, .inl cf))]) A
set_option maxHeartbeats 4000000 in
set_option maxRecDepth 100000 in
theorem t_X7_exists_in (l : Launch) (dC : Nat → ClassId) (dI : Nat → Nat → Nat) (sz : Nat) (cB cI cJ cZ : ClassId) (h0 hC : Nat) (k : Nat) (cf : Nat → Int32) (wm : Int64) (wv wn wt wx wy : Value) (d : Int32) (i : Nat) (hk : k ≤ 6) (hi : i < k) : Met l yX7_exists (wsOf yX7_exists cX7_exists 2 (some .boolean)) ({ frames := 0, cells := 0, slots := 0, locals := 0 }) (pc_t_X7_exists_in dC dI sz cB cI cJ cZ h0 hC k cf wm wv wn wt wx wy d i) (qc_t_X7_exists_in dC dI cB cI cJ cZ h0 hC k cf wm wv wn wt wx wy d i (va_A (cs_t_X7_exists_in cB cI cJ cZ h0 hC k cf wm wv wn wt wx wy d i) sz)) 0 0 (va_A (cs_t_X7_exists_in cB cI cJ cZ h0 hC k cf wm wv wn wt wx wy d i) sz) := by
  refine Met.ofW (cc := cX7_exists) (maxL := 2) (ret := (some .boolean)) (by decide) rfl ?_
  intro p e s m args below meth c s₁ B hml hv
  obtain ⟨rfl, hsz, hP, hK, hD0⟩ := hv
  have hx := B.exec
  have hb := B.bytes
  have hr := B.returns
  have hts := atoms_spec (ws := (wsOf yX7_exists cX7_exists 2 (some .boolean))) B.pre
  have hown : s.vm.findClass RX7 = some m.cls := findClass_of_methodNamed B.named
  have hlocks := B.notSynchronized
  subst hsz
  have hD := hD0.self (sz := s.heap.size)
  generalize hAe : va_A (cs_t_X7_exists_in cB cI cJ cZ h0 hC k cf wm wv wn wt wx wy d i) s.heap.size = A at hD ⊢
  have hA : ∀ q : Nat, s.heap.size ≤ q → A q := fun q h => by rw [← hAe]; exact Or.inr h
  have hS : va_S A s.heap s.heap [] := va_S.rf
  have hP : va_P (dC, dI) vwCl [(h0, .inr (8, [.int (nI k), .long wm, .ref hC, wv, wn, wt, wx, wy, .int d])), (hC, .inl (cI, 6, .inl cf))] s.heap := hP
  have hl := lv_entry ([.ref h0, .int (nI i)]) (n := 2) (Nat.le_of_ble_eq_true rfl)
  rw [lg_entry_eq]
  generalize (lg_sl ([.ref h0, .int (nI i)]) ++ List.replicate (2 - (lg_sl ([.ref h0, .int (nI i)])).length) Slot.unset).toArray = ls at hl ⊢
  have hl : lv_has ls 2 [(0, .ref h0), (1, .int (nI i))] := hl
  refine lv_iload_n hx hb dX7_exists_0 rfl (lv_at hl 1 rfl) ?_
  refine lv_if_lt (tgt := 25) hx hb dX7_exists_1 (by decide) (fun c_1 => ?_) (fun c_1 => ?_)
  · skip
    have c_1 : i < 0 := (nI_ltI (a := i) (b := 0) (by omega) (by omega)).mp c_1
    exact absurd c_1 (by omega)
  · skip
    have c_1 : ¬ (i < 0) := fun h => c_1 ((nI_ltI (a := i) (b := 0) (by omega) (by omega)).mpr h)
    refine lv_iload_n hx hb dX7_exists_4 rfl (lv_at hl 1 rfl) ?_
    refine lv_aload_n hx hb dX7_exists_5 rfl (lv_at hl 0 rfl) ?_
    refine va_get (D := (dC, dI)) (ci := 8) (v := .int (nI k)) (C := RX7) (T := TX7) (N := 9) hx hb hts (fun w h => List.mem_cons_of_mem _ (uG_X7 w h)) hown hK hP 0 rfl rfl 0 (by decide) (hts _ (List.mem_cons_of_mem _ kw_223)) (fun _ h9 => h9) rfl dX7_exists_6 ?_
    refine lv_icmp_ge (tgt := 25) hx hb dX7_exists_9 (by decide) (fun c_2 => ?_) (fun c_2 => ?_)
    · skip
      have c_2 : k ≤ i := (nI_leI (a := k) (b := i) (by omega) (by omega)).mp c_2
      exact absurd c_2 (by omega)
    · skip
      have c_2 : ¬ (k ≤ i) := fun h => c_2 ((nI_leI (a := k) (b := i) (by omega) (by omega)).mpr h)
      refine lv_iload_n hx hb dX7_exists_12 rfl (lv_at hl 1 rfl) ?_
      refine lv_aload_n hx hb dX7_exists_13 rfl (lv_at hl 0 rfl) ?_
      refine va_get (D := (dC, dI)) (ci := 8) (v := .ref hC) (C := RX7) (T := TX7) (N := 9) hx hb hts (fun w h => List.mem_cons_of_mem _ (uG_X7 w h)) hown hK hP 0 rfl rfl 2 (by decide) (hts _ (List.mem_cons_of_mem _ kw_227)) (fun _ h9 => h9) rfl dX7_exists_14 ?_
      refine va_alen (v := 6) hx hb hK hP 1 1 rfl rfl rfl dX7_exists_17 ?_
      refine lv_icmp_ge (tgt := 25) hx hb dX7_exists_18 (by decide) (fun c_3 => ?_) (fun c_3 => ?_)
      · skip
        have c_3 : 6 ≤ i := (nI_leI (a := 6) (b := i) (by omega) (by omega)).mp c_3
        exact absurd c_3 (by omega)
      · skip
        have c_3 : ¬ (6 ≤ i) := fun h => c_3 ((nI_leI (a := 6) (b := i) (by omega) (by omega)).mpr h)
        refine lv_iconst (v := 1) hx hb dX7_exists_21 (by decide) ?_
        refine lv_goto (tgt := 26) hx hb dX7_exists_22 (by decide) ?_
        have hP9 := hP.sub (ws' := [(h0, .inr (8, [.int (nI k), .long wm, .ref hC, wv, wn, wt, wx, wy, .int d])), (hC, .inl (cI, 6, .inl cf))]) [0, 1] rfl
        have hD9 := hD.sub (ws' := [(h0, .inr (8, [.int (nI k), .long wm, .ref hC, wv, wn, wt, wx, wy, .int d])), (hC, .inl (cI, 6, .inl cf))]) [0, 1] (by decide) rfl
        have hK9 := hK.sub (tys' := [(cB, .byte), (cI, .int), (cJ, .long), (cZ, .boolean)]) [0, 1, 2, 3] rfl
        exact W.zret (v := 1) hx hb hr (by rfl) (fun t_ ht hW => ⟨⟨1, (), rfl, rfl, by rw [ht]; exact hP9, va_K.moved hW.alike hK9, hD9⟩, hS.F ht⟩) hS.2.2 dX7_exists_26
abbrev cs_t_X7_exists_out (cB cI cJ cZ : ClassId) (h0 hC : Nat) (k : Nat) (cf : Nat → Int32) (wm : Int64) (wv wn wt wx wy : Value) (d : Int32) (x : Int32) : va_W := [(h0, .inr (8, [.int (nI k), .long wm, .ref hC, wv, wn, wt, wx, wy, .int d])), (hC, .inl (cI, 6, .inl cf))]
abbrev pc_t_X7_exists_out (dC : Nat → ClassId) (dI : Nat → Nat → Nat) (sz : Nat) (cB cI cJ cZ : ClassId) (h0 hC : Nat) (k : Nat) (cf : Nat → Int32) (wm : Int64) (wv wn wt wx wy : Value) (d : Int32) (x : Int32) : Array Value → State → Prop := va_Pc [.ref h0, .int x] (fun U => U.heap.size = sz ∧ va_P (dC, dI) vwCl [(h0, .inr (8, [.int (nI k), .long wm, .ref hC, wv, wn, wt, wx, wy, .int d])), (hC, .inl (cI, 6, .inl cf))] U.heap ∧ va_K (dC, dI) vwCl [(cB, .byte), (cI, .int), (cJ, .long), (cZ, .boolean)] U ∧ va_D (fun _ => True) [(h0, .inr (8, [.int (nI k), .long wm, .ref hC, wv, wn, wt, wx, wy, .int d])), (hC, .inl (cI, 6, .inl cf))])
abbrev qc_t_X7_exists_out (dC : Nat → ClassId) (dI : Nat → Nat → Nat) (cB cI cJ cZ : ClassId) (h0 hC : Nat) (k : Nat) (cf : Nat → Int32) (wm : Int64) (wv wn wt wx wy : Value) (d : Int32) (x : Int32) (A : Nat → Prop) : Array Value → State → Outcome → State → Prop := va_Qi (fun (r : Int32) (u : Unit) => match u with | _ => r = 0) (fun (u : Unit) t_ => match u with | _ => va_P (dC, dI) vwCl [(h0, .inr (8, [.int (nI k), .long wm, .ref hC, wv, wn, wt, wx, wy, .int d])), (hC, .inl (cI, 6, .inl cf))] t_.heap ∧ va_K (dC, dI) vwCl [(cB, .byte), (cI, .int), (cJ, .long), (cZ, .boolean)] t_ ∧ va_D A [(h0, .inr (8, [.int (nI k), .long wm, .ref hC, wv, wn, wt, wx, wy, .int d])), (hC, .inl (cI, 6, .inl cf))]) A
set_option maxHeartbeats 4000000 in
set_option maxRecDepth 100000 in
theorem t_X7_exists_out (l : Launch) (dC : Nat → ClassId) (dI : Nat → Nat → Nat) (sz : Nat) (cB cI cJ cZ : ClassId) (h0 hC : Nat) (k : Nat) (cf : Nat → Int32) (wm : Int64) (wv wn wt wx wy : Value) (d : Int32) (x : Int32) (hk : k ≤ 6) (ho : x < 0 ∨ nI k ≤ x) : Met l yX7_exists (wsOf yX7_exists cX7_exists 2 (some .boolean)) ({ frames := 0, cells := 0, slots := 0, locals := 0 }) (pc_t_X7_exists_out dC dI sz cB cI cJ cZ h0 hC k cf wm wv wn wt wx wy d x) (qc_t_X7_exists_out dC dI cB cI cJ cZ h0 hC k cf wm wv wn wt wx wy d x (va_A (cs_t_X7_exists_out cB cI cJ cZ h0 hC k cf wm wv wn wt wx wy d x) sz)) 0 0 (va_A (cs_t_X7_exists_out cB cI cJ cZ h0 hC k cf wm wv wn wt wx wy d x) sz) := by
  refine Met.ofW (cc := cX7_exists) (maxL := 2) (ret := (some .boolean)) (by decide) rfl ?_
  intro p e s m args below meth c s₁ B hml hv
  obtain ⟨rfl, hsz, hP, hK, hD0⟩ := hv
  have hx := B.exec
  have hb := B.bytes
  have hr := B.returns
  have hts := atoms_spec (ws := (wsOf yX7_exists cX7_exists 2 (some .boolean))) B.pre
  have hown : s.vm.findClass RX7 = some m.cls := findClass_of_methodNamed B.named
  have hlocks := B.notSynchronized
  subst hsz
  have hD := hD0.self (sz := s.heap.size)
  generalize hAe : va_A (cs_t_X7_exists_out cB cI cJ cZ h0 hC k cf wm wv wn wt wx wy d x) s.heap.size = A at hD ⊢
  have hA : ∀ q : Nat, s.heap.size ≤ q → A q := fun q h => by rw [← hAe]; exact Or.inr h
  have hS : va_S A s.heap s.heap [] := va_S.rf
  have hP : va_P (dC, dI) vwCl [(h0, .inr (8, [.int (nI k), .long wm, .ref hC, wv, wn, wt, wx, wy, .int d])), (hC, .inl (cI, 6, .inl cf))] s.heap := hP
  have hl := lv_entry ([.ref h0, .int x]) (n := 2) (Nat.le_of_ble_eq_true rfl)
  rw [lg_entry_eq]
  generalize (lg_sl ([.ref h0, .int x]) ++ List.replicate (2 - (lg_sl ([.ref h0, .int x])).length) Slot.unset).toArray = ls at hl ⊢
  have hl : lv_has ls 2 [(0, .ref h0), (1, .int x)] := hl
  refine lv_iload_n hx hb dX7_exists_0 rfl (lv_at hl 1 rfl) ?_
  refine lv_if_lt (tgt := 25) hx hb dX7_exists_1 (by decide) (fun c_1 => ?_) (fun c_1 => ?_)
  · skip
    refine lv_iconst (v := 0) hx hb dX7_exists_25 (by decide) ?_
    have hP9 := hP.sub (ws' := [(h0, .inr (8, [.int (nI k), .long wm, .ref hC, wv, wn, wt, wx, wy, .int d])), (hC, .inl (cI, 6, .inl cf))]) [0, 1] rfl
    have hD9 := hD.sub (ws' := [(h0, .inr (8, [.int (nI k), .long wm, .ref hC, wv, wn, wt, wx, wy, .int d])), (hC, .inl (cI, 6, .inl cf))]) [0, 1] (by decide) rfl
    have hK9 := hK.sub (tys' := [(cB, .byte), (cI, .int), (cJ, .long), (cZ, .boolean)]) [0, 1, 2, 3] rfl
    exact W.zret (v := 0) hx hb hr (by rfl) (fun t_ ht hW => ⟨⟨0, (), rfl, rfl, by rw [ht]; exact hP9, va_K.moved hW.alike hK9, hD9⟩, hS.F ht⟩) hS.2.2 dX7_exists_26
  · skip
    refine lv_iload_n hx hb dX7_exists_4 rfl (lv_at hl 1 rfl) ?_
    refine lv_aload_n hx hb dX7_exists_5 rfl (lv_at hl 0 rfl) ?_
    refine va_get (D := (dC, dI)) (ci := 8) (v := .int (nI k)) (C := RX7) (T := TX7) (N := 9) hx hb hts (fun w h => List.mem_cons_of_mem _ (uG_X7 w h)) hown hK hP 0 rfl rfl 0 (by decide) (hts _ (List.mem_cons_of_mem _ kw_223)) (fun _ h9 => h9) rfl dX7_exists_6 ?_
    refine lv_icmp_ge (tgt := 25) hx hb dX7_exists_9 (by decide) (fun c_2 => ?_) (fun c_2 => ?_)
    · skip
      refine lv_iconst (v := 0) hx hb dX7_exists_25 (by decide) ?_
      have hP9 := hP.sub (ws' := [(h0, .inr (8, [.int (nI k), .long wm, .ref hC, wv, wn, wt, wx, wy, .int d])), (hC, .inl (cI, 6, .inl cf))]) [0, 1] rfl
      have hD9 := hD.sub (ws' := [(h0, .inr (8, [.int (nI k), .long wm, .ref hC, wv, wn, wt, wx, wy, .int d])), (hC, .inl (cI, 6, .inl cf))]) [0, 1] (by decide) rfl
      have hK9 := hK.sub (tys' := [(cB, .byte), (cI, .int), (cJ, .long), (cZ, .boolean)]) [0, 1, 2, 3] rfl
      exact W.zret (v := 0) hx hb hr (by rfl) (fun t_ ht hW => ⟨⟨0, (), rfl, rfl, by rw [ht]; exact hP9, va_K.moved hW.alike hK9, hD9⟩, hS.F ht⟩) hS.2.2 dX7_exists_26
    · skip
      exact absurd ho (not_or.mpr ⟨c_1, c_2⟩)
theorem dX7_columnCount_0 : decode cX7_columnCount 0 = .ok (.aload_n 0, 1) := by decide +kernel
theorem dX7_columnCount_1 : decode cX7_columnCount 1 = .ok (.iload_n 1, 1) := by decide +kernel
theorem dX7_columnCount_2 : decode cX7_columnCount 2 = .ok (.invokevirtual 44, 3) := by decide +kernel
theorem dX7_columnCount_5 : decode cX7_columnCount 5 = .ok (.ifCond .eq 12, 3) := by decide +kernel
theorem dX7_columnCount_8 : decode cX7_columnCount 8 = .ok (.aload_n 0, 1) := by decide +kernel
theorem dX7_columnCount_9 : decode cX7_columnCount 9 = .ok (.getfield 19, 3) := by decide +kernel
theorem dX7_columnCount_12 : decode cX7_columnCount 12 = .ok (.iload_n 1, 1) := by decide +kernel
theorem dX7_columnCount_13 : decode cX7_columnCount 13 = .ok (.iaload, 1) := by decide +kernel
theorem dX7_columnCount_14 : decode cX7_columnCount 14 = .ok (.goto 4, 3) := by decide +kernel
theorem dX7_columnCount_17 : decode cX7_columnCount 17 = .ok (.iconst 0, 1) := by decide +kernel
theorem dX7_columnCount_18 : decode cX7_columnCount 18 = .ok (.ireturn, 1) := by decide +kernel
abbrev cs_t_X7_columnCount (cB cI cJ cZ : ClassId) (h0 hC : Nat) (k : Nat) (cf : Nat → Int32) (wm : Int64) (wv wn wt wx wy : Value) (d : Int32) (i : Nat) : va_W := [(h0, .inr (8, [.int (nI k), .long wm, .ref hC, wv, wn, wt, wx, wy, .int d])), (hC, .inl (cI, 6, .inl cf))]
abbrev pc_t_X7_columnCount (dC : Nat → ClassId) (dI : Nat → Nat → Nat) (sz : Nat) (cB cI cJ cZ : ClassId) (h0 hC : Nat) (k : Nat) (cf : Nat → Int32) (wm : Int64) (wv wn wt wx wy : Value) (d : Int32) (i : Nat) : Array Value → State → Prop := va_Pc [.ref h0, .int (nI i)] (fun U => U.heap.size = sz ∧ va_P (dC, dI) vwCl [(h0, .inr (8, [.int (nI k), .long wm, .ref hC, wv, wn, wt, wx, wy, .int d])), (hC, .inl (cI, 6, .inl cf))] U.heap ∧ va_K (dC, dI) vwCl [(cB, .byte), (cI, .int), (cJ, .long), (cZ, .boolean)] U ∧ va_D (fun _ => True) [(h0, .inr (8, [.int (nI k), .long wm, .ref hC, wv, wn, wt, wx, wy, .int d])), (hC, .inl (cI, 6, .inl cf))])
abbrev qc_t_X7_columnCount (dC : Nat → ClassId) (dI : Nat → Nat → Nat) (cB cI cJ cZ : ClassId) (h0 hC : Nat) (k : Nat) (cf : Nat → Int32) (wm : Int64) (wv wn wt wx wy : Value) (d : Int32) (i : Nat) (A : Nat → Prop) : Array Value → State → Outcome → State → Prop := va_Qi (fun (r : Int32) (u : Unit) => match u with | _ => r = cf i) (fun (u : Unit) t_ => match u with | _ => va_P (dC, dI) vwCl [(h0, .inr (8, [.int (nI k), .long wm, .ref hC, wv, wn, wt, wx, wy, .int d])), (hC, .inl (cI, 6, .inl cf))] t_.heap ∧ va_K (dC, dI) vwCl [(cB, .byte), (cI, .int), (cJ, .long), (cZ, .boolean)] t_ ∧ va_D A [(h0, .inr (8, [.int (nI k), .long wm, .ref hC, wv, wn, wt, wx, wy, .int d])), (hC, .inl (cI, 6, .inl cf))]) A
set_option maxHeartbeats 4000000 in
set_option maxRecDepth 100000 in
theorem t_X7_columnCount (l : Launch) (dC : Nat → ClassId) (dI : Nat → Nat → Nat) (sz : Nat) (cB cI cJ cZ : ClassId) (h0 hC : Nat) (k : Nat) (cf : Nat → Int32) (wm : Int64) (wv wn wt wx wy : Value) (d : Int32) (i : Nat) (hk : k ≤ 6) (hi : i < k) : Met l yX7_columnCount (wsOf yX7_columnCount cX7_columnCount 2 (some .int)) ({ frames := 1, cells := 0, slots := 0, locals := 21 }) (pc_t_X7_columnCount dC dI sz cB cI cJ cZ h0 hC k cf wm wv wn wt wx wy d i) (qc_t_X7_columnCount dC dI cB cI cJ cZ h0 hC k cf wm wv wn wt wx wy d i (va_A (cs_t_X7_columnCount cB cI cJ cZ h0 hC k cf wm wv wn wt wx wy d i) sz)) 0 0 (va_A (cs_t_X7_columnCount cB cI cJ cZ h0 hC k cf wm wv wn wt wx wy d i) sz) := by
  refine Met.ofW (cc := cX7_columnCount) (maxL := 2) (ret := (some .int)) (by decide) rfl ?_
  intro p e s m args below meth c s₁ B hml hv
  obtain ⟨rfl, hsz, hP, hK, hD0⟩ := hv
  have hx := B.exec
  have hb := B.bytes
  have hr := B.returns
  have hts := atoms_spec (ws := (wsOf yX7_columnCount cX7_columnCount 2 (some .int))) B.pre
  have hown : s.vm.findClass RX7 = some m.cls := findClass_of_methodNamed B.named
  have hlocks := B.notSynchronized
  subst hsz
  have hD := hD0.self (sz := s.heap.size)
  generalize hAe : va_A (cs_t_X7_columnCount cB cI cJ cZ h0 hC k cf wm wv wn wt wx wy d i) s.heap.size = A at hD ⊢
  have hA : ∀ q : Nat, s.heap.size ≤ q → A q := fun q h => by rw [← hAe]; exact Or.inr h
  have hS : va_S A s.heap s.heap [] := va_S.rf
  have hP : va_P (dC, dI) vwCl [(h0, .inr (8, [.int (nI k), .long wm, .ref hC, wv, wn, wt, wx, wy, .int d])), (hC, .inl (cI, 6, .inl cf))] s.heap := hP
  have hl := lv_entry ([.ref h0, .int (nI i)]) (n := 2) (Nat.le_of_ble_eq_true rfl)
  rw [lg_entry_eq]
  generalize (lg_sl ([.ref h0, .int (nI i)]) ++ List.replicate (2 - (lg_sl ([.ref h0, .int (nI i)])).length) Slot.unset).toArray = ls at hl ⊢
  have hl : lv_has ls 2 [(0, .ref h0), (1, .int (nI i))] := hl
  refine lv_aload_n hx hb dX7_columnCount_0 rfl (lv_at hl 0 rfl) ?_
  refine lv_iload_n hx hb dX7_columnCount_1 rfl (lv_at hl 1 rfl) ?_
  have hPc := hP.sub (ws' := [(h0, .inr (8, [.int (nI k), .long wm, .ref hC, wv, wn, wt, wx, wy, .int d])), (hC, .inl (cI, 6, .inl cf))]) [0, 1] rfl
  have hDc := hD.sub (ws' := [(h0, .inr (8, [.int (nI k), .long wm, .ref hC, wv, wn, wt, wx, wy, .int d])), (hC, .inl (cI, 6, .inl cf))]) [0, 1] (by decide) rfl
  have hKc := hK.sub (tys' := [(cB, .byte), (cI, .int), (cJ, .long), (cZ, .boolean)]) [0, 1, 2, 3] rfl
  have hFc := va_free (wc := [(h0, .inr (8, [.int (nI k), .long wm, .ref hC, wv, wn, wt, wx, wy, .int d])), (hC, .inl (cI, 6, .inl cf))]) hD hS hA [0, 1] rfl
  refine va_calli (va_runV (As := [.int (nI i)]) (rest := []) ⟨hx, hb, hml, hown, hts⟩ (t_X7_exists_in l dC dI s.heap.size cB cI cJ cZ h0 hC k cf wm wv wn wt wx wy d i hk hi) (cwV 1 hts (gd_all (in_V kw_1237 kw_1230 kw_1231 kw_182 kc_X7_exists)) rfl rfl rfl (by decide +kernel) ⟨Nat.le_of_ble_eq_true rfl, Nat.le_of_ble_eq_true rfl⟩) ⟨fun a U g mk q => by obtain ⟨q0, q1, qP, qK, qD⟩ := q; exact ⟨q0, q1, qP, va_K.moved (u := U) (U := U.calling g mk a) (Vm.Alike.refl U.vm) qK, qD⟩, va_recv hKc hPc (ci := 8) (q0 := 0) rfl rfl, fun U hU hW => ⟨rfl, by rw [hU], by rw [hU]; exact hPc, va_K.moved hW.alike hKc, hDc.weaken (fun _ _ _ _ => trivial)⟩⟩ rfl rfl hl.1 rfl (lv_room (Nat.le_of_ble_eq_true rfl)) dX7_columnCount_2 ⟨Nat.le_of_ble_eq_true rfl, Nat.le_of_ble_eq_true rfl⟩) hS (fun q _ h => hFc q h) hFc (fun r_1 u t_ H1 locs ht hvm hw hB hz1 hk1 hS => ?_)
  obtain ⟨hP1, hK1, hD1⟩ := hB
  rw [ht] at hP1
  have hK1 := va_K.moved hvm.symm hK1
  obtain ⟨hP, hD⟩ := va_join (wr := []) (w1 := [(h0, .inr (8, [.int (nI k), .long wm, .ref hC, wv, wn, wt, wx, wy, .int d])), (hC, .inl (cI, 6, .inl cf))]) hP hD [0, 1] [] rfl rfl (by decide) (by decide) hk1 hFc hP1 hD1
  have hK := (hK.sub (tys' := []) [] rfl).app hK1
  generalize H1 = H at hP hS ⊢
  have hP : va_P (dC, dI) vwCl [(h0, .inr (8, [.int (nI k), .long wm, .ref hC, wv, wn, wt, wx, wy, .int d])), (hC, .inl (cI, 6, .inl cf))] H := hP
  have hD : va_D A [(h0, .inr (8, [.int (nI k), .long wm, .ref hC, wv, wn, wt, wx, wy, .int d])), (hC, .inl (cI, 6, .inl cf))] := hD
  have hK : va_K (dC, dI) vwCl [(cB, .byte), (cI, .int), (cJ, .long), (cZ, .boolean)] s := hK
  have er_1 : r_1 = 1 := hw
  rw [er_1]
  refine lv_if_eq (tgt := 17) hx hb dX7_columnCount_5 (by decide) (fun c_2 => ?_) (fun c_2 => ?_)
  · skip
    exact absurd c_2 (by decide)
  · skip
    refine lv_aload_n hx hb dX7_columnCount_8 rfl (lv_at hl 0 rfl) ?_
    refine va_get (D := (dC, dI)) (ci := 8) (v := .ref hC) (C := RX7) (T := TX7) (N := 9) hx hb hts (fun w h => List.mem_cons_of_mem _ (uG_X7 w h)) hown hK hP 0 rfl rfl 2 (by decide) (hts _ (List.mem_cons_of_mem _ kw_227)) (fun _ h9 => h9) rfl dX7_columnCount_9 ?_
    refine lv_iload_n hx hb dX7_columnCount_12 rfl (lv_at hl 1 rfl) ?_
    refine va_iald hx hb hK hP 1 1 rfl rfl (i := (nI i)) (vp_in_nI (n := i) (N := 6) (by omega) (by omega)) dX7_columnCount_13 ?_
    refine lv_topi (fun x_3 ex_3 => ?_)
    have ex_3 : x_3 = cf i := ex_3.trans (congrArg cf (nI_clamp (n := i) (by omega)))
    subst ex_3
    refine lv_goto (tgt := 18) hx hb dX7_columnCount_14 (by decide) ?_
    have hP9 := hP.sub (ws' := [(h0, .inr (8, [.int (nI k), .long wm, .ref hC, wv, wn, wt, wx, wy, .int d])), (hC, .inl (cI, 6, .inl cf))]) [0, 1] rfl
    have hD9 := hD.sub (ws' := [(h0, .inr (8, [.int (nI k), .long wm, .ref hC, wv, wn, wt, wx, wy, .int d])), (hC, .inl (cI, 6, .inl cf))]) [0, 1] (by decide) rfl
    have hK9 := hK.sub (tys' := [(cB, .byte), (cI, .int), (cJ, .long), (cZ, .boolean)]) [0, 1, 2, 3] rfl
    exact W.iret (v := (cf i)) hx hb hr (fun t_ ht hW => ⟨⟨(cf i), (), rfl, rfl, by rw [ht]; exact hP9, va_K.moved hW.alike hK9, hD9⟩, hS.F ht⟩) hS.2.2 dX7_columnCount_18
theorem dX7_holds_0 : decode cX7_holds 0 = .ok (.aload_n 0, 1) := by decide +kernel
theorem dX7_holds_1 : decode cX7_holds 1 = .ok (.iload_n 1, 1) := by decide +kernel
theorem dX7_holds_2 : decode cX7_holds 2 = .ok (.invokevirtual 44, 3) := by decide +kernel
theorem dX7_holds_5 : decode cX7_holds 5 = .ok (.ifCond .eq 31, 3) := by decide +kernel
theorem dX7_holds_8 : decode cX7_holds 8 = .ok (.iload_n 2, 1) := by decide +kernel
theorem dX7_holds_9 : decode cX7_holds 9 = .ok (.ifCond .lt 27, 3) := by decide +kernel
theorem dX7_holds_12 : decode cX7_holds 12 = .ok (.iload_n 2, 1) := by decide +kernel
theorem dX7_holds_13 : decode cX7_holds 13 = .ok (.bipush 8, 2) := by decide +kernel
theorem dX7_holds_15 : decode cX7_holds 15 = .ok (.if_icmp .ge 21, 3) := by decide +kernel
theorem dX7_holds_18 : decode cX7_holds 18 = .ok (.aload_n 0, 1) := by decide +kernel
theorem dX7_holds_19 : decode cX7_holds 19 = .ok (.getfield 31, 3) := by decide +kernel
theorem dX7_holds_22 : decode cX7_holds 22 = .ok (.iload_n 1, 1) := by decide +kernel
theorem dX7_holds_23 : decode cX7_holds 23 = .ok (.bipush 8, 2) := by decide +kernel
theorem dX7_holds_25 : decode cX7_holds 25 = .ok (.imul, 1) := by decide +kernel
theorem dX7_holds_26 : decode cX7_holds 26 = .ok (.iload_n 2, 1) := by decide +kernel
theorem dX7_holds_27 : decode cX7_holds 27 = .ok (.iadd, 1) := by decide +kernel
theorem dX7_holds_28 : decode cX7_holds 28 = .ok (.baload, 1) := by decide +kernel
theorem dX7_holds_29 : decode cX7_holds 29 = .ok (.ifCond .eq 7, 3) := by decide +kernel
theorem dX7_holds_32 : decode cX7_holds 32 = .ok (.iconst 1, 1) := by decide +kernel
theorem dX7_holds_33 : decode cX7_holds 33 = .ok (.goto 4, 3) := by decide +kernel
theorem dX7_holds_36 : decode cX7_holds 36 = .ok (.iconst 0, 1) := by decide +kernel
theorem dX7_holds_37 : decode cX7_holds 37 = .ok (.ireturn, 1) := by decide +kernel
abbrev cs_t_X7_holds_in (cB cI cJ cZ : ClassId) (h0 hC hH : Nat) (k : Nat) (cf tf : Nat → Int32) (wm : Int64) (wv wn wx wy : Value) (d : Int32) (i j : Nat) : va_W := [(h0, .inr (8, [.int (nI k), .long wm, .ref hC, wv, wn, .ref hH, wx, wy, .int d])), (hC, .inl (cI, 6, .inl cf)), (hH, .inl (cB, 48, .inl tf))]
abbrev pc_t_X7_holds_in (dC : Nat → ClassId) (dI : Nat → Nat → Nat) (sz : Nat) (cB cI cJ cZ : ClassId) (h0 hC hH : Nat) (k : Nat) (cf tf : Nat → Int32) (wm : Int64) (wv wn wx wy : Value) (d : Int32) (i j : Nat) : Array Value → State → Prop := va_Pc [.ref h0, .int (nI i), .int (nI j)] (fun U => U.heap.size = sz ∧ va_P (dC, dI) vwCl [(h0, .inr (8, [.int (nI k), .long wm, .ref hC, wv, wn, .ref hH, wx, wy, .int d])), (hC, .inl (cI, 6, .inl cf)), (hH, .inl (cB, 48, .inl tf))] U.heap ∧ va_K (dC, dI) vwCl [(cB, .byte), (cI, .int), (cJ, .long), (cZ, .boolean)] U ∧ va_D (fun _ => True) [(h0, .inr (8, [.int (nI k), .long wm, .ref hC, wv, wn, .ref hH, wx, wy, .int d])), (hC, .inl (cI, 6, .inl cf)), (hH, .inl (cB, 48, .inl tf))])
abbrev qc_t_X7_holds_in (dC : Nat → ClassId) (dI : Nat → Nat → Nat) (cB cI cJ cZ : ClassId) (h0 hC hH : Nat) (k : Nat) (cf tf : Nat → Int32) (wm : Int64) (wv wn wx wy : Value) (d : Int32) (i j : Nat) (A : Nat → Prop) : Array Value → State → Outcome → State → Prop := va_Qi (fun (r : Int32) (u : Unit) => match u with | _ => r = hvI (tf (i * 8 + j))) (fun (u : Unit) t_ => match u with | _ => va_P (dC, dI) vwCl [(h0, .inr (8, [.int (nI k), .long wm, .ref hC, wv, wn, .ref hH, wx, wy, .int d])), (hC, .inl (cI, 6, .inl cf)), (hH, .inl (cB, 48, .inl tf))] t_.heap ∧ va_K (dC, dI) vwCl [(cB, .byte), (cI, .int), (cJ, .long), (cZ, .boolean)] t_ ∧ va_D A [(h0, .inr (8, [.int (nI k), .long wm, .ref hC, wv, wn, .ref hH, wx, wy, .int d])), (hC, .inl (cI, 6, .inl cf)), (hH, .inl (cB, 48, .inl tf))]) A
set_option maxHeartbeats 4000000 in
set_option maxRecDepth 100000 in
theorem t_X7_holds_in (l : Launch) (dC : Nat → ClassId) (dI : Nat → Nat → Nat) (sz : Nat) (cB cI cJ cZ : ClassId) (h0 hC hH : Nat) (k : Nat) (cf tf : Nat → Int32) (wm : Int64) (wv wn wx wy : Value) (d : Int32) (i j : Nat) (hk : k ≤ 6) (hi : i < k) (hj : j < 8) : Met l yX7_holds (wsOf yX7_holds cX7_holds 3 (some .boolean)) ({ frames := 1, cells := 0, slots := 0, locals := 21 }) (pc_t_X7_holds_in dC dI sz cB cI cJ cZ h0 hC hH k cf tf wm wv wn wx wy d i j) (qc_t_X7_holds_in dC dI cB cI cJ cZ h0 hC hH k cf tf wm wv wn wx wy d i j (va_A (cs_t_X7_holds_in cB cI cJ cZ h0 hC hH k cf tf wm wv wn wx wy d i j) sz)) 0 0 (va_A (cs_t_X7_holds_in cB cI cJ cZ h0 hC hH k cf tf wm wv wn wx wy d i j) sz) := by
  refine Met.ofW (cc := cX7_holds) (maxL := 3) (ret := (some .boolean)) (by decide) rfl ?_
  intro p e s m args below meth c s₁ B hml hv
  obtain ⟨rfl, hsz, hP, hK, hD0⟩ := hv
  have hx := B.exec
  have hb := B.bytes
  have hr := B.returns
  have hts := atoms_spec (ws := (wsOf yX7_holds cX7_holds 3 (some .boolean))) B.pre
  have hown : s.vm.findClass RX7 = some m.cls := findClass_of_methodNamed B.named
  have hlocks := B.notSynchronized
  subst hsz
  have hD := hD0.self (sz := s.heap.size)
  generalize hAe : va_A (cs_t_X7_holds_in cB cI cJ cZ h0 hC hH k cf tf wm wv wn wx wy d i j) s.heap.size = A at hD ⊢
  have hA : ∀ q : Nat, s.heap.size ≤ q → A q := fun q h => by rw [← hAe]; exact Or.inr h
  have hS : va_S A s.heap s.heap [] := va_S.rf
  have hP : va_P (dC, dI) vwCl [(h0, .inr (8, [.int (nI k), .long wm, .ref hC, wv, wn, .ref hH, wx, wy, .int d])), (hC, .inl (cI, 6, .inl cf)), (hH, .inl (cB, 48, .inl tf))] s.heap := hP
  have hl := lv_entry ([.ref h0, .int (nI i), .int (nI j)]) (n := 3) (Nat.le_of_ble_eq_true rfl)
  rw [lg_entry_eq]
  generalize (lg_sl ([.ref h0, .int (nI i), .int (nI j)]) ++ List.replicate (3 - (lg_sl ([.ref h0, .int (nI i), .int (nI j)])).length) Slot.unset).toArray = ls at hl ⊢
  have hl : lv_has ls 3 [(0, .ref h0), (1, .int (nI i)), (2, .int (nI j))] := hl
  refine lv_aload_n hx hb dX7_holds_0 rfl (lv_at hl 0 rfl) ?_
  refine lv_iload_n hx hb dX7_holds_1 rfl (lv_at hl 1 rfl) ?_
  have hPc := hP.sub (ws' := [(h0, .inr (8, [.int (nI k), .long wm, .ref hC, wv, wn, .ref hH, wx, wy, .int d])), (hC, .inl (cI, 6, .inl cf))]) [0, 1] rfl
  have hDc := hD.sub (ws' := [(h0, .inr (8, [.int (nI k), .long wm, .ref hC, wv, wn, .ref hH, wx, wy, .int d])), (hC, .inl (cI, 6, .inl cf))]) [0, 1] (by decide) rfl
  have hKc := hK.sub (tys' := [(cB, .byte), (cI, .int), (cJ, .long), (cZ, .boolean)]) [0, 1, 2, 3] rfl
  have hFc := va_free (wc := [(h0, .inr (8, [.int (nI k), .long wm, .ref hC, wv, wn, .ref hH, wx, wy, .int d])), (hC, .inl (cI, 6, .inl cf))]) hD hS hA [0, 1] rfl
  refine va_calli (va_runV (As := [.int (nI i)]) (rest := []) ⟨hx, hb, hml, hown, hts⟩ (t_X7_exists_in l dC dI s.heap.size cB cI cJ cZ h0 hC k cf wm wv wn (.ref hH) wx wy d i hk hi) (cwV 1 hts (gd_all (in_V kw_1237 kw_1230 kw_1231 kw_182 kc_X7_exists)) rfl rfl rfl (by decide +kernel) ⟨Nat.le_of_ble_eq_true rfl, Nat.le_of_ble_eq_true rfl⟩) ⟨fun a U g mk q => by obtain ⟨q0, q1, qP, qK, qD⟩ := q; exact ⟨q0, q1, qP, va_K.moved (u := U) (U := U.calling g mk a) (Vm.Alike.refl U.vm) qK, qD⟩, va_recv hKc hPc (ci := 8) (q0 := 0) rfl rfl, fun U hU hW => ⟨rfl, by rw [hU], by rw [hU]; exact hPc, va_K.moved hW.alike hKc, hDc.weaken (fun _ _ _ _ => trivial)⟩⟩ rfl rfl hl.1 rfl (lv_room (Nat.le_of_ble_eq_true rfl)) dX7_holds_2 ⟨Nat.le_of_ble_eq_true rfl, Nat.le_of_ble_eq_true rfl⟩) hS (fun q _ h => hFc q h) hFc (fun r_1 u t_ H1 locs ht hvm hw hB hz1 hk1 hS => ?_)
  obtain ⟨hP1, hK1, hD1⟩ := hB
  rw [ht] at hP1
  have hK1 := va_K.moved hvm.symm hK1
  obtain ⟨hP, hD⟩ := va_join (wr := [(hH, .inl (cB, 48, .inl tf))]) (w1 := [(h0, .inr (8, [.int (nI k), .long wm, .ref hC, wv, wn, .ref hH, wx, wy, .int d])), (hC, .inl (cI, 6, .inl cf))]) hP hD [0, 1] [2] rfl rfl (by decide) (by decide) hk1 hFc hP1 hD1
  have hK := (hK.sub (tys' := []) [] rfl).app hK1
  generalize H1 = H at hP hS ⊢
  have hP : va_P (dC, dI) vwCl [(hH, .inl (cB, 48, .inl tf)), (h0, .inr (8, [.int (nI k), .long wm, .ref hC, wv, wn, .ref hH, wx, wy, .int d])), (hC, .inl (cI, 6, .inl cf))] H := hP
  have hD : va_D A [(hH, .inl (cB, 48, .inl tf)), (h0, .inr (8, [.int (nI k), .long wm, .ref hC, wv, wn, .ref hH, wx, wy, .int d])), (hC, .inl (cI, 6, .inl cf))] := hD
  have hK : va_K (dC, dI) vwCl [(cB, .byte), (cI, .int), (cJ, .long), (cZ, .boolean)] s := hK
  have er_1 : r_1 = 1 := hw
  rw [er_1]
  refine lv_if_eq (tgt := 36) hx hb dX7_holds_5 (by decide) (fun c_2 => ?_) (fun c_2 => ?_)
  · skip
    exact absurd c_2 (by decide)
  · skip
    refine lv_iload_n hx hb dX7_holds_8 rfl (lv_at hl 2 rfl) ?_
    refine lv_if_lt (tgt := 36) hx hb dX7_holds_9 (by decide) (fun c_3 => ?_) (fun c_3 => ?_)
    · skip
      have c_3 : j < 0 := (nI_ltI (a := j) (b := 0) (by omega) (by omega)).mp c_3
      exact absurd c_3 (by omega)
    · skip
      have c_3 : ¬ (j < 0) := fun h => c_3 ((nI_ltI (a := j) (b := 0) (by omega) (by omega)).mpr h)
      refine lv_iload_n hx hb dX7_holds_12 rfl (lv_at hl 2 rfl) ?_
      refine lv_bipush (v := 8) hx hb dX7_holds_13 (by decide) ?_
      refine lv_icmp_ge (tgt := 36) hx hb dX7_holds_15 (by decide) (fun c_4 => ?_) (fun c_4 => ?_)
      · skip
        have c_4 : 8 ≤ j := (nI_leI (a := 8) (b := j) (by omega) (by omega)).mp c_4
        exact absurd c_4 (by omega)
      · skip
        have c_4 : ¬ (8 ≤ j) := fun h => c_4 ((nI_leI (a := 8) (b := j) (by omega) (by omega)).mpr h)
        refine lv_aload_n hx hb dX7_holds_18 rfl (lv_at hl 0 rfl) ?_
        refine va_get (D := (dC, dI)) (ci := 8) (v := .ref hH) (C := RX7) (T := TX7) (N := 9) hx hb hts (fun w h => List.mem_cons_of_mem _ (uG_X7 w h)) hown hK hP 1 rfl rfl 5 (by decide) (hts _ (List.mem_cons_of_mem _ kw_230)) (fun _ h9 => h9) rfl dX7_holds_19 ?_
        refine lv_iload_n hx hb dX7_holds_22 rfl (lv_at hl 1 rfl) ?_
        refine lv_bipush (v := 8) hx hb dX7_holds_23 (by decide) ?_
        refine lv_imul hx hb dX7_holds_25 ?_
        refine lv_topi (fun x_5 ex_5 => ?_)
        have ex_5 : x_5 = nI (i * 8) := ex_5.trans (pk_mul i 8)
        subst ex_5
        refine lv_iload_n hx hb dX7_holds_26 rfl (lv_at hl 2 rfl) ?_
        refine lv_iadd hx hb dX7_holds_27 ?_
        refine lv_topi (fun x_6 ex_6 => ?_)
        have ex_6 : x_6 = nI (i * 8 + j) := ex_6.trans (nI_add (i * 8) j)
        subst ex_6
        refine va_bald hx hb hK hP 0 0 rfl rfl (i := (nI (i * 8 + j))) (vp_in_nI (n := i * 8 + j) (N := 48) (by omega) (by omega)) dX7_holds_28 ?_
        refine lv_topi (fun x_7 ex_7 => ?_)
        have ex_7 : x_7 = tf (i * 8 + j) := ex_7.trans (congrArg tf (nI_clamp (n := i * 8 + j) (by omega)))
        subst ex_7
        refine lv_if_eq (tgt := 36) hx hb dX7_holds_29 (by decide) (fun c_8 => ?_) (fun c_8 => ?_)
        · skip
          refine lv_iconst (v := 0) hx hb dX7_holds_36 (by decide) ?_
          have hP9 := hP.sub (ws' := [(h0, .inr (8, [.int (nI k), .long wm, .ref hC, wv, wn, .ref hH, wx, wy, .int d])), (hC, .inl (cI, 6, .inl cf)), (hH, .inl (cB, 48, .inl tf))]) [1, 2, 0] rfl
          have hD9 := hD.sub (ws' := [(h0, .inr (8, [.int (nI k), .long wm, .ref hC, wv, wn, .ref hH, wx, wy, .int d])), (hC, .inl (cI, 6, .inl cf)), (hH, .inl (cB, 48, .inl tf))]) [1, 2, 0] (by decide) rfl
          have hK9 := hK.sub (tys' := [(cB, .byte), (cI, .int), (cJ, .long), (cZ, .boolean)]) [0, 1, 2, 3] rfl
          exact W.zret (v := 0) hx hb hr (by rfl) (fun t_ ht hW => ⟨⟨0, (), rfl, by unfold hvI; rw [if_pos c_8], by rw [ht]; exact hP9, va_K.moved hW.alike hK9, hD9⟩, hS.F ht⟩) hS.2.2 dX7_holds_37
        · skip
          refine lv_iconst (v := 1) hx hb dX7_holds_32 (by decide) ?_
          refine lv_goto (tgt := 37) hx hb dX7_holds_33 (by decide) ?_
          have hP9 := hP.sub (ws' := [(h0, .inr (8, [.int (nI k), .long wm, .ref hC, wv, wn, .ref hH, wx, wy, .int d])), (hC, .inl (cI, 6, .inl cf)), (hH, .inl (cB, 48, .inl tf))]) [1, 2, 0] rfl
          have hD9 := hD.sub (ws' := [(h0, .inr (8, [.int (nI k), .long wm, .ref hC, wv, wn, .ref hH, wx, wy, .int d])), (hC, .inl (cI, 6, .inl cf)), (hH, .inl (cB, 48, .inl tf))]) [1, 2, 0] (by decide) rfl
          have hK9 := hK.sub (tys' := [(cB, .byte), (cI, .int), (cJ, .long), (cZ, .boolean)]) [0, 1, 2, 3] rfl
          exact W.zret (v := 1) hx hb hr (by rfl) (fun t_ ht hW => ⟨⟨1, (), rfl, by unfold hvI; rw [if_neg c_8], by rw [ht]; exact hP9, va_K.moved hW.alike hK9, hD9⟩, hS.F ht⟩) hS.2.2 dX7_holds_37
abbrev cs_t_X7_holds_oi (cB cI cJ cZ : ClassId) (h0 hC hH : Nat) (k : Nat) (cf tf : Nat → Int32) (wm : Int64) (wv wn wx wy : Value) (d : Int32) (x y : Int32) : va_W := [(h0, .inr (8, [.int (nI k), .long wm, .ref hC, wv, wn, .ref hH, wx, wy, .int d])), (hC, .inl (cI, 6, .inl cf)), (hH, .inl (cB, 48, .inl tf))]
abbrev pc_t_X7_holds_oi (dC : Nat → ClassId) (dI : Nat → Nat → Nat) (sz : Nat) (cB cI cJ cZ : ClassId) (h0 hC hH : Nat) (k : Nat) (cf tf : Nat → Int32) (wm : Int64) (wv wn wx wy : Value) (d : Int32) (x y : Int32) : Array Value → State → Prop := va_Pc [.ref h0, .int x, .int y] (fun U => U.heap.size = sz ∧ va_P (dC, dI) vwCl [(h0, .inr (8, [.int (nI k), .long wm, .ref hC, wv, wn, .ref hH, wx, wy, .int d])), (hC, .inl (cI, 6, .inl cf)), (hH, .inl (cB, 48, .inl tf))] U.heap ∧ va_K (dC, dI) vwCl [(cB, .byte), (cI, .int), (cJ, .long), (cZ, .boolean)] U ∧ va_D (fun _ => True) [(h0, .inr (8, [.int (nI k), .long wm, .ref hC, wv, wn, .ref hH, wx, wy, .int d])), (hC, .inl (cI, 6, .inl cf)), (hH, .inl (cB, 48, .inl tf))])
abbrev qc_t_X7_holds_oi (dC : Nat → ClassId) (dI : Nat → Nat → Nat) (cB cI cJ cZ : ClassId) (h0 hC hH : Nat) (k : Nat) (cf tf : Nat → Int32) (wm : Int64) (wv wn wx wy : Value) (d : Int32) (x y : Int32) (A : Nat → Prop) : Array Value → State → Outcome → State → Prop := va_Qi (fun (r : Int32) (u : Unit) => match u with | _ => r = 0) (fun (u : Unit) t_ => match u with | _ => va_P (dC, dI) vwCl [(h0, .inr (8, [.int (nI k), .long wm, .ref hC, wv, wn, .ref hH, wx, wy, .int d])), (hC, .inl (cI, 6, .inl cf)), (hH, .inl (cB, 48, .inl tf))] t_.heap ∧ va_K (dC, dI) vwCl [(cB, .byte), (cI, .int), (cJ, .long), (cZ, .boolean)] t_ ∧ va_D A [(h0, .inr (8, [.int (nI k), .long wm, .ref hC, wv, wn, .ref hH, wx, wy, .int d])), (hC, .inl (cI, 6, .inl cf)), (hH, .inl (cB, 48, .inl tf))]) A
set_option maxHeartbeats 4000000 in
set_option maxRecDepth 100000 in
theorem t_X7_holds_oi (l : Launch) (dC : Nat → ClassId) (dI : Nat → Nat → Nat) (sz : Nat) (cB cI cJ cZ : ClassId) (h0 hC hH : Nat) (k : Nat) (cf tf : Nat → Int32) (wm : Int64) (wv wn wx wy : Value) (d : Int32) (x y : Int32) (hk : k ≤ 6) (ho : x < 0 ∨ nI k ≤ x) : Met l yX7_holds (wsOf yX7_holds cX7_holds 3 (some .boolean)) ({ frames := 1, cells := 0, slots := 0, locals := 21 }) (pc_t_X7_holds_oi dC dI sz cB cI cJ cZ h0 hC hH k cf tf wm wv wn wx wy d x y) (qc_t_X7_holds_oi dC dI cB cI cJ cZ h0 hC hH k cf tf wm wv wn wx wy d x y (va_A (cs_t_X7_holds_oi cB cI cJ cZ h0 hC hH k cf tf wm wv wn wx wy d x y) sz)) 0 0 (va_A (cs_t_X7_holds_oi cB cI cJ cZ h0 hC hH k cf tf wm wv wn wx wy d x y) sz) := by
  refine Met.ofW (cc := cX7_holds) (maxL := 3) (ret := (some .boolean)) (by decide) rfl ?_
  intro p e s m args below meth c s₁ B hml hv
  obtain ⟨rfl, hsz, hP, hK, hD0⟩ := hv
  have hx := B.exec
  have hb := B.bytes
  have hr := B.returns
  have hts := atoms_spec (ws := (wsOf yX7_holds cX7_holds 3 (some .boolean))) B.pre
  have hown : s.vm.findClass RX7 = some m.cls := findClass_of_methodNamed B.named
  have hlocks := B.notSynchronized
  subst hsz
  have hD := hD0.self (sz := s.heap.size)
  generalize hAe : va_A (cs_t_X7_holds_oi cB cI cJ cZ h0 hC hH k cf tf wm wv wn wx wy d x y) s.heap.size = A at hD ⊢
  have hA : ∀ q : Nat, s.heap.size ≤ q → A q := fun q h => by rw [← hAe]; exact Or.inr h
  have hS : va_S A s.heap s.heap [] := va_S.rf
  have hP : va_P (dC, dI) vwCl [(h0, .inr (8, [.int (nI k), .long wm, .ref hC, wv, wn, .ref hH, wx, wy, .int d])), (hC, .inl (cI, 6, .inl cf)), (hH, .inl (cB, 48, .inl tf))] s.heap := hP
  have hl := lv_entry ([.ref h0, .int x, .int y]) (n := 3) (Nat.le_of_ble_eq_true rfl)
  rw [lg_entry_eq]
  generalize (lg_sl ([.ref h0, .int x, .int y]) ++ List.replicate (3 - (lg_sl ([.ref h0, .int x, .int y])).length) Slot.unset).toArray = ls at hl ⊢
  have hl : lv_has ls 3 [(0, .ref h0), (1, .int x), (2, .int y)] := hl
  refine lv_aload_n hx hb dX7_holds_0 rfl (lv_at hl 0 rfl) ?_
  refine lv_iload_n hx hb dX7_holds_1 rfl (lv_at hl 1 rfl) ?_
  have hPc := hP.sub (ws' := [(h0, .inr (8, [.int (nI k), .long wm, .ref hC, wv, wn, .ref hH, wx, wy, .int d])), (hC, .inl (cI, 6, .inl cf))]) [0, 1] rfl
  have hDc := hD.sub (ws' := [(h0, .inr (8, [.int (nI k), .long wm, .ref hC, wv, wn, .ref hH, wx, wy, .int d])), (hC, .inl (cI, 6, .inl cf))]) [0, 1] (by decide) rfl
  have hKc := hK.sub (tys' := [(cB, .byte), (cI, .int), (cJ, .long), (cZ, .boolean)]) [0, 1, 2, 3] rfl
  have hFc := va_free (wc := [(h0, .inr (8, [.int (nI k), .long wm, .ref hC, wv, wn, .ref hH, wx, wy, .int d])), (hC, .inl (cI, 6, .inl cf))]) hD hS hA [0, 1] rfl
  refine va_calli (va_runV (As := [.int x]) (rest := []) ⟨hx, hb, hml, hown, hts⟩ (t_X7_exists_out l dC dI s.heap.size cB cI cJ cZ h0 hC k cf wm wv wn (.ref hH) wx wy d x hk ho) (cwV 1 hts (gd_all (in_V kw_1237 kw_1230 kw_1231 kw_182 kc_X7_exists)) rfl rfl rfl (by decide +kernel) ⟨Nat.le_of_ble_eq_true rfl, Nat.le_of_ble_eq_true rfl⟩) ⟨fun a U g mk q => by obtain ⟨q0, q1, qP, qK, qD⟩ := q; exact ⟨q0, q1, qP, va_K.moved (u := U) (U := U.calling g mk a) (Vm.Alike.refl U.vm) qK, qD⟩, va_recv hKc hPc (ci := 8) (q0 := 0) rfl rfl, fun U hU hW => ⟨rfl, by rw [hU], by rw [hU]; exact hPc, va_K.moved hW.alike hKc, hDc.weaken (fun _ _ _ _ => trivial)⟩⟩ rfl rfl hl.1 rfl (lv_room (Nat.le_of_ble_eq_true rfl)) dX7_holds_2 ⟨Nat.le_of_ble_eq_true rfl, Nat.le_of_ble_eq_true rfl⟩) hS (fun q _ h => hFc q h) hFc (fun r_1 u t_ H1 locs ht hvm hw hB hz1 hk1 hS => ?_)
  obtain ⟨hP1, hK1, hD1⟩ := hB
  rw [ht] at hP1
  have hK1 := va_K.moved hvm.symm hK1
  obtain ⟨hP, hD⟩ := va_join (wr := [(hH, .inl (cB, 48, .inl tf))]) (w1 := [(h0, .inr (8, [.int (nI k), .long wm, .ref hC, wv, wn, .ref hH, wx, wy, .int d])), (hC, .inl (cI, 6, .inl cf))]) hP hD [0, 1] [2] rfl rfl (by decide) (by decide) hk1 hFc hP1 hD1
  have hK := (hK.sub (tys' := []) [] rfl).app hK1
  generalize H1 = H at hP hS ⊢
  have hP : va_P (dC, dI) vwCl [(hH, .inl (cB, 48, .inl tf)), (h0, .inr (8, [.int (nI k), .long wm, .ref hC, wv, wn, .ref hH, wx, wy, .int d])), (hC, .inl (cI, 6, .inl cf))] H := hP
  have hD : va_D A [(hH, .inl (cB, 48, .inl tf)), (h0, .inr (8, [.int (nI k), .long wm, .ref hC, wv, wn, .ref hH, wx, wy, .int d])), (hC, .inl (cI, 6, .inl cf))] := hD
  have hK : va_K (dC, dI) vwCl [(cB, .byte), (cI, .int), (cJ, .long), (cZ, .boolean)] s := hK
  have er_1 : r_1 = 0 := hw
  rw [er_1]
  refine lv_if_eq (tgt := 36) hx hb dX7_holds_5 (by decide) (fun c_2 => ?_) (fun c_2 => ?_)
  · skip
    refine lv_iconst (v := 0) hx hb dX7_holds_36 (by decide) ?_
    have hP9 := hP.sub (ws' := [(h0, .inr (8, [.int (nI k), .long wm, .ref hC, wv, wn, .ref hH, wx, wy, .int d])), (hC, .inl (cI, 6, .inl cf)), (hH, .inl (cB, 48, .inl tf))]) [1, 2, 0] rfl
    have hD9 := hD.sub (ws' := [(h0, .inr (8, [.int (nI k), .long wm, .ref hC, wv, wn, .ref hH, wx, wy, .int d])), (hC, .inl (cI, 6, .inl cf)), (hH, .inl (cB, 48, .inl tf))]) [1, 2, 0] (by decide) rfl
    have hK9 := hK.sub (tys' := [(cB, .byte), (cI, .int), (cJ, .long), (cZ, .boolean)]) [0, 1, 2, 3] rfl
    exact W.zret (v := 0) hx hb hr (by rfl) (fun t_ ht hW => ⟨⟨0, (), rfl, rfl, by rw [ht]; exact hP9, va_K.moved hW.alike hK9, hD9⟩, hS.F ht⟩) hS.2.2 dX7_holds_37
  · skip
    exact absurd c_2 (by decide)
abbrev cs_t_X7_holds_oj (cB cI cJ cZ : ClassId) (h0 hC hH : Nat) (k : Nat) (cf tf : Nat → Int32) (wm : Int64) (wv wn wx wy : Value) (d : Int32) (i : Nat) (y : Int32) : va_W := [(h0, .inr (8, [.int (nI k), .long wm, .ref hC, wv, wn, .ref hH, wx, wy, .int d])), (hC, .inl (cI, 6, .inl cf)), (hH, .inl (cB, 48, .inl tf))]
abbrev pc_t_X7_holds_oj (dC : Nat → ClassId) (dI : Nat → Nat → Nat) (sz : Nat) (cB cI cJ cZ : ClassId) (h0 hC hH : Nat) (k : Nat) (cf tf : Nat → Int32) (wm : Int64) (wv wn wx wy : Value) (d : Int32) (i : Nat) (y : Int32) : Array Value → State → Prop := va_Pc [.ref h0, .int (nI i), .int y] (fun U => U.heap.size = sz ∧ va_P (dC, dI) vwCl [(h0, .inr (8, [.int (nI k), .long wm, .ref hC, wv, wn, .ref hH, wx, wy, .int d])), (hC, .inl (cI, 6, .inl cf)), (hH, .inl (cB, 48, .inl tf))] U.heap ∧ va_K (dC, dI) vwCl [(cB, .byte), (cI, .int), (cJ, .long), (cZ, .boolean)] U ∧ va_D (fun _ => True) [(h0, .inr (8, [.int (nI k), .long wm, .ref hC, wv, wn, .ref hH, wx, wy, .int d])), (hC, .inl (cI, 6, .inl cf)), (hH, .inl (cB, 48, .inl tf))])
abbrev qc_t_X7_holds_oj (dC : Nat → ClassId) (dI : Nat → Nat → Nat) (cB cI cJ cZ : ClassId) (h0 hC hH : Nat) (k : Nat) (cf tf : Nat → Int32) (wm : Int64) (wv wn wx wy : Value) (d : Int32) (i : Nat) (y : Int32) (A : Nat → Prop) : Array Value → State → Outcome → State → Prop := va_Qi (fun (r : Int32) (u : Unit) => match u with | _ => r = 0) (fun (u : Unit) t_ => match u with | _ => va_P (dC, dI) vwCl [(h0, .inr (8, [.int (nI k), .long wm, .ref hC, wv, wn, .ref hH, wx, wy, .int d])), (hC, .inl (cI, 6, .inl cf)), (hH, .inl (cB, 48, .inl tf))] t_.heap ∧ va_K (dC, dI) vwCl [(cB, .byte), (cI, .int), (cJ, .long), (cZ, .boolean)] t_ ∧ va_D A [(h0, .inr (8, [.int (nI k), .long wm, .ref hC, wv, wn, .ref hH, wx, wy, .int d])), (hC, .inl (cI, 6, .inl cf)), (hH, .inl (cB, 48, .inl tf))]) A
set_option maxHeartbeats 4000000 in
set_option maxRecDepth 100000 in
theorem t_X7_holds_oj (l : Launch) (dC : Nat → ClassId) (dI : Nat → Nat → Nat) (sz : Nat) (cB cI cJ cZ : ClassId) (h0 hC hH : Nat) (k : Nat) (cf tf : Nat → Int32) (wm : Int64) (wv wn wx wy : Value) (d : Int32) (i : Nat) (y : Int32) (hk : k ≤ 6) (hi : i < k) (ho : y < 0 ∨ nI 8 ≤ y) : Met l yX7_holds (wsOf yX7_holds cX7_holds 3 (some .boolean)) ({ frames := 1, cells := 0, slots := 0, locals := 21 }) (pc_t_X7_holds_oj dC dI sz cB cI cJ cZ h0 hC hH k cf tf wm wv wn wx wy d i y) (qc_t_X7_holds_oj dC dI cB cI cJ cZ h0 hC hH k cf tf wm wv wn wx wy d i y (va_A (cs_t_X7_holds_oj cB cI cJ cZ h0 hC hH k cf tf wm wv wn wx wy d i y) sz)) 0 0 (va_A (cs_t_X7_holds_oj cB cI cJ cZ h0 hC hH k cf tf wm wv wn wx wy d i y) sz) := by
  refine Met.ofW (cc := cX7_holds) (maxL := 3) (ret := (some .boolean)) (by decide) rfl ?_
  intro p e s m args below meth c s₁ B hml hv
  obtain ⟨rfl, hsz, hP, hK, hD0⟩ := hv
  have hx := B.exec
  have hb := B.bytes
  have hr := B.returns
  have hts := atoms_spec (ws := (wsOf yX7_holds cX7_holds 3 (some .boolean))) B.pre
  have hown : s.vm.findClass RX7 = some m.cls := findClass_of_methodNamed B.named
  have hlocks := B.notSynchronized
  subst hsz
  have hD := hD0.self (sz := s.heap.size)
  generalize hAe : va_A (cs_t_X7_holds_oj cB cI cJ cZ h0 hC hH k cf tf wm wv wn wx wy d i y) s.heap.size = A at hD ⊢
  have hA : ∀ q : Nat, s.heap.size ≤ q → A q := fun q h => by rw [← hAe]; exact Or.inr h
  have hS : va_S A s.heap s.heap [] := va_S.rf
  have hP : va_P (dC, dI) vwCl [(h0, .inr (8, [.int (nI k), .long wm, .ref hC, wv, wn, .ref hH, wx, wy, .int d])), (hC, .inl (cI, 6, .inl cf)), (hH, .inl (cB, 48, .inl tf))] s.heap := hP
  have hl := lv_entry ([.ref h0, .int (nI i), .int y]) (n := 3) (Nat.le_of_ble_eq_true rfl)
  rw [lg_entry_eq]
  generalize (lg_sl ([.ref h0, .int (nI i), .int y]) ++ List.replicate (3 - (lg_sl ([.ref h0, .int (nI i), .int y])).length) Slot.unset).toArray = ls at hl ⊢
  have hl : lv_has ls 3 [(0, .ref h0), (1, .int (nI i)), (2, .int y)] := hl
  refine lv_aload_n hx hb dX7_holds_0 rfl (lv_at hl 0 rfl) ?_
  refine lv_iload_n hx hb dX7_holds_1 rfl (lv_at hl 1 rfl) ?_
  have hPc := hP.sub (ws' := [(h0, .inr (8, [.int (nI k), .long wm, .ref hC, wv, wn, .ref hH, wx, wy, .int d])), (hC, .inl (cI, 6, .inl cf))]) [0, 1] rfl
  have hDc := hD.sub (ws' := [(h0, .inr (8, [.int (nI k), .long wm, .ref hC, wv, wn, .ref hH, wx, wy, .int d])), (hC, .inl (cI, 6, .inl cf))]) [0, 1] (by decide) rfl
  have hKc := hK.sub (tys' := [(cB, .byte), (cI, .int), (cJ, .long), (cZ, .boolean)]) [0, 1, 2, 3] rfl
  have hFc := va_free (wc := [(h0, .inr (8, [.int (nI k), .long wm, .ref hC, wv, wn, .ref hH, wx, wy, .int d])), (hC, .inl (cI, 6, .inl cf))]) hD hS hA [0, 1] rfl
  refine va_calli (va_runV (As := [.int (nI i)]) (rest := []) ⟨hx, hb, hml, hown, hts⟩ (t_X7_exists_in l dC dI s.heap.size cB cI cJ cZ h0 hC k cf wm wv wn (.ref hH) wx wy d i hk hi) (cwV 1 hts (gd_all (in_V kw_1237 kw_1230 kw_1231 kw_182 kc_X7_exists)) rfl rfl rfl (by decide +kernel) ⟨Nat.le_of_ble_eq_true rfl, Nat.le_of_ble_eq_true rfl⟩) ⟨fun a U g mk q => by obtain ⟨q0, q1, qP, qK, qD⟩ := q; exact ⟨q0, q1, qP, va_K.moved (u := U) (U := U.calling g mk a) (Vm.Alike.refl U.vm) qK, qD⟩, va_recv hKc hPc (ci := 8) (q0 := 0) rfl rfl, fun U hU hW => ⟨rfl, by rw [hU], by rw [hU]; exact hPc, va_K.moved hW.alike hKc, hDc.weaken (fun _ _ _ _ => trivial)⟩⟩ rfl rfl hl.1 rfl (lv_room (Nat.le_of_ble_eq_true rfl)) dX7_holds_2 ⟨Nat.le_of_ble_eq_true rfl, Nat.le_of_ble_eq_true rfl⟩) hS (fun q _ h => hFc q h) hFc (fun r_1 u t_ H1 locs ht hvm hw hB hz1 hk1 hS => ?_)
  obtain ⟨hP1, hK1, hD1⟩ := hB
  rw [ht] at hP1
  have hK1 := va_K.moved hvm.symm hK1
  obtain ⟨hP, hD⟩ := va_join (wr := [(hH, .inl (cB, 48, .inl tf))]) (w1 := [(h0, .inr (8, [.int (nI k), .long wm, .ref hC, wv, wn, .ref hH, wx, wy, .int d])), (hC, .inl (cI, 6, .inl cf))]) hP hD [0, 1] [2] rfl rfl (by decide) (by decide) hk1 hFc hP1 hD1
  have hK := (hK.sub (tys' := []) [] rfl).app hK1
  generalize H1 = H at hP hS ⊢
  have hP : va_P (dC, dI) vwCl [(hH, .inl (cB, 48, .inl tf)), (h0, .inr (8, [.int (nI k), .long wm, .ref hC, wv, wn, .ref hH, wx, wy, .int d])), (hC, .inl (cI, 6, .inl cf))] H := hP
  have hD : va_D A [(hH, .inl (cB, 48, .inl tf)), (h0, .inr (8, [.int (nI k), .long wm, .ref hC, wv, wn, .ref hH, wx, wy, .int d])), (hC, .inl (cI, 6, .inl cf))] := hD
  have hK : va_K (dC, dI) vwCl [(cB, .byte), (cI, .int), (cJ, .long), (cZ, .boolean)] s := hK
  have er_1 : r_1 = 1 := hw
  rw [er_1]
  refine lv_if_eq (tgt := 36) hx hb dX7_holds_5 (by decide) (fun c_2 => ?_) (fun c_2 => ?_)
  · skip
    exact absurd c_2 (by decide)
  · skip
    refine lv_iload_n hx hb dX7_holds_8 rfl (lv_at hl 2 rfl) ?_
    refine lv_if_lt (tgt := 36) hx hb dX7_holds_9 (by decide) (fun c_3 => ?_) (fun c_3 => ?_)
    · skip
      refine lv_iconst (v := 0) hx hb dX7_holds_36 (by decide) ?_
      have hP9 := hP.sub (ws' := [(h0, .inr (8, [.int (nI k), .long wm, .ref hC, wv, wn, .ref hH, wx, wy, .int d])), (hC, .inl (cI, 6, .inl cf)), (hH, .inl (cB, 48, .inl tf))]) [1, 2, 0] rfl
      have hD9 := hD.sub (ws' := [(h0, .inr (8, [.int (nI k), .long wm, .ref hC, wv, wn, .ref hH, wx, wy, .int d])), (hC, .inl (cI, 6, .inl cf)), (hH, .inl (cB, 48, .inl tf))]) [1, 2, 0] (by decide) rfl
      have hK9 := hK.sub (tys' := [(cB, .byte), (cI, .int), (cJ, .long), (cZ, .boolean)]) [0, 1, 2, 3] rfl
      exact W.zret (v := 0) hx hb hr (by rfl) (fun t_ ht hW => ⟨⟨0, (), rfl, rfl, by rw [ht]; exact hP9, va_K.moved hW.alike hK9, hD9⟩, hS.F ht⟩) hS.2.2 dX7_holds_37
    · skip
      refine lv_iload_n hx hb dX7_holds_12 rfl (lv_at hl 2 rfl) ?_
      refine lv_bipush (v := 8) hx hb dX7_holds_13 (by decide) ?_
      refine lv_icmp_ge (tgt := 36) hx hb dX7_holds_15 (by decide) (fun c_4 => ?_) (fun c_4 => ?_)
      · skip
        refine lv_iconst (v := 0) hx hb dX7_holds_36 (by decide) ?_
        have hP9 := hP.sub (ws' := [(h0, .inr (8, [.int (nI k), .long wm, .ref hC, wv, wn, .ref hH, wx, wy, .int d])), (hC, .inl (cI, 6, .inl cf)), (hH, .inl (cB, 48, .inl tf))]) [1, 2, 0] rfl
        have hD9 := hD.sub (ws' := [(h0, .inr (8, [.int (nI k), .long wm, .ref hC, wv, wn, .ref hH, wx, wy, .int d])), (hC, .inl (cI, 6, .inl cf)), (hH, .inl (cB, 48, .inl tf))]) [1, 2, 0] (by decide) rfl
        have hK9 := hK.sub (tys' := [(cB, .byte), (cI, .int), (cJ, .long), (cZ, .boolean)]) [0, 1, 2, 3] rfl
        exact W.zret (v := 0) hx hb hr (by rfl) (fun t_ ht hW => ⟨⟨0, (), rfl, rfl, by rw [ht]; exact hP9, va_K.moved hW.alike hK9, hD9⟩, hS.F ht⟩) hS.2.2 dX7_holds_37
      · skip
        exact absurd ho (not_or.mpr ⟨c_3, c_4⟩)
theorem dX7_freePlace_0 : decode cX7_freePlace 0 = .ok (.iconst 0, 1) := by decide +kernel
theorem dX7_freePlace_1 : decode cX7_freePlace 1 = .ok (.istore_n 2, 1) := by decide +kernel
theorem dX7_freePlace_2 : decode cX7_freePlace 2 = .ok (.iload_n 2, 1) := by decide +kernel
theorem dX7_freePlace_3 : decode cX7_freePlace 3 = .ok (.bipush 8, 2) := by decide +kernel
theorem dX7_freePlace_5 : decode cX7_freePlace 5 = .ok (.if_icmp .ge 20, 3) := by decide +kernel
theorem dX7_freePlace_8 : decode cX7_freePlace 8 = .ok (.aload_n 0, 1) := by decide +kernel
theorem dX7_freePlace_9 : decode cX7_freePlace 9 = .ok (.iload_n 1, 1) := by decide +kernel
theorem dX7_freePlace_10 : decode cX7_freePlace 10 = .ok (.iload_n 2, 1) := by decide +kernel
theorem dX7_freePlace_11 : decode cX7_freePlace 11 = .ok (.invokevirtual 62, 3) := by decide +kernel
theorem dX7_freePlace_14 : decode cX7_freePlace 14 = .ok (.ifCond .ne 5, 3) := by decide +kernel
theorem dX7_freePlace_17 : decode cX7_freePlace 17 = .ok (.iload_n 2, 1) := by decide +kernel
theorem dX7_freePlace_18 : decode cX7_freePlace 18 = .ok (.ireturn, 1) := by decide +kernel
theorem dX7_freePlace_19 : decode cX7_freePlace 19 = .ok (.iinc 2 1, 3) := by decide +kernel
theorem dX7_freePlace_22 : decode cX7_freePlace 22 = .ok (.goto (-20), 3) := by decide +kernel
theorem dX7_freePlace_25 : decode cX7_freePlace 25 = .ok (.iconst (-1), 1) := by decide +kernel
theorem dX7_freePlace_26 : decode cX7_freePlace 26 = .ok (.ireturn, 1) := by decide +kernel
abbrev cs_t_X7_freePlace (cB cI cJ cZ : ClassId) (h0 hC hH : Nat) (k : Nat) (cf tf : Nat → Int32) (wm : Int64) (wv wn wx wy : Value) (d : Int32) (i : Nat) : va_W := [(h0, .inr (8, [.int (nI k), .long wm, .ref hC, wv, wn, .ref hH, wx, wy, .int d])), (hC, .inl (cI, 6, .inl cf)), (hH, .inl (cB, 48, .inl tf))]
abbrev pc_t_X7_freePlace (dC : Nat → ClassId) (dI : Nat → Nat → Nat) (sz : Nat) (cB cI cJ cZ : ClassId) (h0 hC hH : Nat) (k : Nat) (cf tf : Nat → Int32) (wm : Int64) (wv wn wx wy : Value) (d : Int32) (i : Nat) : Array Value → State → Prop := va_Pc [.ref h0, .int (nI i)] (fun U => U.heap.size = sz ∧ va_P (dC, dI) vwCl [(h0, .inr (8, [.int (nI k), .long wm, .ref hC, wv, wn, .ref hH, wx, wy, .int d])), (hC, .inl (cI, 6, .inl cf)), (hH, .inl (cB, 48, .inl tf))] U.heap ∧ va_K (dC, dI) vwCl [(cB, .byte), (cI, .int), (cJ, .long), (cZ, .boolean)] U ∧ va_D (fun _ => True) [(h0, .inr (8, [.int (nI k), .long wm, .ref hC, wv, wn, .ref hH, wx, wy, .int d])), (hC, .inl (cI, 6, .inl cf)), (hH, .inl (cB, 48, .inl tf))])
abbrev qc_t_X7_freePlace (dC : Nat → ClassId) (dI : Nat → Nat → Nat) (cB cI cJ cZ : ClassId) (h0 hC hH : Nat) (k : Nat) (cf tf : Nat → Int32) (wm : Int64) (wv wn wx wy : Value) (d : Int32) (i : Nat) (A : Nat → Prop) : Array Value → State → Outcome → State → Prop := va_Qi (fun (r : Int32) (u : Unit) => match u with | _ => r = freeR tf (i * 8)) (fun (u : Unit) t_ => match u with | _ => va_P (dC, dI) vwCl [(h0, .inr (8, [.int (nI k), .long wm, .ref hC, wv, wn, .ref hH, wx, wy, .int d])), (hC, .inl (cI, 6, .inl cf)), (hH, .inl (cB, 48, .inl tf))] t_.heap ∧ va_K (dC, dI) vwCl [(cB, .byte), (cI, .int), (cJ, .long), (cZ, .boolean)] t_ ∧ va_D A [(h0, .inr (8, [.int (nI k), .long wm, .ref hC, wv, wn, .ref hH, wx, wy, .int d])), (hC, .inl (cI, 6, .inl cf)), (hH, .inl (cB, 48, .inl tf))]) A
set_option maxHeartbeats 4000000 in
set_option maxRecDepth 100000 in
theorem t_X7_freePlace (l : Launch) (dC : Nat → ClassId) (dI : Nat → Nat → Nat) (sz : Nat) (cB cI cJ cZ : ClassId) (h0 hC hH : Nat) (k : Nat) (cf tf : Nat → Int32) (wm : Int64) (wv wn wx wy : Value) (d : Int32) (i : Nat) (hk : k ≤ 6) (hi : i < k) : Met l yX7_freePlace (wsOf yX7_freePlace cX7_freePlace 3 (some .int)) ({ frames := 2, cells := 0, slots := 0, locals := 43 }) (pc_t_X7_freePlace dC dI sz cB cI cJ cZ h0 hC hH k cf tf wm wv wn wx wy d i) (qc_t_X7_freePlace dC dI cB cI cJ cZ h0 hC hH k cf tf wm wv wn wx wy d i (va_A (cs_t_X7_freePlace cB cI cJ cZ h0 hC hH k cf tf wm wv wn wx wy d i) sz)) 0 0 (va_A (cs_t_X7_freePlace cB cI cJ cZ h0 hC hH k cf tf wm wv wn wx wy d i) sz) := by
  refine Met.ofW (cc := cX7_freePlace) (maxL := 3) (ret := (some .int)) (by decide) rfl ?_
  intro p e s m args below meth c s₁ B hml hv
  obtain ⟨rfl, hsz, hP, hK, hD0⟩ := hv
  have hx := B.exec
  have hb := B.bytes
  have hr := B.returns
  have hts := atoms_spec (ws := (wsOf yX7_freePlace cX7_freePlace 3 (some .int))) B.pre
  have hown : s.vm.findClass RX7 = some m.cls := findClass_of_methodNamed B.named
  have hlocks := B.notSynchronized
  subst hsz
  have hD := hD0.self (sz := s.heap.size)
  generalize hAe : va_A (cs_t_X7_freePlace cB cI cJ cZ h0 hC hH k cf tf wm wv wn wx wy d i) s.heap.size = A at hD ⊢
  have hA : ∀ q : Nat, s.heap.size ≤ q → A q := fun q h => by rw [← hAe]; exact Or.inr h
  have hS : va_S A s.heap s.heap [] := va_S.rf
  have hP : va_P (dC, dI) vwCl [(h0, .inr (8, [.int (nI k), .long wm, .ref hC, wv, wn, .ref hH, wx, wy, .int d])), (hC, .inl (cI, 6, .inl cf)), (hH, .inl (cB, 48, .inl tf))] s.heap := hP
  have hl := lv_entry ([.ref h0, .int (nI i)]) (n := 3) (Nat.le_of_ble_eq_true rfl)
  rw [lg_entry_eq]
  generalize (lg_sl ([.ref h0, .int (nI i)]) ++ List.replicate (3 - (lg_sl ([.ref h0, .int (nI i)])).length) Slot.unset).toArray = ls at hl ⊢
  have hl : lv_has ls 3 [(0, .ref h0), (1, .int (nI i))] := hl
  refine lv_iconst (v := 0) hx hb dX7_freePlace_0 (by decide) ?_
  refine lv_istore_n (lv' := [(2, .int 0), (0, .ref h0), (1, .int (nI i))]) hx hb dX7_freePlace_1 rfl hl (by decide) rfl (fun ls hl => ?_)
  refine lv_iload_n hx hb dX7_freePlace_2 rfl (lv_at hl 0 rfl) ?_
  refine lv_bipush (v := 8) hx hb dX7_freePlace_3 (by decide) ?_
  refine lv_icmp_ge (tgt := 25) hx hb dX7_freePlace_5 (by decide) (fun c_1 => ?_) (fun c_1 => ?_)
  · skip
    exact absurd c_1 (by decide)
  · skip
    refine lv_aload_n hx hb dX7_freePlace_8 rfl (lv_at hl 1 rfl) ?_
    refine lv_iload_n hx hb dX7_freePlace_9 rfl (lv_at hl 2 rfl) ?_
    refine lv_iload_n hx hb dX7_freePlace_10 rfl (lv_at hl 0 rfl) ?_
    have hPc := hP.sub (ws' := [(h0, .inr (8, [.int (nI k), .long wm, .ref hC, wv, wn, .ref hH, wx, wy, .int d])), (hC, .inl (cI, 6, .inl cf)), (hH, .inl (cB, 48, .inl tf))]) [0, 1, 2] rfl
    have hDc := hD.sub (ws' := [(h0, .inr (8, [.int (nI k), .long wm, .ref hC, wv, wn, .ref hH, wx, wy, .int d])), (hC, .inl (cI, 6, .inl cf)), (hH, .inl (cB, 48, .inl tf))]) [0, 1, 2] (by decide) rfl
    have hKc := hK.sub (tys' := [(cB, .byte), (cI, .int), (cJ, .long), (cZ, .boolean)]) [0, 1, 2, 3] rfl
    have hFc := va_free (wc := [(h0, .inr (8, [.int (nI k), .long wm, .ref hC, wv, wn, .ref hH, wx, wy, .int d])), (hC, .inl (cI, 6, .inl cf)), (hH, .inl (cB, 48, .inl tf))]) hD hS hA [0, 1, 2] rfl
    refine va_calli (va_runV (As := [.int (nI i), .int 0]) (rest := []) ⟨hx, hb, hml, hown, hts⟩ (t_X7_holds_in l dC dI s.heap.size cB cI cJ cZ h0 hC hH k cf tf wm wv wn wx wy d i 0 hk hi (by omega)) (cwV 2 hts (gd_all (in_V kw_1389 kw_1390 kw_1391 kw_182 kc_X7_holds)) rfl rfl rfl (by decide +kernel) ⟨Nat.le_of_ble_eq_true rfl, Nat.le_of_ble_eq_true rfl⟩) ⟨fun a U g mk q => by obtain ⟨q0, q1, qP, qK, qD⟩ := q; exact ⟨q0, q1, qP, va_K.moved (u := U) (U := U.calling g mk a) (Vm.Alike.refl U.vm) qK, qD⟩, va_recv hKc hPc (ci := 8) (q0 := 0) rfl rfl, fun U hU hW => ⟨rfl, by rw [hU], by rw [hU]; exact hPc, va_K.moved hW.alike hKc, hDc.weaken (fun _ _ _ _ => trivial)⟩⟩ rfl rfl hl.1 rfl (lv_room (Nat.le_of_ble_eq_true rfl)) dX7_freePlace_11 ⟨Nat.le_of_ble_eq_true rfl, Nat.le_of_ble_eq_true rfl⟩) hS (fun q _ h => hFc q h) hFc (fun r_2 u t_ H1 locs ht hvm hw hB hz1 hk1 hS => ?_)
    obtain ⟨hP1, hK1, hD1⟩ := hB
    rw [ht] at hP1
    have hK1 := va_K.moved hvm.symm hK1
    obtain ⟨hP, hD⟩ := va_join (wr := []) (w1 := [(h0, .inr (8, [.int (nI k), .long wm, .ref hC, wv, wn, .ref hH, wx, wy, .int d])), (hC, .inl (cI, 6, .inl cf)), (hH, .inl (cB, 48, .inl tf))]) hP hD [0, 1, 2] [] rfl rfl (by decide) (by decide) hk1 hFc hP1 hD1
    have hK := (hK.sub (tys' := []) [] rfl).app hK1
    generalize H1 = H at hP hS ⊢
    have hP : va_P (dC, dI) vwCl [(h0, .inr (8, [.int (nI k), .long wm, .ref hC, wv, wn, .ref hH, wx, wy, .int d])), (hC, .inl (cI, 6, .inl cf)), (hH, .inl (cB, 48, .inl tf))] H := hP
    have hD : va_D A [(h0, .inr (8, [.int (nI k), .long wm, .ref hC, wv, wn, .ref hH, wx, wy, .int d])), (hC, .inl (cI, 6, .inl cf)), (hH, .inl (cB, 48, .inl tf))] := hD
    have hK : va_K (dC, dI) vwCl [(cB, .byte), (cI, .int), (cJ, .long), (cZ, .boolean)] s := hK
    have er_2 : r_2 = hvI (tf (i * 8 + 0)) := hw
    rw [er_2]
    refine lv_if_ne (tgt := 19) hx hb dX7_freePlace_14 (by decide) (fun c_3 => ?_) (fun c_3 => ?_)
    · skip
      refine lv_iinc (v := 1) (lv' := [(2, .int 1), (0, .ref h0), (1, .int (nI i))]) hx hb dX7_freePlace_19 hl (k := 0) rfl (by decide) (by decide) rfl (fun ls hl => ?_)
      refine lv_goto (tgt := 2) hx hb dX7_freePlace_22 (by decide) ?_
      refine lv_iload_n hx hb dX7_freePlace_2 rfl (lv_at hl 0 rfl) ?_
      refine lv_bipush (v := 8) hx hb dX7_freePlace_3 (by decide) ?_
      refine lv_icmp_ge (tgt := 25) hx hb dX7_freePlace_5 (by decide) (fun c_4 => ?_) (fun c_4 => ?_)
      · skip
        exact absurd c_4 (by decide)
      · skip
        refine lv_aload_n hx hb dX7_freePlace_8 rfl (lv_at hl 1 rfl) ?_
        refine lv_iload_n hx hb dX7_freePlace_9 rfl (lv_at hl 2 rfl) ?_
        refine lv_iload_n hx hb dX7_freePlace_10 rfl (lv_at hl 0 rfl) ?_
        have hPc := hP.sub (ws' := [(h0, .inr (8, [.int (nI k), .long wm, .ref hC, wv, wn, .ref hH, wx, wy, .int d])), (hC, .inl (cI, 6, .inl cf)), (hH, .inl (cB, 48, .inl tf))]) [0, 1, 2] rfl
        have hDc := hD.sub (ws' := [(h0, .inr (8, [.int (nI k), .long wm, .ref hC, wv, wn, .ref hH, wx, wy, .int d])), (hC, .inl (cI, 6, .inl cf)), (hH, .inl (cB, 48, .inl tf))]) [0, 1, 2] (by decide) rfl
        have hKc := hK.sub (tys' := [(cB, .byte), (cI, .int), (cJ, .long), (cZ, .boolean)]) [0, 1, 2, 3] rfl
        have hFc := va_free (wc := [(h0, .inr (8, [.int (nI k), .long wm, .ref hC, wv, wn, .ref hH, wx, wy, .int d])), (hC, .inl (cI, 6, .inl cf)), (hH, .inl (cB, 48, .inl tf))]) hD hS hA [0, 1, 2] rfl
        refine va_calli (va_runV (As := [.int (nI i), .int 1]) (rest := []) ⟨hx, hb, hml, hown, hts⟩ (t_X7_holds_in l dC dI H.size cB cI cJ cZ h0 hC hH k cf tf wm wv wn wx wy d i 1 hk hi (by omega)) (cwV 2 hts (gd_all (in_V kw_1389 kw_1390 kw_1391 kw_182 kc_X7_holds)) rfl rfl rfl (by decide +kernel) ⟨Nat.le_of_ble_eq_true rfl, Nat.le_of_ble_eq_true rfl⟩) ⟨fun a U g mk q => by obtain ⟨q0, q1, qP, qK, qD⟩ := q; exact ⟨q0, q1, qP, va_K.moved (u := U) (U := U.calling g mk a) (Vm.Alike.refl U.vm) qK, qD⟩, va_recv hKc hPc (ci := 8) (q0 := 0) rfl rfl, fun U hU hW => ⟨rfl, by rw [hU], by rw [hU]; exact hPc, va_K.moved hW.alike hKc, hDc.weaken (fun _ _ _ _ => trivial)⟩⟩ rfl rfl hl.1 rfl (lv_room (Nat.le_of_ble_eq_true rfl)) dX7_freePlace_11 ⟨Nat.le_of_ble_eq_true rfl, Nat.le_of_ble_eq_true rfl⟩) hS (fun q _ h => hFc q h) hFc (fun r_5 u t_ H1 locs ht hvm hw hB hz1 hk1 hS => ?_)
        obtain ⟨hP1, hK1, hD1⟩ := hB
        rw [ht] at hP1
        have hK1 := va_K.moved hvm.symm hK1
        obtain ⟨hP, hD⟩ := va_join (wr := []) (w1 := [(h0, .inr (8, [.int (nI k), .long wm, .ref hC, wv, wn, .ref hH, wx, wy, .int d])), (hC, .inl (cI, 6, .inl cf)), (hH, .inl (cB, 48, .inl tf))]) hP hD [0, 1, 2] [] rfl rfl (by decide) (by decide) hk1 hFc hP1 hD1
        have hK := (hK.sub (tys' := []) [] rfl).app hK1
        generalize H1 = H at hP hS ⊢
        have hP : va_P (dC, dI) vwCl [(h0, .inr (8, [.int (nI k), .long wm, .ref hC, wv, wn, .ref hH, wx, wy, .int d])), (hC, .inl (cI, 6, .inl cf)), (hH, .inl (cB, 48, .inl tf))] H := hP
        have hD : va_D A [(h0, .inr (8, [.int (nI k), .long wm, .ref hC, wv, wn, .ref hH, wx, wy, .int d])), (hC, .inl (cI, 6, .inl cf)), (hH, .inl (cB, 48, .inl tf))] := hD
        have hK : va_K (dC, dI) vwCl [(cB, .byte), (cI, .int), (cJ, .long), (cZ, .boolean)] s := hK
        have er_5 : r_5 = hvI (tf (i * 8 + 1)) := hw
        rw [er_5]
        refine lv_if_ne (tgt := 19) hx hb dX7_freePlace_14 (by decide) (fun c_6 => ?_) (fun c_6 => ?_)
        · skip
          refine lv_iinc (v := 2) (lv' := [(2, .int 2), (0, .ref h0), (1, .int (nI i))]) hx hb dX7_freePlace_19 hl (k := 0) rfl (by decide) (by decide) rfl (fun ls hl => ?_)
          refine lv_goto (tgt := 2) hx hb dX7_freePlace_22 (by decide) ?_
          refine lv_iload_n hx hb dX7_freePlace_2 rfl (lv_at hl 0 rfl) ?_
          refine lv_bipush (v := 8) hx hb dX7_freePlace_3 (by decide) ?_
          refine lv_icmp_ge (tgt := 25) hx hb dX7_freePlace_5 (by decide) (fun c_7 => ?_) (fun c_7 => ?_)
          · skip
            exact absurd c_7 (by decide)
          · skip
            refine lv_aload_n hx hb dX7_freePlace_8 rfl (lv_at hl 1 rfl) ?_
            refine lv_iload_n hx hb dX7_freePlace_9 rfl (lv_at hl 2 rfl) ?_
            refine lv_iload_n hx hb dX7_freePlace_10 rfl (lv_at hl 0 rfl) ?_
            have hPc := hP.sub (ws' := [(h0, .inr (8, [.int (nI k), .long wm, .ref hC, wv, wn, .ref hH, wx, wy, .int d])), (hC, .inl (cI, 6, .inl cf)), (hH, .inl (cB, 48, .inl tf))]) [0, 1, 2] rfl
            have hDc := hD.sub (ws' := [(h0, .inr (8, [.int (nI k), .long wm, .ref hC, wv, wn, .ref hH, wx, wy, .int d])), (hC, .inl (cI, 6, .inl cf)), (hH, .inl (cB, 48, .inl tf))]) [0, 1, 2] (by decide) rfl
            have hKc := hK.sub (tys' := [(cB, .byte), (cI, .int), (cJ, .long), (cZ, .boolean)]) [0, 1, 2, 3] rfl
            have hFc := va_free (wc := [(h0, .inr (8, [.int (nI k), .long wm, .ref hC, wv, wn, .ref hH, wx, wy, .int d])), (hC, .inl (cI, 6, .inl cf)), (hH, .inl (cB, 48, .inl tf))]) hD hS hA [0, 1, 2] rfl
            refine va_calli (va_runV (As := [.int (nI i), .int 2]) (rest := []) ⟨hx, hb, hml, hown, hts⟩ (t_X7_holds_in l dC dI H.size cB cI cJ cZ h0 hC hH k cf tf wm wv wn wx wy d i 2 hk hi (by omega)) (cwV 2 hts (gd_all (in_V kw_1389 kw_1390 kw_1391 kw_182 kc_X7_holds)) rfl rfl rfl (by decide +kernel) ⟨Nat.le_of_ble_eq_true rfl, Nat.le_of_ble_eq_true rfl⟩) ⟨fun a U g mk q => by obtain ⟨q0, q1, qP, qK, qD⟩ := q; exact ⟨q0, q1, qP, va_K.moved (u := U) (U := U.calling g mk a) (Vm.Alike.refl U.vm) qK, qD⟩, va_recv hKc hPc (ci := 8) (q0 := 0) rfl rfl, fun U hU hW => ⟨rfl, by rw [hU], by rw [hU]; exact hPc, va_K.moved hW.alike hKc, hDc.weaken (fun _ _ _ _ => trivial)⟩⟩ rfl rfl hl.1 rfl (lv_room (Nat.le_of_ble_eq_true rfl)) dX7_freePlace_11 ⟨Nat.le_of_ble_eq_true rfl, Nat.le_of_ble_eq_true rfl⟩) hS (fun q _ h => hFc q h) hFc (fun r_8 u t_ H1 locs ht hvm hw hB hz1 hk1 hS => ?_)
            obtain ⟨hP1, hK1, hD1⟩ := hB
            rw [ht] at hP1
            have hK1 := va_K.moved hvm.symm hK1
            obtain ⟨hP, hD⟩ := va_join (wr := []) (w1 := [(h0, .inr (8, [.int (nI k), .long wm, .ref hC, wv, wn, .ref hH, wx, wy, .int d])), (hC, .inl (cI, 6, .inl cf)), (hH, .inl (cB, 48, .inl tf))]) hP hD [0, 1, 2] [] rfl rfl (by decide) (by decide) hk1 hFc hP1 hD1
            have hK := (hK.sub (tys' := []) [] rfl).app hK1
            generalize H1 = H at hP hS ⊢
            have hP : va_P (dC, dI) vwCl [(h0, .inr (8, [.int (nI k), .long wm, .ref hC, wv, wn, .ref hH, wx, wy, .int d])), (hC, .inl (cI, 6, .inl cf)), (hH, .inl (cB, 48, .inl tf))] H := hP
            have hD : va_D A [(h0, .inr (8, [.int (nI k), .long wm, .ref hC, wv, wn, .ref hH, wx, wy, .int d])), (hC, .inl (cI, 6, .inl cf)), (hH, .inl (cB, 48, .inl tf))] := hD
            have hK : va_K (dC, dI) vwCl [(cB, .byte), (cI, .int), (cJ, .long), (cZ, .boolean)] s := hK
            have er_8 : r_8 = hvI (tf (i * 8 + 2)) := hw
            rw [er_8]
            refine lv_if_ne (tgt := 19) hx hb dX7_freePlace_14 (by decide) (fun c_9 => ?_) (fun c_9 => ?_)
            · skip
              refine lv_iinc (v := 3) (lv' := [(2, .int 3), (0, .ref h0), (1, .int (nI i))]) hx hb dX7_freePlace_19 hl (k := 0) rfl (by decide) (by decide) rfl (fun ls hl => ?_)
              refine lv_goto (tgt := 2) hx hb dX7_freePlace_22 (by decide) ?_
              refine lv_iload_n hx hb dX7_freePlace_2 rfl (lv_at hl 0 rfl) ?_
              refine lv_bipush (v := 8) hx hb dX7_freePlace_3 (by decide) ?_
              refine lv_icmp_ge (tgt := 25) hx hb dX7_freePlace_5 (by decide) (fun c_10 => ?_) (fun c_10 => ?_)
              · skip
                exact absurd c_10 (by decide)
              · skip
                refine lv_aload_n hx hb dX7_freePlace_8 rfl (lv_at hl 1 rfl) ?_
                refine lv_iload_n hx hb dX7_freePlace_9 rfl (lv_at hl 2 rfl) ?_
                refine lv_iload_n hx hb dX7_freePlace_10 rfl (lv_at hl 0 rfl) ?_
                have hPc := hP.sub (ws' := [(h0, .inr (8, [.int (nI k), .long wm, .ref hC, wv, wn, .ref hH, wx, wy, .int d])), (hC, .inl (cI, 6, .inl cf)), (hH, .inl (cB, 48, .inl tf))]) [0, 1, 2] rfl
                have hDc := hD.sub (ws' := [(h0, .inr (8, [.int (nI k), .long wm, .ref hC, wv, wn, .ref hH, wx, wy, .int d])), (hC, .inl (cI, 6, .inl cf)), (hH, .inl (cB, 48, .inl tf))]) [0, 1, 2] (by decide) rfl
                have hKc := hK.sub (tys' := [(cB, .byte), (cI, .int), (cJ, .long), (cZ, .boolean)]) [0, 1, 2, 3] rfl
                have hFc := va_free (wc := [(h0, .inr (8, [.int (nI k), .long wm, .ref hC, wv, wn, .ref hH, wx, wy, .int d])), (hC, .inl (cI, 6, .inl cf)), (hH, .inl (cB, 48, .inl tf))]) hD hS hA [0, 1, 2] rfl
                refine va_calli (va_runV (As := [.int (nI i), .int 3]) (rest := []) ⟨hx, hb, hml, hown, hts⟩ (t_X7_holds_in l dC dI H.size cB cI cJ cZ h0 hC hH k cf tf wm wv wn wx wy d i 3 hk hi (by omega)) (cwV 2 hts (gd_all (in_V kw_1389 kw_1390 kw_1391 kw_182 kc_X7_holds)) rfl rfl rfl (by decide +kernel) ⟨Nat.le_of_ble_eq_true rfl, Nat.le_of_ble_eq_true rfl⟩) ⟨fun a U g mk q => by obtain ⟨q0, q1, qP, qK, qD⟩ := q; exact ⟨q0, q1, qP, va_K.moved (u := U) (U := U.calling g mk a) (Vm.Alike.refl U.vm) qK, qD⟩, va_recv hKc hPc (ci := 8) (q0 := 0) rfl rfl, fun U hU hW => ⟨rfl, by rw [hU], by rw [hU]; exact hPc, va_K.moved hW.alike hKc, hDc.weaken (fun _ _ _ _ => trivial)⟩⟩ rfl rfl hl.1 rfl (lv_room (Nat.le_of_ble_eq_true rfl)) dX7_freePlace_11 ⟨Nat.le_of_ble_eq_true rfl, Nat.le_of_ble_eq_true rfl⟩) hS (fun q _ h => hFc q h) hFc (fun r_11 u t_ H1 locs ht hvm hw hB hz1 hk1 hS => ?_)
                obtain ⟨hP1, hK1, hD1⟩ := hB
                rw [ht] at hP1
                have hK1 := va_K.moved hvm.symm hK1
                obtain ⟨hP, hD⟩ := va_join (wr := []) (w1 := [(h0, .inr (8, [.int (nI k), .long wm, .ref hC, wv, wn, .ref hH, wx, wy, .int d])), (hC, .inl (cI, 6, .inl cf)), (hH, .inl (cB, 48, .inl tf))]) hP hD [0, 1, 2] [] rfl rfl (by decide) (by decide) hk1 hFc hP1 hD1
                have hK := (hK.sub (tys' := []) [] rfl).app hK1
                generalize H1 = H at hP hS ⊢
                have hP : va_P (dC, dI) vwCl [(h0, .inr (8, [.int (nI k), .long wm, .ref hC, wv, wn, .ref hH, wx, wy, .int d])), (hC, .inl (cI, 6, .inl cf)), (hH, .inl (cB, 48, .inl tf))] H := hP
                have hD : va_D A [(h0, .inr (8, [.int (nI k), .long wm, .ref hC, wv, wn, .ref hH, wx, wy, .int d])), (hC, .inl (cI, 6, .inl cf)), (hH, .inl (cB, 48, .inl tf))] := hD
                have hK : va_K (dC, dI) vwCl [(cB, .byte), (cI, .int), (cJ, .long), (cZ, .boolean)] s := hK
                have er_11 : r_11 = hvI (tf (i * 8 + 3)) := hw
                rw [er_11]
                refine lv_if_ne (tgt := 19) hx hb dX7_freePlace_14 (by decide) (fun c_12 => ?_) (fun c_12 => ?_)
                · skip
                  refine lv_iinc (v := 4) (lv' := [(2, .int 4), (0, .ref h0), (1, .int (nI i))]) hx hb dX7_freePlace_19 hl (k := 0) rfl (by decide) (by decide) rfl (fun ls hl => ?_)
                  refine lv_goto (tgt := 2) hx hb dX7_freePlace_22 (by decide) ?_
                  refine lv_iload_n hx hb dX7_freePlace_2 rfl (lv_at hl 0 rfl) ?_
                  refine lv_bipush (v := 8) hx hb dX7_freePlace_3 (by decide) ?_
                  refine lv_icmp_ge (tgt := 25) hx hb dX7_freePlace_5 (by decide) (fun c_13 => ?_) (fun c_13 => ?_)
                  · skip
                    exact absurd c_13 (by decide)
                  · skip
                    refine lv_aload_n hx hb dX7_freePlace_8 rfl (lv_at hl 1 rfl) ?_
                    refine lv_iload_n hx hb dX7_freePlace_9 rfl (lv_at hl 2 rfl) ?_
                    refine lv_iload_n hx hb dX7_freePlace_10 rfl (lv_at hl 0 rfl) ?_
                    have hPc := hP.sub (ws' := [(h0, .inr (8, [.int (nI k), .long wm, .ref hC, wv, wn, .ref hH, wx, wy, .int d])), (hC, .inl (cI, 6, .inl cf)), (hH, .inl (cB, 48, .inl tf))]) [0, 1, 2] rfl
                    have hDc := hD.sub (ws' := [(h0, .inr (8, [.int (nI k), .long wm, .ref hC, wv, wn, .ref hH, wx, wy, .int d])), (hC, .inl (cI, 6, .inl cf)), (hH, .inl (cB, 48, .inl tf))]) [0, 1, 2] (by decide) rfl
                    have hKc := hK.sub (tys' := [(cB, .byte), (cI, .int), (cJ, .long), (cZ, .boolean)]) [0, 1, 2, 3] rfl
                    have hFc := va_free (wc := [(h0, .inr (8, [.int (nI k), .long wm, .ref hC, wv, wn, .ref hH, wx, wy, .int d])), (hC, .inl (cI, 6, .inl cf)), (hH, .inl (cB, 48, .inl tf))]) hD hS hA [0, 1, 2] rfl
                    refine va_calli (va_runV (As := [.int (nI i), .int 4]) (rest := []) ⟨hx, hb, hml, hown, hts⟩ (t_X7_holds_in l dC dI H.size cB cI cJ cZ h0 hC hH k cf tf wm wv wn wx wy d i 4 hk hi (by omega)) (cwV 2 hts (gd_all (in_V kw_1389 kw_1390 kw_1391 kw_182 kc_X7_holds)) rfl rfl rfl (by decide +kernel) ⟨Nat.le_of_ble_eq_true rfl, Nat.le_of_ble_eq_true rfl⟩) ⟨fun a U g mk q => by obtain ⟨q0, q1, qP, qK, qD⟩ := q; exact ⟨q0, q1, qP, va_K.moved (u := U) (U := U.calling g mk a) (Vm.Alike.refl U.vm) qK, qD⟩, va_recv hKc hPc (ci := 8) (q0 := 0) rfl rfl, fun U hU hW => ⟨rfl, by rw [hU], by rw [hU]; exact hPc, va_K.moved hW.alike hKc, hDc.weaken (fun _ _ _ _ => trivial)⟩⟩ rfl rfl hl.1 rfl (lv_room (Nat.le_of_ble_eq_true rfl)) dX7_freePlace_11 ⟨Nat.le_of_ble_eq_true rfl, Nat.le_of_ble_eq_true rfl⟩) hS (fun q _ h => hFc q h) hFc (fun r_14 u t_ H1 locs ht hvm hw hB hz1 hk1 hS => ?_)
                    obtain ⟨hP1, hK1, hD1⟩ := hB
                    rw [ht] at hP1
                    have hK1 := va_K.moved hvm.symm hK1
                    obtain ⟨hP, hD⟩ := va_join (wr := []) (w1 := [(h0, .inr (8, [.int (nI k), .long wm, .ref hC, wv, wn, .ref hH, wx, wy, .int d])), (hC, .inl (cI, 6, .inl cf)), (hH, .inl (cB, 48, .inl tf))]) hP hD [0, 1, 2] [] rfl rfl (by decide) (by decide) hk1 hFc hP1 hD1
                    have hK := (hK.sub (tys' := []) [] rfl).app hK1
                    generalize H1 = H at hP hS ⊢
                    have hP : va_P (dC, dI) vwCl [(h0, .inr (8, [.int (nI k), .long wm, .ref hC, wv, wn, .ref hH, wx, wy, .int d])), (hC, .inl (cI, 6, .inl cf)), (hH, .inl (cB, 48, .inl tf))] H := hP
                    have hD : va_D A [(h0, .inr (8, [.int (nI k), .long wm, .ref hC, wv, wn, .ref hH, wx, wy, .int d])), (hC, .inl (cI, 6, .inl cf)), (hH, .inl (cB, 48, .inl tf))] := hD
                    have hK : va_K (dC, dI) vwCl [(cB, .byte), (cI, .int), (cJ, .long), (cZ, .boolean)] s := hK
                    have er_14 : r_14 = hvI (tf (i * 8 + 4)) := hw
                    rw [er_14]
                    refine lv_if_ne (tgt := 19) hx hb dX7_freePlace_14 (by decide) (fun c_15 => ?_) (fun c_15 => ?_)
                    · skip
                      refine lv_iinc (v := 5) (lv' := [(2, .int 5), (0, .ref h0), (1, .int (nI i))]) hx hb dX7_freePlace_19 hl (k := 0) rfl (by decide) (by decide) rfl (fun ls hl => ?_)
                      refine lv_goto (tgt := 2) hx hb dX7_freePlace_22 (by decide) ?_
                      refine lv_iload_n hx hb dX7_freePlace_2 rfl (lv_at hl 0 rfl) ?_
                      refine lv_bipush (v := 8) hx hb dX7_freePlace_3 (by decide) ?_
                      refine lv_icmp_ge (tgt := 25) hx hb dX7_freePlace_5 (by decide) (fun c_16 => ?_) (fun c_16 => ?_)
                      · skip
                        exact absurd c_16 (by decide)
                      · skip
                        refine lv_aload_n hx hb dX7_freePlace_8 rfl (lv_at hl 1 rfl) ?_
                        refine lv_iload_n hx hb dX7_freePlace_9 rfl (lv_at hl 2 rfl) ?_
                        refine lv_iload_n hx hb dX7_freePlace_10 rfl (lv_at hl 0 rfl) ?_
                        have hPc := hP.sub (ws' := [(h0, .inr (8, [.int (nI k), .long wm, .ref hC, wv, wn, .ref hH, wx, wy, .int d])), (hC, .inl (cI, 6, .inl cf)), (hH, .inl (cB, 48, .inl tf))]) [0, 1, 2] rfl
                        have hDc := hD.sub (ws' := [(h0, .inr (8, [.int (nI k), .long wm, .ref hC, wv, wn, .ref hH, wx, wy, .int d])), (hC, .inl (cI, 6, .inl cf)), (hH, .inl (cB, 48, .inl tf))]) [0, 1, 2] (by decide) rfl
                        have hKc := hK.sub (tys' := [(cB, .byte), (cI, .int), (cJ, .long), (cZ, .boolean)]) [0, 1, 2, 3] rfl
                        have hFc := va_free (wc := [(h0, .inr (8, [.int (nI k), .long wm, .ref hC, wv, wn, .ref hH, wx, wy, .int d])), (hC, .inl (cI, 6, .inl cf)), (hH, .inl (cB, 48, .inl tf))]) hD hS hA [0, 1, 2] rfl
                        refine va_calli (va_runV (As := [.int (nI i), .int 5]) (rest := []) ⟨hx, hb, hml, hown, hts⟩ (t_X7_holds_in l dC dI H.size cB cI cJ cZ h0 hC hH k cf tf wm wv wn wx wy d i 5 hk hi (by omega)) (cwV 2 hts (gd_all (in_V kw_1389 kw_1390 kw_1391 kw_182 kc_X7_holds)) rfl rfl rfl (by decide +kernel) ⟨Nat.le_of_ble_eq_true rfl, Nat.le_of_ble_eq_true rfl⟩) ⟨fun a U g mk q => by obtain ⟨q0, q1, qP, qK, qD⟩ := q; exact ⟨q0, q1, qP, va_K.moved (u := U) (U := U.calling g mk a) (Vm.Alike.refl U.vm) qK, qD⟩, va_recv hKc hPc (ci := 8) (q0 := 0) rfl rfl, fun U hU hW => ⟨rfl, by rw [hU], by rw [hU]; exact hPc, va_K.moved hW.alike hKc, hDc.weaken (fun _ _ _ _ => trivial)⟩⟩ rfl rfl hl.1 rfl (lv_room (Nat.le_of_ble_eq_true rfl)) dX7_freePlace_11 ⟨Nat.le_of_ble_eq_true rfl, Nat.le_of_ble_eq_true rfl⟩) hS (fun q _ h => hFc q h) hFc (fun r_17 u t_ H1 locs ht hvm hw hB hz1 hk1 hS => ?_)
                        obtain ⟨hP1, hK1, hD1⟩ := hB
                        rw [ht] at hP1
                        have hK1 := va_K.moved hvm.symm hK1
                        obtain ⟨hP, hD⟩ := va_join (wr := []) (w1 := [(h0, .inr (8, [.int (nI k), .long wm, .ref hC, wv, wn, .ref hH, wx, wy, .int d])), (hC, .inl (cI, 6, .inl cf)), (hH, .inl (cB, 48, .inl tf))]) hP hD [0, 1, 2] [] rfl rfl (by decide) (by decide) hk1 hFc hP1 hD1
                        have hK := (hK.sub (tys' := []) [] rfl).app hK1
                        generalize H1 = H at hP hS ⊢
                        have hP : va_P (dC, dI) vwCl [(h0, .inr (8, [.int (nI k), .long wm, .ref hC, wv, wn, .ref hH, wx, wy, .int d])), (hC, .inl (cI, 6, .inl cf)), (hH, .inl (cB, 48, .inl tf))] H := hP
                        have hD : va_D A [(h0, .inr (8, [.int (nI k), .long wm, .ref hC, wv, wn, .ref hH, wx, wy, .int d])), (hC, .inl (cI, 6, .inl cf)), (hH, .inl (cB, 48, .inl tf))] := hD
                        have hK : va_K (dC, dI) vwCl [(cB, .byte), (cI, .int), (cJ, .long), (cZ, .boolean)] s := hK
                        have er_17 : r_17 = hvI (tf (i * 8 + 5)) := hw
                        rw [er_17]
                        refine lv_if_ne (tgt := 19) hx hb dX7_freePlace_14 (by decide) (fun c_18 => ?_) (fun c_18 => ?_)
                        · skip
                          refine lv_iinc (v := 6) (lv' := [(2, .int 6), (0, .ref h0), (1, .int (nI i))]) hx hb dX7_freePlace_19 hl (k := 0) rfl (by decide) (by decide) rfl (fun ls hl => ?_)
                          refine lv_goto (tgt := 2) hx hb dX7_freePlace_22 (by decide) ?_
                          refine lv_iload_n hx hb dX7_freePlace_2 rfl (lv_at hl 0 rfl) ?_
                          refine lv_bipush (v := 8) hx hb dX7_freePlace_3 (by decide) ?_
                          refine lv_icmp_ge (tgt := 25) hx hb dX7_freePlace_5 (by decide) (fun c_19 => ?_) (fun c_19 => ?_)
                          · skip
                            exact absurd c_19 (by decide)
                          · skip
                            refine lv_aload_n hx hb dX7_freePlace_8 rfl (lv_at hl 1 rfl) ?_
                            refine lv_iload_n hx hb dX7_freePlace_9 rfl (lv_at hl 2 rfl) ?_
                            refine lv_iload_n hx hb dX7_freePlace_10 rfl (lv_at hl 0 rfl) ?_
                            have hPc := hP.sub (ws' := [(h0, .inr (8, [.int (nI k), .long wm, .ref hC, wv, wn, .ref hH, wx, wy, .int d])), (hC, .inl (cI, 6, .inl cf)), (hH, .inl (cB, 48, .inl tf))]) [0, 1, 2] rfl
                            have hDc := hD.sub (ws' := [(h0, .inr (8, [.int (nI k), .long wm, .ref hC, wv, wn, .ref hH, wx, wy, .int d])), (hC, .inl (cI, 6, .inl cf)), (hH, .inl (cB, 48, .inl tf))]) [0, 1, 2] (by decide) rfl
                            have hKc := hK.sub (tys' := [(cB, .byte), (cI, .int), (cJ, .long), (cZ, .boolean)]) [0, 1, 2, 3] rfl
                            have hFc := va_free (wc := [(h0, .inr (8, [.int (nI k), .long wm, .ref hC, wv, wn, .ref hH, wx, wy, .int d])), (hC, .inl (cI, 6, .inl cf)), (hH, .inl (cB, 48, .inl tf))]) hD hS hA [0, 1, 2] rfl
                            refine va_calli (va_runV (As := [.int (nI i), .int 6]) (rest := []) ⟨hx, hb, hml, hown, hts⟩ (t_X7_holds_in l dC dI H.size cB cI cJ cZ h0 hC hH k cf tf wm wv wn wx wy d i 6 hk hi (by omega)) (cwV 2 hts (gd_all (in_V kw_1389 kw_1390 kw_1391 kw_182 kc_X7_holds)) rfl rfl rfl (by decide +kernel) ⟨Nat.le_of_ble_eq_true rfl, Nat.le_of_ble_eq_true rfl⟩) ⟨fun a U g mk q => by obtain ⟨q0, q1, qP, qK, qD⟩ := q; exact ⟨q0, q1, qP, va_K.moved (u := U) (U := U.calling g mk a) (Vm.Alike.refl U.vm) qK, qD⟩, va_recv hKc hPc (ci := 8) (q0 := 0) rfl rfl, fun U hU hW => ⟨rfl, by rw [hU], by rw [hU]; exact hPc, va_K.moved hW.alike hKc, hDc.weaken (fun _ _ _ _ => trivial)⟩⟩ rfl rfl hl.1 rfl (lv_room (Nat.le_of_ble_eq_true rfl)) dX7_freePlace_11 ⟨Nat.le_of_ble_eq_true rfl, Nat.le_of_ble_eq_true rfl⟩) hS (fun q _ h => hFc q h) hFc (fun r_20 u t_ H1 locs ht hvm hw hB hz1 hk1 hS => ?_)
                            obtain ⟨hP1, hK1, hD1⟩ := hB
                            rw [ht] at hP1
                            have hK1 := va_K.moved hvm.symm hK1
                            obtain ⟨hP, hD⟩ := va_join (wr := []) (w1 := [(h0, .inr (8, [.int (nI k), .long wm, .ref hC, wv, wn, .ref hH, wx, wy, .int d])), (hC, .inl (cI, 6, .inl cf)), (hH, .inl (cB, 48, .inl tf))]) hP hD [0, 1, 2] [] rfl rfl (by decide) (by decide) hk1 hFc hP1 hD1
                            have hK := (hK.sub (tys' := []) [] rfl).app hK1
                            generalize H1 = H at hP hS ⊢
                            have hP : va_P (dC, dI) vwCl [(h0, .inr (8, [.int (nI k), .long wm, .ref hC, wv, wn, .ref hH, wx, wy, .int d])), (hC, .inl (cI, 6, .inl cf)), (hH, .inl (cB, 48, .inl tf))] H := hP
                            have hD : va_D A [(h0, .inr (8, [.int (nI k), .long wm, .ref hC, wv, wn, .ref hH, wx, wy, .int d])), (hC, .inl (cI, 6, .inl cf)), (hH, .inl (cB, 48, .inl tf))] := hD
                            have hK : va_K (dC, dI) vwCl [(cB, .byte), (cI, .int), (cJ, .long), (cZ, .boolean)] s := hK
                            have er_20 : r_20 = hvI (tf (i * 8 + 6)) := hw
                            rw [er_20]
                            refine lv_if_ne (tgt := 19) hx hb dX7_freePlace_14 (by decide) (fun c_21 => ?_) (fun c_21 => ?_)
                            · skip
                              refine lv_iinc (v := 7) (lv' := [(2, .int 7), (0, .ref h0), (1, .int (nI i))]) hx hb dX7_freePlace_19 hl (k := 0) rfl (by decide) (by decide) rfl (fun ls hl => ?_)
                              refine lv_goto (tgt := 2) hx hb dX7_freePlace_22 (by decide) ?_
                              refine lv_iload_n hx hb dX7_freePlace_2 rfl (lv_at hl 0 rfl) ?_
                              refine lv_bipush (v := 8) hx hb dX7_freePlace_3 (by decide) ?_
                              refine lv_icmp_ge (tgt := 25) hx hb dX7_freePlace_5 (by decide) (fun c_22 => ?_) (fun c_22 => ?_)
                              · skip
                                exact absurd c_22 (by decide)
                              · skip
                                refine lv_aload_n hx hb dX7_freePlace_8 rfl (lv_at hl 1 rfl) ?_
                                refine lv_iload_n hx hb dX7_freePlace_9 rfl (lv_at hl 2 rfl) ?_
                                refine lv_iload_n hx hb dX7_freePlace_10 rfl (lv_at hl 0 rfl) ?_
                                have hPc := hP.sub (ws' := [(h0, .inr (8, [.int (nI k), .long wm, .ref hC, wv, wn, .ref hH, wx, wy, .int d])), (hC, .inl (cI, 6, .inl cf)), (hH, .inl (cB, 48, .inl tf))]) [0, 1, 2] rfl
                                have hDc := hD.sub (ws' := [(h0, .inr (8, [.int (nI k), .long wm, .ref hC, wv, wn, .ref hH, wx, wy, .int d])), (hC, .inl (cI, 6, .inl cf)), (hH, .inl (cB, 48, .inl tf))]) [0, 1, 2] (by decide) rfl
                                have hKc := hK.sub (tys' := [(cB, .byte), (cI, .int), (cJ, .long), (cZ, .boolean)]) [0, 1, 2, 3] rfl
                                have hFc := va_free (wc := [(h0, .inr (8, [.int (nI k), .long wm, .ref hC, wv, wn, .ref hH, wx, wy, .int d])), (hC, .inl (cI, 6, .inl cf)), (hH, .inl (cB, 48, .inl tf))]) hD hS hA [0, 1, 2] rfl
                                refine va_calli (va_runV (As := [.int (nI i), .int 7]) (rest := []) ⟨hx, hb, hml, hown, hts⟩ (t_X7_holds_in l dC dI H.size cB cI cJ cZ h0 hC hH k cf tf wm wv wn wx wy d i 7 hk hi (by omega)) (cwV 2 hts (gd_all (in_V kw_1389 kw_1390 kw_1391 kw_182 kc_X7_holds)) rfl rfl rfl (by decide +kernel) ⟨Nat.le_of_ble_eq_true rfl, Nat.le_of_ble_eq_true rfl⟩) ⟨fun a U g mk q => by obtain ⟨q0, q1, qP, qK, qD⟩ := q; exact ⟨q0, q1, qP, va_K.moved (u := U) (U := U.calling g mk a) (Vm.Alike.refl U.vm) qK, qD⟩, va_recv hKc hPc (ci := 8) (q0 := 0) rfl rfl, fun U hU hW => ⟨rfl, by rw [hU], by rw [hU]; exact hPc, va_K.moved hW.alike hKc, hDc.weaken (fun _ _ _ _ => trivial)⟩⟩ rfl rfl hl.1 rfl (lv_room (Nat.le_of_ble_eq_true rfl)) dX7_freePlace_11 ⟨Nat.le_of_ble_eq_true rfl, Nat.le_of_ble_eq_true rfl⟩) hS (fun q _ h => hFc q h) hFc (fun r_23 u t_ H1 locs ht hvm hw hB hz1 hk1 hS => ?_)
                                obtain ⟨hP1, hK1, hD1⟩ := hB
                                rw [ht] at hP1
                                have hK1 := va_K.moved hvm.symm hK1
                                obtain ⟨hP, hD⟩ := va_join (wr := []) (w1 := [(h0, .inr (8, [.int (nI k), .long wm, .ref hC, wv, wn, .ref hH, wx, wy, .int d])), (hC, .inl (cI, 6, .inl cf)), (hH, .inl (cB, 48, .inl tf))]) hP hD [0, 1, 2] [] rfl rfl (by decide) (by decide) hk1 hFc hP1 hD1
                                have hK := (hK.sub (tys' := []) [] rfl).app hK1
                                generalize H1 = H at hP hS ⊢
                                have hP : va_P (dC, dI) vwCl [(h0, .inr (8, [.int (nI k), .long wm, .ref hC, wv, wn, .ref hH, wx, wy, .int d])), (hC, .inl (cI, 6, .inl cf)), (hH, .inl (cB, 48, .inl tf))] H := hP
                                have hD : va_D A [(h0, .inr (8, [.int (nI k), .long wm, .ref hC, wv, wn, .ref hH, wx, wy, .int d])), (hC, .inl (cI, 6, .inl cf)), (hH, .inl (cB, 48, .inl tf))] := hD
                                have hK : va_K (dC, dI) vwCl [(cB, .byte), (cI, .int), (cJ, .long), (cZ, .boolean)] s := hK
                                have er_23 : r_23 = hvI (tf (i * 8 + 7)) := hw
                                rw [er_23]
                                refine lv_if_ne (tgt := 19) hx hb dX7_freePlace_14 (by decide) (fun c_24 => ?_) (fun c_24 => ?_)
                                · skip
                                  refine lv_iinc (v := 8) (lv' := [(2, .int 8), (0, .ref h0), (1, .int (nI i))]) hx hb dX7_freePlace_19 hl (k := 0) rfl (by decide) (by decide) rfl (fun ls hl => ?_)
                                  refine lv_goto (tgt := 2) hx hb dX7_freePlace_22 (by decide) ?_
                                  refine lv_iload_n hx hb dX7_freePlace_2 rfl (lv_at hl 0 rfl) ?_
                                  refine lv_bipush (v := 8) hx hb dX7_freePlace_3 (by decide) ?_
                                  refine lv_icmp_ge (tgt := 25) hx hb dX7_freePlace_5 (by decide) (fun c_25 => ?_) (fun c_25 => ?_)
                                  · skip
                                    refine lv_iconst (v := (-1)) hx hb dX7_freePlace_25 (by decide) ?_
                                    have hP9 := hP.sub (ws' := [(h0, .inr (8, [.int (nI k), .long wm, .ref hC, wv, wn, .ref hH, wx, wy, .int d])), (hC, .inl (cI, 6, .inl cf)), (hH, .inl (cB, 48, .inl tf))]) [0, 1, 2] rfl
                                    have hD9 := hD.sub (ws' := [(h0, .inr (8, [.int (nI k), .long wm, .ref hC, wv, wn, .ref hH, wx, wy, .int d])), (hC, .inl (cI, 6, .inl cf)), (hH, .inl (cB, 48, .inl tf))]) [0, 1, 2] (by decide) rfl
                                    have hK9 := hK.sub (tys' := [(cB, .byte), (cI, .int), (cJ, .long), (cZ, .boolean)]) [0, 1, 2, 3] rfl
                                    exact W.iret (v := (-1)) hx hb hr (fun t_ ht hW => ⟨⟨(-1), (), rfl, by unfold freeR; rw [if_neg (hvI_ne c_3)]; rw [if_neg (hvI_ne c_6)]; rw [if_neg (hvI_ne c_9)]; rw [if_neg (hvI_ne c_12)]; rw [if_neg (hvI_ne c_15)]; rw [if_neg (hvI_ne c_18)]; rw [if_neg (hvI_ne c_21)]; rw [if_neg (hvI_ne c_24)], by rw [ht]; exact hP9, va_K.moved hW.alike hK9, hD9⟩, hS.F ht⟩) hS.2.2 dX7_freePlace_26
                                  · skip
                                    exact absurd c_25 (by decide)
                                · skip
                                  refine lv_iload_n hx hb dX7_freePlace_17 rfl (lv_at hl 0 rfl) ?_
                                  have hP9 := hP.sub (ws' := [(h0, .inr (8, [.int (nI k), .long wm, .ref hC, wv, wn, .ref hH, wx, wy, .int d])), (hC, .inl (cI, 6, .inl cf)), (hH, .inl (cB, 48, .inl tf))]) [0, 1, 2] rfl
                                  have hD9 := hD.sub (ws' := [(h0, .inr (8, [.int (nI k), .long wm, .ref hC, wv, wn, .ref hH, wx, wy, .int d])), (hC, .inl (cI, 6, .inl cf)), (hH, .inl (cB, 48, .inl tf))]) [0, 1, 2] (by decide) rfl
                                  have hK9 := hK.sub (tys' := [(cB, .byte), (cI, .int), (cJ, .long), (cZ, .boolean)]) [0, 1, 2, 3] rfl
                                  exact W.iret (v := 7) hx hb hr (fun t_ ht hW => ⟨⟨7, (), rfl, by unfold freeR; rw [if_neg (hvI_ne c_3)]; rw [if_neg (hvI_ne c_6)]; rw [if_neg (hvI_ne c_9)]; rw [if_neg (hvI_ne c_12)]; rw [if_neg (hvI_ne c_15)]; rw [if_neg (hvI_ne c_18)]; rw [if_neg (hvI_ne c_21)]; rw [if_pos (hvI_eq c_24)], by rw [ht]; exact hP9, va_K.moved hW.alike hK9, hD9⟩, hS.F ht⟩) hS.2.2 dX7_freePlace_18
                            · skip
                              refine lv_iload_n hx hb dX7_freePlace_17 rfl (lv_at hl 0 rfl) ?_
                              have hP9 := hP.sub (ws' := [(h0, .inr (8, [.int (nI k), .long wm, .ref hC, wv, wn, .ref hH, wx, wy, .int d])), (hC, .inl (cI, 6, .inl cf)), (hH, .inl (cB, 48, .inl tf))]) [0, 1, 2] rfl
                              have hD9 := hD.sub (ws' := [(h0, .inr (8, [.int (nI k), .long wm, .ref hC, wv, wn, .ref hH, wx, wy, .int d])), (hC, .inl (cI, 6, .inl cf)), (hH, .inl (cB, 48, .inl tf))]) [0, 1, 2] (by decide) rfl
                              have hK9 := hK.sub (tys' := [(cB, .byte), (cI, .int), (cJ, .long), (cZ, .boolean)]) [0, 1, 2, 3] rfl
                              exact W.iret (v := 6) hx hb hr (fun t_ ht hW => ⟨⟨6, (), rfl, by unfold freeR; rw [if_neg (hvI_ne c_3)]; rw [if_neg (hvI_ne c_6)]; rw [if_neg (hvI_ne c_9)]; rw [if_neg (hvI_ne c_12)]; rw [if_neg (hvI_ne c_15)]; rw [if_neg (hvI_ne c_18)]; rw [if_pos (hvI_eq c_21)], by rw [ht]; exact hP9, va_K.moved hW.alike hK9, hD9⟩, hS.F ht⟩) hS.2.2 dX7_freePlace_18
                        · skip
                          refine lv_iload_n hx hb dX7_freePlace_17 rfl (lv_at hl 0 rfl) ?_
                          have hP9 := hP.sub (ws' := [(h0, .inr (8, [.int (nI k), .long wm, .ref hC, wv, wn, .ref hH, wx, wy, .int d])), (hC, .inl (cI, 6, .inl cf)), (hH, .inl (cB, 48, .inl tf))]) [0, 1, 2] rfl
                          have hD9 := hD.sub (ws' := [(h0, .inr (8, [.int (nI k), .long wm, .ref hC, wv, wn, .ref hH, wx, wy, .int d])), (hC, .inl (cI, 6, .inl cf)), (hH, .inl (cB, 48, .inl tf))]) [0, 1, 2] (by decide) rfl
                          have hK9 := hK.sub (tys' := [(cB, .byte), (cI, .int), (cJ, .long), (cZ, .boolean)]) [0, 1, 2, 3] rfl
                          exact W.iret (v := 5) hx hb hr (fun t_ ht hW => ⟨⟨5, (), rfl, by unfold freeR; rw [if_neg (hvI_ne c_3)]; rw [if_neg (hvI_ne c_6)]; rw [if_neg (hvI_ne c_9)]; rw [if_neg (hvI_ne c_12)]; rw [if_neg (hvI_ne c_15)]; rw [if_pos (hvI_eq c_18)], by rw [ht]; exact hP9, va_K.moved hW.alike hK9, hD9⟩, hS.F ht⟩) hS.2.2 dX7_freePlace_18
                    · skip
                      refine lv_iload_n hx hb dX7_freePlace_17 rfl (lv_at hl 0 rfl) ?_
                      have hP9 := hP.sub (ws' := [(h0, .inr (8, [.int (nI k), .long wm, .ref hC, wv, wn, .ref hH, wx, wy, .int d])), (hC, .inl (cI, 6, .inl cf)), (hH, .inl (cB, 48, .inl tf))]) [0, 1, 2] rfl
                      have hD9 := hD.sub (ws' := [(h0, .inr (8, [.int (nI k), .long wm, .ref hC, wv, wn, .ref hH, wx, wy, .int d])), (hC, .inl (cI, 6, .inl cf)), (hH, .inl (cB, 48, .inl tf))]) [0, 1, 2] (by decide) rfl
                      have hK9 := hK.sub (tys' := [(cB, .byte), (cI, .int), (cJ, .long), (cZ, .boolean)]) [0, 1, 2, 3] rfl
                      exact W.iret (v := 4) hx hb hr (fun t_ ht hW => ⟨⟨4, (), rfl, by unfold freeR; rw [if_neg (hvI_ne c_3)]; rw [if_neg (hvI_ne c_6)]; rw [if_neg (hvI_ne c_9)]; rw [if_neg (hvI_ne c_12)]; rw [if_pos (hvI_eq c_15)], by rw [ht]; exact hP9, va_K.moved hW.alike hK9, hD9⟩, hS.F ht⟩) hS.2.2 dX7_freePlace_18
                · skip
                  refine lv_iload_n hx hb dX7_freePlace_17 rfl (lv_at hl 0 rfl) ?_
                  have hP9 := hP.sub (ws' := [(h0, .inr (8, [.int (nI k), .long wm, .ref hC, wv, wn, .ref hH, wx, wy, .int d])), (hC, .inl (cI, 6, .inl cf)), (hH, .inl (cB, 48, .inl tf))]) [0, 1, 2] rfl
                  have hD9 := hD.sub (ws' := [(h0, .inr (8, [.int (nI k), .long wm, .ref hC, wv, wn, .ref hH, wx, wy, .int d])), (hC, .inl (cI, 6, .inl cf)), (hH, .inl (cB, 48, .inl tf))]) [0, 1, 2] (by decide) rfl
                  have hK9 := hK.sub (tys' := [(cB, .byte), (cI, .int), (cJ, .long), (cZ, .boolean)]) [0, 1, 2, 3] rfl
                  exact W.iret (v := 3) hx hb hr (fun t_ ht hW => ⟨⟨3, (), rfl, by unfold freeR; rw [if_neg (hvI_ne c_3)]; rw [if_neg (hvI_ne c_6)]; rw [if_neg (hvI_ne c_9)]; rw [if_pos (hvI_eq c_12)], by rw [ht]; exact hP9, va_K.moved hW.alike hK9, hD9⟩, hS.F ht⟩) hS.2.2 dX7_freePlace_18
            · skip
              refine lv_iload_n hx hb dX7_freePlace_17 rfl (lv_at hl 0 rfl) ?_
              have hP9 := hP.sub (ws' := [(h0, .inr (8, [.int (nI k), .long wm, .ref hC, wv, wn, .ref hH, wx, wy, .int d])), (hC, .inl (cI, 6, .inl cf)), (hH, .inl (cB, 48, .inl tf))]) [0, 1, 2] rfl
              have hD9 := hD.sub (ws' := [(h0, .inr (8, [.int (nI k), .long wm, .ref hC, wv, wn, .ref hH, wx, wy, .int d])), (hC, .inl (cI, 6, .inl cf)), (hH, .inl (cB, 48, .inl tf))]) [0, 1, 2] (by decide) rfl
              have hK9 := hK.sub (tys' := [(cB, .byte), (cI, .int), (cJ, .long), (cZ, .boolean)]) [0, 1, 2, 3] rfl
              exact W.iret (v := 2) hx hb hr (fun t_ ht hW => ⟨⟨2, (), rfl, by unfold freeR; rw [if_neg (hvI_ne c_3)]; rw [if_neg (hvI_ne c_6)]; rw [if_pos (hvI_eq c_9)], by rw [ht]; exact hP9, va_K.moved hW.alike hK9, hD9⟩, hS.F ht⟩) hS.2.2 dX7_freePlace_18
        · skip
          refine lv_iload_n hx hb dX7_freePlace_17 rfl (lv_at hl 0 rfl) ?_
          have hP9 := hP.sub (ws' := [(h0, .inr (8, [.int (nI k), .long wm, .ref hC, wv, wn, .ref hH, wx, wy, .int d])), (hC, .inl (cI, 6, .inl cf)), (hH, .inl (cB, 48, .inl tf))]) [0, 1, 2] rfl
          have hD9 := hD.sub (ws' := [(h0, .inr (8, [.int (nI k), .long wm, .ref hC, wv, wn, .ref hH, wx, wy, .int d])), (hC, .inl (cI, 6, .inl cf)), (hH, .inl (cB, 48, .inl tf))]) [0, 1, 2] (by decide) rfl
          have hK9 := hK.sub (tys' := [(cB, .byte), (cI, .int), (cJ, .long), (cZ, .boolean)]) [0, 1, 2, 3] rfl
          exact W.iret (v := 1) hx hb hr (fun t_ ht hW => ⟨⟨1, (), rfl, by unfold freeR; rw [if_neg (hvI_ne c_3)]; rw [if_pos (hvI_eq c_6)], by rw [ht]; exact hP9, va_K.moved hW.alike hK9, hD9⟩, hS.F ht⟩) hS.2.2 dX7_freePlace_18
    · skip
      refine lv_iload_n hx hb dX7_freePlace_17 rfl (lv_at hl 0 rfl) ?_
      have hP9 := hP.sub (ws' := [(h0, .inr (8, [.int (nI k), .long wm, .ref hC, wv, wn, .ref hH, wx, wy, .int d])), (hC, .inl (cI, 6, .inl cf)), (hH, .inl (cB, 48, .inl tf))]) [0, 1, 2] rfl
      have hD9 := hD.sub (ws' := [(h0, .inr (8, [.int (nI k), .long wm, .ref hC, wv, wn, .ref hH, wx, wy, .int d])), (hC, .inl (cI, 6, .inl cf)), (hH, .inl (cB, 48, .inl tf))]) [0, 1, 2] (by decide) rfl
      have hK9 := hK.sub (tys' := [(cB, .byte), (cI, .int), (cJ, .long), (cZ, .boolean)]) [0, 1, 2, 3] rfl
      exact W.iret (v := 0) hx hb hr (fun t_ ht hW => ⟨⟨0, (), rfl, by unfold freeR; rw [if_pos (hvI_eq c_3)], by rw [ht]; exact hP9, va_K.moved hW.alike hK9, hD9⟩, hS.F ht⟩) hS.2.2 dX7_freePlace_18
theorem dX7_rowCount_0 : decode cX7_rowCount 0 = .ok (.iconst 0, 1) := by decide +kernel
theorem dX7_rowCount_1 : decode cX7_rowCount 1 = .ok (.istore_n 1, 1) := by decide +kernel
theorem dX7_rowCount_2 : decode cX7_rowCount 2 = .ok (.iconst 0, 1) := by decide +kernel
theorem dX7_rowCount_3 : decode cX7_rowCount 3 = .ok (.istore_n 2, 1) := by decide +kernel
theorem dX7_rowCount_4 : decode cX7_rowCount 4 = .ok (.iload_n 2, 1) := by decide +kernel
theorem dX7_rowCount_5 : decode cX7_rowCount 5 = .ok (.aload_n 0, 1) := by decide +kernel
theorem dX7_rowCount_6 : decode cX7_rowCount 6 = .ok (.getfield 31, 3) := by decide +kernel
theorem dX7_rowCount_9 : decode cX7_rowCount 9 = .ok (.arraylength, 1) := by decide +kernel
theorem dX7_rowCount_10 : decode cX7_rowCount 10 = .ok (.if_icmp .ge 18, 3) := by decide +kernel
theorem dX7_rowCount_13 : decode cX7_rowCount 13 = .ok (.iload_n 1, 1) := by decide +kernel
theorem dX7_rowCount_14 : decode cX7_rowCount 14 = .ok (.aload_n 0, 1) := by decide +kernel
theorem dX7_rowCount_15 : decode cX7_rowCount 15 = .ok (.getfield 31, 3) := by decide +kernel
theorem dX7_rowCount_18 : decode cX7_rowCount 18 = .ok (.iload_n 2, 1) := by decide +kernel
theorem dX7_rowCount_19 : decode cX7_rowCount 19 = .ok (.baload, 1) := by decide +kernel
theorem dX7_rowCount_20 : decode cX7_rowCount 20 = .ok (.iadd, 1) := by decide +kernel
theorem dX7_rowCount_21 : decode cX7_rowCount 21 = .ok (.istore_n 1, 1) := by decide +kernel
theorem dX7_rowCount_22 : decode cX7_rowCount 22 = .ok (.iinc 2 1, 3) := by decide +kernel
theorem dX7_rowCount_25 : decode cX7_rowCount 25 = .ok (.goto (-21), 3) := by decide +kernel
theorem dX7_rowCount_28 : decode cX7_rowCount 28 = .ok (.iload_n 1, 1) := by decide +kernel
theorem dX7_rowCount_29 : decode cX7_rowCount 29 = .ok (.ireturn, 1) := by decide +kernel
abbrev cs_t_X7_rowCount (cB cI cJ cZ : ClassId) (h0 hH : Nat) (k : Int32) (tf : Nat → Int32) (wm : Int64) (wc wv wn wx wy : Value) (d : Int32) : va_W := [(h0, .inr (8, [.int k, .long wm, wc, wv, wn, .ref hH, wx, wy, .int d])), (hH, .inl (cB, 48, .inl tf))]
abbrev pc_t_X7_rowCount (dC : Nat → ClassId) (dI : Nat → Nat → Nat) (sz : Nat) (cB cI cJ cZ : ClassId) (h0 hH : Nat) (k : Int32) (tf : Nat → Int32) (wm : Int64) (wc wv wn wx wy : Value) (d : Int32) : Array Value → State → Prop := va_Pc [.ref h0] (fun U => U.heap.size = sz ∧ va_P (dC, dI) vwCl [(h0, .inr (8, [.int k, .long wm, wc, wv, wn, .ref hH, wx, wy, .int d])), (hH, .inl (cB, 48, .inl tf))] U.heap ∧ va_K (dC, dI) vwCl [(cB, .byte), (cI, .int), (cJ, .long), (cZ, .boolean)] U ∧ va_D (fun _ => True) [(h0, .inr (8, [.int k, .long wm, wc, wv, wn, .ref hH, wx, wy, .int d])), (hH, .inl (cB, 48, .inl tf))])
abbrev qc_t_X7_rowCount (dC : Nat → ClassId) (dI : Nat → Nat → Nat) (cB cI cJ cZ : ClassId) (h0 hH : Nat) (k : Int32) (tf : Nat → Int32) (wm : Int64) (wc wv wn wx wy : Value) (d : Int32) (A : Nat → Prop) : Array Value → State → Outcome → State → Prop := va_Qi (fun (r : Int32) (u : Unit) => match u with | _ => r = sumI tf 48) (fun (u : Unit) t_ => match u with | _ => va_P (dC, dI) vwCl [(h0, .inr (8, [.int k, .long wm, wc, wv, wn, .ref hH, wx, wy, .int d])), (hH, .inl (cB, 48, .inl tf))] t_.heap ∧ va_K (dC, dI) vwCl [(cB, .byte), (cI, .int), (cJ, .long), (cZ, .boolean)] t_ ∧ va_D A [(h0, .inr (8, [.int k, .long wm, wc, wv, wn, .ref hH, wx, wy, .int d])), (hH, .inl (cB, 48, .inl tf))]) A
set_option maxHeartbeats 4000000 in
set_option maxRecDepth 100000 in
theorem t_X7_rowCount (l : Launch) (dC : Nat → ClassId) (dI : Nat → Nat → Nat) (sz : Nat) (cB cI cJ cZ : ClassId) (h0 hH : Nat) (k : Int32) (tf : Nat → Int32) (wm : Int64) (wc wv wn wx wy : Value) (d : Int32)  : Met l yX7_rowCount (wsOf yX7_rowCount cX7_rowCount 3 (some .int)) ({ frames := 0, cells := 0, slots := 0, locals := 0 }) (pc_t_X7_rowCount dC dI sz cB cI cJ cZ h0 hH k tf wm wc wv wn wx wy d) (qc_t_X7_rowCount dC dI cB cI cJ cZ h0 hH k tf wm wc wv wn wx wy d (va_A (cs_t_X7_rowCount cB cI cJ cZ h0 hH k tf wm wc wv wn wx wy d) sz)) 0 0 (va_A (cs_t_X7_rowCount cB cI cJ cZ h0 hH k tf wm wc wv wn wx wy d) sz) := by
  refine Met.ofW (cc := cX7_rowCount) (maxL := 3) (ret := (some .int)) (by decide) rfl ?_
  intro p e s m args below meth c s₁ B hml hv
  obtain ⟨rfl, hsz, hP, hK, hD0⟩ := hv
  have hx := B.exec
  have hb := B.bytes
  have hr := B.returns
  have hts := atoms_spec (ws := (wsOf yX7_rowCount cX7_rowCount 3 (some .int))) B.pre
  have hown : s.vm.findClass RX7 = some m.cls := findClass_of_methodNamed B.named
  have hlocks := B.notSynchronized
  subst hsz
  have hD := hD0.self (sz := s.heap.size)
  generalize hAe : va_A (cs_t_X7_rowCount cB cI cJ cZ h0 hH k tf wm wc wv wn wx wy d) s.heap.size = A at hD ⊢
  have hA : ∀ q : Nat, s.heap.size ≤ q → A q := fun q h => by rw [← hAe]; exact Or.inr h
  have hS : va_S A s.heap s.heap [] := va_S.rf
  have hP : va_P (dC, dI) vwCl [(h0, .inr (8, [.int k, .long wm, wc, wv, wn, .ref hH, wx, wy, .int d])), (hH, .inl (cB, 48, .inl tf))] s.heap := hP
  have hl := lv_entry ([.ref h0]) (n := 3) (Nat.le_of_ble_eq_true rfl)
  rw [lg_entry_eq]
  generalize (lg_sl ([.ref h0]) ++ List.replicate (3 - (lg_sl ([.ref h0])).length) Slot.unset).toArray = ls at hl ⊢
  have hl : lv_has ls 3 [(0, .ref h0)] := hl
  refine lv_iconst (v := 0) hx hb dX7_rowCount_0 (by decide) ?_
  refine lv_istore_n (lv' := [(1, .int 0), (0, .ref h0)]) hx hb dX7_rowCount_1 rfl hl (by decide) rfl (fun ls hl => ?_)
  refine lv_iconst (v := 0) hx hb dX7_rowCount_2 (by decide) ?_
  refine lv_istore_n (lv' := [(2, .int 0), (1, .int 0), (0, .ref h0)]) hx hb dX7_rowCount_3 rfl hl (by decide) rfl (fun ls hl => ?_)
  have lp_4 : ∀ (n_ : Nat) (j : Nat) (x : Int32), j ≤ 48 → x = sumI tf j → 48 - j < n_ → ∀ (H : Heap) (locs : List Loc) (ls : Array Slot), va_P (dC, dI) vwCl [(h0, .inr (8, [.int k, .long wm, wc, wv, wn, .ref hH, wx, wy, .int d])), (hH, .inl (cB, 48, .inl tf))] H → va_D A [(h0, .inr (8, [.int k, .long wm, wc, wv, wn, .ref hH, wx, wy, .int d])), (hH, .inl (cB, 48, .inl tf))] → va_S A s.heap H locs → lv_has ls 3 [(2, .int (nI j)), (1, .int x), (0, .ref h0)] → W p l e (headSpec (wsOf yX7_rowCount cX7_rowCount 3 (some .int)) ({ frames := 0, cells := 0, slots := 0, locals := 0 })).room s m ([.ref h0] : List Value).toArray below meth c H locs 0 0 (MQ below (qc_t_X7_rowCount dC dI cB cI cJ cZ h0 hH k tf wm wc wv wn wx wy d A) ([.ref h0] : List Value).toArray s 0 0 A) (F0 m 4 ls []) := by
    intro n_
    induction n_ with
    | zero => intro j x hj hxs hm; exact absurd hm (Nat.not_lt_zero _)
    | succ n_ ih_4 =>
      intro j x hj hxs hm H locs ls hP hD hS hl
      refine lv_iload_n hx hb dX7_rowCount_4 rfl (lv_at hl 0 rfl) ?_
      refine lv_aload_n hx hb dX7_rowCount_5 rfl (lv_at hl 2 rfl) ?_
      refine va_get (D := (dC, dI)) (ci := 8) (v := .ref hH) (C := RX7) (T := TX7) (N := 9) hx hb hts (fun w h => List.mem_cons_of_mem _ (uG_X7 w h)) hown hK hP 0 rfl rfl 5 (by decide) (hts _ (List.mem_cons_of_mem _ kw_230)) (fun _ h9 => h9) rfl dX7_rowCount_6 ?_
      refine va_alen (v := 48) hx hb hK hP 1 0 rfl rfl rfl dX7_rowCount_9 ?_
      refine lv_icmp_ge (tgt := 28) hx hb dX7_rowCount_10 (by decide) (fun c_1 => ?_) (fun c_1 => ?_)
      · skip
        have c_1 : 48 ≤ j := (nI_leI (a := 48) (b := j) (by omega) (by omega)).mp c_1
        refine lv_iload_n hx hb dX7_rowCount_28 rfl (lv_at hl 1 rfl) ?_
        have hP9 := hP.sub (ws' := [(h0, .inr (8, [.int k, .long wm, wc, wv, wn, .ref hH, wx, wy, .int d])), (hH, .inl (cB, 48, .inl tf))]) [0, 1] rfl
        have hD9 := hD.sub (ws' := [(h0, .inr (8, [.int k, .long wm, wc, wv, wn, .ref hH, wx, wy, .int d])), (hH, .inl (cB, 48, .inl tf))]) [0, 1] (by decide) rfl
        have hK9 := hK.sub (tys' := [(cB, .byte), (cI, .int), (cJ, .long), (cZ, .boolean)]) [0, 1, 2, 3] rfl
        exact W.iret (v := x) hx hb hr (fun t_ ht hW => ⟨⟨x, (), rfl, by rw [hxs]; rw [show j = 48 by omega], by rw [ht]; exact hP9, va_K.moved hW.alike hK9, hD9⟩, hS.F ht⟩) hS.2.2 dX7_rowCount_29
      · skip
        have c_1 : ¬ (48 ≤ j) := fun h => c_1 ((nI_leI (a := 48) (b := j) (by omega) (by omega)).mpr h)
        refine lv_iload_n hx hb dX7_rowCount_13 rfl (lv_at hl 1 rfl) ?_
        refine lv_aload_n hx hb dX7_rowCount_14 rfl (lv_at hl 2 rfl) ?_
        refine va_get (D := (dC, dI)) (ci := 8) (v := .ref hH) (C := RX7) (T := TX7) (N := 9) hx hb hts (fun w h => List.mem_cons_of_mem _ (uG_X7 w h)) hown hK hP 0 rfl rfl 5 (by decide) (hts _ (List.mem_cons_of_mem _ kw_230)) (fun _ h9 => h9) rfl dX7_rowCount_15 ?_
        refine lv_iload_n hx hb dX7_rowCount_18 rfl (lv_at hl 0 rfl) ?_
        refine va_bald hx hb hK hP 1 0 rfl rfl (i := (nI j)) (vp_in_nI (n := j) (N := 48) (by omega) (by omega)) dX7_rowCount_19 ?_
        refine lv_topi (fun x_2 ex_2 => ?_)
        have ex_2 : x_2 = tf j := ex_2.trans (congrArg tf (nI_clamp (n := j) (by omega)))
        subst ex_2
        refine lv_iadd hx hb dX7_rowCount_20 ?_
        refine lv_istore_n (lv' := [(1, .int (x + (tf j))), (2, .int (nI j)), (0, .ref h0)]) hx hb dX7_rowCount_21 rfl hl (by decide) rfl (fun ls hl => ?_)
        refine lv_iinc (v := nI (j + 1)) (lv' := [(2, .int (nI (j + 1))), (1, .int (x + (tf j))), (0, .ref h0)]) hx hb dX7_rowCount_22 hl (k := 1) rfl (nI_add j 1) (by decide) rfl (fun ls hl => ?_)
        refine lv_goto (tgt := 4) hx hb dX7_rowCount_25 (by decide) ?_
        exact ih_4 (j + 1) (x + tf j) (by omega) (by rw [hxs]; rfl) (by omega) _ _ _ (hP.sub [0, 1] rfl) (hD.sub [0, 1] (by decide) rfl) hS (lv_sub hl [0, 1, 2] rfl)
  exact lp_4 _ 0 0 (by omega) rfl (Nat.lt_succ_self _) _ _ _ (hP.sub [0, 1] rfl) (hD.sub [0, 1] (by decide) rfl) hS (lv_sub hl [0, 1, 2] rfl)

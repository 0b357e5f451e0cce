theorem dX1_reckon_0 : decode cX1_reckon 0 = .ok (.iload_n 0, 1) := by decide +kernel
theorem dX1_reckon_1 : decode cX1_reckon 1 = .ok (.tableswitch 209 36 54 #[131, 209, 209, 209, 209, 209, 209, 209, 209, 91, 95, 99, 103, 117, 149, 173, 197, 161, 185], 91) := by decide +kernel
theorem dX1_reckon_92 : decode cX1_reckon 92 = .ok (.lload_n 1, 1) := by decide +kernel
theorem dX1_reckon_93 : decode cX1_reckon 93 = .ok (.lload_n 3, 1) := by decide +kernel
theorem dX1_reckon_94 : decode cX1_reckon 94 = .ok (.ladd, 1) := by decide +kernel
theorem dX1_reckon_95 : decode cX1_reckon 95 = .ok (.lreturn, 1) := by decide +kernel
theorem dX1_reckon_150 : decode cX1_reckon 150 = .ok (.lload_n 1, 1) := by decide +kernel
theorem dX1_reckon_151 : decode cX1_reckon 151 = .ok (.lload_n 3, 1) := by decide +kernel
theorem dX1_reckon_152 : decode cX1_reckon 152 = .ok (.lcmp, 1) := by decide +kernel
theorem dX1_reckon_153 : decode cX1_reckon 153 = .ok (.ifCond .ne 7, 3) := by decide +kernel
theorem dX1_reckon_156 : decode cX1_reckon 156 = .ok (.lconst 1, 1) := by decide +kernel
theorem dX1_reckon_157 : decode cX1_reckon 157 = .ok (.goto 4, 3) := by decide +kernel
theorem dX1_reckon_160 : decode cX1_reckon 160 = .ok (.lconst 0, 1) := by decide +kernel
theorem dX1_reckon_161 : decode cX1_reckon 161 = .ok (.lreturn, 1) := by decide +kernel
theorem dX1_reckon_174 : decode cX1_reckon 174 = .ok (.lload_n 1, 1) := by decide +kernel
theorem dX1_reckon_175 : decode cX1_reckon 175 = .ok (.lload_n 3, 1) := by decide +kernel
theorem dX1_reckon_176 : decode cX1_reckon 176 = .ok (.lcmp, 1) := by decide +kernel
theorem dX1_reckon_177 : decode cX1_reckon 177 = .ok (.ifCond .ge 7, 3) := by decide +kernel
theorem dX1_reckon_180 : decode cX1_reckon 180 = .ok (.lconst 1, 1) := by decide +kernel
theorem dX1_reckon_181 : decode cX1_reckon 181 = .ok (.goto 4, 3) := by decide +kernel
theorem dX1_reckon_184 : decode cX1_reckon 184 = .ok (.lconst 0, 1) := by decide +kernel
theorem dX1_reckon_185 : decode cX1_reckon 185 = .ok (.lreturn, 1) := by decide +kernel
abbrev cs_t_reckon_plus (cB cI cJ cZ : ClassId) (x y : Int64) : va_W := []
abbrev pc_t_reckon_plus (dC : Nat → ClassId) (dI : Nat → Nat → Nat) (sz : Nat) (cB cI cJ cZ : ClassId) (x y : Int64) : Array Value → State → Prop := va_Pc [.int 45, .long x, .long y] (fun U => U.heap.size = sz ∧ va_P (dC, dI) vwCl [] U.heap ∧ va_K (dC, dI) vwCl [(cB, .byte), (cI, .int), (cJ, .long), (cZ, .boolean)] U ∧ va_D (fun _ => True) [])
abbrev qc_t_reckon_plus (dC : Nat → ClassId) (dI : Nat → Nat → Nat) (cB cI cJ cZ : ClassId) (x y : Int64) (A : Nat → Prop) : Array Value → State → Outcome → State → Prop := va_Ql (fun (r : Int64) (u : Unit) => match u with | _ => r = (x + y)) (fun (u : Unit) t_ => match u with | _ => va_P (dC, dI) vwCl [] t_.heap ∧ va_K (dC, dI) vwCl [(cB, .byte), (cI, .int), (cJ, .long), (cZ, .boolean)] t_ ∧ va_D A []) A
set_option maxHeartbeats 4000000 in
set_option maxRecDepth 100000 in
theorem t_reckon_plus (l : Launch) (dC : Nat → ClassId) (dI : Nat → Nat → Nat) (sz : Nat) (cB cI cJ cZ : ClassId) (x y : Int64)  : Met l yX1_reckon (wsOf yX1_reckon cX1_reckon 5 (some .long)) ({ frames := 0, cells := 0, slots := 0, locals := 0 }) (pc_t_reckon_plus dC dI sz cB cI cJ cZ x y) (qc_t_reckon_plus dC dI cB cI cJ cZ x y (va_A (cs_t_reckon_plus cB cI cJ cZ x y) sz)) 0 0 (va_A (cs_t_reckon_plus cB cI cJ cZ x y) sz) := by
  refine Met.ofW (cc := cX1_reckon) (maxL := 5) (ret := (some .long)) (by decide) rfl ?_
  intro p e s m args below meth c s₁ B hml hv
  obtain ⟨rfl, hsz, hP, hK, hD0⟩ := hv
  have hx := B.exec
  have hb := B.bytes
  have hr := B.returns
  have hts := atoms_spec (ws := (wsOf yX1_reckon cX1_reckon 5 (some .long))) B.pre
  have hown : s.vm.findClass RX1 = some m.cls := findClass_of_methodNamed B.named
  have hlocks := B.notSynchronized
  subst hsz
  have hD := hD0.self (sz := s.heap.size)
  generalize hAe : va_A (cs_t_reckon_plus cB cI cJ cZ x y) s.heap.size = A at hD ⊢
  have hA : ∀ q : Nat, s.heap.size ≤ q → A q := fun q h => by rw [← hAe]; exact Or.inr h
  have hS : va_S A s.heap s.heap [] := va_S.rf
  have hP : va_P (dC, dI) vwCl [] s.heap := hP
  have hl := lv_entry ([.int 45, .long x, .long y]) (n := 5) (Nat.le_of_ble_eq_true rfl)
  rw [lg_entry_eq]
  generalize (lg_sl ([.int 45, .long x, .long y]) ++ List.replicate (5 - (lg_sl ([.int 45, .long x, .long y])).length) Slot.unset).toArray = ls at hl ⊢
  have hl : lv_has ls 5 [(0, .int 45), (1, .long x), (3, .long y)] := hl
  refine lv_iload_n hx hb dX1_reckon_0 rfl (lv_at hl 0 rfl) ?_
  refine lv_tableIn (tgt := 92) (off := 91) hx hb dX1_reckon_1 (by decide) (by decide) (by decide) (by decide) ?_
  refine lv_lload_n hx hb dX1_reckon_92 rfl (lv_at hl 1 rfl) ?_
  refine lv_lload_n hx hb dX1_reckon_93 rfl (lv_at hl 2 rfl) ?_
  refine lv_ladd hx hb dX1_reckon_94 ?_
  have hP9 := hP.sub (ws' := []) [] rfl
  have hD9 := hD.sub (ws' := []) [] (by decide) rfl
  have hK9 := hK.sub (tys' := [(cB, .byte), (cI, .int), (cJ, .long), (cZ, .boolean)]) [0, 1, 2, 3] rfl
  exact W.lret (v := (x + y)) hx hb hr (fun t_ ht hW => ⟨⟨(x + y), (), rfl, rfl, by rw [ht]; exact hP9, va_K.moved hW.alike hK9, hD9⟩, hS.F ht⟩) hS.2.2 dX1_reckon_95
theorem dX1_hasResult_0 : decode cX1_hasResult 0 = .ok (.iload_n 0, 1) := by decide +kernel
theorem dX1_hasResult_1 : decode cX1_hasResult 1 = .ok (.bipush 48, 2) := by decide +kernel
theorem dX1_hasResult_3 : decode cX1_hasResult 3 = .ok (.if_icmp .eq 9, 3) := by decide +kernel
theorem dX1_hasResult_6 : decode cX1_hasResult 6 = .ok (.iload_n 0, 1) := by decide +kernel
theorem dX1_hasResult_7 : decode cX1_hasResult 7 = .ok (.bipush 49, 2) := by decide +kernel
theorem dX1_hasResult_9 : decode cX1_hasResult 9 = .ok (.if_icmp .ne 15, 3) := by decide +kernel
theorem dX1_hasResult_24 : decode cX1_hasResult 24 = .ok (.iload_n 0, 1) := by decide +kernel
theorem dX1_hasResult_25 : decode cX1_hasResult 25 = .ok (.bipush 36, 2) := by decide +kernel
theorem dX1_hasResult_27 : decode cX1_hasResult 27 = .ok (.if_icmp .ne 9, 3) := by decide +kernel
theorem dX1_hasResult_36 : decode cX1_hasResult 36 = .ok (.iconst 1, 1) := by decide +kernel
theorem dX1_hasResult_37 : decode cX1_hasResult 37 = .ok (.goto 4, 3) := by decide +kernel
theorem dX1_hasResult_41 : decode cX1_hasResult 41 = .ok (.ireturn, 1) := by decide +kernel
abbrev cs_t_hasResult_plus (cB cI cJ cZ : ClassId) (y : Int64) : va_W := []
abbrev pc_t_hasResult_plus (dC : Nat → ClassId) (dI : Nat → Nat → Nat) (sz : Nat) (cB cI cJ cZ : ClassId) (y : Int64) : Array Value → State → Prop := va_Pc [.int 45, .long y] (fun U => U.heap.size = sz ∧ va_P (dC, dI) vwCl [] U.heap ∧ va_K (dC, dI) vwCl [(cB, .byte), (cI, .int), (cJ, .long), (cZ, .boolean)] U ∧ va_D (fun _ => True) [])
abbrev qc_t_hasResult_plus (dC : Nat → ClassId) (dI : Nat → Nat → Nat) (cB cI cJ cZ : ClassId) (y : Int64) (A : Nat → Prop) : Array Value → State → Outcome → State → Prop := va_Qi (fun (r : Int32) (u : Unit) => match u with | _ => r = 1) (fun (u : Unit) t_ => match u with | _ => va_P (dC, dI) vwCl [] t_.heap ∧ va_K (dC, dI) vwCl [(cB, .byte), (cI, .int), (cJ, .long), (cZ, .boolean)] t_ ∧ va_D A []) A
set_option maxHeartbeats 4000000 in
set_option maxRecDepth 100000 in
theorem t_hasResult_plus (l : Launch) (dC : Nat → ClassId) (dI : Nat → Nat → Nat) (sz : Nat) (cB cI cJ cZ : ClassId) (y : Int64)  : Met l yX1_hasResult (wsOf yX1_hasResult cX1_hasResult 3 (some .boolean)) ({ frames := 0, cells := 0, slots := 0, locals := 0 }) (pc_t_hasResult_plus dC dI sz cB cI cJ cZ y) (qc_t_hasResult_plus dC dI cB cI cJ cZ y (va_A (cs_t_hasResult_plus cB cI cJ cZ y) sz)) 0 0 (va_A (cs_t_hasResult_plus cB cI cJ cZ y) sz) := by
  refine Met.ofW (cc := cX1_hasResult) (maxL := 3) (ret := (some .boolean)) (by decide) rfl ?_
  intro p e s m args below meth c s₁ B hml hv
  obtain ⟨rfl, hsz, hP, hK, hD0⟩ := hv
  have hx := B.exec
  have hb := B.bytes
  have hr := B.returns
  have hts := atoms_spec (ws := (wsOf yX1_hasResult cX1_hasResult 3 (some .boolean))) B.pre
  have hown : s.vm.findClass RX1 = some m.cls := findClass_of_methodNamed B.named
  have hlocks := B.notSynchronized
  subst hsz
  have hD := hD0.self (sz := s.heap.size)
  generalize hAe : va_A (cs_t_hasResult_plus cB cI cJ cZ y) s.heap.size = A at hD ⊢
  have hA : ∀ q : Nat, s.heap.size ≤ q → A q := fun q h => by rw [← hAe]; exact Or.inr h
  have hS : va_S A s.heap s.heap [] := va_S.rf
  have hP : va_P (dC, dI) vwCl [] s.heap := hP
  have hl := lv_entry ([.int 45, .long y]) (n := 3) (Nat.le_of_ble_eq_true rfl)
  rw [lg_entry_eq]
  generalize (lg_sl ([.int 45, .long y]) ++ List.replicate (3 - (lg_sl ([.int 45, .long y])).length) Slot.unset).toArray = ls at hl ⊢
  have hl : lv_has ls 3 [(0, .int 45), (1, .long y)] := hl
  refine lv_iload_n hx hb dX1_hasResult_0 rfl (lv_at hl 0 rfl) ?_
  refine lv_bipush (v := 48) hx hb dX1_hasResult_1 (by decide) ?_
  refine lv_icmp_eq (tgt := 12) hx hb dX1_hasResult_3 (by decide) (fun c_1 => ?_) (fun c_1 => ?_)
  · skip
    exact absurd c_1 (by decide)
  · skip
    refine lv_iload_n hx hb dX1_hasResult_6 rfl (lv_at hl 0 rfl) ?_
    refine lv_bipush (v := 49) hx hb dX1_hasResult_7 (by decide) ?_
    refine lv_icmp_ne (tgt := 24) hx hb dX1_hasResult_9 (by decide) (fun c_2 => ?_) (fun c_2 => ?_)
    · skip
      refine lv_iload_n hx hb dX1_hasResult_24 rfl (lv_at hl 0 rfl) ?_
      refine lv_bipush (v := 36) hx hb dX1_hasResult_25 (by decide) ?_
      refine lv_icmp_ne (tgt := 36) hx hb dX1_hasResult_27 (by decide) (fun c_3 => ?_) (fun c_3 => ?_)
      · skip
        refine lv_iconst (v := 1) hx hb dX1_hasResult_36 (by decide) ?_
        refine lv_goto (tgt := 41) hx hb dX1_hasResult_37 (by decide) ?_
        have hP9 := hP.sub (ws' := []) [] rfl
        have hD9 := hD.sub (ws' := []) [] (by decide) rfl
        have hK9 := hK.sub (tys' := [(cB, .byte), (cI, .int), (cJ, .long), (cZ, .boolean)]) [0, 1, 2, 3] rfl
        exact W.zret (v := 1) hx hb hr (by rfl) (fun t_ ht hW => ⟨⟨1, (), rfl, rfl, by rw [ht]; exact hP9, va_K.moved hW.alike hK9, hD9⟩, hS.F ht⟩) hS.2.2 dX1_hasResult_41
      · skip
        exact absurd c_3 (by decide)
    · skip
      exact absurd c_2 (by decide)
abbrev cs_t_reckon_eq (cB cI cJ cZ : ClassId) (x y : Int64) : va_W := []
abbrev pc_t_reckon_eq (dC : Nat → ClassId) (dI : Nat → Nat → Nat) (sz : Nat) (cB cI cJ cZ : ClassId) (x y : Int64) : Array Value → State → Prop := va_Pc [.int 50, .long x, .long y] (fun U => U.heap.size = sz ∧ va_P (dC, dI) vwCl [] U.heap ∧ va_K (dC, dI) vwCl [(cB, .byte), (cI, .int), (cJ, .long), (cZ, .boolean)] U ∧ va_D (fun _ => True) [])
abbrev qc_t_reckon_eq (dC : Nat → ClassId) (dI : Nat → Nat → Nat) (cB cI cJ cZ : ClassId) (x y : Int64) (A : Nat → Prop) : Array Value → State → Outcome → State → Prop := va_Ql (fun (r : Int64) (u : Unit) => match u with | _ => r = (if x = y then 1 else 0)) (fun (u : Unit) t_ => match u with | _ => va_P (dC, dI) vwCl [] t_.heap ∧ va_K (dC, dI) vwCl [(cB, .byte), (cI, .int), (cJ, .long), (cZ, .boolean)] t_ ∧ va_D A []) A
set_option maxHeartbeats 4000000 in
set_option maxRecDepth 100000 in
theorem t_reckon_eq (l : Launch) (dC : Nat → ClassId) (dI : Nat → Nat → Nat) (sz : Nat) (cB cI cJ cZ : ClassId) (x y : Int64)  : Met l yX1_reckon (wsOf yX1_reckon cX1_reckon 5 (some .long)) ({ frames := 0, cells := 0, slots := 0, locals := 0 }) (pc_t_reckon_eq dC dI sz cB cI cJ cZ x y) (qc_t_reckon_eq dC dI cB cI cJ cZ x y (va_A (cs_t_reckon_eq cB cI cJ cZ x y) sz)) 0 0 (va_A (cs_t_reckon_eq cB cI cJ cZ x y) sz) := by
  refine Met.ofW (cc := cX1_reckon) (maxL := 5) (ret := (some .long)) (by decide) rfl ?_
  intro p e s m args below meth c s₁ B hml hv
  obtain ⟨rfl, hsz, hP, hK, hD0⟩ := hv
  have hx := B.exec
  have hb := B.bytes
  have hr := B.returns
  have hts := atoms_spec (ws := (wsOf yX1_reckon cX1_reckon 5 (some .long))) B.pre
  have hown : s.vm.findClass RX1 = some m.cls := findClass_of_methodNamed B.named
  have hlocks := B.notSynchronized
  subst hsz
  have hD := hD0.self (sz := s.heap.size)
  generalize hAe : va_A (cs_t_reckon_eq cB cI cJ cZ x y) s.heap.size = A at hD ⊢
  have hA : ∀ q : Nat, s.heap.size ≤ q → A q := fun q h => by rw [← hAe]; exact Or.inr h
  have hS : va_S A s.heap s.heap [] := va_S.rf
  have hP : va_P (dC, dI) vwCl [] s.heap := hP
  have hl := lv_entry ([.int 50, .long x, .long y]) (n := 5) (Nat.le_of_ble_eq_true rfl)
  rw [lg_entry_eq]
  generalize (lg_sl ([.int 50, .long x, .long y]) ++ List.replicate (5 - (lg_sl ([.int 50, .long x, .long y])).length) Slot.unset).toArray = ls at hl ⊢
  have hl : lv_has ls 5 [(0, .int 50), (1, .long x), (3, .long y)] := hl
  refine lv_iload_n hx hb dX1_reckon_0 rfl (lv_at hl 0 rfl) ?_
  refine lv_tableIn (tgt := 150) (off := 149) hx hb dX1_reckon_1 (by decide) (by decide) (by decide) (by decide) ?_
  refine lv_lload_n hx hb dX1_reckon_150 rfl (lv_at hl 1 rfl) ?_
  refine lv_lload_n hx hb dX1_reckon_151 rfl (lv_at hl 2 rfl) ?_
  refine W.lcmp hx hb dX1_reckon_152 ?_
  refine lv_if_ne (tgt := 160) hx hb dX1_reckon_153 (by decide) (fun c_1 => ?_) (fun c_1 => ?_)
  · skip
    have c_1 : ¬ (x = y) := fun h => c_1 ((lg_cmp_eq x y).mpr h)
    refine lv_lconst (v := 0) hx hb dX1_reckon_160 (by decide) ?_
    have hP9 := hP.sub (ws' := []) [] rfl
    have hD9 := hD.sub (ws' := []) [] (by decide) rfl
    have hK9 := hK.sub (tys' := [(cB, .byte), (cI, .int), (cJ, .long), (cZ, .boolean)]) [0, 1, 2, 3] rfl
    exact W.lret (v := 0) hx hb hr (fun t_ ht hW => ⟨⟨0, (), rfl, by rw [if_neg c_1], by rw [ht]; exact hP9, va_K.moved hW.alike hK9, hD9⟩, hS.F ht⟩) hS.2.2 dX1_reckon_161
  · skip
    have c_1 : x = y := (lg_cmp_eq x y).mp c_1
    refine lv_lconst (v := 1) hx hb dX1_reckon_156 (by decide) ?_
    refine lv_goto (tgt := 161) hx hb dX1_reckon_157 (by decide) ?_
    have hP9 := hP.sub (ws' := []) [] rfl
    have hD9 := hD.sub (ws' := []) [] (by decide) rfl
    have hK9 := hK.sub (tys' := [(cB, .byte), (cI, .int), (cJ, .long), (cZ, .boolean)]) [0, 1, 2, 3] rfl
    exact W.lret (v := 1) hx hb hr (fun t_ ht hW => ⟨⟨1, (), rfl, by rw [if_pos c_1], by rw [ht]; exact hP9, va_K.moved hW.alike hK9, hD9⟩, hS.F ht⟩) hS.2.2 dX1_reckon_161
abbrev cs_t_hasResult_eq (cB cI cJ cZ : ClassId) (y : Int64) : va_W := []
abbrev pc_t_hasResult_eq (dC : Nat → ClassId) (dI : Nat → Nat → Nat) (sz : Nat) (cB cI cJ cZ : ClassId) (y : Int64) : Array Value → State → Prop := va_Pc [.int 50, .long y] (fun U => U.heap.size = sz ∧ va_P (dC, dI) vwCl [] U.heap ∧ va_K (dC, dI) vwCl [(cB, .byte), (cI, .int), (cJ, .long), (cZ, .boolean)] U ∧ va_D (fun _ => True) [])
abbrev qc_t_hasResult_eq (dC : Nat → ClassId) (dI : Nat → Nat → Nat) (cB cI cJ cZ : ClassId) (y : Int64) (A : Nat → Prop) : Array Value → State → Outcome → State → Prop := va_Qi (fun (r : Int32) (u : Unit) => match u with | _ => r = 1) (fun (u : Unit) t_ => match u with | _ => va_P (dC, dI) vwCl [] t_.heap ∧ va_K (dC, dI) vwCl [(cB, .byte), (cI, .int), (cJ, .long), (cZ, .boolean)] t_ ∧ va_D A []) A
set_option maxHeartbeats 4000000 in
set_option maxRecDepth 100000 in
theorem t_hasResult_eq (l : Launch) (dC : Nat → ClassId) (dI : Nat → Nat → Nat) (sz : Nat) (cB cI cJ cZ : ClassId) (y : Int64)  : Met l yX1_hasResult (wsOf yX1_hasResult cX1_hasResult 3 (some .boolean)) ({ frames := 0, cells := 0, slots := 0, locals := 0 }) (pc_t_hasResult_eq dC dI sz cB cI cJ cZ y) (qc_t_hasResult_eq dC dI cB cI cJ cZ y (va_A (cs_t_hasResult_eq cB cI cJ cZ y) sz)) 0 0 (va_A (cs_t_hasResult_eq cB cI cJ cZ y) sz) := by
  refine Met.ofW (cc := cX1_hasResult) (maxL := 3) (ret := (some .boolean)) (by decide) rfl ?_
  intro p e s m args below meth c s₁ B hml hv
  obtain ⟨rfl, hsz, hP, hK, hD0⟩ := hv
  have hx := B.exec
  have hb := B.bytes
  have hr := B.returns
  have hts := atoms_spec (ws := (wsOf yX1_hasResult cX1_hasResult 3 (some .boolean))) B.pre
  have hown : s.vm.findClass RX1 = some m.cls := findClass_of_methodNamed B.named
  have hlocks := B.notSynchronized
  subst hsz
  have hD := hD0.self (sz := s.heap.size)
  generalize hAe : va_A (cs_t_hasResult_eq cB cI cJ cZ y) s.heap.size = A at hD ⊢
  have hA : ∀ q : Nat, s.heap.size ≤ q → A q := fun q h => by rw [← hAe]; exact Or.inr h
  have hS : va_S A s.heap s.heap [] := va_S.rf
  have hP : va_P (dC, dI) vwCl [] s.heap := hP
  have hl := lv_entry ([.int 50, .long y]) (n := 3) (Nat.le_of_ble_eq_true rfl)
  rw [lg_entry_eq]
  generalize (lg_sl ([.int 50, .long y]) ++ List.replicate (3 - (lg_sl ([.int 50, .long y])).length) Slot.unset).toArray = ls at hl ⊢
  have hl : lv_has ls 3 [(0, .int 50), (1, .long y)] := hl
  refine lv_iload_n hx hb dX1_hasResult_0 rfl (lv_at hl 0 rfl) ?_
  refine lv_bipush (v := 48) hx hb dX1_hasResult_1 (by decide) ?_
  refine lv_icmp_eq (tgt := 12) hx hb dX1_hasResult_3 (by decide) (fun c_1 => ?_) (fun c_1 => ?_)
  · skip
    exact absurd c_1 (by decide)
  · skip
    refine lv_iload_n hx hb dX1_hasResult_6 rfl (lv_at hl 0 rfl) ?_
    refine lv_bipush (v := 49) hx hb dX1_hasResult_7 (by decide) ?_
    refine lv_icmp_ne (tgt := 24) hx hb dX1_hasResult_9 (by decide) (fun c_2 => ?_) (fun c_2 => ?_)
    · skip
      refine lv_iload_n hx hb dX1_hasResult_24 rfl (lv_at hl 0 rfl) ?_
      refine lv_bipush (v := 36) hx hb dX1_hasResult_25 (by decide) ?_
      refine lv_icmp_ne (tgt := 36) hx hb dX1_hasResult_27 (by decide) (fun c_3 => ?_) (fun c_3 => ?_)
      · skip
        refine lv_iconst (v := 1) hx hb dX1_hasResult_36 (by decide) ?_
        refine lv_goto (tgt := 41) hx hb dX1_hasResult_37 (by decide) ?_
        have hP9 := hP.sub (ws' := []) [] rfl
        have hD9 := hD.sub (ws' := []) [] (by decide) rfl
        have hK9 := hK.sub (tys' := [(cB, .byte), (cI, .int), (cJ, .long), (cZ, .boolean)]) [0, 1, 2, 3] rfl
        exact W.zret (v := 1) hx hb hr (by rfl) (fun t_ ht hW => ⟨⟨1, (), rfl, rfl, by rw [ht]; exact hP9, va_K.moved hW.alike hK9, hD9⟩, hS.F ht⟩) hS.2.2 dX1_hasResult_41
      · skip
        exact absurd c_3 (by decide)
    · skip
      exact absurd c_2 (by decide)
abbrev cs_t_reckon_lt (cB cI cJ cZ : ClassId) (x y : Int64) : va_W := []
abbrev pc_t_reckon_lt (dC : Nat → ClassId) (dI : Nat → Nat → Nat) (sz : Nat) (cB cI cJ cZ : ClassId) (x y : Int64) : Array Value → State → Prop := va_Pc [.int 51, .long x, .long y] (fun U => U.heap.size = sz ∧ va_P (dC, dI) vwCl [] U.heap ∧ va_K (dC, dI) vwCl [(cB, .byte), (cI, .int), (cJ, .long), (cZ, .boolean)] U ∧ va_D (fun _ => True) [])
abbrev qc_t_reckon_lt (dC : Nat → ClassId) (dI : Nat → Nat → Nat) (cB cI cJ cZ : ClassId) (x y : Int64) (A : Nat → Prop) : Array Value → State → Outcome → State → Prop := va_Ql (fun (r : Int64) (u : Unit) => match u with | _ => r = (if y ≤ x then 0 else 1)) (fun (u : Unit) t_ => match u with | _ => va_P (dC, dI) vwCl [] t_.heap ∧ va_K (dC, dI) vwCl [(cB, .byte), (cI, .int), (cJ, .long), (cZ, .boolean)] t_ ∧ va_D A []) A
set_option maxHeartbeats 4000000 in
set_option maxRecDepth 100000 in
theorem t_reckon_lt (l : Launch) (dC : Nat → ClassId) (dI : Nat → Nat → Nat) (sz : Nat) (cB cI cJ cZ : ClassId) (x y : Int64)  : Met l yX1_reckon (wsOf yX1_reckon cX1_reckon 5 (some .long)) ({ frames := 0, cells := 0, slots := 0, locals := 0 }) (pc_t_reckon_lt dC dI sz cB cI cJ cZ x y) (qc_t_reckon_lt dC dI cB cI cJ cZ x y (va_A (cs_t_reckon_lt cB cI cJ cZ x y) sz)) 0 0 (va_A (cs_t_reckon_lt cB cI cJ cZ x y) sz) := by
  refine Met.ofW (cc := cX1_reckon) (maxL := 5) (ret := (some .long)) (by decide) rfl ?_
  intro p e s m args below meth c s₁ B hml hv
  obtain ⟨rfl, hsz, hP, hK, hD0⟩ := hv
  have hx := B.exec
  have hb := B.bytes
  have hr := B.returns
  have hts := atoms_spec (ws := (wsOf yX1_reckon cX1_reckon 5 (some .long))) B.pre
  have hown : s.vm.findClass RX1 = some m.cls := findClass_of_methodNamed B.named
  have hlocks := B.notSynchronized
  subst hsz
  have hD := hD0.self (sz := s.heap.size)
  generalize hAe : va_A (cs_t_reckon_lt cB cI cJ cZ x y) s.heap.size = A at hD ⊢
  have hA : ∀ q : Nat, s.heap.size ≤ q → A q := fun q h => by rw [← hAe]; exact Or.inr h
  have hS : va_S A s.heap s.heap [] := va_S.rf
  have hP : va_P (dC, dI) vwCl [] s.heap := hP
  have hl := lv_entry ([.int 51, .long x, .long y]) (n := 5) (Nat.le_of_ble_eq_true rfl)
  rw [lg_entry_eq]
  generalize (lg_sl ([.int 51, .long x, .long y]) ++ List.replicate (5 - (lg_sl ([.int 51, .long x, .long y])).length) Slot.unset).toArray = ls at hl ⊢
  have hl : lv_has ls 5 [(0, .int 51), (1, .long x), (3, .long y)] := hl
  refine lv_iload_n hx hb dX1_reckon_0 rfl (lv_at hl 0 rfl) ?_
  refine lv_tableIn (tgt := 174) (off := 173) hx hb dX1_reckon_1 (by decide) (by decide) (by decide) (by decide) ?_
  refine lv_lload_n hx hb dX1_reckon_174 rfl (lv_at hl 1 rfl) ?_
  refine lv_lload_n hx hb dX1_reckon_175 rfl (lv_at hl 2 rfl) ?_
  refine W.lcmp hx hb dX1_reckon_176 ?_
  refine lv_if_ge (tgt := 184) hx hb dX1_reckon_177 (by decide) (fun c_1 => ?_) (fun c_1 => ?_)
  · skip
    have c_1 : y ≤ x := (lg_cmp_ge x y).mp c_1
    refine lv_lconst (v := 0) hx hb dX1_reckon_184 (by decide) ?_
    have hP9 := hP.sub (ws' := []) [] rfl
    have hD9 := hD.sub (ws' := []) [] (by decide) rfl
    have hK9 := hK.sub (tys' := [(cB, .byte), (cI, .int), (cJ, .long), (cZ, .boolean)]) [0, 1, 2, 3] rfl
    exact W.lret (v := 0) hx hb hr (fun t_ ht hW => ⟨⟨0, (), rfl, by rw [if_pos c_1], by rw [ht]; exact hP9, va_K.moved hW.alike hK9, hD9⟩, hS.F ht⟩) hS.2.2 dX1_reckon_185
  · skip
    have c_1 : ¬ (y ≤ x) := fun h => c_1 ((lg_cmp_ge x y).mpr h)
    refine lv_lconst (v := 1) hx hb dX1_reckon_180 (by decide) ?_
    refine lv_goto (tgt := 185) hx hb dX1_reckon_181 (by decide) ?_
    have hP9 := hP.sub (ws' := []) [] rfl
    have hD9 := hD.sub (ws' := []) [] (by decide) rfl
    have hK9 := hK.sub (tys' := [(cB, .byte), (cI, .int), (cJ, .long), (cZ, .boolean)]) [0, 1, 2, 3] rfl
    exact W.lret (v := 1) hx hb hr (fun t_ ht hW => ⟨⟨1, (), rfl, by rw [if_neg c_1], by rw [ht]; exact hP9, va_K.moved hW.alike hK9, hD9⟩, hS.F ht⟩) hS.2.2 dX1_reckon_185
abbrev cs_t_hasResult_lt (cB cI cJ cZ : ClassId) (y : Int64) : va_W := []
abbrev pc_t_hasResult_lt (dC : Nat → ClassId) (dI : Nat → Nat → Nat) (sz : Nat) (cB cI cJ cZ : ClassId) (y : Int64) : Array Value → State → Prop := va_Pc [.int 51, .long y] (fun U => U.heap.size = sz ∧ va_P (dC, dI) vwCl [] U.heap ∧ va_K (dC, dI) vwCl [(cB, .byte), (cI, .int), (cJ, .long), (cZ, .boolean)] U ∧ va_D (fun _ => True) [])
abbrev qc_t_hasResult_lt (dC : Nat → ClassId) (dI : Nat → Nat → Nat) (cB cI cJ cZ : ClassId) (y : Int64) (A : Nat → Prop) : Array Value → State → Outcome → State → Prop := va_Qi (fun (r : Int32) (u : Unit) => match u with | _ => r = 1) (fun (u : Unit) t_ => match u with | _ => va_P (dC, dI) vwCl [] t_.heap ∧ va_K (dC, dI) vwCl [(cB, .byte), (cI, .int), (cJ, .long), (cZ, .boolean)] t_ ∧ va_D A []) A
set_option maxHeartbeats 4000000 in
set_option maxRecDepth 100000 in
theorem t_hasResult_lt (l : Launch) (dC : Nat → ClassId) (dI : Nat → Nat → Nat) (sz : Nat) (cB cI cJ cZ : ClassId) (y : Int64)  : Met l yX1_hasResult (wsOf yX1_hasResult cX1_hasResult 3 (some .boolean)) ({ frames := 0, cells := 0, slots := 0, locals := 0 }) (pc_t_hasResult_lt dC dI sz cB cI cJ cZ y) (qc_t_hasResult_lt dC dI cB cI cJ cZ y (va_A (cs_t_hasResult_lt cB cI cJ cZ y) sz)) 0 0 (va_A (cs_t_hasResult_lt cB cI cJ cZ y) sz) := by
  refine Met.ofW (cc := cX1_hasResult) (maxL := 3) (ret := (some .boolean)) (by decide) rfl ?_
  intro p e s m args below meth c s₁ B hml hv
  obtain ⟨rfl, hsz, hP, hK, hD0⟩ := hv
  have hx := B.exec
  have hb := B.bytes
  have hr := B.returns
  have hts := atoms_spec (ws := (wsOf yX1_hasResult cX1_hasResult 3 (some .boolean))) B.pre
  have hown : s.vm.findClass RX1 = some m.cls := findClass_of_methodNamed B.named
  have hlocks := B.notSynchronized
  subst hsz
  have hD := hD0.self (sz := s.heap.size)
  generalize hAe : va_A (cs_t_hasResult_lt cB cI cJ cZ y) s.heap.size = A at hD ⊢
  have hA : ∀ q : Nat, s.heap.size ≤ q → A q := fun q h => by rw [← hAe]; exact Or.inr h
  have hS : va_S A s.heap s.heap [] := va_S.rf
  have hP : va_P (dC, dI) vwCl [] s.heap := hP
  have hl := lv_entry ([.int 51, .long y]) (n := 3) (Nat.le_of_ble_eq_true rfl)
  rw [lg_entry_eq]
  generalize (lg_sl ([.int 51, .long y]) ++ List.replicate (3 - (lg_sl ([.int 51, .long y])).length) Slot.unset).toArray = ls at hl ⊢
  have hl : lv_has ls 3 [(0, .int 51), (1, .long y)] := hl
  refine lv_iload_n hx hb dX1_hasResult_0 rfl (lv_at hl 0 rfl) ?_
  refine lv_bipush (v := 48) hx hb dX1_hasResult_1 (by decide) ?_
  refine lv_icmp_eq (tgt := 12) hx hb dX1_hasResult_3 (by decide) (fun c_1 => ?_) (fun c_1 => ?_)
  · skip
    exact absurd c_1 (by decide)
  · skip
    refine lv_iload_n hx hb dX1_hasResult_6 rfl (lv_at hl 0 rfl) ?_
    refine lv_bipush (v := 49) hx hb dX1_hasResult_7 (by decide) ?_
    refine lv_icmp_ne (tgt := 24) hx hb dX1_hasResult_9 (by decide) (fun c_2 => ?_) (fun c_2 => ?_)
    · skip
      refine lv_iload_n hx hb dX1_hasResult_24 rfl (lv_at hl 0 rfl) ?_
      refine lv_bipush (v := 36) hx hb dX1_hasResult_25 (by decide) ?_
      refine lv_icmp_ne (tgt := 36) hx hb dX1_hasResult_27 (by decide) (fun c_3 => ?_) (fun c_3 => ?_)
      · skip
        refine lv_iconst (v := 1) hx hb dX1_hasResult_36 (by decide) ?_
        refine lv_goto (tgt := 41) hx hb dX1_hasResult_37 (by decide) ?_
        have hP9 := hP.sub (ws' := []) [] rfl
        have hD9 := hD.sub (ws' := []) [] (by decide) rfl
        have hK9 := hK.sub (tys' := [(cB, .byte), (cI, .int), (cJ, .long), (cZ, .boolean)]) [0, 1, 2, 3] rfl
        exact W.zret (v := 1) hx hb hr (by rfl) (fun t_ ht hW => ⟨⟨1, (), rfl, rfl, by rw [ht]; exact hP9, va_K.moved hW.alike hK9, hD9⟩, hS.F ht⟩) hS.2.2 dX1_hasResult_41
      · skip
        exact absurd c_3 (by decide)
    · skip
      exact absurd c_2 (by decide)

/-! span -/
def fmS (x y : Int64) : Int64 := if 0 ≤ (x ^^^ y) then x - x / y * y else if (x - x / y * y) = 0 then x - x / y * y else (x - x / y * y) + y
def spS (x y : Int64) : Int64 := if y = 0 then 0 else x - fmS x y
def hpS (y : Int64) : Int32 := if y ≤ 0 then 0 else 1
def kpS (a b : Int32) (y : Int64) : Int32 := if thI a = 0 then 0 else if thI b = 0 then 0 else if hpS y = 0 then 0 else 1
set_option maxRecDepth 20000 in
theorem kc_J9_floorMod_f86c9 : Cond.code yJ9_floorMod_f86c9 cJ9_floorMod_f86c9 6 (some .long) ∈ wsG := kGm (tab_6 (List.mem_of_getElem? (i := 71) rfl)) rfl
theorem dJ9_floorMod_f86c9_0 : decode cJ9_floorMod_f86c9 0 = .ok (.lload_n 0, 1) := by decide +kernel
theorem dJ9_floorMod_f86c9_1 : decode cJ9_floorMod_f86c9 1 = .ok (.lload_n 2, 1) := by decide +kernel
theorem dJ9_floorMod_f86c9_2 : decode cJ9_floorMod_f86c9 2 = .ok (.lrem, 1) := by decide +kernel
theorem dJ9_floorMod_f86c9_3 : decode cJ9_floorMod_f86c9 3 = .ok (.lstore 4, 2) := by decide +kernel
theorem dJ9_floorMod_f86c9_5 : decode cJ9_floorMod_f86c9 5 = .ok (.lload_n 0, 1) := by decide +kernel
theorem dJ9_floorMod_f86c9_6 : decode cJ9_floorMod_f86c9 6 = .ok (.lload_n 2, 1) := by decide +kernel
theorem dJ9_floorMod_f86c9_7 : decode cJ9_floorMod_f86c9 7 = .ok (.lxor, 1) := by decide +kernel
theorem dJ9_floorMod_f86c9_8 : decode cJ9_floorMod_f86c9 8 = .ok (.lconst 0, 1) := by decide +kernel
theorem dJ9_floorMod_f86c9_9 : decode cJ9_floorMod_f86c9 9 = .ok (.lcmp, 1) := by decide +kernel
theorem dJ9_floorMod_f86c9_10 : decode cJ9_floorMod_f86c9 10 = .ok (.ifCond .ge 15, 3) := by decide +kernel
theorem dJ9_floorMod_f86c9_13 : decode cJ9_floorMod_f86c9 13 = .ok (.lload 4, 2) := by decide +kernel
theorem dJ9_floorMod_f86c9_15 : decode cJ9_floorMod_f86c9 15 = .ok (.lconst 0, 1) := by decide +kernel
theorem dJ9_floorMod_f86c9_16 : decode cJ9_floorMod_f86c9 16 = .ok (.lcmp, 1) := by decide +kernel
theorem dJ9_floorMod_f86c9_17 : decode cJ9_floorMod_f86c9 17 = .ok (.ifCond .eq 8, 3) := by decide +kernel
theorem dJ9_floorMod_f86c9_20 : decode cJ9_floorMod_f86c9 20 = .ok (.lload 4, 2) := by decide +kernel
theorem dJ9_floorMod_f86c9_22 : decode cJ9_floorMod_f86c9 22 = .ok (.lload_n 2, 1) := by decide +kernel
theorem dJ9_floorMod_f86c9_23 : decode cJ9_floorMod_f86c9 23 = .ok (.ladd, 1) := by decide +kernel
theorem dJ9_floorMod_f86c9_24 : decode cJ9_floorMod_f86c9 24 = .ok (.lreturn, 1) := by decide +kernel
theorem dJ9_floorMod_f86c9_25 : decode cJ9_floorMod_f86c9 25 = .ok (.lload 4, 2) := by decide +kernel
theorem dJ9_floorMod_f86c9_27 : decode cJ9_floorMod_f86c9 27 = .ok (.lreturn, 1) := by decide +kernel
abbrev cs_t_floorMod (cB cI cJ cZ : ClassId) (x y : Int64) : va_W := []
abbrev pc_t_floorMod (dC : Nat → ClassId) (dI : Nat → Nat → Nat) (sz : Nat) (cB cI cJ cZ : ClassId) (x y : Int64) : Array Value → State → Prop := va_Pc [.long x, .long y] (fun U => U.heap.size = sz ∧ va_P (dC, dI) vwCl [] U.heap ∧ va_K (dC, dI) vwCl [(cB, .byte), (cI, .int), (cJ, .long), (cZ, .boolean)] U ∧ va_D (fun _ => True) [])
abbrev qc_t_floorMod (dC : Nat → ClassId) (dI : Nat → Nat → Nat) (cB cI cJ cZ : ClassId) (x y : Int64) (A : Nat → Prop) : Array Value → State → Outcome → State → Prop := va_Ql (fun (r : Int64) (u : Unit) => match u with | _ => r = fmS x y) (fun (u : Unit) t_ => match u with | _ => va_P (dC, dI) vwCl [] t_.heap ∧ va_K (dC, dI) vwCl [(cB, .byte), (cI, .int), (cJ, .long), (cZ, .boolean)] t_ ∧ va_D A []) A
set_option maxHeartbeats 4000000 in
set_option maxRecDepth 100000 in
theorem t_floorMod (l : Launch) (dC : Nat → ClassId) (dI : Nat → Nat → Nat) (sz : Nat) (cB cI cJ cZ : ClassId) (x y : Int64) (hy : ¬ y = 0) : Met l yJ9_floorMod_f86c9 (wsOf yJ9_floorMod_f86c9 cJ9_floorMod_f86c9 6 (some .long)) ({ frames := 0, cells := 0, slots := 0, locals := 0 }) (pc_t_floorMod dC dI sz cB cI cJ cZ x y) (qc_t_floorMod dC dI cB cI cJ cZ x y (va_A (cs_t_floorMod cB cI cJ cZ x y) sz)) 0 0 (va_A (cs_t_floorMod cB cI cJ cZ x y) sz) := by
  refine va_MetF (cc := cJ9_floorMod_f86c9) (maxL := 6) (ret := (some .long)) (by decide +kernel) rfl ?_
  intro p e s m args below meth c s₁ B hml hv
  obtain ⟨rfl, hsz, hP, hK, hD0⟩ := hv
  have hx := B.exec
  have hb := B.bytes
  have hr := B.returns
  have hts := atoms_spec (ws := (wsOf yJ9_floorMod_f86c9 cJ9_floorMod_f86c9 6 (some .long))) B.pre
  have hown : s.vm.findClass RJ9 = some m.cls := findClass_of_methodNamed B.named
  have hlocks := B.notSynchronized
  subst hsz
  have hD := hD0.self (sz := s.heap.size)
  generalize hAe : va_A (cs_t_floorMod cB cI cJ cZ x y) s.heap.size = A at hD ⊢
  have hA : ∀ q : Nat, s.heap.size ≤ q → A q := fun q h => by rw [← hAe]; exact Or.inr h
  have hS : va_S A s.heap s.heap [] := va_S.rf
  have hP : va_P (dC, dI) vwCl [] s.heap := hP
  have hl := lv_entry ([.long x, .long y]) (n := 6) (Nat.le_of_ble_eq_true rfl)
  rw [lg_entry_eq]
  generalize (lg_sl ([.long x, .long y]) ++ List.replicate (6 - (lg_sl ([.long x, .long y])).length) Slot.unset).toArray = ls at hl ⊢
  have hl : lv_has ls 6 [(0, .long x), (2, .long y)] := hl
  refine lv_lload_n hx hb dJ9_floorMod_f86c9_0 rfl (lv_at hl 0 rfl) ?_
  refine lv_lload_n hx hb dJ9_floorMod_f86c9_1 rfl (lv_at hl 1 rfl) ?_
  refine lv_lrem hx hb dJ9_floorMod_f86c9_2 hy ?_
  refine lv_lstore (lv' := [(4, .long (x - x / y * y)), (0, .long x), (2, .long y)]) hx hb dJ9_floorMod_f86c9_3 hl (by decide) rfl (fun ls hl => ?_)
  refine lv_lload_n hx hb dJ9_floorMod_f86c9_5 rfl (lv_at hl 1 rfl) ?_
  refine lv_lload_n hx hb dJ9_floorMod_f86c9_6 rfl (lv_at hl 2 rfl) ?_
  refine lv_lxor hx hb dJ9_floorMod_f86c9_7 ?_
  refine lv_lconst (v := 0) hx hb dJ9_floorMod_f86c9_8 (by decide) ?_
  refine W.lcmp hx hb dJ9_floorMod_f86c9_9 ?_
  refine lv_if_ge (tgt := 25) hx hb dJ9_floorMod_f86c9_10 (by decide) (fun c_1 => ?_) (fun c_1 => ?_)
  · skip
    have c_1 : 0 ≤ (x ^^^ y) := (lg_cmp_ge (x ^^^ y) 0).mp c_1
    refine lv_lload hx hb dJ9_floorMod_f86c9_25 (lv_at hl 0 rfl) ?_
    have hP9 := hP.sub (ws' := []) [] rfl
    have hD9 := hD.sub (ws' := []) [] (by decide) rfl
    have hK9 := hK.sub (tys' := [(cB, .byte), (cI, .int), (cJ, .long), (cZ, .boolean)]) [0, 1, 2, 3] rfl
    exact W.lret (v := (x - x / y * y)) hx hb hr (fun t_ ht hW => ⟨⟨(x - x / y * y), (), rfl, by unfold fmS; rw [if_pos c_1], by rw [ht]; exact hP9, va_K.moved hW.alike hK9, hD9⟩, hS.F ht⟩) hS.2.2 dJ9_floorMod_f86c9_27
  · skip
    have c_1 : ¬ (0 ≤ (x ^^^ y)) := fun h => c_1 ((lg_cmp_ge (x ^^^ y) 0).mpr h)
    refine lv_lload hx hb dJ9_floorMod_f86c9_13 (lv_at hl 0 rfl) ?_
    refine lv_lconst (v := 0) hx hb dJ9_floorMod_f86c9_15 (by decide) ?_
    refine W.lcmp hx hb dJ9_floorMod_f86c9_16 ?_
    refine lv_if_eq (tgt := 25) hx hb dJ9_floorMod_f86c9_17 (by decide) (fun c_2 => ?_) (fun c_2 => ?_)
    · skip
      have c_2 : (x - x / y * y) = 0 := (lg_cmp_eq (x - x / y * y) 0).mp c_2
      refine lv_lload hx hb dJ9_floorMod_f86c9_25 (lv_at hl 0 rfl) ?_
      have hP9 := hP.sub (ws' := []) [] rfl
      have hD9 := hD.sub (ws' := []) [] (by decide) rfl
      have hK9 := hK.sub (tys' := [(cB, .byte), (cI, .int), (cJ, .long), (cZ, .boolean)]) [0, 1, 2, 3] rfl
      exact W.lret (v := (x - x / y * y)) hx hb hr (fun t_ ht hW => ⟨⟨(x - x / y * y), (), rfl, by unfold fmS; rw [if_neg c_1, if_pos c_2], by rw [ht]; exact hP9, va_K.moved hW.alike hK9, hD9⟩, hS.F ht⟩) hS.2.2 dJ9_floorMod_f86c9_27
    · skip
      have c_2 : ¬ ((x - x / y * y) = 0) := fun h => c_2 ((lg_cmp_eq (x - x / y * y) 0).mpr h)
      refine lv_lload hx hb dJ9_floorMod_f86c9_20 (lv_at hl 0 rfl) ?_
      refine lv_lload_n hx hb dJ9_floorMod_f86c9_22 rfl (lv_at hl 2 rfl) ?_
      refine lv_ladd hx hb dJ9_floorMod_f86c9_23 ?_
      have hP9 := hP.sub (ws' := []) [] rfl
      have hD9 := hD.sub (ws' := []) [] (by decide) rfl
      have hK9 := hK.sub (tys' := [(cB, .byte), (cI, .int), (cJ, .long), (cZ, .boolean)]) [0, 1, 2, 3] rfl
      exact W.lret (v := ((x - x / y * y) + y)) hx hb hr (fun t_ ht hW => ⟨⟨((x - x / y * y) + y), (), rfl, by unfold fmS; rw [if_neg c_1, if_neg c_2], by rw [ht]; exact hP9, va_K.moved hW.alike hK9, hD9⟩, hS.F ht⟩) hS.2.2 dJ9_floorMod_f86c9_24
abbrev cs_t_reckon_span (cB cI cJ cZ : ClassId) (x y : Int64) : va_W := []
abbrev pc_t_reckon_span (dC : Nat → ClassId) (dI : Nat → Nat → Nat) (sz : Nat) (cB cI cJ cZ : ClassId) (x y : Int64) : Array Value → State → Prop := va_Pc [.int 36, .long x, .long y] (fun U => U.heap.size = sz ∧ va_P (dC, dI) vwCl [] U.heap ∧ va_K (dC, dI) vwCl [(cB, .byte), (cI, .int), (cJ, .long), (cZ, .boolean)] U ∧ va_D (fun _ => True) [])
abbrev qc_t_reckon_span (dC : Nat → ClassId) (dI : Nat → Nat → Nat) (cB cI cJ cZ : ClassId) (x y : Int64) (A : Nat → Prop) : Array Value → State → Outcome → State → Prop := va_Ql (fun (r : Int64) (u : Unit) => match u with | _ => r = spS x y) (fun (u : Unit) t_ => match u with | _ => va_P (dC, dI) vwCl [] t_.heap ∧ va_K (dC, dI) vwCl [(cB, .byte), (cI, .int), (cJ, .long), (cZ, .boolean)] t_ ∧ va_D A []) A
set_option maxHeartbeats 4000000 in
set_option maxRecDepth 100000 in
theorem t_reckon_span (l : Launch) (dC : Nat → ClassId) (dI : Nat → Nat → Nat) (sz : Nat) (cB cI cJ cZ : ClassId) (x y : Int64)  : Met l yX1_reckon (wsOf yX1_reckon cX1_reckon 5 (some .long)) ({ frames := 1, cells := 0, slots := 0, locals := 60 }) (pc_t_reckon_span dC dI sz cB cI cJ cZ x y) (qc_t_reckon_span dC dI cB cI cJ cZ x y (va_A (cs_t_reckon_span cB cI cJ cZ x y) sz)) 0 0 (va_A (cs_t_reckon_span cB cI cJ cZ x y) sz) := by
  refine Met.ofW (cc := cX1_reckon) (maxL := 5) (ret := (some .long)) (by decide) rfl ?_
  intro p e s m args below meth c s₁ B hml hv
  obtain ⟨rfl, hsz, hP, hK, hD0⟩ := hv
  have hx := B.exec
  have hb := B.bytes
  have hr := B.returns
  have hts := atoms_spec (ws := (wsOf yX1_reckon cX1_reckon 5 (some .long))) B.pre
  have hown : s.vm.findClass RX1 = some m.cls := findClass_of_methodNamed B.named
  have hlocks := B.notSynchronized
  subst hsz
  have hD := hD0.self (sz := s.heap.size)
  generalize hAe : va_A (cs_t_reckon_span cB cI cJ cZ x y) s.heap.size = A at hD ⊢
  have hA : ∀ q : Nat, s.heap.size ≤ q → A q := fun q h => by rw [← hAe]; exact Or.inr h
  have hS : va_S A s.heap s.heap [] := va_S.rf
  have hP : va_P (dC, dI) vwCl [] s.heap := hP
  have hl := lv_entry ([.int 36, .long x, .long y]) (n := 5) (Nat.le_of_ble_eq_true rfl)
  rw [lg_entry_eq]
  generalize (lg_sl ([.int 36, .long x, .long y]) ++ List.replicate (5 - (lg_sl ([.int 36, .long x, .long y])).length) Slot.unset).toArray = ls at hl ⊢
  have hl : lv_has ls 5 [(0, .int 36), (1, .long x), (3, .long y)] := hl
  refine lv_iload_n hx hb dX1_reckon_0 rfl (lv_at hl 0 rfl) ?_
  refine lv_tableIn (tgt := 132) (off := 131) hx hb dX1_reckon_1 (by decide) (by decide) (by decide) (by decide) ?_
  refine lv_lload_n hx hb dX1_reckon_132 rfl (lv_at hl 2 rfl) ?_
  refine lv_lconst (v := 0) hx hb dX1_reckon_133 (by decide) ?_
  refine W.lcmp hx hb dX1_reckon_134 ?_
  refine lv_if_ne (tgt := 142) hx hb dX1_reckon_135 (by decide) (fun c_1 => ?_) (fun c_1 => ?_)
  · skip
    have c_1 : ¬ (y = 0) := fun h => c_1 ((lg_cmp_eq y 0).mpr h)
    refine lv_lload_n hx hb dX1_reckon_142 rfl (lv_at hl 1 rfl) ?_
    refine lv_lload_n hx hb dX1_reckon_143 rfl (lv_at hl 1 rfl) ?_
    refine lv_lload_n hx hb dX1_reckon_144 rfl (lv_at hl 2 rfl) ?_
    have hPc := hP.sub (ws' := []) [] rfl
    have hDc := hD.sub (ws' := []) [] (by decide) rfl
    have hKc := hK.sub (tys' := [(cB, .byte), (cI, .int), (cJ, .long), (cZ, .boolean)]) [0, 1, 2, 3] rfl
    have hFc := va_free (wc := []) hD hS hA [] rfl
    refine va_calll (va_runS (As := [.long x, .long y]) (rest := [.long x]) ⟨hx, hb, hml, hown, hts⟩ (t_floorMod l dC dI s.heap.size cB cI cJ cZ x y c_1) ⟨callB_of 2 hts (gd_all (in_I kc_J9_floorMod_f86c9)) rfl rfl rfl (hts _ (List.mem_cons_of_mem _ kw_190)) (hts _ (List.mem_cons_of_mem _ kw_1449)) (by decide +kernel) ⟨Nat.le_of_ble_eq_true rfl, Nat.le_of_ble_eq_true rfl⟩, hts _ (List.mem_cons_of_mem _ kw_1450)⟩ ⟨fun a U g mk q => by obtain ⟨q0, q1, qP, qK, qD⟩ := q; exact ⟨q0, q1, qP, va_K.moved (u := U) (U := U.calling g mk a) (Vm.Alike.refl U.vm) qK, qD⟩, fun U hU hW => ⟨rfl, by rw [hU], by rw [hU]; exact hPc, va_K.moved hW.alike hKc, hDc.weaken (fun _ _ _ _ => trivial)⟩⟩ rfl rfl hl.1 rfl (lv_room (Nat.le_of_ble_eq_true rfl)) dX1_reckon_145 ⟨Nat.le_of_ble_eq_true rfl, Nat.le_of_ble_eq_true rfl⟩) hS (fun q _ h => hFc q h) hFc (fun r_2 u t_ H1 locs ht hvm hw hB hz1 hk1 hS => ?_)
    obtain ⟨hP1, hK1, hD1⟩ := hB
    rw [ht] at hP1
    have hK1 := va_K.moved hvm.symm hK1
    obtain ⟨hP, hD⟩ := va_join (wr := []) (w1 := []) hP hD [] [] rfl rfl (by decide) (by decide) hk1 hFc hP1 hD1
    have hK := (hK.sub (tys' := []) [] rfl).app hK1
    generalize H1 = H at hP hS ⊢
    have hP : va_P (dC, dI) vwCl [] H := hP
    have hD : va_D A [] := hD
    have hK : va_K (dC, dI) vwCl [(cB, .byte), (cI, .int), (cJ, .long), (cZ, .boolean)] s := hK
    have er_2 : r_2 = fmS x y := hw
    rw [er_2]
    refine lv_lsub hx hb dX1_reckon_148 ?_
    have hP9 := hP.sub (ws' := []) [] rfl
    have hD9 := hD.sub (ws' := []) [] (by decide) rfl
    have hK9 := hK.sub (tys' := [(cB, .byte), (cI, .int), (cJ, .long), (cZ, .boolean)]) [0, 1, 2, 3] rfl
    exact W.lret (v := (x - (fmS x y))) hx hb hr (fun t_ ht hW => ⟨⟨(x - (fmS x y)), (), rfl, by unfold spS; rw [if_neg c_1], by rw [ht]; exact hP9, va_K.moved hW.alike hK9, hD9⟩, hS.F ht⟩) hS.2.2 dX1_reckon_149
  · skip
    have c_1 : y = 0 := (lg_cmp_eq y 0).mp c_1
    refine lv_lconst (v := 0) hx hb dX1_reckon_138 (by decide) ?_
    refine lv_goto (tgt := 149) hx hb dX1_reckon_139 (by decide) ?_
    have hP9 := hP.sub (ws' := []) [] rfl
    have hD9 := hD.sub (ws' := []) [] (by decide) rfl
    have hK9 := hK.sub (tys' := [(cB, .byte), (cI, .int), (cJ, .long), (cZ, .boolean)]) [0, 1, 2, 3] rfl
    exact W.lret (v := 0) hx hb hr (fun t_ ht hW => ⟨⟨0, (), rfl, by unfold spS; rw [if_pos c_1], by rw [ht]; exact hP9, va_K.moved hW.alike hK9, hD9⟩, hS.F ht⟩) hS.2.2 dX1_reckon_149
abbrev cs_t_hasResult_span (cB cI cJ cZ : ClassId) (y : Int64) : va_W := []
abbrev pc_t_hasResult_span (dC : Nat → ClassId) (dI : Nat → Nat → Nat) (sz : Nat) (cB cI cJ cZ : ClassId) (y : Int64) : Array Value → State → Prop := va_Pc [.int 36, .long y] (fun U => U.heap.size = sz ∧ va_P (dC, dI) vwCl [] U.heap ∧ va_K (dC, dI) vwCl [(cB, .byte), (cI, .int), (cJ, .long), (cZ, .boolean)] U ∧ va_D (fun _ => True) [])
abbrev qc_t_hasResult_span (dC : Nat → ClassId) (dI : Nat → Nat → Nat) (cB cI cJ cZ : ClassId) (y : Int64) (A : Nat → Prop) : Array Value → State → Outcome → State → Prop := va_Qi (fun (r : Int32) (u : Unit) => match u with | _ => r = hpS y) (fun (u : Unit) t_ => match u with | _ => va_P (dC, dI) vwCl [] t_.heap ∧ va_K (dC, dI) vwCl [(cB, .byte), (cI, .int), (cJ, .long), (cZ, .boolean)] t_ ∧ va_D A []) A
set_option maxHeartbeats 4000000 in
set_option maxRecDepth 100000 in
theorem t_hasResult_span (l : Launch) (dC : Nat → ClassId) (dI : Nat → Nat → Nat) (sz : Nat) (cB cI cJ cZ : ClassId) (y : Int64)  : Met l yX1_hasResult (wsOf yX1_hasResult cX1_hasResult 3 (some .boolean)) ({ frames := 0, cells := 0, slots := 0, locals := 0 }) (pc_t_hasResult_span dC dI sz cB cI cJ cZ y) (qc_t_hasResult_span dC dI cB cI cJ cZ y (va_A (cs_t_hasResult_span cB cI cJ cZ y) sz)) 0 0 (va_A (cs_t_hasResult_span cB cI cJ cZ y) sz) := by
  refine Met.ofW (cc := cX1_hasResult) (maxL := 3) (ret := (some .boolean)) (by decide) rfl ?_
  intro p e s m args below meth c s₁ B hml hv
  obtain ⟨rfl, hsz, hP, hK, hD0⟩ := hv
  have hx := B.exec
  have hb := B.bytes
  have hr := B.returns
  have hts := atoms_spec (ws := (wsOf yX1_hasResult cX1_hasResult 3 (some .boolean))) B.pre
  have hown : s.vm.findClass RX1 = some m.cls := findClass_of_methodNamed B.named
  have hlocks := B.notSynchronized
  subst hsz
  have hD := hD0.self (sz := s.heap.size)
  generalize hAe : va_A (cs_t_hasResult_span cB cI cJ cZ y) s.heap.size = A at hD ⊢
  have hA : ∀ q : Nat, s.heap.size ≤ q → A q := fun q h => by rw [← hAe]; exact Or.inr h
  have hS : va_S A s.heap s.heap [] := va_S.rf
  have hP : va_P (dC, dI) vwCl [] s.heap := hP
  have hl := lv_entry ([.int 36, .long y]) (n := 3) (Nat.le_of_ble_eq_true rfl)
  rw [lg_entry_eq]
  generalize (lg_sl ([.int 36, .long y]) ++ List.replicate (3 - (lg_sl ([.int 36, .long y])).length) Slot.unset).toArray = ls at hl ⊢
  have hl : lv_has ls 3 [(0, .int 36), (1, .long y)] := hl
  refine lv_iload_n hx hb dX1_hasResult_0 rfl (lv_at hl 0 rfl) ?_
  refine lv_bipush (v := 48) hx hb dX1_hasResult_1 (by decide) ?_
  refine lv_icmp_eq (tgt := 12) hx hb dX1_hasResult_3 (by decide) (fun c_1 => ?_) (fun c_1 => ?_)
  · skip
    exact absurd c_1 (by decide)
  · skip
    refine lv_iload_n hx hb dX1_hasResult_6 rfl (lv_at hl 0 rfl) ?_
    refine lv_bipush (v := 49) hx hb dX1_hasResult_7 (by decide) ?_
    refine lv_icmp_ne (tgt := 24) hx hb dX1_hasResult_9 (by decide) (fun c_2 => ?_) (fun c_2 => ?_)
    · skip
      refine lv_iload_n hx hb dX1_hasResult_24 rfl (lv_at hl 0 rfl) ?_
      refine lv_bipush (v := 36) hx hb dX1_hasResult_25 (by decide) ?_
      refine lv_icmp_ne (tgt := 36) hx hb dX1_hasResult_27 (by decide) (fun c_3 => ?_) (fun c_3 => ?_)
      · skip
        exact absurd c_3 (by decide)
      · skip
        refine lv_lload_n hx hb dX1_hasResult_30 rfl (lv_at hl 1 rfl) ?_
        refine lv_lconst (v := 0) hx hb dX1_hasResult_31 (by decide) ?_
        refine W.lcmp hx hb dX1_hasResult_32 ?_
        refine lv_if_le (tgt := 40) hx hb dX1_hasResult_33 (by decide) (fun c_4 => ?_) (fun c_4 => ?_)
        · skip
          have c_4 : y ≤ 0 := (lg_cmp_le y 0).mp c_4
          refine lv_iconst (v := 0) hx hb dX1_hasResult_40 (by decide) ?_
          have hP9 := hP.sub (ws' := []) [] rfl
          have hD9 := hD.sub (ws' := []) [] (by decide) rfl
          have hK9 := hK.sub (tys' := [(cB, .byte), (cI, .int), (cJ, .long), (cZ, .boolean)]) [0, 1, 2, 3] rfl
          exact W.zret (v := 0) hx hb hr (by rfl) (fun t_ ht hW => ⟨⟨0, (), rfl, by unfold hpS; rw [if_pos c_4], by rw [ht]; exact hP9, va_K.moved hW.alike hK9, hD9⟩, hS.F ht⟩) hS.2.2 dX1_hasResult_41
        · skip
          have c_4 : ¬ (y ≤ 0) := fun h => c_4 ((lg_cmp_le y 0).mpr h)
          refine lv_iconst (v := 1) hx hb dX1_hasResult_36 (by decide) ?_
          refine lv_goto (tgt := 41) hx hb dX1_hasResult_37 (by decide) ?_
          have hP9 := hP.sub (ws' := []) [] rfl
          have hD9 := hD.sub (ws' := []) [] (by decide) rfl
          have hK9 := hK.sub (tys' := [(cB, .byte), (cI, .int), (cJ, .long), (cZ, .boolean)]) [0, 1, 2, 3] rfl
          exact W.zret (v := 1) hx hb hr (by rfl) (fun t_ ht hW => ⟨⟨1, (), rfl, by unfold hpS; rw [if_neg c_4], by rw [ht]; exact hP9, va_K.moved hW.alike hK9, hD9⟩, hS.F ht⟩) hS.2.2 dX1_hasResult_41
    · skip
      exact absurd c_2 (by decide)
abbrev cs_t_two_span (cB cI cJ cZ : ClassId) (h0 hS1 hB1 : Nat) (sz1 : Int32) (k1 k2 k3 k4 k5 k6 k7 k8 k9 : Value) (N : Nat) (sf : Nat → Int64) (bf : Nat → Int32) (tp : Nat) : va_W := [(h0, .inr (2, [.int sz1, k1, k2, k3, k4, k5, k6, k7, k8, k9, .ref hS1, .ref hB1, .int (nI (tp + 2))])), (hS1, .inl (cJ, N, .inr (.inl sf))), (hB1, .inl (cB, N, .inl bf))]
abbrev pc_t_two_span (dC : Nat → ClassId) (dI : Nat → Nat → Nat) (sz : Nat) (cB cI cJ cZ : ClassId) (h0 hS1 hB1 : Nat) (sz1 : Int32) (k1 k2 k3 k4 k5 k6 k7 k8 k9 : Value) (N : Nat) (sf : Nat → Int64) (bf : Nat → Int32) (tp : Nat) : Array Value → State → Prop := va_Pc [.ref h0, .int 36] (fun U => U.heap.size = sz ∧ va_P (dC, dI) vwCl [(h0, .inr (2, [.int sz1, k1, k2, k3, k4, k5, k6, k7, k8, k9, .ref hS1, .ref hB1, .int (nI (tp + 2))])), (hS1, .inl (cJ, N, .inr (.inl sf))), (hB1, .inl (cB, N, .inl bf))] U.heap ∧ va_K (dC, dI) vwCl [(cB, .byte), (cI, .int), (cJ, .long), (cZ, .boolean)] U ∧ va_D (fun _ => True) [(h0, .inr (2, [.int sz1, k1, k2, k3, k4, k5, k6, k7, k8, k9, .ref hS1, .ref hB1, .int (nI (tp + 2))])), (hS1, .inl (cJ, N, .inr (.inl sf))), (hB1, .inl (cB, N, .inl bf))])
abbrev qc_t_two_span (dC : Nat → ClassId) (dI : Nat → Nat → Nat) (cB cI cJ cZ : ClassId) (h0 hS1 hB1 : Nat) (sz1 : Int32) (k1 k2 k3 k4 k5 k6 k7 k8 k9 : Value) (N : Nat) (sf : Nat → Int64) (bf : Nat → Int32) (tp : Nat) (A : Nat → Prop) : Array Value → State → Outcome → State → Prop := va_Qv (fun (u : Unit) => match u with | _ => True) (fun (u : Unit) t_ => match u with | _ => va_P (dC, dI) vwCl [(h0, .inr (2, [.int sz1, k1, k2, k3, k4, k5, k6, k7, k8, k9, .ref hS1, .ref hB1, .int (nI (tp + 1))])), (hS1, .inl (cJ, N, .inr (.inl (vp_updL sf tp (pv (kvI (kpS (bf tp) (bf (tp + 1)) (sf (tp + 1))) (spS (sf tp) (sf (tp + 1)))) (nbI (kpS (bf tp) (bf (tp + 1)) (sf (tp + 1))))))))), (hB1, .inl (cB, N, .inl (upd bf tp (pb (nbI (kpS (bf tp) (bf (tp + 1)) (sf (tp + 1))))))))] t_.heap ∧ va_K (dC, dI) vwCl [(cB, .byte), (cI, .int), (cJ, .long), (cZ, .boolean)] t_ ∧ va_D A [(h0, .inr (2, [.int sz1, k1, k2, k3, k4, k5, k6, k7, k8, k9, .ref hS1, .ref hB1, .int (nI (tp + 1))])), (hS1, .inl (cJ, N, .inr (.inl (vp_updL sf tp (pv (kvI (kpS (bf tp) (bf (tp + 1)) (sf (tp + 1))) (spS (sf tp) (sf (tp + 1)))) (nbI (kpS (bf tp) (bf (tp + 1)) (sf (tp + 1))))))))), (hB1, .inl (cB, N, .inl (upd bf tp (pb (nbI (kpS (bf tp) (bf (tp + 1)) (sf (tp + 1))))))))]) A
set_option maxHeartbeats 4000000 in
set_option maxRecDepth 100000 in
theorem t_two_span (l : Launch) (dC : Nat → ClassId) (dI : Nat → Nat → Nat) (sz : Nat) (cB cI cJ cZ : ClassId) (h0 hS1 hB1 : Nat) (sz1 : Int32) (k1 k2 k3 k4 k5 k6 k7 k8 k9 : Value) (N : Nat) (sf : Nat → Int64) (bf : Nat → Int32) (tp : Nat) (hN : N < 1000000) (htp : tp + 2 ≤ N) : Met l yX1_two (wsOf yX1_two cX1_two 10 none) ({ frames := 2, cells := 0, slots := 0, locals := 120 }) (pc_t_two_span dC dI sz cB cI cJ cZ h0 hS1 hB1 sz1 k1 k2 k3 k4 k5 k6 k7 k8 k9 N sf bf tp) (qc_t_two_span dC dI cB cI cJ cZ h0 hS1 hB1 sz1 k1 k2 k3 k4 k5 k6 k7 k8 k9 N sf bf tp (va_A (cs_t_two_span cB cI cJ cZ h0 hS1 hB1 sz1 k1 k2 k3 k4 k5 k6 k7 k8 k9 N sf bf tp) sz)) 0 0 (va_A (cs_t_two_span cB cI cJ cZ h0 hS1 hB1 sz1 k1 k2 k3 k4 k5 k6 k7 k8 k9 N sf bf tp) sz) := by
  refine Met.ofW (cc := cX1_two) (maxL := 10) (ret := none) (by decide) rfl ?_
  intro p e s m args below meth c s₁ B hml hv
  obtain ⟨rfl, hsz, hP, hK, hD0⟩ := hv
  have hx := B.exec
  have hb := B.bytes
  have hr := B.returns
  have hts := atoms_spec (ws := (wsOf yX1_two cX1_two 10 none)) B.pre
  have hown : s.vm.findClass RX1 = some m.cls := findClass_of_methodNamed B.named
  have hlocks := B.notSynchronized
  subst hsz
  have hD := hD0.self (sz := s.heap.size)
  generalize hAe : va_A (cs_t_two_span cB cI cJ cZ h0 hS1 hB1 sz1 k1 k2 k3 k4 k5 k6 k7 k8 k9 N sf bf tp) s.heap.size = A at hD ⊢
  have hA : ∀ q : Nat, s.heap.size ≤ q → A q := fun q h => by rw [← hAe]; exact Or.inr h
  have hS : va_S A s.heap s.heap [] := va_S.rf
  have hP : va_P (dC, dI) vwCl [(h0, .inr (2, [.int sz1, k1, k2, k3, k4, k5, k6, k7, k8, k9, .ref hS1, .ref hB1, .int (nI (tp + 2))])), (hS1, .inl (cJ, N, .inr (.inl sf))), (hB1, .inl (cB, N, .inl bf))] s.heap := hP
  have hl := lv_entry ([.ref h0, .int 36]) (n := 10) (Nat.le_of_ble_eq_true rfl)
  rw [lg_entry_eq]
  generalize (lg_sl ([.ref h0, .int 36]) ++ List.replicate (10 - (lg_sl ([.ref h0, .int 36])).length) Slot.unset).toArray = ls at hl ⊢
  have hl : lv_has ls 10 [(0, .ref h0), (1, .int 36)] := hl
  refine lv_aload_n hx hb dX1_two_0 rfl (lv_at hl 0 rfl) ?_
  refine va_get (D := (dC, dI)) (ci := 2) (v := .int (nI (tp + 2))) (C := RX1) (T := TX1) (N := 13) hx hb hts (fun w h => List.mem_cons_of_mem _ (uG_X1 w h)) hown hK hP 0 rfl rfl 12 (by decide) (hts _ (List.mem_cons_of_mem _ kw_400)) (fun _ h9 => h9) rfl dX1_two_1 ?_
  refine lv_iconst (v := 2) hx hb dX1_two_4 (by decide) ?_
  refine lv_icmp_ge (tgt := 9) hx hb dX1_two_5 (by decide) (fun c_1 => ?_) (fun c_1 => ?_)
  · skip
    have c_1 : 2 ≤ tp + 2 := (nI_leI (a := 2) (b := tp + 2) (by omega) (by omega)).mp c_1
    refine lv_aload_n hx hb dX1_two_9 rfl (lv_at hl 0 rfl) ?_
    refine lv_dup hx hb dX1_two_10 rfl ?_
    refine va_get (D := (dC, dI)) (ci := 2) (v := .int (nI (tp + 2))) (C := RX1) (T := TX1) (N := 13) hx hb hts (fun w h => List.mem_cons_of_mem _ (uG_X1 w h)) hown hK hP 0 rfl rfl 12 (by decide) (hts _ (List.mem_cons_of_mem _ kw_400)) (fun _ h9 => h9) rfl dX1_two_11 ?_
    refine lv_iconst (v := 2) hx hb dX1_two_14 (by decide) ?_
    refine lv_isub hx hb dX1_two_15 ?_
    refine lv_topi (fun x_2 ex_2 => ?_)
    have ex_2 : x_2 = nI tp := by exact ex_2.trans (pk_sub (a := tp + 2) (b := 2) (by omega))
    subst ex_2
    refine va_put (D := (dC, dI)) (ci := 2) (v := .int (nI tp)) (ty := .int) (C := RX1) (T := TX1) (N := 13) hx hb hts (fun w h => List.mem_cons_of_mem _ (uG_X1 w h)) tyX1 tyX1_ok nmX1 hown hK hP hD hS 0 rfl rfl 12 (by decide) (hts _ (List.mem_cons_of_mem _ kw_400)) (fun _ h9 => h9) rfl (by decide +kernel) rfl rfl (Nat.le_of_ble_eq_true rfl) dX1_two_16 (fun H locs hP hD hS => ?_)
    have hP : va_P (dC, dI) vwCl [(h0, .inr (2, [.int sz1, k1, k2, k3, k4, k5, k6, k7, k8, k9, .ref hS1, .ref hB1, .int (nI tp)])), (hS1, .inl (cJ, N, .inr (.inl sf))), (hB1, .inl (cB, N, .inl bf))] H := hP
    have hD : va_D A [(h0, .inr (2, [.int sz1, k1, k2, k3, k4, k5, k6, k7, k8, k9, .ref hS1, .ref hB1, .int (nI tp)])), (hS1, .inl (cJ, N, .inr (.inl sf))), (hB1, .inl (cB, N, .inl bf))] := hD
    refine lv_aload_n hx hb dX1_two_19 rfl (lv_at hl 0 rfl) ?_
    refine va_get (D := (dC, dI)) (ci := 2) (v := .ref hS1) (C := RX1) (T := TX1) (N := 13) hx hb hts (fun w h => List.mem_cons_of_mem _ (uG_X1 w h)) hown hK hP 0 rfl rfl 10 (by decide) (hts _ (List.mem_cons_of_mem _ kw_398)) (fun _ h9 => h9) rfl dX1_two_20 ?_
    refine lv_aload_n hx hb dX1_two_23 rfl (lv_at hl 0 rfl) ?_
    refine va_get (D := (dC, dI)) (ci := 2) (v := .int (nI tp)) (C := RX1) (T := TX1) (N := 13) hx hb hts (fun w h => List.mem_cons_of_mem _ (uG_X1 w h)) hown hK hP 0 rfl rfl 12 (by decide) (hts _ (List.mem_cons_of_mem _ kw_400)) (fun _ h9 => h9) rfl dX1_two_24 ?_
    refine va_lald hx hb hK hP 1 2 rfl rfl (i := (nI tp)) (vp_in_nI (n := tp) (N := N) (by omega) (by omega)) dX1_two_27 ?_
    refine lv_topl (fun x_3 ex_3 => ?_)
    have ex_3 : x_3 = sf tp := ex_3.trans (congrArg sf (nI_clamp (n := tp) (by omega)))
    subst ex_3
    refine lv_lstore_n (lv' := [(2, .long (sf tp)), (0, .ref h0), (1, .int 36)]) hx hb dX1_two_28 rfl hl (by decide) rfl (fun ls hl => ?_)
    refine lv_aload_n hx hb dX1_two_29 rfl (lv_at hl 1 rfl) ?_
    refine va_get (D := (dC, dI)) (ci := 2) (v := .ref hS1) (C := RX1) (T := TX1) (N := 13) hx hb hts (fun w h => List.mem_cons_of_mem _ (uG_X1 w h)) hown hK hP 0 rfl rfl 10 (by decide) (hts _ (List.mem_cons_of_mem _ kw_398)) (fun _ h9 => h9) rfl dX1_two_30 ?_
    refine lv_aload_n hx hb dX1_two_33 rfl (lv_at hl 1 rfl) ?_
    refine va_get (D := (dC, dI)) (ci := 2) (v := .int (nI tp)) (C := RX1) (T := TX1) (N := 13) hx hb hts (fun w h => List.mem_cons_of_mem _ (uG_X1 w h)) hown hK hP 0 rfl rfl 12 (by decide) (hts _ (List.mem_cons_of_mem _ kw_400)) (fun _ h9 => h9) rfl dX1_two_34 ?_
    refine lv_iconst (v := 1) hx hb dX1_two_37 (by decide) ?_
    refine lv_iadd hx hb dX1_two_38 ?_
    refine lv_topi (fun x_4 ex_4 => ?_)
    have ex_4 : x_4 = nI (tp + 1) := ex_4.trans (nI_add tp 1)
    subst ex_4
    refine va_lald hx hb hK hP 1 2 rfl rfl (i := (nI (tp + 1))) (vp_in_nI (n := tp + 1) (N := N) (by omega) (by omega)) dX1_two_39 ?_
    refine lv_topl (fun x_5 ex_5 => ?_)
    have ex_5 : x_5 = sf (tp + 1) := ex_5.trans (congrArg sf (nI_clamp (n := tp + 1) (by omega)))
    subst ex_5
    refine lv_lstore (lv' := [(4, .long (sf (tp + 1))), (2, .long (sf tp)), (0, .ref h0), (1, .int 36)]) hx hb dX1_two_40 hl (by decide) rfl (fun ls hl => ?_)
    have mg_6 : ∀ (H : Heap) (locs : List Loc), va_P (dC, dI) vwCl [(h0, .inr (2, [.int sz1, k1, k2, k3, k4, k5, k6, k7, k8, k9, .ref hS1, .ref hB1, .int (nI tp)])), (hS1, .inl (cJ, N, .inr (.inl sf))), (hB1, .inl (cB, N, .inl bf))] H → va_D A [(h0, .inr (2, [.int sz1, k1, k2, k3, k4, k5, k6, k7, k8, k9, .ref hS1, .ref hB1, .int (nI tp)])), (hS1, .inl (cJ, N, .inr (.inl sf))), (hB1, .inl (cB, N, .inl bf))] → va_S A s.heap H locs → W p l e (headSpec (wsOf yX1_two cX1_two 10 none) ({ frames := 2, cells := 0, slots := 0, locals := 120 })).room s m ([.ref h0, .int 36] : List Value).toArray below meth c H locs 0 0 (MQ below (qc_t_two_span dC dI cB cI cJ cZ h0 hS1 hB1 sz1 k1 k2 k3 k4 k5 k6 k7 k8 k9 N sf bf tp A) ([.ref h0, .int 36] : List Value).toArray s 0 0 A) (F0 m 59 ls [.int (thI (bf tp))]) := by
      intro H locs hP hD hS
      refine lv_istore (lv' := [(6, .int (thI (bf tp))), (4, .long (sf (tp + 1))), (2, .long (sf tp)), (0, .ref h0), (1, .int 36)]) hx hb dX1_two_59 hl (by decide) rfl (fun ls hl => ?_)
      have mg_7 : ∀ (H : Heap) (locs : List Loc), va_P (dC, dI) vwCl [(h0, .inr (2, [.int sz1, k1, k2, k3, k4, k5, k6, k7, k8, k9, .ref hS1, .ref hB1, .int (nI tp)])), (hS1, .inl (cJ, N, .inr (.inl sf))), (hB1, .inl (cB, N, .inl bf))] H → va_D A [(h0, .inr (2, [.int sz1, k1, k2, k3, k4, k5, k6, k7, k8, k9, .ref hS1, .ref hB1, .int (nI tp)])), (hS1, .inl (cJ, N, .inr (.inl sf))), (hB1, .inl (cB, N, .inl bf))] → va_S A s.heap H locs → W p l e (headSpec (wsOf yX1_two cX1_two 10 none) ({ frames := 2, cells := 0, slots := 0, locals := 120 })).room s m ([.ref h0, .int 36] : List Value).toArray below meth c H locs 0 0 (MQ below (qc_t_two_span dC dI cB cI cJ cZ h0 hS1 hB1 sz1 k1 k2 k3 k4 k5 k6 k7 k8 k9 N sf bf tp A) ([.ref h0, .int 36] : List Value).toArray s 0 0 A) (F0 m 80 ls [.int (thI (bf (tp + 1)))]) := by
        intro H locs hP hD hS
        refine lv_istore (lv' := [(7, .int (thI (bf (tp + 1)))), (6, .int (thI (bf tp))), (4, .long (sf (tp + 1))), (2, .long (sf tp)), (0, .ref h0), (1, .int 36)]) hx hb dX1_two_80 hl (by decide) rfl (fun ls hl => ?_)
        refine lv_iload_n hx hb dX1_two_82 rfl (lv_at hl 5 rfl) ?_
        refine lv_bipush (v := 28) hx hb dX1_two_83 (by decide) ?_
        refine lv_icmp_eq (tgt := 94) hx hb dX1_two_85 (by decide) (fun c_8 => ?_) (fun c_8 => ?_)
        · skip
          exact absurd c_8 (by decide)
        · skip
          refine lv_iload_n hx hb dX1_two_88 rfl (lv_at hl 5 rfl) ?_
          refine lv_bipush (v := 29) hx hb dX1_two_89 (by decide) ?_
          refine lv_icmp_ne (tgt := 182) hx hb dX1_two_91 (by decide) (fun c_9 => ?_) (fun c_9 => ?_)
          · skip
            have mg_10 : ∀ (H : Heap) (locs : List Loc), va_P (dC, dI) vwCl [(h0, .inr (2, [.int sz1, k1, k2, k3, k4, k5, k6, k7, k8, k9, .ref hS1, .ref hB1, .int (nI tp)])), (hS1, .inl (cJ, N, .inr (.inl sf))), (hB1, .inl (cB, N, .inl bf))] H → va_D A [(h0, .inr (2, [.int sz1, k1, k2, k3, k4, k5, k6, k7, k8, k9, .ref hS1, .ref hB1, .int (nI tp)])), (hS1, .inl (cJ, N, .inr (.inl sf))), (hB1, .inl (cB, N, .inl bf))] → va_S A s.heap H locs → W p l e (headSpec (wsOf yX1_two cX1_two 10 none) ({ frames := 2, cells := 0, slots := 0, locals := 120 })).room s m ([.ref h0, .int 36] : List Value).toArray below meth c H locs 0 0 (MQ below (qc_t_two_span dC dI cB cI cJ cZ h0 hS1 hB1 sz1 k1 k2 k3 k4 k5 k6 k7 k8 k9 N sf bf tp A) ([.ref h0, .int 36] : List Value).toArray s 0 0 A) (F0 m 206 ls [.int (kpS (bf tp) (bf (tp + 1)) (sf (tp + 1)))]) := by
              intro H locs hP hD hS
              refine lv_istore (lv' := [(8, .int (kpS (bf tp) (bf (tp + 1)) (sf (tp + 1)))), (7, .int (thI (bf (tp + 1)))), (6, .int (thI (bf tp))), (4, .long (sf (tp + 1))), (2, .long (sf tp)), (0, .ref h0), (1, .int 36)]) hx hb dX1_two_206 hl (by decide) rfl (fun ls hl => ?_)
              refine lv_aload_n hx hb dX1_two_208 rfl (lv_at hl 5 rfl) ?_
              have mg_11 : ∀ (H : Heap) (locs : List Loc), va_P (dC, dI) vwCl [(h0, .inr (2, [.int sz1, k1, k2, k3, k4, k5, k6, k7, k8, k9, .ref hS1, .ref hB1, .int (nI tp)])), (hS1, .inl (cJ, N, .inr (.inl sf))), (hB1, .inl (cB, N, .inl bf))] H → va_D A [(h0, .inr (2, [.int sz1, k1, k2, k3, k4, k5, k6, k7, k8, k9, .ref hS1, .ref hB1, .int (nI tp)])), (hS1, .inl (cJ, N, .inr (.inl sf))), (hB1, .inl (cB, N, .inl bf))] → va_S A s.heap H locs → W p l e (headSpec (wsOf yX1_two cX1_two 10 none) ({ frames := 2, cells := 0, slots := 0, locals := 120 })).room s m ([.ref h0, .int 36] : List Value).toArray below meth c H locs 0 0 (MQ below (qc_t_two_span dC dI cB cI cJ cZ h0 hS1 hB1 sz1 k1 k2 k3 k4 k5 k6 k7 k8 k9 N sf bf tp A) ([.ref h0, .int 36] : List Value).toArray s 0 0 A) (F0 m 225 ls [.long (kvI (kpS (bf tp) (bf (tp + 1)) (sf (tp + 1))) (spS (sf tp) (sf (tp + 1)))), .ref h0]) := by
                intro H locs hP hD hS
                have mg_12 : ∀ (H : Heap) (locs : List Loc), va_P (dC, dI) vwCl [(h0, .inr (2, [.int sz1, k1, k2, k3, k4, k5, k6, k7, k8, k9, .ref hS1, .ref hB1, .int (nI tp)])), (hS1, .inl (cJ, N, .inr (.inl sf))), (hB1, .inl (cB, N, .inl bf))] H → va_D A [(h0, .inr (2, [.int sz1, k1, k2, k3, k4, k5, k6, k7, k8, k9, .ref hS1, .ref hB1, .int (nI tp)])), (hS1, .inl (cJ, N, .inr (.inl sf))), (hB1, .inl (cB, N, .inl bf))] → va_S A s.heap H locs → W p l e (headSpec (wsOf yX1_two cX1_two 10 none) ({ frames := 2, cells := 0, slots := 0, locals := 120 })).room s m ([.ref h0, .int 36] : List Value).toArray below meth c H locs 0 0 (MQ below (qc_t_two_span dC dI cB cI cJ cZ h0 hS1 hB1 sz1 k1 k2 k3 k4 k5 k6 k7 k8 k9 N sf bf tp A) ([.ref h0, .int 36] : List Value).toArray s 0 0 A) (F0 m 235 ls [.int (nbI (kpS (bf tp) (bf (tp + 1)) (sf (tp + 1)))), .long (kvI (kpS (bf tp) (bf (tp + 1)) (sf (tp + 1))) (spS (sf tp) (sf (tp + 1)))), .ref h0]) := by
                  intro H locs hP hD hS
                  have hPc := hP.sub (ws' := [(h0, .inr (2, [.int sz1, k1, k2, k3, k4, k5, k6, k7, k8, k9, .ref hS1, .ref hB1, .int (nI tp)])), (hS1, .inl (cJ, N, .inr (.inl sf))), (hB1, .inl (cB, N, .inl bf))]) [0, 1, 2] rfl
                  have hDc := hD.sub (ws' := [(h0, .inr (2, [.int sz1, k1, k2, k3, k4, k5, k6, k7, k8, k9, .ref hS1, .ref hB1, .int (nI tp)])), (hS1, .inl (cJ, N, .inr (.inl sf))), (hB1, .inl (cB, N, .inl bf))]) [0, 1, 2] (by decide) rfl
                  have hKc := hK.sub (tys' := [(cB, .byte), (cI, .int), (cJ, .long), (cZ, .boolean)]) [0, 1, 2, 3] rfl
                  have hFc := va_free (wc := [(h0, .inr (2, [.int sz1, k1, k2, k3, k4, k5, k6, k7, k8, k9, .ref hS1, .ref hB1, .int (nI tp)])), (hS1, .inl (cJ, N, .inr (.inl sf))), (hB1, .inl (cB, N, .inl bf))]) hD hS hA [0, 1, 2] rfl
                  refine va_callv (va_runV (As := [.long (kvI (kpS (bf tp) (bf (tp + 1)) (sf (tp + 1))) (spS (sf tp) (sf (tp + 1)))), .int (nbI (kpS (bf tp) (bf (tp + 1)) (sf (tp + 1))))]) (rest := []) ⟨hx, hb, hml, hown, hts⟩ (t_X1_push l dC dI H.size cB cI cJ cZ h0 hS1 hB1 sz1 k1 k2 k3 k4 k5 k6 k7 k8 k9 N sf bf tp (kvI (kpS (bf tp) (bf (tp + 1)) (sf (tp + 1))) (spS (sf tp) (sf (tp + 1)))) (nbI (kpS (bf tp) (bf (tp + 1)) (sf (tp + 1)))) (by omega) (by omega)) (cwV 2 hts (gd_all (in_V kw_1415 kw_1417 kw_73 kw_189 kc_X1_push)) rfl rfl rfl (by decide +kernel) ⟨Nat.le_of_ble_eq_true rfl, Nat.le_of_ble_eq_true rfl⟩) ⟨fun a U g mk q => by obtain ⟨q0, q1, qP, qK, qD⟩ := q; exact ⟨q0, q1, qP, va_K.moved (u := U) (U := U.calling g mk a) (Vm.Alike.refl U.vm) qK, qD⟩, va_recv hKc hPc (ci := 2) (q0 := 0) rfl rfl, fun U hU hW => ⟨rfl, by rw [hU], by rw [hU]; exact hPc, va_K.moved hW.alike hKc, hDc.weaken (fun _ _ _ _ => trivial)⟩⟩ rfl rfl hl.1 rfl (lv_room (Nat.le_of_ble_eq_true rfl)) dX1_two_235 ⟨Nat.le_of_ble_eq_true rfl, Nat.le_of_ble_eq_true rfl⟩) hS (fun q _ h => hFc q h) hFc (fun u t_ H1 locs ht hvm hw hB hz1 hk1 hS => ?_)
                  obtain ⟨hP1, hK1, hD1⟩ := hB
                  rw [ht] at hP1
                  have hK1 := va_K.moved hvm.symm hK1
                  obtain ⟨hP, hD⟩ := va_join (wr := []) (w1 := [(h0, .inr (2, [.int sz1, k1, k2, k3, k4, k5, k6, k7, k8, k9, .ref hS1, .ref hB1, .int (nI (tp + 1))])), (hS1, .inl (cJ, N, .inr (.inl (vp_updL sf tp (pv (kvI (kpS (bf tp) (bf (tp + 1)) (sf (tp + 1))) (spS (sf tp) (sf (tp + 1)))) (nbI (kpS (bf tp) (bf (tp + 1)) (sf (tp + 1))))))))), (hB1, .inl (cB, N, .inl (upd bf tp (pb (nbI (kpS (bf tp) (bf (tp + 1)) (sf (tp + 1))))))))]) hP hD [0, 1, 2] [] rfl rfl (by decide) (by decide) hk1 hFc hP1 hD1
                  have hK := (hK.sub (tys' := []) [] rfl).app hK1
                  generalize H1 = H at hP hS ⊢
                  have hP : va_P (dC, dI) vwCl [(h0, .inr (2, [.int sz1, k1, k2, k3, k4, k5, k6, k7, k8, k9, .ref hS1, .ref hB1, .int (nI (tp + 1))])), (hS1, .inl (cJ, N, .inr (.inl (vp_updL sf tp (pv (kvI (kpS (bf tp) (bf (tp + 1)) (sf (tp + 1))) (spS (sf tp) (sf (tp + 1)))) (nbI (kpS (bf tp) (bf (tp + 1)) (sf (tp + 1))))))))), (hB1, .inl (cB, N, .inl (upd bf tp (pb (nbI (kpS (bf tp) (bf (tp + 1)) (sf (tp + 1))))))))] H := hP
                  have hD : va_D A [(h0, .inr (2, [.int sz1, k1, k2, k3, k4, k5, k6, k7, k8, k9, .ref hS1, .ref hB1, .int (nI (tp + 1))])), (hS1, .inl (cJ, N, .inr (.inl (vp_updL sf tp (pv (kvI (kpS (bf tp) (bf (tp + 1)) (sf (tp + 1))) (spS (sf tp) (sf (tp + 1)))) (nbI (kpS (bf tp) (bf (tp + 1)) (sf (tp + 1))))))))), (hB1, .inl (cB, N, .inl (upd bf tp (pb (nbI (kpS (bf tp) (bf (tp + 1)) (sf (tp + 1))))))))] := hD
                  have hK : va_K (dC, dI) vwCl [(cB, .byte), (cI, .int), (cJ, .long), (cZ, .boolean)] s := hK
                  have hP9 := hP.sub (ws' := [(h0, .inr (2, [.int sz1, k1, k2, k3, k4, k5, k6, k7, k8, k9, .ref hS1, .ref hB1, .int (nI (tp + 1))])), (hS1, .inl (cJ, N, .inr (.inl (vp_updL sf tp (pv (kvI (kpS (bf tp) (bf (tp + 1)) (sf (tp + 1))) (spS (sf tp) (sf (tp + 1)))) (nbI (kpS (bf tp) (bf (tp + 1)) (sf (tp + 1))))))))), (hB1, .inl (cB, N, .inl (upd bf tp (pb (nbI (kpS (bf tp) (bf (tp + 1)) (sf (tp + 1))))))))]) [0, 1, 2] rfl
                  have hD9 := hD.sub (ws' := [(h0, .inr (2, [.int sz1, k1, k2, k3, k4, k5, k6, k7, k8, k9, .ref hS1, .ref hB1, .int (nI (tp + 1))])), (hS1, .inl (cJ, N, .inr (.inl (vp_updL sf tp (pv (kvI (kpS (bf tp) (bf (tp + 1)) (sf (tp + 1))) (spS (sf tp) (sf (tp + 1)))) (nbI (kpS (bf tp) (bf (tp + 1)) (sf (tp + 1))))))))), (hB1, .inl (cB, N, .inl (upd bf tp (pb (nbI (kpS (bf tp) (bf (tp + 1)) (sf (tp + 1))))))))]) [0, 1, 2] (by decide) rfl
                  have hK9 := hK.sub (tys' := [(cB, .byte), (cI, .int), (cJ, .long), (cZ, .boolean)]) [0, 1, 2, 3] rfl
                  exact W.vret hx hb hr (fun t_ ht hW => ⟨⟨(), rfl, trivial, by rw [ht]; exact hP9, va_K.moved hW.alike hK9, hD9⟩, hS.F ht⟩) hS.2.2 dX1_two_238
                refine lv_iload hx hb dX1_two_225 (lv_at hl 0 rfl) ?_
                refine lv_if_eq (tgt := 234) hx hb dX1_two_227 (by decide) (fun c_14 => ?_) (fun c_14 => ?_)
                · skip
                  refine lv_iconst (v := 1) hx hb dX1_two_234 (by decide) ?_
                  exact W.eq (by unfold nbI; rw [if_pos c_14]) (mg_12 _ _ hP hD hS)
                · skip
                  refine lv_iconst (v := 0) hx hb dX1_two_230 (by decide) ?_
                  refine lv_goto (tgt := 235) hx hb dX1_two_231 (by decide) ?_
                  exact W.eq (by unfold nbI; rw [if_neg c_14]) (mg_12 _ _ hP hD hS)
              refine lv_iload hx hb dX1_two_209 (lv_at hl 0 rfl) ?_
              refine lv_if_eq (tgt := 224) hx hb dX1_two_211 (by decide) (fun c_15 => ?_) (fun c_15 => ?_)
              · skip
                refine lv_lconst (v := 0) hx hb dX1_two_224 (by decide) ?_
                exact W.eq (by unfold kvI; rw [if_pos c_15]) (mg_11 _ _ hP hD hS)
              · skip
                refine lv_iload_n hx hb dX1_two_214 rfl (lv_at hl 6 rfl) ?_
                refine lv_lload_n hx hb dX1_two_215 rfl (lv_at hl 4 rfl) ?_
                refine lv_lload hx hb dX1_two_216 (lv_at hl 3 rfl) ?_
                have hPc := hP.sub (ws' := []) [] rfl
                have hDc := hD.sub (ws' := []) [] (by decide) rfl
                have hKc := hK.sub (tys' := [(cB, .byte), (cI, .int), (cJ, .long), (cZ, .boolean)]) [0, 1, 2, 3] rfl
                have hFc := va_free (wc := []) hD hS hA [] rfl
                refine va_calll (va_runS (As := [.int 36, .long (sf tp), .long (sf (tp + 1))]) (rest := [.ref h0]) ⟨hx, hb, hml, hown, hts⟩ (t_reckon_span l dC dI H.size cB cI cJ cZ (sf tp) (sf (tp + 1))) ⟨callB_of 3 hts (gd_all (in_I kc_X1_reckon)) rfl rfl rfl (hts _ (List.mem_cons_of_mem _ kw_189)) (hts _ (List.mem_cons_of_mem _ kw_1446)) (by decide +kernel) ⟨Nat.le_of_ble_eq_true rfl, Nat.le_of_ble_eq_true rfl⟩, hts _ (List.mem_cons_of_mem _ kw_1447)⟩ ⟨fun a U g mk q => by obtain ⟨q0, q1, qP, qK, qD⟩ := q; exact ⟨q0, q1, qP, va_K.moved (u := U) (U := U.calling g mk a) (Vm.Alike.refl U.vm) qK, qD⟩, fun U hU hW => ⟨rfl, by rw [hU], by rw [hU]; exact hPc, va_K.moved hW.alike hKc, hDc.weaken (fun _ _ _ _ => trivial)⟩⟩ rfl rfl hl.1 rfl (lv_room (Nat.le_of_ble_eq_true rfl)) dX1_two_218 ⟨Nat.le_of_ble_eq_true rfl, Nat.le_of_ble_eq_true rfl⟩) hS (fun q _ h => hFc q h) hFc (fun r_16 u t_ H1 locs ht hvm hw hB hz1 hk1 hS => ?_)
                obtain ⟨hP1, hK1, hD1⟩ := hB
                rw [ht] at hP1
                have hK1 := va_K.moved hvm.symm hK1
                obtain ⟨hP, hD⟩ := va_join (wr := [(h0, .inr (2, [.int sz1, k1, k2, k3, k4, k5, k6, k7, k8, k9, .ref hS1, .ref hB1, .int (nI tp)])), (hS1, .inl (cJ, N, .inr (.inl sf))), (hB1, .inl (cB, N, .inl bf))]) (w1 := []) hP hD [] [0, 1, 2] rfl rfl (by decide) (by decide) hk1 hFc hP1 hD1
                have hK := (hK.sub (tys' := []) [] rfl).app hK1
                generalize H1 = H at hP hS ⊢
                have hP : va_P (dC, dI) vwCl [(h0, .inr (2, [.int sz1, k1, k2, k3, k4, k5, k6, k7, k8, k9, .ref hS1, .ref hB1, .int (nI tp)])), (hS1, .inl (cJ, N, .inr (.inl sf))), (hB1, .inl (cB, N, .inl bf))] H := hP
                have hD : va_D A [(h0, .inr (2, [.int sz1, k1, k2, k3, k4, k5, k6, k7, k8, k9, .ref hS1, .ref hB1, .int (nI tp)])), (hS1, .inl (cJ, N, .inr (.inl sf))), (hB1, .inl (cB, N, .inl bf))] := hD
                have hK : va_K (dC, dI) vwCl [(cB, .byte), (cI, .int), (cJ, .long), (cZ, .boolean)] s := hK
                have er_16 : r_16 = spS (sf tp) (sf (tp + 1)) := hw
                rw [er_16]
                refine lv_goto (tgt := 225) hx hb dX1_two_221 (by decide) ?_
                exact W.eq (by unfold kvI; rw [if_neg c_15]) (mg_11 _ _ hP hD hS)
            refine lv_iload hx hb dX1_two_182 (lv_at hl 1 rfl) ?_
            refine lv_if_eq (tgt := 205) hx hb dX1_two_184 (by decide) (fun c_17 => ?_) (fun c_17 => ?_)
            · skip
              refine lv_iconst (v := 0) hx hb dX1_two_205 (by decide) ?_
              exact W.eq (by unfold kpS; rw [if_pos c_17]) (mg_10 _ _ hP hD hS)
            · skip
              refine lv_iload hx hb dX1_two_187 (lv_at hl 0 rfl) ?_
              refine lv_if_eq (tgt := 205) hx hb dX1_two_189 (by decide) (fun c_18 => ?_) (fun c_18 => ?_)
              · skip
                refine lv_iconst (v := 0) hx hb dX1_two_205 (by decide) ?_
                exact W.eq (by unfold kpS; rw [if_neg c_17, if_pos c_18]) (mg_10 _ _ hP hD hS)
              · skip
                refine lv_iload_n hx hb dX1_two_192 rfl (lv_at hl 5 rfl) ?_
                refine lv_lload hx hb dX1_two_193 (lv_at hl 2 rfl) ?_
                have hPc := hP.sub (ws' := []) [] rfl
                have hDc := hD.sub (ws' := []) [] (by decide) rfl
                have hKc := hK.sub (tys' := [(cB, .byte), (cI, .int), (cJ, .long), (cZ, .boolean)]) [0, 1, 2, 3] rfl
                have hFc := va_free (wc := []) hD hS hA [] rfl
                refine va_calli (va_runS (As := [.int 36, .long (sf (tp + 1))]) (rest := []) ⟨hx, hb, hml, hown, hts⟩ (t_hasResult_span l dC dI H.size cB cI cJ cZ (sf (tp + 1))) ⟨callB_of 2 hts (gd_all (in_I kc_X1_hasResult)) rfl rfl rfl (hts _ (List.mem_cons_of_mem _ kw_189)) (hts _ (List.mem_cons_of_mem _ kw_1443)) (by decide +kernel) ⟨Nat.le_of_ble_eq_true rfl, Nat.le_of_ble_eq_true rfl⟩, hts _ (List.mem_cons_of_mem _ kw_1444)⟩ ⟨fun a U g mk q => by obtain ⟨q0, q1, qP, qK, qD⟩ := q; exact ⟨q0, q1, qP, va_K.moved (u := U) (U := U.calling g mk a) (Vm.Alike.refl U.vm) qK, qD⟩, fun U hU hW => ⟨rfl, by rw [hU], by rw [hU]; exact hPc, va_K.moved hW.alike hKc, hDc.weaken (fun _ _ _ _ => trivial)⟩⟩ rfl rfl hl.1 rfl (lv_room (Nat.le_of_ble_eq_true rfl)) dX1_two_195 ⟨Nat.le_of_ble_eq_true rfl, Nat.le_of_ble_eq_true rfl⟩) hS (fun q _ h => hFc q h) hFc (fun r_19 u t_ H1 locs ht hvm hw hB hz1 hk1 hS => ?_)
                obtain ⟨hP1, hK1, hD1⟩ := hB
                rw [ht] at hP1
                have hK1 := va_K.moved hvm.symm hK1
                obtain ⟨hP, hD⟩ := va_join (wr := [(h0, .inr (2, [.int sz1, k1, k2, k3, k4, k5, k6, k7, k8, k9, .ref hS1, .ref hB1, .int (nI tp)])), (hS1, .inl (cJ, N, .inr (.inl sf))), (hB1, .inl (cB, N, .inl bf))]) (w1 := []) hP hD [] [0, 1, 2] rfl rfl (by decide) (by decide) hk1 hFc hP1 hD1
                have hK := (hK.sub (tys' := []) [] rfl).app hK1
                generalize H1 = H at hP hS ⊢
                have hP : va_P (dC, dI) vwCl [(h0, .inr (2, [.int sz1, k1, k2, k3, k4, k5, k6, k7, k8, k9, .ref hS1, .ref hB1, .int (nI tp)])), (hS1, .inl (cJ, N, .inr (.inl sf))), (hB1, .inl (cB, N, .inl bf))] H := hP
                have hD : va_D A [(h0, .inr (2, [.int sz1, k1, k2, k3, k4, k5, k6, k7, k8, k9, .ref hS1, .ref hB1, .int (nI tp)])), (hS1, .inl (cJ, N, .inr (.inl sf))), (hB1, .inl (cB, N, .inl bf))] := hD
                have hK : va_K (dC, dI) vwCl [(cB, .byte), (cI, .int), (cJ, .long), (cZ, .boolean)] s := hK
                have er_19 : r_19 = hpS (sf (tp + 1)) := hw
                rw [er_19]
                refine lv_if_eq (tgt := 205) hx hb dX1_two_198 (by decide) (fun c_20 => ?_) (fun c_20 => ?_)
                · skip
                  refine lv_iconst (v := 0) hx hb dX1_two_205 (by decide) ?_
                  exact W.eq (by unfold kpS; rw [if_neg c_17, if_neg c_18, if_pos c_20]) (mg_10 _ _ hP hD hS)
                · skip
                  refine lv_iconst (v := 1) hx hb dX1_two_201 (by decide) ?_
                  refine lv_goto (tgt := 206) hx hb dX1_two_202 (by decide) ?_
                  exact W.eq (by unfold kpS; rw [if_neg c_17, if_neg c_18, if_neg c_20]) (mg_10 _ _ hP hD hS)
          · skip
            exact absurd c_9 (by decide)
      refine lv_aload_n hx hb dX1_two_61 rfl (lv_at hl 3 rfl) ?_
      refine va_get (D := (dC, dI)) (ci := 2) (v := .ref hB1) (C := RX1) (T := TX1) (N := 13) hx hb hts (fun w h => List.mem_cons_of_mem _ (uG_X1 w h)) hown hK hP 0 rfl rfl 11 (by decide) (hts _ (List.mem_cons_of_mem _ kw_399)) (fun _ h9 => h9) rfl dX1_two_62 ?_
      refine lv_aload_n hx hb dX1_two_65 rfl (lv_at hl 3 rfl) ?_
      refine va_get (D := (dC, dI)) (ci := 2) (v := .int (nI tp)) (C := RX1) (T := TX1) (N := 13) hx hb hts (fun w h => List.mem_cons_of_mem _ (uG_X1 w h)) hown hK hP 0 rfl rfl 12 (by decide) (hts _ (List.mem_cons_of_mem _ kw_400)) (fun _ h9 => h9) rfl dX1_two_66 ?_
      refine lv_iconst (v := 1) hx hb dX1_two_69 (by decide) ?_
      refine lv_iadd hx hb dX1_two_70 ?_
      refine lv_topi (fun x_21 ex_21 => ?_)
      have ex_21 : x_21 = nI (tp + 1) := ex_21.trans (nI_add tp 1)
      subst ex_21
      refine va_bald hx hb hK hP 2 0 rfl rfl (i := (nI (tp + 1))) (vp_in_nI (n := tp + 1) (N := N) (by omega) (by omega)) dX1_two_71 ?_
      refine lv_topi (fun x_22 ex_22 => ?_)
      have ex_22 : x_22 = bf (tp + 1) := ex_22.trans (congrArg bf (nI_clamp (n := tp + 1) (by omega)))
      subst ex_22
      refine lv_if_ne (tgt := 79) hx hb dX1_two_72 (by decide) (fun c_23 => ?_) (fun c_23 => ?_)
      · skip
        refine lv_iconst (v := 0) hx hb dX1_two_79 (by decide) ?_
        exact W.eq (by unfold thI; rw [if_neg c_23]) (mg_7 _ _ hP hD hS)
      · skip
        refine lv_iconst (v := 1) hx hb dX1_two_75 (by decide) ?_
        refine lv_goto (tgt := 80) hx hb dX1_two_76 (by decide) ?_
        exact W.eq (by unfold thI; rw [if_pos c_23]) (mg_7 _ _ hP hD hS)
    refine lv_aload_n hx hb dX1_two_42 rfl (lv_at hl 2 rfl) ?_
    refine va_get (D := (dC, dI)) (ci := 2) (v := .ref hB1) (C := RX1) (T := TX1) (N := 13) hx hb hts (fun w h => List.mem_cons_of_mem _ (uG_X1 w h)) hown hK hP 0 rfl rfl 11 (by decide) (hts _ (List.mem_cons_of_mem _ kw_399)) (fun _ h9 => h9) rfl dX1_two_43 ?_
    refine lv_aload_n hx hb dX1_two_46 rfl (lv_at hl 2 rfl) ?_
    refine va_get (D := (dC, dI)) (ci := 2) (v := .int (nI tp)) (C := RX1) (T := TX1) (N := 13) hx hb hts (fun w h => List.mem_cons_of_mem _ (uG_X1 w h)) hown hK hP 0 rfl rfl 12 (by decide) (hts _ (List.mem_cons_of_mem _ kw_400)) (fun _ h9 => h9) rfl dX1_two_47 ?_
    refine va_bald hx hb hK hP 2 0 rfl rfl (i := (nI tp)) (vp_in_nI (n := tp) (N := N) (by omega) (by omega)) dX1_two_50 ?_
    refine lv_topi (fun x_24 ex_24 => ?_)
    have ex_24 : x_24 = bf tp := ex_24.trans (congrArg bf (nI_clamp (n := tp) (by omega)))
    subst ex_24
    refine lv_if_ne (tgt := 58) hx hb dX1_two_51 (by decide) (fun c_25 => ?_) (fun c_25 => ?_)
    · skip
      refine lv_iconst (v := 0) hx hb dX1_two_58 (by decide) ?_
      exact W.eq (by unfold thI; rw [if_neg c_25]) (mg_6 _ _ hP hD hS)
    · skip
      refine lv_iconst (v := 1) hx hb dX1_two_54 (by decide) ?_
      refine lv_goto (tgt := 59) hx hb dX1_two_55 (by decide) ?_
      exact W.eq (by unfold thI; rw [if_pos c_25]) (mg_6 _ _ hP hD hS)
  · skip
    have c_1 : ¬ (2 ≤ tp + 2) := fun h => c_1 ((nI_leI (a := 2) (b := tp + 2) (by omega) (by omega)).mpr h)
    exact absurd (show 2 ≤ tp + 2 by omega) c_1

/-! the reference's rows -/
def mcI (x : Int64) (p : Int32) (y : Int64) (q : Int32) : Int32 := if p = 0 then (if q = 0 then (if y ≤ x then (if x ≤ y then 0 else 1) else -1) else 1) else (if q = 0 then -1 else 0)
def mcF (g : Nat → Int64) (z : Nat → Int32) (a1 b1 : Nat) : Nat → Nat → Int32
  | 0, _ => 0
  | n + 1, i => if mcI (g (a1 + i)) (z (a1 + i)) (g (b1 + i)) (z (b1 + i)) = 0 then mcF g z a1 b1 n (i + 1) else mcI (g (a1 + i)) (z (a1 + i)) (g (b1 + i)) (z (b1 + i))
theorem mcF_z {g : Nat → Int64} {z : Nat → Int32} {a1 b1 w i : Nat} (hi : i < w) (h : mcI (g (a1 + i)) (z (a1 + i)) (g (b1 + i)) (z (b1 + i)) = 0) : mcF g z a1 b1 (w - i) i = mcF g z a1 b1 (w - (i + 1)) (i + 1) := by
  rw [show w - i = (w - (i + 1)) + 1 by omega]
  exact if_pos h
theorem mcF_n {g : Nat → Int64} {z : Nat → Int32} {a1 b1 w i : Nat} (hi : i < w) (h : ¬ mcI (g (a1 + i)) (z (a1 + i)) (g (b1 + i)) (z (b1 + i)) = 0) : mcF g z a1 b1 (w - i) i = mcI (g (a1 + i)) (z (a1 + i)) (g (b1 + i)) (z (b1 + i)) := by
  rw [show w - i = (w - (i + 1)) + 1 by omega]
  exact if_neg h
theorem cpyS {g : Nat → Int64} {f1 t1 k : Nat} (h : f1 + k < t1) : vp_updL (va_cpy g g f1 t1 k) (t1 + k) ((va_cpy g g f1 t1 k) (f1 + k)) = va_cpy g g f1 t1 (k + 1) := by
  funext j
  by_cases hj : j = t1 + k
  · subst hj; rw [pk_uLs, pk_cpy_out (Or.inl (by omega)), pk_cpy_in (by omega) (by omega)]; congr 1; omega
  · rw [pk_uLn hj]
    by_cases h1 : t1 ≤ j ∧ j < t1 + k
    · rw [pk_cpy_in h1.1 h1.2, pk_cpy_in h1.1 (by omega)]
    · rw [pk_cpy_out (by omega), pk_cpy_out (by omega)]
theorem cpyT {g : Nat → Int32} {f1 t1 k : Nat} (h : f1 + k < t1) : upd (va_cpy g g f1 t1 k) (t1 + k) ((va_cpy g g f1 t1 k) (f1 + k)) = va_cpy g g f1 t1 (k + 1) := by
  funext j
  by_cases hj : j = t1 + k
  · subst hj; rw [pk_us, pk_cpy_out (Or.inl (by omega)), pk_cpy_in (by omega) (by omega)]; congr 1; omega
  · rw [pk_un hj]
    by_cases h1 : t1 ≤ j ∧ j < t1 + k
    · rw [pk_cpy_in h1.1 h1.2, pk_cpy_in h1.1 (by omega)]
    · rw [pk_cpy_out (by omega), pk_cpy_out (by omega)]
theorem cpy0L {g : Nat → Int64} {f1 t1 : Nat} : va_cpy g g f1 t1 0 = g := by funext j; exact pk_cpy_out (by omega)
theorem cpy0T {g : Nat → Int32} {f1 t1 : Nat} : va_cpy g g f1 t1 0 = g := by funext j; exact pk_cpy_out (by omega)
theorem dX12_compare_0 : decode cX12_compare 0 = .ok (.iload_n 2, 1) := by decide +kernel
theorem dX12_compare_1 : decode cX12_compare 1 = .ok (.ifCond .ne 8, 3) := by decide +kernel
theorem dX12_compare_4 : decode cX12_compare 4 = .ok (.iload 5, 2) := by decide +kernel
theorem dX12_compare_6 : decode cX12_compare 6 = .ok (.ifCond .eq 22, 3) := by decide +kernel
theorem dX12_compare_9 : decode cX12_compare 9 = .ok (.iload_n 2, 1) := by decide +kernel
theorem dX12_compare_10 : decode cX12_compare 10 = .ok (.ifCond .eq 16, 3) := by decide +kernel
theorem dX12_compare_13 : decode cX12_compare 13 = .ok (.iload 5, 2) := by decide +kernel
theorem dX12_compare_15 : decode cX12_compare 15 = .ok (.ifCond .eq 7, 3) := by decide +kernel
theorem dX12_compare_18 : decode cX12_compare 18 = .ok (.iconst 0, 1) := by decide +kernel
theorem dX12_compare_19 : decode cX12_compare 19 = .ok (.goto 8, 3) := by decide +kernel
theorem dX12_compare_22 : decode cX12_compare 22 = .ok (.iconst (-1), 1) := by decide +kernel
theorem dX12_compare_23 : decode cX12_compare 23 = .ok (.goto 4, 3) := by decide +kernel
theorem dX12_compare_26 : decode cX12_compare 26 = .ok (.iconst 1, 1) := by decide +kernel
theorem dX12_compare_27 : decode cX12_compare 27 = .ok (.ireturn, 1) := by decide +kernel
theorem dX12_compare_28 : decode cX12_compare 28 = .ok (.lload_n 0, 1) := by decide +kernel
theorem dX12_compare_29 : decode cX12_compare 29 = .ok (.lload_n 3, 1) := by decide +kernel
theorem dX12_compare_30 : decode cX12_compare 30 = .ok (.lcmp, 1) := by decide +kernel
theorem dX12_compare_31 : decode cX12_compare 31 = .ok (.ifCond .ge 7, 3) := by decide +kernel
theorem dX12_compare_34 : decode cX12_compare 34 = .ok (.iconst (-1), 1) := by decide +kernel
theorem dX12_compare_35 : decode cX12_compare 35 = .ok (.goto 14, 3) := by decide +kernel
theorem dX12_compare_38 : decode cX12_compare 38 = .ok (.lload_n 0, 1) := by decide +kernel
theorem dX12_compare_39 : decode cX12_compare 39 = .ok (.lload_n 3, 1) := by decide +kernel
theorem dX12_compare_40 : decode cX12_compare 40 = .ok (.lcmp, 1) := by decide +kernel
theorem dX12_compare_41 : decode cX12_compare 41 = .ok (.ifCond .le 7, 3) := by decide +kernel
theorem dX12_compare_44 : decode cX12_compare 44 = .ok (.iconst 1, 1) := by decide +kernel
theorem dX12_compare_45 : decode cX12_compare 45 = .ok (.goto 4, 3) := by decide +kernel
theorem dX12_compare_48 : decode cX12_compare 48 = .ok (.iconst 0, 1) := by decide +kernel
theorem dX12_compare_49 : decode cX12_compare 49 = .ok (.ireturn, 1) := by decide +kernel
abbrev cs_t_X12_compare (cB cI cJ cZ : ClassId) (x : Int64) (p1 : Int32) (y : Int64) (q1 : Int32) : va_W := []
abbrev pc_t_X12_compare (dC : Nat → ClassId) (dI : Nat → Nat → Nat) (sz : Nat) (cB cI cJ cZ : ClassId) (x : Int64) (p1 : Int32) (y : Int64) (q1 : Int32) : Array Value → State → Prop := va_Pc [.long x, .int p1, .long y, .int q1] (fun U => U.heap.size = sz ∧ va_P (dC, dI) vwCl [] U.heap ∧ va_K (dC, dI) vwCl [(cB, .byte), (cI, .int), (cJ, .long), (cZ, .boolean)] U ∧ va_D (fun _ => True) [])
abbrev qc_t_X12_compare (dC : Nat → ClassId) (dI : Nat → Nat → Nat) (cB cI cJ cZ : ClassId) (x : Int64) (p1 : Int32) (y : Int64) (q1 : Int32) (A : Nat → Prop) : Array Value → State → Outcome → State → Prop := va_Qi (fun (r : Int32) (u : Unit) => match u with | _ => r = mcI x p1 y q1) (fun (u : Unit) t_ => match u with | _ => va_P (dC, dI) vwCl [] t_.heap ∧ va_K (dC, dI) vwCl [(cB, .byte), (cI, .int), (cJ, .long), (cZ, .boolean)] t_ ∧ va_D A []) A
set_option maxHeartbeats 4000000 in
set_option maxRecDepth 100000 in
theorem t_X12_compare (l : Launch) (dC : Nat → ClassId) (dI : Nat → Nat → Nat) (sz : Nat) (cB cI cJ cZ : ClassId) (x : Int64) (p1 : Int32) (y : Int64) (q1 : Int32)  : Met l yX12_compare (wsOf yX12_compare cX12_compare 6 (some .int)) ({ frames := 0, cells := 0, slots := 0, locals := 0 }) (pc_t_X12_compare dC dI sz cB cI cJ cZ x p1 y q1) (qc_t_X12_compare dC dI cB cI cJ cZ x p1 y q1 (va_A (cs_t_X12_compare cB cI cJ cZ x p1 y q1) sz)) 0 0 (va_A (cs_t_X12_compare cB cI cJ cZ x p1 y q1) sz) := by
  refine Met.ofW (cc := cX12_compare) (maxL := 6) (ret := (some .int)) (by decide) rfl ?_
  intro p e s m args below meth c s₁ B hml hv
  obtain ⟨rfl, hsz, hP, hK, hD0⟩ := hv
  have hx := B.exec
  have hb := B.bytes
  have hr := B.returns
  have hts := atoms_spec (ws := (wsOf yX12_compare cX12_compare 6 (some .int))) B.pre
  have hown : s.vm.findClass RX12 = some m.cls := findClass_of_methodNamed B.named
  have hlocks := B.notSynchronized
  subst hsz
  have hD := hD0.self (sz := s.heap.size)
  generalize hAe : va_A (cs_t_X12_compare cB cI cJ cZ x p1 y q1) s.heap.size = A at hD ⊢
  have hA : ∀ q : Nat, s.heap.size ≤ q → A q := fun q h => by rw [← hAe]; exact Or.inr h
  have hS : va_S A s.heap s.heap [] := va_S.rf
  have hP : va_P (dC, dI) vwCl [] s.heap := hP
  have hl := lv_entry ([.long x, .int p1, .long y, .int q1]) (n := 6) (Nat.le_of_ble_eq_true rfl)
  rw [lg_entry_eq]
  generalize (lg_sl ([.long x, .int p1, .long y, .int q1]) ++ List.replicate (6 - (lg_sl ([.long x, .int p1, .long y, .int q1])).length) Slot.unset).toArray = ls at hl ⊢
  have hl : lv_has ls 6 [(0, .long x), (2, .int p1), (3, .long y), (5, .int q1)] := hl
  refine lv_iload_n hx hb dX12_compare_0 rfl (lv_at hl 1 rfl) ?_
  refine lv_if_ne (tgt := 9) hx hb dX12_compare_1 (by decide) (fun c_1 => ?_) (fun c_1 => ?_)
  · skip
    refine lv_iload_n hx hb dX12_compare_9 rfl (lv_at hl 1 rfl) ?_
    refine lv_if_eq (tgt := 26) hx hb dX12_compare_10 (by decide) (fun c_2 => ?_) (fun c_2 => ?_)
    · skip
      exact absurd c_2 c_1
    · skip
      refine lv_iload hx hb dX12_compare_13 (lv_at hl 3 rfl) ?_
      refine lv_if_eq (tgt := 22) hx hb dX12_compare_15 (by decide) (fun c_3 => ?_) (fun c_3 => ?_)
      · skip
        refine lv_iconst (v := (-1)) hx hb dX12_compare_22 (by decide) ?_
        refine lv_goto (tgt := 27) hx hb dX12_compare_23 (by decide) ?_
        have hP9 := hP.sub (ws' := []) [] rfl
        have hD9 := hD.sub (ws' := []) [] (by decide) rfl
        have hK9 := hK.sub (tys' := [(cB, .byte), (cI, .int), (cJ, .long), (cZ, .boolean)]) [0, 1, 2, 3] rfl
        exact W.iret (v := (-1)) hx hb hr (fun t_ ht hW => ⟨⟨(-1), (), rfl, by unfold mcI; rw [if_neg c_1, if_pos c_3], by rw [ht]; exact hP9, va_K.moved hW.alike hK9, hD9⟩, hS.F ht⟩) hS.2.2 dX12_compare_27
      · skip
        refine lv_iconst (v := 0) hx hb dX12_compare_18 (by decide) ?_
        refine lv_goto (tgt := 27) hx hb dX12_compare_19 (by decide) ?_
        have hP9 := hP.sub (ws' := []) [] rfl
        have hD9 := hD.sub (ws' := []) [] (by decide) rfl
        have hK9 := hK.sub (tys' := [(cB, .byte), (cI, .int), (cJ, .long), (cZ, .boolean)]) [0, 1, 2, 3] rfl
        exact W.iret (v := 0) hx hb hr (fun t_ ht hW => ⟨⟨0, (), rfl, by unfold mcI; rw [if_neg c_1, if_neg c_3], by rw [ht]; exact hP9, va_K.moved hW.alike hK9, hD9⟩, hS.F ht⟩) hS.2.2 dX12_compare_27
  · skip
    refine lv_iload hx hb dX12_compare_4 (lv_at hl 3 rfl) ?_
    refine lv_if_eq (tgt := 28) hx hb dX12_compare_6 (by decide) (fun c_4 => ?_) (fun c_4 => ?_)
    · skip
      refine lv_lload_n hx hb dX12_compare_28 rfl (lv_at hl 0 rfl) ?_
      refine lv_lload_n hx hb dX12_compare_29 rfl (lv_at hl 2 rfl) ?_
      refine W.lcmp hx hb dX12_compare_30 ?_
      refine lv_if_ge (tgt := 38) hx hb dX12_compare_31 (by decide) (fun c_5 => ?_) (fun c_5 => ?_)
      · skip
        have c_5 : y ≤ x := (lg_cmp_ge x y).mp c_5
        refine lv_lload_n hx hb dX12_compare_38 rfl (lv_at hl 0 rfl) ?_
        refine lv_lload_n hx hb dX12_compare_39 rfl (lv_at hl 2 rfl) ?_
        refine W.lcmp hx hb dX12_compare_40 ?_
        refine lv_if_le (tgt := 48) hx hb dX12_compare_41 (by decide) (fun c_6 => ?_) (fun c_6 => ?_)
        · skip
          have c_6 : x ≤ y := (lg_cmp_le x y).mp c_6
          refine lv_iconst (v := 0) hx hb dX12_compare_48 (by decide) ?_
          have hP9 := hP.sub (ws' := []) [] rfl
          have hD9 := hD.sub (ws' := []) [] (by decide) rfl
          have hK9 := hK.sub (tys' := [(cB, .byte), (cI, .int), (cJ, .long), (cZ, .boolean)]) [0, 1, 2, 3] rfl
          exact W.iret (v := 0) hx hb hr (fun t_ ht hW => ⟨⟨0, (), rfl, by unfold mcI; rw [if_pos c_1, if_pos c_4, if_pos c_5, if_pos c_6], by rw [ht]; exact hP9, va_K.moved hW.alike hK9, hD9⟩, hS.F ht⟩) hS.2.2 dX12_compare_49
        · skip
          have c_6 : ¬ (x ≤ y) := fun h => c_6 ((lg_cmp_le x y).mpr h)
          refine lv_iconst (v := 1) hx hb dX12_compare_44 (by decide) ?_
          refine lv_goto (tgt := 49) hx hb dX12_compare_45 (by decide) ?_
          have hP9 := hP.sub (ws' := []) [] rfl
          have hD9 := hD.sub (ws' := []) [] (by decide) rfl
          have hK9 := hK.sub (tys' := [(cB, .byte), (cI, .int), (cJ, .long), (cZ, .boolean)]) [0, 1, 2, 3] rfl
          exact W.iret (v := 1) hx hb hr (fun t_ ht hW => ⟨⟨1, (), rfl, by unfold mcI; rw [if_pos c_1, if_pos c_4, if_pos c_5, if_neg c_6], by rw [ht]; exact hP9, va_K.moved hW.alike hK9, hD9⟩, hS.F ht⟩) hS.2.2 dX12_compare_49
      · skip
        have c_5 : ¬ (y ≤ x) := fun h => c_5 ((lg_cmp_ge x y).mpr h)
        refine lv_iconst (v := (-1)) hx hb dX12_compare_34 (by decide) ?_
        refine lv_goto (tgt := 49) hx hb dX12_compare_35 (by decide) ?_
        have hP9 := hP.sub (ws' := []) [] rfl
        have hD9 := hD.sub (ws' := []) [] (by decide) rfl
        have hK9 := hK.sub (tys' := [(cB, .byte), (cI, .int), (cJ, .long), (cZ, .boolean)]) [0, 1, 2, 3] rfl
        exact W.iret (v := (-1)) hx hb hr (fun t_ ht hW => ⟨⟨(-1), (), rfl, by unfold mcI; rw [if_pos c_1, if_pos c_4, if_neg c_5], by rw [ht]; exact hP9, va_K.moved hW.alike hK9, hD9⟩, hS.F ht⟩) hS.2.2 dX12_compare_49
    · skip
      refine lv_iload_n hx hb dX12_compare_9 rfl (lv_at hl 1 rfl) ?_
      refine lv_if_eq (tgt := 26) hx hb dX12_compare_10 (by decide) (fun c_7 => ?_) (fun c_7 => ?_)
      · skip
        refine lv_iconst (v := 1) hx hb dX12_compare_26 (by decide) ?_
        have hP9 := hP.sub (ws' := []) [] rfl
        have hD9 := hD.sub (ws' := []) [] (by decide) rfl
        have hK9 := hK.sub (tys' := [(cB, .byte), (cI, .int), (cJ, .long), (cZ, .boolean)]) [0, 1, 2, 3] rfl
        exact W.iret (v := 1) hx hb hr (fun t_ ht hW => ⟨⟨1, (), rfl, by unfold mcI; rw [if_pos c_1, if_neg c_4], by rw [ht]; exact hP9, va_K.moved hW.alike hK9, hD9⟩, hS.F ht⟩) hS.2.2 dX12_compare_27
      · skip
        exact absurd c_1 c_7
theorem dX12_compareRows_0 : decode cX12_compareRows 0 = .ok (.iconst 0, 1) := by decide +kernel
theorem dX12_compareRows_1 : decode cX12_compareRows 1 = .ok (.istore 4, 2) := by decide +kernel
theorem dX12_compareRows_3 : decode cX12_compareRows 3 = .ok (.iload 4, 2) := by decide +kernel
theorem dX12_compareRows_5 : decode cX12_compareRows 5 = .ok (.iload_n 3, 1) := by decide +kernel
theorem dX12_compareRows_6 : decode cX12_compareRows 6 = .ok (.if_icmp .ge 58, 3) := by decide +kernel
theorem dX12_compareRows_9 : decode cX12_compareRows 9 = .ok (.aload_n 0, 1) := by decide +kernel
theorem dX12_compareRows_10 : decode cX12_compareRows 10 = .ok (.getfield 194, 3) := by decide +kernel
theorem dX12_compareRows_13 : decode cX12_compareRows 13 = .ok (.iload_n 1, 1) := by decide +kernel
theorem dX12_compareRows_14 : decode cX12_compareRows 14 = .ok (.iload 4, 2) := by decide +kernel
theorem dX12_compareRows_16 : decode cX12_compareRows 16 = .ok (.iadd, 1) := by decide +kernel
theorem dX12_compareRows_17 : decode cX12_compareRows 17 = .ok (.laload, 1) := by decide +kernel
theorem dX12_compareRows_18 : decode cX12_compareRows 18 = .ok (.aload_n 0, 1) := by decide +kernel
theorem dX12_compareRows_19 : decode cX12_compareRows 19 = .ok (.getfield 197, 3) := by decide +kernel
theorem dX12_compareRows_22 : decode cX12_compareRows 22 = .ok (.iload_n 1, 1) := by decide +kernel
theorem dX12_compareRows_23 : decode cX12_compareRows 23 = .ok (.iload 4, 2) := by decide +kernel
theorem dX12_compareRows_25 : decode cX12_compareRows 25 = .ok (.iadd, 1) := by decide +kernel
theorem dX12_compareRows_26 : decode cX12_compareRows 26 = .ok (.baload, 1) := by decide +kernel
theorem dX12_compareRows_27 : decode cX12_compareRows 27 = .ok (.aload_n 0, 1) := by decide +kernel
theorem dX12_compareRows_28 : decode cX12_compareRows 28 = .ok (.getfield 194, 3) := by decide +kernel
theorem dX12_compareRows_31 : decode cX12_compareRows 31 = .ok (.iload_n 2, 1) := by decide +kernel
theorem dX12_compareRows_32 : decode cX12_compareRows 32 = .ok (.iload 4, 2) := by decide +kernel
theorem dX12_compareRows_34 : decode cX12_compareRows 34 = .ok (.iadd, 1) := by decide +kernel
theorem dX12_compareRows_35 : decode cX12_compareRows 35 = .ok (.laload, 1) := by decide +kernel
theorem dX12_compareRows_36 : decode cX12_compareRows 36 = .ok (.aload_n 0, 1) := by decide +kernel
theorem dX12_compareRows_37 : decode cX12_compareRows 37 = .ok (.getfield 197, 3) := by decide +kernel
theorem dX12_compareRows_40 : decode cX12_compareRows 40 = .ok (.iload_n 2, 1) := by decide +kernel
theorem dX12_compareRows_41 : decode cX12_compareRows 41 = .ok (.iload 4, 2) := by decide +kernel
theorem dX12_compareRows_43 : decode cX12_compareRows 43 = .ok (.iadd, 1) := by decide +kernel
theorem dX12_compareRows_44 : decode cX12_compareRows 44 = .ok (.baload, 1) := by decide +kernel
theorem dX12_compareRows_45 : decode cX12_compareRows 45 = .ok (.invokestatic 596, 3) := by decide +kernel
theorem dX12_compareRows_48 : decode cX12_compareRows 48 = .ok (.istore 5, 2) := by decide +kernel
theorem dX12_compareRows_50 : decode cX12_compareRows 50 = .ok (.iload 5, 2) := by decide +kernel
theorem dX12_compareRows_52 : decode cX12_compareRows 52 = .ok (.ifCond .eq 6, 3) := by decide +kernel
theorem dX12_compareRows_55 : decode cX12_compareRows 55 = .ok (.iload 5, 2) := by decide +kernel
theorem dX12_compareRows_57 : decode cX12_compareRows 57 = .ok (.ireturn, 1) := by decide +kernel
theorem dX12_compareRows_58 : decode cX12_compareRows 58 = .ok (.iinc 4 1, 3) := by decide +kernel
theorem dX12_compareRows_61 : decode cX12_compareRows 61 = .ok (.goto (-58), 3) := by decide +kernel
theorem dX12_compareRows_64 : decode cX12_compareRows 64 = .ok (.iconst 0, 1) := by decide +kernel
theorem dX12_compareRows_65 : decode cX12_compareRows 65 = .ok (.ireturn, 1) := by decide +kernel
abbrev cs_t_X12_compareRows (cB cI cJ cZ : ClassId) (h0 : Nat) (a : Nat → Nat) (f : Nat → Int32) (w : Int64) (g : Nat → Int64) (z : Nat → Int32) (a1 b1 w1 : Nat) : va_W := [(h0, .inr (13, moF a f w)), (a 85, .inl (cJ, 400000, .inr (.inl g))), (a 86, .inl (cZ, 400000, .inl z))]
abbrev pc_t_X12_compareRows (dC : Nat → ClassId) (dI : Nat → Nat → Nat) (sz : Nat) (cB cI cJ cZ : ClassId) (h0 : Nat) (a : Nat → Nat) (f : Nat → Int32) (w : Int64) (g : Nat → Int64) (z : Nat → Int32) (a1 b1 w1 : Nat) : Array Value → State → Prop := va_Pc [.ref h0, .int (nI a1), .int (nI b1), .int (nI w1)] (fun U => U.heap.size = sz ∧ va_P (dC, dI) vwCl [(h0, .inr (13, moF a f w)), (a 85, .inl (cJ, 400000, .inr (.inl g))), (a 86, .inl (cZ, 400000, .inl z))] U.heap ∧ va_K (dC, dI) vwCl [(cB, .byte), (cI, .int), (cJ, .long), (cZ, .boolean)] U ∧ va_D (fun _ => True) [(h0, .inr (13, moF a f w)), (a 85, .inl (cJ, 400000, .inr (.inl g))), (a 86, .inl (cZ, 400000, .inl z))])
abbrev qc_t_X12_compareRows (dC : Nat → ClassId) (dI : Nat → Nat → Nat) (cB cI cJ cZ : ClassId) (h0 : Nat) (a : Nat → Nat) (f : Nat → Int32) (w : Int64) (g : Nat → Int64) (z : Nat → Int32) (a1 b1 w1 : Nat) (A : Nat → Prop) : Array Value → State → Outcome → State → Prop := va_Qi (fun (r : Int32) (u : Unit) => match u with | _ => r = mcF g z a1 b1 w1 0) (fun (u : Unit) t_ => match u with | _ => va_P (dC, dI) vwCl [(h0, .inr (13, moF a f w)), (a 85, .inl (cJ, 400000, .inr (.inl g))), (a 86, .inl (cZ, 400000, .inl z))] t_.heap ∧ va_K (dC, dI) vwCl [(cB, .byte), (cI, .int), (cJ, .long), (cZ, .boolean)] t_ ∧ va_D A [(h0, .inr (13, moF a f w)), (a 85, .inl (cJ, 400000, .inr (.inl g))), (a 86, .inl (cZ, 400000, .inl z))]) A
set_option maxHeartbeats 4000000 in
set_option maxRecDepth 100000 in
theorem t_X12_compareRows (l : Launch) (dC : Nat → ClassId) (dI : Nat → Nat → Nat) (sz : Nat) (cB cI cJ cZ : ClassId) (h0 : Nat) (a : Nat → Nat) (f : Nat → Int32) (w : Int64) (g : Nat → Int64) (z : Nat → Int32) (a1 b1 w1 : Nat) (ha : a1 + w1 ≤ 400000) (hb1 : b1 + w1 ≤ 400000) : Met l yX12_compareRows (wsOf yX12_compareRows cX12_compareRows 6 (some .int)) ({ frames := 1, cells := 0, slots := 0, locals := 60 }) (pc_t_X12_compareRows dC dI sz cB cI cJ cZ h0 a f w g z a1 b1 w1) (qc_t_X12_compareRows dC dI cB cI cJ cZ h0 a f w g z a1 b1 w1 (va_A (cs_t_X12_compareRows cB cI cJ cZ h0 a f w g z a1 b1 w1) sz)) 0 0 (va_A (cs_t_X12_compareRows cB cI cJ cZ h0 a f w g z a1 b1 w1) sz) := by
  refine Met.ofW (cc := cX12_compareRows) (maxL := 6) (ret := (some .int)) (by decide) rfl ?_
  intro p e s m args below meth c s₁ B hml hv
  obtain ⟨rfl, hsz, hP, hK, hD0⟩ := hv
  have hx := B.exec
  have hb := B.bytes
  have hr := B.returns
  have hts := atoms_spec (ws := (wsOf yX12_compareRows cX12_compareRows 6 (some .int))) B.pre
  have hown : s.vm.findClass RX12 = some m.cls := findClass_of_methodNamed B.named
  have hlocks := B.notSynchronized
  subst hsz
  have hD := hD0.self (sz := s.heap.size)
  generalize hAe : va_A (cs_t_X12_compareRows cB cI cJ cZ h0 a f w g z a1 b1 w1) s.heap.size = A at hD ⊢
  have hA : ∀ q : Nat, s.heap.size ≤ q → A q := fun q h => by rw [← hAe]; exact Or.inr h
  have hS : va_S A s.heap s.heap [] := va_S.rf
  have hP : va_P (dC, dI) vwCl [(h0, .inr (13, moF a f w)), (a 85, .inl (cJ, 400000, .inr (.inl g))), (a 86, .inl (cZ, 400000, .inl z))] s.heap := hP
  have hl := lv_entry ([.ref h0, .int (nI a1), .int (nI b1), .int (nI w1)]) (n := 6) (Nat.le_of_ble_eq_true rfl)
  rw [lg_entry_eq]
  generalize (lg_sl ([.ref h0, .int (nI a1), .int (nI b1), .int (nI w1)]) ++ List.replicate (6 - (lg_sl ([.ref h0, .int (nI a1), .int (nI b1), .int (nI w1)])).length) Slot.unset).toArray = ls at hl ⊢
  have hl : lv_has ls 6 [(0, .ref h0), (1, .int (nI a1)), (2, .int (nI b1)), (3, .int (nI w1))] := hl
  refine lv_iconst (v := 0) hx hb dX12_compareRows_0 (by decide) ?_
  refine lv_istore (lv' := [(4, .int 0), (0, .ref h0), (1, .int (nI a1)), (2, .int (nI b1)), (3, .int (nI w1))]) hx hb dX12_compareRows_1 hl (by decide) rfl (fun ls hl => ?_)
  have lp_3 : ∀ (n_ : Nat) (i : Nat), i ≤ w1 → mcF g z a1 b1 w1 0 = mcF g z a1 b1 (w1 - i) i → w1 - i < n_ → ∀ (H : Heap) (locs : List Loc) (ls : Array Slot), va_P (dC, dI) vwCl [(h0, .inr (13, moF a f w)), (a 85, .inl (cJ, 400000, .inr (.inl g))), (a 86, .inl (cZ, 400000, .inl z))] H → va_D A [(h0, .inr (13, moF a f w)), (a 85, .inl (cJ, 400000, .inr (.inl g))), (a 86, .inl (cZ, 400000, .inl z))] → va_S A s.heap H locs → lv_has ls 6 [(4, .int (nI i)), (0, .ref h0), (1, .int (nI a1)), (2, .int (nI b1)), (3, .int (nI w1))] → W p l e (headSpec (wsOf yX12_compareRows cX12_compareRows 6 (some .int)) ({ frames := 1, cells := 0, slots := 0, locals := 60 })).room s m ([.ref h0, .int (nI a1), .int (nI b1), .int (nI w1)] : List Value).toArray below meth c H locs 0 0 (MQ below (qc_t_X12_compareRows dC dI cB cI cJ cZ h0 a f w g z a1 b1 w1 A) ([.ref h0, .int (nI a1), .int (nI b1), .int (nI w1)] : List Value).toArray s 0 0 A) (F0 m 3 ls []) := by
    intro n_
    induction n_ with
    | zero => intro i hi hin hm; exact absurd hm (Nat.not_lt_zero _)
    | succ n_ ih_3 =>
      intro i hi hin hm H locs ls hP hD hS hl
      refine lv_iload hx hb dX12_compareRows_3 (lv_at hl 0 rfl) ?_
      refine lv_iload_n hx hb dX12_compareRows_5 rfl (lv_at hl 4 rfl) ?_
      refine lv_icmp_ge (tgt := 64) hx hb dX12_compareRows_6 (by decide) (fun c_1 => ?_) (fun c_1 => ?_)
      · skip
        have c_1 : w1 ≤ i := (nI_leI (a := w1) (b := i) (by omega) (by omega)).mp c_1
        refine lv_iconst (v := 0) hx hb dX12_compareRows_64 (by decide) ?_
        have hP9 := hP.sub (ws' := [(h0, .inr (13, moF a f w)), (a 85, .inl (cJ, 400000, .inr (.inl g))), (a 86, .inl (cZ, 400000, .inl z))]) [0, 1, 2] rfl
        have hD9 := hD.sub (ws' := [(h0, .inr (13, moF a f w)), (a 85, .inl (cJ, 400000, .inr (.inl g))), (a 86, .inl (cZ, 400000, .inl z))]) [0, 1, 2] (by decide) rfl
        have hK9 := hK.sub (tys' := [(cB, .byte), (cI, .int), (cJ, .long), (cZ, .boolean)]) [0, 1, 2, 3] rfl
        exact W.iret (v := 0) hx hb hr (fun t_ ht hW => ⟨⟨0, (), rfl, (by rw [hin, show w1 - i = 0 by omega]; rfl), by rw [ht]; exact hP9, va_K.moved hW.alike hK9, hD9⟩, hS.F ht⟩) hS.2.2 dX12_compareRows_65
      · skip
        have c_1 : ¬ (w1 ≤ i) := fun h => c_1 ((nI_leI (a := w1) (b := i) (by omega) (by omega)).mpr h)
        refine lv_aload_n hx hb dX12_compareRows_9 rfl (lv_at hl 1 rfl) ?_
        refine va_get (D := (dC, dI)) (ci := 13) (v := .ref (a 85)) (C := RX12) (T := TX12) (N := 115) hx hb hts (fun w h => List.mem_cons_of_mem _ (uG_X12 w h)) hown hK hP 0 rfl rfl 85 (by decide) (hts _ (List.mem_cons_of_mem _ kw_1776)) (fun _ h9 => h9) rfl dX12_compareRows_10 ?_
        refine lv_iload_n hx hb dX12_compareRows_13 rfl (lv_at hl 2 rfl) ?_
        refine lv_iload hx hb dX12_compareRows_14 (lv_at hl 0 rfl) ?_
        refine lv_iadd hx hb dX12_compareRows_16 ?_
        refine lv_topi (fun x_2 ex_2 => ?_)
        have ex_2 : x_2 = nI (a1 + i) := ex_2.trans (nI_add a1 i)
        subst ex_2
        refine va_lald hx hb hK hP 1 2 rfl rfl (i := (nI (a1 + i))) (vp_in_nI (n := a1 + i) (N := 400000) (by omega) (by omega)) dX12_compareRows_17 ?_
        refine lv_topl (fun x_3 ex_3 => ?_)
        have ex_3 : x_3 = g (a1 + i) := ex_3.trans (congrArg g (nI_clamp (n := a1 + i) (by omega)))
        subst ex_3
        refine lv_aload_n hx hb dX12_compareRows_18 rfl (lv_at hl 1 rfl) ?_
        refine va_get (D := (dC, dI)) (ci := 13) (v := .ref (a 86)) (C := RX12) (T := TX12) (N := 115) hx hb hts (fun w h => List.mem_cons_of_mem _ (uG_X12 w h)) hown hK hP 0 rfl rfl 86 (by decide) (hts _ (List.mem_cons_of_mem _ kw_1777)) (fun _ h9 => h9) rfl dX12_compareRows_19 ?_
        refine lv_iload_n hx hb dX12_compareRows_22 rfl (lv_at hl 2 rfl) ?_
        refine lv_iload hx hb dX12_compareRows_23 (lv_at hl 0 rfl) ?_
        refine lv_iadd hx hb dX12_compareRows_25 ?_
        refine lv_topi (fun x_4 ex_4 => ?_)
        have ex_4 : x_4 = nI (a1 + i) := ex_4.trans (nI_add a1 i)
        subst ex_4
        refine va_zald hx hb hK hP 2 3 rfl rfl (i := (nI (a1 + i))) (vp_in_nI (n := a1 + i) (N := 400000) (by omega) (by omega)) dX12_compareRows_26 ?_
        refine lv_topi (fun x_5 ex_5 => ?_)
        have ex_5 : x_5 = z (a1 + i) := ex_5.trans (congrArg z (nI_clamp (n := a1 + i) (by omega)))
        subst ex_5
        refine lv_aload_n hx hb dX12_compareRows_27 rfl (lv_at hl 1 rfl) ?_
        refine va_get (D := (dC, dI)) (ci := 13) (v := .ref (a 85)) (C := RX12) (T := TX12) (N := 115) hx hb hts (fun w h => List.mem_cons_of_mem _ (uG_X12 w h)) hown hK hP 0 rfl rfl 85 (by decide) (hts _ (List.mem_cons_of_mem _ kw_1776)) (fun _ h9 => h9) rfl dX12_compareRows_28 ?_
        refine lv_iload_n hx hb dX12_compareRows_31 rfl (lv_at hl 3 rfl) ?_
        refine lv_iload hx hb dX12_compareRows_32 (lv_at hl 0 rfl) ?_
        refine lv_iadd hx hb dX12_compareRows_34 ?_
        refine lv_topi (fun x_6 ex_6 => ?_)
        have ex_6 : x_6 = nI (b1 + i) := ex_6.trans (nI_add b1 i)
        subst ex_6
        refine va_lald hx hb hK hP 1 2 rfl rfl (i := (nI (b1 + i))) (vp_in_nI (n := b1 + i) (N := 400000) (by omega) (by omega)) dX12_compareRows_35 ?_
        refine lv_topl (fun x_7 ex_7 => ?_)
        have ex_7 : x_7 = g (b1 + i) := ex_7.trans (congrArg g (nI_clamp (n := b1 + i) (by omega)))
        subst ex_7
        refine lv_aload_n hx hb dX12_compareRows_36 rfl (lv_at hl 1 rfl) ?_
        refine va_get (D := (dC, dI)) (ci := 13) (v := .ref (a 86)) (C := RX12) (T := TX12) (N := 115) hx hb hts (fun w h => List.mem_cons_of_mem _ (uG_X12 w h)) hown hK hP 0 rfl rfl 86 (by decide) (hts _ (List.mem_cons_of_mem _ kw_1777)) (fun _ h9 => h9) rfl dX12_compareRows_37 ?_
        refine lv_iload_n hx hb dX12_compareRows_40 rfl (lv_at hl 3 rfl) ?_
        refine lv_iload hx hb dX12_compareRows_41 (lv_at hl 0 rfl) ?_
        refine lv_iadd hx hb dX12_compareRows_43 ?_
        refine lv_topi (fun x_8 ex_8 => ?_)
        have ex_8 : x_8 = nI (b1 + i) := ex_8.trans (nI_add b1 i)
        subst ex_8
        refine va_zald hx hb hK hP 2 3 rfl rfl (i := (nI (b1 + i))) (vp_in_nI (n := b1 + i) (N := 400000) (by omega) (by omega)) dX12_compareRows_44 ?_
        refine lv_topi (fun x_9 ex_9 => ?_)
        have ex_9 : x_9 = z (b1 + i) := ex_9.trans (congrArg z (nI_clamp (n := b1 + i) (by omega)))
        subst ex_9
        have hPc := hP.sub (ws' := []) [] rfl
        have hDc := hD.sub (ws' := []) [] (by decide) rfl
        have hKc := hK.sub (tys' := [(cB, .byte), (cI, .int), (cJ, .long), (cZ, .boolean)]) [0, 1, 2, 3] rfl
        have hFc := va_free (wc := []) hD hS hA [] rfl
        refine va_calli (va_runS (As := [.long (g (a1 + i)), .int (z (a1 + i)), .long (g (b1 + i)), .int (z (b1 + i))]) (rest := []) ⟨hx, hb, hml, hown, hts⟩ (t_X12_compare l dC dI H.size cB cI cJ cZ (g (a1 + i)) (z (a1 + i)) (g (b1 + i)) (z (b1 + i))) ⟨callB_of 4 hts (gd_all (in_I kc_X12_compare)) rfl rfl rfl (hts _ (List.mem_cons_of_mem _ kw_191)) (hts _ (List.mem_cons_of_mem _ kw_2166)) (by decide +kernel) ⟨Nat.le_of_ble_eq_true rfl, Nat.le_of_ble_eq_true rfl⟩, hts _ (List.mem_cons_of_mem _ kw_2167)⟩ ⟨fun a U g mk q => by obtain ⟨q0, q1, qP, qK, qD⟩ := q; exact ⟨q0, q1, qP, va_K.moved (u := U) (U := U.calling g mk a) (Vm.Alike.refl U.vm) qK, qD⟩, fun U hU hW => ⟨rfl, by rw [hU], by rw [hU]; exact hPc, va_K.moved hW.alike hKc, hDc.weaken (fun _ _ _ _ => trivial)⟩⟩ rfl rfl hl.1 rfl (lv_room (Nat.le_of_ble_eq_true rfl)) dX12_compareRows_45 ⟨Nat.le_of_ble_eq_true rfl, Nat.le_of_ble_eq_true rfl⟩) hS (fun q _ h => hFc q h) hFc (fun r_10 u t_ H1 locs ht hvm hw hB hz1 hk1 hS => ?_)
        obtain ⟨hP1, hK1, hD1⟩ := hB
        rw [ht] at hP1
        have hK1 := va_K.moved hvm.symm hK1
        obtain ⟨hP, hD⟩ := va_join (wr := [(h0, .inr (13, moF a f w)), (a 85, .inl (cJ, 400000, .inr (.inl g))), (a 86, .inl (cZ, 400000, .inl z))]) (w1 := []) hP hD [] [0, 1, 2] rfl rfl (by decide) (by decide) hk1 hFc hP1 hD1
        have hK := (hK.sub (tys' := []) [] rfl).app hK1
        generalize H1 = H at hP hS ⊢
        have hP : va_P (dC, dI) vwCl [(h0, .inr (13, moF a f w)), (a 85, .inl (cJ, 400000, .inr (.inl g))), (a 86, .inl (cZ, 400000, .inl z))] H := hP
        have hD : va_D A [(h0, .inr (13, moF a f w)), (a 85, .inl (cJ, 400000, .inr (.inl g))), (a 86, .inl (cZ, 400000, .inl z))] := hD
        have hK : va_K (dC, dI) vwCl [(cB, .byte), (cI, .int), (cJ, .long), (cZ, .boolean)] s := hK
        have er_10 : r_10 = mcI (g (a1 + i)) (z (a1 + i)) (g (b1 + i)) (z (b1 + i)) := hw
        rw [er_10]
        refine lv_istore (lv' := [(5, .int (mcI (g (a1 + i)) (z (a1 + i)) (g (b1 + i)) (z (b1 + i)))), (4, .int (nI i)), (0, .ref h0), (1, .int (nI a1)), (2, .int (nI b1)), (3, .int (nI w1))]) hx hb dX12_compareRows_48 hl (by decide) rfl (fun ls hl => ?_)
        refine lv_iload hx hb dX12_compareRows_50 (lv_at hl 0 rfl) ?_
        refine lv_if_eq (tgt := 58) hx hb dX12_compareRows_52 (by decide) (fun c_11 => ?_) (fun c_11 => ?_)
        · skip
          refine lv_iinc (v := nI (i + 1)) (lv' := [(4, .int (nI (i + 1))), (5, .int (mcI (g (a1 + i)) (z (a1 + i)) (g (b1 + i)) (z (b1 + i)))), (0, .ref h0), (1, .int (nI a1)), (2, .int (nI b1)), (3, .int (nI w1))]) hx hb dX12_compareRows_58 hl (k := 1) rfl (nI_add i 1) (by decide) rfl (fun ls hl => ?_)
          refine lv_goto (tgt := 3) hx hb dX12_compareRows_61 (by decide) ?_
          exact ih_3 (i + 1) (by omega) (hin.trans (mcF_z (by omega) c_11)) (by omega) _ _ _ (hP.sub [0, 1, 2] rfl) (hD.sub [0, 1, 2] (by decide) rfl) hS (lv_sub hl [0, 2, 3, 4, 5] rfl)
        · skip
          refine lv_iload hx hb dX12_compareRows_55 (lv_at hl 0 rfl) ?_
          have hP9 := hP.sub (ws' := [(h0, .inr (13, moF a f w)), (a 85, .inl (cJ, 400000, .inr (.inl g))), (a 86, .inl (cZ, 400000, .inl z))]) [0, 1, 2] rfl
          have hD9 := hD.sub (ws' := [(h0, .inr (13, moF a f w)), (a 85, .inl (cJ, 400000, .inr (.inl g))), (a 86, .inl (cZ, 400000, .inl z))]) [0, 1, 2] (by decide) rfl
          have hK9 := hK.sub (tys' := [(cB, .byte), (cI, .int), (cJ, .long), (cZ, .boolean)]) [0, 1, 2, 3] rfl
          exact W.iret (v := (mcI (g (a1 + i)) (z (a1 + i)) (g (b1 + i)) (z (b1 + i)))) hx hb hr (fun t_ ht hW => ⟨⟨(mcI (g (a1 + i)) (z (a1 + i)) (g (b1 + i)) (z (b1 + i))), (), rfl, (hin.trans (mcF_n (by omega) c_11)).symm, by rw [ht]; exact hP9, va_K.moved hW.alike hK9, hD9⟩, hS.F ht⟩) hS.2.2 dX12_compareRows_57
  exact lp_3 _ 0 (Nat.zero_le _) rfl (Nat.lt_succ_self _) _ _ _ (hP.sub [0, 1, 2] rfl) (hD.sub [0, 1, 2] (by decide) rfl) hS (lv_sub hl [0, 1, 2, 3, 4] rfl)
theorem dX12_rowAt_0 : decode cX12_rowAt 0 = .ok (.aload_n 0, 1) := by decide +kernel
theorem dX12_rowAt_1 : decode cX12_rowAt 1 = .ok (.getfield 200, 3) := by decide +kernel
theorem dX12_rowAt_4 : decode cX12_rowAt 4 = .ok (.iload_n 1, 1) := by decide +kernel
theorem dX12_rowAt_5 : decode cX12_rowAt 5 = .ok (.iaload, 1) := by decide +kernel
theorem dX12_rowAt_6 : decode cX12_rowAt 6 = .ok (.iload_n 2, 1) := by decide +kernel
theorem dX12_rowAt_7 : decode cX12_rowAt 7 = .ok (.aload_n 0, 1) := by decide +kernel
theorem dX12_rowAt_8 : decode cX12_rowAt 8 = .ok (.getfield 206, 3) := by decide +kernel
theorem dX12_rowAt_11 : decode cX12_rowAt 11 = .ok (.iload_n 1, 1) := by decide +kernel
theorem dX12_rowAt_12 : decode cX12_rowAt 12 = .ok (.iaload, 1) := by decide +kernel
theorem dX12_rowAt_13 : decode cX12_rowAt 13 = .ok (.imul, 1) := by decide +kernel
theorem dX12_rowAt_14 : decode cX12_rowAt 14 = .ok (.iadd, 1) := by decide +kernel
theorem dX12_rowAt_15 : decode cX12_rowAt 15 = .ok (.ireturn, 1) := by decide +kernel
abbrev cs_t_X12_rowAt (cB cI cJ cZ : ClassId) (h0 : Nat) (a : Nat → Nat) (f : Nat → Int32) (w : Int64) (rb rk : Nat → Int32) (r1 i b1 c1 : Nat) : va_W := [(h0, .inr (13, moF a f w)), (a 88, .inl (cI, 400, .inl rb)), (a 90, .inl (cI, 400, .inl rk))]
abbrev pc_t_X12_rowAt (dC : Nat → ClassId) (dI : Nat → Nat → Nat) (sz : Nat) (cB cI cJ cZ : ClassId) (h0 : Nat) (a : Nat → Nat) (f : Nat → Int32) (w : Int64) (rb rk : Nat → Int32) (r1 i b1 c1 : Nat) : Array Value → State → Prop := va_Pc [.ref h0, .int (nI r1), .int (nI i)] (fun U => U.heap.size = sz ∧ va_P (dC, dI) vwCl [(h0, .inr (13, moF a f w)), (a 88, .inl (cI, 400, .inl rb)), (a 90, .inl (cI, 400, .inl rk))] U.heap ∧ va_K (dC, dI) vwCl [(cB, .byte), (cI, .int), (cJ, .long), (cZ, .boolean)] U ∧ va_D (fun _ => True) [(h0, .inr (13, moF a f w)), (a 88, .inl (cI, 400, .inl rb)), (a 90, .inl (cI, 400, .inl rk))])
abbrev qc_t_X12_rowAt (dC : Nat → ClassId) (dI : Nat → Nat → Nat) (cB cI cJ cZ : ClassId) (h0 : Nat) (a : Nat → Nat) (f : Nat → Int32) (w : Int64) (rb rk : Nat → Int32) (r1 i b1 c1 : Nat) (A : Nat → Prop) : Array Value → State → Outcome → State → Prop := va_Qi (fun (r : Int32) (u : Unit) => match u with | _ => r = nI (b1 + i * c1)) (fun (u : Unit) t_ => match u with | _ => va_P (dC, dI) vwCl [(h0, .inr (13, moF a f w)), (a 88, .inl (cI, 400, .inl rb)), (a 90, .inl (cI, 400, .inl rk))] t_.heap ∧ va_K (dC, dI) vwCl [(cB, .byte), (cI, .int), (cJ, .long), (cZ, .boolean)] t_ ∧ va_D A [(h0, .inr (13, moF a f w)), (a 88, .inl (cI, 400, .inl rb)), (a 90, .inl (cI, 400, .inl rk))]) A
set_option maxHeartbeats 4000000 in
set_option maxRecDepth 100000 in
theorem t_X12_rowAt (l : Launch) (dC : Nat → ClassId) (dI : Nat → Nat → Nat) (sz : Nat) (cB cI cJ cZ : ClassId) (h0 : Nat) (a : Nat → Nat) (f : Nat → Int32) (w : Int64) (rb rk : Nat → Int32) (r1 i b1 c1 : Nat) (hr1 : r1 < 400) (h1 : rb r1 = nI b1) (h2 : rk r1 = nI c1) : Met l yX12_rowAt (wsOf yX12_rowAt cX12_rowAt 3 (some .int)) ({ frames := 0, cells := 0, slots := 0, locals := 0 }) (pc_t_X12_rowAt dC dI sz cB cI cJ cZ h0 a f w rb rk r1 i b1 c1) (qc_t_X12_rowAt dC dI cB cI cJ cZ h0 a f w rb rk r1 i b1 c1 (va_A (cs_t_X12_rowAt cB cI cJ cZ h0 a f w rb rk r1 i b1 c1) sz)) 0 0 (va_A (cs_t_X12_rowAt cB cI cJ cZ h0 a f w rb rk r1 i b1 c1) sz) := by
  refine Met.ofW (cc := cX12_rowAt) (maxL := 3) (ret := (some .int)) (by decide) rfl ?_
  intro p e s m args below meth c s₁ B hml hv
  obtain ⟨rfl, hsz, hP, hK, hD0⟩ := hv
  have hx := B.exec
  have hb := B.bytes
  have hr := B.returns
  have hts := atoms_spec (ws := (wsOf yX12_rowAt cX12_rowAt 3 (some .int))) B.pre
  have hown : s.vm.findClass RX12 = some m.cls := findClass_of_methodNamed B.named
  have hlocks := B.notSynchronized
  subst hsz
  have hD := hD0.self (sz := s.heap.size)
  generalize hAe : va_A (cs_t_X12_rowAt cB cI cJ cZ h0 a f w rb rk r1 i b1 c1) s.heap.size = A at hD ⊢
  have hA : ∀ q : Nat, s.heap.size ≤ q → A q := fun q h => by rw [← hAe]; exact Or.inr h
  have hS : va_S A s.heap s.heap [] := va_S.rf
  have hP : va_P (dC, dI) vwCl [(h0, .inr (13, moF a f w)), (a 88, .inl (cI, 400, .inl rb)), (a 90, .inl (cI, 400, .inl rk))] s.heap := hP
  have hl := lv_entry ([.ref h0, .int (nI r1), .int (nI i)]) (n := 3) (Nat.le_of_ble_eq_true rfl)
  rw [lg_entry_eq]
  generalize (lg_sl ([.ref h0, .int (nI r1), .int (nI i)]) ++ List.replicate (3 - (lg_sl ([.ref h0, .int (nI r1), .int (nI i)])).length) Slot.unset).toArray = ls at hl ⊢
  have hl : lv_has ls 3 [(0, .ref h0), (1, .int (nI r1)), (2, .int (nI i))] := hl
  refine lv_aload_n hx hb dX12_rowAt_0 rfl (lv_at hl 0 rfl) ?_
  refine va_get (D := (dC, dI)) (ci := 13) (v := .ref (a 88)) (C := RX12) (T := TX12) (N := 115) hx hb hts (fun w h => List.mem_cons_of_mem _ (uG_X12 w h)) hown hK hP 0 rfl rfl 88 (by decide) (hts _ (List.mem_cons_of_mem _ kw_1779)) (fun _ h9 => h9) rfl dX12_rowAt_1 ?_
  refine lv_iload_n hx hb dX12_rowAt_4 rfl (lv_at hl 1 rfl) ?_
  refine va_iald hx hb hK hP 1 1 rfl rfl (i := (nI r1)) (vp_in_nI (n := r1) (N := 400) (by omega) (by omega)) dX12_rowAt_5 ?_
  refine lv_topi (fun x_1 ex_1 => ?_)
  have ex_1 : x_1 = rb r1 := ex_1.trans (congrArg rb (nI_clamp (n := r1) (by omega)))
  have ex_1 : x_1 = nI b1 := ex_1.trans h1
  subst ex_1
  refine lv_iload_n hx hb dX12_rowAt_6 rfl (lv_at hl 2 rfl) ?_
  refine lv_aload_n hx hb dX12_rowAt_7 rfl (lv_at hl 0 rfl) ?_
  refine va_get (D := (dC, dI)) (ci := 13) (v := .ref (a 90)) (C := RX12) (T := TX12) (N := 115) hx hb hts (fun w h => List.mem_cons_of_mem _ (uG_X12 w h)) hown hK hP 0 rfl rfl 90 (by decide) (hts _ (List.mem_cons_of_mem _ kw_1781)) (fun _ h9 => h9) rfl dX12_rowAt_8 ?_
  refine lv_iload_n hx hb dX12_rowAt_11 rfl (lv_at hl 1 rfl) ?_
  refine va_iald hx hb hK hP 2 1 rfl rfl (i := (nI r1)) (vp_in_nI (n := r1) (N := 400) (by omega) (by omega)) dX12_rowAt_12 ?_
  refine lv_topi (fun x_2 ex_2 => ?_)
  have ex_2 : x_2 = rk r1 := ex_2.trans (congrArg rk (nI_clamp (n := r1) (by omega)))
  have ex_2 : x_2 = nI c1 := ex_2.trans h2
  subst ex_2
  refine lv_imul hx hb dX12_rowAt_13 ?_
  refine lv_topi (fun x_3 ex_3 => ?_)
  have ex_3 : x_3 = nI (i * c1) := ex_3.trans (pk_mul i c1)
  subst ex_3
  refine lv_iadd hx hb dX12_rowAt_14 ?_
  refine lv_topi (fun x_4 ex_4 => ?_)
  have ex_4 : x_4 = nI (b1 + (i * c1)) := ex_4.trans (nI_add b1 (i * c1))
  subst ex_4
  have hP9 := hP.sub (ws' := [(h0, .inr (13, moF a f w)), (a 88, .inl (cI, 400, .inl rb)), (a 90, .inl (cI, 400, .inl rk))]) [0, 1, 2] rfl
  have hD9 := hD.sub (ws' := [(h0, .inr (13, moF a f w)), (a 88, .inl (cI, 400, .inl rb)), (a 90, .inl (cI, 400, .inl rk))]) [0, 1, 2] (by decide) rfl
  have hK9 := hK.sub (tys' := [(cB, .byte), (cI, .int), (cJ, .long), (cZ, .boolean)]) [0, 1, 2, 3] rfl
  exact W.iret (v := (nI (b1 + (i * c1)))) hx hb hr (fun t_ ht hW => ⟨⟨(nI (b1 + (i * c1))), (), rfl, rfl, by rw [ht]; exact hP9, va_K.moved hW.alike hK9, hD9⟩, hS.F ht⟩) hS.2.2 dX12_rowAt_15
theorem dX12_relation_0 : decode cX12_relation 0 = .ok (.aload_n 0, 1) := by decide +kernel
theorem dX12_relation_1 : decode cX12_relation 1 = .ok (.getfield 590, 3) := by decide +kernel
theorem dX12_relation_4 : decode cX12_relation 4 = .ok (.istore_n 2, 1) := by decide +kernel
theorem dX12_relation_5 : decode cX12_relation 5 = .ok (.aload_n 0, 1) := by decide +kernel
theorem dX12_relation_6 : decode cX12_relation 6 = .ok (.dup, 1) := by decide +kernel
theorem dX12_relation_7 : decode cX12_relation 7 = .ok (.getfield 590, 3) := by decide +kernel
theorem dX12_relation_10 : decode cX12_relation 10 = .ok (.iconst 1, 1) := by decide +kernel
theorem dX12_relation_11 : decode cX12_relation 11 = .ok (.iadd, 1) := by decide +kernel
theorem dX12_relation_12 : decode cX12_relation 12 = .ok (.putfield 590, 3) := by decide +kernel
theorem dX12_relation_15 : decode cX12_relation 15 = .ok (.aload_n 0, 1) := by decide +kernel
theorem dX12_relation_16 : decode cX12_relation 16 = .ok (.getfield 200, 3) := by decide +kernel
theorem dX12_relation_19 : decode cX12_relation 19 = .ok (.iload_n 2, 1) := by decide +kernel
theorem dX12_relation_20 : decode cX12_relation 20 = .ok (.aload_n 0, 1) := by decide +kernel
theorem dX12_relation_21 : decode cX12_relation 21 = .ok (.getfield 593, 3) := by decide +kernel
theorem dX12_relation_24 : decode cX12_relation 24 = .ok (.iastore, 1) := by decide +kernel
theorem dX12_relation_25 : decode cX12_relation 25 = .ok (.aload_n 0, 1) := by decide +kernel
theorem dX12_relation_26 : decode cX12_relation 26 = .ok (.getfield 203, 3) := by decide +kernel
theorem dX12_relation_29 : decode cX12_relation 29 = .ok (.iload_n 2, 1) := by decide +kernel
theorem dX12_relation_30 : decode cX12_relation 30 = .ok (.iconst 0, 1) := by decide +kernel
theorem dX12_relation_31 : decode cX12_relation 31 = .ok (.iastore, 1) := by decide +kernel
theorem dX12_relation_32 : decode cX12_relation 32 = .ok (.aload_n 0, 1) := by decide +kernel
theorem dX12_relation_33 : decode cX12_relation 33 = .ok (.getfield 206, 3) := by decide +kernel
theorem dX12_relation_36 : decode cX12_relation 36 = .ok (.iload_n 2, 1) := by decide +kernel
theorem dX12_relation_37 : decode cX12_relation 37 = .ok (.iload_n 1, 1) := by decide +kernel
theorem dX12_relation_38 : decode cX12_relation 38 = .ok (.iastore, 1) := by decide +kernel
theorem dX12_relation_39 : decode cX12_relation 39 = .ok (.iload_n 2, 1) := by decide +kernel
theorem dX12_relation_40 : decode cX12_relation 40 = .ok (.ireturn, 1) := by decide +kernel
abbrev cs_t_X12_relation (cB cI cJ cZ : ClassId) (h0 : Nat) (a : Nat → Nat) (f : Nat → Int32) (w : Int64) (rb rr rk : Nat → Int32) (r1 u1 n : Nat) : va_W := [(h0, .inr (13, moF a (upd (upd f 87 (nI u1)) 91 (nI r1)) w)), (a 88, .inl (cI, 400, .inl rb)), (a 89, .inl (cI, 400, .inl rr)), (a 90, .inl (cI, 400, .inl rk))]
abbrev pc_t_X12_relation (dC : Nat → ClassId) (dI : Nat → Nat → Nat) (sz : Nat) (cB cI cJ cZ : ClassId) (h0 : Nat) (a : Nat → Nat) (f : Nat → Int32) (w : Int64) (rb rr rk : Nat → Int32) (r1 u1 n : Nat) : Array Value → State → Prop := va_Pc [.ref h0, .int (nI n)] (fun U => U.heap.size = sz ∧ va_P (dC, dI) vwCl [(h0, .inr (13, moF a (upd (upd f 87 (nI u1)) 91 (nI r1)) w)), (a 88, .inl (cI, 400, .inl rb)), (a 89, .inl (cI, 400, .inl rr)), (a 90, .inl (cI, 400, .inl rk))] U.heap ∧ va_K (dC, dI) vwCl [(cB, .byte), (cI, .int), (cJ, .long), (cZ, .boolean)] U ∧ va_D (fun _ => True) [(h0, .inr (13, moF a (upd (upd f 87 (nI u1)) 91 (nI r1)) w)), (a 88, .inl (cI, 400, .inl rb)), (a 89, .inl (cI, 400, .inl rr)), (a 90, .inl (cI, 400, .inl rk))])
abbrev qc_t_X12_relation (dC : Nat → ClassId) (dI : Nat → Nat → Nat) (cB cI cJ cZ : ClassId) (h0 : Nat) (a : Nat → Nat) (f : Nat → Int32) (w : Int64) (rb rr rk : Nat → Int32) (r1 u1 n : Nat) (A : Nat → Prop) : Array Value → State → Outcome → State → Prop := va_Qi (fun (r : Int32) (u : Unit) => match u with | _ => r = nI r1) (fun (u : Unit) t_ => match u with | _ => va_P (dC, dI) vwCl [(h0, .inr (13, moF a (upd (upd f 87 (nI u1)) 91 (nI (r1 + 1))) w)), (a 88, .inl (cI, 400, .inl (upd rb r1 (nI u1)))), (a 89, .inl (cI, 400, .inl (upd rr r1 0))), (a 90, .inl (cI, 400, .inl (upd rk r1 (nI n))))] t_.heap ∧ va_K (dC, dI) vwCl [(cB, .byte), (cI, .int), (cJ, .long), (cZ, .boolean)] t_ ∧ va_D A [(h0, .inr (13, moF a (upd (upd f 87 (nI u1)) 91 (nI (r1 + 1))) w)), (a 88, .inl (cI, 400, .inl (upd rb r1 (nI u1)))), (a 89, .inl (cI, 400, .inl (upd rr r1 0))), (a 90, .inl (cI, 400, .inl (upd rk r1 (nI n))))]) A
set_option maxHeartbeats 4000000 in
set_option maxRecDepth 100000 in
theorem t_X12_relation (l : Launch) (dC : Nat → ClassId) (dI : Nat → Nat → Nat) (sz : Nat) (cB cI cJ cZ : ClassId) (h0 : Nat) (a : Nat → Nat) (f : Nat → Int32) (w : Int64) (rb rr rk : Nat → Int32) (r1 u1 n : Nat) (hr1 : r1 < 400) : Met l yX12_relation (wsOf yX12_relation cX12_relation 3 (some .int)) ({ frames := 0, cells := 0, slots := 0, locals := 0 }) (pc_t_X12_relation dC dI sz cB cI cJ cZ h0 a f w rb rr rk r1 u1 n) (qc_t_X12_relation dC dI cB cI cJ cZ h0 a f w rb rr rk r1 u1 n (va_A (cs_t_X12_relation cB cI cJ cZ h0 a f w rb rr rk r1 u1 n) sz)) 0 0 (va_A (cs_t_X12_relation cB cI cJ cZ h0 a f w rb rr rk r1 u1 n) sz) := by
  refine Met.ofW (cc := cX12_relation) (maxL := 3) (ret := (some .int)) (by decide) rfl ?_
  intro p e s m args below meth c s₁ B hml hv
  obtain ⟨rfl, hsz, hP, hK, hD0⟩ := hv
  have hx := B.exec
  have hb := B.bytes
  have hr := B.returns
  have hts := atoms_spec (ws := (wsOf yX12_relation cX12_relation 3 (some .int))) B.pre
  have hown : s.vm.findClass RX12 = some m.cls := findClass_of_methodNamed B.named
  have hlocks := B.notSynchronized
  subst hsz
  have hD := hD0.self (sz := s.heap.size)
  generalize hAe : va_A (cs_t_X12_relation cB cI cJ cZ h0 a f w rb rr rk r1 u1 n) s.heap.size = A at hD ⊢
  have hA : ∀ q : Nat, s.heap.size ≤ q → A q := fun q h => by rw [← hAe]; exact Or.inr h
  have hS : va_S A s.heap s.heap [] := va_S.rf
  have hP : va_P (dC, dI) vwCl [(h0, .inr (13, moF a (upd (upd f 87 (nI u1)) 91 (nI r1)) w)), (a 88, .inl (cI, 400, .inl rb)), (a 89, .inl (cI, 400, .inl rr)), (a 90, .inl (cI, 400, .inl rk))] s.heap := hP
  have hl := lv_entry ([.ref h0, .int (nI n)]) (n := 3) (Nat.le_of_ble_eq_true rfl)
  rw [lg_entry_eq]
  generalize (lg_sl ([.ref h0, .int (nI n)]) ++ List.replicate (3 - (lg_sl ([.ref h0, .int (nI n)])).length) Slot.unset).toArray = ls at hl ⊢
  have hl : lv_has ls 3 [(0, .ref h0), (1, .int (nI n))] := hl
  refine lv_aload_n hx hb dX12_relation_0 rfl (lv_at hl 0 rfl) ?_
  refine va_get (D := (dC, dI)) (ci := 13) (v := .int (nI r1)) (C := RX12) (T := TX12) (N := 115) hx hb hts (fun w h => List.mem_cons_of_mem _ (uG_X12 w h)) hown hK hP 0 rfl rfl 91 (by decide) (hts _ (List.mem_cons_of_mem _ kw_1782)) (fun _ h9 => h9) rfl dX12_relation_1 ?_
  refine lv_istore_n (lv' := [(2, .int (nI r1)), (0, .ref h0), (1, .int (nI n))]) hx hb dX12_relation_4 rfl hl (by decide) rfl (fun ls hl => ?_)
  refine lv_aload_n hx hb dX12_relation_5 rfl (lv_at hl 1 rfl) ?_
  refine lv_dup hx hb dX12_relation_6 rfl ?_
  refine va_get (D := (dC, dI)) (ci := 13) (v := .int (nI r1)) (C := RX12) (T := TX12) (N := 115) hx hb hts (fun w h => List.mem_cons_of_mem _ (uG_X12 w h)) hown hK hP 0 rfl rfl 91 (by decide) (hts _ (List.mem_cons_of_mem _ kw_1782)) (fun _ h9 => h9) rfl dX12_relation_7 ?_
  refine lv_iconst (v := 1) hx hb dX12_relation_10 (by decide) ?_
  refine lv_iadd hx hb dX12_relation_11 ?_
  refine lv_topi (fun x_1 ex_1 => ?_)
  have ex_1 : x_1 = nI (r1 + 1) := ex_1.trans (nI_add r1 1)
  subst ex_1
  refine va_put (D := (dC, dI)) (ci := 13) (v := .int (nI (r1 + 1))) (ty := .int) (C := RX12) (T := TX12) (N := 115) hx hb hts (fun w h => List.mem_cons_of_mem _ (uG_X12 w h)) tyX12 tyX12_ok nmX12 hown hK hP hD hS 0 rfl rfl 91 (by decide) (hts _ (List.mem_cons_of_mem _ kw_1782)) (fun _ h9 => h9) rfl (by decide +kernel) rfl rfl (Nat.le_of_ble_eq_true rfl) dX12_relation_12 (fun H locs hP hD hS => ?_)
  have hP : va_P (dC, dI) vwCl [(h0, .inr (13, moF a (upd (upd f 87 (nI u1)) 91 (nI (r1 + 1))) w)), (a 88, .inl (cI, 400, .inl rb)), (a 89, .inl (cI, 400, .inl rr)), (a 90, .inl (cI, 400, .inl rk))] H := hP
  have hD : va_D A [(h0, .inr (13, moF a (upd (upd f 87 (nI u1)) 91 (nI (r1 + 1))) w)), (a 88, .inl (cI, 400, .inl rb)), (a 89, .inl (cI, 400, .inl rr)), (a 90, .inl (cI, 400, .inl rk))] := hD
  refine lv_aload_n hx hb dX12_relation_15 rfl (lv_at hl 1 rfl) ?_
  refine va_get (D := (dC, dI)) (ci := 13) (v := .ref (a 88)) (C := RX12) (T := TX12) (N := 115) hx hb hts (fun w h => List.mem_cons_of_mem _ (uG_X12 w h)) hown hK hP 0 rfl rfl 88 (by decide) (hts _ (List.mem_cons_of_mem _ kw_1779)) (fun _ h9 => h9) rfl dX12_relation_16 ?_
  refine lv_iload_n hx hb dX12_relation_19 rfl (lv_at hl 0 rfl) ?_
  refine lv_aload_n hx hb dX12_relation_20 rfl (lv_at hl 1 rfl) ?_
  refine va_get (D := (dC, dI)) (ci := 13) (v := .int (nI u1)) (C := RX12) (T := TX12) (N := 115) hx hb hts (fun w h => List.mem_cons_of_mem _ (uG_X12 w h)) hown hK hP 0 rfl rfl 87 (by decide) (hts _ (List.mem_cons_of_mem _ kw_1778)) (fun _ h9 => h9) rfl dX12_relation_21 ?_
  refine va_iast hx hb hK hP hD hS 1 1 rfl rfl (i := (nI r1)) (x := (nI u1)) (vp_in_nI (n := r1) (N := 400) (by omega) (by omega)) dX12_relation_24 (fun H locs hP hD hS => ?_)
  rw [show (nI r1).toNatClampNeg = r1 from nI_clamp (n := r1) (by omega)] at hP hD
  have hP : va_P (dC, dI) vwCl [(h0, .inr (13, moF a (upd (upd f 87 (nI u1)) 91 (nI (r1 + 1))) w)), (a 88, .inl (cI, 400, .inl (upd rb r1 (nI u1)))), (a 89, .inl (cI, 400, .inl rr)), (a 90, .inl (cI, 400, .inl rk))] H := hP
  have hD : va_D A [(h0, .inr (13, moF a (upd (upd f 87 (nI u1)) 91 (nI (r1 + 1))) w)), (a 88, .inl (cI, 400, .inl (upd rb r1 (nI u1)))), (a 89, .inl (cI, 400, .inl rr)), (a 90, .inl (cI, 400, .inl rk))] := hD
  refine lv_aload_n hx hb dX12_relation_25 rfl (lv_at hl 1 rfl) ?_
  refine va_get (D := (dC, dI)) (ci := 13) (v := .ref (a 89)) (C := RX12) (T := TX12) (N := 115) hx hb hts (fun w h => List.mem_cons_of_mem _ (uG_X12 w h)) hown hK hP 0 rfl rfl 89 (by decide) (hts _ (List.mem_cons_of_mem _ kw_1780)) (fun _ h9 => h9) rfl dX12_relation_26 ?_
  refine lv_iload_n hx hb dX12_relation_29 rfl (lv_at hl 0 rfl) ?_
  refine lv_iconst (v := 0) hx hb dX12_relation_30 (by decide) ?_
  refine va_iast hx hb hK hP hD hS 2 1 rfl rfl (i := (nI r1)) (x := 0) (vp_in_nI (n := r1) (N := 400) (by omega) (by omega)) dX12_relation_31 (fun H locs hP hD hS => ?_)
  rw [show (nI r1).toNatClampNeg = r1 from nI_clamp (n := r1) (by omega)] at hP hD
  have hP : va_P (dC, dI) vwCl [(h0, .inr (13, moF a (upd (upd f 87 (nI u1)) 91 (nI (r1 + 1))) w)), (a 88, .inl (cI, 400, .inl (upd rb r1 (nI u1)))), (a 89, .inl (cI, 400, .inl (upd rr r1 0))), (a 90, .inl (cI, 400, .inl rk))] H := hP
  have hD : va_D A [(h0, .inr (13, moF a (upd (upd f 87 (nI u1)) 91 (nI (r1 + 1))) w)), (a 88, .inl (cI, 400, .inl (upd rb r1 (nI u1)))), (a 89, .inl (cI, 400, .inl (upd rr r1 0))), (a 90, .inl (cI, 400, .inl rk))] := hD
  refine lv_aload_n hx hb dX12_relation_32 rfl (lv_at hl 1 rfl) ?_
  refine va_get (D := (dC, dI)) (ci := 13) (v := .ref (a 90)) (C := RX12) (T := TX12) (N := 115) hx hb hts (fun w h => List.mem_cons_of_mem _ (uG_X12 w h)) hown hK hP 0 rfl rfl 90 (by decide) (hts _ (List.mem_cons_of_mem _ kw_1781)) (fun _ h9 => h9) rfl dX12_relation_33 ?_
  refine lv_iload_n hx hb dX12_relation_36 rfl (lv_at hl 0 rfl) ?_
  refine lv_iload_n hx hb dX12_relation_37 rfl (lv_at hl 2 rfl) ?_
  refine va_iast hx hb hK hP hD hS 3 1 rfl rfl (i := (nI r1)) (x := (nI n)) (vp_in_nI (n := r1) (N := 400) (by omega) (by omega)) dX12_relation_38 (fun H locs hP hD hS => ?_)
  rw [show (nI r1).toNatClampNeg = r1 from nI_clamp (n := r1) (by omega)] at hP hD
  have hP : va_P (dC, dI) vwCl [(h0, .inr (13, moF a (upd (upd f 87 (nI u1)) 91 (nI (r1 + 1))) w)), (a 88, .inl (cI, 400, .inl (upd rb r1 (nI u1)))), (a 89, .inl (cI, 400, .inl (upd rr r1 0))), (a 90, .inl (cI, 400, .inl (upd rk r1 (nI n))))] H := hP
  have hD : va_D A [(h0, .inr (13, moF a (upd (upd f 87 (nI u1)) 91 (nI (r1 + 1))) w)), (a 88, .inl (cI, 400, .inl (upd rb r1 (nI u1)))), (a 89, .inl (cI, 400, .inl (upd rr r1 0))), (a 90, .inl (cI, 400, .inl (upd rk r1 (nI n))))] := hD
  refine lv_iload_n hx hb dX12_relation_39 rfl (lv_at hl 0 rfl) ?_
  have hP9 := hP.sub (ws' := [(h0, .inr (13, moF a (upd (upd f 87 (nI u1)) 91 (nI (r1 + 1))) w)), (a 88, .inl (cI, 400, .inl (upd rb r1 (nI u1)))), (a 89, .inl (cI, 400, .inl (upd rr r1 0))), (a 90, .inl (cI, 400, .inl (upd rk r1 (nI n))))]) [0, 1, 2, 3] rfl
  have hD9 := hD.sub (ws' := [(h0, .inr (13, moF a (upd (upd f 87 (nI u1)) 91 (nI (r1 + 1))) w)), (a 88, .inl (cI, 400, .inl (upd rb r1 (nI u1)))), (a 89, .inl (cI, 400, .inl (upd rr r1 0))), (a 90, .inl (cI, 400, .inl (upd rk r1 (nI n))))]) [0, 1, 2, 3] (by decide) rfl
  have hK9 := hK.sub (tys' := [(cB, .byte), (cI, .int), (cJ, .long), (cZ, .boolean)]) [0, 1, 2, 3] rfl
  exact W.iret (v := (nI r1)) hx hb hr (fun t_ ht hW => ⟨⟨(nI r1), (), rfl, rfl, by rw [ht]; exact hP9, va_K.moved hW.alike hK9, hD9⟩, hS.F ht⟩) hS.2.2 dX12_relation_40
theorem dX12_nothing0_0 : decode cX12_nothing0 0 = .ok (.aload_n 0, 1) := by decide +kernel
theorem dX12_nothing0_1 : decode cX12_nothing0 1 = .ok (.iconst 1, 1) := by decide +kernel
theorem dX12_nothing0_2 : decode cX12_nothing0 2 = .ok (.putfield 604, 3) := by decide +kernel
theorem dX12_nothing0_5 : decode cX12_nothing0 5 = .ok (.lconst 0, 1) := by decide +kernel
theorem dX12_nothing0_6 : decode cX12_nothing0 6 = .ok (.lreturn, 1) := by decide +kernel
abbrev cs_t_X12_nothing0 (cB cI cJ cZ : ClassId) (h0 : Nat) (a : Nat → Nat) (f : Nat → Int32) (w : Int64) : va_W := [(h0, .inr (13, moF a f w))]
abbrev pc_t_X12_nothing0 (dC : Nat → ClassId) (dI : Nat → Nat → Nat) (sz : Nat) (cB cI cJ cZ : ClassId) (h0 : Nat) (a : Nat → Nat) (f : Nat → Int32) (w : Int64) : Array Value → State → Prop := va_Pc [.ref h0] (fun U => U.heap.size = sz ∧ va_P (dC, dI) vwCl [(h0, .inr (13, moF a f w))] U.heap ∧ va_K (dC, dI) vwCl [(cB, .byte), (cI, .int), (cJ, .long), (cZ, .boolean)] U ∧ va_D (fun _ => True) [(h0, .inr (13, moF a f w))])
abbrev qc_t_X12_nothing0 (dC : Nat → ClassId) (dI : Nat → Nat → Nat) (cB cI cJ cZ : ClassId) (h0 : Nat) (a : Nat → Nat) (f : Nat → Int32) (w : Int64) (A : Nat → Prop) : Array Value → State → Outcome → State → Prop := va_Ql (fun (r : Int64) (u : Unit) => match u with | _ => r = 0) (fun (u : Unit) t_ => match u with | _ => va_P (dC, dI) vwCl [(h0, .inr (13, moF a (upd f 92 1) w))] t_.heap ∧ va_K (dC, dI) vwCl [(cB, .byte), (cI, .int), (cJ, .long), (cZ, .boolean)] t_ ∧ va_D A [(h0, .inr (13, moF a (upd f 92 1) w))]) A
set_option maxHeartbeats 4000000 in
set_option maxRecDepth 100000 in
theorem t_X12_nothing0 (l : Launch) (dC : Nat → ClassId) (dI : Nat → Nat → Nat) (sz : Nat) (cB cI cJ cZ : ClassId) (h0 : Nat) (a : Nat → Nat) (f : Nat → Int32) (w : Int64)  : Met l yX12_nothing0 (wsOf yX12_nothing0 cX12_nothing0 1 (some .long)) ({ frames := 0, cells := 0, slots := 0, locals := 0 }) (pc_t_X12_nothing0 dC dI sz cB cI cJ cZ h0 a f w) (qc_t_X12_nothing0 dC dI cB cI cJ cZ h0 a f w (va_A (cs_t_X12_nothing0 cB cI cJ cZ h0 a f w) sz)) 0 0 (va_A (cs_t_X12_nothing0 cB cI cJ cZ h0 a f w) sz) := by
  refine Met.ofW (cc := cX12_nothing0) (maxL := 1) (ret := (some .long)) (by decide) rfl ?_
  intro p e s m args below meth c s₁ B hml hv
  obtain ⟨rfl, hsz, hP, hK, hD0⟩ := hv
  have hx := B.exec
  have hb := B.bytes
  have hr := B.returns
  have hts := atoms_spec (ws := (wsOf yX12_nothing0 cX12_nothing0 1 (some .long))) B.pre
  have hown : s.vm.findClass RX12 = some m.cls := findClass_of_methodNamed B.named
  have hlocks := B.notSynchronized
  subst hsz
  have hD := hD0.self (sz := s.heap.size)
  generalize hAe : va_A (cs_t_X12_nothing0 cB cI cJ cZ h0 a f w) s.heap.size = A at hD ⊢
  have hA : ∀ q : Nat, s.heap.size ≤ q → A q := fun q h => by rw [← hAe]; exact Or.inr h
  have hS : va_S A s.heap s.heap [] := va_S.rf
  have hP : va_P (dC, dI) vwCl [(h0, .inr (13, moF a f w))] s.heap := hP
  have hl := lv_entry ([.ref h0]) (n := 1) (Nat.le_of_ble_eq_true rfl)
  rw [lg_entry_eq]
  generalize (lg_sl ([.ref h0]) ++ List.replicate (1 - (lg_sl ([.ref h0])).length) Slot.unset).toArray = ls at hl ⊢
  have hl : lv_has ls 1 [(0, .ref h0)] := hl
  refine lv_aload_n hx hb dX12_nothing0_0 rfl (lv_at hl 0 rfl) ?_
  refine lv_iconst (v := 1) hx hb dX12_nothing0_1 (by decide) ?_
  refine va_put (D := (dC, dI)) (ci := 13) (v := .int 1) (ty := .boolean) (C := RX12) (T := TX12) (N := 115) hx hb hts (fun w h => List.mem_cons_of_mem _ (uG_X12 w h)) tyX12 tyX12_ok nmX12 hown hK hP hD hS 0 rfl rfl 92 (by decide) (hts _ (List.mem_cons_of_mem _ kw_1783)) (fun _ h9 => h9) rfl (by decide +kernel) rfl rfl (Nat.le_of_ble_eq_true rfl) dX12_nothing0_2 (fun H locs hP hD hS => ?_)
  have hP : va_P (dC, dI) vwCl [(h0, .inr (13, moF a (upd f 92 1) w))] H := hP
  have hD : va_D A [(h0, .inr (13, moF a (upd f 92 1) w))] := hD
  refine lv_lconst (v := 0) hx hb dX12_nothing0_5 (by decide) ?_
  have hP9 := hP.sub (ws' := [(h0, .inr (13, moF a (upd f 92 1) w))]) [0] rfl
  have hD9 := hD.sub (ws' := [(h0, .inr (13, moF a (upd f 92 1) w))]) [0] (by decide) rfl
  have hK9 := hK.sub (tys' := [(cB, .byte), (cI, .int), (cJ, .long), (cZ, .boolean)]) [0, 1, 2, 3] rfl
  exact W.lret (v := 0) hx hb hr (fun t_ ht hW => ⟨⟨0, (), rfl, rfl, by rw [ht]; exact hP9, va_K.moved hW.alike hK9, hD9⟩, hS.F ht⟩) hS.2.2 dX12_nothing0_6
theorem dX12_some_0 : decode cX12_some 0 = .ok (.aload_n 0, 1) := by decide +kernel
theorem dX12_some_1 : decode cX12_some 1 = .ok (.iconst 0, 1) := by decide +kernel
theorem dX12_some_2 : decode cX12_some 2 = .ok (.putfield 604, 3) := by decide +kernel
theorem dX12_some_5 : decode cX12_some 5 = .ok (.lload_n 1, 1) := by decide +kernel
theorem dX12_some_6 : decode cX12_some 6 = .ok (.lreturn, 1) := by decide +kernel
abbrev cs_t_X12_some (cB cI cJ cZ : ClassId) (h0 : Nat) (a : Nat → Nat) (f : Nat → Int32) (w : Int64) (v : Int64) : va_W := [(h0, .inr (13, moF a f w))]
abbrev pc_t_X12_some (dC : Nat → ClassId) (dI : Nat → Nat → Nat) (sz : Nat) (cB cI cJ cZ : ClassId) (h0 : Nat) (a : Nat → Nat) (f : Nat → Int32) (w : Int64) (v : Int64) : Array Value → State → Prop := va_Pc [.ref h0, .long v] (fun U => U.heap.size = sz ∧ va_P (dC, dI) vwCl [(h0, .inr (13, moF a f w))] U.heap ∧ va_K (dC, dI) vwCl [(cB, .byte), (cI, .int), (cJ, .long), (cZ, .boolean)] U ∧ va_D (fun _ => True) [(h0, .inr (13, moF a f w))])
abbrev qc_t_X12_some (dC : Nat → ClassId) (dI : Nat → Nat → Nat) (cB cI cJ cZ : ClassId) (h0 : Nat) (a : Nat → Nat) (f : Nat → Int32) (w : Int64) (v : Int64) (A : Nat → Prop) : Array Value → State → Outcome → State → Prop := va_Ql (fun (r : Int64) (u : Unit) => match u with | _ => r = v) (fun (u : Unit) t_ => match u with | _ => va_P (dC, dI) vwCl [(h0, .inr (13, moF a (upd f 92 0) w))] t_.heap ∧ va_K (dC, dI) vwCl [(cB, .byte), (cI, .int), (cJ, .long), (cZ, .boolean)] t_ ∧ va_D A [(h0, .inr (13, moF a (upd f 92 0) w))]) A
set_option maxHeartbeats 4000000 in
set_option maxRecDepth 100000 in
theorem t_X12_some (l : Launch) (dC : Nat → ClassId) (dI : Nat → Nat → Nat) (sz : Nat) (cB cI cJ cZ : ClassId) (h0 : Nat) (a : Nat → Nat) (f : Nat → Int32) (w : Int64) (v : Int64)  : Met l yX12_some (wsOf yX12_some cX12_some 3 (some .long)) ({ frames := 0, cells := 0, slots := 0, locals := 0 }) (pc_t_X12_some dC dI sz cB cI cJ cZ h0 a f w v) (qc_t_X12_some dC dI cB cI cJ cZ h0 a f w v (va_A (cs_t_X12_some cB cI cJ cZ h0 a f w v) sz)) 0 0 (va_A (cs_t_X12_some cB cI cJ cZ h0 a f w v) sz) := by
  refine Met.ofW (cc := cX12_some) (maxL := 3) (ret := (some .long)) (by decide) rfl ?_
  intro p e s m args below meth c s₁ B hml hv
  obtain ⟨rfl, hsz, hP, hK, hD0⟩ := hv
  have hx := B.exec
  have hb := B.bytes
  have hr := B.returns
  have hts := atoms_spec (ws := (wsOf yX12_some cX12_some 3 (some .long))) B.pre
  have hown : s.vm.findClass RX12 = some m.cls := findClass_of_methodNamed B.named
  have hlocks := B.notSynchronized
  subst hsz
  have hD := hD0.self (sz := s.heap.size)
  generalize hAe : va_A (cs_t_X12_some cB cI cJ cZ h0 a f w v) s.heap.size = A at hD ⊢
  have hA : ∀ q : Nat, s.heap.size ≤ q → A q := fun q h => by rw [← hAe]; exact Or.inr h
  have hS : va_S A s.heap s.heap [] := va_S.rf
  have hP : va_P (dC, dI) vwCl [(h0, .inr (13, moF a f w))] s.heap := hP
  have hl := lv_entry ([.ref h0, .long v]) (n := 3) (Nat.le_of_ble_eq_true rfl)
  rw [lg_entry_eq]
  generalize (lg_sl ([.ref h0, .long v]) ++ List.replicate (3 - (lg_sl ([.ref h0, .long v])).length) Slot.unset).toArray = ls at hl ⊢
  have hl : lv_has ls 3 [(0, .ref h0), (1, .long v)] := hl
  refine lv_aload_n hx hb dX12_some_0 rfl (lv_at hl 0 rfl) ?_
  refine lv_iconst (v := 0) hx hb dX12_some_1 (by decide) ?_
  refine va_put (D := (dC, dI)) (ci := 13) (v := .int 0) (ty := .boolean) (C := RX12) (T := TX12) (N := 115) hx hb hts (fun w h => List.mem_cons_of_mem _ (uG_X12 w h)) tyX12 tyX12_ok nmX12 hown hK hP hD hS 0 rfl rfl 92 (by decide) (hts _ (List.mem_cons_of_mem _ kw_1783)) (fun _ h9 => h9) rfl (by decide +kernel) rfl rfl (Nat.le_of_ble_eq_true rfl) dX12_some_2 (fun H locs hP hD hS => ?_)
  have hP : va_P (dC, dI) vwCl [(h0, .inr (13, moF a (upd f 92 0) w))] H := hP
  have hD : va_D A [(h0, .inr (13, moF a (upd f 92 0) w))] := hD
  refine lv_lload_n hx hb dX12_some_5 rfl (lv_at hl 1 rfl) ?_
  have hP9 := hP.sub (ws' := [(h0, .inr (13, moF a (upd f 92 0) w))]) [0] rfl
  have hD9 := hD.sub (ws' := [(h0, .inr (13, moF a (upd f 92 0) w))]) [0] (by decide) rfl
  have hK9 := hK.sub (tys' := [(cB, .byte), (cI, .int), (cJ, .long), (cZ, .boolean)]) [0, 1, 2, 3] rfl
  exact W.lret (v := v) hx hb hr (fun t_ ht hW => ⟨⟨v, (), rfl, rfl, by rw [ht]; exact hP9, va_K.moved hW.alike hK9, hD9⟩, hS.F ht⟩) hS.2.2 dX12_some_6
theorem dX12_copy_0 : decode cX12_copy 0 = .ok (.iconst 0, 1) := by decide +kernel
theorem dX12_copy_1 : decode cX12_copy 1 = .ok (.istore 4, 2) := by decide +kernel
theorem dX12_copy_3 : decode cX12_copy 3 = .ok (.iload 4, 2) := by decide +kernel
theorem dX12_copy_5 : decode cX12_copy 5 = .ok (.iload_n 3, 1) := by decide +kernel
theorem dX12_copy_6 : decode cX12_copy 6 = .ok (.if_icmp .ge 45, 3) := by decide +kernel
theorem dX12_copy_9 : decode cX12_copy 9 = .ok (.aload_n 0, 1) := by decide +kernel
theorem dX12_copy_10 : decode cX12_copy 10 = .ok (.getfield 194, 3) := by decide +kernel
theorem dX12_copy_13 : decode cX12_copy 13 = .ok (.iload_n 2, 1) := by decide +kernel
theorem dX12_copy_14 : decode cX12_copy 14 = .ok (.iload 4, 2) := by decide +kernel
theorem dX12_copy_16 : decode cX12_copy 16 = .ok (.iadd, 1) := by decide +kernel
theorem dX12_copy_17 : decode cX12_copy 17 = .ok (.aload_n 0, 1) := by decide +kernel
theorem dX12_copy_18 : decode cX12_copy 18 = .ok (.getfield 194, 3) := by decide +kernel
theorem dX12_copy_21 : decode cX12_copy 21 = .ok (.iload_n 1, 1) := by decide +kernel
theorem dX12_copy_22 : decode cX12_copy 22 = .ok (.iload 4, 2) := by decide +kernel
theorem dX12_copy_24 : decode cX12_copy 24 = .ok (.iadd, 1) := by decide +kernel
theorem dX12_copy_25 : decode cX12_copy 25 = .ok (.laload, 1) := by decide +kernel
theorem dX12_copy_26 : decode cX12_copy 26 = .ok (.lastore, 1) := by decide +kernel
theorem dX12_copy_27 : decode cX12_copy 27 = .ok (.aload_n 0, 1) := by decide +kernel
theorem dX12_copy_28 : decode cX12_copy 28 = .ok (.getfield 197, 3) := by decide +kernel
theorem dX12_copy_31 : decode cX12_copy 31 = .ok (.iload_n 2, 1) := by decide +kernel
theorem dX12_copy_32 : decode cX12_copy 32 = .ok (.iload 4, 2) := by decide +kernel
theorem dX12_copy_34 : decode cX12_copy 34 = .ok (.iadd, 1) := by decide +kernel
theorem dX12_copy_35 : decode cX12_copy 35 = .ok (.aload_n 0, 1) := by decide +kernel
theorem dX12_copy_36 : decode cX12_copy 36 = .ok (.getfield 197, 3) := by decide +kernel
theorem dX12_copy_39 : decode cX12_copy 39 = .ok (.iload_n 1, 1) := by decide +kernel
theorem dX12_copy_40 : decode cX12_copy 40 = .ok (.iload 4, 2) := by decide +kernel
theorem dX12_copy_42 : decode cX12_copy 42 = .ok (.iadd, 1) := by decide +kernel
theorem dX12_copy_43 : decode cX12_copy 43 = .ok (.baload, 1) := by decide +kernel
theorem dX12_copy_44 : decode cX12_copy 44 = .ok (.bastore, 1) := by decide +kernel
theorem dX12_copy_45 : decode cX12_copy 45 = .ok (.iinc 4 1, 3) := by decide +kernel
theorem dX12_copy_48 : decode cX12_copy 48 = .ok (.goto (-45), 3) := by decide +kernel
theorem dX12_copy_51 : decode cX12_copy 51 = .ok (.return_, 1) := by decide +kernel
abbrev cs_t_X12_copy (cB cI cJ cZ : ClassId) (h0 : Nat) (a : Nat → Nat) (f : Nat → Int32) (w : Int64) (g : Nat → Int64) (z : Nat → Int32) (f1 t1 w1 : Nat) : va_W := [(h0, .inr (13, moF a f w)), (a 85, .inl (cJ, 400000, .inr (.inl g))), (a 86, .inl (cZ, 400000, .inl z))]
abbrev pc_t_X12_copy (dC : Nat → ClassId) (dI : Nat → Nat → Nat) (sz : Nat) (cB cI cJ cZ : ClassId) (h0 : Nat) (a : Nat → Nat) (f : Nat → Int32) (w : Int64) (g : Nat → Int64) (z : Nat → Int32) (f1 t1 w1 : Nat) : Array Value → State → Prop := va_Pc [.ref h0, .int (nI f1), .int (nI t1), .int (nI w1)] (fun U => U.heap.size = sz ∧ va_P (dC, dI) vwCl [(h0, .inr (13, moF a f w)), (a 85, .inl (cJ, 400000, .inr (.inl g))), (a 86, .inl (cZ, 400000, .inl z))] U.heap ∧ va_K (dC, dI) vwCl [(cB, .byte), (cI, .int), (cJ, .long), (cZ, .boolean)] U ∧ va_D (fun _ => True) [(h0, .inr (13, moF a f w)), (a 85, .inl (cJ, 400000, .inr (.inl g))), (a 86, .inl (cZ, 400000, .inl z))])
abbrev qc_t_X12_copy (dC : Nat → ClassId) (dI : Nat → Nat → Nat) (cB cI cJ cZ : ClassId) (h0 : Nat) (a : Nat → Nat) (f : Nat → Int32) (w : Int64) (g : Nat → Int64) (z : Nat → Int32) (f1 t1 w1 : Nat) (A : Nat → Prop) : Array Value → State → Outcome → State → Prop := va_Qv (fun (u : Unit) => match u with | _ => True) (fun (u : Unit) t_ => match u with | _ => va_P (dC, dI) vwCl [(h0, .inr (13, moF a f w)), (a 85, .inl (cJ, 400000, .inr (.inl (va_cpy g g f1 t1 w1)))), (a 86, .inl (cZ, 400000, .inl (va_cpy z z f1 t1 w1)))] t_.heap ∧ va_K (dC, dI) vwCl [(cB, .byte), (cI, .int), (cJ, .long), (cZ, .boolean)] t_ ∧ va_D A [(h0, .inr (13, moF a f w)), (a 85, .inl (cJ, 400000, .inr (.inl (va_cpy g g f1 t1 w1)))), (a 86, .inl (cZ, 400000, .inl (va_cpy z z f1 t1 w1)))]) A
set_option maxHeartbeats 4000000 in
set_option maxRecDepth 100000 in
theorem t_X12_copy (l : Launch) (dC : Nat → ClassId) (dI : Nat → Nat → Nat) (sz : Nat) (cB cI cJ cZ : ClassId) (h0 : Nat) (a : Nat → Nat) (f : Nat → Int32) (w : Int64) (g : Nat → Int64) (z : Nat → Int32) (f1 t1 w1 : Nat) (hz : ∀ j, vp_nar .boolean (z j) = z j) (hft : f1 + w1 ≤ t1) (ht : t1 + w1 ≤ 400000) : Met l yX12_copy (wsOf yX12_copy cX12_copy 5 none) ({ frames := 0, cells := 0, slots := 0, locals := 0 }) (pc_t_X12_copy dC dI sz cB cI cJ cZ h0 a f w g z f1 t1 w1) (qc_t_X12_copy dC dI cB cI cJ cZ h0 a f w g z f1 t1 w1 (va_A (cs_t_X12_copy cB cI cJ cZ h0 a f w g z f1 t1 w1) sz)) 0 0 (va_A (cs_t_X12_copy cB cI cJ cZ h0 a f w g z f1 t1 w1) sz) := by
  refine Met.ofW (cc := cX12_copy) (maxL := 5) (ret := none) (by decide) rfl ?_
  intro p e s m args below meth c s₁ B hml hv
  obtain ⟨rfl, hsz, hP, hK, hD0⟩ := hv
  have hx := B.exec
  have hb := B.bytes
  have hr := B.returns
  have hts := atoms_spec (ws := (wsOf yX12_copy cX12_copy 5 none)) B.pre
  have hown : s.vm.findClass RX12 = some m.cls := findClass_of_methodNamed B.named
  have hlocks := B.notSynchronized
  subst hsz
  have hD := hD0.self (sz := s.heap.size)
  generalize hAe : va_A (cs_t_X12_copy cB cI cJ cZ h0 a f w g z f1 t1 w1) s.heap.size = A at hD ⊢
  have hA : ∀ q : Nat, s.heap.size ≤ q → A q := fun q h => by rw [← hAe]; exact Or.inr h
  have hS : va_S A s.heap s.heap [] := va_S.rf
  have hP : va_P (dC, dI) vwCl [(h0, .inr (13, moF a f w)), (a 85, .inl (cJ, 400000, .inr (.inl g))), (a 86, .inl (cZ, 400000, .inl z))] s.heap := hP
  have hl := lv_entry ([.ref h0, .int (nI f1), .int (nI t1), .int (nI w1)]) (n := 5) (Nat.le_of_ble_eq_true rfl)
  rw [lg_entry_eq]
  generalize (lg_sl ([.ref h0, .int (nI f1), .int (nI t1), .int (nI w1)]) ++ List.replicate (5 - (lg_sl ([.ref h0, .int (nI f1), .int (nI t1), .int (nI w1)])).length) Slot.unset).toArray = ls at hl ⊢
  have hl : lv_has ls 5 [(0, .ref h0), (1, .int (nI f1)), (2, .int (nI t1)), (3, .int (nI w1))] := hl
  have hP : va_P (dC, dI) vwCl [(h0, .inr (13, moF a f w)), (a 85, .inl (cJ, 400000, .inr (.inl (va_cpy g g f1 t1 0)))), (a 86, .inl (cZ, 400000, .inl (va_cpy z z f1 t1 0)))] s.heap := by rw [cpy0L, cpy0T]; exact hP
  have hD : va_D A [(h0, .inr (13, moF a f w)), (a 85, .inl (cJ, 400000, .inr (.inl (va_cpy g g f1 t1 0)))), (a 86, .inl (cZ, 400000, .inl (va_cpy z z f1 t1 0)))] := by rw [cpy0L, cpy0T]; exact hD
  refine lv_iconst (v := 0) hx hb dX12_copy_0 (by decide) ?_
  refine lv_istore (lv' := [(4, .int 0), (0, .ref h0), (1, .int (nI f1)), (2, .int (nI t1)), (3, .int (nI w1))]) hx hb dX12_copy_1 hl (by decide) rfl (fun ls hl => ?_)
  have lp_3 : ∀ (n_ : Nat) (k : Nat), k ≤ w1 → w1 - k < n_ → ∀ (H : Heap) (locs : List Loc) (ls : Array Slot), va_P (dC, dI) vwCl [(h0, .inr (13, moF a f w)), (a 85, .inl (cJ, 400000, .inr (.inl (va_cpy g g f1 t1 k)))), (a 86, .inl (cZ, 400000, .inl (va_cpy z z f1 t1 k)))] H → va_D A [(h0, .inr (13, moF a f w)), (a 85, .inl (cJ, 400000, .inr (.inl (va_cpy g g f1 t1 k)))), (a 86, .inl (cZ, 400000, .inl (va_cpy z z f1 t1 k)))] → va_S A s.heap H locs → lv_has ls 5 [(4, .int (nI k)), (0, .ref h0), (1, .int (nI f1)), (2, .int (nI t1)), (3, .int (nI w1))] → W p l e (headSpec (wsOf yX12_copy cX12_copy 5 none) ({ frames := 0, cells := 0, slots := 0, locals := 0 })).room s m ([.ref h0, .int (nI f1), .int (nI t1), .int (nI w1)] : List Value).toArray below meth c H locs 0 0 (MQ below (qc_t_X12_copy dC dI cB cI cJ cZ h0 a f w g z f1 t1 w1 A) ([.ref h0, .int (nI f1), .int (nI t1), .int (nI w1)] : List Value).toArray s 0 0 A) (F0 m 3 ls []) := by
    intro n_
    induction n_ with
    | zero => intro k hk hm; exact absurd hm (Nat.not_lt_zero _)
    | succ n_ ih_3 =>
      intro k hk hm H locs ls hP hD hS hl
      refine lv_iload hx hb dX12_copy_3 (lv_at hl 0 rfl) ?_
      refine lv_iload_n hx hb dX12_copy_5 rfl (lv_at hl 4 rfl) ?_
      refine lv_icmp_ge (tgt := 51) hx hb dX12_copy_6 (by decide) (fun c_1 => ?_) (fun c_1 => ?_)
      · skip
        have c_1 : w1 ≤ k := (nI_leI (a := w1) (b := k) (by omega) (by omega)).mp c_1
        have ek : k = w1 := by omega
        rw [ek] at hP hD
        have hP9 := hP.sub (ws' := [(h0, .inr (13, moF a f w)), (a 85, .inl (cJ, 400000, .inr (.inl (va_cpy g g f1 t1 w1)))), (a 86, .inl (cZ, 400000, .inl (va_cpy z z f1 t1 w1)))]) [0, 1, 2] rfl
        have hD9 := hD.sub (ws' := [(h0, .inr (13, moF a f w)), (a 85, .inl (cJ, 400000, .inr (.inl (va_cpy g g f1 t1 w1)))), (a 86, .inl (cZ, 400000, .inl (va_cpy z z f1 t1 w1)))]) [0, 1, 2] (by decide) rfl
        have hK9 := hK.sub (tys' := [(cB, .byte), (cI, .int), (cJ, .long), (cZ, .boolean)]) [0, 1, 2, 3] rfl
        exact W.vret hx hb hr (fun t_ ht hW => ⟨⟨(), rfl, trivial, by rw [ht]; exact hP9, va_K.moved hW.alike hK9, hD9⟩, hS.F ht⟩) hS.2.2 dX12_copy_51
      · skip
        have c_1 : ¬ (w1 ≤ k) := fun h => c_1 ((nI_leI (a := w1) (b := k) (by omega) (by omega)).mpr h)
        refine lv_aload_n hx hb dX12_copy_9 rfl (lv_at hl 1 rfl) ?_
        refine va_get (D := (dC, dI)) (ci := 13) (v := .ref (a 85)) (C := RX12) (T := TX12) (N := 115) hx hb hts (fun w h => List.mem_cons_of_mem _ (uG_X12 w h)) hown hK hP 0 rfl rfl 85 (by decide) (hts _ (List.mem_cons_of_mem _ kw_1776)) (fun _ h9 => h9) rfl dX12_copy_10 ?_
        refine lv_iload_n hx hb dX12_copy_13 rfl (lv_at hl 3 rfl) ?_
        refine lv_iload hx hb dX12_copy_14 (lv_at hl 0 rfl) ?_
        refine lv_iadd hx hb dX12_copy_16 ?_
        refine lv_topi (fun x_2 ex_2 => ?_)
        have ex_2 : x_2 = nI (t1 + k) := ex_2.trans (nI_add t1 k)
        subst ex_2
        refine lv_aload_n hx hb dX12_copy_17 rfl (lv_at hl 1 rfl) ?_
        refine va_get (D := (dC, dI)) (ci := 13) (v := .ref (a 85)) (C := RX12) (T := TX12) (N := 115) hx hb hts (fun w h => List.mem_cons_of_mem _ (uG_X12 w h)) hown hK hP 0 rfl rfl 85 (by decide) (hts _ (List.mem_cons_of_mem _ kw_1776)) (fun _ h9 => h9) rfl dX12_copy_18 ?_
        refine lv_iload_n hx hb dX12_copy_21 rfl (lv_at hl 2 rfl) ?_
        refine lv_iload hx hb dX12_copy_22 (lv_at hl 0 rfl) ?_
        refine lv_iadd hx hb dX12_copy_24 ?_
        refine lv_topi (fun x_3 ex_3 => ?_)
        have ex_3 : x_3 = nI (f1 + k) := ex_3.trans (nI_add f1 k)
        subst ex_3
        refine va_lald hx hb hK hP 1 2 rfl rfl (i := (nI (f1 + k))) (vp_in_nI (n := f1 + k) (N := 400000) (by omega) (by omega)) dX12_copy_25 ?_
        refine lv_topl (fun x_4 ex_4 => ?_)
        have ex_4 : x_4 = (va_cpy g g f1 t1 k) (f1 + k) := ex_4.trans (congrArg (va_cpy g g f1 t1 k) (nI_clamp (n := f1 + k) (by omega)))
        subst ex_4
        refine va_last hx hb hK hP hD hS 1 2 rfl rfl (i := (nI (t1 + k))) (x := ((va_cpy g g f1 t1 k) (f1 + k))) (vp_in_nI (n := t1 + k) (N := 400000) (by omega) (by omega)) dX12_copy_26 (fun H locs hP hD hS => ?_)
        rw [show (nI (t1 + k)).toNatClampNeg = t1 + k from nI_clamp (n := t1 + k) (by omega)] at hP hD
        have hP : va_P (dC, dI) vwCl [(h0, .inr (13, moF a f w)), (a 85, .inl (cJ, 400000, .inr (.inl (vp_updL (va_cpy g g f1 t1 k) (t1 + k) ((va_cpy g g f1 t1 k) (f1 + k)))))), (a 86, .inl (cZ, 400000, .inl (va_cpy z z f1 t1 k)))] H := hP
        have hD : va_D A [(h0, .inr (13, moF a f w)), (a 85, .inl (cJ, 400000, .inr (.inl (vp_updL (va_cpy g g f1 t1 k) (t1 + k) ((va_cpy g g f1 t1 k) (f1 + k)))))), (a 86, .inl (cZ, 400000, .inl (va_cpy z z f1 t1 k)))] := hD
        refine lv_aload_n hx hb dX12_copy_27 rfl (lv_at hl 1 rfl) ?_
        refine va_get (D := (dC, dI)) (ci := 13) (v := .ref (a 86)) (C := RX12) (T := TX12) (N := 115) hx hb hts (fun w h => List.mem_cons_of_mem _ (uG_X12 w h)) hown hK hP 0 rfl rfl 86 (by decide) (hts _ (List.mem_cons_of_mem _ kw_1777)) (fun _ h9 => h9) rfl dX12_copy_28 ?_
        refine lv_iload_n hx hb dX12_copy_31 rfl (lv_at hl 3 rfl) ?_
        refine lv_iload hx hb dX12_copy_32 (lv_at hl 0 rfl) ?_
        refine lv_iadd hx hb dX12_copy_34 ?_
        refine lv_topi (fun x_5 ex_5 => ?_)
        have ex_5 : x_5 = nI (t1 + k) := ex_5.trans (nI_add t1 k)
        subst ex_5
        refine lv_aload_n hx hb dX12_copy_35 rfl (lv_at hl 1 rfl) ?_
        refine va_get (D := (dC, dI)) (ci := 13) (v := .ref (a 86)) (C := RX12) (T := TX12) (N := 115) hx hb hts (fun w h => List.mem_cons_of_mem _ (uG_X12 w h)) hown hK hP 0 rfl rfl 86 (by decide) (hts _ (List.mem_cons_of_mem _ kw_1777)) (fun _ h9 => h9) rfl dX12_copy_36 ?_
        refine lv_iload_n hx hb dX12_copy_39 rfl (lv_at hl 2 rfl) ?_
        refine lv_iload hx hb dX12_copy_40 (lv_at hl 0 rfl) ?_
        refine lv_iadd hx hb dX12_copy_42 ?_
        refine lv_topi (fun x_6 ex_6 => ?_)
        have ex_6 : x_6 = nI (f1 + k) := ex_6.trans (nI_add f1 k)
        subst ex_6
        refine va_zald hx hb hK hP 2 3 rfl rfl (i := (nI (f1 + k))) (vp_in_nI (n := f1 + k) (N := 400000) (by omega) (by omega)) dX12_copy_43 ?_
        refine lv_topi (fun x_7 ex_7 => ?_)
        have ex_7 : x_7 = (va_cpy z z f1 t1 k) (f1 + k) := ex_7.trans (congrArg (va_cpy z z f1 t1 k) (nI_clamp (n := f1 + k) (by omega)))
        subst ex_7
        refine va_zast hx hb hK hP hD hS 2 3 rfl rfl (i := (nI (t1 + k))) (x := ((va_cpy z z f1 t1 k) (f1 + k))) (vp_in_nI (n := t1 + k) (N := 400000) (by omega) (by omega)) dX12_copy_44 (fun H locs hP hD hS => ?_)
        rw [show (nI (t1 + k)).toNatClampNeg = t1 + k from nI_clamp (n := t1 + k) (by omega)] at hP hD
        have hP : va_P (dC, dI) vwCl [(h0, .inr (13, moF a f w)), (a 85, .inl (cJ, 400000, .inr (.inl (vp_updL (va_cpy g g f1 t1 k) (t1 + k) ((va_cpy g g f1 t1 k) (f1 + k)))))), (a 86, .inl (cZ, 400000, .inl (upd (va_cpy z z f1 t1 k) (t1 + k) (vp_nar .boolean ((va_cpy z z f1 t1 k) (f1 + k))))))] H := hP
        have hD : va_D A [(h0, .inr (13, moF a f w)), (a 85, .inl (cJ, 400000, .inr (.inl (vp_updL (va_cpy g g f1 t1 k) (t1 + k) ((va_cpy g g f1 t1 k) (f1 + k)))))), (a 86, .inl (cZ, 400000, .inl (upd (va_cpy z z f1 t1 k) (t1 + k) (vp_nar .boolean ((va_cpy z z f1 t1 k) (f1 + k))))))] := hD
        rw [cpyS (by omega), show vp_nar .boolean ((va_cpy z z f1 t1 k) (f1 + k)) = (va_cpy z z f1 t1 k) (f1 + k) by rw [pk_cpy_out (Or.inl (by omega))]; exact hz _, cpyT (by omega)] at hP hD
        have hP : va_P (dC, dI) vwCl [(h0, .inr (13, moF a f w)), (a 85, .inl (cJ, 400000, .inr (.inl (va_cpy g g f1 t1 (k + 1))))), (a 86, .inl (cZ, 400000, .inl (va_cpy z z f1 t1 (k + 1))))] H := hP
        have hD : va_D A [(h0, .inr (13, moF a f w)), (a 85, .inl (cJ, 400000, .inr (.inl (va_cpy g g f1 t1 (k + 1))))), (a 86, .inl (cZ, 400000, .inl (va_cpy z z f1 t1 (k + 1))))] := hD
        refine lv_iinc (v := nI (k + 1)) (lv' := [(4, .int (nI (k + 1))), (0, .ref h0), (1, .int (nI f1)), (2, .int (nI t1)), (3, .int (nI w1))]) hx hb dX12_copy_45 hl (k := 0) rfl (nI_add k 1) (by decide) rfl (fun ls hl => ?_)
        refine lv_goto (tgt := 3) hx hb dX12_copy_48 (by decide) ?_
        exact ih_3 (k + 1) (by omega) (by omega) _ _ _ (hP.sub [0, 1, 2] rfl) (hD.sub [0, 1, 2] (by decide) rfl) hS (lv_sub hl [0, 1, 2, 3, 4] rfl)
  exact lp_3 _ 0 (Nat.zero_le _) (Nat.lt_succ_self _) _ _ _ (hP.sub [0, 1, 2] rfl) (hD.sub [0, 1, 2] (by decide) rfl) hS (lv_sub hl [0, 1, 2, 3, 4] rfl)

/-! each of the sorted rows once -/
def onF (w st1 : Nat) : Nat → Nat → Nat → (Nat → Int64) → (Nat → Int32) → Nat × (Nat → Int64) × (Nat → Int32)
  | 0, _, kp, v, b => (kp, v, b)
  | f + 1, i, kp, v, b => if kp = 0 then onF w st1 f (i + 1) (kp + 1) (va_cpy v v (st1 + i * w) (st1 + kp * w) w) (va_cpy b b (st1 + i * w) (st1 + kp * w) w) else if cmF v b (st1 + (kp - 1) * w) v b (st1 + i * w) 0 w 0 = 0 then onF w st1 f (i + 1) kp v b else onF w st1 f (i + 1) (kp + 1) (va_cpy v v (st1 + i * w) (st1 + kp * w) w) (va_cpy b b (st1 + i * w) (st1 + kp * w) w)
theorem onF_0 {w st1 n9 i kp : Nat} {v : Nat → Int64} {b : Nat → Int32} (hi : i < n9) (h : kp = 0) : onF w st1 (n9 - i) i kp v b = onF w st1 (n9 - (i + 1)) (i + 1) (kp + 1) (va_cpy v v (st1 + i * w) (st1 + kp * w) w) (va_cpy b b (st1 + i * w) (st1 + kp * w) w) := by
  rw [show n9 - i = (n9 - (i + 1)) + 1 by omega]
  exact if_pos h
theorem onF_y {w st1 n9 i kp : Nat} {v : Nat → Int64} {b : Nat → Int32} (hi : i < n9) (h : ¬ kp = 0) (h2 : cmF v b (st1 + (kp - 1) * w) v b (st1 + i * w) 0 w 0 = 0) : onF w st1 (n9 - i) i kp v b = onF w st1 (n9 - (i + 1)) (i + 1) kp v b := by
  rw [show n9 - i = (n9 - (i + 1)) + 1 by omega]
  exact (if_neg h).trans (if_pos h2)
theorem onF_n {w st1 n9 i kp : Nat} {v : Nat → Int64} {b : Nat → Int32} (hi : i < n9) (h : ¬ kp = 0) (h2 : ¬ cmF v b (st1 + (kp - 1) * w) v b (st1 + i * w) 0 w 0 = 0) : onF w st1 (n9 - i) i kp v b = onF w st1 (n9 - (i + 1)) (i + 1) (kp + 1) (va_cpy v v (st1 + i * w) (st1 + kp * w) w) (va_cpy b b (st1 + i * w) (st1 + kp * w) w) := by
  rw [show n9 - i = (n9 - (i + 1)) + 1 by omega]
  exact (if_neg h).trans (if_neg h2)
theorem dX8_once_0 : decode cX8_once 0 = .ok (.iconst 0, 1) := by decide +kernel
theorem dX8_once_1 : decode cX8_once 1 = .ok (.istore 4, 2) := by decide +kernel
theorem dX8_once_3 : decode cX8_once 3 = .ok (.iconst 0, 1) := by decide +kernel
theorem dX8_once_4 : decode cX8_once 4 = .ok (.istore 5, 2) := by decide +kernel
theorem dX8_once_6 : decode cX8_once 6 = .ok (.iload 5, 2) := by decide +kernel
theorem dX8_once_8 : decode cX8_once 8 = .ok (.iload_n 2, 1) := by decide +kernel
theorem dX8_once_9 : decode cX8_once 9 = .ok (.if_icmp .ge 62, 3) := by decide +kernel
theorem dX8_once_12 : decode cX8_once 12 = .ok (.iload_n 1, 1) := by decide +kernel
theorem dX8_once_13 : decode cX8_once 13 = .ok (.iload 5, 2) := by decide +kernel
theorem dX8_once_15 : decode cX8_once 15 = .ok (.iload_n 3, 1) := by decide +kernel
theorem dX8_once_16 : decode cX8_once 16 = .ok (.imul, 1) := by decide +kernel
theorem dX8_once_17 : decode cX8_once 17 = .ok (.iadd, 1) := by decide +kernel
theorem dX8_once_18 : decode cX8_once 18 = .ok (.istore 6, 2) := by decide +kernel
theorem dX8_once_20 : decode cX8_once 20 = .ok (.iload_n 1, 1) := by decide +kernel
theorem dX8_once_21 : decode cX8_once 21 = .ok (.iload 4, 2) := by decide +kernel
theorem dX8_once_23 : decode cX8_once 23 = .ok (.iconst 1, 1) := by decide +kernel
theorem dX8_once_24 : decode cX8_once 24 = .ok (.isub, 1) := by decide +kernel
theorem dX8_once_25 : decode cX8_once 25 = .ok (.iload_n 3, 1) := by decide +kernel
theorem dX8_once_26 : decode cX8_once 26 = .ok (.imul, 1) := by decide +kernel
theorem dX8_once_27 : decode cX8_once 27 = .ok (.iadd, 1) := by decide +kernel
theorem dX8_once_28 : decode cX8_once 28 = .ok (.istore 7, 2) := by decide +kernel
theorem dX8_once_30 : decode cX8_once 30 = .ok (.iload 4, 2) := by decide +kernel
theorem dX8_once_32 : decode cX8_once 32 = .ok (.ifCond .eq 17, 3) := by decide +kernel
theorem dX8_once_35 : decode cX8_once 35 = .ok (.aload_n 0, 1) := by decide +kernel
theorem dX8_once_36 : decode cX8_once 36 = .ok (.iload 7, 2) := by decide +kernel
theorem dX8_once_38 : decode cX8_once 38 = .ok (.aload_n 0, 1) := by decide +kernel
theorem dX8_once_39 : decode cX8_once 39 = .ok (.iload 6, 2) := by decide +kernel
theorem dX8_once_41 : decode cX8_once 41 = .ok (.iload_n 3, 1) := by decide +kernel
theorem dX8_once_42 : decode cX8_once 42 = .ok (.iconst 0, 1) := by decide +kernel
theorem dX8_once_43 : decode cX8_once 43 = .ok (.invokevirtual 61, 3) := by decide +kernel
theorem dX8_once_46 : decode cX8_once 46 = .ok (.ifCond .eq 19, 3) := by decide +kernel
theorem dX8_once_49 : decode cX8_once 49 = .ok (.aload_n 0, 1) := by decide +kernel
theorem dX8_once_50 : decode cX8_once 50 = .ok (.iload 6, 2) := by decide +kernel
theorem dX8_once_52 : decode cX8_once 52 = .ok (.iload_n 1, 1) := by decide +kernel
theorem dX8_once_53 : decode cX8_once 53 = .ok (.iload 4, 2) := by decide +kernel
theorem dX8_once_55 : decode cX8_once 55 = .ok (.iload_n 3, 1) := by decide +kernel
theorem dX8_once_56 : decode cX8_once 56 = .ok (.imul, 1) := by decide +kernel
theorem dX8_once_57 : decode cX8_once 57 = .ok (.iadd, 1) := by decide +kernel
theorem dX8_once_58 : decode cX8_once 58 = .ok (.iload_n 3, 1) := by decide +kernel
theorem dX8_once_59 : decode cX8_once 59 = .ok (.invokevirtual 69, 3) := by decide +kernel
theorem dX8_once_62 : decode cX8_once 62 = .ok (.iinc 4 1, 3) := by decide +kernel
theorem dX8_once_65 : decode cX8_once 65 = .ok (.iinc 5 1, 3) := by decide +kernel
theorem dX8_once_68 : decode cX8_once 68 = .ok (.goto (-62), 3) := by decide +kernel
theorem dX8_once_71 : decode cX8_once 71 = .ok (.iload 4, 2) := by decide +kernel
theorem dX8_once_73 : decode cX8_once 73 = .ok (.ireturn, 1) := by decide +kernel
abbrev cs_t_X8_once (cB cI cJ cZ : ClassId) (h0 hV hB n : Nat) (v1 : Nat → Int64) (b1 : Nat → Int32) (wo wp : Value) (st1 sz1 w1 : Nat) : va_W := [(h0, .inr (9, [.ref hV, .ref hB, wo, wp])), (hV, .inl (cJ, n, .inr (.inl v1))), (hB, .inl (cB, n, .inl b1))]
abbrev pc_t_X8_once (dC : Nat → ClassId) (dI : Nat → Nat → Nat) (sz : Nat) (cB cI cJ cZ : ClassId) (h0 hV hB n : Nat) (v1 : Nat → Int64) (b1 : Nat → Int32) (wo wp : Value) (st1 sz1 w1 : Nat) : Array Value → State → Prop := va_Pc [.ref h0, .int (nI st1), .int (nI sz1), .int (nI w1)] (fun U => U.heap.size = sz ∧ va_P (dC, dI) vwCl [(h0, .inr (9, [.ref hV, .ref hB, wo, wp])), (hV, .inl (cJ, n, .inr (.inl v1))), (hB, .inl (cB, n, .inl b1))] U.heap ∧ va_K (dC, dI) vwCl [(cB, .byte), (cI, .int), (cJ, .long), (cZ, .boolean)] U ∧ va_D (fun _ => True) [(h0, .inr (9, [.ref hV, .ref hB, wo, wp])), (hV, .inl (cJ, n, .inr (.inl v1))), (hB, .inl (cB, n, .inl b1))])
abbrev qc_t_X8_once (dC : Nat → ClassId) (dI : Nat → Nat → Nat) (cB cI cJ cZ : ClassId) (h0 hV hB n : Nat) (v1 : Nat → Int64) (b1 : Nat → Int32) (wo wp : Value) (st1 sz1 w1 : Nat) (A : Nat → Prop) : Array Value → State → Outcome → State → Prop := va_Qi (fun (r : Int32) (u : Nat × (Nat → Int64) × (Nat → Int32)) => match u with | (k2, v2, b2) => r = nI k2 ∧ (k2, v2, b2) = onF w1 st1 sz1 0 0 v1 b1) (fun (u : Nat × (Nat → Int64) × (Nat → Int32)) t_ => match u with | (k2, v2, b2) => va_P (dC, dI) vwCl [(h0, .inr (9, [.ref hV, .ref hB, wo, wp])), (hV, .inl (cJ, n, .inr (.inl v2))), (hB, .inl (cB, n, .inl b2))] t_.heap ∧ va_K (dC, dI) vwCl [(cB, .byte), (cI, .int), (cJ, .long), (cZ, .boolean)] t_ ∧ va_D A [(h0, .inr (9, [.ref hV, .ref hB, wo, wp])), (hV, .inl (cJ, n, .inr (.inl v2))), (hB, .inl (cB, n, .inl b2))]) A
set_option maxHeartbeats 4000000 in
set_option maxRecDepth 100000 in
theorem t_X8_once (l : Launch) (dC : Nat → ClassId) (dI : Nat → Nat → Nat) (sz : Nat) (cB cI cJ cZ : ClassId) (h0 hV hB n : Nat) (v1 : Nat → Int64) (b1 : Nat → Int32) (wo wp : Value) (st1 sz1 w1 : Nat) (hn : n < 500000) (hst : st1 ≤ n) (hz : sz1 * w1 ≤ n - st1) (hsz : sz1 < 100000) (hw1 : 0 < w1) (hy : sb_Fit b1) : Met l yX8_once (wsOf yX8_once cX8_once 8 (some .int)) ({ frames := 3, cells := 0, slots := 0, locals := 180 }) (pc_t_X8_once dC dI sz cB cI cJ cZ h0 hV hB n v1 b1 wo wp st1 sz1 w1) (qc_t_X8_once dC dI cB cI cJ cZ h0 hV hB n v1 b1 wo wp st1 sz1 w1 (va_A (cs_t_X8_once cB cI cJ cZ h0 hV hB n v1 b1 wo wp st1 sz1 w1) sz)) 0 0 (va_A (cs_t_X8_once cB cI cJ cZ h0 hV hB n v1 b1 wo wp st1 sz1 w1) sz) := by
  refine Met.ofW (cc := cX8_once) (maxL := 8) (ret := (some .int)) (by decide) rfl ?_
  intro p e s m args below meth c s₁ B hml hv
  obtain ⟨rfl, hsz, hP, hK, hD0⟩ := hv
  have hx := B.exec
  have hb := B.bytes
  have hr := B.returns
  have hts := atoms_spec (ws := (wsOf yX8_once cX8_once 8 (some .int))) B.pre
  have hown : s.vm.findClass RX8 = some m.cls := findClass_of_methodNamed B.named
  have hlocks := B.notSynchronized
  subst hsz
  have hD := hD0.self (sz := s.heap.size)
  generalize hAe : va_A (cs_t_X8_once cB cI cJ cZ h0 hV hB n v1 b1 wo wp st1 sz1 w1) s.heap.size = A at hD ⊢
  have hA : ∀ q : Nat, s.heap.size ≤ q → A q := fun q h => by rw [← hAe]; exact Or.inr h
  have hS : va_S A s.heap s.heap [] := va_S.rf
  have hP : va_P (dC, dI) vwCl [(h0, .inr (9, [.ref hV, .ref hB, wo, wp])), (hV, .inl (cJ, n, .inr (.inl v1))), (hB, .inl (cB, n, .inl b1))] s.heap := hP
  have hl := lv_entry ([.ref h0, .int (nI st1), .int (nI sz1), .int (nI w1)]) (n := 8) (Nat.le_of_ble_eq_true rfl)
  rw [lg_entry_eq]
  generalize (lg_sl ([.ref h0, .int (nI st1), .int (nI sz1), .int (nI w1)]) ++ List.replicate (8 - (lg_sl ([.ref h0, .int (nI st1), .int (nI sz1), .int (nI w1)])).length) Slot.unset).toArray = ls at hl ⊢
  have hl : lv_has ls 8 [(0, .ref h0), (1, .int (nI st1)), (2, .int (nI sz1)), (3, .int (nI w1))] := hl
  refine lv_iconst (v := 0) hx hb dX8_once_0 (by decide) ?_
  refine lv_istore (lv' := [(4, .int 0), (0, .ref h0), (1, .int (nI st1)), (2, .int (nI sz1)), (3, .int (nI w1))]) hx hb dX8_once_1 hl (by decide) rfl (fun ls hl => ?_)
  refine lv_iconst (v := 0) hx hb dX8_once_3 (by decide) ?_
  refine lv_istore (lv' := [(5, .int 0), (4, .int 0), (0, .ref h0), (1, .int (nI st1)), (2, .int (nI sz1)), (3, .int (nI w1))]) hx hb dX8_once_4 hl (by decide) rfl (fun ls hl => ?_)
  have lp_6 : ∀ (n_ : Nat) (i kp : Nat) (v : Nat → Int64) (b : Nat → Int32), i ≤ sz1 → kp ≤ i → sb_Fit b → onF w1 st1 sz1 0 0 v1 b1 = onF w1 st1 (sz1 - i) i kp v b → sz1 - i < n_ → ∀ (H : Heap) (locs : List Loc) (ls : Array Slot), va_P (dC, dI) vwCl [(h0, .inr (9, [.ref hV, .ref hB, wo, wp])), (hV, .inl (cJ, n, .inr (.inl v))), (hB, .inl (cB, n, .inl b))] H → va_D A [(h0, .inr (9, [.ref hV, .ref hB, wo, wp])), (hV, .inl (cJ, n, .inr (.inl v))), (hB, .inl (cB, n, .inl b))] → va_S A s.heap H locs → lv_has ls 8 [(5, .int (nI i)), (4, .int (nI kp)), (0, .ref h0), (1, .int (nI st1)), (2, .int (nI sz1)), (3, .int (nI w1))] → W p l e (headSpec (wsOf yX8_once cX8_once 8 (some .int)) ({ frames := 3, cells := 0, slots := 0, locals := 180 })).room s m ([.ref h0, .int (nI st1), .int (nI sz1), .int (nI w1)] : List Value).toArray below meth c H locs 0 0 (MQ below (qc_t_X8_once dC dI cB cI cJ cZ h0 hV hB n v1 b1 wo wp st1 sz1 w1 A) ([.ref h0, .int (nI st1), .int (nI sz1), .int (nI w1)] : List Value).toArray s 0 0 A) (F0 m 6 ls []) := by
    intro n_
    induction n_ with
    | zero => intro i kp v b hi hk hfit hin hm; exact absurd hm (Nat.not_lt_zero _)
    | succ n_ ih_6 =>
      intro i kp v b hi hk hfit hin hm H locs ls hP hD hS hl
      refine lv_iload hx hb dX8_once_6 (lv_at hl 0 rfl) ?_
      refine lv_iload_n hx hb dX8_once_8 rfl (lv_at hl 4 rfl) ?_
      refine lv_icmp_ge (tgt := 71) hx hb dX8_once_9 (by decide) (fun c_1 => ?_) (fun c_1 => ?_)
      · skip
        have c_1 : sz1 ≤ i := (nI_leI (a := sz1) (b := i) (by omega) (by omega)).mp c_1
        refine lv_iload hx hb dX8_once_71 (lv_at hl 1 rfl) ?_
        have hP9 := hP.sub (ws' := [(h0, .inr (9, [.ref hV, .ref hB, wo, wp])), (hV, .inl (cJ, n, .inr (.inl v))), (hB, .inl (cB, n, .inl b))]) [0, 1, 2] rfl
        have hD9 := hD.sub (ws' := [(h0, .inr (9, [.ref hV, .ref hB, wo, wp])), (hV, .inl (cJ, n, .inr (.inl v))), (hB, .inl (cB, n, .inl b))]) [0, 1, 2] (by decide) rfl
        have hK9 := hK.sub (tys' := [(cB, .byte), (cI, .int), (cJ, .long), (cZ, .boolean)]) [0, 1, 2, 3] rfl
        exact W.iret (v := (nI kp)) hx hb hr (fun t_ ht hW => ⟨⟨(nI kp), (kp, v, b), rfl, ⟨rfl, (hin.trans (by rw [show sz1 - i = 0 by omega]; rfl)).symm⟩, by rw [ht]; exact hP9, va_K.moved hW.alike hK9, hD9⟩, hS.F ht⟩) hS.2.2 dX8_once_73
      · skip
        have c_1 : ¬ (sz1 ≤ i) := fun h => c_1 ((nI_leI (a := sz1) (b := i) (by omega) (by omega)).mpr h)
        refine lv_iload_n hx hb dX8_once_12 rfl (lv_at hl 3 rfl) ?_
        refine lv_iload hx hb dX8_once_13 (lv_at hl 0 rfl) ?_
        refine lv_iload_n hx hb dX8_once_15 rfl (lv_at hl 5 rfl) ?_
        refine lv_imul hx hb dX8_once_16 ?_
        refine lv_topi (fun x_2 ex_2 => ?_)
        have ex_2 : x_2 = nI (i * w1) := ex_2.trans (pk_mul i w1)
        subst ex_2
        refine lv_iadd hx hb dX8_once_17 ?_
        refine lv_topi (fun x_3 ex_3 => ?_)
        have ex_3 : x_3 = nI (st1 + (i * w1)) := ex_3.trans (nI_add st1 (i * w1))
        subst ex_3
        refine lv_istore (lv' := [(6, .int (nI (st1 + (i * w1)))), (5, .int (nI i)), (4, .int (nI kp)), (0, .ref h0), (1, .int (nI st1)), (2, .int (nI sz1)), (3, .int (nI w1))]) hx hb dX8_once_18 hl (by decide) rfl (fun ls hl => ?_)
        refine lv_iload_n hx hb dX8_once_20 rfl (lv_at hl 4 rfl) ?_
        refine lv_iload hx hb dX8_once_21 (lv_at hl 2 rfl) ?_
        refine lv_iconst (v := 1) hx hb dX8_once_23 (by decide) ?_
        refine lv_isub hx hb dX8_once_24 ?_
        refine lv_topi (fun x_4 ex_4 => ?_)
        have ex_4 : x_4 = nI kp - 1 := by exact ex_4
        subst ex_4
        refine lv_iload_n hx hb dX8_once_25 rfl (lv_at hl 6 rfl) ?_
        refine lv_imul hx hb dX8_once_26 ?_
        refine lv_iadd hx hb dX8_once_27 ?_
        refine lv_istore (lv' := [(7, .int ((nI st1) + ((nI kp - 1) * (nI w1)))), (6, .int (nI (st1 + (i * w1)))), (5, .int (nI i)), (4, .int (nI kp)), (0, .ref h0), (1, .int (nI st1)), (2, .int (nI sz1)), (3, .int (nI w1))]) hx hb dX8_once_28 hl (by decide) rfl (fun ls hl => ?_)
        refine lv_iload hx hb dX8_once_30 (lv_at hl 3 rfl) ?_
        refine lv_if_eq (tgt := 49) hx hb dX8_once_32 (by decide) (fun c_5 => ?_) (fun c_5 => ?_)
        · skip
          have c_5 : kp = 0 := (nI_eq (a := kp) (b := 0) (by omega) (by omega)).mp c_5
          refine lv_aload_n hx hb dX8_once_49 rfl (lv_at hl 4 rfl) ?_
          refine lv_iload hx hb dX8_once_50 (lv_at hl 1 rfl) ?_
          refine lv_iload_n hx hb dX8_once_52 rfl (lv_at hl 5 rfl) ?_
          refine lv_iload hx hb dX8_once_53 (lv_at hl 3 rfl) ?_
          refine lv_iload_n hx hb dX8_once_55 rfl (lv_at hl 7 rfl) ?_
          refine lv_imul hx hb dX8_once_56 ?_
          refine lv_topi (fun x_6 ex_6 => ?_)
          have ex_6 : x_6 = nI (kp * w1) := ex_6.trans (pk_mul kp w1)
          subst ex_6
          refine lv_iadd hx hb dX8_once_57 ?_
          refine lv_topi (fun x_7 ex_7 => ?_)
          have ex_7 : x_7 = nI (st1 + (kp * w1)) := ex_7.trans (nI_add st1 (kp * w1))
          subst ex_7
          refine lv_iload_n hx hb dX8_once_58 rfl (lv_at hl 7 rfl) ?_
          have hPc := hP.sub (ws' := [(h0, .inr (9, [.ref hV, .ref hB, wo, wp])), (hV, .inl (cJ, n, .inr (.inl v))), (hB, .inl (cB, n, .inl b))]) [0, 1, 2] rfl
          have hDc := hD.sub (ws' := [(h0, .inr (9, [.ref hV, .ref hB, wo, wp])), (hV, .inl (cJ, n, .inr (.inl v))), (hB, .inl (cB, n, .inl b))]) [0, 1, 2] (by decide) rfl
          have hKc := hK.sub (tys' := [(cB, .byte), (cI, .int), (cJ, .long), (cZ, .boolean)]) [0, 1, 2, 3] rfl
          have hFc := va_free (wc := [(h0, .inr (9, [.ref hV, .ref hB, wo, wp])), (hV, .inl (cJ, n, .inr (.inl v))), (hB, .inl (cB, n, .inl b))]) hD hS hA [0, 1, 2] rfl
          refine va_callv (va_runV (As := [.int (nI (st1 + (i * w1))), .int (nI (st1 + (kp * w1))), .int (nI w1)]) (rest := []) ⟨hx, hb, hml, hown, hts⟩ (t_X8_copy_n l dC dI H.size cB cI cJ cZ h0 hV hB n v b wo wp (st1 + i * w1) (st1 + kp * w1) w1 hn hfit (by have := rowle (n := n - st1) hz (show i < sz1 by omega); omega) (by have := rowle (n := n - st1) hz (show kp < sz1 by omega); omega) hw1) (cwV 3 hts (gd_all (in_V kw_1504 kw_1406 kw_1407 kw_188 kc_X8_copy)) rfl rfl rfl (by decide +kernel) ⟨Nat.le_of_ble_eq_true rfl, Nat.le_of_ble_eq_true rfl⟩) ⟨fun a U g mk q => by obtain ⟨q0, q1, qP, qK, qD⟩ := q; exact ⟨q0, q1, qP, va_K.moved (u := U) (U := U.calling g mk a) (Vm.Alike.refl U.vm) qK, qD⟩, va_recv hKc hPc (ci := 9) (q0 := 0) rfl rfl, fun U hU hW => ⟨rfl, by rw [hU], by rw [hU]; exact hPc, va_K.moved hW.alike hKc, hDc.weaken (fun _ _ _ _ => trivial)⟩⟩ rfl rfl hl.1 rfl (lv_room (Nat.le_of_ble_eq_true rfl)) dX8_once_59 ⟨Nat.le_of_ble_eq_true rfl, Nat.le_of_ble_eq_true rfl⟩) hS (fun q _ h => hFc q h) hFc (fun u t_ H1 locs ht hvm hw hB hz1 hk1 hS => ?_)
          obtain ⟨hP1, hK1, hD1⟩ := hB
          rw [ht] at hP1
          have hK1 := va_K.moved hvm.symm hK1
          obtain ⟨hP, hD⟩ := va_join (wr := []) (w1 := [(h0, .inr (9, [.ref hV, .ref hB, wo, wp])), (hV, .inl (cJ, n, .inr (.inl (va_cpy v v (st1 + i * w1) (st1 + kp * w1) w1)))), (hB, .inl (cB, n, .inl (va_cpy b b (st1 + i * w1) (st1 + kp * w1) w1)))]) hP hD [0, 1, 2] [] rfl rfl (by decide) (by decide) hk1 hFc hP1 hD1
          have hK := (hK.sub (tys' := []) [] rfl).app hK1
          generalize H1 = H at hP hS ⊢
          have hP : va_P (dC, dI) vwCl [(h0, .inr (9, [.ref hV, .ref hB, wo, wp])), (hV, .inl (cJ, n, .inr (.inl (va_cpy v v (st1 + i * w1) (st1 + kp * w1) w1)))), (hB, .inl (cB, n, .inl (va_cpy b b (st1 + i * w1) (st1 + kp * w1) w1)))] H := hP
          have hD : va_D A [(h0, .inr (9, [.ref hV, .ref hB, wo, wp])), (hV, .inl (cJ, n, .inr (.inl (va_cpy v v (st1 + i * w1) (st1 + kp * w1) w1)))), (hB, .inl (cB, n, .inl (va_cpy b b (st1 + i * w1) (st1 + kp * w1) w1)))] := hD
          have hK : va_K (dC, dI) vwCl [(cB, .byte), (cI, .int), (cJ, .long), (cZ, .boolean)] s := hK
          refine lv_iinc (v := nI (kp + 1)) (lv' := [(4, .int (nI (kp + 1))), (7, .int ((nI st1) + ((nI kp - 1) * (nI w1)))), (6, .int (nI (st1 + (i * w1)))), (5, .int (nI i)), (0, .ref h0), (1, .int (nI st1)), (2, .int (nI sz1)), (3, .int (nI w1))]) hx hb dX8_once_62 hl (k := 3) rfl (nI_add kp 1) (by decide) rfl (fun ls hl => ?_)
          refine lv_iinc (v := nI (i + 1)) (lv' := [(5, .int (nI (i + 1))), (4, .int (nI (kp + 1))), (7, .int ((nI st1) + ((nI kp - 1) * (nI w1)))), (6, .int (nI (st1 + (i * w1)))), (0, .ref h0), (1, .int (nI st1)), (2, .int (nI sz1)), (3, .int (nI w1))]) hx hb dX8_once_65 hl (k := 3) rfl (nI_add i 1) (by decide) rfl (fun ls hl => ?_)
          refine lv_goto (tgt := 6) hx hb dX8_once_68 (by decide) ?_
          exact ih_6 (i + 1) (kp + 1) (va_cpy v v (st1 + i * w1) (st1 + kp * w1) w1) (va_cpy b b (st1 + i * w1) (st1 + kp * w1) w1) (by omega) (by omega) (sb_fitC hfit hfit) (hin.trans (onF_0 (by omega) c_5)) (by omega) _ _ _ (hP.sub [0, 1, 2] rfl) (hD.sub [0, 1, 2] (by decide) rfl) hS (lv_sub hl [0, 1, 4, 5, 6, 7] rfl)
        · skip
          have c_5 : ¬ (kp = 0) := fun h => c_5 ((nI_eq (a := kp) (b := 0) (by omega) (by omega)).mpr h)
          refine lv_aload_n hx hb dX8_once_35 rfl (lv_at hl 4 rfl) ?_
          refine lv_iload hx hb dX8_once_36 (lv_at hl 0 rfl) ?_
          refine lv_topi (fun x_9 ex_9 => ?_)
          have ex_9 : x_9 = nI (st1 + (kp - 1) * w1) := by rw [ex_9, show nI kp - 1 = nI (kp - 1) from pk_sub (a := kp) (b := 1) (by omega), pk_mul, nI_add]
          subst ex_9
          refine lv_aload_n hx hb dX8_once_38 rfl (lv_at hl 4 rfl) ?_
          refine lv_iload hx hb dX8_once_39 (lv_at hl 1 rfl) ?_
          refine lv_iload_n hx hb dX8_once_41 rfl (lv_at hl 7 rfl) ?_
          refine lv_iconst (v := 0) hx hb dX8_once_42 (by decide) ?_
          have hPc := hP.sub (ws' := [(h0, .inr (9, [.ref hV, .ref hB, wo, wp])), (hV, .inl (cJ, n, .inr (.inl v))), (hB, .inl (cB, n, .inl b))]) [0, 1, 2] rfl
          have hDc := hD.sub (ws' := [(h0, .inr (9, [.ref hV, .ref hB, wo, wp])), (hV, .inl (cJ, n, .inr (.inl v))), (hB, .inl (cB, n, .inl b))]) [0, 1, 2] (by decide) rfl
          have hKc := hK.sub (tys' := [(cB, .byte), (cI, .int), (cJ, .long), (cZ, .boolean)]) [0, 1, 2, 3] rfl
          have hFc := va_free (wc := [(h0, .inr (9, [.ref hV, .ref hB, wo, wp])), (hV, .inl (cJ, n, .inr (.inl v))), (hB, .inl (cB, n, .inl b))]) hD hS hA [0, 1, 2] rfl
          refine va_calli (va_runV (As := [.int (nI (st1 + (kp - 1) * w1)), .ref h0, .int (nI (st1 + (i * w1))), .int (nI w1), .int 0]) (rest := []) ⟨hx, hb, hml, hown, hts⟩ (t_compareRows_s l dC dI H.size cB cI cJ cZ h0 hV hB n v b wo wp (st1 + (kp - 1) * w1) (st1 + i * w1) w1 0 hn (by have := rowle (n := n - st1) hz (show kp - 1 < sz1 by omega); omega) (by have := rowle (n := n - st1) hz (show i < sz1 by omega); omega)) (cwV 5 hts (gd_all (in_V kw_1497 kw_1498 kw_1499 kw_188 kc_X8_compareRows)) rfl rfl rfl (by decide +kernel) ⟨Nat.le_of_ble_eq_true rfl, Nat.le_of_ble_eq_true rfl⟩) ⟨fun a U g mk q => by obtain ⟨q0, q1, qP, qK, qD⟩ := q; exact ⟨q0, q1, qP, va_K.moved (u := U) (U := U.calling g mk a) (Vm.Alike.refl U.vm) qK, qD⟩, va_recv hKc hPc (ci := 9) (q0 := 0) rfl rfl, fun U hU hW => ⟨rfl, by rw [hU], by rw [hU]; exact hPc, va_K.moved hW.alike hKc, hDc.weaken (fun _ _ _ _ => trivial)⟩⟩ rfl rfl hl.1 rfl (lv_room (Nat.le_of_ble_eq_true rfl)) dX8_once_43 ⟨Nat.le_of_ble_eq_true rfl, Nat.le_of_ble_eq_true rfl⟩) hS (fun q _ h => hFc q h) hFc (fun r_10 u t_ H1 locs ht hvm hw hB hz1 hk1 hS => ?_)
          obtain ⟨hP1, hK1, hD1⟩ := hB
          rw [ht] at hP1
          have hK1 := va_K.moved hvm.symm hK1
          obtain ⟨hP, hD⟩ := va_join (wr := []) (w1 := [(h0, .inr (9, [.ref hV, .ref hB, wo, wp])), (hV, .inl (cJ, n, .inr (.inl v))), (hB, .inl (cB, n, .inl b))]) hP hD [0, 1, 2] [] rfl rfl (by decide) (by decide) hk1 hFc hP1 hD1
          have hK := (hK.sub (tys' := []) [] rfl).app hK1
          generalize H1 = H at hP hS ⊢
          have hP : va_P (dC, dI) vwCl [(h0, .inr (9, [.ref hV, .ref hB, wo, wp])), (hV, .inl (cJ, n, .inr (.inl v))), (hB, .inl (cB, n, .inl b))] H := hP
          have hD : va_D A [(h0, .inr (9, [.ref hV, .ref hB, wo, wp])), (hV, .inl (cJ, n, .inr (.inl v))), (hB, .inl (cB, n, .inl b))] := hD
          have hK : va_K (dC, dI) vwCl [(cB, .byte), (cI, .int), (cJ, .long), (cZ, .boolean)] s := hK
          have er_10 : r_10 = cmF v b (st1 + (kp - 1) * w1) v b (st1 + i * w1) 0 w1 0 := hw
          rw [er_10]
          refine lv_if_eq (tgt := 65) hx hb dX8_once_46 (by decide) (fun c_11 => ?_) (fun c_11 => ?_)
          · skip
            refine lv_iinc (v := nI (i + 1)) (lv' := [(5, .int (nI (i + 1))), (7, .int ((nI st1) + ((nI kp - 1) * (nI w1)))), (6, .int (nI (st1 + (i * w1)))), (4, .int (nI kp)), (0, .ref h0), (1, .int (nI st1)), (2, .int (nI sz1)), (3, .int (nI w1))]) hx hb dX8_once_65 hl (k := 2) rfl (nI_add i 1) (by decide) rfl (fun ls hl => ?_)
            refine lv_goto (tgt := 6) hx hb dX8_once_68 (by decide) ?_
            exact ih_6 (i + 1) kp v b (by omega) (by omega) hfit (hin.trans (onF_y (by omega) c_5 c_11)) (by omega) _ _ _ (hP.sub [0, 1, 2] rfl) (hD.sub [0, 1, 2] (by decide) rfl) hS (lv_sub hl [0, 3, 4, 5, 6, 7] rfl)
          · skip
            refine lv_aload_n hx hb dX8_once_49 rfl (lv_at hl 4 rfl) ?_
            refine lv_iload hx hb dX8_once_50 (lv_at hl 1 rfl) ?_
            refine lv_iload_n hx hb dX8_once_52 rfl (lv_at hl 5 rfl) ?_
            refine lv_iload hx hb dX8_once_53 (lv_at hl 3 rfl) ?_
            refine lv_iload_n hx hb dX8_once_55 rfl (lv_at hl 7 rfl) ?_
            refine lv_imul hx hb dX8_once_56 ?_
            refine lv_topi (fun x_12 ex_12 => ?_)
            have ex_12 : x_12 = nI (kp * w1) := ex_12.trans (pk_mul kp w1)
            subst ex_12
            refine lv_iadd hx hb dX8_once_57 ?_
            refine lv_topi (fun x_13 ex_13 => ?_)
            have ex_13 : x_13 = nI (st1 + (kp * w1)) := ex_13.trans (nI_add st1 (kp * w1))
            subst ex_13
            refine lv_iload_n hx hb dX8_once_58 rfl (lv_at hl 7 rfl) ?_
            have hPc := hP.sub (ws' := [(h0, .inr (9, [.ref hV, .ref hB, wo, wp])), (hV, .inl (cJ, n, .inr (.inl v))), (hB, .inl (cB, n, .inl b))]) [0, 1, 2] rfl
            have hDc := hD.sub (ws' := [(h0, .inr (9, [.ref hV, .ref hB, wo, wp])), (hV, .inl (cJ, n, .inr (.inl v))), (hB, .inl (cB, n, .inl b))]) [0, 1, 2] (by decide) rfl
            have hKc := hK.sub (tys' := [(cB, .byte), (cI, .int), (cJ, .long), (cZ, .boolean)]) [0, 1, 2, 3] rfl
            have hFc := va_free (wc := [(h0, .inr (9, [.ref hV, .ref hB, wo, wp])), (hV, .inl (cJ, n, .inr (.inl v))), (hB, .inl (cB, n, .inl b))]) hD hS hA [0, 1, 2] rfl
            refine va_callv (va_runV (As := [.int (nI (st1 + (i * w1))), .int (nI (st1 + (kp * w1))), .int (nI w1)]) (rest := []) ⟨hx, hb, hml, hown, hts⟩ (t_X8_copy_n l dC dI H.size cB cI cJ cZ h0 hV hB n v b wo wp (st1 + i * w1) (st1 + kp * w1) w1 hn hfit (by have := rowle (n := n - st1) hz (show i < sz1 by omega); omega) (by have := rowle (n := n - st1) hz (show kp < sz1 by omega); omega) hw1) (cwV 3 hts (gd_all (in_V kw_1504 kw_1406 kw_1407 kw_188 kc_X8_copy)) rfl rfl rfl (by decide +kernel) ⟨Nat.le_of_ble_eq_true rfl, Nat.le_of_ble_eq_true rfl⟩) ⟨fun a U g mk q => by obtain ⟨q0, q1, qP, qK, qD⟩ := q; exact ⟨q0, q1, qP, va_K.moved (u := U) (U := U.calling g mk a) (Vm.Alike.refl U.vm) qK, qD⟩, va_recv hKc hPc (ci := 9) (q0 := 0) rfl rfl, fun U hU hW => ⟨rfl, by rw [hU], by rw [hU]; exact hPc, va_K.moved hW.alike hKc, hDc.weaken (fun _ _ _ _ => trivial)⟩⟩ rfl rfl hl.1 rfl (lv_room (Nat.le_of_ble_eq_true rfl)) dX8_once_59 ⟨Nat.le_of_ble_eq_true rfl, Nat.le_of_ble_eq_true rfl⟩) hS (fun q _ h => hFc q h) hFc (fun u t_ H1 locs ht hvm hw hB hz1 hk1 hS => ?_)
            obtain ⟨hP1, hK1, hD1⟩ := hB
            rw [ht] at hP1
            have hK1 := va_K.moved hvm.symm hK1
            obtain ⟨hP, hD⟩ := va_join (wr := []) (w1 := [(h0, .inr (9, [.ref hV, .ref hB, wo, wp])), (hV, .inl (cJ, n, .inr (.inl (va_cpy v v (st1 + i * w1) (st1 + kp * w1) w1)))), (hB, .inl (cB, n, .inl (va_cpy b b (st1 + i * w1) (st1 + kp * w1) w1)))]) hP hD [0, 1, 2] [] rfl rfl (by decide) (by decide) hk1 hFc hP1 hD1
            have hK := (hK.sub (tys' := []) [] rfl).app hK1
            generalize H1 = H at hP hS ⊢
            have hP : va_P (dC, dI) vwCl [(h0, .inr (9, [.ref hV, .ref hB, wo, wp])), (hV, .inl (cJ, n, .inr (.inl (va_cpy v v (st1 + i * w1) (st1 + kp * w1) w1)))), (hB, .inl (cB, n, .inl (va_cpy b b (st1 + i * w1) (st1 + kp * w1) w1)))] H := hP
            have hD : va_D A [(h0, .inr (9, [.ref hV, .ref hB, wo, wp])), (hV, .inl (cJ, n, .inr (.inl (va_cpy v v (st1 + i * w1) (st1 + kp * w1) w1)))), (hB, .inl (cB, n, .inl (va_cpy b b (st1 + i * w1) (st1 + kp * w1) w1)))] := hD
            have hK : va_K (dC, dI) vwCl [(cB, .byte), (cI, .int), (cJ, .long), (cZ, .boolean)] s := hK
            refine lv_iinc (v := nI (kp + 1)) (lv' := [(4, .int (nI (kp + 1))), (7, .int ((nI st1) + ((nI kp - 1) * (nI w1)))), (6, .int (nI (st1 + (i * w1)))), (5, .int (nI i)), (0, .ref h0), (1, .int (nI st1)), (2, .int (nI sz1)), (3, .int (nI w1))]) hx hb dX8_once_62 hl (k := 3) rfl (nI_add kp 1) (by decide) rfl (fun ls hl => ?_)
            refine lv_iinc (v := nI (i + 1)) (lv' := [(5, .int (nI (i + 1))), (4, .int (nI (kp + 1))), (7, .int ((nI st1) + ((nI kp - 1) * (nI w1)))), (6, .int (nI (st1 + (i * w1)))), (0, .ref h0), (1, .int (nI st1)), (2, .int (nI sz1)), (3, .int (nI w1))]) hx hb dX8_once_65 hl (k := 3) rfl (nI_add i 1) (by decide) rfl (fun ls hl => ?_)
            refine lv_goto (tgt := 6) hx hb dX8_once_68 (by decide) ?_
            exact ih_6 (i + 1) (kp + 1) (va_cpy v v (st1 + i * w1) (st1 + kp * w1) w1) (va_cpy b b (st1 + i * w1) (st1 + kp * w1) w1) (by omega) (by omega) (sb_fitC hfit hfit) (hin.trans (onF_n (by omega) c_5 c_11)) (by omega) _ _ _ (hP.sub [0, 1, 2] rfl) (hD.sub [0, 1, 2] (by decide) rfl) hS (lv_sub hl [0, 1, 4, 5, 6, 7] rfl)
  exact lp_6 _ 0 0 v1 b1 (Nat.zero_le _) (Nat.le_refl _) hy rfl (Nat.lt_succ_self _) _ _ _ (hP.sub [0, 1, 2] rfl) (hD.sub [0, 1, 2] (by decide) rfl) hS (lv_sub hl [0, 1, 2, 3, 4, 5] rfl)

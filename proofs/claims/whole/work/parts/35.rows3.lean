/-! like rows side by side; a row among others -/
theorem rowle {i sz w n : Nat} (h : sz * w ≤ n) (hi : i < sz) : i * w + w ≤ n := by
  have h9 := Nat.mul_le_mul_right w (Nat.succ_le_of_lt hi)
  rw [Nat.succ_mul] at h9
  omega
def rpF (v1 : Nat → Int64) (b1 : Nat → Int32) (fr w sz : Nat) : Nat → Nat → Nat
  | 0, o => o
  | f + 1, o => if sz ≤ fr + o then o else if cmF v1 b1 (fr * w) v1 b1 ((fr + o) * w) 0 w 0 = 0 then rpF v1 b1 fr w sz f (o + 1) else o
theorem rpF_e {v1 : Nat → Int64} {b1 : Nat → Int32} {fr w sz o : Nat} (h : sz ≤ fr + o) : rpF v1 b1 fr w sz (sz - (fr + o)) o = o := by rw [show sz - (fr + o) = 0 by omega]; rfl
theorem rpF_y {v1 : Nat → Int64} {b1 : Nat → Int32} {fr w sz o : Nat} (h : ¬ sz ≤ fr + o) (h2 : cmF v1 b1 (fr * w) v1 b1 ((fr + o) * w) 0 w 0 = 0) : rpF v1 b1 fr w sz (sz - (fr + o)) o = rpF v1 b1 fr w sz (sz - (fr + (o + 1))) (o + 1) := by
  rw [show sz - (fr + o) = (sz - (fr + (o + 1))) + 1 by omega]
  exact (if_neg h).trans (if_pos h2)
theorem rpF_n {v1 : Nat → Int64} {b1 : Nat → Int32} {fr w sz o : Nat} (h : ¬ sz ≤ fr + o) (h2 : ¬ cmF v1 b1 (fr * w) v1 b1 ((fr + o) * w) 0 w 0 = 0) : rpF v1 b1 fr w sz (sz - (fr + o)) o = o := by
  rw [show sz - (fr + o) = (sz - (fr + (o + 1))) + 1 by omega]
  exact (if_neg h).trans (if_neg h2)
def hrF (g : Nat → Int64) (z : Nat → Int32) (b1 c1 row : Nat) : Nat → Nat → Int32
  | 0, _ => 0
  | f + 1, i => if mcF g z (b1 + i * c1) row c1 0 = 0 then 1 else hrF g z b1 c1 row f (i + 1)
theorem hrF_y {g : Nat → Int64} {z : Nat → Int32} {b1 c1 row w i : Nat} (hi : i < w) (h : mcF g z (b1 + i * c1) row c1 0 = 0) : hrF g z b1 c1 row (w - i) i = 1 := by
  rw [show w - i = (w - (i + 1)) + 1 by omega]
  exact if_pos h
theorem hrF_n {g : Nat → Int64} {z : Nat → Int32} {b1 c1 row w i : Nat} (hi : i < w) (h : ¬ mcF g z (b1 + i * c1) row c1 0 = 0) : hrF g z b1 c1 row (w - i) i = hrF g z b1 c1 row (w - (i + 1)) (i + 1) := by
  rw [show w - i = (w - (i + 1)) + 1 by omega]
  exact if_neg h
def snF (kp : Int32) (wm ke : Int64) : Int64 := if kp = 0 then -9223372036854775808 else if wm - ke ≤ wm then wm - ke else -9223372036854775808
def inF (th kp : Int32) (tm wm ke : Int64) : Int32 := if th = 0 then 0 else if kp = 0 then 1 else if tm < snF kp wm ke then 0 else 1
theorem dX8_repeats_0 : decode cX8_repeats 0 = .ok (.iconst 1, 1) := by decide +kernel
theorem dX8_repeats_1 : decode cX8_repeats 1 = .ok (.istore 4, 2) := by decide +kernel
theorem dX8_repeats_3 : decode cX8_repeats 3 = .ok (.iload_n 1, 1) := by decide +kernel
theorem dX8_repeats_4 : decode cX8_repeats 4 = .ok (.iload 4, 2) := by decide +kernel
theorem dX8_repeats_6 : decode cX8_repeats 6 = .ok (.iadd, 1) := by decide +kernel
theorem dX8_repeats_7 : decode cX8_repeats 7 = .ok (.iload_n 2, 1) := by decide +kernel
theorem dX8_repeats_8 : decode cX8_repeats 8 = .ok (.if_icmp .ge 28, 3) := by decide +kernel
theorem dX8_repeats_11 : decode cX8_repeats 11 = .ok (.aload_n 0, 1) := by decide +kernel
theorem dX8_repeats_12 : decode cX8_repeats 12 = .ok (.iload_n 1, 1) := by decide +kernel
theorem dX8_repeats_13 : decode cX8_repeats 13 = .ok (.iload_n 3, 1) := by decide +kernel
theorem dX8_repeats_14 : decode cX8_repeats 14 = .ok (.imul, 1) := by decide +kernel
theorem dX8_repeats_15 : decode cX8_repeats 15 = .ok (.aload_n 0, 1) := by decide +kernel
theorem dX8_repeats_16 : decode cX8_repeats 16 = .ok (.iload_n 1, 1) := by decide +kernel
theorem dX8_repeats_17 : decode cX8_repeats 17 = .ok (.iload 4, 2) := by decide +kernel
theorem dX8_repeats_19 : decode cX8_repeats 19 = .ok (.iadd, 1) := by decide +kernel
theorem dX8_repeats_20 : decode cX8_repeats 20 = .ok (.iload_n 3, 1) := by decide +kernel
theorem dX8_repeats_21 : decode cX8_repeats 21 = .ok (.imul, 1) := by decide +kernel
theorem dX8_repeats_22 : decode cX8_repeats 22 = .ok (.iload_n 3, 1) := by decide +kernel
theorem dX8_repeats_23 : decode cX8_repeats 23 = .ok (.iconst 0, 1) := by decide +kernel
theorem dX8_repeats_24 : decode cX8_repeats 24 = .ok (.invokevirtual 61, 3) := by decide +kernel
theorem dX8_repeats_27 : decode cX8_repeats 27 = .ok (.ifCond .ne 9, 3) := by decide +kernel
theorem dX8_repeats_30 : decode cX8_repeats 30 = .ok (.iinc 4 1, 3) := by decide +kernel
theorem dX8_repeats_33 : decode cX8_repeats 33 = .ok (.goto (-30), 3) := by decide +kernel
theorem dX8_repeats_36 : decode cX8_repeats 36 = .ok (.iload 4, 2) := by decide +kernel
theorem dX8_repeats_38 : decode cX8_repeats 38 = .ok (.ireturn, 1) := by decide +kernel
abbrev cs_t_X8_repeats (cB cI cJ cZ : ClassId) (h0 hV hB n : Nat) (v1 : Nat → Int64) (b1 : Nat → Int32) (wo wp : Value) (fr sz1 w1 : Nat) : va_W := [(h0, .inr (9, [.ref hV, .ref hB, wo, wp])), (hV, .inl (cJ, n, .inr (.inl v1))), (hB, .inl (cB, n, .inl b1))]
abbrev pc_t_X8_repeats (dC : Nat → ClassId) (dI : Nat → Nat → Nat) (sz : Nat) (cB cI cJ cZ : ClassId) (h0 hV hB n : Nat) (v1 : Nat → Int64) (b1 : Nat → Int32) (wo wp : Value) (fr sz1 w1 : Nat) : Array Value → State → Prop := va_Pc [.ref h0, .int (nI fr), .int (nI sz1), .int (nI w1)] (fun U => U.heap.size = sz ∧ va_P (dC, dI) vwCl [(h0, .inr (9, [.ref hV, .ref hB, wo, wp])), (hV, .inl (cJ, n, .inr (.inl v1))), (hB, .inl (cB, n, .inl b1))] U.heap ∧ va_K (dC, dI) vwCl [(cB, .byte), (cI, .int), (cJ, .long), (cZ, .boolean)] U ∧ va_D (fun _ => True) [(h0, .inr (9, [.ref hV, .ref hB, wo, wp])), (hV, .inl (cJ, n, .inr (.inl v1))), (hB, .inl (cB, n, .inl b1))])
abbrev qc_t_X8_repeats (dC : Nat → ClassId) (dI : Nat → Nat → Nat) (cB cI cJ cZ : ClassId) (h0 hV hB n : Nat) (v1 : Nat → Int64) (b1 : Nat → Int32) (wo wp : Value) (fr sz1 w1 : Nat) (A : Nat → Prop) : Array Value → State → Outcome → State → Prop := va_Qi (fun (r : Int32) (u : Unit) => match u with | _ => r = nI (rpF v1 b1 fr w1 sz1 (sz1 - (fr + 1)) 1)) (fun (u : Unit) t_ => match u with | _ => va_P (dC, dI) vwCl [(h0, .inr (9, [.ref hV, .ref hB, wo, wp])), (hV, .inl (cJ, n, .inr (.inl v1))), (hB, .inl (cB, n, .inl b1))] t_.heap ∧ va_K (dC, dI) vwCl [(cB, .byte), (cI, .int), (cJ, .long), (cZ, .boolean)] t_ ∧ va_D A [(h0, .inr (9, [.ref hV, .ref hB, wo, wp])), (hV, .inl (cJ, n, .inr (.inl v1))), (hB, .inl (cB, n, .inl b1))]) A
set_option maxHeartbeats 4000000 in
set_option maxRecDepth 100000 in
theorem t_X8_repeats (l : Launch) (dC : Nat → ClassId) (dI : Nat → Nat → Nat) (sz : Nat) (cB cI cJ cZ : ClassId) (h0 hV hB n : Nat) (v1 : Nat → Int64) (b1 : Nat → Int32) (wo wp : Value) (fr sz1 w1 : Nat) (hn : n < 500000) (hz : sz1 * w1 ≤ n) (hfr : fr < sz1) (hsz : sz1 < 100000) : Met l yX8_repeats (wsOf yX8_repeats cX8_repeats 5 (some .int)) ({ frames := 2, cells := 0, slots := 0, locals := 120 }) (pc_t_X8_repeats dC dI sz cB cI cJ cZ h0 hV hB n v1 b1 wo wp fr sz1 w1) (qc_t_X8_repeats dC dI cB cI cJ cZ h0 hV hB n v1 b1 wo wp fr sz1 w1 (va_A (cs_t_X8_repeats cB cI cJ cZ h0 hV hB n v1 b1 wo wp fr sz1 w1) sz)) 0 0 (va_A (cs_t_X8_repeats cB cI cJ cZ h0 hV hB n v1 b1 wo wp fr sz1 w1) sz) := by
  refine Met.ofW (cc := cX8_repeats) (maxL := 5) (ret := (some .int)) (by decide) rfl ?_
  intro p e s m args below meth c s₁ B hml hv
  obtain ⟨rfl, hsz, hP, hK, hD0⟩ := hv
  have hx := B.exec
  have hb := B.bytes
  have hr := B.returns
  have hts := atoms_spec (ws := (wsOf yX8_repeats cX8_repeats 5 (some .int))) B.pre
  have hown : s.vm.findClass RX8 = some m.cls := findClass_of_methodNamed B.named
  have hlocks := B.notSynchronized
  subst hsz
  have hD := hD0.self (sz := s.heap.size)
  generalize hAe : va_A (cs_t_X8_repeats cB cI cJ cZ h0 hV hB n v1 b1 wo wp fr sz1 w1) s.heap.size = A at hD ⊢
  have hA : ∀ q : Nat, s.heap.size ≤ q → A q := fun q h => by rw [← hAe]; exact Or.inr h
  have hS : va_S A s.heap s.heap [] := va_S.rf
  have hP : va_P (dC, dI) vwCl [(h0, .inr (9, [.ref hV, .ref hB, wo, wp])), (hV, .inl (cJ, n, .inr (.inl v1))), (hB, .inl (cB, n, .inl b1))] s.heap := hP
  have hl := lv_entry ([.ref h0, .int (nI fr), .int (nI sz1), .int (nI w1)]) (n := 5) (Nat.le_of_ble_eq_true rfl)
  rw [lg_entry_eq]
  generalize (lg_sl ([.ref h0, .int (nI fr), .int (nI sz1), .int (nI w1)]) ++ List.replicate (5 - (lg_sl ([.ref h0, .int (nI fr), .int (nI sz1), .int (nI w1)])).length) Slot.unset).toArray = ls at hl ⊢
  have hl : lv_has ls 5 [(0, .ref h0), (1, .int (nI fr)), (2, .int (nI sz1)), (3, .int (nI w1))] := hl
  refine lv_iconst (v := 1) hx hb dX8_repeats_0 (by decide) ?_
  refine lv_istore (lv' := [(4, .int 1), (0, .ref h0), (1, .int (nI fr)), (2, .int (nI sz1)), (3, .int (nI w1))]) hx hb dX8_repeats_1 hl (by decide) rfl (fun ls hl => ?_)
  have lp_3 : ∀ (n_ : Nat) (o : Nat), fr + o ≤ sz1 + 1 → rpF v1 b1 fr w1 sz1 (sz1 - (fr + 1)) 1 = rpF v1 b1 fr w1 sz1 (sz1 - (fr + o)) o → sz1 + 1 - o < n_ → ∀ (H : Heap) (locs : List Loc) (ls : Array Slot), va_P (dC, dI) vwCl [(h0, .inr (9, [.ref hV, .ref hB, wo, wp])), (hV, .inl (cJ, n, .inr (.inl v1))), (hB, .inl (cB, n, .inl b1))] H → va_D A [(h0, .inr (9, [.ref hV, .ref hB, wo, wp])), (hV, .inl (cJ, n, .inr (.inl v1))), (hB, .inl (cB, n, .inl b1))] → va_S A s.heap H locs → lv_has ls 5 [(4, .int (nI o)), (0, .ref h0), (1, .int (nI fr)), (2, .int (nI sz1)), (3, .int (nI w1))] → W p l e (headSpec (wsOf yX8_repeats cX8_repeats 5 (some .int)) ({ frames := 2, cells := 0, slots := 0, locals := 120 })).room s m ([.ref h0, .int (nI fr), .int (nI sz1), .int (nI w1)] : List Value).toArray below meth c H locs 0 0 (MQ below (qc_t_X8_repeats dC dI cB cI cJ cZ h0 hV hB n v1 b1 wo wp fr sz1 w1 A) ([.ref h0, .int (nI fr), .int (nI sz1), .int (nI w1)] : List Value).toArray s 0 0 A) (F0 m 3 ls []) := by
    intro n_
    induction n_ with
    | zero => intro o ho1 hin hm; exact absurd hm (Nat.not_lt_zero _)
    | succ n_ ih_3 =>
      intro o ho1 hin hm H locs ls hP hD hS hl
      refine lv_iload_n hx hb dX8_repeats_3 rfl (lv_at hl 2 rfl) ?_
      refine lv_iload hx hb dX8_repeats_4 (lv_at hl 0 rfl) ?_
      refine lv_iadd hx hb dX8_repeats_6 ?_
      refine lv_topi (fun x_1 ex_1 => ?_)
      have ex_1 : x_1 = nI (fr + o) := ex_1.trans (nI_add fr o)
      subst ex_1
      refine lv_iload_n hx hb dX8_repeats_7 rfl (lv_at hl 3 rfl) ?_
      refine lv_icmp_ge (tgt := 36) hx hb dX8_repeats_8 (by decide) (fun c_2 => ?_) (fun c_2 => ?_)
      · skip
        have c_2 : sz1 ≤ fr + o := (nI_leI (a := sz1) (b := fr + o) (by omega) (by omega)).mp c_2
        refine lv_iload hx hb dX8_repeats_36 (lv_at hl 0 rfl) ?_
        have hP9 := hP.sub (ws' := [(h0, .inr (9, [.ref hV, .ref hB, wo, wp])), (hV, .inl (cJ, n, .inr (.inl v1))), (hB, .inl (cB, n, .inl b1))]) [0, 1, 2] rfl
        have hD9 := hD.sub (ws' := [(h0, .inr (9, [.ref hV, .ref hB, wo, wp])), (hV, .inl (cJ, n, .inr (.inl v1))), (hB, .inl (cB, n, .inl b1))]) [0, 1, 2] (by decide) rfl
        have hK9 := hK.sub (tys' := [(cB, .byte), (cI, .int), (cJ, .long), (cZ, .boolean)]) [0, 1, 2, 3] rfl
        exact W.iret (v := (nI o)) hx hb hr (fun t_ ht hW => ⟨⟨(nI o), (), rfl, (congrArg nI (hin.trans (rpF_e c_2))).symm, by rw [ht]; exact hP9, va_K.moved hW.alike hK9, hD9⟩, hS.F ht⟩) hS.2.2 dX8_repeats_38
      · skip
        have c_2 : ¬ (sz1 ≤ fr + o) := fun h => c_2 ((nI_leI (a := sz1) (b := fr + o) (by omega) (by omega)).mpr h)
        refine lv_aload_n hx hb dX8_repeats_11 rfl (lv_at hl 1 rfl) ?_
        refine lv_iload_n hx hb dX8_repeats_12 rfl (lv_at hl 2 rfl) ?_
        refine lv_iload_n hx hb dX8_repeats_13 rfl (lv_at hl 4 rfl) ?_
        refine lv_imul hx hb dX8_repeats_14 ?_
        refine lv_topi (fun x_3 ex_3 => ?_)
        have ex_3 : x_3 = nI (fr * w1) := ex_3.trans (pk_mul fr w1)
        subst ex_3
        refine lv_aload_n hx hb dX8_repeats_15 rfl (lv_at hl 1 rfl) ?_
        refine lv_iload_n hx hb dX8_repeats_16 rfl (lv_at hl 2 rfl) ?_
        refine lv_iload hx hb dX8_repeats_17 (lv_at hl 0 rfl) ?_
        refine lv_iadd hx hb dX8_repeats_19 ?_
        refine lv_topi (fun x_4 ex_4 => ?_)
        have ex_4 : x_4 = nI (fr + o) := ex_4.trans (nI_add fr o)
        subst ex_4
        refine lv_iload_n hx hb dX8_repeats_20 rfl (lv_at hl 4 rfl) ?_
        refine lv_imul hx hb dX8_repeats_21 ?_
        refine lv_topi (fun x_5 ex_5 => ?_)
        have ex_5 : x_5 = nI ((fr + o) * w1) := ex_5.trans (pk_mul (fr + o) w1)
        subst ex_5
        refine lv_iload_n hx hb dX8_repeats_22 rfl (lv_at hl 4 rfl) ?_
        refine lv_iconst (v := 0) hx hb dX8_repeats_23 (by decide) ?_
        have hPc := hP.sub (ws' := [(h0, .inr (9, [.ref hV, .ref hB, wo, wp])), (hV, .inl (cJ, n, .inr (.inl v1))), (hB, .inl (cB, n, .inl b1))]) [0, 1, 2] rfl
        have hDc := hD.sub (ws' := [(h0, .inr (9, [.ref hV, .ref hB, wo, wp])), (hV, .inl (cJ, n, .inr (.inl v1))), (hB, .inl (cB, n, .inl b1))]) [0, 1, 2] (by decide) rfl
        have hKc := hK.sub (tys' := [(cB, .byte), (cI, .int), (cJ, .long), (cZ, .boolean)]) [0, 1, 2, 3] rfl
        have hFc := va_free (wc := [(h0, .inr (9, [.ref hV, .ref hB, wo, wp])), (hV, .inl (cJ, n, .inr (.inl v1))), (hB, .inl (cB, n, .inl b1))]) hD hS hA [0, 1, 2] rfl
        refine va_calli (va_runV (As := [.int (nI (fr * w1)), .ref h0, .int (nI ((fr + o) * w1)), .int (nI w1), .int 0]) (rest := []) ⟨hx, hb, hml, hown, hts⟩ (t_compareRows_s l dC dI H.size cB cI cJ cZ h0 hV hB n v1 b1 wo wp (fr * w1) ((fr + o) * w1) w1 0 hn (rowle hz (by omega)) (rowle hz (by omega))) (cwV 5 hts (gd_all (in_V kw_1497 kw_1498 kw_1499 kw_188 kc_X8_compareRows)) rfl rfl rfl (by decide +kernel) ⟨Nat.le_of_ble_eq_true rfl, Nat.le_of_ble_eq_true rfl⟩) ⟨fun a U g mk q => by obtain ⟨q0, q1, qP, qK, qD⟩ := q; exact ⟨q0, q1, qP, va_K.moved (u := U) (U := U.calling g mk a) (Vm.Alike.refl U.vm) qK, qD⟩, va_recv hKc hPc (ci := 9) (q0 := 0) rfl rfl, fun U hU hW => ⟨rfl, by rw [hU], by rw [hU]; exact hPc, va_K.moved hW.alike hKc, hDc.weaken (fun _ _ _ _ => trivial)⟩⟩ rfl rfl hl.1 rfl (lv_room (Nat.le_of_ble_eq_true rfl)) dX8_repeats_24 ⟨Nat.le_of_ble_eq_true rfl, Nat.le_of_ble_eq_true rfl⟩) hS (fun q _ h => hFc q h) hFc (fun r_6 u t_ H1 locs ht hvm hw hB hz1 hk1 hS => ?_)
        obtain ⟨hP1, hK1, hD1⟩ := hB
        rw [ht] at hP1
        have hK1 := va_K.moved hvm.symm hK1
        obtain ⟨hP, hD⟩ := va_join (wr := []) (w1 := [(h0, .inr (9, [.ref hV, .ref hB, wo, wp])), (hV, .inl (cJ, n, .inr (.inl v1))), (hB, .inl (cB, n, .inl b1))]) hP hD [0, 1, 2] [] rfl rfl (by decide) (by decide) hk1 hFc hP1 hD1
        have hK := (hK.sub (tys' := []) [] rfl).app hK1
        generalize H1 = H at hP hS ⊢
        have hP : va_P (dC, dI) vwCl [(h0, .inr (9, [.ref hV, .ref hB, wo, wp])), (hV, .inl (cJ, n, .inr (.inl v1))), (hB, .inl (cB, n, .inl b1))] H := hP
        have hD : va_D A [(h0, .inr (9, [.ref hV, .ref hB, wo, wp])), (hV, .inl (cJ, n, .inr (.inl v1))), (hB, .inl (cB, n, .inl b1))] := hD
        have hK : va_K (dC, dI) vwCl [(cB, .byte), (cI, .int), (cJ, .long), (cZ, .boolean)] s := hK
        have er_6 : r_6 = cmF v1 b1 (fr * w1) v1 b1 ((fr + o) * w1) 0 w1 0 := hw
        rw [er_6]
        refine lv_if_ne (tgt := 36) hx hb dX8_repeats_27 (by decide) (fun c_7 => ?_) (fun c_7 => ?_)
        · skip
          refine lv_iload hx hb dX8_repeats_36 (lv_at hl 0 rfl) ?_
          have hP9 := hP.sub (ws' := [(h0, .inr (9, [.ref hV, .ref hB, wo, wp])), (hV, .inl (cJ, n, .inr (.inl v1))), (hB, .inl (cB, n, .inl b1))]) [0, 1, 2] rfl
          have hD9 := hD.sub (ws' := [(h0, .inr (9, [.ref hV, .ref hB, wo, wp])), (hV, .inl (cJ, n, .inr (.inl v1))), (hB, .inl (cB, n, .inl b1))]) [0, 1, 2] (by decide) rfl
          have hK9 := hK.sub (tys' := [(cB, .byte), (cI, .int), (cJ, .long), (cZ, .boolean)]) [0, 1, 2, 3] rfl
          exact W.iret (v := (nI o)) hx hb hr (fun t_ ht hW => ⟨⟨(nI o), (), rfl, (congrArg nI (hin.trans (rpF_n c_2 c_7))).symm, by rw [ht]; exact hP9, va_K.moved hW.alike hK9, hD9⟩, hS.F ht⟩) hS.2.2 dX8_repeats_38
        · skip
          refine lv_iinc (v := nI (o + 1)) (lv' := [(4, .int (nI (o + 1))), (0, .ref h0), (1, .int (nI fr)), (2, .int (nI sz1)), (3, .int (nI w1))]) hx hb dX8_repeats_30 hl (k := 0) rfl (nI_add o 1) (by decide) rfl (fun ls hl => ?_)
          refine lv_goto (tgt := 3) hx hb dX8_repeats_33 (by decide) ?_
          exact ih_3 (o + 1) (by omega) (hin.trans (rpF_y c_2 c_7)) (by omega) _ _ _ (hP.sub [0, 1, 2] rfl) (hD.sub [0, 1, 2] (by decide) rfl) hS (lv_sub hl [0, 1, 2, 3, 4] rfl)
  exact lp_3 _ 1 (by omega) rfl (Nat.lt_succ_self _) _ _ _ (hP.sub [0, 1, 2] rfl) (hD.sub [0, 1, 2] (by decide) rfl) hS (lv_sub hl [0, 1, 2, 3, 4] rfl)
theorem dX12_newRow_0 : decode cX12_newRow 0 = .ok (.aload_n 0, 1) := by decide +kernel
theorem dX12_newRow_1 : decode cX12_newRow 1 = .ok (.getfield 203, 3) := by decide +kernel
theorem dX12_newRow_4 : decode cX12_newRow 4 = .ok (.iload_n 1, 1) := by decide +kernel
theorem dX12_newRow_5 : decode cX12_newRow 5 = .ok (.dup2, 1) := by decide +kernel
theorem dX12_newRow_6 : decode cX12_newRow 6 = .ok (.iaload, 1) := by decide +kernel
theorem dX12_newRow_7 : decode cX12_newRow 7 = .ok (.iconst 1, 1) := by decide +kernel
theorem dX12_newRow_8 : decode cX12_newRow 8 = .ok (.iadd, 1) := by decide +kernel
theorem dX12_newRow_9 : decode cX12_newRow 9 = .ok (.iastore, 1) := by decide +kernel
theorem dX12_newRow_10 : decode cX12_newRow 10 = .ok (.aload_n 0, 1) := by decide +kernel
theorem dX12_newRow_11 : decode cX12_newRow 11 = .ok (.dup, 1) := by decide +kernel
theorem dX12_newRow_12 : decode cX12_newRow 12 = .ok (.getfield 593, 3) := by decide +kernel
theorem dX12_newRow_15 : decode cX12_newRow 15 = .ok (.aload_n 0, 1) := by decide +kernel
theorem dX12_newRow_16 : decode cX12_newRow 16 = .ok (.getfield 206, 3) := by decide +kernel
theorem dX12_newRow_19 : decode cX12_newRow 19 = .ok (.iload_n 1, 1) := by decide +kernel
theorem dX12_newRow_20 : decode cX12_newRow 20 = .ok (.iaload, 1) := by decide +kernel
theorem dX12_newRow_21 : decode cX12_newRow 21 = .ok (.iadd, 1) := by decide +kernel
theorem dX12_newRow_22 : decode cX12_newRow 22 = .ok (.putfield 593, 3) := by decide +kernel
theorem dX12_newRow_25 : decode cX12_newRow 25 = .ok (.aload_n 0, 1) := by decide +kernel
theorem dX12_newRow_26 : decode cX12_newRow 26 = .ok (.getfield 593, 3) := by decide +kernel
theorem dX12_newRow_29 : decode cX12_newRow 29 = .ok (.aload_n 0, 1) := by decide +kernel
theorem dX12_newRow_30 : decode cX12_newRow 30 = .ok (.getfield 206, 3) := by decide +kernel
theorem dX12_newRow_33 : decode cX12_newRow 33 = .ok (.iload_n 1, 1) := by decide +kernel
theorem dX12_newRow_34 : decode cX12_newRow 34 = .ok (.iaload, 1) := by decide +kernel
theorem dX12_newRow_35 : decode cX12_newRow 35 = .ok (.isub, 1) := by decide +kernel
theorem dX12_newRow_36 : decode cX12_newRow 36 = .ok (.ireturn, 1) := by decide +kernel
abbrev cs_t_X12_newRow (cB cI cJ cZ : ClassId) (h0 : Nat) (a : Nat → Nat) (f : Nat → Int32) (w : Int64) (rr rk : Nat → Int32) (r1 u1 m1 c1 : Nat) : va_W := [(h0, .inr (13, moF a (upd f 87 (nI u1)) w)), (a 89, .inl (cI, 400, .inl rr)), (a 90, .inl (cI, 400, .inl rk))]
abbrev pc_t_X12_newRow (dC : Nat → ClassId) (dI : Nat → Nat → Nat) (sz : Nat) (cB cI cJ cZ : ClassId) (h0 : Nat) (a : Nat → Nat) (f : Nat → Int32) (w : Int64) (rr rk : Nat → Int32) (r1 u1 m1 c1 : Nat) : Array Value → State → Prop := va_Pc [.ref h0, .int (nI r1)] (fun U => U.heap.size = sz ∧ va_P (dC, dI) vwCl [(h0, .inr (13, moF a (upd f 87 (nI u1)) w)), (a 89, .inl (cI, 400, .inl rr)), (a 90, .inl (cI, 400, .inl rk))] U.heap ∧ va_K (dC, dI) vwCl [(cB, .byte), (cI, .int), (cJ, .long), (cZ, .boolean)] U ∧ va_D (fun _ => True) [(h0, .inr (13, moF a (upd f 87 (nI u1)) w)), (a 89, .inl (cI, 400, .inl rr)), (a 90, .inl (cI, 400, .inl rk))])
abbrev qc_t_X12_newRow (dC : Nat → ClassId) (dI : Nat → Nat → Nat) (cB cI cJ cZ : ClassId) (h0 : Nat) (a : Nat → Nat) (f : Nat → Int32) (w : Int64) (rr rk : Nat → Int32) (r1 u1 m1 c1 : Nat) (A : Nat → Prop) : Array Value → State → Outcome → State → Prop := va_Qi (fun (r : Int32) (u : Unit) => match u with | _ => r = nI u1) (fun (u : Unit) t_ => match u with | _ => va_P (dC, dI) vwCl [(h0, .inr (13, moF a (upd f 87 (nI (u1 + c1))) w)), (a 89, .inl (cI, 400, .inl (upd rr r1 (nI (m1 + 1))))), (a 90, .inl (cI, 400, .inl rk))] t_.heap ∧ va_K (dC, dI) vwCl [(cB, .byte), (cI, .int), (cJ, .long), (cZ, .boolean)] t_ ∧ va_D A [(h0, .inr (13, moF a (upd f 87 (nI (u1 + c1))) w)), (a 89, .inl (cI, 400, .inl (upd rr r1 (nI (m1 + 1))))), (a 90, .inl (cI, 400, .inl rk))]) A
set_option maxHeartbeats 4000000 in
set_option maxRecDepth 100000 in
theorem t_X12_newRow (l : Launch) (dC : Nat → ClassId) (dI : Nat → Nat → Nat) (sz : Nat) (cB cI cJ cZ : ClassId) (h0 : Nat) (a : Nat → Nat) (f : Nat → Int32) (w : Int64) (rr rk : Nat → Int32) (r1 u1 m1 c1 : Nat) (hr1 : r1 < 400) (h1 : rr r1 = nI m1) (h2 : rk r1 = nI c1) : Met l yX12_newRow (wsOf yX12_newRow cX12_newRow 2 (some .int)) ({ frames := 0, cells := 0, slots := 0, locals := 0 }) (pc_t_X12_newRow dC dI sz cB cI cJ cZ h0 a f w rr rk r1 u1 m1 c1) (qc_t_X12_newRow dC dI cB cI cJ cZ h0 a f w rr rk r1 u1 m1 c1 (va_A (cs_t_X12_newRow cB cI cJ cZ h0 a f w rr rk r1 u1 m1 c1) sz)) 0 0 (va_A (cs_t_X12_newRow cB cI cJ cZ h0 a f w rr rk r1 u1 m1 c1) sz) := by
  refine Met.ofW (cc := cX12_newRow) (maxL := 2) (ret := (some .int)) (by decide) rfl ?_
  intro p e s m args below meth c s₁ B hml hv
  obtain ⟨rfl, hsz, hP, hK, hD0⟩ := hv
  have hx := B.exec
  have hb := B.bytes
  have hr := B.returns
  have hts := atoms_spec (ws := (wsOf yX12_newRow cX12_newRow 2 (some .int))) B.pre
  have hown : s.vm.findClass RX12 = some m.cls := findClass_of_methodNamed B.named
  have hlocks := B.notSynchronized
  subst hsz
  have hD := hD0.self (sz := s.heap.size)
  generalize hAe : va_A (cs_t_X12_newRow cB cI cJ cZ h0 a f w rr rk r1 u1 m1 c1) s.heap.size = A at hD ⊢
  have hA : ∀ q : Nat, s.heap.size ≤ q → A q := fun q h => by rw [← hAe]; exact Or.inr h
  have hS : va_S A s.heap s.heap [] := va_S.rf
  have hP : va_P (dC, dI) vwCl [(h0, .inr (13, moF a (upd f 87 (nI u1)) w)), (a 89, .inl (cI, 400, .inl rr)), (a 90, .inl (cI, 400, .inl rk))] s.heap := hP
  have hl := lv_entry ([.ref h0, .int (nI r1)]) (n := 2) (Nat.le_of_ble_eq_true rfl)
  rw [lg_entry_eq]
  generalize (lg_sl ([.ref h0, .int (nI r1)]) ++ List.replicate (2 - (lg_sl ([.ref h0, .int (nI r1)])).length) Slot.unset).toArray = ls at hl ⊢
  have hl : lv_has ls 2 [(0, .ref h0), (1, .int (nI r1))] := hl
  refine lv_aload_n hx hb dX12_newRow_0 rfl (lv_at hl 0 rfl) ?_
  refine va_get (D := (dC, dI)) (ci := 13) (v := .ref (a 89)) (C := RX12) (T := TX12) (N := 115) hx hb hts (fun w h => List.mem_cons_of_mem _ (uG_X12 w h)) hown hK hP 0 rfl rfl 89 (by decide) (hts _ (List.mem_cons_of_mem _ kw_1780)) (fun _ h9 => h9) rfl dX12_newRow_1 ?_
  refine lv_iload_n hx hb dX12_newRow_4 rfl (lv_at hl 1 rfl) ?_
  refine lv_dup2_11 hx hb dX12_newRow_5 rfl rfl ?_
  refine va_iald hx hb hK hP 1 1 rfl rfl (i := (nI r1)) (vp_in_nI (n := r1) (N := 400) (by omega) (by omega)) dX12_newRow_6 ?_
  refine lv_topi (fun x_1 ex_1 => ?_)
  have ex_1 : x_1 = rr r1 := ex_1.trans (congrArg rr (nI_clamp (n := r1) (by omega)))
  have ex_1 : x_1 = nI m1 := ex_1.trans h1
  subst ex_1
  refine lv_iconst (v := 1) hx hb dX12_newRow_7 (by decide) ?_
  refine lv_iadd hx hb dX12_newRow_8 ?_
  refine lv_topi (fun x_2 ex_2 => ?_)
  have ex_2 : x_2 = nI (m1 + 1) := ex_2.trans (nI_add m1 1)
  subst ex_2
  refine va_iast hx hb hK hP hD hS 1 1 rfl rfl (i := (nI r1)) (x := (nI (m1 + 1))) (vp_in_nI (n := r1) (N := 400) (by omega) (by omega)) dX12_newRow_9 (fun H locs hP hD hS => ?_)
  rw [show (nI r1).toNatClampNeg = r1 from nI_clamp (n := r1) (by omega)] at hP hD
  have hP : va_P (dC, dI) vwCl [(h0, .inr (13, moF a (upd f 87 (nI u1)) w)), (a 89, .inl (cI, 400, .inl (upd rr r1 (nI (m1 + 1))))), (a 90, .inl (cI, 400, .inl rk))] H := hP
  have hD : va_D A [(h0, .inr (13, moF a (upd f 87 (nI u1)) w)), (a 89, .inl (cI, 400, .inl (upd rr r1 (nI (m1 + 1))))), (a 90, .inl (cI, 400, .inl rk))] := hD
  refine lv_aload_n hx hb dX12_newRow_10 rfl (lv_at hl 0 rfl) ?_
  refine lv_dup hx hb dX12_newRow_11 rfl ?_
  refine va_get (D := (dC, dI)) (ci := 13) (v := .int (nI u1)) (C := RX12) (T := TX12) (N := 115) hx hb hts (fun w h => List.mem_cons_of_mem _ (uG_X12 w h)) hown hK hP 0 rfl rfl 87 (by decide) (hts _ (List.mem_cons_of_mem _ kw_1778)) (fun _ h9 => h9) rfl dX12_newRow_12 ?_
  refine lv_aload_n hx hb dX12_newRow_15 rfl (lv_at hl 0 rfl) ?_
  refine va_get (D := (dC, dI)) (ci := 13) (v := .ref (a 90)) (C := RX12) (T := TX12) (N := 115) hx hb hts (fun w h => List.mem_cons_of_mem _ (uG_X12 w h)) hown hK hP 0 rfl rfl 90 (by decide) (hts _ (List.mem_cons_of_mem _ kw_1781)) (fun _ h9 => h9) rfl dX12_newRow_16 ?_
  refine lv_iload_n hx hb dX12_newRow_19 rfl (lv_at hl 1 rfl) ?_
  refine va_iald hx hb hK hP 2 1 rfl rfl (i := (nI r1)) (vp_in_nI (n := r1) (N := 400) (by omega) (by omega)) dX12_newRow_20 ?_
  refine lv_topi (fun x_3 ex_3 => ?_)
  have ex_3 : x_3 = rk r1 := ex_3.trans (congrArg rk (nI_clamp (n := r1) (by omega)))
  have ex_3 : x_3 = nI c1 := ex_3.trans h2
  subst ex_3
  refine lv_iadd hx hb dX12_newRow_21 ?_
  refine lv_topi (fun x_4 ex_4 => ?_)
  have ex_4 : x_4 = nI (u1 + c1) := ex_4.trans (nI_add u1 c1)
  subst ex_4
  refine va_put (D := (dC, dI)) (ci := 13) (v := .int (nI (u1 + c1))) (ty := .int) (C := RX12) (T := TX12) (N := 115) hx hb hts (fun w h => List.mem_cons_of_mem _ (uG_X12 w h)) tyX12 tyX12_ok nmX12 hown hK hP hD hS 0 rfl rfl 87 (by decide) (hts _ (List.mem_cons_of_mem _ kw_1778)) (fun _ h9 => h9) rfl (by decide +kernel) rfl rfl (Nat.le_of_ble_eq_true rfl) dX12_newRow_22 (fun H locs hP hD hS => ?_)
  have hP : va_P (dC, dI) vwCl [(h0, .inr (13, moF a (upd f 87 (nI (u1 + c1))) w)), (a 89, .inl (cI, 400, .inl (upd rr r1 (nI (m1 + 1))))), (a 90, .inl (cI, 400, .inl rk))] H := hP
  have hD : va_D A [(h0, .inr (13, moF a (upd f 87 (nI (u1 + c1))) w)), (a 89, .inl (cI, 400, .inl (upd rr r1 (nI (m1 + 1))))), (a 90, .inl (cI, 400, .inl rk))] := hD
  refine lv_aload_n hx hb dX12_newRow_25 rfl (lv_at hl 0 rfl) ?_
  refine va_get (D := (dC, dI)) (ci := 13) (v := .int (nI (u1 + c1))) (C := RX12) (T := TX12) (N := 115) hx hb hts (fun w h => List.mem_cons_of_mem _ (uG_X12 w h)) hown hK hP 0 rfl rfl 87 (by decide) (hts _ (List.mem_cons_of_mem _ kw_1778)) (fun _ h9 => h9) rfl dX12_newRow_26 ?_
  refine lv_aload_n hx hb dX12_newRow_29 rfl (lv_at hl 0 rfl) ?_
  refine va_get (D := (dC, dI)) (ci := 13) (v := .ref (a 90)) (C := RX12) (T := TX12) (N := 115) hx hb hts (fun w h => List.mem_cons_of_mem _ (uG_X12 w h)) hown hK hP 0 rfl rfl 90 (by decide) (hts _ (List.mem_cons_of_mem _ kw_1781)) (fun _ h9 => h9) rfl dX12_newRow_30 ?_
  refine lv_iload_n hx hb dX12_newRow_33 rfl (lv_at hl 1 rfl) ?_
  refine va_iald hx hb hK hP 2 1 rfl rfl (i := (nI r1)) (vp_in_nI (n := r1) (N := 400) (by omega) (by omega)) dX12_newRow_34 ?_
  refine lv_topi (fun x_5 ex_5 => ?_)
  have ex_5 : x_5 = rk r1 := ex_5.trans (congrArg rk (nI_clamp (n := r1) (by omega)))
  have ex_5 : x_5 = nI c1 := ex_5.trans h2
  subst ex_5
  refine lv_isub hx hb dX12_newRow_35 ?_
  refine lv_topi (fun x_6 ex_6 => ?_)
  have ex_6 : x_6 = nI (u1 + c1 - c1) := ex_6.trans (pk_sub (a := u1 + c1) (b := c1) (by omega))
  subst ex_6
  have hP9 := hP.sub (ws' := [(h0, .inr (13, moF a (upd f 87 (nI (u1 + c1))) w)), (a 89, .inl (cI, 400, .inl (upd rr r1 (nI (m1 + 1))))), (a 90, .inl (cI, 400, .inl rk))]) [0, 1, 2] rfl
  have hD9 := hD.sub (ws' := [(h0, .inr (13, moF a (upd f 87 (nI (u1 + c1))) w)), (a 89, .inl (cI, 400, .inl (upd rr r1 (nI (m1 + 1))))), (a 90, .inl (cI, 400, .inl rk))]) [0, 1, 2] (by decide) rfl
  have hK9 := hK.sub (tys' := [(cB, .byte), (cI, .int), (cJ, .long), (cZ, .boolean)]) [0, 1, 2, 3] rfl
  exact W.iret (v := (nI (u1 + c1 - c1))) hx hb hr (fun t_ ht hW => ⟨⟨(nI (u1 + c1 - c1)), (), rfl, by rw [Nat.add_sub_cancel], by rw [ht]; exact hP9, va_K.moved hW.alike hK9, hD9⟩, hS.F ht⟩) hS.2.2 dX12_newRow_36
theorem dX12_hasRow_0 : decode cX12_hasRow 0 = .ok (.iconst 0, 1) := by decide +kernel
theorem dX12_hasRow_1 : decode cX12_hasRow 1 = .ok (.istore 4, 2) := by decide +kernel
theorem dX12_hasRow_3 : decode cX12_hasRow 3 = .ok (.iload 4, 2) := by decide +kernel
theorem dX12_hasRow_5 : decode cX12_hasRow 5 = .ok (.iload_n 3, 1) := by decide +kernel
theorem dX12_hasRow_6 : decode cX12_hasRow 6 = .ok (.if_icmp .ge 32, 3) := by decide +kernel
theorem dX12_hasRow_9 : decode cX12_hasRow 9 = .ok (.aload_n 0, 1) := by decide +kernel
theorem dX12_hasRow_10 : decode cX12_hasRow 10 = .ok (.aload_n 0, 1) := by decide +kernel
theorem dX12_hasRow_11 : decode cX12_hasRow 11 = .ok (.iload_n 1, 1) := by decide +kernel
theorem dX12_hasRow_12 : decode cX12_hasRow 12 = .ok (.iload 4, 2) := by decide +kernel
theorem dX12_hasRow_14 : decode cX12_hasRow 14 = .ok (.invokevirtual 653, 3) := by decide +kernel
theorem dX12_hasRow_17 : decode cX12_hasRow 17 = .ok (.iload_n 2, 1) := by decide +kernel
theorem dX12_hasRow_18 : decode cX12_hasRow 18 = .ok (.aload_n 0, 1) := by decide +kernel
theorem dX12_hasRow_19 : decode cX12_hasRow 19 = .ok (.getfield 206, 3) := by decide +kernel
theorem dX12_hasRow_22 : decode cX12_hasRow 22 = .ok (.iload_n 1, 1) := by decide +kernel
theorem dX12_hasRow_23 : decode cX12_hasRow 23 = .ok (.iaload, 1) := by decide +kernel
theorem dX12_hasRow_24 : decode cX12_hasRow 24 = .ok (.invokevirtual 693, 3) := by decide +kernel
theorem dX12_hasRow_27 : decode cX12_hasRow 27 = .ok (.ifCond .ne 5, 3) := by decide +kernel
theorem dX12_hasRow_30 : decode cX12_hasRow 30 = .ok (.iconst 1, 1) := by decide +kernel
theorem dX12_hasRow_31 : decode cX12_hasRow 31 = .ok (.ireturn, 1) := by decide +kernel
theorem dX12_hasRow_32 : decode cX12_hasRow 32 = .ok (.iinc 4 1, 3) := by decide +kernel
theorem dX12_hasRow_35 : decode cX12_hasRow 35 = .ok (.goto (-32), 3) := by decide +kernel
theorem dX12_hasRow_38 : decode cX12_hasRow 38 = .ok (.iconst 0, 1) := by decide +kernel
theorem dX12_hasRow_39 : decode cX12_hasRow 39 = .ok (.ireturn, 1) := by decide +kernel
abbrev cs_t_X12_hasRow (cB cI cJ cZ : ClassId) (h0 : Nat) (a : Nat → Nat) (f : Nat → Int32) (w : Int64) (g : Nat → Int64) (z rb rk : Nat → Int32) (r1 row un b1 c1 : Nat) : va_W := [(h0, .inr (13, moF a f w)), (a 85, .inl (cJ, 400000, .inr (.inl g))), (a 86, .inl (cZ, 400000, .inl z)), (a 88, .inl (cI, 400, .inl rb)), (a 90, .inl (cI, 400, .inl rk))]
abbrev pc_t_X12_hasRow (dC : Nat → ClassId) (dI : Nat → Nat → Nat) (sz : Nat) (cB cI cJ cZ : ClassId) (h0 : Nat) (a : Nat → Nat) (f : Nat → Int32) (w : Int64) (g : Nat → Int64) (z rb rk : Nat → Int32) (r1 row un b1 c1 : Nat) : Array Value → State → Prop := va_Pc [.ref h0, .int (nI r1), .int (nI row), .int (nI un)] (fun U => U.heap.size = sz ∧ va_P (dC, dI) vwCl [(h0, .inr (13, moF a f w)), (a 85, .inl (cJ, 400000, .inr (.inl g))), (a 86, .inl (cZ, 400000, .inl z)), (a 88, .inl (cI, 400, .inl rb)), (a 90, .inl (cI, 400, .inl rk))] U.heap ∧ va_K (dC, dI) vwCl [(cB, .byte), (cI, .int), (cJ, .long), (cZ, .boolean)] U ∧ va_D (fun _ => True) [(h0, .inr (13, moF a f w)), (a 85, .inl (cJ, 400000, .inr (.inl g))), (a 86, .inl (cZ, 400000, .inl z)), (a 88, .inl (cI, 400, .inl rb)), (a 90, .inl (cI, 400, .inl rk))])
abbrev qc_t_X12_hasRow (dC : Nat → ClassId) (dI : Nat → Nat → Nat) (cB cI cJ cZ : ClassId) (h0 : Nat) (a : Nat → Nat) (f : Nat → Int32) (w : Int64) (g : Nat → Int64) (z rb rk : Nat → Int32) (r1 row un b1 c1 : Nat) (A : Nat → Prop) : Array Value → State → Outcome → State → Prop := va_Qi (fun (r : Int32) (u : Unit) => match u with | _ => r = hrF g z b1 c1 row un 0) (fun (u : Unit) t_ => match u with | _ => va_P (dC, dI) vwCl [(h0, .inr (13, moF a f w)), (a 85, .inl (cJ, 400000, .inr (.inl g))), (a 86, .inl (cZ, 400000, .inl z)), (a 88, .inl (cI, 400, .inl rb)), (a 90, .inl (cI, 400, .inl rk))] t_.heap ∧ va_K (dC, dI) vwCl [(cB, .byte), (cI, .int), (cJ, .long), (cZ, .boolean)] t_ ∧ va_D A [(h0, .inr (13, moF a f w)), (a 85, .inl (cJ, 400000, .inr (.inl g))), (a 86, .inl (cZ, 400000, .inl z)), (a 88, .inl (cI, 400, .inl rb)), (a 90, .inl (cI, 400, .inl rk))]) A
set_option maxHeartbeats 4000000 in
set_option maxRecDepth 100000 in
theorem t_X12_hasRow (l : Launch) (dC : Nat → ClassId) (dI : Nat → Nat → Nat) (sz : Nat) (cB cI cJ cZ : ClassId) (h0 : Nat) (a : Nat → Nat) (f : Nat → Int32) (w : Int64) (g : Nat → Int64) (z rb rk : Nat → Int32) (r1 row un b1 c1 : Nat) (hr1 : r1 < 400) (h1 : rb r1 = nI b1) (h2 : rk r1 = nI c1) (hb1 : b1 ≤ 400000) (hun : un * c1 ≤ 400000 - b1) (hrow : row + c1 ≤ 400000) (hu9 : un < 100000) : Met l yX12_hasRow (wsOf yX12_hasRow cX12_hasRow 5 (some .boolean)) ({ frames := 2, cells := 0, slots := 0, locals := 120 }) (pc_t_X12_hasRow dC dI sz cB cI cJ cZ h0 a f w g z rb rk r1 row un b1 c1) (qc_t_X12_hasRow dC dI cB cI cJ cZ h0 a f w g z rb rk r1 row un b1 c1 (va_A (cs_t_X12_hasRow cB cI cJ cZ h0 a f w g z rb rk r1 row un b1 c1) sz)) 0 0 (va_A (cs_t_X12_hasRow cB cI cJ cZ h0 a f w g z rb rk r1 row un b1 c1) sz) := by
  refine Met.ofW (cc := cX12_hasRow) (maxL := 5) (ret := (some .boolean)) (by decide) rfl ?_
  intro p e s m args below meth c s₁ B hml hv
  obtain ⟨rfl, hsz, hP, hK, hD0⟩ := hv
  have hx := B.exec
  have hb := B.bytes
  have hr := B.returns
  have hts := atoms_spec (ws := (wsOf yX12_hasRow cX12_hasRow 5 (some .boolean))) B.pre
  have hown : s.vm.findClass RX12 = some m.cls := findClass_of_methodNamed B.named
  have hlocks := B.notSynchronized
  subst hsz
  have hD := hD0.self (sz := s.heap.size)
  generalize hAe : va_A (cs_t_X12_hasRow cB cI cJ cZ h0 a f w g z rb rk r1 row un b1 c1) s.heap.size = A at hD ⊢
  have hA : ∀ q : Nat, s.heap.size ≤ q → A q := fun q h => by rw [← hAe]; exact Or.inr h
  have hS : va_S A s.heap s.heap [] := va_S.rf
  have hP : va_P (dC, dI) vwCl [(h0, .inr (13, moF a f w)), (a 85, .inl (cJ, 400000, .inr (.inl g))), (a 86, .inl (cZ, 400000, .inl z)), (a 88, .inl (cI, 400, .inl rb)), (a 90, .inl (cI, 400, .inl rk))] s.heap := hP
  have hl := lv_entry ([.ref h0, .int (nI r1), .int (nI row), .int (nI un)]) (n := 5) (Nat.le_of_ble_eq_true rfl)
  rw [lg_entry_eq]
  generalize (lg_sl ([.ref h0, .int (nI r1), .int (nI row), .int (nI un)]) ++ List.replicate (5 - (lg_sl ([.ref h0, .int (nI r1), .int (nI row), .int (nI un)])).length) Slot.unset).toArray = ls at hl ⊢
  have hl : lv_has ls 5 [(0, .ref h0), (1, .int (nI r1)), (2, .int (nI row)), (3, .int (nI un))] := hl
  refine lv_iconst (v := 0) hx hb dX12_hasRow_0 (by decide) ?_
  refine lv_istore (lv' := [(4, .int 0), (0, .ref h0), (1, .int (nI r1)), (2, .int (nI row)), (3, .int (nI un))]) hx hb dX12_hasRow_1 hl (by decide) rfl (fun ls hl => ?_)
  have lp_3 : ∀ (n_ : Nat) (i : Nat), i ≤ un → hrF g z b1 c1 row un 0 = hrF g z b1 c1 row (un - i) i → un - i < n_ → ∀ (H : Heap) (locs : List Loc) (ls : Array Slot), va_P (dC, dI) vwCl [(h0, .inr (13, moF a f w)), (a 85, .inl (cJ, 400000, .inr (.inl g))), (a 86, .inl (cZ, 400000, .inl z)), (a 88, .inl (cI, 400, .inl rb)), (a 90, .inl (cI, 400, .inl rk))] H → va_D A [(h0, .inr (13, moF a f w)), (a 85, .inl (cJ, 400000, .inr (.inl g))), (a 86, .inl (cZ, 400000, .inl z)), (a 88, .inl (cI, 400, .inl rb)), (a 90, .inl (cI, 400, .inl rk))] → va_S A s.heap H locs → lv_has ls 5 [(4, .int (nI i)), (0, .ref h0), (1, .int (nI r1)), (2, .int (nI row)), (3, .int (nI un))] → W p l e (headSpec (wsOf yX12_hasRow cX12_hasRow 5 (some .boolean)) ({ frames := 2, cells := 0, slots := 0, locals := 120 })).room s m ([.ref h0, .int (nI r1), .int (nI row), .int (nI un)] : List Value).toArray below meth c H locs 0 0 (MQ below (qc_t_X12_hasRow dC dI cB cI cJ cZ h0 a f w g z rb rk r1 row un b1 c1 A) ([.ref h0, .int (nI r1), .int (nI row), .int (nI un)] : List Value).toArray s 0 0 A) (F0 m 3 ls []) := by
    intro n_
    induction n_ with
    | zero => intro i hi hin hm; exact absurd hm (Nat.not_lt_zero _)
    | succ n_ ih_3 =>
      intro i hi hin hm H locs ls hP hD hS hl
      refine lv_iload hx hb dX12_hasRow_3 (lv_at hl 0 rfl) ?_
      refine lv_iload_n hx hb dX12_hasRow_5 rfl (lv_at hl 4 rfl) ?_
      refine lv_icmp_ge (tgt := 38) hx hb dX12_hasRow_6 (by decide) (fun c_1 => ?_) (fun c_1 => ?_)
      · skip
        have c_1 : un ≤ i := (nI_leI (a := un) (b := i) (by omega) (by omega)).mp c_1
        refine lv_iconst (v := 0) hx hb dX12_hasRow_38 (by decide) ?_
        have hP9 := hP.sub (ws' := [(h0, .inr (13, moF a f w)), (a 85, .inl (cJ, 400000, .inr (.inl g))), (a 86, .inl (cZ, 400000, .inl z)), (a 88, .inl (cI, 400, .inl rb)), (a 90, .inl (cI, 400, .inl rk))]) [0, 1, 2, 3, 4] rfl
        have hD9 := hD.sub (ws' := [(h0, .inr (13, moF a f w)), (a 85, .inl (cJ, 400000, .inr (.inl g))), (a 86, .inl (cZ, 400000, .inl z)), (a 88, .inl (cI, 400, .inl rb)), (a 90, .inl (cI, 400, .inl rk))]) [0, 1, 2, 3, 4] (by decide) rfl
        have hK9 := hK.sub (tys' := [(cB, .byte), (cI, .int), (cJ, .long), (cZ, .boolean)]) [0, 1, 2, 3] rfl
        exact W.zret (v := 0) hx hb hr (by rfl) (fun t_ ht hW => ⟨⟨0, (), rfl, (by rw [hin, show un - i = 0 by omega]; rfl), by rw [ht]; exact hP9, va_K.moved hW.alike hK9, hD9⟩, hS.F ht⟩) hS.2.2 dX12_hasRow_39
      · skip
        have c_1 : ¬ (un ≤ i) := fun h => c_1 ((nI_leI (a := un) (b := i) (by omega) (by omega)).mpr h)
        refine lv_aload_n hx hb dX12_hasRow_9 rfl (lv_at hl 1 rfl) ?_
        refine lv_aload_n hx hb dX12_hasRow_10 rfl (lv_at hl 1 rfl) ?_
        refine lv_iload_n hx hb dX12_hasRow_11 rfl (lv_at hl 2 rfl) ?_
        refine lv_iload hx hb dX12_hasRow_12 (lv_at hl 0 rfl) ?_
        have hPc := hP.sub (ws' := [(h0, .inr (13, moF a f w)), (a 88, .inl (cI, 400, .inl rb)), (a 90, .inl (cI, 400, .inl rk))]) [0, 3, 4] rfl
        have hDc := hD.sub (ws' := [(h0, .inr (13, moF a f w)), (a 88, .inl (cI, 400, .inl rb)), (a 90, .inl (cI, 400, .inl rk))]) [0, 3, 4] (by decide) rfl
        have hKc := hK.sub (tys' := [(cB, .byte), (cI, .int), (cJ, .long), (cZ, .boolean)]) [0, 1, 2, 3] rfl
        have hFc := va_free (wc := [(h0, .inr (13, moF a f w)), (a 88, .inl (cI, 400, .inl rb)), (a 90, .inl (cI, 400, .inl rk))]) hD hS hA [0, 3, 4] rfl
        refine va_calli (va_runV (As := [.int (nI r1), .int (nI i)]) (rest := [.ref h0]) ⟨hx, hb, hml, hown, hts⟩ (t_X12_rowAt l dC dI H.size cB cI cJ cZ h0 a f w rb rk r1 i b1 c1 hr1 h1 h2) (cwV 2 hts (gd_all (in_V kw_2106 kw_2108 kw_108 kw_191 kc_X12_rowAt)) rfl rfl rfl (by decide +kernel) ⟨Nat.le_of_ble_eq_true rfl, Nat.le_of_ble_eq_true rfl⟩) ⟨fun a U g mk q => by obtain ⟨q0, q1, qP, qK, qD⟩ := q; exact ⟨q0, q1, qP, va_K.moved (u := U) (U := U.calling g mk a) (Vm.Alike.refl U.vm) qK, qD⟩, va_recv hKc hPc (ci := 13) (q0 := 0) rfl rfl, fun U hU hW => ⟨rfl, by rw [hU], by rw [hU]; exact hPc, va_K.moved hW.alike hKc, hDc.weaken (fun _ _ _ _ => trivial)⟩⟩ rfl rfl hl.1 rfl (lv_room (Nat.le_of_ble_eq_true rfl)) dX12_hasRow_14 ⟨Nat.le_of_ble_eq_true rfl, Nat.le_of_ble_eq_true rfl⟩) hS (fun q _ h => hFc q h) hFc (fun r_2 u t_ H1 locs ht hvm hw hB hz1 hk1 hS => ?_)
        obtain ⟨hP1, hK1, hD1⟩ := hB
        rw [ht] at hP1
        have hK1 := va_K.moved hvm.symm hK1
        obtain ⟨hP, hD⟩ := va_join (wr := [(a 85, .inl (cJ, 400000, .inr (.inl g))), (a 86, .inl (cZ, 400000, .inl z))]) (w1 := [(h0, .inr (13, moF a f w)), (a 88, .inl (cI, 400, .inl rb)), (a 90, .inl (cI, 400, .inl rk))]) hP hD [0, 3, 4] [1, 2] rfl rfl (by decide) (by decide) hk1 hFc hP1 hD1
        have hK := (hK.sub (tys' := []) [] rfl).app hK1
        generalize H1 = H at hP hS ⊢
        have hP : va_P (dC, dI) vwCl [(a 85, .inl (cJ, 400000, .inr (.inl g))), (a 86, .inl (cZ, 400000, .inl z)), (h0, .inr (13, moF a f w)), (a 88, .inl (cI, 400, .inl rb)), (a 90, .inl (cI, 400, .inl rk))] H := hP
        have hD : va_D A [(a 85, .inl (cJ, 400000, .inr (.inl g))), (a 86, .inl (cZ, 400000, .inl z)), (h0, .inr (13, moF a f w)), (a 88, .inl (cI, 400, .inl rb)), (a 90, .inl (cI, 400, .inl rk))] := hD
        have hK : va_K (dC, dI) vwCl [(cB, .byte), (cI, .int), (cJ, .long), (cZ, .boolean)] s := hK
        have er_2 : r_2 = nI (b1 + i * c1) := hw
        rw [er_2]
        refine lv_iload_n hx hb dX12_hasRow_17 rfl (lv_at hl 3 rfl) ?_
        refine lv_aload_n hx hb dX12_hasRow_18 rfl (lv_at hl 1 rfl) ?_
        refine va_get (D := (dC, dI)) (ci := 13) (v := .ref (a 90)) (C := RX12) (T := TX12) (N := 115) hx hb hts (fun w h => List.mem_cons_of_mem _ (uG_X12 w h)) hown hK hP 2 rfl rfl 90 (by decide) (hts _ (List.mem_cons_of_mem _ kw_1781)) (fun _ h9 => h9) rfl dX12_hasRow_19 ?_
        refine lv_iload_n hx hb dX12_hasRow_22 rfl (lv_at hl 2 rfl) ?_
        refine va_iald hx hb hK hP 4 1 rfl rfl (i := (nI r1)) (vp_in_nI (n := r1) (N := 400) (by omega) (by omega)) dX12_hasRow_23 ?_
        refine lv_topi (fun x_3 ex_3 => ?_)
        have ex_3 : x_3 = rk r1 := ex_3.trans (congrArg rk (nI_clamp (n := r1) (by omega)))
        have ex_3 : x_3 = nI c1 := ex_3.trans h2
        subst ex_3
        have hPc := hP.sub (ws' := [(h0, .inr (13, moF a f w)), (a 85, .inl (cJ, 400000, .inr (.inl g))), (a 86, .inl (cZ, 400000, .inl z))]) [2, 0, 1] rfl
        have hDc := hD.sub (ws' := [(h0, .inr (13, moF a f w)), (a 85, .inl (cJ, 400000, .inr (.inl g))), (a 86, .inl (cZ, 400000, .inl z))]) [2, 0, 1] (by decide) rfl
        have hKc := hK.sub (tys' := [(cB, .byte), (cI, .int), (cJ, .long), (cZ, .boolean)]) [0, 1, 2, 3] rfl
        have hFc := va_free (wc := [(h0, .inr (13, moF a f w)), (a 85, .inl (cJ, 400000, .inr (.inl g))), (a 86, .inl (cZ, 400000, .inl z))]) hD hS hA [2, 0, 1] rfl
        refine va_calli (va_runV (As := [.int (nI (b1 + i * c1)), .int (nI row), .int (nI c1)]) (rest := []) ⟨hx, hb, hml, hown, hts⟩ (t_X12_compareRows l dC dI H.size cB cI cJ cZ h0 a f w g z (b1 + i * c1) row c1 (by have := rowle (n := 400000 - b1) hun (show i < un by omega); omega) hrow) (cwV 3 hts (gd_all (in_V kw_2162 kw_2164 kw_121 kw_191 kc_X12_compareRows)) rfl rfl rfl (by decide +kernel) ⟨Nat.le_of_ble_eq_true rfl, Nat.le_of_ble_eq_true rfl⟩) ⟨fun a U g mk q => by obtain ⟨q0, q1, qP, qK, qD⟩ := q; exact ⟨q0, q1, qP, va_K.moved (u := U) (U := U.calling g mk a) (Vm.Alike.refl U.vm) qK, qD⟩, va_recv hKc hPc (ci := 13) (q0 := 0) rfl rfl, fun U hU hW => ⟨rfl, by rw [hU], by rw [hU]; exact hPc, va_K.moved hW.alike hKc, hDc.weaken (fun _ _ _ _ => trivial)⟩⟩ rfl rfl hl.1 rfl (lv_room (Nat.le_of_ble_eq_true rfl)) dX12_hasRow_24 ⟨Nat.le_of_ble_eq_true rfl, Nat.le_of_ble_eq_true rfl⟩) hS (fun q _ h => hFc q h) hFc (fun r_4 u t_ H1 locs ht hvm hw hB hz1 hk1 hS => ?_)
        obtain ⟨hP1, hK1, hD1⟩ := hB
        rw [ht] at hP1
        have hK1 := va_K.moved hvm.symm hK1
        obtain ⟨hP, hD⟩ := va_join (wr := [(a 88, .inl (cI, 400, .inl rb)), (a 90, .inl (cI, 400, .inl rk))]) (w1 := [(h0, .inr (13, moF a f w)), (a 85, .inl (cJ, 400000, .inr (.inl g))), (a 86, .inl (cZ, 400000, .inl z))]) hP hD [2, 0, 1] [3, 4] rfl rfl (by decide) (by decide) hk1 hFc hP1 hD1
        have hK := (hK.sub (tys' := []) [] rfl).app hK1
        generalize H1 = H at hP hS ⊢
        have hP : va_P (dC, dI) vwCl [(a 88, .inl (cI, 400, .inl rb)), (a 90, .inl (cI, 400, .inl rk)), (h0, .inr (13, moF a f w)), (a 85, .inl (cJ, 400000, .inr (.inl g))), (a 86, .inl (cZ, 400000, .inl z))] H := hP
        have hD : va_D A [(a 88, .inl (cI, 400, .inl rb)), (a 90, .inl (cI, 400, .inl rk)), (h0, .inr (13, moF a f w)), (a 85, .inl (cJ, 400000, .inr (.inl g))), (a 86, .inl (cZ, 400000, .inl z))] := hD
        have hK : va_K (dC, dI) vwCl [(cB, .byte), (cI, .int), (cJ, .long), (cZ, .boolean)] s := hK
        have er_4 : r_4 = mcF g z (b1 + i * c1) row c1 0 := hw
        rw [er_4]
        refine lv_if_ne (tgt := 32) hx hb dX12_hasRow_27 (by decide) (fun c_5 => ?_) (fun c_5 => ?_)
        · skip
          refine lv_iinc (v := nI (i + 1)) (lv' := [(4, .int (nI (i + 1))), (0, .ref h0), (1, .int (nI r1)), (2, .int (nI row)), (3, .int (nI un))]) hx hb dX12_hasRow_32 hl (k := 0) rfl (nI_add i 1) (by decide) rfl (fun ls hl => ?_)
          refine lv_goto (tgt := 3) hx hb dX12_hasRow_35 (by decide) ?_
          exact ih_3 (i + 1) (by omega) (hin.trans (hrF_n (by omega) c_5)) (by omega) _ _ _ (hP.sub [2, 3, 4, 0, 1] rfl) (hD.sub [2, 3, 4, 0, 1] (by decide) rfl) hS (lv_sub hl [0, 1, 2, 3, 4] rfl)
        · skip
          refine lv_iconst (v := 1) hx hb dX12_hasRow_30 (by decide) ?_
          have hP9 := hP.sub (ws' := [(h0, .inr (13, moF a f w)), (a 85, .inl (cJ, 400000, .inr (.inl g))), (a 86, .inl (cZ, 400000, .inl z)), (a 88, .inl (cI, 400, .inl rb)), (a 90, .inl (cI, 400, .inl rk))]) [2, 3, 4, 0, 1] rfl
          have hD9 := hD.sub (ws' := [(h0, .inr (13, moF a f w)), (a 85, .inl (cJ, 400000, .inr (.inl g))), (a 86, .inl (cZ, 400000, .inl z)), (a 88, .inl (cI, 400, .inl rb)), (a 90, .inl (cI, 400, .inl rk))]) [2, 3, 4, 0, 1] (by decide) rfl
          have hK9 := hK.sub (tys' := [(cB, .byte), (cI, .int), (cJ, .long), (cZ, .boolean)]) [0, 1, 2, 3] rfl
          exact W.zret (v := 1) hx hb hr (by rfl) (fun t_ ht hW => ⟨⟨1, (), rfl, (hin.trans (hrF_y (by omega) c_5)).symm, by rw [ht]; exact hP9, va_K.moved hW.alike hK9, hD9⟩, hS.F ht⟩) hS.2.2 dX12_hasRow_31
  exact lp_3 _ 0 (Nat.zero_le _) rfl (Nat.lt_succ_self _) _ _ _ (hP.sub [0, 1, 2, 3, 4] rfl) (hD.sub [0, 1, 2, 3, 4] (by decide) rfl) hS (lv_sub hl [0, 1, 2, 3, 4] rfl)
theorem dX12_since_0 : decode cX12_since 0 = .ok (.aload_n 0, 1) := by decide +kernel
theorem dX12_since_1 : decode cX12_since 1 = .ok (.getfield 133, 3) := by decide +kernel
theorem dX12_since_4 : decode cX12_since 4 = .ok (.iload_n 1, 1) := by decide +kernel
theorem dX12_since_5 : decode cX12_since 5 = .ok (.baload, 1) := by decide +kernel
theorem dX12_since_6 : decode cX12_since 6 = .ok (.ifCond .ne 7, 3) := by decide +kernel
theorem dX12_since_9 : decode cX12_since 9 = .ok (.ldc2_w 247, 3) := by decide +kernel
theorem dX12_since_12 : decode cX12_since 12 = .ok (.lreturn, 1) := by decide +kernel
theorem dX12_since_13 : decode cX12_since 13 = .ok (.aload_n 0, 1) := by decide +kernel
theorem dX12_since_14 : decode cX12_since 14 = .ok (.getfield 249, 3) := by decide +kernel
theorem dX12_since_17 : decode cX12_since 17 = .ok (.aload_n 0, 1) := by decide +kernel
theorem dX12_since_18 : decode cX12_since 18 = .ok (.getfield 136, 3) := by decide +kernel
theorem dX12_since_21 : decode cX12_since 21 = .ok (.iload_n 1, 1) := by decide +kernel
theorem dX12_since_22 : decode cX12_since 22 = .ok (.laload, 1) := by decide +kernel
theorem dX12_since_23 : decode cX12_since 23 = .ok (.lsub, 1) := by decide +kernel
theorem dX12_since_24 : decode cX12_since 24 = .ok (.lstore_n 2, 1) := by decide +kernel
theorem dX12_since_25 : decode cX12_since 25 = .ok (.lload_n 2, 1) := by decide +kernel
theorem dX12_since_26 : decode cX12_since 26 = .ok (.aload_n 0, 1) := by decide +kernel
theorem dX12_since_27 : decode cX12_since 27 = .ok (.getfield 249, 3) := by decide +kernel
theorem dX12_since_30 : decode cX12_since 30 = .ok (.lcmp, 1) := by decide +kernel
theorem dX12_since_31 : decode cX12_since 31 = .ok (.ifCond .le 9, 3) := by decide +kernel
theorem dX12_since_34 : decode cX12_since 34 = .ok (.ldc2_w 247, 3) := by decide +kernel
theorem dX12_since_37 : decode cX12_since 37 = .ok (.goto 4, 3) := by decide +kernel
theorem dX12_since_40 : decode cX12_since 40 = .ok (.lload_n 2, 1) := by decide +kernel
theorem dX12_since_41 : decode cX12_since 41 = .ok (.lreturn, 1) := by decide +kernel
abbrev cs_t_X12_since (cB cI cJ cZ : ClassId) (h0 : Nat) (a : Nat → Nat) (f : Nat → Int32) (w : Int64) (ks : Nat → Int32) (ke : Nat → Int64) (o1 : Nat) : va_W := [(h0, .inr (13, moF a f w)), (a 51, .inl (cZ, 180, .inl ks)), (a 52, .inl (cJ, 180, .inr (.inl ke)))]
abbrev pc_t_X12_since (dC : Nat → ClassId) (dI : Nat → Nat → Nat) (sz : Nat) (cB cI cJ cZ : ClassId) (h0 : Nat) (a : Nat → Nat) (f : Nat → Int32) (w : Int64) (ks : Nat → Int32) (ke : Nat → Int64) (o1 : Nat) : Array Value → State → Prop := va_Pc [.ref h0, .int (nI o1)] (fun U => U.heap.size = sz ∧ va_P (dC, dI) vwCl [(h0, .inr (13, moF a f w)), (a 51, .inl (cZ, 180, .inl ks)), (a 52, .inl (cJ, 180, .inr (.inl ke)))] U.heap ∧ va_K (dC, dI) vwCl [(cB, .byte), (cI, .int), (cJ, .long), (cZ, .boolean)] U ∧ va_D (fun _ => True) [(h0, .inr (13, moF a f w)), (a 51, .inl (cZ, 180, .inl ks)), (a 52, .inl (cJ, 180, .inr (.inl ke)))])
abbrev qc_t_X12_since (dC : Nat → ClassId) (dI : Nat → Nat → Nat) (cB cI cJ cZ : ClassId) (h0 : Nat) (a : Nat → Nat) (f : Nat → Int32) (w : Int64) (ks : Nat → Int32) (ke : Nat → Int64) (o1 : Nat) (A : Nat → Prop) : Array Value → State → Outcome → State → Prop := va_Ql (fun (r : Int64) (u : Unit) => match u with | _ => r = snF (ks o1) w (ke o1)) (fun (u : Unit) t_ => match u with | _ => va_P (dC, dI) vwCl [(h0, .inr (13, moF a f w)), (a 51, .inl (cZ, 180, .inl ks)), (a 52, .inl (cJ, 180, .inr (.inl ke)))] t_.heap ∧ va_K (dC, dI) vwCl [(cB, .byte), (cI, .int), (cJ, .long), (cZ, .boolean)] t_ ∧ va_D A [(h0, .inr (13, moF a f w)), (a 51, .inl (cZ, 180, .inl ks)), (a 52, .inl (cJ, 180, .inr (.inl ke)))]) A
set_option maxHeartbeats 4000000 in
set_option maxRecDepth 100000 in
theorem t_X12_since (l : Launch) (dC : Nat → ClassId) (dI : Nat → Nat → Nat) (sz : Nat) (cB cI cJ cZ : ClassId) (h0 : Nat) (a : Nat → Nat) (f : Nat → Int32) (w : Int64) (ks : Nat → Int32) (ke : Nat → Int64) (o1 : Nat) (ho1 : o1 < 180) : Met l yX12_since (wsOf yX12_since cX12_since 4 (some .long)) ({ frames := 0, cells := 0, slots := 0, locals := 0 }) (pc_t_X12_since dC dI sz cB cI cJ cZ h0 a f w ks ke o1) (qc_t_X12_since dC dI cB cI cJ cZ h0 a f w ks ke o1 (va_A (cs_t_X12_since cB cI cJ cZ h0 a f w ks ke o1) sz)) 0 0 (va_A (cs_t_X12_since cB cI cJ cZ h0 a f w ks ke o1) sz) := by
  refine Met.ofW (cc := cX12_since) (maxL := 4) (ret := (some .long)) (by decide) rfl ?_
  intro p e s m args below meth c s₁ B hml hv
  obtain ⟨rfl, hsz, hP, hK, hD0⟩ := hv
  have hx := B.exec
  have hb := B.bytes
  have hr := B.returns
  have hts := atoms_spec (ws := (wsOf yX12_since cX12_since 4 (some .long))) B.pre
  have hown : s.vm.findClass RX12 = some m.cls := findClass_of_methodNamed B.named
  have hlocks := B.notSynchronized
  subst hsz
  have hD := hD0.self (sz := s.heap.size)
  generalize hAe : va_A (cs_t_X12_since cB cI cJ cZ h0 a f w ks ke o1) s.heap.size = A at hD ⊢
  have hA : ∀ q : Nat, s.heap.size ≤ q → A q := fun q h => by rw [← hAe]; exact Or.inr h
  have hS : va_S A s.heap s.heap [] := va_S.rf
  have hP : va_P (dC, dI) vwCl [(h0, .inr (13, moF a f w)), (a 51, .inl (cZ, 180, .inl ks)), (a 52, .inl (cJ, 180, .inr (.inl ke)))] s.heap := hP
  have hl := lv_entry ([.ref h0, .int (nI o1)]) (n := 4) (Nat.le_of_ble_eq_true rfl)
  rw [lg_entry_eq]
  generalize (lg_sl ([.ref h0, .int (nI o1)]) ++ List.replicate (4 - (lg_sl ([.ref h0, .int (nI o1)])).length) Slot.unset).toArray = ls at hl ⊢
  have hl : lv_has ls 4 [(0, .ref h0), (1, .int (nI o1))] := hl
  refine lv_aload_n hx hb dX12_since_0 rfl (lv_at hl 0 rfl) ?_
  refine va_get (D := (dC, dI)) (ci := 13) (v := .ref (a 51)) (C := RX12) (T := TX12) (N := 115) hx hb hts (fun w h => List.mem_cons_of_mem _ (uG_X12 w h)) hown hK hP 0 rfl rfl 51 (by decide) (hts _ (List.mem_cons_of_mem _ kw_1742)) (fun _ h9 => h9) rfl dX12_since_1 ?_
  refine lv_iload_n hx hb dX12_since_4 rfl (lv_at hl 1 rfl) ?_
  refine va_zald hx hb hK hP 1 3 rfl rfl (i := (nI o1)) (vp_in_nI (n := o1) (N := 180) (by omega) (by omega)) dX12_since_5 ?_
  refine lv_topi (fun x_1 ex_1 => ?_)
  have ex_1 : x_1 = ks o1 := ex_1.trans (congrArg ks (nI_clamp (n := o1) (by omega)))
  subst ex_1
  refine lv_if_ne (tgt := 13) hx hb dX12_since_6 (by decide) (fun c_2 => ?_) (fun c_2 => ?_)
  · skip
    refine lv_aload_n hx hb dX12_since_13 rfl (lv_at hl 0 rfl) ?_
    refine va_get (D := (dC, dI)) (ci := 13) (v := .long w) (C := RX12) (T := TX12) (N := 115) hx hb hts (fun w h => List.mem_cons_of_mem _ (uG_X12 w h)) hown hK hP 0 rfl rfl 10 (by decide) (hts _ (List.mem_cons_of_mem _ kw_1701)) (fun _ h9 => h9) rfl dX12_since_14 ?_
    refine lv_aload_n hx hb dX12_since_17 rfl (lv_at hl 0 rfl) ?_
    refine va_get (D := (dC, dI)) (ci := 13) (v := .ref (a 52)) (C := RX12) (T := TX12) (N := 115) hx hb hts (fun w h => List.mem_cons_of_mem _ (uG_X12 w h)) hown hK hP 0 rfl rfl 52 (by decide) (hts _ (List.mem_cons_of_mem _ kw_1743)) (fun _ h9 => h9) rfl dX12_since_18 ?_
    refine lv_iload_n hx hb dX12_since_21 rfl (lv_at hl 1 rfl) ?_
    refine va_lald hx hb hK hP 2 2 rfl rfl (i := (nI o1)) (vp_in_nI (n := o1) (N := 180) (by omega) (by omega)) dX12_since_22 ?_
    refine lv_topl (fun x_3 ex_3 => ?_)
    have ex_3 : x_3 = ke o1 := ex_3.trans (congrArg ke (nI_clamp (n := o1) (by omega)))
    subst ex_3
    refine lv_lsub hx hb dX12_since_23 ?_
    refine lv_lstore_n (lv' := [(2, .long (w - (ke o1))), (0, .ref h0), (1, .int (nI o1))]) hx hb dX12_since_24 rfl hl (by decide) rfl (fun ls hl => ?_)
    refine lv_lload_n hx hb dX12_since_25 rfl (lv_at hl 0 rfl) ?_
    refine lv_aload_n hx hb dX12_since_26 rfl (lv_at hl 1 rfl) ?_
    refine va_get (D := (dC, dI)) (ci := 13) (v := .long w) (C := RX12) (T := TX12) (N := 115) hx hb hts (fun w h => List.mem_cons_of_mem _ (uG_X12 w h)) hown hK hP 0 rfl rfl 10 (by decide) (hts _ (List.mem_cons_of_mem _ kw_1701)) (fun _ h9 => h9) rfl dX12_since_27 ?_
    refine W.lcmp hx hb dX12_since_30 ?_
    refine lv_if_le (tgt := 40) hx hb dX12_since_31 (by decide) (fun c_4 => ?_) (fun c_4 => ?_)
    · skip
      have c_4 : (w - (ke o1)) ≤ w := (lg_cmp_le (w - (ke o1)) w).mp c_4
      refine lv_lload_n hx hb dX12_since_40 rfl (lv_at hl 0 rfl) ?_
      have hP9 := hP.sub (ws' := [(h0, .inr (13, moF a f w)), (a 51, .inl (cZ, 180, .inl ks)), (a 52, .inl (cJ, 180, .inr (.inl ke)))]) [0, 1, 2] rfl
      have hD9 := hD.sub (ws' := [(h0, .inr (13, moF a f w)), (a 51, .inl (cZ, 180, .inl ks)), (a 52, .inl (cJ, 180, .inr (.inl ke)))]) [0, 1, 2] (by decide) rfl
      have hK9 := hK.sub (tys' := [(cB, .byte), (cI, .int), (cJ, .long), (cZ, .boolean)]) [0, 1, 2, 3] rfl
      exact W.lret (v := (w - (ke o1))) hx hb hr (fun t_ ht hW => ⟨⟨(w - (ke o1)), (), rfl, by unfold snF; rw [if_neg c_2, if_pos c_4], by rw [ht]; exact hP9, va_K.moved hW.alike hK9, hD9⟩, hS.F ht⟩) hS.2.2 dX12_since_41
    · skip
      have c_4 : ¬ ((w - (ke o1)) ≤ w) := fun h => c_4 ((lg_cmp_le (w - (ke o1)) w).mpr h)
      refine lv_ldc2 hx hb hown (hts _ (List.mem_cons_of_mem _ kw_1690)) dX12_since_34 ?_
      refine lv_goto (tgt := 41) hx hb dX12_since_37 (by decide) ?_
      have hP9 := hP.sub (ws' := [(h0, .inr (13, moF a f w)), (a 51, .inl (cZ, 180, .inl ks)), (a 52, .inl (cJ, 180, .inr (.inl ke)))]) [0, 1, 2] rfl
      have hD9 := hD.sub (ws' := [(h0, .inr (13, moF a f w)), (a 51, .inl (cZ, 180, .inl ks)), (a 52, .inl (cJ, 180, .inr (.inl ke)))]) [0, 1, 2] (by decide) rfl
      have hK9 := hK.sub (tys' := [(cB, .byte), (cI, .int), (cJ, .long), (cZ, .boolean)]) [0, 1, 2, 3] rfl
      exact W.lret (v := (-9223372036854775808)) hx hb hr (fun t_ ht hW => ⟨⟨(-9223372036854775808), (), rfl, by unfold snF; rw [if_neg c_2, if_neg c_4], by rw [ht]; exact hP9, va_K.moved hW.alike hK9, hD9⟩, hS.F ht⟩) hS.2.2 dX12_since_41
  · skip
    refine lv_ldc2 hx hb hown (hts _ (List.mem_cons_of_mem _ kw_1690)) dX12_since_9 ?_
    have hP9 := hP.sub (ws' := [(h0, .inr (13, moF a f w)), (a 51, .inl (cZ, 180, .inl ks)), (a 52, .inl (cJ, 180, .inr (.inl ke)))]) [0, 1, 2] rfl
    have hD9 := hD.sub (ws' := [(h0, .inr (13, moF a f w)), (a 51, .inl (cZ, 180, .inl ks)), (a 52, .inl (cJ, 180, .inr (.inl ke)))]) [0, 1, 2] (by decide) rfl
    have hK9 := hK.sub (tys' := [(cB, .byte), (cI, .int), (cJ, .long), (cZ, .boolean)]) [0, 1, 2, 3] rfl
    exact W.lret (v := (-9223372036854775808)) hx hb hr (fun t_ ht hW => ⟨⟨(-9223372036854775808), (), rfl, by unfold snF; rw [if_pos c_2], by rw [ht]; exact hP9, va_K.moved hW.alike hK9, hD9⟩, hS.F ht⟩) hS.2.2 dX12_since_12
theorem dX12_isIn_0 : decode cX12_isIn 0 = .ok (.aload_n 0, 1) := by decide +kernel
theorem dX12_isIn_1 : decode cX12_isIn 1 = .ok (.getfield 20, 3) := by decide +kernel
theorem dX12_isIn_4 : decode cX12_isIn 4 = .ok (.iload_n 2, 1) := by decide +kernel
theorem dX12_isIn_5 : decode cX12_isIn 5 = .ok (.baload, 1) := by decide +kernel
theorem dX12_isIn_6 : decode cX12_isIn 6 = .ok (.ifCond .eq 31, 3) := by decide +kernel
theorem dX12_isIn_9 : decode cX12_isIn 9 = .ok (.aload_n 0, 1) := by decide +kernel
theorem dX12_isIn_10 : decode cX12_isIn 10 = .ok (.getfield 133, 3) := by decide +kernel
theorem dX12_isIn_13 : decode cX12_isIn 13 = .ok (.iload_n 1, 1) := by decide +kernel
theorem dX12_isIn_14 : decode cX12_isIn 14 = .ok (.baload, 1) := by decide +kernel
theorem dX12_isIn_15 : decode cX12_isIn 15 = .ok (.ifCond .eq 18, 3) := by decide +kernel
theorem dX12_isIn_18 : decode cX12_isIn 18 = .ok (.aload_n 0, 1) := by decide +kernel
theorem dX12_isIn_19 : decode cX12_isIn 19 = .ok (.getfield 24, 3) := by decide +kernel
theorem dX12_isIn_22 : decode cX12_isIn 22 = .ok (.iload_n 2, 1) := by decide +kernel
theorem dX12_isIn_23 : decode cX12_isIn 23 = .ok (.laload, 1) := by decide +kernel
theorem dX12_isIn_24 : decode cX12_isIn 24 = .ok (.aload_n 0, 1) := by decide +kernel
theorem dX12_isIn_25 : decode cX12_isIn 25 = .ok (.iload_n 1, 1) := by decide +kernel
theorem dX12_isIn_26 : decode cX12_isIn 26 = .ok (.invokevirtual 656, 3) := by decide +kernel
theorem dX12_isIn_29 : decode cX12_isIn 29 = .ok (.lcmp, 1) := by decide +kernel
theorem dX12_isIn_30 : decode cX12_isIn 30 = .ok (.ifCond .lt 7, 3) := by decide +kernel
theorem dX12_isIn_33 : decode cX12_isIn 33 = .ok (.iconst 1, 1) := by decide +kernel
theorem dX12_isIn_34 : decode cX12_isIn 34 = .ok (.goto 4, 3) := by decide +kernel
theorem dX12_isIn_37 : decode cX12_isIn 37 = .ok (.iconst 0, 1) := by decide +kernel
theorem dX12_isIn_38 : decode cX12_isIn 38 = .ok (.ireturn, 1) := by decide +kernel
abbrev cs_t_X12_isIn (cB cI cJ cZ : ClassId) (h0 : Nat) (a : Nat → Nat) (f : Nat → Int32) (w : Int64) (ks : Nat → Int32) (ke : Nat → Int64) (th : Nat → Int32) (tm : Nat → Int64) (o1 r1 : Nat) : va_W := [(h0, .inr (13, moF a f w)), (a 51, .inl (cZ, 180, .inl ks)), (a 52, .inl (cJ, 180, .inr (.inl ke))), (a 6, .inl (cZ, 48, .inl th)), (a 7, .inl (cJ, 48, .inr (.inl tm)))]
abbrev pc_t_X12_isIn (dC : Nat → ClassId) (dI : Nat → Nat → Nat) (sz : Nat) (cB cI cJ cZ : ClassId) (h0 : Nat) (a : Nat → Nat) (f : Nat → Int32) (w : Int64) (ks : Nat → Int32) (ke : Nat → Int64) (th : Nat → Int32) (tm : Nat → Int64) (o1 r1 : Nat) : Array Value → State → Prop := va_Pc [.ref h0, .int (nI o1), .int (nI r1)] (fun U => U.heap.size = sz ∧ va_P (dC, dI) vwCl [(h0, .inr (13, moF a f w)), (a 51, .inl (cZ, 180, .inl ks)), (a 52, .inl (cJ, 180, .inr (.inl ke))), (a 6, .inl (cZ, 48, .inl th)), (a 7, .inl (cJ, 48, .inr (.inl tm)))] U.heap ∧ va_K (dC, dI) vwCl [(cB, .byte), (cI, .int), (cJ, .long), (cZ, .boolean)] U ∧ va_D (fun _ => True) [(h0, .inr (13, moF a f w)), (a 51, .inl (cZ, 180, .inl ks)), (a 52, .inl (cJ, 180, .inr (.inl ke))), (a 6, .inl (cZ, 48, .inl th)), (a 7, .inl (cJ, 48, .inr (.inl tm)))])
abbrev qc_t_X12_isIn (dC : Nat → ClassId) (dI : Nat → Nat → Nat) (cB cI cJ cZ : ClassId) (h0 : Nat) (a : Nat → Nat) (f : Nat → Int32) (w : Int64) (ks : Nat → Int32) (ke : Nat → Int64) (th : Nat → Int32) (tm : Nat → Int64) (o1 r1 : Nat) (A : Nat → Prop) : Array Value → State → Outcome → State → Prop := va_Qi (fun (r : Int32) (u : Unit) => match u with | _ => r = inF (th r1) (ks o1) (tm r1) w (ke o1)) (fun (u : Unit) t_ => match u with | _ => va_P (dC, dI) vwCl [(h0, .inr (13, moF a f w)), (a 51, .inl (cZ, 180, .inl ks)), (a 52, .inl (cJ, 180, .inr (.inl ke))), (a 6, .inl (cZ, 48, .inl th)), (a 7, .inl (cJ, 48, .inr (.inl tm)))] t_.heap ∧ va_K (dC, dI) vwCl [(cB, .byte), (cI, .int), (cJ, .long), (cZ, .boolean)] t_ ∧ va_D A [(h0, .inr (13, moF a f w)), (a 51, .inl (cZ, 180, .inl ks)), (a 52, .inl (cJ, 180, .inr (.inl ke))), (a 6, .inl (cZ, 48, .inl th)), (a 7, .inl (cJ, 48, .inr (.inl tm)))]) A
set_option maxHeartbeats 4000000 in
set_option maxRecDepth 100000 in
theorem t_X12_isIn (l : Launch) (dC : Nat → ClassId) (dI : Nat → Nat → Nat) (sz : Nat) (cB cI cJ cZ : ClassId) (h0 : Nat) (a : Nat → Nat) (f : Nat → Int32) (w : Int64) (ks : Nat → Int32) (ke : Nat → Int64) (th : Nat → Int32) (tm : Nat → Int64) (o1 r1 : Nat) (ho1 : o1 < 180) (hr1 : r1 < 48) : Met l yX12_isIn (wsOf yX12_isIn cX12_isIn 3 (some .boolean)) ({ frames := 1, cells := 0, slots := 0, locals := 60 }) (pc_t_X12_isIn dC dI sz cB cI cJ cZ h0 a f w ks ke th tm o1 r1) (qc_t_X12_isIn dC dI cB cI cJ cZ h0 a f w ks ke th tm o1 r1 (va_A (cs_t_X12_isIn cB cI cJ cZ h0 a f w ks ke th tm o1 r1) sz)) 0 0 (va_A (cs_t_X12_isIn cB cI cJ cZ h0 a f w ks ke th tm o1 r1) sz) := by
  refine Met.ofW (cc := cX12_isIn) (maxL := 3) (ret := (some .boolean)) (by decide) rfl ?_
  intro p e s m args below meth c s₁ B hml hv
  obtain ⟨rfl, hsz, hP, hK, hD0⟩ := hv
  have hx := B.exec
  have hb := B.bytes
  have hr := B.returns
  have hts := atoms_spec (ws := (wsOf yX12_isIn cX12_isIn 3 (some .boolean))) B.pre
  have hown : s.vm.findClass RX12 = some m.cls := findClass_of_methodNamed B.named
  have hlocks := B.notSynchronized
  subst hsz
  have hD := hD0.self (sz := s.heap.size)
  generalize hAe : va_A (cs_t_X12_isIn cB cI cJ cZ h0 a f w ks ke th tm o1 r1) s.heap.size = A at hD ⊢
  have hA : ∀ q : Nat, s.heap.size ≤ q → A q := fun q h => by rw [← hAe]; exact Or.inr h
  have hS : va_S A s.heap s.heap [] := va_S.rf
  have hP : va_P (dC, dI) vwCl [(h0, .inr (13, moF a f w)), (a 51, .inl (cZ, 180, .inl ks)), (a 52, .inl (cJ, 180, .inr (.inl ke))), (a 6, .inl (cZ, 48, .inl th)), (a 7, .inl (cJ, 48, .inr (.inl tm)))] s.heap := hP
  have hl := lv_entry ([.ref h0, .int (nI o1), .int (nI r1)]) (n := 3) (Nat.le_of_ble_eq_true rfl)
  rw [lg_entry_eq]
  generalize (lg_sl ([.ref h0, .int (nI o1), .int (nI r1)]) ++ List.replicate (3 - (lg_sl ([.ref h0, .int (nI o1), .int (nI r1)])).length) Slot.unset).toArray = ls at hl ⊢
  have hl : lv_has ls 3 [(0, .ref h0), (1, .int (nI o1)), (2, .int (nI r1))] := hl
  refine lv_aload_n hx hb dX12_isIn_0 rfl (lv_at hl 0 rfl) ?_
  refine va_get (D := (dC, dI)) (ci := 13) (v := .ref (a 6)) (C := RX12) (T := TX12) (N := 115) hx hb hts (fun w h => List.mem_cons_of_mem _ (uG_X12 w h)) hown hK hP 0 rfl rfl 6 (by decide) (hts _ (List.mem_cons_of_mem _ kw_1697)) (fun _ h9 => h9) rfl dX12_isIn_1 ?_
  refine lv_iload_n hx hb dX12_isIn_4 rfl (lv_at hl 2 rfl) ?_
  refine va_zald hx hb hK hP 3 3 rfl rfl (i := (nI r1)) (vp_in_nI (n := r1) (N := 48) (by omega) (by omega)) dX12_isIn_5 ?_
  refine lv_topi (fun x_1 ex_1 => ?_)
  have ex_1 : x_1 = th r1 := ex_1.trans (congrArg th (nI_clamp (n := r1) (by omega)))
  subst ex_1
  refine lv_if_eq (tgt := 37) hx hb dX12_isIn_6 (by decide) (fun c_2 => ?_) (fun c_2 => ?_)
  · skip
    refine lv_iconst (v := 0) hx hb dX12_isIn_37 (by decide) ?_
    have hP9 := hP.sub (ws' := [(h0, .inr (13, moF a f w)), (a 51, .inl (cZ, 180, .inl ks)), (a 52, .inl (cJ, 180, .inr (.inl ke))), (a 6, .inl (cZ, 48, .inl th)), (a 7, .inl (cJ, 48, .inr (.inl tm)))]) [0, 1, 2, 3, 4] rfl
    have hD9 := hD.sub (ws' := [(h0, .inr (13, moF a f w)), (a 51, .inl (cZ, 180, .inl ks)), (a 52, .inl (cJ, 180, .inr (.inl ke))), (a 6, .inl (cZ, 48, .inl th)), (a 7, .inl (cJ, 48, .inr (.inl tm)))]) [0, 1, 2, 3, 4] (by decide) rfl
    have hK9 := hK.sub (tys' := [(cB, .byte), (cI, .int), (cJ, .long), (cZ, .boolean)]) [0, 1, 2, 3] rfl
    exact W.zret (v := 0) hx hb hr (by rfl) (fun t_ ht hW => ⟨⟨0, (), rfl, by unfold inF; rw [if_pos c_2], by rw [ht]; exact hP9, va_K.moved hW.alike hK9, hD9⟩, hS.F ht⟩) hS.2.2 dX12_isIn_38
  · skip
    refine lv_aload_n hx hb dX12_isIn_9 rfl (lv_at hl 0 rfl) ?_
    refine va_get (D := (dC, dI)) (ci := 13) (v := .ref (a 51)) (C := RX12) (T := TX12) (N := 115) hx hb hts (fun w h => List.mem_cons_of_mem _ (uG_X12 w h)) hown hK hP 0 rfl rfl 51 (by decide) (hts _ (List.mem_cons_of_mem _ kw_1742)) (fun _ h9 => h9) rfl dX12_isIn_10 ?_
    refine lv_iload_n hx hb dX12_isIn_13 rfl (lv_at hl 1 rfl) ?_
    refine va_zald hx hb hK hP 1 3 rfl rfl (i := (nI o1)) (vp_in_nI (n := o1) (N := 180) (by omega) (by omega)) dX12_isIn_14 ?_
    refine lv_topi (fun x_3 ex_3 => ?_)
    have ex_3 : x_3 = ks o1 := ex_3.trans (congrArg ks (nI_clamp (n := o1) (by omega)))
    subst ex_3
    refine lv_if_eq (tgt := 33) hx hb dX12_isIn_15 (by decide) (fun c_4 => ?_) (fun c_4 => ?_)
    · skip
      refine lv_iconst (v := 1) hx hb dX12_isIn_33 (by decide) ?_
      refine lv_goto (tgt := 38) hx hb dX12_isIn_34 (by decide) ?_
      have hP9 := hP.sub (ws' := [(h0, .inr (13, moF a f w)), (a 51, .inl (cZ, 180, .inl ks)), (a 52, .inl (cJ, 180, .inr (.inl ke))), (a 6, .inl (cZ, 48, .inl th)), (a 7, .inl (cJ, 48, .inr (.inl tm)))]) [0, 1, 2, 3, 4] rfl
      have hD9 := hD.sub (ws' := [(h0, .inr (13, moF a f w)), (a 51, .inl (cZ, 180, .inl ks)), (a 52, .inl (cJ, 180, .inr (.inl ke))), (a 6, .inl (cZ, 48, .inl th)), (a 7, .inl (cJ, 48, .inr (.inl tm)))]) [0, 1, 2, 3, 4] (by decide) rfl
      have hK9 := hK.sub (tys' := [(cB, .byte), (cI, .int), (cJ, .long), (cZ, .boolean)]) [0, 1, 2, 3] rfl
      exact W.zret (v := 1) hx hb hr (by rfl) (fun t_ ht hW => ⟨⟨1, (), rfl, by unfold inF; rw [if_neg c_2, if_pos c_4], by rw [ht]; exact hP9, va_K.moved hW.alike hK9, hD9⟩, hS.F ht⟩) hS.2.2 dX12_isIn_38
    · skip
      refine lv_aload_n hx hb dX12_isIn_18 rfl (lv_at hl 0 rfl) ?_
      refine va_get (D := (dC, dI)) (ci := 13) (v := .ref (a 7)) (C := RX12) (T := TX12) (N := 115) hx hb hts (fun w h => List.mem_cons_of_mem _ (uG_X12 w h)) hown hK hP 0 rfl rfl 7 (by decide) (hts _ (List.mem_cons_of_mem _ kw_1698)) (fun _ h9 => h9) rfl dX12_isIn_19 ?_
      refine lv_iload_n hx hb dX12_isIn_22 rfl (lv_at hl 2 rfl) ?_
      refine va_lald hx hb hK hP 4 2 rfl rfl (i := (nI r1)) (vp_in_nI (n := r1) (N := 48) (by omega) (by omega)) dX12_isIn_23 ?_
      refine lv_topl (fun x_5 ex_5 => ?_)
      have ex_5 : x_5 = tm r1 := ex_5.trans (congrArg tm (nI_clamp (n := r1) (by omega)))
      subst ex_5
      refine lv_aload_n hx hb dX12_isIn_24 rfl (lv_at hl 0 rfl) ?_
      refine lv_iload_n hx hb dX12_isIn_25 rfl (lv_at hl 1 rfl) ?_
      have hPc := hP.sub (ws' := [(h0, .inr (13, moF a f w)), (a 51, .inl (cZ, 180, .inl ks)), (a 52, .inl (cJ, 180, .inr (.inl ke)))]) [0, 1, 2] rfl
      have hDc := hD.sub (ws' := [(h0, .inr (13, moF a f w)), (a 51, .inl (cZ, 180, .inl ks)), (a 52, .inl (cJ, 180, .inr (.inl ke)))]) [0, 1, 2] (by decide) rfl
      have hKc := hK.sub (tys' := [(cB, .byte), (cI, .int), (cJ, .long), (cZ, .boolean)]) [0, 1, 2, 3] rfl
      have hFc := va_free (wc := [(h0, .inr (13, moF a f w)), (a 51, .inl (cZ, 180, .inl ks)), (a 52, .inl (cJ, 180, .inr (.inl ke)))]) hD hS hA [0, 1, 2] rfl
      refine va_calll (va_runV (As := [.int (nI o1)]) (rest := [.long (tm r1)]) ⟨hx, hb, hml, hown, hts⟩ (t_X12_since l dC dI s.heap.size cB cI cJ cZ h0 a f w ks ke o1 ho1) (cwV 1 hts (gd_all (in_V kw_2094 kw_2096 kw_105 kw_191 kc_X12_since)) rfl rfl rfl (by decide +kernel) ⟨Nat.le_of_ble_eq_true rfl, Nat.le_of_ble_eq_true rfl⟩) ⟨fun a U g mk q => by obtain ⟨q0, q1, qP, qK, qD⟩ := q; exact ⟨q0, q1, qP, va_K.moved (u := U) (U := U.calling g mk a) (Vm.Alike.refl U.vm) qK, qD⟩, va_recv hKc hPc (ci := 13) (q0 := 0) rfl rfl, fun U hU hW => ⟨rfl, by rw [hU], by rw [hU]; exact hPc, va_K.moved hW.alike hKc, hDc.weaken (fun _ _ _ _ => trivial)⟩⟩ rfl rfl hl.1 rfl (lv_room (Nat.le_of_ble_eq_true rfl)) dX12_isIn_26 ⟨Nat.le_of_ble_eq_true rfl, Nat.le_of_ble_eq_true rfl⟩) hS (fun q _ h => hFc q h) hFc (fun r_6 u t_ H1 locs ht hvm hw hB hz1 hk1 hS => ?_)
      obtain ⟨hP1, hK1, hD1⟩ := hB
      rw [ht] at hP1
      have hK1 := va_K.moved hvm.symm hK1
      obtain ⟨hP, hD⟩ := va_join (wr := [(a 6, .inl (cZ, 48, .inl th)), (a 7, .inl (cJ, 48, .inr (.inl tm)))]) (w1 := [(h0, .inr (13, moF a f w)), (a 51, .inl (cZ, 180, .inl ks)), (a 52, .inl (cJ, 180, .inr (.inl ke)))]) hP hD [0, 1, 2] [3, 4] rfl rfl (by decide) (by decide) hk1 hFc hP1 hD1
      have hK := (hK.sub (tys' := []) [] rfl).app hK1
      generalize H1 = H at hP hS ⊢
      have hP : va_P (dC, dI) vwCl [(a 6, .inl (cZ, 48, .inl th)), (a 7, .inl (cJ, 48, .inr (.inl tm))), (h0, .inr (13, moF a f w)), (a 51, .inl (cZ, 180, .inl ks)), (a 52, .inl (cJ, 180, .inr (.inl ke)))] H := hP
      have hD : va_D A [(a 6, .inl (cZ, 48, .inl th)), (a 7, .inl (cJ, 48, .inr (.inl tm))), (h0, .inr (13, moF a f w)), (a 51, .inl (cZ, 180, .inl ks)), (a 52, .inl (cJ, 180, .inr (.inl ke)))] := hD
      have hK : va_K (dC, dI) vwCl [(cB, .byte), (cI, .int), (cJ, .long), (cZ, .boolean)] s := hK
      have er_6 : r_6 = snF (ks o1) w (ke o1) := hw
      rw [er_6]
      refine W.lcmp hx hb dX12_isIn_29 ?_
      refine lv_if_lt (tgt := 37) hx hb dX12_isIn_30 (by decide) (fun c_7 => ?_) (fun c_7 => ?_)
      · skip
        have c_7 : (tm r1) < (snF (ks o1) w (ke o1)) := (lg_cmp_lt (tm r1) (snF (ks o1) w (ke o1))).mp c_7
        refine lv_iconst (v := 0) hx hb dX12_isIn_37 (by decide) ?_
        have hP9 := hP.sub (ws' := [(h0, .inr (13, moF a f w)), (a 51, .inl (cZ, 180, .inl ks)), (a 52, .inl (cJ, 180, .inr (.inl ke))), (a 6, .inl (cZ, 48, .inl th)), (a 7, .inl (cJ, 48, .inr (.inl tm)))]) [2, 3, 4, 0, 1] rfl
        have hD9 := hD.sub (ws' := [(h0, .inr (13, moF a f w)), (a 51, .inl (cZ, 180, .inl ks)), (a 52, .inl (cJ, 180, .inr (.inl ke))), (a 6, .inl (cZ, 48, .inl th)), (a 7, .inl (cJ, 48, .inr (.inl tm)))]) [2, 3, 4, 0, 1] (by decide) rfl
        have hK9 := hK.sub (tys' := [(cB, .byte), (cI, .int), (cJ, .long), (cZ, .boolean)]) [0, 1, 2, 3] rfl
        exact W.zret (v := 0) hx hb hr (by rfl) (fun t_ ht hW => ⟨⟨0, (), rfl, by unfold inF; rw [if_neg c_2, if_neg c_4, if_pos c_7], by rw [ht]; exact hP9, va_K.moved hW.alike hK9, hD9⟩, hS.F ht⟩) hS.2.2 dX12_isIn_38
      · skip
        have c_7 : ¬ ((tm r1) < (snF (ks o1) w (ke o1))) := fun h => c_7 ((lg_cmp_lt (tm r1) (snF (ks o1) w (ke o1))).mpr h)
        refine lv_iconst (v := 1) hx hb dX12_isIn_33 (by decide) ?_
        refine lv_goto (tgt := 38) hx hb dX12_isIn_34 (by decide) ?_
        have hP9 := hP.sub (ws' := [(h0, .inr (13, moF a f w)), (a 51, .inl (cZ, 180, .inl ks)), (a 52, .inl (cJ, 180, .inr (.inl ke))), (a 6, .inl (cZ, 48, .inl th)), (a 7, .inl (cJ, 48, .inr (.inl tm)))]) [2, 3, 4, 0, 1] rfl
        have hD9 := hD.sub (ws' := [(h0, .inr (13, moF a f w)), (a 51, .inl (cZ, 180, .inl ks)), (a 52, .inl (cJ, 180, .inr (.inl ke))), (a 6, .inl (cZ, 48, .inl th)), (a 7, .inl (cJ, 48, .inr (.inl tm)))]) [2, 3, 4, 0, 1] (by decide) rfl
        have hK9 := hK.sub (tys' := [(cB, .byte), (cI, .int), (cJ, .long), (cZ, .boolean)]) [0, 1, 2, 3] rfl
        exact W.zret (v := 1) hx hb hr (by rfl) (fun t_ ht hW => ⟨⟨1, (), rfl, by unfold inF; rw [if_neg c_2, if_neg c_4, if_neg c_7], by rw [ht]; exact hP9, va_K.moved hW.alike hK9, hD9⟩, hS.F ht⟩) hS.2.2 dX12_isIn_38

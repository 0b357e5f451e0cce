def strR (k : Nat) (n : Int32) : Int32 := if n < 1 then -1 else if 4 < n then -1 else if k < 6 then nI k else -1
def strK (k : Nat) (n : Int32) : Nat := if n < 1 then k else if 4 < n then k else if k < 6 then k + 1 else k
def strC (cf : Nat → Int32) (k : Nat) (n : Int32) : Nat → Int32 := if n < 1 then cf else if 4 < n then cf else if k < 6 then upd cf k n else cf
def drR (d : Nat) : Int32 := if 4 ≤ d then -1 else nI (d + 1)
def drK (d : Nat) : Nat := if 4 ≤ d then d else d + 1
def drX (xf : Nat → Int64) (d : Nat) (v : Int64) : Nat → Int64 := if 4 ≤ d then xf else vp_updL xf d v
def drY (yf : Nat → Int32) (d : Nat) (b : Int32) : Nat → Int32 := if 4 ≤ d then yf else upd yf d b
theorem dX12_feed_0 : decode cX12_feed 0 = .ok (.aload_n 0, 1) := by decide +kernel
theorem dX12_feed_1 : decode cX12_feed 1 = .ok (.getfield 253, 3) := by decide +kernel
theorem dX12_feed_4 : decode cX12_feed 4 = .ok (.bipush 20, 2) := by decide +kernel
theorem dX12_feed_6 : decode cX12_feed 6 = .ok (.iadd, 1) := by decide +kernel
theorem dX12_feed_7 : decode cX12_feed 7 = .ok (.sipush 2000, 3) := by decide +kernel
theorem dX12_feed_10 : decode cX12_feed 10 = .ok (.if_icmp .le 5, 3) := by decide +kernel
theorem dX12_feed_13 : decode cX12_feed 13 = .ok (.iconst (-1), 1) := by decide +kernel
theorem dX12_feed_14 : decode cX12_feed 14 = .ok (.ireturn, 1) := by decide +kernel
theorem dX12_feed_15 : decode cX12_feed 15 = .ok (.aload_n 0, 1) := by decide +kernel
theorem dX12_feed_16 : decode cX12_feed 16 = .ok (.iload_n 1, 1) := by decide +kernel
theorem dX12_feed_17 : decode cX12_feed 17 = .ok (.invokevirtual 257, 3) := by decide +kernel
theorem dX12_feed_20 : decode cX12_feed 20 = .ok (.aload_n 0, 1) := by decide +kernel
theorem dX12_feed_21 : decode cX12_feed 21 = .ok (.iload_n 2, 1) := by decide +kernel
theorem dX12_feed_22 : decode cX12_feed 22 = .ok (.invokevirtual 257, 3) := by decide +kernel
theorem dX12_feed_25 : decode cX12_feed 25 = .ok (.aload_n 0, 1) := by decide +kernel
theorem dX12_feed_26 : decode cX12_feed 26 = .ok (.iload_n 3, 1) := by decide +kernel
theorem dX12_feed_27 : decode cX12_feed 27 = .ok (.invokevirtual 257, 3) := by decide +kernel
theorem dX12_feed_30 : decode cX12_feed 30 = .ok (.aload_n 0, 1) := by decide +kernel
theorem dX12_feed_31 : decode cX12_feed 31 = .ok (.iload 4, 2) := by decide +kernel
theorem dX12_feed_33 : decode cX12_feed 33 = .ok (.invokevirtual 257, 3) := by decide +kernel
theorem dX12_feed_36 : decode cX12_feed 36 = .ok (.aload_n 0, 1) := by decide +kernel
theorem dX12_feed_37 : decode cX12_feed 37 = .ok (.iload 5, 2) := by decide +kernel
theorem dX12_feed_39 : decode cX12_feed 39 = .ok (.invokevirtual 257, 3) := by decide +kernel
theorem dX12_feed_42 : decode cX12_feed 42 = .ok (.aload_n 0, 1) := by decide +kernel
theorem dX12_feed_43 : decode cX12_feed 43 = .ok (.getfield 253, 3) := by decide +kernel
theorem dX12_feed_46 : decode cX12_feed 46 = .ok (.ireturn, 1) := by decide +kernel
abbrev cs_t_X12_feed (cB cI cJ cZ : ClassId) (h0 : Nat) (a : Nat → Nat) (g : Nat → Int32) (t : Nat) (f : Nat → Int32) (w : Int64) (x1 x2 x3 x4 x5 : Int32) : va_W := [(h0, .inr (13, moF a (upd f 1 (nI t)) w)), (a 0, .inl (cB, 2000, .inl g))]
abbrev pc_t_X12_feed (dC : Nat → ClassId) (dI : Nat → Nat → Nat) (sz : Nat) (cB cI cJ cZ : ClassId) (h0 : Nat) (a : Nat → Nat) (g : Nat → Int32) (t : Nat) (f : Nat → Int32) (w : Int64) (x1 x2 x3 x4 x5 : Int32) : Array Value → State → Prop := va_Pc [.ref h0, .int x1, .int x2, .int x3, .int x4, .int x5] (fun U => U.heap.size = sz ∧ va_P (dC, dI) vwCl [(h0, .inr (13, moF a (upd f 1 (nI t)) w)), (a 0, .inl (cB, 2000, .inl g))] U.heap ∧ va_K (dC, dI) vwCl [(cB, .byte), (cI, .int), (cJ, .long), (cZ, .boolean)] U ∧ va_D (fun _ => True) [(h0, .inr (13, moF a (upd f 1 (nI t)) w)), (a 0, .inl (cB, 2000, .inl g))])
abbrev qc_t_X12_feed (dC : Nat → ClassId) (dI : Nat → Nat → Nat) (cB cI cJ cZ : ClassId) (h0 : Nat) (a : Nat → Nat) (g : Nat → Int32) (t : Nat) (f : Nat → Int32) (w : Int64) (x1 x2 x3 x4 x5 : Int32) (A : Nat → Prop) : Array Value → State → Outcome → State → Prop := va_Qi (fun (r : Int32) (u : Nat × (Nat → Int32)) => match u with | (t2, g2) => r = feedR t ∧ t2 = feedT t ∧ g2 = feedG g t x1 x2 x3 x4 x5) (fun (u : Nat × (Nat → Int32)) t_ => match u with | (t2, g2) => va_P (dC, dI) vwCl [(h0, .inr (13, moF a (upd f 1 (nI t2)) w)), (a 0, .inl (cB, 2000, .inl g2))] t_.heap ∧ va_K (dC, dI) vwCl [(cB, .byte), (cI, .int), (cJ, .long), (cZ, .boolean)] t_ ∧ va_D A [(h0, .inr (13, moF a (upd f 1 (nI t2)) w)), (a 0, .inl (cB, 2000, .inl g2))]) A
set_option maxHeartbeats 4000000 in
set_option maxRecDepth 100000 in
theorem t_X12_feed (l : Launch) (dC : Nat → ClassId) (dI : Nat → Nat → Nat) (sz : Nat) (cB cI cJ cZ : ClassId) (h0 : Nat) (a : Nat → Nat) (g : Nat → Int32) (t : Nat) (f : Nat → Int32) (w : Int64) (x1 x2 x3 x4 x5 : Int32) (ht : t ≤ 2000) : Met l yX12_feed (wsOf yX12_feed cX12_feed 6 (some .int)) ({ frames := 1, cells := 0, slots := 0, locals := 22 }) (pc_t_X12_feed dC dI sz cB cI cJ cZ h0 a g t f w x1 x2 x3 x4 x5) (qc_t_X12_feed dC dI cB cI cJ cZ h0 a g t f w x1 x2 x3 x4 x5 (va_A (cs_t_X12_feed cB cI cJ cZ h0 a g t f w x1 x2 x3 x4 x5) sz)) 0 0 (va_A (cs_t_X12_feed cB cI cJ cZ h0 a g t f w x1 x2 x3 x4 x5) sz) := by
  refine Met.ofW (cc := cX12_feed) (maxL := 6) (ret := (some .int)) (by decide) rfl ?_
  intro p e s m args below meth c s₁ B hml hv
  obtain ⟨rfl, hsz, hP, hK, hD0⟩ := hv
  have hx := B.exec
  have hb := B.bytes
  have hr := B.returns
  have hts := atoms_spec (ws := (wsOf yX12_feed cX12_feed 6 (some .int))) B.pre
  have hown : s.vm.findClass RX12 = some m.cls := findClass_of_methodNamed B.named
  have hlocks := B.notSynchronized
  subst hsz
  have hD := hD0.self (sz := s.heap.size)
  generalize hAe : va_A (cs_t_X12_feed cB cI cJ cZ h0 a g t f w x1 x2 x3 x4 x5) s.heap.size = A at hD ⊢
  have hA : ∀ q : Nat, s.heap.size ≤ q → A q := fun q h => by rw [← hAe]; exact Or.inr h
  have hS : va_S A s.heap s.heap [] := va_S.rf
  have hP : va_P (dC, dI) vwCl [(h0, .inr (13, moF a (upd f 1 (nI t)) w)), (a 0, .inl (cB, 2000, .inl g))] s.heap := hP
  have hl := lv_entry ([.ref h0, .int x1, .int x2, .int x3, .int x4, .int x5]) (n := 6) (Nat.le_of_ble_eq_true rfl)
  rw [lg_entry_eq]
  generalize (lg_sl ([.ref h0, .int x1, .int x2, .int x3, .int x4, .int x5]) ++ List.replicate (6 - (lg_sl ([.ref h0, .int x1, .int x2, .int x3, .int x4, .int x5])).length) Slot.unset).toArray = ls at hl ⊢
  have hl : lv_has ls 6 [(0, .ref h0), (1, .int x1), (2, .int x2), (3, .int x3), (4, .int x4), (5, .int x5)] := hl
  refine lv_aload_n hx hb dX12_feed_0 rfl (lv_at hl 0 rfl) ?_
  refine va_get (D := (dC, dI)) (ci := 13) (v := .int (nI t)) (C := RX12) (T := TX12) (N := 115) hx hb hts (fun w h => List.mem_cons_of_mem _ (uG_X12 w h)) hown hK hP 0 rfl rfl 1 (by decide) (hts _ (List.mem_cons_of_mem _ kw_1692)) (fun _ h9 => h9) rfl dX12_feed_1 ?_
  refine lv_bipush (v := 20) hx hb dX12_feed_4 (by decide) ?_
  refine lv_iadd hx hb dX12_feed_6 ?_
  refine lv_topi (fun x_1 ex_1 => ?_)
  have ex_1 : x_1 = nI (t + 20) := ex_1.trans (nI_add t 20)
  subst ex_1
  refine lv_sipush (v := 2000) hx hb dX12_feed_7 (by decide) ?_
  refine lv_icmp_le (tgt := 15) hx hb dX12_feed_10 (by decide) (fun c_2 => ?_) (fun c_2 => ?_)
  · skip
    have c_2 : t + 20 ≤ 2000 := (nI_leI (a := t + 20) (b := 2000) (by omega) (by omega)).mp c_2
    refine lv_aload_n hx hb dX12_feed_15 rfl (lv_at hl 0 rfl) ?_
    refine lv_iload_n hx hb dX12_feed_16 rfl (lv_at hl 1 rfl) ?_
    have hPc := hP.sub (ws' := [(h0, .inr (13, moF a (upd f 1 (nI t)) w)), (a 0, .inl (cB, 2000, .inl g))]) [0, 1] rfl
    have hDc := hD.sub (ws' := [(h0, .inr (13, moF a (upd f 1 (nI t)) w)), (a 0, .inl (cB, 2000, .inl g))]) [0, 1] (by decide) rfl
    have hKc := hK.sub (tys' := [(cB, .byte), (cI, .int), (cJ, .long), (cZ, .boolean)]) [0, 1, 2, 3] rfl
    have hFc := va_free (wc := [(h0, .inr (13, moF a (upd f 1 (nI t)) w)), (a 0, .inl (cB, 2000, .inl g))]) hD hS hA [0, 1] rfl
    refine va_callv (va_runV (As := [.int x1]) (rest := []) ⟨hx, hb, hml, hown, hts⟩ (t_X12_lay l dC dI s.heap.size cB cI cJ cZ h0 a g t f w x1 (by omega)) (cwV 1 hts (gd_all (in_V kw_2042 kw_2044 kw_97 kw_191 kc_X12_lay)) rfl rfl rfl (by decide +kernel) ⟨Nat.le_of_ble_eq_true rfl, Nat.le_of_ble_eq_true rfl⟩) ⟨fun a U g mk q => by obtain ⟨q0, q1, qP, qK, qD⟩ := q; exact ⟨q0, q1, qP, va_K.moved (u := U) (U := U.calling g mk a) (Vm.Alike.refl U.vm) qK, qD⟩, va_recv hKc hPc (ci := 13) (q0 := 0) rfl rfl, fun U hU hW => ⟨rfl, by rw [hU], by rw [hU]; exact hPc, va_K.moved hW.alike hKc, hDc.weaken (fun _ _ _ _ => trivial)⟩⟩ rfl rfl hl.1 rfl (lv_room (Nat.le_of_ble_eq_true rfl)) dX12_feed_17 ⟨Nat.le_of_ble_eq_true rfl, Nat.le_of_ble_eq_true rfl⟩) hS (fun q _ h => hFc q h) hFc (fun u t_ H1 locs ht hvm hw hB hz1 hk1 hS => ?_)
    obtain ⟨hP1, hK1, hD1⟩ := hB
    rw [ht] at hP1
    have hK1 := va_K.moved hvm.symm hK1
    obtain ⟨hP, hD⟩ := va_join (wr := []) (w1 := [(h0, .inr (13, moF a (upd f 1 (nI (t + 4))) w)), (a 0, .inl (cB, 2000, .inl (lay4 g t x1)))]) hP hD [0, 1] [] rfl rfl (by decide) (by decide) hk1 hFc hP1 hD1
    have hK := (hK.sub (tys' := []) [] rfl).app hK1
    generalize H1 = H at hP hS ⊢
    have hP : va_P (dC, dI) vwCl [(h0, .inr (13, moF a (upd f 1 (nI (t + 4))) w)), (a 0, .inl (cB, 2000, .inl (lay4 g t x1)))] H := hP
    have hD : va_D A [(h0, .inr (13, moF a (upd f 1 (nI (t + 4))) w)), (a 0, .inl (cB, 2000, .inl (lay4 g t x1)))] := hD
    have hK : va_K (dC, dI) vwCl [(cB, .byte), (cI, .int), (cJ, .long), (cZ, .boolean)] s := hK
    refine lv_aload_n hx hb dX12_feed_20 rfl (lv_at hl 0 rfl) ?_
    refine lv_iload_n hx hb dX12_feed_21 rfl (lv_at hl 2 rfl) ?_
    have hPc := hP.sub (ws' := [(h0, .inr (13, moF a (upd f 1 (nI (t + 4))) w)), (a 0, .inl (cB, 2000, .inl (lay4 g t x1)))]) [0, 1] rfl
    have hDc := hD.sub (ws' := [(h0, .inr (13, moF a (upd f 1 (nI (t + 4))) w)), (a 0, .inl (cB, 2000, .inl (lay4 g t x1)))]) [0, 1] (by decide) rfl
    have hKc := hK.sub (tys' := [(cB, .byte), (cI, .int), (cJ, .long), (cZ, .boolean)]) [0, 1, 2, 3] rfl
    have hFc := va_free (wc := [(h0, .inr (13, moF a (upd f 1 (nI (t + 4))) w)), (a 0, .inl (cB, 2000, .inl (lay4 g t x1)))]) hD hS hA [0, 1] rfl
    refine va_callv (va_runV (As := [.int x2]) (rest := []) ⟨hx, hb, hml, hown, hts⟩ (t_X12_lay l dC dI H.size cB cI cJ cZ h0 a (lay4 g t x1) (t + 4) f w x2 (by omega)) (cwV 1 hts (gd_all (in_V kw_2042 kw_2044 kw_97 kw_191 kc_X12_lay)) rfl rfl rfl (by decide +kernel) ⟨Nat.le_of_ble_eq_true rfl, Nat.le_of_ble_eq_true rfl⟩) ⟨fun a U g mk q => by obtain ⟨q0, q1, qP, qK, qD⟩ := q; exact ⟨q0, q1, qP, va_K.moved (u := U) (U := U.calling g mk a) (Vm.Alike.refl U.vm) qK, qD⟩, va_recv hKc hPc (ci := 13) (q0 := 0) rfl rfl, fun U hU hW => ⟨rfl, by rw [hU], by rw [hU]; exact hPc, va_K.moved hW.alike hKc, hDc.weaken (fun _ _ _ _ => trivial)⟩⟩ rfl rfl hl.1 rfl (lv_room (Nat.le_of_ble_eq_true rfl)) dX12_feed_22 ⟨Nat.le_of_ble_eq_true rfl, Nat.le_of_ble_eq_true rfl⟩) hS (fun q _ h => hFc q h) hFc (fun u t_ H1 locs ht hvm hw hB hz1 hk1 hS => ?_)
    obtain ⟨hP1, hK1, hD1⟩ := hB
    rw [ht] at hP1
    have hK1 := va_K.moved hvm.symm hK1
    obtain ⟨hP, hD⟩ := va_join (wr := []) (w1 := [(h0, .inr (13, moF a (upd f 1 (nI (t + 4 + 4))) w)), (a 0, .inl (cB, 2000, .inl (lay4 (lay4 g t x1) (t + 4) x2)))]) hP hD [0, 1] [] rfl rfl (by decide) (by decide) hk1 hFc hP1 hD1
    have hK := (hK.sub (tys' := []) [] rfl).app hK1
    generalize H1 = H at hP hS ⊢
    have hP : va_P (dC, dI) vwCl [(h0, .inr (13, moF a (upd f 1 (nI (t + 4 + 4))) w)), (a 0, .inl (cB, 2000, .inl (lay4 (lay4 g t x1) (t + 4) x2)))] H := hP
    have hD : va_D A [(h0, .inr (13, moF a (upd f 1 (nI (t + 4 + 4))) w)), (a 0, .inl (cB, 2000, .inl (lay4 (lay4 g t x1) (t + 4) x2)))] := hD
    have hK : va_K (dC, dI) vwCl [(cB, .byte), (cI, .int), (cJ, .long), (cZ, .boolean)] s := hK
    refine lv_aload_n hx hb dX12_feed_25 rfl (lv_at hl 0 rfl) ?_
    refine lv_iload_n hx hb dX12_feed_26 rfl (lv_at hl 3 rfl) ?_
    have hPc := hP.sub (ws' := [(h0, .inr (13, moF a (upd f 1 (nI (t + 4 + 4))) w)), (a 0, .inl (cB, 2000, .inl (lay4 (lay4 g t x1) (t + 4) x2)))]) [0, 1] rfl
    have hDc := hD.sub (ws' := [(h0, .inr (13, moF a (upd f 1 (nI (t + 4 + 4))) w)), (a 0, .inl (cB, 2000, .inl (lay4 (lay4 g t x1) (t + 4) x2)))]) [0, 1] (by decide) rfl
    have hKc := hK.sub (tys' := [(cB, .byte), (cI, .int), (cJ, .long), (cZ, .boolean)]) [0, 1, 2, 3] rfl
    have hFc := va_free (wc := [(h0, .inr (13, moF a (upd f 1 (nI (t + 4 + 4))) w)), (a 0, .inl (cB, 2000, .inl (lay4 (lay4 g t x1) (t + 4) x2)))]) hD hS hA [0, 1] rfl
    refine va_callv (va_runV (As := [.int x3]) (rest := []) ⟨hx, hb, hml, hown, hts⟩ (t_X12_lay l dC dI H.size cB cI cJ cZ h0 a (lay4 (lay4 g t x1) (t + 4) x2) (t + 4 + 4) f w x3 (by omega)) (cwV 1 hts (gd_all (in_V kw_2042 kw_2044 kw_97 kw_191 kc_X12_lay)) rfl rfl rfl (by decide +kernel) ⟨Nat.le_of_ble_eq_true rfl, Nat.le_of_ble_eq_true rfl⟩) ⟨fun a U g mk q => by obtain ⟨q0, q1, qP, qK, qD⟩ := q; exact ⟨q0, q1, qP, va_K.moved (u := U) (U := U.calling g mk a) (Vm.Alike.refl U.vm) qK, qD⟩, va_recv hKc hPc (ci := 13) (q0 := 0) rfl rfl, fun U hU hW => ⟨rfl, by rw [hU], by rw [hU]; exact hPc, va_K.moved hW.alike hKc, hDc.weaken (fun _ _ _ _ => trivial)⟩⟩ rfl rfl hl.1 rfl (lv_room (Nat.le_of_ble_eq_true rfl)) dX12_feed_27 ⟨Nat.le_of_ble_eq_true rfl, Nat.le_of_ble_eq_true rfl⟩) hS (fun q _ h => hFc q h) hFc (fun u t_ H1 locs ht hvm hw hB hz1 hk1 hS => ?_)
    obtain ⟨hP1, hK1, hD1⟩ := hB
    rw [ht] at hP1
    have hK1 := va_K.moved hvm.symm hK1
    obtain ⟨hP, hD⟩ := va_join (wr := []) (w1 := [(h0, .inr (13, moF a (upd f 1 (nI (t + 4 + 4 + 4))) w)), (a 0, .inl (cB, 2000, .inl (lay4 (lay4 (lay4 g t x1) (t + 4) x2) (t + 4 + 4) x3)))]) hP hD [0, 1] [] rfl rfl (by decide) (by decide) hk1 hFc hP1 hD1
    have hK := (hK.sub (tys' := []) [] rfl).app hK1
    generalize H1 = H at hP hS ⊢
    have hP : va_P (dC, dI) vwCl [(h0, .inr (13, moF a (upd f 1 (nI (t + 4 + 4 + 4))) w)), (a 0, .inl (cB, 2000, .inl (lay4 (lay4 (lay4 g t x1) (t + 4) x2) (t + 4 + 4) x3)))] H := hP
    have hD : va_D A [(h0, .inr (13, moF a (upd f 1 (nI (t + 4 + 4 + 4))) w)), (a 0, .inl (cB, 2000, .inl (lay4 (lay4 (lay4 g t x1) (t + 4) x2) (t + 4 + 4) x3)))] := hD
    have hK : va_K (dC, dI) vwCl [(cB, .byte), (cI, .int), (cJ, .long), (cZ, .boolean)] s := hK
    refine lv_aload_n hx hb dX12_feed_30 rfl (lv_at hl 0 rfl) ?_
    refine lv_iload hx hb dX12_feed_31 (lv_at hl 4 rfl) ?_
    have hPc := hP.sub (ws' := [(h0, .inr (13, moF a (upd f 1 (nI (t + 4 + 4 + 4))) w)), (a 0, .inl (cB, 2000, .inl (lay4 (lay4 (lay4 g t x1) (t + 4) x2) (t + 4 + 4) x3)))]) [0, 1] rfl
    have hDc := hD.sub (ws' := [(h0, .inr (13, moF a (upd f 1 (nI (t + 4 + 4 + 4))) w)), (a 0, .inl (cB, 2000, .inl (lay4 (lay4 (lay4 g t x1) (t + 4) x2) (t + 4 + 4) x3)))]) [0, 1] (by decide) rfl
    have hKc := hK.sub (tys' := [(cB, .byte), (cI, .int), (cJ, .long), (cZ, .boolean)]) [0, 1, 2, 3] rfl
    have hFc := va_free (wc := [(h0, .inr (13, moF a (upd f 1 (nI (t + 4 + 4 + 4))) w)), (a 0, .inl (cB, 2000, .inl (lay4 (lay4 (lay4 g t x1) (t + 4) x2) (t + 4 + 4) x3)))]) hD hS hA [0, 1] rfl
    refine va_callv (va_runV (As := [.int x4]) (rest := []) ⟨hx, hb, hml, hown, hts⟩ (t_X12_lay l dC dI H.size cB cI cJ cZ h0 a (lay4 (lay4 (lay4 g t x1) (t + 4) x2) (t + 4 + 4) x3) (t + 4 + 4 + 4) f w x4 (by omega)) (cwV 1 hts (gd_all (in_V kw_2042 kw_2044 kw_97 kw_191 kc_X12_lay)) rfl rfl rfl (by decide +kernel) ⟨Nat.le_of_ble_eq_true rfl, Nat.le_of_ble_eq_true rfl⟩) ⟨fun a U g mk q => by obtain ⟨q0, q1, qP, qK, qD⟩ := q; exact ⟨q0, q1, qP, va_K.moved (u := U) (U := U.calling g mk a) (Vm.Alike.refl U.vm) qK, qD⟩, va_recv hKc hPc (ci := 13) (q0 := 0) rfl rfl, fun U hU hW => ⟨rfl, by rw [hU], by rw [hU]; exact hPc, va_K.moved hW.alike hKc, hDc.weaken (fun _ _ _ _ => trivial)⟩⟩ rfl rfl hl.1 rfl (lv_room (Nat.le_of_ble_eq_true rfl)) dX12_feed_33 ⟨Nat.le_of_ble_eq_true rfl, Nat.le_of_ble_eq_true rfl⟩) hS (fun q _ h => hFc q h) hFc (fun u t_ H1 locs ht hvm hw hB hz1 hk1 hS => ?_)
    obtain ⟨hP1, hK1, hD1⟩ := hB
    rw [ht] at hP1
    have hK1 := va_K.moved hvm.symm hK1
    obtain ⟨hP, hD⟩ := va_join (wr := []) (w1 := [(h0, .inr (13, moF a (upd f 1 (nI (t + 4 + 4 + 4 + 4))) w)), (a 0, .inl (cB, 2000, .inl (lay4 (lay4 (lay4 (lay4 g t x1) (t + 4) x2) (t + 4 + 4) x3) (t + 4 + 4 + 4) x4)))]) hP hD [0, 1] [] rfl rfl (by decide) (by decide) hk1 hFc hP1 hD1
    have hK := (hK.sub (tys' := []) [] rfl).app hK1
    generalize H1 = H at hP hS ⊢
    have hP : va_P (dC, dI) vwCl [(h0, .inr (13, moF a (upd f 1 (nI (t + 4 + 4 + 4 + 4))) w)), (a 0, .inl (cB, 2000, .inl (lay4 (lay4 (lay4 (lay4 g t x1) (t + 4) x2) (t + 4 + 4) x3) (t + 4 + 4 + 4) x4)))] H := hP
    have hD : va_D A [(h0, .inr (13, moF a (upd f 1 (nI (t + 4 + 4 + 4 + 4))) w)), (a 0, .inl (cB, 2000, .inl (lay4 (lay4 (lay4 (lay4 g t x1) (t + 4) x2) (t + 4 + 4) x3) (t + 4 + 4 + 4) x4)))] := hD
    have hK : va_K (dC, dI) vwCl [(cB, .byte), (cI, .int), (cJ, .long), (cZ, .boolean)] s := hK
    refine lv_aload_n hx hb dX12_feed_36 rfl (lv_at hl 0 rfl) ?_
    refine lv_iload hx hb dX12_feed_37 (lv_at hl 5 rfl) ?_
    have hPc := hP.sub (ws' := [(h0, .inr (13, moF a (upd f 1 (nI (t + 4 + 4 + 4 + 4))) w)), (a 0, .inl (cB, 2000, .inl (lay4 (lay4 (lay4 (lay4 g t x1) (t + 4) x2) (t + 4 + 4) x3) (t + 4 + 4 + 4) x4)))]) [0, 1] rfl
    have hDc := hD.sub (ws' := [(h0, .inr (13, moF a (upd f 1 (nI (t + 4 + 4 + 4 + 4))) w)), (a 0, .inl (cB, 2000, .inl (lay4 (lay4 (lay4 (lay4 g t x1) (t + 4) x2) (t + 4 + 4) x3) (t + 4 + 4 + 4) x4)))]) [0, 1] (by decide) rfl
    have hKc := hK.sub (tys' := [(cB, .byte), (cI, .int), (cJ, .long), (cZ, .boolean)]) [0, 1, 2, 3] rfl
    have hFc := va_free (wc := [(h0, .inr (13, moF a (upd f 1 (nI (t + 4 + 4 + 4 + 4))) w)), (a 0, .inl (cB, 2000, .inl (lay4 (lay4 (lay4 (lay4 g t x1) (t + 4) x2) (t + 4 + 4) x3) (t + 4 + 4 + 4) x4)))]) hD hS hA [0, 1] rfl
    refine va_callv (va_runV (As := [.int x5]) (rest := []) ⟨hx, hb, hml, hown, hts⟩ (t_X12_lay l dC dI H.size cB cI cJ cZ h0 a (lay4 (lay4 (lay4 (lay4 g t x1) (t + 4) x2) (t + 4 + 4) x3) (t + 4 + 4 + 4) x4) (t + 4 + 4 + 4 + 4) f w x5 (by omega)) (cwV 1 hts (gd_all (in_V kw_2042 kw_2044 kw_97 kw_191 kc_X12_lay)) rfl rfl rfl (by decide +kernel) ⟨Nat.le_of_ble_eq_true rfl, Nat.le_of_ble_eq_true rfl⟩) ⟨fun a U g mk q => by obtain ⟨q0, q1, qP, qK, qD⟩ := q; exact ⟨q0, q1, qP, va_K.moved (u := U) (U := U.calling g mk a) (Vm.Alike.refl U.vm) qK, qD⟩, va_recv hKc hPc (ci := 13) (q0 := 0) rfl rfl, fun U hU hW => ⟨rfl, by rw [hU], by rw [hU]; exact hPc, va_K.moved hW.alike hKc, hDc.weaken (fun _ _ _ _ => trivial)⟩⟩ rfl rfl hl.1 rfl (lv_room (Nat.le_of_ble_eq_true rfl)) dX12_feed_39 ⟨Nat.le_of_ble_eq_true rfl, Nat.le_of_ble_eq_true rfl⟩) hS (fun q _ h => hFc q h) hFc (fun u t_ H1 locs ht hvm hw hB hz1 hk1 hS => ?_)
    obtain ⟨hP1, hK1, hD1⟩ := hB
    rw [ht] at hP1
    have hK1 := va_K.moved hvm.symm hK1
    obtain ⟨hP, hD⟩ := va_join (wr := []) (w1 := [(h0, .inr (13, moF a (upd f 1 (nI (t + 4 + 4 + 4 + 4 + 4))) w)), (a 0, .inl (cB, 2000, .inl (lay4 (lay4 (lay4 (lay4 (lay4 g t x1) (t + 4) x2) (t + 4 + 4) x3) (t + 4 + 4 + 4) x4) (t + 4 + 4 + 4 + 4) x5)))]) hP hD [0, 1] [] rfl rfl (by decide) (by decide) hk1 hFc hP1 hD1
    have hK := (hK.sub (tys' := []) [] rfl).app hK1
    generalize H1 = H at hP hS ⊢
    have hP : va_P (dC, dI) vwCl [(h0, .inr (13, moF a (upd f 1 (nI (t + 4 + 4 + 4 + 4 + 4))) w)), (a 0, .inl (cB, 2000, .inl (lay4 (lay4 (lay4 (lay4 (lay4 g t x1) (t + 4) x2) (t + 4 + 4) x3) (t + 4 + 4 + 4) x4) (t + 4 + 4 + 4 + 4) x5)))] H := hP
    have hD : va_D A [(h0, .inr (13, moF a (upd f 1 (nI (t + 4 + 4 + 4 + 4 + 4))) w)), (a 0, .inl (cB, 2000, .inl (lay4 (lay4 (lay4 (lay4 (lay4 g t x1) (t + 4) x2) (t + 4 + 4) x3) (t + 4 + 4 + 4) x4) (t + 4 + 4 + 4 + 4) x5)))] := hD
    have hK : va_K (dC, dI) vwCl [(cB, .byte), (cI, .int), (cJ, .long), (cZ, .boolean)] s := hK
    refine lv_aload_n hx hb dX12_feed_42 rfl (lv_at hl 0 rfl) ?_
    refine va_get (D := (dC, dI)) (ci := 13) (v := .int (nI (t + 4 + 4 + 4 + 4 + 4))) (C := RX12) (T := TX12) (N := 115) hx hb hts (fun w h => List.mem_cons_of_mem _ (uG_X12 w h)) hown hK hP 0 rfl rfl 1 (by decide) (hts _ (List.mem_cons_of_mem _ kw_1692)) (fun _ h9 => h9) rfl dX12_feed_43 ?_
    have hP9 := hP.sub (ws' := [(h0, .inr (13, moF a (upd f 1 (nI (t + 4 + 4 + 4 + 4 + 4))) w)), (a 0, .inl (cB, 2000, .inl (lay4 (lay4 (lay4 (lay4 (lay4 g t x1) (t + 4) x2) (t + 4 + 4) x3) (t + 4 + 4 + 4) x4) (t + 4 + 4 + 4 + 4) x5)))]) [0, 1] rfl
    have hD9 := hD.sub (ws' := [(h0, .inr (13, moF a (upd f 1 (nI (t + 4 + 4 + 4 + 4 + 4))) w)), (a 0, .inl (cB, 2000, .inl (lay4 (lay4 (lay4 (lay4 (lay4 g t x1) (t + 4) x2) (t + 4 + 4) x3) (t + 4 + 4 + 4) x4) (t + 4 + 4 + 4 + 4) x5)))]) [0, 1] (by decide) rfl
    have hK9 := hK.sub (tys' := [(cB, .byte), (cI, .int), (cJ, .long), (cZ, .boolean)]) [0, 1, 2, 3] rfl
    exact W.iret (v := (nI (t + 4 + 4 + 4 + 4 + 4))) hx hb hr (fun t_ ht hW => ⟨⟨(nI (t + 4 + 4 + 4 + 4 + 4)), (t + 20, lay20 g t x1 x2 x3 x4 x5), rfl, ⟨(if_pos (by omega)).symm, (if_pos (by omega)).symm, (if_pos (by omega)).symm⟩, by rw [ht]; exact hP9, va_K.moved hW.alike hK9, hD9⟩, hS.F ht⟩) hS.2.2 dX12_feed_46
  · skip
    have c_2 : ¬ (t + 20 ≤ 2000) := fun h => c_2 ((nI_leI (a := t + 20) (b := 2000) (by omega) (by omega)).mpr h)
    refine lv_iconst (v := (-1)) hx hb dX12_feed_13 (by decide) ?_
    have hP9 := hP.sub (ws' := [(h0, .inr (13, moF a (upd f 1 (nI t)) w)), (a 0, .inl (cB, 2000, .inl g))]) [0, 1] rfl
    have hD9 := hD.sub (ws' := [(h0, .inr (13, moF a (upd f 1 (nI t)) w)), (a 0, .inl (cB, 2000, .inl g))]) [0, 1] (by decide) rfl
    have hK9 := hK.sub (tys' := [(cB, .byte), (cI, .int), (cJ, .long), (cZ, .boolean)]) [0, 1, 2, 3] rfl
    exact W.iret (v := (-1)) hx hb hr (fun t_ ht hW => ⟨⟨(-1), (t, g), rfl, ⟨(if_neg (by omega)).symm, (if_neg (by omega)).symm, (if_neg (by omega)).symm⟩, by rw [ht]; exact hP9, va_K.moved hW.alike hK9, hD9⟩, hS.F ht⟩) hS.2.2 dX12_feed_14
theorem dX7_open_0 : decode cX7_open 0 = .ok (.iload_n 1, 1) := by decide +kernel
theorem dX7_open_1 : decode cX7_open 1 = .ok (.iconst 1, 1) := by decide +kernel
theorem dX7_open_2 : decode cX7_open 2 = .ok (.if_icmp .lt 20, 3) := by decide +kernel
theorem dX7_open_5 : decode cX7_open 5 = .ok (.iload_n 1, 1) := by decide +kernel
theorem dX7_open_6 : decode cX7_open 6 = .ok (.iconst 4, 1) := by decide +kernel
theorem dX7_open_7 : decode cX7_open 7 = .ok (.if_icmp .gt 15, 3) := by decide +kernel
theorem dX7_open_10 : decode cX7_open 10 = .ok (.aload_n 0, 1) := by decide +kernel
theorem dX7_open_11 : decode cX7_open 11 = .ok (.getfield 40, 3) := by decide +kernel
theorem dX7_open_14 : decode cX7_open 14 = .ok (.aload_n 0, 1) := by decide +kernel
theorem dX7_open_15 : decode cX7_open 15 = .ok (.getfield 19, 3) := by decide +kernel
theorem dX7_open_18 : decode cX7_open 18 = .ok (.arraylength, 1) := by decide +kernel
theorem dX7_open_19 : decode cX7_open 19 = .ok (.if_icmp .lt 5, 3) := by decide +kernel
theorem dX7_open_22 : decode cX7_open 22 = .ok (.iconst (-1), 1) := by decide +kernel
theorem dX7_open_23 : decode cX7_open 23 = .ok (.ireturn, 1) := by decide +kernel
theorem dX7_open_24 : decode cX7_open 24 = .ok (.aload_n 0, 1) := by decide +kernel
theorem dX7_open_25 : decode cX7_open 25 = .ok (.getfield 19, 3) := by decide +kernel
theorem dX7_open_28 : decode cX7_open 28 = .ok (.aload_n 0, 1) := by decide +kernel
theorem dX7_open_29 : decode cX7_open 29 = .ok (.getfield 40, 3) := by decide +kernel
theorem dX7_open_32 : decode cX7_open 32 = .ok (.iload_n 1, 1) := by decide +kernel
theorem dX7_open_33 : decode cX7_open 33 = .ok (.iastore, 1) := by decide +kernel
theorem dX7_open_34 : decode cX7_open 34 = .ok (.aload_n 0, 1) := by decide +kernel
theorem dX7_open_35 : decode cX7_open 35 = .ok (.dup, 1) := by decide +kernel
theorem dX7_open_36 : decode cX7_open 36 = .ok (.getfield 40, 3) := by decide +kernel
theorem dX7_open_39 : decode cX7_open 39 = .ok (.iconst 1, 1) := by decide +kernel
theorem dX7_open_40 : decode cX7_open 40 = .ok (.iadd, 1) := by decide +kernel
theorem dX7_open_41 : decode cX7_open 41 = .ok (.putfield 40, 3) := by decide +kernel
theorem dX7_open_44 : decode cX7_open 44 = .ok (.aload_n 0, 1) := by decide +kernel
theorem dX7_open_45 : decode cX7_open 45 = .ok (.getfield 40, 3) := by decide +kernel
theorem dX7_open_48 : decode cX7_open 48 = .ok (.iconst 1, 1) := by decide +kernel
theorem dX7_open_49 : decode cX7_open 49 = .ok (.isub, 1) := by decide +kernel
theorem dX7_open_50 : decode cX7_open 50 = .ok (.ireturn, 1) := by decide +kernel
abbrev cs_t_X7_open (cB cI cJ cZ : ClassId) (h0 hC : Nat) (k : Nat) (cf : Nat → Int32) (wm : Int64) (wv wn wt wx wy : Value) (d : Int32) (n : Int32) : va_W := [(h0, .inr (8, [.int (nI k), .long wm, .ref hC, wv, wn, wt, wx, wy, .int d])), (hC, .inl (cI, 6, .inl cf))]
abbrev pc_t_X7_open (dC : Nat → ClassId) (dI : Nat → Nat → Nat) (sz : Nat) (cB cI cJ cZ : ClassId) (h0 hC : Nat) (k : Nat) (cf : Nat → Int32) (wm : Int64) (wv wn wt wx wy : Value) (d : Int32) (n : Int32) : Array Value → State → Prop := va_Pc [.ref h0, .int n] (fun U => U.heap.size = sz ∧ va_P (dC, dI) vwCl [(h0, .inr (8, [.int (nI k), .long wm, .ref hC, wv, wn, wt, wx, wy, .int d])), (hC, .inl (cI, 6, .inl cf))] U.heap ∧ va_K (dC, dI) vwCl [(cB, .byte), (cI, .int), (cJ, .long), (cZ, .boolean)] U ∧ va_D (fun _ => True) [(h0, .inr (8, [.int (nI k), .long wm, .ref hC, wv, wn, wt, wx, wy, .int d])), (hC, .inl (cI, 6, .inl cf))])
abbrev qc_t_X7_open (dC : Nat → ClassId) (dI : Nat → Nat → Nat) (cB cI cJ cZ : ClassId) (h0 hC : Nat) (k : Nat) (cf : Nat → Int32) (wm : Int64) (wv wn wt wx wy : Value) (d : Int32) (n : Int32) (A : Nat → Prop) : Array Value → State → Outcome → State → Prop := va_Qi (fun (r : Int32) (u : Nat × (Nat → Int32)) => match u with | (k2, c2) => r = strR k n ∧ k2 = strK k n ∧ c2 = strC cf k n) (fun (u : Nat × (Nat → Int32)) t_ => match u with | (k2, c2) => va_P (dC, dI) vwCl [(h0, .inr (8, [.int (nI k2), .long wm, .ref hC, wv, wn, wt, wx, wy, .int d])), (hC, .inl (cI, 6, .inl c2))] t_.heap ∧ va_K (dC, dI) vwCl [(cB, .byte), (cI, .int), (cJ, .long), (cZ, .boolean)] t_ ∧ va_D A [(h0, .inr (8, [.int (nI k2), .long wm, .ref hC, wv, wn, wt, wx, wy, .int d])), (hC, .inl (cI, 6, .inl c2))]) A
set_option maxHeartbeats 4000000 in
set_option maxRecDepth 100000 in
theorem t_X7_open (l : Launch) (dC : Nat → ClassId) (dI : Nat → Nat → Nat) (sz : Nat) (cB cI cJ cZ : ClassId) (h0 hC : Nat) (k : Nat) (cf : Nat → Int32) (wm : Int64) (wv wn wt wx wy : Value) (d : Int32) (n : Int32) (hk : k ≤ 6) : Met l yX7_open (wsOf yX7_open cX7_open 2 (some .int)) ({ frames := 0, cells := 0, slots := 0, locals := 0 }) (pc_t_X7_open dC dI sz cB cI cJ cZ h0 hC k cf wm wv wn wt wx wy d n) (qc_t_X7_open dC dI cB cI cJ cZ h0 hC k cf wm wv wn wt wx wy d n (va_A (cs_t_X7_open cB cI cJ cZ h0 hC k cf wm wv wn wt wx wy d n) sz)) 0 0 (va_A (cs_t_X7_open cB cI cJ cZ h0 hC k cf wm wv wn wt wx wy d n) sz) := by
  refine Met.ofW (cc := cX7_open) (maxL := 2) (ret := (some .int)) (by decide) rfl ?_
  intro p e s m args below meth c s₁ B hml hv
  obtain ⟨rfl, hsz, hP, hK, hD0⟩ := hv
  have hx := B.exec
  have hb := B.bytes
  have hr := B.returns
  have hts := atoms_spec (ws := (wsOf yX7_open cX7_open 2 (some .int))) B.pre
  have hown : s.vm.findClass RX7 = some m.cls := findClass_of_methodNamed B.named
  have hlocks := B.notSynchronized
  subst hsz
  have hD := hD0.self (sz := s.heap.size)
  generalize hAe : va_A (cs_t_X7_open cB cI cJ cZ h0 hC k cf wm wv wn wt wx wy d n) s.heap.size = A at hD ⊢
  have hA : ∀ q : Nat, s.heap.size ≤ q → A q := fun q h => by rw [← hAe]; exact Or.inr h
  have hS : va_S A s.heap s.heap [] := va_S.rf
  have hP : va_P (dC, dI) vwCl [(h0, .inr (8, [.int (nI k), .long wm, .ref hC, wv, wn, wt, wx, wy, .int d])), (hC, .inl (cI, 6, .inl cf))] s.heap := hP
  have hl := lv_entry ([.ref h0, .int n]) (n := 2) (Nat.le_of_ble_eq_true rfl)
  rw [lg_entry_eq]
  generalize (lg_sl ([.ref h0, .int n]) ++ List.replicate (2 - (lg_sl ([.ref h0, .int n])).length) Slot.unset).toArray = ls at hl ⊢
  have hl : lv_has ls 2 [(0, .ref h0), (1, .int n)] := hl
  refine lv_iload_n hx hb dX7_open_0 rfl (lv_at hl 1 rfl) ?_
  refine lv_iconst (v := 1) hx hb dX7_open_1 (by decide) ?_
  refine lv_icmp_lt (tgt := 22) hx hb dX7_open_2 (by decide) (fun c_1 => ?_) (fun c_1 => ?_)
  · skip
    refine lv_iconst (v := (-1)) hx hb dX7_open_22 (by decide) ?_
    have hP9 := hP.sub (ws' := [(h0, .inr (8, [.int (nI k), .long wm, .ref hC, wv, wn, wt, wx, wy, .int d])), (hC, .inl (cI, 6, .inl cf))]) [0, 1] rfl
    have hD9 := hD.sub (ws' := [(h0, .inr (8, [.int (nI k), .long wm, .ref hC, wv, wn, wt, wx, wy, .int d])), (hC, .inl (cI, 6, .inl cf))]) [0, 1] (by decide) rfl
    have hK9 := hK.sub (tys' := [(cB, .byte), (cI, .int), (cJ, .long), (cZ, .boolean)]) [0, 1, 2, 3] rfl
    exact W.iret (v := (-1)) hx hb hr (fun t_ ht hW => ⟨⟨(-1), (k, cf), rfl, ⟨by unfold strR; rw [if_pos c_1], by unfold strK; rw [if_pos c_1], by unfold strC; rw [if_pos c_1]⟩, by rw [ht]; exact hP9, va_K.moved hW.alike hK9, hD9⟩, hS.F ht⟩) hS.2.2 dX7_open_23
  · skip
    refine lv_iload_n hx hb dX7_open_5 rfl (lv_at hl 1 rfl) ?_
    refine lv_iconst (v := 4) hx hb dX7_open_6 (by decide) ?_
    refine lv_icmp_gt (tgt := 22) hx hb dX7_open_7 (by decide) (fun c_2 => ?_) (fun c_2 => ?_)
    · skip
      refine lv_iconst (v := (-1)) hx hb dX7_open_22 (by decide) ?_
      have hP9 := hP.sub (ws' := [(h0, .inr (8, [.int (nI k), .long wm, .ref hC, wv, wn, wt, wx, wy, .int d])), (hC, .inl (cI, 6, .inl cf))]) [0, 1] rfl
      have hD9 := hD.sub (ws' := [(h0, .inr (8, [.int (nI k), .long wm, .ref hC, wv, wn, wt, wx, wy, .int d])), (hC, .inl (cI, 6, .inl cf))]) [0, 1] (by decide) rfl
      have hK9 := hK.sub (tys' := [(cB, .byte), (cI, .int), (cJ, .long), (cZ, .boolean)]) [0, 1, 2, 3] rfl
      exact W.iret (v := (-1)) hx hb hr (fun t_ ht hW => ⟨⟨(-1), (k, cf), rfl, ⟨by unfold strR; rw [if_neg c_1]; rw [if_pos c_2], by unfold strK; rw [if_neg c_1]; rw [if_pos c_2], by unfold strC; rw [if_neg c_1]; rw [if_pos c_2]⟩, by rw [ht]; exact hP9, va_K.moved hW.alike hK9, hD9⟩, hS.F ht⟩) hS.2.2 dX7_open_23
    · skip
      refine lv_aload_n hx hb dX7_open_10 rfl (lv_at hl 0 rfl) ?_
      refine va_get (D := (dC, dI)) (ci := 8) (v := .int (nI k)) (C := RX7) (T := TX7) (N := 9) hx hb hts (fun w h => List.mem_cons_of_mem _ (uG_X7 w h)) hown hK hP 0 rfl rfl 0 (by decide) (hts _ (List.mem_cons_of_mem _ kw_223)) (fun _ h9 => h9) rfl dX7_open_11 ?_
      refine lv_aload_n hx hb dX7_open_14 rfl (lv_at hl 0 rfl) ?_
      refine va_get (D := (dC, dI)) (ci := 8) (v := .ref hC) (C := RX7) (T := TX7) (N := 9) hx hb hts (fun w h => List.mem_cons_of_mem _ (uG_X7 w h)) hown hK hP 0 rfl rfl 2 (by decide) (hts _ (List.mem_cons_of_mem _ kw_227)) (fun _ h9 => h9) rfl dX7_open_15 ?_
      refine va_alen (v := 6) hx hb hK hP 1 1 rfl rfl rfl dX7_open_18 ?_
      refine lv_icmp_lt (tgt := 24) hx hb dX7_open_19 (by decide) (fun c_3 => ?_) (fun c_3 => ?_)
      · skip
        have c_3 : k < 6 := (nI_ltI (a := k) (b := 6) (by omega) (by omega)).mp c_3
        refine lv_aload_n hx hb dX7_open_24 rfl (lv_at hl 0 rfl) ?_
        refine va_get (D := (dC, dI)) (ci := 8) (v := .ref hC) (C := RX7) (T := TX7) (N := 9) hx hb hts (fun w h => List.mem_cons_of_mem _ (uG_X7 w h)) hown hK hP 0 rfl rfl 2 (by decide) (hts _ (List.mem_cons_of_mem _ kw_227)) (fun _ h9 => h9) rfl dX7_open_25 ?_
        refine lv_aload_n hx hb dX7_open_28 rfl (lv_at hl 0 rfl) ?_
        refine va_get (D := (dC, dI)) (ci := 8) (v := .int (nI k)) (C := RX7) (T := TX7) (N := 9) hx hb hts (fun w h => List.mem_cons_of_mem _ (uG_X7 w h)) hown hK hP 0 rfl rfl 0 (by decide) (hts _ (List.mem_cons_of_mem _ kw_223)) (fun _ h9 => h9) rfl dX7_open_29 ?_
        refine lv_iload_n hx hb dX7_open_32 rfl (lv_at hl 1 rfl) ?_
        refine va_iast hx hb hK hP hD hS 1 1 rfl rfl (i := (nI k)) (x := n) (vp_in_nI (n := k) (N := 6) (by omega) (by omega)) dX7_open_33 (fun H locs hP hD hS => ?_)
        rw [show (nI k).toNatClampNeg = k from nI_clamp (n := k) (by omega)] at hP hD
        have hP : va_P (dC, dI) vwCl [(h0, .inr (8, [.int (nI k), .long wm, .ref hC, wv, wn, wt, wx, wy, .int d])), (hC, .inl (cI, 6, .inl (upd cf k n)))] H := hP
        have hD : va_D A [(h0, .inr (8, [.int (nI k), .long wm, .ref hC, wv, wn, wt, wx, wy, .int d])), (hC, .inl (cI, 6, .inl (upd cf k n)))] := hD
        refine lv_aload_n hx hb dX7_open_34 rfl (lv_at hl 0 rfl) ?_
        refine lv_dup hx hb dX7_open_35 rfl ?_
        refine va_get (D := (dC, dI)) (ci := 8) (v := .int (nI k)) (C := RX7) (T := TX7) (N := 9) hx hb hts (fun w h => List.mem_cons_of_mem _ (uG_X7 w h)) hown hK hP 0 rfl rfl 0 (by decide) (hts _ (List.mem_cons_of_mem _ kw_223)) (fun _ h9 => h9) rfl dX7_open_36 ?_
        refine lv_iconst (v := 1) hx hb dX7_open_39 (by decide) ?_
        refine lv_iadd hx hb dX7_open_40 ?_
        refine lv_topi (fun x_4 ex_4 => ?_)
        have ex_4 : x_4 = nI (k + 1) := ex_4.trans (nI_add k 1)
        subst ex_4
        refine va_put (D := (dC, dI)) (ci := 8) (v := .int (nI (k + 1))) (ty := .int) (C := RX7) (T := TX7) (N := 9) hx hb hts (fun w h => List.mem_cons_of_mem _ (uG_X7 w h)) tyX7 tyX7_ok nmX7 hown hK hP hD hS 0 rfl rfl 0 (by decide) (hts _ (List.mem_cons_of_mem _ kw_223)) (fun _ h9 => h9) rfl (by decide +kernel) rfl rfl (Nat.le_of_ble_eq_true rfl) dX7_open_41 (fun H locs hP hD hS => ?_)
        have hP : va_P (dC, dI) vwCl [(h0, .inr (8, [.int (nI (k + 1)), .long wm, .ref hC, wv, wn, wt, wx, wy, .int d])), (hC, .inl (cI, 6, .inl (upd cf k n)))] H := hP
        have hD : va_D A [(h0, .inr (8, [.int (nI (k + 1)), .long wm, .ref hC, wv, wn, wt, wx, wy, .int d])), (hC, .inl (cI, 6, .inl (upd cf k n)))] := hD
        refine lv_aload_n hx hb dX7_open_44 rfl (lv_at hl 0 rfl) ?_
        refine va_get (D := (dC, dI)) (ci := 8) (v := .int (nI (k + 1))) (C := RX7) (T := TX7) (N := 9) hx hb hts (fun w h => List.mem_cons_of_mem _ (uG_X7 w h)) hown hK hP 0 rfl rfl 0 (by decide) (hts _ (List.mem_cons_of_mem _ kw_223)) (fun _ h9 => h9) rfl dX7_open_45 ?_
        refine lv_iconst (v := 1) hx hb dX7_open_48 (by decide) ?_
        refine lv_isub hx hb dX7_open_49 ?_
        refine lv_topi (fun x_5 ex_5 => ?_)
        have ex_5 : x_5 = nI (k + 1 - 1) := ex_5.trans (pk_sub (a := k + 1) (b := 1) (by omega))
        subst ex_5
        have hP9 := hP.sub (ws' := [(h0, .inr (8, [.int (nI (k + 1)), .long wm, .ref hC, wv, wn, wt, wx, wy, .int d])), (hC, .inl (cI, 6, .inl (upd cf k n)))]) [0, 1] rfl
        have hD9 := hD.sub (ws' := [(h0, .inr (8, [.int (nI (k + 1)), .long wm, .ref hC, wv, wn, wt, wx, wy, .int d])), (hC, .inl (cI, 6, .inl (upd cf k n)))]) [0, 1] (by decide) rfl
        have hK9 := hK.sub (tys' := [(cB, .byte), (cI, .int), (cJ, .long), (cZ, .boolean)]) [0, 1, 2, 3] rfl
        exact W.iret (v := (nI (k + 1 - 1))) hx hb hr (fun t_ ht hW => ⟨⟨(nI (k + 1 - 1)), (k + 1, upd cf k n), rfl, ⟨by unfold strR; rw [if_neg c_1]; rw [if_neg c_2]; rw [if_pos c_3]; simp, by unfold strK; rw [if_neg c_1]; rw [if_neg c_2]; rw [if_pos c_3], by unfold strC; rw [if_neg c_1]; rw [if_neg c_2]; rw [if_pos c_3]⟩, by rw [ht]; exact hP9, va_K.moved hW.alike hK9, hD9⟩, hS.F ht⟩) hS.2.2 dX7_open_50
      · skip
        have c_3 : ¬ (k < 6) := fun h => c_3 ((nI_ltI (a := k) (b := 6) (by omega) (by omega)).mpr h)
        refine lv_iconst (v := (-1)) hx hb dX7_open_22 (by decide) ?_
        have hP9 := hP.sub (ws' := [(h0, .inr (8, [.int (nI k), .long wm, .ref hC, wv, wn, wt, wx, wy, .int d])), (hC, .inl (cI, 6, .inl cf))]) [0, 1] rfl
        have hD9 := hD.sub (ws' := [(h0, .inr (8, [.int (nI k), .long wm, .ref hC, wv, wn, wt, wx, wy, .int d])), (hC, .inl (cI, 6, .inl cf))]) [0, 1] (by decide) rfl
        have hK9 := hK.sub (tys' := [(cB, .byte), (cI, .int), (cJ, .long), (cZ, .boolean)]) [0, 1, 2, 3] rfl
        exact W.iret (v := (-1)) hx hb hr (fun t_ ht hW => ⟨⟨(-1), (k, cf), rfl, ⟨by unfold strR; rw [if_neg c_1]; rw [if_neg c_2]; rw [if_neg c_3], by unfold strK; rw [if_neg c_1]; rw [if_neg c_2]; rw [if_neg c_3], by unfold strC; rw [if_neg c_1]; rw [if_neg c_2]; rw [if_neg c_3]⟩, by rw [ht]; exact hP9, va_K.moved hW.alike hK9, hD9⟩, hS.F ht⟩) hS.2.2 dX7_open_23
theorem dX12_stream_0 : decode cX12_stream 0 = .ok (.iload_n 1, 1) := by decide +kernel
theorem dX12_stream_1 : decode cX12_stream 1 = .ok (.iconst 1, 1) := by decide +kernel
theorem dX12_stream_2 : decode cX12_stream 2 = .ok (.if_icmp .lt 17, 3) := by decide +kernel
theorem dX12_stream_5 : decode cX12_stream 5 = .ok (.iload_n 1, 1) := by decide +kernel
theorem dX12_stream_6 : decode cX12_stream 6 = .ok (.iconst 4, 1) := by decide +kernel
theorem dX12_stream_7 : decode cX12_stream 7 = .ok (.if_icmp .gt 12, 3) := by decide +kernel
theorem dX12_stream_10 : decode cX12_stream 10 = .ok (.aload_n 0, 1) := by decide +kernel
theorem dX12_stream_11 : decode cX12_stream 11 = .ok (.getfield 261, 3) := by decide +kernel
theorem dX12_stream_14 : decode cX12_stream 14 = .ok (.bipush 6, 2) := by decide +kernel
theorem dX12_stream_16 : decode cX12_stream 16 = .ok (.if_icmp .ne 5, 3) := by decide +kernel
theorem dX12_stream_19 : decode cX12_stream 19 = .ok (.iconst (-1), 1) := by decide +kernel
theorem dX12_stream_20 : decode cX12_stream 20 = .ok (.ireturn, 1) := by decide +kernel
theorem dX12_stream_21 : decode cX12_stream 21 = .ok (.aload_n 0, 1) := by decide +kernel
theorem dX12_stream_22 : decode cX12_stream 22 = .ok (.getfield 16, 3) := by decide +kernel
theorem dX12_stream_25 : decode cX12_stream 25 = .ok (.aload_n 0, 1) := by decide +kernel
theorem dX12_stream_26 : decode cX12_stream 26 = .ok (.getfield 261, 3) := by decide +kernel
theorem dX12_stream_29 : decode cX12_stream 29 = .ok (.iload_n 1, 1) := by decide +kernel
theorem dX12_stream_30 : decode cX12_stream 30 = .ok (.iastore, 1) := by decide +kernel
theorem dX12_stream_31 : decode cX12_stream 31 = .ok (.aload_n 0, 1) := by decide +kernel
theorem dX12_stream_32 : decode cX12_stream 32 = .ok (.dup, 1) := by decide +kernel
theorem dX12_stream_33 : decode cX12_stream 33 = .ok (.getfield 261, 3) := by decide +kernel
theorem dX12_stream_36 : decode cX12_stream 36 = .ok (.iconst 1, 1) := by decide +kernel
theorem dX12_stream_37 : decode cX12_stream 37 = .ok (.iadd, 1) := by decide +kernel
theorem dX12_stream_38 : decode cX12_stream 38 = .ok (.putfield 261, 3) := by decide +kernel
theorem dX12_stream_41 : decode cX12_stream 41 = .ok (.aload_n 0, 1) := by decide +kernel
theorem dX12_stream_42 : decode cX12_stream 42 = .ok (.getfield 261, 3) := by decide +kernel
theorem dX12_stream_45 : decode cX12_stream 45 = .ok (.iconst 1, 1) := by decide +kernel
theorem dX12_stream_46 : decode cX12_stream 46 = .ok (.isub, 1) := by decide +kernel
theorem dX12_stream_47 : decode cX12_stream 47 = .ok (.ireturn, 1) := by decide +kernel
abbrev cs_t_X12_stream (cB cI cJ cZ : ClassId) (h0 : Nat) (a : Nat → Nat) (k : Nat) (cf : Nat → Int32) (f : Nat → Int32) (w : Int64) (n : Int32) : va_W := [(h0, .inr (13, moF a (upd f 4 (nI k)) w)), (a 5, .inl (cI, 6, .inl cf))]
abbrev pc_t_X12_stream (dC : Nat → ClassId) (dI : Nat → Nat → Nat) (sz : Nat) (cB cI cJ cZ : ClassId) (h0 : Nat) (a : Nat → Nat) (k : Nat) (cf : Nat → Int32) (f : Nat → Int32) (w : Int64) (n : Int32) : Array Value → State → Prop := va_Pc [.ref h0, .int n] (fun U => U.heap.size = sz ∧ va_P (dC, dI) vwCl [(h0, .inr (13, moF a (upd f 4 (nI k)) w)), (a 5, .inl (cI, 6, .inl cf))] U.heap ∧ va_K (dC, dI) vwCl [(cB, .byte), (cI, .int), (cJ, .long), (cZ, .boolean)] U ∧ va_D (fun _ => True) [(h0, .inr (13, moF a (upd f 4 (nI k)) w)), (a 5, .inl (cI, 6, .inl cf))])
abbrev qc_t_X12_stream (dC : Nat → ClassId) (dI : Nat → Nat → Nat) (cB cI cJ cZ : ClassId) (h0 : Nat) (a : Nat → Nat) (k : Nat) (cf : Nat → Int32) (f : Nat → Int32) (w : Int64) (n : Int32) (A : Nat → Prop) : Array Value → State → Outcome → State → Prop := va_Qi (fun (r : Int32) (u : Nat × (Nat → Int32)) => match u with | (k2, c2) => r = strR k n ∧ k2 = strK k n ∧ c2 = strC cf k n) (fun (u : Nat × (Nat → Int32)) t_ => match u with | (k2, c2) => va_P (dC, dI) vwCl [(h0, .inr (13, moF a (upd f 4 (nI k2)) w)), (a 5, .inl (cI, 6, .inl c2))] t_.heap ∧ va_K (dC, dI) vwCl [(cB, .byte), (cI, .int), (cJ, .long), (cZ, .boolean)] t_ ∧ va_D A [(h0, .inr (13, moF a (upd f 4 (nI k2)) w)), (a 5, .inl (cI, 6, .inl c2))]) A
set_option maxHeartbeats 4000000 in
set_option maxRecDepth 100000 in
theorem t_X12_stream (l : Launch) (dC : Nat → ClassId) (dI : Nat → Nat → Nat) (sz : Nat) (cB cI cJ cZ : ClassId) (h0 : Nat) (a : Nat → Nat) (k : Nat) (cf : Nat → Int32) (f : Nat → Int32) (w : Int64) (n : Int32) (hk : k ≤ 6) : Met l yX12_stream (wsOf yX12_stream cX12_stream 2 (some .int)) ({ frames := 0, cells := 0, slots := 0, locals := 0 }) (pc_t_X12_stream dC dI sz cB cI cJ cZ h0 a k cf f w n) (qc_t_X12_stream dC dI cB cI cJ cZ h0 a k cf f w n (va_A (cs_t_X12_stream cB cI cJ cZ h0 a k cf f w n) sz)) 0 0 (va_A (cs_t_X12_stream cB cI cJ cZ h0 a k cf f w n) sz) := by
  refine Met.ofW (cc := cX12_stream) (maxL := 2) (ret := (some .int)) (by decide) rfl ?_
  intro p e s m args below meth c s₁ B hml hv
  obtain ⟨rfl, hsz, hP, hK, hD0⟩ := hv
  have hx := B.exec
  have hb := B.bytes
  have hr := B.returns
  have hts := atoms_spec (ws := (wsOf yX12_stream cX12_stream 2 (some .int))) B.pre
  have hown : s.vm.findClass RX12 = some m.cls := findClass_of_methodNamed B.named
  have hlocks := B.notSynchronized
  subst hsz
  have hD := hD0.self (sz := s.heap.size)
  generalize hAe : va_A (cs_t_X12_stream cB cI cJ cZ h0 a k cf f w n) s.heap.size = A at hD ⊢
  have hA : ∀ q : Nat, s.heap.size ≤ q → A q := fun q h => by rw [← hAe]; exact Or.inr h
  have hS : va_S A s.heap s.heap [] := va_S.rf
  have hP : va_P (dC, dI) vwCl [(h0, .inr (13, moF a (upd f 4 (nI k)) w)), (a 5, .inl (cI, 6, .inl cf))] s.heap := hP
  have hl := lv_entry ([.ref h0, .int n]) (n := 2) (Nat.le_of_ble_eq_true rfl)
  rw [lg_entry_eq]
  generalize (lg_sl ([.ref h0, .int n]) ++ List.replicate (2 - (lg_sl ([.ref h0, .int n])).length) Slot.unset).toArray = ls at hl ⊢
  have hl : lv_has ls 2 [(0, .ref h0), (1, .int n)] := hl
  refine lv_iload_n hx hb dX12_stream_0 rfl (lv_at hl 1 rfl) ?_
  refine lv_iconst (v := 1) hx hb dX12_stream_1 (by decide) ?_
  refine lv_icmp_lt (tgt := 19) hx hb dX12_stream_2 (by decide) (fun c_1 => ?_) (fun c_1 => ?_)
  · skip
    refine lv_iconst (v := (-1)) hx hb dX12_stream_19 (by decide) ?_
    have hP9 := hP.sub (ws' := [(h0, .inr (13, moF a (upd f 4 (nI k)) w)), (a 5, .inl (cI, 6, .inl cf))]) [0, 1] rfl
    have hD9 := hD.sub (ws' := [(h0, .inr (13, moF a (upd f 4 (nI k)) w)), (a 5, .inl (cI, 6, .inl cf))]) [0, 1] (by decide) rfl
    have hK9 := hK.sub (tys' := [(cB, .byte), (cI, .int), (cJ, .long), (cZ, .boolean)]) [0, 1, 2, 3] rfl
    exact W.iret (v := (-1)) hx hb hr (fun t_ ht hW => ⟨⟨(-1), (k, cf), rfl, ⟨by unfold strR; rw [if_pos c_1], by unfold strK; rw [if_pos c_1], by unfold strC; rw [if_pos c_1]⟩, by rw [ht]; exact hP9, va_K.moved hW.alike hK9, hD9⟩, hS.F ht⟩) hS.2.2 dX12_stream_20
  · skip
    refine lv_iload_n hx hb dX12_stream_5 rfl (lv_at hl 1 rfl) ?_
    refine lv_iconst (v := 4) hx hb dX12_stream_6 (by decide) ?_
    refine lv_icmp_gt (tgt := 19) hx hb dX12_stream_7 (by decide) (fun c_2 => ?_) (fun c_2 => ?_)
    · skip
      refine lv_iconst (v := (-1)) hx hb dX12_stream_19 (by decide) ?_
      have hP9 := hP.sub (ws' := [(h0, .inr (13, moF a (upd f 4 (nI k)) w)), (a 5, .inl (cI, 6, .inl cf))]) [0, 1] rfl
      have hD9 := hD.sub (ws' := [(h0, .inr (13, moF a (upd f 4 (nI k)) w)), (a 5, .inl (cI, 6, .inl cf))]) [0, 1] (by decide) rfl
      have hK9 := hK.sub (tys' := [(cB, .byte), (cI, .int), (cJ, .long), (cZ, .boolean)]) [0, 1, 2, 3] rfl
      exact W.iret (v := (-1)) hx hb hr (fun t_ ht hW => ⟨⟨(-1), (k, cf), rfl, ⟨by unfold strR; rw [if_neg c_1]; rw [if_pos c_2], by unfold strK; rw [if_neg c_1]; rw [if_pos c_2], by unfold strC; rw [if_neg c_1]; rw [if_pos c_2]⟩, by rw [ht]; exact hP9, va_K.moved hW.alike hK9, hD9⟩, hS.F ht⟩) hS.2.2 dX12_stream_20
    · skip
      refine lv_aload_n hx hb dX12_stream_10 rfl (lv_at hl 0 rfl) ?_
      refine va_get (D := (dC, dI)) (ci := 13) (v := .int (nI k)) (C := RX12) (T := TX12) (N := 115) hx hb hts (fun w h => List.mem_cons_of_mem _ (uG_X12 w h)) hown hK hP 0 rfl rfl 4 (by decide) (hts _ (List.mem_cons_of_mem _ kw_1695)) (fun _ h9 => h9) rfl dX12_stream_11 ?_
      refine lv_bipush (v := 6) hx hb dX12_stream_14 (by decide) ?_
      refine lv_icmp_ne (tgt := 21) hx hb dX12_stream_16 (by decide) (fun c_3 => ?_) (fun c_3 => ?_)
      · skip
        have c_3 : ¬ (k = 6) := fun h => c_3 ((nI_eq (a := k) (b := 6) (by omega) (by omega)).mpr h)
        refine lv_aload_n hx hb dX12_stream_21 rfl (lv_at hl 0 rfl) ?_
        refine va_get (D := (dC, dI)) (ci := 13) (v := .ref (a 5)) (C := RX12) (T := TX12) (N := 115) hx hb hts (fun w h => List.mem_cons_of_mem _ (uG_X12 w h)) hown hK hP 0 rfl rfl 5 (by decide) (hts _ (List.mem_cons_of_mem _ kw_1696)) (fun _ h9 => h9) rfl dX12_stream_22 ?_
        refine lv_aload_n hx hb dX12_stream_25 rfl (lv_at hl 0 rfl) ?_
        refine va_get (D := (dC, dI)) (ci := 13) (v := .int (nI k)) (C := RX12) (T := TX12) (N := 115) hx hb hts (fun w h => List.mem_cons_of_mem _ (uG_X12 w h)) hown hK hP 0 rfl rfl 4 (by decide) (hts _ (List.mem_cons_of_mem _ kw_1695)) (fun _ h9 => h9) rfl dX12_stream_26 ?_
        refine lv_iload_n hx hb dX12_stream_29 rfl (lv_at hl 1 rfl) ?_
        refine va_iast hx hb hK hP hD hS 1 1 rfl rfl (i := (nI k)) (x := n) (vp_in_nI (n := k) (N := 6) (by omega) (by omega)) dX12_stream_30 (fun H locs hP hD hS => ?_)
        rw [show (nI k).toNatClampNeg = k from nI_clamp (n := k) (by omega)] at hP hD
        have hP : va_P (dC, dI) vwCl [(h0, .inr (13, moF a (upd f 4 (nI k)) w)), (a 5, .inl (cI, 6, .inl (upd cf k n)))] H := hP
        have hD : va_D A [(h0, .inr (13, moF a (upd f 4 (nI k)) w)), (a 5, .inl (cI, 6, .inl (upd cf k n)))] := hD
        refine lv_aload_n hx hb dX12_stream_31 rfl (lv_at hl 0 rfl) ?_
        refine lv_dup hx hb dX12_stream_32 rfl ?_
        refine va_get (D := (dC, dI)) (ci := 13) (v := .int (nI k)) (C := RX12) (T := TX12) (N := 115) hx hb hts (fun w h => List.mem_cons_of_mem _ (uG_X12 w h)) hown hK hP 0 rfl rfl 4 (by decide) (hts _ (List.mem_cons_of_mem _ kw_1695)) (fun _ h9 => h9) rfl dX12_stream_33 ?_
        refine lv_iconst (v := 1) hx hb dX12_stream_36 (by decide) ?_
        refine lv_iadd hx hb dX12_stream_37 ?_
        refine lv_topi (fun x_4 ex_4 => ?_)
        have ex_4 : x_4 = nI (k + 1) := ex_4.trans (nI_add k 1)
        subst ex_4
        refine va_put (D := (dC, dI)) (ci := 13) (v := .int (nI (k + 1))) (ty := .int) (C := RX12) (T := TX12) (N := 115) hx hb hts (fun w h => List.mem_cons_of_mem _ (uG_X12 w h)) tyX12 tyX12_ok nmX12 hown hK hP hD hS 0 rfl rfl 4 (by decide) (hts _ (List.mem_cons_of_mem _ kw_1695)) (fun _ h9 => h9) rfl (by decide +kernel) rfl rfl (Nat.le_of_ble_eq_true rfl) dX12_stream_38 (fun H locs hP hD hS => ?_)
        have hP : va_P (dC, dI) vwCl [(h0, .inr (13, moF a (upd f 4 (nI (k + 1))) w)), (a 5, .inl (cI, 6, .inl (upd cf k n)))] H := hP
        have hD : va_D A [(h0, .inr (13, moF a (upd f 4 (nI (k + 1))) w)), (a 5, .inl (cI, 6, .inl (upd cf k n)))] := hD
        refine lv_aload_n hx hb dX12_stream_41 rfl (lv_at hl 0 rfl) ?_
        refine va_get (D := (dC, dI)) (ci := 13) (v := .int (nI (k + 1))) (C := RX12) (T := TX12) (N := 115) hx hb hts (fun w h => List.mem_cons_of_mem _ (uG_X12 w h)) hown hK hP 0 rfl rfl 4 (by decide) (hts _ (List.mem_cons_of_mem _ kw_1695)) (fun _ h9 => h9) rfl dX12_stream_42 ?_
        refine lv_iconst (v := 1) hx hb dX12_stream_45 (by decide) ?_
        refine lv_isub hx hb dX12_stream_46 ?_
        refine lv_topi (fun x_5 ex_5 => ?_)
        have ex_5 : x_5 = nI (k + 1 - 1) := ex_5.trans (pk_sub (a := k + 1) (b := 1) (by omega))
        subst ex_5
        have hP9 := hP.sub (ws' := [(h0, .inr (13, moF a (upd f 4 (nI (k + 1))) w)), (a 5, .inl (cI, 6, .inl (upd cf k n)))]) [0, 1] rfl
        have hD9 := hD.sub (ws' := [(h0, .inr (13, moF a (upd f 4 (nI (k + 1))) w)), (a 5, .inl (cI, 6, .inl (upd cf k n)))]) [0, 1] (by decide) rfl
        have hK9 := hK.sub (tys' := [(cB, .byte), (cI, .int), (cJ, .long), (cZ, .boolean)]) [0, 1, 2, 3] rfl
        exact W.iret (v := (nI (k + 1 - 1))) hx hb hr (fun t_ ht hW => ⟨⟨(nI (k + 1 - 1)), (k + 1, upd cf k n), rfl, ⟨by unfold strR; rw [if_neg c_1]; rw [if_neg c_2]; rw [if_pos (show k < 6 by omega)]; simp, by unfold strK; rw [if_neg c_1]; rw [if_neg c_2]; rw [if_pos (show k < 6 by omega)], by unfold strC; rw [if_neg c_1]; rw [if_neg c_2]; rw [if_pos (show k < 6 by omega)]⟩, by rw [ht]; exact hP9, va_K.moved hW.alike hK9, hD9⟩, hS.F ht⟩) hS.2.2 dX12_stream_47
      · skip
        have c_3 : k = 6 := (nI_eq (a := k) (b := 6) (by omega) (by omega)).mp c_3
        refine lv_iconst (v := (-1)) hx hb dX12_stream_19 (by decide) ?_
        have hP9 := hP.sub (ws' := [(h0, .inr (13, moF a (upd f 4 (nI k)) w)), (a 5, .inl (cI, 6, .inl cf))]) [0, 1] rfl
        have hD9 := hD.sub (ws' := [(h0, .inr (13, moF a (upd f 4 (nI k)) w)), (a 5, .inl (cI, 6, .inl cf))]) [0, 1] (by decide) rfl
        have hK9 := hK.sub (tys' := [(cB, .byte), (cI, .int), (cJ, .long), (cZ, .boolean)]) [0, 1, 2, 3] rfl
        exact W.iret (v := (-1)) hx hb hr (fun t_ ht hW => ⟨⟨(-1), (k, cf), rfl, ⟨by unfold strR; rw [if_neg c_1]; rw [if_neg c_2]; rw [if_neg (show ¬ k < 6 by omega)], by unfold strK; rw [if_neg c_1]; rw [if_neg c_2]; rw [if_neg (show ¬ k < 6 by omega)], by unfold strC; rw [if_neg c_1]; rw [if_neg c_2]; rw [if_neg (show ¬ k < 6 by omega)]⟩, by rw [ht]; exact hP9, va_K.moved hW.alike hK9, hD9⟩, hS.F ht⟩) hS.2.2 dX12_stream_20
theorem dX7_draft_0 : decode cX7_draft 0 = .ok (.aload_n 0, 1) := by decide +kernel
theorem dX7_draft_1 : decode cX7_draft 1 = .ok (.getfield 48, 3) := by decide +kernel
theorem dX7_draft_4 : decode cX7_draft 4 = .ok (.aload_n 0, 1) := by decide +kernel
theorem dX7_draft_5 : decode cX7_draft 5 = .ok (.getfield 34, 3) := by decide +kernel
theorem dX7_draft_8 : decode cX7_draft 8 = .ok (.arraylength, 1) := by decide +kernel
theorem dX7_draft_9 : decode cX7_draft 9 = .ok (.if_icmp .ge 15, 3) := by decide +kernel
theorem dX7_draft_12 : decode cX7_draft 12 = .ok (.aload_n 0, 1) := by decide +kernel
theorem dX7_draft_13 : decode cX7_draft 13 = .ok (.getfield 48, 3) := by decide +kernel
theorem dX7_draft_16 : decode cX7_draft 16 = .ok (.aload_n 0, 1) := by decide +kernel
theorem dX7_draft_17 : decode cX7_draft 17 = .ok (.getfield 37, 3) := by decide +kernel
theorem dX7_draft_20 : decode cX7_draft 20 = .ok (.arraylength, 1) := by decide +kernel
theorem dX7_draft_21 : decode cX7_draft 21 = .ok (.if_icmp .lt 5, 3) := by decide +kernel
theorem dX7_draft_24 : decode cX7_draft 24 = .ok (.iconst (-1), 1) := by decide +kernel
theorem dX7_draft_25 : decode cX7_draft 25 = .ok (.ireturn, 1) := by decide +kernel
theorem dX7_draft_26 : decode cX7_draft 26 = .ok (.aload_n 0, 1) := by decide +kernel
theorem dX7_draft_27 : decode cX7_draft 27 = .ok (.getfield 34, 3) := by decide +kernel
theorem dX7_draft_30 : decode cX7_draft 30 = .ok (.aload_n 0, 1) := by decide +kernel
theorem dX7_draft_31 : decode cX7_draft 31 = .ok (.getfield 48, 3) := by decide +kernel
theorem dX7_draft_34 : decode cX7_draft 34 = .ok (.lload_n 1, 1) := by decide +kernel
theorem dX7_draft_35 : decode cX7_draft 35 = .ok (.lastore, 1) := by decide +kernel
theorem dX7_draft_36 : decode cX7_draft 36 = .ok (.aload_n 0, 1) := by decide +kernel
theorem dX7_draft_37 : decode cX7_draft 37 = .ok (.getfield 37, 3) := by decide +kernel
theorem dX7_draft_40 : decode cX7_draft 40 = .ok (.aload_n 0, 1) := by decide +kernel
theorem dX7_draft_41 : decode cX7_draft 41 = .ok (.getfield 48, 3) := by decide +kernel
theorem dX7_draft_44 : decode cX7_draft 44 = .ok (.iload_n 3, 1) := by decide +kernel
theorem dX7_draft_45 : decode cX7_draft 45 = .ok (.bastore, 1) := by decide +kernel
theorem dX7_draft_46 : decode cX7_draft 46 = .ok (.aload_n 0, 1) := by decide +kernel
theorem dX7_draft_47 : decode cX7_draft 47 = .ok (.dup, 1) := by decide +kernel
theorem dX7_draft_48 : decode cX7_draft 48 = .ok (.getfield 48, 3) := by decide +kernel
theorem dX7_draft_51 : decode cX7_draft 51 = .ok (.iconst 1, 1) := by decide +kernel
theorem dX7_draft_52 : decode cX7_draft 52 = .ok (.iadd, 1) := by decide +kernel
theorem dX7_draft_53 : decode cX7_draft 53 = .ok (.putfield 48, 3) := by decide +kernel
theorem dX7_draft_56 : decode cX7_draft 56 = .ok (.aload_n 0, 1) := by decide +kernel
theorem dX7_draft_57 : decode cX7_draft 57 = .ok (.getfield 48, 3) := by decide +kernel
theorem dX7_draft_60 : decode cX7_draft 60 = .ok (.ireturn, 1) := by decide +kernel
abbrev cs_t_X7_draft (cB cI cJ cZ : ClassId) (h0 hX hY : Nat) (d : Nat) (xf : Nat → Int64) (yf : Nat → Int32) (wm : Int64) (wc wv wn wt : Value) (k : Int32) (v : Int64) (b : Int32) : va_W := [(h0, .inr (8, [.int k, .long wm, wc, wv, wn, wt, .ref hX, .ref hY, .int (nI d)])), (hX, .inl (cJ, 4, .inr (.inl xf))), (hY, .inl (cB, 4, .inl yf))]
abbrev pc_t_X7_draft (dC : Nat → ClassId) (dI : Nat → Nat → Nat) (sz : Nat) (cB cI cJ cZ : ClassId) (h0 hX hY : Nat) (d : Nat) (xf : Nat → Int64) (yf : Nat → Int32) (wm : Int64) (wc wv wn wt : Value) (k : Int32) (v : Int64) (b : Int32) : Array Value → State → Prop := va_Pc [.ref h0, .long v, .int b] (fun U => U.heap.size = sz ∧ va_P (dC, dI) vwCl [(h0, .inr (8, [.int k, .long wm, wc, wv, wn, wt, .ref hX, .ref hY, .int (nI d)])), (hX, .inl (cJ, 4, .inr (.inl xf))), (hY, .inl (cB, 4, .inl yf))] U.heap ∧ va_K (dC, dI) vwCl [(cB, .byte), (cI, .int), (cJ, .long), (cZ, .boolean)] U ∧ va_D (fun _ => True) [(h0, .inr (8, [.int k, .long wm, wc, wv, wn, wt, .ref hX, .ref hY, .int (nI d)])), (hX, .inl (cJ, 4, .inr (.inl xf))), (hY, .inl (cB, 4, .inl yf))])
abbrev qc_t_X7_draft (dC : Nat → ClassId) (dI : Nat → Nat → Nat) (cB cI cJ cZ : ClassId) (h0 hX hY : Nat) (d : Nat) (xf : Nat → Int64) (yf : Nat → Int32) (wm : Int64) (wc wv wn wt : Value) (k : Int32) (v : Int64) (b : Int32) (A : Nat → Prop) : Array Value → State → Outcome → State → Prop := va_Qi (fun (r : Int32) (u : Nat × (Nat → Int64) × (Nat → Int32)) => match u with | (d2, x2, y2) => r = drR d ∧ d2 = drK d ∧ x2 = drX xf d v ∧ y2 = drY yf d (vp_nar .byte b)) (fun (u : Nat × (Nat → Int64) × (Nat → Int32)) t_ => match u with | (d2, x2, y2) => va_P (dC, dI) vwCl [(h0, .inr (8, [.int k, .long wm, wc, wv, wn, wt, .ref hX, .ref hY, .int (nI d2)])), (hX, .inl (cJ, 4, .inr (.inl x2))), (hY, .inl (cB, 4, .inl y2))] t_.heap ∧ va_K (dC, dI) vwCl [(cB, .byte), (cI, .int), (cJ, .long), (cZ, .boolean)] t_ ∧ va_D A [(h0, .inr (8, [.int k, .long wm, wc, wv, wn, wt, .ref hX, .ref hY, .int (nI d2)])), (hX, .inl (cJ, 4, .inr (.inl x2))), (hY, .inl (cB, 4, .inl y2))]) A
set_option maxHeartbeats 4000000 in
set_option maxRecDepth 100000 in
theorem t_X7_draft (l : Launch) (dC : Nat → ClassId) (dI : Nat → Nat → Nat) (sz : Nat) (cB cI cJ cZ : ClassId) (h0 hX hY : Nat) (d : Nat) (xf : Nat → Int64) (yf : Nat → Int32) (wm : Int64) (wc wv wn wt : Value) (k : Int32) (v : Int64) (b : Int32) (hd : d ≤ 4) : Met l yX7_draft (wsOf yX7_draft cX7_draft 4 (some .int)) ({ frames := 0, cells := 0, slots := 0, locals := 0 }) (pc_t_X7_draft dC dI sz cB cI cJ cZ h0 hX hY d xf yf wm wc wv wn wt k v b) (qc_t_X7_draft dC dI cB cI cJ cZ h0 hX hY d xf yf wm wc wv wn wt k v b (va_A (cs_t_X7_draft cB cI cJ cZ h0 hX hY d xf yf wm wc wv wn wt k v b) sz)) 0 0 (va_A (cs_t_X7_draft cB cI cJ cZ h0 hX hY d xf yf wm wc wv wn wt k v b) sz) := by
  refine Met.ofW (cc := cX7_draft) (maxL := 4) (ret := (some .int)) (by decide) rfl ?_
  intro p e s m args below meth c s₁ B hml hv
  obtain ⟨rfl, hsz, hP, hK, hD0⟩ := hv
  have hx := B.exec
  have hb := B.bytes
  have hr := B.returns
  have hts := atoms_spec (ws := (wsOf yX7_draft cX7_draft 4 (some .int))) B.pre
  have hown : s.vm.findClass RX7 = some m.cls := findClass_of_methodNamed B.named
  have hlocks := B.notSynchronized
  subst hsz
  have hD := hD0.self (sz := s.heap.size)
  generalize hAe : va_A (cs_t_X7_draft cB cI cJ cZ h0 hX hY d xf yf wm wc wv wn wt k v b) s.heap.size = A at hD ⊢
  have hA : ∀ q : Nat, s.heap.size ≤ q → A q := fun q h => by rw [← hAe]; exact Or.inr h
  have hS : va_S A s.heap s.heap [] := va_S.rf
  have hP : va_P (dC, dI) vwCl [(h0, .inr (8, [.int k, .long wm, wc, wv, wn, wt, .ref hX, .ref hY, .int (nI d)])), (hX, .inl (cJ, 4, .inr (.inl xf))), (hY, .inl (cB, 4, .inl yf))] s.heap := hP
  have hl := lv_entry ([.ref h0, .long v, .int b]) (n := 4) (Nat.le_of_ble_eq_true rfl)
  rw [lg_entry_eq]
  generalize (lg_sl ([.ref h0, .long v, .int b]) ++ List.replicate (4 - (lg_sl ([.ref h0, .long v, .int b])).length) Slot.unset).toArray = ls at hl ⊢
  have hl : lv_has ls 4 [(0, .ref h0), (1, .long v), (3, .int b)] := hl
  refine lv_aload_n hx hb dX7_draft_0 rfl (lv_at hl 0 rfl) ?_
  refine va_get (D := (dC, dI)) (ci := 8) (v := .int (nI d)) (C := RX7) (T := TX7) (N := 9) hx hb hts (fun w h => List.mem_cons_of_mem _ (uG_X7 w h)) hown hK hP 0 rfl rfl 8 (by decide) (hts _ (List.mem_cons_of_mem _ kw_233)) (fun _ h9 => h9) rfl dX7_draft_1 ?_
  refine lv_aload_n hx hb dX7_draft_4 rfl (lv_at hl 0 rfl) ?_
  refine va_get (D := (dC, dI)) (ci := 8) (v := .ref hX) (C := RX7) (T := TX7) (N := 9) hx hb hts (fun w h => List.mem_cons_of_mem _ (uG_X7 w h)) hown hK hP 0 rfl rfl 6 (by decide) (hts _ (List.mem_cons_of_mem _ kw_231)) (fun _ h9 => h9) rfl dX7_draft_5 ?_
  refine va_alen (v := 4) hx hb hK hP 1 2 rfl rfl rfl dX7_draft_8 ?_
  refine lv_icmp_ge (tgt := 24) hx hb dX7_draft_9 (by decide) (fun c_1 => ?_) (fun c_1 => ?_)
  · skip
    have c_1 : 4 ≤ d := (nI_leI (a := 4) (b := d) (by omega) (by omega)).mp c_1
    refine lv_iconst (v := (-1)) hx hb dX7_draft_24 (by decide) ?_
    have hP9 := hP.sub (ws' := [(h0, .inr (8, [.int k, .long wm, wc, wv, wn, wt, .ref hX, .ref hY, .int (nI d)])), (hX, .inl (cJ, 4, .inr (.inl xf))), (hY, .inl (cB, 4, .inl yf))]) [0, 1, 2] rfl
    have hD9 := hD.sub (ws' := [(h0, .inr (8, [.int k, .long wm, wc, wv, wn, wt, .ref hX, .ref hY, .int (nI d)])), (hX, .inl (cJ, 4, .inr (.inl xf))), (hY, .inl (cB, 4, .inl yf))]) [0, 1, 2] (by decide) rfl
    have hK9 := hK.sub (tys' := [(cB, .byte), (cI, .int), (cJ, .long), (cZ, .boolean)]) [0, 1, 2, 3] rfl
    exact W.iret (v := (-1)) hx hb hr (fun t_ ht hW => ⟨⟨(-1), (d, xf, yf), rfl, ⟨(if_pos (by omega)).symm, (if_pos (by omega)).symm, (if_pos (by omega)).symm, (if_pos (by omega)).symm⟩, by rw [ht]; exact hP9, va_K.moved hW.alike hK9, hD9⟩, hS.F ht⟩) hS.2.2 dX7_draft_25
  · skip
    have c_1 : ¬ (4 ≤ d) := fun h => c_1 ((nI_leI (a := 4) (b := d) (by omega) (by omega)).mpr h)
    refine lv_aload_n hx hb dX7_draft_12 rfl (lv_at hl 0 rfl) ?_
    refine va_get (D := (dC, dI)) (ci := 8) (v := .int (nI d)) (C := RX7) (T := TX7) (N := 9) hx hb hts (fun w h => List.mem_cons_of_mem _ (uG_X7 w h)) hown hK hP 0 rfl rfl 8 (by decide) (hts _ (List.mem_cons_of_mem _ kw_233)) (fun _ h9 => h9) rfl dX7_draft_13 ?_
    refine lv_aload_n hx hb dX7_draft_16 rfl (lv_at hl 0 rfl) ?_
    refine va_get (D := (dC, dI)) (ci := 8) (v := .ref hY) (C := RX7) (T := TX7) (N := 9) hx hb hts (fun w h => List.mem_cons_of_mem _ (uG_X7 w h)) hown hK hP 0 rfl rfl 7 (by decide) (hts _ (List.mem_cons_of_mem _ kw_232)) (fun _ h9 => h9) rfl dX7_draft_17 ?_
    refine va_alen (v := 4) hx hb hK hP 2 0 rfl rfl rfl dX7_draft_20 ?_
    refine lv_icmp_lt (tgt := 26) hx hb dX7_draft_21 (by decide) (fun c_2 => ?_) (fun c_2 => ?_)
    · skip
      have c_2 : d < 4 := (nI_ltI (a := d) (b := 4) (by omega) (by omega)).mp c_2
      refine lv_aload_n hx hb dX7_draft_26 rfl (lv_at hl 0 rfl) ?_
      refine va_get (D := (dC, dI)) (ci := 8) (v := .ref hX) (C := RX7) (T := TX7) (N := 9) hx hb hts (fun w h => List.mem_cons_of_mem _ (uG_X7 w h)) hown hK hP 0 rfl rfl 6 (by decide) (hts _ (List.mem_cons_of_mem _ kw_231)) (fun _ h9 => h9) rfl dX7_draft_27 ?_
      refine lv_aload_n hx hb dX7_draft_30 rfl (lv_at hl 0 rfl) ?_
      refine va_get (D := (dC, dI)) (ci := 8) (v := .int (nI d)) (C := RX7) (T := TX7) (N := 9) hx hb hts (fun w h => List.mem_cons_of_mem _ (uG_X7 w h)) hown hK hP 0 rfl rfl 8 (by decide) (hts _ (List.mem_cons_of_mem _ kw_233)) (fun _ h9 => h9) rfl dX7_draft_31 ?_
      refine lv_lload_n hx hb dX7_draft_34 rfl (lv_at hl 1 rfl) ?_
      refine va_last hx hb hK hP hD hS 1 2 rfl rfl (i := (nI d)) (x := v) (vp_in_nI (n := d) (N := 4) (by omega) (by omega)) dX7_draft_35 (fun H locs hP hD hS => ?_)
      rw [show (nI d).toNatClampNeg = d from nI_clamp (n := d) (by omega)] at hP hD
      have hP : va_P (dC, dI) vwCl [(h0, .inr (8, [.int k, .long wm, wc, wv, wn, wt, .ref hX, .ref hY, .int (nI d)])), (hX, .inl (cJ, 4, .inr (.inl (vp_updL xf d v)))), (hY, .inl (cB, 4, .inl yf))] H := hP
      have hD : va_D A [(h0, .inr (8, [.int k, .long wm, wc, wv, wn, wt, .ref hX, .ref hY, .int (nI d)])), (hX, .inl (cJ, 4, .inr (.inl (vp_updL xf d v)))), (hY, .inl (cB, 4, .inl yf))] := hD
      refine lv_aload_n hx hb dX7_draft_36 rfl (lv_at hl 0 rfl) ?_
      refine va_get (D := (dC, dI)) (ci := 8) (v := .ref hY) (C := RX7) (T := TX7) (N := 9) hx hb hts (fun w h => List.mem_cons_of_mem _ (uG_X7 w h)) hown hK hP 0 rfl rfl 7 (by decide) (hts _ (List.mem_cons_of_mem _ kw_232)) (fun _ h9 => h9) rfl dX7_draft_37 ?_
      refine lv_aload_n hx hb dX7_draft_40 rfl (lv_at hl 0 rfl) ?_
      refine va_get (D := (dC, dI)) (ci := 8) (v := .int (nI d)) (C := RX7) (T := TX7) (N := 9) hx hb hts (fun w h => List.mem_cons_of_mem _ (uG_X7 w h)) hown hK hP 0 rfl rfl 8 (by decide) (hts _ (List.mem_cons_of_mem _ kw_233)) (fun _ h9 => h9) rfl dX7_draft_41 ?_
      refine lv_iload_n hx hb dX7_draft_44 rfl (lv_at hl 2 rfl) ?_
      refine va_bast hx hb hK hP hD hS 2 0 rfl rfl (i := (nI d)) (x := b) (vp_in_nI (n := d) (N := 4) (by omega) (by omega)) dX7_draft_45 (fun H locs hP hD hS => ?_)
      rw [show (nI d).toNatClampNeg = d from nI_clamp (n := d) (by omega)] at hP hD
      have hP : va_P (dC, dI) vwCl [(h0, .inr (8, [.int k, .long wm, wc, wv, wn, wt, .ref hX, .ref hY, .int (nI d)])), (hX, .inl (cJ, 4, .inr (.inl (vp_updL xf d v)))), (hY, .inl (cB, 4, .inl (upd yf d (vp_nar .byte b))))] H := hP
      have hD : va_D A [(h0, .inr (8, [.int k, .long wm, wc, wv, wn, wt, .ref hX, .ref hY, .int (nI d)])), (hX, .inl (cJ, 4, .inr (.inl (vp_updL xf d v)))), (hY, .inl (cB, 4, .inl (upd yf d (vp_nar .byte b))))] := hD
      refine lv_aload_n hx hb dX7_draft_46 rfl (lv_at hl 0 rfl) ?_
      refine lv_dup hx hb dX7_draft_47 rfl ?_
      refine va_get (D := (dC, dI)) (ci := 8) (v := .int (nI d)) (C := RX7) (T := TX7) (N := 9) hx hb hts (fun w h => List.mem_cons_of_mem _ (uG_X7 w h)) hown hK hP 0 rfl rfl 8 (by decide) (hts _ (List.mem_cons_of_mem _ kw_233)) (fun _ h9 => h9) rfl dX7_draft_48 ?_
      refine lv_iconst (v := 1) hx hb dX7_draft_51 (by decide) ?_
      refine lv_iadd hx hb dX7_draft_52 ?_
      refine lv_topi (fun x_3 ex_3 => ?_)
      have ex_3 : x_3 = nI (d + 1) := ex_3.trans (nI_add d 1)
      subst ex_3
      refine va_put (D := (dC, dI)) (ci := 8) (v := .int (nI (d + 1))) (ty := .int) (C := RX7) (T := TX7) (N := 9) hx hb hts (fun w h => List.mem_cons_of_mem _ (uG_X7 w h)) tyX7 tyX7_ok nmX7 hown hK hP hD hS 0 rfl rfl 8 (by decide) (hts _ (List.mem_cons_of_mem _ kw_233)) (fun _ h9 => h9) rfl (by decide +kernel) rfl rfl (Nat.le_of_ble_eq_true rfl) dX7_draft_53 (fun H locs hP hD hS => ?_)
      have hP : va_P (dC, dI) vwCl [(h0, .inr (8, [.int k, .long wm, wc, wv, wn, wt, .ref hX, .ref hY, .int (nI (d + 1))])), (hX, .inl (cJ, 4, .inr (.inl (vp_updL xf d v)))), (hY, .inl (cB, 4, .inl (upd yf d (vp_nar .byte b))))] H := hP
      have hD : va_D A [(h0, .inr (8, [.int k, .long wm, wc, wv, wn, wt, .ref hX, .ref hY, .int (nI (d + 1))])), (hX, .inl (cJ, 4, .inr (.inl (vp_updL xf d v)))), (hY, .inl (cB, 4, .inl (upd yf d (vp_nar .byte b))))] := hD
      refine lv_aload_n hx hb dX7_draft_56 rfl (lv_at hl 0 rfl) ?_
      refine va_get (D := (dC, dI)) (ci := 8) (v := .int (nI (d + 1))) (C := RX7) (T := TX7) (N := 9) hx hb hts (fun w h => List.mem_cons_of_mem _ (uG_X7 w h)) hown hK hP 0 rfl rfl 8 (by decide) (hts _ (List.mem_cons_of_mem _ kw_233)) (fun _ h9 => h9) rfl dX7_draft_57 ?_
      have hP9 := hP.sub (ws' := [(h0, .inr (8, [.int k, .long wm, wc, wv, wn, wt, .ref hX, .ref hY, .int (nI (d + 1))])), (hX, .inl (cJ, 4, .inr (.inl (vp_updL xf d v)))), (hY, .inl (cB, 4, .inl (upd yf d (vp_nar .byte b))))]) [0, 1, 2] rfl
      have hD9 := hD.sub (ws' := [(h0, .inr (8, [.int k, .long wm, wc, wv, wn, wt, .ref hX, .ref hY, .int (nI (d + 1))])), (hX, .inl (cJ, 4, .inr (.inl (vp_updL xf d v)))), (hY, .inl (cB, 4, .inl (upd yf d (vp_nar .byte b))))]) [0, 1, 2] (by decide) rfl
      have hK9 := hK.sub (tys' := [(cB, .byte), (cI, .int), (cJ, .long), (cZ, .boolean)]) [0, 1, 2, 3] rfl
      exact W.iret (v := (nI (d + 1))) hx hb hr (fun t_ ht hW => ⟨⟨(nI (d + 1)), (d + 1, vp_updL xf d v, upd yf d (vp_nar .byte b)), rfl, ⟨(if_neg (by omega)).symm, (if_neg (by omega)).symm, (if_neg (by omega)).symm, (if_neg (by omega)).symm⟩, by rw [ht]; exact hP9, va_K.moved hW.alike hK9, hD9⟩, hS.F ht⟩) hS.2.2 dX7_draft_60
    · skip
      have c_2 : ¬ (d < 4) := fun h => c_2 ((nI_ltI (a := d) (b := 4) (by omega) (by omega)).mpr h)
      exact absurd c_2 (by omega)
theorem dX12_draft_0 : decode cX12_draft 0 = .ok (.aload_n 0, 1) := by decide +kernel
theorem dX12_draft_1 : decode cX12_draft 1 = .ok (.getfield 268, 3) := by decide +kernel
theorem dX12_draft_4 : decode cX12_draft 4 = .ok (.iconst 4, 1) := by decide +kernel
theorem dX12_draft_5 : decode cX12_draft 5 = .ok (.if_icmp .ne 5, 3) := by decide +kernel
theorem dX12_draft_8 : decode cX12_draft 8 = .ok (.iconst (-1), 1) := by decide +kernel
theorem dX12_draft_9 : decode cX12_draft 9 = .ok (.ireturn, 1) := by decide +kernel
theorem dX12_draft_10 : decode cX12_draft 10 = .ok (.aload_n 0, 1) := by decide +kernel
theorem dX12_draft_11 : decode cX12_draft 11 = .ok (.getfield 34, 3) := by decide +kernel
theorem dX12_draft_14 : decode cX12_draft 14 = .ok (.aload_n 0, 1) := by decide +kernel
theorem dX12_draft_15 : decode cX12_draft 15 = .ok (.getfield 268, 3) := by decide +kernel
theorem dX12_draft_18 : decode cX12_draft 18 = .ok (.lload_n 1, 1) := by decide +kernel
theorem dX12_draft_19 : decode cX12_draft 19 = .ok (.lastore, 1) := by decide +kernel
theorem dX12_draft_20 : decode cX12_draft 20 = .ok (.aload_n 0, 1) := by decide +kernel
theorem dX12_draft_21 : decode cX12_draft 21 = .ok (.getfield 37, 3) := by decide +kernel
theorem dX12_draft_24 : decode cX12_draft 24 = .ok (.aload_n 0, 1) := by decide +kernel
theorem dX12_draft_25 : decode cX12_draft 25 = .ok (.getfield 268, 3) := by decide +kernel
theorem dX12_draft_28 : decode cX12_draft 28 = .ok (.iload_n 3, 1) := by decide +kernel
theorem dX12_draft_29 : decode cX12_draft 29 = .ok (.bastore, 1) := by decide +kernel
theorem dX12_draft_30 : decode cX12_draft 30 = .ok (.aload_n 0, 1) := by decide +kernel
theorem dX12_draft_31 : decode cX12_draft 31 = .ok (.dup, 1) := by decide +kernel
theorem dX12_draft_32 : decode cX12_draft 32 = .ok (.getfield 268, 3) := by decide +kernel
theorem dX12_draft_35 : decode cX12_draft 35 = .ok (.iconst 1, 1) := by decide +kernel
theorem dX12_draft_36 : decode cX12_draft 36 = .ok (.iadd, 1) := by decide +kernel
theorem dX12_draft_37 : decode cX12_draft 37 = .ok (.putfield 268, 3) := by decide +kernel
theorem dX12_draft_40 : decode cX12_draft 40 = .ok (.aload_n 0, 1) := by decide +kernel
theorem dX12_draft_41 : decode cX12_draft 41 = .ok (.getfield 268, 3) := by decide +kernel
theorem dX12_draft_44 : decode cX12_draft 44 = .ok (.ireturn, 1) := by decide +kernel
abbrev cs_t_X12_draft (cB cI cJ cZ : ClassId) (h0 : Nat) (a : Nat → Nat) (d : Nat) (xf : Nat → Int64) (yf : Nat → Int32) (f : Nat → Int32) (w : Int64) (v : Int64) (b : Int32) : va_W := [(h0, .inr (13, moF a (upd f 11 (nI d)) w)), (a 12, .inl (cJ, 4, .inr (.inl xf))), (a 13, .inl (cZ, 4, .inl yf))]
abbrev pc_t_X12_draft (dC : Nat → ClassId) (dI : Nat → Nat → Nat) (sz : Nat) (cB cI cJ cZ : ClassId) (h0 : Nat) (a : Nat → Nat) (d : Nat) (xf : Nat → Int64) (yf : Nat → Int32) (f : Nat → Int32) (w : Int64) (v : Int64) (b : Int32) : Array Value → State → Prop := va_Pc [.ref h0, .long v, .int b] (fun U => U.heap.size = sz ∧ va_P (dC, dI) vwCl [(h0, .inr (13, moF a (upd f 11 (nI d)) w)), (a 12, .inl (cJ, 4, .inr (.inl xf))), (a 13, .inl (cZ, 4, .inl yf))] U.heap ∧ va_K (dC, dI) vwCl [(cB, .byte), (cI, .int), (cJ, .long), (cZ, .boolean)] U ∧ va_D (fun _ => True) [(h0, .inr (13, moF a (upd f 11 (nI d)) w)), (a 12, .inl (cJ, 4, .inr (.inl xf))), (a 13, .inl (cZ, 4, .inl yf))])
abbrev qc_t_X12_draft (dC : Nat → ClassId) (dI : Nat → Nat → Nat) (cB cI cJ cZ : ClassId) (h0 : Nat) (a : Nat → Nat) (d : Nat) (xf : Nat → Int64) (yf : Nat → Int32) (f : Nat → Int32) (w : Int64) (v : Int64) (b : Int32) (A : Nat → Prop) : Array Value → State → Outcome → State → Prop := va_Qi (fun (r : Int32) (u : Nat × (Nat → Int64) × (Nat → Int32)) => match u with | (d2, x2, y2) => r = drR d ∧ d2 = drK d ∧ x2 = drX xf d v ∧ y2 = drY yf d (vp_nar .boolean b)) (fun (u : Nat × (Nat → Int64) × (Nat → Int32)) t_ => match u with | (d2, x2, y2) => va_P (dC, dI) vwCl [(h0, .inr (13, moF a (upd f 11 (nI d2)) w)), (a 12, .inl (cJ, 4, .inr (.inl x2))), (a 13, .inl (cZ, 4, .inl y2))] t_.heap ∧ va_K (dC, dI) vwCl [(cB, .byte), (cI, .int), (cJ, .long), (cZ, .boolean)] t_ ∧ va_D A [(h0, .inr (13, moF a (upd f 11 (nI d2)) w)), (a 12, .inl (cJ, 4, .inr (.inl x2))), (a 13, .inl (cZ, 4, .inl y2))]) A
set_option maxHeartbeats 4000000 in
set_option maxRecDepth 100000 in
theorem t_X12_draft (l : Launch) (dC : Nat → ClassId) (dI : Nat → Nat → Nat) (sz : Nat) (cB cI cJ cZ : ClassId) (h0 : Nat) (a : Nat → Nat) (d : Nat) (xf : Nat → Int64) (yf : Nat → Int32) (f : Nat → Int32) (w : Int64) (v : Int64) (b : Int32) (hd : d ≤ 4) : Met l yX12_draft (wsOf yX12_draft cX12_draft 4 (some .int)) ({ frames := 0, cells := 0, slots := 0, locals := 0 }) (pc_t_X12_draft dC dI sz cB cI cJ cZ h0 a d xf yf f w v b) (qc_t_X12_draft dC dI cB cI cJ cZ h0 a d xf yf f w v b (va_A (cs_t_X12_draft cB cI cJ cZ h0 a d xf yf f w v b) sz)) 0 0 (va_A (cs_t_X12_draft cB cI cJ cZ h0 a d xf yf f w v b) sz) := by
  refine Met.ofW (cc := cX12_draft) (maxL := 4) (ret := (some .int)) (by decide) rfl ?_
  intro p e s m args below meth c s₁ B hml hv
  obtain ⟨rfl, hsz, hP, hK, hD0⟩ := hv
  have hx := B.exec
  have hb := B.bytes
  have hr := B.returns
  have hts := atoms_spec (ws := (wsOf yX12_draft cX12_draft 4 (some .int))) B.pre
  have hown : s.vm.findClass RX12 = some m.cls := findClass_of_methodNamed B.named
  have hlocks := B.notSynchronized
  subst hsz
  have hD := hD0.self (sz := s.heap.size)
  generalize hAe : va_A (cs_t_X12_draft cB cI cJ cZ h0 a d xf yf f w v b) s.heap.size = A at hD ⊢
  have hA : ∀ q : Nat, s.heap.size ≤ q → A q := fun q h => by rw [← hAe]; exact Or.inr h
  have hS : va_S A s.heap s.heap [] := va_S.rf
  have hP : va_P (dC, dI) vwCl [(h0, .inr (13, moF a (upd f 11 (nI d)) w)), (a 12, .inl (cJ, 4, .inr (.inl xf))), (a 13, .inl (cZ, 4, .inl yf))] s.heap := hP
  have hl := lv_entry ([.ref h0, .long v, .int b]) (n := 4) (Nat.le_of_ble_eq_true rfl)
  rw [lg_entry_eq]
  generalize (lg_sl ([.ref h0, .long v, .int b]) ++ List.replicate (4 - (lg_sl ([.ref h0, .long v, .int b])).length) Slot.unset).toArray = ls at hl ⊢
  have hl : lv_has ls 4 [(0, .ref h0), (1, .long v), (3, .int b)] := hl
  refine lv_aload_n hx hb dX12_draft_0 rfl (lv_at hl 0 rfl) ?_
  refine va_get (D := (dC, dI)) (ci := 13) (v := .int (nI d)) (C := RX12) (T := TX12) (N := 115) hx hb hts (fun w h => List.mem_cons_of_mem _ (uG_X12 w h)) hown hK hP 0 rfl rfl 11 (by decide) (hts _ (List.mem_cons_of_mem _ kw_1702)) (fun _ h9 => h9) rfl dX12_draft_1 ?_
  refine lv_iconst (v := 4) hx hb dX12_draft_4 (by decide) ?_
  refine lv_icmp_ne (tgt := 10) hx hb dX12_draft_5 (by decide) (fun c_1 => ?_) (fun c_1 => ?_)
  · skip
    have c_1 : ¬ (d = 4) := fun h => c_1 ((nI_eq (a := d) (b := 4) (by omega) (by omega)).mpr h)
    refine lv_aload_n hx hb dX12_draft_10 rfl (lv_at hl 0 rfl) ?_
    refine va_get (D := (dC, dI)) (ci := 13) (v := .ref (a 12)) (C := RX12) (T := TX12) (N := 115) hx hb hts (fun w h => List.mem_cons_of_mem _ (uG_X12 w h)) hown hK hP 0 rfl rfl 12 (by decide) (hts _ (List.mem_cons_of_mem _ kw_1703)) (fun _ h9 => h9) rfl dX12_draft_11 ?_
    refine lv_aload_n hx hb dX12_draft_14 rfl (lv_at hl 0 rfl) ?_
    refine va_get (D := (dC, dI)) (ci := 13) (v := .int (nI d)) (C := RX12) (T := TX12) (N := 115) hx hb hts (fun w h => List.mem_cons_of_mem _ (uG_X12 w h)) hown hK hP 0 rfl rfl 11 (by decide) (hts _ (List.mem_cons_of_mem _ kw_1702)) (fun _ h9 => h9) rfl dX12_draft_15 ?_
    refine lv_lload_n hx hb dX12_draft_18 rfl (lv_at hl 1 rfl) ?_
    refine va_last hx hb hK hP hD hS 1 2 rfl rfl (i := (nI d)) (x := v) (vp_in_nI (n := d) (N := 4) (by omega) (by omega)) dX12_draft_19 (fun H locs hP hD hS => ?_)
    rw [show (nI d).toNatClampNeg = d from nI_clamp (n := d) (by omega)] at hP hD
    have hP : va_P (dC, dI) vwCl [(h0, .inr (13, moF a (upd f 11 (nI d)) w)), (a 12, .inl (cJ, 4, .inr (.inl (vp_updL xf d v)))), (a 13, .inl (cZ, 4, .inl yf))] H := hP
    have hD : va_D A [(h0, .inr (13, moF a (upd f 11 (nI d)) w)), (a 12, .inl (cJ, 4, .inr (.inl (vp_updL xf d v)))), (a 13, .inl (cZ, 4, .inl yf))] := hD
    refine lv_aload_n hx hb dX12_draft_20 rfl (lv_at hl 0 rfl) ?_
    refine va_get (D := (dC, dI)) (ci := 13) (v := .ref (a 13)) (C := RX12) (T := TX12) (N := 115) hx hb hts (fun w h => List.mem_cons_of_mem _ (uG_X12 w h)) hown hK hP 0 rfl rfl 13 (by decide) (hts _ (List.mem_cons_of_mem _ kw_1704)) (fun _ h9 => h9) rfl dX12_draft_21 ?_
    refine lv_aload_n hx hb dX12_draft_24 rfl (lv_at hl 0 rfl) ?_
    refine va_get (D := (dC, dI)) (ci := 13) (v := .int (nI d)) (C := RX12) (T := TX12) (N := 115) hx hb hts (fun w h => List.mem_cons_of_mem _ (uG_X12 w h)) hown hK hP 0 rfl rfl 11 (by decide) (hts _ (List.mem_cons_of_mem _ kw_1702)) (fun _ h9 => h9) rfl dX12_draft_25 ?_
    refine lv_iload_n hx hb dX12_draft_28 rfl (lv_at hl 2 rfl) ?_
    refine va_zast hx hb hK hP hD hS 2 3 rfl rfl (i := (nI d)) (x := b) (vp_in_nI (n := d) (N := 4) (by omega) (by omega)) dX12_draft_29 (fun H locs hP hD hS => ?_)
    rw [show (nI d).toNatClampNeg = d from nI_clamp (n := d) (by omega)] at hP hD
    have hP : va_P (dC, dI) vwCl [(h0, .inr (13, moF a (upd f 11 (nI d)) w)), (a 12, .inl (cJ, 4, .inr (.inl (vp_updL xf d v)))), (a 13, .inl (cZ, 4, .inl (upd yf d (vp_nar .boolean b))))] H := hP
    have hD : va_D A [(h0, .inr (13, moF a (upd f 11 (nI d)) w)), (a 12, .inl (cJ, 4, .inr (.inl (vp_updL xf d v)))), (a 13, .inl (cZ, 4, .inl (upd yf d (vp_nar .boolean b))))] := hD
    refine lv_aload_n hx hb dX12_draft_30 rfl (lv_at hl 0 rfl) ?_
    refine lv_dup hx hb dX12_draft_31 rfl ?_
    refine va_get (D := (dC, dI)) (ci := 13) (v := .int (nI d)) (C := RX12) (T := TX12) (N := 115) hx hb hts (fun w h => List.mem_cons_of_mem _ (uG_X12 w h)) hown hK hP 0 rfl rfl 11 (by decide) (hts _ (List.mem_cons_of_mem _ kw_1702)) (fun _ h9 => h9) rfl dX12_draft_32 ?_
    refine lv_iconst (v := 1) hx hb dX12_draft_35 (by decide) ?_
    refine lv_iadd hx hb dX12_draft_36 ?_
    refine lv_topi (fun x_2 ex_2 => ?_)
    have ex_2 : x_2 = nI (d + 1) := ex_2.trans (nI_add d 1)
    subst ex_2
    refine va_put (D := (dC, dI)) (ci := 13) (v := .int (nI (d + 1))) (ty := .int) (C := RX12) (T := TX12) (N := 115) hx hb hts (fun w h => List.mem_cons_of_mem _ (uG_X12 w h)) tyX12 tyX12_ok nmX12 hown hK hP hD hS 0 rfl rfl 11 (by decide) (hts _ (List.mem_cons_of_mem _ kw_1702)) (fun _ h9 => h9) rfl (by decide +kernel) rfl rfl (Nat.le_of_ble_eq_true rfl) dX12_draft_37 (fun H locs hP hD hS => ?_)
    have hP : va_P (dC, dI) vwCl [(h0, .inr (13, moF a (upd f 11 (nI (d + 1))) w)), (a 12, .inl (cJ, 4, .inr (.inl (vp_updL xf d v)))), (a 13, .inl (cZ, 4, .inl (upd yf d (vp_nar .boolean b))))] H := hP
    have hD : va_D A [(h0, .inr (13, moF a (upd f 11 (nI (d + 1))) w)), (a 12, .inl (cJ, 4, .inr (.inl (vp_updL xf d v)))), (a 13, .inl (cZ, 4, .inl (upd yf d (vp_nar .boolean b))))] := hD
    refine lv_aload_n hx hb dX12_draft_40 rfl (lv_at hl 0 rfl) ?_
    refine va_get (D := (dC, dI)) (ci := 13) (v := .int (nI (d + 1))) (C := RX12) (T := TX12) (N := 115) hx hb hts (fun w h => List.mem_cons_of_mem _ (uG_X12 w h)) hown hK hP 0 rfl rfl 11 (by decide) (hts _ (List.mem_cons_of_mem _ kw_1702)) (fun _ h9 => h9) rfl dX12_draft_41 ?_
    have hP9 := hP.sub (ws' := [(h0, .inr (13, moF a (upd f 11 (nI (d + 1))) w)), (a 12, .inl (cJ, 4, .inr (.inl (vp_updL xf d v)))), (a 13, .inl (cZ, 4, .inl (upd yf d (vp_nar .boolean b))))]) [0, 1, 2] rfl
    have hD9 := hD.sub (ws' := [(h0, .inr (13, moF a (upd f 11 (nI (d + 1))) w)), (a 12, .inl (cJ, 4, .inr (.inl (vp_updL xf d v)))), (a 13, .inl (cZ, 4, .inl (upd yf d (vp_nar .boolean b))))]) [0, 1, 2] (by decide) rfl
    have hK9 := hK.sub (tys' := [(cB, .byte), (cI, .int), (cJ, .long), (cZ, .boolean)]) [0, 1, 2, 3] rfl
    exact W.iret (v := (nI (d + 1))) hx hb hr (fun t_ ht hW => ⟨⟨(nI (d + 1)), (d + 1, vp_updL xf d v, upd yf d (vp_nar .boolean b)), rfl, ⟨(if_neg (by omega)).symm, (if_neg (by omega)).symm, (if_neg (by omega)).symm, (if_neg (by omega)).symm⟩, by rw [ht]; exact hP9, va_K.moved hW.alike hK9, hD9⟩, hS.F ht⟩) hS.2.2 dX12_draft_44
  · skip
    have c_1 : d = 4 := (nI_eq (a := d) (b := 4) (by omega) (by omega)).mp c_1
    refine lv_iconst (v := (-1)) hx hb dX12_draft_8 (by decide) ?_
    have hP9 := hP.sub (ws' := [(h0, .inr (13, moF a (upd f 11 (nI d)) w)), (a 12, .inl (cJ, 4, .inr (.inl xf))), (a 13, .inl (cZ, 4, .inl yf))]) [0, 1, 2] rfl
    have hD9 := hD.sub (ws' := [(h0, .inr (13, moF a (upd f 11 (nI d)) w)), (a 12, .inl (cJ, 4, .inr (.inl xf))), (a 13, .inl (cZ, 4, .inl yf))]) [0, 1, 2] (by decide) rfl
    have hK9 := hK.sub (tys' := [(cB, .byte), (cI, .int), (cJ, .long), (cZ, .boolean)]) [0, 1, 2, 3] rfl
    exact W.iret (v := (-1)) hx hb hr (fun t_ ht hW => ⟨⟨(-1), (d, xf, yf), rfl, ⟨(if_pos (by omega)).symm, (if_pos (by omega)).symm, (if_pos (by omega)).symm, (if_pos (by omega)).symm⟩, by rw [ht]; exact hP9, va_K.moved hW.alike hK9, hD9⟩, hS.F ht⟩) hS.2.2 dX12_draft_9


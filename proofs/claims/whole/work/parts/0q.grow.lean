/-! longer copies -/
set_option maxRecDepth 20000 in
theorem kc_J7_copyOf_c38d5 : Cond.code yJ7_copyOf_c38d5 cJ7_copyOf_c38d5 3 (some (.array .long)) ∈ wsG := kGm (tab_5 (List.mem_of_getElem? (i := 203) rfl)) rfl
set_option maxRecDepth 20000 in
theorem kc_J7_copyOf_9075b : Cond.code yJ7_copyOf_9075b cJ7_copyOf_9075b 3 (some (.array .byte)) ∈ wsG := kGm (tab_5 (List.mem_of_getElem? (i := 213) rfl)) rfl
theorem dJ7_copyOf_c38d5_0 : decode cJ7_copyOf_c38d5 0 = .ok (.iload_n 1, 1) := by decide +kernel
theorem dJ7_copyOf_c38d5_1 : decode cJ7_copyOf_c38d5 1 = .ok (.aload_n 0, 1) := by decide +kernel
theorem dJ7_copyOf_c38d5_2 : decode cJ7_copyOf_c38d5 2 = .ok (.arraylength, 1) := by decide +kernel
theorem dJ7_copyOf_c38d5_3 : decode cJ7_copyOf_c38d5 3 = .ok (.if_icmp .ne 11, 3) := by decide +kernel
theorem dJ7_copyOf_c38d5_6 : decode cJ7_copyOf_c38d5 6 = .ok (.aload_n 0, 1) := by decide +kernel
theorem dJ7_copyOf_c38d5_7 : decode cJ7_copyOf_c38d5 7 = .ok (.invokevirtual 319, 3) := by decide +kernel
theorem dJ7_copyOf_c38d5_10 : decode cJ7_copyOf_c38d5 10 = .ok (.checkcast 320, 3) := by decide +kernel
theorem dJ7_copyOf_c38d5_13 : decode cJ7_copyOf_c38d5 13 = .ok (.areturn, 1) := by decide +kernel
theorem dJ7_copyOf_c38d5_14 : decode cJ7_copyOf_c38d5 14 = .ok (.iload_n 1, 1) := by decide +kernel
theorem dJ7_copyOf_c38d5_15 : decode cJ7_copyOf_c38d5 15 = .ok (.newarray .long, 2) := by decide +kernel
theorem dJ7_copyOf_c38d5_17 : decode cJ7_copyOf_c38d5 17 = .ok (.astore_n 2, 1) := by decide +kernel
theorem dJ7_copyOf_c38d5_18 : decode cJ7_copyOf_c38d5 18 = .ok (.aload_n 0, 1) := by decide +kernel
theorem dJ7_copyOf_c38d5_19 : decode cJ7_copyOf_c38d5 19 = .ok (.iconst 0, 1) := by decide +kernel
theorem dJ7_copyOf_c38d5_20 : decode cJ7_copyOf_c38d5 20 = .ok (.aload_n 2, 1) := by decide +kernel
theorem dJ7_copyOf_c38d5_21 : decode cJ7_copyOf_c38d5 21 = .ok (.iconst 0, 1) := by decide +kernel
theorem dJ7_copyOf_c38d5_22 : decode cJ7_copyOf_c38d5 22 = .ok (.aload_n 0, 1) := by decide +kernel
theorem dJ7_copyOf_c38d5_23 : decode cJ7_copyOf_c38d5 23 = .ok (.arraylength, 1) := by decide +kernel
theorem dJ7_copyOf_c38d5_24 : decode cJ7_copyOf_c38d5 24 = .ok (.iload_n 1, 1) := by decide +kernel
theorem dJ7_copyOf_c38d5_25 : decode cJ7_copyOf_c38d5 25 = .ok (.invokestatic 304, 3) := by decide +kernel
theorem dJ7_copyOf_c38d5_28 : decode cJ7_copyOf_c38d5 28 = .ok (.invokestatic 150, 3) := by decide +kernel
theorem dJ7_copyOf_c38d5_31 : decode cJ7_copyOf_c38d5 31 = .ok (.aload_n 2, 1) := by decide +kernel
theorem dJ7_copyOf_c38d5_32 : decode cJ7_copyOf_c38d5 32 = .ok (.areturn, 1) := by decide +kernel
abbrev cs_tg_J7_copyOf_c38d5 (cB cI cJ cZ : ClassId) (h1 n c1 : Nat) (g : Nat → Int64) : va_W := [(h1, .inl (cJ, n, .inr (.inl g)))]
abbrev pc_tg_J7_copyOf_c38d5 (dC : Nat → ClassId) (dI : Nat → Nat → Nat) (sz : Nat) (cB cI cJ cZ : ClassId) (h1 n c1 : Nat) (g : Nat → Int64) : Array Value → State → Prop := va_Pc [.ref h1, .int (nI c1)] (fun U => U.heap.size = sz ∧ va_P (dC, dI) vwCl [(h1, .inl (cJ, n, .inr (.inl g)))] U.heap ∧ va_K (dC, dI) vwCl [(cB, .byte), (cI, .int), (cJ, .long), (cZ, .boolean)] U ∧ va_D (fun _ => True) [(h1, .inl (cJ, n, .inr (.inl g)))])
abbrev qc_tg_J7_copyOf_c38d5 (dC : Nat → ClassId) (dI : Nat → Nat → Nat) (cB cI cJ cZ : ClassId) (h1 n c1 : Nat) (g : Nat → Int64) (A : Nat → Prop) : Array Value → State → Outcome → State → Prop := va_Qr (fun (u : Unit) => match u with | _ => True) (fun (u : Unit) (ra : Nat) t_ => match u with | _ => va_P (dC, dI) vwCl [(h1, .inl (cJ, n, .inr (.inl g))), (ra, .inl (cJ, c1, .inr (.inl (va_cpy g (fun _ => 0) 0 0 n))))] t_.heap ∧ va_K (dC, dI) vwCl [(cB, .byte), (cI, .int), (cJ, .long), (cZ, .boolean)] t_ ∧ va_D A [(h1, .inl (cJ, n, .inr (.inl g))), (ra, .inl (cJ, c1, .inr (.inl (va_cpy g (fun _ => 0) 0 0 n))))]) A
set_option maxHeartbeats 4000000 in
set_option maxRecDepth 100000 in
theorem tg_J7_copyOf_c38d5 (l : Launch) (dC : Nat → ClassId) (dI : Nat → Nat → Nat) (sz : Nat) (cB cI cJ cZ : ClassId) (h1 n c1 : Nat) (g : Nat → Int64) (hnc : n < c1) (hc1 : c1 < 1000000) : Met l yJ7_copyOf_c38d5 (wsOf yJ7_copyOf_c38d5 cJ7_copyOf_c38d5 3 (some (.array .long))) ({ frames := 1, cells := 1, slots := c1, locals := 60 }) (pc_tg_J7_copyOf_c38d5 dC dI sz cB cI cJ cZ h1 n c1 g) (qc_tg_J7_copyOf_c38d5 dC dI cB cI cJ cZ h1 n c1 g (va_A (cs_tg_J7_copyOf_c38d5 cB cI cJ cZ h1 n c1 g) sz)) 1 c1 (va_A (cs_tg_J7_copyOf_c38d5 cB cI cJ cZ h1 n c1 g) sz) := by
  refine Met.ofW (cc := cJ7_copyOf_c38d5) (maxL := 3) (ret := (some (.array .long))) (by decide) rfl ?_
  intro p e s m args below meth c s₁ B hml hv
  obtain ⟨rfl, hsz, hP, hK, hD0⟩ := hv
  have hx := B.exec
  have hb := B.bytes
  have hr := B.returns
  have hts := atoms_spec (ws := (wsOf yJ7_copyOf_c38d5 cJ7_copyOf_c38d5 3 (some (.array .long)))) B.pre
  have hown : s.vm.findClass RJ7 = some m.cls := findClass_of_methodNamed B.named
  have hlocks := B.notSynchronized
  subst hsz
  have hD := hD0.self (sz := s.heap.size)
  generalize hAe : va_A (cs_tg_J7_copyOf_c38d5 cB cI cJ cZ h1 n c1 g) s.heap.size = A at hD ⊢
  have hA : ∀ q : Nat, s.heap.size ≤ q → A q := fun q h => by rw [← hAe]; exact Or.inr h
  have hS : va_S A s.heap s.heap [] := va_S.rf
  have hP : va_P (dC, dI) vwCl [(h1, .inl (cJ, n, .inr (.inl g)))] s.heap := hP
  have hl := lv_entry ([.ref h1, .int (nI c1)]) (n := 3) (Nat.le_of_ble_eq_true rfl)
  rw [lg_entry_eq]
  generalize (lg_sl ([.ref h1, .int (nI c1)]) ++ List.replicate (3 - (lg_sl ([.ref h1, .int (nI c1)])).length) Slot.unset).toArray = ls at hl ⊢
  have hl : lv_has ls 3 [(0, .ref h1), (1, .int (nI c1))] := hl
  refine lv_iload_n hx hb dJ7_copyOf_c38d5_0 rfl (lv_at hl 1 rfl) ?_
  refine lv_aload_n hx hb dJ7_copyOf_c38d5_1 rfl (lv_at hl 0 rfl) ?_
  refine va_alen (v := nI n) hx hb hK hP 0 2 rfl rfl rfl dJ7_copyOf_c38d5_2 ?_
  refine lv_icmp_ne (tgt := 14) hx hb dJ7_copyOf_c38d5_3 (by decide) (fun c_1 => ?_) (fun c_1 => ?_)
  · skip
    have c_1 : ¬ (c1 = n) := fun h => c_1 ((nI_eq (a := c1) (b := n) (by omega) (by omega)).mpr h)
    refine lv_iload_n hx hb dJ7_copyOf_c38d5_14 rfl (lv_at hl 1 rfl) ?_
    refine va_newa (atype := .long) (ty := .long) (a0 := (c1, .inr (.inl (fun _ => 0)))) hx hb (hts _ (List.mem_cons_of_mem _ kn_J)) rfl hK hP hD hS hA (n := (nI c1)) (N' := c1) (fun _ => rfl) (nI_pos (n := c1) (by omega)) (nI_clamp (n := c1) (by omega)) (by show c1 * 8 ≤ 536870912; omega) (Nat.le_of_ble_eq_true rfl) (by show 0 + c1 ≤ c1; omega) dJ7_copyOf_c38d5_15 (fun q2 cA2 H hK2 hP hD hS => ?_)
    rw [va_sameJ hK2 4 2 rfl rfl] at hP hD
    have hP : va_P (dC, dI) vwCl [(h1, .inl (cJ, n, .inr (.inl g))), (q2, .inl (cJ, c1, .inr (.inl (fun _ => 0))))] H := hP
    have hD : va_D A [(h1, .inl (cJ, n, .inr (.inl g))), (q2, .inl (cJ, c1, .inr (.inl (fun _ => 0))))] := hD
    refine W.widen (k := 1) (n := 0 + c1) (by omega) (by omega) ?_
    refine lv_astore_n (lv' := [(2, .ref q2), (0, .ref h1), (1, .int (nI c1))]) hx hb dJ7_copyOf_c38d5_17 rfl hl (by decide) rfl (fun ls hl => ?_)
    refine lv_aload_n hx hb dJ7_copyOf_c38d5_18 rfl (lv_at hl 1 rfl) ?_
    refine lv_iconst (v := 0) hx hb dJ7_copyOf_c38d5_19 (by decide) ?_
    refine lv_aload_n hx hb dJ7_copyOf_c38d5_20 rfl (lv_at hl 0 rfl) ?_
    refine lv_iconst (v := 0) hx hb dJ7_copyOf_c38d5_21 (by decide) ?_
    refine lv_aload_n hx hb dJ7_copyOf_c38d5_22 rfl (lv_at hl 1 rfl) ?_
    refine va_alen (v := nI n) hx hb hK hP 0 2 rfl rfl rfl dJ7_copyOf_c38d5_23 ?_
    refine lv_iload_n hx hb dJ7_copyOf_c38d5_24 rfl (lv_at hl 2 rfl) ?_
    refine va_mmin hx hb (hml.trans hl.1.symm) hown (hts _ (List.mem_cons_of_mem _ kw_817)) (hts _ (List.mem_cons_of_mem _ kw_506)) (hts _ (List.mem_cons_of_mem _ kw_190)) (hts _ (List.mem_cons_of_mem _ kc_min)) (Nat.le_of_ble_eq_true rfl) (Nat.le_of_ble_eq_true rfl) (Nat.le_of_ble_eq_true rfl) (by show 0 + c1 ≤ c1; omega) dJ7_copyOf_c38d5_25 ?_
    refine lv_topi (fun x_3 ex_3 => ?_)
    have ex_3 : x_3 = nI n := by rw [ex_3]; exact if_neg (fun h => by have := (nI_ltI (a := c1) (b := n) (by omega) (by omega)).mp h; omega)
    subst ex_3
    refine va_copyl (n := (nI n)) (dp := 0) (sp := 0) hx hb (hml.trans hl.1.symm) hown (hts _ (List.mem_cons_of_mem _ kw_818)) (hts _ (List.mem_cons_of_mem _ kw_820)) (hts _ (List.mem_cons_of_mem _ kw_819)) (hts _ (List.mem_cons_of_mem _ kw_202)) hK hP hD hS 0 1 2 2 rfl rfl rfl rfl rfl (nI_pos (n := 0) (by omega)) (nI_pos (n := 0) (by omega)) (nI_pos (n := n) (by omega)) (by rw [show (0 : Int32).toNatClampNeg = 0 from nI_clamp (n := 0) (by omega), show (nI n).toNatClampNeg = n from nI_clamp (n := n) (by omega)]; omega) (by rw [show (0 : Int32).toNatClampNeg = 0 from nI_clamp (n := 0) (by omega), show (nI n).toNatClampNeg = n from nI_clamp (n := n) (by omega)]; omega) (fun _ _ => rfl) (Nat.le_of_ble_eq_true rfl) (Nat.le_of_ble_eq_true rfl) dJ7_copyOf_c38d5_28 (fun H locs hP hD hS => ?_)
    rw [show (0 : Int32).toNatClampNeg = 0 from nI_clamp (n := 0) (by omega), show (nI n).toNatClampNeg = n from nI_clamp (n := n) (by omega)] at hP hD
    have hP : va_P (dC, dI) vwCl [(h1, .inl (cJ, n, .inr (.inl g))), (q2, .inl (cJ, c1, .inr (.inl (va_cpy g (fun _ => 0) 0 0 n))))] H := hP
    have hD : va_D A [(h1, .inl (cJ, n, .inr (.inl g))), (q2, .inl (cJ, c1, .inr (.inl (va_cpy g (fun _ => 0) 0 0 n))))] := hD
    refine lv_aload_n hx hb dJ7_copyOf_c38d5_31 rfl (lv_at hl 0 rfl) ?_
    have hP9 := hP.sub (ws' := [(h1, .inl (cJ, n, .inr (.inl g))), (q2, .inl (cJ, c1, .inr (.inl (va_cpy g (fun _ => 0) 0 0 n))))]) [0, 1] rfl
    have hD9 := hD.sub (ws' := [(h1, .inl (cJ, n, .inr (.inl g))), (q2, .inl (cJ, c1, .inr (.inl (va_cpy g (fun _ => 0) 0 0 n))))]) [0, 1] (by decide) rfl
    have hK9 := hK.sub (tys' := [(cB, .byte), (cI, .int), (cJ, .long), (cZ, .boolean)]) [0, 1, 2, 3] rfl
    refine W.widen (k := 1) (n := c1) (by omega) (by omega) ?_
    exact W.aret (v := .ref q2) hx hb hr (Or.inr ⟨_, rfl⟩) (Or.inr ⟨_, rfl⟩) (fun t_ ht hW => ⟨⟨(), q2, rfl, trivial, by rw [ht]; exact hP9, va_K.moved hW.alike hK9, hD9⟩, hS.F ht⟩) hS.2.2 dJ7_copyOf_c38d5_32
  · skip
    have c_1 : c1 = n := (nI_eq (a := c1) (b := n) (by omega) (by omega)).mp c_1
    exact absurd c_1 (by omega)
theorem dJ7_copyOf_9075b_0 : decode cJ7_copyOf_9075b 0 = .ok (.iload_n 1, 1) := by decide +kernel
theorem dJ7_copyOf_9075b_1 : decode cJ7_copyOf_9075b 1 = .ok (.aload_n 0, 1) := by decide +kernel
theorem dJ7_copyOf_9075b_2 : decode cJ7_copyOf_9075b 2 = .ok (.arraylength, 1) := by decide +kernel
theorem dJ7_copyOf_9075b_3 : decode cJ7_copyOf_9075b 3 = .ok (.if_icmp .ne 11, 3) := by decide +kernel
theorem dJ7_copyOf_9075b_6 : decode cJ7_copyOf_9075b 6 = .ok (.aload_n 0, 1) := by decide +kernel
theorem dJ7_copyOf_9075b_7 : decode cJ7_copyOf_9075b 7 = .ok (.invokevirtual 310, 3) := by decide +kernel
theorem dJ7_copyOf_9075b_10 : decode cJ7_copyOf_9075b 10 = .ok (.checkcast 311, 3) := by decide +kernel
theorem dJ7_copyOf_9075b_13 : decode cJ7_copyOf_9075b 13 = .ok (.areturn, 1) := by decide +kernel
theorem dJ7_copyOf_9075b_14 : decode cJ7_copyOf_9075b 14 = .ok (.iload_n 1, 1) := by decide +kernel
theorem dJ7_copyOf_9075b_15 : decode cJ7_copyOf_9075b 15 = .ok (.newarray .byte, 2) := by decide +kernel
theorem dJ7_copyOf_9075b_17 : decode cJ7_copyOf_9075b 17 = .ok (.astore_n 2, 1) := by decide +kernel
theorem dJ7_copyOf_9075b_18 : decode cJ7_copyOf_9075b 18 = .ok (.aload_n 0, 1) := by decide +kernel
theorem dJ7_copyOf_9075b_19 : decode cJ7_copyOf_9075b 19 = .ok (.iconst 0, 1) := by decide +kernel
theorem dJ7_copyOf_9075b_20 : decode cJ7_copyOf_9075b 20 = .ok (.aload_n 2, 1) := by decide +kernel
theorem dJ7_copyOf_9075b_21 : decode cJ7_copyOf_9075b 21 = .ok (.iconst 0, 1) := by decide +kernel
theorem dJ7_copyOf_9075b_22 : decode cJ7_copyOf_9075b 22 = .ok (.aload_n 0, 1) := by decide +kernel
theorem dJ7_copyOf_9075b_23 : decode cJ7_copyOf_9075b 23 = .ok (.arraylength, 1) := by decide +kernel
theorem dJ7_copyOf_9075b_24 : decode cJ7_copyOf_9075b 24 = .ok (.iload_n 1, 1) := by decide +kernel
theorem dJ7_copyOf_9075b_25 : decode cJ7_copyOf_9075b 25 = .ok (.invokestatic 304, 3) := by decide +kernel
theorem dJ7_copyOf_9075b_28 : decode cJ7_copyOf_9075b 28 = .ok (.invokestatic 150, 3) := by decide +kernel
theorem dJ7_copyOf_9075b_31 : decode cJ7_copyOf_9075b 31 = .ok (.aload_n 2, 1) := by decide +kernel
theorem dJ7_copyOf_9075b_32 : decode cJ7_copyOf_9075b 32 = .ok (.areturn, 1) := by decide +kernel
abbrev cs_tg_J7_copyOf_9075b (cB cI cJ cZ : ClassId) (h1 n c1 : Nat) (g : Nat → Int32) : va_W := [(h1, .inl (cB, n, .inl g))]
abbrev pc_tg_J7_copyOf_9075b (dC : Nat → ClassId) (dI : Nat → Nat → Nat) (sz : Nat) (cB cI cJ cZ : ClassId) (h1 n c1 : Nat) (g : Nat → Int32) : Array Value → State → Prop := va_Pc [.ref h1, .int (nI c1)] (fun U => U.heap.size = sz ∧ va_P (dC, dI) vwCl [(h1, .inl (cB, n, .inl g))] U.heap ∧ va_K (dC, dI) vwCl [(cB, .byte), (cI, .int), (cJ, .long), (cZ, .boolean)] U ∧ va_D (fun _ => True) [(h1, .inl (cB, n, .inl g))])
abbrev qc_tg_J7_copyOf_9075b (dC : Nat → ClassId) (dI : Nat → Nat → Nat) (cB cI cJ cZ : ClassId) (h1 n c1 : Nat) (g : Nat → Int32) (A : Nat → Prop) : Array Value → State → Outcome → State → Prop := va_Qr (fun (u : Unit) => match u with | _ => True) (fun (u : Unit) (ra : Nat) t_ => match u with | _ => va_P (dC, dI) vwCl [(h1, .inl (cB, n, .inl g)), (ra, .inl (cB, c1, .inl (va_cpy g (fun _ => 0) 0 0 n)))] t_.heap ∧ va_K (dC, dI) vwCl [(cB, .byte), (cI, .int), (cJ, .long), (cZ, .boolean)] t_ ∧ va_D A [(h1, .inl (cB, n, .inl g)), (ra, .inl (cB, c1, .inl (va_cpy g (fun _ => 0) 0 0 n)))]) A
set_option maxHeartbeats 4000000 in
set_option maxRecDepth 100000 in
theorem tg_J7_copyOf_9075b (l : Launch) (dC : Nat → ClassId) (dI : Nat → Nat → Nat) (sz : Nat) (cB cI cJ cZ : ClassId) (h1 n c1 : Nat) (g : Nat → Int32) (hnc : n < c1) (hc1 : c1 < 1000000) (hy : ∀ i, i < n → fits .byte (.int (g i)) = true) : Met l yJ7_copyOf_9075b (wsOf yJ7_copyOf_9075b cJ7_copyOf_9075b 3 (some (.array .byte))) ({ frames := 1, cells := 1, slots := c1, locals := 60 }) (pc_tg_J7_copyOf_9075b dC dI sz cB cI cJ cZ h1 n c1 g) (qc_tg_J7_copyOf_9075b dC dI cB cI cJ cZ h1 n c1 g (va_A (cs_tg_J7_copyOf_9075b cB cI cJ cZ h1 n c1 g) sz)) 1 c1 (va_A (cs_tg_J7_copyOf_9075b cB cI cJ cZ h1 n c1 g) sz) := by
  refine Met.ofW (cc := cJ7_copyOf_9075b) (maxL := 3) (ret := (some (.array .byte))) (by decide) rfl ?_
  intro p e s m args below meth c s₁ B hml hv
  obtain ⟨rfl, hsz, hP, hK, hD0⟩ := hv
  have hx := B.exec
  have hb := B.bytes
  have hr := B.returns
  have hts := atoms_spec (ws := (wsOf yJ7_copyOf_9075b cJ7_copyOf_9075b 3 (some (.array .byte)))) B.pre
  have hown : s.vm.findClass RJ7 = some m.cls := findClass_of_methodNamed B.named
  have hlocks := B.notSynchronized
  subst hsz
  have hD := hD0.self (sz := s.heap.size)
  generalize hAe : va_A (cs_tg_J7_copyOf_9075b cB cI cJ cZ h1 n c1 g) s.heap.size = A at hD ⊢
  have hA : ∀ q : Nat, s.heap.size ≤ q → A q := fun q h => by rw [← hAe]; exact Or.inr h
  have hS : va_S A s.heap s.heap [] := va_S.rf
  have hP : va_P (dC, dI) vwCl [(h1, .inl (cB, n, .inl g))] s.heap := hP
  have hl := lv_entry ([.ref h1, .int (nI c1)]) (n := 3) (Nat.le_of_ble_eq_true rfl)
  rw [lg_entry_eq]
  generalize (lg_sl ([.ref h1, .int (nI c1)]) ++ List.replicate (3 - (lg_sl ([.ref h1, .int (nI c1)])).length) Slot.unset).toArray = ls at hl ⊢
  have hl : lv_has ls 3 [(0, .ref h1), (1, .int (nI c1))] := hl
  refine lv_iload_n hx hb dJ7_copyOf_9075b_0 rfl (lv_at hl 1 rfl) ?_
  refine lv_aload_n hx hb dJ7_copyOf_9075b_1 rfl (lv_at hl 0 rfl) ?_
  refine va_alen (v := nI n) hx hb hK hP 0 0 rfl rfl rfl dJ7_copyOf_9075b_2 ?_
  refine lv_icmp_ne (tgt := 14) hx hb dJ7_copyOf_9075b_3 (by decide) (fun c_1 => ?_) (fun c_1 => ?_)
  · skip
    have c_1 : ¬ (c1 = n) := fun h => c_1 ((nI_eq (a := c1) (b := n) (by omega) (by omega)).mpr h)
    refine lv_iload_n hx hb dJ7_copyOf_9075b_14 rfl (lv_at hl 1 rfl) ?_
    refine va_newa (atype := .byte) (ty := .byte) (a0 := (c1, .inl (fun _ => 0))) hx hb (hts _ (List.mem_cons_of_mem _ kn_B)) rfl hK hP hD hS hA (n := (nI c1)) (N' := c1) (fun _ => rfl) (nI_pos (n := c1) (by omega)) (nI_clamp (n := c1) (by omega)) (by show c1 * 1 ≤ 536870912; omega) (Nat.le_of_ble_eq_true rfl) (by show 0 + c1 ≤ c1; omega) dJ7_copyOf_9075b_15 (fun q2 cA2 H hK2 hP hD hS => ?_)
    rw [va_sameB hK2 4 0 rfl rfl] at hP hD
    have hP : va_P (dC, dI) vwCl [(h1, .inl (cB, n, .inl g)), (q2, .inl (cB, c1, .inl (fun _ => 0)))] H := hP
    have hD : va_D A [(h1, .inl (cB, n, .inl g)), (q2, .inl (cB, c1, .inl (fun _ => 0)))] := hD
    refine W.widen (k := 1) (n := 0 + c1) (by omega) (by omega) ?_
    refine lv_astore_n (lv' := [(2, .ref q2), (0, .ref h1), (1, .int (nI c1))]) hx hb dJ7_copyOf_9075b_17 rfl hl (by decide) rfl (fun ls hl => ?_)
    refine lv_aload_n hx hb dJ7_copyOf_9075b_18 rfl (lv_at hl 1 rfl) ?_
    refine lv_iconst (v := 0) hx hb dJ7_copyOf_9075b_19 (by decide) ?_
    refine lv_aload_n hx hb dJ7_copyOf_9075b_20 rfl (lv_at hl 0 rfl) ?_
    refine lv_iconst (v := 0) hx hb dJ7_copyOf_9075b_21 (by decide) ?_
    refine lv_aload_n hx hb dJ7_copyOf_9075b_22 rfl (lv_at hl 1 rfl) ?_
    refine va_alen (v := nI n) hx hb hK hP 0 0 rfl rfl rfl dJ7_copyOf_9075b_23 ?_
    refine lv_iload_n hx hb dJ7_copyOf_9075b_24 rfl (lv_at hl 2 rfl) ?_
    refine va_mmin hx hb (hml.trans hl.1.symm) hown (hts _ (List.mem_cons_of_mem _ kw_817)) (hts _ (List.mem_cons_of_mem _ kw_506)) (hts _ (List.mem_cons_of_mem _ kw_190)) (hts _ (List.mem_cons_of_mem _ kc_min)) (Nat.le_of_ble_eq_true rfl) (Nat.le_of_ble_eq_true rfl) (Nat.le_of_ble_eq_true rfl) (by show 0 + c1 ≤ c1; omega) dJ7_copyOf_9075b_25 ?_
    refine lv_topi (fun x_3 ex_3 => ?_)
    have ex_3 : x_3 = nI n := by rw [ex_3]; exact if_neg (fun h => by have := (nI_ltI (a := c1) (b := n) (by omega) (by omega)).mp h; omega)
    subst ex_3
    refine va_copyi (n := (nI n)) (dp := 0) (sp := 0) hx hb (hml.trans hl.1.symm) hown (hts _ (List.mem_cons_of_mem _ kw_818)) (hts _ (List.mem_cons_of_mem _ kw_820)) (hts _ (List.mem_cons_of_mem _ kw_819)) (hts _ (List.mem_cons_of_mem _ kw_202)) hK hP hD hS 0 1 0 0 rfl rfl rfl rfl rfl (nI_pos (n := 0) (by omega)) (nI_pos (n := 0) (by omega)) (nI_pos (n := n) (by omega)) (by rw [show (0 : Int32).toNatClampNeg = 0 from nI_clamp (n := 0) (by omega), show (nI n).toNatClampNeg = n from nI_clamp (n := n) (by omega)]; omega) (by rw [show (0 : Int32).toNatClampNeg = 0 from nI_clamp (n := 0) (by omega), show (nI n).toNatClampNeg = n from nI_clamp (n := n) (by omega)]; omega) (fun i hi => by rw [show (nI n).toNatClampNeg = n from nI_clamp (n := n) (by omega)] at hi; rw [show (0 : Int32).toNatClampNeg + i = i from Nat.zero_add i]; exact hy i hi) (Nat.le_of_ble_eq_true rfl) (Nat.le_of_ble_eq_true rfl) dJ7_copyOf_9075b_28 (fun H locs hP hD hS => ?_)
    rw [show (0 : Int32).toNatClampNeg = 0 from nI_clamp (n := 0) (by omega), show (nI n).toNatClampNeg = n from nI_clamp (n := n) (by omega)] at hP hD
    have hP : va_P (dC, dI) vwCl [(h1, .inl (cB, n, .inl g)), (q2, .inl (cB, c1, .inl (va_cpy g (fun _ => 0) 0 0 n)))] H := hP
    have hD : va_D A [(h1, .inl (cB, n, .inl g)), (q2, .inl (cB, c1, .inl (va_cpy g (fun _ => 0) 0 0 n)))] := hD
    refine lv_aload_n hx hb dJ7_copyOf_9075b_31 rfl (lv_at hl 0 rfl) ?_
    have hP9 := hP.sub (ws' := [(h1, .inl (cB, n, .inl g)), (q2, .inl (cB, c1, .inl (va_cpy g (fun _ => 0) 0 0 n)))]) [0, 1] rfl
    have hD9 := hD.sub (ws' := [(h1, .inl (cB, n, .inl g)), (q2, .inl (cB, c1, .inl (va_cpy g (fun _ => 0) 0 0 n)))]) [0, 1] (by decide) rfl
    have hK9 := hK.sub (tys' := [(cB, .byte), (cI, .int), (cJ, .long), (cZ, .boolean)]) [0, 1, 2, 3] rfl
    refine W.widen (k := 1) (n := c1) (by omega) (by omega) ?_
    exact W.aret (v := .ref q2) hx hb hr (Or.inr ⟨_, rfl⟩) (Or.inr ⟨_, rfl⟩) (fun t_ ht hW => ⟨⟨(), q2, rfl, trivial, by rw [ht]; exact hP9, va_K.moved hW.alike hK9, hD9⟩, hS.F ht⟩) hS.2.2 dJ7_copyOf_9075b_32
  · skip
    have c_1 : c1 = n := (nI_eq (a := c1) (b := n) (by omega) (by omega)).mp c_1
    exact absurd c_1 (by omega)
def gwB (cs : CS) (X t i j : Nat) (x : Int32) : Option CS := if (X, i) ∈ kE cs ∧ (32 + t, i) ∈ kE cs ∧ kP cs t i = some j ∧ ¬ x < 0 ∧ kL cs t i < x.toNatClampNeg ∧ x.toNatClampNeg < 1000000 then some (nA cs t i x.toNatClampNeg (kA cs t i) (va_cpy (kB cs t i) (fun _ => 0) 0 0 (kL cs t i))) else none
theorem gwB_some {cs cs1 : CS} {X t i j : Nat} {x : Int32} (h : gwB cs X t i j x = some cs1) : ((X, i) ∈ kE cs ∧ (32 + t, i) ∈ kE cs ∧ kP cs t i = some j ∧ ¬ x < 0 ∧ kL cs t i < x.toNatClampNeg ∧ x.toNatClampNeg < 1000000) ∧ nA cs t i x.toNatClampNeg (kA cs t i) (va_cpy (kB cs t i) (fun _ => 0) 0 0 (kL cs t i)) = cs1 := by
  unfold gwB at h
  by_cases c : (X, i) ∈ kE cs ∧ (32 + t, i) ∈ kE cs ∧ kP cs t i = some j ∧ ¬ x < 0 ∧ kL cs t i < x.toNatClampNeg ∧ x.toNatClampNeg < 1000000
  · rw [if_pos c] at h; exact ⟨c, Option.some.inj h⟩
  · rw [if_neg c] at h; cases h
theorem gwB_k {cs cs1 : CS} {X t i j : Nat} {x : Int32} (h : gwB cs X t i j x = some cs1) : kK cs1 = kK cs + 1 ∧ kM cs1 = kM cs + x.toNatClampNeg := by
  obtain ⟨-, rfl⟩ := gwB_some h
  exact ⟨rfl, rfl⟩
def gwA (cs : CS) (X t i j : Nat) (x : Int32) : Option CS := if (X, i) ∈ kE cs ∧ (32 + t, i) ∈ kE cs ∧ kP cs t i = some j ∧ ¬ x < 0 ∧ kL cs t i < x.toNatClampNeg ∧ x.toNatClampNeg < 1000000 ∧ ∀ y, y < kL cs t i → fits .byte (.int (kA cs t i y)) = true then some (nA cs t i x.toNatClampNeg (va_cpy (kA cs t i) (fun _ => 0) 0 0 (kL cs t i)) (kB cs t i)) else none
theorem gwA_some {cs cs1 : CS} {X t i j : Nat} {x : Int32} (h : gwA cs X t i j x = some cs1) : ((X, i) ∈ kE cs ∧ (32 + t, i) ∈ kE cs ∧ kP cs t i = some j ∧ ¬ x < 0 ∧ kL cs t i < x.toNatClampNeg ∧ x.toNatClampNeg < 1000000 ∧ ∀ y, y < kL cs t i → fits .byte (.int (kA cs t i y)) = true) ∧ nA cs t i x.toNatClampNeg (va_cpy (kA cs t i) (fun _ => 0) 0 0 (kL cs t i)) (kB cs t i) = cs1 := by
  unfold gwA at h
  by_cases c : (X, i) ∈ kE cs ∧ (32 + t, i) ∈ kE cs ∧ kP cs t i = some j ∧ ¬ x < 0 ∧ kL cs t i < x.toNatClampNeg ∧ x.toNatClampNeg < 1000000 ∧ ∀ y, y < kL cs t i → fits .byte (.int (kA cs t i y)) = true
  · rw [if_pos c] at h; exact ⟨c, Option.some.inj h⟩
  · rw [if_neg c] at h; cases h
theorem gwA_k {cs cs1 : CS} {X t i j : Nat} {x : Int32} (h : gwA cs X t i j x = some cs1) : kK cs1 = kK cs + 1 ∧ kM cs1 = kM cs + x.toNatClampNeg := by
  obtain ⟨-, rfl⟩ := gwA_some h
  exact ⟨rfl, rfl⟩
theorem grw_X8_11 {p : Program} {l : Launch} {e : Env} {R : Room} {s : State} {m : MethodId} {args : Array Value} {below : List Frame} {meth : Method} {c : Code} {H : Heap} {locs : List Loc} {cells slots : Nat} {Q : State → Prop} {cc : ByteArray} {pc : Nat} {ls : Array Slot} {rest : List Value} {y0 : MethodName} {c0 : ByteArray} {n0 : Nat} {r0 : Option FieldType} {dC : Nat → ClassId} {dI : Nat → Nat → Nat} {cB cI cJ cZ cS cO : ClassId} {b : Nat} {cs : CS} {A : Nat → Prop} {Gh : Heap} {nL : Nat} {cs1 : CS} {i j : Nat} {x : Int32} (hx : p.tables.exec = Jvm.exec) (hb : c.code = cc) (hml : c.maxLocals = nL) (hts : ∀ w ∈ wsOf y0 c0 n0 r0, w.before args s = true) (hown : s.vm.findClass RX8 = some m.cls) (hK : va_K (dC, dI) vwCl [(cB, .byte), (cI, .int), (cJ, .long), (cZ, .boolean), (cS, .object "StreamQueries$Source"), (cO, .object "java/lang/Object")] s) (hP : va_P (dC, dI) vwCl (cW cB cI cJ cZ cS cO b cs) H) (hD : va_D A (cW cB cI cJ cZ cS cO b cs)) (hS : va_S A Gh H locs) (hG : va_S A s.heap Gh []) (hA : ∀ q, s.heap.size ≤ q → A q) (hgz : Gh.size = b + kK cs) (hcc : s.heap.size + cells = b + kK cs) (hR : cells + 1 ≤ R.cells ∧ slots + x.toNatClampNeg ≤ R.slots) (hv : gwB cs 9 288 i j x = some cs1) (hsz : ls.size = nL) (h8 : (rest.map fun v => v.category).sum ≤ 7) (hR1 : 3 ≤ R.frames) (hR2 : 180 ≤ R.locals) (hdg : decode cc pc = .ok (.invokestatic 26, 3)) (hdg2 : decode cc (pc + 3) = .ok (.putfield 11, 3)) (kk : ∀ (H1 : Heap) (locs1 : List Loc), va_P (dC, dI) vwCl (cW cB cI cJ cZ cS cO b cs1) H1 → va_D A (cW cB cI cJ cZ cS cO b cs1) → va_S A s.heap H1 [] → H1.size = b + kK cs1 → va_S A H1 H1 locs1 → W p l e R s m args below meth c H1 locs1 (cells + 1) (slots + x.toNatClampNeg) Q (F0 m (pc + 3 + 3) ls rest)) : W p l e R s m args below meth c H locs cells slots Q (F0 m pc ls (.int x :: .ref (b + j) :: .ref (b + i) :: rest)) := by
  refine W_sz (fun hu => ?_)
  have hz : H.size = b + kK cs := by have := hS.1; omega
  obtain ⟨⟨h1, h2, h3, h4, h5, h6⟩, rfl⟩ := gwB_some hv
  have hSs := hG.comp hS
  obtain ⟨c1, hc1, rfl⟩ : ∃ c1 : Nat, c1 < 1000000 ∧ x = nI c1 := by
    obtain ⟨c1, g1, g2⟩ := nI_of h4
    rw [g2, nI_clamp g1] at h6
    exact ⟨c1, h6, g2⟩
  rw [nI_clamp (n := c1) (by omega)] at h5 hR kk
  obtain ⟨k, hk, hg⟩ := cO_at (b := b) (cB := cB) (cI := cI) (cJ := cJ) (cZ := cZ) (cS := cS) (cO := cO) (by decide) h1
  obtain ⟨k2, hk2, hg2⟩ := cA_at (b := b) (cB := cB) (cI := cI) (cJ := cJ) (cZ := cZ) (cS := cS) (cO := cO) h2 h3
  have hg2 : (cW cB cI cJ cZ cS cO b cs)[k2]? = some (b + j, .inl (cJ, kL cs 288 i, .inr (.inl (kB cs 288 i)))) := hg2
  have hkl := (List.getElem?_eq_some_iff.mp hg).1
  have hPc : va_P (dC, dI) vwCl [(b + j, .inl (cJ, kL cs 288 i, .inr (.inl (kB cs 288 i))))] H := hP.sub [k2] (by simp [hg2])
  have hDc : va_D (fun _ => True) ([(b + j, .inl (cJ, kL cs 288 i, .inr (.inl (kB cs 288 i))))] : va_W) := ⟨fun m n y z hm hn _ => by
    have := (List.getElem?_eq_some_iff.mp hm).1
    have := (List.getElem?_eq_some_iff.mp hn).1
    simp at *
    omega, fun _ _ _ => trivial⟩
  have hFc : ∀ q, va_A [(b + j, .inl (cJ, kL cs 288 i, .inr (.inl (kB cs 288 i))))] H.size q → A q := fun q h => by
    rcases h with ⟨k3, e3, h⟩ | h
    · have h3 : k3 < 1 := (List.getElem?_eq_some_iff.mp h).1
      rw [show k3 = 0 by omega] at h
      cases h
      exact hD.2 k2 _ hg2
    · exact hA q (Nat.le_trans hSs.1 h)
  have hK4 := hK.sub (tys' := [(cB, .byte), (cI, .int), (cJ, .long), (cZ, .boolean)]) [0, 1, 2, 3] rfl
  refine va_callr (va_runS (As := [.ref (b + j), .int (nI c1)]) (rest := .ref (b + i) :: rest) ⟨hx, hb, hml, hown, hts⟩ (tg_J7_copyOf_c38d5 l dC dI H.size cB cI cJ cZ (b + j) (kL cs 288 i) c1 (kB cs 288 i) h5 hc1) ⟨callB_of 2 hts (gd_all (in_I kc_J7_copyOf_c38d5)) rfl rfl rfl (hts _ (List.mem_cons_of_mem _ kw_201)) (hts _ (List.mem_cons_of_mem _ kw_1341)) (by decide +kernel) ⟨by show 1 + 1 ≤ R.frames; omega, by show 8 + (3 + 11) + 60 ≤ R.locals; omega⟩, hts _ (List.mem_cons_of_mem _ kw_1342)⟩
    ⟨fun x U g mk q => by obtain ⟨q0, q1, qP, qK, qD⟩ := q; exact ⟨q0, q1, qP, va_K.moved (u := U) (U := U.calling g mk x) (Vm.Alike.refl U.vm) qK, qD⟩, fun U hU hW => ⟨rfl, by rw [hU], by rw [hU]; exact hPc, va_K.moved hW.alike hK4, hDc⟩⟩ (g := F0 m pc ls _) rfl rfl hsz rfl (lv_room (by show 1 + (rest.map fun v => v.category).sum ≤ 8; omega)) hdg hR) hSs (fun q _ h => hFc q h) hFc (fun u ra t_ H1 locs1 ht hvm hw hB hz1 hk1 hS1 => ?_)
  refine W_sz (fun hu2 => ?_)
  obtain ⟨hP1, -, hD1⟩ := hB
  rw [ht] at hP1
  have hra1 : ra < H1.size := (hP1 1 _ rfl).lt
  have hra2 : H.size ≤ ra := by
    rcases hD1.2 1 _ rfl with ⟨k3, e3, h⟩ | h
    · have h3 : k3 < 1 := (List.getElem?_eq_some_iff.mp h).1
      rw [show k3 = 0 by omega] at h
      have h9 : b + j = ra := congrArg Prod.fst (Option.some.inj h)
      have := hD1.1 0 1 _ _ rfl rfl h9
      omega
    · exact h
  have hra : ra = b + kK cs := by omega
  subst hra
  have hPa : va_P (dC, dI) vwCl (cW cB cI cJ cZ cS cO b cs) H1 := fun k3 y hy => by
    by_cases e9 : y.1 = b + j
    · have e8 := hD.1 k3 k2 _ _ hy hg2 e9
      subst e8
      have e7 := Option.some.inj (hy.symm.trans hg2)
      rw [e7]
      exact hP1 0 _ rfl
    · refine (hP k3 y hy).kept (hk1 y.1 (hP k3 y hy).lt (fun h => ?_))
      rcases h with ⟨k4, e4, h⟩ | h
      · have h3 : k4 < 1 := (List.getElem?_eq_some_iff.mp h).1
        rw [show k4 = 0 by omega] at h
        exact e9 (congrArg Prod.fst (Option.some.inj h)).symm
      · exact absurd (hP k3 y hy).lt (Nat.not_lt.mpr h)
  have hP2 : va_P (dC, dI) vwCl (cW cB cI cJ cZ cS cO b cs ++ [(b + kK cs, .inl (cJ, c1, .inr (.inl (va_cpy (kB cs 288 i) (fun _ => 0) 0 0 (kL cs 288 i)))))]) H1 := hPa.app (fun k3 y hy => by
    have h3 : k3 < 1 := (List.getElem?_eq_some_iff.mp hy).1
    rw [show k3 = 0 by omega] at hy
    cases hy
    exact hP1 1 _ rfl)
  have hD2 : va_D A (cW cB cI cJ cZ cS cO b cs ++ [(b + kK cs, .inl (cJ, c1, .inr (.inl (va_cpy (kB cs 288 i) (fun _ => 0) 0 0 (kL cs 288 i)))))]) := hD.push hP hz.symm (hA _ (by rw [← hz]; exact hSs.1))
  refine va_put (D := (dC, dI)) (ci := 9) (v := .ref (b + kK cs)) (ty := .array .long) (C := RX8) (T := TX8) (N := 4) hx hb hts (fun w h => List.mem_cons_of_mem _ (uG_X8 w h)) tyX8 tyX8_ok nmX8 hown hK hP2 hD2 hS1.self k ((List.getElem?_append_left hkl).trans hg) rfl 0 (by decide) (hts _ (List.mem_cons_of_mem _ kw_349)) (fun _ h9 => h9) rfl (by decide +kernel) rfl rfl (by rw [vL_len]; decide) hdg2 (fun H2 l2 q1 q2 q3 => ?_)
  refine W_sz (fun hu3 => ?_)
  have key := cW_arr (b := b) (cB := cB) (cI := cI) (cJ := cJ) (cZ := cZ) (cS := cS) (cO := cO) (X := 9) (f0 := 0) (n := c1) (f := kA cs 288 i) (g := (va_cpy (kB cs 288 i) (fun _ => 0) 0 0 (kL cs 288 i))) (P := fun _ => True) (by decide) rfl hD hk (by show eA cB cI cJ cZ cS cO b (nA cs 288 i c1 (kA cs 288 i) (va_cpy (kB cs 288 i) (fun _ => 0) 0 0 (kL cs 288 i))) 288 i 2 = .inl (cJ, c1, .inr (.inl (va_cpy (kB cs 288 i) (fun _ => 0) 0 0 (kL cs 288 i)))); simp only [eA]; rw [show kL (nA cs 288 i c1 (kA cs 288 i) (va_cpy (kB cs 288 i) (fun _ => 0) 0 0 (kL cs 288 i))) 288 i = c1 from u2_s, show kB (nA cs 288 i c1 (kA cs 288 i) (va_cpy (kB cs 288 i) (fun _ => 0) 0 0 (kL cs 288 i))) 288 i = (va_cpy (kB cs 288 i) (fun _ => 0) 0 0 (kL cs 288 i)) from u2_s]) q1 q2
  have hS2 : va_S A s.heap H2 l2 := hS1.nil.comp q3
  have hz2 : H2.size = b + (kK cs + 1) := by have := q3.1; omega
  exact kk H2 l2 key.1 key.2 hS2.nil hz2 hS2.self
theorem grw_X8_15 {p : Program} {l : Launch} {e : Env} {R : Room} {s : State} {m : MethodId} {args : Array Value} {below : List Frame} {meth : Method} {c : Code} {H : Heap} {locs : List Loc} {cells slots : Nat} {Q : State → Prop} {cc : ByteArray} {pc : Nat} {ls : Array Slot} {rest : List Value} {y0 : MethodName} {c0 : ByteArray} {n0 : Nat} {r0 : Option FieldType} {dC : Nat → ClassId} {dI : Nat → Nat → Nat} {cB cI cJ cZ cS cO : ClassId} {b : Nat} {cs : CS} {A : Nat → Prop} {Gh : Heap} {nL : Nat} {cs1 : CS} {i j : Nat} {x : Int32} (hx : p.tables.exec = Jvm.exec) (hb : c.code = cc) (hml : c.maxLocals = nL) (hts : ∀ w ∈ wsOf y0 c0 n0 r0, w.before args s = true) (hown : s.vm.findClass RX8 = some m.cls) (hK : va_K (dC, dI) vwCl [(cB, .byte), (cI, .int), (cJ, .long), (cZ, .boolean), (cS, .object "StreamQueries$Source"), (cO, .object "java/lang/Object")] s) (hP : va_P (dC, dI) vwCl (cW cB cI cJ cZ cS cO b cs) H) (hD : va_D A (cW cB cI cJ cZ cS cO b cs)) (hS : va_S A Gh H locs) (hG : va_S A s.heap Gh []) (hA : ∀ q, s.heap.size ≤ q → A q) (hgz : Gh.size = b + kK cs) (hcc : s.heap.size + cells = b + kK cs) (hR : cells + 1 ≤ R.cells ∧ slots + x.toNatClampNeg ≤ R.slots) (hv : gwA cs 9 289 i j x = some cs1) (hsz : ls.size = nL) (h8 : (rest.map fun v => v.category).sum ≤ 7) (hR1 : 3 ≤ R.frames) (hR2 : 180 ≤ R.locals) (hdg : decode cc pc = .ok (.invokestatic 32, 3)) (hdg2 : decode cc (pc + 3) = .ok (.putfield 15, 3)) (kk : ∀ (H1 : Heap) (locs1 : List Loc), va_P (dC, dI) vwCl (cW cB cI cJ cZ cS cO b cs1) H1 → va_D A (cW cB cI cJ cZ cS cO b cs1) → va_S A s.heap H1 [] → H1.size = b + kK cs1 → va_S A H1 H1 locs1 → W p l e R s m args below meth c H1 locs1 (cells + 1) (slots + x.toNatClampNeg) Q (F0 m (pc + 3 + 3) ls rest)) : W p l e R s m args below meth c H locs cells slots Q (F0 m pc ls (.int x :: .ref (b + j) :: .ref (b + i) :: rest)) := by
  refine W_sz (fun hu => ?_)
  have hz : H.size = b + kK cs := by have := hS.1; omega
  obtain ⟨⟨h1, h2, h3, h4, h5, h6, h7⟩, rfl⟩ := gwA_some hv
  have hSs := hG.comp hS
  obtain ⟨c1, hc1, rfl⟩ : ∃ c1 : Nat, c1 < 1000000 ∧ x = nI c1 := by
    obtain ⟨c1, g1, g2⟩ := nI_of h4
    rw [g2, nI_clamp g1] at h6
    exact ⟨c1, h6, g2⟩
  rw [nI_clamp (n := c1) (by omega)] at h5 hR kk
  obtain ⟨k, hk, hg⟩ := cO_at (b := b) (cB := cB) (cI := cI) (cJ := cJ) (cZ := cZ) (cS := cS) (cO := cO) (by decide) h1
  obtain ⟨k2, hk2, hg2⟩ := cA_at (b := b) (cB := cB) (cI := cI) (cJ := cJ) (cZ := cZ) (cS := cS) (cO := cO) h2 h3
  have hg2 : (cW cB cI cJ cZ cS cO b cs)[k2]? = some (b + j, .inl (cB, kL cs 289 i, .inl (kA cs 289 i))) := hg2
  have hkl := (List.getElem?_eq_some_iff.mp hg).1
  have hPc : va_P (dC, dI) vwCl [(b + j, .inl (cB, kL cs 289 i, .inl (kA cs 289 i)))] H := hP.sub [k2] (by simp [hg2])
  have hDc : va_D (fun _ => True) ([(b + j, .inl (cB, kL cs 289 i, .inl (kA cs 289 i)))] : va_W) := ⟨fun m n y z hm hn _ => by
    have := (List.getElem?_eq_some_iff.mp hm).1
    have := (List.getElem?_eq_some_iff.mp hn).1
    simp at *
    omega, fun _ _ _ => trivial⟩
  have hFc : ∀ q, va_A [(b + j, .inl (cB, kL cs 289 i, .inl (kA cs 289 i)))] H.size q → A q := fun q h => by
    rcases h with ⟨k3, e3, h⟩ | h
    · have h3 : k3 < 1 := (List.getElem?_eq_some_iff.mp h).1
      rw [show k3 = 0 by omega] at h
      cases h
      exact hD.2 k2 _ hg2
    · exact hA q (Nat.le_trans hSs.1 h)
  have hK4 := hK.sub (tys' := [(cB, .byte), (cI, .int), (cJ, .long), (cZ, .boolean)]) [0, 1, 2, 3] rfl
  refine va_callr (va_runS (As := [.ref (b + j), .int (nI c1)]) (rest := .ref (b + i) :: rest) ⟨hx, hb, hml, hown, hts⟩ (tg_J7_copyOf_9075b l dC dI H.size cB cI cJ cZ (b + j) (kL cs 289 i) c1 (kA cs 289 i) h5 hc1 h7) ⟨callB_of 2 hts (gd_all (in_I kc_J7_copyOf_9075b)) rfl rfl rfl (hts _ (List.mem_cons_of_mem _ kw_201)) (hts _ (List.mem_cons_of_mem _ kw_1351)) (by decide +kernel) ⟨by show 1 + 1 ≤ R.frames; omega, by show 8 + (3 + 11) + 60 ≤ R.locals; omega⟩, hts _ (List.mem_cons_of_mem _ kw_1352)⟩
    ⟨fun x U g mk q => by obtain ⟨q0, q1, qP, qK, qD⟩ := q; exact ⟨q0, q1, qP, va_K.moved (u := U) (U := U.calling g mk x) (Vm.Alike.refl U.vm) qK, qD⟩, fun U hU hW => ⟨rfl, by rw [hU], by rw [hU]; exact hPc, va_K.moved hW.alike hK4, hDc⟩⟩ (g := F0 m pc ls _) rfl rfl hsz rfl (lv_room (by show 1 + (rest.map fun v => v.category).sum ≤ 8; omega)) hdg hR) hSs (fun q _ h => hFc q h) hFc (fun u ra t_ H1 locs1 ht hvm hw hB hz1 hk1 hS1 => ?_)
  refine W_sz (fun hu2 => ?_)
  obtain ⟨hP1, -, hD1⟩ := hB
  rw [ht] at hP1
  have hra1 : ra < H1.size := (hP1 1 _ rfl).lt
  have hra2 : H.size ≤ ra := by
    rcases hD1.2 1 _ rfl with ⟨k3, e3, h⟩ | h
    · have h3 : k3 < 1 := (List.getElem?_eq_some_iff.mp h).1
      rw [show k3 = 0 by omega] at h
      have h9 : b + j = ra := congrArg Prod.fst (Option.some.inj h)
      have := hD1.1 0 1 _ _ rfl rfl h9
      omega
    · exact h
  have hra : ra = b + kK cs := by omega
  subst hra
  have hPa : va_P (dC, dI) vwCl (cW cB cI cJ cZ cS cO b cs) H1 := fun k3 y hy => by
    by_cases e9 : y.1 = b + j
    · have e8 := hD.1 k3 k2 _ _ hy hg2 e9
      subst e8
      have e7 := Option.some.inj (hy.symm.trans hg2)
      rw [e7]
      exact hP1 0 _ rfl
    · refine (hP k3 y hy).kept (hk1 y.1 (hP k3 y hy).lt (fun h => ?_))
      rcases h with ⟨k4, e4, h⟩ | h
      · have h3 : k4 < 1 := (List.getElem?_eq_some_iff.mp h).1
        rw [show k4 = 0 by omega] at h
        exact e9 (congrArg Prod.fst (Option.some.inj h)).symm
      · exact absurd (hP k3 y hy).lt (Nat.not_lt.mpr h)
  have hP2 : va_P (dC, dI) vwCl (cW cB cI cJ cZ cS cO b cs ++ [(b + kK cs, .inl (cB, c1, .inl (va_cpy (kA cs 289 i) (fun _ => 0) 0 0 (kL cs 289 i))))]) H1 := hPa.app (fun k3 y hy => by
    have h3 : k3 < 1 := (List.getElem?_eq_some_iff.mp hy).1
    rw [show k3 = 0 by omega] at hy
    cases hy
    exact hP1 1 _ rfl)
  have hD2 : va_D A (cW cB cI cJ cZ cS cO b cs ++ [(b + kK cs, .inl (cB, c1, .inl (va_cpy (kA cs 289 i) (fun _ => 0) 0 0 (kL cs 289 i))))]) := hD.push hP hz.symm (hA _ (by rw [← hz]; exact hSs.1))
  refine va_put (D := (dC, dI)) (ci := 9) (v := .ref (b + kK cs)) (ty := .array .byte) (C := RX8) (T := TX8) (N := 4) hx hb hts (fun w h => List.mem_cons_of_mem _ (uG_X8 w h)) tyX8 tyX8_ok nmX8 hown hK hP2 hD2 hS1.self k ((List.getElem?_append_left hkl).trans hg) rfl 1 (by decide) (hts _ (List.mem_cons_of_mem _ kw_350)) (fun _ h9 => h9) rfl (by decide +kernel) rfl rfl (by rw [vL_len]; decide) hdg2 (fun H2 l2 q1 q2 q3 => ?_)
  refine W_sz (fun hu3 => ?_)
  have key := cW_arr (b := b) (cB := cB) (cI := cI) (cJ := cJ) (cZ := cZ) (cS := cS) (cO := cO) (X := 9) (f0 := 1) (n := c1) (f := (va_cpy (kA cs 289 i) (fun _ => 0) 0 0 (kL cs 289 i))) (g := kB cs 289 i) (P := fun _ => True) (by decide) rfl hD hk (by show eA cB cI cJ cZ cS cO b (nA cs 289 i c1 (va_cpy (kA cs 289 i) (fun _ => 0) 0 0 (kL cs 289 i)) (kB cs 289 i)) 289 i 1 = .inl (cB, c1, .inl (va_cpy (kA cs 289 i) (fun _ => 0) 0 0 (kL cs 289 i))); simp only [eA]; rw [show kL (nA cs 289 i c1 (va_cpy (kA cs 289 i) (fun _ => 0) 0 0 (kL cs 289 i)) (kB cs 289 i)) 289 i = c1 from u2_s, show kA (nA cs 289 i c1 (va_cpy (kA cs 289 i) (fun _ => 0) 0 0 (kL cs 289 i)) (kB cs 289 i)) 289 i = (va_cpy (kA cs 289 i) (fun _ => 0) 0 0 (kL cs 289 i)) from u2_s]) q1 q2
  have hS2 : va_S A s.heap H2 l2 := hS1.nil.comp q3
  have hz2 : H2.size = b + (kK cs + 1) := by have := q3.1; omega
  exact kk H2 l2 key.1 key.2 hS2.nil hz2 hS2.self

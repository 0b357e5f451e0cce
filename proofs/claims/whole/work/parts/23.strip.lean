/-! a longer copy holds the same, where nothing stands beyond -/
theorem cpyL {g : Nat → Int64} {n : Nat} (h : ∀ j, n ≤ j → g j = 0) : va_cpy g (fun _ => 0) 0 0 n = g := by
  funext j
  by_cases hj : j < n
  · rw [pk_cpy_in (Nat.zero_le _) (by omega)]; simp
  · rw [pk_cpy_out (Or.inr (by omega))]; exact (h j (by omega)).symm
theorem cpyB {g : Nat → Int32} {n : Nat} (h : ∀ j, n ≤ j → g j = 0) : va_cpy g (fun _ => 0) 0 0 n = g := by
  funext j
  by_cases hj : j < n
  · rw [pk_cpy_in (Nat.zero_le _) (by omega)]; simp
  · rw [pk_cpy_out (Or.inr (by omega))]; exact (h j (by omega)).symm
set_option maxRecDepth 20000 in
theorem kc_min : Cond.code Lib.Math.min.name Lib.Math.min.code 2 (some .int) ∈ wsG := kGm (tab_2 (List.mem_of_getElem? (i := 87) rfl)) rfl
set_option maxRecDepth 20000 in
theorem kc_max : Cond.code Lib.Math.max.name Lib.Math.max.code 2 (some .int) ∈ wsG := kGm (tab_1 (List.mem_of_getElem? (i := 190) rfl)) rfl
set_option maxRecDepth 20000 in
theorem kc_J7_copyOf_c38d5 : Cond.code yJ7_copyOf_c38d5 cJ7_copyOf_c38d5 3 (some (.array .long)) ∈ wsG := kGm (tab_5 (List.mem_of_getElem? (i := 204) rfl)) rfl
set_option maxRecDepth 20000 in
theorem kc_J7_copyOf_9075b : Cond.code yJ7_copyOf_9075b cJ7_copyOf_9075b 3 (some (.array .byte)) ∈ wsG := kGm (tab_5 (List.mem_of_getElem? (i := 214) rfl)) rfl
theorem dJ7_copyOf_c38d5_0 : decode cJ7_copyOf_c38d5 0 = .ok (.iload_n 1, 1) := by decide +kernel
theorem dJ7_copyOf_c38d5_1 : decode cJ7_copyOf_c38d5 1 = .ok (.aload_n 0, 1) := by decide +kernel
theorem dJ7_copyOf_c38d5_2 : decode cJ7_copyOf_c38d5 2 = .ok (.arraylength, 1) := by decide +kernel
theorem dJ7_copyOf_c38d5_3 : decode cJ7_copyOf_c38d5 3 = .ok (.if_icmp .ne 11, 3) := by decide +kernel
theorem dJ7_copyOf_c38d5_6 : decode cJ7_copyOf_c38d5 6 = .ok (.aload_n 0, 1) := by decide +kernel
theorem dJ7_copyOf_c38d5_7 : decode cJ7_copyOf_c38d5 7 = .ok (.invokevirtual 319, 3) := by decide +kernel
theorem dJ7_copyOf_c38d5_10 : decode cJ7_copyOf_c38d5 10 = .ok (.checkcast 320, 3) := by decide +kernel
theorem dJ7_copyOf_c38d5_13 : decode cJ7_copyOf_c38d5 13 = .ok (.areturn, 1) := by decide +kernel
theorem dJ7_copyOf_c38d5_14 : decode cJ7_copyOf_c38d5 14 = .ok (.iload_n 1, 1) := by decide +kernel
theorem dJ7_copyOf_c38d5_15 : decode cJ7_copyOf_c38d5 15 = .ok (.newarray .long, 2) := by decide +kernel
theorem dJ7_copyOf_c38d5_17 : decode cJ7_copyOf_c38d5 17 = .ok (.astore_n 2, 1) := by decide +kernel
theorem dJ7_copyOf_c38d5_18 : decode cJ7_copyOf_c38d5 18 = .ok (.aload_n 0, 1) := by decide +kernel
theorem dJ7_copyOf_c38d5_19 : decode cJ7_copyOf_c38d5 19 = .ok (.iconst 0, 1) := by decide +kernel
theorem dJ7_copyOf_c38d5_20 : decode cJ7_copyOf_c38d5 20 = .ok (.aload_n 2, 1) := by decide +kernel
theorem dJ7_copyOf_c38d5_21 : decode cJ7_copyOf_c38d5 21 = .ok (.iconst 0, 1) := by decide +kernel
theorem dJ7_copyOf_c38d5_22 : decode cJ7_copyOf_c38d5 22 = .ok (.aload_n 0, 1) := by decide +kernel
theorem dJ7_copyOf_c38d5_23 : decode cJ7_copyOf_c38d5 23 = .ok (.arraylength, 1) := by decide +kernel
theorem dJ7_copyOf_c38d5_24 : decode cJ7_copyOf_c38d5 24 = .ok (.iload_n 1, 1) := by decide +kernel
theorem dJ7_copyOf_c38d5_25 : decode cJ7_copyOf_c38d5 25 = .ok (.invokestatic 304, 3) := by decide +kernel
theorem dJ7_copyOf_c38d5_28 : decode cJ7_copyOf_c38d5 28 = .ok (.invokestatic 150, 3) := by decide +kernel
theorem dJ7_copyOf_c38d5_31 : decode cJ7_copyOf_c38d5 31 = .ok (.aload_n 2, 1) := by decide +kernel
theorem dJ7_copyOf_c38d5_32 : decode cJ7_copyOf_c38d5 32 = .ok (.areturn, 1) := by decide +kernel
abbrev cs_t_J7_copyOf_c38d5 (cB cI cJ cZ : ClassId) (h1 n c1 : Nat) (g : Nat → Int64) : va_W := [(h1, .inl (cJ, n, .inr (.inl g)))]
abbrev pc_t_J7_copyOf_c38d5 (dC : Nat → ClassId) (dI : Nat → Nat → Nat) (sz : Nat) (cB cI cJ cZ : ClassId) (h1 n c1 : Nat) (g : Nat → Int64) : Array Value → State → Prop := va_Pc [.ref h1, .int (nI c1)] (fun U => U.heap.size = sz ∧ va_P (dC, dI) vwCl [(h1, .inl (cJ, n, .inr (.inl g)))] U.heap ∧ va_K (dC, dI) vwCl [(cB, .byte), (cI, .int), (cJ, .long), (cZ, .boolean)] U ∧ va_D (fun _ => True) [(h1, .inl (cJ, n, .inr (.inl g)))])
abbrev qc_t_J7_copyOf_c38d5 (dC : Nat → ClassId) (dI : Nat → Nat → Nat) (cB cI cJ cZ : ClassId) (h1 n c1 : Nat) (g : Nat → Int64) (A : Nat → Prop) : Array Value → State → Outcome → State → Prop := va_Qr (fun (u : Unit) => match u with | _ => True) (fun (u : Unit) (ra : Nat) t_ => match u with | _ => va_P (dC, dI) vwCl [(h1, .inl (cJ, n, .inr (.inl g))), (ra, .inl (cJ, c1, .inr (.inl g)))] t_.heap ∧ va_K (dC, dI) vwCl [(cB, .byte), (cI, .int), (cJ, .long), (cZ, .boolean)] t_ ∧ va_D A [(h1, .inl (cJ, n, .inr (.inl g))), (ra, .inl (cJ, c1, .inr (.inl g)))]) A
set_option maxHeartbeats 4000000 in
set_option maxRecDepth 100000 in
theorem t_J7_copyOf_c38d5 (l : Launch) (dC : Nat → ClassId) (dI : Nat → Nat → Nat) (sz : Nat) (cB cI cJ cZ : ClassId) (h1 n c1 : Nat) (g : Nat → Int64) (hnc : n < c1) (hc1 : c1 < 1000000) (hz : ∀ j, n ≤ j → g j = 0) : Met l yJ7_copyOf_c38d5 (wsOf yJ7_copyOf_c38d5 cJ7_copyOf_c38d5 3 (some (.array .long))) ({ frames := 1, cells := 1, slots := c1, locals := 60 }) (pc_t_J7_copyOf_c38d5 dC dI sz cB cI cJ cZ h1 n c1 g) (qc_t_J7_copyOf_c38d5 dC dI cB cI cJ cZ h1 n c1 g (va_A (cs_t_J7_copyOf_c38d5 cB cI cJ cZ h1 n c1 g) sz)) 1 c1 (va_A (cs_t_J7_copyOf_c38d5 cB cI cJ cZ h1 n c1 g) sz) := by
  refine Met.ofW (cc := cJ7_copyOf_c38d5) (maxL := 3) (ret := (some (.array .long))) (by decide) rfl ?_
  intro p e s m args below meth c s₁ B hml hv
  obtain ⟨rfl, hsz, hP, hK, hD0⟩ := hv
  have hx := B.exec
  have hb := B.bytes
  have hr := B.returns
  have hts := atoms_spec (ws := (wsOf yJ7_copyOf_c38d5 cJ7_copyOf_c38d5 3 (some (.array .long)))) B.pre
  have hown : s.vm.findClass RJ7 = some m.cls := findClass_of_methodNamed B.named
  have hlocks := B.notSynchronized
  subst hsz
  have hD := hD0.self (sz := s.heap.size)
  generalize hAe : va_A (cs_t_J7_copyOf_c38d5 cB cI cJ cZ h1 n c1 g) s.heap.size = A at hD ⊢
  have hA : ∀ q : Nat, s.heap.size ≤ q → A q := fun q h => by rw [← hAe]; exact Or.inr h
  have hS : va_S A s.heap s.heap [] := va_S.rf
  have hP : va_P (dC, dI) vwCl [(h1, .inl (cJ, n, .inr (.inl g)))] s.heap := hP
  have hl := lv_entry ([.ref h1, .int (nI c1)]) (n := 3) (Nat.le_of_ble_eq_true rfl)
  rw [lg_entry_eq]
  generalize (lg_sl ([.ref h1, .int (nI c1)]) ++ List.replicate (3 - (lg_sl ([.ref h1, .int (nI c1)])).length) Slot.unset).toArray = ls at hl ⊢
  have hl : lv_has ls 3 [(0, .ref h1), (1, .int (nI c1))] := hl
  refine lv_iload_n hx hb dJ7_copyOf_c38d5_0 rfl (lv_at hl 1 rfl) ?_
  refine lv_aload_n hx hb dJ7_copyOf_c38d5_1 rfl (lv_at hl 0 rfl) ?_
  refine va_alen (v := nI n) hx hb hK hP 0 2 rfl rfl rfl dJ7_copyOf_c38d5_2 ?_
  refine lv_icmp_ne (tgt := 14) hx hb dJ7_copyOf_c38d5_3 (by decide) (fun c_1 => ?_) (fun c_1 => ?_)
  · skip
    have c_1 : ¬ (c1 = n) := fun h => c_1 ((nI_eq (a := c1) (b := n) (by omega) (by omega)).mpr h)
    refine lv_iload_n hx hb dJ7_copyOf_c38d5_14 rfl (lv_at hl 1 rfl) ?_
    refine va_newa (atype := .long) (ty := .long) (a0 := (c1, .inr (.inl (fun _ => 0)))) hx hb (hts _ (List.mem_cons_of_mem _ kn_J)) rfl hK hP hD hS hA (n := (nI c1)) (N' := c1) (fun _ => rfl) (nI_pos (n := c1) (by omega)) (nI_clamp (n := c1) (by omega)) (by show c1 * 8 ≤ 536870912; omega) (Nat.le_of_ble_eq_true rfl) (by show 0 + c1 ≤ c1; omega) dJ7_copyOf_c38d5_15 (fun q2 cA2 H hK2 hP hD hS => ?_)
    rw [va_sameJ hK2 4 2 rfl rfl] at hP hD
    have hP : va_P (dC, dI) vwCl [(h1, .inl (cJ, n, .inr (.inl g))), (q2, .inl (cJ, c1, .inr (.inl (fun _ => 0))))] H := hP
    have hD : va_D A [(h1, .inl (cJ, n, .inr (.inl g))), (q2, .inl (cJ, c1, .inr (.inl (fun _ => 0))))] := hD
    refine W.widen (k := 1) (n := 0 + c1) (by omega) (by omega) ?_
    refine lv_astore_n (lv' := [(2, .ref q2), (0, .ref h1), (1, .int (nI c1))]) hx hb dJ7_copyOf_c38d5_17 rfl hl (by decide) rfl (fun ls hl => ?_)
    refine lv_aload_n hx hb dJ7_copyOf_c38d5_18 rfl (lv_at hl 1 rfl) ?_
    refine lv_iconst (v := 0) hx hb dJ7_copyOf_c38d5_19 (by decide) ?_
    refine lv_aload_n hx hb dJ7_copyOf_c38d5_20 rfl (lv_at hl 0 rfl) ?_
    refine lv_iconst (v := 0) hx hb dJ7_copyOf_c38d5_21 (by decide) ?_
    refine lv_aload_n hx hb dJ7_copyOf_c38d5_22 rfl (lv_at hl 1 rfl) ?_
    refine va_alen (v := nI n) hx hb hK hP 0 2 rfl rfl rfl dJ7_copyOf_c38d5_23 ?_
    refine lv_iload_n hx hb dJ7_copyOf_c38d5_24 rfl (lv_at hl 2 rfl) ?_
    refine va_mmin hx hb (hml.trans hl.1.symm) hown (hts _ (List.mem_cons_of_mem _ kw_817)) (hts _ (List.mem_cons_of_mem _ kw_506)) (hts _ (List.mem_cons_of_mem _ kw_190)) (hts _ (List.mem_cons_of_mem _ kc_min)) (Nat.le_of_ble_eq_true rfl) (Nat.le_of_ble_eq_true rfl) (Nat.le_of_ble_eq_true rfl) (by show 0 + c1 ≤ c1; omega) dJ7_copyOf_c38d5_25 ?_
    refine lv_topi (fun x_3 ex_3 => ?_)
    have ex_3 : x_3 = nI n := by rw [ex_3]; exact if_neg (fun h => by have := (nI_ltI (a := c1) (b := n) (by omega) (by omega)).mp h; omega)
    subst ex_3
    refine va_copyl (n := (nI n)) (dp := 0) (sp := 0) hx hb (hml.trans hl.1.symm) hown (hts _ (List.mem_cons_of_mem _ kw_818)) (hts _ (List.mem_cons_of_mem _ kw_820)) (hts _ (List.mem_cons_of_mem _ kw_819)) (hts _ (List.mem_cons_of_mem _ kw_202)) hK hP hD hS 0 1 2 2 rfl rfl rfl rfl rfl (nI_pos (n := 0) (by omega)) (nI_pos (n := 0) (by omega)) (nI_pos (n := n) (by omega)) (by rw [show (0 : Int32).toNatClampNeg = 0 from nI_clamp (n := 0) (by omega), show (nI n).toNatClampNeg = n from nI_clamp (n := n) (by omega)]; omega) (by rw [show (0 : Int32).toNatClampNeg = 0 from nI_clamp (n := 0) (by omega), show (nI n).toNatClampNeg = n from nI_clamp (n := n) (by omega)]; omega) (fun _ _ => rfl) (Nat.le_of_ble_eq_true rfl) (Nat.le_of_ble_eq_true rfl) dJ7_copyOf_c38d5_28 (fun H locs hP hD hS => ?_)
    rw [show (0 : Int32).toNatClampNeg = 0 from nI_clamp (n := 0) (by omega), show (nI n).toNatClampNeg = n from nI_clamp (n := n) (by omega)] at hP hD
    have hP : va_P (dC, dI) vwCl [(h1, .inl (cJ, n, .inr (.inl g))), (q2, .inl (cJ, c1, .inr (.inl (va_cpy g (fun _ => 0) 0 0 n))))] H := hP
    have hD : va_D A [(h1, .inl (cJ, n, .inr (.inl g))), (q2, .inl (cJ, c1, .inr (.inl (va_cpy g (fun _ => 0) 0 0 n))))] := hD
    rw [cpyL hz] at hP hD
    have hP : va_P (dC, dI) vwCl [(h1, .inl (cJ, n, .inr (.inl g))), (q2, .inl (cJ, c1, .inr (.inl g)))] H := hP
    have hD : va_D A [(h1, .inl (cJ, n, .inr (.inl g))), (q2, .inl (cJ, c1, .inr (.inl g)))] := hD
    refine lv_aload_n hx hb dJ7_copyOf_c38d5_31 rfl (lv_at hl 0 rfl) ?_
    have hP9 := hP.sub (ws' := [(h1, .inl (cJ, n, .inr (.inl g))), (q2, .inl (cJ, c1, .inr (.inl g)))]) [0, 1] rfl
    have hD9 := hD.sub (ws' := [(h1, .inl (cJ, n, .inr (.inl g))), (q2, .inl (cJ, c1, .inr (.inl g)))]) [0, 1] (by decide) rfl
    have hK9 := hK.sub (tys' := [(cB, .byte), (cI, .int), (cJ, .long), (cZ, .boolean)]) [0, 1, 2, 3] rfl
    refine W.widen (k := 1) (n := c1) (by omega) (by omega) ?_
    exact W.aret (v := .ref q2) hx hb hr (Or.inr ⟨_, rfl⟩) (Or.inr ⟨_, rfl⟩) (fun t_ ht hW => ⟨⟨(), q2, rfl, trivial, by rw [ht]; exact hP9, va_K.moved hW.alike hK9, hD9⟩, hS.F ht⟩) hS.2.2 dJ7_copyOf_c38d5_32
  · skip
    have c_1 : c1 = n := (nI_eq (a := c1) (b := n) (by omega) (by omega)).mp c_1
    exact absurd c_1 (by omega)
theorem dJ7_copyOf_9075b_0 : decode cJ7_copyOf_9075b 0 = .ok (.iload_n 1, 1) := by decide +kernel
theorem dJ7_copyOf_9075b_1 : decode cJ7_copyOf_9075b 1 = .ok (.aload_n 0, 1) := by decide +kernel
theorem dJ7_copyOf_9075b_2 : decode cJ7_copyOf_9075b 2 = .ok (.arraylength, 1) := by decide +kernel
theorem dJ7_copyOf_9075b_3 : decode cJ7_copyOf_9075b 3 = .ok (.if_icmp .ne 11, 3) := by decide +kernel
theorem dJ7_copyOf_9075b_6 : decode cJ7_copyOf_9075b 6 = .ok (.aload_n 0, 1) := by decide +kernel
theorem dJ7_copyOf_9075b_7 : decode cJ7_copyOf_9075b 7 = .ok (.invokevirtual 310, 3) := by decide +kernel
theorem dJ7_copyOf_9075b_10 : decode cJ7_copyOf_9075b 10 = .ok (.checkcast 311, 3) := by decide +kernel
theorem dJ7_copyOf_9075b_13 : decode cJ7_copyOf_9075b 13 = .ok (.areturn, 1) := by decide +kernel
theorem dJ7_copyOf_9075b_14 : decode cJ7_copyOf_9075b 14 = .ok (.iload_n 1, 1) := by decide +kernel
theorem dJ7_copyOf_9075b_15 : decode cJ7_copyOf_9075b 15 = .ok (.newarray .byte, 2) := by decide +kernel
theorem dJ7_copyOf_9075b_17 : decode cJ7_copyOf_9075b 17 = .ok (.astore_n 2, 1) := by decide +kernel
theorem dJ7_copyOf_9075b_18 : decode cJ7_copyOf_9075b 18 = .ok (.aload_n 0, 1) := by decide +kernel
theorem dJ7_copyOf_9075b_19 : decode cJ7_copyOf_9075b 19 = .ok (.iconst 0, 1) := by decide +kernel
theorem dJ7_copyOf_9075b_20 : decode cJ7_copyOf_9075b 20 = .ok (.aload_n 2, 1) := by decide +kernel
theorem dJ7_copyOf_9075b_21 : decode cJ7_copyOf_9075b 21 = .ok (.iconst 0, 1) := by decide +kernel
theorem dJ7_copyOf_9075b_22 : decode cJ7_copyOf_9075b 22 = .ok (.aload_n 0, 1) := by decide +kernel
theorem dJ7_copyOf_9075b_23 : decode cJ7_copyOf_9075b 23 = .ok (.arraylength, 1) := by decide +kernel
theorem dJ7_copyOf_9075b_24 : decode cJ7_copyOf_9075b 24 = .ok (.iload_n 1, 1) := by decide +kernel
theorem dJ7_copyOf_9075b_25 : decode cJ7_copyOf_9075b 25 = .ok (.invokestatic 304, 3) := by decide +kernel
theorem dJ7_copyOf_9075b_28 : decode cJ7_copyOf_9075b 28 = .ok (.invokestatic 150, 3) := by decide +kernel
theorem dJ7_copyOf_9075b_31 : decode cJ7_copyOf_9075b 31 = .ok (.aload_n 2, 1) := by decide +kernel
theorem dJ7_copyOf_9075b_32 : decode cJ7_copyOf_9075b 32 = .ok (.areturn, 1) := by decide +kernel
abbrev cs_t_J7_copyOf_9075b (cB cI cJ cZ : ClassId) (h1 n c1 : Nat) (g : Nat → Int32) : va_W := [(h1, .inl (cB, n, .inl g))]
abbrev pc_t_J7_copyOf_9075b (dC : Nat → ClassId) (dI : Nat → Nat → Nat) (sz : Nat) (cB cI cJ cZ : ClassId) (h1 n c1 : Nat) (g : Nat → Int32) : Array Value → State → Prop := va_Pc [.ref h1, .int (nI c1)] (fun U => U.heap.size = sz ∧ va_P (dC, dI) vwCl [(h1, .inl (cB, n, .inl g))] U.heap ∧ va_K (dC, dI) vwCl [(cB, .byte), (cI, .int), (cJ, .long), (cZ, .boolean)] U ∧ va_D (fun _ => True) [(h1, .inl (cB, n, .inl g))])
abbrev qc_t_J7_copyOf_9075b (dC : Nat → ClassId) (dI : Nat → Nat → Nat) (cB cI cJ cZ : ClassId) (h1 n c1 : Nat) (g : Nat → Int32) (A : Nat → Prop) : Array Value → State → Outcome → State → Prop := va_Qr (fun (u : Unit) => match u with | _ => True) (fun (u : Unit) (ra : Nat) t_ => match u with | _ => va_P (dC, dI) vwCl [(h1, .inl (cB, n, .inl g)), (ra, .inl (cB, c1, .inl g))] t_.heap ∧ va_K (dC, dI) vwCl [(cB, .byte), (cI, .int), (cJ, .long), (cZ, .boolean)] t_ ∧ va_D A [(h1, .inl (cB, n, .inl g)), (ra, .inl (cB, c1, .inl g))]) A
set_option maxHeartbeats 4000000 in
set_option maxRecDepth 100000 in
theorem t_J7_copyOf_9075b (l : Launch) (dC : Nat → ClassId) (dI : Nat → Nat → Nat) (sz : Nat) (cB cI cJ cZ : ClassId) (h1 n c1 : Nat) (g : Nat → Int32) (hnc : n < c1) (hc1 : c1 < 1000000) (hz : ∀ j, n ≤ j → g j = 0) (hy : sb_Fit g) : Met l yJ7_copyOf_9075b (wsOf yJ7_copyOf_9075b cJ7_copyOf_9075b 3 (some (.array .byte))) ({ frames := 1, cells := 1, slots := c1, locals := 60 }) (pc_t_J7_copyOf_9075b dC dI sz cB cI cJ cZ h1 n c1 g) (qc_t_J7_copyOf_9075b dC dI cB cI cJ cZ h1 n c1 g (va_A (cs_t_J7_copyOf_9075b cB cI cJ cZ h1 n c1 g) sz)) 1 c1 (va_A (cs_t_J7_copyOf_9075b cB cI cJ cZ h1 n c1 g) sz) := by
  refine Met.ofW (cc := cJ7_copyOf_9075b) (maxL := 3) (ret := (some (.array .byte))) (by decide) rfl ?_
  intro p e s m args below meth c s₁ B hml hv
  obtain ⟨rfl, hsz, hP, hK, hD0⟩ := hv
  have hx := B.exec
  have hb := B.bytes
  have hr := B.returns
  have hts := atoms_spec (ws := (wsOf yJ7_copyOf_9075b cJ7_copyOf_9075b 3 (some (.array .byte)))) B.pre
  have hown : s.vm.findClass RJ7 = some m.cls := findClass_of_methodNamed B.named
  have hlocks := B.notSynchronized
  subst hsz
  have hD := hD0.self (sz := s.heap.size)
  generalize hAe : va_A (cs_t_J7_copyOf_9075b cB cI cJ cZ h1 n c1 g) s.heap.size = A at hD ⊢
  have hA : ∀ q : Nat, s.heap.size ≤ q → A q := fun q h => by rw [← hAe]; exact Or.inr h
  have hS : va_S A s.heap s.heap [] := va_S.rf
  have hP : va_P (dC, dI) vwCl [(h1, .inl (cB, n, .inl g))] s.heap := hP
  have hl := lv_entry ([.ref h1, .int (nI c1)]) (n := 3) (Nat.le_of_ble_eq_true rfl)
  rw [lg_entry_eq]
  generalize (lg_sl ([.ref h1, .int (nI c1)]) ++ List.replicate (3 - (lg_sl ([.ref h1, .int (nI c1)])).length) Slot.unset).toArray = ls at hl ⊢
  have hl : lv_has ls 3 [(0, .ref h1), (1, .int (nI c1))] := hl
  refine lv_iload_n hx hb dJ7_copyOf_9075b_0 rfl (lv_at hl 1 rfl) ?_
  refine lv_aload_n hx hb dJ7_copyOf_9075b_1 rfl (lv_at hl 0 rfl) ?_
  refine va_alen (v := nI n) hx hb hK hP 0 0 rfl rfl rfl dJ7_copyOf_9075b_2 ?_
  refine lv_icmp_ne (tgt := 14) hx hb dJ7_copyOf_9075b_3 (by decide) (fun c_1 => ?_) (fun c_1 => ?_)
  · skip
    have c_1 : ¬ (c1 = n) := fun h => c_1 ((nI_eq (a := c1) (b := n) (by omega) (by omega)).mpr h)
    refine lv_iload_n hx hb dJ7_copyOf_9075b_14 rfl (lv_at hl 1 rfl) ?_
    refine va_newa (atype := .byte) (ty := .byte) (a0 := (c1, .inl (fun _ => 0))) hx hb (hts _ (List.mem_cons_of_mem _ kn_B)) rfl hK hP hD hS hA (n := (nI c1)) (N' := c1) (fun _ => rfl) (nI_pos (n := c1) (by omega)) (nI_clamp (n := c1) (by omega)) (by show c1 * 1 ≤ 536870912; omega) (Nat.le_of_ble_eq_true rfl) (by show 0 + c1 ≤ c1; omega) dJ7_copyOf_9075b_15 (fun q2 cA2 H hK2 hP hD hS => ?_)
    rw [va_sameB hK2 4 0 rfl rfl] at hP hD
    have hP : va_P (dC, dI) vwCl [(h1, .inl (cB, n, .inl g)), (q2, .inl (cB, c1, .inl (fun _ => 0)))] H := hP
    have hD : va_D A [(h1, .inl (cB, n, .inl g)), (q2, .inl (cB, c1, .inl (fun _ => 0)))] := hD
    refine W.widen (k := 1) (n := 0 + c1) (by omega) (by omega) ?_
    refine lv_astore_n (lv' := [(2, .ref q2), (0, .ref h1), (1, .int (nI c1))]) hx hb dJ7_copyOf_9075b_17 rfl hl (by decide) rfl (fun ls hl => ?_)
    refine lv_aload_n hx hb dJ7_copyOf_9075b_18 rfl (lv_at hl 1 rfl) ?_
    refine lv_iconst (v := 0) hx hb dJ7_copyOf_9075b_19 (by decide) ?_
    refine lv_aload_n hx hb dJ7_copyOf_9075b_20 rfl (lv_at hl 0 rfl) ?_
    refine lv_iconst (v := 0) hx hb dJ7_copyOf_9075b_21 (by decide) ?_
    refine lv_aload_n hx hb dJ7_copyOf_9075b_22 rfl (lv_at hl 1 rfl) ?_
    refine va_alen (v := nI n) hx hb hK hP 0 0 rfl rfl rfl dJ7_copyOf_9075b_23 ?_
    refine lv_iload_n hx hb dJ7_copyOf_9075b_24 rfl (lv_at hl 2 rfl) ?_
    refine va_mmin hx hb (hml.trans hl.1.symm) hown (hts _ (List.mem_cons_of_mem _ kw_817)) (hts _ (List.mem_cons_of_mem _ kw_506)) (hts _ (List.mem_cons_of_mem _ kw_190)) (hts _ (List.mem_cons_of_mem _ kc_min)) (Nat.le_of_ble_eq_true rfl) (Nat.le_of_ble_eq_true rfl) (Nat.le_of_ble_eq_true rfl) (by show 0 + c1 ≤ c1; omega) dJ7_copyOf_9075b_25 ?_
    refine lv_topi (fun x_3 ex_3 => ?_)
    have ex_3 : x_3 = nI n := by rw [ex_3]; exact if_neg (fun h => by have := (nI_ltI (a := c1) (b := n) (by omega) (by omega)).mp h; omega)
    subst ex_3
    refine va_copyi (n := (nI n)) (dp := 0) (sp := 0) hx hb (hml.trans hl.1.symm) hown (hts _ (List.mem_cons_of_mem _ kw_818)) (hts _ (List.mem_cons_of_mem _ kw_820)) (hts _ (List.mem_cons_of_mem _ kw_819)) (hts _ (List.mem_cons_of_mem _ kw_202)) hK hP hD hS 0 1 0 0 rfl rfl rfl rfl rfl (nI_pos (n := 0) (by omega)) (nI_pos (n := 0) (by omega)) (nI_pos (n := n) (by omega)) (by rw [show (0 : Int32).toNatClampNeg = 0 from nI_clamp (n := 0) (by omega), show (nI n).toNatClampNeg = n from nI_clamp (n := n) (by omega)]; omega) (by rw [show (0 : Int32).toNatClampNeg = 0 from nI_clamp (n := 0) (by omega), show (nI n).toNatClampNeg = n from nI_clamp (n := n) (by omega)]; omega) (fun _ _ => hy _) (Nat.le_of_ble_eq_true rfl) (Nat.le_of_ble_eq_true rfl) dJ7_copyOf_9075b_28 (fun H locs hP hD hS => ?_)
    rw [show (0 : Int32).toNatClampNeg = 0 from nI_clamp (n := 0) (by omega), show (nI n).toNatClampNeg = n from nI_clamp (n := n) (by omega)] at hP hD
    have hP : va_P (dC, dI) vwCl [(h1, .inl (cB, n, .inl g)), (q2, .inl (cB, c1, .inl (va_cpy g (fun _ => 0) 0 0 n)))] H := hP
    have hD : va_D A [(h1, .inl (cB, n, .inl g)), (q2, .inl (cB, c1, .inl (va_cpy g (fun _ => 0) 0 0 n)))] := hD
    rw [cpyB hz] at hP hD
    have hP : va_P (dC, dI) vwCl [(h1, .inl (cB, n, .inl g)), (q2, .inl (cB, c1, .inl g))] H := hP
    have hD : va_D A [(h1, .inl (cB, n, .inl g)), (q2, .inl (cB, c1, .inl g))] := hD
    refine lv_aload_n hx hb dJ7_copyOf_9075b_31 rfl (lv_at hl 0 rfl) ?_
    have hP9 := hP.sub (ws' := [(h1, .inl (cB, n, .inl g)), (q2, .inl (cB, c1, .inl g))]) [0, 1] rfl
    have hD9 := hD.sub (ws' := [(h1, .inl (cB, n, .inl g)), (q2, .inl (cB, c1, .inl g))]) [0, 1] (by decide) rfl
    have hK9 := hK.sub (tys' := [(cB, .byte), (cI, .int), (cJ, .long), (cZ, .boolean)]) [0, 1, 2, 3] rfl
    refine W.widen (k := 1) (n := c1) (by omega) (by omega) ?_
    exact W.aret (v := .ref q2) hx hb hr (Or.inr ⟨_, rfl⟩) (Or.inr ⟨_, rfl⟩) (fun t_ ht hW => ⟨⟨(), q2, rfl, trivial, by rw [ht]; exact hP9, va_K.moved hW.alike hK9, hD9⟩, hS.F ht⟩) hS.2.2 dJ7_copyOf_9075b_32
  · skip
    have c_1 : c1 = n := (nI_eq (a := c1) (b := n) (by omega) (by omega)).mp c_1
    exact absurd c_1 (by omega)
theorem dX8_reserve_0 : decode cX8_reserve 0 = .ok (.iload_n 1, 1) := by decide +kernel
theorem dX8_reserve_1 : decode cX8_reserve 1 = .ok (.aload_n 0, 1) := by decide +kernel
theorem dX8_reserve_2 : decode cX8_reserve 2 = .ok (.getfield 11, 3) := by decide +kernel
theorem dX8_reserve_5 : decode cX8_reserve 5 = .ok (.arraylength, 1) := by decide +kernel
theorem dX8_reserve_6 : decode cX8_reserve 6 = .ok (.if_icmp .le 31, 3) := by decide +kernel
theorem dX8_reserve_9 : decode cX8_reserve 9 = .ok (.aload_n 0, 1) := by decide +kernel
theorem dX8_reserve_10 : decode cX8_reserve 10 = .ok (.aload_n 0, 1) := by decide +kernel
theorem dX8_reserve_11 : decode cX8_reserve 11 = .ok (.getfield 11, 3) := by decide +kernel
theorem dX8_reserve_14 : decode cX8_reserve 14 = .ok (.iconst 2, 1) := by decide +kernel
theorem dX8_reserve_15 : decode cX8_reserve 15 = .ok (.iload_n 1, 1) := by decide +kernel
theorem dX8_reserve_16 : decode cX8_reserve 16 = .ok (.imul, 1) := by decide +kernel
theorem dX8_reserve_17 : decode cX8_reserve 17 = .ok (.invokestatic 26, 3) := by decide +kernel
theorem dX8_reserve_20 : decode cX8_reserve 20 = .ok (.putfield 11, 3) := by decide +kernel
theorem dX8_reserve_23 : decode cX8_reserve 23 = .ok (.aload_n 0, 1) := by decide +kernel
theorem dX8_reserve_24 : decode cX8_reserve 24 = .ok (.aload_n 0, 1) := by decide +kernel
theorem dX8_reserve_25 : decode cX8_reserve 25 = .ok (.getfield 15, 3) := by decide +kernel
theorem dX8_reserve_28 : decode cX8_reserve 28 = .ok (.iconst 2, 1) := by decide +kernel
theorem dX8_reserve_29 : decode cX8_reserve 29 = .ok (.iload_n 1, 1) := by decide +kernel
theorem dX8_reserve_30 : decode cX8_reserve 30 = .ok (.imul, 1) := by decide +kernel
theorem dX8_reserve_31 : decode cX8_reserve 31 = .ok (.invokestatic 32, 3) := by decide +kernel
theorem dX8_reserve_34 : decode cX8_reserve 34 = .ok (.putfield 15, 3) := by decide +kernel
theorem dX8_reserve_37 : decode cX8_reserve 37 = .ok (.return_, 1) := by decide +kernel
abbrev cs_t_X8_reserve_n (cB cI cJ cZ : ClassId) (h0 hV hB n : Nat) (vf : Nat → Int64) (bf : Nat → Int32) (wo wp : Value) (c1 : Nat) : va_W := [(h0, .inr (9, [.ref hV, .ref hB, wo, wp])), (hV, .inl (cJ, n, .inr (.inl vf))), (hB, .inl (cB, n, .inl bf))]
abbrev pc_t_X8_reserve_n (dC : Nat → ClassId) (dI : Nat → Nat → Nat) (sz : Nat) (cB cI cJ cZ : ClassId) (h0 hV hB n : Nat) (vf : Nat → Int64) (bf : Nat → Int32) (wo wp : Value) (c1 : Nat) : Array Value → State → Prop := va_Pc [.ref h0, .int (nI c1)] (fun U => U.heap.size = sz ∧ va_P (dC, dI) vwCl [(h0, .inr (9, [.ref hV, .ref hB, wo, wp])), (hV, .inl (cJ, n, .inr (.inl vf))), (hB, .inl (cB, n, .inl bf))] U.heap ∧ va_K (dC, dI) vwCl [(cB, .byte), (cI, .int), (cJ, .long), (cZ, .boolean)] U ∧ va_D (fun _ => True) [(h0, .inr (9, [.ref hV, .ref hB, wo, wp])), (hV, .inl (cJ, n, .inr (.inl vf))), (hB, .inl (cB, n, .inl bf))])
abbrev qc_t_X8_reserve_n (dC : Nat → ClassId) (dI : Nat → Nat → Nat) (cB cI cJ cZ : ClassId) (h0 hV hB n : Nat) (vf : Nat → Int64) (bf : Nat → Int32) (wo wp : Value) (c1 : Nat) (A : Nat → Prop) : Array Value → State → Outcome → State → Prop := va_Qv (fun (u : Unit) => match u with | _ => True) (fun (u : Unit) t_ => match u with | _ => va_P (dC, dI) vwCl [(h0, .inr (9, [.ref hV, .ref hB, wo, wp])), (hV, .inl (cJ, n, .inr (.inl vf))), (hB, .inl (cB, n, .inl bf))] t_.heap ∧ va_K (dC, dI) vwCl [(cB, .byte), (cI, .int), (cJ, .long), (cZ, .boolean)] t_ ∧ va_D A [(h0, .inr (9, [.ref hV, .ref hB, wo, wp])), (hV, .inl (cJ, n, .inr (.inl vf))), (hB, .inl (cB, n, .inl bf))]) A
set_option maxHeartbeats 4000000 in
set_option maxRecDepth 100000 in
theorem t_X8_reserve_n (l : Launch) (dC : Nat → ClassId) (dI : Nat → Nat → Nat) (sz : Nat) (cB cI cJ cZ : ClassId) (h0 hV hB n : Nat) (vf : Nat → Int64) (bf : Nat → Int32) (wo wp : Value) (c1 : Nat) (hn : n < 500000) (hc : c1 ≤ n) : Met l yX8_reserve (wsOf yX8_reserve cX8_reserve 2 none) ({ frames := 0, cells := 0, slots := 0, locals := 0 }) (pc_t_X8_reserve_n dC dI sz cB cI cJ cZ h0 hV hB n vf bf wo wp c1) (qc_t_X8_reserve_n dC dI cB cI cJ cZ h0 hV hB n vf bf wo wp c1 (va_A (cs_t_X8_reserve_n cB cI cJ cZ h0 hV hB n vf bf wo wp c1) sz)) 0 0 (va_A (cs_t_X8_reserve_n cB cI cJ cZ h0 hV hB n vf bf wo wp c1) sz) := by
  refine Met.ofW (cc := cX8_reserve) (maxL := 2) (ret := none) (by decide) rfl ?_
  intro p e s m args below meth c s₁ B hml hv
  obtain ⟨rfl, hsz, hP, hK, hD0⟩ := hv
  have hx := B.exec
  have hb := B.bytes
  have hr := B.returns
  have hts := atoms_spec (ws := (wsOf yX8_reserve cX8_reserve 2 none)) B.pre
  have hown : s.vm.findClass RX8 = some m.cls := findClass_of_methodNamed B.named
  have hlocks := B.notSynchronized
  subst hsz
  have hD := hD0.self (sz := s.heap.size)
  generalize hAe : va_A (cs_t_X8_reserve_n cB cI cJ cZ h0 hV hB n vf bf wo wp c1) s.heap.size = A at hD ⊢
  have hA : ∀ q : Nat, s.heap.size ≤ q → A q := fun q h => by rw [← hAe]; exact Or.inr h
  have hS : va_S A s.heap s.heap [] := va_S.rf
  have hP : va_P (dC, dI) vwCl [(h0, .inr (9, [.ref hV, .ref hB, wo, wp])), (hV, .inl (cJ, n, .inr (.inl vf))), (hB, .inl (cB, n, .inl bf))] s.heap := hP
  have hl := lv_entry ([.ref h0, .int (nI c1)]) (n := 2) (Nat.le_of_ble_eq_true rfl)
  rw [lg_entry_eq]
  generalize (lg_sl ([.ref h0, .int (nI c1)]) ++ List.replicate (2 - (lg_sl ([.ref h0, .int (nI c1)])).length) Slot.unset).toArray = ls at hl ⊢
  have hl : lv_has ls 2 [(0, .ref h0), (1, .int (nI c1))] := hl
  refine lv_iload_n hx hb dX8_reserve_0 rfl (lv_at hl 1 rfl) ?_
  refine lv_aload_n hx hb dX8_reserve_1 rfl (lv_at hl 0 rfl) ?_
  refine va_get (D := (dC, dI)) (ci := 9) (v := .ref hV) (C := RX8) (T := TX8) (N := 4) hx hb hts (fun w h => List.mem_cons_of_mem _ (uG_X8 w h)) hown hK hP 0 rfl rfl 0 (by decide) (hts _ (List.mem_cons_of_mem _ kw_349)) (fun _ h9 => h9) rfl dX8_reserve_2 ?_
  refine va_alen (v := nI n) hx hb hK hP 1 2 rfl rfl rfl dX8_reserve_5 ?_
  refine lv_icmp_le (tgt := 37) hx hb dX8_reserve_6 (by decide) (fun c_1 => ?_) (fun c_1 => ?_)
  · skip
    have c_1 : c1 ≤ n := (nI_leI (a := c1) (b := n) (by omega) (by omega)).mp c_1
    have hP9 := hP.sub (ws' := [(h0, .inr (9, [.ref hV, .ref hB, wo, wp])), (hV, .inl (cJ, n, .inr (.inl vf))), (hB, .inl (cB, n, .inl bf))]) [0, 1, 2] rfl
    have hD9 := hD.sub (ws' := [(h0, .inr (9, [.ref hV, .ref hB, wo, wp])), (hV, .inl (cJ, n, .inr (.inl vf))), (hB, .inl (cB, n, .inl bf))]) [0, 1, 2] (by decide) rfl
    have hK9 := hK.sub (tys' := [(cB, .byte), (cI, .int), (cJ, .long), (cZ, .boolean)]) [0, 1, 2, 3] rfl
    exact W.vret hx hb hr (fun t_ ht hW => ⟨⟨(), rfl, trivial, by rw [ht]; exact hP9, va_K.moved hW.alike hK9, hD9⟩, hS.F ht⟩) hS.2.2 dX8_reserve_37
  · skip
    have c_1 : ¬ (c1 ≤ n) := fun h => c_1 ((nI_leI (a := c1) (b := n) (by omega) (by omega)).mpr h)
    exact absurd hc c_1
abbrev cs_t_X8_reserve_g (cB cI cJ cZ : ClassId) (h0 hV hB n : Nat) (vf : Nat → Int64) (bf : Nat → Int32) (wo wp : Value) (c1 : Nat) : va_W := [(h0, .inr (9, [.ref hV, .ref hB, wo, wp])), (hV, .inl (cJ, n, .inr (.inl vf))), (hB, .inl (cB, n, .inl bf))]
abbrev pc_t_X8_reserve_g (dC : Nat → ClassId) (dI : Nat → Nat → Nat) (sz : Nat) (cB cI cJ cZ : ClassId) (h0 hV hB n : Nat) (vf : Nat → Int64) (bf : Nat → Int32) (wo wp : Value) (c1 : Nat) : Array Value → State → Prop := va_Pc [.ref h0, .int (nI c1)] (fun U => U.heap.size = sz ∧ va_P (dC, dI) vwCl [(h0, .inr (9, [.ref hV, .ref hB, wo, wp])), (hV, .inl (cJ, n, .inr (.inl vf))), (hB, .inl (cB, n, .inl bf))] U.heap ∧ va_K (dC, dI) vwCl [(cB, .byte), (cI, .int), (cJ, .long), (cZ, .boolean)] U ∧ va_D (fun _ => True) [(h0, .inr (9, [.ref hV, .ref hB, wo, wp])), (hV, .inl (cJ, n, .inr (.inl vf))), (hB, .inl (cB, n, .inl bf))])
abbrev qc_t_X8_reserve_g (dC : Nat → ClassId) (dI : Nat → Nat → Nat) (cB cI cJ cZ : ClassId) (h0 hV hB n : Nat) (vf : Nat → Int64) (bf : Nat → Int32) (wo wp : Value) (c1 : Nat) (A : Nat → Prop) : Array Value → State → Outcome → State → Prop := va_Qv (fun (u : Unit) => match u with | _ => True) (fun (u : Unit) t_ => match u with | _ => ∃ (a1 a2 : Nat), va_P (dC, dI) vwCl [(h0, .inr (9, [.ref a1, .ref a2, wo, wp])), (a1, .inl (cJ, 2 * c1, .inr (.inl vf))), (a2, .inl (cB, 2 * c1, .inl bf))] t_.heap ∧ va_K (dC, dI) vwCl [(cB, .byte), (cI, .int), (cJ, .long), (cZ, .boolean)] t_ ∧ va_D A [(h0, .inr (9, [.ref a1, .ref a2, wo, wp])), (a1, .inl (cJ, 2 * c1, .inr (.inl vf))), (a2, .inl (cB, 2 * c1, .inl bf))]) A
set_option maxHeartbeats 4000000 in
set_option maxRecDepth 100000 in
theorem t_X8_reserve_g (l : Launch) (dC : Nat → ClassId) (dI : Nat → Nat → Nat) (sz : Nat) (cB cI cJ cZ : ClassId) (h0 hV hB n : Nat) (vf : Nat → Int64) (bf : Nat → Int32) (wo wp : Value) (c1 : Nat) (hn : n < 500000) (hzv : ∀ j, n ≤ j → vf j = 0) (hzb : ∀ j, n ≤ j → bf j = 0) (hy : sb_Fit bf) (hc : n < c1) (hc1 : c1 < 200000) : Met l yX8_reserve (wsOf yX8_reserve cX8_reserve 2 none) ({ frames := 2, cells := 2, slots := 4 * c1, locals := 120 }) (pc_t_X8_reserve_g dC dI sz cB cI cJ cZ h0 hV hB n vf bf wo wp c1) (qc_t_X8_reserve_g dC dI cB cI cJ cZ h0 hV hB n vf bf wo wp c1 (va_A (cs_t_X8_reserve_g cB cI cJ cZ h0 hV hB n vf bf wo wp c1) sz)) 2 (4 * c1) (va_A (cs_t_X8_reserve_g cB cI cJ cZ h0 hV hB n vf bf wo wp c1) sz) := by
  refine Met.ofW (cc := cX8_reserve) (maxL := 2) (ret := none) (by decide) rfl ?_
  intro p e s m args below meth c s₁ B hml hv
  obtain ⟨rfl, hsz, hP, hK, hD0⟩ := hv
  have hx := B.exec
  have hb := B.bytes
  have hr := B.returns
  have hts := atoms_spec (ws := (wsOf yX8_reserve cX8_reserve 2 none)) B.pre
  have hown : s.vm.findClass RX8 = some m.cls := findClass_of_methodNamed B.named
  have hlocks := B.notSynchronized
  subst hsz
  have hD := hD0.self (sz := s.heap.size)
  generalize hAe : va_A (cs_t_X8_reserve_g cB cI cJ cZ h0 hV hB n vf bf wo wp c1) s.heap.size = A at hD ⊢
  have hA : ∀ q : Nat, s.heap.size ≤ q → A q := fun q h => by rw [← hAe]; exact Or.inr h
  have hS : va_S A s.heap s.heap [] := va_S.rf
  have hP : va_P (dC, dI) vwCl [(h0, .inr (9, [.ref hV, .ref hB, wo, wp])), (hV, .inl (cJ, n, .inr (.inl vf))), (hB, .inl (cB, n, .inl bf))] s.heap := hP
  have hl := lv_entry ([.ref h0, .int (nI c1)]) (n := 2) (Nat.le_of_ble_eq_true rfl)
  rw [lg_entry_eq]
  generalize (lg_sl ([.ref h0, .int (nI c1)]) ++ List.replicate (2 - (lg_sl ([.ref h0, .int (nI c1)])).length) Slot.unset).toArray = ls at hl ⊢
  have hl : lv_has ls 2 [(0, .ref h0), (1, .int (nI c1))] := hl
  refine lv_iload_n hx hb dX8_reserve_0 rfl (lv_at hl 1 rfl) ?_
  refine lv_aload_n hx hb dX8_reserve_1 rfl (lv_at hl 0 rfl) ?_
  refine va_get (D := (dC, dI)) (ci := 9) (v := .ref hV) (C := RX8) (T := TX8) (N := 4) hx hb hts (fun w h => List.mem_cons_of_mem _ (uG_X8 w h)) hown hK hP 0 rfl rfl 0 (by decide) (hts _ (List.mem_cons_of_mem _ kw_349)) (fun _ h9 => h9) rfl dX8_reserve_2 ?_
  refine va_alen (v := nI n) hx hb hK hP 1 2 rfl rfl rfl dX8_reserve_5 ?_
  refine lv_icmp_le (tgt := 37) hx hb dX8_reserve_6 (by decide) (fun c_1 => ?_) (fun c_1 => ?_)
  · skip
    have c_1 : c1 ≤ n := (nI_leI (a := c1) (b := n) (by omega) (by omega)).mp c_1
    exact absurd hc (by omega)
  · skip
    have c_1 : ¬ (c1 ≤ n) := fun h => c_1 ((nI_leI (a := c1) (b := n) (by omega) (by omega)).mpr h)
    refine lv_aload_n hx hb dX8_reserve_9 rfl (lv_at hl 0 rfl) ?_
    refine lv_aload_n hx hb dX8_reserve_10 rfl (lv_at hl 0 rfl) ?_
    refine va_get (D := (dC, dI)) (ci := 9) (v := .ref hV) (C := RX8) (T := TX8) (N := 4) hx hb hts (fun w h => List.mem_cons_of_mem _ (uG_X8 w h)) hown hK hP 0 rfl rfl 0 (by decide) (hts _ (List.mem_cons_of_mem _ kw_349)) (fun _ h9 => h9) rfl dX8_reserve_11 ?_
    refine lv_iconst (v := 2) hx hb dX8_reserve_14 (by decide) ?_
    refine lv_iload_n hx hb dX8_reserve_15 rfl (lv_at hl 1 rfl) ?_
    refine lv_imul hx hb dX8_reserve_16 ?_
    refine lv_topi (fun x_2 ex_2 => ?_)
    have ex_2 : x_2 = nI (2 * c1) := ex_2.trans (pk_mul 2 c1)
    subst ex_2
    have hPc := hP.sub (ws' := [(hV, .inl (cJ, n, .inr (.inl vf)))]) [1] rfl
    have hDc := hD.sub (ws' := [(hV, .inl (cJ, n, .inr (.inl vf)))]) [1] (by decide) rfl
    have hKc := hK.sub (tys' := [(cB, .byte), (cI, .int), (cJ, .long), (cZ, .boolean)]) [0, 1, 2, 3] rfl
    have hFc := va_free (wc := [(hV, .inl (cJ, n, .inr (.inl vf)))]) hD hS hA [1] rfl
    refine va_callr (va_runS (As := [.ref hV, .int (nI (2 * c1))]) (rest := [.ref h0]) ⟨hx, hb, hml, hown, hts⟩ (t_J7_copyOf_c38d5 l dC dI s.heap.size cB cI cJ cZ hV n (2 * c1) vf (by omega) (by omega) hzv) ⟨callB_of 2 hts (gd_all (in_I kc_J7_copyOf_c38d5)) rfl rfl rfl (hts _ (List.mem_cons_of_mem _ kw_201)) (hts _ (List.mem_cons_of_mem _ kw_1342)) (by decide +kernel) ⟨Nat.le_of_ble_eq_true rfl, Nat.le_of_ble_eq_true rfl⟩, hts _ (List.mem_cons_of_mem _ kw_1343)⟩ ⟨fun a U g mk q => by obtain ⟨q0, q1, qP, qK, qD⟩ := q; exact ⟨q0, q1, qP, va_K.moved (u := U) (U := U.calling g mk a) (Vm.Alike.refl U.vm) qK, qD⟩, fun U hU hW => ⟨rfl, by rw [hU], by rw [hU]; exact hPc, va_K.moved hW.alike hKc, hDc.weaken (fun _ _ _ _ => trivial)⟩⟩ rfl rfl hl.1 rfl (lv_room (Nat.le_of_ble_eq_true rfl)) dX8_reserve_17 ⟨Nat.le_of_ble_eq_true rfl, by show 0 + 2 * c1 ≤ 4 * c1; omega⟩) hS (fun q _ h => hFc q h) hFc (fun u ra_3 t_ H1 locs ht hvm hw hB hz1 hk1 hS => ?_)
    obtain ⟨hP1, hK1, hD1⟩ := hB
    rw [ht] at hP1
    have hK1 := va_K.moved hvm.symm hK1
    obtain ⟨hP, hD⟩ := va_join (wr := [(h0, .inr (9, [.ref hV, .ref hB, wo, wp])), (hB, .inl (cB, n, .inl bf))]) (w1 := [(hV, .inl (cJ, n, .inr (.inl vf))), (ra_3, .inl (cJ, 2 * c1, .inr (.inl vf)))]) hP hD [1] [0, 2] rfl rfl (by decide) (by decide) hk1 hFc hP1 hD1
    have hK := (hK.sub (tys' := []) [] rfl).app hK1
    generalize H1 = H at hP hS ⊢
    have hP : va_P (dC, dI) vwCl [(h0, .inr (9, [.ref hV, .ref hB, wo, wp])), (hB, .inl (cB, n, .inl bf)), (hV, .inl (cJ, n, .inr (.inl vf))), (ra_3, .inl (cJ, 2 * c1, .inr (.inl vf)))] H := hP
    have hD : va_D A [(h0, .inr (9, [.ref hV, .ref hB, wo, wp])), (hB, .inl (cB, n, .inl bf)), (hV, .inl (cJ, n, .inr (.inl vf))), (ra_3, .inl (cJ, 2 * c1, .inr (.inl vf)))] := hD
    have hK : va_K (dC, dI) vwCl [(cB, .byte), (cI, .int), (cJ, .long), (cZ, .boolean)] s := hK
    refine va_put (D := (dC, dI)) (ci := 9) (v := .ref ra_3) (ty := .array .long) (C := RX8) (T := TX8) (N := 4) hx hb hts (fun w h => List.mem_cons_of_mem _ (uG_X8 w h)) tyX8 tyX8_ok nmX8 hown hK hP hD hS 0 rfl rfl 0 (by decide) (hts _ (List.mem_cons_of_mem _ kw_349)) (fun _ h9 => h9) rfl (by decide +kernel) rfl rfl (Nat.le_of_ble_eq_true rfl) dX8_reserve_20 (fun H locs hP hD hS => ?_)
    have hP : va_P (dC, dI) vwCl [(h0, .inr (9, [.ref ra_3, .ref hB, wo, wp])), (hB, .inl (cB, n, .inl bf)), (hV, .inl (cJ, n, .inr (.inl vf))), (ra_3, .inl (cJ, 2 * c1, .inr (.inl vf)))] H := hP
    have hD : va_D A [(h0, .inr (9, [.ref ra_3, .ref hB, wo, wp])), (hB, .inl (cB, n, .inl bf)), (hV, .inl (cJ, n, .inr (.inl vf))), (ra_3, .inl (cJ, 2 * c1, .inr (.inl vf)))] := hD
    refine lv_aload_n hx hb dX8_reserve_23 rfl (lv_at hl 0 rfl) ?_
    refine lv_aload_n hx hb dX8_reserve_24 rfl (lv_at hl 0 rfl) ?_
    refine va_get (D := (dC, dI)) (ci := 9) (v := .ref hB) (C := RX8) (T := TX8) (N := 4) hx hb hts (fun w h => List.mem_cons_of_mem _ (uG_X8 w h)) hown hK hP 0 rfl rfl 1 (by decide) (hts _ (List.mem_cons_of_mem _ kw_350)) (fun _ h9 => h9) rfl dX8_reserve_25 ?_
    refine lv_iconst (v := 2) hx hb dX8_reserve_28 (by decide) ?_
    refine lv_iload_n hx hb dX8_reserve_29 rfl (lv_at hl 1 rfl) ?_
    refine lv_imul hx hb dX8_reserve_30 ?_
    refine lv_topi (fun x_4 ex_4 => ?_)
    have ex_4 : x_4 = nI (2 * c1) := ex_4.trans (pk_mul 2 c1)
    subst ex_4
    have hPc := hP.sub (ws' := [(hB, .inl (cB, n, .inl bf))]) [1] rfl
    have hDc := hD.sub (ws' := [(hB, .inl (cB, n, .inl bf))]) [1] (by decide) rfl
    have hKc := hK.sub (tys' := [(cB, .byte), (cI, .int), (cJ, .long), (cZ, .boolean)]) [0, 1, 2, 3] rfl
    have hFc := va_free (wc := [(hB, .inl (cB, n, .inl bf))]) hD hS hA [1] rfl
    refine va_callr (va_runS (As := [.ref hB, .int (nI (2 * c1))]) (rest := [.ref h0]) ⟨hx, hb, hml, hown, hts⟩ (t_J7_copyOf_9075b l dC dI H.size cB cI cJ cZ hB n (2 * c1) bf (by omega) (by omega) hzb hy) ⟨callB_of 2 hts (gd_all (in_I kc_J7_copyOf_9075b)) rfl rfl rfl (hts _ (List.mem_cons_of_mem _ kw_201)) (hts _ (List.mem_cons_of_mem _ kw_1352)) (by decide +kernel) ⟨Nat.le_of_ble_eq_true rfl, Nat.le_of_ble_eq_true rfl⟩, hts _ (List.mem_cons_of_mem _ kw_1353)⟩ ⟨fun a U g mk q => by obtain ⟨q0, q1, qP, qK, qD⟩ := q; exact ⟨q0, q1, qP, va_K.moved (u := U) (U := U.calling g mk a) (Vm.Alike.refl U.vm) qK, qD⟩, fun U hU hW => ⟨rfl, by rw [hU], by rw [hU]; exact hPc, va_K.moved hW.alike hKc, hDc.weaken (fun _ _ _ _ => trivial)⟩⟩ rfl rfl hl.1 rfl (lv_room (Nat.le_of_ble_eq_true rfl)) dX8_reserve_31 ⟨Nat.le_of_ble_eq_true rfl, by show (0 + 2 * c1) + 2 * c1 ≤ 4 * c1; omega⟩) hS (fun q _ h => hFc q h) hFc (fun u ra_5 t_ H1 locs ht hvm hw hB hz1 hk1 hS => ?_)
    obtain ⟨hP1, hK1, hD1⟩ := hB
    rw [ht] at hP1
    have hK1 := va_K.moved hvm.symm hK1
    obtain ⟨hP, hD⟩ := va_join (wr := [(h0, .inr (9, [.ref ra_3, .ref hB, wo, wp])), (hV, .inl (cJ, n, .inr (.inl vf))), (ra_3, .inl (cJ, 2 * c1, .inr (.inl vf)))]) (w1 := [(hB, .inl (cB, n, .inl bf)), (ra_5, .inl (cB, 2 * c1, .inl bf))]) hP hD [1] [0, 2, 3] rfl rfl (by decide) (by decide) hk1 hFc hP1 hD1
    have hK := (hK.sub (tys' := []) [] rfl).app hK1
    generalize H1 = H at hP hS ⊢
    have hP : va_P (dC, dI) vwCl [(h0, .inr (9, [.ref ra_3, .ref hB, wo, wp])), (hV, .inl (cJ, n, .inr (.inl vf))), (ra_3, .inl (cJ, 2 * c1, .inr (.inl vf))), (hB, .inl (cB, n, .inl bf)), (ra_5, .inl (cB, 2 * c1, .inl bf))] H := hP
    have hD : va_D A [(h0, .inr (9, [.ref ra_3, .ref hB, wo, wp])), (hV, .inl (cJ, n, .inr (.inl vf))), (ra_3, .inl (cJ, 2 * c1, .inr (.inl vf))), (hB, .inl (cB, n, .inl bf)), (ra_5, .inl (cB, 2 * c1, .inl bf))] := hD
    have hK : va_K (dC, dI) vwCl [(cB, .byte), (cI, .int), (cJ, .long), (cZ, .boolean)] s := hK
    refine va_put (D := (dC, dI)) (ci := 9) (v := .ref ra_5) (ty := .array .byte) (C := RX8) (T := TX8) (N := 4) hx hb hts (fun w h => List.mem_cons_of_mem _ (uG_X8 w h)) tyX8 tyX8_ok nmX8 hown hK hP hD hS 0 rfl rfl 1 (by decide) (hts _ (List.mem_cons_of_mem _ kw_350)) (fun _ h9 => h9) rfl (by decide +kernel) rfl rfl (Nat.le_of_ble_eq_true rfl) dX8_reserve_34 (fun H locs hP hD hS => ?_)
    have hP : va_P (dC, dI) vwCl [(h0, .inr (9, [.ref ra_3, .ref ra_5, wo, wp])), (hV, .inl (cJ, n, .inr (.inl vf))), (ra_3, .inl (cJ, 2 * c1, .inr (.inl vf))), (hB, .inl (cB, n, .inl bf)), (ra_5, .inl (cB, 2 * c1, .inl bf))] H := hP
    have hD : va_D A [(h0, .inr (9, [.ref ra_3, .ref ra_5, wo, wp])), (hV, .inl (cJ, n, .inr (.inl vf))), (ra_3, .inl (cJ, 2 * c1, .inr (.inl vf))), (hB, .inl (cB, n, .inl bf)), (ra_5, .inl (cB, 2 * c1, .inl bf))] := hD
    have hP9 := hP.sub (ws' := [(h0, .inr (9, [.ref ra_3, .ref ra_5, wo, wp])), (ra_3, .inl (cJ, 2 * c1, .inr (.inl vf))), (ra_5, .inl (cB, 2 * c1, .inl bf))]) [0, 2, 4] rfl
    have hD9 := hD.sub (ws' := [(h0, .inr (9, [.ref ra_3, .ref ra_5, wo, wp])), (ra_3, .inl (cJ, 2 * c1, .inr (.inl vf))), (ra_5, .inl (cB, 2 * c1, .inl bf))]) [0, 2, 4] (by decide) rfl
    have hK9 := hK.sub (tys' := [(cB, .byte), (cI, .int), (cJ, .long), (cZ, .boolean)]) [0, 1, 2, 3] rfl
    refine W.widen (k := 2) (n := 4 * c1) (by omega) (by omega) ?_
    exact W.vret hx hb hr (fun t_ ht hW => ⟨⟨(), rfl, trivial, ra_3, ra_5, by rw [ht]; exact hP9, va_K.moved hW.alike hK9, hD9⟩, hS.F ht⟩) hS.2.2 dX8_reserve_37
theorem dX8_holds_0 : decode cX8_holds 0 = .ok (.iload_n 1, 1) := by decide +kernel
theorem dX8_holds_1 : decode cX8_holds 1 = .ok (.ifCond .lt 25, 3) := by decide +kernel
theorem dX8_holds_4 : decode cX8_holds 4 = .ok (.iload_n 1, 1) := by decide +kernel
theorem dX8_holds_5 : decode cX8_holds 5 = .ok (.aload_n 0, 1) := by decide +kernel
theorem dX8_holds_6 : decode cX8_holds 6 = .ok (.getfield 11, 3) := by decide +kernel
theorem dX8_holds_9 : decode cX8_holds 9 = .ok (.arraylength, 1) := by decide +kernel
theorem dX8_holds_10 : decode cX8_holds 10 = .ok (.if_icmp .ge 16, 3) := by decide +kernel
theorem dX8_holds_13 : decode cX8_holds 13 = .ok (.iload_n 1, 1) := by decide +kernel
theorem dX8_holds_14 : decode cX8_holds 14 = .ok (.aload_n 0, 1) := by decide +kernel
theorem dX8_holds_15 : decode cX8_holds 15 = .ok (.getfield 15, 3) := by decide +kernel
theorem dX8_holds_18 : decode cX8_holds 18 = .ok (.arraylength, 1) := by decide +kernel
theorem dX8_holds_19 : decode cX8_holds 19 = .ok (.if_icmp .ge 7, 3) := by decide +kernel
theorem dX8_holds_22 : decode cX8_holds 22 = .ok (.iconst 1, 1) := by decide +kernel
theorem dX8_holds_23 : decode cX8_holds 23 = .ok (.goto 4, 3) := by decide +kernel
theorem dX8_holds_26 : decode cX8_holds 26 = .ok (.iconst 0, 1) := by decide +kernel
theorem dX8_holds_27 : decode cX8_holds 27 = .ok (.ireturn, 1) := by decide +kernel
abbrev cs_t_X8_holds (cB cI cJ cZ : ClassId) (h0 hV hB n : Nat) (vf : Nat → Int64) (bf : Nat → Int32) (wo wp : Value) (c1 : Nat) : va_W := [(h0, .inr (9, [.ref hV, .ref hB, wo, wp])), (hV, .inl (cJ, n, .inr (.inl vf))), (hB, .inl (cB, n, .inl bf))]
abbrev pc_t_X8_holds (dC : Nat → ClassId) (dI : Nat → Nat → Nat) (sz : Nat) (cB cI cJ cZ : ClassId) (h0 hV hB n : Nat) (vf : Nat → Int64) (bf : Nat → Int32) (wo wp : Value) (c1 : Nat) : Array Value → State → Prop := va_Pc [.ref h0, .int (nI c1)] (fun U => U.heap.size = sz ∧ va_P (dC, dI) vwCl [(h0, .inr (9, [.ref hV, .ref hB, wo, wp])), (hV, .inl (cJ, n, .inr (.inl vf))), (hB, .inl (cB, n, .inl bf))] U.heap ∧ va_K (dC, dI) vwCl [(cB, .byte), (cI, .int), (cJ, .long), (cZ, .boolean)] U ∧ va_D (fun _ => True) [(h0, .inr (9, [.ref hV, .ref hB, wo, wp])), (hV, .inl (cJ, n, .inr (.inl vf))), (hB, .inl (cB, n, .inl bf))])
abbrev qc_t_X8_holds (dC : Nat → ClassId) (dI : Nat → Nat → Nat) (cB cI cJ cZ : ClassId) (h0 hV hB n : Nat) (vf : Nat → Int64) (bf : Nat → Int32) (wo wp : Value) (c1 : Nat) (A : Nat → Prop) : Array Value → State → Outcome → State → Prop := va_Qi (fun (r : Int32) (u : Unit) => match u with | _ => r = 1) (fun (u : Unit) t_ => match u with | _ => va_P (dC, dI) vwCl [(h0, .inr (9, [.ref hV, .ref hB, wo, wp])), (hV, .inl (cJ, n, .inr (.inl vf))), (hB, .inl (cB, n, .inl bf))] t_.heap ∧ va_K (dC, dI) vwCl [(cB, .byte), (cI, .int), (cJ, .long), (cZ, .boolean)] t_ ∧ va_D A [(h0, .inr (9, [.ref hV, .ref hB, wo, wp])), (hV, .inl (cJ, n, .inr (.inl vf))), (hB, .inl (cB, n, .inl bf))]) A
set_option maxHeartbeats 4000000 in
set_option maxRecDepth 100000 in
theorem t_X8_holds (l : Launch) (dC : Nat → ClassId) (dI : Nat → Nat → Nat) (sz : Nat) (cB cI cJ cZ : ClassId) (h0 hV hB n : Nat) (vf : Nat → Int64) (bf : Nat → Int32) (wo wp : Value) (c1 : Nat) (hn : n < 500000) (hc : c1 < n) : Met l yX8_holds (wsOf yX8_holds cX8_holds 2 (some .boolean)) ({ frames := 0, cells := 0, slots := 0, locals := 0 }) (pc_t_X8_holds dC dI sz cB cI cJ cZ h0 hV hB n vf bf wo wp c1) (qc_t_X8_holds dC dI cB cI cJ cZ h0 hV hB n vf bf wo wp c1 (va_A (cs_t_X8_holds cB cI cJ cZ h0 hV hB n vf bf wo wp c1) sz)) 0 0 (va_A (cs_t_X8_holds cB cI cJ cZ h0 hV hB n vf bf wo wp c1) sz) := by
  refine Met.ofW (cc := cX8_holds) (maxL := 2) (ret := (some .boolean)) (by decide) rfl ?_
  intro p e s m args below meth c s₁ B hml hv
  obtain ⟨rfl, hsz, hP, hK, hD0⟩ := hv
  have hx := B.exec
  have hb := B.bytes
  have hr := B.returns
  have hts := atoms_spec (ws := (wsOf yX8_holds cX8_holds 2 (some .boolean))) B.pre
  have hown : s.vm.findClass RX8 = some m.cls := findClass_of_methodNamed B.named
  have hlocks := B.notSynchronized
  subst hsz
  have hD := hD0.self (sz := s.heap.size)
  generalize hAe : va_A (cs_t_X8_holds cB cI cJ cZ h0 hV hB n vf bf wo wp c1) s.heap.size = A at hD ⊢
  have hA : ∀ q : Nat, s.heap.size ≤ q → A q := fun q h => by rw [← hAe]; exact Or.inr h
  have hS : va_S A s.heap s.heap [] := va_S.rf
  have hP : va_P (dC, dI) vwCl [(h0, .inr (9, [.ref hV, .ref hB, wo, wp])), (hV, .inl (cJ, n, .inr (.inl vf))), (hB, .inl (cB, n, .inl bf))] s.heap := hP
  have hl := lv_entry ([.ref h0, .int (nI c1)]) (n := 2) (Nat.le_of_ble_eq_true rfl)
  rw [lg_entry_eq]
  generalize (lg_sl ([.ref h0, .int (nI c1)]) ++ List.replicate (2 - (lg_sl ([.ref h0, .int (nI c1)])).length) Slot.unset).toArray = ls at hl ⊢
  have hl : lv_has ls 2 [(0, .ref h0), (1, .int (nI c1))] := hl
  refine lv_iload_n hx hb dX8_holds_0 rfl (lv_at hl 1 rfl) ?_
  refine lv_if_lt (tgt := 26) hx hb dX8_holds_1 (by decide) (fun c_1 => ?_) (fun c_1 => ?_)
  · skip
    have c_1 : c1 < 0 := (nI_ltI (a := c1) (b := 0) (by omega) (by omega)).mp c_1
    exact absurd c_1 (by omega)
  · skip
    have c_1 : ¬ (c1 < 0) := fun h => c_1 ((nI_ltI (a := c1) (b := 0) (by omega) (by omega)).mpr h)
    refine lv_iload_n hx hb dX8_holds_4 rfl (lv_at hl 1 rfl) ?_
    refine lv_aload_n hx hb dX8_holds_5 rfl (lv_at hl 0 rfl) ?_
    refine va_get (D := (dC, dI)) (ci := 9) (v := .ref hV) (C := RX8) (T := TX8) (N := 4) hx hb hts (fun w h => List.mem_cons_of_mem _ (uG_X8 w h)) hown hK hP 0 rfl rfl 0 (by decide) (hts _ (List.mem_cons_of_mem _ kw_349)) (fun _ h9 => h9) rfl dX8_holds_6 ?_
    refine va_alen (v := nI n) hx hb hK hP 1 2 rfl rfl rfl dX8_holds_9 ?_
    refine lv_icmp_ge (tgt := 26) hx hb dX8_holds_10 (by decide) (fun c_2 => ?_) (fun c_2 => ?_)
    · skip
      have c_2 : n ≤ c1 := (nI_leI (a := n) (b := c1) (by omega) (by omega)).mp c_2
      exact absurd c_2 (by omega)
    · skip
      have c_2 : ¬ (n ≤ c1) := fun h => c_2 ((nI_leI (a := n) (b := c1) (by omega) (by omega)).mpr h)
      refine lv_iload_n hx hb dX8_holds_13 rfl (lv_at hl 1 rfl) ?_
      refine lv_aload_n hx hb dX8_holds_14 rfl (lv_at hl 0 rfl) ?_
      refine va_get (D := (dC, dI)) (ci := 9) (v := .ref hB) (C := RX8) (T := TX8) (N := 4) hx hb hts (fun w h => List.mem_cons_of_mem _ (uG_X8 w h)) hown hK hP 0 rfl rfl 1 (by decide) (hts _ (List.mem_cons_of_mem _ kw_350)) (fun _ h9 => h9) rfl dX8_holds_15 ?_
      refine va_alen (v := nI n) hx hb hK hP 2 0 rfl rfl rfl dX8_holds_18 ?_
      refine lv_icmp_ge (tgt := 26) hx hb dX8_holds_19 (by decide) (fun c_3 => ?_) (fun c_3 => ?_)
      · skip
        have c_3 : n ≤ c1 := (nI_leI (a := n) (b := c1) (by omega) (by omega)).mp c_3
        exact absurd c_3 (by omega)
      · skip
        have c_3 : ¬ (n ≤ c1) := fun h => c_3 ((nI_leI (a := n) (b := c1) (by omega) (by omega)).mpr h)
        refine lv_iconst (v := 1) hx hb dX8_holds_22 (by decide) ?_
        refine lv_goto (tgt := 27) hx hb dX8_holds_23 (by decide) ?_
        have hP9 := hP.sub (ws' := [(h0, .inr (9, [.ref hV, .ref hB, wo, wp])), (hV, .inl (cJ, n, .inr (.inl vf))), (hB, .inl (cB, n, .inl bf))]) [0, 1, 2] rfl
        have hD9 := hD.sub (ws' := [(h0, .inr (9, [.ref hV, .ref hB, wo, wp])), (hV, .inl (cJ, n, .inr (.inl vf))), (hB, .inl (cB, n, .inl bf))]) [0, 1, 2] (by decide) rfl
        have hK9 := hK.sub (tys' := [(cB, .byte), (cI, .int), (cJ, .long), (cZ, .boolean)]) [0, 1, 2, 3] rfl
        exact W.zret (v := 1) hx hb hr (by rfl) (fun t_ ht hW => ⟨⟨1, (), rfl, rfl, by rw [ht]; exact hP9, va_K.moved hW.alike hK9, hD9⟩, hS.F ht⟩) hS.2.2 dX8_holds_27
theorem dX8_valueOf_0 : decode cX8_valueOf 0 = .ok (.aload_n 0, 1) := by decide +kernel
theorem dX8_valueOf_1 : decode cX8_valueOf 1 = .ok (.iload_n 1, 1) := by decide +kernel
theorem dX8_valueOf_2 : decode cX8_valueOf 2 = .ok (.invokevirtual 35, 3) := by decide +kernel
theorem dX8_valueOf_5 : decode cX8_valueOf 5 = .ok (.ifCond .eq 12, 3) := by decide +kernel
theorem dX8_valueOf_8 : decode cX8_valueOf 8 = .ok (.aload_n 0, 1) := by decide +kernel
theorem dX8_valueOf_9 : decode cX8_valueOf 9 = .ok (.getfield 11, 3) := by decide +kernel
theorem dX8_valueOf_12 : decode cX8_valueOf 12 = .ok (.iload_n 1, 1) := by decide +kernel
theorem dX8_valueOf_13 : decode cX8_valueOf 13 = .ok (.laload, 1) := by decide +kernel
theorem dX8_valueOf_14 : decode cX8_valueOf 14 = .ok (.goto 4, 3) := by decide +kernel
theorem dX8_valueOf_17 : decode cX8_valueOf 17 = .ok (.lconst 0, 1) := by decide +kernel
theorem dX8_valueOf_18 : decode cX8_valueOf 18 = .ok (.lreturn, 1) := by decide +kernel
abbrev cs_t_X8_valueOf (cB cI cJ cZ : ClassId) (h0 hV hB n : Nat) (vf : Nat → Int64) (bf : Nat → Int32) (wo wp : Value) (c1 : Nat) : va_W := [(h0, .inr (9, [.ref hV, .ref hB, wo, wp])), (hV, .inl (cJ, n, .inr (.inl vf))), (hB, .inl (cB, n, .inl bf))]
abbrev pc_t_X8_valueOf (dC : Nat → ClassId) (dI : Nat → Nat → Nat) (sz : Nat) (cB cI cJ cZ : ClassId) (h0 hV hB n : Nat) (vf : Nat → Int64) (bf : Nat → Int32) (wo wp : Value) (c1 : Nat) : Array Value → State → Prop := va_Pc [.ref h0, .int (nI c1)] (fun U => U.heap.size = sz ∧ va_P (dC, dI) vwCl [(h0, .inr (9, [.ref hV, .ref hB, wo, wp])), (hV, .inl (cJ, n, .inr (.inl vf))), (hB, .inl (cB, n, .inl bf))] U.heap ∧ va_K (dC, dI) vwCl [(cB, .byte), (cI, .int), (cJ, .long), (cZ, .boolean)] U ∧ va_D (fun _ => True) [(h0, .inr (9, [.ref hV, .ref hB, wo, wp])), (hV, .inl (cJ, n, .inr (.inl vf))), (hB, .inl (cB, n, .inl bf))])
abbrev qc_t_X8_valueOf (dC : Nat → ClassId) (dI : Nat → Nat → Nat) (cB cI cJ cZ : ClassId) (h0 hV hB n : Nat) (vf : Nat → Int64) (bf : Nat → Int32) (wo wp : Value) (c1 : Nat) (A : Nat → Prop) : Array Value → State → Outcome → State → Prop := va_Ql (fun (r : Int64) (u : Unit) => match u with | _ => r = vf c1) (fun (u : Unit) t_ => match u with | _ => va_P (dC, dI) vwCl [(h0, .inr (9, [.ref hV, .ref hB, wo, wp])), (hV, .inl (cJ, n, .inr (.inl vf))), (hB, .inl (cB, n, .inl bf))] t_.heap ∧ va_K (dC, dI) vwCl [(cB, .byte), (cI, .int), (cJ, .long), (cZ, .boolean)] t_ ∧ va_D A [(h0, .inr (9, [.ref hV, .ref hB, wo, wp])), (hV, .inl (cJ, n, .inr (.inl vf))), (hB, .inl (cB, n, .inl bf))]) A
set_option maxHeartbeats 4000000 in
set_option maxRecDepth 100000 in
theorem t_X8_valueOf (l : Launch) (dC : Nat → ClassId) (dI : Nat → Nat → Nat) (sz : Nat) (cB cI cJ cZ : ClassId) (h0 hV hB n : Nat) (vf : Nat → Int64) (bf : Nat → Int32) (wo wp : Value) (c1 : Nat) (hn : n < 500000) (hc : c1 < n) : Met l yX8_valueOf (wsOf yX8_valueOf cX8_valueOf 2 (some .long)) ({ frames := 1, cells := 0, slots := 0, locals := 60 }) (pc_t_X8_valueOf dC dI sz cB cI cJ cZ h0 hV hB n vf bf wo wp c1) (qc_t_X8_valueOf dC dI cB cI cJ cZ h0 hV hB n vf bf wo wp c1 (va_A (cs_t_X8_valueOf cB cI cJ cZ h0 hV hB n vf bf wo wp c1) sz)) 0 0 (va_A (cs_t_X8_valueOf cB cI cJ cZ h0 hV hB n vf bf wo wp c1) sz) := by
  refine Met.ofW (cc := cX8_valueOf) (maxL := 2) (ret := (some .long)) (by decide) rfl ?_
  intro p e s m args below meth c s₁ B hml hv
  obtain ⟨rfl, hsz, hP, hK, hD0⟩ := hv
  have hx := B.exec
  have hb := B.bytes
  have hr := B.returns
  have hts := atoms_spec (ws := (wsOf yX8_valueOf cX8_valueOf 2 (some .long))) B.pre
  have hown : s.vm.findClass RX8 = some m.cls := findClass_of_methodNamed B.named
  have hlocks := B.notSynchronized
  subst hsz
  have hD := hD0.self (sz := s.heap.size)
  generalize hAe : va_A (cs_t_X8_valueOf cB cI cJ cZ h0 hV hB n vf bf wo wp c1) s.heap.size = A at hD ⊢
  have hA : ∀ q : Nat, s.heap.size ≤ q → A q := fun q h => by rw [← hAe]; exact Or.inr h
  have hS : va_S A s.heap s.heap [] := va_S.rf
  have hP : va_P (dC, dI) vwCl [(h0, .inr (9, [.ref hV, .ref hB, wo, wp])), (hV, .inl (cJ, n, .inr (.inl vf))), (hB, .inl (cB, n, .inl bf))] s.heap := hP
  have hl := lv_entry ([.ref h0, .int (nI c1)]) (n := 2) (Nat.le_of_ble_eq_true rfl)
  rw [lg_entry_eq]
  generalize (lg_sl ([.ref h0, .int (nI c1)]) ++ List.replicate (2 - (lg_sl ([.ref h0, .int (nI c1)])).length) Slot.unset).toArray = ls at hl ⊢
  have hl : lv_has ls 2 [(0, .ref h0), (1, .int (nI c1))] := hl
  refine lv_aload_n hx hb dX8_valueOf_0 rfl (lv_at hl 0 rfl) ?_
  refine lv_iload_n hx hb dX8_valueOf_1 rfl (lv_at hl 1 rfl) ?_
  have hPc := hP.sub (ws' := [(h0, .inr (9, [.ref hV, .ref hB, wo, wp])), (hV, .inl (cJ, n, .inr (.inl vf))), (hB, .inl (cB, n, .inl bf))]) [0, 1, 2] rfl
  have hDc := hD.sub (ws' := [(h0, .inr (9, [.ref hV, .ref hB, wo, wp])), (hV, .inl (cJ, n, .inr (.inl vf))), (hB, .inl (cB, n, .inl bf))]) [0, 1, 2] (by decide) rfl
  have hKc := hK.sub (tys' := [(cB, .byte), (cI, .int), (cJ, .long), (cZ, .boolean)]) [0, 1, 2, 3] rfl
  have hFc := va_free (wc := [(h0, .inr (9, [.ref hV, .ref hB, wo, wp])), (hV, .inl (cJ, n, .inr (.inl vf))), (hB, .inl (cB, n, .inl bf))]) hD hS hA [0, 1, 2] rfl
  refine va_calli (va_runV (As := [.int (nI c1)]) (rest := []) ⟨hx, hb, hml, hown, hts⟩ (t_X8_holds l dC dI s.heap.size cB cI cJ cZ h0 hV hB n vf bf wo wp c1 (by omega) (by omega)) (cwV 1 hts (gd_all (in_V kw_1360 kw_1362 kw_67 kw_188 kc_X8_holds)) rfl rfl rfl (by decide +kernel) ⟨Nat.le_of_ble_eq_true rfl, Nat.le_of_ble_eq_true rfl⟩) ⟨fun a U g mk q => by obtain ⟨q0, q1, qP, qK, qD⟩ := q; exact ⟨q0, q1, qP, va_K.moved (u := U) (U := U.calling g mk a) (Vm.Alike.refl U.vm) qK, qD⟩, va_recv hKc hPc (ci := 9) (q0 := 0) rfl rfl, fun U hU hW => ⟨rfl, by rw [hU], by rw [hU]; exact hPc, va_K.moved hW.alike hKc, hDc.weaken (fun _ _ _ _ => trivial)⟩⟩ rfl rfl hl.1 rfl (lv_room (Nat.le_of_ble_eq_true rfl)) dX8_valueOf_2 ⟨Nat.le_of_ble_eq_true rfl, Nat.le_of_ble_eq_true rfl⟩) hS (fun q _ h => hFc q h) hFc (fun r_1 u t_ H1 locs ht hvm hw hB hz1 hk1 hS => ?_)
  obtain ⟨hP1, hK1, hD1⟩ := hB
  rw [ht] at hP1
  have hK1 := va_K.moved hvm.symm hK1
  obtain ⟨hP, hD⟩ := va_join (wr := []) (w1 := [(h0, .inr (9, [.ref hV, .ref hB, wo, wp])), (hV, .inl (cJ, n, .inr (.inl vf))), (hB, .inl (cB, n, .inl bf))]) hP hD [0, 1, 2] [] rfl rfl (by decide) (by decide) hk1 hFc hP1 hD1
  have hK := (hK.sub (tys' := []) [] rfl).app hK1
  generalize H1 = H at hP hS ⊢
  have hP : va_P (dC, dI) vwCl [(h0, .inr (9, [.ref hV, .ref hB, wo, wp])), (hV, .inl (cJ, n, .inr (.inl vf))), (hB, .inl (cB, n, .inl bf))] H := hP
  have hD : va_D A [(h0, .inr (9, [.ref hV, .ref hB, wo, wp])), (hV, .inl (cJ, n, .inr (.inl vf))), (hB, .inl (cB, n, .inl bf))] := hD
  have hK : va_K (dC, dI) vwCl [(cB, .byte), (cI, .int), (cJ, .long), (cZ, .boolean)] s := hK
  have er_1 : r_1 = 1 := hw
  rw [er_1]
  refine lv_if_eq (tgt := 17) hx hb dX8_valueOf_5 (by decide) (fun c_2 => ?_) (fun c_2 => ?_)
  · skip
    exact absurd c_2 (by decide)
  · skip
    refine lv_aload_n hx hb dX8_valueOf_8 rfl (lv_at hl 0 rfl) ?_
    refine va_get (D := (dC, dI)) (ci := 9) (v := .ref hV) (C := RX8) (T := TX8) (N := 4) hx hb hts (fun w h => List.mem_cons_of_mem _ (uG_X8 w h)) hown hK hP 0 rfl rfl 0 (by decide) (hts _ (List.mem_cons_of_mem _ kw_349)) (fun _ h9 => h9) rfl dX8_valueOf_9 ?_
    refine lv_iload_n hx hb dX8_valueOf_12 rfl (lv_at hl 1 rfl) ?_
    refine va_lald hx hb hK hP 1 2 rfl rfl (i := (nI c1)) (vp_in_nI (n := c1) (N := n) (by omega) (by omega)) dX8_valueOf_13 ?_
    refine lv_topl (fun x_3 ex_3 => ?_)
    have ex_3 : x_3 = vf c1 := ex_3.trans (congrArg vf (nI_clamp (n := c1) (by omega)))
    subst ex_3
    refine lv_goto (tgt := 18) hx hb dX8_valueOf_14 (by decide) ?_
    have hP9 := hP.sub (ws' := [(h0, .inr (9, [.ref hV, .ref hB, wo, wp])), (hV, .inl (cJ, n, .inr (.inl vf))), (hB, .inl (cB, n, .inl bf))]) [0, 1, 2] rfl
    have hD9 := hD.sub (ws' := [(h0, .inr (9, [.ref hV, .ref hB, wo, wp])), (hV, .inl (cJ, n, .inr (.inl vf))), (hB, .inl (cB, n, .inl bf))]) [0, 1, 2] (by decide) rfl
    have hK9 := hK.sub (tys' := [(cB, .byte), (cI, .int), (cJ, .long), (cZ, .boolean)]) [0, 1, 2, 3] rfl
    exact W.lret (v := (vf c1)) hx hb hr (fun t_ ht hW => ⟨⟨(vf c1), (), rfl, rfl, by rw [ht]; exact hP9, va_K.moved hW.alike hK9, hD9⟩, hS.F ht⟩) hS.2.2 dX8_valueOf_18
theorem dX8_isBlank_0 : decode cX8_isBlank 0 = .ok (.aload_n 0, 1) := by decide +kernel
theorem dX8_isBlank_1 : decode cX8_isBlank 1 = .ok (.iload_n 1, 1) := by decide +kernel
theorem dX8_isBlank_2 : decode cX8_isBlank 2 = .ok (.invokevirtual 35, 3) := by decide +kernel
theorem dX8_isBlank_5 : decode cX8_isBlank 5 = .ok (.ifCond .eq 12, 3) := by decide +kernel
theorem dX8_isBlank_8 : decode cX8_isBlank 8 = .ok (.aload_n 0, 1) := by decide +kernel
theorem dX8_isBlank_9 : decode cX8_isBlank 9 = .ok (.getfield 15, 3) := by decide +kernel
theorem dX8_isBlank_12 : decode cX8_isBlank 12 = .ok (.iload_n 1, 1) := by decide +kernel
theorem dX8_isBlank_13 : decode cX8_isBlank 13 = .ok (.baload, 1) := by decide +kernel
theorem dX8_isBlank_14 : decode cX8_isBlank 14 = .ok (.ifCond .eq 7, 3) := by decide +kernel
theorem dX8_isBlank_17 : decode cX8_isBlank 17 = .ok (.iconst 1, 1) := by decide +kernel
theorem dX8_isBlank_18 : decode cX8_isBlank 18 = .ok (.goto 4, 3) := by decide +kernel
theorem dX8_isBlank_21 : decode cX8_isBlank 21 = .ok (.iconst 0, 1) := by decide +kernel
theorem dX8_isBlank_22 : decode cX8_isBlank 22 = .ok (.ireturn, 1) := by decide +kernel
abbrev cs_t_X8_isBlank (cB cI cJ cZ : ClassId) (h0 hV hB n : Nat) (vf : Nat → Int64) (bf : Nat → Int32) (wo wp : Value) (c1 : Nat) : va_W := [(h0, .inr (9, [.ref hV, .ref hB, wo, wp])), (hV, .inl (cJ, n, .inr (.inl vf))), (hB, .inl (cB, n, .inl bf))]
abbrev pc_t_X8_isBlank (dC : Nat → ClassId) (dI : Nat → Nat → Nat) (sz : Nat) (cB cI cJ cZ : ClassId) (h0 hV hB n : Nat) (vf : Nat → Int64) (bf : Nat → Int32) (wo wp : Value) (c1 : Nat) : Array Value → State → Prop := va_Pc [.ref h0, .int (nI c1)] (fun U => U.heap.size = sz ∧ va_P (dC, dI) vwCl [(h0, .inr (9, [.ref hV, .ref hB, wo, wp])), (hV, .inl (cJ, n, .inr (.inl vf))), (hB, .inl (cB, n, .inl bf))] U.heap ∧ va_K (dC, dI) vwCl [(cB, .byte), (cI, .int), (cJ, .long), (cZ, .boolean)] U ∧ va_D (fun _ => True) [(h0, .inr (9, [.ref hV, .ref hB, wo, wp])), (hV, .inl (cJ, n, .inr (.inl vf))), (hB, .inl (cB, n, .inl bf))])
abbrev qc_t_X8_isBlank (dC : Nat → ClassId) (dI : Nat → Nat → Nat) (cB cI cJ cZ : ClassId) (h0 hV hB n : Nat) (vf : Nat → Int64) (bf : Nat → Int32) (wo wp : Value) (c1 : Nat) (A : Nat → Prop) : Array Value → State → Outcome → State → Prop := va_Qi (fun (r : Int32) (u : Unit) => match u with | _ => r = hvI (bf c1)) (fun (u : Unit) t_ => match u with | _ => va_P (dC, dI) vwCl [(h0, .inr (9, [.ref hV, .ref hB, wo, wp])), (hV, .inl (cJ, n, .inr (.inl vf))), (hB, .inl (cB, n, .inl bf))] t_.heap ∧ va_K (dC, dI) vwCl [(cB, .byte), (cI, .int), (cJ, .long), (cZ, .boolean)] t_ ∧ va_D A [(h0, .inr (9, [.ref hV, .ref hB, wo, wp])), (hV, .inl (cJ, n, .inr (.inl vf))), (hB, .inl (cB, n, .inl bf))]) A
set_option maxHeartbeats 4000000 in
set_option maxRecDepth 100000 in
theorem t_X8_isBlank (l : Launch) (dC : Nat → ClassId) (dI : Nat → Nat → Nat) (sz : Nat) (cB cI cJ cZ : ClassId) (h0 hV hB n : Nat) (vf : Nat → Int64) (bf : Nat → Int32) (wo wp : Value) (c1 : Nat) (hn : n < 500000) (hc : c1 < n) : Met l yX8_isBlank (wsOf yX8_isBlank cX8_isBlank 2 (some .boolean)) ({ frames := 1, cells := 0, slots := 0, locals := 60 }) (pc_t_X8_isBlank dC dI sz cB cI cJ cZ h0 hV hB n vf bf wo wp c1) (qc_t_X8_isBlank dC dI cB cI cJ cZ h0 hV hB n vf bf wo wp c1 (va_A (cs_t_X8_isBlank cB cI cJ cZ h0 hV hB n vf bf wo wp c1) sz)) 0 0 (va_A (cs_t_X8_isBlank cB cI cJ cZ h0 hV hB n vf bf wo wp c1) sz) := by
  refine Met.ofW (cc := cX8_isBlank) (maxL := 2) (ret := (some .boolean)) (by decide) rfl ?_
  intro p e s m args below meth c s₁ B hml hv
  obtain ⟨rfl, hsz, hP, hK, hD0⟩ := hv
  have hx := B.exec
  have hb := B.bytes
  have hr := B.returns
  have hts := atoms_spec (ws := (wsOf yX8_isBlank cX8_isBlank 2 (some .boolean))) B.pre
  have hown : s.vm.findClass RX8 = some m.cls := findClass_of_methodNamed B.named
  have hlocks := B.notSynchronized
  subst hsz
  have hD := hD0.self (sz := s.heap.size)
  generalize hAe : va_A (cs_t_X8_isBlank cB cI cJ cZ h0 hV hB n vf bf wo wp c1) s.heap.size = A at hD ⊢
  have hA : ∀ q : Nat, s.heap.size ≤ q → A q := fun q h => by rw [← hAe]; exact Or.inr h
  have hS : va_S A s.heap s.heap [] := va_S.rf
  have hP : va_P (dC, dI) vwCl [(h0, .inr (9, [.ref hV, .ref hB, wo, wp])), (hV, .inl (cJ, n, .inr (.inl vf))), (hB, .inl (cB, n, .inl bf))] s.heap := hP
  have hl := lv_entry ([.ref h0, .int (nI c1)]) (n := 2) (Nat.le_of_ble_eq_true rfl)
  rw [lg_entry_eq]
  generalize (lg_sl ([.ref h0, .int (nI c1)]) ++ List.replicate (2 - (lg_sl ([.ref h0, .int (nI c1)])).length) Slot.unset).toArray = ls at hl ⊢
  have hl : lv_has ls 2 [(0, .ref h0), (1, .int (nI c1))] := hl
  refine lv_aload_n hx hb dX8_isBlank_0 rfl (lv_at hl 0 rfl) ?_
  refine lv_iload_n hx hb dX8_isBlank_1 rfl (lv_at hl 1 rfl) ?_
  have hPc := hP.sub (ws' := [(h0, .inr (9, [.ref hV, .ref hB, wo, wp])), (hV, .inl (cJ, n, .inr (.inl vf))), (hB, .inl (cB, n, .inl bf))]) [0, 1, 2] rfl
  have hDc := hD.sub (ws' := [(h0, .inr (9, [.ref hV, .ref hB, wo, wp])), (hV, .inl (cJ, n, .inr (.inl vf))), (hB, .inl (cB, n, .inl bf))]) [0, 1, 2] (by decide) rfl
  have hKc := hK.sub (tys' := [(cB, .byte), (cI, .int), (cJ, .long), (cZ, .boolean)]) [0, 1, 2, 3] rfl
  have hFc := va_free (wc := [(h0, .inr (9, [.ref hV, .ref hB, wo, wp])), (hV, .inl (cJ, n, .inr (.inl vf))), (hB, .inl (cB, n, .inl bf))]) hD hS hA [0, 1, 2] rfl
  refine va_calli (va_runV (As := [.int (nI c1)]) (rest := []) ⟨hx, hb, hml, hown, hts⟩ (t_X8_holds l dC dI s.heap.size cB cI cJ cZ h0 hV hB n vf bf wo wp c1 (by omega) (by omega)) (cwV 1 hts (gd_all (in_V kw_1360 kw_1362 kw_67 kw_188 kc_X8_holds)) rfl rfl rfl (by decide +kernel) ⟨Nat.le_of_ble_eq_true rfl, Nat.le_of_ble_eq_true rfl⟩) ⟨fun a U g mk q => by obtain ⟨q0, q1, qP, qK, qD⟩ := q; exact ⟨q0, q1, qP, va_K.moved (u := U) (U := U.calling g mk a) (Vm.Alike.refl U.vm) qK, qD⟩, va_recv hKc hPc (ci := 9) (q0 := 0) rfl rfl, fun U hU hW => ⟨rfl, by rw [hU], by rw [hU]; exact hPc, va_K.moved hW.alike hKc, hDc.weaken (fun _ _ _ _ => trivial)⟩⟩ rfl rfl hl.1 rfl (lv_room (Nat.le_of_ble_eq_true rfl)) dX8_isBlank_2 ⟨Nat.le_of_ble_eq_true rfl, Nat.le_of_ble_eq_true rfl⟩) hS (fun q _ h => hFc q h) hFc (fun r_1 u t_ H1 locs ht hvm hw hB hz1 hk1 hS => ?_)
  obtain ⟨hP1, hK1, hD1⟩ := hB
  rw [ht] at hP1
  have hK1 := va_K.moved hvm.symm hK1
  obtain ⟨hP, hD⟩ := va_join (wr := []) (w1 := [(h0, .inr (9, [.ref hV, .ref hB, wo, wp])), (hV, .inl (cJ, n, .inr (.inl vf))), (hB, .inl (cB, n, .inl bf))]) hP hD [0, 1, 2] [] rfl rfl (by decide) (by decide) hk1 hFc hP1 hD1
  have hK := (hK.sub (tys' := []) [] rfl).app hK1
  generalize H1 = H at hP hS ⊢
  have hP : va_P (dC, dI) vwCl [(h0, .inr (9, [.ref hV, .ref hB, wo, wp])), (hV, .inl (cJ, n, .inr (.inl vf))), (hB, .inl (cB, n, .inl bf))] H := hP
  have hD : va_D A [(h0, .inr (9, [.ref hV, .ref hB, wo, wp])), (hV, .inl (cJ, n, .inr (.inl vf))), (hB, .inl (cB, n, .inl bf))] := hD
  have hK : va_K (dC, dI) vwCl [(cB, .byte), (cI, .int), (cJ, .long), (cZ, .boolean)] s := hK
  have er_1 : r_1 = 1 := hw
  rw [er_1]
  refine lv_if_eq (tgt := 17) hx hb dX8_isBlank_5 (by decide) (fun c_2 => ?_) (fun c_2 => ?_)
  · skip
    exact absurd c_2 (by decide)
  · skip
    refine lv_aload_n hx hb dX8_isBlank_8 rfl (lv_at hl 0 rfl) ?_
    refine va_get (D := (dC, dI)) (ci := 9) (v := .ref hB) (C := RX8) (T := TX8) (N := 4) hx hb hts (fun w h => List.mem_cons_of_mem _ (uG_X8 w h)) hown hK hP 0 rfl rfl 1 (by decide) (hts _ (List.mem_cons_of_mem _ kw_350)) (fun _ h9 => h9) rfl dX8_isBlank_9 ?_
    refine lv_iload_n hx hb dX8_isBlank_12 rfl (lv_at hl 1 rfl) ?_
    refine va_bald hx hb hK hP 2 0 rfl rfl (i := (nI c1)) (vp_in_nI (n := c1) (N := n) (by omega) (by omega)) dX8_isBlank_13 ?_
    refine lv_topi (fun x_3 ex_3 => ?_)
    have ex_3 : x_3 = bf c1 := ex_3.trans (congrArg bf (nI_clamp (n := c1) (by omega)))
    subst ex_3
    refine lv_if_eq (tgt := 21) hx hb dX8_isBlank_14 (by decide) (fun c_4 => ?_) (fun c_4 => ?_)
    · skip
      refine lv_iconst (v := 0) hx hb dX8_isBlank_21 (by decide) ?_
      have hP9 := hP.sub (ws' := [(h0, .inr (9, [.ref hV, .ref hB, wo, wp])), (hV, .inl (cJ, n, .inr (.inl vf))), (hB, .inl (cB, n, .inl bf))]) [0, 1, 2] rfl
      have hD9 := hD.sub (ws' := [(h0, .inr (9, [.ref hV, .ref hB, wo, wp])), (hV, .inl (cJ, n, .inr (.inl vf))), (hB, .inl (cB, n, .inl bf))]) [0, 1, 2] (by decide) rfl
      have hK9 := hK.sub (tys' := [(cB, .byte), (cI, .int), (cJ, .long), (cZ, .boolean)]) [0, 1, 2, 3] rfl
      exact W.zret (v := 0) hx hb hr (by rfl) (fun t_ ht hW => ⟨⟨0, (), rfl, by unfold hvI; rw [if_pos c_4], by rw [ht]; exact hP9, va_K.moved hW.alike hK9, hD9⟩, hS.F ht⟩) hS.2.2 dX8_isBlank_22
    · skip
      refine lv_iconst (v := 1) hx hb dX8_isBlank_17 (by decide) ?_
      refine lv_goto (tgt := 22) hx hb dX8_isBlank_18 (by decide) ?_
      have hP9 := hP.sub (ws' := [(h0, .inr (9, [.ref hV, .ref hB, wo, wp])), (hV, .inl (cJ, n, .inr (.inl vf))), (hB, .inl (cB, n, .inl bf))]) [0, 1, 2] rfl
      have hD9 := hD.sub (ws' := [(h0, .inr (9, [.ref hV, .ref hB, wo, wp])), (hV, .inl (cJ, n, .inr (.inl vf))), (hB, .inl (cB, n, .inl bf))]) [0, 1, 2] (by decide) rfl
      have hK9 := hK.sub (tys' := [(cB, .byte), (cI, .int), (cJ, .long), (cZ, .boolean)]) [0, 1, 2, 3] rfl
      exact W.zret (v := 1) hx hb hr (by rfl) (fun t_ ht hW => ⟨⟨1, (), rfl, by unfold hvI; rw [if_neg c_4], by rw [ht]; exact hP9, va_K.moved hW.alike hK9, hD9⟩, hS.F ht⟩) hS.2.2 dX8_isBlank_22

/-! names alike; a column by its name -/
def fdF (nn : Nat → Int64) (v : Int64) : Nat → Nat → Int32
  | 0, _ => -1
  | n + 1, i => if nn i = v then nI i else fdF nn v n (i + 1)
theorem fdF_n {nn : Nat → Int64} {v : Int64} {w i : Nat} (hi : i < w) (h : ¬ nn i = v) : fdF nn v (w - i) i = fdF nn v (w - (i + 1)) (i + 1) := by
  rw [show w - i = (w - (i + 1)) + 1 by omega]
  exact if_neg h
theorem fdF_y {nn : Nat → Int64} {v : Int64} {w i : Nat} (hi : i < w) (h : nn i = v) : fdF nn v (w - i) i = nI i := by
  rw [show w - i = (w - (i + 1)) + 1 by omega]
  exact if_pos h
def stF (g g2 : Nat → Int32) : Nat → Nat → Int32
  | 0, _ => 1
  | n + 1, i => if g i = g2 i then stF g g2 n (i + 1) else 0
theorem stF_y {g g2 : Nat → Int32} {w i : Nat} (hi : i < w) (h : g i = g2 i) : stF g g2 (w - i) i = stF g g2 (w - (i + 1)) (i + 1) := by
  rw [show w - i = (w - (i + 1)) + 1 by omega]
  exact if_pos h
theorem stF_n {g g2 : Nat → Int32} {w i : Nat} (hi : i < w) (h : ¬ g i = g2 i) : stF g g2 (w - i) i = 0 := by
  rw [show w - i = (w - (i + 1)) + 1 by omega]
  exact if_neg h
def tyS (x : Int32) : Int32 := if x = 2 then 2 else 1
theorem dX12_isSame_0 : decode cX12_isSame 0 = .ok (.aload_n 0, 1) := by decide +kernel
theorem dX12_isSame_1 : decode cX12_isSame 1 = .ok (.getfield 46, 3) := by decide +kernel
theorem dX12_isSame_4 : decode cX12_isSame 4 = .ok (.iload_n 1, 1) := by decide +kernel
theorem dX12_isSame_5 : decode cX12_isSame 5 = .ok (.iaload, 1) := by decide +kernel
theorem dX12_isSame_6 : decode cX12_isSame 6 = .ok (.aload_n 0, 1) := by decide +kernel
theorem dX12_isSame_7 : decode cX12_isSame 7 = .ok (.getfield 46, 3) := by decide +kernel
theorem dX12_isSame_10 : decode cX12_isSame 10 = .ok (.iload_n 2, 1) := by decide +kernel
theorem dX12_isSame_11 : decode cX12_isSame 11 = .ok (.iaload, 1) := by decide +kernel
theorem dX12_isSame_12 : decode cX12_isSame 12 = .ok (.if_icmp .eq 5, 3) := by decide +kernel
theorem dX12_isSame_15 : decode cX12_isSame 15 = .ok (.iconst 0, 1) := by decide +kernel
theorem dX12_isSame_16 : decode cX12_isSame 16 = .ok (.ireturn, 1) := by decide +kernel
theorem dX12_isSame_17 : decode cX12_isSame 17 = .ok (.iconst 0, 1) := by decide +kernel
theorem dX12_isSame_18 : decode cX12_isSame 18 = .ok (.istore_n 3, 1) := by decide +kernel
theorem dX12_isSame_19 : decode cX12_isSame 19 = .ok (.iload_n 3, 1) := by decide +kernel
theorem dX12_isSame_20 : decode cX12_isSame 20 = .ok (.aload_n 0, 1) := by decide +kernel
theorem dX12_isSame_21 : decode cX12_isSame 21 = .ok (.getfield 46, 3) := by decide +kernel
theorem dX12_isSame_24 : decode cX12_isSame 24 = .ok (.iload_n 1, 1) := by decide +kernel
theorem dX12_isSame_25 : decode cX12_isSame 25 = .ok (.iaload, 1) := by decide +kernel
theorem dX12_isSame_26 : decode cX12_isSame 26 = .ok (.if_icmp .ge 40, 3) := by decide +kernel
theorem dX12_isSame_29 : decode cX12_isSame 29 = .ok (.aload_n 0, 1) := by decide +kernel
theorem dX12_isSame_30 : decode cX12_isSame 30 = .ok (.getfield 13, 3) := by decide +kernel
theorem dX12_isSame_33 : decode cX12_isSame 33 = .ok (.aload_n 0, 1) := by decide +kernel
theorem dX12_isSame_34 : decode cX12_isSame 34 = .ok (.getfield 43, 3) := by decide +kernel
theorem dX12_isSame_37 : decode cX12_isSame 37 = .ok (.iload_n 1, 1) := by decide +kernel
theorem dX12_isSame_38 : decode cX12_isSame 38 = .ok (.iaload, 1) := by decide +kernel
theorem dX12_isSame_39 : decode cX12_isSame 39 = .ok (.iload_n 3, 1) := by decide +kernel
theorem dX12_isSame_40 : decode cX12_isSame 40 = .ok (.iadd, 1) := by decide +kernel
theorem dX12_isSame_41 : decode cX12_isSame 41 = .ok (.baload, 1) := by decide +kernel
theorem dX12_isSame_42 : decode cX12_isSame 42 = .ok (.aload_n 0, 1) := by decide +kernel
theorem dX12_isSame_43 : decode cX12_isSame 43 = .ok (.getfield 13, 3) := by decide +kernel
theorem dX12_isSame_46 : decode cX12_isSame 46 = .ok (.aload_n 0, 1) := by decide +kernel
theorem dX12_isSame_47 : decode cX12_isSame 47 = .ok (.getfield 43, 3) := by decide +kernel
theorem dX12_isSame_50 : decode cX12_isSame 50 = .ok (.iload_n 2, 1) := by decide +kernel
theorem dX12_isSame_51 : decode cX12_isSame 51 = .ok (.iaload, 1) := by decide +kernel
theorem dX12_isSame_52 : decode cX12_isSame 52 = .ok (.iload_n 3, 1) := by decide +kernel
theorem dX12_isSame_53 : decode cX12_isSame 53 = .ok (.iadd, 1) := by decide +kernel
theorem dX12_isSame_54 : decode cX12_isSame 54 = .ok (.baload, 1) := by decide +kernel
theorem dX12_isSame_55 : decode cX12_isSame 55 = .ok (.if_icmp .eq 5, 3) := by decide +kernel
theorem dX12_isSame_58 : decode cX12_isSame 58 = .ok (.iconst 0, 1) := by decide +kernel
theorem dX12_isSame_59 : decode cX12_isSame 59 = .ok (.ireturn, 1) := by decide +kernel
theorem dX12_isSame_60 : decode cX12_isSame 60 = .ok (.iinc 3 1, 3) := by decide +kernel
theorem dX12_isSame_63 : decode cX12_isSame 63 = .ok (.goto (-44), 3) := by decide +kernel
theorem dX12_isSame_66 : decode cX12_isSame 66 = .ok (.iconst 1, 1) := by decide +kernel
theorem dX12_isSame_67 : decode cX12_isSame 67 = .ok (.ireturn, 1) := by decide +kernel
abbrev cs_t_X12_isSame_y (cB cI cJ cZ : ClassId) (h0 : Nat) (a : Nat → Nat) (f : Nat → Int32) (w : Int64) (g pf lf : Nat → Int32) (t1 u1 l1 l2 p1 p2 : Nat) : va_W := [(h0, .inr (13, moF a f w)), (a 2, .inl (cB, 2000, .inl g)), (a 15, .inl (cI, 2001, .inl pf)), (a 16, .inl (cI, 2001, .inl lf))]
abbrev pc_t_X12_isSame_y (dC : Nat → ClassId) (dI : Nat → Nat → Nat) (sz : Nat) (cB cI cJ cZ : ClassId) (h0 : Nat) (a : Nat → Nat) (f : Nat → Int32) (w : Int64) (g pf lf : Nat → Int32) (t1 u1 l1 l2 p1 p2 : Nat) : Array Value → State → Prop := va_Pc [.ref h0, .int (nI t1), .int (nI u1)] (fun U => U.heap.size = sz ∧ va_P (dC, dI) vwCl [(h0, .inr (13, moF a f w)), (a 2, .inl (cB, 2000, .inl g)), (a 15, .inl (cI, 2001, .inl pf)), (a 16, .inl (cI, 2001, .inl lf))] U.heap ∧ va_K (dC, dI) vwCl [(cB, .byte), (cI, .int), (cJ, .long), (cZ, .boolean)] U ∧ va_D (fun _ => True) [(h0, .inr (13, moF a f w)), (a 2, .inl (cB, 2000, .inl g)), (a 15, .inl (cI, 2001, .inl pf)), (a 16, .inl (cI, 2001, .inl lf))])
abbrev qc_t_X12_isSame_y (dC : Nat → ClassId) (dI : Nat → Nat → Nat) (cB cI cJ cZ : ClassId) (h0 : Nat) (a : Nat → Nat) (f : Nat → Int32) (w : Int64) (g pf lf : Nat → Int32) (t1 u1 l1 l2 p1 p2 : Nat) (A : Nat → Prop) : Array Value → State → Outcome → State → Prop := va_Qi (fun (r : Int32) (u : Unit) => match u with | _ => r = smF g p1 p2 l1 0) (fun (u : Unit) t_ => match u with | _ => va_P (dC, dI) vwCl [(h0, .inr (13, moF a f w)), (a 2, .inl (cB, 2000, .inl g)), (a 15, .inl (cI, 2001, .inl pf)), (a 16, .inl (cI, 2001, .inl lf))] t_.heap ∧ va_K (dC, dI) vwCl [(cB, .byte), (cI, .int), (cJ, .long), (cZ, .boolean)] t_ ∧ va_D A [(h0, .inr (13, moF a f w)), (a 2, .inl (cB, 2000, .inl g)), (a 15, .inl (cI, 2001, .inl pf)), (a 16, .inl (cI, 2001, .inl lf))]) A
set_option maxHeartbeats 4000000 in
set_option maxRecDepth 100000 in
theorem t_X12_isSame_y (l : Launch) (dC : Nat → ClassId) (dI : Nat → Nat → Nat) (sz : Nat) (cB cI cJ cZ : ClassId) (h0 : Nat) (a : Nat → Nat) (f : Nat → Int32) (w : Int64) (g pf lf : Nat → Int32) (t1 u1 l1 l2 p1 p2 : Nat) (ht1 : t1 < 2001) (hu1 : u1 < 2001) (h1 : lf t1 = nI l1) (h2 : lf u1 = nI l2) (h3 : pf t1 = nI p1) (h4 : pf u1 = nI p2) (b1 : p1 + l1 ≤ 2000) (b2 : p2 + l2 ≤ 2000) (hl12 : l1 = l2) : Met l yX12_isSame (wsOf yX12_isSame cX12_isSame 4 (some .boolean)) ({ frames := 0, cells := 0, slots := 0, locals := 0 }) (pc_t_X12_isSame_y dC dI sz cB cI cJ cZ h0 a f w g pf lf t1 u1 l1 l2 p1 p2) (qc_t_X12_isSame_y dC dI cB cI cJ cZ h0 a f w g pf lf t1 u1 l1 l2 p1 p2 (va_A (cs_t_X12_isSame_y cB cI cJ cZ h0 a f w g pf lf t1 u1 l1 l2 p1 p2) sz)) 0 0 (va_A (cs_t_X12_isSame_y cB cI cJ cZ h0 a f w g pf lf t1 u1 l1 l2 p1 p2) sz) := by
  refine Met.ofW (cc := cX12_isSame) (maxL := 4) (ret := (some .boolean)) (by decide) rfl ?_
  intro p e s m args below meth c s₁ B hml hv
  obtain ⟨rfl, hsz, hP, hK, hD0⟩ := hv
  have hx := B.exec
  have hb := B.bytes
  have hr := B.returns
  have hts := atoms_spec (ws := (wsOf yX12_isSame cX12_isSame 4 (some .boolean))) B.pre
  have hown : s.vm.findClass RX12 = some m.cls := findClass_of_methodNamed B.named
  have hlocks := B.notSynchronized
  subst hsz
  have hD := hD0.self (sz := s.heap.size)
  generalize hAe : va_A (cs_t_X12_isSame_y cB cI cJ cZ h0 a f w g pf lf t1 u1 l1 l2 p1 p2) s.heap.size = A at hD ⊢
  have hA : ∀ q : Nat, s.heap.size ≤ q → A q := fun q h => by rw [← hAe]; exact Or.inr h
  have hS : va_S A s.heap s.heap [] := va_S.rf
  have hP : va_P (dC, dI) vwCl [(h0, .inr (13, moF a f w)), (a 2, .inl (cB, 2000, .inl g)), (a 15, .inl (cI, 2001, .inl pf)), (a 16, .inl (cI, 2001, .inl lf))] s.heap := hP
  have hl := lv_entry ([.ref h0, .int (nI t1), .int (nI u1)]) (n := 4) (Nat.le_of_ble_eq_true rfl)
  rw [lg_entry_eq]
  generalize (lg_sl ([.ref h0, .int (nI t1), .int (nI u1)]) ++ List.replicate (4 - (lg_sl ([.ref h0, .int (nI t1), .int (nI u1)])).length) Slot.unset).toArray = ls at hl ⊢
  have hl : lv_has ls 4 [(0, .ref h0), (1, .int (nI t1)), (2, .int (nI u1))] := hl
  refine lv_aload_n hx hb dX12_isSame_0 rfl (lv_at hl 0 rfl) ?_
  refine va_get (D := (dC, dI)) (ci := 13) (v := .ref (a 16)) (C := RX12) (T := TX12) (N := 115) hx hb hts (fun w h => List.mem_cons_of_mem _ (uG_X12 w h)) hown hK hP 0 rfl rfl 16 (by decide) (hts _ (List.mem_cons_of_mem _ kw_1707)) (fun _ h9 => h9) rfl dX12_isSame_1 ?_
  refine lv_iload_n hx hb dX12_isSame_4 rfl (lv_at hl 1 rfl) ?_
  refine va_iald hx hb hK hP 3 1 rfl rfl (i := (nI t1)) (vp_in_nI (n := t1) (N := 2001) (by omega) (by omega)) dX12_isSame_5 ?_
  refine lv_topi (fun x_1 ex_1 => ?_)
  have ex_1 : x_1 = lf t1 := ex_1.trans (congrArg lf (nI_clamp (n := t1) (by omega)))
  have ex_1 : x_1 = nI l1 := ex_1.trans h1
  subst ex_1
  refine lv_aload_n hx hb dX12_isSame_6 rfl (lv_at hl 0 rfl) ?_
  refine va_get (D := (dC, dI)) (ci := 13) (v := .ref (a 16)) (C := RX12) (T := TX12) (N := 115) hx hb hts (fun w h => List.mem_cons_of_mem _ (uG_X12 w h)) hown hK hP 0 rfl rfl 16 (by decide) (hts _ (List.mem_cons_of_mem _ kw_1707)) (fun _ h9 => h9) rfl dX12_isSame_7 ?_
  refine lv_iload_n hx hb dX12_isSame_10 rfl (lv_at hl 2 rfl) ?_
  refine va_iald hx hb hK hP 3 1 rfl rfl (i := (nI u1)) (vp_in_nI (n := u1) (N := 2001) (by omega) (by omega)) dX12_isSame_11 ?_
  refine lv_topi (fun x_2 ex_2 => ?_)
  have ex_2 : x_2 = lf u1 := ex_2.trans (congrArg lf (nI_clamp (n := u1) (by omega)))
  have ex_2 : x_2 = nI l2 := ex_2.trans h2
  subst ex_2
  refine lv_icmp_eq (tgt := 17) hx hb dX12_isSame_12 (by decide) (fun c_3 => ?_) (fun c_3 => ?_)
  · skip
    have c_3 : l1 = l2 := (nI_eq (a := l1) (b := l2) (by omega) (by omega)).mp c_3
    refine lv_iconst (v := 0) hx hb dX12_isSame_17 (by decide) ?_
    refine lv_istore_n (lv' := [(3, .int 0), (0, .ref h0), (1, .int (nI t1)), (2, .int (nI u1))]) hx hb dX12_isSame_18 rfl hl (by decide) rfl (fun ls hl => ?_)
    have lp_19 : ∀ (n_ : Nat) (i : Nat), i ≤ l1 → smF g p1 p2 l1 0 = smF g p1 p2 (l1 - i) i → l1 - i < n_ → ∀ (H : Heap) (locs : List Loc) (ls : Array Slot), va_P (dC, dI) vwCl [(h0, .inr (13, moF a f w)), (a 2, .inl (cB, 2000, .inl g)), (a 15, .inl (cI, 2001, .inl pf)), (a 16, .inl (cI, 2001, .inl lf))] H → va_D A [(h0, .inr (13, moF a f w)), (a 2, .inl (cB, 2000, .inl g)), (a 15, .inl (cI, 2001, .inl pf)), (a 16, .inl (cI, 2001, .inl lf))] → va_S A s.heap H locs → lv_has ls 4 [(3, .int (nI i)), (0, .ref h0), (1, .int (nI t1)), (2, .int (nI u1))] → W p l e (headSpec (wsOf yX12_isSame cX12_isSame 4 (some .boolean)) ({ frames := 0, cells := 0, slots := 0, locals := 0 })).room s m ([.ref h0, .int (nI t1), .int (nI u1)] : List Value).toArray below meth c H locs 0 0 (MQ below (qc_t_X12_isSame_y dC dI cB cI cJ cZ h0 a f w g pf lf t1 u1 l1 l2 p1 p2 A) ([.ref h0, .int (nI t1), .int (nI u1)] : List Value).toArray s 0 0 A) (F0 m 19 ls []) := by
      intro n_
      induction n_ with
      | zero => intro i hi hin hm; exact absurd hm (Nat.not_lt_zero _)
      | succ n_ ih_19 =>
        intro i hi hin hm H locs ls hP hD hS hl
        refine lv_iload_n hx hb dX12_isSame_19 rfl (lv_at hl 0 rfl) ?_
        refine lv_aload_n hx hb dX12_isSame_20 rfl (lv_at hl 1 rfl) ?_
        refine va_get (D := (dC, dI)) (ci := 13) (v := .ref (a 16)) (C := RX12) (T := TX12) (N := 115) hx hb hts (fun w h => List.mem_cons_of_mem _ (uG_X12 w h)) hown hK hP 0 rfl rfl 16 (by decide) (hts _ (List.mem_cons_of_mem _ kw_1707)) (fun _ h9 => h9) rfl dX12_isSame_21 ?_
        refine lv_iload_n hx hb dX12_isSame_24 rfl (lv_at hl 2 rfl) ?_
        refine va_iald hx hb hK hP 3 1 rfl rfl (i := (nI t1)) (vp_in_nI (n := t1) (N := 2001) (by omega) (by omega)) dX12_isSame_25 ?_
        refine lv_topi (fun x_4 ex_4 => ?_)
        have ex_4 : x_4 = lf t1 := ex_4.trans (congrArg lf (nI_clamp (n := t1) (by omega)))
        have ex_4 : x_4 = nI l1 := ex_4.trans h1
        subst ex_4
        refine lv_icmp_ge (tgt := 66) hx hb dX12_isSame_26 (by decide) (fun c_5 => ?_) (fun c_5 => ?_)
        · skip
          have c_5 : l1 ≤ i := (nI_leI (a := l1) (b := i) (by omega) (by omega)).mp c_5
          refine lv_iconst (v := 1) hx hb dX12_isSame_66 (by decide) ?_
          have hP9 := hP.sub (ws' := [(h0, .inr (13, moF a f w)), (a 2, .inl (cB, 2000, .inl g)), (a 15, .inl (cI, 2001, .inl pf)), (a 16, .inl (cI, 2001, .inl lf))]) [0, 1, 2, 3] rfl
          have hD9 := hD.sub (ws' := [(h0, .inr (13, moF a f w)), (a 2, .inl (cB, 2000, .inl g)), (a 15, .inl (cI, 2001, .inl pf)), (a 16, .inl (cI, 2001, .inl lf))]) [0, 1, 2, 3] (by decide) rfl
          have hK9 := hK.sub (tys' := [(cB, .byte), (cI, .int), (cJ, .long), (cZ, .boolean)]) [0, 1, 2, 3] rfl
          exact W.zret (v := 1) hx hb hr (by rfl) (fun t_ ht hW => ⟨⟨1, (), rfl, (by rw [hin, show l1 - i = 0 by omega]; rfl), by rw [ht]; exact hP9, va_K.moved hW.alike hK9, hD9⟩, hS.F ht⟩) hS.2.2 dX12_isSame_67
        · skip
          have c_5 : ¬ (l1 ≤ i) := fun h => c_5 ((nI_leI (a := l1) (b := i) (by omega) (by omega)).mpr h)
          refine lv_aload_n hx hb dX12_isSame_29 rfl (lv_at hl 1 rfl) ?_
          refine va_get (D := (dC, dI)) (ci := 13) (v := .ref (a 2)) (C := RX12) (T := TX12) (N := 115) hx hb hts (fun w h => List.mem_cons_of_mem _ (uG_X12 w h)) hown hK hP 0 rfl rfl 2 (by decide) (hts _ (List.mem_cons_of_mem _ kw_1693)) (fun _ h9 => h9) rfl dX12_isSame_30 ?_
          refine lv_aload_n hx hb dX12_isSame_33 rfl (lv_at hl 1 rfl) ?_
          refine va_get (D := (dC, dI)) (ci := 13) (v := .ref (a 15)) (C := RX12) (T := TX12) (N := 115) hx hb hts (fun w h => List.mem_cons_of_mem _ (uG_X12 w h)) hown hK hP 0 rfl rfl 15 (by decide) (hts _ (List.mem_cons_of_mem _ kw_1706)) (fun _ h9 => h9) rfl dX12_isSame_34 ?_
          refine lv_iload_n hx hb dX12_isSame_37 rfl (lv_at hl 2 rfl) ?_
          refine va_iald hx hb hK hP 2 1 rfl rfl (i := (nI t1)) (vp_in_nI (n := t1) (N := 2001) (by omega) (by omega)) dX12_isSame_38 ?_
          refine lv_topi (fun x_6 ex_6 => ?_)
          have ex_6 : x_6 = pf t1 := ex_6.trans (congrArg pf (nI_clamp (n := t1) (by omega)))
          have ex_6 : x_6 = nI p1 := ex_6.trans h3
          subst ex_6
          refine lv_iload_n hx hb dX12_isSame_39 rfl (lv_at hl 0 rfl) ?_
          refine lv_iadd hx hb dX12_isSame_40 ?_
          refine lv_topi (fun x_7 ex_7 => ?_)
          have ex_7 : x_7 = nI (p1 + i) := ex_7.trans (nI_add p1 i)
          subst ex_7
          refine va_bald hx hb hK hP 1 0 rfl rfl (i := (nI (p1 + i))) (vp_in_nI (n := p1 + i) (N := 2000) (by omega) (by omega)) dX12_isSame_41 ?_
          refine lv_topi (fun x_8 ex_8 => ?_)
          have ex_8 : x_8 = g (p1 + i) := ex_8.trans (congrArg g (nI_clamp (n := p1 + i) (by omega)))
          subst ex_8
          refine lv_aload_n hx hb dX12_isSame_42 rfl (lv_at hl 1 rfl) ?_
          refine va_get (D := (dC, dI)) (ci := 13) (v := .ref (a 2)) (C := RX12) (T := TX12) (N := 115) hx hb hts (fun w h => List.mem_cons_of_mem _ (uG_X12 w h)) hown hK hP 0 rfl rfl 2 (by decide) (hts _ (List.mem_cons_of_mem _ kw_1693)) (fun _ h9 => h9) rfl dX12_isSame_43 ?_
          refine lv_aload_n hx hb dX12_isSame_46 rfl (lv_at hl 1 rfl) ?_
          refine va_get (D := (dC, dI)) (ci := 13) (v := .ref (a 15)) (C := RX12) (T := TX12) (N := 115) hx hb hts (fun w h => List.mem_cons_of_mem _ (uG_X12 w h)) hown hK hP 0 rfl rfl 15 (by decide) (hts _ (List.mem_cons_of_mem _ kw_1706)) (fun _ h9 => h9) rfl dX12_isSame_47 ?_
          refine lv_iload_n hx hb dX12_isSame_50 rfl (lv_at hl 3 rfl) ?_
          refine va_iald hx hb hK hP 2 1 rfl rfl (i := (nI u1)) (vp_in_nI (n := u1) (N := 2001) (by omega) (by omega)) dX12_isSame_51 ?_
          refine lv_topi (fun x_9 ex_9 => ?_)
          have ex_9 : x_9 = pf u1 := ex_9.trans (congrArg pf (nI_clamp (n := u1) (by omega)))
          have ex_9 : x_9 = nI p2 := ex_9.trans h4
          subst ex_9
          refine lv_iload_n hx hb dX12_isSame_52 rfl (lv_at hl 0 rfl) ?_
          refine lv_iadd hx hb dX12_isSame_53 ?_
          refine lv_topi (fun x_10 ex_10 => ?_)
          have ex_10 : x_10 = nI (p2 + i) := ex_10.trans (nI_add p2 i)
          subst ex_10
          refine va_bald hx hb hK hP 1 0 rfl rfl (i := (nI (p2 + i))) (vp_in_nI (n := p2 + i) (N := 2000) (by omega) (by omega)) dX12_isSame_54 ?_
          refine lv_topi (fun x_11 ex_11 => ?_)
          have ex_11 : x_11 = g (p2 + i) := ex_11.trans (congrArg g (nI_clamp (n := p2 + i) (by omega)))
          subst ex_11
          refine lv_icmp_eq (tgt := 60) hx hb dX12_isSame_55 (by decide) (fun c_12 => ?_) (fun c_12 => ?_)
          · skip
            refine lv_iinc (v := nI (i + 1)) (lv' := [(3, .int (nI (i + 1))), (0, .ref h0), (1, .int (nI t1)), (2, .int (nI u1))]) hx hb dX12_isSame_60 hl (k := 0) rfl (nI_add i 1) (by decide) rfl (fun ls hl => ?_)
            refine lv_goto (tgt := 19) hx hb dX12_isSame_63 (by decide) ?_
            exact ih_19 (i + 1) (by omega) (hin.trans (smF_y (by omega) c_12)) (by omega) _ _ _ (hP.sub [0, 1, 2, 3] rfl) (hD.sub [0, 1, 2, 3] (by decide) rfl) hS (lv_sub hl [0, 1, 2, 3] rfl)
          · skip
            refine lv_iconst (v := 0) hx hb dX12_isSame_58 (by decide) ?_
            have hP9 := hP.sub (ws' := [(h0, .inr (13, moF a f w)), (a 2, .inl (cB, 2000, .inl g)), (a 15, .inl (cI, 2001, .inl pf)), (a 16, .inl (cI, 2001, .inl lf))]) [0, 1, 2, 3] rfl
            have hD9 := hD.sub (ws' := [(h0, .inr (13, moF a f w)), (a 2, .inl (cB, 2000, .inl g)), (a 15, .inl (cI, 2001, .inl pf)), (a 16, .inl (cI, 2001, .inl lf))]) [0, 1, 2, 3] (by decide) rfl
            have hK9 := hK.sub (tys' := [(cB, .byte), (cI, .int), (cJ, .long), (cZ, .boolean)]) [0, 1, 2, 3] rfl
            exact W.zret (v := 0) hx hb hr (by rfl) (fun t_ ht hW => ⟨⟨0, (), rfl, (hin.trans (smF_n (by omega) c_12)).symm, by rw [ht]; exact hP9, va_K.moved hW.alike hK9, hD9⟩, hS.F ht⟩) hS.2.2 dX12_isSame_59
    exact lp_19 _ 0 (Nat.zero_le _) rfl (Nat.lt_succ_self _) _ _ _ (hP.sub [0, 1, 2, 3] rfl) (hD.sub [0, 1, 2, 3] (by decide) rfl) hS (lv_sub hl [0, 1, 2, 3] rfl)
  · skip
    have c_3 : ¬ (l1 = l2) := fun h => c_3 ((nI_eq (a := l1) (b := l2) (by omega) (by omega)).mpr h)
    exact absurd hl12 c_3
abbrev cs_t_X12_isSame_n (cB cI cJ cZ : ClassId) (h0 : Nat) (a : Nat → Nat) (f : Nat → Int32) (w : Int64) (g pf lf : Nat → Int32) (t1 u1 l1 l2 p1 p2 : Nat) : va_W := [(h0, .inr (13, moF a f w)), (a 2, .inl (cB, 2000, .inl g)), (a 15, .inl (cI, 2001, .inl pf)), (a 16, .inl (cI, 2001, .inl lf))]
abbrev pc_t_X12_isSame_n (dC : Nat → ClassId) (dI : Nat → Nat → Nat) (sz : Nat) (cB cI cJ cZ : ClassId) (h0 : Nat) (a : Nat → Nat) (f : Nat → Int32) (w : Int64) (g pf lf : Nat → Int32) (t1 u1 l1 l2 p1 p2 : Nat) : Array Value → State → Prop := va_Pc [.ref h0, .int (nI t1), .int (nI u1)] (fun U => U.heap.size = sz ∧ va_P (dC, dI) vwCl [(h0, .inr (13, moF a f w)), (a 2, .inl (cB, 2000, .inl g)), (a 15, .inl (cI, 2001, .inl pf)), (a 16, .inl (cI, 2001, .inl lf))] U.heap ∧ va_K (dC, dI) vwCl [(cB, .byte), (cI, .int), (cJ, .long), (cZ, .boolean)] U ∧ va_D (fun _ => True) [(h0, .inr (13, moF a f w)), (a 2, .inl (cB, 2000, .inl g)), (a 15, .inl (cI, 2001, .inl pf)), (a 16, .inl (cI, 2001, .inl lf))])
abbrev qc_t_X12_isSame_n (dC : Nat → ClassId) (dI : Nat → Nat → Nat) (cB cI cJ cZ : ClassId) (h0 : Nat) (a : Nat → Nat) (f : Nat → Int32) (w : Int64) (g pf lf : Nat → Int32) (t1 u1 l1 l2 p1 p2 : Nat) (A : Nat → Prop) : Array Value → State → Outcome → State → Prop := va_Qi (fun (r : Int32) (u : Unit) => match u with | _ => r = 0) (fun (u : Unit) t_ => match u with | _ => va_P (dC, dI) vwCl [(h0, .inr (13, moF a f w)), (a 2, .inl (cB, 2000, .inl g)), (a 15, .inl (cI, 2001, .inl pf)), (a 16, .inl (cI, 2001, .inl lf))] t_.heap ∧ va_K (dC, dI) vwCl [(cB, .byte), (cI, .int), (cJ, .long), (cZ, .boolean)] t_ ∧ va_D A [(h0, .inr (13, moF a f w)), (a 2, .inl (cB, 2000, .inl g)), (a 15, .inl (cI, 2001, .inl pf)), (a 16, .inl (cI, 2001, .inl lf))]) A
set_option maxHeartbeats 4000000 in
set_option maxRecDepth 100000 in
theorem t_X12_isSame_n (l : Launch) (dC : Nat → ClassId) (dI : Nat → Nat → Nat) (sz : Nat) (cB cI cJ cZ : ClassId) (h0 : Nat) (a : Nat → Nat) (f : Nat → Int32) (w : Int64) (g pf lf : Nat → Int32) (t1 u1 l1 l2 p1 p2 : Nat) (ht1 : t1 < 2001) (hu1 : u1 < 2001) (h1 : lf t1 = nI l1) (h2 : lf u1 = nI l2) (h3 : pf t1 = nI p1) (h4 : pf u1 = nI p2) (b1 : p1 + l1 ≤ 2000) (b2 : p2 + l2 ≤ 2000) (hl12 : ¬ l1 = l2) : Met l yX12_isSame (wsOf yX12_isSame cX12_isSame 4 (some .boolean)) ({ frames := 0, cells := 0, slots := 0, locals := 0 }) (pc_t_X12_isSame_n dC dI sz cB cI cJ cZ h0 a f w g pf lf t1 u1 l1 l2 p1 p2) (qc_t_X12_isSame_n dC dI cB cI cJ cZ h0 a f w g pf lf t1 u1 l1 l2 p1 p2 (va_A (cs_t_X12_isSame_n cB cI cJ cZ h0 a f w g pf lf t1 u1 l1 l2 p1 p2) sz)) 0 0 (va_A (cs_t_X12_isSame_n cB cI cJ cZ h0 a f w g pf lf t1 u1 l1 l2 p1 p2) sz) := by
  refine Met.ofW (cc := cX12_isSame) (maxL := 4) (ret := (some .boolean)) (by decide) rfl ?_
  intro p e s m args below meth c s₁ B hml hv
  obtain ⟨rfl, hsz, hP, hK, hD0⟩ := hv
  have hx := B.exec
  have hb := B.bytes
  have hr := B.returns
  have hts := atoms_spec (ws := (wsOf yX12_isSame cX12_isSame 4 (some .boolean))) B.pre
  have hown : s.vm.findClass RX12 = some m.cls := findClass_of_methodNamed B.named
  have hlocks := B.notSynchronized
  subst hsz
  have hD := hD0.self (sz := s.heap.size)
  generalize hAe : va_A (cs_t_X12_isSame_n cB cI cJ cZ h0 a f w g pf lf t1 u1 l1 l2 p1 p2) s.heap.size = A at hD ⊢
  have hA : ∀ q : Nat, s.heap.size ≤ q → A q := fun q h => by rw [← hAe]; exact Or.inr h
  have hS : va_S A s.heap s.heap [] := va_S.rf
  have hP : va_P (dC, dI) vwCl [(h0, .inr (13, moF a f w)), (a 2, .inl (cB, 2000, .inl g)), (a 15, .inl (cI, 2001, .inl pf)), (a 16, .inl (cI, 2001, .inl lf))] s.heap := hP
  have hl := lv_entry ([.ref h0, .int (nI t1), .int (nI u1)]) (n := 4) (Nat.le_of_ble_eq_true rfl)
  rw [lg_entry_eq]
  generalize (lg_sl ([.ref h0, .int (nI t1), .int (nI u1)]) ++ List.replicate (4 - (lg_sl ([.ref h0, .int (nI t1), .int (nI u1)])).length) Slot.unset).toArray = ls at hl ⊢
  have hl : lv_has ls 4 [(0, .ref h0), (1, .int (nI t1)), (2, .int (nI u1))] := hl
  refine lv_aload_n hx hb dX12_isSame_0 rfl (lv_at hl 0 rfl) ?_
  refine va_get (D := (dC, dI)) (ci := 13) (v := .ref (a 16)) (C := RX12) (T := TX12) (N := 115) hx hb hts (fun w h => List.mem_cons_of_mem _ (uG_X12 w h)) hown hK hP 0 rfl rfl 16 (by decide) (hts _ (List.mem_cons_of_mem _ kw_1707)) (fun _ h9 => h9) rfl dX12_isSame_1 ?_
  refine lv_iload_n hx hb dX12_isSame_4 rfl (lv_at hl 1 rfl) ?_
  refine va_iald hx hb hK hP 3 1 rfl rfl (i := (nI t1)) (vp_in_nI (n := t1) (N := 2001) (by omega) (by omega)) dX12_isSame_5 ?_
  refine lv_topi (fun x_1 ex_1 => ?_)
  have ex_1 : x_1 = lf t1 := ex_1.trans (congrArg lf (nI_clamp (n := t1) (by omega)))
  have ex_1 : x_1 = nI l1 := ex_1.trans h1
  subst ex_1
  refine lv_aload_n hx hb dX12_isSame_6 rfl (lv_at hl 0 rfl) ?_
  refine va_get (D := (dC, dI)) (ci := 13) (v := .ref (a 16)) (C := RX12) (T := TX12) (N := 115) hx hb hts (fun w h => List.mem_cons_of_mem _ (uG_X12 w h)) hown hK hP 0 rfl rfl 16 (by decide) (hts _ (List.mem_cons_of_mem _ kw_1707)) (fun _ h9 => h9) rfl dX12_isSame_7 ?_
  refine lv_iload_n hx hb dX12_isSame_10 rfl (lv_at hl 2 rfl) ?_
  refine va_iald hx hb hK hP 3 1 rfl rfl (i := (nI u1)) (vp_in_nI (n := u1) (N := 2001) (by omega) (by omega)) dX12_isSame_11 ?_
  refine lv_topi (fun x_2 ex_2 => ?_)
  have ex_2 : x_2 = lf u1 := ex_2.trans (congrArg lf (nI_clamp (n := u1) (by omega)))
  have ex_2 : x_2 = nI l2 := ex_2.trans h2
  subst ex_2
  refine lv_icmp_eq (tgt := 17) hx hb dX12_isSame_12 (by decide) (fun c_3 => ?_) (fun c_3 => ?_)
  · skip
    have c_3 : l1 = l2 := (nI_eq (a := l1) (b := l2) (by omega) (by omega)).mp c_3
    exact absurd c_3 hl12
  · skip
    have c_3 : ¬ (l1 = l2) := fun h => c_3 ((nI_eq (a := l1) (b := l2) (by omega) (by omega)).mpr h)
    refine lv_iconst (v := 0) hx hb dX12_isSame_15 (by decide) ?_
    have hP9 := hP.sub (ws' := [(h0, .inr (13, moF a f w)), (a 2, .inl (cB, 2000, .inl g)), (a 15, .inl (cI, 2001, .inl pf)), (a 16, .inl (cI, 2001, .inl lf))]) [0, 1, 2, 3] rfl
    have hD9 := hD.sub (ws' := [(h0, .inr (13, moF a f w)), (a 2, .inl (cB, 2000, .inl g)), (a 15, .inl (cI, 2001, .inl pf)), (a 16, .inl (cI, 2001, .inl lf))]) [0, 1, 2, 3] (by decide) rfl
    have hK9 := hK.sub (tys' := [(cB, .byte), (cI, .int), (cJ, .long), (cZ, .boolean)]) [0, 1, 2, 3] rfl
    exact W.zret (v := 0) hx hb hr (by rfl) (fun t_ ht hW => ⟨⟨0, (), rfl, rfl, by rw [ht]; exact hP9, va_K.moved hW.alike hK9, hD9⟩, hS.F ht⟩) hS.2.2 dX12_isSame_16
theorem dX2_find_0 : decode cX2_find 0 = .ok (.iload_n 3, 1) := by decide +kernel
theorem dX2_find_1 : decode cX2_find 1 = .ok (.iconst 0, 1) := by decide +kernel
theorem dX2_find_2 : decode cX2_find 2 = .ok (.invokestatic 33, 3) := by decide +kernel
theorem dX2_find_5 : decode cX2_find 5 = .ok (.istore 4, 2) := by decide +kernel
theorem dX2_find_7 : decode cX2_find 7 = .ok (.iload 4, 2) := by decide +kernel
theorem dX2_find_9 : decode cX2_find 9 = .ok (.aload_n 0, 1) := by decide +kernel
theorem dX2_find_10 : decode cX2_find 10 = .ok (.getfield 25, 3) := by decide +kernel
theorem dX2_find_13 : decode cX2_find 13 = .ok (.if_icmp .ge 31, 3) := by decide +kernel
theorem dX2_find_16 : decode cX2_find 16 = .ok (.iload 4, 2) := by decide +kernel
theorem dX2_find_18 : decode cX2_find 18 = .ok (.bipush 8, 2) := by decide +kernel
theorem dX2_find_20 : decode cX2_find 20 = .ok (.if_icmp .ge 24, 3) := by decide +kernel
theorem dX2_find_23 : decode cX2_find 23 = .ok (.aload_n 0, 1) := by decide +kernel
theorem dX2_find_24 : decode cX2_find 24 = .ok (.getfield 15, 3) := by decide +kernel
theorem dX2_find_27 : decode cX2_find 27 = .ok (.iload 4, 2) := by decide +kernel
theorem dX2_find_29 : decode cX2_find 29 = .ok (.laload, 1) := by decide +kernel
theorem dX2_find_30 : decode cX2_find 30 = .ok (.lload_n 1, 1) := by decide +kernel
theorem dX2_find_31 : decode cX2_find 31 = .ok (.lcmp, 1) := by decide +kernel
theorem dX2_find_32 : decode cX2_find 32 = .ok (.ifCond .ne 6, 3) := by decide +kernel
theorem dX2_find_35 : decode cX2_find 35 = .ok (.iload 4, 2) := by decide +kernel
theorem dX2_find_37 : decode cX2_find 37 = .ok (.ireturn, 1) := by decide +kernel
theorem dX2_find_38 : decode cX2_find 38 = .ok (.iinc 4 1, 3) := by decide +kernel
theorem dX2_find_41 : decode cX2_find 41 = .ok (.goto (-34), 3) := by decide +kernel
theorem dX2_find_44 : decode cX2_find 44 = .ok (.iconst (-1), 1) := by decide +kernel
theorem dX2_find_45 : decode cX2_find 45 = .ok (.ireturn, 1) := by decide +kernel
abbrev cs_t_X2_find (cB cI cJ cZ : ClassId) (h0 hR hM hMk hT s1 : Nat) (rt : Nat → Int32) (nn : Nat → Int64) (mk ty : Nat → Int32) (v : Int64) (f1 : Nat) : va_W := [(h0, .inr (3, [.int (nI s1), .ref hR, .ref hM, .ref hMk, .ref hT])), (hR, .inl (cI, 8, .inl rt)), (hM, .inl (cJ, 8, .inr (.inl nn))), (hMk, .inl (cI, 8, .inl mk)), (hT, .inl (cI, 8, .inl ty))]
abbrev pc_t_X2_find (dC : Nat → ClassId) (dI : Nat → Nat → Nat) (sz : Nat) (cB cI cJ cZ : ClassId) (h0 hR hM hMk hT s1 : Nat) (rt : Nat → Int32) (nn : Nat → Int64) (mk ty : Nat → Int32) (v : Int64) (f1 : Nat) : Array Value → State → Prop := va_Pc [.ref h0, .long v, .int (nI f1)] (fun U => U.heap.size = sz ∧ va_P (dC, dI) vwCl [(h0, .inr (3, [.int (nI s1), .ref hR, .ref hM, .ref hMk, .ref hT])), (hR, .inl (cI, 8, .inl rt)), (hM, .inl (cJ, 8, .inr (.inl nn))), (hMk, .inl (cI, 8, .inl mk)), (hT, .inl (cI, 8, .inl ty))] U.heap ∧ va_K (dC, dI) vwCl [(cB, .byte), (cI, .int), (cJ, .long), (cZ, .boolean)] U ∧ va_D (fun _ => True) [(h0, .inr (3, [.int (nI s1), .ref hR, .ref hM, .ref hMk, .ref hT])), (hR, .inl (cI, 8, .inl rt)), (hM, .inl (cJ, 8, .inr (.inl nn))), (hMk, .inl (cI, 8, .inl mk)), (hT, .inl (cI, 8, .inl ty))])
abbrev qc_t_X2_find (dC : Nat → ClassId) (dI : Nat → Nat → Nat) (cB cI cJ cZ : ClassId) (h0 hR hM hMk hT s1 : Nat) (rt : Nat → Int32) (nn : Nat → Int64) (mk ty : Nat → Int32) (v : Int64) (f1 : Nat) (A : Nat → Prop) : Array Value → State → Outcome → State → Prop := va_Qi (fun (r : Int32) (u : Unit) => match u with | _ => r = fdF nn v (s1 - f1) f1) (fun (u : Unit) t_ => match u with | _ => va_P (dC, dI) vwCl [(h0, .inr (3, [.int (nI s1), .ref hR, .ref hM, .ref hMk, .ref hT])), (hR, .inl (cI, 8, .inl rt)), (hM, .inl (cJ, 8, .inr (.inl nn))), (hMk, .inl (cI, 8, .inl mk)), (hT, .inl (cI, 8, .inl ty))] t_.heap ∧ va_K (dC, dI) vwCl [(cB, .byte), (cI, .int), (cJ, .long), (cZ, .boolean)] t_ ∧ va_D A [(h0, .inr (3, [.int (nI s1), .ref hR, .ref hM, .ref hMk, .ref hT])), (hR, .inl (cI, 8, .inl rt)), (hM, .inl (cJ, 8, .inr (.inl nn))), (hMk, .inl (cI, 8, .inl mk)), (hT, .inl (cI, 8, .inl ty))]) A
set_option maxHeartbeats 4000000 in
set_option maxRecDepth 100000 in
theorem t_X2_find (l : Launch) (dC : Nat → ClassId) (dI : Nat → Nat → Nat) (sz : Nat) (cB cI cJ cZ : ClassId) (h0 hR hM hMk hT s1 : Nat) (rt : Nat → Int32) (nn : Nat → Int64) (mk ty : Nat → Int32) (v : Int64) (f1 : Nat) (hs : s1 ≤ 8) (hf : f1 ≤ 100) : Met l yX2_find (wsOf yX2_find cX2_find 5 (some .int)) ({ frames := 1, cells := 0, slots := 0, locals := 60 }) (pc_t_X2_find dC dI sz cB cI cJ cZ h0 hR hM hMk hT s1 rt nn mk ty v f1) (qc_t_X2_find dC dI cB cI cJ cZ h0 hR hM hMk hT s1 rt nn mk ty v f1 (va_A (cs_t_X2_find cB cI cJ cZ h0 hR hM hMk hT s1 rt nn mk ty v f1) sz)) 0 0 (va_A (cs_t_X2_find cB cI cJ cZ h0 hR hM hMk hT s1 rt nn mk ty v f1) sz) := by
  refine Met.ofW (cc := cX2_find) (maxL := 5) (ret := (some .int)) (by decide) rfl ?_
  intro p e s m args below meth c s₁ B hml hv
  obtain ⟨rfl, hsz, hP, hK, hD0⟩ := hv
  have hx := B.exec
  have hb := B.bytes
  have hr := B.returns
  have hts := atoms_spec (ws := (wsOf yX2_find cX2_find 5 (some .int))) B.pre
  have hown : s.vm.findClass RX2 = some m.cls := findClass_of_methodNamed B.named
  have hlocks := B.notSynchronized
  subst hsz
  have hD := hD0.self (sz := s.heap.size)
  generalize hAe : va_A (cs_t_X2_find cB cI cJ cZ h0 hR hM hMk hT s1 rt nn mk ty v f1) s.heap.size = A at hD ⊢
  have hA : ∀ q : Nat, s.heap.size ≤ q → A q := fun q h => by rw [← hAe]; exact Or.inr h
  have hS : va_S A s.heap s.heap [] := va_S.rf
  have hP : va_P (dC, dI) vwCl [(h0, .inr (3, [.int (nI s1), .ref hR, .ref hM, .ref hMk, .ref hT])), (hR, .inl (cI, 8, .inl rt)), (hM, .inl (cJ, 8, .inr (.inl nn))), (hMk, .inl (cI, 8, .inl mk)), (hT, .inl (cI, 8, .inl ty))] s.heap := hP
  have hl := lv_entry ([.ref h0, .long v, .int (nI f1)]) (n := 5) (Nat.le_of_ble_eq_true rfl)
  rw [lg_entry_eq]
  generalize (lg_sl ([.ref h0, .long v, .int (nI f1)]) ++ List.replicate (5 - (lg_sl ([.ref h0, .long v, .int (nI f1)])).length) Slot.unset).toArray = ls at hl ⊢
  have hl : lv_has ls 5 [(0, .ref h0), (1, .long v), (3, .int (nI f1))] := hl
  refine lv_iload_n hx hb dX2_find_0 rfl (lv_at hl 2 rfl) ?_
  refine lv_iconst (v := 0) hx hb dX2_find_1 (by decide) ?_
  refine va_mmax hx hb (hml.trans hl.1.symm) hown (hts _ (List.mem_cons_of_mem _ kw_1218)) (hts _ (List.mem_cons_of_mem _ kw_369)) (hts _ (List.mem_cons_of_mem _ kw_190)) (hts _ (List.mem_cons_of_mem _ kc_max)) (Nat.le_of_ble_eq_true rfl) (Nat.le_of_ble_eq_true rfl) (Nat.le_of_ble_eq_true rfl) (Nat.le_of_ble_eq_true rfl) dX2_find_2 ?_
  refine lv_topi (fun x_1 ex_1 => ?_)
  have ex_1 : x_1 = nI f1 := by rw [ex_1]; exact if_neg (fun h => absurd h (nI_pos (by omega)))
  subst ex_1
  refine lv_istore (lv' := [(4, .int (nI f1)), (0, .ref h0), (1, .long v), (3, .int (nI f1))]) hx hb dX2_find_5 hl (by decide) rfl (fun ls hl => ?_)
  have lp_7 : ∀ (n_ : Nat) (i : Nat), i ≤ s1 ∨ i = f1 → fdF nn v (s1 - f1) f1 = fdF nn v (s1 - i) i → s1 - i < n_ → ∀ (H : Heap) (locs : List Loc) (ls : Array Slot), va_P (dC, dI) vwCl [(h0, .inr (3, [.int (nI s1), .ref hR, .ref hM, .ref hMk, .ref hT])), (hR, .inl (cI, 8, .inl rt)), (hM, .inl (cJ, 8, .inr (.inl nn))), (hMk, .inl (cI, 8, .inl mk)), (hT, .inl (cI, 8, .inl ty))] H → va_D A [(h0, .inr (3, [.int (nI s1), .ref hR, .ref hM, .ref hMk, .ref hT])), (hR, .inl (cI, 8, .inl rt)), (hM, .inl (cJ, 8, .inr (.inl nn))), (hMk, .inl (cI, 8, .inl mk)), (hT, .inl (cI, 8, .inl ty))] → va_S A s.heap H locs → lv_has ls 5 [(4, .int (nI i)), (0, .ref h0), (1, .long v)] → W p l e (headSpec (wsOf yX2_find cX2_find 5 (some .int)) ({ frames := 1, cells := 0, slots := 0, locals := 60 })).room s m ([.ref h0, .long v, .int (nI f1)] : List Value).toArray below meth c H locs 0 0 (MQ below (qc_t_X2_find dC dI cB cI cJ cZ h0 hR hM hMk hT s1 rt nn mk ty v f1 A) ([.ref h0, .long v, .int (nI f1)] : List Value).toArray s 0 0 A) (F0 m 7 ls []) := by
    intro n_
    induction n_ with
    | zero => intro i hi hin hm; exact absurd hm (Nat.not_lt_zero _)
    | succ n_ ih_7 =>
      intro i hi hin hm H locs ls hP hD hS hl
      refine lv_iload hx hb dX2_find_7 (lv_at hl 0 rfl) ?_
      refine lv_aload_n hx hb dX2_find_9 rfl (lv_at hl 1 rfl) ?_
      refine va_get (D := (dC, dI)) (ci := 3) (v := .int (nI s1)) (C := RX2) (T := TX2) (N := 5) hx hb hts (fun w h => List.mem_cons_of_mem _ (uG_X2 w h)) hown hK hP 0 rfl rfl 0 (by decide) (hts _ (List.mem_cons_of_mem _ kw_628)) (fun _ h9 => h9) rfl dX2_find_10 ?_
      refine lv_icmp_ge (tgt := 44) hx hb dX2_find_13 (by decide) (fun c_2 => ?_) (fun c_2 => ?_)
      · skip
        have c_2 : s1 ≤ i := (nI_leI (a := s1) (b := i) (by omega) (by omega)).mp c_2
        refine lv_iconst (v := (-1)) hx hb dX2_find_44 (by decide) ?_
        have hP9 := hP.sub (ws' := [(h0, .inr (3, [.int (nI s1), .ref hR, .ref hM, .ref hMk, .ref hT])), (hR, .inl (cI, 8, .inl rt)), (hM, .inl (cJ, 8, .inr (.inl nn))), (hMk, .inl (cI, 8, .inl mk)), (hT, .inl (cI, 8, .inl ty))]) [0, 1, 2, 3, 4] rfl
        have hD9 := hD.sub (ws' := [(h0, .inr (3, [.int (nI s1), .ref hR, .ref hM, .ref hMk, .ref hT])), (hR, .inl (cI, 8, .inl rt)), (hM, .inl (cJ, 8, .inr (.inl nn))), (hMk, .inl (cI, 8, .inl mk)), (hT, .inl (cI, 8, .inl ty))]) [0, 1, 2, 3, 4] (by decide) rfl
        have hK9 := hK.sub (tys' := [(cB, .byte), (cI, .int), (cJ, .long), (cZ, .boolean)]) [0, 1, 2, 3] rfl
        exact W.iret (v := (-1)) hx hb hr (fun t_ ht hW => ⟨⟨(-1), (), rfl, (by rw [hin, show s1 - i = 0 by omega]; rfl), by rw [ht]; exact hP9, va_K.moved hW.alike hK9, hD9⟩, hS.F ht⟩) hS.2.2 dX2_find_45
      · skip
        have c_2 : ¬ (s1 ≤ i) := fun h => c_2 ((nI_leI (a := s1) (b := i) (by omega) (by omega)).mpr h)
        refine lv_iload hx hb dX2_find_16 (lv_at hl 0 rfl) ?_
        refine lv_bipush (v := 8) hx hb dX2_find_18 (by decide) ?_
        refine lv_icmp_ge (tgt := 44) hx hb dX2_find_20 (by decide) (fun c_3 => ?_) (fun c_3 => ?_)
        · skip
          have c_3 : 8 ≤ i := (nI_leI (a := 8) (b := i) (by omega) (by omega)).mp c_3
          exact absurd c_3 (by omega)
        · skip
          have c_3 : ¬ (8 ≤ i) := fun h => c_3 ((nI_leI (a := 8) (b := i) (by omega) (by omega)).mpr h)
          refine lv_aload_n hx hb dX2_find_23 rfl (lv_at hl 1 rfl) ?_
          refine va_get (D := (dC, dI)) (ci := 3) (v := .ref hM) (C := RX2) (T := TX2) (N := 5) hx hb hts (fun w h => List.mem_cons_of_mem _ (uG_X2 w h)) hown hK hP 0 rfl rfl 2 (by decide) (hts _ (List.mem_cons_of_mem _ kw_636)) (fun _ h9 => h9) rfl dX2_find_24 ?_
          refine lv_iload hx hb dX2_find_27 (lv_at hl 0 rfl) ?_
          refine va_lald hx hb hK hP 2 2 rfl rfl (i := (nI i)) (vp_in_nI (n := i) (N := 8) (by omega) (by omega)) dX2_find_29 ?_
          refine lv_topl (fun x_4 ex_4 => ?_)
          have ex_4 : x_4 = nn i := ex_4.trans (congrArg nn (nI_clamp (n := i) (by omega)))
          subst ex_4
          refine lv_lload_n hx hb dX2_find_30 rfl (lv_at hl 2 rfl) ?_
          refine W.lcmp hx hb dX2_find_31 ?_
          refine lv_if_ne (tgt := 38) hx hb dX2_find_32 (by decide) (fun c_5 => ?_) (fun c_5 => ?_)
          · skip
            have c_5 : ¬ ((nn i) = v) := fun h => c_5 ((lg_cmp_eq (nn i) v).mpr h)
            refine lv_iinc (v := nI (i + 1)) (lv' := [(4, .int (nI (i + 1))), (0, .ref h0), (1, .long v)]) hx hb dX2_find_38 hl (k := 0) rfl (nI_add i 1) (by decide) rfl (fun ls hl => ?_)
            refine lv_goto (tgt := 7) hx hb dX2_find_41 (by decide) ?_
            exact ih_7 (i + 1) (Or.inl (by omega)) (hin.trans (fdF_n (by omega) c_5)) (by omega) _ _ _ (hP.sub [0, 1, 2, 3, 4] rfl) (hD.sub [0, 1, 2, 3, 4] (by decide) rfl) hS (lv_sub hl [0, 1, 2] rfl)
          · skip
            have c_5 : (nn i) = v := (lg_cmp_eq (nn i) v).mp c_5
            refine lv_iload hx hb dX2_find_35 (lv_at hl 0 rfl) ?_
            have hP9 := hP.sub (ws' := [(h0, .inr (3, [.int (nI s1), .ref hR, .ref hM, .ref hMk, .ref hT])), (hR, .inl (cI, 8, .inl rt)), (hM, .inl (cJ, 8, .inr (.inl nn))), (hMk, .inl (cI, 8, .inl mk)), (hT, .inl (cI, 8, .inl ty))]) [0, 1, 2, 3, 4] rfl
            have hD9 := hD.sub (ws' := [(h0, .inr (3, [.int (nI s1), .ref hR, .ref hM, .ref hMk, .ref hT])), (hR, .inl (cI, 8, .inl rt)), (hM, .inl (cJ, 8, .inr (.inl nn))), (hMk, .inl (cI, 8, .inl mk)), (hT, .inl (cI, 8, .inl ty))]) [0, 1, 2, 3, 4] (by decide) rfl
            have hK9 := hK.sub (tys' := [(cB, .byte), (cI, .int), (cJ, .long), (cZ, .boolean)]) [0, 1, 2, 3] rfl
            exact W.iret (v := (nI i)) hx hb hr (fun t_ ht hW => ⟨⟨(nI i), (), rfl, (hin.trans (fdF_y (by omega) c_5)).symm, by rw [ht]; exact hP9, va_K.moved hW.alike hK9, hD9⟩, hS.F ht⟩) hS.2.2 dX2_find_37
  exact lp_7 _ f1 (Or.inr rfl) rfl (Nat.lt_succ_self _) _ _ _ (hP.sub [0, 1, 2, 3, 4] rfl) (hD.sub [0, 1, 2, 3, 4] (by decide) rfl) hS (lv_sub hl [0, 1, 2] rfl)
theorem dX2_settleType_0 : decode cX2_settleType 0 = .ok (.aload_n 0, 1) := by decide +kernel
theorem dX2_settleType_1 : decode cX2_settleType 1 = .ok (.iload_n 1, 1) := by decide +kernel
theorem dX2_settleType_2 : decode cX2_settleType 2 = .ok (.invokevirtual 45, 3) := by decide +kernel
theorem dX2_settleType_5 : decode cX2_settleType 5 = .ok (.ifCond .eq 19, 3) := by decide +kernel
theorem dX2_settleType_8 : decode cX2_settleType 8 = .ok (.aload_n 0, 1) := by decide +kernel
theorem dX2_settleType_9 : decode cX2_settleType 9 = .ok (.getfield 22, 3) := by decide +kernel
theorem dX2_settleType_12 : decode cX2_settleType 12 = .ok (.iload_n 1, 1) := by decide +kernel
theorem dX2_settleType_13 : decode cX2_settleType 13 = .ok (.iload_n 2, 1) := by decide +kernel
theorem dX2_settleType_14 : decode cX2_settleType 14 = .ok (.iconst 2, 1) := by decide +kernel
theorem dX2_settleType_15 : decode cX2_settleType 15 = .ok (.if_icmp .ne 7, 3) := by decide +kernel
theorem dX2_settleType_18 : decode cX2_settleType 18 = .ok (.iconst 2, 1) := by decide +kernel
theorem dX2_settleType_19 : decode cX2_settleType 19 = .ok (.goto 4, 3) := by decide +kernel
theorem dX2_settleType_22 : decode cX2_settleType 22 = .ok (.iconst 1, 1) := by decide +kernel
theorem dX2_settleType_23 : decode cX2_settleType 23 = .ok (.iastore, 1) := by decide +kernel
theorem dX2_settleType_24 : decode cX2_settleType 24 = .ok (.return_, 1) := by decide +kernel
abbrev cs_t_X2_settleType (cB cI cJ cZ : ClassId) (h0 hR hM hMk hT s1 : Nat) (rt : Nat → Int32) (nn : Nat → Int64) (mk ty : Nat → Int32) (i : Nat) (x : Int32) : va_W := [(h0, .inr (3, [.int (nI s1), .ref hR, .ref hM, .ref hMk, .ref hT])), (hR, .inl (cI, 8, .inl rt)), (hM, .inl (cJ, 8, .inr (.inl nn))), (hMk, .inl (cI, 8, .inl mk)), (hT, .inl (cI, 8, .inl ty))]
abbrev pc_t_X2_settleType (dC : Nat → ClassId) (dI : Nat → Nat → Nat) (sz : Nat) (cB cI cJ cZ : ClassId) (h0 hR hM hMk hT s1 : Nat) (rt : Nat → Int32) (nn : Nat → Int64) (mk ty : Nat → Int32) (i : Nat) (x : Int32) : Array Value → State → Prop := va_Pc [.ref h0, .int (nI i), .int x] (fun U => U.heap.size = sz ∧ va_P (dC, dI) vwCl [(h0, .inr (3, [.int (nI s1), .ref hR, .ref hM, .ref hMk, .ref hT])), (hR, .inl (cI, 8, .inl rt)), (hM, .inl (cJ, 8, .inr (.inl nn))), (hMk, .inl (cI, 8, .inl mk)), (hT, .inl (cI, 8, .inl ty))] U.heap ∧ va_K (dC, dI) vwCl [(cB, .byte), (cI, .int), (cJ, .long), (cZ, .boolean)] U ∧ va_D (fun _ => True) [(h0, .inr (3, [.int (nI s1), .ref hR, .ref hM, .ref hMk, .ref hT])), (hR, .inl (cI, 8, .inl rt)), (hM, .inl (cJ, 8, .inr (.inl nn))), (hMk, .inl (cI, 8, .inl mk)), (hT, .inl (cI, 8, .inl ty))])
abbrev qc_t_X2_settleType (dC : Nat → ClassId) (dI : Nat → Nat → Nat) (cB cI cJ cZ : ClassId) (h0 hR hM hMk hT s1 : Nat) (rt : Nat → Int32) (nn : Nat → Int64) (mk ty : Nat → Int32) (i : Nat) (x : Int32) (A : Nat → Prop) : Array Value → State → Outcome → State → Prop := va_Qv (fun (u : Unit) => match u with | _ => True) (fun (u : Unit) t_ => match u with | _ => va_P (dC, dI) vwCl [(h0, .inr (3, [.int (nI s1), .ref hR, .ref hM, .ref hMk, .ref hT])), (hR, .inl (cI, 8, .inl rt)), (hM, .inl (cJ, 8, .inr (.inl nn))), (hMk, .inl (cI, 8, .inl mk)), (hT, .inl (cI, 8, .inl (upd ty i (tyS x))))] t_.heap ∧ va_K (dC, dI) vwCl [(cB, .byte), (cI, .int), (cJ, .long), (cZ, .boolean)] t_ ∧ va_D A [(h0, .inr (3, [.int (nI s1), .ref hR, .ref hM, .ref hMk, .ref hT])), (hR, .inl (cI, 8, .inl rt)), (hM, .inl (cJ, 8, .inr (.inl nn))), (hMk, .inl (cI, 8, .inl mk)), (hT, .inl (cI, 8, .inl (upd ty i (tyS x))))]) A
set_option maxHeartbeats 4000000 in
set_option maxRecDepth 100000 in
theorem t_X2_settleType (l : Launch) (dC : Nat → ClassId) (dI : Nat → Nat → Nat) (sz : Nat) (cB cI cJ cZ : ClassId) (h0 hR hM hMk hT s1 : Nat) (rt : Nat → Int32) (nn : Nat → Int64) (mk ty : Nat → Int32) (i : Nat) (x : Int32) (hs : s1 ≤ 8) (hi : i < s1) : Met l yX2_settleType (wsOf yX2_settleType cX2_settleType 3 none) ({ frames := 1, cells := 0, slots := 0, locals := 60 }) (pc_t_X2_settleType dC dI sz cB cI cJ cZ h0 hR hM hMk hT s1 rt nn mk ty i x) (qc_t_X2_settleType dC dI cB cI cJ cZ h0 hR hM hMk hT s1 rt nn mk ty i x (va_A (cs_t_X2_settleType cB cI cJ cZ h0 hR hM hMk hT s1 rt nn mk ty i x) sz)) 0 0 (va_A (cs_t_X2_settleType cB cI cJ cZ h0 hR hM hMk hT s1 rt nn mk ty i x) sz) := by
  refine Met.ofW (cc := cX2_settleType) (maxL := 3) (ret := none) (by decide) rfl ?_
  intro p e s m args below meth c s₁ B hml hv
  obtain ⟨rfl, hsz, hP, hK, hD0⟩ := hv
  have hx := B.exec
  have hb := B.bytes
  have hr := B.returns
  have hts := atoms_spec (ws := (wsOf yX2_settleType cX2_settleType 3 none)) B.pre
  have hown : s.vm.findClass RX2 = some m.cls := findClass_of_methodNamed B.named
  have hlocks := B.notSynchronized
  subst hsz
  have hD := hD0.self (sz := s.heap.size)
  generalize hAe : va_A (cs_t_X2_settleType cB cI cJ cZ h0 hR hM hMk hT s1 rt nn mk ty i x) s.heap.size = A at hD ⊢
  have hA : ∀ q : Nat, s.heap.size ≤ q → A q := fun q h => by rw [← hAe]; exact Or.inr h
  have hS : va_S A s.heap s.heap [] := va_S.rf
  have hP : va_P (dC, dI) vwCl [(h0, .inr (3, [.int (nI s1), .ref hR, .ref hM, .ref hMk, .ref hT])), (hR, .inl (cI, 8, .inl rt)), (hM, .inl (cJ, 8, .inr (.inl nn))), (hMk, .inl (cI, 8, .inl mk)), (hT, .inl (cI, 8, .inl ty))] s.heap := hP
  have hl := lv_entry ([.ref h0, .int (nI i), .int x]) (n := 3) (Nat.le_of_ble_eq_true rfl)
  rw [lg_entry_eq]
  generalize (lg_sl ([.ref h0, .int (nI i), .int x]) ++ List.replicate (3 - (lg_sl ([.ref h0, .int (nI i), .int x])).length) Slot.unset).toArray = ls at hl ⊢
  have hl : lv_has ls 3 [(0, .ref h0), (1, .int (nI i)), (2, .int x)] := hl
  refine lv_aload_n hx hb dX2_settleType_0 rfl (lv_at hl 0 rfl) ?_
  refine lv_iload_n hx hb dX2_settleType_1 rfl (lv_at hl 1 rfl) ?_
  have hPc := hP.sub (ws' := [(h0, .inr (3, [.int (nI s1), .ref hR, .ref hM, .ref hMk, .ref hT])), (hR, .inl (cI, 8, .inl rt)), (hM, .inl (cJ, 8, .inr (.inl nn))), (hMk, .inl (cI, 8, .inl mk)), (hT, .inl (cI, 8, .inl ty))]) [0, 1, 2, 3, 4] rfl
  have hDc := hD.sub (ws' := [(h0, .inr (3, [.int (nI s1), .ref hR, .ref hM, .ref hMk, .ref hT])), (hR, .inl (cI, 8, .inl rt)), (hM, .inl (cJ, 8, .inr (.inl nn))), (hMk, .inl (cI, 8, .inl mk)), (hT, .inl (cI, 8, .inl ty))]) [0, 1, 2, 3, 4] (by decide) rfl
  have hKc := hK.sub (tys' := [(cB, .byte), (cI, .int), (cJ, .long), (cZ, .boolean)]) [0, 1, 2, 3] rfl
  have hFc := va_free (wc := [(h0, .inr (3, [.int (nI s1), .ref hR, .ref hM, .ref hMk, .ref hT])), (hR, .inl (cI, 8, .inl rt)), (hM, .inl (cJ, 8, .inr (.inl nn))), (hMk, .inl (cI, 8, .inl mk)), (hT, .inl (cI, 8, .inl ty))]) hD hS hA [0, 1, 2, 3, 4] rfl
  refine va_calli (va_runV (As := [.int (nI i)]) (rest := []) ⟨hx, hb, hml, hown, hts⟩ (t_X2_has_in l dC dI s.heap.size cB cI cJ cZ h0 hR hM hMk hT s1 rt nn mk ty i hs hi) (cwV 1 hts (gd_all (in_V kw_1289 kw_1221 kw_1222 kw_196 kc_X2_has)) rfl rfl rfl (by decide +kernel) ⟨Nat.le_of_ble_eq_true rfl, Nat.le_of_ble_eq_true rfl⟩) ⟨fun a U g mk q => by obtain ⟨q0, q1, qP, qK, qD⟩ := q; exact ⟨q0, q1, qP, va_K.moved (u := U) (U := U.calling g mk a) (Vm.Alike.refl U.vm) qK, qD⟩, va_recv hKc hPc (ci := 3) (q0 := 0) rfl rfl, fun U hU hW => ⟨rfl, by rw [hU], by rw [hU]; exact hPc, va_K.moved hW.alike hKc, hDc.weaken (fun _ _ _ _ => trivial)⟩⟩ rfl rfl hl.1 rfl (lv_room (Nat.le_of_ble_eq_true rfl)) dX2_settleType_2 ⟨Nat.le_of_ble_eq_true rfl, Nat.le_of_ble_eq_true rfl⟩) hS (fun q _ h => hFc q h) hFc (fun r_1 u t_ H1 locs ht hvm hw hB hz1 hk1 hS => ?_)
  obtain ⟨hP1, hK1, hD1⟩ := hB
  rw [ht] at hP1
  have hK1 := va_K.moved hvm.symm hK1
  obtain ⟨hP, hD⟩ := va_join (wr := []) (w1 := [(h0, .inr (3, [.int (nI s1), .ref hR, .ref hM, .ref hMk, .ref hT])), (hR, .inl (cI, 8, .inl rt)), (hM, .inl (cJ, 8, .inr (.inl nn))), (hMk, .inl (cI, 8, .inl mk)), (hT, .inl (cI, 8, .inl ty))]) hP hD [0, 1, 2, 3, 4] [] rfl rfl (by decide) (by decide) hk1 hFc hP1 hD1
  have hK := (hK.sub (tys' := []) [] rfl).app hK1
  generalize H1 = H at hP hS ⊢
  have hP : va_P (dC, dI) vwCl [(h0, .inr (3, [.int (nI s1), .ref hR, .ref hM, .ref hMk, .ref hT])), (hR, .inl (cI, 8, .inl rt)), (hM, .inl (cJ, 8, .inr (.inl nn))), (hMk, .inl (cI, 8, .inl mk)), (hT, .inl (cI, 8, .inl ty))] H := hP
  have hD : va_D A [(h0, .inr (3, [.int (nI s1), .ref hR, .ref hM, .ref hMk, .ref hT])), (hR, .inl (cI, 8, .inl rt)), (hM, .inl (cJ, 8, .inr (.inl nn))), (hMk, .inl (cI, 8, .inl mk)), (hT, .inl (cI, 8, .inl ty))] := hD
  have hK : va_K (dC, dI) vwCl [(cB, .byte), (cI, .int), (cJ, .long), (cZ, .boolean)] s := hK
  have er_1 : r_1 = 1 := hw
  rw [er_1]
  refine lv_if_eq (tgt := 24) hx hb dX2_settleType_5 (by decide) (fun c_2 => ?_) (fun c_2 => ?_)
  · skip
    exact absurd c_2 (by decide)
  · skip
    refine lv_aload_n hx hb dX2_settleType_8 rfl (lv_at hl 0 rfl) ?_
    refine va_get (D := (dC, dI)) (ci := 3) (v := .ref hT) (C := RX2) (T := TX2) (N := 5) hx hb hts (fun w h => List.mem_cons_of_mem _ (uG_X2 w h)) hown hK hP 0 rfl rfl 4 (by decide) (hts _ (List.mem_cons_of_mem _ kw_640)) (fun _ h9 => h9) rfl dX2_settleType_9 ?_
    refine lv_iload_n hx hb dX2_settleType_12 rfl (lv_at hl 1 rfl) ?_
    have mg_3 : ∀ (H : Heap) (locs : List Loc), va_P (dC, dI) vwCl [(h0, .inr (3, [.int (nI s1), .ref hR, .ref hM, .ref hMk, .ref hT])), (hR, .inl (cI, 8, .inl rt)), (hM, .inl (cJ, 8, .inr (.inl nn))), (hMk, .inl (cI, 8, .inl mk)), (hT, .inl (cI, 8, .inl ty))] H → va_D A [(h0, .inr (3, [.int (nI s1), .ref hR, .ref hM, .ref hMk, .ref hT])), (hR, .inl (cI, 8, .inl rt)), (hM, .inl (cJ, 8, .inr (.inl nn))), (hMk, .inl (cI, 8, .inl mk)), (hT, .inl (cI, 8, .inl ty))] → va_S A s.heap H locs → W p l e (headSpec (wsOf yX2_settleType cX2_settleType 3 none) ({ frames := 1, cells := 0, slots := 0, locals := 60 })).room s m ([.ref h0, .int (nI i), .int x] : List Value).toArray below meth c H locs 0 0 (MQ below (qc_t_X2_settleType dC dI cB cI cJ cZ h0 hR hM hMk hT s1 rt nn mk ty i x A) ([.ref h0, .int (nI i), .int x] : List Value).toArray s 0 0 A) (F0 m 23 ls [.int (tyS x), .int (nI i), .ref hT]) := by
      intro H locs hP hD hS
      refine va_iast hx hb hK hP hD hS 4 1 rfl rfl (i := (nI i)) (x := (tyS x)) (vp_in_nI (n := i) (N := 8) (by omega) (by omega)) dX2_settleType_23 (fun H locs hP hD hS => ?_)
      rw [show (nI i).toNatClampNeg = i from nI_clamp (n := i) (by omega)] at hP hD
      have hP : va_P (dC, dI) vwCl [(h0, .inr (3, [.int (nI s1), .ref hR, .ref hM, .ref hMk, .ref hT])), (hR, .inl (cI, 8, .inl rt)), (hM, .inl (cJ, 8, .inr (.inl nn))), (hMk, .inl (cI, 8, .inl mk)), (hT, .inl (cI, 8, .inl (upd ty i (tyS x))))] H := hP
      have hD : va_D A [(h0, .inr (3, [.int (nI s1), .ref hR, .ref hM, .ref hMk, .ref hT])), (hR, .inl (cI, 8, .inl rt)), (hM, .inl (cJ, 8, .inr (.inl nn))), (hMk, .inl (cI, 8, .inl mk)), (hT, .inl (cI, 8, .inl (upd ty i (tyS x))))] := hD
      have hP9 := hP.sub (ws' := [(h0, .inr (3, [.int (nI s1), .ref hR, .ref hM, .ref hMk, .ref hT])), (hR, .inl (cI, 8, .inl rt)), (hM, .inl (cJ, 8, .inr (.inl nn))), (hMk, .inl (cI, 8, .inl mk)), (hT, .inl (cI, 8, .inl (upd ty i (tyS x))))]) [0, 1, 2, 3, 4] rfl
      have hD9 := hD.sub (ws' := [(h0, .inr (3, [.int (nI s1), .ref hR, .ref hM, .ref hMk, .ref hT])), (hR, .inl (cI, 8, .inl rt)), (hM, .inl (cJ, 8, .inr (.inl nn))), (hMk, .inl (cI, 8, .inl mk)), (hT, .inl (cI, 8, .inl (upd ty i (tyS x))))]) [0, 1, 2, 3, 4] (by decide) rfl
      have hK9 := hK.sub (tys' := [(cB, .byte), (cI, .int), (cJ, .long), (cZ, .boolean)]) [0, 1, 2, 3] rfl
      exact W.vret hx hb hr (fun t_ ht hW => ⟨⟨(), rfl, trivial, by rw [ht]; exact hP9, va_K.moved hW.alike hK9, hD9⟩, hS.F ht⟩) hS.2.2 dX2_settleType_24
    refine lv_iload_n hx hb dX2_settleType_13 rfl (lv_at hl 2 rfl) ?_
    refine lv_iconst (v := 2) hx hb dX2_settleType_14 (by decide) ?_
    refine lv_icmp_ne (tgt := 22) hx hb dX2_settleType_15 (by decide) (fun c_4 => ?_) (fun c_4 => ?_)
    · skip
      refine lv_iconst (v := 1) hx hb dX2_settleType_22 (by decide) ?_
      exact W.eq (by unfold tyS; rw [if_neg c_4]) (mg_3 _ _ hP hD hS)
    · skip
      refine lv_iconst (v := 2) hx hb dX2_settleType_18 (by decide) ?_
      refine lv_goto (tgt := 23) hx hb dX2_settleType_19 (by decide) ?_
      exact W.eq (by unfold tyS; rw [if_pos c_4]) (mg_3 _ _ hP hD hS)
theorem dX2_sameTypes_0 : decode cX2_sameTypes 0 = .ok (.aload_n 0, 1) := by decide +kernel
theorem dX2_sameTypes_1 : decode cX2_sameTypes 1 = .ok (.getfield 25, 3) := by decide +kernel
theorem dX2_sameTypes_4 : decode cX2_sameTypes 4 = .ok (.aload_n 1, 1) := by decide +kernel
theorem dX2_sameTypes_5 : decode cX2_sameTypes 5 = .ok (.getfield 25, 3) := by decide +kernel
theorem dX2_sameTypes_8 : decode cX2_sameTypes 8 = .ok (.if_icmp .eq 5, 3) := by decide +kernel
theorem dX2_sameTypes_11 : decode cX2_sameTypes 11 = .ok (.iconst 0, 1) := by decide +kernel
theorem dX2_sameTypes_12 : decode cX2_sameTypes 12 = .ok (.ireturn, 1) := by decide +kernel
theorem dX2_sameTypes_13 : decode cX2_sameTypes 13 = .ok (.iconst 0, 1) := by decide +kernel
theorem dX2_sameTypes_14 : decode cX2_sameTypes 14 = .ok (.istore_n 2, 1) := by decide +kernel
theorem dX2_sameTypes_15 : decode cX2_sameTypes 15 = .ok (.iload_n 2, 1) := by decide +kernel
theorem dX2_sameTypes_16 : decode cX2_sameTypes 16 = .ok (.aload_n 0, 1) := by decide +kernel
theorem dX2_sameTypes_17 : decode cX2_sameTypes 17 = .ok (.getfield 25, 3) := by decide +kernel
theorem dX2_sameTypes_20 : decode cX2_sameTypes 20 = .ok (.if_icmp .ge 32, 3) := by decide +kernel
theorem dX2_sameTypes_23 : decode cX2_sameTypes 23 = .ok (.iload_n 2, 1) := by decide +kernel
theorem dX2_sameTypes_24 : decode cX2_sameTypes 24 = .ok (.bipush 8, 2) := by decide +kernel
theorem dX2_sameTypes_26 : decode cX2_sameTypes 26 = .ok (.if_icmp .ge 26, 3) := by decide +kernel
theorem dX2_sameTypes_29 : decode cX2_sameTypes 29 = .ok (.aload_n 0, 1) := by decide +kernel
theorem dX2_sameTypes_30 : decode cX2_sameTypes 30 = .ok (.getfield 22, 3) := by decide +kernel
theorem dX2_sameTypes_33 : decode cX2_sameTypes 33 = .ok (.iload_n 2, 1) := by decide +kernel
theorem dX2_sameTypes_34 : decode cX2_sameTypes 34 = .ok (.iaload, 1) := by decide +kernel
theorem dX2_sameTypes_35 : decode cX2_sameTypes 35 = .ok (.aload_n 1, 1) := by decide +kernel
theorem dX2_sameTypes_36 : decode cX2_sameTypes 36 = .ok (.getfield 22, 3) := by decide +kernel
theorem dX2_sameTypes_39 : decode cX2_sameTypes 39 = .ok (.iload_n 2, 1) := by decide +kernel
theorem dX2_sameTypes_40 : decode cX2_sameTypes 40 = .ok (.iaload, 1) := by decide +kernel
theorem dX2_sameTypes_41 : decode cX2_sameTypes 41 = .ok (.if_icmp .eq 5, 3) := by decide +kernel
theorem dX2_sameTypes_44 : decode cX2_sameTypes 44 = .ok (.iconst 0, 1) := by decide +kernel
theorem dX2_sameTypes_45 : decode cX2_sameTypes 45 = .ok (.ireturn, 1) := by decide +kernel
theorem dX2_sameTypes_46 : decode cX2_sameTypes 46 = .ok (.iinc 2 1, 3) := by decide +kernel
theorem dX2_sameTypes_49 : decode cX2_sameTypes 49 = .ok (.goto (-34), 3) := by decide +kernel
theorem dX2_sameTypes_52 : decode cX2_sameTypes 52 = .ok (.iconst 1, 1) := by decide +kernel
theorem dX2_sameTypes_53 : decode cX2_sameTypes 53 = .ok (.ireturn, 1) := by decide +kernel
abbrev cs_t_X2_sameTypes_y (cB cI cJ cZ : ClassId) (h0 hR hM hMk hT s1 : Nat) (rt : Nat → Int32) (nn : Nat → Int64) (mk ty : Nat → Int32) (h1 hU s2 : Nat) (ty2 : Nat → Int32) (z1 z2 z3 : Value) : va_W := [(h0, .inr (3, [.int (nI s1), .ref hR, .ref hM, .ref hMk, .ref hT])), (hR, .inl (cI, 8, .inl rt)), (hM, .inl (cJ, 8, .inr (.inl nn))), (hMk, .inl (cI, 8, .inl mk)), (hT, .inl (cI, 8, .inl ty)), (h1, .inr (3, [.int (nI s2), z1, z2, z3, .ref hU])), (hU, .inl (cI, 8, .inl ty2))]
abbrev pc_t_X2_sameTypes_y (dC : Nat → ClassId) (dI : Nat → Nat → Nat) (sz : Nat) (cB cI cJ cZ : ClassId) (h0 hR hM hMk hT s1 : Nat) (rt : Nat → Int32) (nn : Nat → Int64) (mk ty : Nat → Int32) (h1 hU s2 : Nat) (ty2 : Nat → Int32) (z1 z2 z3 : Value) : Array Value → State → Prop := va_Pc [.ref h0, .ref h1] (fun U => U.heap.size = sz ∧ va_P (dC, dI) vwCl [(h0, .inr (3, [.int (nI s1), .ref hR, .ref hM, .ref hMk, .ref hT])), (hR, .inl (cI, 8, .inl rt)), (hM, .inl (cJ, 8, .inr (.inl nn))), (hMk, .inl (cI, 8, .inl mk)), (hT, .inl (cI, 8, .inl ty)), (h1, .inr (3, [.int (nI s2), z1, z2, z3, .ref hU])), (hU, .inl (cI, 8, .inl ty2))] U.heap ∧ va_K (dC, dI) vwCl [(cB, .byte), (cI, .int), (cJ, .long), (cZ, .boolean)] U ∧ va_D (fun _ => True) [(h0, .inr (3, [.int (nI s1), .ref hR, .ref hM, .ref hMk, .ref hT])), (hR, .inl (cI, 8, .inl rt)), (hM, .inl (cJ, 8, .inr (.inl nn))), (hMk, .inl (cI, 8, .inl mk)), (hT, .inl (cI, 8, .inl ty)), (h1, .inr (3, [.int (nI s2), z1, z2, z3, .ref hU])), (hU, .inl (cI, 8, .inl ty2))])
abbrev qc_t_X2_sameTypes_y (dC : Nat → ClassId) (dI : Nat → Nat → Nat) (cB cI cJ cZ : ClassId) (h0 hR hM hMk hT s1 : Nat) (rt : Nat → Int32) (nn : Nat → Int64) (mk ty : Nat → Int32) (h1 hU s2 : Nat) (ty2 : Nat → Int32) (z1 z2 z3 : Value) (A : Nat → Prop) : Array Value → State → Outcome → State → Prop := va_Qi (fun (r : Int32) (u : Unit) => match u with | _ => r = stF ty ty2 s1 0) (fun (u : Unit) t_ => match u with | _ => va_P (dC, dI) vwCl [(h0, .inr (3, [.int (nI s1), .ref hR, .ref hM, .ref hMk, .ref hT])), (hR, .inl (cI, 8, .inl rt)), (hM, .inl (cJ, 8, .inr (.inl nn))), (hMk, .inl (cI, 8, .inl mk)), (hT, .inl (cI, 8, .inl ty)), (h1, .inr (3, [.int (nI s2), z1, z2, z3, .ref hU])), (hU, .inl (cI, 8, .inl ty2))] t_.heap ∧ va_K (dC, dI) vwCl [(cB, .byte), (cI, .int), (cJ, .long), (cZ, .boolean)] t_ ∧ va_D A [(h0, .inr (3, [.int (nI s1), .ref hR, .ref hM, .ref hMk, .ref hT])), (hR, .inl (cI, 8, .inl rt)), (hM, .inl (cJ, 8, .inr (.inl nn))), (hMk, .inl (cI, 8, .inl mk)), (hT, .inl (cI, 8, .inl ty)), (h1, .inr (3, [.int (nI s2), z1, z2, z3, .ref hU])), (hU, .inl (cI, 8, .inl ty2))]) A
set_option maxHeartbeats 4000000 in
set_option maxRecDepth 100000 in
theorem t_X2_sameTypes_y (l : Launch) (dC : Nat → ClassId) (dI : Nat → Nat → Nat) (sz : Nat) (cB cI cJ cZ : ClassId) (h0 hR hM hMk hT s1 : Nat) (rt : Nat → Int32) (nn : Nat → Int64) (mk ty : Nat → Int32) (h1 hU s2 : Nat) (ty2 : Nat → Int32) (z1 z2 z3 : Value) (hs : s1 ≤ 8) (h12 : s1 = s2) : Met l yX2_sameTypes (wsOf yX2_sameTypes cX2_sameTypes 3 (some .boolean)) ({ frames := 0, cells := 0, slots := 0, locals := 0 }) (pc_t_X2_sameTypes_y dC dI sz cB cI cJ cZ h0 hR hM hMk hT s1 rt nn mk ty h1 hU s2 ty2 z1 z2 z3) (qc_t_X2_sameTypes_y dC dI cB cI cJ cZ h0 hR hM hMk hT s1 rt nn mk ty h1 hU s2 ty2 z1 z2 z3 (va_A (cs_t_X2_sameTypes_y cB cI cJ cZ h0 hR hM hMk hT s1 rt nn mk ty h1 hU s2 ty2 z1 z2 z3) sz)) 0 0 (va_A (cs_t_X2_sameTypes_y cB cI cJ cZ h0 hR hM hMk hT s1 rt nn mk ty h1 hU s2 ty2 z1 z2 z3) sz) := by
  refine Met.ofW (cc := cX2_sameTypes) (maxL := 3) (ret := (some .boolean)) (by decide) rfl ?_
  intro p e s m args below meth c s₁ B hml hv
  obtain ⟨rfl, hsz, hP, hK, hD0⟩ := hv
  have hx := B.exec
  have hb := B.bytes
  have hr := B.returns
  have hts := atoms_spec (ws := (wsOf yX2_sameTypes cX2_sameTypes 3 (some .boolean))) B.pre
  have hown : s.vm.findClass RX2 = some m.cls := findClass_of_methodNamed B.named
  have hlocks := B.notSynchronized
  subst hsz
  have hD := hD0.self (sz := s.heap.size)
  generalize hAe : va_A (cs_t_X2_sameTypes_y cB cI cJ cZ h0 hR hM hMk hT s1 rt nn mk ty h1 hU s2 ty2 z1 z2 z3) s.heap.size = A at hD ⊢
  have hA : ∀ q : Nat, s.heap.size ≤ q → A q := fun q h => by rw [← hAe]; exact Or.inr h
  have hS : va_S A s.heap s.heap [] := va_S.rf
  have hP : va_P (dC, dI) vwCl [(h0, .inr (3, [.int (nI s1), .ref hR, .ref hM, .ref hMk, .ref hT])), (hR, .inl (cI, 8, .inl rt)), (hM, .inl (cJ, 8, .inr (.inl nn))), (hMk, .inl (cI, 8, .inl mk)), (hT, .inl (cI, 8, .inl ty)), (h1, .inr (3, [.int (nI s2), z1, z2, z3, .ref hU])), (hU, .inl (cI, 8, .inl ty2))] s.heap := hP
  have hl := lv_entry ([.ref h0, .ref h1]) (n := 3) (Nat.le_of_ble_eq_true rfl)
  rw [lg_entry_eq]
  generalize (lg_sl ([.ref h0, .ref h1]) ++ List.replicate (3 - (lg_sl ([.ref h0, .ref h1])).length) Slot.unset).toArray = ls at hl ⊢
  have hl : lv_has ls 3 [(0, .ref h0), (1, .ref h1)] := hl
  refine lv_aload_n hx hb dX2_sameTypes_0 rfl (lv_at hl 0 rfl) ?_
  refine va_get (D := (dC, dI)) (ci := 3) (v := .int (nI s1)) (C := RX2) (T := TX2) (N := 5) hx hb hts (fun w h => List.mem_cons_of_mem _ (uG_X2 w h)) hown hK hP 0 rfl rfl 0 (by decide) (hts _ (List.mem_cons_of_mem _ kw_628)) (fun _ h9 => h9) rfl dX2_sameTypes_1 ?_
  refine lv_aload_n hx hb dX2_sameTypes_4 rfl (lv_at hl 1 rfl) ?_
  refine va_get (D := (dC, dI)) (ci := 3) (v := .int (nI s2)) (C := RX2) (T := TX2) (N := 5) hx hb hts (fun w h => List.mem_cons_of_mem _ (uG_X2 w h)) hown hK hP 5 rfl rfl 0 (by decide) (hts _ (List.mem_cons_of_mem _ kw_628)) (fun _ h9 => h9) rfl dX2_sameTypes_5 ?_
  refine lv_icmp_eq (tgt := 13) hx hb dX2_sameTypes_8 (by decide) (fun c_1 => ?_) (fun c_1 => ?_)
  · skip
    have c_1 : s1 = s2 := (nI_eq (a := s1) (b := s2) (by omega) (by omega)).mp c_1
    refine lv_iconst (v := 0) hx hb dX2_sameTypes_13 (by decide) ?_
    refine lv_istore_n (lv' := [(2, .int 0), (0, .ref h0), (1, .ref h1)]) hx hb dX2_sameTypes_14 rfl hl (by decide) rfl (fun ls hl => ?_)
    have lp_15 : ∀ (n_ : Nat) (i : Nat), i ≤ s1 → stF ty ty2 s1 0 = stF ty ty2 (s1 - i) i → s1 - i < n_ → ∀ (H : Heap) (locs : List Loc) (ls : Array Slot), va_P (dC, dI) vwCl [(h0, .inr (3, [.int (nI s1), .ref hR, .ref hM, .ref hMk, .ref hT])), (hR, .inl (cI, 8, .inl rt)), (hM, .inl (cJ, 8, .inr (.inl nn))), (hMk, .inl (cI, 8, .inl mk)), (hT, .inl (cI, 8, .inl ty)), (h1, .inr (3, [.int (nI s2), z1, z2, z3, .ref hU])), (hU, .inl (cI, 8, .inl ty2))] H → va_D A [(h0, .inr (3, [.int (nI s1), .ref hR, .ref hM, .ref hMk, .ref hT])), (hR, .inl (cI, 8, .inl rt)), (hM, .inl (cJ, 8, .inr (.inl nn))), (hMk, .inl (cI, 8, .inl mk)), (hT, .inl (cI, 8, .inl ty)), (h1, .inr (3, [.int (nI s2), z1, z2, z3, .ref hU])), (hU, .inl (cI, 8, .inl ty2))] → va_S A s.heap H locs → lv_has ls 3 [(2, .int (nI i)), (0, .ref h0), (1, .ref h1)] → W p l e (headSpec (wsOf yX2_sameTypes cX2_sameTypes 3 (some .boolean)) ({ frames := 0, cells := 0, slots := 0, locals := 0 })).room s m ([.ref h0, .ref h1] : List Value).toArray below meth c H locs 0 0 (MQ below (qc_t_X2_sameTypes_y dC dI cB cI cJ cZ h0 hR hM hMk hT s1 rt nn mk ty h1 hU s2 ty2 z1 z2 z3 A) ([.ref h0, .ref h1] : List Value).toArray s 0 0 A) (F0 m 15 ls []) := by
      intro n_
      induction n_ with
      | zero => intro i hi hin hm; exact absurd hm (Nat.not_lt_zero _)
      | succ n_ ih_15 =>
        intro i hi hin hm H locs ls hP hD hS hl
        refine lv_iload_n hx hb dX2_sameTypes_15 rfl (lv_at hl 0 rfl) ?_
        refine lv_aload_n hx hb dX2_sameTypes_16 rfl (lv_at hl 1 rfl) ?_
        refine va_get (D := (dC, dI)) (ci := 3) (v := .int (nI s1)) (C := RX2) (T := TX2) (N := 5) hx hb hts (fun w h => List.mem_cons_of_mem _ (uG_X2 w h)) hown hK hP 0 rfl rfl 0 (by decide) (hts _ (List.mem_cons_of_mem _ kw_628)) (fun _ h9 => h9) rfl dX2_sameTypes_17 ?_
        refine lv_icmp_ge (tgt := 52) hx hb dX2_sameTypes_20 (by decide) (fun c_2 => ?_) (fun c_2 => ?_)
        · skip
          have c_2 : s1 ≤ i := (nI_leI (a := s1) (b := i) (by omega) (by omega)).mp c_2
          refine lv_iconst (v := 1) hx hb dX2_sameTypes_52 (by decide) ?_
          have hP9 := hP.sub (ws' := [(h0, .inr (3, [.int (nI s1), .ref hR, .ref hM, .ref hMk, .ref hT])), (hR, .inl (cI, 8, .inl rt)), (hM, .inl (cJ, 8, .inr (.inl nn))), (hMk, .inl (cI, 8, .inl mk)), (hT, .inl (cI, 8, .inl ty)), (h1, .inr (3, [.int (nI s2), z1, z2, z3, .ref hU])), (hU, .inl (cI, 8, .inl ty2))]) [0, 1, 2, 3, 4, 5, 6] rfl
          have hD9 := hD.sub (ws' := [(h0, .inr (3, [.int (nI s1), .ref hR, .ref hM, .ref hMk, .ref hT])), (hR, .inl (cI, 8, .inl rt)), (hM, .inl (cJ, 8, .inr (.inl nn))), (hMk, .inl (cI, 8, .inl mk)), (hT, .inl (cI, 8, .inl ty)), (h1, .inr (3, [.int (nI s2), z1, z2, z3, .ref hU])), (hU, .inl (cI, 8, .inl ty2))]) [0, 1, 2, 3, 4, 5, 6] (by decide) rfl
          have hK9 := hK.sub (tys' := [(cB, .byte), (cI, .int), (cJ, .long), (cZ, .boolean)]) [0, 1, 2, 3] rfl
          exact W.zret (v := 1) hx hb hr (by rfl) (fun t_ ht hW => ⟨⟨1, (), rfl, (by rw [hin, show s1 - i = 0 by omega]; rfl), by rw [ht]; exact hP9, va_K.moved hW.alike hK9, hD9⟩, hS.F ht⟩) hS.2.2 dX2_sameTypes_53
        · skip
          have c_2 : ¬ (s1 ≤ i) := fun h => c_2 ((nI_leI (a := s1) (b := i) (by omega) (by omega)).mpr h)
          refine lv_iload_n hx hb dX2_sameTypes_23 rfl (lv_at hl 0 rfl) ?_
          refine lv_bipush (v := 8) hx hb dX2_sameTypes_24 (by decide) ?_
          refine lv_icmp_ge (tgt := 52) hx hb dX2_sameTypes_26 (by decide) (fun c_3 => ?_) (fun c_3 => ?_)
          · skip
            have c_3 : 8 ≤ i := (nI_leI (a := 8) (b := i) (by omega) (by omega)).mp c_3
            exact absurd c_3 (by omega)
          · skip
            have c_3 : ¬ (8 ≤ i) := fun h => c_3 ((nI_leI (a := 8) (b := i) (by omega) (by omega)).mpr h)
            refine lv_aload_n hx hb dX2_sameTypes_29 rfl (lv_at hl 1 rfl) ?_
            refine va_get (D := (dC, dI)) (ci := 3) (v := .ref hT) (C := RX2) (T := TX2) (N := 5) hx hb hts (fun w h => List.mem_cons_of_mem _ (uG_X2 w h)) hown hK hP 0 rfl rfl 4 (by decide) (hts _ (List.mem_cons_of_mem _ kw_640)) (fun _ h9 => h9) rfl dX2_sameTypes_30 ?_
            refine lv_iload_n hx hb dX2_sameTypes_33 rfl (lv_at hl 0 rfl) ?_
            refine va_iald hx hb hK hP 4 1 rfl rfl (i := (nI i)) (vp_in_nI (n := i) (N := 8) (by omega) (by omega)) dX2_sameTypes_34 ?_
            refine lv_topi (fun x_4 ex_4 => ?_)
            have ex_4 : x_4 = ty i := ex_4.trans (congrArg ty (nI_clamp (n := i) (by omega)))
            subst ex_4
            refine lv_aload_n hx hb dX2_sameTypes_35 rfl (lv_at hl 2 rfl) ?_
            refine va_get (D := (dC, dI)) (ci := 3) (v := .ref hU) (C := RX2) (T := TX2) (N := 5) hx hb hts (fun w h => List.mem_cons_of_mem _ (uG_X2 w h)) hown hK hP 5 rfl rfl 4 (by decide) (hts _ (List.mem_cons_of_mem _ kw_640)) (fun _ h9 => h9) rfl dX2_sameTypes_36 ?_
            refine lv_iload_n hx hb dX2_sameTypes_39 rfl (lv_at hl 0 rfl) ?_
            refine va_iald hx hb hK hP 6 1 rfl rfl (i := (nI i)) (vp_in_nI (n := i) (N := 8) (by omega) (by omega)) dX2_sameTypes_40 ?_
            refine lv_topi (fun x_5 ex_5 => ?_)
            have ex_5 : x_5 = ty2 i := ex_5.trans (congrArg ty2 (nI_clamp (n := i) (by omega)))
            subst ex_5
            refine lv_icmp_eq (tgt := 46) hx hb dX2_sameTypes_41 (by decide) (fun c_6 => ?_) (fun c_6 => ?_)
            · skip
              refine lv_iinc (v := nI (i + 1)) (lv' := [(2, .int (nI (i + 1))), (0, .ref h0), (1, .ref h1)]) hx hb dX2_sameTypes_46 hl (k := 0) rfl (nI_add i 1) (by decide) rfl (fun ls hl => ?_)
              refine lv_goto (tgt := 15) hx hb dX2_sameTypes_49 (by decide) ?_
              exact ih_15 (i + 1) (by omega) (hin.trans (stF_y (by omega) c_6)) (by omega) _ _ _ (hP.sub [0, 1, 2, 3, 4, 5, 6] rfl) (hD.sub [0, 1, 2, 3, 4, 5, 6] (by decide) rfl) hS (lv_sub hl [0, 1, 2] rfl)
            · skip
              refine lv_iconst (v := 0) hx hb dX2_sameTypes_44 (by decide) ?_
              have hP9 := hP.sub (ws' := [(h0, .inr (3, [.int (nI s1), .ref hR, .ref hM, .ref hMk, .ref hT])), (hR, .inl (cI, 8, .inl rt)), (hM, .inl (cJ, 8, .inr (.inl nn))), (hMk, .inl (cI, 8, .inl mk)), (hT, .inl (cI, 8, .inl ty)), (h1, .inr (3, [.int (nI s2), z1, z2, z3, .ref hU])), (hU, .inl (cI, 8, .inl ty2))]) [0, 1, 2, 3, 4, 5, 6] rfl
              have hD9 := hD.sub (ws' := [(h0, .inr (3, [.int (nI s1), .ref hR, .ref hM, .ref hMk, .ref hT])), (hR, .inl (cI, 8, .inl rt)), (hM, .inl (cJ, 8, .inr (.inl nn))), (hMk, .inl (cI, 8, .inl mk)), (hT, .inl (cI, 8, .inl ty)), (h1, .inr (3, [.int (nI s2), z1, z2, z3, .ref hU])), (hU, .inl (cI, 8, .inl ty2))]) [0, 1, 2, 3, 4, 5, 6] (by decide) rfl
              have hK9 := hK.sub (tys' := [(cB, .byte), (cI, .int), (cJ, .long), (cZ, .boolean)]) [0, 1, 2, 3] rfl
              exact W.zret (v := 0) hx hb hr (by rfl) (fun t_ ht hW => ⟨⟨0, (), rfl, (hin.trans (stF_n (by omega) c_6)).symm, by rw [ht]; exact hP9, va_K.moved hW.alike hK9, hD9⟩, hS.F ht⟩) hS.2.2 dX2_sameTypes_45
    exact lp_15 _ 0 (Nat.zero_le _) rfl (Nat.lt_succ_self _) _ _ _ (hP.sub [0, 1, 2, 3, 4, 5, 6] rfl) (hD.sub [0, 1, 2, 3, 4, 5, 6] (by decide) rfl) hS (lv_sub hl [0, 1, 2] rfl)
  · skip
    have c_1 : ¬ (s1 = s2) := fun h => c_1 ((nI_eq (a := s1) (b := s2) (by omega) (by omega)).mpr h)
    exact absurd h12 c_1
abbrev cs_t_X2_sameTypes_n (cB cI cJ cZ : ClassId) (h0 hR hM hMk hT s1 : Nat) (rt : Nat → Int32) (nn : Nat → Int64) (mk ty : Nat → Int32) (h1 hU s2 : Nat) (ty2 : Nat → Int32) (z1 z2 z3 : Value) : va_W := [(h0, .inr (3, [.int (nI s1), .ref hR, .ref hM, .ref hMk, .ref hT])), (hR, .inl (cI, 8, .inl rt)), (hM, .inl (cJ, 8, .inr (.inl nn))), (hMk, .inl (cI, 8, .inl mk)), (hT, .inl (cI, 8, .inl ty)), (h1, .inr (3, [.int (nI s2), z1, z2, z3, .ref hU])), (hU, .inl (cI, 8, .inl ty2))]
abbrev pc_t_X2_sameTypes_n (dC : Nat → ClassId) (dI : Nat → Nat → Nat) (sz : Nat) (cB cI cJ cZ : ClassId) (h0 hR hM hMk hT s1 : Nat) (rt : Nat → Int32) (nn : Nat → Int64) (mk ty : Nat → Int32) (h1 hU s2 : Nat) (ty2 : Nat → Int32) (z1 z2 z3 : Value) : Array Value → State → Prop := va_Pc [.ref h0, .ref h1] (fun U => U.heap.size = sz ∧ va_P (dC, dI) vwCl [(h0, .inr (3, [.int (nI s1), .ref hR, .ref hM, .ref hMk, .ref hT])), (hR, .inl (cI, 8, .inl rt)), (hM, .inl (cJ, 8, .inr (.inl nn))), (hMk, .inl (cI, 8, .inl mk)), (hT, .inl (cI, 8, .inl ty)), (h1, .inr (3, [.int (nI s2), z1, z2, z3, .ref hU])), (hU, .inl (cI, 8, .inl ty2))] U.heap ∧ va_K (dC, dI) vwCl [(cB, .byte), (cI, .int), (cJ, .long), (cZ, .boolean)] U ∧ va_D (fun _ => True) [(h0, .inr (3, [.int (nI s1), .ref hR, .ref hM, .ref hMk, .ref hT])), (hR, .inl (cI, 8, .inl rt)), (hM, .inl (cJ, 8, .inr (.inl nn))), (hMk, .inl (cI, 8, .inl mk)), (hT, .inl (cI, 8, .inl ty)), (h1, .inr (3, [.int (nI s2), z1, z2, z3, .ref hU])), (hU, .inl (cI, 8, .inl ty2))])
abbrev qc_t_X2_sameTypes_n (dC : Nat → ClassId) (dI : Nat → Nat → Nat) (cB cI cJ cZ : ClassId) (h0 hR hM hMk hT s1 : Nat) (rt : Nat → Int32) (nn : Nat → Int64) (mk ty : Nat → Int32) (h1 hU s2 : Nat) (ty2 : Nat → Int32) (z1 z2 z3 : Value) (A : Nat → Prop) : Array Value → State → Outcome → State → Prop := va_Qi (fun (r : Int32) (u : Unit) => match u with | _ => r = 0) (fun (u : Unit) t_ => match u with | _ => va_P (dC, dI) vwCl [(h0, .inr (3, [.int (nI s1), .ref hR, .ref hM, .ref hMk, .ref hT])), (hR, .inl (cI, 8, .inl rt)), (hM, .inl (cJ, 8, .inr (.inl nn))), (hMk, .inl (cI, 8, .inl mk)), (hT, .inl (cI, 8, .inl ty)), (h1, .inr (3, [.int (nI s2), z1, z2, z3, .ref hU])), (hU, .inl (cI, 8, .inl ty2))] t_.heap ∧ va_K (dC, dI) vwCl [(cB, .byte), (cI, .int), (cJ, .long), (cZ, .boolean)] t_ ∧ va_D A [(h0, .inr (3, [.int (nI s1), .ref hR, .ref hM, .ref hMk, .ref hT])), (hR, .inl (cI, 8, .inl rt)), (hM, .inl (cJ, 8, .inr (.inl nn))), (hMk, .inl (cI, 8, .inl mk)), (hT, .inl (cI, 8, .inl ty)), (h1, .inr (3, [.int (nI s2), z1, z2, z3, .ref hU])), (hU, .inl (cI, 8, .inl ty2))]) A
set_option maxHeartbeats 4000000 in
set_option maxRecDepth 100000 in
theorem t_X2_sameTypes_n (l : Launch) (dC : Nat → ClassId) (dI : Nat → Nat → Nat) (sz : Nat) (cB cI cJ cZ : ClassId) (h0 hR hM hMk hT s1 : Nat) (rt : Nat → Int32) (nn : Nat → Int64) (mk ty : Nat → Int32) (h1 hU s2 : Nat) (ty2 : Nat → Int32) (z1 z2 z3 : Value) (hs : s1 ≤ 8) (hs2 : s2 ≤ 8) (h12 : ¬ s1 = s2) : Met l yX2_sameTypes (wsOf yX2_sameTypes cX2_sameTypes 3 (some .boolean)) ({ frames := 0, cells := 0, slots := 0, locals := 0 }) (pc_t_X2_sameTypes_n dC dI sz cB cI cJ cZ h0 hR hM hMk hT s1 rt nn mk ty h1 hU s2 ty2 z1 z2 z3) (qc_t_X2_sameTypes_n dC dI cB cI cJ cZ h0 hR hM hMk hT s1 rt nn mk ty h1 hU s2 ty2 z1 z2 z3 (va_A (cs_t_X2_sameTypes_n cB cI cJ cZ h0 hR hM hMk hT s1 rt nn mk ty h1 hU s2 ty2 z1 z2 z3) sz)) 0 0 (va_A (cs_t_X2_sameTypes_n cB cI cJ cZ h0 hR hM hMk hT s1 rt nn mk ty h1 hU s2 ty2 z1 z2 z3) sz) := by
  refine Met.ofW (cc := cX2_sameTypes) (maxL := 3) (ret := (some .boolean)) (by decide) rfl ?_
  intro p e s m args below meth c s₁ B hml hv
  obtain ⟨rfl, hsz, hP, hK, hD0⟩ := hv
  have hx := B.exec
  have hb := B.bytes
  have hr := B.returns
  have hts := atoms_spec (ws := (wsOf yX2_sameTypes cX2_sameTypes 3 (some .boolean))) B.pre
  have hown : s.vm.findClass RX2 = some m.cls := findClass_of_methodNamed B.named
  have hlocks := B.notSynchronized
  subst hsz
  have hD := hD0.self (sz := s.heap.size)
  generalize hAe : va_A (cs_t_X2_sameTypes_n cB cI cJ cZ h0 hR hM hMk hT s1 rt nn mk ty h1 hU s2 ty2 z1 z2 z3) s.heap.size = A at hD ⊢
  have hA : ∀ q : Nat, s.heap.size ≤ q → A q := fun q h => by rw [← hAe]; exact Or.inr h
  have hS : va_S A s.heap s.heap [] := va_S.rf
  have hP : va_P (dC, dI) vwCl [(h0, .inr (3, [.int (nI s1), .ref hR, .ref hM, .ref hMk, .ref hT])), (hR, .inl (cI, 8, .inl rt)), (hM, .inl (cJ, 8, .inr (.inl nn))), (hMk, .inl (cI, 8, .inl mk)), (hT, .inl (cI, 8, .inl ty)), (h1, .inr (3, [.int (nI s2), z1, z2, z3, .ref hU])), (hU, .inl (cI, 8, .inl ty2))] s.heap := hP
  have hl := lv_entry ([.ref h0, .ref h1]) (n := 3) (Nat.le_of_ble_eq_true rfl)
  rw [lg_entry_eq]
  generalize (lg_sl ([.ref h0, .ref h1]) ++ List.replicate (3 - (lg_sl ([.ref h0, .ref h1])).length) Slot.unset).toArray = ls at hl ⊢
  have hl : lv_has ls 3 [(0, .ref h0), (1, .ref h1)] := hl
  refine lv_aload_n hx hb dX2_sameTypes_0 rfl (lv_at hl 0 rfl) ?_
  refine va_get (D := (dC, dI)) (ci := 3) (v := .int (nI s1)) (C := RX2) (T := TX2) (N := 5) hx hb hts (fun w h => List.mem_cons_of_mem _ (uG_X2 w h)) hown hK hP 0 rfl rfl 0 (by decide) (hts _ (List.mem_cons_of_mem _ kw_628)) (fun _ h9 => h9) rfl dX2_sameTypes_1 ?_
  refine lv_aload_n hx hb dX2_sameTypes_4 rfl (lv_at hl 1 rfl) ?_
  refine va_get (D := (dC, dI)) (ci := 3) (v := .int (nI s2)) (C := RX2) (T := TX2) (N := 5) hx hb hts (fun w h => List.mem_cons_of_mem _ (uG_X2 w h)) hown hK hP 5 rfl rfl 0 (by decide) (hts _ (List.mem_cons_of_mem _ kw_628)) (fun _ h9 => h9) rfl dX2_sameTypes_5 ?_
  refine lv_icmp_eq (tgt := 13) hx hb dX2_sameTypes_8 (by decide) (fun c_1 => ?_) (fun c_1 => ?_)
  · skip
    have c_1 : s1 = s2 := (nI_eq (a := s1) (b := s2) (by omega) (by omega)).mp c_1
    exact absurd c_1 h12
  · skip
    have c_1 : ¬ (s1 = s2) := fun h => c_1 ((nI_eq (a := s1) (b := s2) (by omega) (by omega)).mpr h)
    refine lv_iconst (v := 0) hx hb dX2_sameTypes_11 (by decide) ?_
    have hP9 := hP.sub (ws' := [(h0, .inr (3, [.int (nI s1), .ref hR, .ref hM, .ref hMk, .ref hT])), (hR, .inl (cI, 8, .inl rt)), (hM, .inl (cJ, 8, .inr (.inl nn))), (hMk, .inl (cI, 8, .inl mk)), (hT, .inl (cI, 8, .inl ty)), (h1, .inr (3, [.int (nI s2), z1, z2, z3, .ref hU])), (hU, .inl (cI, 8, .inl ty2))]) [0, 1, 2, 3, 4, 5, 6] rfl
    have hD9 := hD.sub (ws' := [(h0, .inr (3, [.int (nI s1), .ref hR, .ref hM, .ref hMk, .ref hT])), (hR, .inl (cI, 8, .inl rt)), (hM, .inl (cJ, 8, .inr (.inl nn))), (hMk, .inl (cI, 8, .inl mk)), (hT, .inl (cI, 8, .inl ty)), (h1, .inr (3, [.int (nI s2), z1, z2, z3, .ref hU])), (hU, .inl (cI, 8, .inl ty2))]) [0, 1, 2, 3, 4, 5, 6] (by decide) rfl
    have hK9 := hK.sub (tys' := [(cB, .byte), (cI, .int), (cJ, .long), (cZ, .boolean)]) [0, 1, 2, 3] rfl
    exact W.zret (v := 0) hx hb hr (by rfl) (fun t_ ht hW => ⟨⟨0, (), rfl, rfl, by rw [ht]; exact hP9, va_K.moved hW.alike hK9, hD9⟩, hS.F ht⟩) hS.2.2 dX2_sameTypes_12

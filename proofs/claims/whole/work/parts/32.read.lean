/-! what the reference sees -/
def isS (gd s1 y1 : Int32) : Int32 := if gd = 0 then 0 else if s1 = y1 then 1 else 0
theorem isS_y {gd s1 y1 : Int32} (h : isS gd s1 y1 = 1) : ¬ gd = 0 ∧ s1 = y1 := by unfold isS at h; by_cases e : gd = 0 <;> by_cases e2 : s1 = y1 <;> simp_all
def smF (g : Nat → Int32) (x y : Nat) : Nat → Nat → Int32
  | 0, _ => 1
  | n + 1, i => if g (x + i) = g (y + i) then smF g x y n (i + 1) else 0
theorem smF_y {g : Nat → Int32} {x y w i : Nat} (hi : i < w) (h : g (x + i) = g (y + i)) : smF g x y (w - i) i = smF g x y (w - (i + 1)) (i + 1) := by
  rw [show w - i = (w - (i + 1)) + 1 by omega]
  exact if_pos h
theorem smF_n {g : Nat → Int32} {x y w i : Nat} (hi : i < w) (h : ¬ g (x + i) = g (y + i)) : smF g x y (w - i) i = 0 := by
  rw [show w - i = (w - (i + 1)) + 1 by omega]
  exact if_neg h
theorem dX12_tell_0 : decode cX12_tell 0 = .ok (.aload_n 0, 1) := by decide +kernel
theorem dX12_tell_1 : decode cX12_tell 1 = .ok (.getfield 292, 3) := by decide +kernel
theorem dX12_tell_4 : decode cX12_tell 4 = .ok (.ifCond .eq 18, 3) := by decide +kernel
theorem dX12_tell_7 : decode cX12_tell 7 = .ok (.aload_n 0, 1) := by decide +kernel
theorem dX12_tell_8 : decode cX12_tell 8 = .ok (.iconst 0, 1) := by decide +kernel
theorem dX12_tell_9 : decode cX12_tell 9 = .ok (.putfield 292, 3) := by decide +kernel
theorem dX12_tell_12 : decode cX12_tell 12 = .ok (.aload_n 0, 1) := by decide +kernel
theorem dX12_tell_13 : decode cX12_tell 13 = .ok (.iload_n 1, 1) := by decide +kernel
theorem dX12_tell_14 : decode cX12_tell 14 = .ok (.putfield 296, 3) := by decide +kernel
theorem dX12_tell_17 : decode cX12_tell 17 = .ok (.aload_n 0, 1) := by decide +kernel
theorem dX12_tell_18 : decode cX12_tell 18 = .ok (.iload_n 2, 1) := by decide +kernel
theorem dX12_tell_19 : decode cX12_tell 19 = .ok (.putfield 299, 3) := by decide +kernel
theorem dX12_tell_22 : decode cX12_tell 22 = .ok (.return_, 1) := by decide +kernel
abbrev cs_t_X12_tell_1 (cB cI cJ cZ : ClassId) (h0 : Nat) (a : Nat → Nat) (f : Nat → Int32) (w : Int64) (n1 p1 : Int32) : va_W := [(h0, .inr (13, moF a f w))]
abbrev pc_t_X12_tell_1 (dC : Nat → ClassId) (dI : Nat → Nat → Nat) (sz : Nat) (cB cI cJ cZ : ClassId) (h0 : Nat) (a : Nat → Nat) (f : Nat → Int32) (w : Int64) (n1 p1 : Int32) : Array Value → State → Prop := va_Pc [.ref h0, .int n1, .int p1] (fun U => U.heap.size = sz ∧ va_P (dC, dI) vwCl [(h0, .inr (13, moF a f w))] U.heap ∧ va_K (dC, dI) vwCl [(cB, .byte), (cI, .int), (cJ, .long), (cZ, .boolean)] U ∧ va_D (fun _ => True) [(h0, .inr (13, moF a f w))])
abbrev qc_t_X12_tell_1 (dC : Nat → ClassId) (dI : Nat → Nat → Nat) (cB cI cJ cZ : ClassId) (h0 : Nat) (a : Nat → Nat) (f : Nat → Int32) (w : Int64) (n1 p1 : Int32) (A : Nat → Prop) : Array Value → State → Outcome → State → Prop := va_Qv (fun (u : Unit) => match u with | _ => True) (fun (u : Unit) t_ => match u with | _ => va_P (dC, dI) vwCl [(h0, .inr (13, moF a (upd (upd (upd f 21 0) 19 n1) 20 p1) w))] t_.heap ∧ va_K (dC, dI) vwCl [(cB, .byte), (cI, .int), (cJ, .long), (cZ, .boolean)] t_ ∧ va_D A [(h0, .inr (13, moF a (upd (upd (upd f 21 0) 19 n1) 20 p1) w))]) A
set_option maxHeartbeats 4000000 in
set_option maxRecDepth 100000 in
theorem t_X12_tell_1 (l : Launch) (dC : Nat → ClassId) (dI : Nat → Nat → Nat) (sz : Nat) (cB cI cJ cZ : ClassId) (h0 : Nat) (a : Nat → Nat) (f : Nat → Int32) (w : Int64) (n1 p1 : Int32) (hg : ¬ f 21 = 0) : Met l yX12_tell (wsOf yX12_tell cX12_tell 3 none) ({ frames := 0, cells := 0, slots := 0, locals := 0 }) (pc_t_X12_tell_1 dC dI sz cB cI cJ cZ h0 a f w n1 p1) (qc_t_X12_tell_1 dC dI cB cI cJ cZ h0 a f w n1 p1 (va_A (cs_t_X12_tell_1 cB cI cJ cZ h0 a f w n1 p1) sz)) 0 0 (va_A (cs_t_X12_tell_1 cB cI cJ cZ h0 a f w n1 p1) sz) := by
  refine Met.ofW (cc := cX12_tell) (maxL := 3) (ret := none) (by decide) rfl ?_
  intro p e s m args below meth c s₁ B hml hv
  obtain ⟨rfl, hsz, hP, hK, hD0⟩ := hv
  have hx := B.exec
  have hb := B.bytes
  have hr := B.returns
  have hts := atoms_spec (ws := (wsOf yX12_tell cX12_tell 3 none)) B.pre
  have hown : s.vm.findClass RX12 = some m.cls := findClass_of_methodNamed B.named
  have hlocks := B.notSynchronized
  subst hsz
  have hD := hD0.self (sz := s.heap.size)
  generalize hAe : va_A (cs_t_X12_tell_1 cB cI cJ cZ h0 a f w n1 p1) s.heap.size = A at hD ⊢
  have hA : ∀ q : Nat, s.heap.size ≤ q → A q := fun q h => by rw [← hAe]; exact Or.inr h
  have hS : va_S A s.heap s.heap [] := va_S.rf
  have hP : va_P (dC, dI) vwCl [(h0, .inr (13, moF a f w))] s.heap := hP
  have hl := lv_entry ([.ref h0, .int n1, .int p1]) (n := 3) (Nat.le_of_ble_eq_true rfl)
  rw [lg_entry_eq]
  generalize (lg_sl ([.ref h0, .int n1, .int p1]) ++ List.replicate (3 - (lg_sl ([.ref h0, .int n1, .int p1])).length) Slot.unset).toArray = ls at hl ⊢
  have hl : lv_has ls 3 [(0, .ref h0), (1, .int n1), (2, .int p1)] := hl
  refine lv_aload_n hx hb dX12_tell_0 rfl (lv_at hl 0 rfl) ?_
  refine va_get (D := (dC, dI)) (ci := 13) (v := .int (f 21)) (C := RX12) (T := TX12) (N := 115) hx hb hts (fun w h => List.mem_cons_of_mem _ (uG_X12 w h)) hown hK hP 0 rfl rfl 21 (by decide) (hts _ (List.mem_cons_of_mem _ kw_1712)) (fun _ h9 => h9) rfl dX12_tell_1 ?_
  refine lv_if_eq (tgt := 22) hx hb dX12_tell_4 (by decide) (fun c_1 => ?_) (fun c_1 => ?_)
  · skip
    exact absurd c_1 hg
  · skip
    refine lv_aload_n hx hb dX12_tell_7 rfl (lv_at hl 0 rfl) ?_
    refine lv_iconst (v := 0) hx hb dX12_tell_8 (by decide) ?_
    refine va_put (D := (dC, dI)) (ci := 13) (v := .int 0) (ty := .boolean) (C := RX12) (T := TX12) (N := 115) hx hb hts (fun w h => List.mem_cons_of_mem _ (uG_X12 w h)) tyX12 tyX12_ok nmX12 hown hK hP hD hS 0 rfl rfl 21 (by decide) (hts _ (List.mem_cons_of_mem _ kw_1712)) (fun _ h9 => h9) rfl (by decide +kernel) rfl rfl (Nat.le_of_ble_eq_true rfl) dX12_tell_9 (fun H locs hP hD hS => ?_)
    have hP : va_P (dC, dI) vwCl [(h0, .inr (13, moF a (upd f 21 0) w))] H := hP
    have hD : va_D A [(h0, .inr (13, moF a (upd f 21 0) w))] := hD
    refine lv_aload_n hx hb dX12_tell_12 rfl (lv_at hl 0 rfl) ?_
    refine lv_iload_n hx hb dX12_tell_13 rfl (lv_at hl 1 rfl) ?_
    refine va_put (D := (dC, dI)) (ci := 13) (v := .int n1) (ty := .int) (C := RX12) (T := TX12) (N := 115) hx hb hts (fun w h => List.mem_cons_of_mem _ (uG_X12 w h)) tyX12 tyX12_ok nmX12 hown hK hP hD hS 0 rfl rfl 19 (by decide) (hts _ (List.mem_cons_of_mem _ kw_1710)) (fun _ h9 => h9) rfl (by decide +kernel) rfl rfl (Nat.le_of_ble_eq_true rfl) dX12_tell_14 (fun H locs hP hD hS => ?_)
    have hP : va_P (dC, dI) vwCl [(h0, .inr (13, moF a (upd (upd f 21 0) 19 n1) w))] H := hP
    have hD : va_D A [(h0, .inr (13, moF a (upd (upd f 21 0) 19 n1) w))] := hD
    refine lv_aload_n hx hb dX12_tell_17 rfl (lv_at hl 0 rfl) ?_
    refine lv_iload_n hx hb dX12_tell_18 rfl (lv_at hl 2 rfl) ?_
    refine va_put (D := (dC, dI)) (ci := 13) (v := .int p1) (ty := .int) (C := RX12) (T := TX12) (N := 115) hx hb hts (fun w h => List.mem_cons_of_mem _ (uG_X12 w h)) tyX12 tyX12_ok nmX12 hown hK hP hD hS 0 rfl rfl 20 (by decide) (hts _ (List.mem_cons_of_mem _ kw_1711)) (fun _ h9 => h9) rfl (by decide +kernel) rfl rfl (Nat.le_of_ble_eq_true rfl) dX12_tell_19 (fun H locs hP hD hS => ?_)
    have hP : va_P (dC, dI) vwCl [(h0, .inr (13, moF a (upd (upd (upd f 21 0) 19 n1) 20 p1) w))] H := hP
    have hD : va_D A [(h0, .inr (13, moF a (upd (upd (upd f 21 0) 19 n1) 20 p1) w))] := hD
    have hP9 := hP.sub (ws' := [(h0, .inr (13, moF a (upd (upd (upd f 21 0) 19 n1) 20 p1) w))]) [0] rfl
    have hD9 := hD.sub (ws' := [(h0, .inr (13, moF a (upd (upd (upd f 21 0) 19 n1) 20 p1) w))]) [0] (by decide) rfl
    have hK9 := hK.sub (tys' := [(cB, .byte), (cI, .int), (cJ, .long), (cZ, .boolean)]) [0, 1, 2, 3] rfl
    exact W.vret hx hb hr (fun t_ ht hW => ⟨⟨(), rfl, trivial, by rw [ht]; exact hP9, va_K.moved hW.alike hK9, hD9⟩, hS.F ht⟩) hS.2.2 dX12_tell_22
abbrev cs_t_X12_tell_0 (cB cI cJ cZ : ClassId) (h0 : Nat) (a : Nat → Nat) (f : Nat → Int32) (w : Int64) (n1 p1 : Int32) : va_W := [(h0, .inr (13, moF a f w))]
abbrev pc_t_X12_tell_0 (dC : Nat → ClassId) (dI : Nat → Nat → Nat) (sz : Nat) (cB cI cJ cZ : ClassId) (h0 : Nat) (a : Nat → Nat) (f : Nat → Int32) (w : Int64) (n1 p1 : Int32) : Array Value → State → Prop := va_Pc [.ref h0, .int n1, .int p1] (fun U => U.heap.size = sz ∧ va_P (dC, dI) vwCl [(h0, .inr (13, moF a f w))] U.heap ∧ va_K (dC, dI) vwCl [(cB, .byte), (cI, .int), (cJ, .long), (cZ, .boolean)] U ∧ va_D (fun _ => True) [(h0, .inr (13, moF a f w))])
abbrev qc_t_X12_tell_0 (dC : Nat → ClassId) (dI : Nat → Nat → Nat) (cB cI cJ cZ : ClassId) (h0 : Nat) (a : Nat → Nat) (f : Nat → Int32) (w : Int64) (n1 p1 : Int32) (A : Nat → Prop) : Array Value → State → Outcome → State → Prop := va_Qv (fun (u : Unit) => match u with | _ => True) (fun (u : Unit) t_ => match u with | _ => va_P (dC, dI) vwCl [(h0, .inr (13, moF a f w))] t_.heap ∧ va_K (dC, dI) vwCl [(cB, .byte), (cI, .int), (cJ, .long), (cZ, .boolean)] t_ ∧ va_D A [(h0, .inr (13, moF a f w))]) A
set_option maxHeartbeats 4000000 in
set_option maxRecDepth 100000 in
theorem t_X12_tell_0 (l : Launch) (dC : Nat → ClassId) (dI : Nat → Nat → Nat) (sz : Nat) (cB cI cJ cZ : ClassId) (h0 : Nat) (a : Nat → Nat) (f : Nat → Int32) (w : Int64) (n1 p1 : Int32) (hg : f 21 = 0) : Met l yX12_tell (wsOf yX12_tell cX12_tell 3 none) ({ frames := 0, cells := 0, slots := 0, locals := 0 }) (pc_t_X12_tell_0 dC dI sz cB cI cJ cZ h0 a f w n1 p1) (qc_t_X12_tell_0 dC dI cB cI cJ cZ h0 a f w n1 p1 (va_A (cs_t_X12_tell_0 cB cI cJ cZ h0 a f w n1 p1) sz)) 0 0 (va_A (cs_t_X12_tell_0 cB cI cJ cZ h0 a f w n1 p1) sz) := by
  refine Met.ofW (cc := cX12_tell) (maxL := 3) (ret := none) (by decide) rfl ?_
  intro p e s m args below meth c s₁ B hml hv
  obtain ⟨rfl, hsz, hP, hK, hD0⟩ := hv
  have hx := B.exec
  have hb := B.bytes
  have hr := B.returns
  have hts := atoms_spec (ws := (wsOf yX12_tell cX12_tell 3 none)) B.pre
  have hown : s.vm.findClass RX12 = some m.cls := findClass_of_methodNamed B.named
  have hlocks := B.notSynchronized
  subst hsz
  have hD := hD0.self (sz := s.heap.size)
  generalize hAe : va_A (cs_t_X12_tell_0 cB cI cJ cZ h0 a f w n1 p1) s.heap.size = A at hD ⊢
  have hA : ∀ q : Nat, s.heap.size ≤ q → A q := fun q h => by rw [← hAe]; exact Or.inr h
  have hS : va_S A s.heap s.heap [] := va_S.rf
  have hP : va_P (dC, dI) vwCl [(h0, .inr (13, moF a f w))] s.heap := hP
  have hl := lv_entry ([.ref h0, .int n1, .int p1]) (n := 3) (Nat.le_of_ble_eq_true rfl)
  rw [lg_entry_eq]
  generalize (lg_sl ([.ref h0, .int n1, .int p1]) ++ List.replicate (3 - (lg_sl ([.ref h0, .int n1, .int p1])).length) Slot.unset).toArray = ls at hl ⊢
  have hl : lv_has ls 3 [(0, .ref h0), (1, .int n1), (2, .int p1)] := hl
  refine lv_aload_n hx hb dX12_tell_0 rfl (lv_at hl 0 rfl) ?_
  refine va_get (D := (dC, dI)) (ci := 13) (v := .int (f 21)) (C := RX12) (T := TX12) (N := 115) hx hb hts (fun w h => List.mem_cons_of_mem _ (uG_X12 w h)) hown hK hP 0 rfl rfl 21 (by decide) (hts _ (List.mem_cons_of_mem _ kw_1712)) (fun _ h9 => h9) rfl dX12_tell_1 ?_
  refine lv_if_eq (tgt := 22) hx hb dX12_tell_4 (by decide) (fun c_1 => ?_) (fun c_1 => ?_)
  · skip
    have hP9 := hP.sub (ws' := [(h0, .inr (13, moF a f w))]) [0] rfl
    have hD9 := hD.sub (ws' := [(h0, .inr (13, moF a f w))]) [0] (by decide) rfl
    have hK9 := hK.sub (tys' := [(cB, .byte), (cI, .int), (cJ, .long), (cZ, .boolean)]) [0, 1, 2, 3] rfl
    exact W.vret hx hb hr (fun t_ ht hW => ⟨⟨(), rfl, trivial, by rw [ht]; exact hP9, va_K.moved hW.alike hK9, hD9⟩, hS.F ht⟩) hS.2.2 dX12_tell_22
  · skip
    exact absurd hg c_1
theorem dX12_wrong_0 : decode cX12_wrong 0 = .ok (.aload_n 0, 1) := by decide +kernel
theorem dX12_wrong_1 : decode cX12_wrong 1 = .ok (.iconst 1, 1) := by decide +kernel
theorem dX12_wrong_2 : decode cX12_wrong 2 = .ok (.aload_n 0, 1) := by decide +kernel
theorem dX12_wrong_3 : decode cX12_wrong 3 = .ok (.getfield 43, 3) := by decide +kernel
theorem dX12_wrong_6 : decode cX12_wrong 6 = .ok (.aload_n 0, 1) := by decide +kernel
theorem dX12_wrong_7 : decode cX12_wrong 7 = .ok (.getfield 302, 3) := by decide +kernel
theorem dX12_wrong_10 : decode cX12_wrong 10 = .ok (.iaload, 1) := by decide +kernel
theorem dX12_wrong_11 : decode cX12_wrong 11 = .ok (.invokevirtual 305, 3) := by decide +kernel
theorem dX12_wrong_14 : decode cX12_wrong 14 = .ok (.return_, 1) := by decide +kernel
abbrev cs_t_X12_wrong_1 (cB cI cJ cZ : ClassId) (h0 : Nat) (a : Nat → Nat) (f : Nat → Int32) (w : Int64) (x1 : Nat) (sf pf : Nat → Int32) : va_W := [(h0, .inr (13, moF a (upd f 18 (nI x1)) w)), (a 14, .inl (cI, 2001, .inl sf)), (a 15, .inl (cI, 2001, .inl pf))]
abbrev pc_t_X12_wrong_1 (dC : Nat → ClassId) (dI : Nat → Nat → Nat) (sz : Nat) (cB cI cJ cZ : ClassId) (h0 : Nat) (a : Nat → Nat) (f : Nat → Int32) (w : Int64) (x1 : Nat) (sf pf : Nat → Int32) : Array Value → State → Prop := va_Pc [.ref h0] (fun U => U.heap.size = sz ∧ va_P (dC, dI) vwCl [(h0, .inr (13, moF a (upd f 18 (nI x1)) w)), (a 14, .inl (cI, 2001, .inl sf)), (a 15, .inl (cI, 2001, .inl pf))] U.heap ∧ va_K (dC, dI) vwCl [(cB, .byte), (cI, .int), (cJ, .long), (cZ, .boolean)] U ∧ va_D (fun _ => True) [(h0, .inr (13, moF a (upd f 18 (nI x1)) w)), (a 14, .inl (cI, 2001, .inl sf)), (a 15, .inl (cI, 2001, .inl pf))])
abbrev qc_t_X12_wrong_1 (dC : Nat → ClassId) (dI : Nat → Nat → Nat) (cB cI cJ cZ : ClassId) (h0 : Nat) (a : Nat → Nat) (f : Nat → Int32) (w : Int64) (x1 : Nat) (sf pf : Nat → Int32) (A : Nat → Prop) : Array Value → State → Outcome → State → Prop := va_Qv (fun (u : Unit) => match u with | _ => True) (fun (u : Unit) t_ => match u with | _ => va_P (dC, dI) vwCl [(h0, .inr (13, moF a (upd (upd (upd (upd f 18 (nI x1)) 21 0) 19 1) 20 (pf x1)) w)), (a 14, .inl (cI, 2001, .inl sf)), (a 15, .inl (cI, 2001, .inl pf))] t_.heap ∧ va_K (dC, dI) vwCl [(cB, .byte), (cI, .int), (cJ, .long), (cZ, .boolean)] t_ ∧ va_D A [(h0, .inr (13, moF a (upd (upd (upd (upd f 18 (nI x1)) 21 0) 19 1) 20 (pf x1)) w)), (a 14, .inl (cI, 2001, .inl sf)), (a 15, .inl (cI, 2001, .inl pf))]) A
set_option maxHeartbeats 4000000 in
set_option maxRecDepth 100000 in
theorem t_X12_wrong_1 (l : Launch) (dC : Nat → ClassId) (dI : Nat → Nat → Nat) (sz : Nat) (cB cI cJ cZ : ClassId) (h0 : Nat) (a : Nat → Nat) (f : Nat → Int32) (w : Int64) (x1 : Nat) (sf pf : Nat → Int32) (hx1 : x1 ≤ 2000) (hg : ¬ f 21 = 0) : Met l yX12_wrong (wsOf yX12_wrong cX12_wrong 1 none) ({ frames := 1, cells := 0, slots := 0, locals := 60 }) (pc_t_X12_wrong_1 dC dI sz cB cI cJ cZ h0 a f w x1 sf pf) (qc_t_X12_wrong_1 dC dI cB cI cJ cZ h0 a f w x1 sf pf (va_A (cs_t_X12_wrong_1 cB cI cJ cZ h0 a f w x1 sf pf) sz)) 0 0 (va_A (cs_t_X12_wrong_1 cB cI cJ cZ h0 a f w x1 sf pf) sz) := by
  refine Met.ofW (cc := cX12_wrong) (maxL := 1) (ret := none) (by decide) rfl ?_
  intro p e s m args below meth c s₁ B hml hv
  obtain ⟨rfl, hsz, hP, hK, hD0⟩ := hv
  have hx := B.exec
  have hb := B.bytes
  have hr := B.returns
  have hts := atoms_spec (ws := (wsOf yX12_wrong cX12_wrong 1 none)) B.pre
  have hown : s.vm.findClass RX12 = some m.cls := findClass_of_methodNamed B.named
  have hlocks := B.notSynchronized
  subst hsz
  have hD := hD0.self (sz := s.heap.size)
  generalize hAe : va_A (cs_t_X12_wrong_1 cB cI cJ cZ h0 a f w x1 sf pf) s.heap.size = A at hD ⊢
  have hA : ∀ q : Nat, s.heap.size ≤ q → A q := fun q h => by rw [← hAe]; exact Or.inr h
  have hS : va_S A s.heap s.heap [] := va_S.rf
  have hP : va_P (dC, dI) vwCl [(h0, .inr (13, moF a (upd f 18 (nI x1)) w)), (a 14, .inl (cI, 2001, .inl sf)), (a 15, .inl (cI, 2001, .inl pf))] s.heap := hP
  have hl := lv_entry ([.ref h0]) (n := 1) (Nat.le_of_ble_eq_true rfl)
  rw [lg_entry_eq]
  generalize (lg_sl ([.ref h0]) ++ List.replicate (1 - (lg_sl ([.ref h0])).length) Slot.unset).toArray = ls at hl ⊢
  have hl : lv_has ls 1 [(0, .ref h0)] := hl
  refine lv_aload_n hx hb dX12_wrong_0 rfl (lv_at hl 0 rfl) ?_
  refine lv_iconst (v := 1) hx hb dX12_wrong_1 (by decide) ?_
  refine lv_aload_n hx hb dX12_wrong_2 rfl (lv_at hl 0 rfl) ?_
  refine va_get (D := (dC, dI)) (ci := 13) (v := .ref (a 15)) (C := RX12) (T := TX12) (N := 115) hx hb hts (fun w h => List.mem_cons_of_mem _ (uG_X12 w h)) hown hK hP 0 rfl rfl 15 (by decide) (hts _ (List.mem_cons_of_mem _ kw_1706)) (fun _ h9 => h9) rfl dX12_wrong_3 ?_
  refine lv_aload_n hx hb dX12_wrong_6 rfl (lv_at hl 0 rfl) ?_
  refine va_get (D := (dC, dI)) (ci := 13) (v := .int (nI x1)) (C := RX12) (T := TX12) (N := 115) hx hb hts (fun w h => List.mem_cons_of_mem _ (uG_X12 w h)) hown hK hP 0 rfl rfl 18 (by decide) (hts _ (List.mem_cons_of_mem _ kw_1709)) (fun _ h9 => h9) rfl dX12_wrong_7 ?_
  refine va_iald hx hb hK hP 2 1 rfl rfl (i := (nI x1)) (vp_in_nI (n := x1) (N := 2001) (by omega) (by omega)) dX12_wrong_10 ?_
  refine lv_topi (fun x_1 ex_1 => ?_)
  have ex_1 : x_1 = pf x1 := ex_1.trans (congrArg pf (nI_clamp (n := x1) (by omega)))
  subst ex_1
  have hPc := hP.sub (ws' := [(h0, .inr (13, moF a (upd f 18 (nI x1)) w))]) [0] rfl
  have hDc := hD.sub (ws' := [(h0, .inr (13, moF a (upd f 18 (nI x1)) w))]) [0] (by decide) rfl
  have hKc := hK.sub (tys' := [(cB, .byte), (cI, .int), (cJ, .long), (cZ, .boolean)]) [0, 1, 2, 3] rfl
  have hFc := va_free (wc := [(h0, .inr (13, moF a (upd f 18 (nI x1)) w))]) hD hS hA [0] rfl
  refine va_callv (va_runV (As := [.int 1, .int (pf x1)]) (rest := []) ⟨hx, hb, hml, hown, hts⟩ (t_X12_tell_1 l dC dI s.heap.size cB cI cJ cZ h0 a (upd f 18 (nI x1)) w 1 (pf x1) hg) (cwV 2 hts (gd_all (in_V kw_2269 kw_2271 kw_141 kw_191 kc_X12_tell)) rfl rfl rfl (by decide +kernel) ⟨Nat.le_of_ble_eq_true rfl, Nat.le_of_ble_eq_true rfl⟩) ⟨fun a U g mk q => by obtain ⟨q0, q1, qP, qK, qD⟩ := q; exact ⟨q0, q1, qP, va_K.moved (u := U) (U := U.calling g mk a) (Vm.Alike.refl U.vm) qK, qD⟩, va_recv hKc hPc (ci := 13) (q0 := 0) rfl rfl, fun U hU hW => ⟨rfl, by rw [hU], by rw [hU]; exact hPc, va_K.moved hW.alike hKc, hDc.weaken (fun _ _ _ _ => trivial)⟩⟩ rfl rfl hl.1 rfl (lv_room (Nat.le_of_ble_eq_true rfl)) dX12_wrong_11 ⟨Nat.le_of_ble_eq_true rfl, Nat.le_of_ble_eq_true rfl⟩) hS (fun q _ h => hFc q h) hFc (fun u t_ H1 locs ht hvm hw hB hz1 hk1 hS => ?_)
  obtain ⟨hP1, hK1, hD1⟩ := hB
  rw [ht] at hP1
  have hK1 := va_K.moved hvm.symm hK1
  obtain ⟨hP, hD⟩ := va_join (wr := [(a 14, .inl (cI, 2001, .inl sf)), (a 15, .inl (cI, 2001, .inl pf))]) (w1 := [(h0, .inr (13, moF a (upd (upd (upd (upd f 18 (nI x1)) 21 0) 19 1) 20 (pf x1)) w))]) hP hD [0] [1, 2] rfl rfl (by decide) (by decide) hk1 hFc hP1 hD1
  have hK := (hK.sub (tys' := []) [] rfl).app hK1
  generalize H1 = H at hP hS ⊢
  have hP : va_P (dC, dI) vwCl [(a 14, .inl (cI, 2001, .inl sf)), (a 15, .inl (cI, 2001, .inl pf)), (h0, .inr (13, moF a (upd (upd (upd (upd f 18 (nI x1)) 21 0) 19 1) 20 (pf x1)) w))] H := hP
  have hD : va_D A [(a 14, .inl (cI, 2001, .inl sf)), (a 15, .inl (cI, 2001, .inl pf)), (h0, .inr (13, moF a (upd (upd (upd (upd f 18 (nI x1)) 21 0) 19 1) 20 (pf x1)) w))] := hD
  have hK : va_K (dC, dI) vwCl [(cB, .byte), (cI, .int), (cJ, .long), (cZ, .boolean)] s := hK
  have hP9 := hP.sub (ws' := [(h0, .inr (13, moF a (upd (upd (upd (upd f 18 (nI x1)) 21 0) 19 1) 20 (pf x1)) w)), (a 14, .inl (cI, 2001, .inl sf)), (a 15, .inl (cI, 2001, .inl pf))]) [2, 0, 1] rfl
  have hD9 := hD.sub (ws' := [(h0, .inr (13, moF a (upd (upd (upd (upd f 18 (nI x1)) 21 0) 19 1) 20 (pf x1)) w)), (a 14, .inl (cI, 2001, .inl sf)), (a 15, .inl (cI, 2001, .inl pf))]) [2, 0, 1] (by decide) rfl
  have hK9 := hK.sub (tys' := [(cB, .byte), (cI, .int), (cJ, .long), (cZ, .boolean)]) [0, 1, 2, 3] rfl
  exact W.vret hx hb hr (fun t_ ht hW => ⟨⟨(), rfl, trivial, by rw [ht]; exact hP9, va_K.moved hW.alike hK9, hD9⟩, hS.F ht⟩) hS.2.2 dX12_wrong_14
abbrev cs_t_X12_wrong_0 (cB cI cJ cZ : ClassId) (h0 : Nat) (a : Nat → Nat) (f : Nat → Int32) (w : Int64) (x1 : Nat) (sf pf : Nat → Int32) : va_W := [(h0, .inr (13, moF a (upd f 18 (nI x1)) w)), (a 14, .inl (cI, 2001, .inl sf)), (a 15, .inl (cI, 2001, .inl pf))]
abbrev pc_t_X12_wrong_0 (dC : Nat → ClassId) (dI : Nat → Nat → Nat) (sz : Nat) (cB cI cJ cZ : ClassId) (h0 : Nat) (a : Nat → Nat) (f : Nat → Int32) (w : Int64) (x1 : Nat) (sf pf : Nat → Int32) : Array Value → State → Prop := va_Pc [.ref h0] (fun U => U.heap.size = sz ∧ va_P (dC, dI) vwCl [(h0, .inr (13, moF a (upd f 18 (nI x1)) w)), (a 14, .inl (cI, 2001, .inl sf)), (a 15, .inl (cI, 2001, .inl pf))] U.heap ∧ va_K (dC, dI) vwCl [(cB, .byte), (cI, .int), (cJ, .long), (cZ, .boolean)] U ∧ va_D (fun _ => True) [(h0, .inr (13, moF a (upd f 18 (nI x1)) w)), (a 14, .inl (cI, 2001, .inl sf)), (a 15, .inl (cI, 2001, .inl pf))])
abbrev qc_t_X12_wrong_0 (dC : Nat → ClassId) (dI : Nat → Nat → Nat) (cB cI cJ cZ : ClassId) (h0 : Nat) (a : Nat → Nat) (f : Nat → Int32) (w : Int64) (x1 : Nat) (sf pf : Nat → Int32) (A : Nat → Prop) : Array Value → State → Outcome → State → Prop := va_Qv (fun (u : Unit) => match u with | _ => True) (fun (u : Unit) t_ => match u with | _ => va_P (dC, dI) vwCl [(h0, .inr (13, moF a (upd f 18 (nI x1)) w)), (a 14, .inl (cI, 2001, .inl sf)), (a 15, .inl (cI, 2001, .inl pf))] t_.heap ∧ va_K (dC, dI) vwCl [(cB, .byte), (cI, .int), (cJ, .long), (cZ, .boolean)] t_ ∧ va_D A [(h0, .inr (13, moF a (upd f 18 (nI x1)) w)), (a 14, .inl (cI, 2001, .inl sf)), (a 15, .inl (cI, 2001, .inl pf))]) A
set_option maxHeartbeats 4000000 in
set_option maxRecDepth 100000 in
theorem t_X12_wrong_0 (l : Launch) (dC : Nat → ClassId) (dI : Nat → Nat → Nat) (sz : Nat) (cB cI cJ cZ : ClassId) (h0 : Nat) (a : Nat → Nat) (f : Nat → Int32) (w : Int64) (x1 : Nat) (sf pf : Nat → Int32) (hx1 : x1 ≤ 2000) (hg : f 21 = 0) : Met l yX12_wrong (wsOf yX12_wrong cX12_wrong 1 none) ({ frames := 1, cells := 0, slots := 0, locals := 60 }) (pc_t_X12_wrong_0 dC dI sz cB cI cJ cZ h0 a f w x1 sf pf) (qc_t_X12_wrong_0 dC dI cB cI cJ cZ h0 a f w x1 sf pf (va_A (cs_t_X12_wrong_0 cB cI cJ cZ h0 a f w x1 sf pf) sz)) 0 0 (va_A (cs_t_X12_wrong_0 cB cI cJ cZ h0 a f w x1 sf pf) sz) := by
  refine Met.ofW (cc := cX12_wrong) (maxL := 1) (ret := none) (by decide) rfl ?_
  intro p e s m args below meth c s₁ B hml hv
  obtain ⟨rfl, hsz, hP, hK, hD0⟩ := hv
  have hx := B.exec
  have hb := B.bytes
  have hr := B.returns
  have hts := atoms_spec (ws := (wsOf yX12_wrong cX12_wrong 1 none)) B.pre
  have hown : s.vm.findClass RX12 = some m.cls := findClass_of_methodNamed B.named
  have hlocks := B.notSynchronized
  subst hsz
  have hD := hD0.self (sz := s.heap.size)
  generalize hAe : va_A (cs_t_X12_wrong_0 cB cI cJ cZ h0 a f w x1 sf pf) s.heap.size = A at hD ⊢
  have hA : ∀ q : Nat, s.heap.size ≤ q → A q := fun q h => by rw [← hAe]; exact Or.inr h
  have hS : va_S A s.heap s.heap [] := va_S.rf
  have hP : va_P (dC, dI) vwCl [(h0, .inr (13, moF a (upd f 18 (nI x1)) w)), (a 14, .inl (cI, 2001, .inl sf)), (a 15, .inl (cI, 2001, .inl pf))] s.heap := hP
  have hl := lv_entry ([.ref h0]) (n := 1) (Nat.le_of_ble_eq_true rfl)
  rw [lg_entry_eq]
  generalize (lg_sl ([.ref h0]) ++ List.replicate (1 - (lg_sl ([.ref h0])).length) Slot.unset).toArray = ls at hl ⊢
  have hl : lv_has ls 1 [(0, .ref h0)] := hl
  refine lv_aload_n hx hb dX12_wrong_0 rfl (lv_at hl 0 rfl) ?_
  refine lv_iconst (v := 1) hx hb dX12_wrong_1 (by decide) ?_
  refine lv_aload_n hx hb dX12_wrong_2 rfl (lv_at hl 0 rfl) ?_
  refine va_get (D := (dC, dI)) (ci := 13) (v := .ref (a 15)) (C := RX12) (T := TX12) (N := 115) hx hb hts (fun w h => List.mem_cons_of_mem _ (uG_X12 w h)) hown hK hP 0 rfl rfl 15 (by decide) (hts _ (List.mem_cons_of_mem _ kw_1706)) (fun _ h9 => h9) rfl dX12_wrong_3 ?_
  refine lv_aload_n hx hb dX12_wrong_6 rfl (lv_at hl 0 rfl) ?_
  refine va_get (D := (dC, dI)) (ci := 13) (v := .int (nI x1)) (C := RX12) (T := TX12) (N := 115) hx hb hts (fun w h => List.mem_cons_of_mem _ (uG_X12 w h)) hown hK hP 0 rfl rfl 18 (by decide) (hts _ (List.mem_cons_of_mem _ kw_1709)) (fun _ h9 => h9) rfl dX12_wrong_7 ?_
  refine va_iald hx hb hK hP 2 1 rfl rfl (i := (nI x1)) (vp_in_nI (n := x1) (N := 2001) (by omega) (by omega)) dX12_wrong_10 ?_
  refine lv_topi (fun x_1 ex_1 => ?_)
  have ex_1 : x_1 = pf x1 := ex_1.trans (congrArg pf (nI_clamp (n := x1) (by omega)))
  subst ex_1
  have hPc := hP.sub (ws' := [(h0, .inr (13, moF a (upd f 18 (nI x1)) w))]) [0] rfl
  have hDc := hD.sub (ws' := [(h0, .inr (13, moF a (upd f 18 (nI x1)) w))]) [0] (by decide) rfl
  have hKc := hK.sub (tys' := [(cB, .byte), (cI, .int), (cJ, .long), (cZ, .boolean)]) [0, 1, 2, 3] rfl
  have hFc := va_free (wc := [(h0, .inr (13, moF a (upd f 18 (nI x1)) w))]) hD hS hA [0] rfl
  refine va_callv (va_runV (As := [.int 1, .int (pf x1)]) (rest := []) ⟨hx, hb, hml, hown, hts⟩ (t_X12_tell_0 l dC dI s.heap.size cB cI cJ cZ h0 a (upd f 18 (nI x1)) w 1 (pf x1) hg) (cwV 2 hts (gd_all (in_V kw_2269 kw_2271 kw_141 kw_191 kc_X12_tell)) rfl rfl rfl (by decide +kernel) ⟨Nat.le_of_ble_eq_true rfl, Nat.le_of_ble_eq_true rfl⟩) ⟨fun a U g mk q => by obtain ⟨q0, q1, qP, qK, qD⟩ := q; exact ⟨q0, q1, qP, va_K.moved (u := U) (U := U.calling g mk a) (Vm.Alike.refl U.vm) qK, qD⟩, va_recv hKc hPc (ci := 13) (q0 := 0) rfl rfl, fun U hU hW => ⟨rfl, by rw [hU], by rw [hU]; exact hPc, va_K.moved hW.alike hKc, hDc.weaken (fun _ _ _ _ => trivial)⟩⟩ rfl rfl hl.1 rfl (lv_room (Nat.le_of_ble_eq_true rfl)) dX12_wrong_11 ⟨Nat.le_of_ble_eq_true rfl, Nat.le_of_ble_eq_true rfl⟩) hS (fun q _ h => hFc q h) hFc (fun u t_ H1 locs ht hvm hw hB hz1 hk1 hS => ?_)
  obtain ⟨hP1, hK1, hD1⟩ := hB
  rw [ht] at hP1
  have hK1 := va_K.moved hvm.symm hK1
  obtain ⟨hP, hD⟩ := va_join (wr := [(a 14, .inl (cI, 2001, .inl sf)), (a 15, .inl (cI, 2001, .inl pf))]) (w1 := [(h0, .inr (13, moF a (upd f 18 (nI x1)) w))]) hP hD [0] [1, 2] rfl rfl (by decide) (by decide) hk1 hFc hP1 hD1
  have hK := (hK.sub (tys' := []) [] rfl).app hK1
  generalize H1 = H at hP hS ⊢
  have hP : va_P (dC, dI) vwCl [(a 14, .inl (cI, 2001, .inl sf)), (a 15, .inl (cI, 2001, .inl pf)), (h0, .inr (13, moF a (upd f 18 (nI x1)) w))] H := hP
  have hD : va_D A [(a 14, .inl (cI, 2001, .inl sf)), (a 15, .inl (cI, 2001, .inl pf)), (h0, .inr (13, moF a (upd f 18 (nI x1)) w))] := hD
  have hK : va_K (dC, dI) vwCl [(cB, .byte), (cI, .int), (cJ, .long), (cZ, .boolean)] s := hK
  have hP9 := hP.sub (ws' := [(h0, .inr (13, moF a (upd f 18 (nI x1)) w)), (a 14, .inl (cI, 2001, .inl sf)), (a 15, .inl (cI, 2001, .inl pf))]) [2, 0, 1] rfl
  have hD9 := hD.sub (ws' := [(h0, .inr (13, moF a (upd f 18 (nI x1)) w)), (a 14, .inl (cI, 2001, .inl sf)), (a 15, .inl (cI, 2001, .inl pf))]) [2, 0, 1] (by decide) rfl
  have hK9 := hK.sub (tys' := [(cB, .byte), (cI, .int), (cJ, .long), (cZ, .boolean)]) [0, 1, 2, 3] rfl
  exact W.vret hx hb hr (fun t_ ht hW => ⟨⟨(), rfl, trivial, by rw [ht]; exact hP9, va_K.moved hW.alike hK9, hD9⟩, hS.F ht⟩) hS.2.2 dX12_wrong_14
theorem dX12_isSign_0 : decode cX12_isSign 0 = .ok (.aload_n 0, 1) := by decide +kernel
theorem dX12_isSign_1 : decode cX12_isSign 1 = .ok (.getfield 292, 3) := by decide +kernel
theorem dX12_isSign_4 : decode cX12_isSign 4 = .ok (.ifCond .eq 20, 3) := by decide +kernel
theorem dX12_isSign_7 : decode cX12_isSign 7 = .ok (.aload_n 0, 1) := by decide +kernel
theorem dX12_isSign_8 : decode cX12_isSign 8 = .ok (.getfield 40, 3) := by decide +kernel
theorem dX12_isSign_11 : decode cX12_isSign 11 = .ok (.aload_n 0, 1) := by decide +kernel
theorem dX12_isSign_12 : decode cX12_isSign 12 = .ok (.getfield 302, 3) := by decide +kernel
theorem dX12_isSign_15 : decode cX12_isSign 15 = .ok (.iaload, 1) := by decide +kernel
theorem dX12_isSign_16 : decode cX12_isSign 16 = .ok (.iload_n 1, 1) := by decide +kernel
theorem dX12_isSign_17 : decode cX12_isSign 17 = .ok (.if_icmp .ne 7, 3) := by decide +kernel
theorem dX12_isSign_20 : decode cX12_isSign 20 = .ok (.iconst 1, 1) := by decide +kernel
theorem dX12_isSign_21 : decode cX12_isSign 21 = .ok (.goto 4, 3) := by decide +kernel
theorem dX12_isSign_24 : decode cX12_isSign 24 = .ok (.iconst 0, 1) := by decide +kernel
theorem dX12_isSign_25 : decode cX12_isSign 25 = .ok (.ireturn, 1) := by decide +kernel
abbrev cs_t_X12_isSign (cB cI cJ cZ : ClassId) (h0 : Nat) (a : Nat → Nat) (f : Nat → Int32) (w : Int64) (x1 : Nat) (sf pf : Nat → Int32) (y1 : Int32) : va_W := [(h0, .inr (13, moF a (upd f 18 (nI x1)) w)), (a 14, .inl (cI, 2001, .inl sf)), (a 15, .inl (cI, 2001, .inl pf))]
abbrev pc_t_X12_isSign (dC : Nat → ClassId) (dI : Nat → Nat → Nat) (sz : Nat) (cB cI cJ cZ : ClassId) (h0 : Nat) (a : Nat → Nat) (f : Nat → Int32) (w : Int64) (x1 : Nat) (sf pf : Nat → Int32) (y1 : Int32) : Array Value → State → Prop := va_Pc [.ref h0, .int y1] (fun U => U.heap.size = sz ∧ va_P (dC, dI) vwCl [(h0, .inr (13, moF a (upd f 18 (nI x1)) w)), (a 14, .inl (cI, 2001, .inl sf)), (a 15, .inl (cI, 2001, .inl pf))] U.heap ∧ va_K (dC, dI) vwCl [(cB, .byte), (cI, .int), (cJ, .long), (cZ, .boolean)] U ∧ va_D (fun _ => True) [(h0, .inr (13, moF a (upd f 18 (nI x1)) w)), (a 14, .inl (cI, 2001, .inl sf)), (a 15, .inl (cI, 2001, .inl pf))])
abbrev qc_t_X12_isSign (dC : Nat → ClassId) (dI : Nat → Nat → Nat) (cB cI cJ cZ : ClassId) (h0 : Nat) (a : Nat → Nat) (f : Nat → Int32) (w : Int64) (x1 : Nat) (sf pf : Nat → Int32) (y1 : Int32) (A : Nat → Prop) : Array Value → State → Outcome → State → Prop := va_Qi (fun (r : Int32) (u : Unit) => match u with | _ => r = isS (f 21) (sf x1) y1) (fun (u : Unit) t_ => match u with | _ => va_P (dC, dI) vwCl [(h0, .inr (13, moF a (upd f 18 (nI x1)) w)), (a 14, .inl (cI, 2001, .inl sf)), (a 15, .inl (cI, 2001, .inl pf))] t_.heap ∧ va_K (dC, dI) vwCl [(cB, .byte), (cI, .int), (cJ, .long), (cZ, .boolean)] t_ ∧ va_D A [(h0, .inr (13, moF a (upd f 18 (nI x1)) w)), (a 14, .inl (cI, 2001, .inl sf)), (a 15, .inl (cI, 2001, .inl pf))]) A
set_option maxHeartbeats 4000000 in
set_option maxRecDepth 100000 in
theorem t_X12_isSign (l : Launch) (dC : Nat → ClassId) (dI : Nat → Nat → Nat) (sz : Nat) (cB cI cJ cZ : ClassId) (h0 : Nat) (a : Nat → Nat) (f : Nat → Int32) (w : Int64) (x1 : Nat) (sf pf : Nat → Int32) (y1 : Int32) (hx1 : x1 ≤ 2000) : Met l yX12_isSign (wsOf yX12_isSign cX12_isSign 2 (some .boolean)) ({ frames := 0, cells := 0, slots := 0, locals := 0 }) (pc_t_X12_isSign dC dI sz cB cI cJ cZ h0 a f w x1 sf pf y1) (qc_t_X12_isSign dC dI cB cI cJ cZ h0 a f w x1 sf pf y1 (va_A (cs_t_X12_isSign cB cI cJ cZ h0 a f w x1 sf pf y1) sz)) 0 0 (va_A (cs_t_X12_isSign cB cI cJ cZ h0 a f w x1 sf pf y1) sz) := by
  refine Met.ofW (cc := cX12_isSign) (maxL := 2) (ret := (some .boolean)) (by decide) rfl ?_
  intro p e s m args below meth c s₁ B hml hv
  obtain ⟨rfl, hsz, hP, hK, hD0⟩ := hv
  have hx := B.exec
  have hb := B.bytes
  have hr := B.returns
  have hts := atoms_spec (ws := (wsOf yX12_isSign cX12_isSign 2 (some .boolean))) B.pre
  have hown : s.vm.findClass RX12 = some m.cls := findClass_of_methodNamed B.named
  have hlocks := B.notSynchronized
  subst hsz
  have hD := hD0.self (sz := s.heap.size)
  generalize hAe : va_A (cs_t_X12_isSign cB cI cJ cZ h0 a f w x1 sf pf y1) s.heap.size = A at hD ⊢
  have hA : ∀ q : Nat, s.heap.size ≤ q → A q := fun q h => by rw [← hAe]; exact Or.inr h
  have hS : va_S A s.heap s.heap [] := va_S.rf
  have hP : va_P (dC, dI) vwCl [(h0, .inr (13, moF a (upd f 18 (nI x1)) w)), (a 14, .inl (cI, 2001, .inl sf)), (a 15, .inl (cI, 2001, .inl pf))] s.heap := hP
  have hl := lv_entry ([.ref h0, .int y1]) (n := 2) (Nat.le_of_ble_eq_true rfl)
  rw [lg_entry_eq]
  generalize (lg_sl ([.ref h0, .int y1]) ++ List.replicate (2 - (lg_sl ([.ref h0, .int y1])).length) Slot.unset).toArray = ls at hl ⊢
  have hl : lv_has ls 2 [(0, .ref h0), (1, .int y1)] := hl
  refine lv_aload_n hx hb dX12_isSign_0 rfl (lv_at hl 0 rfl) ?_
  refine va_get (D := (dC, dI)) (ci := 13) (v := .int (f 21)) (C := RX12) (T := TX12) (N := 115) hx hb hts (fun w h => List.mem_cons_of_mem _ (uG_X12 w h)) hown hK hP 0 rfl rfl 21 (by decide) (hts _ (List.mem_cons_of_mem _ kw_1712)) (fun _ h9 => h9) rfl dX12_isSign_1 ?_
  refine lv_if_eq (tgt := 24) hx hb dX12_isSign_4 (by decide) (fun c_1 => ?_) (fun c_1 => ?_)
  · skip
    refine lv_iconst (v := 0) hx hb dX12_isSign_24 (by decide) ?_
    have hP9 := hP.sub (ws' := [(h0, .inr (13, moF a (upd f 18 (nI x1)) w)), (a 14, .inl (cI, 2001, .inl sf)), (a 15, .inl (cI, 2001, .inl pf))]) [0, 1, 2] rfl
    have hD9 := hD.sub (ws' := [(h0, .inr (13, moF a (upd f 18 (nI x1)) w)), (a 14, .inl (cI, 2001, .inl sf)), (a 15, .inl (cI, 2001, .inl pf))]) [0, 1, 2] (by decide) rfl
    have hK9 := hK.sub (tys' := [(cB, .byte), (cI, .int), (cJ, .long), (cZ, .boolean)]) [0, 1, 2, 3] rfl
    exact W.zret (v := 0) hx hb hr (by rfl) (fun t_ ht hW => ⟨⟨0, (), rfl, by unfold isS; rw [if_pos c_1], by rw [ht]; exact hP9, va_K.moved hW.alike hK9, hD9⟩, hS.F ht⟩) hS.2.2 dX12_isSign_25
  · skip
    refine lv_aload_n hx hb dX12_isSign_7 rfl (lv_at hl 0 rfl) ?_
    refine va_get (D := (dC, dI)) (ci := 13) (v := .ref (a 14)) (C := RX12) (T := TX12) (N := 115) hx hb hts (fun w h => List.mem_cons_of_mem _ (uG_X12 w h)) hown hK hP 0 rfl rfl 14 (by decide) (hts _ (List.mem_cons_of_mem _ kw_1705)) (fun _ h9 => h9) rfl dX12_isSign_8 ?_
    refine lv_aload_n hx hb dX12_isSign_11 rfl (lv_at hl 0 rfl) ?_
    refine va_get (D := (dC, dI)) (ci := 13) (v := .int (nI x1)) (C := RX12) (T := TX12) (N := 115) hx hb hts (fun w h => List.mem_cons_of_mem _ (uG_X12 w h)) hown hK hP 0 rfl rfl 18 (by decide) (hts _ (List.mem_cons_of_mem _ kw_1709)) (fun _ h9 => h9) rfl dX12_isSign_12 ?_
    refine va_iald hx hb hK hP 1 1 rfl rfl (i := (nI x1)) (vp_in_nI (n := x1) (N := 2001) (by omega) (by omega)) dX12_isSign_15 ?_
    refine lv_topi (fun x_2 ex_2 => ?_)
    have ex_2 : x_2 = sf x1 := ex_2.trans (congrArg sf (nI_clamp (n := x1) (by omega)))
    subst ex_2
    refine lv_iload_n hx hb dX12_isSign_16 rfl (lv_at hl 1 rfl) ?_
    refine lv_icmp_ne (tgt := 24) hx hb dX12_isSign_17 (by decide) (fun c_3 => ?_) (fun c_3 => ?_)
    · skip
      refine lv_iconst (v := 0) hx hb dX12_isSign_24 (by decide) ?_
      have hP9 := hP.sub (ws' := [(h0, .inr (13, moF a (upd f 18 (nI x1)) w)), (a 14, .inl (cI, 2001, .inl sf)), (a 15, .inl (cI, 2001, .inl pf))]) [0, 1, 2] rfl
      have hD9 := hD.sub (ws' := [(h0, .inr (13, moF a (upd f 18 (nI x1)) w)), (a 14, .inl (cI, 2001, .inl sf)), (a 15, .inl (cI, 2001, .inl pf))]) [0, 1, 2] (by decide) rfl
      have hK9 := hK.sub (tys' := [(cB, .byte), (cI, .int), (cJ, .long), (cZ, .boolean)]) [0, 1, 2, 3] rfl
      exact W.zret (v := 0) hx hb hr (by rfl) (fun t_ ht hW => ⟨⟨0, (), rfl, by unfold isS; rw [if_neg c_1, if_neg c_3], by rw [ht]; exact hP9, va_K.moved hW.alike hK9, hD9⟩, hS.F ht⟩) hS.2.2 dX12_isSign_25
    · skip
      refine lv_iconst (v := 1) hx hb dX12_isSign_20 (by decide) ?_
      refine lv_goto (tgt := 25) hx hb dX12_isSign_21 (by decide) ?_
      have hP9 := hP.sub (ws' := [(h0, .inr (13, moF a (upd f 18 (nI x1)) w)), (a 14, .inl (cI, 2001, .inl sf)), (a 15, .inl (cI, 2001, .inl pf))]) [0, 1, 2] rfl
      have hD9 := hD.sub (ws' := [(h0, .inr (13, moF a (upd f 18 (nI x1)) w)), (a 14, .inl (cI, 2001, .inl sf)), (a 15, .inl (cI, 2001, .inl pf))]) [0, 1, 2] (by decide) rfl
      have hK9 := hK.sub (tys' := [(cB, .byte), (cI, .int), (cJ, .long), (cZ, .boolean)]) [0, 1, 2, 3] rfl
      exact W.zret (v := 1) hx hb hr (by rfl) (fun t_ ht hW => ⟨⟨1, (), rfl, by unfold isS; rw [if_neg c_1, if_pos c_3], by rw [ht]; exact hP9, va_K.moved hW.alike hK9, hD9⟩, hS.F ht⟩) hS.2.2 dX12_isSign_25
theorem dX12_takeSign_0 : decode cX12_takeSign 0 = .ok (.aload_n 0, 1) := by decide +kernel
theorem dX12_takeSign_1 : decode cX12_takeSign 1 = .ok (.iload_n 1, 1) := by decide +kernel
theorem dX12_takeSign_2 : decode cX12_takeSign 2 = .ok (.invokevirtual 332, 3) := by decide +kernel
theorem dX12_takeSign_5 : decode cX12_takeSign 5 = .ok (.istore_n 2, 1) := by decide +kernel
theorem dX12_takeSign_6 : decode cX12_takeSign 6 = .ok (.aload_n 0, 1) := by decide +kernel
theorem dX12_takeSign_7 : decode cX12_takeSign 7 = .ok (.dup, 1) := by decide +kernel
theorem dX12_takeSign_8 : decode cX12_takeSign 8 = .ok (.getfield 302, 3) := by decide +kernel
theorem dX12_takeSign_11 : decode cX12_takeSign 11 = .ok (.iload_n 2, 1) := by decide +kernel
theorem dX12_takeSign_12 : decode cX12_takeSign 12 = .ok (.ifCond .eq 7, 3) := by decide +kernel
theorem dX12_takeSign_15 : decode cX12_takeSign 15 = .ok (.iconst 1, 1) := by decide +kernel
theorem dX12_takeSign_16 : decode cX12_takeSign 16 = .ok (.goto 4, 3) := by decide +kernel
theorem dX12_takeSign_19 : decode cX12_takeSign 19 = .ok (.iconst 0, 1) := by decide +kernel
theorem dX12_takeSign_20 : decode cX12_takeSign 20 = .ok (.iadd, 1) := by decide +kernel
theorem dX12_takeSign_21 : decode cX12_takeSign 21 = .ok (.putfield 302, 3) := by decide +kernel
theorem dX12_takeSign_24 : decode cX12_takeSign 24 = .ok (.iload_n 2, 1) := by decide +kernel
theorem dX12_takeSign_25 : decode cX12_takeSign 25 = .ok (.ireturn, 1) := by decide +kernel
abbrev cs_t_X12_takeSign_y (cB cI cJ cZ : ClassId) (h0 : Nat) (a : Nat → Nat) (f : Nat → Int32) (w : Int64) (x1 : Nat) (sf pf : Nat → Int32) (y1 : Int32) : va_W := [(h0, .inr (13, moF a (upd f 18 (nI x1)) w)), (a 14, .inl (cI, 2001, .inl sf)), (a 15, .inl (cI, 2001, .inl pf))]
abbrev pc_t_X12_takeSign_y (dC : Nat → ClassId) (dI : Nat → Nat → Nat) (sz : Nat) (cB cI cJ cZ : ClassId) (h0 : Nat) (a : Nat → Nat) (f : Nat → Int32) (w : Int64) (x1 : Nat) (sf pf : Nat → Int32) (y1 : Int32) : Array Value → State → Prop := va_Pc [.ref h0, .int y1] (fun U => U.heap.size = sz ∧ va_P (dC, dI) vwCl [(h0, .inr (13, moF a (upd f 18 (nI x1)) w)), (a 14, .inl (cI, 2001, .inl sf)), (a 15, .inl (cI, 2001, .inl pf))] U.heap ∧ va_K (dC, dI) vwCl [(cB, .byte), (cI, .int), (cJ, .long), (cZ, .boolean)] U ∧ va_D (fun _ => True) [(h0, .inr (13, moF a (upd f 18 (nI x1)) w)), (a 14, .inl (cI, 2001, .inl sf)), (a 15, .inl (cI, 2001, .inl pf))])
abbrev qc_t_X12_takeSign_y (dC : Nat → ClassId) (dI : Nat → Nat → Nat) (cB cI cJ cZ : ClassId) (h0 : Nat) (a : Nat → Nat) (f : Nat → Int32) (w : Int64) (x1 : Nat) (sf pf : Nat → Int32) (y1 : Int32) (A : Nat → Prop) : Array Value → State → Outcome → State → Prop := va_Qi (fun (r : Int32) (u : Unit) => match u with | _ => r = 1) (fun (u : Unit) t_ => match u with | _ => va_P (dC, dI) vwCl [(h0, .inr (13, moF a (upd f 18 (nI (x1 + 1))) w)), (a 14, .inl (cI, 2001, .inl sf)), (a 15, .inl (cI, 2001, .inl pf))] t_.heap ∧ va_K (dC, dI) vwCl [(cB, .byte), (cI, .int), (cJ, .long), (cZ, .boolean)] t_ ∧ va_D A [(h0, .inr (13, moF a (upd f 18 (nI (x1 + 1))) w)), (a 14, .inl (cI, 2001, .inl sf)), (a 15, .inl (cI, 2001, .inl pf))]) A
set_option maxHeartbeats 4000000 in
set_option maxRecDepth 100000 in
theorem t_X12_takeSign_y (l : Launch) (dC : Nat → ClassId) (dI : Nat → Nat → Nat) (sz : Nat) (cB cI cJ cZ : ClassId) (h0 : Nat) (a : Nat → Nat) (f : Nat → Int32) (w : Int64) (x1 : Nat) (sf pf : Nat → Int32) (y1 : Int32) (hx1 : x1 ≤ 2000) (hy : isS (f 21) (sf x1) y1 = 1) : Met l yX12_takeSign (wsOf yX12_takeSign cX12_takeSign 3 (some .boolean)) ({ frames := 2, cells := 0, slots := 0, locals := 120 }) (pc_t_X12_takeSign_y dC dI sz cB cI cJ cZ h0 a f w x1 sf pf y1) (qc_t_X12_takeSign_y dC dI cB cI cJ cZ h0 a f w x1 sf pf y1 (va_A (cs_t_X12_takeSign_y cB cI cJ cZ h0 a f w x1 sf pf y1) sz)) 0 0 (va_A (cs_t_X12_takeSign_y cB cI cJ cZ h0 a f w x1 sf pf y1) sz) := by
  refine Met.ofW (cc := cX12_takeSign) (maxL := 3) (ret := (some .boolean)) (by decide) rfl ?_
  intro p e s m args below meth c s₁ B hml hv
  obtain ⟨rfl, hsz, hP, hK, hD0⟩ := hv
  have hx := B.exec
  have hb := B.bytes
  have hr := B.returns
  have hts := atoms_spec (ws := (wsOf yX12_takeSign cX12_takeSign 3 (some .boolean))) B.pre
  have hown : s.vm.findClass RX12 = some m.cls := findClass_of_methodNamed B.named
  have hlocks := B.notSynchronized
  subst hsz
  have hD := hD0.self (sz := s.heap.size)
  generalize hAe : va_A (cs_t_X12_takeSign_y cB cI cJ cZ h0 a f w x1 sf pf y1) s.heap.size = A at hD ⊢
  have hA : ∀ q : Nat, s.heap.size ≤ q → A q := fun q h => by rw [← hAe]; exact Or.inr h
  have hS : va_S A s.heap s.heap [] := va_S.rf
  have hP : va_P (dC, dI) vwCl [(h0, .inr (13, moF a (upd f 18 (nI x1)) w)), (a 14, .inl (cI, 2001, .inl sf)), (a 15, .inl (cI, 2001, .inl pf))] s.heap := hP
  have hl := lv_entry ([.ref h0, .int y1]) (n := 3) (Nat.le_of_ble_eq_true rfl)
  rw [lg_entry_eq]
  generalize (lg_sl ([.ref h0, .int y1]) ++ List.replicate (3 - (lg_sl ([.ref h0, .int y1])).length) Slot.unset).toArray = ls at hl ⊢
  have hl : lv_has ls 3 [(0, .ref h0), (1, .int y1)] := hl
  refine lv_aload_n hx hb dX12_takeSign_0 rfl (lv_at hl 0 rfl) ?_
  refine lv_iload_n hx hb dX12_takeSign_1 rfl (lv_at hl 1 rfl) ?_
  have hPc := hP.sub (ws' := [(h0, .inr (13, moF a (upd f 18 (nI x1)) w)), (a 14, .inl (cI, 2001, .inl sf)), (a 15, .inl (cI, 2001, .inl pf))]) [0, 1, 2] rfl
  have hDc := hD.sub (ws' := [(h0, .inr (13, moF a (upd f 18 (nI x1)) w)), (a 14, .inl (cI, 2001, .inl sf)), (a 15, .inl (cI, 2001, .inl pf))]) [0, 1, 2] (by decide) rfl
  have hKc := hK.sub (tys' := [(cB, .byte), (cI, .int), (cJ, .long), (cZ, .boolean)]) [0, 1, 2, 3] rfl
  have hFc := va_free (wc := [(h0, .inr (13, moF a (upd f 18 (nI x1)) w)), (a 14, .inl (cI, 2001, .inl sf)), (a 15, .inl (cI, 2001, .inl pf))]) hD hS hA [0, 1, 2] rfl
  refine va_calli (va_runV (As := [.int y1]) (rest := []) ⟨hx, hb, hml, hown, hts⟩ (t_X12_isSign l dC dI s.heap.size cB cI cJ cZ h0 a f w x1 sf pf y1 hx1) (cwV 1 hts (gd_all (in_V kw_2322 kw_2324 kw_151 kw_191 kc_X12_isSign)) rfl rfl rfl (by decide +kernel) ⟨Nat.le_of_ble_eq_true rfl, Nat.le_of_ble_eq_true rfl⟩) ⟨fun a U g mk q => by obtain ⟨q0, q1, qP, qK, qD⟩ := q; exact ⟨q0, q1, qP, va_K.moved (u := U) (U := U.calling g mk a) (Vm.Alike.refl U.vm) qK, qD⟩, va_recv hKc hPc (ci := 13) (q0 := 0) rfl rfl, fun U hU hW => ⟨rfl, by rw [hU], by rw [hU]; exact hPc, va_K.moved hW.alike hKc, hDc.weaken (fun _ _ _ _ => trivial)⟩⟩ rfl rfl hl.1 rfl (lv_room (Nat.le_of_ble_eq_true rfl)) dX12_takeSign_2 ⟨Nat.le_of_ble_eq_true rfl, Nat.le_of_ble_eq_true rfl⟩) hS (fun q _ h => hFc q h) hFc (fun r_1 u t_ H1 locs ht hvm hw hB hz1 hk1 hS => ?_)
  obtain ⟨hP1, hK1, hD1⟩ := hB
  rw [ht] at hP1
  have hK1 := va_K.moved hvm.symm hK1
  obtain ⟨hP, hD⟩ := va_join (wr := []) (w1 := [(h0, .inr (13, moF a (upd f 18 (nI x1)) w)), (a 14, .inl (cI, 2001, .inl sf)), (a 15, .inl (cI, 2001, .inl pf))]) hP hD [0, 1, 2] [] rfl rfl (by decide) (by decide) hk1 hFc hP1 hD1
  have hK := (hK.sub (tys' := []) [] rfl).app hK1
  generalize H1 = H at hP hS ⊢
  have hP : va_P (dC, dI) vwCl [(h0, .inr (13, moF a (upd f 18 (nI x1)) w)), (a 14, .inl (cI, 2001, .inl sf)), (a 15, .inl (cI, 2001, .inl pf))] H := hP
  have hD : va_D A [(h0, .inr (13, moF a (upd f 18 (nI x1)) w)), (a 14, .inl (cI, 2001, .inl sf)), (a 15, .inl (cI, 2001, .inl pf))] := hD
  have hK : va_K (dC, dI) vwCl [(cB, .byte), (cI, .int), (cJ, .long), (cZ, .boolean)] s := hK
  have er_1 : r_1 = 1 := hw.trans hy
  rw [er_1]
  refine lv_istore_n (lv' := [(2, .int 1), (0, .ref h0), (1, .int y1)]) hx hb dX12_takeSign_5 rfl hl (by decide) rfl (fun ls hl => ?_)
  refine lv_aload_n hx hb dX12_takeSign_6 rfl (lv_at hl 1 rfl) ?_
  refine lv_dup hx hb dX12_takeSign_7 rfl ?_
  refine va_get (D := (dC, dI)) (ci := 13) (v := .int (nI x1)) (C := RX12) (T := TX12) (N := 115) hx hb hts (fun w h => List.mem_cons_of_mem _ (uG_X12 w h)) hown hK hP 0 rfl rfl 18 (by decide) (hts _ (List.mem_cons_of_mem _ kw_1709)) (fun _ h9 => h9) rfl dX12_takeSign_8 ?_
  refine lv_iload_n hx hb dX12_takeSign_11 rfl (lv_at hl 0 rfl) ?_
  refine lv_if_eq (tgt := 19) hx hb dX12_takeSign_12 (by decide) (fun c_2 => ?_) (fun c_2 => ?_)
  · skip
    exact absurd c_2 (by decide)
  · skip
    refine lv_iconst (v := 1) hx hb dX12_takeSign_15 (by decide) ?_
    refine lv_goto (tgt := 20) hx hb dX12_takeSign_16 (by decide) ?_
    refine lv_iadd hx hb dX12_takeSign_20 ?_
    refine lv_topi (fun x_3 ex_3 => ?_)
    have ex_3 : x_3 = nI (x1 + 1) := ex_3.trans (nI_add x1 1)
    subst ex_3
    refine va_put (D := (dC, dI)) (ci := 13) (v := .int (nI (x1 + 1))) (ty := .int) (C := RX12) (T := TX12) (N := 115) hx hb hts (fun w h => List.mem_cons_of_mem _ (uG_X12 w h)) tyX12 tyX12_ok nmX12 hown hK hP hD hS 0 rfl rfl 18 (by decide) (hts _ (List.mem_cons_of_mem _ kw_1709)) (fun _ h9 => h9) rfl (by decide +kernel) rfl rfl (Nat.le_of_ble_eq_true rfl) dX12_takeSign_21 (fun H locs hP hD hS => ?_)
    have hP : va_P (dC, dI) vwCl [(h0, .inr (13, moF a (upd f 18 (nI (x1 + 1))) w)), (a 14, .inl (cI, 2001, .inl sf)), (a 15, .inl (cI, 2001, .inl pf))] H := hP
    have hD : va_D A [(h0, .inr (13, moF a (upd f 18 (nI (x1 + 1))) w)), (a 14, .inl (cI, 2001, .inl sf)), (a 15, .inl (cI, 2001, .inl pf))] := hD
    refine lv_iload_n hx hb dX12_takeSign_24 rfl (lv_at hl 0 rfl) ?_
    have hP9 := hP.sub (ws' := [(h0, .inr (13, moF a (upd f 18 (nI (x1 + 1))) w)), (a 14, .inl (cI, 2001, .inl sf)), (a 15, .inl (cI, 2001, .inl pf))]) [0, 1, 2] rfl
    have hD9 := hD.sub (ws' := [(h0, .inr (13, moF a (upd f 18 (nI (x1 + 1))) w)), (a 14, .inl (cI, 2001, .inl sf)), (a 15, .inl (cI, 2001, .inl pf))]) [0, 1, 2] (by decide) rfl
    have hK9 := hK.sub (tys' := [(cB, .byte), (cI, .int), (cJ, .long), (cZ, .boolean)]) [0, 1, 2, 3] rfl
    exact W.zret (v := 1) hx hb hr (by rfl) (fun t_ ht hW => ⟨⟨1, (), rfl, rfl, by rw [ht]; exact hP9, va_K.moved hW.alike hK9, hD9⟩, hS.F ht⟩) hS.2.2 dX12_takeSign_25
abbrev cs_t_X12_takeSign_n (cB cI cJ cZ : ClassId) (h0 : Nat) (a : Nat → Nat) (f : Nat → Int32) (w : Int64) (x1 : Nat) (sf pf : Nat → Int32) (y1 : Int32) : va_W := [(h0, .inr (13, moF a (upd f 18 (nI x1)) w)), (a 14, .inl (cI, 2001, .inl sf)), (a 15, .inl (cI, 2001, .inl pf))]
abbrev pc_t_X12_takeSign_n (dC : Nat → ClassId) (dI : Nat → Nat → Nat) (sz : Nat) (cB cI cJ cZ : ClassId) (h0 : Nat) (a : Nat → Nat) (f : Nat → Int32) (w : Int64) (x1 : Nat) (sf pf : Nat → Int32) (y1 : Int32) : Array Value → State → Prop := va_Pc [.ref h0, .int y1] (fun U => U.heap.size = sz ∧ va_P (dC, dI) vwCl [(h0, .inr (13, moF a (upd f 18 (nI x1)) w)), (a 14, .inl (cI, 2001, .inl sf)), (a 15, .inl (cI, 2001, .inl pf))] U.heap ∧ va_K (dC, dI) vwCl [(cB, .byte), (cI, .int), (cJ, .long), (cZ, .boolean)] U ∧ va_D (fun _ => True) [(h0, .inr (13, moF a (upd f 18 (nI x1)) w)), (a 14, .inl (cI, 2001, .inl sf)), (a 15, .inl (cI, 2001, .inl pf))])
abbrev qc_t_X12_takeSign_n (dC : Nat → ClassId) (dI : Nat → Nat → Nat) (cB cI cJ cZ : ClassId) (h0 : Nat) (a : Nat → Nat) (f : Nat → Int32) (w : Int64) (x1 : Nat) (sf pf : Nat → Int32) (y1 : Int32) (A : Nat → Prop) : Array Value → State → Outcome → State → Prop := va_Qi (fun (r : Int32) (u : Unit) => match u with | _ => r = 0) (fun (u : Unit) t_ => match u with | _ => va_P (dC, dI) vwCl [(h0, .inr (13, moF a (upd f 18 (nI (x1 + 0))) w)), (a 14, .inl (cI, 2001, .inl sf)), (a 15, .inl (cI, 2001, .inl pf))] t_.heap ∧ va_K (dC, dI) vwCl [(cB, .byte), (cI, .int), (cJ, .long), (cZ, .boolean)] t_ ∧ va_D A [(h0, .inr (13, moF a (upd f 18 (nI (x1 + 0))) w)), (a 14, .inl (cI, 2001, .inl sf)), (a 15, .inl (cI, 2001, .inl pf))]) A
set_option maxHeartbeats 4000000 in
set_option maxRecDepth 100000 in
theorem t_X12_takeSign_n (l : Launch) (dC : Nat → ClassId) (dI : Nat → Nat → Nat) (sz : Nat) (cB cI cJ cZ : ClassId) (h0 : Nat) (a : Nat → Nat) (f : Nat → Int32) (w : Int64) (x1 : Nat) (sf pf : Nat → Int32) (y1 : Int32) (hx1 : x1 ≤ 2000) (hy : isS (f 21) (sf x1) y1 = 0) : Met l yX12_takeSign (wsOf yX12_takeSign cX12_takeSign 3 (some .boolean)) ({ frames := 2, cells := 0, slots := 0, locals := 120 }) (pc_t_X12_takeSign_n dC dI sz cB cI cJ cZ h0 a f w x1 sf pf y1) (qc_t_X12_takeSign_n dC dI cB cI cJ cZ h0 a f w x1 sf pf y1 (va_A (cs_t_X12_takeSign_n cB cI cJ cZ h0 a f w x1 sf pf y1) sz)) 0 0 (va_A (cs_t_X12_takeSign_n cB cI cJ cZ h0 a f w x1 sf pf y1) sz) := by
  refine Met.ofW (cc := cX12_takeSign) (maxL := 3) (ret := (some .boolean)) (by decide) rfl ?_
  intro p e s m args below meth c s₁ B hml hv
  obtain ⟨rfl, hsz, hP, hK, hD0⟩ := hv
  have hx := B.exec
  have hb := B.bytes
  have hr := B.returns
  have hts := atoms_spec (ws := (wsOf yX12_takeSign cX12_takeSign 3 (some .boolean))) B.pre
  have hown : s.vm.findClass RX12 = some m.cls := findClass_of_methodNamed B.named
  have hlocks := B.notSynchronized
  subst hsz
  have hD := hD0.self (sz := s.heap.size)
  generalize hAe : va_A (cs_t_X12_takeSign_n cB cI cJ cZ h0 a f w x1 sf pf y1) s.heap.size = A at hD ⊢
  have hA : ∀ q : Nat, s.heap.size ≤ q → A q := fun q h => by rw [← hAe]; exact Or.inr h
  have hS : va_S A s.heap s.heap [] := va_S.rf
  have hP : va_P (dC, dI) vwCl [(h0, .inr (13, moF a (upd f 18 (nI x1)) w)), (a 14, .inl (cI, 2001, .inl sf)), (a 15, .inl (cI, 2001, .inl pf))] s.heap := hP
  have hl := lv_entry ([.ref h0, .int y1]) (n := 3) (Nat.le_of_ble_eq_true rfl)
  rw [lg_entry_eq]
  generalize (lg_sl ([.ref h0, .int y1]) ++ List.replicate (3 - (lg_sl ([.ref h0, .int y1])).length) Slot.unset).toArray = ls at hl ⊢
  have hl : lv_has ls 3 [(0, .ref h0), (1, .int y1)] := hl
  refine lv_aload_n hx hb dX12_takeSign_0 rfl (lv_at hl 0 rfl) ?_
  refine lv_iload_n hx hb dX12_takeSign_1 rfl (lv_at hl 1 rfl) ?_
  have hPc := hP.sub (ws' := [(h0, .inr (13, moF a (upd f 18 (nI x1)) w)), (a 14, .inl (cI, 2001, .inl sf)), (a 15, .inl (cI, 2001, .inl pf))]) [0, 1, 2] rfl
  have hDc := hD.sub (ws' := [(h0, .inr (13, moF a (upd f 18 (nI x1)) w)), (a 14, .inl (cI, 2001, .inl sf)), (a 15, .inl (cI, 2001, .inl pf))]) [0, 1, 2] (by decide) rfl
  have hKc := hK.sub (tys' := [(cB, .byte), (cI, .int), (cJ, .long), (cZ, .boolean)]) [0, 1, 2, 3] rfl
  have hFc := va_free (wc := [(h0, .inr (13, moF a (upd f 18 (nI x1)) w)), (a 14, .inl (cI, 2001, .inl sf)), (a 15, .inl (cI, 2001, .inl pf))]) hD hS hA [0, 1, 2] rfl
  refine va_calli (va_runV (As := [.int y1]) (rest := []) ⟨hx, hb, hml, hown, hts⟩ (t_X12_isSign l dC dI s.heap.size cB cI cJ cZ h0 a f w x1 sf pf y1 hx1) (cwV 1 hts (gd_all (in_V kw_2322 kw_2324 kw_151 kw_191 kc_X12_isSign)) rfl rfl rfl (by decide +kernel) ⟨Nat.le_of_ble_eq_true rfl, Nat.le_of_ble_eq_true rfl⟩) ⟨fun a U g mk q => by obtain ⟨q0, q1, qP, qK, qD⟩ := q; exact ⟨q0, q1, qP, va_K.moved (u := U) (U := U.calling g mk a) (Vm.Alike.refl U.vm) qK, qD⟩, va_recv hKc hPc (ci := 13) (q0 := 0) rfl rfl, fun U hU hW => ⟨rfl, by rw [hU], by rw [hU]; exact hPc, va_K.moved hW.alike hKc, hDc.weaken (fun _ _ _ _ => trivial)⟩⟩ rfl rfl hl.1 rfl (lv_room (Nat.le_of_ble_eq_true rfl)) dX12_takeSign_2 ⟨Nat.le_of_ble_eq_true rfl, Nat.le_of_ble_eq_true rfl⟩) hS (fun q _ h => hFc q h) hFc (fun r_1 u t_ H1 locs ht hvm hw hB hz1 hk1 hS => ?_)
  obtain ⟨hP1, hK1, hD1⟩ := hB
  rw [ht] at hP1
  have hK1 := va_K.moved hvm.symm hK1
  obtain ⟨hP, hD⟩ := va_join (wr := []) (w1 := [(h0, .inr (13, moF a (upd f 18 (nI x1)) w)), (a 14, .inl (cI, 2001, .inl sf)), (a 15, .inl (cI, 2001, .inl pf))]) hP hD [0, 1, 2] [] rfl rfl (by decide) (by decide) hk1 hFc hP1 hD1
  have hK := (hK.sub (tys' := []) [] rfl).app hK1
  generalize H1 = H at hP hS ⊢
  have hP : va_P (dC, dI) vwCl [(h0, .inr (13, moF a (upd f 18 (nI x1)) w)), (a 14, .inl (cI, 2001, .inl sf)), (a 15, .inl (cI, 2001, .inl pf))] H := hP
  have hD : va_D A [(h0, .inr (13, moF a (upd f 18 (nI x1)) w)), (a 14, .inl (cI, 2001, .inl sf)), (a 15, .inl (cI, 2001, .inl pf))] := hD
  have hK : va_K (dC, dI) vwCl [(cB, .byte), (cI, .int), (cJ, .long), (cZ, .boolean)] s := hK
  have er_1 : r_1 = 0 := hw.trans hy
  rw [er_1]
  refine lv_istore_n (lv' := [(2, .int 0), (0, .ref h0), (1, .int y1)]) hx hb dX12_takeSign_5 rfl hl (by decide) rfl (fun ls hl => ?_)
  refine lv_aload_n hx hb dX12_takeSign_6 rfl (lv_at hl 1 rfl) ?_
  refine lv_dup hx hb dX12_takeSign_7 rfl ?_
  refine va_get (D := (dC, dI)) (ci := 13) (v := .int (nI x1)) (C := RX12) (T := TX12) (N := 115) hx hb hts (fun w h => List.mem_cons_of_mem _ (uG_X12 w h)) hown hK hP 0 rfl rfl 18 (by decide) (hts _ (List.mem_cons_of_mem _ kw_1709)) (fun _ h9 => h9) rfl dX12_takeSign_8 ?_
  refine lv_iload_n hx hb dX12_takeSign_11 rfl (lv_at hl 0 rfl) ?_
  refine lv_if_eq (tgt := 19) hx hb dX12_takeSign_12 (by decide) (fun c_2 => ?_) (fun c_2 => ?_)
  · skip
    refine lv_iconst (v := 0) hx hb dX12_takeSign_19 (by decide) ?_
    refine lv_iadd hx hb dX12_takeSign_20 ?_
    refine lv_topi (fun x_3 ex_3 => ?_)
    have ex_3 : x_3 = nI (x1 + 0) := ex_3.trans (nI_add x1 0)
    subst ex_3
    refine va_put (D := (dC, dI)) (ci := 13) (v := .int (nI (x1 + 0))) (ty := .int) (C := RX12) (T := TX12) (N := 115) hx hb hts (fun w h => List.mem_cons_of_mem _ (uG_X12 w h)) tyX12 tyX12_ok nmX12 hown hK hP hD hS 0 rfl rfl 18 (by decide) (hts _ (List.mem_cons_of_mem _ kw_1709)) (fun _ h9 => h9) rfl (by decide +kernel) rfl rfl (Nat.le_of_ble_eq_true rfl) dX12_takeSign_21 (fun H locs hP hD hS => ?_)
    have hP : va_P (dC, dI) vwCl [(h0, .inr (13, moF a (upd f 18 (nI (x1 + 0))) w)), (a 14, .inl (cI, 2001, .inl sf)), (a 15, .inl (cI, 2001, .inl pf))] H := hP
    have hD : va_D A [(h0, .inr (13, moF a (upd f 18 (nI (x1 + 0))) w)), (a 14, .inl (cI, 2001, .inl sf)), (a 15, .inl (cI, 2001, .inl pf))] := hD
    refine lv_iload_n hx hb dX12_takeSign_24 rfl (lv_at hl 0 rfl) ?_
    have hP9 := hP.sub (ws' := [(h0, .inr (13, moF a (upd f 18 (nI (x1 + 0))) w)), (a 14, .inl (cI, 2001, .inl sf)), (a 15, .inl (cI, 2001, .inl pf))]) [0, 1, 2] rfl
    have hD9 := hD.sub (ws' := [(h0, .inr (13, moF a (upd f 18 (nI (x1 + 0))) w)), (a 14, .inl (cI, 2001, .inl sf)), (a 15, .inl (cI, 2001, .inl pf))]) [0, 1, 2] (by decide) rfl
    have hK9 := hK.sub (tys' := [(cB, .byte), (cI, .int), (cJ, .long), (cZ, .boolean)]) [0, 1, 2, 3] rfl
    exact W.zret (v := 0) hx hb hr (by rfl) (fun t_ ht hW => ⟨⟨0, (), rfl, rfl, by rw [ht]; exact hP9, va_K.moved hW.alike hK9, hD9⟩, hS.F ht⟩) hS.2.2 dX12_takeSign_25
  · skip
    exact absurd c_2 (by decide)
theorem dX12_needSign_0 : decode cX12_needSign 0 = .ok (.aload_n 0, 1) := by decide +kernel
theorem dX12_needSign_1 : decode cX12_needSign 1 = .ok (.iload_n 1, 1) := by decide +kernel
theorem dX12_needSign_2 : decode cX12_needSign 2 = .ok (.invokevirtual 335, 3) := by decide +kernel
theorem dX12_needSign_5 : decode cX12_needSign 5 = .ok (.ifCond .ne 7, 3) := by decide +kernel
theorem dX12_needSign_8 : decode cX12_needSign 8 = .ok (.aload_n 0, 1) := by decide +kernel
theorem dX12_needSign_9 : decode cX12_needSign 9 = .ok (.invokevirtual 329, 3) := by decide +kernel
theorem dX12_needSign_12 : decode cX12_needSign 12 = .ok (.return_, 1) := by decide +kernel
abbrev cs_t_X12_needSign_y (cB cI cJ cZ : ClassId) (h0 : Nat) (a : Nat → Nat) (f : Nat → Int32) (w : Int64) (x1 : Nat) (sf pf : Nat → Int32) (y1 : Int32) : va_W := [(h0, .inr (13, moF a (upd f 18 (nI x1)) w)), (a 14, .inl (cI, 2001, .inl sf)), (a 15, .inl (cI, 2001, .inl pf))]
abbrev pc_t_X12_needSign_y (dC : Nat → ClassId) (dI : Nat → Nat → Nat) (sz : Nat) (cB cI cJ cZ : ClassId) (h0 : Nat) (a : Nat → Nat) (f : Nat → Int32) (w : Int64) (x1 : Nat) (sf pf : Nat → Int32) (y1 : Int32) : Array Value → State → Prop := va_Pc [.ref h0, .int y1] (fun U => U.heap.size = sz ∧ va_P (dC, dI) vwCl [(h0, .inr (13, moF a (upd f 18 (nI x1)) w)), (a 14, .inl (cI, 2001, .inl sf)), (a 15, .inl (cI, 2001, .inl pf))] U.heap ∧ va_K (dC, dI) vwCl [(cB, .byte), (cI, .int), (cJ, .long), (cZ, .boolean)] U ∧ va_D (fun _ => True) [(h0, .inr (13, moF a (upd f 18 (nI x1)) w)), (a 14, .inl (cI, 2001, .inl sf)), (a 15, .inl (cI, 2001, .inl pf))])
abbrev qc_t_X12_needSign_y (dC : Nat → ClassId) (dI : Nat → Nat → Nat) (cB cI cJ cZ : ClassId) (h0 : Nat) (a : Nat → Nat) (f : Nat → Int32) (w : Int64) (x1 : Nat) (sf pf : Nat → Int32) (y1 : Int32) (A : Nat → Prop) : Array Value → State → Outcome → State → Prop := va_Qv (fun (u : Unit) => match u with | _ => True) (fun (u : Unit) t_ => match u with | _ => va_P (dC, dI) vwCl [(h0, .inr (13, moF a (upd f 18 (nI (x1 + 1))) w)), (a 14, .inl (cI, 2001, .inl sf)), (a 15, .inl (cI, 2001, .inl pf))] t_.heap ∧ va_K (dC, dI) vwCl [(cB, .byte), (cI, .int), (cJ, .long), (cZ, .boolean)] t_ ∧ va_D A [(h0, .inr (13, moF a (upd f 18 (nI (x1 + 1))) w)), (a 14, .inl (cI, 2001, .inl sf)), (a 15, .inl (cI, 2001, .inl pf))]) A
set_option maxHeartbeats 4000000 in
set_option maxRecDepth 100000 in
theorem t_X12_needSign_y (l : Launch) (dC : Nat → ClassId) (dI : Nat → Nat → Nat) (sz : Nat) (cB cI cJ cZ : ClassId) (h0 : Nat) (a : Nat → Nat) (f : Nat → Int32) (w : Int64) (x1 : Nat) (sf pf : Nat → Int32) (y1 : Int32) (hx1 : x1 ≤ 2000) (hy : isS (f 21) (sf x1) y1 = 1) : Met l yX12_needSign (wsOf yX12_needSign cX12_needSign 2 none) ({ frames := 3, cells := 0, slots := 0, locals := 180 }) (pc_t_X12_needSign_y dC dI sz cB cI cJ cZ h0 a f w x1 sf pf y1) (qc_t_X12_needSign_y dC dI cB cI cJ cZ h0 a f w x1 sf pf y1 (va_A (cs_t_X12_needSign_y cB cI cJ cZ h0 a f w x1 sf pf y1) sz)) 0 0 (va_A (cs_t_X12_needSign_y cB cI cJ cZ h0 a f w x1 sf pf y1) sz) := by
  refine Met.ofW (cc := cX12_needSign) (maxL := 2) (ret := none) (by decide) rfl ?_
  intro p e s m args below meth c s₁ B hml hv
  obtain ⟨rfl, hsz, hP, hK, hD0⟩ := hv
  have hx := B.exec
  have hb := B.bytes
  have hr := B.returns
  have hts := atoms_spec (ws := (wsOf yX12_needSign cX12_needSign 2 none)) B.pre
  have hown : s.vm.findClass RX12 = some m.cls := findClass_of_methodNamed B.named
  have hlocks := B.notSynchronized
  subst hsz
  have hD := hD0.self (sz := s.heap.size)
  generalize hAe : va_A (cs_t_X12_needSign_y cB cI cJ cZ h0 a f w x1 sf pf y1) s.heap.size = A at hD ⊢
  have hA : ∀ q : Nat, s.heap.size ≤ q → A q := fun q h => by rw [← hAe]; exact Or.inr h
  have hS : va_S A s.heap s.heap [] := va_S.rf
  have hP : va_P (dC, dI) vwCl [(h0, .inr (13, moF a (upd f 18 (nI x1)) w)), (a 14, .inl (cI, 2001, .inl sf)), (a 15, .inl (cI, 2001, .inl pf))] s.heap := hP
  have hl := lv_entry ([.ref h0, .int y1]) (n := 2) (Nat.le_of_ble_eq_true rfl)
  rw [lg_entry_eq]
  generalize (lg_sl ([.ref h0, .int y1]) ++ List.replicate (2 - (lg_sl ([.ref h0, .int y1])).length) Slot.unset).toArray = ls at hl ⊢
  have hl : lv_has ls 2 [(0, .ref h0), (1, .int y1)] := hl
  refine lv_aload_n hx hb dX12_needSign_0 rfl (lv_at hl 0 rfl) ?_
  refine lv_iload_n hx hb dX12_needSign_1 rfl (lv_at hl 1 rfl) ?_
  have hPc := hP.sub (ws' := [(h0, .inr (13, moF a (upd f 18 (nI x1)) w)), (a 14, .inl (cI, 2001, .inl sf)), (a 15, .inl (cI, 2001, .inl pf))]) [0, 1, 2] rfl
  have hDc := hD.sub (ws' := [(h0, .inr (13, moF a (upd f 18 (nI x1)) w)), (a 14, .inl (cI, 2001, .inl sf)), (a 15, .inl (cI, 2001, .inl pf))]) [0, 1, 2] (by decide) rfl
  have hKc := hK.sub (tys' := [(cB, .byte), (cI, .int), (cJ, .long), (cZ, .boolean)]) [0, 1, 2, 3] rfl
  have hFc := va_free (wc := [(h0, .inr (13, moF a (upd f 18 (nI x1)) w)), (a 14, .inl (cI, 2001, .inl sf)), (a 15, .inl (cI, 2001, .inl pf))]) hD hS hA [0, 1, 2] rfl
  refine va_calli (va_runV (As := [.int y1]) (rest := []) ⟨hx, hb, hml, hown, hts⟩ (t_X12_takeSign_y l dC dI s.heap.size cB cI cJ cZ h0 a f w x1 sf pf y1 hx1 hy) (cwV 1 hts (gd_all (in_V kw_2342 kw_2344 kw_156 kw_191 kc_X12_takeSign)) rfl rfl rfl (by decide +kernel) ⟨Nat.le_of_ble_eq_true rfl, Nat.le_of_ble_eq_true rfl⟩) ⟨fun a U g mk q => by obtain ⟨q0, q1, qP, qK, qD⟩ := q; exact ⟨q0, q1, qP, va_K.moved (u := U) (U := U.calling g mk a) (Vm.Alike.refl U.vm) qK, qD⟩, va_recv hKc hPc (ci := 13) (q0 := 0) rfl rfl, fun U hU hW => ⟨rfl, by rw [hU], by rw [hU]; exact hPc, va_K.moved hW.alike hKc, hDc.weaken (fun _ _ _ _ => trivial)⟩⟩ rfl rfl hl.1 rfl (lv_room (Nat.le_of_ble_eq_true rfl)) dX12_needSign_2 ⟨Nat.le_of_ble_eq_true rfl, Nat.le_of_ble_eq_true rfl⟩) hS (fun q _ h => hFc q h) hFc (fun r_1 u t_ H1 locs ht hvm hw hB hz1 hk1 hS => ?_)
  obtain ⟨hP1, hK1, hD1⟩ := hB
  rw [ht] at hP1
  have hK1 := va_K.moved hvm.symm hK1
  obtain ⟨hP, hD⟩ := va_join (wr := []) (w1 := [(h0, .inr (13, moF a (upd f 18 (nI (x1 + 1))) w)), (a 14, .inl (cI, 2001, .inl sf)), (a 15, .inl (cI, 2001, .inl pf))]) hP hD [0, 1, 2] [] rfl rfl (by decide) (by decide) hk1 hFc hP1 hD1
  have hK := (hK.sub (tys' := []) [] rfl).app hK1
  generalize H1 = H at hP hS ⊢
  have hP : va_P (dC, dI) vwCl [(h0, .inr (13, moF a (upd f 18 (nI (x1 + 1))) w)), (a 14, .inl (cI, 2001, .inl sf)), (a 15, .inl (cI, 2001, .inl pf))] H := hP
  have hD : va_D A [(h0, .inr (13, moF a (upd f 18 (nI (x1 + 1))) w)), (a 14, .inl (cI, 2001, .inl sf)), (a 15, .inl (cI, 2001, .inl pf))] := hD
  have hK : va_K (dC, dI) vwCl [(cB, .byte), (cI, .int), (cJ, .long), (cZ, .boolean)] s := hK
  have er_1 : r_1 = 1 := hw
  rw [er_1]
  refine lv_if_ne (tgt := 12) hx hb dX12_needSign_5 (by decide) (fun c_2 => ?_) (fun c_2 => ?_)
  · skip
    have hP9 := hP.sub (ws' := [(h0, .inr (13, moF a (upd f 18 (nI (x1 + 1))) w)), (a 14, .inl (cI, 2001, .inl sf)), (a 15, .inl (cI, 2001, .inl pf))]) [0, 1, 2] rfl
    have hD9 := hD.sub (ws' := [(h0, .inr (13, moF a (upd f 18 (nI (x1 + 1))) w)), (a 14, .inl (cI, 2001, .inl sf)), (a 15, .inl (cI, 2001, .inl pf))]) [0, 1, 2] (by decide) rfl
    have hK9 := hK.sub (tys' := [(cB, .byte), (cI, .int), (cJ, .long), (cZ, .boolean)]) [0, 1, 2, 3] rfl
    exact W.vret hx hb hr (fun t_ ht hW => ⟨⟨(), rfl, trivial, by rw [ht]; exact hP9, va_K.moved hW.alike hK9, hD9⟩, hS.F ht⟩) hS.2.2 dX12_needSign_12
  · skip
    exact absurd c_2 (by decide)
abbrev cs_t_X12_needSign_1 (cB cI cJ cZ : ClassId) (h0 : Nat) (a : Nat → Nat) (f : Nat → Int32) (w : Int64) (x1 : Nat) (sf pf : Nat → Int32) (y1 : Int32) : va_W := [(h0, .inr (13, moF a (upd f 18 (nI x1)) w)), (a 14, .inl (cI, 2001, .inl sf)), (a 15, .inl (cI, 2001, .inl pf))]
abbrev pc_t_X12_needSign_1 (dC : Nat → ClassId) (dI : Nat → Nat → Nat) (sz : Nat) (cB cI cJ cZ : ClassId) (h0 : Nat) (a : Nat → Nat) (f : Nat → Int32) (w : Int64) (x1 : Nat) (sf pf : Nat → Int32) (y1 : Int32) : Array Value → State → Prop := va_Pc [.ref h0, .int y1] (fun U => U.heap.size = sz ∧ va_P (dC, dI) vwCl [(h0, .inr (13, moF a (upd f 18 (nI x1)) w)), (a 14, .inl (cI, 2001, .inl sf)), (a 15, .inl (cI, 2001, .inl pf))] U.heap ∧ va_K (dC, dI) vwCl [(cB, .byte), (cI, .int), (cJ, .long), (cZ, .boolean)] U ∧ va_D (fun _ => True) [(h0, .inr (13, moF a (upd f 18 (nI x1)) w)), (a 14, .inl (cI, 2001, .inl sf)), (a 15, .inl (cI, 2001, .inl pf))])
abbrev qc_t_X12_needSign_1 (dC : Nat → ClassId) (dI : Nat → Nat → Nat) (cB cI cJ cZ : ClassId) (h0 : Nat) (a : Nat → Nat) (f : Nat → Int32) (w : Int64) (x1 : Nat) (sf pf : Nat → Int32) (y1 : Int32) (A : Nat → Prop) : Array Value → State → Outcome → State → Prop := va_Qv (fun (u : Unit) => match u with | _ => True) (fun (u : Unit) t_ => match u with | _ => va_P (dC, dI) vwCl [(h0, .inr (13, moF a (upd (upd (upd (upd f 18 (nI (x1 + 0))) 21 0) 19 1) 20 (pf (x1 + 0))) w)), (a 14, .inl (cI, 2001, .inl sf)), (a 15, .inl (cI, 2001, .inl pf))] t_.heap ∧ va_K (dC, dI) vwCl [(cB, .byte), (cI, .int), (cJ, .long), (cZ, .boolean)] t_ ∧ va_D A [(h0, .inr (13, moF a (upd (upd (upd (upd f 18 (nI (x1 + 0))) 21 0) 19 1) 20 (pf (x1 + 0))) w)), (a 14, .inl (cI, 2001, .inl sf)), (a 15, .inl (cI, 2001, .inl pf))]) A
set_option maxHeartbeats 4000000 in
set_option maxRecDepth 100000 in
theorem t_X12_needSign_1 (l : Launch) (dC : Nat → ClassId) (dI : Nat → Nat → Nat) (sz : Nat) (cB cI cJ cZ : ClassId) (h0 : Nat) (a : Nat → Nat) (f : Nat → Int32) (w : Int64) (x1 : Nat) (sf pf : Nat → Int32) (y1 : Int32) (hx1 : x1 ≤ 2000) (hy : isS (f 21) (sf x1) y1 = 0) (hg : ¬ f 21 = 0) : Met l yX12_needSign (wsOf yX12_needSign cX12_needSign 2 none) ({ frames := 3, cells := 0, slots := 0, locals := 180 }) (pc_t_X12_needSign_1 dC dI sz cB cI cJ cZ h0 a f w x1 sf pf y1) (qc_t_X12_needSign_1 dC dI cB cI cJ cZ h0 a f w x1 sf pf y1 (va_A (cs_t_X12_needSign_1 cB cI cJ cZ h0 a f w x1 sf pf y1) sz)) 0 0 (va_A (cs_t_X12_needSign_1 cB cI cJ cZ h0 a f w x1 sf pf y1) sz) := by
  refine Met.ofW (cc := cX12_needSign) (maxL := 2) (ret := none) (by decide) rfl ?_
  intro p e s m args below meth c s₁ B hml hv
  obtain ⟨rfl, hsz, hP, hK, hD0⟩ := hv
  have hx := B.exec
  have hb := B.bytes
  have hr := B.returns
  have hts := atoms_spec (ws := (wsOf yX12_needSign cX12_needSign 2 none)) B.pre
  have hown : s.vm.findClass RX12 = some m.cls := findClass_of_methodNamed B.named
  have hlocks := B.notSynchronized
  subst hsz
  have hD := hD0.self (sz := s.heap.size)
  generalize hAe : va_A (cs_t_X12_needSign_1 cB cI cJ cZ h0 a f w x1 sf pf y1) s.heap.size = A at hD ⊢
  have hA : ∀ q : Nat, s.heap.size ≤ q → A q := fun q h => by rw [← hAe]; exact Or.inr h
  have hS : va_S A s.heap s.heap [] := va_S.rf
  have hP : va_P (dC, dI) vwCl [(h0, .inr (13, moF a (upd f 18 (nI x1)) w)), (a 14, .inl (cI, 2001, .inl sf)), (a 15, .inl (cI, 2001, .inl pf))] s.heap := hP
  have hl := lv_entry ([.ref h0, .int y1]) (n := 2) (Nat.le_of_ble_eq_true rfl)
  rw [lg_entry_eq]
  generalize (lg_sl ([.ref h0, .int y1]) ++ List.replicate (2 - (lg_sl ([.ref h0, .int y1])).length) Slot.unset).toArray = ls at hl ⊢
  have hl : lv_has ls 2 [(0, .ref h0), (1, .int y1)] := hl
  refine lv_aload_n hx hb dX12_needSign_0 rfl (lv_at hl 0 rfl) ?_
  refine lv_iload_n hx hb dX12_needSign_1 rfl (lv_at hl 1 rfl) ?_
  have hPc := hP.sub (ws' := [(h0, .inr (13, moF a (upd f 18 (nI x1)) w)), (a 14, .inl (cI, 2001, .inl sf)), (a 15, .inl (cI, 2001, .inl pf))]) [0, 1, 2] rfl
  have hDc := hD.sub (ws' := [(h0, .inr (13, moF a (upd f 18 (nI x1)) w)), (a 14, .inl (cI, 2001, .inl sf)), (a 15, .inl (cI, 2001, .inl pf))]) [0, 1, 2] (by decide) rfl
  have hKc := hK.sub (tys' := [(cB, .byte), (cI, .int), (cJ, .long), (cZ, .boolean)]) [0, 1, 2, 3] rfl
  have hFc := va_free (wc := [(h0, .inr (13, moF a (upd f 18 (nI x1)) w)), (a 14, .inl (cI, 2001, .inl sf)), (a 15, .inl (cI, 2001, .inl pf))]) hD hS hA [0, 1, 2] rfl
  refine va_calli (va_runV (As := [.int y1]) (rest := []) ⟨hx, hb, hml, hown, hts⟩ (t_X12_takeSign_n l dC dI s.heap.size cB cI cJ cZ h0 a f w x1 sf pf y1 hx1 hy) (cwV 1 hts (gd_all (in_V kw_2342 kw_2344 kw_156 kw_191 kc_X12_takeSign)) rfl rfl rfl (by decide +kernel) ⟨Nat.le_of_ble_eq_true rfl, Nat.le_of_ble_eq_true rfl⟩) ⟨fun a U g mk q => by obtain ⟨q0, q1, qP, qK, qD⟩ := q; exact ⟨q0, q1, qP, va_K.moved (u := U) (U := U.calling g mk a) (Vm.Alike.refl U.vm) qK, qD⟩, va_recv hKc hPc (ci := 13) (q0 := 0) rfl rfl, fun U hU hW => ⟨rfl, by rw [hU], by rw [hU]; exact hPc, va_K.moved hW.alike hKc, hDc.weaken (fun _ _ _ _ => trivial)⟩⟩ rfl rfl hl.1 rfl (lv_room (Nat.le_of_ble_eq_true rfl)) dX12_needSign_2 ⟨Nat.le_of_ble_eq_true rfl, Nat.le_of_ble_eq_true rfl⟩) hS (fun q _ h => hFc q h) hFc (fun r_1 u t_ H1 locs ht hvm hw hB hz1 hk1 hS => ?_)
  obtain ⟨hP1, hK1, hD1⟩ := hB
  rw [ht] at hP1
  have hK1 := va_K.moved hvm.symm hK1
  obtain ⟨hP, hD⟩ := va_join (wr := []) (w1 := [(h0, .inr (13, moF a (upd f 18 (nI (x1 + 0))) w)), (a 14, .inl (cI, 2001, .inl sf)), (a 15, .inl (cI, 2001, .inl pf))]) hP hD [0, 1, 2] [] rfl rfl (by decide) (by decide) hk1 hFc hP1 hD1
  have hK := (hK.sub (tys' := []) [] rfl).app hK1
  generalize H1 = H at hP hS ⊢
  have hP : va_P (dC, dI) vwCl [(h0, .inr (13, moF a (upd f 18 (nI (x1 + 0))) w)), (a 14, .inl (cI, 2001, .inl sf)), (a 15, .inl (cI, 2001, .inl pf))] H := hP
  have hD : va_D A [(h0, .inr (13, moF a (upd f 18 (nI (x1 + 0))) w)), (a 14, .inl (cI, 2001, .inl sf)), (a 15, .inl (cI, 2001, .inl pf))] := hD
  have hK : va_K (dC, dI) vwCl [(cB, .byte), (cI, .int), (cJ, .long), (cZ, .boolean)] s := hK
  have er_1 : r_1 = 0 := hw
  rw [er_1]
  refine lv_if_ne (tgt := 12) hx hb dX12_needSign_5 (by decide) (fun c_2 => ?_) (fun c_2 => ?_)
  · skip
    exact absurd c_2 (by decide)
  · skip
    refine lv_aload_n hx hb dX12_needSign_8 rfl (lv_at hl 0 rfl) ?_
    have hPc := hP.sub (ws' := [(h0, .inr (13, moF a (upd f 18 (nI (x1 + 0))) w)), (a 14, .inl (cI, 2001, .inl sf)), (a 15, .inl (cI, 2001, .inl pf))]) [0, 1, 2] rfl
    have hDc := hD.sub (ws' := [(h0, .inr (13, moF a (upd f 18 (nI (x1 + 0))) w)), (a 14, .inl (cI, 2001, .inl sf)), (a 15, .inl (cI, 2001, .inl pf))]) [0, 1, 2] (by decide) rfl
    have hKc := hK.sub (tys' := [(cB, .byte), (cI, .int), (cJ, .long), (cZ, .boolean)]) [0, 1, 2, 3] rfl
    have hFc := va_free (wc := [(h0, .inr (13, moF a (upd f 18 (nI (x1 + 0))) w)), (a 14, .inl (cI, 2001, .inl sf)), (a 15, .inl (cI, 2001, .inl pf))]) hD hS hA [0, 1, 2] rfl
    refine va_callv (va_runV (As := []) (rest := []) ⟨hx, hb, hml, hown, hts⟩ (t_X12_wrong_1 l dC dI H.size cB cI cJ cZ h0 a f w (x1 + 0) sf pf (by omega) hg) (cwV 0 hts (gd_all (in_V kw_2265 kw_2267 kw_140 kw_191 kc_X12_wrong)) rfl rfl rfl (by decide +kernel) ⟨Nat.le_of_ble_eq_true rfl, Nat.le_of_ble_eq_true rfl⟩) ⟨fun a U g mk q => by obtain ⟨q0, q1, qP, qK, qD⟩ := q; exact ⟨q0, q1, qP, va_K.moved (u := U) (U := U.calling g mk a) (Vm.Alike.refl U.vm) qK, qD⟩, va_recv hKc hPc (ci := 13) (q0 := 0) rfl rfl, fun U hU hW => ⟨rfl, by rw [hU], by rw [hU]; exact hPc, va_K.moved hW.alike hKc, hDc.weaken (fun _ _ _ _ => trivial)⟩⟩ rfl rfl hl.1 rfl (lv_room (Nat.le_of_ble_eq_true rfl)) dX12_needSign_9 ⟨Nat.le_of_ble_eq_true rfl, Nat.le_of_ble_eq_true rfl⟩) hS (fun q _ h => hFc q h) hFc (fun u t_ H1 locs ht hvm hw hB hz1 hk1 hS => ?_)
    obtain ⟨hP1, hK1, hD1⟩ := hB
    rw [ht] at hP1
    have hK1 := va_K.moved hvm.symm hK1
    obtain ⟨hP, hD⟩ := va_join (wr := []) (w1 := [(h0, .inr (13, moF a (upd (upd (upd (upd f 18 (nI (x1 + 0))) 21 0) 19 1) 20 (pf (x1 + 0))) w)), (a 14, .inl (cI, 2001, .inl sf)), (a 15, .inl (cI, 2001, .inl pf))]) hP hD [0, 1, 2] [] rfl rfl (by decide) (by decide) hk1 hFc hP1 hD1
    have hK := (hK.sub (tys' := []) [] rfl).app hK1
    generalize H1 = H at hP hS ⊢
    have hP : va_P (dC, dI) vwCl [(h0, .inr (13, moF a (upd (upd (upd (upd f 18 (nI (x1 + 0))) 21 0) 19 1) 20 (pf (x1 + 0))) w)), (a 14, .inl (cI, 2001, .inl sf)), (a 15, .inl (cI, 2001, .inl pf))] H := hP
    have hD : va_D A [(h0, .inr (13, moF a (upd (upd (upd (upd f 18 (nI (x1 + 0))) 21 0) 19 1) 20 (pf (x1 + 0))) w)), (a 14, .inl (cI, 2001, .inl sf)), (a 15, .inl (cI, 2001, .inl pf))] := hD
    have hK : va_K (dC, dI) vwCl [(cB, .byte), (cI, .int), (cJ, .long), (cZ, .boolean)] s := hK
    have hP9 := hP.sub (ws' := [(h0, .inr (13, moF a (upd (upd (upd (upd f 18 (nI (x1 + 0))) 21 0) 19 1) 20 (pf (x1 + 0))) w)), (a 14, .inl (cI, 2001, .inl sf)), (a 15, .inl (cI, 2001, .inl pf))]) [0, 1, 2] rfl
    have hD9 := hD.sub (ws' := [(h0, .inr (13, moF a (upd (upd (upd (upd f 18 (nI (x1 + 0))) 21 0) 19 1) 20 (pf (x1 + 0))) w)), (a 14, .inl (cI, 2001, .inl sf)), (a 15, .inl (cI, 2001, .inl pf))]) [0, 1, 2] (by decide) rfl
    have hK9 := hK.sub (tys' := [(cB, .byte), (cI, .int), (cJ, .long), (cZ, .boolean)]) [0, 1, 2, 3] rfl
    exact W.vret hx hb hr (fun t_ ht hW => ⟨⟨(), rfl, trivial, by rw [ht]; exact hP9, va_K.moved hW.alike hK9, hD9⟩, hS.F ht⟩) hS.2.2 dX12_needSign_12
abbrev cs_t_X12_needSign_0 (cB cI cJ cZ : ClassId) (h0 : Nat) (a : Nat → Nat) (f : Nat → Int32) (w : Int64) (x1 : Nat) (sf pf : Nat → Int32) (y1 : Int32) : va_W := [(h0, .inr (13, moF a (upd f 18 (nI x1)) w)), (a 14, .inl (cI, 2001, .inl sf)), (a 15, .inl (cI, 2001, .inl pf))]
abbrev pc_t_X12_needSign_0 (dC : Nat → ClassId) (dI : Nat → Nat → Nat) (sz : Nat) (cB cI cJ cZ : ClassId) (h0 : Nat) (a : Nat → Nat) (f : Nat → Int32) (w : Int64) (x1 : Nat) (sf pf : Nat → Int32) (y1 : Int32) : Array Value → State → Prop := va_Pc [.ref h0, .int y1] (fun U => U.heap.size = sz ∧ va_P (dC, dI) vwCl [(h0, .inr (13, moF a (upd f 18 (nI x1)) w)), (a 14, .inl (cI, 2001, .inl sf)), (a 15, .inl (cI, 2001, .inl pf))] U.heap ∧ va_K (dC, dI) vwCl [(cB, .byte), (cI, .int), (cJ, .long), (cZ, .boolean)] U ∧ va_D (fun _ => True) [(h0, .inr (13, moF a (upd f 18 (nI x1)) w)), (a 14, .inl (cI, 2001, .inl sf)), (a 15, .inl (cI, 2001, .inl pf))])
abbrev qc_t_X12_needSign_0 (dC : Nat → ClassId) (dI : Nat → Nat → Nat) (cB cI cJ cZ : ClassId) (h0 : Nat) (a : Nat → Nat) (f : Nat → Int32) (w : Int64) (x1 : Nat) (sf pf : Nat → Int32) (y1 : Int32) (A : Nat → Prop) : Array Value → State → Outcome → State → Prop := va_Qv (fun (u : Unit) => match u with | _ => True) (fun (u : Unit) t_ => match u with | _ => va_P (dC, dI) vwCl [(h0, .inr (13, moF a (upd f 18 (nI (x1 + 0))) w)), (a 14, .inl (cI, 2001, .inl sf)), (a 15, .inl (cI, 2001, .inl pf))] t_.heap ∧ va_K (dC, dI) vwCl [(cB, .byte), (cI, .int), (cJ, .long), (cZ, .boolean)] t_ ∧ va_D A [(h0, .inr (13, moF a (upd f 18 (nI (x1 + 0))) w)), (a 14, .inl (cI, 2001, .inl sf)), (a 15, .inl (cI, 2001, .inl pf))]) A
set_option maxHeartbeats 4000000 in
set_option maxRecDepth 100000 in
theorem t_X12_needSign_0 (l : Launch) (dC : Nat → ClassId) (dI : Nat → Nat → Nat) (sz : Nat) (cB cI cJ cZ : ClassId) (h0 : Nat) (a : Nat → Nat) (f : Nat → Int32) (w : Int64) (x1 : Nat) (sf pf : Nat → Int32) (y1 : Int32) (hx1 : x1 ≤ 2000) (hy : isS (f 21) (sf x1) y1 = 0) (hg : f 21 = 0) : Met l yX12_needSign (wsOf yX12_needSign cX12_needSign 2 none) ({ frames := 3, cells := 0, slots := 0, locals := 180 }) (pc_t_X12_needSign_0 dC dI sz cB cI cJ cZ h0 a f w x1 sf pf y1) (qc_t_X12_needSign_0 dC dI cB cI cJ cZ h0 a f w x1 sf pf y1 (va_A (cs_t_X12_needSign_0 cB cI cJ cZ h0 a f w x1 sf pf y1) sz)) 0 0 (va_A (cs_t_X12_needSign_0 cB cI cJ cZ h0 a f w x1 sf pf y1) sz) := by
  refine Met.ofW (cc := cX12_needSign) (maxL := 2) (ret := none) (by decide) rfl ?_
  intro p e s m args below meth c s₁ B hml hv
  obtain ⟨rfl, hsz, hP, hK, hD0⟩ := hv
  have hx := B.exec
  have hb := B.bytes
  have hr := B.returns
  have hts := atoms_spec (ws := (wsOf yX12_needSign cX12_needSign 2 none)) B.pre
  have hown : s.vm.findClass RX12 = some m.cls := findClass_of_methodNamed B.named
  have hlocks := B.notSynchronized
  subst hsz
  have hD := hD0.self (sz := s.heap.size)
  generalize hAe : va_A (cs_t_X12_needSign_0 cB cI cJ cZ h0 a f w x1 sf pf y1) s.heap.size = A at hD ⊢
  have hA : ∀ q : Nat, s.heap.size ≤ q → A q := fun q h => by rw [← hAe]; exact Or.inr h
  have hS : va_S A s.heap s.heap [] := va_S.rf
  have hP : va_P (dC, dI) vwCl [(h0, .inr (13, moF a (upd f 18 (nI x1)) w)), (a 14, .inl (cI, 2001, .inl sf)), (a 15, .inl (cI, 2001, .inl pf))] s.heap := hP
  have hl := lv_entry ([.ref h0, .int y1]) (n := 2) (Nat.le_of_ble_eq_true rfl)
  rw [lg_entry_eq]
  generalize (lg_sl ([.ref h0, .int y1]) ++ List.replicate (2 - (lg_sl ([.ref h0, .int y1])).length) Slot.unset).toArray = ls at hl ⊢
  have hl : lv_has ls 2 [(0, .ref h0), (1, .int y1)] := hl
  refine lv_aload_n hx hb dX12_needSign_0 rfl (lv_at hl 0 rfl) ?_
  refine lv_iload_n hx hb dX12_needSign_1 rfl (lv_at hl 1 rfl) ?_
  have hPc := hP.sub (ws' := [(h0, .inr (13, moF a (upd f 18 (nI x1)) w)), (a 14, .inl (cI, 2001, .inl sf)), (a 15, .inl (cI, 2001, .inl pf))]) [0, 1, 2] rfl
  have hDc := hD.sub (ws' := [(h0, .inr (13, moF a (upd f 18 (nI x1)) w)), (a 14, .inl (cI, 2001, .inl sf)), (a 15, .inl (cI, 2001, .inl pf))]) [0, 1, 2] (by decide) rfl
  have hKc := hK.sub (tys' := [(cB, .byte), (cI, .int), (cJ, .long), (cZ, .boolean)]) [0, 1, 2, 3] rfl
  have hFc := va_free (wc := [(h0, .inr (13, moF a (upd f 18 (nI x1)) w)), (a 14, .inl (cI, 2001, .inl sf)), (a 15, .inl (cI, 2001, .inl pf))]) hD hS hA [0, 1, 2] rfl
  refine va_calli (va_runV (As := [.int y1]) (rest := []) ⟨hx, hb, hml, hown, hts⟩ (t_X12_takeSign_n l dC dI s.heap.size cB cI cJ cZ h0 a f w x1 sf pf y1 hx1 hy) (cwV 1 hts (gd_all (in_V kw_2342 kw_2344 kw_156 kw_191 kc_X12_takeSign)) rfl rfl rfl (by decide +kernel) ⟨Nat.le_of_ble_eq_true rfl, Nat.le_of_ble_eq_true rfl⟩) ⟨fun a U g mk q => by obtain ⟨q0, q1, qP, qK, qD⟩ := q; exact ⟨q0, q1, qP, va_K.moved (u := U) (U := U.calling g mk a) (Vm.Alike.refl U.vm) qK, qD⟩, va_recv hKc hPc (ci := 13) (q0 := 0) rfl rfl, fun U hU hW => ⟨rfl, by rw [hU], by rw [hU]; exact hPc, va_K.moved hW.alike hKc, hDc.weaken (fun _ _ _ _ => trivial)⟩⟩ rfl rfl hl.1 rfl (lv_room (Nat.le_of_ble_eq_true rfl)) dX12_needSign_2 ⟨Nat.le_of_ble_eq_true rfl, Nat.le_of_ble_eq_true rfl⟩) hS (fun q _ h => hFc q h) hFc (fun r_1 u t_ H1 locs ht hvm hw hB hz1 hk1 hS => ?_)
  obtain ⟨hP1, hK1, hD1⟩ := hB
  rw [ht] at hP1
  have hK1 := va_K.moved hvm.symm hK1
  obtain ⟨hP, hD⟩ := va_join (wr := []) (w1 := [(h0, .inr (13, moF a (upd f 18 (nI (x1 + 0))) w)), (a 14, .inl (cI, 2001, .inl sf)), (a 15, .inl (cI, 2001, .inl pf))]) hP hD [0, 1, 2] [] rfl rfl (by decide) (by decide) hk1 hFc hP1 hD1
  have hK := (hK.sub (tys' := []) [] rfl).app hK1
  generalize H1 = H at hP hS ⊢
  have hP : va_P (dC, dI) vwCl [(h0, .inr (13, moF a (upd f 18 (nI (x1 + 0))) w)), (a 14, .inl (cI, 2001, .inl sf)), (a 15, .inl (cI, 2001, .inl pf))] H := hP
  have hD : va_D A [(h0, .inr (13, moF a (upd f 18 (nI (x1 + 0))) w)), (a 14, .inl (cI, 2001, .inl sf)), (a 15, .inl (cI, 2001, .inl pf))] := hD
  have hK : va_K (dC, dI) vwCl [(cB, .byte), (cI, .int), (cJ, .long), (cZ, .boolean)] s := hK
  have er_1 : r_1 = 0 := hw
  rw [er_1]
  refine lv_if_ne (tgt := 12) hx hb dX12_needSign_5 (by decide) (fun c_2 => ?_) (fun c_2 => ?_)
  · skip
    exact absurd c_2 (by decide)
  · skip
    refine lv_aload_n hx hb dX12_needSign_8 rfl (lv_at hl 0 rfl) ?_
    have hPc := hP.sub (ws' := [(h0, .inr (13, moF a (upd f 18 (nI (x1 + 0))) w)), (a 14, .inl (cI, 2001, .inl sf)), (a 15, .inl (cI, 2001, .inl pf))]) [0, 1, 2] rfl
    have hDc := hD.sub (ws' := [(h0, .inr (13, moF a (upd f 18 (nI (x1 + 0))) w)), (a 14, .inl (cI, 2001, .inl sf)), (a 15, .inl (cI, 2001, .inl pf))]) [0, 1, 2] (by decide) rfl
    have hKc := hK.sub (tys' := [(cB, .byte), (cI, .int), (cJ, .long), (cZ, .boolean)]) [0, 1, 2, 3] rfl
    have hFc := va_free (wc := [(h0, .inr (13, moF a (upd f 18 (nI (x1 + 0))) w)), (a 14, .inl (cI, 2001, .inl sf)), (a 15, .inl (cI, 2001, .inl pf))]) hD hS hA [0, 1, 2] rfl
    refine va_callv (va_runV (As := []) (rest := []) ⟨hx, hb, hml, hown, hts⟩ (t_X12_wrong_0 l dC dI H.size cB cI cJ cZ h0 a f w (x1 + 0) sf pf (by omega) hg) (cwV 0 hts (gd_all (in_V kw_2265 kw_2267 kw_140 kw_191 kc_X12_wrong)) rfl rfl rfl (by decide +kernel) ⟨Nat.le_of_ble_eq_true rfl, Nat.le_of_ble_eq_true rfl⟩) ⟨fun a U g mk q => by obtain ⟨q0, q1, qP, qK, qD⟩ := q; exact ⟨q0, q1, qP, va_K.moved (u := U) (U := U.calling g mk a) (Vm.Alike.refl U.vm) qK, qD⟩, va_recv hKc hPc (ci := 13) (q0 := 0) rfl rfl, fun U hU hW => ⟨rfl, by rw [hU], by rw [hU]; exact hPc, va_K.moved hW.alike hKc, hDc.weaken (fun _ _ _ _ => trivial)⟩⟩ rfl rfl hl.1 rfl (lv_room (Nat.le_of_ble_eq_true rfl)) dX12_needSign_9 ⟨Nat.le_of_ble_eq_true rfl, Nat.le_of_ble_eq_true rfl⟩) hS (fun q _ h => hFc q h) hFc (fun u t_ H1 locs ht hvm hw hB hz1 hk1 hS => ?_)
    obtain ⟨hP1, hK1, hD1⟩ := hB
    rw [ht] at hP1
    have hK1 := va_K.moved hvm.symm hK1
    obtain ⟨hP, hD⟩ := va_join (wr := []) (w1 := [(h0, .inr (13, moF a (upd f 18 (nI (x1 + 0))) w)), (a 14, .inl (cI, 2001, .inl sf)), (a 15, .inl (cI, 2001, .inl pf))]) hP hD [0, 1, 2] [] rfl rfl (by decide) (by decide) hk1 hFc hP1 hD1
    have hK := (hK.sub (tys' := []) [] rfl).app hK1
    generalize H1 = H at hP hS ⊢
    have hP : va_P (dC, dI) vwCl [(h0, .inr (13, moF a (upd f 18 (nI (x1 + 0))) w)), (a 14, .inl (cI, 2001, .inl sf)), (a 15, .inl (cI, 2001, .inl pf))] H := hP
    have hD : va_D A [(h0, .inr (13, moF a (upd f 18 (nI (x1 + 0))) w)), (a 14, .inl (cI, 2001, .inl sf)), (a 15, .inl (cI, 2001, .inl pf))] := hD
    have hK : va_K (dC, dI) vwCl [(cB, .byte), (cI, .int), (cJ, .long), (cZ, .boolean)] s := hK
    have hP9 := hP.sub (ws' := [(h0, .inr (13, moF a (upd f 18 (nI (x1 + 0))) w)), (a 14, .inl (cI, 2001, .inl sf)), (a 15, .inl (cI, 2001, .inl pf))]) [0, 1, 2] rfl
    have hD9 := hD.sub (ws' := [(h0, .inr (13, moF a (upd f 18 (nI (x1 + 0))) w)), (a 14, .inl (cI, 2001, .inl sf)), (a 15, .inl (cI, 2001, .inl pf))]) [0, 1, 2] (by decide) rfl
    have hK9 := hK.sub (tys' := [(cB, .byte), (cI, .int), (cJ, .long), (cZ, .boolean)]) [0, 1, 2, 3] rfl
    exact W.vret hx hb hr (fun t_ ht hW => ⟨⟨(), rfl, trivial, by rw [ht]; exact hP9, va_K.moved hW.alike hK9, hD9⟩, hS.F ht⟩) hS.2.2 dX12_needSign_12
theorem dX12_deeper_0 : decode cX12_deeper 0 = .ok (.aload_n 0, 1) := by decide +kernel
theorem dX12_deeper_1 : decode cX12_deeper 1 = .ok (.dup, 1) := by decide +kernel
theorem dX12_deeper_2 : decode cX12_deeper 2 = .ok (.getfield 347, 3) := by decide +kernel
theorem dX12_deeper_5 : decode cX12_deeper 5 = .ok (.iconst 1, 1) := by decide +kernel
theorem dX12_deeper_6 : decode cX12_deeper 6 = .ok (.iadd, 1) := by decide +kernel
theorem dX12_deeper_7 : decode cX12_deeper 7 = .ok (.putfield 347, 3) := by decide +kernel
theorem dX12_deeper_10 : decode cX12_deeper 10 = .ok (.aload_n 0, 1) := by decide +kernel
theorem dX12_deeper_11 : decode cX12_deeper 11 = .ok (.getfield 347, 3) := by decide +kernel
theorem dX12_deeper_14 : decode cX12_deeper 14 = .ok (.bipush 12, 2) := by decide +kernel
theorem dX12_deeper_16 : decode cX12_deeper 16 = .ok (.if_icmp .le 10, 3) := by decide +kernel
theorem dX12_deeper_19 : decode cX12_deeper 19 = .ok (.aload_n 0, 1) := by decide +kernel
theorem dX12_deeper_20 : decode cX12_deeper 20 = .ok (.bipush 7, 2) := by decide +kernel
theorem dX12_deeper_22 : decode cX12_deeper 22 = .ok (.iload_n 1, 1) := by decide +kernel
theorem dX12_deeper_23 : decode cX12_deeper 23 = .ok (.invokevirtual 305, 3) := by decide +kernel
theorem dX12_deeper_26 : decode cX12_deeper 26 = .ok (.return_, 1) := by decide +kernel
abbrev cs_t_X12_deeper_i (cB cI cJ cZ : ClassId) (h0 : Nat) (a : Nat → Nat) (f : Nat → Int32) (w : Int64) (z1 : Nat) (p1 : Int32) : va_W := [(h0, .inr (13, moF a (upd f 70 (nI z1)) w))]
abbrev pc_t_X12_deeper_i (dC : Nat → ClassId) (dI : Nat → Nat → Nat) (sz : Nat) (cB cI cJ cZ : ClassId) (h0 : Nat) (a : Nat → Nat) (f : Nat → Int32) (w : Int64) (z1 : Nat) (p1 : Int32) : Array Value → State → Prop := va_Pc [.ref h0, .int p1] (fun U => U.heap.size = sz ∧ va_P (dC, dI) vwCl [(h0, .inr (13, moF a (upd f 70 (nI z1)) w))] U.heap ∧ va_K (dC, dI) vwCl [(cB, .byte), (cI, .int), (cJ, .long), (cZ, .boolean)] U ∧ va_D (fun _ => True) [(h0, .inr (13, moF a (upd f 70 (nI z1)) w))])
abbrev qc_t_X12_deeper_i (dC : Nat → ClassId) (dI : Nat → Nat → Nat) (cB cI cJ cZ : ClassId) (h0 : Nat) (a : Nat → Nat) (f : Nat → Int32) (w : Int64) (z1 : Nat) (p1 : Int32) (A : Nat → Prop) : Array Value → State → Outcome → State → Prop := va_Qv (fun (u : Unit) => match u with | _ => True) (fun (u : Unit) t_ => match u with | _ => va_P (dC, dI) vwCl [(h0, .inr (13, moF a (upd f 70 (nI (z1 + 1))) w))] t_.heap ∧ va_K (dC, dI) vwCl [(cB, .byte), (cI, .int), (cJ, .long), (cZ, .boolean)] t_ ∧ va_D A [(h0, .inr (13, moF a (upd f 70 (nI (z1 + 1))) w))]) A
set_option maxHeartbeats 4000000 in
set_option maxRecDepth 100000 in
theorem t_X12_deeper_i (l : Launch) (dC : Nat → ClassId) (dI : Nat → Nat → Nat) (sz : Nat) (cB cI cJ cZ : ClassId) (h0 : Nat) (a : Nat → Nat) (f : Nat → Int32) (w : Int64) (z1 : Nat) (p1 : Int32) (hz1 : z1 < 12) : Met l yX12_deeper (wsOf yX12_deeper cX12_deeper 2 none) ({ frames := 1, cells := 0, slots := 0, locals := 60 }) (pc_t_X12_deeper_i dC dI sz cB cI cJ cZ h0 a f w z1 p1) (qc_t_X12_deeper_i dC dI cB cI cJ cZ h0 a f w z1 p1 (va_A (cs_t_X12_deeper_i cB cI cJ cZ h0 a f w z1 p1) sz)) 0 0 (va_A (cs_t_X12_deeper_i cB cI cJ cZ h0 a f w z1 p1) sz) := by
  refine Met.ofW (cc := cX12_deeper) (maxL := 2) (ret := none) (by decide) rfl ?_
  intro p e s m args below meth c s₁ B hml hv
  obtain ⟨rfl, hsz, hP, hK, hD0⟩ := hv
  have hx := B.exec
  have hb := B.bytes
  have hr := B.returns
  have hts := atoms_spec (ws := (wsOf yX12_deeper cX12_deeper 2 none)) B.pre
  have hown : s.vm.findClass RX12 = some m.cls := findClass_of_methodNamed B.named
  have hlocks := B.notSynchronized
  subst hsz
  have hD := hD0.self (sz := s.heap.size)
  generalize hAe : va_A (cs_t_X12_deeper_i cB cI cJ cZ h0 a f w z1 p1) s.heap.size = A at hD ⊢
  have hA : ∀ q : Nat, s.heap.size ≤ q → A q := fun q h => by rw [← hAe]; exact Or.inr h
  have hS : va_S A s.heap s.heap [] := va_S.rf
  have hP : va_P (dC, dI) vwCl [(h0, .inr (13, moF a (upd f 70 (nI z1)) w))] s.heap := hP
  have hl := lv_entry ([.ref h0, .int p1]) (n := 2) (Nat.le_of_ble_eq_true rfl)
  rw [lg_entry_eq]
  generalize (lg_sl ([.ref h0, .int p1]) ++ List.replicate (2 - (lg_sl ([.ref h0, .int p1])).length) Slot.unset).toArray = ls at hl ⊢
  have hl : lv_has ls 2 [(0, .ref h0), (1, .int p1)] := hl
  refine lv_aload_n hx hb dX12_deeper_0 rfl (lv_at hl 0 rfl) ?_
  refine lv_dup hx hb dX12_deeper_1 rfl ?_
  refine va_get (D := (dC, dI)) (ci := 13) (v := .int (nI z1)) (C := RX12) (T := TX12) (N := 115) hx hb hts (fun w h => List.mem_cons_of_mem _ (uG_X12 w h)) hown hK hP 0 rfl rfl 70 (by decide) (hts _ (List.mem_cons_of_mem _ kw_1761)) (fun _ h9 => h9) rfl dX12_deeper_2 ?_
  refine lv_iconst (v := 1) hx hb dX12_deeper_5 (by decide) ?_
  refine lv_iadd hx hb dX12_deeper_6 ?_
  refine lv_topi (fun x_1 ex_1 => ?_)
  have ex_1 : x_1 = nI (z1 + 1) := ex_1.trans (nI_add z1 1)
  subst ex_1
  refine va_put (D := (dC, dI)) (ci := 13) (v := .int (nI (z1 + 1))) (ty := .int) (C := RX12) (T := TX12) (N := 115) hx hb hts (fun w h => List.mem_cons_of_mem _ (uG_X12 w h)) tyX12 tyX12_ok nmX12 hown hK hP hD hS 0 rfl rfl 70 (by decide) (hts _ (List.mem_cons_of_mem _ kw_1761)) (fun _ h9 => h9) rfl (by decide +kernel) rfl rfl (Nat.le_of_ble_eq_true rfl) dX12_deeper_7 (fun H locs hP hD hS => ?_)
  have hP : va_P (dC, dI) vwCl [(h0, .inr (13, moF a (upd f 70 (nI (z1 + 1))) w))] H := hP
  have hD : va_D A [(h0, .inr (13, moF a (upd f 70 (nI (z1 + 1))) w))] := hD
  refine lv_aload_n hx hb dX12_deeper_10 rfl (lv_at hl 0 rfl) ?_
  refine va_get (D := (dC, dI)) (ci := 13) (v := .int (nI (z1 + 1))) (C := RX12) (T := TX12) (N := 115) hx hb hts (fun w h => List.mem_cons_of_mem _ (uG_X12 w h)) hown hK hP 0 rfl rfl 70 (by decide) (hts _ (List.mem_cons_of_mem _ kw_1761)) (fun _ h9 => h9) rfl dX12_deeper_11 ?_
  refine lv_bipush (v := 12) hx hb dX12_deeper_14 (by decide) ?_
  refine lv_icmp_le (tgt := 26) hx hb dX12_deeper_16 (by decide) (fun c_2 => ?_) (fun c_2 => ?_)
  · skip
    have c_2 : z1 + 1 ≤ 12 := (nI_leI (a := z1 + 1) (b := 12) (by omega) (by omega)).mp c_2
    have hP9 := hP.sub (ws' := [(h0, .inr (13, moF a (upd f 70 (nI (z1 + 1))) w))]) [0] rfl
    have hD9 := hD.sub (ws' := [(h0, .inr (13, moF a (upd f 70 (nI (z1 + 1))) w))]) [0] (by decide) rfl
    have hK9 := hK.sub (tys' := [(cB, .byte), (cI, .int), (cJ, .long), (cZ, .boolean)]) [0, 1, 2, 3] rfl
    exact W.vret hx hb hr (fun t_ ht hW => ⟨⟨(), rfl, trivial, by rw [ht]; exact hP9, va_K.moved hW.alike hK9, hD9⟩, hS.F ht⟩) hS.2.2 dX12_deeper_26
  · skip
    have c_2 : ¬ (z1 + 1 ≤ 12) := fun h => c_2 ((nI_leI (a := z1 + 1) (b := 12) (by omega) (by omega)).mpr h)
    exact absurd (show z1 + 1 ≤ 12 by omega) c_2
abbrev cs_t_X12_deeper_1 (cB cI cJ cZ : ClassId) (h0 : Nat) (a : Nat → Nat) (f : Nat → Int32) (w : Int64) (z1 : Nat) (p1 : Int32) : va_W := [(h0, .inr (13, moF a (upd f 70 (nI z1)) w))]
abbrev pc_t_X12_deeper_1 (dC : Nat → ClassId) (dI : Nat → Nat → Nat) (sz : Nat) (cB cI cJ cZ : ClassId) (h0 : Nat) (a : Nat → Nat) (f : Nat → Int32) (w : Int64) (z1 : Nat) (p1 : Int32) : Array Value → State → Prop := va_Pc [.ref h0, .int p1] (fun U => U.heap.size = sz ∧ va_P (dC, dI) vwCl [(h0, .inr (13, moF a (upd f 70 (nI z1)) w))] U.heap ∧ va_K (dC, dI) vwCl [(cB, .byte), (cI, .int), (cJ, .long), (cZ, .boolean)] U ∧ va_D (fun _ => True) [(h0, .inr (13, moF a (upd f 70 (nI z1)) w))])
abbrev qc_t_X12_deeper_1 (dC : Nat → ClassId) (dI : Nat → Nat → Nat) (cB cI cJ cZ : ClassId) (h0 : Nat) (a : Nat → Nat) (f : Nat → Int32) (w : Int64) (z1 : Nat) (p1 : Int32) (A : Nat → Prop) : Array Value → State → Outcome → State → Prop := va_Qv (fun (u : Unit) => match u with | _ => True) (fun (u : Unit) t_ => match u with | _ => va_P (dC, dI) vwCl [(h0, .inr (13, moF a (upd (upd (upd (upd f 70 (nI (z1 + 1))) 21 0) 19 7) 20 p1) w))] t_.heap ∧ va_K (dC, dI) vwCl [(cB, .byte), (cI, .int), (cJ, .long), (cZ, .boolean)] t_ ∧ va_D A [(h0, .inr (13, moF a (upd (upd (upd (upd f 70 (nI (z1 + 1))) 21 0) 19 7) 20 p1) w))]) A
set_option maxHeartbeats 4000000 in
set_option maxRecDepth 100000 in
theorem t_X12_deeper_1 (l : Launch) (dC : Nat → ClassId) (dI : Nat → Nat → Nat) (sz : Nat) (cB cI cJ cZ : ClassId) (h0 : Nat) (a : Nat → Nat) (f : Nat → Int32) (w : Int64) (z1 : Nat) (p1 : Int32) (hz1 : ¬ z1 < 12) (hz2 : z1 < 100000) (hg : ¬ f 21 = 0) : Met l yX12_deeper (wsOf yX12_deeper cX12_deeper 2 none) ({ frames := 1, cells := 0, slots := 0, locals := 60 }) (pc_t_X12_deeper_1 dC dI sz cB cI cJ cZ h0 a f w z1 p1) (qc_t_X12_deeper_1 dC dI cB cI cJ cZ h0 a f w z1 p1 (va_A (cs_t_X12_deeper_1 cB cI cJ cZ h0 a f w z1 p1) sz)) 0 0 (va_A (cs_t_X12_deeper_1 cB cI cJ cZ h0 a f w z1 p1) sz) := by
  refine Met.ofW (cc := cX12_deeper) (maxL := 2) (ret := none) (by decide) rfl ?_
  intro p e s m args below meth c s₁ B hml hv
  obtain ⟨rfl, hsz, hP, hK, hD0⟩ := hv
  have hx := B.exec
  have hb := B.bytes
  have hr := B.returns
  have hts := atoms_spec (ws := (wsOf yX12_deeper cX12_deeper 2 none)) B.pre
  have hown : s.vm.findClass RX12 = some m.cls := findClass_of_methodNamed B.named
  have hlocks := B.notSynchronized
  subst hsz
  have hD := hD0.self (sz := s.heap.size)
  generalize hAe : va_A (cs_t_X12_deeper_1 cB cI cJ cZ h0 a f w z1 p1) s.heap.size = A at hD ⊢
  have hA : ∀ q : Nat, s.heap.size ≤ q → A q := fun q h => by rw [← hAe]; exact Or.inr h
  have hS : va_S A s.heap s.heap [] := va_S.rf
  have hP : va_P (dC, dI) vwCl [(h0, .inr (13, moF a (upd f 70 (nI z1)) w))] s.heap := hP
  have hl := lv_entry ([.ref h0, .int p1]) (n := 2) (Nat.le_of_ble_eq_true rfl)
  rw [lg_entry_eq]
  generalize (lg_sl ([.ref h0, .int p1]) ++ List.replicate (2 - (lg_sl ([.ref h0, .int p1])).length) Slot.unset).toArray = ls at hl ⊢
  have hl : lv_has ls 2 [(0, .ref h0), (1, .int p1)] := hl
  refine lv_aload_n hx hb dX12_deeper_0 rfl (lv_at hl 0 rfl) ?_
  refine lv_dup hx hb dX12_deeper_1 rfl ?_
  refine va_get (D := (dC, dI)) (ci := 13) (v := .int (nI z1)) (C := RX12) (T := TX12) (N := 115) hx hb hts (fun w h => List.mem_cons_of_mem _ (uG_X12 w h)) hown hK hP 0 rfl rfl 70 (by decide) (hts _ (List.mem_cons_of_mem _ kw_1761)) (fun _ h9 => h9) rfl dX12_deeper_2 ?_
  refine lv_iconst (v := 1) hx hb dX12_deeper_5 (by decide) ?_
  refine lv_iadd hx hb dX12_deeper_6 ?_
  refine lv_topi (fun x_1 ex_1 => ?_)
  have ex_1 : x_1 = nI (z1 + 1) := ex_1.trans (nI_add z1 1)
  subst ex_1
  refine va_put (D := (dC, dI)) (ci := 13) (v := .int (nI (z1 + 1))) (ty := .int) (C := RX12) (T := TX12) (N := 115) hx hb hts (fun w h => List.mem_cons_of_mem _ (uG_X12 w h)) tyX12 tyX12_ok nmX12 hown hK hP hD hS 0 rfl rfl 70 (by decide) (hts _ (List.mem_cons_of_mem _ kw_1761)) (fun _ h9 => h9) rfl (by decide +kernel) rfl rfl (Nat.le_of_ble_eq_true rfl) dX12_deeper_7 (fun H locs hP hD hS => ?_)
  have hP : va_P (dC, dI) vwCl [(h0, .inr (13, moF a (upd f 70 (nI (z1 + 1))) w))] H := hP
  have hD : va_D A [(h0, .inr (13, moF a (upd f 70 (nI (z1 + 1))) w))] := hD
  refine lv_aload_n hx hb dX12_deeper_10 rfl (lv_at hl 0 rfl) ?_
  refine va_get (D := (dC, dI)) (ci := 13) (v := .int (nI (z1 + 1))) (C := RX12) (T := TX12) (N := 115) hx hb hts (fun w h => List.mem_cons_of_mem _ (uG_X12 w h)) hown hK hP 0 rfl rfl 70 (by decide) (hts _ (List.mem_cons_of_mem _ kw_1761)) (fun _ h9 => h9) rfl dX12_deeper_11 ?_
  refine lv_bipush (v := 12) hx hb dX12_deeper_14 (by decide) ?_
  refine lv_icmp_le (tgt := 26) hx hb dX12_deeper_16 (by decide) (fun c_2 => ?_) (fun c_2 => ?_)
  · skip
    have c_2 : z1 + 1 ≤ 12 := (nI_leI (a := z1 + 1) (b := 12) (by omega) (by omega)).mp c_2
    exact absurd c_2 (by omega)
  · skip
    have c_2 : ¬ (z1 + 1 ≤ 12) := fun h => c_2 ((nI_leI (a := z1 + 1) (b := 12) (by omega) (by omega)).mpr h)
    refine lv_aload_n hx hb dX12_deeper_19 rfl (lv_at hl 0 rfl) ?_
    refine lv_bipush (v := 7) hx hb dX12_deeper_20 (by decide) ?_
    refine lv_iload_n hx hb dX12_deeper_22 rfl (lv_at hl 1 rfl) ?_
    have hPc := hP.sub (ws' := [(h0, .inr (13, moF a (upd f 70 (nI (z1 + 1))) w))]) [0] rfl
    have hDc := hD.sub (ws' := [(h0, .inr (13, moF a (upd f 70 (nI (z1 + 1))) w))]) [0] (by decide) rfl
    have hKc := hK.sub (tys' := [(cB, .byte), (cI, .int), (cJ, .long), (cZ, .boolean)]) [0, 1, 2, 3] rfl
    have hFc := va_free (wc := [(h0, .inr (13, moF a (upd f 70 (nI (z1 + 1))) w))]) hD hS hA [0] rfl
    refine va_callv (va_runV (As := [.int 7, .int p1]) (rest := []) ⟨hx, hb, hml, hown, hts⟩ (t_X12_tell_1 l dC dI H.size cB cI cJ cZ h0 a (upd f 70 (nI (z1 + 1))) w 7 p1 hg) (cwV 2 hts (gd_all (in_V kw_2269 kw_2271 kw_141 kw_191 kc_X12_tell)) rfl rfl rfl (by decide +kernel) ⟨Nat.le_of_ble_eq_true rfl, Nat.le_of_ble_eq_true rfl⟩) ⟨fun a U g mk q => by obtain ⟨q0, q1, qP, qK, qD⟩ := q; exact ⟨q0, q1, qP, va_K.moved (u := U) (U := U.calling g mk a) (Vm.Alike.refl U.vm) qK, qD⟩, va_recv hKc hPc (ci := 13) (q0 := 0) rfl rfl, fun U hU hW => ⟨rfl, by rw [hU], by rw [hU]; exact hPc, va_K.moved hW.alike hKc, hDc.weaken (fun _ _ _ _ => trivial)⟩⟩ rfl rfl hl.1 rfl (lv_room (Nat.le_of_ble_eq_true rfl)) dX12_deeper_23 ⟨Nat.le_of_ble_eq_true rfl, Nat.le_of_ble_eq_true rfl⟩) hS (fun q _ h => hFc q h) hFc (fun u t_ H1 locs ht hvm hw hB hz1 hk1 hS => ?_)
    obtain ⟨hP1, hK1, hD1⟩ := hB
    rw [ht] at hP1
    have hK1 := va_K.moved hvm.symm hK1
    obtain ⟨hP, hD⟩ := va_join (wr := []) (w1 := [(h0, .inr (13, moF a (upd (upd (upd (upd f 70 (nI (z1 + 1))) 21 0) 19 7) 20 p1) w))]) hP hD [0] [] rfl rfl (by decide) (by decide) hk1 hFc hP1 hD1
    have hK := (hK.sub (tys' := []) [] rfl).app hK1
    generalize H1 = H at hP hS ⊢
    have hP : va_P (dC, dI) vwCl [(h0, .inr (13, moF a (upd (upd (upd (upd f 70 (nI (z1 + 1))) 21 0) 19 7) 20 p1) w))] H := hP
    have hD : va_D A [(h0, .inr (13, moF a (upd (upd (upd (upd f 70 (nI (z1 + 1))) 21 0) 19 7) 20 p1) w))] := hD
    have hK : va_K (dC, dI) vwCl [(cB, .byte), (cI, .int), (cJ, .long), (cZ, .boolean)] s := hK
    have hP9 := hP.sub (ws' := [(h0, .inr (13, moF a (upd (upd (upd (upd f 70 (nI (z1 + 1))) 21 0) 19 7) 20 p1) w))]) [0] rfl
    have hD9 := hD.sub (ws' := [(h0, .inr (13, moF a (upd (upd (upd (upd f 70 (nI (z1 + 1))) 21 0) 19 7) 20 p1) w))]) [0] (by decide) rfl
    have hK9 := hK.sub (tys' := [(cB, .byte), (cI, .int), (cJ, .long), (cZ, .boolean)]) [0, 1, 2, 3] rfl
    exact W.vret hx hb hr (fun t_ ht hW => ⟨⟨(), rfl, trivial, by rw [ht]; exact hP9, va_K.moved hW.alike hK9, hD9⟩, hS.F ht⟩) hS.2.2 dX12_deeper_26

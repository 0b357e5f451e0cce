/-! marks as bits; names apart -/
def mkB (x : Int32) (i : Nat) : Int32 := if x = 0 then 0 else (1 : Int32) <<< (nI i &&& 31)
def mbF (mk : Nat → Int32) : Nat → Int32 | 0 => 0 | n + 1 => mbF mk n ||| mkB (mk n) n
def apF (nn : Nat → Int64) (s1 : Nat) : Nat → Nat → Int32
  | 0, _ => 1
  | n + 1, i => if nn i = -1 then 0 else if fdF nn (nn i) (s1 - (i + 1)) (i + 1) = -1 then apF nn s1 n (i + 1) else 0
theorem apF_a {nn : Nat → Int64} {s1 w i : Nat} (hi : i < w) (h : nn i = -1) : apF nn s1 (w - i) i = 0 := by
  rw [show w - i = (w - (i + 1)) + 1 by omega]
  exact if_pos h
theorem apF_b {nn : Nat → Int64} {s1 w i : Nat} (hi : i < w) (h : ¬ nn i = -1) (h2 : ¬ fdF nn (nn i) (s1 - (i + 1)) (i + 1) = -1) : apF nn s1 (w - i) i = 0 := by
  rw [show w - i = (w - (i + 1)) + 1 by omega]
  exact (if_neg h).trans (if_neg h2)
theorem apF_s {nn : Nat → Int64} {s1 w i : Nat} (hi : i < w) (h : ¬ nn i = -1) (h2 : fdF nn (nn i) (s1 - (i + 1)) (i + 1) = -1) : apF nn s1 (w - i) i = apF nn s1 (w - (i + 1)) (i + 1) := by
  rw [show w - i = (w - (i + 1)) + 1 by omega]
  exact (if_neg h).trans (if_pos h2)
def otV (t9 : Int32) : Int64 := if t9 = 2 then 0 else t9.toInt64
def otB (t9 : Int32) : Int32 := if t9 = 2 then 1 else 0
theorem dX2_markBits_0 : decode cX2_markBits 0 = .ok (.iconst 0, 1) := by decide +kernel
theorem dX2_markBits_1 : decode cX2_markBits 1 = .ok (.istore_n 1, 1) := by decide +kernel
theorem dX2_markBits_2 : decode cX2_markBits 2 = .ok (.iconst 0, 1) := by decide +kernel
theorem dX2_markBits_3 : decode cX2_markBits 3 = .ok (.istore_n 2, 1) := by decide +kernel
theorem dX2_markBits_4 : decode cX2_markBits 4 = .ok (.iload_n 2, 1) := by decide +kernel
theorem dX2_markBits_5 : decode cX2_markBits 5 = .ok (.aload_n 0, 1) := by decide +kernel
theorem dX2_markBits_6 : decode cX2_markBits 6 = .ok (.getfield 25, 3) := by decide +kernel
theorem dX2_markBits_9 : decode cX2_markBits 9 = .ok (.if_icmp .ge 34, 3) := by decide +kernel
theorem dX2_markBits_12 : decode cX2_markBits 12 = .ok (.iload_n 2, 1) := by decide +kernel
theorem dX2_markBits_13 : decode cX2_markBits 13 = .ok (.bipush 8, 2) := by decide +kernel
theorem dX2_markBits_15 : decode cX2_markBits 15 = .ok (.if_icmp .ge 28, 3) := by decide +kernel
theorem dX2_markBits_18 : decode cX2_markBits 18 = .ok (.iload_n 1, 1) := by decide +kernel
theorem dX2_markBits_19 : decode cX2_markBits 19 = .ok (.aload_n 0, 1) := by decide +kernel
theorem dX2_markBits_20 : decode cX2_markBits 20 = .ok (.getfield 19, 3) := by decide +kernel
theorem dX2_markBits_23 : decode cX2_markBits 23 = .ok (.iload_n 2, 1) := by decide +kernel
theorem dX2_markBits_24 : decode cX2_markBits 24 = .ok (.iaload, 1) := by decide +kernel
theorem dX2_markBits_25 : decode cX2_markBits 25 = .ok (.ifCond .eq 9, 3) := by decide +kernel
theorem dX2_markBits_28 : decode cX2_markBits 28 = .ok (.iconst 1, 1) := by decide +kernel
theorem dX2_markBits_29 : decode cX2_markBits 29 = .ok (.iload_n 2, 1) := by decide +kernel
theorem dX2_markBits_30 : decode cX2_markBits 30 = .ok (.ishl, 1) := by decide +kernel
theorem dX2_markBits_31 : decode cX2_markBits 31 = .ok (.goto 4, 3) := by decide +kernel
theorem dX2_markBits_34 : decode cX2_markBits 34 = .ok (.iconst 0, 1) := by decide +kernel
theorem dX2_markBits_35 : decode cX2_markBits 35 = .ok (.ior, 1) := by decide +kernel
theorem dX2_markBits_36 : decode cX2_markBits 36 = .ok (.istore_n 1, 1) := by decide +kernel
theorem dX2_markBits_37 : decode cX2_markBits 37 = .ok (.iinc 2 1, 3) := by decide +kernel
theorem dX2_markBits_40 : decode cX2_markBits 40 = .ok (.goto (-36), 3) := by decide +kernel
theorem dX2_markBits_43 : decode cX2_markBits 43 = .ok (.iload_n 1, 1) := by decide +kernel
theorem dX2_markBits_44 : decode cX2_markBits 44 = .ok (.ireturn, 1) := by decide +kernel
abbrev cs_t_X2_markBits (cB cI cJ cZ : ClassId) (h0 hR hM hMk hT s1 : Nat) (rt : Nat → Int32) (nn : Nat → Int64) (mk ty : Nat → Int32) : va_W := [(h0, .inr (3, [.int (nI s1), .ref hR, .ref hM, .ref hMk, .ref hT])), (hR, .inl (cI, 8, .inl rt)), (hM, .inl (cJ, 8, .inr (.inl nn))), (hMk, .inl (cI, 8, .inl mk)), (hT, .inl (cI, 8, .inl ty))]
abbrev pc_t_X2_markBits (dC : Nat → ClassId) (dI : Nat → Nat → Nat) (sz : Nat) (cB cI cJ cZ : ClassId) (h0 hR hM hMk hT s1 : Nat) (rt : Nat → Int32) (nn : Nat → Int64) (mk ty : Nat → Int32) : Array Value → State → Prop := va_Pc [.ref h0] (fun U => U.heap.size = sz ∧ va_P (dC, dI) vwCl [(h0, .inr (3, [.int (nI s1), .ref hR, .ref hM, .ref hMk, .ref hT])), (hR, .inl (cI, 8, .inl rt)), (hM, .inl (cJ, 8, .inr (.inl nn))), (hMk, .inl (cI, 8, .inl mk)), (hT, .inl (cI, 8, .inl ty))] U.heap ∧ va_K (dC, dI) vwCl [(cB, .byte), (cI, .int), (cJ, .long), (cZ, .boolean)] U ∧ va_D (fun _ => True) [(h0, .inr (3, [.int (nI s1), .ref hR, .ref hM, .ref hMk, .ref hT])), (hR, .inl (cI, 8, .inl rt)), (hM, .inl (cJ, 8, .inr (.inl nn))), (hMk, .inl (cI, 8, .inl mk)), (hT, .inl (cI, 8, .inl ty))])
abbrev qc_t_X2_markBits (dC : Nat → ClassId) (dI : Nat → Nat → Nat) (cB cI cJ cZ : ClassId) (h0 hR hM hMk hT s1 : Nat) (rt : Nat → Int32) (nn : Nat → Int64) (mk ty : Nat → Int32) (A : Nat → Prop) : Array Value → State → Outcome → State → Prop := va_Qi (fun (r : Int32) (u : Unit) => match u with | _ => r = mbF mk s1) (fun (u : Unit) t_ => match u with | _ => va_P (dC, dI) vwCl [(h0, .inr (3, [.int (nI s1), .ref hR, .ref hM, .ref hMk, .ref hT])), (hR, .inl (cI, 8, .inl rt)), (hM, .inl (cJ, 8, .inr (.inl nn))), (hMk, .inl (cI, 8, .inl mk)), (hT, .inl (cI, 8, .inl ty))] t_.heap ∧ va_K (dC, dI) vwCl [(cB, .byte), (cI, .int), (cJ, .long), (cZ, .boolean)] t_ ∧ va_D A [(h0, .inr (3, [.int (nI s1), .ref hR, .ref hM, .ref hMk, .ref hT])), (hR, .inl (cI, 8, .inl rt)), (hM, .inl (cJ, 8, .inr (.inl nn))), (hMk, .inl (cI, 8, .inl mk)), (hT, .inl (cI, 8, .inl ty))]) A
set_option maxHeartbeats 4000000 in
set_option maxRecDepth 100000 in
theorem t_X2_markBits (l : Launch) (dC : Nat → ClassId) (dI : Nat → Nat → Nat) (sz : Nat) (cB cI cJ cZ : ClassId) (h0 hR hM hMk hT s1 : Nat) (rt : Nat → Int32) (nn : Nat → Int64) (mk ty : Nat → Int32) (hs : s1 ≤ 8) : Met l yX2_markBits (wsOf yX2_markBits cX2_markBits 3 (some .int)) ({ frames := 0, cells := 0, slots := 0, locals := 0 }) (pc_t_X2_markBits dC dI sz cB cI cJ cZ h0 hR hM hMk hT s1 rt nn mk ty) (qc_t_X2_markBits dC dI cB cI cJ cZ h0 hR hM hMk hT s1 rt nn mk ty (va_A (cs_t_X2_markBits cB cI cJ cZ h0 hR hM hMk hT s1 rt nn mk ty) sz)) 0 0 (va_A (cs_t_X2_markBits cB cI cJ cZ h0 hR hM hMk hT s1 rt nn mk ty) sz) := by
  refine Met.ofW (cc := cX2_markBits) (maxL := 3) (ret := (some .int)) (by decide) rfl ?_
  intro p e s m args below meth c s₁ B hml hv
  obtain ⟨rfl, hsz, hP, hK, hD0⟩ := hv
  have hx := B.exec
  have hb := B.bytes
  have hr := B.returns
  have hts := atoms_spec (ws := (wsOf yX2_markBits cX2_markBits 3 (some .int))) B.pre
  have hown : s.vm.findClass RX2 = some m.cls := findClass_of_methodNamed B.named
  have hlocks := B.notSynchronized
  subst hsz
  have hD := hD0.self (sz := s.heap.size)
  generalize hAe : va_A (cs_t_X2_markBits cB cI cJ cZ h0 hR hM hMk hT s1 rt nn mk ty) s.heap.size = A at hD ⊢
  have hA : ∀ q : Nat, s.heap.size ≤ q → A q := fun q h => by rw [← hAe]; exact Or.inr h
  have hS : va_S A s.heap s.heap [] := va_S.rf
  have hP : va_P (dC, dI) vwCl [(h0, .inr (3, [.int (nI s1), .ref hR, .ref hM, .ref hMk, .ref hT])), (hR, .inl (cI, 8, .inl rt)), (hM, .inl (cJ, 8, .inr (.inl nn))), (hMk, .inl (cI, 8, .inl mk)), (hT, .inl (cI, 8, .inl ty))] s.heap := hP
  have hl := lv_entry ([.ref h0]) (n := 3) (Nat.le_of_ble_eq_true rfl)
  rw [lg_entry_eq]
  generalize (lg_sl ([.ref h0]) ++ List.replicate (3 - (lg_sl ([.ref h0])).length) Slot.unset).toArray = ls at hl ⊢
  have hl : lv_has ls 3 [(0, .ref h0)] := hl
  refine lv_iconst (v := 0) hx hb dX2_markBits_0 (by decide) ?_
  refine lv_istore_n (lv' := [(1, .int 0), (0, .ref h0)]) hx hb dX2_markBits_1 rfl hl (by decide) rfl (fun ls hl => ?_)
  refine lv_iconst (v := 0) hx hb dX2_markBits_2 (by decide) ?_
  refine lv_istore_n (lv' := [(2, .int 0), (1, .int 0), (0, .ref h0)]) hx hb dX2_markBits_3 rfl hl (by decide) rfl (fun ls hl => ?_)
  have lp_4 : ∀ (n_ : Nat) (i : Nat), i ≤ s1 → s1 - i < n_ → ∀ (H : Heap) (locs : List Loc) (ls : Array Slot), va_P (dC, dI) vwCl [(h0, .inr (3, [.int (nI s1), .ref hR, .ref hM, .ref hMk, .ref hT])), (hR, .inl (cI, 8, .inl rt)), (hM, .inl (cJ, 8, .inr (.inl nn))), (hMk, .inl (cI, 8, .inl mk)), (hT, .inl (cI, 8, .inl ty))] H → va_D A [(h0, .inr (3, [.int (nI s1), .ref hR, .ref hM, .ref hMk, .ref hT])), (hR, .inl (cI, 8, .inl rt)), (hM, .inl (cJ, 8, .inr (.inl nn))), (hMk, .inl (cI, 8, .inl mk)), (hT, .inl (cI, 8, .inl ty))] → va_S A s.heap H locs → lv_has ls 3 [(2, .int (nI i)), (1, .int (mbF mk i)), (0, .ref h0)] → W p l e (headSpec (wsOf yX2_markBits cX2_markBits 3 (some .int)) ({ frames := 0, cells := 0, slots := 0, locals := 0 })).room s m ([.ref h0] : List Value).toArray below meth c H locs 0 0 (MQ below (qc_t_X2_markBits dC dI cB cI cJ cZ h0 hR hM hMk hT s1 rt nn mk ty A) ([.ref h0] : List Value).toArray s 0 0 A) (F0 m 4 ls []) := by
    intro n_
    induction n_ with
    | zero => intro i hi hm; exact absurd hm (Nat.not_lt_zero _)
    | succ n_ ih_4 =>
      intro i hi hm H locs ls hP hD hS hl
      refine lv_iload_n hx hb dX2_markBits_4 rfl (lv_at hl 0 rfl) ?_
      refine lv_aload_n hx hb dX2_markBits_5 rfl (lv_at hl 2 rfl) ?_
      refine va_get (D := (dC, dI)) (ci := 3) (v := .int (nI s1)) (C := RX2) (T := TX2) (N := 5) hx hb hts (fun w h => List.mem_cons_of_mem _ (uG_X2 w h)) hown hK hP 0 rfl rfl 0 (by decide) (hts _ (List.mem_cons_of_mem _ kw_628)) (fun _ h9 => h9) rfl dX2_markBits_6 ?_
      refine lv_icmp_ge (tgt := 43) hx hb dX2_markBits_9 (by decide) (fun c_1 => ?_) (fun c_1 => ?_)
      · skip
        have c_1 : s1 ≤ i := (nI_leI (a := s1) (b := i) (by omega) (by omega)).mp c_1
        refine lv_iload_n hx hb dX2_markBits_43 rfl (lv_at hl 1 rfl) ?_
        have hP9 := hP.sub (ws' := [(h0, .inr (3, [.int (nI s1), .ref hR, .ref hM, .ref hMk, .ref hT])), (hR, .inl (cI, 8, .inl rt)), (hM, .inl (cJ, 8, .inr (.inl nn))), (hMk, .inl (cI, 8, .inl mk)), (hT, .inl (cI, 8, .inl ty))]) [0, 1, 2, 3, 4] rfl
        have hD9 := hD.sub (ws' := [(h0, .inr (3, [.int (nI s1), .ref hR, .ref hM, .ref hMk, .ref hT])), (hR, .inl (cI, 8, .inl rt)), (hM, .inl (cJ, 8, .inr (.inl nn))), (hMk, .inl (cI, 8, .inl mk)), (hT, .inl (cI, 8, .inl ty))]) [0, 1, 2, 3, 4] (by decide) rfl
        have hK9 := hK.sub (tys' := [(cB, .byte), (cI, .int), (cJ, .long), (cZ, .boolean)]) [0, 1, 2, 3] rfl
        exact W.iret (v := (mbF mk i)) hx hb hr (fun t_ ht hW => ⟨⟨(mbF mk i), (), rfl, by rw [show i = s1 by omega], by rw [ht]; exact hP9, va_K.moved hW.alike hK9, hD9⟩, hS.F ht⟩) hS.2.2 dX2_markBits_44
      · skip
        have c_1 : ¬ (s1 ≤ i) := fun h => c_1 ((nI_leI (a := s1) (b := i) (by omega) (by omega)).mpr h)
        refine lv_iload_n hx hb dX2_markBits_12 rfl (lv_at hl 0 rfl) ?_
        refine lv_bipush (v := 8) hx hb dX2_markBits_13 (by decide) ?_
        refine lv_icmp_ge (tgt := 43) hx hb dX2_markBits_15 (by decide) (fun c_2 => ?_) (fun c_2 => ?_)
        · skip
          have c_2 : 8 ≤ i := (nI_leI (a := 8) (b := i) (by omega) (by omega)).mp c_2
          exact absurd c_2 (by omega)
        · skip
          have c_2 : ¬ (8 ≤ i) := fun h => c_2 ((nI_leI (a := 8) (b := i) (by omega) (by omega)).mpr h)
          refine lv_iload_n hx hb dX2_markBits_18 rfl (lv_at hl 1 rfl) ?_
          have mg_3 : ∀ (H : Heap) (locs : List Loc), va_P (dC, dI) vwCl [(h0, .inr (3, [.int (nI s1), .ref hR, .ref hM, .ref hMk, .ref hT])), (hR, .inl (cI, 8, .inl rt)), (hM, .inl (cJ, 8, .inr (.inl nn))), (hMk, .inl (cI, 8, .inl mk)), (hT, .inl (cI, 8, .inl ty))] H → va_D A [(h0, .inr (3, [.int (nI s1), .ref hR, .ref hM, .ref hMk, .ref hT])), (hR, .inl (cI, 8, .inl rt)), (hM, .inl (cJ, 8, .inr (.inl nn))), (hMk, .inl (cI, 8, .inl mk)), (hT, .inl (cI, 8, .inl ty))] → va_S A s.heap H locs → W p l e (headSpec (wsOf yX2_markBits cX2_markBits 3 (some .int)) ({ frames := 0, cells := 0, slots := 0, locals := 0 })).room s m ([.ref h0] : List Value).toArray below meth c H locs 0 0 (MQ below (qc_t_X2_markBits dC dI cB cI cJ cZ h0 hR hM hMk hT s1 rt nn mk ty A) ([.ref h0] : List Value).toArray s 0 0 A) (F0 m 35 ls [.int (mkB (mk i) i), .int (mbF mk i)]) := by
            intro H locs hP hD hS
            refine lv_ior hx hb dX2_markBits_35 ?_
            refine lv_istore_n (lv' := [(1, .int ((mbF mk i) ||| (mkB (mk i) i))), (2, .int (nI i)), (0, .ref h0)]) hx hb dX2_markBits_36 rfl hl (by decide) rfl (fun ls hl => ?_)
            refine lv_iinc (v := nI (i + 1)) (lv' := [(2, .int (nI (i + 1))), (1, .int ((mbF mk i) ||| (mkB (mk i) i))), (0, .ref h0)]) hx hb dX2_markBits_37 hl (k := 1) rfl (nI_add i 1) (by decide) rfl (fun ls hl => ?_)
            refine lv_goto (tgt := 4) hx hb dX2_markBits_40 (by decide) ?_
            exact ih_4 (i + 1) (by omega) (by omega) _ _ _ (hP.sub [0, 1, 2, 3, 4] rfl) (hD.sub [0, 1, 2, 3, 4] (by decide) rfl) hS (lv_sub hl [0, 1, 2] rfl)
          refine lv_aload_n hx hb dX2_markBits_19 rfl (lv_at hl 2 rfl) ?_
          refine va_get (D := (dC, dI)) (ci := 3) (v := .ref hMk) (C := RX2) (T := TX2) (N := 5) hx hb hts (fun w h => List.mem_cons_of_mem _ (uG_X2 w h)) hown hK hP 0 rfl rfl 3 (by decide) (hts _ (List.mem_cons_of_mem _ kw_638)) (fun _ h9 => h9) rfl dX2_markBits_20 ?_
          refine lv_iload_n hx hb dX2_markBits_23 rfl (lv_at hl 0 rfl) ?_
          refine va_iald hx hb hK hP 3 1 rfl rfl (i := (nI i)) (vp_in_nI (n := i) (N := 8) (by omega) (by omega)) dX2_markBits_24 ?_
          refine lv_topi (fun x_4 ex_4 => ?_)
          have ex_4 : x_4 = mk i := ex_4.trans (congrArg mk (nI_clamp (n := i) (by omega)))
          subst ex_4
          refine lv_if_eq (tgt := 34) hx hb dX2_markBits_25 (by decide) (fun c_5 => ?_) (fun c_5 => ?_)
          · skip
            refine lv_iconst (v := 0) hx hb dX2_markBits_34 (by decide) ?_
            exact W.eq (by unfold mkB; rw [if_pos c_5]) (mg_3 _ _ hP hD hS)
          · skip
            refine lv_iconst (v := 1) hx hb dX2_markBits_28 (by decide) ?_
            refine lv_iload_n hx hb dX2_markBits_29 rfl (lv_at hl 0 rfl) ?_
            refine lv_ishl hx hb dX2_markBits_30 ?_
            refine lv_goto (tgt := 35) hx hb dX2_markBits_31 (by decide) ?_
            exact W.eq (by unfold mkB; rw [if_neg c_5]) (mg_3 _ _ hP hD hS)
  exact lp_4 _ 0 (Nat.zero_le _) (Nat.lt_succ_self _) _ _ _ (hP.sub [0, 1, 2, 3, 4] rfl) (hD.sub [0, 1, 2, 3, 4] (by decide) rfl) hS (lv_sub hl [0, 1, 2] rfl)
theorem dX2_allNamedApart_0 : decode cX2_allNamedApart 0 = .ok (.iconst 0, 1) := by decide +kernel
theorem dX2_allNamedApart_1 : decode cX2_allNamedApart 1 = .ok (.istore_n 1, 1) := by decide +kernel
theorem dX2_allNamedApart_2 : decode cX2_allNamedApart 2 = .ok (.iload_n 1, 1) := by decide +kernel
theorem dX2_allNamedApart_3 : decode cX2_allNamedApart 3 = .ok (.aload_n 0, 1) := by decide +kernel
theorem dX2_allNamedApart_4 : decode cX2_allNamedApart 4 = .ok (.getfield 25, 3) := by decide +kernel
theorem dX2_allNamedApart_7 : decode cX2_allNamedApart 7 = .ok (.if_icmp .ge 47, 3) := by decide +kernel
theorem dX2_allNamedApart_10 : decode cX2_allNamedApart 10 = .ok (.iload_n 1, 1) := by decide +kernel
theorem dX2_allNamedApart_11 : decode cX2_allNamedApart 11 = .ok (.bipush 8, 2) := by decide +kernel
theorem dX2_allNamedApart_13 : decode cX2_allNamedApart 13 = .ok (.if_icmp .ge 41, 3) := by decide +kernel
theorem dX2_allNamedApart_16 : decode cX2_allNamedApart 16 = .ok (.aload_n 0, 1) := by decide +kernel
theorem dX2_allNamedApart_17 : decode cX2_allNamedApart 17 = .ok (.getfield 15, 3) := by decide +kernel
theorem dX2_allNamedApart_20 : decode cX2_allNamedApart 20 = .ok (.iload_n 1, 1) := by decide +kernel
theorem dX2_allNamedApart_21 : decode cX2_allNamedApart 21 = .ok (.laload, 1) := by decide +kernel
theorem dX2_allNamedApart_22 : decode cX2_allNamedApart 22 = .ok (.ldc2_w 39, 3) := by decide +kernel
theorem dX2_allNamedApart_25 : decode cX2_allNamedApart 25 = .ok (.lcmp, 1) := by decide +kernel
theorem dX2_allNamedApart_26 : decode cX2_allNamedApart 26 = .ok (.ifCond .eq 20, 3) := by decide +kernel
theorem dX2_allNamedApart_29 : decode cX2_allNamedApart 29 = .ok (.aload_n 0, 1) := by decide +kernel
theorem dX2_allNamedApart_30 : decode cX2_allNamedApart 30 = .ok (.aload_n 0, 1) := by decide +kernel
theorem dX2_allNamedApart_31 : decode cX2_allNamedApart 31 = .ok (.getfield 15, 3) := by decide +kernel
theorem dX2_allNamedApart_34 : decode cX2_allNamedApart 34 = .ok (.iload_n 1, 1) := by decide +kernel
theorem dX2_allNamedApart_35 : decode cX2_allNamedApart 35 = .ok (.laload, 1) := by decide +kernel
theorem dX2_allNamedApart_36 : decode cX2_allNamedApart 36 = .ok (.iload_n 1, 1) := by decide +kernel
theorem dX2_allNamedApart_37 : decode cX2_allNamedApart 37 = .ok (.iconst 1, 1) := by decide +kernel
theorem dX2_allNamedApart_38 : decode cX2_allNamedApart 38 = .ok (.iadd, 1) := by decide +kernel
theorem dX2_allNamedApart_39 : decode cX2_allNamedApart 39 = .ok (.invokevirtual 41, 3) := by decide +kernel
theorem dX2_allNamedApart_42 : decode cX2_allNamedApart 42 = .ok (.iconst (-1), 1) := by decide +kernel
theorem dX2_allNamedApart_43 : decode cX2_allNamedApart 43 = .ok (.if_icmp .eq 5, 3) := by decide +kernel
theorem dX2_allNamedApart_46 : decode cX2_allNamedApart 46 = .ok (.iconst 0, 1) := by decide +kernel
theorem dX2_allNamedApart_47 : decode cX2_allNamedApart 47 = .ok (.ireturn, 1) := by decide +kernel
theorem dX2_allNamedApart_48 : decode cX2_allNamedApart 48 = .ok (.iinc 1 1, 3) := by decide +kernel
theorem dX2_allNamedApart_51 : decode cX2_allNamedApart 51 = .ok (.goto (-49), 3) := by decide +kernel
theorem dX2_allNamedApart_54 : decode cX2_allNamedApart 54 = .ok (.iconst 1, 1) := by decide +kernel
theorem dX2_allNamedApart_55 : decode cX2_allNamedApart 55 = .ok (.ireturn, 1) := by decide +kernel
abbrev cs_t_X2_allNamedApart (cB cI cJ cZ : ClassId) (h0 hR hM hMk hT s1 : Nat) (rt : Nat → Int32) (nn : Nat → Int64) (mk ty : Nat → Int32) : va_W := [(h0, .inr (3, [.int (nI s1), .ref hR, .ref hM, .ref hMk, .ref hT])), (hR, .inl (cI, 8, .inl rt)), (hM, .inl (cJ, 8, .inr (.inl nn))), (hMk, .inl (cI, 8, .inl mk)), (hT, .inl (cI, 8, .inl ty))]
abbrev pc_t_X2_allNamedApart (dC : Nat → ClassId) (dI : Nat → Nat → Nat) (sz : Nat) (cB cI cJ cZ : ClassId) (h0 hR hM hMk hT s1 : Nat) (rt : Nat → Int32) (nn : Nat → Int64) (mk ty : Nat → Int32) : Array Value → State → Prop := va_Pc [.ref h0] (fun U => U.heap.size = sz ∧ va_P (dC, dI) vwCl [(h0, .inr (3, [.int (nI s1), .ref hR, .ref hM, .ref hMk, .ref hT])), (hR, .inl (cI, 8, .inl rt)), (hM, .inl (cJ, 8, .inr (.inl nn))), (hMk, .inl (cI, 8, .inl mk)), (hT, .inl (cI, 8, .inl ty))] U.heap ∧ va_K (dC, dI) vwCl [(cB, .byte), (cI, .int), (cJ, .long), (cZ, .boolean)] U ∧ va_D (fun _ => True) [(h0, .inr (3, [.int (nI s1), .ref hR, .ref hM, .ref hMk, .ref hT])), (hR, .inl (cI, 8, .inl rt)), (hM, .inl (cJ, 8, .inr (.inl nn))), (hMk, .inl (cI, 8, .inl mk)), (hT, .inl (cI, 8, .inl ty))])
abbrev qc_t_X2_allNamedApart (dC : Nat → ClassId) (dI : Nat → Nat → Nat) (cB cI cJ cZ : ClassId) (h0 hR hM hMk hT s1 : Nat) (rt : Nat → Int32) (nn : Nat → Int64) (mk ty : Nat → Int32) (A : Nat → Prop) : Array Value → State → Outcome → State → Prop := va_Qi (fun (r : Int32) (u : Unit) => match u with | _ => r = apF nn s1 s1 0) (fun (u : Unit) t_ => match u with | _ => va_P (dC, dI) vwCl [(h0, .inr (3, [.int (nI s1), .ref hR, .ref hM, .ref hMk, .ref hT])), (hR, .inl (cI, 8, .inl rt)), (hM, .inl (cJ, 8, .inr (.inl nn))), (hMk, .inl (cI, 8, .inl mk)), (hT, .inl (cI, 8, .inl ty))] t_.heap ∧ va_K (dC, dI) vwCl [(cB, .byte), (cI, .int), (cJ, .long), (cZ, .boolean)] t_ ∧ va_D A [(h0, .inr (3, [.int (nI s1), .ref hR, .ref hM, .ref hMk, .ref hT])), (hR, .inl (cI, 8, .inl rt)), (hM, .inl (cJ, 8, .inr (.inl nn))), (hMk, .inl (cI, 8, .inl mk)), (hT, .inl (cI, 8, .inl ty))]) A
set_option maxHeartbeats 4000000 in
set_option maxRecDepth 100000 in
theorem t_X2_allNamedApart (l : Launch) (dC : Nat → ClassId) (dI : Nat → Nat → Nat) (sz : Nat) (cB cI cJ cZ : ClassId) (h0 hR hM hMk hT s1 : Nat) (rt : Nat → Int32) (nn : Nat → Int64) (mk ty : Nat → Int32) (hs : s1 ≤ 8) : Met l yX2_allNamedApart (wsOf yX2_allNamedApart cX2_allNamedApart 2 (some .boolean)) ({ frames := 2, cells := 0, slots := 0, locals := 120 }) (pc_t_X2_allNamedApart dC dI sz cB cI cJ cZ h0 hR hM hMk hT s1 rt nn mk ty) (qc_t_X2_allNamedApart dC dI cB cI cJ cZ h0 hR hM hMk hT s1 rt nn mk ty (va_A (cs_t_X2_allNamedApart cB cI cJ cZ h0 hR hM hMk hT s1 rt nn mk ty) sz)) 0 0 (va_A (cs_t_X2_allNamedApart cB cI cJ cZ h0 hR hM hMk hT s1 rt nn mk ty) sz) := by
  refine Met.ofW (cc := cX2_allNamedApart) (maxL := 2) (ret := (some .boolean)) (by decide) rfl ?_
  intro p e s m args below meth c s₁ B hml hv
  obtain ⟨rfl, hsz, hP, hK, hD0⟩ := hv
  have hx := B.exec
  have hb := B.bytes
  have hr := B.returns
  have hts := atoms_spec (ws := (wsOf yX2_allNamedApart cX2_allNamedApart 2 (some .boolean))) B.pre
  have hown : s.vm.findClass RX2 = some m.cls := findClass_of_methodNamed B.named
  have hlocks := B.notSynchronized
  subst hsz
  have hD := hD0.self (sz := s.heap.size)
  generalize hAe : va_A (cs_t_X2_allNamedApart cB cI cJ cZ h0 hR hM hMk hT s1 rt nn mk ty) s.heap.size = A at hD ⊢
  have hA : ∀ q : Nat, s.heap.size ≤ q → A q := fun q h => by rw [← hAe]; exact Or.inr h
  have hS : va_S A s.heap s.heap [] := va_S.rf
  have hP : va_P (dC, dI) vwCl [(h0, .inr (3, [.int (nI s1), .ref hR, .ref hM, .ref hMk, .ref hT])), (hR, .inl (cI, 8, .inl rt)), (hM, .inl (cJ, 8, .inr (.inl nn))), (hMk, .inl (cI, 8, .inl mk)), (hT, .inl (cI, 8, .inl ty))] s.heap := hP
  have hl := lv_entry ([.ref h0]) (n := 2) (Nat.le_of_ble_eq_true rfl)
  rw [lg_entry_eq]
  generalize (lg_sl ([.ref h0]) ++ List.replicate (2 - (lg_sl ([.ref h0])).length) Slot.unset).toArray = ls at hl ⊢
  have hl : lv_has ls 2 [(0, .ref h0)] := hl
  refine lv_iconst (v := 0) hx hb dX2_allNamedApart_0 (by decide) ?_
  refine lv_istore_n (lv' := [(1, .int 0), (0, .ref h0)]) hx hb dX2_allNamedApart_1 rfl hl (by decide) rfl (fun ls hl => ?_)
  have lp_2 : ∀ (n_ : Nat) (i : Nat), i ≤ s1 → apF nn s1 s1 0 = apF nn s1 (s1 - i) i → s1 - i < n_ → ∀ (H : Heap) (locs : List Loc) (ls : Array Slot), va_P (dC, dI) vwCl [(h0, .inr (3, [.int (nI s1), .ref hR, .ref hM, .ref hMk, .ref hT])), (hR, .inl (cI, 8, .inl rt)), (hM, .inl (cJ, 8, .inr (.inl nn))), (hMk, .inl (cI, 8, .inl mk)), (hT, .inl (cI, 8, .inl ty))] H → va_D A [(h0, .inr (3, [.int (nI s1), .ref hR, .ref hM, .ref hMk, .ref hT])), (hR, .inl (cI, 8, .inl rt)), (hM, .inl (cJ, 8, .inr (.inl nn))), (hMk, .inl (cI, 8, .inl mk)), (hT, .inl (cI, 8, .inl ty))] → va_S A s.heap H locs → lv_has ls 2 [(1, .int (nI i)), (0, .ref h0)] → W p l e (headSpec (wsOf yX2_allNamedApart cX2_allNamedApart 2 (some .boolean)) ({ frames := 2, cells := 0, slots := 0, locals := 120 })).room s m ([.ref h0] : List Value).toArray below meth c H locs 0 0 (MQ below (qc_t_X2_allNamedApart dC dI cB cI cJ cZ h0 hR hM hMk hT s1 rt nn mk ty A) ([.ref h0] : List Value).toArray s 0 0 A) (F0 m 2 ls []) := by
    intro n_
    induction n_ with
    | zero => intro i hi hin hm; exact absurd hm (Nat.not_lt_zero _)
    | succ n_ ih_2 =>
      intro i hi hin hm H locs ls hP hD hS hl
      refine lv_iload_n hx hb dX2_allNamedApart_2 rfl (lv_at hl 0 rfl) ?_
      refine lv_aload_n hx hb dX2_allNamedApart_3 rfl (lv_at hl 1 rfl) ?_
      refine va_get (D := (dC, dI)) (ci := 3) (v := .int (nI s1)) (C := RX2) (T := TX2) (N := 5) hx hb hts (fun w h => List.mem_cons_of_mem _ (uG_X2 w h)) hown hK hP 0 rfl rfl 0 (by decide) (hts _ (List.mem_cons_of_mem _ kw_628)) (fun _ h9 => h9) rfl dX2_allNamedApart_4 ?_
      refine lv_icmp_ge (tgt := 54) hx hb dX2_allNamedApart_7 (by decide) (fun c_1 => ?_) (fun c_1 => ?_)
      · skip
        have c_1 : s1 ≤ i := (nI_leI (a := s1) (b := i) (by omega) (by omega)).mp c_1
        refine lv_iconst (v := 1) hx hb dX2_allNamedApart_54 (by decide) ?_
        have hP9 := hP.sub (ws' := [(h0, .inr (3, [.int (nI s1), .ref hR, .ref hM, .ref hMk, .ref hT])), (hR, .inl (cI, 8, .inl rt)), (hM, .inl (cJ, 8, .inr (.inl nn))), (hMk, .inl (cI, 8, .inl mk)), (hT, .inl (cI, 8, .inl ty))]) [0, 1, 2, 3, 4] rfl
        have hD9 := hD.sub (ws' := [(h0, .inr (3, [.int (nI s1), .ref hR, .ref hM, .ref hMk, .ref hT])), (hR, .inl (cI, 8, .inl rt)), (hM, .inl (cJ, 8, .inr (.inl nn))), (hMk, .inl (cI, 8, .inl mk)), (hT, .inl (cI, 8, .inl ty))]) [0, 1, 2, 3, 4] (by decide) rfl
        have hK9 := hK.sub (tys' := [(cB, .byte), (cI, .int), (cJ, .long), (cZ, .boolean)]) [0, 1, 2, 3] rfl
        exact W.zret (v := 1) hx hb hr (by rfl) (fun t_ ht hW => ⟨⟨1, (), rfl, (by rw [hin, show s1 - i = 0 by omega]; rfl), by rw [ht]; exact hP9, va_K.moved hW.alike hK9, hD9⟩, hS.F ht⟩) hS.2.2 dX2_allNamedApart_55
      · skip
        have c_1 : ¬ (s1 ≤ i) := fun h => c_1 ((nI_leI (a := s1) (b := i) (by omega) (by omega)).mpr h)
        refine lv_iload_n hx hb dX2_allNamedApart_10 rfl (lv_at hl 0 rfl) ?_
        refine lv_bipush (v := 8) hx hb dX2_allNamedApart_11 (by decide) ?_
        refine lv_icmp_ge (tgt := 54) hx hb dX2_allNamedApart_13 (by decide) (fun c_2 => ?_) (fun c_2 => ?_)
        · skip
          have c_2 : 8 ≤ i := (nI_leI (a := 8) (b := i) (by omega) (by omega)).mp c_2
          exact absurd c_2 (by omega)
        · skip
          have c_2 : ¬ (8 ≤ i) := fun h => c_2 ((nI_leI (a := 8) (b := i) (by omega) (by omega)).mpr h)
          refine lv_aload_n hx hb dX2_allNamedApart_16 rfl (lv_at hl 1 rfl) ?_
          refine va_get (D := (dC, dI)) (ci := 3) (v := .ref hM) (C := RX2) (T := TX2) (N := 5) hx hb hts (fun w h => List.mem_cons_of_mem _ (uG_X2 w h)) hown hK hP 0 rfl rfl 2 (by decide) (hts _ (List.mem_cons_of_mem _ kw_636)) (fun _ h9 => h9) rfl dX2_allNamedApart_17 ?_
          refine lv_iload_n hx hb dX2_allNamedApart_20 rfl (lv_at hl 0 rfl) ?_
          refine va_lald hx hb hK hP 2 2 rfl rfl (i := (nI i)) (vp_in_nI (n := i) (N := 8) (by omega) (by omega)) dX2_allNamedApart_21 ?_
          refine lv_topl (fun x_3 ex_3 => ?_)
          have ex_3 : x_3 = nn i := ex_3.trans (congrArg nn (nI_clamp (n := i) (by omega)))
          subst ex_3
          refine lv_ldc2 hx hb hown (hts _ (List.mem_cons_of_mem _ kw_1213)) dX2_allNamedApart_22 ?_
          refine W.lcmp hx hb dX2_allNamedApart_25 ?_
          refine lv_if_eq (tgt := 46) hx hb dX2_allNamedApart_26 (by decide) (fun c_4 => ?_) (fun c_4 => ?_)
          · skip
            have c_4 : (nn i) = (-1) := (lg_cmp_eq (nn i) (-1)).mp c_4
            refine lv_iconst (v := 0) hx hb dX2_allNamedApart_46 (by decide) ?_
            have hP9 := hP.sub (ws' := [(h0, .inr (3, [.int (nI s1), .ref hR, .ref hM, .ref hMk, .ref hT])), (hR, .inl (cI, 8, .inl rt)), (hM, .inl (cJ, 8, .inr (.inl nn))), (hMk, .inl (cI, 8, .inl mk)), (hT, .inl (cI, 8, .inl ty))]) [0, 1, 2, 3, 4] rfl
            have hD9 := hD.sub (ws' := [(h0, .inr (3, [.int (nI s1), .ref hR, .ref hM, .ref hMk, .ref hT])), (hR, .inl (cI, 8, .inl rt)), (hM, .inl (cJ, 8, .inr (.inl nn))), (hMk, .inl (cI, 8, .inl mk)), (hT, .inl (cI, 8, .inl ty))]) [0, 1, 2, 3, 4] (by decide) rfl
            have hK9 := hK.sub (tys' := [(cB, .byte), (cI, .int), (cJ, .long), (cZ, .boolean)]) [0, 1, 2, 3] rfl
            exact W.zret (v := 0) hx hb hr (by rfl) (fun t_ ht hW => ⟨⟨0, (), rfl, (hin.trans (apF_a (by omega) c_4)).symm, by rw [ht]; exact hP9, va_K.moved hW.alike hK9, hD9⟩, hS.F ht⟩) hS.2.2 dX2_allNamedApart_47
          · skip
            have c_4 : ¬ ((nn i) = (-1)) := fun h => c_4 ((lg_cmp_eq (nn i) (-1)).mpr h)
            refine lv_aload_n hx hb dX2_allNamedApart_29 rfl (lv_at hl 1 rfl) ?_
            refine lv_aload_n hx hb dX2_allNamedApart_30 rfl (lv_at hl 1 rfl) ?_
            refine va_get (D := (dC, dI)) (ci := 3) (v := .ref hM) (C := RX2) (T := TX2) (N := 5) hx hb hts (fun w h => List.mem_cons_of_mem _ (uG_X2 w h)) hown hK hP 0 rfl rfl 2 (by decide) (hts _ (List.mem_cons_of_mem _ kw_636)) (fun _ h9 => h9) rfl dX2_allNamedApart_31 ?_
            refine lv_iload_n hx hb dX2_allNamedApart_34 rfl (lv_at hl 0 rfl) ?_
            refine va_lald hx hb hK hP 2 2 rfl rfl (i := (nI i)) (vp_in_nI (n := i) (N := 8) (by omega) (by omega)) dX2_allNamedApart_35 ?_
            refine lv_topl (fun x_5 ex_5 => ?_)
            have ex_5 : x_5 = nn i := ex_5.trans (congrArg nn (nI_clamp (n := i) (by omega)))
            subst ex_5
            refine lv_iload_n hx hb dX2_allNamedApart_36 rfl (lv_at hl 0 rfl) ?_
            refine lv_iconst (v := 1) hx hb dX2_allNamedApart_37 (by decide) ?_
            refine lv_iadd hx hb dX2_allNamedApart_38 ?_
            refine lv_topi (fun x_6 ex_6 => ?_)
            have ex_6 : x_6 = nI (i + 1) := ex_6.trans (nI_add i 1)
            subst ex_6
            have hPc := hP.sub (ws' := [(h0, .inr (3, [.int (nI s1), .ref hR, .ref hM, .ref hMk, .ref hT])), (hR, .inl (cI, 8, .inl rt)), (hM, .inl (cJ, 8, .inr (.inl nn))), (hMk, .inl (cI, 8, .inl mk)), (hT, .inl (cI, 8, .inl ty))]) [0, 1, 2, 3, 4] rfl
            have hDc := hD.sub (ws' := [(h0, .inr (3, [.int (nI s1), .ref hR, .ref hM, .ref hMk, .ref hT])), (hR, .inl (cI, 8, .inl rt)), (hM, .inl (cJ, 8, .inr (.inl nn))), (hMk, .inl (cI, 8, .inl mk)), (hT, .inl (cI, 8, .inl ty))]) [0, 1, 2, 3, 4] (by decide) rfl
            have hKc := hK.sub (tys' := [(cB, .byte), (cI, .int), (cJ, .long), (cZ, .boolean)]) [0, 1, 2, 3] rfl
            have hFc := va_free (wc := [(h0, .inr (3, [.int (nI s1), .ref hR, .ref hM, .ref hMk, .ref hT])), (hR, .inl (cI, 8, .inl rt)), (hM, .inl (cJ, 8, .inr (.inl nn))), (hMk, .inl (cI, 8, .inl mk)), (hT, .inl (cI, 8, .inl ty))]) hD hS hA [0, 1, 2, 3, 4] rfl
            refine va_calli (va_runV (As := [.long (nn i), .int (nI (i + 1))]) (rest := []) ⟨hx, hb, hml, hown, hts⟩ (t_X2_find l dC dI H.size cB cI cJ cZ h0 hR hM hMk hT s1 rt nn mk ty (nn i) (i + 1) hs (by omega)) (cwV 2 hts (gd_all (in_V kw_1214 kw_1215 kw_1216 kw_196 kc_X2_find)) rfl rfl rfl (by decide +kernel) ⟨Nat.le_of_ble_eq_true rfl, Nat.le_of_ble_eq_true rfl⟩) ⟨fun a U g mk q => by obtain ⟨q0, q1, qP, qK, qD⟩ := q; exact ⟨q0, q1, qP, va_K.moved (u := U) (U := U.calling g mk a) (Vm.Alike.refl U.vm) qK, qD⟩, va_recv hKc hPc (ci := 3) (q0 := 0) rfl rfl, fun U hU hW => ⟨rfl, by rw [hU], by rw [hU]; exact hPc, va_K.moved hW.alike hKc, hDc.weaken (fun _ _ _ _ => trivial)⟩⟩ rfl rfl hl.1 rfl (lv_room (Nat.le_of_ble_eq_true rfl)) dX2_allNamedApart_39 ⟨Nat.le_of_ble_eq_true rfl, Nat.le_of_ble_eq_true rfl⟩) hS (fun q _ h => hFc q h) hFc (fun r_7 u t_ H1 locs ht hvm hw hB hz1 hk1 hS => ?_)
            obtain ⟨hP1, hK1, hD1⟩ := hB
            rw [ht] at hP1
            have hK1 := va_K.moved hvm.symm hK1
            obtain ⟨hP, hD⟩ := va_join (wr := []) (w1 := [(h0, .inr (3, [.int (nI s1), .ref hR, .ref hM, .ref hMk, .ref hT])), (hR, .inl (cI, 8, .inl rt)), (hM, .inl (cJ, 8, .inr (.inl nn))), (hMk, .inl (cI, 8, .inl mk)), (hT, .inl (cI, 8, .inl ty))]) hP hD [0, 1, 2, 3, 4] [] rfl rfl (by decide) (by decide) hk1 hFc hP1 hD1
            have hK := (hK.sub (tys' := []) [] rfl).app hK1
            generalize H1 = H at hP hS ⊢
            have hP : va_P (dC, dI) vwCl [(h0, .inr (3, [.int (nI s1), .ref hR, .ref hM, .ref hMk, .ref hT])), (hR, .inl (cI, 8, .inl rt)), (hM, .inl (cJ, 8, .inr (.inl nn))), (hMk, .inl (cI, 8, .inl mk)), (hT, .inl (cI, 8, .inl ty))] H := hP
            have hD : va_D A [(h0, .inr (3, [.int (nI s1), .ref hR, .ref hM, .ref hMk, .ref hT])), (hR, .inl (cI, 8, .inl rt)), (hM, .inl (cJ, 8, .inr (.inl nn))), (hMk, .inl (cI, 8, .inl mk)), (hT, .inl (cI, 8, .inl ty))] := hD
            have hK : va_K (dC, dI) vwCl [(cB, .byte), (cI, .int), (cJ, .long), (cZ, .boolean)] s := hK
            have er_7 : r_7 = fdF nn (nn i) (s1 - (i + 1)) (i + 1) := hw
            rw [er_7]
            refine lv_iconst (v := (-1)) hx hb dX2_allNamedApart_42 (by decide) ?_
            refine lv_icmp_eq (tgt := 48) hx hb dX2_allNamedApart_43 (by decide) (fun c_8 => ?_) (fun c_8 => ?_)
            · skip
              refine lv_iinc (v := nI (i + 1)) (lv' := [(1, .int (nI (i + 1))), (0, .ref h0)]) hx hb dX2_allNamedApart_48 hl (k := 0) rfl (nI_add i 1) (by decide) rfl (fun ls hl => ?_)
              refine lv_goto (tgt := 2) hx hb dX2_allNamedApart_51 (by decide) ?_
              exact ih_2 (i + 1) (by omega) (hin.trans (apF_s (by omega) c_4 c_8)) (by omega) _ _ _ (hP.sub [0, 1, 2, 3, 4] rfl) (hD.sub [0, 1, 2, 3, 4] (by decide) rfl) hS (lv_sub hl [0, 1] rfl)
            · skip
              refine lv_iconst (v := 0) hx hb dX2_allNamedApart_46 (by decide) ?_
              have hP9 := hP.sub (ws' := [(h0, .inr (3, [.int (nI s1), .ref hR, .ref hM, .ref hMk, .ref hT])), (hR, .inl (cI, 8, .inl rt)), (hM, .inl (cJ, 8, .inr (.inl nn))), (hMk, .inl (cI, 8, .inl mk)), (hT, .inl (cI, 8, .inl ty))]) [0, 1, 2, 3, 4] rfl
              have hD9 := hD.sub (ws' := [(h0, .inr (3, [.int (nI s1), .ref hR, .ref hM, .ref hMk, .ref hT])), (hR, .inl (cI, 8, .inl rt)), (hM, .inl (cJ, 8, .inr (.inl nn))), (hMk, .inl (cI, 8, .inl mk)), (hT, .inl (cI, 8, .inl ty))]) [0, 1, 2, 3, 4] (by decide) rfl
              have hK9 := hK.sub (tys' := [(cB, .byte), (cI, .int), (cJ, .long), (cZ, .boolean)]) [0, 1, 2, 3] rfl
              exact W.zret (v := 0) hx hb hr (by rfl) (fun t_ ht hW => ⟨⟨0, (), rfl, (hin.trans (apF_b (by omega) c_4 c_8)).symm, by rw [ht]; exact hP9, va_K.moved hW.alike hK9, hD9⟩, hS.F ht⟩) hS.2.2 dX2_allNamedApart_47
  exact lp_2 _ 0 (Nat.zero_le _) rfl (Nat.lt_succ_self _) _ _ _ (hP.sub [0, 1, 2, 3, 4] rfl) (hD.sub [0, 1, 2, 3, 4] (by decide) rfl) hS (lv_sub hl [0, 1] rfl)
theorem dX12_ofTruth_0 : decode cX12_ofTruth 0 = .ok (.iload_n 1, 1) := by decide +kernel
theorem dX12_ofTruth_1 : decode cX12_ofTruth 1 = .ok (.iconst 2, 1) := by decide +kernel
theorem dX12_ofTruth_2 : decode cX12_ofTruth 2 = .ok (.if_icmp .ne 10, 3) := by decide +kernel
theorem dX12_ofTruth_5 : decode cX12_ofTruth 5 = .ok (.aload_n 0, 1) := by decide +kernel
theorem dX12_ofTruth_6 : decode cX12_ofTruth 6 = .ok (.invokevirtual 607, 3) := by decide +kernel
theorem dX12_ofTruth_9 : decode cX12_ofTruth 9 = .ok (.goto 9, 3) := by decide +kernel
theorem dX12_ofTruth_12 : decode cX12_ofTruth 12 = .ok (.aload_n 0, 1) := by decide +kernel
theorem dX12_ofTruth_13 : decode cX12_ofTruth 13 = .ok (.iload_n 1, 1) := by decide +kernel
theorem dX12_ofTruth_14 : decode cX12_ofTruth 14 = .ok (.i2l, 1) := by decide +kernel
theorem dX12_ofTruth_15 : decode cX12_ofTruth 15 = .ok (.invokevirtual 611, 3) := by decide +kernel
theorem dX12_ofTruth_18 : decode cX12_ofTruth 18 = .ok (.lreturn, 1) := by decide +kernel
abbrev cs_t_X12_ofTruth (cB cI cJ cZ : ClassId) (h0 : Nat) (a : Nat → Nat) (f : Nat → Int32) (w : Int64) (t9 : Int32) : va_W := [(h0, .inr (13, moF a f w))]
abbrev pc_t_X12_ofTruth (dC : Nat → ClassId) (dI : Nat → Nat → Nat) (sz : Nat) (cB cI cJ cZ : ClassId) (h0 : Nat) (a : Nat → Nat) (f : Nat → Int32) (w : Int64) (t9 : Int32) : Array Value → State → Prop := va_Pc [.ref h0, .int t9] (fun U => U.heap.size = sz ∧ va_P (dC, dI) vwCl [(h0, .inr (13, moF a f w))] U.heap ∧ va_K (dC, dI) vwCl [(cB, .byte), (cI, .int), (cJ, .long), (cZ, .boolean)] U ∧ va_D (fun _ => True) [(h0, .inr (13, moF a f w))])
abbrev qc_t_X12_ofTruth (dC : Nat → ClassId) (dI : Nat → Nat → Nat) (cB cI cJ cZ : ClassId) (h0 : Nat) (a : Nat → Nat) (f : Nat → Int32) (w : Int64) (t9 : Int32) (A : Nat → Prop) : Array Value → State → Outcome → State → Prop := va_Ql (fun (r : Int64) (u : Int32) => match u with | b2 => r = otV t9 ∧ b2 = otB t9) (fun (u : Int32) t_ => match u with | b2 => va_P (dC, dI) vwCl [(h0, .inr (13, moF a (upd f 92 b2) w))] t_.heap ∧ va_K (dC, dI) vwCl [(cB, .byte), (cI, .int), (cJ, .long), (cZ, .boolean)] t_ ∧ va_D A [(h0, .inr (13, moF a (upd f 92 b2) w))]) A
set_option maxHeartbeats 4000000 in
set_option maxRecDepth 100000 in
theorem t_X12_ofTruth (l : Launch) (dC : Nat → ClassId) (dI : Nat → Nat → Nat) (sz : Nat) (cB cI cJ cZ : ClassId) (h0 : Nat) (a : Nat → Nat) (f : Nat → Int32) (w : Int64) (t9 : Int32)  : Met l yX12_ofTruth (wsOf yX12_ofTruth cX12_ofTruth 2 (some .long)) ({ frames := 1, cells := 0, slots := 0, locals := 60 }) (pc_t_X12_ofTruth dC dI sz cB cI cJ cZ h0 a f w t9) (qc_t_X12_ofTruth dC dI cB cI cJ cZ h0 a f w t9 (va_A (cs_t_X12_ofTruth cB cI cJ cZ h0 a f w t9) sz)) 0 0 (va_A (cs_t_X12_ofTruth cB cI cJ cZ h0 a f w t9) sz) := by
  refine Met.ofW (cc := cX12_ofTruth) (maxL := 2) (ret := (some .long)) (by decide) rfl ?_
  intro p e s m args below meth c s₁ B hml hv
  obtain ⟨rfl, hsz, hP, hK, hD0⟩ := hv
  have hx := B.exec
  have hb := B.bytes
  have hr := B.returns
  have hts := atoms_spec (ws := (wsOf yX12_ofTruth cX12_ofTruth 2 (some .long))) B.pre
  have hown : s.vm.findClass RX12 = some m.cls := findClass_of_methodNamed B.named
  have hlocks := B.notSynchronized
  subst hsz
  have hD := hD0.self (sz := s.heap.size)
  generalize hAe : va_A (cs_t_X12_ofTruth cB cI cJ cZ h0 a f w t9) s.heap.size = A at hD ⊢
  have hA : ∀ q : Nat, s.heap.size ≤ q → A q := fun q h => by rw [← hAe]; exact Or.inr h
  have hS : va_S A s.heap s.heap [] := va_S.rf
  have hP : va_P (dC, dI) vwCl [(h0, .inr (13, moF a f w))] s.heap := hP
  have hl := lv_entry ([.ref h0, .int t9]) (n := 2) (Nat.le_of_ble_eq_true rfl)
  rw [lg_entry_eq]
  generalize (lg_sl ([.ref h0, .int t9]) ++ List.replicate (2 - (lg_sl ([.ref h0, .int t9])).length) Slot.unset).toArray = ls at hl ⊢
  have hl : lv_has ls 2 [(0, .ref h0), (1, .int t9)] := hl
  refine lv_iload_n hx hb dX12_ofTruth_0 rfl (lv_at hl 1 rfl) ?_
  refine lv_iconst (v := 2) hx hb dX12_ofTruth_1 (by decide) ?_
  refine lv_icmp_ne (tgt := 12) hx hb dX12_ofTruth_2 (by decide) (fun c_1 => ?_) (fun c_1 => ?_)
  · skip
    refine lv_aload_n hx hb dX12_ofTruth_12 rfl (lv_at hl 0 rfl) ?_
    refine lv_iload_n hx hb dX12_ofTruth_13 rfl (lv_at hl 1 rfl) ?_
    refine lv_i2l hx hb dX12_ofTruth_14 rfl ?_
    have hPc := hP.sub (ws' := [(h0, .inr (13, moF a f w))]) [0] rfl
    have hDc := hD.sub (ws' := [(h0, .inr (13, moF a f w))]) [0] (by decide) rfl
    have hKc := hK.sub (tys' := [(cB, .byte), (cI, .int), (cJ, .long), (cZ, .boolean)]) [0, 1, 2, 3] rfl
    have hFc := va_free (wc := [(h0, .inr (13, moF a f w))]) hD hS hA [0] rfl
    refine va_calll (va_runV (As := [.long (t9.toInt64)]) (rest := []) ⟨hx, hb, hml, hown, hts⟩ (t_X12_some l dC dI s.heap.size cB cI cJ cZ h0 a f w (t9.toInt64)) (cwV 1 hts (gd_all (in_V kw_2122 kw_2124 kw_112 kw_191 kc_X12_some)) rfl rfl rfl (by decide +kernel) ⟨Nat.le_of_ble_eq_true rfl, Nat.le_of_ble_eq_true rfl⟩) ⟨fun a U g mk q => by obtain ⟨q0, q1, qP, qK, qD⟩ := q; exact ⟨q0, q1, qP, va_K.moved (u := U) (U := U.calling g mk a) (Vm.Alike.refl U.vm) qK, qD⟩, va_recv hKc hPc (ci := 13) (q0 := 0) rfl rfl, fun U hU hW => ⟨rfl, by rw [hU], by rw [hU]; exact hPc, va_K.moved hW.alike hKc, hDc.weaken (fun _ _ _ _ => trivial)⟩⟩ rfl rfl hl.1 rfl (lv_room (Nat.le_of_ble_eq_true rfl)) dX12_ofTruth_15 ⟨Nat.le_of_ble_eq_true rfl, Nat.le_of_ble_eq_true rfl⟩) hS (fun q _ h => hFc q h) hFc (fun r_2 u t_ H1 locs ht hvm hw hB hz1 hk1 hS => ?_)
    obtain ⟨hP1, hK1, hD1⟩ := hB
    rw [ht] at hP1
    have hK1 := va_K.moved hvm.symm hK1
    obtain ⟨hP, hD⟩ := va_join (wr := []) (w1 := [(h0, .inr (13, moF a (upd f 92 0) w))]) hP hD [0] [] rfl rfl (by decide) (by decide) hk1 hFc hP1 hD1
    have hK := (hK.sub (tys' := []) [] rfl).app hK1
    generalize H1 = H at hP hS ⊢
    have hP : va_P (dC, dI) vwCl [(h0, .inr (13, moF a (upd f 92 0) w))] H := hP
    have hD : va_D A [(h0, .inr (13, moF a (upd f 92 0) w))] := hD
    have hK : va_K (dC, dI) vwCl [(cB, .byte), (cI, .int), (cJ, .long), (cZ, .boolean)] s := hK
    have er_2 : r_2 = t9.toInt64 := hw
    rw [er_2]
    have hP9 := hP.sub (ws' := [(h0, .inr (13, moF a (upd f 92 0) w))]) [0] rfl
    have hD9 := hD.sub (ws' := [(h0, .inr (13, moF a (upd f 92 0) w))]) [0] (by decide) rfl
    have hK9 := hK.sub (tys' := [(cB, .byte), (cI, .int), (cJ, .long), (cZ, .boolean)]) [0, 1, 2, 3] rfl
    exact W.lret (v := t9.toInt64) hx hb hr (fun t_ ht hW => ⟨⟨t9.toInt64, 0, rfl, ⟨(if_neg c_1).symm, (if_neg c_1).symm⟩, by rw [ht]; exact hP9, va_K.moved hW.alike hK9, hD9⟩, hS.F ht⟩) hS.2.2 dX12_ofTruth_18
  · skip
    refine lv_aload_n hx hb dX12_ofTruth_5 rfl (lv_at hl 0 rfl) ?_
    have hPc := hP.sub (ws' := [(h0, .inr (13, moF a f w))]) [0] rfl
    have hDc := hD.sub (ws' := [(h0, .inr (13, moF a f w))]) [0] (by decide) rfl
    have hKc := hK.sub (tys' := [(cB, .byte), (cI, .int), (cJ, .long), (cZ, .boolean)]) [0, 1, 2, 3] rfl
    have hFc := va_free (wc := [(h0, .inr (13, moF a f w))]) hD hS hA [0] rfl
    refine va_calll (va_runV (As := []) (rest := []) ⟨hx, hb, hml, hown, hts⟩ (t_X12_nothing0 l dC dI s.heap.size cB cI cJ cZ h0 a f w) (cwV 0 hts (gd_all (in_V kw_2126 kw_2128 kw_113 kw_191 kc_X12_nothing0)) rfl rfl rfl (by decide +kernel) ⟨Nat.le_of_ble_eq_true rfl, Nat.le_of_ble_eq_true rfl⟩) ⟨fun a U g mk q => by obtain ⟨q0, q1, qP, qK, qD⟩ := q; exact ⟨q0, q1, qP, va_K.moved (u := U) (U := U.calling g mk a) (Vm.Alike.refl U.vm) qK, qD⟩, va_recv hKc hPc (ci := 13) (q0 := 0) rfl rfl, fun U hU hW => ⟨rfl, by rw [hU], by rw [hU]; exact hPc, va_K.moved hW.alike hKc, hDc.weaken (fun _ _ _ _ => trivial)⟩⟩ rfl rfl hl.1 rfl (lv_room (Nat.le_of_ble_eq_true rfl)) dX12_ofTruth_6 ⟨Nat.le_of_ble_eq_true rfl, Nat.le_of_ble_eq_true rfl⟩) hS (fun q _ h => hFc q h) hFc (fun r_3 u t_ H1 locs ht hvm hw hB hz1 hk1 hS => ?_)
    obtain ⟨hP1, hK1, hD1⟩ := hB
    rw [ht] at hP1
    have hK1 := va_K.moved hvm.symm hK1
    obtain ⟨hP, hD⟩ := va_join (wr := []) (w1 := [(h0, .inr (13, moF a (upd f 92 1) w))]) hP hD [0] [] rfl rfl (by decide) (by decide) hk1 hFc hP1 hD1
    have hK := (hK.sub (tys' := []) [] rfl).app hK1
    generalize H1 = H at hP hS ⊢
    have hP : va_P (dC, dI) vwCl [(h0, .inr (13, moF a (upd f 92 1) w))] H := hP
    have hD : va_D A [(h0, .inr (13, moF a (upd f 92 1) w))] := hD
    have hK : va_K (dC, dI) vwCl [(cB, .byte), (cI, .int), (cJ, .long), (cZ, .boolean)] s := hK
    have er_3 : r_3 = 0 := hw
    rw [er_3]
    refine lv_goto (tgt := 18) hx hb dX12_ofTruth_9 (by decide) ?_
    have hP9 := hP.sub (ws' := [(h0, .inr (13, moF a (upd f 92 1) w))]) [0] rfl
    have hD9 := hD.sub (ws' := [(h0, .inr (13, moF a (upd f 92 1) w))]) [0] (by decide) rfl
    have hK9 := hK.sub (tys' := [(cB, .byte), (cI, .int), (cJ, .long), (cZ, .boolean)]) [0, 1, 2, 3] rfl
    exact W.lret (v := 0) hx hb hr (fun t_ ht hW => ⟨⟨0, 1, rfl, ⟨(if_pos c_1).symm, (if_pos c_1).symm⟩, by rw [ht]; exact hP9, va_K.moved hW.alike hK9, hD9⟩, hS.F ht⟩) hS.2.2 dX12_ofTruth_18

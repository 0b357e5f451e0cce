def alI (x : Int32) : Int32 := if ltI x = 0 then dgI x else 1
theorem alI_l {x : Int32} (h : ¬ ltI x = 0) : ¬ alI x = 0 := by unfold alI; rw [if_neg h]; decide
theorem alI_d {x : Int32} (h : ltI x = 0) (h2 : ¬ dgI x = 0) : ¬ alI x = 0 := by unfold alI; rw [if_pos h]; exact h2
theorem alI_z {x : Int32} (h : ltI x = 0) (h2 : dgI x = 0) : alI x = 0 := by unfold alI; rw [if_pos h]; exact h2
def wdF (g : Nat → Int32) (n : Nat) : Nat → Nat → Int64 → Nat × Int64
  | 0, k, v => (k, v)
  | f + 1, k, v => if n ≤ k then (k, v) else if alI (g k) = 0 then (k, v) else wdF g n f (k + 1) (v * 37 + (lcd (g k)).toInt64)
theorem wdF_e {g : Nat → Int32} {n k : Nat} {v : Int64} (h : n ≤ k) : wdF g n (n - k) k v = (k, v) := by rw [show n - k = 0 by omega]; rfl
theorem wdF_z {g : Nat → Int32} {n k : Nat} {v : Int64} (hk : ¬ n ≤ k) (h : alI (g k) = 0) : wdF g n (n - k) k v = (k, v) := by
  rw [show n - k = (n - (k + 1)) + 1 by omega]
  exact (if_neg hk).trans (if_pos h)
theorem wdF_s {g : Nat → Int32} {n k : Nat} {v : Int64} (hk : ¬ n ≤ k) (h : ¬ alI (g k) = 0) : wdF g n (n - k) k v = wdF g n (n - (k + 1)) (k + 1) (v * 37 + (lcd (g k)).toInt64) := by
  rw [show n - k = (n - (k + 1)) + 1 by omega]
  exact (if_neg hk).trans (if_neg h)
def wdK (tk : Nat → Int64) (k0 k : Nat) (v : Int64) : Int32 := if k - k0 ≤ 12 then wkF tk v 39 0 else 57
theorem dX10_scanWord_0 : decode cX10_scanWord 0 = .ok (.aload_n 0, 1) := by decide +kernel
theorem dX10_scanWord_1 : decode cX10_scanWord 1 = .ok (.getfield 57, 3) := by decide +kernel
theorem dX10_scanWord_4 : decode cX10_scanWord 4 = .ok (.istore_n 2, 1) := by decide +kernel
theorem dX10_scanWord_5 : decode cX10_scanWord 5 = .ok (.lconst 0, 1) := by decide +kernel
theorem dX10_scanWord_6 : decode cX10_scanWord 6 = .ok (.lstore_n 3, 1) := by decide +kernel
theorem dX10_scanWord_7 : decode cX10_scanWord 7 = .ok (.aload_n 0, 1) := by decide +kernel
theorem dX10_scanWord_8 : decode cX10_scanWord 8 = .ok (.getfield 57, 3) := by decide +kernel
theorem dX10_scanWord_11 : decode cX10_scanWord 11 = .ok (.aload_n 0, 1) := by decide +kernel
theorem dX10_scanWord_12 : decode cX10_scanWord 12 = .ok (.getfield 53, 3) := by decide +kernel
theorem dX10_scanWord_15 : decode cX10_scanWord 15 = .ok (.if_icmp .ge 63, 3) := by decide +kernel
theorem dX10_scanWord_18 : decode cX10_scanWord 18 = .ok (.aload_n 0, 1) := by decide +kernel
theorem dX10_scanWord_19 : decode cX10_scanWord 19 = .ok (.aload_n 0, 1) := by decide +kernel
theorem dX10_scanWord_20 : decode cX10_scanWord 20 = .ok (.getfield 57, 3) := by decide +kernel
theorem dX10_scanWord_23 : decode cX10_scanWord 23 = .ok (.invokevirtual 67, 3) := by decide +kernel
theorem dX10_scanWord_26 : decode cX10_scanWord 26 = .ok (.invokestatic 70, 3) := by decide +kernel
theorem dX10_scanWord_29 : decode cX10_scanWord 29 = .ok (.ifCond .ne 17, 3) := by decide +kernel
theorem dX10_scanWord_32 : decode cX10_scanWord 32 = .ok (.aload_n 0, 1) := by decide +kernel
theorem dX10_scanWord_33 : decode cX10_scanWord 33 = .ok (.aload_n 0, 1) := by decide +kernel
theorem dX10_scanWord_34 : decode cX10_scanWord 34 = .ok (.getfield 57, 3) := by decide +kernel
theorem dX10_scanWord_37 : decode cX10_scanWord 37 = .ok (.invokevirtual 67, 3) := by decide +kernel
theorem dX10_scanWord_40 : decode cX10_scanWord 40 = .ok (.invokestatic 77, 3) := by decide +kernel
theorem dX10_scanWord_43 : decode cX10_scanWord 43 = .ok (.ifCond .eq 35, 3) := by decide +kernel
theorem dX10_scanWord_46 : decode cX10_scanWord 46 = .ok (.lload_n 3, 1) := by decide +kernel
theorem dX10_scanWord_47 : decode cX10_scanWord 47 = .ok (.ldc2_w 41, 3) := by decide +kernel
theorem dX10_scanWord_50 : decode cX10_scanWord 50 = .ok (.lmul, 1) := by decide +kernel
theorem dX10_scanWord_51 : decode cX10_scanWord 51 = .ok (.aload_n 0, 1) := by decide +kernel
theorem dX10_scanWord_52 : decode cX10_scanWord 52 = .ok (.aload_n 0, 1) := by decide +kernel
theorem dX10_scanWord_53 : decode cX10_scanWord 53 = .ok (.getfield 57, 3) := by decide +kernel
theorem dX10_scanWord_56 : decode cX10_scanWord 56 = .ok (.invokevirtual 67, 3) := by decide +kernel
theorem dX10_scanWord_59 : decode cX10_scanWord 59 = .ok (.invokestatic 43, 3) := by decide +kernel
theorem dX10_scanWord_62 : decode cX10_scanWord 62 = .ok (.i2l, 1) := by decide +kernel
theorem dX10_scanWord_63 : decode cX10_scanWord 63 = .ok (.ladd, 1) := by decide +kernel
theorem dX10_scanWord_64 : decode cX10_scanWord 64 = .ok (.lstore_n 3, 1) := by decide +kernel
theorem dX10_scanWord_65 : decode cX10_scanWord 65 = .ok (.aload_n 0, 1) := by decide +kernel
theorem dX10_scanWord_66 : decode cX10_scanWord 66 = .ok (.dup, 1) := by decide +kernel
theorem dX10_scanWord_67 : decode cX10_scanWord 67 = .ok (.getfield 57, 3) := by decide +kernel
theorem dX10_scanWord_70 : decode cX10_scanWord 70 = .ok (.iconst 1, 1) := by decide +kernel
theorem dX10_scanWord_71 : decode cX10_scanWord 71 = .ok (.iadd, 1) := by decide +kernel
theorem dX10_scanWord_72 : decode cX10_scanWord 72 = .ok (.putfield 57, 3) := by decide +kernel
theorem dX10_scanWord_75 : decode cX10_scanWord 75 = .ok (.goto (-68), 3) := by decide +kernel
theorem dX10_scanWord_78 : decode cX10_scanWord 78 = .ok (.aload_n 0, 1) := by decide +kernel
theorem dX10_scanWord_79 : decode cX10_scanWord 79 = .ok (.getfield 18, 3) := by decide +kernel
theorem dX10_scanWord_82 : decode cX10_scanWord 82 = .ok (.iload_n 1, 1) := by decide +kernel
theorem dX10_scanWord_83 : decode cX10_scanWord 83 = .ok (.lload_n 3, 1) := by decide +kernel
theorem dX10_scanWord_84 : decode cX10_scanWord 84 = .ok (.lastore, 1) := by decide +kernel
theorem dX10_scanWord_85 : decode cX10_scanWord 85 = .ok (.aload_n 0, 1) := by decide +kernel
theorem dX10_scanWord_86 : decode cX10_scanWord 86 = .ok (.getfield 9, 3) := by decide +kernel
theorem dX10_scanWord_89 : decode cX10_scanWord 89 = .ok (.iload_n 1, 1) := by decide +kernel
theorem dX10_scanWord_90 : decode cX10_scanWord 90 = .ok (.aload_n 0, 1) := by decide +kernel
theorem dX10_scanWord_91 : decode cX10_scanWord 91 = .ok (.getfield 57, 3) := by decide +kernel
theorem dX10_scanWord_94 : decode cX10_scanWord 94 = .ok (.iload_n 2, 1) := by decide +kernel
theorem dX10_scanWord_95 : decode cX10_scanWord 95 = .ok (.isub, 1) := by decide +kernel
theorem dX10_scanWord_96 : decode cX10_scanWord 96 = .ok (.bipush 12, 2) := by decide +kernel
theorem dX10_scanWord_98 : decode cX10_scanWord 98 = .ok (.if_icmp .le 8, 3) := by decide +kernel
theorem dX10_scanWord_101 : decode cX10_scanWord 101 = .ok (.bipush 57, 2) := by decide +kernel
theorem dX10_scanWord_103 : decode cX10_scanWord 103 = .ok (.goto 8, 3) := by decide +kernel
theorem dX10_scanWord_106 : decode cX10_scanWord 106 = .ok (.aload_n 0, 1) := by decide +kernel
theorem dX10_scanWord_107 : decode cX10_scanWord 107 = .ok (.lload_n 3, 1) := by decide +kernel
theorem dX10_scanWord_108 : decode cX10_scanWord 108 = .ok (.invokevirtual 89, 3) := by decide +kernel
theorem dX10_scanWord_111 : decode cX10_scanWord 111 = .ok (.iastore, 1) := by decide +kernel
theorem dX10_scanWord_112 : decode cX10_scanWord 112 = .ok (.return_, 1) := by decide +kernel
abbrev cs_t_X10_scanWord (cB cI cJ cZ : ClassId) (h0 hT hKi hNu hW n k0 : Nat) (g kf : Nat → Int32) (vf tk : Nat → Int64) (y1 : Value) (i : Nat) : va_W := [(h0, .inr (11, [.ref hKi, y1, .ref hNu, .ref hT, .int (nI n), .int (nI k0), .ref hW])), (hT, .inl (cB, 2000, .inl g)), (hKi, .inl (cI, 2001, .inl kf)), (hNu, .inl (cJ, 2001, .inr (.inl vf))), (hW, .inl (cJ, 39, .inr (.inl tk)))]
abbrev pc_t_X10_scanWord (dC : Nat → ClassId) (dI : Nat → Nat → Nat) (sz : Nat) (cB cI cJ cZ : ClassId) (h0 hT hKi hNu hW n k0 : Nat) (g kf : Nat → Int32) (vf tk : Nat → Int64) (y1 : Value) (i : Nat) : Array Value → State → Prop := va_Pc [.ref h0, .int (nI i)] (fun U => U.heap.size = sz ∧ va_P (dC, dI) vwCl [(h0, .inr (11, [.ref hKi, y1, .ref hNu, .ref hT, .int (nI n), .int (nI k0), .ref hW])), (hT, .inl (cB, 2000, .inl g)), (hKi, .inl (cI, 2001, .inl kf)), (hNu, .inl (cJ, 2001, .inr (.inl vf))), (hW, .inl (cJ, 39, .inr (.inl tk)))] U.heap ∧ va_K (dC, dI) vwCl [(cB, .byte), (cI, .int), (cJ, .long), (cZ, .boolean)] U ∧ va_D (fun _ => True) [(h0, .inr (11, [.ref hKi, y1, .ref hNu, .ref hT, .int (nI n), .int (nI k0), .ref hW])), (hT, .inl (cB, 2000, .inl g)), (hKi, .inl (cI, 2001, .inl kf)), (hNu, .inl (cJ, 2001, .inr (.inl vf))), (hW, .inl (cJ, 39, .inr (.inl tk)))])
abbrev qc_t_X10_scanWord (dC : Nat → ClassId) (dI : Nat → Nat → Nat) (cB cI cJ cZ : ClassId) (h0 hT hKi hNu hW n k0 : Nat) (g kf : Nat → Int32) (vf tk : Nat → Int64) (y1 : Value) (i : Nat) (A : Nat → Prop) : Array Value → State → Outcome → State → Prop := va_Qv (fun (u : Nat × Int64) => match u with | (k2, v2) => (k2, v2) = wdF g n (n - k0) k0 0) (fun (u : Nat × Int64) t_ => match u with | (k2, v2) => va_P (dC, dI) vwCl [(h0, .inr (11, [.ref hKi, y1, .ref hNu, .ref hT, .int (nI n), .int (nI k2), .ref hW])), (hT, .inl (cB, 2000, .inl g)), (hKi, .inl (cI, 2001, .inl (upd kf i (wdK tk k0 k2 v2)))), (hNu, .inl (cJ, 2001, .inr (.inl (vp_updL vf i v2)))), (hW, .inl (cJ, 39, .inr (.inl tk)))] t_.heap ∧ va_K (dC, dI) vwCl [(cB, .byte), (cI, .int), (cJ, .long), (cZ, .boolean)] t_ ∧ va_D A [(h0, .inr (11, [.ref hKi, y1, .ref hNu, .ref hT, .int (nI n), .int (nI k2), .ref hW])), (hT, .inl (cB, 2000, .inl g)), (hKi, .inl (cI, 2001, .inl (upd kf i (wdK tk k0 k2 v2)))), (hNu, .inl (cJ, 2001, .inr (.inl (vp_updL vf i v2)))), (hW, .inl (cJ, 39, .inr (.inl tk)))]) A
set_option maxHeartbeats 4000000 in
set_option maxRecDepth 100000 in
theorem t_X10_scanWord (l : Launch) (dC : Nat → ClassId) (dI : Nat → Nat → Nat) (sz : Nat) (cB cI cJ cZ : ClassId) (h0 hT hKi hNu hW n k0 : Nat) (g kf : Nat → Int32) (vf tk : Nat → Int64) (y1 : Value) (i : Nat) (hn : n ≤ 2000) (hk0 : k0 ≤ 2001) (hi : i < 2001) : Met l yX10_scanWord (wsOf yX10_scanWord cX10_scanWord 5 none) ({ frames := 2, cells := 0, slots := 0, locals := 120 }) (pc_t_X10_scanWord dC dI sz cB cI cJ cZ h0 hT hKi hNu hW n k0 g kf vf tk y1 i) (qc_t_X10_scanWord dC dI cB cI cJ cZ h0 hT hKi hNu hW n k0 g kf vf tk y1 i (va_A (cs_t_X10_scanWord cB cI cJ cZ h0 hT hKi hNu hW n k0 g kf vf tk y1 i) sz)) 0 0 (va_A (cs_t_X10_scanWord cB cI cJ cZ h0 hT hKi hNu hW n k0 g kf vf tk y1 i) sz) := by
  refine Met.ofW (cc := cX10_scanWord) (maxL := 5) (ret := none) (by decide) rfl ?_
  intro p e s m args below meth c s₁ B hml hv
  obtain ⟨rfl, hsz, hP, hK, hD0⟩ := hv
  have hx := B.exec
  have hb := B.bytes
  have hr := B.returns
  have hts := atoms_spec (ws := (wsOf yX10_scanWord cX10_scanWord 5 none)) B.pre
  have hown : s.vm.findClass RX10 = some m.cls := findClass_of_methodNamed B.named
  have hlocks := B.notSynchronized
  subst hsz
  have hD := hD0.self (sz := s.heap.size)
  generalize hAe : va_A (cs_t_X10_scanWord cB cI cJ cZ h0 hT hKi hNu hW n k0 g kf vf tk y1 i) s.heap.size = A at hD ⊢
  have hA : ∀ q : Nat, s.heap.size ≤ q → A q := fun q h => by rw [← hAe]; exact Or.inr h
  have hS : va_S A s.heap s.heap [] := va_S.rf
  have hP : va_P (dC, dI) vwCl [(h0, .inr (11, [.ref hKi, y1, .ref hNu, .ref hT, .int (nI n), .int (nI k0), .ref hW])), (hT, .inl (cB, 2000, .inl g)), (hKi, .inl (cI, 2001, .inl kf)), (hNu, .inl (cJ, 2001, .inr (.inl vf))), (hW, .inl (cJ, 39, .inr (.inl tk)))] s.heap := hP
  have hl := lv_entry ([.ref h0, .int (nI i)]) (n := 5) (Nat.le_of_ble_eq_true rfl)
  rw [lg_entry_eq]
  generalize (lg_sl ([.ref h0, .int (nI i)]) ++ List.replicate (5 - (lg_sl ([.ref h0, .int (nI i)])).length) Slot.unset).toArray = ls at hl ⊢
  have hl : lv_has ls 5 [(0, .ref h0), (1, .int (nI i))] := hl
  refine lv_aload_n hx hb dX10_scanWord_0 rfl (lv_at hl 0 rfl) ?_
  refine va_get (D := (dC, dI)) (ci := 11) (v := .int (nI k0)) (C := RX10) (T := TX10) (N := 7) hx hb hts (fun w h => List.mem_cons_of_mem _ (uG_X10 w h)) hown hK hP 0 rfl rfl 5 (by decide) (hts _ (List.mem_cons_of_mem _ kw_326)) (fun _ h9 => h9) rfl dX10_scanWord_1 ?_
  refine lv_istore_n (lv' := [(2, .int (nI k0)), (0, .ref h0), (1, .int (nI i))]) hx hb dX10_scanWord_4 rfl hl (by decide) rfl (fun ls hl => ?_)
  refine lv_lconst (v := 0) hx hb dX10_scanWord_5 (by decide) ?_
  refine lv_lstore_n (lv' := [(3, .long 0), (2, .int (nI k0)), (0, .ref h0), (1, .int (nI i))]) hx hb dX10_scanWord_6 rfl hl (by decide) rfl (fun ls hl => ?_)
  have lp_7 : ∀ (n_ : Nat) (k : Nat) (v : Int64), k ≤ 2001 → k0 ≤ k → wdF g n (n - k0) k0 0 = wdF g n (n - k) k v → n - k < n_ → ∀ (H : Heap) (locs : List Loc) (ls : Array Slot), va_P (dC, dI) vwCl [(h0, .inr (11, [.ref hKi, y1, .ref hNu, .ref hT, .int (nI n), .int (nI k), .ref hW])), (hT, .inl (cB, 2000, .inl g)), (hKi, .inl (cI, 2001, .inl kf)), (hNu, .inl (cJ, 2001, .inr (.inl vf))), (hW, .inl (cJ, 39, .inr (.inl tk)))] H → va_D A [(h0, .inr (11, [.ref hKi, y1, .ref hNu, .ref hT, .int (nI n), .int (nI k), .ref hW])), (hT, .inl (cB, 2000, .inl g)), (hKi, .inl (cI, 2001, .inl kf)), (hNu, .inl (cJ, 2001, .inr (.inl vf))), (hW, .inl (cJ, 39, .inr (.inl tk)))] → va_S A s.heap H locs → lv_has ls 5 [(3, .long v), (2, .int (nI k0)), (0, .ref h0), (1, .int (nI i))] → W p l e (headSpec (wsOf yX10_scanWord cX10_scanWord 5 none) ({ frames := 2, cells := 0, slots := 0, locals := 120 })).room s m ([.ref h0, .int (nI i)] : List Value).toArray below meth c H locs 0 0 (MQ below (qc_t_X10_scanWord dC dI cB cI cJ cZ h0 hT hKi hNu hW n k0 g kf vf tk y1 i A) ([.ref h0, .int (nI i)] : List Value).toArray s 0 0 A) (F0 m 7 ls []) := by
    intro n_
    induction n_ with
    | zero => intro k v hk hge hin hm; exact absurd hm (Nat.not_lt_zero _)
    | succ n_ ih_7 =>
      intro k v hk hge hin hm H locs ls hP hD hS hl
      refine lv_aload_n hx hb dX10_scanWord_7 rfl (lv_at hl 2 rfl) ?_
      refine va_get (D := (dC, dI)) (ci := 11) (v := .int (nI k)) (C := RX10) (T := TX10) (N := 7) hx hb hts (fun w h => List.mem_cons_of_mem _ (uG_X10 w h)) hown hK hP 0 rfl rfl 5 (by decide) (hts _ (List.mem_cons_of_mem _ kw_326)) (fun _ h9 => h9) rfl dX10_scanWord_8 ?_
      refine lv_aload_n hx hb dX10_scanWord_11 rfl (lv_at hl 2 rfl) ?_
      refine va_get (D := (dC, dI)) (ci := 11) (v := .int (nI n)) (C := RX10) (T := TX10) (N := 7) hx hb hts (fun w h => List.mem_cons_of_mem _ (uG_X10 w h)) hown hK hP 0 rfl rfl 4 (by decide) (hts _ (List.mem_cons_of_mem _ kw_325)) (fun _ h9 => h9) rfl dX10_scanWord_12 ?_
      refine lv_icmp_ge (tgt := 78) hx hb dX10_scanWord_15 (by decide) (fun c_1 => ?_) (fun c_1 => ?_)
      · skip
        have c_1 : n ≤ k := (nI_leI (a := n) (b := k) (by omega) (by omega)).mp c_1
        refine lv_aload_n hx hb dX10_scanWord_78 rfl (lv_at hl 2 rfl) ?_
        refine va_get (D := (dC, dI)) (ci := 11) (v := .ref hNu) (C := RX10) (T := TX10) (N := 7) hx hb hts (fun w h => List.mem_cons_of_mem _ (uG_X10 w h)) hown hK hP 0 rfl rfl 2 (by decide) (hts _ (List.mem_cons_of_mem _ kw_322)) (fun _ h9 => h9) rfl dX10_scanWord_79 ?_
        refine lv_iload_n hx hb dX10_scanWord_82 rfl (lv_at hl 3 rfl) ?_
        refine lv_lload_n hx hb dX10_scanWord_83 rfl (lv_at hl 0 rfl) ?_
        refine va_last hx hb hK hP hD hS 3 2 rfl rfl (i := (nI i)) (x := v) (vp_in_nI (n := i) (N := 2001) (by omega) (by omega)) dX10_scanWord_84 (fun H locs hP hD hS => ?_)
        rw [show (nI i).toNatClampNeg = i from nI_clamp (n := i) (by omega)] at hP hD
        have hP : va_P (dC, dI) vwCl [(h0, .inr (11, [.ref hKi, y1, .ref hNu, .ref hT, .int (nI n), .int (nI k), .ref hW])), (hT, .inl (cB, 2000, .inl g)), (hKi, .inl (cI, 2001, .inl kf)), (hNu, .inl (cJ, 2001, .inr (.inl (vp_updL vf i v)))), (hW, .inl (cJ, 39, .inr (.inl tk)))] H := hP
        have hD : va_D A [(h0, .inr (11, [.ref hKi, y1, .ref hNu, .ref hT, .int (nI n), .int (nI k), .ref hW])), (hT, .inl (cB, 2000, .inl g)), (hKi, .inl (cI, 2001, .inl kf)), (hNu, .inl (cJ, 2001, .inr (.inl (vp_updL vf i v)))), (hW, .inl (cJ, 39, .inr (.inl tk)))] := hD
        refine lv_aload_n hx hb dX10_scanWord_85 rfl (lv_at hl 2 rfl) ?_
        refine va_get (D := (dC, dI)) (ci := 11) (v := .ref hKi) (C := RX10) (T := TX10) (N := 7) hx hb hts (fun w h => List.mem_cons_of_mem _ (uG_X10 w h)) hown hK hP 0 rfl rfl 0 (by decide) (hts _ (List.mem_cons_of_mem _ kw_318)) (fun _ h9 => h9) rfl dX10_scanWord_86 ?_
        refine lv_iload_n hx hb dX10_scanWord_89 rfl (lv_at hl 3 rfl) ?_
        have mg_2 : ∀ (H : Heap) (locs : List Loc), va_P (dC, dI) vwCl [(h0, .inr (11, [.ref hKi, y1, .ref hNu, .ref hT, .int (nI n), .int (nI k), .ref hW])), (hT, .inl (cB, 2000, .inl g)), (hKi, .inl (cI, 2001, .inl kf)), (hNu, .inl (cJ, 2001, .inr (.inl (vp_updL vf i v)))), (hW, .inl (cJ, 39, .inr (.inl tk)))] H → va_D A [(h0, .inr (11, [.ref hKi, y1, .ref hNu, .ref hT, .int (nI n), .int (nI k), .ref hW])), (hT, .inl (cB, 2000, .inl g)), (hKi, .inl (cI, 2001, .inl kf)), (hNu, .inl (cJ, 2001, .inr (.inl (vp_updL vf i v)))), (hW, .inl (cJ, 39, .inr (.inl tk)))] → va_S A s.heap H locs → W p l e (headSpec (wsOf yX10_scanWord cX10_scanWord 5 none) ({ frames := 2, cells := 0, slots := 0, locals := 120 })).room s m ([.ref h0, .int (nI i)] : List Value).toArray below meth c H locs 0 0 (MQ below (qc_t_X10_scanWord dC dI cB cI cJ cZ h0 hT hKi hNu hW n k0 g kf vf tk y1 i A) ([.ref h0, .int (nI i)] : List Value).toArray s 0 0 A) (F0 m 111 ls [.int (wdK tk k0 k v), .int (nI i), .ref hKi]) := by
          intro H locs hP hD hS
          refine va_iast hx hb hK hP hD hS 2 1 rfl rfl (i := (nI i)) (x := (wdK tk k0 k v)) (vp_in_nI (n := i) (N := 2001) (by omega) (by omega)) dX10_scanWord_111 (fun H locs hP hD hS => ?_)
          rw [show (nI i).toNatClampNeg = i from nI_clamp (n := i) (by omega)] at hP hD
          have hP : va_P (dC, dI) vwCl [(h0, .inr (11, [.ref hKi, y1, .ref hNu, .ref hT, .int (nI n), .int (nI k), .ref hW])), (hT, .inl (cB, 2000, .inl g)), (hKi, .inl (cI, 2001, .inl (upd kf i (wdK tk k0 k v)))), (hNu, .inl (cJ, 2001, .inr (.inl (vp_updL vf i v)))), (hW, .inl (cJ, 39, .inr (.inl tk)))] H := hP
          have hD : va_D A [(h0, .inr (11, [.ref hKi, y1, .ref hNu, .ref hT, .int (nI n), .int (nI k), .ref hW])), (hT, .inl (cB, 2000, .inl g)), (hKi, .inl (cI, 2001, .inl (upd kf i (wdK tk k0 k v)))), (hNu, .inl (cJ, 2001, .inr (.inl (vp_updL vf i v)))), (hW, .inl (cJ, 39, .inr (.inl tk)))] := hD
          have hP9 := hP.sub (ws' := [(h0, .inr (11, [.ref hKi, y1, .ref hNu, .ref hT, .int (nI n), .int (nI k), .ref hW])), (hT, .inl (cB, 2000, .inl g)), (hKi, .inl (cI, 2001, .inl (upd kf i (wdK tk k0 k v)))), (hNu, .inl (cJ, 2001, .inr (.inl (vp_updL vf i v)))), (hW, .inl (cJ, 39, .inr (.inl tk)))]) [0, 1, 2, 3, 4] rfl
          have hD9 := hD.sub (ws' := [(h0, .inr (11, [.ref hKi, y1, .ref hNu, .ref hT, .int (nI n), .int (nI k), .ref hW])), (hT, .inl (cB, 2000, .inl g)), (hKi, .inl (cI, 2001, .inl (upd kf i (wdK tk k0 k v)))), (hNu, .inl (cJ, 2001, .inr (.inl (vp_updL vf i v)))), (hW, .inl (cJ, 39, .inr (.inl tk)))]) [0, 1, 2, 3, 4] (by decide) rfl
          have hK9 := hK.sub (tys' := [(cB, .byte), (cI, .int), (cJ, .long), (cZ, .boolean)]) [0, 1, 2, 3] rfl
          exact W.vret hx hb hr (fun t_ ht hW => ⟨⟨(k, v), rfl, (hin.trans (wdF_e c_1)).symm, by rw [ht]; exact hP9, va_K.moved hW.alike hK9, hD9⟩, hS.F ht⟩) hS.2.2 dX10_scanWord_112
        refine lv_aload_n hx hb dX10_scanWord_90 rfl (lv_at hl 2 rfl) ?_
        refine va_get (D := (dC, dI)) (ci := 11) (v := .int (nI k)) (C := RX10) (T := TX10) (N := 7) hx hb hts (fun w h => List.mem_cons_of_mem _ (uG_X10 w h)) hown hK hP 0 rfl rfl 5 (by decide) (hts _ (List.mem_cons_of_mem _ kw_326)) (fun _ h9 => h9) rfl dX10_scanWord_91 ?_
        refine lv_iload_n hx hb dX10_scanWord_94 rfl (lv_at hl 1 rfl) ?_
        refine lv_isub hx hb dX10_scanWord_95 ?_
        refine lv_topi (fun x_3 ex_3 => ?_)
        have ex_3 : x_3 = nI (k - k0) := ex_3.trans (pk_sub (a := k) (b := k0) (by omega))
        subst ex_3
        refine lv_bipush (v := 12) hx hb dX10_scanWord_96 (by decide) ?_
        refine lv_icmp_le (tgt := 106) hx hb dX10_scanWord_98 (by decide) (fun c_4 => ?_) (fun c_4 => ?_)
        · skip
          have c_4 : k - k0 ≤ 12 := (nI_leI (a := k - k0) (b := 12) (by omega) (by omega)).mp c_4
          refine lv_aload_n hx hb dX10_scanWord_106 rfl (lv_at hl 2 rfl) ?_
          refine lv_lload_n hx hb dX10_scanWord_107 rfl (lv_at hl 0 rfl) ?_
          have hPc := hP.sub (ws' := [(h0, .inr (11, [.ref hKi, y1, .ref hNu, .ref hT, .int (nI n), .int (nI k), .ref hW])), (hW, .inl (cJ, 39, .inr (.inl tk)))]) [0, 4] rfl
          have hDc := hD.sub (ws' := [(h0, .inr (11, [.ref hKi, y1, .ref hNu, .ref hT, .int (nI n), .int (nI k), .ref hW])), (hW, .inl (cJ, 39, .inr (.inl tk)))]) [0, 4] (by decide) rfl
          have hKc := hK.sub (tys' := [(cB, .byte), (cI, .int), (cJ, .long), (cZ, .boolean)]) [0, 1, 2, 3] rfl
          have hFc := va_free (wc := [(h0, .inr (11, [.ref hKi, y1, .ref hNu, .ref hT, .int (nI n), .int (nI k), .ref hW])), (hW, .inl (cJ, 39, .inr (.inl tk)))]) hD hS hA [0, 4] rfl
          refine va_calli (va_runV (As := [.long v]) (rest := [.int (nI i), .ref hKi]) ⟨hx, hb, hml, hown, hts⟩ (t_X10_wordKind l dC dI H.size cB cI cJ cZ h0 hW tk (.ref hKi) y1 (.ref hNu) (.ref hT) (nI n) (nI k) v) (cwV 1 hts (gd_all (in_V kw_530 kw_532 kw_5 kw_183 kc_X10_wordKind)) rfl rfl rfl (by decide +kernel) ⟨Nat.le_of_ble_eq_true rfl, Nat.le_of_ble_eq_true rfl⟩) ⟨fun a U g mk q => by obtain ⟨q0, q1, qP, qK, qD⟩ := q; exact ⟨q0, q1, qP, va_K.moved (u := U) (U := U.calling g mk a) (Vm.Alike.refl U.vm) qK, qD⟩, va_recv hKc hPc (ci := 11) (q0 := 0) rfl rfl, fun U hU hW => ⟨rfl, by rw [hU], by rw [hU]; exact hPc, va_K.moved hW.alike hKc, hDc.weaken (fun _ _ _ _ => trivial)⟩⟩ rfl rfl hl.1 rfl (lv_room (Nat.le_of_ble_eq_true rfl)) dX10_scanWord_108 ⟨Nat.le_of_ble_eq_true rfl, Nat.le_of_ble_eq_true rfl⟩) hS (fun q _ h => hFc q h) hFc (fun r_5 u t_ H1 locs ht hvm hw hB hz1 hk1 hS => ?_)
          obtain ⟨hP1, hK1, hD1⟩ := hB
          rw [ht] at hP1
          have hK1 := va_K.moved hvm.symm hK1
          obtain ⟨hP, hD⟩ := va_join (wr := [(hT, .inl (cB, 2000, .inl g)), (hKi, .inl (cI, 2001, .inl kf)), (hNu, .inl (cJ, 2001, .inr (.inl (vp_updL vf i v))))]) (w1 := [(h0, .inr (11, [.ref hKi, y1, .ref hNu, .ref hT, .int (nI n), .int (nI k), .ref hW])), (hW, .inl (cJ, 39, .inr (.inl tk)))]) hP hD [0, 4] [1, 2, 3] rfl rfl (by decide) (by decide) hk1 hFc hP1 hD1
          have hK := (hK.sub (tys' := []) [] rfl).app hK1
          generalize H1 = H at hP hS ⊢
          have hP : va_P (dC, dI) vwCl [(hT, .inl (cB, 2000, .inl g)), (hKi, .inl (cI, 2001, .inl kf)), (hNu, .inl (cJ, 2001, .inr (.inl (vp_updL vf i v)))), (h0, .inr (11, [.ref hKi, y1, .ref hNu, .ref hT, .int (nI n), .int (nI k), .ref hW])), (hW, .inl (cJ, 39, .inr (.inl tk)))] H := hP
          have hD : va_D A [(hT, .inl (cB, 2000, .inl g)), (hKi, .inl (cI, 2001, .inl kf)), (hNu, .inl (cJ, 2001, .inr (.inl (vp_updL vf i v)))), (h0, .inr (11, [.ref hKi, y1, .ref hNu, .ref hT, .int (nI n), .int (nI k), .ref hW])), (hW, .inl (cJ, 39, .inr (.inl tk)))] := hD
          have hK : va_K (dC, dI) vwCl [(cB, .byte), (cI, .int), (cJ, .long), (cZ, .boolean)] s := hK
          have er_5 : r_5 = wkF tk v 39 0 := hw
          rw [er_5]
          exact W.eq (by unfold wdK; rw [if_pos c_4]) (mg_2 _ _ (hP.sub [3, 0, 1, 2, 4] rfl) (hD.sub [3, 0, 1, 2, 4] (by decide) rfl) hS)
        · skip
          have c_4 : ¬ (k - k0 ≤ 12) := fun h => c_4 ((nI_leI (a := k - k0) (b := 12) (by omega) (by omega)).mpr h)
          refine lv_bipush (v := 57) hx hb dX10_scanWord_101 (by decide) ?_
          refine lv_goto (tgt := 111) hx hb dX10_scanWord_103 (by decide) ?_
          exact W.eq (by unfold wdK; rw [if_neg c_4]) (mg_2 _ _ hP hD hS)
      · skip
        have c_1 : ¬ (n ≤ k) := fun h => c_1 ((nI_leI (a := n) (b := k) (by omega) (by omega)).mpr h)
        refine lv_aload_n hx hb dX10_scanWord_18 rfl (lv_at hl 2 rfl) ?_
        refine lv_aload_n hx hb dX10_scanWord_19 rfl (lv_at hl 2 rfl) ?_
        refine va_get (D := (dC, dI)) (ci := 11) (v := .int (nI k)) (C := RX10) (T := TX10) (N := 7) hx hb hts (fun w h => List.mem_cons_of_mem _ (uG_X10 w h)) hown hK hP 0 rfl rfl 5 (by decide) (hts _ (List.mem_cons_of_mem _ kw_326)) (fun _ h9 => h9) rfl dX10_scanWord_20 ?_
        have hPc := hP.sub (ws' := [(h0, .inr (11, [.ref hKi, y1, .ref hNu, .ref hT, .int (nI n), .int (nI k), .ref hW])), (hT, .inl (cB, 2000, .inl g))]) [0, 1] rfl
        have hDc := hD.sub (ws' := [(h0, .inr (11, [.ref hKi, y1, .ref hNu, .ref hT, .int (nI n), .int (nI k), .ref hW])), (hT, .inl (cB, 2000, .inl g))]) [0, 1] (by decide) rfl
        have hKc := hK.sub (tys' := [(cB, .byte), (cI, .int), (cJ, .long), (cZ, .boolean)]) [0, 1, 2, 3] rfl
        have hFc := va_free (wc := [(h0, .inr (11, [.ref hKi, y1, .ref hNu, .ref hT, .int (nI n), .int (nI k), .ref hW])), (hT, .inl (cB, 2000, .inl g))]) hD hS hA [0, 1] rfl
        refine va_calli (va_runV (As := [.int (nI k)]) (rest := []) ⟨hx, hb, hml, hown, hts⟩ (t_X10_byteAt l dC dI H.size cB cI cJ cZ h0 hT n k g (.ref hKi) y1 (.ref hNu) (.ref hW) k hn (by omega)) (cwV 1 hts (gd_all (in_V kw_512 kw_514 kw_2 kw_183 kc_X10_byteAt)) rfl rfl rfl (by decide +kernel) ⟨Nat.le_of_ble_eq_true rfl, Nat.le_of_ble_eq_true rfl⟩) ⟨fun a U g mk q => by obtain ⟨q0, q1, qP, qK, qD⟩ := q; exact ⟨q0, q1, qP, va_K.moved (u := U) (U := U.calling g mk a) (Vm.Alike.refl U.vm) qK, qD⟩, va_recv hKc hPc (ci := 11) (q0 := 0) rfl rfl, fun U hU hW => ⟨rfl, by rw [hU], by rw [hU]; exact hPc, va_K.moved hW.alike hKc, hDc.weaken (fun _ _ _ _ => trivial)⟩⟩ rfl rfl hl.1 rfl (lv_room (Nat.le_of_ble_eq_true rfl)) dX10_scanWord_23 ⟨Nat.le_of_ble_eq_true rfl, Nat.le_of_ble_eq_true rfl⟩) hS (fun q _ h => hFc q h) hFc (fun r_6 u t_ H1 locs ht hvm hw hB hz1 hk1 hS => ?_)
        obtain ⟨hP1, hK1, hD1⟩ := hB
        rw [ht] at hP1
        have hK1 := va_K.moved hvm.symm hK1
        obtain ⟨hP, hD⟩ := va_join (wr := [(hKi, .inl (cI, 2001, .inl kf)), (hNu, .inl (cJ, 2001, .inr (.inl vf))), (hW, .inl (cJ, 39, .inr (.inl tk)))]) (w1 := [(h0, .inr (11, [.ref hKi, y1, .ref hNu, .ref hT, .int (nI n), .int (nI k), .ref hW])), (hT, .inl (cB, 2000, .inl g))]) hP hD [0, 1] [2, 3, 4] rfl rfl (by decide) (by decide) hk1 hFc hP1 hD1
        have hK := (hK.sub (tys' := []) [] rfl).app hK1
        generalize H1 = H at hP hS ⊢
        have hP : va_P (dC, dI) vwCl [(hKi, .inl (cI, 2001, .inl kf)), (hNu, .inl (cJ, 2001, .inr (.inl vf))), (hW, .inl (cJ, 39, .inr (.inl tk))), (h0, .inr (11, [.ref hKi, y1, .ref hNu, .ref hT, .int (nI n), .int (nI k), .ref hW])), (hT, .inl (cB, 2000, .inl g))] H := hP
        have hD : va_D A [(hKi, .inl (cI, 2001, .inl kf)), (hNu, .inl (cJ, 2001, .inr (.inl vf))), (hW, .inl (cJ, 39, .inr (.inl tk))), (h0, .inr (11, [.ref hKi, y1, .ref hNu, .ref hT, .int (nI n), .int (nI k), .ref hW])), (hT, .inl (cB, 2000, .inl g))] := hD
        have hK : va_K (dC, dI) vwCl [(cB, .byte), (cI, .int), (cJ, .long), (cZ, .boolean)] s := hK
        have er_6 : r_6 = g k := hw.trans (if_neg c_1)
        rw [er_6]
        have hPc := hP.sub (ws' := []) [] rfl
        have hDc := hD.sub (ws' := []) [] (by decide) rfl
        have hKc := hK.sub (tys' := [(cB, .byte), (cI, .int), (cJ, .long), (cZ, .boolean)]) [0, 1, 2, 3] rfl
        have hFc := va_free (wc := []) hD hS hA [] rfl
        refine va_calli (va_runS (As := [.int (g k)]) (rest := []) ⟨hx, hb, hml, hown, hts⟩ (t_X10_isLetter l dC dI H.size cB cI cJ cZ (g k)) ⟨callB_of 1 hts (gd_all (in_I kc_X10_isLetter)) rfl rfl rfl (hts _ (List.mem_cons_of_mem _ kw_183)) (hts _ (List.mem_cons_of_mem _ kw_523)) (by decide +kernel) ⟨Nat.le_of_ble_eq_true rfl, Nat.le_of_ble_eq_true rfl⟩, hts _ (List.mem_cons_of_mem _ kw_524)⟩ ⟨fun a U g mk q => by obtain ⟨q0, q1, qP, qK, qD⟩ := q; exact ⟨q0, q1, qP, va_K.moved (u := U) (U := U.calling g mk a) (Vm.Alike.refl U.vm) qK, qD⟩, fun U hU hW => ⟨rfl, by rw [hU], by rw [hU]; exact hPc, va_K.moved hW.alike hKc, hDc.weaken (fun _ _ _ _ => trivial)⟩⟩ rfl rfl hl.1 rfl (lv_room (Nat.le_of_ble_eq_true rfl)) dX10_scanWord_26 ⟨Nat.le_of_ble_eq_true rfl, Nat.le_of_ble_eq_true rfl⟩) hS (fun q _ h => hFc q h) hFc (fun r_7 u t_ H1 locs ht hvm hw hB hz1 hk1 hS => ?_)
        obtain ⟨hP1, hK1, hD1⟩ := hB
        rw [ht] at hP1
        have hK1 := va_K.moved hvm.symm hK1
        obtain ⟨hP, hD⟩ := va_join (wr := [(hKi, .inl (cI, 2001, .inl kf)), (hNu, .inl (cJ, 2001, .inr (.inl vf))), (hW, .inl (cJ, 39, .inr (.inl tk))), (h0, .inr (11, [.ref hKi, y1, .ref hNu, .ref hT, .int (nI n), .int (nI k), .ref hW])), (hT, .inl (cB, 2000, .inl g))]) (w1 := []) hP hD [] [0, 1, 2, 3, 4] rfl rfl (by decide) (by decide) hk1 hFc hP1 hD1
        have hK := (hK.sub (tys' := []) [] rfl).app hK1
        generalize H1 = H at hP hS ⊢
        have hP : va_P (dC, dI) vwCl [(hKi, .inl (cI, 2001, .inl kf)), (hNu, .inl (cJ, 2001, .inr (.inl vf))), (hW, .inl (cJ, 39, .inr (.inl tk))), (h0, .inr (11, [.ref hKi, y1, .ref hNu, .ref hT, .int (nI n), .int (nI k), .ref hW])), (hT, .inl (cB, 2000, .inl g))] H := hP
        have hD : va_D A [(hKi, .inl (cI, 2001, .inl kf)), (hNu, .inl (cJ, 2001, .inr (.inl vf))), (hW, .inl (cJ, 39, .inr (.inl tk))), (h0, .inr (11, [.ref hKi, y1, .ref hNu, .ref hT, .int (nI n), .int (nI k), .ref hW])), (hT, .inl (cB, 2000, .inl g))] := hD
        have hK : va_K (dC, dI) vwCl [(cB, .byte), (cI, .int), (cJ, .long), (cZ, .boolean)] s := hK
        have er_7 : r_7 = ltI (g k) := hw
        rw [er_7]
        refine lv_if_ne (tgt := 46) hx hb dX10_scanWord_29 (by decide) (fun c_8 => ?_) (fun c_8 => ?_)
        · skip
          refine lv_lload_n hx hb dX10_scanWord_46 rfl (lv_at hl 0 rfl) ?_
          refine lv_ldc2 hx hb hown (hts _ (List.mem_cons_of_mem _ kw_311)) dX10_scanWord_47 ?_
          refine lv_lmul hx hb dX10_scanWord_50 ?_
          refine lv_aload_n hx hb dX10_scanWord_51 rfl (lv_at hl 2 rfl) ?_
          refine lv_aload_n hx hb dX10_scanWord_52 rfl (lv_at hl 2 rfl) ?_
          refine va_get (D := (dC, dI)) (ci := 11) (v := .int (nI k)) (C := RX10) (T := TX10) (N := 7) hx hb hts (fun w h => List.mem_cons_of_mem _ (uG_X10 w h)) hown hK hP 3 rfl rfl 5 (by decide) (hts _ (List.mem_cons_of_mem _ kw_326)) (fun _ h9 => h9) rfl dX10_scanWord_53 ?_
          have hPc := hP.sub (ws' := [(h0, .inr (11, [.ref hKi, y1, .ref hNu, .ref hT, .int (nI n), .int (nI k), .ref hW])), (hT, .inl (cB, 2000, .inl g))]) [3, 4] rfl
          have hDc := hD.sub (ws' := [(h0, .inr (11, [.ref hKi, y1, .ref hNu, .ref hT, .int (nI n), .int (nI k), .ref hW])), (hT, .inl (cB, 2000, .inl g))]) [3, 4] (by decide) rfl
          have hKc := hK.sub (tys' := [(cB, .byte), (cI, .int), (cJ, .long), (cZ, .boolean)]) [0, 1, 2, 3] rfl
          have hFc := va_free (wc := [(h0, .inr (11, [.ref hKi, y1, .ref hNu, .ref hT, .int (nI n), .int (nI k), .ref hW])), (hT, .inl (cB, 2000, .inl g))]) hD hS hA [3, 4] rfl
          refine va_calli (va_runV (As := [.int (nI k)]) (rest := [.long (v * (37))]) ⟨hx, hb, hml, hown, hts⟩ (t_X10_byteAt l dC dI H.size cB cI cJ cZ h0 hT n k g (.ref hKi) y1 (.ref hNu) (.ref hW) k hn (by omega)) (cwV 1 hts (gd_all (in_V kw_512 kw_514 kw_2 kw_183 kc_X10_byteAt)) rfl rfl rfl (by decide +kernel) ⟨Nat.le_of_ble_eq_true rfl, Nat.le_of_ble_eq_true rfl⟩) ⟨fun a U g mk q => by obtain ⟨q0, q1, qP, qK, qD⟩ := q; exact ⟨q0, q1, qP, va_K.moved (u := U) (U := U.calling g mk a) (Vm.Alike.refl U.vm) qK, qD⟩, va_recv hKc hPc (ci := 11) (q0 := 0) rfl rfl, fun U hU hW => ⟨rfl, by rw [hU], by rw [hU]; exact hPc, va_K.moved hW.alike hKc, hDc.weaken (fun _ _ _ _ => trivial)⟩⟩ rfl rfl hl.1 rfl (lv_room (Nat.le_of_ble_eq_true rfl)) dX10_scanWord_56 ⟨Nat.le_of_ble_eq_true rfl, Nat.le_of_ble_eq_true rfl⟩) hS (fun q _ h => hFc q h) hFc (fun r_9 u t_ H1 locs ht hvm hw hB hz1 hk1 hS => ?_)
          obtain ⟨hP1, hK1, hD1⟩ := hB
          rw [ht] at hP1
          have hK1 := va_K.moved hvm.symm hK1
          obtain ⟨hP, hD⟩ := va_join (wr := [(hKi, .inl (cI, 2001, .inl kf)), (hNu, .inl (cJ, 2001, .inr (.inl vf))), (hW, .inl (cJ, 39, .inr (.inl tk)))]) (w1 := [(h0, .inr (11, [.ref hKi, y1, .ref hNu, .ref hT, .int (nI n), .int (nI k), .ref hW])), (hT, .inl (cB, 2000, .inl g))]) hP hD [3, 4] [0, 1, 2] rfl rfl (by decide) (by decide) hk1 hFc hP1 hD1
          have hK := (hK.sub (tys' := []) [] rfl).app hK1
          generalize H1 = H at hP hS ⊢
          have hP : va_P (dC, dI) vwCl [(hKi, .inl (cI, 2001, .inl kf)), (hNu, .inl (cJ, 2001, .inr (.inl vf))), (hW, .inl (cJ, 39, .inr (.inl tk))), (h0, .inr (11, [.ref hKi, y1, .ref hNu, .ref hT, .int (nI n), .int (nI k), .ref hW])), (hT, .inl (cB, 2000, .inl g))] H := hP
          have hD : va_D A [(hKi, .inl (cI, 2001, .inl kf)), (hNu, .inl (cJ, 2001, .inr (.inl vf))), (hW, .inl (cJ, 39, .inr (.inl tk))), (h0, .inr (11, [.ref hKi, y1, .ref hNu, .ref hT, .int (nI n), .int (nI k), .ref hW])), (hT, .inl (cB, 2000, .inl g))] := hD
          have hK : va_K (dC, dI) vwCl [(cB, .byte), (cI, .int), (cJ, .long), (cZ, .boolean)] s := hK
          have er_9 : r_9 = g k := hw.trans (if_neg c_1)
          rw [er_9]
          have hPc := hP.sub (ws' := []) [] rfl
          have hDc := hD.sub (ws' := []) [] (by decide) rfl
          have hKc := hK.sub (tys' := [(cB, .byte), (cI, .int), (cJ, .long), (cZ, .boolean)]) [0, 1, 2, 3] rfl
          have hFc := va_free (wc := []) hD hS hA [] rfl
          refine va_calli (va_runS (As := [.int (g k)]) (rest := [.long (v * (37))]) ⟨hx, hb, hml, hown, hts⟩ (t_X10_letterCode l dC dI H.size cB cI cJ cZ (g k)) ⟨callB_of 1 hts (gd_all (in_I kc_X10_letterCode)) rfl rfl rfl (hts _ (List.mem_cons_of_mem _ kw_183)) (hts _ (List.mem_cons_of_mem _ kw_312)) (by decide +kernel) ⟨Nat.le_of_ble_eq_true rfl, Nat.le_of_ble_eq_true rfl⟩, hts _ (List.mem_cons_of_mem _ kw_313)⟩ ⟨fun a U g mk q => by obtain ⟨q0, q1, qP, qK, qD⟩ := q; exact ⟨q0, q1, qP, va_K.moved (u := U) (U := U.calling g mk a) (Vm.Alike.refl U.vm) qK, qD⟩, fun U hU hW => ⟨rfl, by rw [hU], by rw [hU]; exact hPc, va_K.moved hW.alike hKc, hDc.weaken (fun _ _ _ _ => trivial)⟩⟩ rfl rfl hl.1 rfl (lv_room (Nat.le_of_ble_eq_true rfl)) dX10_scanWord_59 ⟨Nat.le_of_ble_eq_true rfl, Nat.le_of_ble_eq_true rfl⟩) hS (fun q _ h => hFc q h) hFc (fun r_10 u t_ H1 locs ht hvm hw hB hz1 hk1 hS => ?_)
          obtain ⟨hP1, hK1, hD1⟩ := hB
          rw [ht] at hP1
          have hK1 := va_K.moved hvm.symm hK1
          obtain ⟨hP, hD⟩ := va_join (wr := [(hKi, .inl (cI, 2001, .inl kf)), (hNu, .inl (cJ, 2001, .inr (.inl vf))), (hW, .inl (cJ, 39, .inr (.inl tk))), (h0, .inr (11, [.ref hKi, y1, .ref hNu, .ref hT, .int (nI n), .int (nI k), .ref hW])), (hT, .inl (cB, 2000, .inl g))]) (w1 := []) hP hD [] [0, 1, 2, 3, 4] rfl rfl (by decide) (by decide) hk1 hFc hP1 hD1
          have hK := (hK.sub (tys' := []) [] rfl).app hK1
          generalize H1 = H at hP hS ⊢
          have hP : va_P (dC, dI) vwCl [(hKi, .inl (cI, 2001, .inl kf)), (hNu, .inl (cJ, 2001, .inr (.inl vf))), (hW, .inl (cJ, 39, .inr (.inl tk))), (h0, .inr (11, [.ref hKi, y1, .ref hNu, .ref hT, .int (nI n), .int (nI k), .ref hW])), (hT, .inl (cB, 2000, .inl g))] H := hP
          have hD : va_D A [(hKi, .inl (cI, 2001, .inl kf)), (hNu, .inl (cJ, 2001, .inr (.inl vf))), (hW, .inl (cJ, 39, .inr (.inl tk))), (h0, .inr (11, [.ref hKi, y1, .ref hNu, .ref hT, .int (nI n), .int (nI k), .ref hW])), (hT, .inl (cB, 2000, .inl g))] := hD
          have hK : va_K (dC, dI) vwCl [(cB, .byte), (cI, .int), (cJ, .long), (cZ, .boolean)] s := hK
          have er_10 : r_10 = lcd (g k) := hw
          rw [er_10]
          refine lv_i2l hx hb dX10_scanWord_62 rfl ?_
          refine lv_ladd hx hb dX10_scanWord_63 ?_
          refine lv_lstore_n (lv' := [(3, .long ((v * (37)) + ((lcd (g k)).toInt64))), (2, .int (nI k0)), (0, .ref h0), (1, .int (nI i))]) hx hb dX10_scanWord_64 rfl hl (by decide) rfl (fun ls hl => ?_)
          refine lv_aload_n hx hb dX10_scanWord_65 rfl (lv_at hl 2 rfl) ?_
          refine lv_dup hx hb dX10_scanWord_66 rfl ?_
          refine va_get (D := (dC, dI)) (ci := 11) (v := .int (nI k)) (C := RX10) (T := TX10) (N := 7) hx hb hts (fun w h => List.mem_cons_of_mem _ (uG_X10 w h)) hown hK hP 3 rfl rfl 5 (by decide) (hts _ (List.mem_cons_of_mem _ kw_326)) (fun _ h9 => h9) rfl dX10_scanWord_67 ?_
          refine lv_iconst (v := 1) hx hb dX10_scanWord_70 (by decide) ?_
          refine lv_iadd hx hb dX10_scanWord_71 ?_
          refine lv_topi (fun x_11 ex_11 => ?_)
          have ex_11 : x_11 = nI (k + 1) := ex_11.trans (nI_add k 1)
          subst ex_11
          refine va_put (D := (dC, dI)) (ci := 11) (v := .int (nI (k + 1))) (ty := .int) (C := RX10) (T := TX10) (N := 7) hx hb hts (fun w h => List.mem_cons_of_mem _ (uG_X10 w h)) tyX10 tyX10_ok nmX10 hown hK hP hD hS 3 rfl rfl 5 (by decide) (hts _ (List.mem_cons_of_mem _ kw_326)) (fun _ h9 => h9) rfl (by decide +kernel) rfl rfl (Nat.le_of_ble_eq_true rfl) dX10_scanWord_72 (fun H locs hP hD hS => ?_)
          have hP : va_P (dC, dI) vwCl [(hKi, .inl (cI, 2001, .inl kf)), (hNu, .inl (cJ, 2001, .inr (.inl vf))), (hW, .inl (cJ, 39, .inr (.inl tk))), (h0, .inr (11, [.ref hKi, y1, .ref hNu, .ref hT, .int (nI n), .int (nI (k + 1)), .ref hW])), (hT, .inl (cB, 2000, .inl g))] H := hP
          have hD : va_D A [(hKi, .inl (cI, 2001, .inl kf)), (hNu, .inl (cJ, 2001, .inr (.inl vf))), (hW, .inl (cJ, 39, .inr (.inl tk))), (h0, .inr (11, [.ref hKi, y1, .ref hNu, .ref hT, .int (nI n), .int (nI (k + 1)), .ref hW])), (hT, .inl (cB, 2000, .inl g))] := hD
          refine lv_goto (tgt := 7) hx hb dX10_scanWord_75 (by decide) ?_
          exact ih_7 (k + 1) (v * 37 + (lcd (g k)).toInt64) (by omega) (by omega) (hin.trans (wdF_s c_1 (alI_l c_8))) (by omega) _ _ _ (hP.sub [3, 4, 0, 1, 2] rfl) (hD.sub [3, 4, 0, 1, 2] (by decide) rfl) hS (lv_sub hl [0, 1, 2, 3] rfl)
        · skip
          refine lv_aload_n hx hb dX10_scanWord_32 rfl (lv_at hl 2 rfl) ?_
          refine lv_aload_n hx hb dX10_scanWord_33 rfl (lv_at hl 2 rfl) ?_
          refine va_get (D := (dC, dI)) (ci := 11) (v := .int (nI k)) (C := RX10) (T := TX10) (N := 7) hx hb hts (fun w h => List.mem_cons_of_mem _ (uG_X10 w h)) hown hK hP 3 rfl rfl 5 (by decide) (hts _ (List.mem_cons_of_mem _ kw_326)) (fun _ h9 => h9) rfl dX10_scanWord_34 ?_
          have hPc := hP.sub (ws' := [(h0, .inr (11, [.ref hKi, y1, .ref hNu, .ref hT, .int (nI n), .int (nI k), .ref hW])), (hT, .inl (cB, 2000, .inl g))]) [3, 4] rfl
          have hDc := hD.sub (ws' := [(h0, .inr (11, [.ref hKi, y1, .ref hNu, .ref hT, .int (nI n), .int (nI k), .ref hW])), (hT, .inl (cB, 2000, .inl g))]) [3, 4] (by decide) rfl
          have hKc := hK.sub (tys' := [(cB, .byte), (cI, .int), (cJ, .long), (cZ, .boolean)]) [0, 1, 2, 3] rfl
          have hFc := va_free (wc := [(h0, .inr (11, [.ref hKi, y1, .ref hNu, .ref hT, .int (nI n), .int (nI k), .ref hW])), (hT, .inl (cB, 2000, .inl g))]) hD hS hA [3, 4] rfl
          refine va_calli (va_runV (As := [.int (nI k)]) (rest := []) ⟨hx, hb, hml, hown, hts⟩ (t_X10_byteAt l dC dI H.size cB cI cJ cZ h0 hT n k g (.ref hKi) y1 (.ref hNu) (.ref hW) k hn (by omega)) (cwV 1 hts (gd_all (in_V kw_512 kw_514 kw_2 kw_183 kc_X10_byteAt)) rfl rfl rfl (by decide +kernel) ⟨Nat.le_of_ble_eq_true rfl, Nat.le_of_ble_eq_true rfl⟩) ⟨fun a U g mk q => by obtain ⟨q0, q1, qP, qK, qD⟩ := q; exact ⟨q0, q1, qP, va_K.moved (u := U) (U := U.calling g mk a) (Vm.Alike.refl U.vm) qK, qD⟩, va_recv hKc hPc (ci := 11) (q0 := 0) rfl rfl, fun U hU hW => ⟨rfl, by rw [hU], by rw [hU]; exact hPc, va_K.moved hW.alike hKc, hDc.weaken (fun _ _ _ _ => trivial)⟩⟩ rfl rfl hl.1 rfl (lv_room (Nat.le_of_ble_eq_true rfl)) dX10_scanWord_37 ⟨Nat.le_of_ble_eq_true rfl, Nat.le_of_ble_eq_true rfl⟩) hS (fun q _ h => hFc q h) hFc (fun r_12 u t_ H1 locs ht hvm hw hB hz1 hk1 hS => ?_)
          obtain ⟨hP1, hK1, hD1⟩ := hB
          rw [ht] at hP1
          have hK1 := va_K.moved hvm.symm hK1
          obtain ⟨hP, hD⟩ := va_join (wr := [(hKi, .inl (cI, 2001, .inl kf)), (hNu, .inl (cJ, 2001, .inr (.inl vf))), (hW, .inl (cJ, 39, .inr (.inl tk)))]) (w1 := [(h0, .inr (11, [.ref hKi, y1, .ref hNu, .ref hT, .int (nI n), .int (nI k), .ref hW])), (hT, .inl (cB, 2000, .inl g))]) hP hD [3, 4] [0, 1, 2] rfl rfl (by decide) (by decide) hk1 hFc hP1 hD1
          have hK := (hK.sub (tys' := []) [] rfl).app hK1
          generalize H1 = H at hP hS ⊢
          have hP : va_P (dC, dI) vwCl [(hKi, .inl (cI, 2001, .inl kf)), (hNu, .inl (cJ, 2001, .inr (.inl vf))), (hW, .inl (cJ, 39, .inr (.inl tk))), (h0, .inr (11, [.ref hKi, y1, .ref hNu, .ref hT, .int (nI n), .int (nI k), .ref hW])), (hT, .inl (cB, 2000, .inl g))] H := hP
          have hD : va_D A [(hKi, .inl (cI, 2001, .inl kf)), (hNu, .inl (cJ, 2001, .inr (.inl vf))), (hW, .inl (cJ, 39, .inr (.inl tk))), (h0, .inr (11, [.ref hKi, y1, .ref hNu, .ref hT, .int (nI n), .int (nI k), .ref hW])), (hT, .inl (cB, 2000, .inl g))] := hD
          have hK : va_K (dC, dI) vwCl [(cB, .byte), (cI, .int), (cJ, .long), (cZ, .boolean)] s := hK
          have er_12 : r_12 = g k := hw.trans (if_neg c_1)
          rw [er_12]
          have hPc := hP.sub (ws' := []) [] rfl
          have hDc := hD.sub (ws' := []) [] (by decide) rfl
          have hKc := hK.sub (tys' := [(cB, .byte), (cI, .int), (cJ, .long), (cZ, .boolean)]) [0, 1, 2, 3] rfl
          have hFc := va_free (wc := []) hD hS hA [] rfl
          refine va_calli (va_runS (As := [.int (g k)]) (rest := []) ⟨hx, hb, hml, hown, hts⟩ (t_X10_isDigit l dC dI H.size cB cI cJ cZ (g k)) ⟨callB_of 1 hts (gd_all (in_I kc_X10_isDigit)) rfl rfl rfl (hts _ (List.mem_cons_of_mem _ kw_183)) (hts _ (List.mem_cons_of_mem _ kw_315)) (by decide +kernel) ⟨Nat.le_of_ble_eq_true rfl, Nat.le_of_ble_eq_true rfl⟩, hts _ (List.mem_cons_of_mem _ kw_316)⟩ ⟨fun a U g mk q => by obtain ⟨q0, q1, qP, qK, qD⟩ := q; exact ⟨q0, q1, qP, va_K.moved (u := U) (U := U.calling g mk a) (Vm.Alike.refl U.vm) qK, qD⟩, fun U hU hW => ⟨rfl, by rw [hU], by rw [hU]; exact hPc, va_K.moved hW.alike hKc, hDc.weaken (fun _ _ _ _ => trivial)⟩⟩ rfl rfl hl.1 rfl (lv_room (Nat.le_of_ble_eq_true rfl)) dX10_scanWord_40 ⟨Nat.le_of_ble_eq_true rfl, Nat.le_of_ble_eq_true rfl⟩) hS (fun q _ h => hFc q h) hFc (fun r_13 u t_ H1 locs ht hvm hw hB hz1 hk1 hS => ?_)
          obtain ⟨hP1, hK1, hD1⟩ := hB
          rw [ht] at hP1
          have hK1 := va_K.moved hvm.symm hK1
          obtain ⟨hP, hD⟩ := va_join (wr := [(hKi, .inl (cI, 2001, .inl kf)), (hNu, .inl (cJ, 2001, .inr (.inl vf))), (hW, .inl (cJ, 39, .inr (.inl tk))), (h0, .inr (11, [.ref hKi, y1, .ref hNu, .ref hT, .int (nI n), .int (nI k), .ref hW])), (hT, .inl (cB, 2000, .inl g))]) (w1 := []) hP hD [] [0, 1, 2, 3, 4] rfl rfl (by decide) (by decide) hk1 hFc hP1 hD1
          have hK := (hK.sub (tys' := []) [] rfl).app hK1
          generalize H1 = H at hP hS ⊢
          have hP : va_P (dC, dI) vwCl [(hKi, .inl (cI, 2001, .inl kf)), (hNu, .inl (cJ, 2001, .inr (.inl vf))), (hW, .inl (cJ, 39, .inr (.inl tk))), (h0, .inr (11, [.ref hKi, y1, .ref hNu, .ref hT, .int (nI n), .int (nI k), .ref hW])), (hT, .inl (cB, 2000, .inl g))] H := hP
          have hD : va_D A [(hKi, .inl (cI, 2001, .inl kf)), (hNu, .inl (cJ, 2001, .inr (.inl vf))), (hW, .inl (cJ, 39, .inr (.inl tk))), (h0, .inr (11, [.ref hKi, y1, .ref hNu, .ref hT, .int (nI n), .int (nI k), .ref hW])), (hT, .inl (cB, 2000, .inl g))] := hD
          have hK : va_K (dC, dI) vwCl [(cB, .byte), (cI, .int), (cJ, .long), (cZ, .boolean)] s := hK
          have er_13 : r_13 = dgI (g k) := hw
          rw [er_13]
          refine lv_if_eq (tgt := 78) hx hb dX10_scanWord_43 (by decide) (fun c_14 => ?_) (fun c_14 => ?_)
          · skip
            refine lv_aload_n hx hb dX10_scanWord_78 rfl (lv_at hl 2 rfl) ?_
            refine va_get (D := (dC, dI)) (ci := 11) (v := .ref hNu) (C := RX10) (T := TX10) (N := 7) hx hb hts (fun w h => List.mem_cons_of_mem _ (uG_X10 w h)) hown hK hP 3 rfl rfl 2 (by decide) (hts _ (List.mem_cons_of_mem _ kw_322)) (fun _ h9 => h9) rfl dX10_scanWord_79 ?_
            refine lv_iload_n hx hb dX10_scanWord_82 rfl (lv_at hl 3 rfl) ?_
            refine lv_lload_n hx hb dX10_scanWord_83 rfl (lv_at hl 0 rfl) ?_
            refine va_last hx hb hK hP hD hS 1 2 rfl rfl (i := (nI i)) (x := v) (vp_in_nI (n := i) (N := 2001) (by omega) (by omega)) dX10_scanWord_84 (fun H locs hP hD hS => ?_)
            rw [show (nI i).toNatClampNeg = i from nI_clamp (n := i) (by omega)] at hP hD
            have hP : va_P (dC, dI) vwCl [(hKi, .inl (cI, 2001, .inl kf)), (hNu, .inl (cJ, 2001, .inr (.inl (vp_updL vf i v)))), (hW, .inl (cJ, 39, .inr (.inl tk))), (h0, .inr (11, [.ref hKi, y1, .ref hNu, .ref hT, .int (nI n), .int (nI k), .ref hW])), (hT, .inl (cB, 2000, .inl g))] H := hP
            have hD : va_D A [(hKi, .inl (cI, 2001, .inl kf)), (hNu, .inl (cJ, 2001, .inr (.inl (vp_updL vf i v)))), (hW, .inl (cJ, 39, .inr (.inl tk))), (h0, .inr (11, [.ref hKi, y1, .ref hNu, .ref hT, .int (nI n), .int (nI k), .ref hW])), (hT, .inl (cB, 2000, .inl g))] := hD
            refine lv_aload_n hx hb dX10_scanWord_85 rfl (lv_at hl 2 rfl) ?_
            refine va_get (D := (dC, dI)) (ci := 11) (v := .ref hKi) (C := RX10) (T := TX10) (N := 7) hx hb hts (fun w h => List.mem_cons_of_mem _ (uG_X10 w h)) hown hK hP 3 rfl rfl 0 (by decide) (hts _ (List.mem_cons_of_mem _ kw_318)) (fun _ h9 => h9) rfl dX10_scanWord_86 ?_
            refine lv_iload_n hx hb dX10_scanWord_89 rfl (lv_at hl 3 rfl) ?_
            have mg_15 : ∀ (H : Heap) (locs : List Loc), va_P (dC, dI) vwCl [(hKi, .inl (cI, 2001, .inl kf)), (hNu, .inl (cJ, 2001, .inr (.inl (vp_updL vf i v)))), (hW, .inl (cJ, 39, .inr (.inl tk))), (h0, .inr (11, [.ref hKi, y1, .ref hNu, .ref hT, .int (nI n), .int (nI k), .ref hW])), (hT, .inl (cB, 2000, .inl g))] H → va_D A [(hKi, .inl (cI, 2001, .inl kf)), (hNu, .inl (cJ, 2001, .inr (.inl (vp_updL vf i v)))), (hW, .inl (cJ, 39, .inr (.inl tk))), (h0, .inr (11, [.ref hKi, y1, .ref hNu, .ref hT, .int (nI n), .int (nI k), .ref hW])), (hT, .inl (cB, 2000, .inl g))] → va_S A s.heap H locs → W p l e (headSpec (wsOf yX10_scanWord cX10_scanWord 5 none) ({ frames := 2, cells := 0, slots := 0, locals := 120 })).room s m ([.ref h0, .int (nI i)] : List Value).toArray below meth c H locs 0 0 (MQ below (qc_t_X10_scanWord dC dI cB cI cJ cZ h0 hT hKi hNu hW n k0 g kf vf tk y1 i A) ([.ref h0, .int (nI i)] : List Value).toArray s 0 0 A) (F0 m 111 ls [.int (wdK tk k0 k v), .int (nI i), .ref hKi]) := by
              intro H locs hP hD hS
              refine va_iast hx hb hK hP hD hS 0 1 rfl rfl (i := (nI i)) (x := (wdK tk k0 k v)) (vp_in_nI (n := i) (N := 2001) (by omega) (by omega)) dX10_scanWord_111 (fun H locs hP hD hS => ?_)
              rw [show (nI i).toNatClampNeg = i from nI_clamp (n := i) (by omega)] at hP hD
              have hP : va_P (dC, dI) vwCl [(hKi, .inl (cI, 2001, .inl (upd kf i (wdK tk k0 k v)))), (hNu, .inl (cJ, 2001, .inr (.inl (vp_updL vf i v)))), (hW, .inl (cJ, 39, .inr (.inl tk))), (h0, .inr (11, [.ref hKi, y1, .ref hNu, .ref hT, .int (nI n), .int (nI k), .ref hW])), (hT, .inl (cB, 2000, .inl g))] H := hP
              have hD : va_D A [(hKi, .inl (cI, 2001, .inl (upd kf i (wdK tk k0 k v)))), (hNu, .inl (cJ, 2001, .inr (.inl (vp_updL vf i v)))), (hW, .inl (cJ, 39, .inr (.inl tk))), (h0, .inr (11, [.ref hKi, y1, .ref hNu, .ref hT, .int (nI n), .int (nI k), .ref hW])), (hT, .inl (cB, 2000, .inl g))] := hD
              have hP9 := hP.sub (ws' := [(h0, .inr (11, [.ref hKi, y1, .ref hNu, .ref hT, .int (nI n), .int (nI k), .ref hW])), (hT, .inl (cB, 2000, .inl g)), (hKi, .inl (cI, 2001, .inl (upd kf i (wdK tk k0 k v)))), (hNu, .inl (cJ, 2001, .inr (.inl (vp_updL vf i v)))), (hW, .inl (cJ, 39, .inr (.inl tk)))]) [3, 4, 0, 1, 2] rfl
              have hD9 := hD.sub (ws' := [(h0, .inr (11, [.ref hKi, y1, .ref hNu, .ref hT, .int (nI n), .int (nI k), .ref hW])), (hT, .inl (cB, 2000, .inl g)), (hKi, .inl (cI, 2001, .inl (upd kf i (wdK tk k0 k v)))), (hNu, .inl (cJ, 2001, .inr (.inl (vp_updL vf i v)))), (hW, .inl (cJ, 39, .inr (.inl tk)))]) [3, 4, 0, 1, 2] (by decide) rfl
              have hK9 := hK.sub (tys' := [(cB, .byte), (cI, .int), (cJ, .long), (cZ, .boolean)]) [0, 1, 2, 3] rfl
              exact W.vret hx hb hr (fun t_ ht hW => ⟨⟨(k, v), rfl, (hin.trans (wdF_z c_1 (alI_z c_8 c_14))).symm, by rw [ht]; exact hP9, va_K.moved hW.alike hK9, hD9⟩, hS.F ht⟩) hS.2.2 dX10_scanWord_112
            refine lv_aload_n hx hb dX10_scanWord_90 rfl (lv_at hl 2 rfl) ?_
            refine va_get (D := (dC, dI)) (ci := 11) (v := .int (nI k)) (C := RX10) (T := TX10) (N := 7) hx hb hts (fun w h => List.mem_cons_of_mem _ (uG_X10 w h)) hown hK hP 3 rfl rfl 5 (by decide) (hts _ (List.mem_cons_of_mem _ kw_326)) (fun _ h9 => h9) rfl dX10_scanWord_91 ?_
            refine lv_iload_n hx hb dX10_scanWord_94 rfl (lv_at hl 1 rfl) ?_
            refine lv_isub hx hb dX10_scanWord_95 ?_
            refine lv_topi (fun x_16 ex_16 => ?_)
            have ex_16 : x_16 = nI (k - k0) := ex_16.trans (pk_sub (a := k) (b := k0) (by omega))
            subst ex_16
            refine lv_bipush (v := 12) hx hb dX10_scanWord_96 (by decide) ?_
            refine lv_icmp_le (tgt := 106) hx hb dX10_scanWord_98 (by decide) (fun c_17 => ?_) (fun c_17 => ?_)
            · skip
              have c_17 : k - k0 ≤ 12 := (nI_leI (a := k - k0) (b := 12) (by omega) (by omega)).mp c_17
              refine lv_aload_n hx hb dX10_scanWord_106 rfl (lv_at hl 2 rfl) ?_
              refine lv_lload_n hx hb dX10_scanWord_107 rfl (lv_at hl 0 rfl) ?_
              have hPc := hP.sub (ws' := [(h0, .inr (11, [.ref hKi, y1, .ref hNu, .ref hT, .int (nI n), .int (nI k), .ref hW])), (hW, .inl (cJ, 39, .inr (.inl tk)))]) [3, 2] rfl
              have hDc := hD.sub (ws' := [(h0, .inr (11, [.ref hKi, y1, .ref hNu, .ref hT, .int (nI n), .int (nI k), .ref hW])), (hW, .inl (cJ, 39, .inr (.inl tk)))]) [3, 2] (by decide) rfl
              have hKc := hK.sub (tys' := [(cB, .byte), (cI, .int), (cJ, .long), (cZ, .boolean)]) [0, 1, 2, 3] rfl
              have hFc := va_free (wc := [(h0, .inr (11, [.ref hKi, y1, .ref hNu, .ref hT, .int (nI n), .int (nI k), .ref hW])), (hW, .inl (cJ, 39, .inr (.inl tk)))]) hD hS hA [3, 2] rfl
              refine va_calli (va_runV (As := [.long v]) (rest := [.int (nI i), .ref hKi]) ⟨hx, hb, hml, hown, hts⟩ (t_X10_wordKind l dC dI H.size cB cI cJ cZ h0 hW tk (.ref hKi) y1 (.ref hNu) (.ref hT) (nI n) (nI k) v) (cwV 1 hts (gd_all (in_V kw_530 kw_532 kw_5 kw_183 kc_X10_wordKind)) rfl rfl rfl (by decide +kernel) ⟨Nat.le_of_ble_eq_true rfl, Nat.le_of_ble_eq_true rfl⟩) ⟨fun a U g mk q => by obtain ⟨q0, q1, qP, qK, qD⟩ := q; exact ⟨q0, q1, qP, va_K.moved (u := U) (U := U.calling g mk a) (Vm.Alike.refl U.vm) qK, qD⟩, va_recv hKc hPc (ci := 11) (q0 := 0) rfl rfl, fun U hU hW => ⟨rfl, by rw [hU], by rw [hU]; exact hPc, va_K.moved hW.alike hKc, hDc.weaken (fun _ _ _ _ => trivial)⟩⟩ rfl rfl hl.1 rfl (lv_room (Nat.le_of_ble_eq_true rfl)) dX10_scanWord_108 ⟨Nat.le_of_ble_eq_true rfl, Nat.le_of_ble_eq_true rfl⟩) hS (fun q _ h => hFc q h) hFc (fun r_18 u t_ H1 locs ht hvm hw hB hz1 hk1 hS => ?_)
              obtain ⟨hP1, hK1, hD1⟩ := hB
              rw [ht] at hP1
              have hK1 := va_K.moved hvm.symm hK1
              obtain ⟨hP, hD⟩ := va_join (wr := [(hKi, .inl (cI, 2001, .inl kf)), (hNu, .inl (cJ, 2001, .inr (.inl (vp_updL vf i v)))), (hT, .inl (cB, 2000, .inl g))]) (w1 := [(h0, .inr (11, [.ref hKi, y1, .ref hNu, .ref hT, .int (nI n), .int (nI k), .ref hW])), (hW, .inl (cJ, 39, .inr (.inl tk)))]) hP hD [3, 2] [0, 1, 4] rfl rfl (by decide) (by decide) hk1 hFc hP1 hD1
              have hK := (hK.sub (tys' := []) [] rfl).app hK1
              generalize H1 = H at hP hS ⊢
              have hP : va_P (dC, dI) vwCl [(hKi, .inl (cI, 2001, .inl kf)), (hNu, .inl (cJ, 2001, .inr (.inl (vp_updL vf i v)))), (hT, .inl (cB, 2000, .inl g)), (h0, .inr (11, [.ref hKi, y1, .ref hNu, .ref hT, .int (nI n), .int (nI k), .ref hW])), (hW, .inl (cJ, 39, .inr (.inl tk)))] H := hP
              have hD : va_D A [(hKi, .inl (cI, 2001, .inl kf)), (hNu, .inl (cJ, 2001, .inr (.inl (vp_updL vf i v)))), (hT, .inl (cB, 2000, .inl g)), (h0, .inr (11, [.ref hKi, y1, .ref hNu, .ref hT, .int (nI n), .int (nI k), .ref hW])), (hW, .inl (cJ, 39, .inr (.inl tk)))] := hD
              have hK : va_K (dC, dI) vwCl [(cB, .byte), (cI, .int), (cJ, .long), (cZ, .boolean)] s := hK
              have er_18 : r_18 = wkF tk v 39 0 := hw
              rw [er_18]
              exact W.eq (by unfold wdK; rw [if_pos c_17]) (mg_15 _ _ (hP.sub [0, 1, 4, 3, 2] rfl) (hD.sub [0, 1, 4, 3, 2] (by decide) rfl) hS)
            · skip
              have c_17 : ¬ (k - k0 ≤ 12) := fun h => c_17 ((nI_leI (a := k - k0) (b := 12) (by omega) (by omega)).mpr h)
              refine lv_bipush (v := 57) hx hb dX10_scanWord_101 (by decide) ?_
              refine lv_goto (tgt := 111) hx hb dX10_scanWord_103 (by decide) ?_
              exact W.eq (by unfold wdK; rw [if_neg c_17]) (mg_15 _ _ hP hD hS)
          · skip
            refine lv_lload_n hx hb dX10_scanWord_46 rfl (lv_at hl 0 rfl) ?_
            refine lv_ldc2 hx hb hown (hts _ (List.mem_cons_of_mem _ kw_311)) dX10_scanWord_47 ?_
            refine lv_lmul hx hb dX10_scanWord_50 ?_
            refine lv_aload_n hx hb dX10_scanWord_51 rfl (lv_at hl 2 rfl) ?_
            refine lv_aload_n hx hb dX10_scanWord_52 rfl (lv_at hl 2 rfl) ?_
            refine va_get (D := (dC, dI)) (ci := 11) (v := .int (nI k)) (C := RX10) (T := TX10) (N := 7) hx hb hts (fun w h => List.mem_cons_of_mem _ (uG_X10 w h)) hown hK hP 3 rfl rfl 5 (by decide) (hts _ (List.mem_cons_of_mem _ kw_326)) (fun _ h9 => h9) rfl dX10_scanWord_53 ?_
            have hPc := hP.sub (ws' := [(h0, .inr (11, [.ref hKi, y1, .ref hNu, .ref hT, .int (nI n), .int (nI k), .ref hW])), (hT, .inl (cB, 2000, .inl g))]) [3, 4] rfl
            have hDc := hD.sub (ws' := [(h0, .inr (11, [.ref hKi, y1, .ref hNu, .ref hT, .int (nI n), .int (nI k), .ref hW])), (hT, .inl (cB, 2000, .inl g))]) [3, 4] (by decide) rfl
            have hKc := hK.sub (tys' := [(cB, .byte), (cI, .int), (cJ, .long), (cZ, .boolean)]) [0, 1, 2, 3] rfl
            have hFc := va_free (wc := [(h0, .inr (11, [.ref hKi, y1, .ref hNu, .ref hT, .int (nI n), .int (nI k), .ref hW])), (hT, .inl (cB, 2000, .inl g))]) hD hS hA [3, 4] rfl
            refine va_calli (va_runV (As := [.int (nI k)]) (rest := [.long (v * (37))]) ⟨hx, hb, hml, hown, hts⟩ (t_X10_byteAt l dC dI H.size cB cI cJ cZ h0 hT n k g (.ref hKi) y1 (.ref hNu) (.ref hW) k hn (by omega)) (cwV 1 hts (gd_all (in_V kw_512 kw_514 kw_2 kw_183 kc_X10_byteAt)) rfl rfl rfl (by decide +kernel) ⟨Nat.le_of_ble_eq_true rfl, Nat.le_of_ble_eq_true rfl⟩) ⟨fun a U g mk q => by obtain ⟨q0, q1, qP, qK, qD⟩ := q; exact ⟨q0, q1, qP, va_K.moved (u := U) (U := U.calling g mk a) (Vm.Alike.refl U.vm) qK, qD⟩, va_recv hKc hPc (ci := 11) (q0 := 0) rfl rfl, fun U hU hW => ⟨rfl, by rw [hU], by rw [hU]; exact hPc, va_K.moved hW.alike hKc, hDc.weaken (fun _ _ _ _ => trivial)⟩⟩ rfl rfl hl.1 rfl (lv_room (Nat.le_of_ble_eq_true rfl)) dX10_scanWord_56 ⟨Nat.le_of_ble_eq_true rfl, Nat.le_of_ble_eq_true rfl⟩) hS (fun q _ h => hFc q h) hFc (fun r_19 u t_ H1 locs ht hvm hw hB hz1 hk1 hS => ?_)
            obtain ⟨hP1, hK1, hD1⟩ := hB
            rw [ht] at hP1
            have hK1 := va_K.moved hvm.symm hK1
            obtain ⟨hP, hD⟩ := va_join (wr := [(hKi, .inl (cI, 2001, .inl kf)), (hNu, .inl (cJ, 2001, .inr (.inl vf))), (hW, .inl (cJ, 39, .inr (.inl tk)))]) (w1 := [(h0, .inr (11, [.ref hKi, y1, .ref hNu, .ref hT, .int (nI n), .int (nI k), .ref hW])), (hT, .inl (cB, 2000, .inl g))]) hP hD [3, 4] [0, 1, 2] rfl rfl (by decide) (by decide) hk1 hFc hP1 hD1
            have hK := (hK.sub (tys' := []) [] rfl).app hK1
            generalize H1 = H at hP hS ⊢
            have hP : va_P (dC, dI) vwCl [(hKi, .inl (cI, 2001, .inl kf)), (hNu, .inl (cJ, 2001, .inr (.inl vf))), (hW, .inl (cJ, 39, .inr (.inl tk))), (h0, .inr (11, [.ref hKi, y1, .ref hNu, .ref hT, .int (nI n), .int (nI k), .ref hW])), (hT, .inl (cB, 2000, .inl g))] H := hP
            have hD : va_D A [(hKi, .inl (cI, 2001, .inl kf)), (hNu, .inl (cJ, 2001, .inr (.inl vf))), (hW, .inl (cJ, 39, .inr (.inl tk))), (h0, .inr (11, [.ref hKi, y1, .ref hNu, .ref hT, .int (nI n), .int (nI k), .ref hW])), (hT, .inl (cB, 2000, .inl g))] := hD
            have hK : va_K (dC, dI) vwCl [(cB, .byte), (cI, .int), (cJ, .long), (cZ, .boolean)] s := hK
            have er_19 : r_19 = g k := hw.trans (if_neg c_1)
            rw [er_19]
            have hPc := hP.sub (ws' := []) [] rfl
            have hDc := hD.sub (ws' := []) [] (by decide) rfl
            have hKc := hK.sub (tys' := [(cB, .byte), (cI, .int), (cJ, .long), (cZ, .boolean)]) [0, 1, 2, 3] rfl
            have hFc := va_free (wc := []) hD hS hA [] rfl
            refine va_calli (va_runS (As := [.int (g k)]) (rest := [.long (v * (37))]) ⟨hx, hb, hml, hown, hts⟩ (t_X10_letterCode l dC dI H.size cB cI cJ cZ (g k)) ⟨callB_of 1 hts (gd_all (in_I kc_X10_letterCode)) rfl rfl rfl (hts _ (List.mem_cons_of_mem _ kw_183)) (hts _ (List.mem_cons_of_mem _ kw_312)) (by decide +kernel) ⟨Nat.le_of_ble_eq_true rfl, Nat.le_of_ble_eq_true rfl⟩, hts _ (List.mem_cons_of_mem _ kw_313)⟩ ⟨fun a U g mk q => by obtain ⟨q0, q1, qP, qK, qD⟩ := q; exact ⟨q0, q1, qP, va_K.moved (u := U) (U := U.calling g mk a) (Vm.Alike.refl U.vm) qK, qD⟩, fun U hU hW => ⟨rfl, by rw [hU], by rw [hU]; exact hPc, va_K.moved hW.alike hKc, hDc.weaken (fun _ _ _ _ => trivial)⟩⟩ rfl rfl hl.1 rfl (lv_room (Nat.le_of_ble_eq_true rfl)) dX10_scanWord_59 ⟨Nat.le_of_ble_eq_true rfl, Nat.le_of_ble_eq_true rfl⟩) hS (fun q _ h => hFc q h) hFc (fun r_20 u t_ H1 locs ht hvm hw hB hz1 hk1 hS => ?_)
            obtain ⟨hP1, hK1, hD1⟩ := hB
            rw [ht] at hP1
            have hK1 := va_K.moved hvm.symm hK1
            obtain ⟨hP, hD⟩ := va_join (wr := [(hKi, .inl (cI, 2001, .inl kf)), (hNu, .inl (cJ, 2001, .inr (.inl vf))), (hW, .inl (cJ, 39, .inr (.inl tk))), (h0, .inr (11, [.ref hKi, y1, .ref hNu, .ref hT, .int (nI n), .int (nI k), .ref hW])), (hT, .inl (cB, 2000, .inl g))]) (w1 := []) hP hD [] [0, 1, 2, 3, 4] rfl rfl (by decide) (by decide) hk1 hFc hP1 hD1
            have hK := (hK.sub (tys' := []) [] rfl).app hK1
            generalize H1 = H at hP hS ⊢
            have hP : va_P (dC, dI) vwCl [(hKi, .inl (cI, 2001, .inl kf)), (hNu, .inl (cJ, 2001, .inr (.inl vf))), (hW, .inl (cJ, 39, .inr (.inl tk))), (h0, .inr (11, [.ref hKi, y1, .ref hNu, .ref hT, .int (nI n), .int (nI k), .ref hW])), (hT, .inl (cB, 2000, .inl g))] H := hP
            have hD : va_D A [(hKi, .inl (cI, 2001, .inl kf)), (hNu, .inl (cJ, 2001, .inr (.inl vf))), (hW, .inl (cJ, 39, .inr (.inl tk))), (h0, .inr (11, [.ref hKi, y1, .ref hNu, .ref hT, .int (nI n), .int (nI k), .ref hW])), (hT, .inl (cB, 2000, .inl g))] := hD
            have hK : va_K (dC, dI) vwCl [(cB, .byte), (cI, .int), (cJ, .long), (cZ, .boolean)] s := hK
            have er_20 : r_20 = lcd (g k) := hw
            rw [er_20]
            refine lv_i2l hx hb dX10_scanWord_62 rfl ?_
            refine lv_ladd hx hb dX10_scanWord_63 ?_
            refine lv_lstore_n (lv' := [(3, .long ((v * (37)) + ((lcd (g k)).toInt64))), (2, .int (nI k0)), (0, .ref h0), (1, .int (nI i))]) hx hb dX10_scanWord_64 rfl hl (by decide) rfl (fun ls hl => ?_)
            refine lv_aload_n hx hb dX10_scanWord_65 rfl (lv_at hl 2 rfl) ?_
            refine lv_dup hx hb dX10_scanWord_66 rfl ?_
            refine va_get (D := (dC, dI)) (ci := 11) (v := .int (nI k)) (C := RX10) (T := TX10) (N := 7) hx hb hts (fun w h => List.mem_cons_of_mem _ (uG_X10 w h)) hown hK hP 3 rfl rfl 5 (by decide) (hts _ (List.mem_cons_of_mem _ kw_326)) (fun _ h9 => h9) rfl dX10_scanWord_67 ?_
            refine lv_iconst (v := 1) hx hb dX10_scanWord_70 (by decide) ?_
            refine lv_iadd hx hb dX10_scanWord_71 ?_
            refine lv_topi (fun x_21 ex_21 => ?_)
            have ex_21 : x_21 = nI (k + 1) := ex_21.trans (nI_add k 1)
            subst ex_21
            refine va_put (D := (dC, dI)) (ci := 11) (v := .int (nI (k + 1))) (ty := .int) (C := RX10) (T := TX10) (N := 7) hx hb hts (fun w h => List.mem_cons_of_mem _ (uG_X10 w h)) tyX10 tyX10_ok nmX10 hown hK hP hD hS 3 rfl rfl 5 (by decide) (hts _ (List.mem_cons_of_mem _ kw_326)) (fun _ h9 => h9) rfl (by decide +kernel) rfl rfl (Nat.le_of_ble_eq_true rfl) dX10_scanWord_72 (fun H locs hP hD hS => ?_)
            have hP : va_P (dC, dI) vwCl [(hKi, .inl (cI, 2001, .inl kf)), (hNu, .inl (cJ, 2001, .inr (.inl vf))), (hW, .inl (cJ, 39, .inr (.inl tk))), (h0, .inr (11, [.ref hKi, y1, .ref hNu, .ref hT, .int (nI n), .int (nI (k + 1)), .ref hW])), (hT, .inl (cB, 2000, .inl g))] H := hP
            have hD : va_D A [(hKi, .inl (cI, 2001, .inl kf)), (hNu, .inl (cJ, 2001, .inr (.inl vf))), (hW, .inl (cJ, 39, .inr (.inl tk))), (h0, .inr (11, [.ref hKi, y1, .ref hNu, .ref hT, .int (nI n), .int (nI (k + 1)), .ref hW])), (hT, .inl (cB, 2000, .inl g))] := hD
            refine lv_goto (tgt := 7) hx hb dX10_scanWord_75 (by decide) ?_
            exact ih_7 (k + 1) (v * 37 + (lcd (g k)).toInt64) (by omega) (by omega) (hin.trans (wdF_s c_1 (alI_d c_8 c_14))) (by omega) _ _ _ (hP.sub [3, 4, 0, 1, 2] rfl) (hD.sub [3, 4, 0, 1, 2] (by decide) rfl) hS (lv_sub hl [0, 1, 2, 3] rfl)
  exact lp_7 _ k0 0 hk0 (Nat.le_refl _) rfl (Nat.lt_succ_self _) _ _ _ (hP.sub [0, 1, 2, 3, 4] rfl) (hD.sub [0, 1, 2, 3, 4] (by decide) rfl) hS (lv_sub hl [0, 1, 2, 3] rfl)


theorem updd {g : Nat → Int32} {i : Nat} {x y : Int32} : upd (upd g i x) i y = upd g i y := by
  funext j
  by_cases h : j = i
  · subst h; rw [pk_us, pk_us]
  · rw [pk_un h, pk_un h, pk_un h]
def nuF (g : Nat → Int32) (n : Nat) : Nat → Nat → Int64 → Int32 → Nat × Int64 × Int32
  | 0, k, v, q => (k, v, q)
  | f + 1, k, v, q => if n ≤ k then (k, v, q) else if dgI (g k) = 0 then (k, v, q) else if v ≤ ((9223372036854775807 - ((g k - 48).toInt64)) / 10) then nuF g n f (k + 1) (v * 10 + (g k - 48).toInt64) q else nuF g n f (k + 1) v 57
theorem nuF_e {g : Nat → Int32} {n k : Nat} {v : Int64} {q : Int32} (h : n ≤ k) : nuF g n (n - k) k v q = (k, v, q) := by rw [show n - k = 0 by omega]; rfl
theorem nuF_z {g : Nat → Int32} {n k : Nat} {v : Int64} {q : Int32} (hk : ¬ n ≤ k) (h : dgI (g k) = 0) : nuF g n (n - k) k v q = (k, v, q) := by
  rw [show n - k = (n - (k + 1)) + 1 by omega]
  exact (if_neg hk).trans (if_pos h)
theorem nuF_s {g : Nat → Int32} {n k : Nat} {v : Int64} {q : Int32} (hk : ¬ n ≤ k) (h : ¬ dgI (g k) = 0) (h2 : v ≤ ((9223372036854775807 - ((g k - 48).toInt64)) / 10)) : nuF g n (n - k) k v q = nuF g n (n - (k + 1)) (k + 1) (v * 10 + (g k - 48).toInt64) q := by
  rw [show n - k = (n - (k + 1)) + 1 by omega]
  exact (if_neg hk).trans ((if_neg h).trans (if_pos h2))
theorem nuF_b {g : Nat → Int32} {n k : Nat} {v : Int64} {q : Int32} (hk : ¬ n ≤ k) (h : ¬ dgI (g k) = 0) (h2 : ¬ v ≤ ((9223372036854775807 - ((g k - 48).toInt64)) / 10)) : nuF g n (n - k) k v q = nuF g n (n - (k + 1)) (k + 1) v 57 := by
  rw [show n - k = (n - (k + 1)) + 1 by omega]
  exact (if_neg hk).trans ((if_neg h).trans (if_neg h2))
theorem dX10_scanNumber_0 : decode cX10_scanNumber 0 = .ok (.lconst 0, 1) := by decide +kernel
theorem dX10_scanNumber_1 : decode cX10_scanNumber 1 = .ok (.lstore_n 2, 1) := by decide +kernel
theorem dX10_scanNumber_2 : decode cX10_scanNumber 2 = .ok (.aload_n 0, 1) := by decide +kernel
theorem dX10_scanNumber_3 : decode cX10_scanNumber 3 = .ok (.getfield 9, 3) := by decide +kernel
theorem dX10_scanNumber_6 : decode cX10_scanNumber 6 = .ok (.iload_n 1, 1) := by decide +kernel
theorem dX10_scanNumber_7 : decode cX10_scanNumber 7 = .ok (.bipush 40, 2) := by decide +kernel
theorem dX10_scanNumber_9 : decode cX10_scanNumber 9 = .ok (.iastore, 1) := by decide +kernel
theorem dX10_scanNumber_10 : decode cX10_scanNumber 10 = .ok (.aload_n 0, 1) := by decide +kernel
theorem dX10_scanNumber_11 : decode cX10_scanNumber 11 = .ok (.getfield 57, 3) := by decide +kernel
theorem dX10_scanNumber_14 : decode cX10_scanNumber 14 = .ok (.aload_n 0, 1) := by decide +kernel
theorem dX10_scanNumber_15 : decode cX10_scanNumber 15 = .ok (.getfield 53, 3) := by decide +kernel
theorem dX10_scanNumber_18 : decode cX10_scanNumber 18 = .ok (.if_icmp .ge 80, 3) := by decide +kernel
theorem dX10_scanNumber_21 : decode cX10_scanNumber 21 = .ok (.aload_n 0, 1) := by decide +kernel
theorem dX10_scanNumber_22 : decode cX10_scanNumber 22 = .ok (.aload_n 0, 1) := by decide +kernel
theorem dX10_scanNumber_23 : decode cX10_scanNumber 23 = .ok (.getfield 57, 3) := by decide +kernel
theorem dX10_scanNumber_26 : decode cX10_scanNumber 26 = .ok (.invokevirtual 67, 3) := by decide +kernel
theorem dX10_scanNumber_29 : decode cX10_scanNumber 29 = .ok (.invokestatic 77, 3) := by decide +kernel
theorem dX10_scanNumber_32 : decode cX10_scanNumber 32 = .ok (.ifCond .eq 66, 3) := by decide +kernel
theorem dX10_scanNumber_35 : decode cX10_scanNumber 35 = .ok (.aload_n 0, 1) := by decide +kernel
theorem dX10_scanNumber_36 : decode cX10_scanNumber 36 = .ok (.aload_n 0, 1) := by decide +kernel
theorem dX10_scanNumber_37 : decode cX10_scanNumber 37 = .ok (.getfield 57, 3) := by decide +kernel
theorem dX10_scanNumber_40 : decode cX10_scanNumber 40 = .ok (.invokevirtual 67, 3) := by decide +kernel
theorem dX10_scanNumber_43 : decode cX10_scanNumber 43 = .ok (.bipush 48, 2) := by decide +kernel
theorem dX10_scanNumber_45 : decode cX10_scanNumber 45 = .ok (.isub, 1) := by decide +kernel
theorem dX10_scanNumber_46 : decode cX10_scanNumber 46 = .ok (.istore 4, 2) := by decide +kernel
theorem dX10_scanNumber_48 : decode cX10_scanNumber 48 = .ok (.lload_n 2, 1) := by decide +kernel
theorem dX10_scanNumber_49 : decode cX10_scanNumber 49 = .ok (.ldc2_w 95, 3) := by decide +kernel
theorem dX10_scanNumber_52 : decode cX10_scanNumber 52 = .ok (.iload 4, 2) := by decide +kernel
theorem dX10_scanNumber_54 : decode cX10_scanNumber 54 = .ok (.i2l, 1) := by decide +kernel
theorem dX10_scanNumber_55 : decode cX10_scanNumber 55 = .ok (.lsub, 1) := by decide +kernel
theorem dX10_scanNumber_56 : decode cX10_scanNumber 56 = .ok (.ldc2_w 97, 3) := by decide +kernel
theorem dX10_scanNumber_59 : decode cX10_scanNumber 59 = .ok (.ldiv, 1) := by decide +kernel
theorem dX10_scanNumber_60 : decode cX10_scanNumber 60 = .ok (.lcmp, 1) := by decide +kernel
theorem dX10_scanNumber_61 : decode cX10_scanNumber 61 = .ok (.ifCond .le 14, 3) := by decide +kernel
theorem dX10_scanNumber_64 : decode cX10_scanNumber 64 = .ok (.aload_n 0, 1) := by decide +kernel
theorem dX10_scanNumber_65 : decode cX10_scanNumber 65 = .ok (.getfield 9, 3) := by decide +kernel
theorem dX10_scanNumber_68 : decode cX10_scanNumber 68 = .ok (.iload_n 1, 1) := by decide +kernel
theorem dX10_scanNumber_69 : decode cX10_scanNumber 69 = .ok (.bipush 57, 2) := by decide +kernel
theorem dX10_scanNumber_71 : decode cX10_scanNumber 71 = .ok (.iastore, 1) := by decide +kernel
theorem dX10_scanNumber_72 : decode cX10_scanNumber 72 = .ok (.goto 13, 3) := by decide +kernel
theorem dX10_scanNumber_75 : decode cX10_scanNumber 75 = .ok (.lload_n 2, 1) := by decide +kernel
theorem dX10_scanNumber_76 : decode cX10_scanNumber 76 = .ok (.ldc2_w 97, 3) := by decide +kernel
theorem dX10_scanNumber_79 : decode cX10_scanNumber 79 = .ok (.lmul, 1) := by decide +kernel
theorem dX10_scanNumber_80 : decode cX10_scanNumber 80 = .ok (.iload 4, 2) := by decide +kernel
theorem dX10_scanNumber_82 : decode cX10_scanNumber 82 = .ok (.i2l, 1) := by decide +kernel
theorem dX10_scanNumber_83 : decode cX10_scanNumber 83 = .ok (.ladd, 1) := by decide +kernel
theorem dX10_scanNumber_84 : decode cX10_scanNumber 84 = .ok (.lstore_n 2, 1) := by decide +kernel
theorem dX10_scanNumber_85 : decode cX10_scanNumber 85 = .ok (.aload_n 0, 1) := by decide +kernel
theorem dX10_scanNumber_86 : decode cX10_scanNumber 86 = .ok (.dup, 1) := by decide +kernel
theorem dX10_scanNumber_87 : decode cX10_scanNumber 87 = .ok (.getfield 57, 3) := by decide +kernel
theorem dX10_scanNumber_90 : decode cX10_scanNumber 90 = .ok (.iconst 1, 1) := by decide +kernel
theorem dX10_scanNumber_91 : decode cX10_scanNumber 91 = .ok (.iadd, 1) := by decide +kernel
theorem dX10_scanNumber_92 : decode cX10_scanNumber 92 = .ok (.putfield 57, 3) := by decide +kernel
theorem dX10_scanNumber_95 : decode cX10_scanNumber 95 = .ok (.goto (-85), 3) := by decide +kernel
theorem dX10_scanNumber_98 : decode cX10_scanNumber 98 = .ok (.aload_n 0, 1) := by decide +kernel
theorem dX10_scanNumber_99 : decode cX10_scanNumber 99 = .ok (.getfield 18, 3) := by decide +kernel
theorem dX10_scanNumber_102 : decode cX10_scanNumber 102 = .ok (.iload_n 1, 1) := by decide +kernel
theorem dX10_scanNumber_103 : decode cX10_scanNumber 103 = .ok (.lload_n 2, 1) := by decide +kernel
theorem dX10_scanNumber_104 : decode cX10_scanNumber 104 = .ok (.lastore, 1) := by decide +kernel
theorem dX10_scanNumber_105 : decode cX10_scanNumber 105 = .ok (.aload_n 0, 1) := by decide +kernel
theorem dX10_scanNumber_106 : decode cX10_scanNumber 106 = .ok (.aload_n 0, 1) := by decide +kernel
theorem dX10_scanNumber_107 : decode cX10_scanNumber 107 = .ok (.getfield 57, 3) := by decide +kernel
theorem dX10_scanNumber_110 : decode cX10_scanNumber 110 = .ok (.invokevirtual 67, 3) := by decide +kernel
theorem dX10_scanNumber_113 : decode cX10_scanNumber 113 = .ok (.invokestatic 70, 3) := by decide +kernel
theorem dX10_scanNumber_116 : decode cX10_scanNumber 116 = .ok (.ifCond .eq 11, 3) := by decide +kernel
theorem dX10_scanNumber_119 : decode cX10_scanNumber 119 = .ok (.aload_n 0, 1) := by decide +kernel
theorem dX10_scanNumber_120 : decode cX10_scanNumber 120 = .ok (.getfield 9, 3) := by decide +kernel
theorem dX10_scanNumber_123 : decode cX10_scanNumber 123 = .ok (.iload_n 1, 1) := by decide +kernel
theorem dX10_scanNumber_124 : decode cX10_scanNumber 124 = .ok (.bipush 57, 2) := by decide +kernel
theorem dX10_scanNumber_126 : decode cX10_scanNumber 126 = .ok (.iastore, 1) := by decide +kernel
theorem dX10_scanNumber_127 : decode cX10_scanNumber 127 = .ok (.return_, 1) := by decide +kernel
abbrev cs_t_X10_scanNumber (cB cI cJ cZ : ClassId) (h0 hT hKi hNu hW n k0 : Nat) (g kf : Nat → Int32) (vf tk : Nat → Int64) (y1 : Value) (i : Nat) : va_W := [(h0, .inr (11, [.ref hKi, y1, .ref hNu, .ref hT, .int (nI n), .int (nI k0), .ref hW])), (hT, .inl (cB, 2000, .inl g)), (hKi, .inl (cI, 2001, .inl kf)), (hNu, .inl (cJ, 2001, .inr (.inl vf))), (hW, .inl (cJ, 39, .inr (.inl tk)))]
abbrev pc_t_X10_scanNumber (dC : Nat → ClassId) (dI : Nat → Nat → Nat) (sz : Nat) (cB cI cJ cZ : ClassId) (h0 hT hKi hNu hW n k0 : Nat) (g kf : Nat → Int32) (vf tk : Nat → Int64) (y1 : Value) (i : Nat) : Array Value → State → Prop := va_Pc [.ref h0, .int (nI i)] (fun U => U.heap.size = sz ∧ va_P (dC, dI) vwCl [(h0, .inr (11, [.ref hKi, y1, .ref hNu, .ref hT, .int (nI n), .int (nI k0), .ref hW])), (hT, .inl (cB, 2000, .inl g)), (hKi, .inl (cI, 2001, .inl kf)), (hNu, .inl (cJ, 2001, .inr (.inl vf))), (hW, .inl (cJ, 39, .inr (.inl tk)))] U.heap ∧ va_K (dC, dI) vwCl [(cB, .byte), (cI, .int), (cJ, .long), (cZ, .boolean)] U ∧ va_D (fun _ => True) [(h0, .inr (11, [.ref hKi, y1, .ref hNu, .ref hT, .int (nI n), .int (nI k0), .ref hW])), (hT, .inl (cB, 2000, .inl g)), (hKi, .inl (cI, 2001, .inl kf)), (hNu, .inl (cJ, 2001, .inr (.inl vf))), (hW, .inl (cJ, 39, .inr (.inl tk)))])
abbrev qc_t_X10_scanNumber (dC : Nat → ClassId) (dI : Nat → Nat → Nat) (cB cI cJ cZ : ClassId) (h0 hT hKi hNu hW n k0 : Nat) (g kf : Nat → Int32) (vf tk : Nat → Int64) (y1 : Value) (i : Nat) (A : Nat → Prop) : Array Value → State → Outcome → State → Prop := va_Qv (fun (u : Nat × Int64 × Int32) => match u with | (k2, v2, q2) => ∃ q : Int32, (k2, v2, q) = nuF g n (n - k0) k0 0 40 ∧ q2 = if ltI (btF g n k2) = 0 then q else 57) (fun (u : Nat × Int64 × Int32) t_ => match u with | (k2, v2, q2) => va_P (dC, dI) vwCl [(h0, .inr (11, [.ref hKi, y1, .ref hNu, .ref hT, .int (nI n), .int (nI k2), .ref hW])), (hT, .inl (cB, 2000, .inl g)), (hKi, .inl (cI, 2001, .inl (upd kf i q2))), (hNu, .inl (cJ, 2001, .inr (.inl (vp_updL vf i v2)))), (hW, .inl (cJ, 39, .inr (.inl tk)))] t_.heap ∧ va_K (dC, dI) vwCl [(cB, .byte), (cI, .int), (cJ, .long), (cZ, .boolean)] t_ ∧ va_D A [(h0, .inr (11, [.ref hKi, y1, .ref hNu, .ref hT, .int (nI n), .int (nI k2), .ref hW])), (hT, .inl (cB, 2000, .inl g)), (hKi, .inl (cI, 2001, .inl (upd kf i q2))), (hNu, .inl (cJ, 2001, .inr (.inl (vp_updL vf i v2)))), (hW, .inl (cJ, 39, .inr (.inl tk)))]) A
set_option maxHeartbeats 4000000 in
set_option maxRecDepth 100000 in
theorem t_X10_scanNumber (l : Launch) (dC : Nat → ClassId) (dI : Nat → Nat → Nat) (sz : Nat) (cB cI cJ cZ : ClassId) (h0 hT hKi hNu hW n k0 : Nat) (g kf : Nat → Int32) (vf tk : Nat → Int64) (y1 : Value) (i : Nat) (hn : n ≤ 2000) (hk0 : k0 ≤ 2001) (hi : i < 2001) : Met l yX10_scanNumber (wsOf yX10_scanNumber cX10_scanNumber 5 none) ({ frames := 2, cells := 0, slots := 0, locals := 120 }) (pc_t_X10_scanNumber dC dI sz cB cI cJ cZ h0 hT hKi hNu hW n k0 g kf vf tk y1 i) (qc_t_X10_scanNumber dC dI cB cI cJ cZ h0 hT hKi hNu hW n k0 g kf vf tk y1 i (va_A (cs_t_X10_scanNumber cB cI cJ cZ h0 hT hKi hNu hW n k0 g kf vf tk y1 i) sz)) 0 0 (va_A (cs_t_X10_scanNumber cB cI cJ cZ h0 hT hKi hNu hW n k0 g kf vf tk y1 i) sz) := by
  refine Met.ofW (cc := cX10_scanNumber) (maxL := 5) (ret := none) (by decide) rfl ?_
  intro p e s m args below meth c s₁ B hml hv
  obtain ⟨rfl, hsz, hP, hK, hD0⟩ := hv
  have hx := B.exec
  have hb := B.bytes
  have hr := B.returns
  have hts := atoms_spec (ws := (wsOf yX10_scanNumber cX10_scanNumber 5 none)) B.pre
  have hown : s.vm.findClass RX10 = some m.cls := findClass_of_methodNamed B.named
  have hlocks := B.notSynchronized
  subst hsz
  have hD := hD0.self (sz := s.heap.size)
  generalize hAe : va_A (cs_t_X10_scanNumber cB cI cJ cZ h0 hT hKi hNu hW n k0 g kf vf tk y1 i) s.heap.size = A at hD ⊢
  have hA : ∀ q : Nat, s.heap.size ≤ q → A q := fun q h => by rw [← hAe]; exact Or.inr h
  have hS : va_S A s.heap s.heap [] := va_S.rf
  have hP : va_P (dC, dI) vwCl [(h0, .inr (11, [.ref hKi, y1, .ref hNu, .ref hT, .int (nI n), .int (nI k0), .ref hW])), (hT, .inl (cB, 2000, .inl g)), (hKi, .inl (cI, 2001, .inl kf)), (hNu, .inl (cJ, 2001, .inr (.inl vf))), (hW, .inl (cJ, 39, .inr (.inl tk)))] s.heap := hP
  have hl := lv_entry ([.ref h0, .int (nI i)]) (n := 5) (Nat.le_of_ble_eq_true rfl)
  rw [lg_entry_eq]
  generalize (lg_sl ([.ref h0, .int (nI i)]) ++ List.replicate (5 - (lg_sl ([.ref h0, .int (nI i)])).length) Slot.unset).toArray = ls at hl ⊢
  have hl : lv_has ls 5 [(0, .ref h0), (1, .int (nI i))] := hl
  refine lv_lconst (v := 0) hx hb dX10_scanNumber_0 (by decide) ?_
  refine lv_lstore_n (lv' := [(2, .long 0), (0, .ref h0), (1, .int (nI i))]) hx hb dX10_scanNumber_1 rfl hl (by decide) rfl (fun ls hl => ?_)
  refine lv_aload_n hx hb dX10_scanNumber_2 rfl (lv_at hl 1 rfl) ?_
  refine va_get (D := (dC, dI)) (ci := 11) (v := .ref hKi) (C := RX10) (T := TX10) (N := 7) hx hb hts (fun w h => List.mem_cons_of_mem _ (uG_X10 w h)) hown hK hP 0 rfl rfl 0 (by decide) (hts _ (List.mem_cons_of_mem _ kw_318)) (fun _ h9 => h9) rfl dX10_scanNumber_3 ?_
  refine lv_iload_n hx hb dX10_scanNumber_6 rfl (lv_at hl 2 rfl) ?_
  refine lv_bipush (v := 40) hx hb dX10_scanNumber_7 (by decide) ?_
  refine va_iast hx hb hK hP hD hS 2 1 rfl rfl (i := (nI i)) (x := 40) (vp_in_nI (n := i) (N := 2001) (by omega) (by omega)) dX10_scanNumber_9 (fun H locs hP hD hS => ?_)
  rw [show (nI i).toNatClampNeg = i from nI_clamp (n := i) (by omega)] at hP hD
  have hP : va_P (dC, dI) vwCl [(h0, .inr (11, [.ref hKi, y1, .ref hNu, .ref hT, .int (nI n), .int (nI k0), .ref hW])), (hT, .inl (cB, 2000, .inl g)), (hKi, .inl (cI, 2001, .inl (upd kf i 40))), (hNu, .inl (cJ, 2001, .inr (.inl vf))), (hW, .inl (cJ, 39, .inr (.inl tk)))] H := hP
  have hD : va_D A [(h0, .inr (11, [.ref hKi, y1, .ref hNu, .ref hT, .int (nI n), .int (nI k0), .ref hW])), (hT, .inl (cB, 2000, .inl g)), (hKi, .inl (cI, 2001, .inl (upd kf i 40))), (hNu, .inl (cJ, 2001, .inr (.inl vf))), (hW, .inl (cJ, 39, .inr (.inl tk)))] := hD
  have lp_10 : ∀ (n_ : Nat) (k : Nat) (v : Int64) (q : Int32), k ≤ 2001 → nuF g n (n - k0) k0 0 40 = nuF g n (n - k) k v q → n - k < n_ → ∀ (H : Heap) (locs : List Loc) (ls : Array Slot), va_P (dC, dI) vwCl [(h0, .inr (11, [.ref hKi, y1, .ref hNu, .ref hT, .int (nI n), .int (nI k), .ref hW])), (hT, .inl (cB, 2000, .inl g)), (hKi, .inl (cI, 2001, .inl (upd kf i q))), (hNu, .inl (cJ, 2001, .inr (.inl vf))), (hW, .inl (cJ, 39, .inr (.inl tk)))] H → va_D A [(h0, .inr (11, [.ref hKi, y1, .ref hNu, .ref hT, .int (nI n), .int (nI k), .ref hW])), (hT, .inl (cB, 2000, .inl g)), (hKi, .inl (cI, 2001, .inl (upd kf i q))), (hNu, .inl (cJ, 2001, .inr (.inl vf))), (hW, .inl (cJ, 39, .inr (.inl tk)))] → va_S A s.heap H locs → lv_has ls 5 [(2, .long v), (0, .ref h0), (1, .int (nI i))] → W p l e (headSpec (wsOf yX10_scanNumber cX10_scanNumber 5 none) ({ frames := 2, cells := 0, slots := 0, locals := 120 })).room s m ([.ref h0, .int (nI i)] : List Value).toArray below meth c H locs 0 0 (MQ below (qc_t_X10_scanNumber dC dI cB cI cJ cZ h0 hT hKi hNu hW n k0 g kf vf tk y1 i A) ([.ref h0, .int (nI i)] : List Value).toArray s 0 0 A) (F0 m 10 ls []) := by
    intro n_
    induction n_ with
    | zero => intro k v q hk hin hm; exact absurd hm (Nat.not_lt_zero _)
    | succ n_ ih_10 =>
      intro k v q hk hin hm H locs ls hP hD hS hl
      refine lv_aload_n hx hb dX10_scanNumber_10 rfl (lv_at hl 1 rfl) ?_
      refine va_get (D := (dC, dI)) (ci := 11) (v := .int (nI k)) (C := RX10) (T := TX10) (N := 7) hx hb hts (fun w h => List.mem_cons_of_mem _ (uG_X10 w h)) hown hK hP 0 rfl rfl 5 (by decide) (hts _ (List.mem_cons_of_mem _ kw_326)) (fun _ h9 => h9) rfl dX10_scanNumber_11 ?_
      refine lv_aload_n hx hb dX10_scanNumber_14 rfl (lv_at hl 1 rfl) ?_
      refine va_get (D := (dC, dI)) (ci := 11) (v := .int (nI n)) (C := RX10) (T := TX10) (N := 7) hx hb hts (fun w h => List.mem_cons_of_mem _ (uG_X10 w h)) hown hK hP 0 rfl rfl 4 (by decide) (hts _ (List.mem_cons_of_mem _ kw_325)) (fun _ h9 => h9) rfl dX10_scanNumber_15 ?_
      refine lv_icmp_ge (tgt := 98) hx hb dX10_scanNumber_18 (by decide) (fun c_1 => ?_) (fun c_1 => ?_)
      · skip
        have c_1 : n ≤ k := (nI_leI (a := n) (b := k) (by omega) (by omega)).mp c_1
        refine lv_aload_n hx hb dX10_scanNumber_98 rfl (lv_at hl 1 rfl) ?_
        refine va_get (D := (dC, dI)) (ci := 11) (v := .ref hNu) (C := RX10) (T := TX10) (N := 7) hx hb hts (fun w h => List.mem_cons_of_mem _ (uG_X10 w h)) hown hK hP 0 rfl rfl 2 (by decide) (hts _ (List.mem_cons_of_mem _ kw_322)) (fun _ h9 => h9) rfl dX10_scanNumber_99 ?_
        refine lv_iload_n hx hb dX10_scanNumber_102 rfl (lv_at hl 2 rfl) ?_
        refine lv_lload_n hx hb dX10_scanNumber_103 rfl (lv_at hl 0 rfl) ?_
        refine va_last hx hb hK hP hD hS 3 2 rfl rfl (i := (nI i)) (x := v) (vp_in_nI (n := i) (N := 2001) (by omega) (by omega)) dX10_scanNumber_104 (fun H locs hP hD hS => ?_)
        rw [show (nI i).toNatClampNeg = i from nI_clamp (n := i) (by omega)] at hP hD
        have hP : va_P (dC, dI) vwCl [(h0, .inr (11, [.ref hKi, y1, .ref hNu, .ref hT, .int (nI n), .int (nI k), .ref hW])), (hT, .inl (cB, 2000, .inl g)), (hKi, .inl (cI, 2001, .inl (upd kf i q))), (hNu, .inl (cJ, 2001, .inr (.inl (vp_updL vf i v)))), (hW, .inl (cJ, 39, .inr (.inl tk)))] H := hP
        have hD : va_D A [(h0, .inr (11, [.ref hKi, y1, .ref hNu, .ref hT, .int (nI n), .int (nI k), .ref hW])), (hT, .inl (cB, 2000, .inl g)), (hKi, .inl (cI, 2001, .inl (upd kf i q))), (hNu, .inl (cJ, 2001, .inr (.inl (vp_updL vf i v)))), (hW, .inl (cJ, 39, .inr (.inl tk)))] := hD
        refine lv_aload_n hx hb dX10_scanNumber_105 rfl (lv_at hl 1 rfl) ?_
        refine lv_aload_n hx hb dX10_scanNumber_106 rfl (lv_at hl 1 rfl) ?_
        refine va_get (D := (dC, dI)) (ci := 11) (v := .int (nI k)) (C := RX10) (T := TX10) (N := 7) hx hb hts (fun w h => List.mem_cons_of_mem _ (uG_X10 w h)) hown hK hP 0 rfl rfl 5 (by decide) (hts _ (List.mem_cons_of_mem _ kw_326)) (fun _ h9 => h9) rfl dX10_scanNumber_107 ?_
        have hPc := hP.sub (ws' := [(h0, .inr (11, [.ref hKi, y1, .ref hNu, .ref hT, .int (nI n), .int (nI k), .ref hW])), (hT, .inl (cB, 2000, .inl g))]) [0, 1] rfl
        have hDc := hD.sub (ws' := [(h0, .inr (11, [.ref hKi, y1, .ref hNu, .ref hT, .int (nI n), .int (nI k), .ref hW])), (hT, .inl (cB, 2000, .inl g))]) [0, 1] (by decide) rfl
        have hKc := hK.sub (tys' := [(cB, .byte), (cI, .int), (cJ, .long), (cZ, .boolean)]) [0, 1, 2, 3] rfl
        have hFc := va_free (wc := [(h0, .inr (11, [.ref hKi, y1, .ref hNu, .ref hT, .int (nI n), .int (nI k), .ref hW])), (hT, .inl (cB, 2000, .inl g))]) hD hS hA [0, 1] rfl
        refine va_calli (va_runV (As := [.int (nI k)]) (rest := []) ⟨hx, hb, hml, hown, hts⟩ (t_X10_byteAt l dC dI H.size cB cI cJ cZ h0 hT n k g (.ref hKi) y1 (.ref hNu) (.ref hW) k hn (by omega)) (cwV 1 hts (gd_all (in_V kw_512 kw_514 kw_2 kw_183 kc_X10_byteAt)) rfl rfl rfl (by decide +kernel) ⟨Nat.le_of_ble_eq_true rfl, Nat.le_of_ble_eq_true rfl⟩) ⟨fun a U g mk q => by obtain ⟨q0, q1, qP, qK, qD⟩ := q; exact ⟨q0, q1, qP, va_K.moved (u := U) (U := U.calling g mk a) (Vm.Alike.refl U.vm) qK, qD⟩, va_recv hKc hPc (ci := 11) (q0 := 0) rfl rfl, fun U hU hW => ⟨rfl, by rw [hU], by rw [hU]; exact hPc, va_K.moved hW.alike hKc, hDc.weaken (fun _ _ _ _ => trivial)⟩⟩ rfl rfl hl.1 rfl (lv_room (Nat.le_of_ble_eq_true rfl)) dX10_scanNumber_110 ⟨Nat.le_of_ble_eq_true rfl, Nat.le_of_ble_eq_true rfl⟩) hS (fun q _ h => hFc q h) hFc (fun r_2 u t_ H1 locs ht hvm hw hB hz1 hk1 hS => ?_)
        obtain ⟨hP1, hK1, hD1⟩ := hB
        rw [ht] at hP1
        have hK1 := va_K.moved hvm.symm hK1
        obtain ⟨hP, hD⟩ := va_join (wr := [(hKi, .inl (cI, 2001, .inl (upd kf i q))), (hNu, .inl (cJ, 2001, .inr (.inl (vp_updL vf i v)))), (hW, .inl (cJ, 39, .inr (.inl tk)))]) (w1 := [(h0, .inr (11, [.ref hKi, y1, .ref hNu, .ref hT, .int (nI n), .int (nI k), .ref hW])), (hT, .inl (cB, 2000, .inl g))]) hP hD [0, 1] [2, 3, 4] rfl rfl (by decide) (by decide) hk1 hFc hP1 hD1
        have hK := (hK.sub (tys' := []) [] rfl).app hK1
        generalize H1 = H at hP hS ⊢
        have hP : va_P (dC, dI) vwCl [(hKi, .inl (cI, 2001, .inl (upd kf i q))), (hNu, .inl (cJ, 2001, .inr (.inl (vp_updL vf i v)))), (hW, .inl (cJ, 39, .inr (.inl tk))), (h0, .inr (11, [.ref hKi, y1, .ref hNu, .ref hT, .int (nI n), .int (nI k), .ref hW])), (hT, .inl (cB, 2000, .inl g))] H := hP
        have hD : va_D A [(hKi, .inl (cI, 2001, .inl (upd kf i q))), (hNu, .inl (cJ, 2001, .inr (.inl (vp_updL vf i v)))), (hW, .inl (cJ, 39, .inr (.inl tk))), (h0, .inr (11, [.ref hKi, y1, .ref hNu, .ref hT, .int (nI n), .int (nI k), .ref hW])), (hT, .inl (cB, 2000, .inl g))] := hD
        have hK : va_K (dC, dI) vwCl [(cB, .byte), (cI, .int), (cJ, .long), (cZ, .boolean)] s := hK
        have er_2 : r_2 = btF g n k := hw
        rw [er_2]
        have hPc := hP.sub (ws' := []) [] rfl
        have hDc := hD.sub (ws' := []) [] (by decide) rfl
        have hKc := hK.sub (tys' := [(cB, .byte), (cI, .int), (cJ, .long), (cZ, .boolean)]) [0, 1, 2, 3] rfl
        have hFc := va_free (wc := []) hD hS hA [] rfl
        refine va_calli (va_runS (As := [.int (btF g n k)]) (rest := []) ⟨hx, hb, hml, hown, hts⟩ (t_X10_isLetter l dC dI H.size cB cI cJ cZ (btF g n k)) ⟨callB_of 1 hts (gd_all (in_I kc_X10_isLetter)) rfl rfl rfl (hts _ (List.mem_cons_of_mem _ kw_183)) (hts _ (List.mem_cons_of_mem _ kw_523)) (by decide +kernel) ⟨Nat.le_of_ble_eq_true rfl, Nat.le_of_ble_eq_true rfl⟩, hts _ (List.mem_cons_of_mem _ kw_524)⟩ ⟨fun a U g mk q => by obtain ⟨q0, q1, qP, qK, qD⟩ := q; exact ⟨q0, q1, qP, va_K.moved (u := U) (U := U.calling g mk a) (Vm.Alike.refl U.vm) qK, qD⟩, fun U hU hW => ⟨rfl, by rw [hU], by rw [hU]; exact hPc, va_K.moved hW.alike hKc, hDc.weaken (fun _ _ _ _ => trivial)⟩⟩ rfl rfl hl.1 rfl (lv_room (Nat.le_of_ble_eq_true rfl)) dX10_scanNumber_113 ⟨Nat.le_of_ble_eq_true rfl, Nat.le_of_ble_eq_true rfl⟩) hS (fun q _ h => hFc q h) hFc (fun r_3 u t_ H1 locs ht hvm hw hB hz1 hk1 hS => ?_)
        obtain ⟨hP1, hK1, hD1⟩ := hB
        rw [ht] at hP1
        have hK1 := va_K.moved hvm.symm hK1
        obtain ⟨hP, hD⟩ := va_join (wr := [(hKi, .inl (cI, 2001, .inl (upd kf i q))), (hNu, .inl (cJ, 2001, .inr (.inl (vp_updL vf i v)))), (hW, .inl (cJ, 39, .inr (.inl tk))), (h0, .inr (11, [.ref hKi, y1, .ref hNu, .ref hT, .int (nI n), .int (nI k), .ref hW])), (hT, .inl (cB, 2000, .inl g))]) (w1 := []) hP hD [] [0, 1, 2, 3, 4] rfl rfl (by decide) (by decide) hk1 hFc hP1 hD1
        have hK := (hK.sub (tys' := []) [] rfl).app hK1
        generalize H1 = H at hP hS ⊢
        have hP : va_P (dC, dI) vwCl [(hKi, .inl (cI, 2001, .inl (upd kf i q))), (hNu, .inl (cJ, 2001, .inr (.inl (vp_updL vf i v)))), (hW, .inl (cJ, 39, .inr (.inl tk))), (h0, .inr (11, [.ref hKi, y1, .ref hNu, .ref hT, .int (nI n), .int (nI k), .ref hW])), (hT, .inl (cB, 2000, .inl g))] H := hP
        have hD : va_D A [(hKi, .inl (cI, 2001, .inl (upd kf i q))), (hNu, .inl (cJ, 2001, .inr (.inl (vp_updL vf i v)))), (hW, .inl (cJ, 39, .inr (.inl tk))), (h0, .inr (11, [.ref hKi, y1, .ref hNu, .ref hT, .int (nI n), .int (nI k), .ref hW])), (hT, .inl (cB, 2000, .inl g))] := hD
        have hK : va_K (dC, dI) vwCl [(cB, .byte), (cI, .int), (cJ, .long), (cZ, .boolean)] s := hK
        have er_3 : r_3 = ltI (btF g n k) := hw
        rw [er_3]
        refine lv_if_eq (tgt := 127) hx hb dX10_scanNumber_116 (by decide) (fun c_4 => ?_) (fun c_4 => ?_)
        · skip
          have hP9 := hP.sub (ws' := [(h0, .inr (11, [.ref hKi, y1, .ref hNu, .ref hT, .int (nI n), .int (nI k), .ref hW])), (hT, .inl (cB, 2000, .inl g)), (hKi, .inl (cI, 2001, .inl (upd kf i q))), (hNu, .inl (cJ, 2001, .inr (.inl (vp_updL vf i v)))), (hW, .inl (cJ, 39, .inr (.inl tk)))]) [3, 4, 0, 1, 2] rfl
          have hD9 := hD.sub (ws' := [(h0, .inr (11, [.ref hKi, y1, .ref hNu, .ref hT, .int (nI n), .int (nI k), .ref hW])), (hT, .inl (cB, 2000, .inl g)), (hKi, .inl (cI, 2001, .inl (upd kf i q))), (hNu, .inl (cJ, 2001, .inr (.inl (vp_updL vf i v)))), (hW, .inl (cJ, 39, .inr (.inl tk)))]) [3, 4, 0, 1, 2] (by decide) rfl
          have hK9 := hK.sub (tys' := [(cB, .byte), (cI, .int), (cJ, .long), (cZ, .boolean)]) [0, 1, 2, 3] rfl
          exact W.vret hx hb hr (fun t_ ht hW => ⟨⟨(k, v, q), rfl, ⟨q, (hin.trans (nuF_e c_1)).symm, (if_pos c_4).symm⟩, by rw [ht]; exact hP9, va_K.moved hW.alike hK9, hD9⟩, hS.F ht⟩) hS.2.2 dX10_scanNumber_127
        · skip
          refine lv_aload_n hx hb dX10_scanNumber_119 rfl (lv_at hl 1 rfl) ?_
          refine va_get (D := (dC, dI)) (ci := 11) (v := .ref hKi) (C := RX10) (T := TX10) (N := 7) hx hb hts (fun w h => List.mem_cons_of_mem _ (uG_X10 w h)) hown hK hP 3 rfl rfl 0 (by decide) (hts _ (List.mem_cons_of_mem _ kw_318)) (fun _ h9 => h9) rfl dX10_scanNumber_120 ?_
          refine lv_iload_n hx hb dX10_scanNumber_123 rfl (lv_at hl 2 rfl) ?_
          refine lv_bipush (v := 57) hx hb dX10_scanNumber_124 (by decide) ?_
          refine va_iast hx hb hK hP hD hS 0 1 rfl rfl (i := (nI i)) (x := 57) (vp_in_nI (n := i) (N := 2001) (by omega) (by omega)) dX10_scanNumber_126 (fun H locs hP hD hS => ?_)
          rw [show (nI i).toNatClampNeg = i from nI_clamp (n := i) (by omega)] at hP hD
          have hP : va_P (dC, dI) vwCl [(hKi, .inl (cI, 2001, .inl (upd (upd kf i q) i 57))), (hNu, .inl (cJ, 2001, .inr (.inl (vp_updL vf i v)))), (hW, .inl (cJ, 39, .inr (.inl tk))), (h0, .inr (11, [.ref hKi, y1, .ref hNu, .ref hT, .int (nI n), .int (nI k), .ref hW])), (hT, .inl (cB, 2000, .inl g))] H := hP
          have hD : va_D A [(hKi, .inl (cI, 2001, .inl (upd (upd kf i q) i 57))), (hNu, .inl (cJ, 2001, .inr (.inl (vp_updL vf i v)))), (hW, .inl (cJ, 39, .inr (.inl tk))), (h0, .inr (11, [.ref hKi, y1, .ref hNu, .ref hT, .int (nI n), .int (nI k), .ref hW])), (hT, .inl (cB, 2000, .inl g))] := hD
          rw [updd] at hP hD
          have hP : va_P (dC, dI) vwCl [(hKi, .inl (cI, 2001, .inl (upd kf i 57))), (hNu, .inl (cJ, 2001, .inr (.inl (vp_updL vf i v)))), (hW, .inl (cJ, 39, .inr (.inl tk))), (h0, .inr (11, [.ref hKi, y1, .ref hNu, .ref hT, .int (nI n), .int (nI k), .ref hW])), (hT, .inl (cB, 2000, .inl g))] H := hP
          have hD : va_D A [(hKi, .inl (cI, 2001, .inl (upd kf i 57))), (hNu, .inl (cJ, 2001, .inr (.inl (vp_updL vf i v)))), (hW, .inl (cJ, 39, .inr (.inl tk))), (h0, .inr (11, [.ref hKi, y1, .ref hNu, .ref hT, .int (nI n), .int (nI k), .ref hW])), (hT, .inl (cB, 2000, .inl g))] := hD
          have hP9 := hP.sub (ws' := [(h0, .inr (11, [.ref hKi, y1, .ref hNu, .ref hT, .int (nI n), .int (nI k), .ref hW])), (hT, .inl (cB, 2000, .inl g)), (hKi, .inl (cI, 2001, .inl (upd kf i 57))), (hNu, .inl (cJ, 2001, .inr (.inl (vp_updL vf i v)))), (hW, .inl (cJ, 39, .inr (.inl tk)))]) [3, 4, 0, 1, 2] rfl
          have hD9 := hD.sub (ws' := [(h0, .inr (11, [.ref hKi, y1, .ref hNu, .ref hT, .int (nI n), .int (nI k), .ref hW])), (hT, .inl (cB, 2000, .inl g)), (hKi, .inl (cI, 2001, .inl (upd kf i 57))), (hNu, .inl (cJ, 2001, .inr (.inl (vp_updL vf i v)))), (hW, .inl (cJ, 39, .inr (.inl tk)))]) [3, 4, 0, 1, 2] (by decide) rfl
          have hK9 := hK.sub (tys' := [(cB, .byte), (cI, .int), (cJ, .long), (cZ, .boolean)]) [0, 1, 2, 3] rfl
          exact W.vret hx hb hr (fun t_ ht hW => ⟨⟨(k, v, 57), rfl, ⟨q, (hin.trans (nuF_e c_1)).symm, (if_neg c_4).symm⟩, by rw [ht]; exact hP9, va_K.moved hW.alike hK9, hD9⟩, hS.F ht⟩) hS.2.2 dX10_scanNumber_127
      · skip
        have c_1 : ¬ (n ≤ k) := fun h => c_1 ((nI_leI (a := n) (b := k) (by omega) (by omega)).mpr h)
        refine lv_aload_n hx hb dX10_scanNumber_21 rfl (lv_at hl 1 rfl) ?_
        refine lv_aload_n hx hb dX10_scanNumber_22 rfl (lv_at hl 1 rfl) ?_
        refine va_get (D := (dC, dI)) (ci := 11) (v := .int (nI k)) (C := RX10) (T := TX10) (N := 7) hx hb hts (fun w h => List.mem_cons_of_mem _ (uG_X10 w h)) hown hK hP 0 rfl rfl 5 (by decide) (hts _ (List.mem_cons_of_mem _ kw_326)) (fun _ h9 => h9) rfl dX10_scanNumber_23 ?_
        have hPc := hP.sub (ws' := [(h0, .inr (11, [.ref hKi, y1, .ref hNu, .ref hT, .int (nI n), .int (nI k), .ref hW])), (hT, .inl (cB, 2000, .inl g))]) [0, 1] rfl
        have hDc := hD.sub (ws' := [(h0, .inr (11, [.ref hKi, y1, .ref hNu, .ref hT, .int (nI n), .int (nI k), .ref hW])), (hT, .inl (cB, 2000, .inl g))]) [0, 1] (by decide) rfl
        have hKc := hK.sub (tys' := [(cB, .byte), (cI, .int), (cJ, .long), (cZ, .boolean)]) [0, 1, 2, 3] rfl
        have hFc := va_free (wc := [(h0, .inr (11, [.ref hKi, y1, .ref hNu, .ref hT, .int (nI n), .int (nI k), .ref hW])), (hT, .inl (cB, 2000, .inl g))]) hD hS hA [0, 1] rfl
        refine va_calli (va_runV (As := [.int (nI k)]) (rest := []) ⟨hx, hb, hml, hown, hts⟩ (t_X10_byteAt l dC dI H.size cB cI cJ cZ h0 hT n k g (.ref hKi) y1 (.ref hNu) (.ref hW) k hn (by omega)) (cwV 1 hts (gd_all (in_V kw_512 kw_514 kw_2 kw_183 kc_X10_byteAt)) rfl rfl rfl (by decide +kernel) ⟨Nat.le_of_ble_eq_true rfl, Nat.le_of_ble_eq_true rfl⟩) ⟨fun a U g mk q => by obtain ⟨q0, q1, qP, qK, qD⟩ := q; exact ⟨q0, q1, qP, va_K.moved (u := U) (U := U.calling g mk a) (Vm.Alike.refl U.vm) qK, qD⟩, va_recv hKc hPc (ci := 11) (q0 := 0) rfl rfl, fun U hU hW => ⟨rfl, by rw [hU], by rw [hU]; exact hPc, va_K.moved hW.alike hKc, hDc.weaken (fun _ _ _ _ => trivial)⟩⟩ rfl rfl hl.1 rfl (lv_room (Nat.le_of_ble_eq_true rfl)) dX10_scanNumber_26 ⟨Nat.le_of_ble_eq_true rfl, Nat.le_of_ble_eq_true rfl⟩) hS (fun q _ h => hFc q h) hFc (fun r_5 u t_ H1 locs ht hvm hw hB hz1 hk1 hS => ?_)
        obtain ⟨hP1, hK1, hD1⟩ := hB
        rw [ht] at hP1
        have hK1 := va_K.moved hvm.symm hK1
        obtain ⟨hP, hD⟩ := va_join (wr := [(hKi, .inl (cI, 2001, .inl (upd kf i q))), (hNu, .inl (cJ, 2001, .inr (.inl vf))), (hW, .inl (cJ, 39, .inr (.inl tk)))]) (w1 := [(h0, .inr (11, [.ref hKi, y1, .ref hNu, .ref hT, .int (nI n), .int (nI k), .ref hW])), (hT, .inl (cB, 2000, .inl g))]) hP hD [0, 1] [2, 3, 4] rfl rfl (by decide) (by decide) hk1 hFc hP1 hD1
        have hK := (hK.sub (tys' := []) [] rfl).app hK1
        generalize H1 = H at hP hS ⊢
        have hP : va_P (dC, dI) vwCl [(hKi, .inl (cI, 2001, .inl (upd kf i q))), (hNu, .inl (cJ, 2001, .inr (.inl vf))), (hW, .inl (cJ, 39, .inr (.inl tk))), (h0, .inr (11, [.ref hKi, y1, .ref hNu, .ref hT, .int (nI n), .int (nI k), .ref hW])), (hT, .inl (cB, 2000, .inl g))] H := hP
        have hD : va_D A [(hKi, .inl (cI, 2001, .inl (upd kf i q))), (hNu, .inl (cJ, 2001, .inr (.inl vf))), (hW, .inl (cJ, 39, .inr (.inl tk))), (h0, .inr (11, [.ref hKi, y1, .ref hNu, .ref hT, .int (nI n), .int (nI k), .ref hW])), (hT, .inl (cB, 2000, .inl g))] := hD
        have hK : va_K (dC, dI) vwCl [(cB, .byte), (cI, .int), (cJ, .long), (cZ, .boolean)] s := hK
        have er_5 : r_5 = g k := hw.trans (if_neg c_1)
        rw [er_5]
        have hPc := hP.sub (ws' := []) [] rfl
        have hDc := hD.sub (ws' := []) [] (by decide) rfl
        have hKc := hK.sub (tys' := [(cB, .byte), (cI, .int), (cJ, .long), (cZ, .boolean)]) [0, 1, 2, 3] rfl
        have hFc := va_free (wc := []) hD hS hA [] rfl
        refine va_calli (va_runS (As := [.int (g k)]) (rest := []) ⟨hx, hb, hml, hown, hts⟩ (t_X10_isDigit l dC dI H.size cB cI cJ cZ (g k)) ⟨callB_of 1 hts (gd_all (in_I kc_X10_isDigit)) rfl rfl rfl (hts _ (List.mem_cons_of_mem _ kw_183)) (hts _ (List.mem_cons_of_mem _ kw_315)) (by decide +kernel) ⟨Nat.le_of_ble_eq_true rfl, Nat.le_of_ble_eq_true rfl⟩, hts _ (List.mem_cons_of_mem _ kw_316)⟩ ⟨fun a U g mk q => by obtain ⟨q0, q1, qP, qK, qD⟩ := q; exact ⟨q0, q1, qP, va_K.moved (u := U) (U := U.calling g mk a) (Vm.Alike.refl U.vm) qK, qD⟩, fun U hU hW => ⟨rfl, by rw [hU], by rw [hU]; exact hPc, va_K.moved hW.alike hKc, hDc.weaken (fun _ _ _ _ => trivial)⟩⟩ rfl rfl hl.1 rfl (lv_room (Nat.le_of_ble_eq_true rfl)) dX10_scanNumber_29 ⟨Nat.le_of_ble_eq_true rfl, Nat.le_of_ble_eq_true rfl⟩) hS (fun q _ h => hFc q h) hFc (fun r_6 u t_ H1 locs ht hvm hw hB hz1 hk1 hS => ?_)
        obtain ⟨hP1, hK1, hD1⟩ := hB
        rw [ht] at hP1
        have hK1 := va_K.moved hvm.symm hK1
        obtain ⟨hP, hD⟩ := va_join (wr := [(hKi, .inl (cI, 2001, .inl (upd kf i q))), (hNu, .inl (cJ, 2001, .inr (.inl vf))), (hW, .inl (cJ, 39, .inr (.inl tk))), (h0, .inr (11, [.ref hKi, y1, .ref hNu, .ref hT, .int (nI n), .int (nI k), .ref hW])), (hT, .inl (cB, 2000, .inl g))]) (w1 := []) hP hD [] [0, 1, 2, 3, 4] rfl rfl (by decide) (by decide) hk1 hFc hP1 hD1
        have hK := (hK.sub (tys' := []) [] rfl).app hK1
        generalize H1 = H at hP hS ⊢
        have hP : va_P (dC, dI) vwCl [(hKi, .inl (cI, 2001, .inl (upd kf i q))), (hNu, .inl (cJ, 2001, .inr (.inl vf))), (hW, .inl (cJ, 39, .inr (.inl tk))), (h0, .inr (11, [.ref hKi, y1, .ref hNu, .ref hT, .int (nI n), .int (nI k), .ref hW])), (hT, .inl (cB, 2000, .inl g))] H := hP
        have hD : va_D A [(hKi, .inl (cI, 2001, .inl (upd kf i q))), (hNu, .inl (cJ, 2001, .inr (.inl vf))), (hW, .inl (cJ, 39, .inr (.inl tk))), (h0, .inr (11, [.ref hKi, y1, .ref hNu, .ref hT, .int (nI n), .int (nI k), .ref hW])), (hT, .inl (cB, 2000, .inl g))] := hD
        have hK : va_K (dC, dI) vwCl [(cB, .byte), (cI, .int), (cJ, .long), (cZ, .boolean)] s := hK
        have er_6 : r_6 = dgI (g k) := hw
        rw [er_6]
        refine lv_if_eq (tgt := 98) hx hb dX10_scanNumber_32 (by decide) (fun c_7 => ?_) (fun c_7 => ?_)
        · skip
          refine lv_aload_n hx hb dX10_scanNumber_98 rfl (lv_at hl 1 rfl) ?_
          refine va_get (D := (dC, dI)) (ci := 11) (v := .ref hNu) (C := RX10) (T := TX10) (N := 7) hx hb hts (fun w h => List.mem_cons_of_mem _ (uG_X10 w h)) hown hK hP 3 rfl rfl 2 (by decide) (hts _ (List.mem_cons_of_mem _ kw_322)) (fun _ h9 => h9) rfl dX10_scanNumber_99 ?_
          refine lv_iload_n hx hb dX10_scanNumber_102 rfl (lv_at hl 2 rfl) ?_
          refine lv_lload_n hx hb dX10_scanNumber_103 rfl (lv_at hl 0 rfl) ?_
          refine va_last hx hb hK hP hD hS 1 2 rfl rfl (i := (nI i)) (x := v) (vp_in_nI (n := i) (N := 2001) (by omega) (by omega)) dX10_scanNumber_104 (fun H locs hP hD hS => ?_)
          rw [show (nI i).toNatClampNeg = i from nI_clamp (n := i) (by omega)] at hP hD
          have hP : va_P (dC, dI) vwCl [(hKi, .inl (cI, 2001, .inl (upd kf i q))), (hNu, .inl (cJ, 2001, .inr (.inl (vp_updL vf i v)))), (hW, .inl (cJ, 39, .inr (.inl tk))), (h0, .inr (11, [.ref hKi, y1, .ref hNu, .ref hT, .int (nI n), .int (nI k), .ref hW])), (hT, .inl (cB, 2000, .inl g))] H := hP
          have hD : va_D A [(hKi, .inl (cI, 2001, .inl (upd kf i q))), (hNu, .inl (cJ, 2001, .inr (.inl (vp_updL vf i v)))), (hW, .inl (cJ, 39, .inr (.inl tk))), (h0, .inr (11, [.ref hKi, y1, .ref hNu, .ref hT, .int (nI n), .int (nI k), .ref hW])), (hT, .inl (cB, 2000, .inl g))] := hD
          refine lv_aload_n hx hb dX10_scanNumber_105 rfl (lv_at hl 1 rfl) ?_
          refine lv_aload_n hx hb dX10_scanNumber_106 rfl (lv_at hl 1 rfl) ?_
          refine va_get (D := (dC, dI)) (ci := 11) (v := .int (nI k)) (C := RX10) (T := TX10) (N := 7) hx hb hts (fun w h => List.mem_cons_of_mem _ (uG_X10 w h)) hown hK hP 3 rfl rfl 5 (by decide) (hts _ (List.mem_cons_of_mem _ kw_326)) (fun _ h9 => h9) rfl dX10_scanNumber_107 ?_
          have hPc := hP.sub (ws' := [(h0, .inr (11, [.ref hKi, y1, .ref hNu, .ref hT, .int (nI n), .int (nI k), .ref hW])), (hT, .inl (cB, 2000, .inl g))]) [3, 4] rfl
          have hDc := hD.sub (ws' := [(h0, .inr (11, [.ref hKi, y1, .ref hNu, .ref hT, .int (nI n), .int (nI k), .ref hW])), (hT, .inl (cB, 2000, .inl g))]) [3, 4] (by decide) rfl
          have hKc := hK.sub (tys' := [(cB, .byte), (cI, .int), (cJ, .long), (cZ, .boolean)]) [0, 1, 2, 3] rfl
          have hFc := va_free (wc := [(h0, .inr (11, [.ref hKi, y1, .ref hNu, .ref hT, .int (nI n), .int (nI k), .ref hW])), (hT, .inl (cB, 2000, .inl g))]) hD hS hA [3, 4] rfl
          refine va_calli (va_runV (As := [.int (nI k)]) (rest := []) ⟨hx, hb, hml, hown, hts⟩ (t_X10_byteAt l dC dI H.size cB cI cJ cZ h0 hT n k g (.ref hKi) y1 (.ref hNu) (.ref hW) k hn (by omega)) (cwV 1 hts (gd_all (in_V kw_512 kw_514 kw_2 kw_183 kc_X10_byteAt)) rfl rfl rfl (by decide +kernel) ⟨Nat.le_of_ble_eq_true rfl, Nat.le_of_ble_eq_true rfl⟩) ⟨fun a U g mk q => by obtain ⟨q0, q1, qP, qK, qD⟩ := q; exact ⟨q0, q1, qP, va_K.moved (u := U) (U := U.calling g mk a) (Vm.Alike.refl U.vm) qK, qD⟩, va_recv hKc hPc (ci := 11) (q0 := 0) rfl rfl, fun U hU hW => ⟨rfl, by rw [hU], by rw [hU]; exact hPc, va_K.moved hW.alike hKc, hDc.weaken (fun _ _ _ _ => trivial)⟩⟩ rfl rfl hl.1 rfl (lv_room (Nat.le_of_ble_eq_true rfl)) dX10_scanNumber_110 ⟨Nat.le_of_ble_eq_true rfl, Nat.le_of_ble_eq_true rfl⟩) hS (fun q _ h => hFc q h) hFc (fun r_8 u t_ H1 locs ht hvm hw hB hz1 hk1 hS => ?_)
          obtain ⟨hP1, hK1, hD1⟩ := hB
          rw [ht] at hP1
          have hK1 := va_K.moved hvm.symm hK1
          obtain ⟨hP, hD⟩ := va_join (wr := [(hKi, .inl (cI, 2001, .inl (upd kf i q))), (hNu, .inl (cJ, 2001, .inr (.inl (vp_updL vf i v)))), (hW, .inl (cJ, 39, .inr (.inl tk)))]) (w1 := [(h0, .inr (11, [.ref hKi, y1, .ref hNu, .ref hT, .int (nI n), .int (nI k), .ref hW])), (hT, .inl (cB, 2000, .inl g))]) hP hD [3, 4] [0, 1, 2] rfl rfl (by decide) (by decide) hk1 hFc hP1 hD1
          have hK := (hK.sub (tys' := []) [] rfl).app hK1
          generalize H1 = H at hP hS ⊢
          have hP : va_P (dC, dI) vwCl [(hKi, .inl (cI, 2001, .inl (upd kf i q))), (hNu, .inl (cJ, 2001, .inr (.inl (vp_updL vf i v)))), (hW, .inl (cJ, 39, .inr (.inl tk))), (h0, .inr (11, [.ref hKi, y1, .ref hNu, .ref hT, .int (nI n), .int (nI k), .ref hW])), (hT, .inl (cB, 2000, .inl g))] H := hP
          have hD : va_D A [(hKi, .inl (cI, 2001, .inl (upd kf i q))), (hNu, .inl (cJ, 2001, .inr (.inl (vp_updL vf i v)))), (hW, .inl (cJ, 39, .inr (.inl tk))), (h0, .inr (11, [.ref hKi, y1, .ref hNu, .ref hT, .int (nI n), .int (nI k), .ref hW])), (hT, .inl (cB, 2000, .inl g))] := hD
          have hK : va_K (dC, dI) vwCl [(cB, .byte), (cI, .int), (cJ, .long), (cZ, .boolean)] s := hK
          have er_8 : r_8 = btF g n k := hw
          rw [er_8]
          have hPc := hP.sub (ws' := []) [] rfl
          have hDc := hD.sub (ws' := []) [] (by decide) rfl
          have hKc := hK.sub (tys' := [(cB, .byte), (cI, .int), (cJ, .long), (cZ, .boolean)]) [0, 1, 2, 3] rfl
          have hFc := va_free (wc := []) hD hS hA [] rfl
          refine va_calli (va_runS (As := [.int (btF g n k)]) (rest := []) ⟨hx, hb, hml, hown, hts⟩ (t_X10_isLetter l dC dI H.size cB cI cJ cZ (btF g n k)) ⟨callB_of 1 hts (gd_all (in_I kc_X10_isLetter)) rfl rfl rfl (hts _ (List.mem_cons_of_mem _ kw_183)) (hts _ (List.mem_cons_of_mem _ kw_523)) (by decide +kernel) ⟨Nat.le_of_ble_eq_true rfl, Nat.le_of_ble_eq_true rfl⟩, hts _ (List.mem_cons_of_mem _ kw_524)⟩ ⟨fun a U g mk q => by obtain ⟨q0, q1, qP, qK, qD⟩ := q; exact ⟨q0, q1, qP, va_K.moved (u := U) (U := U.calling g mk a) (Vm.Alike.refl U.vm) qK, qD⟩, fun U hU hW => ⟨rfl, by rw [hU], by rw [hU]; exact hPc, va_K.moved hW.alike hKc, hDc.weaken (fun _ _ _ _ => trivial)⟩⟩ rfl rfl hl.1 rfl (lv_room (Nat.le_of_ble_eq_true rfl)) dX10_scanNumber_113 ⟨Nat.le_of_ble_eq_true rfl, Nat.le_of_ble_eq_true rfl⟩) hS (fun q _ h => hFc q h) hFc (fun r_9 u t_ H1 locs ht hvm hw hB hz1 hk1 hS => ?_)
          obtain ⟨hP1, hK1, hD1⟩ := hB
          rw [ht] at hP1
          have hK1 := va_K.moved hvm.symm hK1
          obtain ⟨hP, hD⟩ := va_join (wr := [(hKi, .inl (cI, 2001, .inl (upd kf i q))), (hNu, .inl (cJ, 2001, .inr (.inl (vp_updL vf i v)))), (hW, .inl (cJ, 39, .inr (.inl tk))), (h0, .inr (11, [.ref hKi, y1, .ref hNu, .ref hT, .int (nI n), .int (nI k), .ref hW])), (hT, .inl (cB, 2000, .inl g))]) (w1 := []) hP hD [] [0, 1, 2, 3, 4] rfl rfl (by decide) (by decide) hk1 hFc hP1 hD1
          have hK := (hK.sub (tys' := []) [] rfl).app hK1
          generalize H1 = H at hP hS ⊢
          have hP : va_P (dC, dI) vwCl [(hKi, .inl (cI, 2001, .inl (upd kf i q))), (hNu, .inl (cJ, 2001, .inr (.inl (vp_updL vf i v)))), (hW, .inl (cJ, 39, .inr (.inl tk))), (h0, .inr (11, [.ref hKi, y1, .ref hNu, .ref hT, .int (nI n), .int (nI k), .ref hW])), (hT, .inl (cB, 2000, .inl g))] H := hP
          have hD : va_D A [(hKi, .inl (cI, 2001, .inl (upd kf i q))), (hNu, .inl (cJ, 2001, .inr (.inl (vp_updL vf i v)))), (hW, .inl (cJ, 39, .inr (.inl tk))), (h0, .inr (11, [.ref hKi, y1, .ref hNu, .ref hT, .int (nI n), .int (nI k), .ref hW])), (hT, .inl (cB, 2000, .inl g))] := hD
          have hK : va_K (dC, dI) vwCl [(cB, .byte), (cI, .int), (cJ, .long), (cZ, .boolean)] s := hK
          have er_9 : r_9 = ltI (btF g n k) := hw
          rw [er_9]
          refine lv_if_eq (tgt := 127) hx hb dX10_scanNumber_116 (by decide) (fun c_10 => ?_) (fun c_10 => ?_)
          · skip
            have hP9 := hP.sub (ws' := [(h0, .inr (11, [.ref hKi, y1, .ref hNu, .ref hT, .int (nI n), .int (nI k), .ref hW])), (hT, .inl (cB, 2000, .inl g)), (hKi, .inl (cI, 2001, .inl (upd kf i q))), (hNu, .inl (cJ, 2001, .inr (.inl (vp_updL vf i v)))), (hW, .inl (cJ, 39, .inr (.inl tk)))]) [3, 4, 0, 1, 2] rfl
            have hD9 := hD.sub (ws' := [(h0, .inr (11, [.ref hKi, y1, .ref hNu, .ref hT, .int (nI n), .int (nI k), .ref hW])), (hT, .inl (cB, 2000, .inl g)), (hKi, .inl (cI, 2001, .inl (upd kf i q))), (hNu, .inl (cJ, 2001, .inr (.inl (vp_updL vf i v)))), (hW, .inl (cJ, 39, .inr (.inl tk)))]) [3, 4, 0, 1, 2] (by decide) rfl
            have hK9 := hK.sub (tys' := [(cB, .byte), (cI, .int), (cJ, .long), (cZ, .boolean)]) [0, 1, 2, 3] rfl
            exact W.vret hx hb hr (fun t_ ht hW => ⟨⟨(k, v, q), rfl, ⟨q, (hin.trans (nuF_z c_1 c_7)).symm, (if_pos c_10).symm⟩, by rw [ht]; exact hP9, va_K.moved hW.alike hK9, hD9⟩, hS.F ht⟩) hS.2.2 dX10_scanNumber_127
          · skip
            refine lv_aload_n hx hb dX10_scanNumber_119 rfl (lv_at hl 1 rfl) ?_
            refine va_get (D := (dC, dI)) (ci := 11) (v := .ref hKi) (C := RX10) (T := TX10) (N := 7) hx hb hts (fun w h => List.mem_cons_of_mem _ (uG_X10 w h)) hown hK hP 3 rfl rfl 0 (by decide) (hts _ (List.mem_cons_of_mem _ kw_318)) (fun _ h9 => h9) rfl dX10_scanNumber_120 ?_
            refine lv_iload_n hx hb dX10_scanNumber_123 rfl (lv_at hl 2 rfl) ?_
            refine lv_bipush (v := 57) hx hb dX10_scanNumber_124 (by decide) ?_
            refine va_iast hx hb hK hP hD hS 0 1 rfl rfl (i := (nI i)) (x := 57) (vp_in_nI (n := i) (N := 2001) (by omega) (by omega)) dX10_scanNumber_126 (fun H locs hP hD hS => ?_)
            rw [show (nI i).toNatClampNeg = i from nI_clamp (n := i) (by omega)] at hP hD
            have hP : va_P (dC, dI) vwCl [(hKi, .inl (cI, 2001, .inl (upd (upd kf i q) i 57))), (hNu, .inl (cJ, 2001, .inr (.inl (vp_updL vf i v)))), (hW, .inl (cJ, 39, .inr (.inl tk))), (h0, .inr (11, [.ref hKi, y1, .ref hNu, .ref hT, .int (nI n), .int (nI k), .ref hW])), (hT, .inl (cB, 2000, .inl g))] H := hP
            have hD : va_D A [(hKi, .inl (cI, 2001, .inl (upd (upd kf i q) i 57))), (hNu, .inl (cJ, 2001, .inr (.inl (vp_updL vf i v)))), (hW, .inl (cJ, 39, .inr (.inl tk))), (h0, .inr (11, [.ref hKi, y1, .ref hNu, .ref hT, .int (nI n), .int (nI k), .ref hW])), (hT, .inl (cB, 2000, .inl g))] := hD
            rw [updd] at hP hD
            have hP : va_P (dC, dI) vwCl [(hKi, .inl (cI, 2001, .inl (upd kf i 57))), (hNu, .inl (cJ, 2001, .inr (.inl (vp_updL vf i v)))), (hW, .inl (cJ, 39, .inr (.inl tk))), (h0, .inr (11, [.ref hKi, y1, .ref hNu, .ref hT, .int (nI n), .int (nI k), .ref hW])), (hT, .inl (cB, 2000, .inl g))] H := hP
            have hD : va_D A [(hKi, .inl (cI, 2001, .inl (upd kf i 57))), (hNu, .inl (cJ, 2001, .inr (.inl (vp_updL vf i v)))), (hW, .inl (cJ, 39, .inr (.inl tk))), (h0, .inr (11, [.ref hKi, y1, .ref hNu, .ref hT, .int (nI n), .int (nI k), .ref hW])), (hT, .inl (cB, 2000, .inl g))] := hD
            have hP9 := hP.sub (ws' := [(h0, .inr (11, [.ref hKi, y1, .ref hNu, .ref hT, .int (nI n), .int (nI k), .ref hW])), (hT, .inl (cB, 2000, .inl g)), (hKi, .inl (cI, 2001, .inl (upd kf i 57))), (hNu, .inl (cJ, 2001, .inr (.inl (vp_updL vf i v)))), (hW, .inl (cJ, 39, .inr (.inl tk)))]) [3, 4, 0, 1, 2] rfl
            have hD9 := hD.sub (ws' := [(h0, .inr (11, [.ref hKi, y1, .ref hNu, .ref hT, .int (nI n), .int (nI k), .ref hW])), (hT, .inl (cB, 2000, .inl g)), (hKi, .inl (cI, 2001, .inl (upd kf i 57))), (hNu, .inl (cJ, 2001, .inr (.inl (vp_updL vf i v)))), (hW, .inl (cJ, 39, .inr (.inl tk)))]) [3, 4, 0, 1, 2] (by decide) rfl
            have hK9 := hK.sub (tys' := [(cB, .byte), (cI, .int), (cJ, .long), (cZ, .boolean)]) [0, 1, 2, 3] rfl
            exact W.vret hx hb hr (fun t_ ht hW => ⟨⟨(k, v, 57), rfl, ⟨q, (hin.trans (nuF_z c_1 c_7)).symm, (if_neg c_10).symm⟩, by rw [ht]; exact hP9, va_K.moved hW.alike hK9, hD9⟩, hS.F ht⟩) hS.2.2 dX10_scanNumber_127
        · skip
          refine lv_aload_n hx hb dX10_scanNumber_35 rfl (lv_at hl 1 rfl) ?_
          refine lv_aload_n hx hb dX10_scanNumber_36 rfl (lv_at hl 1 rfl) ?_
          refine va_get (D := (dC, dI)) (ci := 11) (v := .int (nI k)) (C := RX10) (T := TX10) (N := 7) hx hb hts (fun w h => List.mem_cons_of_mem _ (uG_X10 w h)) hown hK hP 3 rfl rfl 5 (by decide) (hts _ (List.mem_cons_of_mem _ kw_326)) (fun _ h9 => h9) rfl dX10_scanNumber_37 ?_
          have hPc := hP.sub (ws' := [(h0, .inr (11, [.ref hKi, y1, .ref hNu, .ref hT, .int (nI n), .int (nI k), .ref hW])), (hT, .inl (cB, 2000, .inl g))]) [3, 4] rfl
          have hDc := hD.sub (ws' := [(h0, .inr (11, [.ref hKi, y1, .ref hNu, .ref hT, .int (nI n), .int (nI k), .ref hW])), (hT, .inl (cB, 2000, .inl g))]) [3, 4] (by decide) rfl
          have hKc := hK.sub (tys' := [(cB, .byte), (cI, .int), (cJ, .long), (cZ, .boolean)]) [0, 1, 2, 3] rfl
          have hFc := va_free (wc := [(h0, .inr (11, [.ref hKi, y1, .ref hNu, .ref hT, .int (nI n), .int (nI k), .ref hW])), (hT, .inl (cB, 2000, .inl g))]) hD hS hA [3, 4] rfl
          refine va_calli (va_runV (As := [.int (nI k)]) (rest := []) ⟨hx, hb, hml, hown, hts⟩ (t_X10_byteAt l dC dI H.size cB cI cJ cZ h0 hT n k g (.ref hKi) y1 (.ref hNu) (.ref hW) k hn (by omega)) (cwV 1 hts (gd_all (in_V kw_512 kw_514 kw_2 kw_183 kc_X10_byteAt)) rfl rfl rfl (by decide +kernel) ⟨Nat.le_of_ble_eq_true rfl, Nat.le_of_ble_eq_true rfl⟩) ⟨fun a U g mk q => by obtain ⟨q0, q1, qP, qK, qD⟩ := q; exact ⟨q0, q1, qP, va_K.moved (u := U) (U := U.calling g mk a) (Vm.Alike.refl U.vm) qK, qD⟩, va_recv hKc hPc (ci := 11) (q0 := 0) rfl rfl, fun U hU hW => ⟨rfl, by rw [hU], by rw [hU]; exact hPc, va_K.moved hW.alike hKc, hDc.weaken (fun _ _ _ _ => trivial)⟩⟩ rfl rfl hl.1 rfl (lv_room (Nat.le_of_ble_eq_true rfl)) dX10_scanNumber_40 ⟨Nat.le_of_ble_eq_true rfl, Nat.le_of_ble_eq_true rfl⟩) hS (fun q _ h => hFc q h) hFc (fun r_11 u t_ H1 locs ht hvm hw hB hz1 hk1 hS => ?_)
          obtain ⟨hP1, hK1, hD1⟩ := hB
          rw [ht] at hP1
          have hK1 := va_K.moved hvm.symm hK1
          obtain ⟨hP, hD⟩ := va_join (wr := [(hKi, .inl (cI, 2001, .inl (upd kf i q))), (hNu, .inl (cJ, 2001, .inr (.inl vf))), (hW, .inl (cJ, 39, .inr (.inl tk)))]) (w1 := [(h0, .inr (11, [.ref hKi, y1, .ref hNu, .ref hT, .int (nI n), .int (nI k), .ref hW])), (hT, .inl (cB, 2000, .inl g))]) hP hD [3, 4] [0, 1, 2] rfl rfl (by decide) (by decide) hk1 hFc hP1 hD1
          have hK := (hK.sub (tys' := []) [] rfl).app hK1
          generalize H1 = H at hP hS ⊢
          have hP : va_P (dC, dI) vwCl [(hKi, .inl (cI, 2001, .inl (upd kf i q))), (hNu, .inl (cJ, 2001, .inr (.inl vf))), (hW, .inl (cJ, 39, .inr (.inl tk))), (h0, .inr (11, [.ref hKi, y1, .ref hNu, .ref hT, .int (nI n), .int (nI k), .ref hW])), (hT, .inl (cB, 2000, .inl g))] H := hP
          have hD : va_D A [(hKi, .inl (cI, 2001, .inl (upd kf i q))), (hNu, .inl (cJ, 2001, .inr (.inl vf))), (hW, .inl (cJ, 39, .inr (.inl tk))), (h0, .inr (11, [.ref hKi, y1, .ref hNu, .ref hT, .int (nI n), .int (nI k), .ref hW])), (hT, .inl (cB, 2000, .inl g))] := hD
          have hK : va_K (dC, dI) vwCl [(cB, .byte), (cI, .int), (cJ, .long), (cZ, .boolean)] s := hK
          have er_11 : r_11 = g k := hw.trans (if_neg c_1)
          rw [er_11]
          refine lv_bipush (v := 48) hx hb dX10_scanNumber_43 (by decide) ?_
          refine lv_isub hx hb dX10_scanNumber_45 ?_
          refine lv_istore (lv' := [(4, .int ((g k) - 48)), (2, .long v), (0, .ref h0), (1, .int (nI i))]) hx hb dX10_scanNumber_46 hl (by decide) rfl (fun ls hl => ?_)
          refine lv_lload_n hx hb dX10_scanNumber_48 rfl (lv_at hl 1 rfl) ?_
          refine lv_ldc2 hx hb hown (hts _ (List.mem_cons_of_mem _ kw_538)) dX10_scanNumber_49 ?_
          refine lv_iload hx hb dX10_scanNumber_52 (lv_at hl 0 rfl) ?_
          refine lv_i2l hx hb dX10_scanNumber_54 rfl ?_
          refine lv_lsub hx hb dX10_scanNumber_55 ?_
          refine lv_ldc2 hx hb hown (hts _ (List.mem_cons_of_mem _ kw_539)) dX10_scanNumber_56 ?_
          refine lv_ldiv hx hb dX10_scanNumber_59 (by decide) ?_
          refine W.lcmp hx hb dX10_scanNumber_60 ?_
          refine lv_if_le (tgt := 75) hx hb dX10_scanNumber_61 (by decide) (fun c_12 => ?_) (fun c_12 => ?_)
          · skip
            have c_12 : v ≤ (((9223372036854775807) - (((g k) - 48).toInt64)) / (10)) := (lg_cmp_le v (((9223372036854775807) - (((g k) - 48).toInt64)) / (10))).mp c_12
            refine lv_lload_n hx hb dX10_scanNumber_75 rfl (lv_at hl 1 rfl) ?_
            refine lv_ldc2 hx hb hown (hts _ (List.mem_cons_of_mem _ kw_539)) dX10_scanNumber_76 ?_
            refine lv_lmul hx hb dX10_scanNumber_79 ?_
            refine lv_iload hx hb dX10_scanNumber_80 (lv_at hl 0 rfl) ?_
            refine lv_i2l hx hb dX10_scanNumber_82 rfl ?_
            refine lv_ladd hx hb dX10_scanNumber_83 ?_
            refine lv_lstore_n (lv' := [(2, .long ((v * (10)) + (((g k) - 48).toInt64))), (4, .int ((g k) - 48)), (0, .ref h0), (1, .int (nI i))]) hx hb dX10_scanNumber_84 rfl hl (by decide) rfl (fun ls hl => ?_)
            refine lv_aload_n hx hb dX10_scanNumber_85 rfl (lv_at hl 2 rfl) ?_
            refine lv_dup hx hb dX10_scanNumber_86 rfl ?_
            refine va_get (D := (dC, dI)) (ci := 11) (v := .int (nI k)) (C := RX10) (T := TX10) (N := 7) hx hb hts (fun w h => List.mem_cons_of_mem _ (uG_X10 w h)) hown hK hP 3 rfl rfl 5 (by decide) (hts _ (List.mem_cons_of_mem _ kw_326)) (fun _ h9 => h9) rfl dX10_scanNumber_87 ?_
            refine lv_iconst (v := 1) hx hb dX10_scanNumber_90 (by decide) ?_
            refine lv_iadd hx hb dX10_scanNumber_91 ?_
            refine lv_topi (fun x_13 ex_13 => ?_)
            have ex_13 : x_13 = nI (k + 1) := ex_13.trans (nI_add k 1)
            subst ex_13
            refine va_put (D := (dC, dI)) (ci := 11) (v := .int (nI (k + 1))) (ty := .int) (C := RX10) (T := TX10) (N := 7) hx hb hts (fun w h => List.mem_cons_of_mem _ (uG_X10 w h)) tyX10 tyX10_ok nmX10 hown hK hP hD hS 3 rfl rfl 5 (by decide) (hts _ (List.mem_cons_of_mem _ kw_326)) (fun _ h9 => h9) rfl (by decide +kernel) rfl rfl (Nat.le_of_ble_eq_true rfl) dX10_scanNumber_92 (fun H locs hP hD hS => ?_)
            have hP : va_P (dC, dI) vwCl [(hKi, .inl (cI, 2001, .inl (upd kf i q))), (hNu, .inl (cJ, 2001, .inr (.inl vf))), (hW, .inl (cJ, 39, .inr (.inl tk))), (h0, .inr (11, [.ref hKi, y1, .ref hNu, .ref hT, .int (nI n), .int (nI (k + 1)), .ref hW])), (hT, .inl (cB, 2000, .inl g))] H := hP
            have hD : va_D A [(hKi, .inl (cI, 2001, .inl (upd kf i q))), (hNu, .inl (cJ, 2001, .inr (.inl vf))), (hW, .inl (cJ, 39, .inr (.inl tk))), (h0, .inr (11, [.ref hKi, y1, .ref hNu, .ref hT, .int (nI n), .int (nI (k + 1)), .ref hW])), (hT, .inl (cB, 2000, .inl g))] := hD
            refine lv_goto (tgt := 10) hx hb dX10_scanNumber_95 (by decide) ?_
            exact ih_10 (k + 1) (v * 10 + (g k - 48).toInt64) q (by omega) (hin.trans (nuF_s c_1 c_7 c_12)) (by omega) _ _ _ (hP.sub [3, 4, 0, 1, 2] rfl) (hD.sub [3, 4, 0, 1, 2] (by decide) rfl) hS (lv_sub hl [0, 2, 3] rfl)
          · skip
            have c_12 : ¬ (v ≤ (((9223372036854775807) - (((g k) - 48).toInt64)) / (10))) := fun h => c_12 ((lg_cmp_le v (((9223372036854775807) - (((g k) - 48).toInt64)) / (10))).mpr h)
            refine lv_aload_n hx hb dX10_scanNumber_64 rfl (lv_at hl 2 rfl) ?_
            refine va_get (D := (dC, dI)) (ci := 11) (v := .ref hKi) (C := RX10) (T := TX10) (N := 7) hx hb hts (fun w h => List.mem_cons_of_mem _ (uG_X10 w h)) hown hK hP 3 rfl rfl 0 (by decide) (hts _ (List.mem_cons_of_mem _ kw_318)) (fun _ h9 => h9) rfl dX10_scanNumber_65 ?_
            refine lv_iload_n hx hb dX10_scanNumber_68 rfl (lv_at hl 3 rfl) ?_
            refine lv_bipush (v := 57) hx hb dX10_scanNumber_69 (by decide) ?_
            refine va_iast hx hb hK hP hD hS 0 1 rfl rfl (i := (nI i)) (x := 57) (vp_in_nI (n := i) (N := 2001) (by omega) (by omega)) dX10_scanNumber_71 (fun H locs hP hD hS => ?_)
            rw [show (nI i).toNatClampNeg = i from nI_clamp (n := i) (by omega)] at hP hD
            have hP : va_P (dC, dI) vwCl [(hKi, .inl (cI, 2001, .inl (upd (upd kf i q) i 57))), (hNu, .inl (cJ, 2001, .inr (.inl vf))), (hW, .inl (cJ, 39, .inr (.inl tk))), (h0, .inr (11, [.ref hKi, y1, .ref hNu, .ref hT, .int (nI n), .int (nI k), .ref hW])), (hT, .inl (cB, 2000, .inl g))] H := hP
            have hD : va_D A [(hKi, .inl (cI, 2001, .inl (upd (upd kf i q) i 57))), (hNu, .inl (cJ, 2001, .inr (.inl vf))), (hW, .inl (cJ, 39, .inr (.inl tk))), (h0, .inr (11, [.ref hKi, y1, .ref hNu, .ref hT, .int (nI n), .int (nI k), .ref hW])), (hT, .inl (cB, 2000, .inl g))] := hD
            rw [updd] at hP hD
            have hP : va_P (dC, dI) vwCl [(hKi, .inl (cI, 2001, .inl (upd kf i 57))), (hNu, .inl (cJ, 2001, .inr (.inl vf))), (hW, .inl (cJ, 39, .inr (.inl tk))), (h0, .inr (11, [.ref hKi, y1, .ref hNu, .ref hT, .int (nI n), .int (nI k), .ref hW])), (hT, .inl (cB, 2000, .inl g))] H := hP
            have hD : va_D A [(hKi, .inl (cI, 2001, .inl (upd kf i 57))), (hNu, .inl (cJ, 2001, .inr (.inl vf))), (hW, .inl (cJ, 39, .inr (.inl tk))), (h0, .inr (11, [.ref hKi, y1, .ref hNu, .ref hT, .int (nI n), .int (nI k), .ref hW])), (hT, .inl (cB, 2000, .inl g))] := hD
            refine lv_goto (tgt := 85) hx hb dX10_scanNumber_72 (by decide) ?_
            refine lv_aload_n hx hb dX10_scanNumber_85 rfl (lv_at hl 2 rfl) ?_
            refine lv_dup hx hb dX10_scanNumber_86 rfl ?_
            refine va_get (D := (dC, dI)) (ci := 11) (v := .int (nI k)) (C := RX10) (T := TX10) (N := 7) hx hb hts (fun w h => List.mem_cons_of_mem _ (uG_X10 w h)) hown hK hP 3 rfl rfl 5 (by decide) (hts _ (List.mem_cons_of_mem _ kw_326)) (fun _ h9 => h9) rfl dX10_scanNumber_87 ?_
            refine lv_iconst (v := 1) hx hb dX10_scanNumber_90 (by decide) ?_
            refine lv_iadd hx hb dX10_scanNumber_91 ?_
            refine lv_topi (fun x_14 ex_14 => ?_)
            have ex_14 : x_14 = nI (k + 1) := ex_14.trans (nI_add k 1)
            subst ex_14
            refine va_put (D := (dC, dI)) (ci := 11) (v := .int (nI (k + 1))) (ty := .int) (C := RX10) (T := TX10) (N := 7) hx hb hts (fun w h => List.mem_cons_of_mem _ (uG_X10 w h)) tyX10 tyX10_ok nmX10 hown hK hP hD hS 3 rfl rfl 5 (by decide) (hts _ (List.mem_cons_of_mem _ kw_326)) (fun _ h9 => h9) rfl (by decide +kernel) rfl rfl (Nat.le_of_ble_eq_true rfl) dX10_scanNumber_92 (fun H locs hP hD hS => ?_)
            have hP : va_P (dC, dI) vwCl [(hKi, .inl (cI, 2001, .inl (upd kf i 57))), (hNu, .inl (cJ, 2001, .inr (.inl vf))), (hW, .inl (cJ, 39, .inr (.inl tk))), (h0, .inr (11, [.ref hKi, y1, .ref hNu, .ref hT, .int (nI n), .int (nI (k + 1)), .ref hW])), (hT, .inl (cB, 2000, .inl g))] H := hP
            have hD : va_D A [(hKi, .inl (cI, 2001, .inl (upd kf i 57))), (hNu, .inl (cJ, 2001, .inr (.inl vf))), (hW, .inl (cJ, 39, .inr (.inl tk))), (h0, .inr (11, [.ref hKi, y1, .ref hNu, .ref hT, .int (nI n), .int (nI (k + 1)), .ref hW])), (hT, .inl (cB, 2000, .inl g))] := hD
            refine lv_goto (tgt := 10) hx hb dX10_scanNumber_95 (by decide) ?_
            exact ih_10 (k + 1) v 57 (by omega) (hin.trans (nuF_b c_1 c_7 c_12)) (by omega) _ _ _ (hP.sub [3, 4, 0, 1, 2] rfl) (hD.sub [3, 4, 0, 1, 2] (by decide) rfl) hS (lv_sub hl [1, 2, 3] rfl)
  exact lp_10 _ k0 0 40 hk0 rfl (Nat.lt_succ_self _) _ _ _ (hP.sub [0, 1, 2, 3, 4] rfl) (hD.sub [0, 1, 2, 3, 4] (by decide) rfl) hS (lv_sub hl [0, 1, 2] rfl)


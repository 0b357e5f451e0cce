/-! behind a fault -/
theorem dX9_readOne_0 : decode cX9_readOne 0 = .ok (.aload_n 0, 1) := by decide +kernel
theorem dX9_readOne_1 : decode cX9_readOne 1 = .ok (.invokevirtual 114, 3) := by decide +kernel
theorem dX9_readOne_4 : decode cX9_readOne 4 = .ok (.tableswitch 178 19 41 #[157, 178, 178, 178, 178, 178, 178, 108, 178, 178, 178, 108, 108, 171, 171, 171, 171, 164, 178, 115, 115, 108, 122], 108) := by decide +kernel
theorem dX9_readOne_112 : decode cX9_readOne 112 = .ok (.aload_n 0, 1) := by decide +kernel
theorem dX9_readOne_113 : decode cX9_readOne 113 = .ok (.invokevirtual 331, 3) := by decide +kernel
theorem dX9_readOne_116 : decode cX9_readOne 116 = .ok (.goto 75, 3) := by decide +kernel
theorem dX9_readOne_119 : decode cX9_readOne 119 = .ok (.aload_n 0, 1) := by decide +kernel
theorem dX9_readOne_120 : decode cX9_readOne 120 = .ok (.invokevirtual 334, 3) := by decide +kernel
theorem dX9_readOne_123 : decode cX9_readOne 123 = .ok (.goto 68, 3) := by decide +kernel
theorem dX9_readOne_126 : decode cX9_readOne 126 = .ok (.aload_n 0, 1) := by decide +kernel
theorem dX9_readOne_127 : decode cX9_readOne 127 = .ok (.invokevirtual 266, 3) := by decide +kernel
theorem dX9_readOne_130 : decode cX9_readOne 130 = .ok (.aload_n 0, 1) := by decide +kernel
theorem dX9_readOne_131 : decode cX9_readOne 131 = .ok (.bipush 41, 2) := by decide +kernel
theorem dX9_readOne_133 : decode cX9_readOne 133 = .ok (.invokevirtual 48, 3) := by decide +kernel
theorem dX9_readOne_136 : decode cX9_readOne 136 = .ok (.pop, 1) := by decide +kernel
theorem dX9_readOne_137 : decode cX9_readOne 137 = .ok (.aload_n 0, 1) := by decide +kernel
theorem dX9_readOne_138 : decode cX9_readOne 138 = .ok (.invokevirtual 174, 3) := by decide +kernel
theorem dX9_readOne_141 : decode cX9_readOne 141 = .ok (.pop, 1) := by decide +kernel
theorem dX9_readOne_142 : decode cX9_readOne 142 = .ok (.aload_n 0, 1) := by decide +kernel
theorem dX9_readOne_143 : decode cX9_readOne 143 = .ok (.bipush 42, 2) := by decide +kernel
theorem dX9_readOne_145 : decode cX9_readOne 145 = .ok (.invokevirtual 60, 3) := by decide +kernel
theorem dX9_readOne_148 : decode cX9_readOne 148 = .ok (.aload_n 0, 1) := by decide +kernel
theorem dX9_readOne_149 : decode cX9_readOne 149 = .ok (.dup, 1) := by decide +kernel
theorem dX9_readOne_150 : decode cX9_readOne 150 = .ok (.getfield 275, 3) := by decide +kernel
theorem dX9_readOne_153 : decode cX9_readOne 153 = .ok (.iconst 1, 1) := by decide +kernel
theorem dX9_readOne_154 : decode cX9_readOne 154 = .ok (.isub, 1) := by decide +kernel
theorem dX9_readOne_155 : decode cX9_readOne 155 = .ok (.putfield 275, 3) := by decide +kernel
theorem dX9_readOne_158 : decode cX9_readOne 158 = .ok (.goto 33, 3) := by decide +kernel
theorem dX9_readOne_161 : decode cX9_readOne 161 = .ok (.aload_n 0, 1) := by decide +kernel
theorem dX9_readOne_162 : decode cX9_readOne 162 = .ok (.invokevirtual 337, 3) := by decide +kernel
theorem dX9_readOne_165 : decode cX9_readOne 165 = .ok (.goto 26, 3) := by decide +kernel
theorem dX9_readOne_168 : decode cX9_readOne 168 = .ok (.aload_n 0, 1) := by decide +kernel
theorem dX9_readOne_169 : decode cX9_readOne 169 = .ok (.invokevirtual 340, 3) := by decide +kernel
theorem dX9_readOne_172 : decode cX9_readOne 172 = .ok (.goto 19, 3) := by decide +kernel
theorem dX9_readOne_175 : decode cX9_readOne 175 = .ok (.aload_n 0, 1) := by decide +kernel
theorem dX9_readOne_176 : decode cX9_readOne 176 = .ok (.invokevirtual 343, 3) := by decide +kernel
theorem dX9_readOne_179 : decode cX9_readOne 179 = .ok (.goto 12, 3) := by decide +kernel
theorem dX9_readOne_182 : decode cX9_readOne 182 = .ok (.aload_n 0, 1) := by decide +kernel
theorem dX9_readOne_183 : decode cX9_readOne 183 = .ok (.iconst 1, 1) := by decide +kernel
theorem dX9_readOne_184 : decode cX9_readOne 184 = .ok (.aload_n 0, 1) := by decide +kernel
theorem dX9_readOne_185 : decode cX9_readOne 185 = .ok (.invokevirtual 118, 3) := by decide +kernel
theorem dX9_readOne_188 : decode cX9_readOne 188 = .ok (.invokevirtual 121, 3) := by decide +kernel
theorem dX9_readOne_191 : decode cX9_readOne 191 = .ok (.return_, 1) := by decide +kernel
abbrev cs_t_X9_readOne_f (cB cI cJ cZ : ClassId) (h0 hQ hKi hPl hNu : Nat) (kf pf : Nat → Int32) (vf : Nat → Int64) (fl pl : Int32) (w3 : Value) (i4 i5 : Int32) (w6 : Value) (x1 z1 : Nat) (w10 : Value) (i11 : Int32) (y3 : Value) (j4 j5 : Int32) (y6 : Value) (hCd hA1 hA2 hA3 hA4 hA5 hA6 hA7 s1 : Nat) (g8 g9 g10 g11 : Value) (tq : Int32) : va_W := [(h0, .inr (10, [.int fl, .int pl, .ref hCd, w3, .int i4, .int i5, w6, .ref hQ, .int (nI x1), .int (nI z1), w10, .int i11])), (hQ, .inr (11, [.ref hKi, .ref hPl, .ref hNu, y3, .int j4, .int j5, y6])), (hKi, .inl (cI, 2001, .inl kf)), (hPl, .inl (cI, 2001, .inl pf)), (hNu, .inl (cJ, 2001, .inr (.inl vf))), (hCd, .inr (2, [.int (nI s1), .ref hA1, .ref hA2, .ref hA3, .ref hA4, .ref hA5, .ref hA6, .ref hA7, g8, g9, g10, g11, .int tq]))]
abbrev pc_t_X9_readOne_f (dC : Nat → ClassId) (dI : Nat → Nat → Nat) (sz : Nat) (cB cI cJ cZ : ClassId) (h0 hQ hKi hPl hNu : Nat) (kf pf : Nat → Int32) (vf : Nat → Int64) (fl pl : Int32) (w3 : Value) (i4 i5 : Int32) (w6 : Value) (x1 z1 : Nat) (w10 : Value) (i11 : Int32) (y3 : Value) (j4 j5 : Int32) (y6 : Value) (hCd hA1 hA2 hA3 hA4 hA5 hA6 hA7 s1 : Nat) (g8 g9 g10 g11 : Value) (tq : Int32) : Array Value → State → Prop := va_Pc [.ref h0] (fun U => U.heap.size = sz ∧ va_P (dC, dI) vwCl [(h0, .inr (10, [.int fl, .int pl, .ref hCd, w3, .int i4, .int i5, w6, .ref hQ, .int (nI x1), .int (nI z1), w10, .int i11])), (hQ, .inr (11, [.ref hKi, .ref hPl, .ref hNu, y3, .int j4, .int j5, y6])), (hKi, .inl (cI, 2001, .inl kf)), (hPl, .inl (cI, 2001, .inl pf)), (hNu, .inl (cJ, 2001, .inr (.inl vf))), (hCd, .inr (2, [.int (nI s1), .ref hA1, .ref hA2, .ref hA3, .ref hA4, .ref hA5, .ref hA6, .ref hA7, g8, g9, g10, g11, .int tq]))] U.heap ∧ va_K (dC, dI) vwCl [(cB, .byte), (cI, .int), (cJ, .long), (cZ, .boolean)] U ∧ va_D (fun _ => True) [(h0, .inr (10, [.int fl, .int pl, .ref hCd, w3, .int i4, .int i5, w6, .ref hQ, .int (nI x1), .int (nI z1), w10, .int i11])), (hQ, .inr (11, [.ref hKi, .ref hPl, .ref hNu, y3, .int j4, .int j5, y6])), (hKi, .inl (cI, 2001, .inl kf)), (hPl, .inl (cI, 2001, .inl pf)), (hNu, .inl (cJ, 2001, .inr (.inl vf))), (hCd, .inr (2, [.int (nI s1), .ref hA1, .ref hA2, .ref hA3, .ref hA4, .ref hA5, .ref hA6, .ref hA7, g8, g9, g10, g11, .int tq]))])
abbrev qc_t_X9_readOne_f (dC : Nat → ClassId) (dI : Nat → Nat → Nat) (cB cI cJ cZ : ClassId) (h0 hQ hKi hPl hNu : Nat) (kf pf : Nat → Int32) (vf : Nat → Int64) (fl pl : Int32) (w3 : Value) (i4 i5 : Int32) (w6 : Value) (x1 z1 : Nat) (w10 : Value) (i11 : Int32) (y3 : Value) (j4 j5 : Int32) (y6 : Value) (hCd hA1 hA2 hA3 hA4 hA5 hA6 hA7 s1 : Nat) (g8 g9 g10 g11 : Value) (tq : Int32) (A : Nat → Prop) : Array Value → State → Outcome → State → Prop := va_Qv (fun (u : Unit) => match u with | _ => True) (fun (u : Unit) t_ => match u with | _ => va_P (dC, dI) vwCl [(h0, .inr (10, [.int fl, .int pl, .ref hCd, w3, .int i4, .int i5, w6, .ref hQ, .int (nI x1), .int (nI z1), w10, .int i11])), (hQ, .inr (11, [.ref hKi, .ref hPl, .ref hNu, y3, .int j4, .int j5, y6])), (hKi, .inl (cI, 2001, .inl kf)), (hPl, .inl (cI, 2001, .inl pf)), (hNu, .inl (cJ, 2001, .inr (.inl vf))), (hCd, .inr (2, [.int (nI s1), .ref hA1, .ref hA2, .ref hA3, .ref hA4, .ref hA5, .ref hA6, .ref hA7, g8, g9, g10, g11, .int tq]))] t_.heap ∧ va_K (dC, dI) vwCl [(cB, .byte), (cI, .int), (cJ, .long), (cZ, .boolean)] t_ ∧ va_D A [(h0, .inr (10, [.int fl, .int pl, .ref hCd, w3, .int i4, .int i5, w6, .ref hQ, .int (nI x1), .int (nI z1), w10, .int i11])), (hQ, .inr (11, [.ref hKi, .ref hPl, .ref hNu, y3, .int j4, .int j5, y6])), (hKi, .inl (cI, 2001, .inl kf)), (hPl, .inl (cI, 2001, .inl pf)), (hNu, .inl (cJ, 2001, .inr (.inl vf))), (hCd, .inr (2, [.int (nI s1), .ref hA1, .ref hA2, .ref hA3, .ref hA4, .ref hA5, .ref hA6, .ref hA7, g8, g9, g10, g11, .int tq]))]) A
set_option maxHeartbeats 4000000 in
set_option maxRecDepth 100000 in
theorem t_X9_readOne_f (l : Launch) (dC : Nat → ClassId) (dI : Nat → Nat → Nat) (sz : Nat) (cB cI cJ cZ : ClassId) (h0 hQ hKi hPl hNu : Nat) (kf pf : Nat → Int32) (vf : Nat → Int64) (fl pl : Int32) (w3 : Value) (i4 i5 : Int32) (w6 : Value) (x1 z1 : Nat) (w10 : Value) (i11 : Int32) (y3 : Value) (j4 j5 : Int32) (y6 : Value) (hCd hA1 hA2 hA3 hA4 hA5 hA6 hA7 s1 : Nat) (g8 g9 g10 g11 : Value) (tq : Int32) (hx1 : x1 ≤ 2000) (hfl : ¬ fl = 0) : Met l yX9_readOne (wsOf yX9_readOne cX9_readOne 1 none) ({ frames := 2, cells := 0, slots := 0, locals := 120 }) (pc_t_X9_readOne_f dC dI sz cB cI cJ cZ h0 hQ hKi hPl hNu kf pf vf fl pl w3 i4 i5 w6 x1 z1 w10 i11 y3 j4 j5 y6 hCd hA1 hA2 hA3 hA4 hA5 hA6 hA7 s1 g8 g9 g10 g11 tq) (qc_t_X9_readOne_f dC dI cB cI cJ cZ h0 hQ hKi hPl hNu kf pf vf fl pl w3 i4 i5 w6 x1 z1 w10 i11 y3 j4 j5 y6 hCd hA1 hA2 hA3 hA4 hA5 hA6 hA7 s1 g8 g9 g10 g11 tq (va_A (cs_t_X9_readOne_f cB cI cJ cZ h0 hQ hKi hPl hNu kf pf vf fl pl w3 i4 i5 w6 x1 z1 w10 i11 y3 j4 j5 y6 hCd hA1 hA2 hA3 hA4 hA5 hA6 hA7 s1 g8 g9 g10 g11 tq) sz)) 0 0 (va_A (cs_t_X9_readOne_f cB cI cJ cZ h0 hQ hKi hPl hNu kf pf vf fl pl w3 i4 i5 w6 x1 z1 w10 i11 y3 j4 j5 y6 hCd hA1 hA2 hA3 hA4 hA5 hA6 hA7 s1 g8 g9 g10 g11 tq) sz) := by
  refine Met.ofW (cc := cX9_readOne) (maxL := 1) (ret := none) (by decide) rfl ?_
  intro p e s m args below meth c s₁ B hml hv
  obtain ⟨rfl, hsz, hP, hK, hD0⟩ := hv
  have hx := B.exec
  have hb := B.bytes
  have hr := B.returns
  have hts := atoms_spec (ws := (wsOf yX9_readOne cX9_readOne 1 none)) B.pre
  have hown : s.vm.findClass RX9 = some m.cls := findClass_of_methodNamed B.named
  have hlocks := B.notSynchronized
  subst hsz
  have hD := hD0.self (sz := s.heap.size)
  generalize hAe : va_A (cs_t_X9_readOne_f cB cI cJ cZ h0 hQ hKi hPl hNu kf pf vf fl pl w3 i4 i5 w6 x1 z1 w10 i11 y3 j4 j5 y6 hCd hA1 hA2 hA3 hA4 hA5 hA6 hA7 s1 g8 g9 g10 g11 tq) s.heap.size = A at hD ⊢
  have hA : ∀ q : Nat, s.heap.size ≤ q → A q := fun q h => by rw [← hAe]; exact Or.inr h
  have hS : va_S A s.heap s.heap [] := va_S.rf
  have hP : va_P (dC, dI) vwCl [(h0, .inr (10, [.int fl, .int pl, .ref hCd, w3, .int i4, .int i5, w6, .ref hQ, .int (nI x1), .int (nI z1), w10, .int i11])), (hQ, .inr (11, [.ref hKi, .ref hPl, .ref hNu, y3, .int j4, .int j5, y6])), (hKi, .inl (cI, 2001, .inl kf)), (hPl, .inl (cI, 2001, .inl pf)), (hNu, .inl (cJ, 2001, .inr (.inl vf))), (hCd, .inr (2, [.int (nI s1), .ref hA1, .ref hA2, .ref hA3, .ref hA4, .ref hA5, .ref hA6, .ref hA7, g8, g9, g10, g11, .int tq]))] s.heap := hP
  have hl := lv_entry ([.ref h0]) (n := 1) (Nat.le_of_ble_eq_true rfl)
  rw [lg_entry_eq]
  generalize (lg_sl ([.ref h0]) ++ List.replicate (1 - (lg_sl ([.ref h0])).length) Slot.unset).toArray = ls at hl ⊢
  have hl : lv_has ls 1 [(0, .ref h0)] := hl
  refine lv_aload_n hx hb dX9_readOne_0 rfl (lv_at hl 0 rfl) ?_
  have hPc := hP.sub (ws' := [(h0, .inr (10, [.int fl, .int pl, .ref hCd, w3, .int i4, .int i5, w6, .ref hQ, .int (nI x1), .int (nI z1), w10, .int i11])), (hQ, .inr (11, [.ref hKi, .ref hPl, .ref hNu, y3, .int j4, .int j5, y6])), (hKi, .inl (cI, 2001, .inl kf)), (hPl, .inl (cI, 2001, .inl pf)), (hNu, .inl (cJ, 2001, .inr (.inl vf)))]) [0, 1, 2, 3, 4] rfl
  have hDc := hD.sub (ws' := [(h0, .inr (10, [.int fl, .int pl, .ref hCd, w3, .int i4, .int i5, w6, .ref hQ, .int (nI x1), .int (nI z1), w10, .int i11])), (hQ, .inr (11, [.ref hKi, .ref hPl, .ref hNu, y3, .int j4, .int j5, y6])), (hKi, .inl (cI, 2001, .inl kf)), (hPl, .inl (cI, 2001, .inl pf)), (hNu, .inl (cJ, 2001, .inr (.inl vf)))]) [0, 1, 2, 3, 4] (by decide) rfl
  have hKc := hK.sub (tys' := [(cB, .byte), (cI, .int), (cJ, .long), (cZ, .boolean)]) [0, 1, 2, 3] rfl
  have hFc := va_free (wc := [(h0, .inr (10, [.int fl, .int pl, .ref hCd, w3, .int i4, .int i5, w6, .ref hQ, .int (nI x1), .int (nI z1), w10, .int i11])), (hQ, .inr (11, [.ref hKi, .ref hPl, .ref hNu, y3, .int j4, .int j5, y6])), (hKi, .inl (cI, 2001, .inl kf)), (hPl, .inl (cI, 2001, .inl pf)), (hNu, .inl (cJ, 2001, .inr (.inl vf)))]) hD hS hA [0, 1, 2, 3, 4] rfl
  refine va_calli (va_runV (As := []) (rest := []) ⟨hx, hb, hml, hown, hts⟩ (t_X9_kind l dC dI s.heap.size cB cI cJ cZ h0 hQ hKi hPl hNu kf pf vf fl pl (.ref hCd) w3 i4 i5 w6 x1 z1 w10 i11 y3 j4 j5 y6  hx1) (cwV 0 hts (gd_all (in_V kw_907 kw_909 kw_12 kw_193 kc_X9_kind)) rfl rfl rfl (by decide +kernel) ⟨Nat.le_of_ble_eq_true rfl, Nat.le_of_ble_eq_true rfl⟩) ⟨fun a U g mk q => by obtain ⟨q0, q1, qP, qK, qD⟩ := q; exact ⟨q0, q1, qP, va_K.moved (u := U) (U := U.calling g mk a) (Vm.Alike.refl U.vm) qK, qD⟩, va_recv hKc hPc (ci := 10) (q0 := 0) rfl rfl, fun U hU hW => ⟨rfl, by rw [hU], by rw [hU]; exact hPc, va_K.moved hW.alike hKc, hDc.weaken (fun _ _ _ _ => trivial)⟩⟩ rfl rfl hl.1 rfl (lv_room (Nat.le_of_ble_eq_true rfl)) dX9_readOne_1 ⟨Nat.le_of_ble_eq_true rfl, Nat.le_of_ble_eq_true rfl⟩) hS (fun q _ h => hFc q h) hFc (fun r_1 u t_ H1 locs ht hvm hw hB hz1 hk1 hS => ?_)
  obtain ⟨hP1, hK1, hD1⟩ := hB
  rw [ht] at hP1
  have hK1 := va_K.moved hvm.symm hK1
  obtain ⟨hP, hD⟩ := va_join (wr := [(hCd, .inr (2, [.int (nI s1), .ref hA1, .ref hA2, .ref hA3, .ref hA4, .ref hA5, .ref hA6, .ref hA7, g8, g9, g10, g11, .int tq]))]) (w1 := [(h0, .inr (10, [.int fl, .int pl, .ref hCd, w3, .int i4, .int i5, w6, .ref hQ, .int (nI x1), .int (nI z1), w10, .int i11])), (hQ, .inr (11, [.ref hKi, .ref hPl, .ref hNu, y3, .int j4, .int j5, y6])), (hKi, .inl (cI, 2001, .inl kf)), (hPl, .inl (cI, 2001, .inl pf)), (hNu, .inl (cJ, 2001, .inr (.inl vf)))]) hP hD [0, 1, 2, 3, 4] [5] rfl rfl (by decide) (by decide) hk1 hFc hP1 hD1
  have hK := (hK.sub (tys' := []) [] rfl).app hK1
  generalize H1 = H at hP hS ⊢
  have hP : va_P (dC, dI) vwCl [(hCd, .inr (2, [.int (nI s1), .ref hA1, .ref hA2, .ref hA3, .ref hA4, .ref hA5, .ref hA6, .ref hA7, g8, g9, g10, g11, .int tq])), (h0, .inr (10, [.int fl, .int pl, .ref hCd, w3, .int i4, .int i5, w6, .ref hQ, .int (nI x1), .int (nI z1), w10, .int i11])), (hQ, .inr (11, [.ref hKi, .ref hPl, .ref hNu, y3, .int j4, .int j5, y6])), (hKi, .inl (cI, 2001, .inl kf)), (hPl, .inl (cI, 2001, .inl pf)), (hNu, .inl (cJ, 2001, .inr (.inl vf)))] H := hP
  have hD : va_D A [(hCd, .inr (2, [.int (nI s1), .ref hA1, .ref hA2, .ref hA3, .ref hA4, .ref hA5, .ref hA6, .ref hA7, g8, g9, g10, g11, .int tq])), (h0, .inr (10, [.int fl, .int pl, .ref hCd, w3, .int i4, .int i5, w6, .ref hQ, .int (nI x1), .int (nI z1), w10, .int i11])), (hQ, .inr (11, [.ref hKi, .ref hPl, .ref hNu, y3, .int j4, .int j5, y6])), (hKi, .inl (cI, 2001, .inl kf)), (hPl, .inl (cI, 2001, .inl pf)), (hNu, .inl (cJ, 2001, .inr (.inl vf)))] := hD
  have hK : va_K (dC, dI) vwCl [(cB, .byte), (cI, .int), (cJ, .long), (cZ, .boolean)] s := hK
  have er_1 : r_1 = 57 := hw.trans (if_neg hfl)
  rw [er_1]
  refine lv_tableOut (tgt := 182) hx hb dX9_readOne_4 (by decide) (by decide) ?_
  refine lv_aload_n hx hb dX9_readOne_182 rfl (lv_at hl 0 rfl) ?_
  refine lv_iconst (v := 1) hx hb dX9_readOne_183 (by decide) ?_
  refine lv_aload_n hx hb dX9_readOne_184 rfl (lv_at hl 0 rfl) ?_
  have hPc := hP.sub (ws' := [(h0, .inr (10, [.int fl, .int pl, .ref hCd, w3, .int i4, .int i5, w6, .ref hQ, .int (nI x1), .int (nI z1), w10, .int i11])), (hQ, .inr (11, [.ref hKi, .ref hPl, .ref hNu, y3, .int j4, .int j5, y6])), (hKi, .inl (cI, 2001, .inl kf)), (hPl, .inl (cI, 2001, .inl pf)), (hNu, .inl (cJ, 2001, .inr (.inl vf)))]) [1, 2, 3, 4, 5] rfl
  have hDc := hD.sub (ws' := [(h0, .inr (10, [.int fl, .int pl, .ref hCd, w3, .int i4, .int i5, w6, .ref hQ, .int (nI x1), .int (nI z1), w10, .int i11])), (hQ, .inr (11, [.ref hKi, .ref hPl, .ref hNu, y3, .int j4, .int j5, y6])), (hKi, .inl (cI, 2001, .inl kf)), (hPl, .inl (cI, 2001, .inl pf)), (hNu, .inl (cJ, 2001, .inr (.inl vf)))]) [1, 2, 3, 4, 5] (by decide) rfl
  have hKc := hK.sub (tys' := [(cB, .byte), (cI, .int), (cJ, .long), (cZ, .boolean)]) [0, 1, 2, 3] rfl
  have hFc := va_free (wc := [(h0, .inr (10, [.int fl, .int pl, .ref hCd, w3, .int i4, .int i5, w6, .ref hQ, .int (nI x1), .int (nI z1), w10, .int i11])), (hQ, .inr (11, [.ref hKi, .ref hPl, .ref hNu, y3, .int j4, .int j5, y6])), (hKi, .inl (cI, 2001, .inl kf)), (hPl, .inl (cI, 2001, .inl pf)), (hNu, .inl (cJ, 2001, .inr (.inl vf)))]) hD hS hA [1, 2, 3, 4, 5] rfl
  refine va_calli (va_runV (As := []) (rest := [.int 1, .ref h0]) ⟨hx, hb, hml, hown, hts⟩ (t_X9_here l dC dI H.size cB cI cJ cZ h0 hQ hKi hPl hNu kf pf vf fl pl (.ref hCd) w3 i4 i5 w6 x1 z1 w10 i11 y3 j4 j5 y6  hx1) (cwV 0 hts (gd_all (in_V kw_923 kw_925 kw_16 kw_193 kc_X9_here)) rfl rfl rfl (by decide +kernel) ⟨Nat.le_of_ble_eq_true rfl, Nat.le_of_ble_eq_true rfl⟩) ⟨fun a U g mk q => by obtain ⟨q0, q1, qP, qK, qD⟩ := q; exact ⟨q0, q1, qP, va_K.moved (u := U) (U := U.calling g mk a) (Vm.Alike.refl U.vm) qK, qD⟩, va_recv hKc hPc (ci := 10) (q0 := 0) rfl rfl, fun U hU hW => ⟨rfl, by rw [hU], by rw [hU]; exact hPc, va_K.moved hW.alike hKc, hDc.weaken (fun _ _ _ _ => trivial)⟩⟩ rfl rfl hl.1 rfl (lv_room (Nat.le_of_ble_eq_true rfl)) dX9_readOne_185 ⟨Nat.le_of_ble_eq_true rfl, Nat.le_of_ble_eq_true rfl⟩) hS (fun q _ h => hFc q h) hFc (fun r_2 u t_ H1 locs ht hvm hw hB hz1 hk1 hS => ?_)
  obtain ⟨hP1, hK1, hD1⟩ := hB
  rw [ht] at hP1
  have hK1 := va_K.moved hvm.symm hK1
  obtain ⟨hP, hD⟩ := va_join (wr := [(hCd, .inr (2, [.int (nI s1), .ref hA1, .ref hA2, .ref hA3, .ref hA4, .ref hA5, .ref hA6, .ref hA7, g8, g9, g10, g11, .int tq]))]) (w1 := [(h0, .inr (10, [.int fl, .int pl, .ref hCd, w3, .int i4, .int i5, w6, .ref hQ, .int (nI x1), .int (nI z1), w10, .int i11])), (hQ, .inr (11, [.ref hKi, .ref hPl, .ref hNu, y3, .int j4, .int j5, y6])), (hKi, .inl (cI, 2001, .inl kf)), (hPl, .inl (cI, 2001, .inl pf)), (hNu, .inl (cJ, 2001, .inr (.inl vf)))]) hP hD [1, 2, 3, 4, 5] [0] rfl rfl (by decide) (by decide) hk1 hFc hP1 hD1
  have hK := (hK.sub (tys' := []) [] rfl).app hK1
  generalize H1 = H at hP hS ⊢
  have hP : va_P (dC, dI) vwCl [(hCd, .inr (2, [.int (nI s1), .ref hA1, .ref hA2, .ref hA3, .ref hA4, .ref hA5, .ref hA6, .ref hA7, g8, g9, g10, g11, .int tq])), (h0, .inr (10, [.int fl, .int pl, .ref hCd, w3, .int i4, .int i5, w6, .ref hQ, .int (nI x1), .int (nI z1), w10, .int i11])), (hQ, .inr (11, [.ref hKi, .ref hPl, .ref hNu, y3, .int j4, .int j5, y6])), (hKi, .inl (cI, 2001, .inl kf)), (hPl, .inl (cI, 2001, .inl pf)), (hNu, .inl (cJ, 2001, .inr (.inl vf)))] H := hP
  have hD : va_D A [(hCd, .inr (2, [.int (nI s1), .ref hA1, .ref hA2, .ref hA3, .ref hA4, .ref hA5, .ref hA6, .ref hA7, g8, g9, g10, g11, .int tq])), (h0, .inr (10, [.int fl, .int pl, .ref hCd, w3, .int i4, .int i5, w6, .ref hQ, .int (nI x1), .int (nI z1), w10, .int i11])), (hQ, .inr (11, [.ref hKi, .ref hPl, .ref hNu, y3, .int j4, .int j5, y6])), (hKi, .inl (cI, 2001, .inl kf)), (hPl, .inl (cI, 2001, .inl pf)), (hNu, .inl (cJ, 2001, .inr (.inl vf)))] := hD
  have hK : va_K (dC, dI) vwCl [(cB, .byte), (cI, .int), (cJ, .long), (cZ, .boolean)] s := hK
  have er_2 : r_2 = pf x1 := hw
  rw [er_2]
  have hPc := hP.sub (ws' := [(h0, .inr (10, [.int fl, .int pl, .ref hCd, w3, .int i4, .int i5, w6, .ref hQ, .int (nI x1), .int (nI z1), w10, .int i11])), (hQ, .inr (11, [.ref hKi, .ref hPl, .ref hNu, y3, .int j4, .int j5, y6])), (hKi, .inl (cI, 2001, .inl kf)), (hPl, .inl (cI, 2001, .inl pf)), (hNu, .inl (cJ, 2001, .inr (.inl vf)))]) [1, 2, 3, 4, 5] rfl
  have hDc := hD.sub (ws' := [(h0, .inr (10, [.int fl, .int pl, .ref hCd, w3, .int i4, .int i5, w6, .ref hQ, .int (nI x1), .int (nI z1), w10, .int i11])), (hQ, .inr (11, [.ref hKi, .ref hPl, .ref hNu, y3, .int j4, .int j5, y6])), (hKi, .inl (cI, 2001, .inl kf)), (hPl, .inl (cI, 2001, .inl pf)), (hNu, .inl (cJ, 2001, .inr (.inl vf)))]) [1, 2, 3, 4, 5] (by decide) rfl
  have hKc := hK.sub (tys' := [(cB, .byte), (cI, .int), (cJ, .long), (cZ, .boolean)]) [0, 1, 2, 3] rfl
  have hFc := va_free (wc := [(h0, .inr (10, [.int fl, .int pl, .ref hCd, w3, .int i4, .int i5, w6, .ref hQ, .int (nI x1), .int (nI z1), w10, .int i11])), (hQ, .inr (11, [.ref hKi, .ref hPl, .ref hNu, y3, .int j4, .int j5, y6])), (hKi, .inl (cI, 2001, .inl kf)), (hPl, .inl (cI, 2001, .inl pf)), (hNu, .inl (cJ, 2001, .inr (.inl vf)))]) hD hS hA [1, 2, 3, 4, 5] rfl
  refine va_callv (va_runV (As := [.int 1, .int (pf x1)]) (rest := []) ⟨hx, hb, hml, hown, hts⟩ (t_X9_refuse_1 l dC dI H.size cB cI cJ cZ h0 hQ hKi hPl hNu kf pf vf fl pl (.ref hCd) w3 i4 i5 w6 x1 z1 w10 i11 y3 j4 j5 y6 1 (pf x1) hfl) (cwV 2 hts (gd_all (in_V kw_927 kw_928 kw_929 kw_193 kc_X9_refuse)) rfl rfl rfl (by decide +kernel) ⟨Nat.le_of_ble_eq_true rfl, Nat.le_of_ble_eq_true rfl⟩) ⟨fun a U g mk q => by obtain ⟨q0, q1, qP, qK, qD⟩ := q; exact ⟨q0, q1, qP, va_K.moved (u := U) (U := U.calling g mk a) (Vm.Alike.refl U.vm) qK, qD⟩, va_recv hKc hPc (ci := 10) (q0 := 0) rfl rfl, fun U hU hW => ⟨rfl, by rw [hU], by rw [hU]; exact hPc, va_K.moved hW.alike hKc, hDc.weaken (fun _ _ _ _ => trivial)⟩⟩ rfl rfl hl.1 rfl (lv_room (Nat.le_of_ble_eq_true rfl)) dX9_readOne_188 ⟨Nat.le_of_ble_eq_true rfl, Nat.le_of_ble_eq_true rfl⟩) hS (fun q _ h => hFc q h) hFc (fun u t_ H1 locs ht hvm hw hB hz1 hk1 hS => ?_)
  obtain ⟨hP1, hK1, hD1⟩ := hB
  rw [ht] at hP1
  have hK1 := va_K.moved hvm.symm hK1
  obtain ⟨hP, hD⟩ := va_join (wr := [(hCd, .inr (2, [.int (nI s1), .ref hA1, .ref hA2, .ref hA3, .ref hA4, .ref hA5, .ref hA6, .ref hA7, g8, g9, g10, g11, .int tq]))]) (w1 := [(h0, .inr (10, [.int fl, .int pl, .ref hCd, w3, .int i4, .int i5, w6, .ref hQ, .int (nI x1), .int (nI z1), w10, .int i11])), (hQ, .inr (11, [.ref hKi, .ref hPl, .ref hNu, y3, .int j4, .int j5, y6])), (hKi, .inl (cI, 2001, .inl kf)), (hPl, .inl (cI, 2001, .inl pf)), (hNu, .inl (cJ, 2001, .inr (.inl vf)))]) hP hD [1, 2, 3, 4, 5] [0] rfl rfl (by decide) (by decide) hk1 hFc hP1 hD1
  have hK := (hK.sub (tys' := []) [] rfl).app hK1
  generalize H1 = H at hP hS ⊢
  have hP : va_P (dC, dI) vwCl [(hCd, .inr (2, [.int (nI s1), .ref hA1, .ref hA2, .ref hA3, .ref hA4, .ref hA5, .ref hA6, .ref hA7, g8, g9, g10, g11, .int tq])), (h0, .inr (10, [.int fl, .int pl, .ref hCd, w3, .int i4, .int i5, w6, .ref hQ, .int (nI x1), .int (nI z1), w10, .int i11])), (hQ, .inr (11, [.ref hKi, .ref hPl, .ref hNu, y3, .int j4, .int j5, y6])), (hKi, .inl (cI, 2001, .inl kf)), (hPl, .inl (cI, 2001, .inl pf)), (hNu, .inl (cJ, 2001, .inr (.inl vf)))] H := hP
  have hD : va_D A [(hCd, .inr (2, [.int (nI s1), .ref hA1, .ref hA2, .ref hA3, .ref hA4, .ref hA5, .ref hA6, .ref hA7, g8, g9, g10, g11, .int tq])), (h0, .inr (10, [.int fl, .int pl, .ref hCd, w3, .int i4, .int i5, w6, .ref hQ, .int (nI x1), .int (nI z1), w10, .int i11])), (hQ, .inr (11, [.ref hKi, .ref hPl, .ref hNu, y3, .int j4, .int j5, y6])), (hKi, .inl (cI, 2001, .inl kf)), (hPl, .inl (cI, 2001, .inl pf)), (hNu, .inl (cJ, 2001, .inr (.inl vf)))] := hD
  have hK : va_K (dC, dI) vwCl [(cB, .byte), (cI, .int), (cJ, .long), (cZ, .boolean)] s := hK
  have hP9 := hP.sub (ws' := [(h0, .inr (10, [.int fl, .int pl, .ref hCd, w3, .int i4, .int i5, w6, .ref hQ, .int (nI x1), .int (nI z1), w10, .int i11])), (hQ, .inr (11, [.ref hKi, .ref hPl, .ref hNu, y3, .int j4, .int j5, y6])), (hKi, .inl (cI, 2001, .inl kf)), (hPl, .inl (cI, 2001, .inl pf)), (hNu, .inl (cJ, 2001, .inr (.inl vf))), (hCd, .inr (2, [.int (nI s1), .ref hA1, .ref hA2, .ref hA3, .ref hA4, .ref hA5, .ref hA6, .ref hA7, g8, g9, g10, g11, .int tq]))]) [1, 2, 3, 4, 5, 0] rfl
  have hD9 := hD.sub (ws' := [(h0, .inr (10, [.int fl, .int pl, .ref hCd, w3, .int i4, .int i5, w6, .ref hQ, .int (nI x1), .int (nI z1), w10, .int i11])), (hQ, .inr (11, [.ref hKi, .ref hPl, .ref hNu, y3, .int j4, .int j5, y6])), (hKi, .inl (cI, 2001, .inl kf)), (hPl, .inl (cI, 2001, .inl pf)), (hNu, .inl (cJ, 2001, .inr (.inl vf))), (hCd, .inr (2, [.int (nI s1), .ref hA1, .ref hA2, .ref hA3, .ref hA4, .ref hA5, .ref hA6, .ref hA7, g8, g9, g10, g11, .int tq]))]) [1, 2, 3, 4, 5, 0] (by decide) rfl
  have hK9 := hK.sub (tys' := [(cB, .byte), (cI, .int), (cJ, .long), (cZ, .boolean)]) [0, 1, 2, 3] rfl
  exact W.vret hx hb hr (fun t_ ht hW => ⟨⟨(), rfl, trivial, by rw [ht]; exact hP9, va_K.moved hW.alike hK9, hD9⟩, hS.F ht⟩) hS.2.2 dX9_readOne_191
theorem dX9_readSign_0 : decode cX9_readSign 0 = .ok (.aload_n 0, 1) := by decide +kernel
theorem dX9_readSign_1 : decode cX9_readSign 1 = .ok (.invokevirtual 114, 3) := by decide +kernel
theorem dX9_readSign_4 : decode cX9_readSign 4 = .ok (.bipush 46, 2) := by decide +kernel
theorem dX9_readSign_6 : decode cX9_readSign 6 = .ok (.if_icmp .eq 8, 3) := by decide +kernel
theorem dX9_readSign_9 : decode cX9_readSign 9 = .ok (.aload_n 0, 1) := by decide +kernel
theorem dX9_readSign_10 : decode cX9_readSign 10 = .ok (.invokevirtual 328, 3) := by decide +kernel
theorem dX9_readSign_13 : decode cX9_readSign 13 = .ok (.return_, 1) := by decide +kernel
theorem dX9_readSign_14 : decode cX9_readSign 14 = .ok (.aload_n 0, 1) := by decide +kernel
theorem dX9_readSign_15 : decode cX9_readSign 15 = .ok (.getfield 26, 3) := by decide +kernel
theorem dX9_readSign_18 : decode cX9_readSign 18 = .ok (.getfield 296, 3) := by decide +kernel
theorem dX9_readSign_21 : decode cX9_readSign 21 = .ok (.istore_n 1, 1) := by decide +kernel
theorem dX9_readSign_22 : decode cX9_readSign 22 = .ok (.aload_n 0, 1) := by decide +kernel
theorem dX9_readSign_23 : decode cX9_readSign 23 = .ok (.invokevirtual 118, 3) := by decide +kernel
theorem dX9_readSign_26 : decode cX9_readSign 26 = .ok (.istore_n 2, 1) := by decide +kernel
theorem dX9_readSign_27 : decode cX9_readSign 27 = .ok (.aload_n 0, 1) := by decide +kernel
theorem dX9_readSign_28 : decode cX9_readSign 28 = .ok (.invokevirtual 266, 3) := by decide +kernel
theorem dX9_readSign_31 : decode cX9_readSign 31 = .ok (.aload_n 0, 1) := by decide +kernel
theorem dX9_readSign_32 : decode cX9_readSign 32 = .ok (.bipush 46, 2) := by decide +kernel
theorem dX9_readSign_34 : decode cX9_readSign 34 = .ok (.invokevirtual 48, 3) := by decide +kernel
theorem dX9_readSign_37 : decode cX9_readSign 37 = .ok (.pop, 1) := by decide +kernel
theorem dX9_readSign_38 : decode cX9_readSign 38 = .ok (.aload_n 0, 1) := by decide +kernel
theorem dX9_readSign_39 : decode cX9_readSign 39 = .ok (.getfield 93, 3) := by decide +kernel
theorem dX9_readSign_42 : decode cX9_readSign 42 = .ok (.ifCond .ne 7, 3) := by decide +kernel
theorem dX9_readSign_45 : decode cX9_readSign 45 = .ok (.aload_n 0, 1) := by decide +kernel
theorem dX9_readSign_46 : decode cX9_readSign 46 = .ok (.invokevirtual 325, 3) := by decide +kernel
theorem dX9_readSign_49 : decode cX9_readSign 49 = .ok (.aload_n 0, 1) := by decide +kernel
theorem dX9_readSign_50 : decode cX9_readSign 50 = .ok (.dup, 1) := by decide +kernel
theorem dX9_readSign_51 : decode cX9_readSign 51 = .ok (.getfield 275, 3) := by decide +kernel
theorem dX9_readSign_54 : decode cX9_readSign 54 = .ok (.iconst 1, 1) := by decide +kernel
theorem dX9_readSign_55 : decode cX9_readSign 55 = .ok (.isub, 1) := by decide +kernel
theorem dX9_readSign_56 : decode cX9_readSign 56 = .ok (.putfield 275, 3) := by decide +kernel
theorem dX9_readSign_59 : decode cX9_readSign 59 = .ok (.aload_n 0, 1) := by decide +kernel
theorem dX9_readSign_60 : decode cX9_readSign 60 = .ok (.bipush 58, 2) := by decide +kernel
theorem dX9_readSign_62 : decode cX9_readSign 62 = .ok (.iload_n 1, 1) := by decide +kernel
theorem dX9_readSign_63 : decode cX9_readSign 63 = .ok (.iload_n 2, 1) := by decide +kernel
theorem dX9_readSign_64 : decode cX9_readSign 64 = .ok (.iload_n 2, 1) := by decide +kernel
theorem dX9_readSign_65 : decode cX9_readSign 65 = .ok (.iconst 1, 1) := by decide +kernel
theorem dX9_readSign_66 : decode cX9_readSign 66 = .ok (.invokevirtual 305, 3) := by decide +kernel
theorem dX9_readSign_69 : decode cX9_readSign 69 = .ok (.pop, 1) := by decide +kernel
theorem dX9_readSign_70 : decode cX9_readSign 70 = .ok (.return_, 1) := by decide +kernel
abbrev cs_t_X9_readSign_f (cB cI cJ cZ : ClassId) (h0 hQ hKi hPl hNu : Nat) (kf pf : Nat → Int32) (vf : Nat → Int64) (fl pl : Int32) (w3 : Value) (i4 i5 : Int32) (w6 : Value) (x1 z1 : Nat) (w10 : Value) (i11 : Int32) (y3 : Value) (j4 j5 : Int32) (y6 : Value) (hCd hA1 hA2 hA3 hA4 hA5 hA6 hA7 s1 : Nat) (g8 g9 g10 g11 : Value) (tq : Int32) : va_W := [(h0, .inr (10, [.int fl, .int pl, .ref hCd, w3, .int i4, .int i5, w6, .ref hQ, .int (nI x1), .int (nI z1), w10, .int i11])), (hQ, .inr (11, [.ref hKi, .ref hPl, .ref hNu, y3, .int j4, .int j5, y6])), (hKi, .inl (cI, 2001, .inl kf)), (hPl, .inl (cI, 2001, .inl pf)), (hNu, .inl (cJ, 2001, .inr (.inl vf))), (hCd, .inr (2, [.int (nI s1), .ref hA1, .ref hA2, .ref hA3, .ref hA4, .ref hA5, .ref hA6, .ref hA7, g8, g9, g10, g11, .int tq]))]
abbrev pc_t_X9_readSign_f (dC : Nat → ClassId) (dI : Nat → Nat → Nat) (sz : Nat) (cB cI cJ cZ : ClassId) (h0 hQ hKi hPl hNu : Nat) (kf pf : Nat → Int32) (vf : Nat → Int64) (fl pl : Int32) (w3 : Value) (i4 i5 : Int32) (w6 : Value) (x1 z1 : Nat) (w10 : Value) (i11 : Int32) (y3 : Value) (j4 j5 : Int32) (y6 : Value) (hCd hA1 hA2 hA3 hA4 hA5 hA6 hA7 s1 : Nat) (g8 g9 g10 g11 : Value) (tq : Int32) : Array Value → State → Prop := va_Pc [.ref h0] (fun U => U.heap.size = sz ∧ va_P (dC, dI) vwCl [(h0, .inr (10, [.int fl, .int pl, .ref hCd, w3, .int i4, .int i5, w6, .ref hQ, .int (nI x1), .int (nI z1), w10, .int i11])), (hQ, .inr (11, [.ref hKi, .ref hPl, .ref hNu, y3, .int j4, .int j5, y6])), (hKi, .inl (cI, 2001, .inl kf)), (hPl, .inl (cI, 2001, .inl pf)), (hNu, .inl (cJ, 2001, .inr (.inl vf))), (hCd, .inr (2, [.int (nI s1), .ref hA1, .ref hA2, .ref hA3, .ref hA4, .ref hA5, .ref hA6, .ref hA7, g8, g9, g10, g11, .int tq]))] U.heap ∧ va_K (dC, dI) vwCl [(cB, .byte), (cI, .int), (cJ, .long), (cZ, .boolean)] U ∧ va_D (fun _ => True) [(h0, .inr (10, [.int fl, .int pl, .ref hCd, w3, .int i4, .int i5, w6, .ref hQ, .int (nI x1), .int (nI z1), w10, .int i11])), (hQ, .inr (11, [.ref hKi, .ref hPl, .ref hNu, y3, .int j4, .int j5, y6])), (hKi, .inl (cI, 2001, .inl kf)), (hPl, .inl (cI, 2001, .inl pf)), (hNu, .inl (cJ, 2001, .inr (.inl vf))), (hCd, .inr (2, [.int (nI s1), .ref hA1, .ref hA2, .ref hA3, .ref hA4, .ref hA5, .ref hA6, .ref hA7, g8, g9, g10, g11, .int tq]))])
abbrev qc_t_X9_readSign_f (dC : Nat → ClassId) (dI : Nat → Nat → Nat) (cB cI cJ cZ : ClassId) (h0 hQ hKi hPl hNu : Nat) (kf pf : Nat → Int32) (vf : Nat → Int64) (fl pl : Int32) (w3 : Value) (i4 i5 : Int32) (w6 : Value) (x1 z1 : Nat) (w10 : Value) (i11 : Int32) (y3 : Value) (j4 j5 : Int32) (y6 : Value) (hCd hA1 hA2 hA3 hA4 hA5 hA6 hA7 s1 : Nat) (g8 g9 g10 g11 : Value) (tq : Int32) (A : Nat → Prop) : Array Value → State → Outcome → State → Prop := va_Qv (fun (u : Unit) => match u with | _ => True) (fun (u : Unit) t_ => match u with | _ => va_P (dC, dI) vwCl [(h0, .inr (10, [.int fl, .int pl, .ref hCd, w3, .int i4, .int i5, w6, .ref hQ, .int (nI x1), .int (nI z1), w10, .int i11])), (hQ, .inr (11, [.ref hKi, .ref hPl, .ref hNu, y3, .int j4, .int j5, y6])), (hKi, .inl (cI, 2001, .inl kf)), (hPl, .inl (cI, 2001, .inl pf)), (hNu, .inl (cJ, 2001, .inr (.inl vf))), (hCd, .inr (2, [.int (nI s1), .ref hA1, .ref hA2, .ref hA3, .ref hA4, .ref hA5, .ref hA6, .ref hA7, g8, g9, g10, g11, .int tq]))] t_.heap ∧ va_K (dC, dI) vwCl [(cB, .byte), (cI, .int), (cJ, .long), (cZ, .boolean)] t_ ∧ va_D A [(h0, .inr (10, [.int fl, .int pl, .ref hCd, w3, .int i4, .int i5, w6, .ref hQ, .int (nI x1), .int (nI z1), w10, .int i11])), (hQ, .inr (11, [.ref hKi, .ref hPl, .ref hNu, y3, .int j4, .int j5, y6])), (hKi, .inl (cI, 2001, .inl kf)), (hPl, .inl (cI, 2001, .inl pf)), (hNu, .inl (cJ, 2001, .inr (.inl vf))), (hCd, .inr (2, [.int (nI s1), .ref hA1, .ref hA2, .ref hA3, .ref hA4, .ref hA5, .ref hA6, .ref hA7, g8, g9, g10, g11, .int tq]))]) A
set_option maxHeartbeats 4000000 in
set_option maxRecDepth 100000 in
theorem t_X9_readSign_f (l : Launch) (dC : Nat → ClassId) (dI : Nat → Nat → Nat) (sz : Nat) (cB cI cJ cZ : ClassId) (h0 hQ hKi hPl hNu : Nat) (kf pf : Nat → Int32) (vf : Nat → Int64) (fl pl : Int32) (w3 : Value) (i4 i5 : Int32) (w6 : Value) (x1 z1 : Nat) (w10 : Value) (i11 : Int32) (y3 : Value) (j4 j5 : Int32) (y6 : Value) (hCd hA1 hA2 hA3 hA4 hA5 hA6 hA7 s1 : Nat) (g8 g9 g10 g11 : Value) (tq : Int32) (hx1 : x1 ≤ 2000) (hfl : ¬ fl = 0) : Met l yX9_readSign (wsOf yX9_readSign cX9_readSign 3 none) ({ frames := 3, cells := 0, slots := 0, locals := 180 }) (pc_t_X9_readSign_f dC dI sz cB cI cJ cZ h0 hQ hKi hPl hNu kf pf vf fl pl w3 i4 i5 w6 x1 z1 w10 i11 y3 j4 j5 y6 hCd hA1 hA2 hA3 hA4 hA5 hA6 hA7 s1 g8 g9 g10 g11 tq) (qc_t_X9_readSign_f dC dI cB cI cJ cZ h0 hQ hKi hPl hNu kf pf vf fl pl w3 i4 i5 w6 x1 z1 w10 i11 y3 j4 j5 y6 hCd hA1 hA2 hA3 hA4 hA5 hA6 hA7 s1 g8 g9 g10 g11 tq (va_A (cs_t_X9_readSign_f cB cI cJ cZ h0 hQ hKi hPl hNu kf pf vf fl pl w3 i4 i5 w6 x1 z1 w10 i11 y3 j4 j5 y6 hCd hA1 hA2 hA3 hA4 hA5 hA6 hA7 s1 g8 g9 g10 g11 tq) sz)) 0 0 (va_A (cs_t_X9_readSign_f cB cI cJ cZ h0 hQ hKi hPl hNu kf pf vf fl pl w3 i4 i5 w6 x1 z1 w10 i11 y3 j4 j5 y6 hCd hA1 hA2 hA3 hA4 hA5 hA6 hA7 s1 g8 g9 g10 g11 tq) sz) := by
  refine Met.ofW (cc := cX9_readSign) (maxL := 3) (ret := none) (by decide) rfl ?_
  intro p e s m args below meth c s₁ B hml hv
  obtain ⟨rfl, hsz, hP, hK, hD0⟩ := hv
  have hx := B.exec
  have hb := B.bytes
  have hr := B.returns
  have hts := atoms_spec (ws := (wsOf yX9_readSign cX9_readSign 3 none)) B.pre
  have hown : s.vm.findClass RX9 = some m.cls := findClass_of_methodNamed B.named
  have hlocks := B.notSynchronized
  subst hsz
  have hD := hD0.self (sz := s.heap.size)
  generalize hAe : va_A (cs_t_X9_readSign_f cB cI cJ cZ h0 hQ hKi hPl hNu kf pf vf fl pl w3 i4 i5 w6 x1 z1 w10 i11 y3 j4 j5 y6 hCd hA1 hA2 hA3 hA4 hA5 hA6 hA7 s1 g8 g9 g10 g11 tq) s.heap.size = A at hD ⊢
  have hA : ∀ q : Nat, s.heap.size ≤ q → A q := fun q h => by rw [← hAe]; exact Or.inr h
  have hS : va_S A s.heap s.heap [] := va_S.rf
  have hP : va_P (dC, dI) vwCl [(h0, .inr (10, [.int fl, .int pl, .ref hCd, w3, .int i4, .int i5, w6, .ref hQ, .int (nI x1), .int (nI z1), w10, .int i11])), (hQ, .inr (11, [.ref hKi, .ref hPl, .ref hNu, y3, .int j4, .int j5, y6])), (hKi, .inl (cI, 2001, .inl kf)), (hPl, .inl (cI, 2001, .inl pf)), (hNu, .inl (cJ, 2001, .inr (.inl vf))), (hCd, .inr (2, [.int (nI s1), .ref hA1, .ref hA2, .ref hA3, .ref hA4, .ref hA5, .ref hA6, .ref hA7, g8, g9, g10, g11, .int tq]))] s.heap := hP
  have hl := lv_entry ([.ref h0]) (n := 3) (Nat.le_of_ble_eq_true rfl)
  rw [lg_entry_eq]
  generalize (lg_sl ([.ref h0]) ++ List.replicate (3 - (lg_sl ([.ref h0])).length) Slot.unset).toArray = ls at hl ⊢
  have hl : lv_has ls 3 [(0, .ref h0)] := hl
  refine lv_aload_n hx hb dX9_readSign_0 rfl (lv_at hl 0 rfl) ?_
  have hPc := hP.sub (ws' := [(h0, .inr (10, [.int fl, .int pl, .ref hCd, w3, .int i4, .int i5, w6, .ref hQ, .int (nI x1), .int (nI z1), w10, .int i11])), (hQ, .inr (11, [.ref hKi, .ref hPl, .ref hNu, y3, .int j4, .int j5, y6])), (hKi, .inl (cI, 2001, .inl kf)), (hPl, .inl (cI, 2001, .inl pf)), (hNu, .inl (cJ, 2001, .inr (.inl vf)))]) [0, 1, 2, 3, 4] rfl
  have hDc := hD.sub (ws' := [(h0, .inr (10, [.int fl, .int pl, .ref hCd, w3, .int i4, .int i5, w6, .ref hQ, .int (nI x1), .int (nI z1), w10, .int i11])), (hQ, .inr (11, [.ref hKi, .ref hPl, .ref hNu, y3, .int j4, .int j5, y6])), (hKi, .inl (cI, 2001, .inl kf)), (hPl, .inl (cI, 2001, .inl pf)), (hNu, .inl (cJ, 2001, .inr (.inl vf)))]) [0, 1, 2, 3, 4] (by decide) rfl
  have hKc := hK.sub (tys' := [(cB, .byte), (cI, .int), (cJ, .long), (cZ, .boolean)]) [0, 1, 2, 3] rfl
  have hFc := va_free (wc := [(h0, .inr (10, [.int fl, .int pl, .ref hCd, w3, .int i4, .int i5, w6, .ref hQ, .int (nI x1), .int (nI z1), w10, .int i11])), (hQ, .inr (11, [.ref hKi, .ref hPl, .ref hNu, y3, .int j4, .int j5, y6])), (hKi, .inl (cI, 2001, .inl kf)), (hPl, .inl (cI, 2001, .inl pf)), (hNu, .inl (cJ, 2001, .inr (.inl vf)))]) hD hS hA [0, 1, 2, 3, 4] rfl
  refine va_calli (va_runV (As := []) (rest := []) ⟨hx, hb, hml, hown, hts⟩ (t_X9_kind l dC dI s.heap.size cB cI cJ cZ h0 hQ hKi hPl hNu kf pf vf fl pl (.ref hCd) w3 i4 i5 w6 x1 z1 w10 i11 y3 j4 j5 y6  hx1) (cwV 0 hts (gd_all (in_V kw_907 kw_909 kw_12 kw_193 kc_X9_kind)) rfl rfl rfl (by decide +kernel) ⟨Nat.le_of_ble_eq_true rfl, Nat.le_of_ble_eq_true rfl⟩) ⟨fun a U g mk q => by obtain ⟨q0, q1, qP, qK, qD⟩ := q; exact ⟨q0, q1, qP, va_K.moved (u := U) (U := U.calling g mk a) (Vm.Alike.refl U.vm) qK, qD⟩, va_recv hKc hPc (ci := 10) (q0 := 0) rfl rfl, fun U hU hW => ⟨rfl, by rw [hU], by rw [hU]; exact hPc, va_K.moved hW.alike hKc, hDc.weaken (fun _ _ _ _ => trivial)⟩⟩ rfl rfl hl.1 rfl (lv_room (Nat.le_of_ble_eq_true rfl)) dX9_readSign_1 ⟨Nat.le_of_ble_eq_true rfl, Nat.le_of_ble_eq_true rfl⟩) hS (fun q _ h => hFc q h) hFc (fun r_1 u t_ H1 locs ht hvm hw hB hz1 hk1 hS => ?_)
  obtain ⟨hP1, hK1, hD1⟩ := hB
  rw [ht] at hP1
  have hK1 := va_K.moved hvm.symm hK1
  obtain ⟨hP, hD⟩ := va_join (wr := [(hCd, .inr (2, [.int (nI s1), .ref hA1, .ref hA2, .ref hA3, .ref hA4, .ref hA5, .ref hA6, .ref hA7, g8, g9, g10, g11, .int tq]))]) (w1 := [(h0, .inr (10, [.int fl, .int pl, .ref hCd, w3, .int i4, .int i5, w6, .ref hQ, .int (nI x1), .int (nI z1), w10, .int i11])), (hQ, .inr (11, [.ref hKi, .ref hPl, .ref hNu, y3, .int j4, .int j5, y6])), (hKi, .inl (cI, 2001, .inl kf)), (hPl, .inl (cI, 2001, .inl pf)), (hNu, .inl (cJ, 2001, .inr (.inl vf)))]) hP hD [0, 1, 2, 3, 4] [5] rfl rfl (by decide) (by decide) hk1 hFc hP1 hD1
  have hK := (hK.sub (tys' := []) [] rfl).app hK1
  generalize H1 = H at hP hS ⊢
  have hP : va_P (dC, dI) vwCl [(hCd, .inr (2, [.int (nI s1), .ref hA1, .ref hA2, .ref hA3, .ref hA4, .ref hA5, .ref hA6, .ref hA7, g8, g9, g10, g11, .int tq])), (h0, .inr (10, [.int fl, .int pl, .ref hCd, w3, .int i4, .int i5, w6, .ref hQ, .int (nI x1), .int (nI z1), w10, .int i11])), (hQ, .inr (11, [.ref hKi, .ref hPl, .ref hNu, y3, .int j4, .int j5, y6])), (hKi, .inl (cI, 2001, .inl kf)), (hPl, .inl (cI, 2001, .inl pf)), (hNu, .inl (cJ, 2001, .inr (.inl vf)))] H := hP
  have hD : va_D A [(hCd, .inr (2, [.int (nI s1), .ref hA1, .ref hA2, .ref hA3, .ref hA4, .ref hA5, .ref hA6, .ref hA7, g8, g9, g10, g11, .int tq])), (h0, .inr (10, [.int fl, .int pl, .ref hCd, w3, .int i4, .int i5, w6, .ref hQ, .int (nI x1), .int (nI z1), w10, .int i11])), (hQ, .inr (11, [.ref hKi, .ref hPl, .ref hNu, y3, .int j4, .int j5, y6])), (hKi, .inl (cI, 2001, .inl kf)), (hPl, .inl (cI, 2001, .inl pf)), (hNu, .inl (cJ, 2001, .inr (.inl vf)))] := hD
  have hK : va_K (dC, dI) vwCl [(cB, .byte), (cI, .int), (cJ, .long), (cZ, .boolean)] s := hK
  have er_1 : r_1 = 57 := hw.trans (if_neg hfl)
  rw [er_1]
  refine lv_bipush (v := 46) hx hb dX9_readSign_4 (by decide) ?_
  refine lv_icmp_eq (tgt := 14) hx hb dX9_readSign_6 (by decide) (fun c_2 => ?_) (fun c_2 => ?_)
  · skip
    exact absurd c_2 (by decide)
  · skip
    refine lv_aload_n hx hb dX9_readSign_9 rfl (lv_at hl 0 rfl) ?_
    have hPc := hP.sub (ws' := [(h0, .inr (10, [.int fl, .int pl, .ref hCd, w3, .int i4, .int i5, w6, .ref hQ, .int (nI x1), .int (nI z1), w10, .int i11])), (hQ, .inr (11, [.ref hKi, .ref hPl, .ref hNu, y3, .int j4, .int j5, y6])), (hKi, .inl (cI, 2001, .inl kf)), (hPl, .inl (cI, 2001, .inl pf)), (hNu, .inl (cJ, 2001, .inr (.inl vf))), (hCd, .inr (2, [.int (nI s1), .ref hA1, .ref hA2, .ref hA3, .ref hA4, .ref hA5, .ref hA6, .ref hA7, g8, g9, g10, g11, .int tq]))]) [1, 2, 3, 4, 5, 0] rfl
    have hDc := hD.sub (ws' := [(h0, .inr (10, [.int fl, .int pl, .ref hCd, w3, .int i4, .int i5, w6, .ref hQ, .int (nI x1), .int (nI z1), w10, .int i11])), (hQ, .inr (11, [.ref hKi, .ref hPl, .ref hNu, y3, .int j4, .int j5, y6])), (hKi, .inl (cI, 2001, .inl kf)), (hPl, .inl (cI, 2001, .inl pf)), (hNu, .inl (cJ, 2001, .inr (.inl vf))), (hCd, .inr (2, [.int (nI s1), .ref hA1, .ref hA2, .ref hA3, .ref hA4, .ref hA5, .ref hA6, .ref hA7, g8, g9, g10, g11, .int tq]))]) [1, 2, 3, 4, 5, 0] (by decide) rfl
    have hKc := hK.sub (tys' := [(cB, .byte), (cI, .int), (cJ, .long), (cZ, .boolean)]) [0, 1, 2, 3] rfl
    have hFc := va_free (wc := [(h0, .inr (10, [.int fl, .int pl, .ref hCd, w3, .int i4, .int i5, w6, .ref hQ, .int (nI x1), .int (nI z1), w10, .int i11])), (hQ, .inr (11, [.ref hKi, .ref hPl, .ref hNu, y3, .int j4, .int j5, y6])), (hKi, .inl (cI, 2001, .inl kf)), (hPl, .inl (cI, 2001, .inl pf)), (hNu, .inl (cJ, 2001, .inr (.inl vf))), (hCd, .inr (2, [.int (nI s1), .ref hA1, .ref hA2, .ref hA3, .ref hA4, .ref hA5, .ref hA6, .ref hA7, g8, g9, g10, g11, .int tq]))]) hD hS hA [1, 2, 3, 4, 5, 0] rfl
    refine va_callv (va_runV (As := []) (rest := []) ⟨hx, hb, hml, hown, hts⟩ (t_X9_readOne_f l dC dI H.size cB cI cJ cZ h0 hQ hKi hPl hNu kf pf vf fl pl w3 i4 i5 w6 x1 z1 w10 i11 y3 j4 j5 y6 hCd hA1 hA2 hA3 hA4 hA5 hA6 hA7 s1 g8 g9 g10 g11 tq   hx1 hfl) (cwV 0 hts (gd_all (in_V kw_975 kw_977 kw_27 kw_193 kc_X9_readOne)) rfl rfl rfl (by decide +kernel) ⟨Nat.le_of_ble_eq_true rfl, Nat.le_of_ble_eq_true rfl⟩) ⟨fun a U g mk q => by obtain ⟨q0, q1, qP, qK, qD⟩ := q; exact ⟨q0, q1, qP, va_K.moved (u := U) (U := U.calling g mk a) (Vm.Alike.refl U.vm) qK, qD⟩, va_recv hKc hPc (ci := 10) (q0 := 0) rfl rfl, fun U hU hW => ⟨rfl, by rw [hU], by rw [hU]; exact hPc, va_K.moved hW.alike hKc, hDc.weaken (fun _ _ _ _ => trivial)⟩⟩ rfl rfl hl.1 rfl (lv_room (Nat.le_of_ble_eq_true rfl)) dX9_readSign_10 ⟨Nat.le_of_ble_eq_true rfl, Nat.le_of_ble_eq_true rfl⟩) hS (fun q _ h => hFc q h) hFc (fun u t_ H1 locs ht hvm hw hB hz1 hk1 hS => ?_)
    obtain ⟨hP1, hK1, hD1⟩ := hB
    rw [ht] at hP1
    have hK1 := va_K.moved hvm.symm hK1
    obtain ⟨hP, hD⟩ := va_join (wr := []) (w1 := [(h0, .inr (10, [.int fl, .int pl, .ref hCd, w3, .int i4, .int i5, w6, .ref hQ, .int (nI x1), .int (nI z1), w10, .int i11])), (hQ, .inr (11, [.ref hKi, .ref hPl, .ref hNu, y3, .int j4, .int j5, y6])), (hKi, .inl (cI, 2001, .inl kf)), (hPl, .inl (cI, 2001, .inl pf)), (hNu, .inl (cJ, 2001, .inr (.inl vf))), (hCd, .inr (2, [.int (nI s1), .ref hA1, .ref hA2, .ref hA3, .ref hA4, .ref hA5, .ref hA6, .ref hA7, g8, g9, g10, g11, .int tq]))]) hP hD [1, 2, 3, 4, 5, 0] [] rfl rfl (by decide) (by decide) hk1 hFc hP1 hD1
    have hK := (hK.sub (tys' := []) [] rfl).app hK1
    generalize H1 = H at hP hS ⊢
    have hP : va_P (dC, dI) vwCl [(h0, .inr (10, [.int fl, .int pl, .ref hCd, w3, .int i4, .int i5, w6, .ref hQ, .int (nI x1), .int (nI z1), w10, .int i11])), (hQ, .inr (11, [.ref hKi, .ref hPl, .ref hNu, y3, .int j4, .int j5, y6])), (hKi, .inl (cI, 2001, .inl kf)), (hPl, .inl (cI, 2001, .inl pf)), (hNu, .inl (cJ, 2001, .inr (.inl vf))), (hCd, .inr (2, [.int (nI s1), .ref hA1, .ref hA2, .ref hA3, .ref hA4, .ref hA5, .ref hA6, .ref hA7, g8, g9, g10, g11, .int tq]))] H := hP
    have hD : va_D A [(h0, .inr (10, [.int fl, .int pl, .ref hCd, w3, .int i4, .int i5, w6, .ref hQ, .int (nI x1), .int (nI z1), w10, .int i11])), (hQ, .inr (11, [.ref hKi, .ref hPl, .ref hNu, y3, .int j4, .int j5, y6])), (hKi, .inl (cI, 2001, .inl kf)), (hPl, .inl (cI, 2001, .inl pf)), (hNu, .inl (cJ, 2001, .inr (.inl vf))), (hCd, .inr (2, [.int (nI s1), .ref hA1, .ref hA2, .ref hA3, .ref hA4, .ref hA5, .ref hA6, .ref hA7, g8, g9, g10, g11, .int tq]))] := hD
    have hK : va_K (dC, dI) vwCl [(cB, .byte), (cI, .int), (cJ, .long), (cZ, .boolean)] s := hK
    have hP9 := hP.sub (ws' := [(h0, .inr (10, [.int fl, .int pl, .ref hCd, w3, .int i4, .int i5, w6, .ref hQ, .int (nI x1), .int (nI z1), w10, .int i11])), (hQ, .inr (11, [.ref hKi, .ref hPl, .ref hNu, y3, .int j4, .int j5, y6])), (hKi, .inl (cI, 2001, .inl kf)), (hPl, .inl (cI, 2001, .inl pf)), (hNu, .inl (cJ, 2001, .inr (.inl vf))), (hCd, .inr (2, [.int (nI s1), .ref hA1, .ref hA2, .ref hA3, .ref hA4, .ref hA5, .ref hA6, .ref hA7, g8, g9, g10, g11, .int tq]))]) [0, 1, 2, 3, 4, 5] rfl
    have hD9 := hD.sub (ws' := [(h0, .inr (10, [.int fl, .int pl, .ref hCd, w3, .int i4, .int i5, w6, .ref hQ, .int (nI x1), .int (nI z1), w10, .int i11])), (hQ, .inr (11, [.ref hKi, .ref hPl, .ref hNu, y3, .int j4, .int j5, y6])), (hKi, .inl (cI, 2001, .inl kf)), (hPl, .inl (cI, 2001, .inl pf)), (hNu, .inl (cJ, 2001, .inr (.inl vf))), (hCd, .inr (2, [.int (nI s1), .ref hA1, .ref hA2, .ref hA3, .ref hA4, .ref hA5, .ref hA6, .ref hA7, g8, g9, g10, g11, .int tq]))]) [0, 1, 2, 3, 4, 5] (by decide) rfl
    have hK9 := hK.sub (tys' := [(cB, .byte), (cI, .int), (cJ, .long), (cZ, .boolean)]) [0, 1, 2, 3] rfl
    exact W.vret hx hb hr (fun t_ ht hW => ⟨⟨(), rfl, trivial, by rw [ht]; exact hP9, va_K.moved hW.alike hK9, hD9⟩, hS.F ht⟩) hS.2.2 dX9_readSign_13
theorem dX9_readPart_0 : decode cX9_readPart 0 = .ok (.aload_n 0, 1) := by decide +kernel
theorem dX9_readPart_1 : decode cX9_readPart 1 = .ok (.getfield 26, 3) := by decide +kernel
theorem dX9_readPart_4 : decode cX9_readPart 4 = .ok (.getfield 296, 3) := by decide +kernel
theorem dX9_readPart_7 : decode cX9_readPart 7 = .ok (.istore_n 1, 1) := by decide +kernel
theorem dX9_readPart_8 : decode cX9_readPart 8 = .ok (.aload_n 0, 1) := by decide +kernel
theorem dX9_readPart_9 : decode cX9_readPart 9 = .ok (.invokevirtual 118, 3) := by decide +kernel
theorem dX9_readPart_12 : decode cX9_readPart 12 = .ok (.istore_n 2, 1) := by decide +kernel
theorem dX9_readPart_13 : decode cX9_readPart 13 = .ok (.aload_n 0, 1) := by decide +kernel
theorem dX9_readPart_14 : decode cX9_readPart 14 = .ok (.invokevirtual 325, 3) := by decide +kernel
theorem dX9_readPart_17 : decode cX9_readPart 17 = .ok (.iconst 0, 1) := by decide +kernel
theorem dX9_readPart_18 : decode cX9_readPart 18 = .ok (.istore_n 3, 1) := by decide +kernel
theorem dX9_readPart_19 : decode cX9_readPart 19 = .ok (.iload_n 3, 1) := by decide +kernel
theorem dX9_readPart_20 : decode cX9_readPart 20 = .ok (.sipush 2000, 3) := by decide +kernel
theorem dX9_readPart_23 : decode cX9_readPart 23 = .ok (.if_icmp .ge 74, 3) := by decide +kernel
theorem dX9_readPart_26 : decode cX9_readPart 26 = .ok (.aload_n 0, 1) := by decide +kernel
theorem dX9_readPart_27 : decode cX9_readPart 27 = .ok (.invokevirtual 114, 3) := by decide +kernel
theorem dX9_readPart_30 : decode cX9_readPart 30 = .ok (.bipush 47, 2) := by decide +kernel
theorem dX9_readPart_32 : decode cX9_readPart 32 = .ok (.if_icmp .eq 21, 3) := by decide +kernel
theorem dX9_readPart_35 : decode cX9_readPart 35 = .ok (.aload_n 0, 1) := by decide +kernel
theorem dX9_readPart_36 : decode cX9_readPart 36 = .ok (.invokevirtual 114, 3) := by decide +kernel
theorem dX9_readPart_39 : decode cX9_readPart 39 = .ok (.bipush 48, 2) := by decide +kernel
theorem dX9_readPart_41 : decode cX9_readPart 41 = .ok (.if_icmp .eq 12, 3) := by decide +kernel
theorem dX9_readPart_44 : decode cX9_readPart 44 = .ok (.aload_n 0, 1) := by decide +kernel
theorem dX9_readPart_45 : decode cX9_readPart 45 = .ok (.invokevirtual 114, 3) := by decide +kernel
theorem dX9_readPart_48 : decode cX9_readPart 48 = .ok (.bipush 49, 2) := by decide +kernel
theorem dX9_readPart_50 : decode cX9_readPart 50 = .ok (.if_icmp .ne 47, 3) := by decide +kernel
theorem dX9_readPart_53 : decode cX9_readPart 53 = .ok (.aload_n 0, 1) := by decide +kernel
theorem dX9_readPart_54 : decode cX9_readPart 54 = .ok (.invokevirtual 114, 3) := by decide +kernel
theorem dX9_readPart_57 : decode cX9_readPart 57 = .ok (.istore 4, 2) := by decide +kernel
theorem dX9_readPart_59 : decode cX9_readPart 59 = .ok (.aload_n 0, 1) := by decide +kernel
theorem dX9_readPart_60 : decode cX9_readPart 60 = .ok (.invokevirtual 118, 3) := by decide +kernel
theorem dX9_readPart_63 : decode cX9_readPart 63 = .ok (.istore 5, 2) := by decide +kernel
theorem dX9_readPart_65 : decode cX9_readPart 65 = .ok (.aload_n 0, 1) := by decide +kernel
theorem dX9_readPart_66 : decode cX9_readPart 66 = .ok (.dup, 1) := by decide +kernel
theorem dX9_readPart_67 : decode cX9_readPart 67 = .ok (.getfield 99, 3) := by decide +kernel
theorem dX9_readPart_70 : decode cX9_readPart 70 = .ok (.iconst 1, 1) := by decide +kernel
theorem dX9_readPart_71 : decode cX9_readPart 71 = .ok (.iadd, 1) := by decide +kernel
theorem dX9_readPart_72 : decode cX9_readPart 72 = .ok (.putfield 99, 3) := by decide +kernel
theorem dX9_readPart_75 : decode cX9_readPart 75 = .ok (.aload_n 0, 1) := by decide +kernel
theorem dX9_readPart_76 : decode cX9_readPart 76 = .ok (.invokevirtual 325, 3) := by decide +kernel
theorem dX9_readPart_79 : decode cX9_readPart 79 = .ok (.aload_n 0, 1) := by decide +kernel
theorem dX9_readPart_80 : decode cX9_readPart 80 = .ok (.iload 4, 2) := by decide +kernel
theorem dX9_readPart_82 : decode cX9_readPart 82 = .ok (.iload_n 1, 1) := by decide +kernel
theorem dX9_readPart_83 : decode cX9_readPart 83 = .ok (.iload_n 2, 1) := by decide +kernel
theorem dX9_readPart_84 : decode cX9_readPart 84 = .ok (.iload 5, 2) := by decide +kernel
theorem dX9_readPart_86 : decode cX9_readPart 86 = .ok (.iconst 2, 1) := by decide +kernel
theorem dX9_readPart_87 : decode cX9_readPart 87 = .ok (.invokevirtual 305, 3) := by decide +kernel
theorem dX9_readPart_90 : decode cX9_readPart 90 = .ok (.pop, 1) := by decide +kernel
theorem dX9_readPart_91 : decode cX9_readPart 91 = .ok (.iinc 3 1, 3) := by decide +kernel
theorem dX9_readPart_94 : decode cX9_readPart 94 = .ok (.goto (-75), 3) := by decide +kernel
theorem dX9_readPart_97 : decode cX9_readPart 97 = .ok (.return_, 1) := by decide +kernel
abbrev cs_t_X9_readPart_f (cB cI cJ cZ : ClassId) (h0 hQ hKi hPl hNu : Nat) (kf pf : Nat → Int32) (vf : Nat → Int64) (fl pl : Int32) (w3 : Value) (i4 i5 : Int32) (w6 : Value) (x1 z1 : Nat) (w10 : Value) (i11 : Int32) (y3 : Value) (j4 j5 : Int32) (y6 : Value) (hCd hA1 hA2 hA3 hA4 hA5 hA6 hA7 s1 : Nat) (g8 g9 g10 g11 : Value) (tq : Int32) : va_W := [(h0, .inr (10, [.int fl, .int pl, .ref hCd, w3, .int i4, .int i5, w6, .ref hQ, .int (nI x1), .int (nI z1), w10, .int i11])), (hQ, .inr (11, [.ref hKi, .ref hPl, .ref hNu, y3, .int j4, .int j5, y6])), (hKi, .inl (cI, 2001, .inl kf)), (hPl, .inl (cI, 2001, .inl pf)), (hNu, .inl (cJ, 2001, .inr (.inl vf))), (hCd, .inr (2, [.int (nI s1), .ref hA1, .ref hA2, .ref hA3, .ref hA4, .ref hA5, .ref hA6, .ref hA7, g8, g9, g10, g11, .int tq]))]
abbrev pc_t_X9_readPart_f (dC : Nat → ClassId) (dI : Nat → Nat → Nat) (sz : Nat) (cB cI cJ cZ : ClassId) (h0 hQ hKi hPl hNu : Nat) (kf pf : Nat → Int32) (vf : Nat → Int64) (fl pl : Int32) (w3 : Value) (i4 i5 : Int32) (w6 : Value) (x1 z1 : Nat) (w10 : Value) (i11 : Int32) (y3 : Value) (j4 j5 : Int32) (y6 : Value) (hCd hA1 hA2 hA3 hA4 hA5 hA6 hA7 s1 : Nat) (g8 g9 g10 g11 : Value) (tq : Int32) : Array Value → State → Prop := va_Pc [.ref h0] (fun U => U.heap.size = sz ∧ va_P (dC, dI) vwCl [(h0, .inr (10, [.int fl, .int pl, .ref hCd, w3, .int i4, .int i5, w6, .ref hQ, .int (nI x1), .int (nI z1), w10, .int i11])), (hQ, .inr (11, [.ref hKi, .ref hPl, .ref hNu, y3, .int j4, .int j5, y6])), (hKi, .inl (cI, 2001, .inl kf)), (hPl, .inl (cI, 2001, .inl pf)), (hNu, .inl (cJ, 2001, .inr (.inl vf))), (hCd, .inr (2, [.int (nI s1), .ref hA1, .ref hA2, .ref hA3, .ref hA4, .ref hA5, .ref hA6, .ref hA7, g8, g9, g10, g11, .int tq]))] U.heap ∧ va_K (dC, dI) vwCl [(cB, .byte), (cI, .int), (cJ, .long), (cZ, .boolean)] U ∧ va_D (fun _ => True) [(h0, .inr (10, [.int fl, .int pl, .ref hCd, w3, .int i4, .int i5, w6, .ref hQ, .int (nI x1), .int (nI z1), w10, .int i11])), (hQ, .inr (11, [.ref hKi, .ref hPl, .ref hNu, y3, .int j4, .int j5, y6])), (hKi, .inl (cI, 2001, .inl kf)), (hPl, .inl (cI, 2001, .inl pf)), (hNu, .inl (cJ, 2001, .inr (.inl vf))), (hCd, .inr (2, [.int (nI s1), .ref hA1, .ref hA2, .ref hA3, .ref hA4, .ref hA5, .ref hA6, .ref hA7, g8, g9, g10, g11, .int tq]))])
abbrev qc_t_X9_readPart_f (dC : Nat → ClassId) (dI : Nat → Nat → Nat) (cB cI cJ cZ : ClassId) (h0 hQ hKi hPl hNu : Nat) (kf pf : Nat → Int32) (vf : Nat → Int64) (fl pl : Int32) (w3 : Value) (i4 i5 : Int32) (w6 : Value) (x1 z1 : Nat) (w10 : Value) (i11 : Int32) (y3 : Value) (j4 j5 : Int32) (y6 : Value) (hCd hA1 hA2 hA3 hA4 hA5 hA6 hA7 s1 : Nat) (g8 g9 g10 g11 : Value) (tq : Int32) (A : Nat → Prop) : Array Value → State → Outcome → State → Prop := va_Qv (fun (u : Unit) => match u with | _ => True) (fun (u : Unit) t_ => match u with | _ => va_P (dC, dI) vwCl [(h0, .inr (10, [.int fl, .int pl, .ref hCd, w3, .int i4, .int i5, w6, .ref hQ, .int (nI x1), .int (nI z1), w10, .int i11])), (hQ, .inr (11, [.ref hKi, .ref hPl, .ref hNu, y3, .int j4, .int j5, y6])), (hKi, .inl (cI, 2001, .inl kf)), (hPl, .inl (cI, 2001, .inl pf)), (hNu, .inl (cJ, 2001, .inr (.inl vf))), (hCd, .inr (2, [.int (nI s1), .ref hA1, .ref hA2, .ref hA3, .ref hA4, .ref hA5, .ref hA6, .ref hA7, g8, g9, g10, g11, .int tq]))] t_.heap ∧ va_K (dC, dI) vwCl [(cB, .byte), (cI, .int), (cJ, .long), (cZ, .boolean)] t_ ∧ va_D A [(h0, .inr (10, [.int fl, .int pl, .ref hCd, w3, .int i4, .int i5, w6, .ref hQ, .int (nI x1), .int (nI z1), w10, .int i11])), (hQ, .inr (11, [.ref hKi, .ref hPl, .ref hNu, y3, .int j4, .int j5, y6])), (hKi, .inl (cI, 2001, .inl kf)), (hPl, .inl (cI, 2001, .inl pf)), (hNu, .inl (cJ, 2001, .inr (.inl vf))), (hCd, .inr (2, [.int (nI s1), .ref hA1, .ref hA2, .ref hA3, .ref hA4, .ref hA5, .ref hA6, .ref hA7, g8, g9, g10, g11, .int tq]))]) A
set_option maxHeartbeats 4000000 in
set_option maxRecDepth 100000 in
theorem t_X9_readPart_f (l : Launch) (dC : Nat → ClassId) (dI : Nat → Nat → Nat) (sz : Nat) (cB cI cJ cZ : ClassId) (h0 hQ hKi hPl hNu : Nat) (kf pf : Nat → Int32) (vf : Nat → Int64) (fl pl : Int32) (w3 : Value) (i4 i5 : Int32) (w6 : Value) (x1 z1 : Nat) (w10 : Value) (i11 : Int32) (y3 : Value) (j4 j5 : Int32) (y6 : Value) (hCd hA1 hA2 hA3 hA4 hA5 hA6 hA7 s1 : Nat) (g8 g9 g10 g11 : Value) (tq : Int32) (hx1 : x1 ≤ 2000) (hfl : ¬ fl = 0) : Met l yX9_readPart (wsOf yX9_readPart cX9_readPart 6 none) ({ frames := 4, cells := 0, slots := 0, locals := 240 }) (pc_t_X9_readPart_f dC dI sz cB cI cJ cZ h0 hQ hKi hPl hNu kf pf vf fl pl w3 i4 i5 w6 x1 z1 w10 i11 y3 j4 j5 y6 hCd hA1 hA2 hA3 hA4 hA5 hA6 hA7 s1 g8 g9 g10 g11 tq) (qc_t_X9_readPart_f dC dI cB cI cJ cZ h0 hQ hKi hPl hNu kf pf vf fl pl w3 i4 i5 w6 x1 z1 w10 i11 y3 j4 j5 y6 hCd hA1 hA2 hA3 hA4 hA5 hA6 hA7 s1 g8 g9 g10 g11 tq (va_A (cs_t_X9_readPart_f cB cI cJ cZ h0 hQ hKi hPl hNu kf pf vf fl pl w3 i4 i5 w6 x1 z1 w10 i11 y3 j4 j5 y6 hCd hA1 hA2 hA3 hA4 hA5 hA6 hA7 s1 g8 g9 g10 g11 tq) sz)) 0 0 (va_A (cs_t_X9_readPart_f cB cI cJ cZ h0 hQ hKi hPl hNu kf pf vf fl pl w3 i4 i5 w6 x1 z1 w10 i11 y3 j4 j5 y6 hCd hA1 hA2 hA3 hA4 hA5 hA6 hA7 s1 g8 g9 g10 g11 tq) sz) := by
  refine Met.ofW (cc := cX9_readPart) (maxL := 6) (ret := none) (by decide) rfl ?_
  intro p e s m args below meth c s₁ B hml hv
  obtain ⟨rfl, hsz, hP, hK, hD0⟩ := hv
  have hx := B.exec
  have hb := B.bytes
  have hr := B.returns
  have hts := atoms_spec (ws := (wsOf yX9_readPart cX9_readPart 6 none)) B.pre
  have hown : s.vm.findClass RX9 = some m.cls := findClass_of_methodNamed B.named
  have hlocks := B.notSynchronized
  subst hsz
  have hD := hD0.self (sz := s.heap.size)
  generalize hAe : va_A (cs_t_X9_readPart_f cB cI cJ cZ h0 hQ hKi hPl hNu kf pf vf fl pl w3 i4 i5 w6 x1 z1 w10 i11 y3 j4 j5 y6 hCd hA1 hA2 hA3 hA4 hA5 hA6 hA7 s1 g8 g9 g10 g11 tq) s.heap.size = A at hD ⊢
  have hA : ∀ q : Nat, s.heap.size ≤ q → A q := fun q h => by rw [← hAe]; exact Or.inr h
  have hS : va_S A s.heap s.heap [] := va_S.rf
  have hP : va_P (dC, dI) vwCl [(h0, .inr (10, [.int fl, .int pl, .ref hCd, w3, .int i4, .int i5, w6, .ref hQ, .int (nI x1), .int (nI z1), w10, .int i11])), (hQ, .inr (11, [.ref hKi, .ref hPl, .ref hNu, y3, .int j4, .int j5, y6])), (hKi, .inl (cI, 2001, .inl kf)), (hPl, .inl (cI, 2001, .inl pf)), (hNu, .inl (cJ, 2001, .inr (.inl vf))), (hCd, .inr (2, [.int (nI s1), .ref hA1, .ref hA2, .ref hA3, .ref hA4, .ref hA5, .ref hA6, .ref hA7, g8, g9, g10, g11, .int tq]))] s.heap := hP
  have hl := lv_entry ([.ref h0]) (n := 6) (Nat.le_of_ble_eq_true rfl)
  rw [lg_entry_eq]
  generalize (lg_sl ([.ref h0]) ++ List.replicate (6 - (lg_sl ([.ref h0])).length) Slot.unset).toArray = ls at hl ⊢
  have hl : lv_has ls 6 [(0, .ref h0)] := hl
  refine lv_aload_n hx hb dX9_readPart_0 rfl (lv_at hl 0 rfl) ?_
  refine va_get (D := (dC, dI)) (ci := 10) (v := .ref hCd) (C := RX9) (T := TX9) (N := 12) hx hb hts (fun w h => List.mem_cons_of_mem _ (uG_X9 w h)) hown hK hP 0 rfl rfl 2 (by decide) (hts _ (List.mem_cons_of_mem _ kw_860)) (fun _ h9 => h9) rfl dX9_readPart_1 ?_
  refine va_get (D := (dC, dI)) (ci := 2) (v := .int (nI s1)) (C := RX1) (T := TX1) (N := 13) hx hb hts (fun w h => List.mem_cons_of_mem _ (uG_X1 w h)) hown hK hP 5 rfl rfl 0 (by decide) (hts _ (List.mem_cons_of_mem _ kw_373)) (fun _ h9 => h9) rfl dX9_readPart_4 ?_
  refine lv_istore_n (lv' := [(1, .int (nI s1)), (0, .ref h0)]) hx hb dX9_readPart_7 rfl hl (by decide) rfl (fun ls hl => ?_)
  refine lv_aload_n hx hb dX9_readPart_8 rfl (lv_at hl 1 rfl) ?_
  have hPc := hP.sub (ws' := [(h0, .inr (10, [.int fl, .int pl, .ref hCd, w3, .int i4, .int i5, w6, .ref hQ, .int (nI x1), .int (nI z1), w10, .int i11])), (hQ, .inr (11, [.ref hKi, .ref hPl, .ref hNu, y3, .int j4, .int j5, y6])), (hKi, .inl (cI, 2001, .inl kf)), (hPl, .inl (cI, 2001, .inl pf)), (hNu, .inl (cJ, 2001, .inr (.inl vf)))]) [0, 1, 2, 3, 4] rfl
  have hDc := hD.sub (ws' := [(h0, .inr (10, [.int fl, .int pl, .ref hCd, w3, .int i4, .int i5, w6, .ref hQ, .int (nI x1), .int (nI z1), w10, .int i11])), (hQ, .inr (11, [.ref hKi, .ref hPl, .ref hNu, y3, .int j4, .int j5, y6])), (hKi, .inl (cI, 2001, .inl kf)), (hPl, .inl (cI, 2001, .inl pf)), (hNu, .inl (cJ, 2001, .inr (.inl vf)))]) [0, 1, 2, 3, 4] (by decide) rfl
  have hKc := hK.sub (tys' := [(cB, .byte), (cI, .int), (cJ, .long), (cZ, .boolean)]) [0, 1, 2, 3] rfl
  have hFc := va_free (wc := [(h0, .inr (10, [.int fl, .int pl, .ref hCd, w3, .int i4, .int i5, w6, .ref hQ, .int (nI x1), .int (nI z1), w10, .int i11])), (hQ, .inr (11, [.ref hKi, .ref hPl, .ref hNu, y3, .int j4, .int j5, y6])), (hKi, .inl (cI, 2001, .inl kf)), (hPl, .inl (cI, 2001, .inl pf)), (hNu, .inl (cJ, 2001, .inr (.inl vf)))]) hD hS hA [0, 1, 2, 3, 4] rfl
  refine va_calli (va_runV (As := []) (rest := []) ⟨hx, hb, hml, hown, hts⟩ (t_X9_here l dC dI s.heap.size cB cI cJ cZ h0 hQ hKi hPl hNu kf pf vf fl pl (.ref hCd) w3 i4 i5 w6 x1 z1 w10 i11 y3 j4 j5 y6  hx1) (cwV 0 hts (gd_all (in_V kw_923 kw_925 kw_16 kw_193 kc_X9_here)) rfl rfl rfl (by decide +kernel) ⟨Nat.le_of_ble_eq_true rfl, Nat.le_of_ble_eq_true rfl⟩) ⟨fun a U g mk q => by obtain ⟨q0, q1, qP, qK, qD⟩ := q; exact ⟨q0, q1, qP, va_K.moved (u := U) (U := U.calling g mk a) (Vm.Alike.refl U.vm) qK, qD⟩, va_recv hKc hPc (ci := 10) (q0 := 0) rfl rfl, fun U hU hW => ⟨rfl, by rw [hU], by rw [hU]; exact hPc, va_K.moved hW.alike hKc, hDc.weaken (fun _ _ _ _ => trivial)⟩⟩ rfl rfl hl.1 rfl (lv_room (Nat.le_of_ble_eq_true rfl)) dX9_readPart_9 ⟨Nat.le_of_ble_eq_true rfl, Nat.le_of_ble_eq_true rfl⟩) hS (fun q _ h => hFc q h) hFc (fun r_1 u t_ H1 locs ht hvm hw hB hz1 hk1 hS => ?_)
  obtain ⟨hP1, hK1, hD1⟩ := hB
  rw [ht] at hP1
  have hK1 := va_K.moved hvm.symm hK1
  obtain ⟨hP, hD⟩ := va_join (wr := [(hCd, .inr (2, [.int (nI s1), .ref hA1, .ref hA2, .ref hA3, .ref hA4, .ref hA5, .ref hA6, .ref hA7, g8, g9, g10, g11, .int tq]))]) (w1 := [(h0, .inr (10, [.int fl, .int pl, .ref hCd, w3, .int i4, .int i5, w6, .ref hQ, .int (nI x1), .int (nI z1), w10, .int i11])), (hQ, .inr (11, [.ref hKi, .ref hPl, .ref hNu, y3, .int j4, .int j5, y6])), (hKi, .inl (cI, 2001, .inl kf)), (hPl, .inl (cI, 2001, .inl pf)), (hNu, .inl (cJ, 2001, .inr (.inl vf)))]) hP hD [0, 1, 2, 3, 4] [5] rfl rfl (by decide) (by decide) hk1 hFc hP1 hD1
  have hK := (hK.sub (tys' := []) [] rfl).app hK1
  generalize H1 = H at hP hS ⊢
  have hP : va_P (dC, dI) vwCl [(hCd, .inr (2, [.int (nI s1), .ref hA1, .ref hA2, .ref hA3, .ref hA4, .ref hA5, .ref hA6, .ref hA7, g8, g9, g10, g11, .int tq])), (h0, .inr (10, [.int fl, .int pl, .ref hCd, w3, .int i4, .int i5, w6, .ref hQ, .int (nI x1), .int (nI z1), w10, .int i11])), (hQ, .inr (11, [.ref hKi, .ref hPl, .ref hNu, y3, .int j4, .int j5, y6])), (hKi, .inl (cI, 2001, .inl kf)), (hPl, .inl (cI, 2001, .inl pf)), (hNu, .inl (cJ, 2001, .inr (.inl vf)))] H := hP
  have hD : va_D A [(hCd, .inr (2, [.int (nI s1), .ref hA1, .ref hA2, .ref hA3, .ref hA4, .ref hA5, .ref hA6, .ref hA7, g8, g9, g10, g11, .int tq])), (h0, .inr (10, [.int fl, .int pl, .ref hCd, w3, .int i4, .int i5, w6, .ref hQ, .int (nI x1), .int (nI z1), w10, .int i11])), (hQ, .inr (11, [.ref hKi, .ref hPl, .ref hNu, y3, .int j4, .int j5, y6])), (hKi, .inl (cI, 2001, .inl kf)), (hPl, .inl (cI, 2001, .inl pf)), (hNu, .inl (cJ, 2001, .inr (.inl vf)))] := hD
  have hK : va_K (dC, dI) vwCl [(cB, .byte), (cI, .int), (cJ, .long), (cZ, .boolean)] s := hK
  have er_1 : r_1 = pf x1 := hw
  rw [er_1]
  refine lv_istore_n (lv' := [(2, .int (pf x1)), (1, .int (nI s1)), (0, .ref h0)]) hx hb dX9_readPart_12 rfl hl (by decide) rfl (fun ls hl => ?_)
  refine lv_aload_n hx hb dX9_readPart_13 rfl (lv_at hl 2 rfl) ?_
  have hPc := hP.sub (ws' := [(h0, .inr (10, [.int fl, .int pl, .ref hCd, w3, .int i4, .int i5, w6, .ref hQ, .int (nI x1), .int (nI z1), w10, .int i11])), (hQ, .inr (11, [.ref hKi, .ref hPl, .ref hNu, y3, .int j4, .int j5, y6])), (hKi, .inl (cI, 2001, .inl kf)), (hPl, .inl (cI, 2001, .inl pf)), (hNu, .inl (cJ, 2001, .inr (.inl vf))), (hCd, .inr (2, [.int (nI s1), .ref hA1, .ref hA2, .ref hA3, .ref hA4, .ref hA5, .ref hA6, .ref hA7, g8, g9, g10, g11, .int tq]))]) [1, 2, 3, 4, 5, 0] rfl
  have hDc := hD.sub (ws' := [(h0, .inr (10, [.int fl, .int pl, .ref hCd, w3, .int i4, .int i5, w6, .ref hQ, .int (nI x1), .int (nI z1), w10, .int i11])), (hQ, .inr (11, [.ref hKi, .ref hPl, .ref hNu, y3, .int j4, .int j5, y6])), (hKi, .inl (cI, 2001, .inl kf)), (hPl, .inl (cI, 2001, .inl pf)), (hNu, .inl (cJ, 2001, .inr (.inl vf))), (hCd, .inr (2, [.int (nI s1), .ref hA1, .ref hA2, .ref hA3, .ref hA4, .ref hA5, .ref hA6, .ref hA7, g8, g9, g10, g11, .int tq]))]) [1, 2, 3, 4, 5, 0] (by decide) rfl
  have hKc := hK.sub (tys' := [(cB, .byte), (cI, .int), (cJ, .long), (cZ, .boolean)]) [0, 1, 2, 3] rfl
  have hFc := va_free (wc := [(h0, .inr (10, [.int fl, .int pl, .ref hCd, w3, .int i4, .int i5, w6, .ref hQ, .int (nI x1), .int (nI z1), w10, .int i11])), (hQ, .inr (11, [.ref hKi, .ref hPl, .ref hNu, y3, .int j4, .int j5, y6])), (hKi, .inl (cI, 2001, .inl kf)), (hPl, .inl (cI, 2001, .inl pf)), (hNu, .inl (cJ, 2001, .inr (.inl vf))), (hCd, .inr (2, [.int (nI s1), .ref hA1, .ref hA2, .ref hA3, .ref hA4, .ref hA5, .ref hA6, .ref hA7, g8, g9, g10, g11, .int tq]))]) hD hS hA [1, 2, 3, 4, 5, 0] rfl
  refine va_callv (va_runV (As := []) (rest := []) ⟨hx, hb, hml, hown, hts⟩ (t_X9_readSign_f l dC dI H.size cB cI cJ cZ h0 hQ hKi hPl hNu kf pf vf fl pl w3 i4 i5 w6 x1 z1 w10 i11 y3 j4 j5 y6 hCd hA1 hA2 hA3 hA4 hA5 hA6 hA7 s1 g8 g9 g10 g11 tq   hx1 hfl) (cwV 0 hts (gd_all (in_V kw_971 kw_973 kw_26 kw_193 kc_X9_readSign)) rfl rfl rfl (by decide +kernel) ⟨Nat.le_of_ble_eq_true rfl, Nat.le_of_ble_eq_true rfl⟩) ⟨fun a U g mk q => by obtain ⟨q0, q1, qP, qK, qD⟩ := q; exact ⟨q0, q1, qP, va_K.moved (u := U) (U := U.calling g mk a) (Vm.Alike.refl U.vm) qK, qD⟩, va_recv hKc hPc (ci := 10) (q0 := 0) rfl rfl, fun U hU hW => ⟨rfl, by rw [hU], by rw [hU]; exact hPc, va_K.moved hW.alike hKc, hDc.weaken (fun _ _ _ _ => trivial)⟩⟩ rfl rfl hl.1 rfl (lv_room (Nat.le_of_ble_eq_true rfl)) dX9_readPart_14 ⟨Nat.le_of_ble_eq_true rfl, Nat.le_of_ble_eq_true rfl⟩) hS (fun q _ h => hFc q h) hFc (fun u t_ H1 locs ht hvm hw hB hz1 hk1 hS => ?_)
  obtain ⟨hP1, hK1, hD1⟩ := hB
  rw [ht] at hP1
  have hK1 := va_K.moved hvm.symm hK1
  obtain ⟨hP, hD⟩ := va_join (wr := []) (w1 := [(h0, .inr (10, [.int fl, .int pl, .ref hCd, w3, .int i4, .int i5, w6, .ref hQ, .int (nI x1), .int (nI z1), w10, .int i11])), (hQ, .inr (11, [.ref hKi, .ref hPl, .ref hNu, y3, .int j4, .int j5, y6])), (hKi, .inl (cI, 2001, .inl kf)), (hPl, .inl (cI, 2001, .inl pf)), (hNu, .inl (cJ, 2001, .inr (.inl vf))), (hCd, .inr (2, [.int (nI s1), .ref hA1, .ref hA2, .ref hA3, .ref hA4, .ref hA5, .ref hA6, .ref hA7, g8, g9, g10, g11, .int tq]))]) hP hD [1, 2, 3, 4, 5, 0] [] rfl rfl (by decide) (by decide) hk1 hFc hP1 hD1
  have hK := (hK.sub (tys' := []) [] rfl).app hK1
  generalize H1 = H at hP hS ⊢
  have hP : va_P (dC, dI) vwCl [(h0, .inr (10, [.int fl, .int pl, .ref hCd, w3, .int i4, .int i5, w6, .ref hQ, .int (nI x1), .int (nI z1), w10, .int i11])), (hQ, .inr (11, [.ref hKi, .ref hPl, .ref hNu, y3, .int j4, .int j5, y6])), (hKi, .inl (cI, 2001, .inl kf)), (hPl, .inl (cI, 2001, .inl pf)), (hNu, .inl (cJ, 2001, .inr (.inl vf))), (hCd, .inr (2, [.int (nI s1), .ref hA1, .ref hA2, .ref hA3, .ref hA4, .ref hA5, .ref hA6, .ref hA7, g8, g9, g10, g11, .int tq]))] H := hP
  have hD : va_D A [(h0, .inr (10, [.int fl, .int pl, .ref hCd, w3, .int i4, .int i5, w6, .ref hQ, .int (nI x1), .int (nI z1), w10, .int i11])), (hQ, .inr (11, [.ref hKi, .ref hPl, .ref hNu, y3, .int j4, .int j5, y6])), (hKi, .inl (cI, 2001, .inl kf)), (hPl, .inl (cI, 2001, .inl pf)), (hNu, .inl (cJ, 2001, .inr (.inl vf))), (hCd, .inr (2, [.int (nI s1), .ref hA1, .ref hA2, .ref hA3, .ref hA4, .ref hA5, .ref hA6, .ref hA7, g8, g9, g10, g11, .int tq]))] := hD
  have hK : va_K (dC, dI) vwCl [(cB, .byte), (cI, .int), (cJ, .long), (cZ, .boolean)] s := hK
  refine lv_iconst (v := 0) hx hb dX9_readPart_17 (by decide) ?_
  refine lv_istore_n (lv' := [(3, .int 0), (2, .int (pf x1)), (1, .int (nI s1)), (0, .ref h0)]) hx hb dX9_readPart_18 rfl hl (by decide) rfl (fun ls hl => ?_)
  refine lv_iload_n hx hb dX9_readPart_19 rfl (lv_at hl 0 rfl) ?_
  refine lv_sipush (v := 2000) hx hb dX9_readPart_20 (by decide) ?_
  refine lv_icmp_ge (tgt := 97) hx hb dX9_readPart_23 (by decide) (fun c_3 => ?_) (fun c_3 => ?_)
  · skip
    exact absurd c_3 (by decide)
  · skip
    refine lv_aload_n hx hb dX9_readPart_26 rfl (lv_at hl 3 rfl) ?_
    have hPc := hP.sub (ws' := [(h0, .inr (10, [.int fl, .int pl, .ref hCd, w3, .int i4, .int i5, w6, .ref hQ, .int (nI x1), .int (nI z1), w10, .int i11])), (hQ, .inr (11, [.ref hKi, .ref hPl, .ref hNu, y3, .int j4, .int j5, y6])), (hKi, .inl (cI, 2001, .inl kf)), (hPl, .inl (cI, 2001, .inl pf)), (hNu, .inl (cJ, 2001, .inr (.inl vf)))]) [0, 1, 2, 3, 4] rfl
    have hDc := hD.sub (ws' := [(h0, .inr (10, [.int fl, .int pl, .ref hCd, w3, .int i4, .int i5, w6, .ref hQ, .int (nI x1), .int (nI z1), w10, .int i11])), (hQ, .inr (11, [.ref hKi, .ref hPl, .ref hNu, y3, .int j4, .int j5, y6])), (hKi, .inl (cI, 2001, .inl kf)), (hPl, .inl (cI, 2001, .inl pf)), (hNu, .inl (cJ, 2001, .inr (.inl vf)))]) [0, 1, 2, 3, 4] (by decide) rfl
    have hKc := hK.sub (tys' := [(cB, .byte), (cI, .int), (cJ, .long), (cZ, .boolean)]) [0, 1, 2, 3] rfl
    have hFc := va_free (wc := [(h0, .inr (10, [.int fl, .int pl, .ref hCd, w3, .int i4, .int i5, w6, .ref hQ, .int (nI x1), .int (nI z1), w10, .int i11])), (hQ, .inr (11, [.ref hKi, .ref hPl, .ref hNu, y3, .int j4, .int j5, y6])), (hKi, .inl (cI, 2001, .inl kf)), (hPl, .inl (cI, 2001, .inl pf)), (hNu, .inl (cJ, 2001, .inr (.inl vf)))]) hD hS hA [0, 1, 2, 3, 4] rfl
    refine va_calli (va_runV (As := []) (rest := []) ⟨hx, hb, hml, hown, hts⟩ (t_X9_kind l dC dI H.size cB cI cJ cZ h0 hQ hKi hPl hNu kf pf vf fl pl (.ref hCd) w3 i4 i5 w6 x1 z1 w10 i11 y3 j4 j5 y6  hx1) (cwV 0 hts (gd_all (in_V kw_907 kw_909 kw_12 kw_193 kc_X9_kind)) rfl rfl rfl (by decide +kernel) ⟨Nat.le_of_ble_eq_true rfl, Nat.le_of_ble_eq_true rfl⟩) ⟨fun a U g mk q => by obtain ⟨q0, q1, qP, qK, qD⟩ := q; exact ⟨q0, q1, qP, va_K.moved (u := U) (U := U.calling g mk a) (Vm.Alike.refl U.vm) qK, qD⟩, va_recv hKc hPc (ci := 10) (q0 := 0) rfl rfl, fun U hU hW => ⟨rfl, by rw [hU], by rw [hU]; exact hPc, va_K.moved hW.alike hKc, hDc.weaken (fun _ _ _ _ => trivial)⟩⟩ rfl rfl hl.1 rfl (lv_room (Nat.le_of_ble_eq_true rfl)) dX9_readPart_27 ⟨Nat.le_of_ble_eq_true rfl, Nat.le_of_ble_eq_true rfl⟩) hS (fun q _ h => hFc q h) hFc (fun r_4 u t_ H1 locs ht hvm hw hB hz1 hk1 hS => ?_)
    obtain ⟨hP1, hK1, hD1⟩ := hB
    rw [ht] at hP1
    have hK1 := va_K.moved hvm.symm hK1
    obtain ⟨hP, hD⟩ := va_join (wr := [(hCd, .inr (2, [.int (nI s1), .ref hA1, .ref hA2, .ref hA3, .ref hA4, .ref hA5, .ref hA6, .ref hA7, g8, g9, g10, g11, .int tq]))]) (w1 := [(h0, .inr (10, [.int fl, .int pl, .ref hCd, w3, .int i4, .int i5, w6, .ref hQ, .int (nI x1), .int (nI z1), w10, .int i11])), (hQ, .inr (11, [.ref hKi, .ref hPl, .ref hNu, y3, .int j4, .int j5, y6])), (hKi, .inl (cI, 2001, .inl kf)), (hPl, .inl (cI, 2001, .inl pf)), (hNu, .inl (cJ, 2001, .inr (.inl vf)))]) hP hD [0, 1, 2, 3, 4] [5] rfl rfl (by decide) (by decide) hk1 hFc hP1 hD1
    have hK := (hK.sub (tys' := []) [] rfl).app hK1
    generalize H1 = H at hP hS ⊢
    have hP : va_P (dC, dI) vwCl [(hCd, .inr (2, [.int (nI s1), .ref hA1, .ref hA2, .ref hA3, .ref hA4, .ref hA5, .ref hA6, .ref hA7, g8, g9, g10, g11, .int tq])), (h0, .inr (10, [.int fl, .int pl, .ref hCd, w3, .int i4, .int i5, w6, .ref hQ, .int (nI x1), .int (nI z1), w10, .int i11])), (hQ, .inr (11, [.ref hKi, .ref hPl, .ref hNu, y3, .int j4, .int j5, y6])), (hKi, .inl (cI, 2001, .inl kf)), (hPl, .inl (cI, 2001, .inl pf)), (hNu, .inl (cJ, 2001, .inr (.inl vf)))] H := hP
    have hD : va_D A [(hCd, .inr (2, [.int (nI s1), .ref hA1, .ref hA2, .ref hA3, .ref hA4, .ref hA5, .ref hA6, .ref hA7, g8, g9, g10, g11, .int tq])), (h0, .inr (10, [.int fl, .int pl, .ref hCd, w3, .int i4, .int i5, w6, .ref hQ, .int (nI x1), .int (nI z1), w10, .int i11])), (hQ, .inr (11, [.ref hKi, .ref hPl, .ref hNu, y3, .int j4, .int j5, y6])), (hKi, .inl (cI, 2001, .inl kf)), (hPl, .inl (cI, 2001, .inl pf)), (hNu, .inl (cJ, 2001, .inr (.inl vf)))] := hD
    have hK : va_K (dC, dI) vwCl [(cB, .byte), (cI, .int), (cJ, .long), (cZ, .boolean)] s := hK
    have er_4 : r_4 = 57 := hw.trans (if_neg hfl)
    rw [er_4]
    refine lv_bipush (v := 47) hx hb dX9_readPart_30 (by decide) ?_
    refine lv_icmp_eq (tgt := 53) hx hb dX9_readPart_32 (by decide) (fun c_5 => ?_) (fun c_5 => ?_)
    · skip
      exact absurd c_5 (by decide)
    · skip
      refine lv_aload_n hx hb dX9_readPart_35 rfl (lv_at hl 3 rfl) ?_
      have hPc := hP.sub (ws' := [(h0, .inr (10, [.int fl, .int pl, .ref hCd, w3, .int i4, .int i5, w6, .ref hQ, .int (nI x1), .int (nI z1), w10, .int i11])), (hQ, .inr (11, [.ref hKi, .ref hPl, .ref hNu, y3, .int j4, .int j5, y6])), (hKi, .inl (cI, 2001, .inl kf)), (hPl, .inl (cI, 2001, .inl pf)), (hNu, .inl (cJ, 2001, .inr (.inl vf)))]) [1, 2, 3, 4, 5] rfl
      have hDc := hD.sub (ws' := [(h0, .inr (10, [.int fl, .int pl, .ref hCd, w3, .int i4, .int i5, w6, .ref hQ, .int (nI x1), .int (nI z1), w10, .int i11])), (hQ, .inr (11, [.ref hKi, .ref hPl, .ref hNu, y3, .int j4, .int j5, y6])), (hKi, .inl (cI, 2001, .inl kf)), (hPl, .inl (cI, 2001, .inl pf)), (hNu, .inl (cJ, 2001, .inr (.inl vf)))]) [1, 2, 3, 4, 5] (by decide) rfl
      have hKc := hK.sub (tys' := [(cB, .byte), (cI, .int), (cJ, .long), (cZ, .boolean)]) [0, 1, 2, 3] rfl
      have hFc := va_free (wc := [(h0, .inr (10, [.int fl, .int pl, .ref hCd, w3, .int i4, .int i5, w6, .ref hQ, .int (nI x1), .int (nI z1), w10, .int i11])), (hQ, .inr (11, [.ref hKi, .ref hPl, .ref hNu, y3, .int j4, .int j5, y6])), (hKi, .inl (cI, 2001, .inl kf)), (hPl, .inl (cI, 2001, .inl pf)), (hNu, .inl (cJ, 2001, .inr (.inl vf)))]) hD hS hA [1, 2, 3, 4, 5] rfl
      refine va_calli (va_runV (As := []) (rest := []) ⟨hx, hb, hml, hown, hts⟩ (t_X9_kind l dC dI H.size cB cI cJ cZ h0 hQ hKi hPl hNu kf pf vf fl pl (.ref hCd) w3 i4 i5 w6 x1 z1 w10 i11 y3 j4 j5 y6  hx1) (cwV 0 hts (gd_all (in_V kw_907 kw_909 kw_12 kw_193 kc_X9_kind)) rfl rfl rfl (by decide +kernel) ⟨Nat.le_of_ble_eq_true rfl, Nat.le_of_ble_eq_true rfl⟩) ⟨fun a U g mk q => by obtain ⟨q0, q1, qP, qK, qD⟩ := q; exact ⟨q0, q1, qP, va_K.moved (u := U) (U := U.calling g mk a) (Vm.Alike.refl U.vm) qK, qD⟩, va_recv hKc hPc (ci := 10) (q0 := 0) rfl rfl, fun U hU hW => ⟨rfl, by rw [hU], by rw [hU]; exact hPc, va_K.moved hW.alike hKc, hDc.weaken (fun _ _ _ _ => trivial)⟩⟩ rfl rfl hl.1 rfl (lv_room (Nat.le_of_ble_eq_true rfl)) dX9_readPart_36 ⟨Nat.le_of_ble_eq_true rfl, Nat.le_of_ble_eq_true rfl⟩) hS (fun q _ h => hFc q h) hFc (fun r_6 u t_ H1 locs ht hvm hw hB hz1 hk1 hS => ?_)
      obtain ⟨hP1, hK1, hD1⟩ := hB
      rw [ht] at hP1
      have hK1 := va_K.moved hvm.symm hK1
      obtain ⟨hP, hD⟩ := va_join (wr := [(hCd, .inr (2, [.int (nI s1), .ref hA1, .ref hA2, .ref hA3, .ref hA4, .ref hA5, .ref hA6, .ref hA7, g8, g9, g10, g11, .int tq]))]) (w1 := [(h0, .inr (10, [.int fl, .int pl, .ref hCd, w3, .int i4, .int i5, w6, .ref hQ, .int (nI x1), .int (nI z1), w10, .int i11])), (hQ, .inr (11, [.ref hKi, .ref hPl, .ref hNu, y3, .int j4, .int j5, y6])), (hKi, .inl (cI, 2001, .inl kf)), (hPl, .inl (cI, 2001, .inl pf)), (hNu, .inl (cJ, 2001, .inr (.inl vf)))]) hP hD [1, 2, 3, 4, 5] [0] rfl rfl (by decide) (by decide) hk1 hFc hP1 hD1
      have hK := (hK.sub (tys' := []) [] rfl).app hK1
      generalize H1 = H at hP hS ⊢
      have hP : va_P (dC, dI) vwCl [(hCd, .inr (2, [.int (nI s1), .ref hA1, .ref hA2, .ref hA3, .ref hA4, .ref hA5, .ref hA6, .ref hA7, g8, g9, g10, g11, .int tq])), (h0, .inr (10, [.int fl, .int pl, .ref hCd, w3, .int i4, .int i5, w6, .ref hQ, .int (nI x1), .int (nI z1), w10, .int i11])), (hQ, .inr (11, [.ref hKi, .ref hPl, .ref hNu, y3, .int j4, .int j5, y6])), (hKi, .inl (cI, 2001, .inl kf)), (hPl, .inl (cI, 2001, .inl pf)), (hNu, .inl (cJ, 2001, .inr (.inl vf)))] H := hP
      have hD : va_D A [(hCd, .inr (2, [.int (nI s1), .ref hA1, .ref hA2, .ref hA3, .ref hA4, .ref hA5, .ref hA6, .ref hA7, g8, g9, g10, g11, .int tq])), (h0, .inr (10, [.int fl, .int pl, .ref hCd, w3, .int i4, .int i5, w6, .ref hQ, .int (nI x1), .int (nI z1), w10, .int i11])), (hQ, .inr (11, [.ref hKi, .ref hPl, .ref hNu, y3, .int j4, .int j5, y6])), (hKi, .inl (cI, 2001, .inl kf)), (hPl, .inl (cI, 2001, .inl pf)), (hNu, .inl (cJ, 2001, .inr (.inl vf)))] := hD
      have hK : va_K (dC, dI) vwCl [(cB, .byte), (cI, .int), (cJ, .long), (cZ, .boolean)] s := hK
      have er_6 : r_6 = 57 := hw.trans (if_neg hfl)
      rw [er_6]
      refine lv_bipush (v := 48) hx hb dX9_readPart_39 (by decide) ?_
      refine lv_icmp_eq (tgt := 53) hx hb dX9_readPart_41 (by decide) (fun c_7 => ?_) (fun c_7 => ?_)
      · skip
        exact absurd c_7 (by decide)
      · skip
        refine lv_aload_n hx hb dX9_readPart_44 rfl (lv_at hl 3 rfl) ?_
        have hPc := hP.sub (ws' := [(h0, .inr (10, [.int fl, .int pl, .ref hCd, w3, .int i4, .int i5, w6, .ref hQ, .int (nI x1), .int (nI z1), w10, .int i11])), (hQ, .inr (11, [.ref hKi, .ref hPl, .ref hNu, y3, .int j4, .int j5, y6])), (hKi, .inl (cI, 2001, .inl kf)), (hPl, .inl (cI, 2001, .inl pf)), (hNu, .inl (cJ, 2001, .inr (.inl vf)))]) [1, 2, 3, 4, 5] rfl
        have hDc := hD.sub (ws' := [(h0, .inr (10, [.int fl, .int pl, .ref hCd, w3, .int i4, .int i5, w6, .ref hQ, .int (nI x1), .int (nI z1), w10, .int i11])), (hQ, .inr (11, [.ref hKi, .ref hPl, .ref hNu, y3, .int j4, .int j5, y6])), (hKi, .inl (cI, 2001, .inl kf)), (hPl, .inl (cI, 2001, .inl pf)), (hNu, .inl (cJ, 2001, .inr (.inl vf)))]) [1, 2, 3, 4, 5] (by decide) rfl
        have hKc := hK.sub (tys' := [(cB, .byte), (cI, .int), (cJ, .long), (cZ, .boolean)]) [0, 1, 2, 3] rfl
        have hFc := va_free (wc := [(h0, .inr (10, [.int fl, .int pl, .ref hCd, w3, .int i4, .int i5, w6, .ref hQ, .int (nI x1), .int (nI z1), w10, .int i11])), (hQ, .inr (11, [.ref hKi, .ref hPl, .ref hNu, y3, .int j4, .int j5, y6])), (hKi, .inl (cI, 2001, .inl kf)), (hPl, .inl (cI, 2001, .inl pf)), (hNu, .inl (cJ, 2001, .inr (.inl vf)))]) hD hS hA [1, 2, 3, 4, 5] rfl
        refine va_calli (va_runV (As := []) (rest := []) ⟨hx, hb, hml, hown, hts⟩ (t_X9_kind l dC dI H.size cB cI cJ cZ h0 hQ hKi hPl hNu kf pf vf fl pl (.ref hCd) w3 i4 i5 w6 x1 z1 w10 i11 y3 j4 j5 y6  hx1) (cwV 0 hts (gd_all (in_V kw_907 kw_909 kw_12 kw_193 kc_X9_kind)) rfl rfl rfl (by decide +kernel) ⟨Nat.le_of_ble_eq_true rfl, Nat.le_of_ble_eq_true rfl⟩) ⟨fun a U g mk q => by obtain ⟨q0, q1, qP, qK, qD⟩ := q; exact ⟨q0, q1, qP, va_K.moved (u := U) (U := U.calling g mk a) (Vm.Alike.refl U.vm) qK, qD⟩, va_recv hKc hPc (ci := 10) (q0 := 0) rfl rfl, fun U hU hW => ⟨rfl, by rw [hU], by rw [hU]; exact hPc, va_K.moved hW.alike hKc, hDc.weaken (fun _ _ _ _ => trivial)⟩⟩ rfl rfl hl.1 rfl (lv_room (Nat.le_of_ble_eq_true rfl)) dX9_readPart_45 ⟨Nat.le_of_ble_eq_true rfl, Nat.le_of_ble_eq_true rfl⟩) hS (fun q _ h => hFc q h) hFc (fun r_8 u t_ H1 locs ht hvm hw hB hz1 hk1 hS => ?_)
        obtain ⟨hP1, hK1, hD1⟩ := hB
        rw [ht] at hP1
        have hK1 := va_K.moved hvm.symm hK1
        obtain ⟨hP, hD⟩ := va_join (wr := [(hCd, .inr (2, [.int (nI s1), .ref hA1, .ref hA2, .ref hA3, .ref hA4, .ref hA5, .ref hA6, .ref hA7, g8, g9, g10, g11, .int tq]))]) (w1 := [(h0, .inr (10, [.int fl, .int pl, .ref hCd, w3, .int i4, .int i5, w6, .ref hQ, .int (nI x1), .int (nI z1), w10, .int i11])), (hQ, .inr (11, [.ref hKi, .ref hPl, .ref hNu, y3, .int j4, .int j5, y6])), (hKi, .inl (cI, 2001, .inl kf)), (hPl, .inl (cI, 2001, .inl pf)), (hNu, .inl (cJ, 2001, .inr (.inl vf)))]) hP hD [1, 2, 3, 4, 5] [0] rfl rfl (by decide) (by decide) hk1 hFc hP1 hD1
        have hK := (hK.sub (tys' := []) [] rfl).app hK1
        generalize H1 = H at hP hS ⊢
        have hP : va_P (dC, dI) vwCl [(hCd, .inr (2, [.int (nI s1), .ref hA1, .ref hA2, .ref hA3, .ref hA4, .ref hA5, .ref hA6, .ref hA7, g8, g9, g10, g11, .int tq])), (h0, .inr (10, [.int fl, .int pl, .ref hCd, w3, .int i4, .int i5, w6, .ref hQ, .int (nI x1), .int (nI z1), w10, .int i11])), (hQ, .inr (11, [.ref hKi, .ref hPl, .ref hNu, y3, .int j4, .int j5, y6])), (hKi, .inl (cI, 2001, .inl kf)), (hPl, .inl (cI, 2001, .inl pf)), (hNu, .inl (cJ, 2001, .inr (.inl vf)))] H := hP
        have hD : va_D A [(hCd, .inr (2, [.int (nI s1), .ref hA1, .ref hA2, .ref hA3, .ref hA4, .ref hA5, .ref hA6, .ref hA7, g8, g9, g10, g11, .int tq])), (h0, .inr (10, [.int fl, .int pl, .ref hCd, w3, .int i4, .int i5, w6, .ref hQ, .int (nI x1), .int (nI z1), w10, .int i11])), (hQ, .inr (11, [.ref hKi, .ref hPl, .ref hNu, y3, .int j4, .int j5, y6])), (hKi, .inl (cI, 2001, .inl kf)), (hPl, .inl (cI, 2001, .inl pf)), (hNu, .inl (cJ, 2001, .inr (.inl vf)))] := hD
        have hK : va_K (dC, dI) vwCl [(cB, .byte), (cI, .int), (cJ, .long), (cZ, .boolean)] s := hK
        have er_8 : r_8 = 57 := hw.trans (if_neg hfl)
        rw [er_8]
        refine lv_bipush (v := 49) hx hb dX9_readPart_48 (by decide) ?_
        refine lv_icmp_ne (tgt := 97) hx hb dX9_readPart_50 (by decide) (fun c_9 => ?_) (fun c_9 => ?_)
        · skip
          have hP9 := hP.sub (ws' := [(h0, .inr (10, [.int fl, .int pl, .ref hCd, w3, .int i4, .int i5, w6, .ref hQ, .int (nI x1), .int (nI z1), w10, .int i11])), (hQ, .inr (11, [.ref hKi, .ref hPl, .ref hNu, y3, .int j4, .int j5, y6])), (hKi, .inl (cI, 2001, .inl kf)), (hPl, .inl (cI, 2001, .inl pf)), (hNu, .inl (cJ, 2001, .inr (.inl vf))), (hCd, .inr (2, [.int (nI s1), .ref hA1, .ref hA2, .ref hA3, .ref hA4, .ref hA5, .ref hA6, .ref hA7, g8, g9, g10, g11, .int tq]))]) [1, 2, 3, 4, 5, 0] rfl
          have hD9 := hD.sub (ws' := [(h0, .inr (10, [.int fl, .int pl, .ref hCd, w3, .int i4, .int i5, w6, .ref hQ, .int (nI x1), .int (nI z1), w10, .int i11])), (hQ, .inr (11, [.ref hKi, .ref hPl, .ref hNu, y3, .int j4, .int j5, y6])), (hKi, .inl (cI, 2001, .inl kf)), (hPl, .inl (cI, 2001, .inl pf)), (hNu, .inl (cJ, 2001, .inr (.inl vf))), (hCd, .inr (2, [.int (nI s1), .ref hA1, .ref hA2, .ref hA3, .ref hA4, .ref hA5, .ref hA6, .ref hA7, g8, g9, g10, g11, .int tq]))]) [1, 2, 3, 4, 5, 0] (by decide) rfl
          have hK9 := hK.sub (tys' := [(cB, .byte), (cI, .int), (cJ, .long), (cZ, .boolean)]) [0, 1, 2, 3] rfl
          exact W.vret hx hb hr (fun t_ ht hW => ⟨⟨(), rfl, trivial, by rw [ht]; exact hP9, va_K.moved hW.alike hK9, hD9⟩, hS.F ht⟩) hS.2.2 dX9_readPart_97
        · skip
          exact absurd c_9 (by decide)
theorem dX9_readSum_0 : decode cX9_readSum 0 = .ok (.aload_n 0, 1) := by decide +kernel
theorem dX9_readSum_1 : decode cX9_readSum 1 = .ok (.getfield 26, 3) := by decide +kernel
theorem dX9_readSum_4 : decode cX9_readSum 4 = .ok (.getfield 296, 3) := by decide +kernel
theorem dX9_readSum_7 : decode cX9_readSum 7 = .ok (.istore_n 1, 1) := by decide +kernel
theorem dX9_readSum_8 : decode cX9_readSum 8 = .ok (.aload_n 0, 1) := by decide +kernel
theorem dX9_readSum_9 : decode cX9_readSum 9 = .ok (.invokevirtual 118, 3) := by decide +kernel
theorem dX9_readSum_12 : decode cX9_readSum 12 = .ok (.istore_n 2, 1) := by decide +kernel
theorem dX9_readSum_13 : decode cX9_readSum 13 = .ok (.aload_n 0, 1) := by decide +kernel
theorem dX9_readSum_14 : decode cX9_readSum 14 = .ok (.invokevirtual 322, 3) := by decide +kernel
theorem dX9_readSum_17 : decode cX9_readSum 17 = .ok (.iconst 0, 1) := by decide +kernel
theorem dX9_readSum_18 : decode cX9_readSum 18 = .ok (.istore_n 3, 1) := by decide +kernel
theorem dX9_readSum_19 : decode cX9_readSum 19 = .ok (.iload_n 3, 1) := by decide +kernel
theorem dX9_readSum_20 : decode cX9_readSum 20 = .ok (.sipush 2000, 3) := by decide +kernel
theorem dX9_readSum_23 : decode cX9_readSum 23 = .ok (.if_icmp .ge 65, 3) := by decide +kernel
theorem dX9_readSum_26 : decode cX9_readSum 26 = .ok (.aload_n 0, 1) := by decide +kernel
theorem dX9_readSum_27 : decode cX9_readSum 27 = .ok (.invokevirtual 114, 3) := by decide +kernel
theorem dX9_readSum_30 : decode cX9_readSum 30 = .ok (.bipush 45, 2) := by decide +kernel
theorem dX9_readSum_32 : decode cX9_readSum 32 = .ok (.if_icmp .eq 12, 3) := by decide +kernel
theorem dX9_readSum_35 : decode cX9_readSum 35 = .ok (.aload_n 0, 1) := by decide +kernel
theorem dX9_readSum_36 : decode cX9_readSum 36 = .ok (.invokevirtual 114, 3) := by decide +kernel
theorem dX9_readSum_39 : decode cX9_readSum 39 = .ok (.bipush 46, 2) := by decide +kernel
theorem dX9_readSum_41 : decode cX9_readSum 41 = .ok (.if_icmp .ne 47, 3) := by decide +kernel
theorem dX9_readSum_44 : decode cX9_readSum 44 = .ok (.aload_n 0, 1) := by decide +kernel
theorem dX9_readSum_45 : decode cX9_readSum 45 = .ok (.invokevirtual 114, 3) := by decide +kernel
theorem dX9_readSum_48 : decode cX9_readSum 48 = .ok (.istore 4, 2) := by decide +kernel
theorem dX9_readSum_50 : decode cX9_readSum 50 = .ok (.aload_n 0, 1) := by decide +kernel
theorem dX9_readSum_51 : decode cX9_readSum 51 = .ok (.invokevirtual 118, 3) := by decide +kernel
theorem dX9_readSum_54 : decode cX9_readSum 54 = .ok (.istore 5, 2) := by decide +kernel
theorem dX9_readSum_56 : decode cX9_readSum 56 = .ok (.aload_n 0, 1) := by decide +kernel
theorem dX9_readSum_57 : decode cX9_readSum 57 = .ok (.dup, 1) := by decide +kernel
theorem dX9_readSum_58 : decode cX9_readSum 58 = .ok (.getfield 99, 3) := by decide +kernel
theorem dX9_readSum_61 : decode cX9_readSum 61 = .ok (.iconst 1, 1) := by decide +kernel
theorem dX9_readSum_62 : decode cX9_readSum 62 = .ok (.iadd, 1) := by decide +kernel
theorem dX9_readSum_63 : decode cX9_readSum 63 = .ok (.putfield 99, 3) := by decide +kernel
theorem dX9_readSum_66 : decode cX9_readSum 66 = .ok (.aload_n 0, 1) := by decide +kernel
theorem dX9_readSum_67 : decode cX9_readSum 67 = .ok (.invokevirtual 322, 3) := by decide +kernel
theorem dX9_readSum_70 : decode cX9_readSum 70 = .ok (.aload_n 0, 1) := by decide +kernel
theorem dX9_readSum_71 : decode cX9_readSum 71 = .ok (.iload 4, 2) := by decide +kernel
theorem dX9_readSum_73 : decode cX9_readSum 73 = .ok (.iload_n 1, 1) := by decide +kernel
theorem dX9_readSum_74 : decode cX9_readSum 74 = .ok (.iload_n 2, 1) := by decide +kernel
theorem dX9_readSum_75 : decode cX9_readSum 75 = .ok (.iload 5, 2) := by decide +kernel
theorem dX9_readSum_77 : decode cX9_readSum 77 = .ok (.iconst 2, 1) := by decide +kernel
theorem dX9_readSum_78 : decode cX9_readSum 78 = .ok (.invokevirtual 305, 3) := by decide +kernel
theorem dX9_readSum_81 : decode cX9_readSum 81 = .ok (.pop, 1) := by decide +kernel
theorem dX9_readSum_82 : decode cX9_readSum 82 = .ok (.iinc 3 1, 3) := by decide +kernel
theorem dX9_readSum_85 : decode cX9_readSum 85 = .ok (.goto (-66), 3) := by decide +kernel
theorem dX9_readSum_88 : decode cX9_readSum 88 = .ok (.return_, 1) := by decide +kernel
abbrev cs_t_X9_readSum_f (cB cI cJ cZ : ClassId) (h0 hQ hKi hPl hNu : Nat) (kf pf : Nat → Int32) (vf : Nat → Int64) (fl pl : Int32) (w3 : Value) (i4 i5 : Int32) (w6 : Value) (x1 z1 : Nat) (w10 : Value) (i11 : Int32) (y3 : Value) (j4 j5 : Int32) (y6 : Value) (hCd hA1 hA2 hA3 hA4 hA5 hA6 hA7 s1 : Nat) (g8 g9 g10 g11 : Value) (tq : Int32) : va_W := [(h0, .inr (10, [.int fl, .int pl, .ref hCd, w3, .int i4, .int i5, w6, .ref hQ, .int (nI x1), .int (nI z1), w10, .int i11])), (hQ, .inr (11, [.ref hKi, .ref hPl, .ref hNu, y3, .int j4, .int j5, y6])), (hKi, .inl (cI, 2001, .inl kf)), (hPl, .inl (cI, 2001, .inl pf)), (hNu, .inl (cJ, 2001, .inr (.inl vf))), (hCd, .inr (2, [.int (nI s1), .ref hA1, .ref hA2, .ref hA3, .ref hA4, .ref hA5, .ref hA6, .ref hA7, g8, g9, g10, g11, .int tq]))]
abbrev pc_t_X9_readSum_f (dC : Nat → ClassId) (dI : Nat → Nat → Nat) (sz : Nat) (cB cI cJ cZ : ClassId) (h0 hQ hKi hPl hNu : Nat) (kf pf : Nat → Int32) (vf : Nat → Int64) (fl pl : Int32) (w3 : Value) (i4 i5 : Int32) (w6 : Value) (x1 z1 : Nat) (w10 : Value) (i11 : Int32) (y3 : Value) (j4 j5 : Int32) (y6 : Value) (hCd hA1 hA2 hA3 hA4 hA5 hA6 hA7 s1 : Nat) (g8 g9 g10 g11 : Value) (tq : Int32) : Array Value → State → Prop := va_Pc [.ref h0] (fun U => U.heap.size = sz ∧ va_P (dC, dI) vwCl [(h0, .inr (10, [.int fl, .int pl, .ref hCd, w3, .int i4, .int i5, w6, .ref hQ, .int (nI x1), .int (nI z1), w10, .int i11])), (hQ, .inr (11, [.ref hKi, .ref hPl, .ref hNu, y3, .int j4, .int j5, y6])), (hKi, .inl (cI, 2001, .inl kf)), (hPl, .inl (cI, 2001, .inl pf)), (hNu, .inl (cJ, 2001, .inr (.inl vf))), (hCd, .inr (2, [.int (nI s1), .ref hA1, .ref hA2, .ref hA3, .ref hA4, .ref hA5, .ref hA6, .ref hA7, g8, g9, g10, g11, .int tq]))] U.heap ∧ va_K (dC, dI) vwCl [(cB, .byte), (cI, .int), (cJ, .long), (cZ, .boolean)] U ∧ va_D (fun _ => True) [(h0, .inr (10, [.int fl, .int pl, .ref hCd, w3, .int i4, .int i5, w6, .ref hQ, .int (nI x1), .int (nI z1), w10, .int i11])), (hQ, .inr (11, [.ref hKi, .ref hPl, .ref hNu, y3, .int j4, .int j5, y6])), (hKi, .inl (cI, 2001, .inl kf)), (hPl, .inl (cI, 2001, .inl pf)), (hNu, .inl (cJ, 2001, .inr (.inl vf))), (hCd, .inr (2, [.int (nI s1), .ref hA1, .ref hA2, .ref hA3, .ref hA4, .ref hA5, .ref hA6, .ref hA7, g8, g9, g10, g11, .int tq]))])
abbrev qc_t_X9_readSum_f (dC : Nat → ClassId) (dI : Nat → Nat → Nat) (cB cI cJ cZ : ClassId) (h0 hQ hKi hPl hNu : Nat) (kf pf : Nat → Int32) (vf : Nat → Int64) (fl pl : Int32) (w3 : Value) (i4 i5 : Int32) (w6 : Value) (x1 z1 : Nat) (w10 : Value) (i11 : Int32) (y3 : Value) (j4 j5 : Int32) (y6 : Value) (hCd hA1 hA2 hA3 hA4 hA5 hA6 hA7 s1 : Nat) (g8 g9 g10 g11 : Value) (tq : Int32) (A : Nat → Prop) : Array Value → State → Outcome → State → Prop := va_Qv (fun (u : Unit) => match u with | _ => True) (fun (u : Unit) t_ => match u with | _ => va_P (dC, dI) vwCl [(h0, .inr (10, [.int fl, .int pl, .ref hCd, w3, .int i4, .int i5, w6, .ref hQ, .int (nI x1), .int (nI z1), w10, .int i11])), (hQ, .inr (11, [.ref hKi, .ref hPl, .ref hNu, y3, .int j4, .int j5, y6])), (hKi, .inl (cI, 2001, .inl kf)), (hPl, .inl (cI, 2001, .inl pf)), (hNu, .inl (cJ, 2001, .inr (.inl vf))), (hCd, .inr (2, [.int (nI s1), .ref hA1, .ref hA2, .ref hA3, .ref hA4, .ref hA5, .ref hA6, .ref hA7, g8, g9, g10, g11, .int tq]))] t_.heap ∧ va_K (dC, dI) vwCl [(cB, .byte), (cI, .int), (cJ, .long), (cZ, .boolean)] t_ ∧ va_D A [(h0, .inr (10, [.int fl, .int pl, .ref hCd, w3, .int i4, .int i5, w6, .ref hQ, .int (nI x1), .int (nI z1), w10, .int i11])), (hQ, .inr (11, [.ref hKi, .ref hPl, .ref hNu, y3, .int j4, .int j5, y6])), (hKi, .inl (cI, 2001, .inl kf)), (hPl, .inl (cI, 2001, .inl pf)), (hNu, .inl (cJ, 2001, .inr (.inl vf))), (hCd, .inr (2, [.int (nI s1), .ref hA1, .ref hA2, .ref hA3, .ref hA4, .ref hA5, .ref hA6, .ref hA7, g8, g9, g10, g11, .int tq]))]) A
set_option maxHeartbeats 4000000 in
set_option maxRecDepth 100000 in
theorem t_X9_readSum_f (l : Launch) (dC : Nat → ClassId) (dI : Nat → Nat → Nat) (sz : Nat) (cB cI cJ cZ : ClassId) (h0 hQ hKi hPl hNu : Nat) (kf pf : Nat → Int32) (vf : Nat → Int64) (fl pl : Int32) (w3 : Value) (i4 i5 : Int32) (w6 : Value) (x1 z1 : Nat) (w10 : Value) (i11 : Int32) (y3 : Value) (j4 j5 : Int32) (y6 : Value) (hCd hA1 hA2 hA3 hA4 hA5 hA6 hA7 s1 : Nat) (g8 g9 g10 g11 : Value) (tq : Int32) (hx1 : x1 ≤ 2000) (hfl : ¬ fl = 0) : Met l yX9_readSum (wsOf yX9_readSum cX9_readSum 6 none) ({ frames := 5, cells := 0, slots := 0, locals := 300 }) (pc_t_X9_readSum_f dC dI sz cB cI cJ cZ h0 hQ hKi hPl hNu kf pf vf fl pl w3 i4 i5 w6 x1 z1 w10 i11 y3 j4 j5 y6 hCd hA1 hA2 hA3 hA4 hA5 hA6 hA7 s1 g8 g9 g10 g11 tq) (qc_t_X9_readSum_f dC dI cB cI cJ cZ h0 hQ hKi hPl hNu kf pf vf fl pl w3 i4 i5 w6 x1 z1 w10 i11 y3 j4 j5 y6 hCd hA1 hA2 hA3 hA4 hA5 hA6 hA7 s1 g8 g9 g10 g11 tq (va_A (cs_t_X9_readSum_f cB cI cJ cZ h0 hQ hKi hPl hNu kf pf vf fl pl w3 i4 i5 w6 x1 z1 w10 i11 y3 j4 j5 y6 hCd hA1 hA2 hA3 hA4 hA5 hA6 hA7 s1 g8 g9 g10 g11 tq) sz)) 0 0 (va_A (cs_t_X9_readSum_f cB cI cJ cZ h0 hQ hKi hPl hNu kf pf vf fl pl w3 i4 i5 w6 x1 z1 w10 i11 y3 j4 j5 y6 hCd hA1 hA2 hA3 hA4 hA5 hA6 hA7 s1 g8 g9 g10 g11 tq) sz) := by
  refine Met.ofW (cc := cX9_readSum) (maxL := 6) (ret := none) (by decide) rfl ?_
  intro p e s m args below meth c s₁ B hml hv
  obtain ⟨rfl, hsz, hP, hK, hD0⟩ := hv
  have hx := B.exec
  have hb := B.bytes
  have hr := B.returns
  have hts := atoms_spec (ws := (wsOf yX9_readSum cX9_readSum 6 none)) B.pre
  have hown : s.vm.findClass RX9 = some m.cls := findClass_of_methodNamed B.named
  have hlocks := B.notSynchronized
  subst hsz
  have hD := hD0.self (sz := s.heap.size)
  generalize hAe : va_A (cs_t_X9_readSum_f cB cI cJ cZ h0 hQ hKi hPl hNu kf pf vf fl pl w3 i4 i5 w6 x1 z1 w10 i11 y3 j4 j5 y6 hCd hA1 hA2 hA3 hA4 hA5 hA6 hA7 s1 g8 g9 g10 g11 tq) s.heap.size = A at hD ⊢
  have hA : ∀ q : Nat, s.heap.size ≤ q → A q := fun q h => by rw [← hAe]; exact Or.inr h
  have hS : va_S A s.heap s.heap [] := va_S.rf
  have hP : va_P (dC, dI) vwCl [(h0, .inr (10, [.int fl, .int pl, .ref hCd, w3, .int i4, .int i5, w6, .ref hQ, .int (nI x1), .int (nI z1), w10, .int i11])), (hQ, .inr (11, [.ref hKi, .ref hPl, .ref hNu, y3, .int j4, .int j5, y6])), (hKi, .inl (cI, 2001, .inl kf)), (hPl, .inl (cI, 2001, .inl pf)), (hNu, .inl (cJ, 2001, .inr (.inl vf))), (hCd, .inr (2, [.int (nI s1), .ref hA1, .ref hA2, .ref hA3, .ref hA4, .ref hA5, .ref hA6, .ref hA7, g8, g9, g10, g11, .int tq]))] s.heap := hP
  have hl := lv_entry ([.ref h0]) (n := 6) (Nat.le_of_ble_eq_true rfl)
  rw [lg_entry_eq]
  generalize (lg_sl ([.ref h0]) ++ List.replicate (6 - (lg_sl ([.ref h0])).length) Slot.unset).toArray = ls at hl ⊢
  have hl : lv_has ls 6 [(0, .ref h0)] := hl
  refine lv_aload_n hx hb dX9_readSum_0 rfl (lv_at hl 0 rfl) ?_
  refine va_get (D := (dC, dI)) (ci := 10) (v := .ref hCd) (C := RX9) (T := TX9) (N := 12) hx hb hts (fun w h => List.mem_cons_of_mem _ (uG_X9 w h)) hown hK hP 0 rfl rfl 2 (by decide) (hts _ (List.mem_cons_of_mem _ kw_860)) (fun _ h9 => h9) rfl dX9_readSum_1 ?_
  refine va_get (D := (dC, dI)) (ci := 2) (v := .int (nI s1)) (C := RX1) (T := TX1) (N := 13) hx hb hts (fun w h => List.mem_cons_of_mem _ (uG_X1 w h)) hown hK hP 5 rfl rfl 0 (by decide) (hts _ (List.mem_cons_of_mem _ kw_373)) (fun _ h9 => h9) rfl dX9_readSum_4 ?_
  refine lv_istore_n (lv' := [(1, .int (nI s1)), (0, .ref h0)]) hx hb dX9_readSum_7 rfl hl (by decide) rfl (fun ls hl => ?_)
  refine lv_aload_n hx hb dX9_readSum_8 rfl (lv_at hl 1 rfl) ?_
  have hPc := hP.sub (ws' := [(h0, .inr (10, [.int fl, .int pl, .ref hCd, w3, .int i4, .int i5, w6, .ref hQ, .int (nI x1), .int (nI z1), w10, .int i11])), (hQ, .inr (11, [.ref hKi, .ref hPl, .ref hNu, y3, .int j4, .int j5, y6])), (hKi, .inl (cI, 2001, .inl kf)), (hPl, .inl (cI, 2001, .inl pf)), (hNu, .inl (cJ, 2001, .inr (.inl vf)))]) [0, 1, 2, 3, 4] rfl
  have hDc := hD.sub (ws' := [(h0, .inr (10, [.int fl, .int pl, .ref hCd, w3, .int i4, .int i5, w6, .ref hQ, .int (nI x1), .int (nI z1), w10, .int i11])), (hQ, .inr (11, [.ref hKi, .ref hPl, .ref hNu, y3, .int j4, .int j5, y6])), (hKi, .inl (cI, 2001, .inl kf)), (hPl, .inl (cI, 2001, .inl pf)), (hNu, .inl (cJ, 2001, .inr (.inl vf)))]) [0, 1, 2, 3, 4] (by decide) rfl
  have hKc := hK.sub (tys' := [(cB, .byte), (cI, .int), (cJ, .long), (cZ, .boolean)]) [0, 1, 2, 3] rfl
  have hFc := va_free (wc := [(h0, .inr (10, [.int fl, .int pl, .ref hCd, w3, .int i4, .int i5, w6, .ref hQ, .int (nI x1), .int (nI z1), w10, .int i11])), (hQ, .inr (11, [.ref hKi, .ref hPl, .ref hNu, y3, .int j4, .int j5, y6])), (hKi, .inl (cI, 2001, .inl kf)), (hPl, .inl (cI, 2001, .inl pf)), (hNu, .inl (cJ, 2001, .inr (.inl vf)))]) hD hS hA [0, 1, 2, 3, 4] rfl
  refine va_calli (va_runV (As := []) (rest := []) ⟨hx, hb, hml, hown, hts⟩ (t_X9_here l dC dI s.heap.size cB cI cJ cZ h0 hQ hKi hPl hNu kf pf vf fl pl (.ref hCd) w3 i4 i5 w6 x1 z1 w10 i11 y3 j4 j5 y6  hx1) (cwV 0 hts (gd_all (in_V kw_923 kw_925 kw_16 kw_193 kc_X9_here)) rfl rfl rfl (by decide +kernel) ⟨Nat.le_of_ble_eq_true rfl, Nat.le_of_ble_eq_true rfl⟩) ⟨fun a U g mk q => by obtain ⟨q0, q1, qP, qK, qD⟩ := q; exact ⟨q0, q1, qP, va_K.moved (u := U) (U := U.calling g mk a) (Vm.Alike.refl U.vm) qK, qD⟩, va_recv hKc hPc (ci := 10) (q0 := 0) rfl rfl, fun U hU hW => ⟨rfl, by rw [hU], by rw [hU]; exact hPc, va_K.moved hW.alike hKc, hDc.weaken (fun _ _ _ _ => trivial)⟩⟩ rfl rfl hl.1 rfl (lv_room (Nat.le_of_ble_eq_true rfl)) dX9_readSum_9 ⟨Nat.le_of_ble_eq_true rfl, Nat.le_of_ble_eq_true rfl⟩) hS (fun q _ h => hFc q h) hFc (fun r_1 u t_ H1 locs ht hvm hw hB hz1 hk1 hS => ?_)
  obtain ⟨hP1, hK1, hD1⟩ := hB
  rw [ht] at hP1
  have hK1 := va_K.moved hvm.symm hK1
  obtain ⟨hP, hD⟩ := va_join (wr := [(hCd, .inr (2, [.int (nI s1), .ref hA1, .ref hA2, .ref hA3, .ref hA4, .ref hA5, .ref hA6, .ref hA7, g8, g9, g10, g11, .int tq]))]) (w1 := [(h0, .inr (10, [.int fl, .int pl, .ref hCd, w3, .int i4, .int i5, w6, .ref hQ, .int (nI x1), .int (nI z1), w10, .int i11])), (hQ, .inr (11, [.ref hKi, .ref hPl, .ref hNu, y3, .int j4, .int j5, y6])), (hKi, .inl (cI, 2001, .inl kf)), (hPl, .inl (cI, 2001, .inl pf)), (hNu, .inl (cJ, 2001, .inr (.inl vf)))]) hP hD [0, 1, 2, 3, 4] [5] rfl rfl (by decide) (by decide) hk1 hFc hP1 hD1
  have hK := (hK.sub (tys' := []) [] rfl).app hK1
  generalize H1 = H at hP hS ⊢
  have hP : va_P (dC, dI) vwCl [(hCd, .inr (2, [.int (nI s1), .ref hA1, .ref hA2, .ref hA3, .ref hA4, .ref hA5, .ref hA6, .ref hA7, g8, g9, g10, g11, .int tq])), (h0, .inr (10, [.int fl, .int pl, .ref hCd, w3, .int i4, .int i5, w6, .ref hQ, .int (nI x1), .int (nI z1), w10, .int i11])), (hQ, .inr (11, [.ref hKi, .ref hPl, .ref hNu, y3, .int j4, .int j5, y6])), (hKi, .inl (cI, 2001, .inl kf)), (hPl, .inl (cI, 2001, .inl pf)), (hNu, .inl (cJ, 2001, .inr (.inl vf)))] H := hP
  have hD : va_D A [(hCd, .inr (2, [.int (nI s1), .ref hA1, .ref hA2, .ref hA3, .ref hA4, .ref hA5, .ref hA6, .ref hA7, g8, g9, g10, g11, .int tq])), (h0, .inr (10, [.int fl, .int pl, .ref hCd, w3, .int i4, .int i5, w6, .ref hQ, .int (nI x1), .int (nI z1), w10, .int i11])), (hQ, .inr (11, [.ref hKi, .ref hPl, .ref hNu, y3, .int j4, .int j5, y6])), (hKi, .inl (cI, 2001, .inl kf)), (hPl, .inl (cI, 2001, .inl pf)), (hNu, .inl (cJ, 2001, .inr (.inl vf)))] := hD
  have hK : va_K (dC, dI) vwCl [(cB, .byte), (cI, .int), (cJ, .long), (cZ, .boolean)] s := hK
  have er_1 : r_1 = pf x1 := hw
  rw [er_1]
  refine lv_istore_n (lv' := [(2, .int (pf x1)), (1, .int (nI s1)), (0, .ref h0)]) hx hb dX9_readSum_12 rfl hl (by decide) rfl (fun ls hl => ?_)
  refine lv_aload_n hx hb dX9_readSum_13 rfl (lv_at hl 2 rfl) ?_
  have hPc := hP.sub (ws' := [(h0, .inr (10, [.int fl, .int pl, .ref hCd, w3, .int i4, .int i5, w6, .ref hQ, .int (nI x1), .int (nI z1), w10, .int i11])), (hQ, .inr (11, [.ref hKi, .ref hPl, .ref hNu, y3, .int j4, .int j5, y6])), (hKi, .inl (cI, 2001, .inl kf)), (hPl, .inl (cI, 2001, .inl pf)), (hNu, .inl (cJ, 2001, .inr (.inl vf))), (hCd, .inr (2, [.int (nI s1), .ref hA1, .ref hA2, .ref hA3, .ref hA4, .ref hA5, .ref hA6, .ref hA7, g8, g9, g10, g11, .int tq]))]) [1, 2, 3, 4, 5, 0] rfl
  have hDc := hD.sub (ws' := [(h0, .inr (10, [.int fl, .int pl, .ref hCd, w3, .int i4, .int i5, w6, .ref hQ, .int (nI x1), .int (nI z1), w10, .int i11])), (hQ, .inr (11, [.ref hKi, .ref hPl, .ref hNu, y3, .int j4, .int j5, y6])), (hKi, .inl (cI, 2001, .inl kf)), (hPl, .inl (cI, 2001, .inl pf)), (hNu, .inl (cJ, 2001, .inr (.inl vf))), (hCd, .inr (2, [.int (nI s1), .ref hA1, .ref hA2, .ref hA3, .ref hA4, .ref hA5, .ref hA6, .ref hA7, g8, g9, g10, g11, .int tq]))]) [1, 2, 3, 4, 5, 0] (by decide) rfl
  have hKc := hK.sub (tys' := [(cB, .byte), (cI, .int), (cJ, .long), (cZ, .boolean)]) [0, 1, 2, 3] rfl
  have hFc := va_free (wc := [(h0, .inr (10, [.int fl, .int pl, .ref hCd, w3, .int i4, .int i5, w6, .ref hQ, .int (nI x1), .int (nI z1), w10, .int i11])), (hQ, .inr (11, [.ref hKi, .ref hPl, .ref hNu, y3, .int j4, .int j5, y6])), (hKi, .inl (cI, 2001, .inl kf)), (hPl, .inl (cI, 2001, .inl pf)), (hNu, .inl (cJ, 2001, .inr (.inl vf))), (hCd, .inr (2, [.int (nI s1), .ref hA1, .ref hA2, .ref hA3, .ref hA4, .ref hA5, .ref hA6, .ref hA7, g8, g9, g10, g11, .int tq]))]) hD hS hA [1, 2, 3, 4, 5, 0] rfl
  refine va_callv (va_runV (As := []) (rest := []) ⟨hx, hb, hml, hown, hts⟩ (t_X9_readPart_f l dC dI H.size cB cI cJ cZ h0 hQ hKi hPl hNu kf pf vf fl pl w3 i4 i5 w6 x1 z1 w10 i11 y3 j4 j5 y6 hCd hA1 hA2 hA3 hA4 hA5 hA6 hA7 s1 g8 g9 g10 g11 tq   hx1 hfl) (cwV 0 hts (gd_all (in_V kw_967 kw_969 kw_25 kw_193 kc_X9_readPart)) rfl rfl rfl (by decide +kernel) ⟨Nat.le_of_ble_eq_true rfl, Nat.le_of_ble_eq_true rfl⟩) ⟨fun a U g mk q => by obtain ⟨q0, q1, qP, qK, qD⟩ := q; exact ⟨q0, q1, qP, va_K.moved (u := U) (U := U.calling g mk a) (Vm.Alike.refl U.vm) qK, qD⟩, va_recv hKc hPc (ci := 10) (q0 := 0) rfl rfl, fun U hU hW => ⟨rfl, by rw [hU], by rw [hU]; exact hPc, va_K.moved hW.alike hKc, hDc.weaken (fun _ _ _ _ => trivial)⟩⟩ rfl rfl hl.1 rfl (lv_room (Nat.le_of_ble_eq_true rfl)) dX9_readSum_14 ⟨Nat.le_of_ble_eq_true rfl, Nat.le_of_ble_eq_true rfl⟩) hS (fun q _ h => hFc q h) hFc (fun u t_ H1 locs ht hvm hw hB hz1 hk1 hS => ?_)
  obtain ⟨hP1, hK1, hD1⟩ := hB
  rw [ht] at hP1
  have hK1 := va_K.moved hvm.symm hK1
  obtain ⟨hP, hD⟩ := va_join (wr := []) (w1 := [(h0, .inr (10, [.int fl, .int pl, .ref hCd, w3, .int i4, .int i5, w6, .ref hQ, .int (nI x1), .int (nI z1), w10, .int i11])), (hQ, .inr (11, [.ref hKi, .ref hPl, .ref hNu, y3, .int j4, .int j5, y6])), (hKi, .inl (cI, 2001, .inl kf)), (hPl, .inl (cI, 2001, .inl pf)), (hNu, .inl (cJ, 2001, .inr (.inl vf))), (hCd, .inr (2, [.int (nI s1), .ref hA1, .ref hA2, .ref hA3, .ref hA4, .ref hA5, .ref hA6, .ref hA7, g8, g9, g10, g11, .int tq]))]) hP hD [1, 2, 3, 4, 5, 0] [] rfl rfl (by decide) (by decide) hk1 hFc hP1 hD1
  have hK := (hK.sub (tys' := []) [] rfl).app hK1
  generalize H1 = H at hP hS ⊢
  have hP : va_P (dC, dI) vwCl [(h0, .inr (10, [.int fl, .int pl, .ref hCd, w3, .int i4, .int i5, w6, .ref hQ, .int (nI x1), .int (nI z1), w10, .int i11])), (hQ, .inr (11, [.ref hKi, .ref hPl, .ref hNu, y3, .int j4, .int j5, y6])), (hKi, .inl (cI, 2001, .inl kf)), (hPl, .inl (cI, 2001, .inl pf)), (hNu, .inl (cJ, 2001, .inr (.inl vf))), (hCd, .inr (2, [.int (nI s1), .ref hA1, .ref hA2, .ref hA3, .ref hA4, .ref hA5, .ref hA6, .ref hA7, g8, g9, g10, g11, .int tq]))] H := hP
  have hD : va_D A [(h0, .inr (10, [.int fl, .int pl, .ref hCd, w3, .int i4, .int i5, w6, .ref hQ, .int (nI x1), .int (nI z1), w10, .int i11])), (hQ, .inr (11, [.ref hKi, .ref hPl, .ref hNu, y3, .int j4, .int j5, y6])), (hKi, .inl (cI, 2001, .inl kf)), (hPl, .inl (cI, 2001, .inl pf)), (hNu, .inl (cJ, 2001, .inr (.inl vf))), (hCd, .inr (2, [.int (nI s1), .ref hA1, .ref hA2, .ref hA3, .ref hA4, .ref hA5, .ref hA6, .ref hA7, g8, g9, g10, g11, .int tq]))] := hD
  have hK : va_K (dC, dI) vwCl [(cB, .byte), (cI, .int), (cJ, .long), (cZ, .boolean)] s := hK
  refine lv_iconst (v := 0) hx hb dX9_readSum_17 (by decide) ?_
  refine lv_istore_n (lv' := [(3, .int 0), (2, .int (pf x1)), (1, .int (nI s1)), (0, .ref h0)]) hx hb dX9_readSum_18 rfl hl (by decide) rfl (fun ls hl => ?_)
  refine lv_iload_n hx hb dX9_readSum_19 rfl (lv_at hl 0 rfl) ?_
  refine lv_sipush (v := 2000) hx hb dX9_readSum_20 (by decide) ?_
  refine lv_icmp_ge (tgt := 88) hx hb dX9_readSum_23 (by decide) (fun c_3 => ?_) (fun c_3 => ?_)
  · skip
    exact absurd c_3 (by decide)
  · skip
    refine lv_aload_n hx hb dX9_readSum_26 rfl (lv_at hl 3 rfl) ?_
    have hPc := hP.sub (ws' := [(h0, .inr (10, [.int fl, .int pl, .ref hCd, w3, .int i4, .int i5, w6, .ref hQ, .int (nI x1), .int (nI z1), w10, .int i11])), (hQ, .inr (11, [.ref hKi, .ref hPl, .ref hNu, y3, .int j4, .int j5, y6])), (hKi, .inl (cI, 2001, .inl kf)), (hPl, .inl (cI, 2001, .inl pf)), (hNu, .inl (cJ, 2001, .inr (.inl vf)))]) [0, 1, 2, 3, 4] rfl
    have hDc := hD.sub (ws' := [(h0, .inr (10, [.int fl, .int pl, .ref hCd, w3, .int i4, .int i5, w6, .ref hQ, .int (nI x1), .int (nI z1), w10, .int i11])), (hQ, .inr (11, [.ref hKi, .ref hPl, .ref hNu, y3, .int j4, .int j5, y6])), (hKi, .inl (cI, 2001, .inl kf)), (hPl, .inl (cI, 2001, .inl pf)), (hNu, .inl (cJ, 2001, .inr (.inl vf)))]) [0, 1, 2, 3, 4] (by decide) rfl
    have hKc := hK.sub (tys' := [(cB, .byte), (cI, .int), (cJ, .long), (cZ, .boolean)]) [0, 1, 2, 3] rfl
    have hFc := va_free (wc := [(h0, .inr (10, [.int fl, .int pl, .ref hCd, w3, .int i4, .int i5, w6, .ref hQ, .int (nI x1), .int (nI z1), w10, .int i11])), (hQ, .inr (11, [.ref hKi, .ref hPl, .ref hNu, y3, .int j4, .int j5, y6])), (hKi, .inl (cI, 2001, .inl kf)), (hPl, .inl (cI, 2001, .inl pf)), (hNu, .inl (cJ, 2001, .inr (.inl vf)))]) hD hS hA [0, 1, 2, 3, 4] rfl
    refine va_calli (va_runV (As := []) (rest := []) ⟨hx, hb, hml, hown, hts⟩ (t_X9_kind l dC dI H.size cB cI cJ cZ h0 hQ hKi hPl hNu kf pf vf fl pl (.ref hCd) w3 i4 i5 w6 x1 z1 w10 i11 y3 j4 j5 y6  hx1) (cwV 0 hts (gd_all (in_V kw_907 kw_909 kw_12 kw_193 kc_X9_kind)) rfl rfl rfl (by decide +kernel) ⟨Nat.le_of_ble_eq_true rfl, Nat.le_of_ble_eq_true rfl⟩) ⟨fun a U g mk q => by obtain ⟨q0, q1, qP, qK, qD⟩ := q; exact ⟨q0, q1, qP, va_K.moved (u := U) (U := U.calling g mk a) (Vm.Alike.refl U.vm) qK, qD⟩, va_recv hKc hPc (ci := 10) (q0 := 0) rfl rfl, fun U hU hW => ⟨rfl, by rw [hU], by rw [hU]; exact hPc, va_K.moved hW.alike hKc, hDc.weaken (fun _ _ _ _ => trivial)⟩⟩ rfl rfl hl.1 rfl (lv_room (Nat.le_of_ble_eq_true rfl)) dX9_readSum_27 ⟨Nat.le_of_ble_eq_true rfl, Nat.le_of_ble_eq_true rfl⟩) hS (fun q _ h => hFc q h) hFc (fun r_4 u t_ H1 locs ht hvm hw hB hz1 hk1 hS => ?_)
    obtain ⟨hP1, hK1, hD1⟩ := hB
    rw [ht] at hP1
    have hK1 := va_K.moved hvm.symm hK1
    obtain ⟨hP, hD⟩ := va_join (wr := [(hCd, .inr (2, [.int (nI s1), .ref hA1, .ref hA2, .ref hA3, .ref hA4, .ref hA5, .ref hA6, .ref hA7, g8, g9, g10, g11, .int tq]))]) (w1 := [(h0, .inr (10, [.int fl, .int pl, .ref hCd, w3, .int i4, .int i5, w6, .ref hQ, .int (nI x1), .int (nI z1), w10, .int i11])), (hQ, .inr (11, [.ref hKi, .ref hPl, .ref hNu, y3, .int j4, .int j5, y6])), (hKi, .inl (cI, 2001, .inl kf)), (hPl, .inl (cI, 2001, .inl pf)), (hNu, .inl (cJ, 2001, .inr (.inl vf)))]) hP hD [0, 1, 2, 3, 4] [5] rfl rfl (by decide) (by decide) hk1 hFc hP1 hD1
    have hK := (hK.sub (tys' := []) [] rfl).app hK1
    generalize H1 = H at hP hS ⊢
    have hP : va_P (dC, dI) vwCl [(hCd, .inr (2, [.int (nI s1), .ref hA1, .ref hA2, .ref hA3, .ref hA4, .ref hA5, .ref hA6, .ref hA7, g8, g9, g10, g11, .int tq])), (h0, .inr (10, [.int fl, .int pl, .ref hCd, w3, .int i4, .int i5, w6, .ref hQ, .int (nI x1), .int (nI z1), w10, .int i11])), (hQ, .inr (11, [.ref hKi, .ref hPl, .ref hNu, y3, .int j4, .int j5, y6])), (hKi, .inl (cI, 2001, .inl kf)), (hPl, .inl (cI, 2001, .inl pf)), (hNu, .inl (cJ, 2001, .inr (.inl vf)))] H := hP
    have hD : va_D A [(hCd, .inr (2, [.int (nI s1), .ref hA1, .ref hA2, .ref hA3, .ref hA4, .ref hA5, .ref hA6, .ref hA7, g8, g9, g10, g11, .int tq])), (h0, .inr (10, [.int fl, .int pl, .ref hCd, w3, .int i4, .int i5, w6, .ref hQ, .int (nI x1), .int (nI z1), w10, .int i11])), (hQ, .inr (11, [.ref hKi, .ref hPl, .ref hNu, y3, .int j4, .int j5, y6])), (hKi, .inl (cI, 2001, .inl kf)), (hPl, .inl (cI, 2001, .inl pf)), (hNu, .inl (cJ, 2001, .inr (.inl vf)))] := hD
    have hK : va_K (dC, dI) vwCl [(cB, .byte), (cI, .int), (cJ, .long), (cZ, .boolean)] s := hK
    have er_4 : r_4 = 57 := hw.trans (if_neg hfl)
    rw [er_4]
    refine lv_bipush (v := 45) hx hb dX9_readSum_30 (by decide) ?_
    refine lv_icmp_eq (tgt := 44) hx hb dX9_readSum_32 (by decide) (fun c_5 => ?_) (fun c_5 => ?_)
    · skip
      exact absurd c_5 (by decide)
    · skip
      refine lv_aload_n hx hb dX9_readSum_35 rfl (lv_at hl 3 rfl) ?_
      have hPc := hP.sub (ws' := [(h0, .inr (10, [.int fl, .int pl, .ref hCd, w3, .int i4, .int i5, w6, .ref hQ, .int (nI x1), .int (nI z1), w10, .int i11])), (hQ, .inr (11, [.ref hKi, .ref hPl, .ref hNu, y3, .int j4, .int j5, y6])), (hKi, .inl (cI, 2001, .inl kf)), (hPl, .inl (cI, 2001, .inl pf)), (hNu, .inl (cJ, 2001, .inr (.inl vf)))]) [1, 2, 3, 4, 5] rfl
      have hDc := hD.sub (ws' := [(h0, .inr (10, [.int fl, .int pl, .ref hCd, w3, .int i4, .int i5, w6, .ref hQ, .int (nI x1), .int (nI z1), w10, .int i11])), (hQ, .inr (11, [.ref hKi, .ref hPl, .ref hNu, y3, .int j4, .int j5, y6])), (hKi, .inl (cI, 2001, .inl kf)), (hPl, .inl (cI, 2001, .inl pf)), (hNu, .inl (cJ, 2001, .inr (.inl vf)))]) [1, 2, 3, 4, 5] (by decide) rfl
      have hKc := hK.sub (tys' := [(cB, .byte), (cI, .int), (cJ, .long), (cZ, .boolean)]) [0, 1, 2, 3] rfl
      have hFc := va_free (wc := [(h0, .inr (10, [.int fl, .int pl, .ref hCd, w3, .int i4, .int i5, w6, .ref hQ, .int (nI x1), .int (nI z1), w10, .int i11])), (hQ, .inr (11, [.ref hKi, .ref hPl, .ref hNu, y3, .int j4, .int j5, y6])), (hKi, .inl (cI, 2001, .inl kf)), (hPl, .inl (cI, 2001, .inl pf)), (hNu, .inl (cJ, 2001, .inr (.inl vf)))]) hD hS hA [1, 2, 3, 4, 5] rfl
      refine va_calli (va_runV (As := []) (rest := []) ⟨hx, hb, hml, hown, hts⟩ (t_X9_kind l dC dI H.size cB cI cJ cZ h0 hQ hKi hPl hNu kf pf vf fl pl (.ref hCd) w3 i4 i5 w6 x1 z1 w10 i11 y3 j4 j5 y6  hx1) (cwV 0 hts (gd_all (in_V kw_907 kw_909 kw_12 kw_193 kc_X9_kind)) rfl rfl rfl (by decide +kernel) ⟨Nat.le_of_ble_eq_true rfl, Nat.le_of_ble_eq_true rfl⟩) ⟨fun a U g mk q => by obtain ⟨q0, q1, qP, qK, qD⟩ := q; exact ⟨q0, q1, qP, va_K.moved (u := U) (U := U.calling g mk a) (Vm.Alike.refl U.vm) qK, qD⟩, va_recv hKc hPc (ci := 10) (q0 := 0) rfl rfl, fun U hU hW => ⟨rfl, by rw [hU], by rw [hU]; exact hPc, va_K.moved hW.alike hKc, hDc.weaken (fun _ _ _ _ => trivial)⟩⟩ rfl rfl hl.1 rfl (lv_room (Nat.le_of_ble_eq_true rfl)) dX9_readSum_36 ⟨Nat.le_of_ble_eq_true rfl, Nat.le_of_ble_eq_true rfl⟩) hS (fun q _ h => hFc q h) hFc (fun r_6 u t_ H1 locs ht hvm hw hB hz1 hk1 hS => ?_)
      obtain ⟨hP1, hK1, hD1⟩ := hB
      rw [ht] at hP1
      have hK1 := va_K.moved hvm.symm hK1
      obtain ⟨hP, hD⟩ := va_join (wr := [(hCd, .inr (2, [.int (nI s1), .ref hA1, .ref hA2, .ref hA3, .ref hA4, .ref hA5, .ref hA6, .ref hA7, g8, g9, g10, g11, .int tq]))]) (w1 := [(h0, .inr (10, [.int fl, .int pl, .ref hCd, w3, .int i4, .int i5, w6, .ref hQ, .int (nI x1), .int (nI z1), w10, .int i11])), (hQ, .inr (11, [.ref hKi, .ref hPl, .ref hNu, y3, .int j4, .int j5, y6])), (hKi, .inl (cI, 2001, .inl kf)), (hPl, .inl (cI, 2001, .inl pf)), (hNu, .inl (cJ, 2001, .inr (.inl vf)))]) hP hD [1, 2, 3, 4, 5] [0] rfl rfl (by decide) (by decide) hk1 hFc hP1 hD1
      have hK := (hK.sub (tys' := []) [] rfl).app hK1
      generalize H1 = H at hP hS ⊢
      have hP : va_P (dC, dI) vwCl [(hCd, .inr (2, [.int (nI s1), .ref hA1, .ref hA2, .ref hA3, .ref hA4, .ref hA5, .ref hA6, .ref hA7, g8, g9, g10, g11, .int tq])), (h0, .inr (10, [.int fl, .int pl, .ref hCd, w3, .int i4, .int i5, w6, .ref hQ, .int (nI x1), .int (nI z1), w10, .int i11])), (hQ, .inr (11, [.ref hKi, .ref hPl, .ref hNu, y3, .int j4, .int j5, y6])), (hKi, .inl (cI, 2001, .inl kf)), (hPl, .inl (cI, 2001, .inl pf)), (hNu, .inl (cJ, 2001, .inr (.inl vf)))] H := hP
      have hD : va_D A [(hCd, .inr (2, [.int (nI s1), .ref hA1, .ref hA2, .ref hA3, .ref hA4, .ref hA5, .ref hA6, .ref hA7, g8, g9, g10, g11, .int tq])), (h0, .inr (10, [.int fl, .int pl, .ref hCd, w3, .int i4, .int i5, w6, .ref hQ, .int (nI x1), .int (nI z1), w10, .int i11])), (hQ, .inr (11, [.ref hKi, .ref hPl, .ref hNu, y3, .int j4, .int j5, y6])), (hKi, .inl (cI, 2001, .inl kf)), (hPl, .inl (cI, 2001, .inl pf)), (hNu, .inl (cJ, 2001, .inr (.inl vf)))] := hD
      have hK : va_K (dC, dI) vwCl [(cB, .byte), (cI, .int), (cJ, .long), (cZ, .boolean)] s := hK
      have er_6 : r_6 = 57 := hw.trans (if_neg hfl)
      rw [er_6]
      refine lv_bipush (v := 46) hx hb dX9_readSum_39 (by decide) ?_
      refine lv_icmp_ne (tgt := 88) hx hb dX9_readSum_41 (by decide) (fun c_7 => ?_) (fun c_7 => ?_)
      · skip
        have hP9 := hP.sub (ws' := [(h0, .inr (10, [.int fl, .int pl, .ref hCd, w3, .int i4, .int i5, w6, .ref hQ, .int (nI x1), .int (nI z1), w10, .int i11])), (hQ, .inr (11, [.ref hKi, .ref hPl, .ref hNu, y3, .int j4, .int j5, y6])), (hKi, .inl (cI, 2001, .inl kf)), (hPl, .inl (cI, 2001, .inl pf)), (hNu, .inl (cJ, 2001, .inr (.inl vf))), (hCd, .inr (2, [.int (nI s1), .ref hA1, .ref hA2, .ref hA3, .ref hA4, .ref hA5, .ref hA6, .ref hA7, g8, g9, g10, g11, .int tq]))]) [1, 2, 3, 4, 5, 0] rfl
        have hD9 := hD.sub (ws' := [(h0, .inr (10, [.int fl, .int pl, .ref hCd, w3, .int i4, .int i5, w6, .ref hQ, .int (nI x1), .int (nI z1), w10, .int i11])), (hQ, .inr (11, [.ref hKi, .ref hPl, .ref hNu, y3, .int j4, .int j5, y6])), (hKi, .inl (cI, 2001, .inl kf)), (hPl, .inl (cI, 2001, .inl pf)), (hNu, .inl (cJ, 2001, .inr (.inl vf))), (hCd, .inr (2, [.int (nI s1), .ref hA1, .ref hA2, .ref hA3, .ref hA4, .ref hA5, .ref hA6, .ref hA7, g8, g9, g10, g11, .int tq]))]) [1, 2, 3, 4, 5, 0] (by decide) rfl
        have hK9 := hK.sub (tys' := [(cB, .byte), (cI, .int), (cJ, .long), (cZ, .boolean)]) [0, 1, 2, 3] rfl
        exact W.vret hx hb hr (fun t_ ht hW => ⟨⟨(), rfl, trivial, by rw [ht]; exact hP9, va_K.moved hW.alike hK9, hD9⟩, hS.F ht⟩) hS.2.2 dX9_readSum_88
      · skip
        exact absurd c_7 (by decide)
theorem dX9_readTest_0 : decode cX9_readTest 0 = .ok (.aload_n 0, 1) := by decide +kernel
theorem dX9_readTest_1 : decode cX9_readTest 1 = .ok (.getfield 26, 3) := by decide +kernel
theorem dX9_readTest_4 : decode cX9_readTest 4 = .ok (.getfield 296, 3) := by decide +kernel
theorem dX9_readTest_7 : decode cX9_readTest 7 = .ok (.istore_n 1, 1) := by decide +kernel
theorem dX9_readTest_8 : decode cX9_readTest 8 = .ok (.aload_n 0, 1) := by decide +kernel
theorem dX9_readTest_9 : decode cX9_readTest 9 = .ok (.invokevirtual 118, 3) := by decide +kernel
theorem dX9_readTest_12 : decode cX9_readTest 12 = .ok (.istore_n 2, 1) := by decide +kernel
theorem dX9_readTest_13 : decode cX9_readTest 13 = .ok (.aload_n 0, 1) := by decide +kernel
theorem dX9_readTest_14 : decode cX9_readTest 14 = .ok (.invokevirtual 315, 3) := by decide +kernel
theorem dX9_readTest_17 : decode cX9_readTest 17 = .ok (.aload_n 0, 1) := by decide +kernel
theorem dX9_readTest_18 : decode cX9_readTest 18 = .ok (.invokevirtual 118, 3) := by decide +kernel
theorem dX9_readTest_21 : decode cX9_readTest 21 = .ok (.istore_n 3, 1) := by decide +kernel
theorem dX9_readTest_22 : decode cX9_readTest 22 = .ok (.aload_n 0, 1) := by decide +kernel
theorem dX9_readTest_23 : decode cX9_readTest 23 = .ok (.invokevirtual 114, 3) := by decide +kernel
theorem dX9_readTest_26 : decode cX9_readTest 26 = .ok (.istore 4, 2) := by decide +kernel
theorem dX9_readTest_28 : decode cX9_readTest 28 = .ok (.iload 4, 2) := by decide +kernel
theorem dX9_readTest_30 : decode cX9_readTest 30 = .ok (.tableswitch 252 24 55 #[170, 218, 252, 240, 252, 252, 252, 252, 252, 252, 252, 252, 252, 252, 252, 252, 252, 252, 252, 252, 252, 252, 252, 252, 252, 252, 142, 142, 142, 142, 142, 142], 142) := by decide +kernel
theorem dX9_readTest_172 : decode cX9_readTest 172 = .ok (.aload_n 0, 1) := by decide +kernel
theorem dX9_readTest_173 : decode cX9_readTest 173 = .ok (.dup, 1) := by decide +kernel
theorem dX9_readTest_174 : decode cX9_readTest 174 = .ok (.getfield 99, 3) := by decide +kernel
theorem dX9_readTest_177 : decode cX9_readTest 177 = .ok (.iconst 1, 1) := by decide +kernel
theorem dX9_readTest_178 : decode cX9_readTest 178 = .ok (.iadd, 1) := by decide +kernel
theorem dX9_readTest_179 : decode cX9_readTest 179 = .ok (.putfield 99, 3) := by decide +kernel
theorem dX9_readTest_182 : decode cX9_readTest 182 = .ok (.aload_n 0, 1) := by decide +kernel
theorem dX9_readTest_183 : decode cX9_readTest 183 = .ok (.invokevirtual 315, 3) := by decide +kernel
theorem dX9_readTest_186 : decode cX9_readTest 186 = .ok (.aload_n 0, 1) := by decide +kernel
theorem dX9_readTest_187 : decode cX9_readTest 187 = .ok (.iload 4, 2) := by decide +kernel
theorem dX9_readTest_189 : decode cX9_readTest 189 = .ok (.iload_n 1, 1) := by decide +kernel
theorem dX9_readTest_190 : decode cX9_readTest 190 = .ok (.iload_n 2, 1) := by decide +kernel
theorem dX9_readTest_191 : decode cX9_readTest 191 = .ok (.iload_n 3, 1) := by decide +kernel
theorem dX9_readTest_192 : decode cX9_readTest 192 = .ok (.iconst 2, 1) := by decide +kernel
theorem dX9_readTest_193 : decode cX9_readTest 193 = .ok (.invokevirtual 305, 3) := by decide +kernel
theorem dX9_readTest_196 : decode cX9_readTest 196 = .ok (.pop, 1) := by decide +kernel
theorem dX9_readTest_197 : decode cX9_readTest 197 = .ok (.goto 85, 3) := by decide +kernel
theorem dX9_readTest_200 : decode cX9_readTest 200 = .ok (.aload_n 0, 1) := by decide +kernel
theorem dX9_readTest_201 : decode cX9_readTest 201 = .ok (.dup, 1) := by decide +kernel
theorem dX9_readTest_202 : decode cX9_readTest 202 = .ok (.getfield 99, 3) := by decide +kernel
theorem dX9_readTest_205 : decode cX9_readTest 205 = .ok (.iconst 1, 1) := by decide +kernel
theorem dX9_readTest_206 : decode cX9_readTest 206 = .ok (.iadd, 1) := by decide +kernel
theorem dX9_readTest_207 : decode cX9_readTest 207 = .ok (.putfield 99, 3) := by decide +kernel
theorem dX9_readTest_210 : decode cX9_readTest 210 = .ok (.aload_n 0, 1) := by decide +kernel
theorem dX9_readTest_211 : decode cX9_readTest 211 = .ok (.bipush 25, 2) := by decide +kernel
theorem dX9_readTest_213 : decode cX9_readTest 213 = .ok (.invokevirtual 48, 3) := by decide +kernel
theorem dX9_readTest_216 : decode cX9_readTest 216 = .ok (.ifCond .eq 8, 3) := by decide +kernel
theorem dX9_readTest_219 : decode cX9_readTest 219 = .ok (.bipush 59, 2) := by decide +kernel
theorem dX9_readTest_221 : decode cX9_readTest 221 = .ok (.goto 5, 3) := by decide +kernel
theorem dX9_readTest_224 : decode cX9_readTest 224 = .ok (.bipush 24, 2) := by decide +kernel
theorem dX9_readTest_226 : decode cX9_readTest 226 = .ok (.istore 5, 2) := by decide +kernel
theorem dX9_readTest_228 : decode cX9_readTest 228 = .ok (.aload_n 0, 1) := by decide +kernel
theorem dX9_readTest_229 : decode cX9_readTest 229 = .ok (.bipush 26, 2) := by decide +kernel
theorem dX9_readTest_231 : decode cX9_readTest 231 = .ok (.invokevirtual 60, 3) := by decide +kernel
theorem dX9_readTest_234 : decode cX9_readTest 234 = .ok (.aload_n 0, 1) := by decide +kernel
theorem dX9_readTest_235 : decode cX9_readTest 235 = .ok (.iload 5, 2) := by decide +kernel
theorem dX9_readTest_237 : decode cX9_readTest 237 = .ok (.iload_n 1, 1) := by decide +kernel
theorem dX9_readTest_238 : decode cX9_readTest 238 = .ok (.iload_n 2, 1) := by decide +kernel
theorem dX9_readTest_239 : decode cX9_readTest 239 = .ok (.iload_n 3, 1) := by decide +kernel
theorem dX9_readTest_240 : decode cX9_readTest 240 = .ok (.iconst 1, 1) := by decide +kernel
theorem dX9_readTest_241 : decode cX9_readTest 241 = .ok (.invokevirtual 305, 3) := by decide +kernel
theorem dX9_readTest_244 : decode cX9_readTest 244 = .ok (.pop, 1) := by decide +kernel
theorem dX9_readTest_245 : decode cX9_readTest 245 = .ok (.goto 37, 3) := by decide +kernel
theorem dX9_readTest_248 : decode cX9_readTest 248 = .ok (.aload_n 0, 1) := by decide +kernel
theorem dX9_readTest_249 : decode cX9_readTest 249 = .ok (.dup, 1) := by decide +kernel
theorem dX9_readTest_250 : decode cX9_readTest 250 = .ok (.getfield 99, 3) := by decide +kernel
theorem dX9_readTest_253 : decode cX9_readTest 253 = .ok (.iconst 1, 1) := by decide +kernel
theorem dX9_readTest_254 : decode cX9_readTest 254 = .ok (.iadd, 1) := by decide +kernel
theorem dX9_readTest_255 : decode cX9_readTest 255 = .ok (.putfield 99, 3) := by decide +kernel
theorem dX9_readTest_258 : decode cX9_readTest 258 = .ok (.aload_n 0, 1) := by decide +kernel
theorem dX9_readTest_259 : decode cX9_readTest 259 = .ok (.bipush 60, 2) := by decide +kernel
theorem dX9_readTest_261 : decode cX9_readTest 261 = .ok (.iload_n 1, 1) := by decide +kernel
theorem dX9_readTest_262 : decode cX9_readTest 262 = .ok (.iload_n 2, 1) := by decide +kernel
theorem dX9_readTest_263 : decode cX9_readTest 263 = .ok (.iload_n 3, 1) := by decide +kernel
theorem dX9_readTest_264 : decode cX9_readTest 264 = .ok (.invokevirtual 318, 3) := by decide +kernel
theorem dX9_readTest_267 : decode cX9_readTest 267 = .ok (.goto 15, 3) := by decide +kernel
theorem dX9_readTest_270 : decode cX9_readTest 270 = .ok (.aload_n 0, 1) := by decide +kernel
theorem dX9_readTest_271 : decode cX9_readTest 271 = .ok (.bipush 27, 2) := by decide +kernel
theorem dX9_readTest_273 : decode cX9_readTest 273 = .ok (.iload_n 1, 1) := by decide +kernel
theorem dX9_readTest_274 : decode cX9_readTest 274 = .ok (.iload_n 2, 1) := by decide +kernel
theorem dX9_readTest_275 : decode cX9_readTest 275 = .ok (.iload_n 3, 1) := by decide +kernel
theorem dX9_readTest_276 : decode cX9_readTest 276 = .ok (.invokevirtual 318, 3) := by decide +kernel
theorem dX9_readTest_279 : decode cX9_readTest 279 = .ok (.goto 3, 3) := by decide +kernel
theorem dX9_readTest_282 : decode cX9_readTest 282 = .ok (.return_, 1) := by decide +kernel
abbrev cs_t_X9_readTest_f (cB cI cJ cZ : ClassId) (h0 hQ hKi hPl hNu : Nat) (kf pf : Nat → Int32) (vf : Nat → Int64) (fl pl : Int32) (w3 : Value) (i4 i5 : Int32) (w6 : Value) (x1 z1 : Nat) (w10 : Value) (i11 : Int32) (y3 : Value) (j4 j5 : Int32) (y6 : Value) (hCd hA1 hA2 hA3 hA4 hA5 hA6 hA7 s1 : Nat) (g8 g9 g10 g11 : Value) (tq : Int32) : va_W := [(h0, .inr (10, [.int fl, .int pl, .ref hCd, w3, .int i4, .int i5, w6, .ref hQ, .int (nI x1), .int (nI z1), w10, .int i11])), (hQ, .inr (11, [.ref hKi, .ref hPl, .ref hNu, y3, .int j4, .int j5, y6])), (hKi, .inl (cI, 2001, .inl kf)), (hPl, .inl (cI, 2001, .inl pf)), (hNu, .inl (cJ, 2001, .inr (.inl vf))), (hCd, .inr (2, [.int (nI s1), .ref hA1, .ref hA2, .ref hA3, .ref hA4, .ref hA5, .ref hA6, .ref hA7, g8, g9, g10, g11, .int tq]))]
abbrev pc_t_X9_readTest_f (dC : Nat → ClassId) (dI : Nat → Nat → Nat) (sz : Nat) (cB cI cJ cZ : ClassId) (h0 hQ hKi hPl hNu : Nat) (kf pf : Nat → Int32) (vf : Nat → Int64) (fl pl : Int32) (w3 : Value) (i4 i5 : Int32) (w6 : Value) (x1 z1 : Nat) (w10 : Value) (i11 : Int32) (y3 : Value) (j4 j5 : Int32) (y6 : Value) (hCd hA1 hA2 hA3 hA4 hA5 hA6 hA7 s1 : Nat) (g8 g9 g10 g11 : Value) (tq : Int32) : Array Value → State → Prop := va_Pc [.ref h0] (fun U => U.heap.size = sz ∧ va_P (dC, dI) vwCl [(h0, .inr (10, [.int fl, .int pl, .ref hCd, w3, .int i4, .int i5, w6, .ref hQ, .int (nI x1), .int (nI z1), w10, .int i11])), (hQ, .inr (11, [.ref hKi, .ref hPl, .ref hNu, y3, .int j4, .int j5, y6])), (hKi, .inl (cI, 2001, .inl kf)), (hPl, .inl (cI, 2001, .inl pf)), (hNu, .inl (cJ, 2001, .inr (.inl vf))), (hCd, .inr (2, [.int (nI s1), .ref hA1, .ref hA2, .ref hA3, .ref hA4, .ref hA5, .ref hA6, .ref hA7, g8, g9, g10, g11, .int tq]))] U.heap ∧ va_K (dC, dI) vwCl [(cB, .byte), (cI, .int), (cJ, .long), (cZ, .boolean)] U ∧ va_D (fun _ => True) [(h0, .inr (10, [.int fl, .int pl, .ref hCd, w3, .int i4, .int i5, w6, .ref hQ, .int (nI x1), .int (nI z1), w10, .int i11])), (hQ, .inr (11, [.ref hKi, .ref hPl, .ref hNu, y3, .int j4, .int j5, y6])), (hKi, .inl (cI, 2001, .inl kf)), (hPl, .inl (cI, 2001, .inl pf)), (hNu, .inl (cJ, 2001, .inr (.inl vf))), (hCd, .inr (2, [.int (nI s1), .ref hA1, .ref hA2, .ref hA3, .ref hA4, .ref hA5, .ref hA6, .ref hA7, g8, g9, g10, g11, .int tq]))])
abbrev qc_t_X9_readTest_f (dC : Nat → ClassId) (dI : Nat → Nat → Nat) (cB cI cJ cZ : ClassId) (h0 hQ hKi hPl hNu : Nat) (kf pf : Nat → Int32) (vf : Nat → Int64) (fl pl : Int32) (w3 : Value) (i4 i5 : Int32) (w6 : Value) (x1 z1 : Nat) (w10 : Value) (i11 : Int32) (y3 : Value) (j4 j5 : Int32) (y6 : Value) (hCd hA1 hA2 hA3 hA4 hA5 hA6 hA7 s1 : Nat) (g8 g9 g10 g11 : Value) (tq : Int32) (A : Nat → Prop) : Array Value → State → Outcome → State → Prop := va_Qv (fun (u : Unit) => match u with | _ => True) (fun (u : Unit) t_ => match u with | _ => va_P (dC, dI) vwCl [(h0, .inr (10, [.int fl, .int pl, .ref hCd, w3, .int i4, .int i5, w6, .ref hQ, .int (nI x1), .int (nI z1), w10, .int i11])), (hQ, .inr (11, [.ref hKi, .ref hPl, .ref hNu, y3, .int j4, .int j5, y6])), (hKi, .inl (cI, 2001, .inl kf)), (hPl, .inl (cI, 2001, .inl pf)), (hNu, .inl (cJ, 2001, .inr (.inl vf))), (hCd, .inr (2, [.int (nI s1), .ref hA1, .ref hA2, .ref hA3, .ref hA4, .ref hA5, .ref hA6, .ref hA7, g8, g9, g10, g11, .int tq]))] t_.heap ∧ va_K (dC, dI) vwCl [(cB, .byte), (cI, .int), (cJ, .long), (cZ, .boolean)] t_ ∧ va_D A [(h0, .inr (10, [.int fl, .int pl, .ref hCd, w3, .int i4, .int i5, w6, .ref hQ, .int (nI x1), .int (nI z1), w10, .int i11])), (hQ, .inr (11, [.ref hKi, .ref hPl, .ref hNu, y3, .int j4, .int j5, y6])), (hKi, .inl (cI, 2001, .inl kf)), (hPl, .inl (cI, 2001, .inl pf)), (hNu, .inl (cJ, 2001, .inr (.inl vf))), (hCd, .inr (2, [.int (nI s1), .ref hA1, .ref hA2, .ref hA3, .ref hA4, .ref hA5, .ref hA6, .ref hA7, g8, g9, g10, g11, .int tq]))]) A
set_option maxHeartbeats 4000000 in
set_option maxRecDepth 100000 in
theorem t_X9_readTest_f (l : Launch) (dC : Nat → ClassId) (dI : Nat → Nat → Nat) (sz : Nat) (cB cI cJ cZ : ClassId) (h0 hQ hKi hPl hNu : Nat) (kf pf : Nat → Int32) (vf : Nat → Int64) (fl pl : Int32) (w3 : Value) (i4 i5 : Int32) (w6 : Value) (x1 z1 : Nat) (w10 : Value) (i11 : Int32) (y3 : Value) (j4 j5 : Int32) (y6 : Value) (hCd hA1 hA2 hA3 hA4 hA5 hA6 hA7 s1 : Nat) (g8 g9 g10 g11 : Value) (tq : Int32) (hx1 : x1 ≤ 2000) (hfl : ¬ fl = 0) : Met l yX9_readTest (wsOf yX9_readTest cX9_readTest 6 none) ({ frames := 6, cells := 0, slots := 0, locals := 360 }) (pc_t_X9_readTest_f dC dI sz cB cI cJ cZ h0 hQ hKi hPl hNu kf pf vf fl pl w3 i4 i5 w6 x1 z1 w10 i11 y3 j4 j5 y6 hCd hA1 hA2 hA3 hA4 hA5 hA6 hA7 s1 g8 g9 g10 g11 tq) (qc_t_X9_readTest_f dC dI cB cI cJ cZ h0 hQ hKi hPl hNu kf pf vf fl pl w3 i4 i5 w6 x1 z1 w10 i11 y3 j4 j5 y6 hCd hA1 hA2 hA3 hA4 hA5 hA6 hA7 s1 g8 g9 g10 g11 tq (va_A (cs_t_X9_readTest_f cB cI cJ cZ h0 hQ hKi hPl hNu kf pf vf fl pl w3 i4 i5 w6 x1 z1 w10 i11 y3 j4 j5 y6 hCd hA1 hA2 hA3 hA4 hA5 hA6 hA7 s1 g8 g9 g10 g11 tq) sz)) 0 0 (va_A (cs_t_X9_readTest_f cB cI cJ cZ h0 hQ hKi hPl hNu kf pf vf fl pl w3 i4 i5 w6 x1 z1 w10 i11 y3 j4 j5 y6 hCd hA1 hA2 hA3 hA4 hA5 hA6 hA7 s1 g8 g9 g10 g11 tq) sz) := by
  refine Met.ofW (cc := cX9_readTest) (maxL := 6) (ret := none) (by decide) rfl ?_
  intro p e s m args below meth c s₁ B hml hv
  obtain ⟨rfl, hsz, hP, hK, hD0⟩ := hv
  have hx := B.exec
  have hb := B.bytes
  have hr := B.returns
  have hts := atoms_spec (ws := (wsOf yX9_readTest cX9_readTest 6 none)) B.pre
  have hown : s.vm.findClass RX9 = some m.cls := findClass_of_methodNamed B.named
  have hlocks := B.notSynchronized
  subst hsz
  have hD := hD0.self (sz := s.heap.size)
  generalize hAe : va_A (cs_t_X9_readTest_f cB cI cJ cZ h0 hQ hKi hPl hNu kf pf vf fl pl w3 i4 i5 w6 x1 z1 w10 i11 y3 j4 j5 y6 hCd hA1 hA2 hA3 hA4 hA5 hA6 hA7 s1 g8 g9 g10 g11 tq) s.heap.size = A at hD ⊢
  have hA : ∀ q : Nat, s.heap.size ≤ q → A q := fun q h => by rw [← hAe]; exact Or.inr h
  have hS : va_S A s.heap s.heap [] := va_S.rf
  have hP : va_P (dC, dI) vwCl [(h0, .inr (10, [.int fl, .int pl, .ref hCd, w3, .int i4, .int i5, w6, .ref hQ, .int (nI x1), .int (nI z1), w10, .int i11])), (hQ, .inr (11, [.ref hKi, .ref hPl, .ref hNu, y3, .int j4, .int j5, y6])), (hKi, .inl (cI, 2001, .inl kf)), (hPl, .inl (cI, 2001, .inl pf)), (hNu, .inl (cJ, 2001, .inr (.inl vf))), (hCd, .inr (2, [.int (nI s1), .ref hA1, .ref hA2, .ref hA3, .ref hA4, .ref hA5, .ref hA6, .ref hA7, g8, g9, g10, g11, .int tq]))] s.heap := hP
  have hl := lv_entry ([.ref h0]) (n := 6) (Nat.le_of_ble_eq_true rfl)
  rw [lg_entry_eq]
  generalize (lg_sl ([.ref h0]) ++ List.replicate (6 - (lg_sl ([.ref h0])).length) Slot.unset).toArray = ls at hl ⊢
  have hl : lv_has ls 6 [(0, .ref h0)] := hl
  refine lv_aload_n hx hb dX9_readTest_0 rfl (lv_at hl 0 rfl) ?_
  refine va_get (D := (dC, dI)) (ci := 10) (v := .ref hCd) (C := RX9) (T := TX9) (N := 12) hx hb hts (fun w h => List.mem_cons_of_mem _ (uG_X9 w h)) hown hK hP 0 rfl rfl 2 (by decide) (hts _ (List.mem_cons_of_mem _ kw_860)) (fun _ h9 => h9) rfl dX9_readTest_1 ?_
  refine va_get (D := (dC, dI)) (ci := 2) (v := .int (nI s1)) (C := RX1) (T := TX1) (N := 13) hx hb hts (fun w h => List.mem_cons_of_mem _ (uG_X1 w h)) hown hK hP 5 rfl rfl 0 (by decide) (hts _ (List.mem_cons_of_mem _ kw_373)) (fun _ h9 => h9) rfl dX9_readTest_4 ?_
  refine lv_istore_n (lv' := [(1, .int (nI s1)), (0, .ref h0)]) hx hb dX9_readTest_7 rfl hl (by decide) rfl (fun ls hl => ?_)
  refine lv_aload_n hx hb dX9_readTest_8 rfl (lv_at hl 1 rfl) ?_
  have hPc := hP.sub (ws' := [(h0, .inr (10, [.int fl, .int pl, .ref hCd, w3, .int i4, .int i5, w6, .ref hQ, .int (nI x1), .int (nI z1), w10, .int i11])), (hQ, .inr (11, [.ref hKi, .ref hPl, .ref hNu, y3, .int j4, .int j5, y6])), (hKi, .inl (cI, 2001, .inl kf)), (hPl, .inl (cI, 2001, .inl pf)), (hNu, .inl (cJ, 2001, .inr (.inl vf)))]) [0, 1, 2, 3, 4] rfl
  have hDc := hD.sub (ws' := [(h0, .inr (10, [.int fl, .int pl, .ref hCd, w3, .int i4, .int i5, w6, .ref hQ, .int (nI x1), .int (nI z1), w10, .int i11])), (hQ, .inr (11, [.ref hKi, .ref hPl, .ref hNu, y3, .int j4, .int j5, y6])), (hKi, .inl (cI, 2001, .inl kf)), (hPl, .inl (cI, 2001, .inl pf)), (hNu, .inl (cJ, 2001, .inr (.inl vf)))]) [0, 1, 2, 3, 4] (by decide) rfl
  have hKc := hK.sub (tys' := [(cB, .byte), (cI, .int), (cJ, .long), (cZ, .boolean)]) [0, 1, 2, 3] rfl
  have hFc := va_free (wc := [(h0, .inr (10, [.int fl, .int pl, .ref hCd, w3, .int i4, .int i5, w6, .ref hQ, .int (nI x1), .int (nI z1), w10, .int i11])), (hQ, .inr (11, [.ref hKi, .ref hPl, .ref hNu, y3, .int j4, .int j5, y6])), (hKi, .inl (cI, 2001, .inl kf)), (hPl, .inl (cI, 2001, .inl pf)), (hNu, .inl (cJ, 2001, .inr (.inl vf)))]) hD hS hA [0, 1, 2, 3, 4] rfl
  refine va_calli (va_runV (As := []) (rest := []) ⟨hx, hb, hml, hown, hts⟩ (t_X9_here l dC dI s.heap.size cB cI cJ cZ h0 hQ hKi hPl hNu kf pf vf fl pl (.ref hCd) w3 i4 i5 w6 x1 z1 w10 i11 y3 j4 j5 y6  hx1) (cwV 0 hts (gd_all (in_V kw_923 kw_925 kw_16 kw_193 kc_X9_here)) rfl rfl rfl (by decide +kernel) ⟨Nat.le_of_ble_eq_true rfl, Nat.le_of_ble_eq_true rfl⟩) ⟨fun a U g mk q => by obtain ⟨q0, q1, qP, qK, qD⟩ := q; exact ⟨q0, q1, qP, va_K.moved (u := U) (U := U.calling g mk a) (Vm.Alike.refl U.vm) qK, qD⟩, va_recv hKc hPc (ci := 10) (q0 := 0) rfl rfl, fun U hU hW => ⟨rfl, by rw [hU], by rw [hU]; exact hPc, va_K.moved hW.alike hKc, hDc.weaken (fun _ _ _ _ => trivial)⟩⟩ rfl rfl hl.1 rfl (lv_room (Nat.le_of_ble_eq_true rfl)) dX9_readTest_9 ⟨Nat.le_of_ble_eq_true rfl, Nat.le_of_ble_eq_true rfl⟩) hS (fun q _ h => hFc q h) hFc (fun r_1 u t_ H1 locs ht hvm hw hB hz1 hk1 hS => ?_)
  obtain ⟨hP1, hK1, hD1⟩ := hB
  rw [ht] at hP1
  have hK1 := va_K.moved hvm.symm hK1
  obtain ⟨hP, hD⟩ := va_join (wr := [(hCd, .inr (2, [.int (nI s1), .ref hA1, .ref hA2, .ref hA3, .ref hA4, .ref hA5, .ref hA6, .ref hA7, g8, g9, g10, g11, .int tq]))]) (w1 := [(h0, .inr (10, [.int fl, .int pl, .ref hCd, w3, .int i4, .int i5, w6, .ref hQ, .int (nI x1), .int (nI z1), w10, .int i11])), (hQ, .inr (11, [.ref hKi, .ref hPl, .ref hNu, y3, .int j4, .int j5, y6])), (hKi, .inl (cI, 2001, .inl kf)), (hPl, .inl (cI, 2001, .inl pf)), (hNu, .inl (cJ, 2001, .inr (.inl vf)))]) hP hD [0, 1, 2, 3, 4] [5] rfl rfl (by decide) (by decide) hk1 hFc hP1 hD1
  have hK := (hK.sub (tys' := []) [] rfl).app hK1
  generalize H1 = H at hP hS ⊢
  have hP : va_P (dC, dI) vwCl [(hCd, .inr (2, [.int (nI s1), .ref hA1, .ref hA2, .ref hA3, .ref hA4, .ref hA5, .ref hA6, .ref hA7, g8, g9, g10, g11, .int tq])), (h0, .inr (10, [.int fl, .int pl, .ref hCd, w3, .int i4, .int i5, w6, .ref hQ, .int (nI x1), .int (nI z1), w10, .int i11])), (hQ, .inr (11, [.ref hKi, .ref hPl, .ref hNu, y3, .int j4, .int j5, y6])), (hKi, .inl (cI, 2001, .inl kf)), (hPl, .inl (cI, 2001, .inl pf)), (hNu, .inl (cJ, 2001, .inr (.inl vf)))] H := hP
  have hD : va_D A [(hCd, .inr (2, [.int (nI s1), .ref hA1, .ref hA2, .ref hA3, .ref hA4, .ref hA5, .ref hA6, .ref hA7, g8, g9, g10, g11, .int tq])), (h0, .inr (10, [.int fl, .int pl, .ref hCd, w3, .int i4, .int i5, w6, .ref hQ, .int (nI x1), .int (nI z1), w10, .int i11])), (hQ, .inr (11, [.ref hKi, .ref hPl, .ref hNu, y3, .int j4, .int j5, y6])), (hKi, .inl (cI, 2001, .inl kf)), (hPl, .inl (cI, 2001, .inl pf)), (hNu, .inl (cJ, 2001, .inr (.inl vf)))] := hD
  have hK : va_K (dC, dI) vwCl [(cB, .byte), (cI, .int), (cJ, .long), (cZ, .boolean)] s := hK
  have er_1 : r_1 = pf x1 := hw
  rw [er_1]
  refine lv_istore_n (lv' := [(2, .int (pf x1)), (1, .int (nI s1)), (0, .ref h0)]) hx hb dX9_readTest_12 rfl hl (by decide) rfl (fun ls hl => ?_)
  refine lv_aload_n hx hb dX9_readTest_13 rfl (lv_at hl 2 rfl) ?_
  have hPc := hP.sub (ws' := [(h0, .inr (10, [.int fl, .int pl, .ref hCd, w3, .int i4, .int i5, w6, .ref hQ, .int (nI x1), .int (nI z1), w10, .int i11])), (hQ, .inr (11, [.ref hKi, .ref hPl, .ref hNu, y3, .int j4, .int j5, y6])), (hKi, .inl (cI, 2001, .inl kf)), (hPl, .inl (cI, 2001, .inl pf)), (hNu, .inl (cJ, 2001, .inr (.inl vf))), (hCd, .inr (2, [.int (nI s1), .ref hA1, .ref hA2, .ref hA3, .ref hA4, .ref hA5, .ref hA6, .ref hA7, g8, g9, g10, g11, .int tq]))]) [1, 2, 3, 4, 5, 0] rfl
  have hDc := hD.sub (ws' := [(h0, .inr (10, [.int fl, .int pl, .ref hCd, w3, .int i4, .int i5, w6, .ref hQ, .int (nI x1), .int (nI z1), w10, .int i11])), (hQ, .inr (11, [.ref hKi, .ref hPl, .ref hNu, y3, .int j4, .int j5, y6])), (hKi, .inl (cI, 2001, .inl kf)), (hPl, .inl (cI, 2001, .inl pf)), (hNu, .inl (cJ, 2001, .inr (.inl vf))), (hCd, .inr (2, [.int (nI s1), .ref hA1, .ref hA2, .ref hA3, .ref hA4, .ref hA5, .ref hA6, .ref hA7, g8, g9, g10, g11, .int tq]))]) [1, 2, 3, 4, 5, 0] (by decide) rfl
  have hKc := hK.sub (tys' := [(cB, .byte), (cI, .int), (cJ, .long), (cZ, .boolean)]) [0, 1, 2, 3] rfl
  have hFc := va_free (wc := [(h0, .inr (10, [.int fl, .int pl, .ref hCd, w3, .int i4, .int i5, w6, .ref hQ, .int (nI x1), .int (nI z1), w10, .int i11])), (hQ, .inr (11, [.ref hKi, .ref hPl, .ref hNu, y3, .int j4, .int j5, y6])), (hKi, .inl (cI, 2001, .inl kf)), (hPl, .inl (cI, 2001, .inl pf)), (hNu, .inl (cJ, 2001, .inr (.inl vf))), (hCd, .inr (2, [.int (nI s1), .ref hA1, .ref hA2, .ref hA3, .ref hA4, .ref hA5, .ref hA6, .ref hA7, g8, g9, g10, g11, .int tq]))]) hD hS hA [1, 2, 3, 4, 5, 0] rfl
  refine va_callv (va_runV (As := []) (rest := []) ⟨hx, hb, hml, hown, hts⟩ (t_X9_readSum_f l dC dI H.size cB cI cJ cZ h0 hQ hKi hPl hNu kf pf vf fl pl w3 i4 i5 w6 x1 z1 w10 i11 y3 j4 j5 y6 hCd hA1 hA2 hA3 hA4 hA5 hA6 hA7 s1 g8 g9 g10 g11 tq   hx1 hfl) (cwV 0 hts (gd_all (in_V kw_963 kw_965 kw_24 kw_193 kc_X9_readSum)) rfl rfl rfl (by decide +kernel) ⟨Nat.le_of_ble_eq_true rfl, Nat.le_of_ble_eq_true rfl⟩) ⟨fun a U g mk q => by obtain ⟨q0, q1, qP, qK, qD⟩ := q; exact ⟨q0, q1, qP, va_K.moved (u := U) (U := U.calling g mk a) (Vm.Alike.refl U.vm) qK, qD⟩, va_recv hKc hPc (ci := 10) (q0 := 0) rfl rfl, fun U hU hW => ⟨rfl, by rw [hU], by rw [hU]; exact hPc, va_K.moved hW.alike hKc, hDc.weaken (fun _ _ _ _ => trivial)⟩⟩ rfl rfl hl.1 rfl (lv_room (Nat.le_of_ble_eq_true rfl)) dX9_readTest_14 ⟨Nat.le_of_ble_eq_true rfl, Nat.le_of_ble_eq_true rfl⟩) hS (fun q _ h => hFc q h) hFc (fun u t_ H1 locs ht hvm hw hB hz1 hk1 hS => ?_)
  obtain ⟨hP1, hK1, hD1⟩ := hB
  rw [ht] at hP1
  have hK1 := va_K.moved hvm.symm hK1
  obtain ⟨hP, hD⟩ := va_join (wr := []) (w1 := [(h0, .inr (10, [.int fl, .int pl, .ref hCd, w3, .int i4, .int i5, w6, .ref hQ, .int (nI x1), .int (nI z1), w10, .int i11])), (hQ, .inr (11, [.ref hKi, .ref hPl, .ref hNu, y3, .int j4, .int j5, y6])), (hKi, .inl (cI, 2001, .inl kf)), (hPl, .inl (cI, 2001, .inl pf)), (hNu, .inl (cJ, 2001, .inr (.inl vf))), (hCd, .inr (2, [.int (nI s1), .ref hA1, .ref hA2, .ref hA3, .ref hA4, .ref hA5, .ref hA6, .ref hA7, g8, g9, g10, g11, .int tq]))]) hP hD [1, 2, 3, 4, 5, 0] [] rfl rfl (by decide) (by decide) hk1 hFc hP1 hD1
  have hK := (hK.sub (tys' := []) [] rfl).app hK1
  generalize H1 = H at hP hS ⊢
  have hP : va_P (dC, dI) vwCl [(h0, .inr (10, [.int fl, .int pl, .ref hCd, w3, .int i4, .int i5, w6, .ref hQ, .int (nI x1), .int (nI z1), w10, .int i11])), (hQ, .inr (11, [.ref hKi, .ref hPl, .ref hNu, y3, .int j4, .int j5, y6])), (hKi, .inl (cI, 2001, .inl kf)), (hPl, .inl (cI, 2001, .inl pf)), (hNu, .inl (cJ, 2001, .inr (.inl vf))), (hCd, .inr (2, [.int (nI s1), .ref hA1, .ref hA2, .ref hA3, .ref hA4, .ref hA5, .ref hA6, .ref hA7, g8, g9, g10, g11, .int tq]))] H := hP
  have hD : va_D A [(h0, .inr (10, [.int fl, .int pl, .ref hCd, w3, .int i4, .int i5, w6, .ref hQ, .int (nI x1), .int (nI z1), w10, .int i11])), (hQ, .inr (11, [.ref hKi, .ref hPl, .ref hNu, y3, .int j4, .int j5, y6])), (hKi, .inl (cI, 2001, .inl kf)), (hPl, .inl (cI, 2001, .inl pf)), (hNu, .inl (cJ, 2001, .inr (.inl vf))), (hCd, .inr (2, [.int (nI s1), .ref hA1, .ref hA2, .ref hA3, .ref hA4, .ref hA5, .ref hA6, .ref hA7, g8, g9, g10, g11, .int tq]))] := hD
  have hK : va_K (dC, dI) vwCl [(cB, .byte), (cI, .int), (cJ, .long), (cZ, .boolean)] s := hK
  refine lv_aload_n hx hb dX9_readTest_17 rfl (lv_at hl 2 rfl) ?_
  have hPc := hP.sub (ws' := [(h0, .inr (10, [.int fl, .int pl, .ref hCd, w3, .int i4, .int i5, w6, .ref hQ, .int (nI x1), .int (nI z1), w10, .int i11])), (hQ, .inr (11, [.ref hKi, .ref hPl, .ref hNu, y3, .int j4, .int j5, y6])), (hKi, .inl (cI, 2001, .inl kf)), (hPl, .inl (cI, 2001, .inl pf)), (hNu, .inl (cJ, 2001, .inr (.inl vf)))]) [0, 1, 2, 3, 4] rfl
  have hDc := hD.sub (ws' := [(h0, .inr (10, [.int fl, .int pl, .ref hCd, w3, .int i4, .int i5, w6, .ref hQ, .int (nI x1), .int (nI z1), w10, .int i11])), (hQ, .inr (11, [.ref hKi, .ref hPl, .ref hNu, y3, .int j4, .int j5, y6])), (hKi, .inl (cI, 2001, .inl kf)), (hPl, .inl (cI, 2001, .inl pf)), (hNu, .inl (cJ, 2001, .inr (.inl vf)))]) [0, 1, 2, 3, 4] (by decide) rfl
  have hKc := hK.sub (tys' := [(cB, .byte), (cI, .int), (cJ, .long), (cZ, .boolean)]) [0, 1, 2, 3] rfl
  have hFc := va_free (wc := [(h0, .inr (10, [.int fl, .int pl, .ref hCd, w3, .int i4, .int i5, w6, .ref hQ, .int (nI x1), .int (nI z1), w10, .int i11])), (hQ, .inr (11, [.ref hKi, .ref hPl, .ref hNu, y3, .int j4, .int j5, y6])), (hKi, .inl (cI, 2001, .inl kf)), (hPl, .inl (cI, 2001, .inl pf)), (hNu, .inl (cJ, 2001, .inr (.inl vf)))]) hD hS hA [0, 1, 2, 3, 4] rfl
  refine va_calli (va_runV (As := []) (rest := []) ⟨hx, hb, hml, hown, hts⟩ (t_X9_here l dC dI H.size cB cI cJ cZ h0 hQ hKi hPl hNu kf pf vf fl pl (.ref hCd) w3 i4 i5 w6 x1 z1 w10 i11 y3 j4 j5 y6  hx1) (cwV 0 hts (gd_all (in_V kw_923 kw_925 kw_16 kw_193 kc_X9_here)) rfl rfl rfl (by decide +kernel) ⟨Nat.le_of_ble_eq_true rfl, Nat.le_of_ble_eq_true rfl⟩) ⟨fun a U g mk q => by obtain ⟨q0, q1, qP, qK, qD⟩ := q; exact ⟨q0, q1, qP, va_K.moved (u := U) (U := U.calling g mk a) (Vm.Alike.refl U.vm) qK, qD⟩, va_recv hKc hPc (ci := 10) (q0 := 0) rfl rfl, fun U hU hW => ⟨rfl, by rw [hU], by rw [hU]; exact hPc, va_K.moved hW.alike hKc, hDc.weaken (fun _ _ _ _ => trivial)⟩⟩ rfl rfl hl.1 rfl (lv_room (Nat.le_of_ble_eq_true rfl)) dX9_readTest_18 ⟨Nat.le_of_ble_eq_true rfl, Nat.le_of_ble_eq_true rfl⟩) hS (fun q _ h => hFc q h) hFc (fun r_3 u t_ H1 locs ht hvm hw hB hz1 hk1 hS => ?_)
  obtain ⟨hP1, hK1, hD1⟩ := hB
  rw [ht] at hP1
  have hK1 := va_K.moved hvm.symm hK1
  obtain ⟨hP, hD⟩ := va_join (wr := [(hCd, .inr (2, [.int (nI s1), .ref hA1, .ref hA2, .ref hA3, .ref hA4, .ref hA5, .ref hA6, .ref hA7, g8, g9, g10, g11, .int tq]))]) (w1 := [(h0, .inr (10, [.int fl, .int pl, .ref hCd, w3, .int i4, .int i5, w6, .ref hQ, .int (nI x1), .int (nI z1), w10, .int i11])), (hQ, .inr (11, [.ref hKi, .ref hPl, .ref hNu, y3, .int j4, .int j5, y6])), (hKi, .inl (cI, 2001, .inl kf)), (hPl, .inl (cI, 2001, .inl pf)), (hNu, .inl (cJ, 2001, .inr (.inl vf)))]) hP hD [0, 1, 2, 3, 4] [5] rfl rfl (by decide) (by decide) hk1 hFc hP1 hD1
  have hK := (hK.sub (tys' := []) [] rfl).app hK1
  generalize H1 = H at hP hS ⊢
  have hP : va_P (dC, dI) vwCl [(hCd, .inr (2, [.int (nI s1), .ref hA1, .ref hA2, .ref hA3, .ref hA4, .ref hA5, .ref hA6, .ref hA7, g8, g9, g10, g11, .int tq])), (h0, .inr (10, [.int fl, .int pl, .ref hCd, w3, .int i4, .int i5, w6, .ref hQ, .int (nI x1), .int (nI z1), w10, .int i11])), (hQ, .inr (11, [.ref hKi, .ref hPl, .ref hNu, y3, .int j4, .int j5, y6])), (hKi, .inl (cI, 2001, .inl kf)), (hPl, .inl (cI, 2001, .inl pf)), (hNu, .inl (cJ, 2001, .inr (.inl vf)))] H := hP
  have hD : va_D A [(hCd, .inr (2, [.int (nI s1), .ref hA1, .ref hA2, .ref hA3, .ref hA4, .ref hA5, .ref hA6, .ref hA7, g8, g9, g10, g11, .int tq])), (h0, .inr (10, [.int fl, .int pl, .ref hCd, w3, .int i4, .int i5, w6, .ref hQ, .int (nI x1), .int (nI z1), w10, .int i11])), (hQ, .inr (11, [.ref hKi, .ref hPl, .ref hNu, y3, .int j4, .int j5, y6])), (hKi, .inl (cI, 2001, .inl kf)), (hPl, .inl (cI, 2001, .inl pf)), (hNu, .inl (cJ, 2001, .inr (.inl vf)))] := hD
  have hK : va_K (dC, dI) vwCl [(cB, .byte), (cI, .int), (cJ, .long), (cZ, .boolean)] s := hK
  have er_3 : r_3 = pf x1 := hw
  rw [er_3]
  refine lv_istore_n (lv' := [(3, .int (pf x1)), (2, .int (pf x1)), (1, .int (nI s1)), (0, .ref h0)]) hx hb dX9_readTest_21 rfl hl (by decide) rfl (fun ls hl => ?_)
  refine lv_aload_n hx hb dX9_readTest_22 rfl (lv_at hl 3 rfl) ?_
  have hPc := hP.sub (ws' := [(h0, .inr (10, [.int fl, .int pl, .ref hCd, w3, .int i4, .int i5, w6, .ref hQ, .int (nI x1), .int (nI z1), w10, .int i11])), (hQ, .inr (11, [.ref hKi, .ref hPl, .ref hNu, y3, .int j4, .int j5, y6])), (hKi, .inl (cI, 2001, .inl kf)), (hPl, .inl (cI, 2001, .inl pf)), (hNu, .inl (cJ, 2001, .inr (.inl vf)))]) [1, 2, 3, 4, 5] rfl
  have hDc := hD.sub (ws' := [(h0, .inr (10, [.int fl, .int pl, .ref hCd, w3, .int i4, .int i5, w6, .ref hQ, .int (nI x1), .int (nI z1), w10, .int i11])), (hQ, .inr (11, [.ref hKi, .ref hPl, .ref hNu, y3, .int j4, .int j5, y6])), (hKi, .inl (cI, 2001, .inl kf)), (hPl, .inl (cI, 2001, .inl pf)), (hNu, .inl (cJ, 2001, .inr (.inl vf)))]) [1, 2, 3, 4, 5] (by decide) rfl
  have hKc := hK.sub (tys' := [(cB, .byte), (cI, .int), (cJ, .long), (cZ, .boolean)]) [0, 1, 2, 3] rfl
  have hFc := va_free (wc := [(h0, .inr (10, [.int fl, .int pl, .ref hCd, w3, .int i4, .int i5, w6, .ref hQ, .int (nI x1), .int (nI z1), w10, .int i11])), (hQ, .inr (11, [.ref hKi, .ref hPl, .ref hNu, y3, .int j4, .int j5, y6])), (hKi, .inl (cI, 2001, .inl kf)), (hPl, .inl (cI, 2001, .inl pf)), (hNu, .inl (cJ, 2001, .inr (.inl vf)))]) hD hS hA [1, 2, 3, 4, 5] rfl
  refine va_calli (va_runV (As := []) (rest := []) ⟨hx, hb, hml, hown, hts⟩ (t_X9_kind l dC dI H.size cB cI cJ cZ h0 hQ hKi hPl hNu kf pf vf fl pl (.ref hCd) w3 i4 i5 w6 x1 z1 w10 i11 y3 j4 j5 y6  hx1) (cwV 0 hts (gd_all (in_V kw_907 kw_909 kw_12 kw_193 kc_X9_kind)) rfl rfl rfl (by decide +kernel) ⟨Nat.le_of_ble_eq_true rfl, Nat.le_of_ble_eq_true rfl⟩) ⟨fun a U g mk q => by obtain ⟨q0, q1, qP, qK, qD⟩ := q; exact ⟨q0, q1, qP, va_K.moved (u := U) (U := U.calling g mk a) (Vm.Alike.refl U.vm) qK, qD⟩, va_recv hKc hPc (ci := 10) (q0 := 0) rfl rfl, fun U hU hW => ⟨rfl, by rw [hU], by rw [hU]; exact hPc, va_K.moved hW.alike hKc, hDc.weaken (fun _ _ _ _ => trivial)⟩⟩ rfl rfl hl.1 rfl (lv_room (Nat.le_of_ble_eq_true rfl)) dX9_readTest_23 ⟨Nat.le_of_ble_eq_true rfl, Nat.le_of_ble_eq_true rfl⟩) hS (fun q _ h => hFc q h) hFc (fun r_4 u t_ H1 locs ht hvm hw hB hz1 hk1 hS => ?_)
  obtain ⟨hP1, hK1, hD1⟩ := hB
  rw [ht] at hP1
  have hK1 := va_K.moved hvm.symm hK1
  obtain ⟨hP, hD⟩ := va_join (wr := [(hCd, .inr (2, [.int (nI s1), .ref hA1, .ref hA2, .ref hA3, .ref hA4, .ref hA5, .ref hA6, .ref hA7, g8, g9, g10, g11, .int tq]))]) (w1 := [(h0, .inr (10, [.int fl, .int pl, .ref hCd, w3, .int i4, .int i5, w6, .ref hQ, .int (nI x1), .int (nI z1), w10, .int i11])), (hQ, .inr (11, [.ref hKi, .ref hPl, .ref hNu, y3, .int j4, .int j5, y6])), (hKi, .inl (cI, 2001, .inl kf)), (hPl, .inl (cI, 2001, .inl pf)), (hNu, .inl (cJ, 2001, .inr (.inl vf)))]) hP hD [1, 2, 3, 4, 5] [0] rfl rfl (by decide) (by decide) hk1 hFc hP1 hD1
  have hK := (hK.sub (tys' := []) [] rfl).app hK1
  generalize H1 = H at hP hS ⊢
  have hP : va_P (dC, dI) vwCl [(hCd, .inr (2, [.int (nI s1), .ref hA1, .ref hA2, .ref hA3, .ref hA4, .ref hA5, .ref hA6, .ref hA7, g8, g9, g10, g11, .int tq])), (h0, .inr (10, [.int fl, .int pl, .ref hCd, w3, .int i4, .int i5, w6, .ref hQ, .int (nI x1), .int (nI z1), w10, .int i11])), (hQ, .inr (11, [.ref hKi, .ref hPl, .ref hNu, y3, .int j4, .int j5, y6])), (hKi, .inl (cI, 2001, .inl kf)), (hPl, .inl (cI, 2001, .inl pf)), (hNu, .inl (cJ, 2001, .inr (.inl vf)))] H := hP
  have hD : va_D A [(hCd, .inr (2, [.int (nI s1), .ref hA1, .ref hA2, .ref hA3, .ref hA4, .ref hA5, .ref hA6, .ref hA7, g8, g9, g10, g11, .int tq])), (h0, .inr (10, [.int fl, .int pl, .ref hCd, w3, .int i4, .int i5, w6, .ref hQ, .int (nI x1), .int (nI z1), w10, .int i11])), (hQ, .inr (11, [.ref hKi, .ref hPl, .ref hNu, y3, .int j4, .int j5, y6])), (hKi, .inl (cI, 2001, .inl kf)), (hPl, .inl (cI, 2001, .inl pf)), (hNu, .inl (cJ, 2001, .inr (.inl vf)))] := hD
  have hK : va_K (dC, dI) vwCl [(cB, .byte), (cI, .int), (cJ, .long), (cZ, .boolean)] s := hK
  have er_4 : r_4 = 57 := hw.trans (if_neg hfl)
  rw [er_4]
  refine lv_istore (lv' := [(4, .int 57), (3, .int (pf x1)), (2, .int (pf x1)), (1, .int (nI s1)), (0, .ref h0)]) hx hb dX9_readTest_26 hl (by decide) rfl (fun ls hl => ?_)
  refine lv_iload hx hb dX9_readTest_28 (lv_at hl 0 rfl) ?_
  refine lv_tableOut (tgt := 282) hx hb dX9_readTest_30 (by decide) (by decide) ?_
  have hP9 := hP.sub (ws' := [(h0, .inr (10, [.int fl, .int pl, .ref hCd, w3, .int i4, .int i5, w6, .ref hQ, .int (nI x1), .int (nI z1), w10, .int i11])), (hQ, .inr (11, [.ref hKi, .ref hPl, .ref hNu, y3, .int j4, .int j5, y6])), (hKi, .inl (cI, 2001, .inl kf)), (hPl, .inl (cI, 2001, .inl pf)), (hNu, .inl (cJ, 2001, .inr (.inl vf))), (hCd, .inr (2, [.int (nI s1), .ref hA1, .ref hA2, .ref hA3, .ref hA4, .ref hA5, .ref hA6, .ref hA7, g8, g9, g10, g11, .int tq]))]) [1, 2, 3, 4, 5, 0] rfl
  have hD9 := hD.sub (ws' := [(h0, .inr (10, [.int fl, .int pl, .ref hCd, w3, .int i4, .int i5, w6, .ref hQ, .int (nI x1), .int (nI z1), w10, .int i11])), (hQ, .inr (11, [.ref hKi, .ref hPl, .ref hNu, y3, .int j4, .int j5, y6])), (hKi, .inl (cI, 2001, .inl kf)), (hPl, .inl (cI, 2001, .inl pf)), (hNu, .inl (cJ, 2001, .inr (.inl vf))), (hCd, .inr (2, [.int (nI s1), .ref hA1, .ref hA2, .ref hA3, .ref hA4, .ref hA5, .ref hA6, .ref hA7, g8, g9, g10, g11, .int tq]))]) [1, 2, 3, 4, 5, 0] (by decide) rfl
  have hK9 := hK.sub (tys' := [(cB, .byte), (cI, .int), (cJ, .long), (cZ, .boolean)]) [0, 1, 2, 3] rfl
  exact W.vret hx hb hr (fun t_ ht hW => ⟨⟨(), rfl, trivial, by rw [ht]; exact hP9, va_K.moved hW.alike hK9, hD9⟩, hS.F ht⟩) hS.2.2 dX9_readTest_282
theorem dX9_readNegation_0 : decode cX9_readNegation 0 = .ok (.aload_n 0, 1) := by decide +kernel
theorem dX9_readNegation_1 : decode cX9_readNegation 1 = .ok (.invokevirtual 114, 3) := by decide +kernel
theorem dX9_readNegation_4 : decode cX9_readNegation 4 = .ok (.bipush 25, 2) := by decide +kernel
theorem dX9_readNegation_6 : decode cX9_readNegation 6 = .ok (.if_icmp .eq 8, 3) := by decide +kernel
theorem dX9_readNegation_9 : decode cX9_readNegation 9 = .ok (.aload_n 0, 1) := by decide +kernel
theorem dX9_readNegation_10 : decode cX9_readNegation 10 = .ok (.invokevirtual 312, 3) := by decide +kernel
theorem dX9_readNegation_13 : decode cX9_readNegation 13 = .ok (.return_, 1) := by decide +kernel
theorem dX9_readNegation_14 : decode cX9_readNegation 14 = .ok (.aload_n 0, 1) := by decide +kernel
theorem dX9_readNegation_15 : decode cX9_readNegation 15 = .ok (.getfield 26, 3) := by decide +kernel
theorem dX9_readNegation_18 : decode cX9_readNegation 18 = .ok (.getfield 296, 3) := by decide +kernel
theorem dX9_readNegation_21 : decode cX9_readNegation 21 = .ok (.istore_n 1, 1) := by decide +kernel
theorem dX9_readNegation_22 : decode cX9_readNegation 22 = .ok (.aload_n 0, 1) := by decide +kernel
theorem dX9_readNegation_23 : decode cX9_readNegation 23 = .ok (.invokevirtual 118, 3) := by decide +kernel
theorem dX9_readNegation_26 : decode cX9_readNegation 26 = .ok (.istore_n 2, 1) := by decide +kernel
theorem dX9_readNegation_27 : decode cX9_readNegation 27 = .ok (.aload_n 0, 1) := by decide +kernel
theorem dX9_readNegation_28 : decode cX9_readNegation 28 = .ok (.invokevirtual 266, 3) := by decide +kernel
theorem dX9_readNegation_31 : decode cX9_readNegation 31 = .ok (.aload_n 0, 1) := by decide +kernel
theorem dX9_readNegation_32 : decode cX9_readNegation 32 = .ok (.bipush 25, 2) := by decide +kernel
theorem dX9_readNegation_34 : decode cX9_readNegation 34 = .ok (.invokevirtual 48, 3) := by decide +kernel
theorem dX9_readNegation_37 : decode cX9_readNegation 37 = .ok (.pop, 1) := by decide +kernel
theorem dX9_readNegation_38 : decode cX9_readNegation 38 = .ok (.aload_n 0, 1) := by decide +kernel
theorem dX9_readNegation_39 : decode cX9_readNegation 39 = .ok (.getfield 93, 3) := by decide +kernel
theorem dX9_readNegation_42 : decode cX9_readNegation 42 = .ok (.ifCond .ne 7, 3) := by decide +kernel
theorem dX9_readNegation_45 : decode cX9_readNegation 45 = .ok (.aload_n 0, 1) := by decide +kernel
theorem dX9_readNegation_46 : decode cX9_readNegation 46 = .ok (.invokevirtual 309, 3) := by decide +kernel
theorem dX9_readNegation_49 : decode cX9_readNegation 49 = .ok (.aload_n 0, 1) := by decide +kernel
theorem dX9_readNegation_50 : decode cX9_readNegation 50 = .ok (.dup, 1) := by decide +kernel
theorem dX9_readNegation_51 : decode cX9_readNegation 51 = .ok (.getfield 275, 3) := by decide +kernel
theorem dX9_readNegation_54 : decode cX9_readNegation 54 = .ok (.iconst 1, 1) := by decide +kernel
theorem dX9_readNegation_55 : decode cX9_readNegation 55 = .ok (.isub, 1) := by decide +kernel
theorem dX9_readNegation_56 : decode cX9_readNegation 56 = .ok (.putfield 275, 3) := by decide +kernel
theorem dX9_readNegation_59 : decode cX9_readNegation 59 = .ok (.aload_n 0, 1) := by decide +kernel
theorem dX9_readNegation_60 : decode cX9_readNegation 60 = .ok (.bipush 25, 2) := by decide +kernel
theorem dX9_readNegation_62 : decode cX9_readNegation 62 = .ok (.iload_n 1, 1) := by decide +kernel
theorem dX9_readNegation_63 : decode cX9_readNegation 63 = .ok (.iload_n 2, 1) := by decide +kernel
theorem dX9_readNegation_64 : decode cX9_readNegation 64 = .ok (.iload_n 2, 1) := by decide +kernel
theorem dX9_readNegation_65 : decode cX9_readNegation 65 = .ok (.iconst 1, 1) := by decide +kernel
theorem dX9_readNegation_66 : decode cX9_readNegation 66 = .ok (.invokevirtual 305, 3) := by decide +kernel
theorem dX9_readNegation_69 : decode cX9_readNegation 69 = .ok (.pop, 1) := by decide +kernel
theorem dX9_readNegation_70 : decode cX9_readNegation 70 = .ok (.return_, 1) := by decide +kernel
abbrev cs_t_X9_readNegation_f (cB cI cJ cZ : ClassId) (h0 hQ hKi hPl hNu : Nat) (kf pf : Nat → Int32) (vf : Nat → Int64) (fl pl : Int32) (w3 : Value) (i4 i5 : Int32) (w6 : Value) (x1 z1 : Nat) (w10 : Value) (i11 : Int32) (y3 : Value) (j4 j5 : Int32) (y6 : Value) (hCd hA1 hA2 hA3 hA4 hA5 hA6 hA7 s1 : Nat) (g8 g9 g10 g11 : Value) (tq : Int32) : va_W := [(h0, .inr (10, [.int fl, .int pl, .ref hCd, w3, .int i4, .int i5, w6, .ref hQ, .int (nI x1), .int (nI z1), w10, .int i11])), (hQ, .inr (11, [.ref hKi, .ref hPl, .ref hNu, y3, .int j4, .int j5, y6])), (hKi, .inl (cI, 2001, .inl kf)), (hPl, .inl (cI, 2001, .inl pf)), (hNu, .inl (cJ, 2001, .inr (.inl vf))), (hCd, .inr (2, [.int (nI s1), .ref hA1, .ref hA2, .ref hA3, .ref hA4, .ref hA5, .ref hA6, .ref hA7, g8, g9, g10, g11, .int tq]))]
abbrev pc_t_X9_readNegation_f (dC : Nat → ClassId) (dI : Nat → Nat → Nat) (sz : Nat) (cB cI cJ cZ : ClassId) (h0 hQ hKi hPl hNu : Nat) (kf pf : Nat → Int32) (vf : Nat → Int64) (fl pl : Int32) (w3 : Value) (i4 i5 : Int32) (w6 : Value) (x1 z1 : Nat) (w10 : Value) (i11 : Int32) (y3 : Value) (j4 j5 : Int32) (y6 : Value) (hCd hA1 hA2 hA3 hA4 hA5 hA6 hA7 s1 : Nat) (g8 g9 g10 g11 : Value) (tq : Int32) : Array Value → State → Prop := va_Pc [.ref h0] (fun U => U.heap.size = sz ∧ va_P (dC, dI) vwCl [(h0, .inr (10, [.int fl, .int pl, .ref hCd, w3, .int i4, .int i5, w6, .ref hQ, .int (nI x1), .int (nI z1), w10, .int i11])), (hQ, .inr (11, [.ref hKi, .ref hPl, .ref hNu, y3, .int j4, .int j5, y6])), (hKi, .inl (cI, 2001, .inl kf)), (hPl, .inl (cI, 2001, .inl pf)), (hNu, .inl (cJ, 2001, .inr (.inl vf))), (hCd, .inr (2, [.int (nI s1), .ref hA1, .ref hA2, .ref hA3, .ref hA4, .ref hA5, .ref hA6, .ref hA7, g8, g9, g10, g11, .int tq]))] U.heap ∧ va_K (dC, dI) vwCl [(cB, .byte), (cI, .int), (cJ, .long), (cZ, .boolean)] U ∧ va_D (fun _ => True) [(h0, .inr (10, [.int fl, .int pl, .ref hCd, w3, .int i4, .int i5, w6, .ref hQ, .int (nI x1), .int (nI z1), w10, .int i11])), (hQ, .inr (11, [.ref hKi, .ref hPl, .ref hNu, y3, .int j4, .int j5, y6])), (hKi, .inl (cI, 2001, .inl kf)), (hPl, .inl (cI, 2001, .inl pf)), (hNu, .inl (cJ, 2001, .inr (.inl vf))), (hCd, .inr (2, [.int (nI s1), .ref hA1, .ref hA2, .ref hA3, .ref hA4, .ref hA5, .ref hA6, .ref hA7, g8, g9, g10, g11, .int tq]))])
abbrev qc_t_X9_readNegation_f (dC : Nat → ClassId) (dI : Nat → Nat → Nat) (cB cI cJ cZ : ClassId) (h0 hQ hKi hPl hNu : Nat) (kf pf : Nat → Int32) (vf : Nat → Int64) (fl pl : Int32) (w3 : Value) (i4 i5 : Int32) (w6 : Value) (x1 z1 : Nat) (w10 : Value) (i11 : Int32) (y3 : Value) (j4 j5 : Int32) (y6 : Value) (hCd hA1 hA2 hA3 hA4 hA5 hA6 hA7 s1 : Nat) (g8 g9 g10 g11 : Value) (tq : Int32) (A : Nat → Prop) : Array Value → State → Outcome → State → Prop := va_Qv (fun (u : Unit) => match u with | _ => True) (fun (u : Unit) t_ => match u with | _ => va_P (dC, dI) vwCl [(h0, .inr (10, [.int fl, .int pl, .ref hCd, w3, .int i4, .int i5, w6, .ref hQ, .int (nI x1), .int (nI z1), w10, .int i11])), (hQ, .inr (11, [.ref hKi, .ref hPl, .ref hNu, y3, .int j4, .int j5, y6])), (hKi, .inl (cI, 2001, .inl kf)), (hPl, .inl (cI, 2001, .inl pf)), (hNu, .inl (cJ, 2001, .inr (.inl vf))), (hCd, .inr (2, [.int (nI s1), .ref hA1, .ref hA2, .ref hA3, .ref hA4, .ref hA5, .ref hA6, .ref hA7, g8, g9, g10, g11, .int tq]))] t_.heap ∧ va_K (dC, dI) vwCl [(cB, .byte), (cI, .int), (cJ, .long), (cZ, .boolean)] t_ ∧ va_D A [(h0, .inr (10, [.int fl, .int pl, .ref hCd, w3, .int i4, .int i5, w6, .ref hQ, .int (nI x1), .int (nI z1), w10, .int i11])), (hQ, .inr (11, [.ref hKi, .ref hPl, .ref hNu, y3, .int j4, .int j5, y6])), (hKi, .inl (cI, 2001, .inl kf)), (hPl, .inl (cI, 2001, .inl pf)), (hNu, .inl (cJ, 2001, .inr (.inl vf))), (hCd, .inr (2, [.int (nI s1), .ref hA1, .ref hA2, .ref hA3, .ref hA4, .ref hA5, .ref hA6, .ref hA7, g8, g9, g10, g11, .int tq]))]) A
set_option maxHeartbeats 4000000 in
set_option maxRecDepth 100000 in
theorem t_X9_readNegation_f (l : Launch) (dC : Nat → ClassId) (dI : Nat → Nat → Nat) (sz : Nat) (cB cI cJ cZ : ClassId) (h0 hQ hKi hPl hNu : Nat) (kf pf : Nat → Int32) (vf : Nat → Int64) (fl pl : Int32) (w3 : Value) (i4 i5 : Int32) (w6 : Value) (x1 z1 : Nat) (w10 : Value) (i11 : Int32) (y3 : Value) (j4 j5 : Int32) (y6 : Value) (hCd hA1 hA2 hA3 hA4 hA5 hA6 hA7 s1 : Nat) (g8 g9 g10 g11 : Value) (tq : Int32) (hx1 : x1 ≤ 2000) (hfl : ¬ fl = 0) : Met l yX9_readNegation (wsOf yX9_readNegation cX9_readNegation 3 none) ({ frames := 7, cells := 0, slots := 0, locals := 420 }) (pc_t_X9_readNegation_f dC dI sz cB cI cJ cZ h0 hQ hKi hPl hNu kf pf vf fl pl w3 i4 i5 w6 x1 z1 w10 i11 y3 j4 j5 y6 hCd hA1 hA2 hA3 hA4 hA5 hA6 hA7 s1 g8 g9 g10 g11 tq) (qc_t_X9_readNegation_f dC dI cB cI cJ cZ h0 hQ hKi hPl hNu kf pf vf fl pl w3 i4 i5 w6 x1 z1 w10 i11 y3 j4 j5 y6 hCd hA1 hA2 hA3 hA4 hA5 hA6 hA7 s1 g8 g9 g10 g11 tq (va_A (cs_t_X9_readNegation_f cB cI cJ cZ h0 hQ hKi hPl hNu kf pf vf fl pl w3 i4 i5 w6 x1 z1 w10 i11 y3 j4 j5 y6 hCd hA1 hA2 hA3 hA4 hA5 hA6 hA7 s1 g8 g9 g10 g11 tq) sz)) 0 0 (va_A (cs_t_X9_readNegation_f cB cI cJ cZ h0 hQ hKi hPl hNu kf pf vf fl pl w3 i4 i5 w6 x1 z1 w10 i11 y3 j4 j5 y6 hCd hA1 hA2 hA3 hA4 hA5 hA6 hA7 s1 g8 g9 g10 g11 tq) sz) := by
  refine Met.ofW (cc := cX9_readNegation) (maxL := 3) (ret := none) (by decide) rfl ?_
  intro p e s m args below meth c s₁ B hml hv
  obtain ⟨rfl, hsz, hP, hK, hD0⟩ := hv
  have hx := B.exec
  have hb := B.bytes
  have hr := B.returns
  have hts := atoms_spec (ws := (wsOf yX9_readNegation cX9_readNegation 3 none)) B.pre
  have hown : s.vm.findClass RX9 = some m.cls := findClass_of_methodNamed B.named
  have hlocks := B.notSynchronized
  subst hsz
  have hD := hD0.self (sz := s.heap.size)
  generalize hAe : va_A (cs_t_X9_readNegation_f cB cI cJ cZ h0 hQ hKi hPl hNu kf pf vf fl pl w3 i4 i5 w6 x1 z1 w10 i11 y3 j4 j5 y6 hCd hA1 hA2 hA3 hA4 hA5 hA6 hA7 s1 g8 g9 g10 g11 tq) s.heap.size = A at hD ⊢
  have hA : ∀ q : Nat, s.heap.size ≤ q → A q := fun q h => by rw [← hAe]; exact Or.inr h
  have hS : va_S A s.heap s.heap [] := va_S.rf
  have hP : va_P (dC, dI) vwCl [(h0, .inr (10, [.int fl, .int pl, .ref hCd, w3, .int i4, .int i5, w6, .ref hQ, .int (nI x1), .int (nI z1), w10, .int i11])), (hQ, .inr (11, [.ref hKi, .ref hPl, .ref hNu, y3, .int j4, .int j5, y6])), (hKi, .inl (cI, 2001, .inl kf)), (hPl, .inl (cI, 2001, .inl pf)), (hNu, .inl (cJ, 2001, .inr (.inl vf))), (hCd, .inr (2, [.int (nI s1), .ref hA1, .ref hA2, .ref hA3, .ref hA4, .ref hA5, .ref hA6, .ref hA7, g8, g9, g10, g11, .int tq]))] s.heap := hP
  have hl := lv_entry ([.ref h0]) (n := 3) (Nat.le_of_ble_eq_true rfl)
  rw [lg_entry_eq]
  generalize (lg_sl ([.ref h0]) ++ List.replicate (3 - (lg_sl ([.ref h0])).length) Slot.unset).toArray = ls at hl ⊢
  have hl : lv_has ls 3 [(0, .ref h0)] := hl
  refine lv_aload_n hx hb dX9_readNegation_0 rfl (lv_at hl 0 rfl) ?_
  have hPc := hP.sub (ws' := [(h0, .inr (10, [.int fl, .int pl, .ref hCd, w3, .int i4, .int i5, w6, .ref hQ, .int (nI x1), .int (nI z1), w10, .int i11])), (hQ, .inr (11, [.ref hKi, .ref hPl, .ref hNu, y3, .int j4, .int j5, y6])), (hKi, .inl (cI, 2001, .inl kf)), (hPl, .inl (cI, 2001, .inl pf)), (hNu, .inl (cJ, 2001, .inr (.inl vf)))]) [0, 1, 2, 3, 4] rfl
  have hDc := hD.sub (ws' := [(h0, .inr (10, [.int fl, .int pl, .ref hCd, w3, .int i4, .int i5, w6, .ref hQ, .int (nI x1), .int (nI z1), w10, .int i11])), (hQ, .inr (11, [.ref hKi, .ref hPl, .ref hNu, y3, .int j4, .int j5, y6])), (hKi, .inl (cI, 2001, .inl kf)), (hPl, .inl (cI, 2001, .inl pf)), (hNu, .inl (cJ, 2001, .inr (.inl vf)))]) [0, 1, 2, 3, 4] (by decide) rfl
  have hKc := hK.sub (tys' := [(cB, .byte), (cI, .int), (cJ, .long), (cZ, .boolean)]) [0, 1, 2, 3] rfl
  have hFc := va_free (wc := [(h0, .inr (10, [.int fl, .int pl, .ref hCd, w3, .int i4, .int i5, w6, .ref hQ, .int (nI x1), .int (nI z1), w10, .int i11])), (hQ, .inr (11, [.ref hKi, .ref hPl, .ref hNu, y3, .int j4, .int j5, y6])), (hKi, .inl (cI, 2001, .inl kf)), (hPl, .inl (cI, 2001, .inl pf)), (hNu, .inl (cJ, 2001, .inr (.inl vf)))]) hD hS hA [0, 1, 2, 3, 4] rfl
  refine va_calli (va_runV (As := []) (rest := []) ⟨hx, hb, hml, hown, hts⟩ (t_X9_kind l dC dI s.heap.size cB cI cJ cZ h0 hQ hKi hPl hNu kf pf vf fl pl (.ref hCd) w3 i4 i5 w6 x1 z1 w10 i11 y3 j4 j5 y6  hx1) (cwV 0 hts (gd_all (in_V kw_907 kw_909 kw_12 kw_193 kc_X9_kind)) rfl rfl rfl (by decide +kernel) ⟨Nat.le_of_ble_eq_true rfl, Nat.le_of_ble_eq_true rfl⟩) ⟨fun a U g mk q => by obtain ⟨q0, q1, qP, qK, qD⟩ := q; exact ⟨q0, q1, qP, va_K.moved (u := U) (U := U.calling g mk a) (Vm.Alike.refl U.vm) qK, qD⟩, va_recv hKc hPc (ci := 10) (q0 := 0) rfl rfl, fun U hU hW => ⟨rfl, by rw [hU], by rw [hU]; exact hPc, va_K.moved hW.alike hKc, hDc.weaken (fun _ _ _ _ => trivial)⟩⟩ rfl rfl hl.1 rfl (lv_room (Nat.le_of_ble_eq_true rfl)) dX9_readNegation_1 ⟨Nat.le_of_ble_eq_true rfl, Nat.le_of_ble_eq_true rfl⟩) hS (fun q _ h => hFc q h) hFc (fun r_1 u t_ H1 locs ht hvm hw hB hz1 hk1 hS => ?_)
  obtain ⟨hP1, hK1, hD1⟩ := hB
  rw [ht] at hP1
  have hK1 := va_K.moved hvm.symm hK1
  obtain ⟨hP, hD⟩ := va_join (wr := [(hCd, .inr (2, [.int (nI s1), .ref hA1, .ref hA2, .ref hA3, .ref hA4, .ref hA5, .ref hA6, .ref hA7, g8, g9, g10, g11, .int tq]))]) (w1 := [(h0, .inr (10, [.int fl, .int pl, .ref hCd, w3, .int i4, .int i5, w6, .ref hQ, .int (nI x1), .int (nI z1), w10, .int i11])), (hQ, .inr (11, [.ref hKi, .ref hPl, .ref hNu, y3, .int j4, .int j5, y6])), (hKi, .inl (cI, 2001, .inl kf)), (hPl, .inl (cI, 2001, .inl pf)), (hNu, .inl (cJ, 2001, .inr (.inl vf)))]) hP hD [0, 1, 2, 3, 4] [5] rfl rfl (by decide) (by decide) hk1 hFc hP1 hD1
  have hK := (hK.sub (tys' := []) [] rfl).app hK1
  generalize H1 = H at hP hS ⊢
  have hP : va_P (dC, dI) vwCl [(hCd, .inr (2, [.int (nI s1), .ref hA1, .ref hA2, .ref hA3, .ref hA4, .ref hA5, .ref hA6, .ref hA7, g8, g9, g10, g11, .int tq])), (h0, .inr (10, [.int fl, .int pl, .ref hCd, w3, .int i4, .int i5, w6, .ref hQ, .int (nI x1), .int (nI z1), w10, .int i11])), (hQ, .inr (11, [.ref hKi, .ref hPl, .ref hNu, y3, .int j4, .int j5, y6])), (hKi, .inl (cI, 2001, .inl kf)), (hPl, .inl (cI, 2001, .inl pf)), (hNu, .inl (cJ, 2001, .inr (.inl vf)))] H := hP
  have hD : va_D A [(hCd, .inr (2, [.int (nI s1), .ref hA1, .ref hA2, .ref hA3, .ref hA4, .ref hA5, .ref hA6, .ref hA7, g8, g9, g10, g11, .int tq])), (h0, .inr (10, [.int fl, .int pl, .ref hCd, w3, .int i4, .int i5, w6, .ref hQ, .int (nI x1), .int (nI z1), w10, .int i11])), (hQ, .inr (11, [.ref hKi, .ref hPl, .ref hNu, y3, .int j4, .int j5, y6])), (hKi, .inl (cI, 2001, .inl kf)), (hPl, .inl (cI, 2001, .inl pf)), (hNu, .inl (cJ, 2001, .inr (.inl vf)))] := hD
  have hK : va_K (dC, dI) vwCl [(cB, .byte), (cI, .int), (cJ, .long), (cZ, .boolean)] s := hK
  have er_1 : r_1 = 57 := hw.trans (if_neg hfl)
  rw [er_1]
  refine lv_bipush (v := 25) hx hb dX9_readNegation_4 (by decide) ?_
  refine lv_icmp_eq (tgt := 14) hx hb dX9_readNegation_6 (by decide) (fun c_2 => ?_) (fun c_2 => ?_)
  · skip
    exact absurd c_2 (by decide)
  · skip
    refine lv_aload_n hx hb dX9_readNegation_9 rfl (lv_at hl 0 rfl) ?_
    have hPc := hP.sub (ws' := [(h0, .inr (10, [.int fl, .int pl, .ref hCd, w3, .int i4, .int i5, w6, .ref hQ, .int (nI x1), .int (nI z1), w10, .int i11])), (hQ, .inr (11, [.ref hKi, .ref hPl, .ref hNu, y3, .int j4, .int j5, y6])), (hKi, .inl (cI, 2001, .inl kf)), (hPl, .inl (cI, 2001, .inl pf)), (hNu, .inl (cJ, 2001, .inr (.inl vf))), (hCd, .inr (2, [.int (nI s1), .ref hA1, .ref hA2, .ref hA3, .ref hA4, .ref hA5, .ref hA6, .ref hA7, g8, g9, g10, g11, .int tq]))]) [1, 2, 3, 4, 5, 0] rfl
    have hDc := hD.sub (ws' := [(h0, .inr (10, [.int fl, .int pl, .ref hCd, w3, .int i4, .int i5, w6, .ref hQ, .int (nI x1), .int (nI z1), w10, .int i11])), (hQ, .inr (11, [.ref hKi, .ref hPl, .ref hNu, y3, .int j4, .int j5, y6])), (hKi, .inl (cI, 2001, .inl kf)), (hPl, .inl (cI, 2001, .inl pf)), (hNu, .inl (cJ, 2001, .inr (.inl vf))), (hCd, .inr (2, [.int (nI s1), .ref hA1, .ref hA2, .ref hA3, .ref hA4, .ref hA5, .ref hA6, .ref hA7, g8, g9, g10, g11, .int tq]))]) [1, 2, 3, 4, 5, 0] (by decide) rfl
    have hKc := hK.sub (tys' := [(cB, .byte), (cI, .int), (cJ, .long), (cZ, .boolean)]) [0, 1, 2, 3] rfl
    have hFc := va_free (wc := [(h0, .inr (10, [.int fl, .int pl, .ref hCd, w3, .int i4, .int i5, w6, .ref hQ, .int (nI x1), .int (nI z1), w10, .int i11])), (hQ, .inr (11, [.ref hKi, .ref hPl, .ref hNu, y3, .int j4, .int j5, y6])), (hKi, .inl (cI, 2001, .inl kf)), (hPl, .inl (cI, 2001, .inl pf)), (hNu, .inl (cJ, 2001, .inr (.inl vf))), (hCd, .inr (2, [.int (nI s1), .ref hA1, .ref hA2, .ref hA3, .ref hA4, .ref hA5, .ref hA6, .ref hA7, g8, g9, g10, g11, .int tq]))]) hD hS hA [1, 2, 3, 4, 5, 0] rfl
    refine va_callv (va_runV (As := []) (rest := []) ⟨hx, hb, hml, hown, hts⟩ (t_X9_readTest_f l dC dI H.size cB cI cJ cZ h0 hQ hKi hPl hNu kf pf vf fl pl w3 i4 i5 w6 x1 z1 w10 i11 y3 j4 j5 y6 hCd hA1 hA2 hA3 hA4 hA5 hA6 hA7 s1 g8 g9 g10 g11 tq   hx1 hfl) (cwV 0 hts (gd_all (in_V kw_959 kw_961 kw_23 kw_193 kc_X9_readTest)) rfl rfl rfl (by decide +kernel) ⟨Nat.le_of_ble_eq_true rfl, Nat.le_of_ble_eq_true rfl⟩) ⟨fun a U g mk q => by obtain ⟨q0, q1, qP, qK, qD⟩ := q; exact ⟨q0, q1, qP, va_K.moved (u := U) (U := U.calling g mk a) (Vm.Alike.refl U.vm) qK, qD⟩, va_recv hKc hPc (ci := 10) (q0 := 0) rfl rfl, fun U hU hW => ⟨rfl, by rw [hU], by rw [hU]; exact hPc, va_K.moved hW.alike hKc, hDc.weaken (fun _ _ _ _ => trivial)⟩⟩ rfl rfl hl.1 rfl (lv_room (Nat.le_of_ble_eq_true rfl)) dX9_readNegation_10 ⟨Nat.le_of_ble_eq_true rfl, Nat.le_of_ble_eq_true rfl⟩) hS (fun q _ h => hFc q h) hFc (fun u t_ H1 locs ht hvm hw hB hz1 hk1 hS => ?_)
    obtain ⟨hP1, hK1, hD1⟩ := hB
    rw [ht] at hP1
    have hK1 := va_K.moved hvm.symm hK1
    obtain ⟨hP, hD⟩ := va_join (wr := []) (w1 := [(h0, .inr (10, [.int fl, .int pl, .ref hCd, w3, .int i4, .int i5, w6, .ref hQ, .int (nI x1), .int (nI z1), w10, .int i11])), (hQ, .inr (11, [.ref hKi, .ref hPl, .ref hNu, y3, .int j4, .int j5, y6])), (hKi, .inl (cI, 2001, .inl kf)), (hPl, .inl (cI, 2001, .inl pf)), (hNu, .inl (cJ, 2001, .inr (.inl vf))), (hCd, .inr (2, [.int (nI s1), .ref hA1, .ref hA2, .ref hA3, .ref hA4, .ref hA5, .ref hA6, .ref hA7, g8, g9, g10, g11, .int tq]))]) hP hD [1, 2, 3, 4, 5, 0] [] rfl rfl (by decide) (by decide) hk1 hFc hP1 hD1
    have hK := (hK.sub (tys' := []) [] rfl).app hK1
    generalize H1 = H at hP hS ⊢
    have hP : va_P (dC, dI) vwCl [(h0, .inr (10, [.int fl, .int pl, .ref hCd, w3, .int i4, .int i5, w6, .ref hQ, .int (nI x1), .int (nI z1), w10, .int i11])), (hQ, .inr (11, [.ref hKi, .ref hPl, .ref hNu, y3, .int j4, .int j5, y6])), (hKi, .inl (cI, 2001, .inl kf)), (hPl, .inl (cI, 2001, .inl pf)), (hNu, .inl (cJ, 2001, .inr (.inl vf))), (hCd, .inr (2, [.int (nI s1), .ref hA1, .ref hA2, .ref hA3, .ref hA4, .ref hA5, .ref hA6, .ref hA7, g8, g9, g10, g11, .int tq]))] H := hP
    have hD : va_D A [(h0, .inr (10, [.int fl, .int pl, .ref hCd, w3, .int i4, .int i5, w6, .ref hQ, .int (nI x1), .int (nI z1), w10, .int i11])), (hQ, .inr (11, [.ref hKi, .ref hPl, .ref hNu, y3, .int j4, .int j5, y6])), (hKi, .inl (cI, 2001, .inl kf)), (hPl, .inl (cI, 2001, .inl pf)), (hNu, .inl (cJ, 2001, .inr (.inl vf))), (hCd, .inr (2, [.int (nI s1), .ref hA1, .ref hA2, .ref hA3, .ref hA4, .ref hA5, .ref hA6, .ref hA7, g8, g9, g10, g11, .int tq]))] := hD
    have hK : va_K (dC, dI) vwCl [(cB, .byte), (cI, .int), (cJ, .long), (cZ, .boolean)] s := hK
    have hP9 := hP.sub (ws' := [(h0, .inr (10, [.int fl, .int pl, .ref hCd, w3, .int i4, .int i5, w6, .ref hQ, .int (nI x1), .int (nI z1), w10, .int i11])), (hQ, .inr (11, [.ref hKi, .ref hPl, .ref hNu, y3, .int j4, .int j5, y6])), (hKi, .inl (cI, 2001, .inl kf)), (hPl, .inl (cI, 2001, .inl pf)), (hNu, .inl (cJ, 2001, .inr (.inl vf))), (hCd, .inr (2, [.int (nI s1), .ref hA1, .ref hA2, .ref hA3, .ref hA4, .ref hA5, .ref hA6, .ref hA7, g8, g9, g10, g11, .int tq]))]) [0, 1, 2, 3, 4, 5] rfl
    have hD9 := hD.sub (ws' := [(h0, .inr (10, [.int fl, .int pl, .ref hCd, w3, .int i4, .int i5, w6, .ref hQ, .int (nI x1), .int (nI z1), w10, .int i11])), (hQ, .inr (11, [.ref hKi, .ref hPl, .ref hNu, y3, .int j4, .int j5, y6])), (hKi, .inl (cI, 2001, .inl kf)), (hPl, .inl (cI, 2001, .inl pf)), (hNu, .inl (cJ, 2001, .inr (.inl vf))), (hCd, .inr (2, [.int (nI s1), .ref hA1, .ref hA2, .ref hA3, .ref hA4, .ref hA5, .ref hA6, .ref hA7, g8, g9, g10, g11, .int tq]))]) [0, 1, 2, 3, 4, 5] (by decide) rfl
    have hK9 := hK.sub (tys' := [(cB, .byte), (cI, .int), (cJ, .long), (cZ, .boolean)]) [0, 1, 2, 3] rfl
    exact W.vret hx hb hr (fun t_ ht hW => ⟨⟨(), rfl, trivial, by rw [ht]; exact hP9, va_K.moved hW.alike hK9, hD9⟩, hS.F ht⟩) hS.2.2 dX9_readNegation_13
theorem dX9_readConjunction_0 : decode cX9_readConjunction 0 = .ok (.aload_n 0, 1) := by decide +kernel
theorem dX9_readConjunction_1 : decode cX9_readConjunction 1 = .ok (.getfield 26, 3) := by decide +kernel
theorem dX9_readConjunction_4 : decode cX9_readConjunction 4 = .ok (.getfield 296, 3) := by decide +kernel
theorem dX9_readConjunction_7 : decode cX9_readConjunction 7 = .ok (.istore_n 1, 1) := by decide +kernel
theorem dX9_readConjunction_8 : decode cX9_readConjunction 8 = .ok (.aload_n 0, 1) := by decide +kernel
theorem dX9_readConjunction_9 : decode cX9_readConjunction 9 = .ok (.invokevirtual 118, 3) := by decide +kernel
theorem dX9_readConjunction_12 : decode cX9_readConjunction 12 = .ok (.istore_n 2, 1) := by decide +kernel
theorem dX9_readConjunction_13 : decode cX9_readConjunction 13 = .ok (.aload_n 0, 1) := by decide +kernel
theorem dX9_readConjunction_14 : decode cX9_readConjunction 14 = .ok (.invokevirtual 309, 3) := by decide +kernel
theorem dX9_readConjunction_17 : decode cX9_readConjunction 17 = .ok (.iconst 0, 1) := by decide +kernel
theorem dX9_readConjunction_18 : decode cX9_readConjunction 18 = .ok (.istore_n 3, 1) := by decide +kernel
theorem dX9_readConjunction_19 : decode cX9_readConjunction 19 = .ok (.iload_n 3, 1) := by decide +kernel
theorem dX9_readConjunction_20 : decode cX9_readConjunction 20 = .ok (.sipush 2000, 3) := by decide +kernel
theorem dX9_readConjunction_23 : decode cX9_readConjunction 23 = .ok (.if_icmp .ge 50, 3) := by decide +kernel
theorem dX9_readConjunction_26 : decode cX9_readConjunction 26 = .ok (.aload_n 0, 1) := by decide +kernel
theorem dX9_readConjunction_27 : decode cX9_readConjunction 27 = .ok (.invokevirtual 114, 3) := by decide +kernel
theorem dX9_readConjunction_30 : decode cX9_readConjunction 30 = .ok (.bipush 28, 2) := by decide +kernel
theorem dX9_readConjunction_32 : decode cX9_readConjunction 32 = .ok (.if_icmp .ne 41, 3) := by decide +kernel
theorem dX9_readConjunction_35 : decode cX9_readConjunction 35 = .ok (.aload_n 0, 1) := by decide +kernel
theorem dX9_readConjunction_36 : decode cX9_readConjunction 36 = .ok (.invokevirtual 118, 3) := by decide +kernel
theorem dX9_readConjunction_39 : decode cX9_readConjunction 39 = .ok (.istore 4, 2) := by decide +kernel
theorem dX9_readConjunction_41 : decode cX9_readConjunction 41 = .ok (.aload_n 0, 1) := by decide +kernel
theorem dX9_readConjunction_42 : decode cX9_readConjunction 42 = .ok (.dup, 1) := by decide +kernel
theorem dX9_readConjunction_43 : decode cX9_readConjunction 43 = .ok (.getfield 99, 3) := by decide +kernel
theorem dX9_readConjunction_46 : decode cX9_readConjunction 46 = .ok (.iconst 1, 1) := by decide +kernel
theorem dX9_readConjunction_47 : decode cX9_readConjunction 47 = .ok (.iadd, 1) := by decide +kernel
theorem dX9_readConjunction_48 : decode cX9_readConjunction 48 = .ok (.putfield 99, 3) := by decide +kernel
theorem dX9_readConjunction_51 : decode cX9_readConjunction 51 = .ok (.aload_n 0, 1) := by decide +kernel
theorem dX9_readConjunction_52 : decode cX9_readConjunction 52 = .ok (.invokevirtual 309, 3) := by decide +kernel
theorem dX9_readConjunction_55 : decode cX9_readConjunction 55 = .ok (.aload_n 0, 1) := by decide +kernel
theorem dX9_readConjunction_56 : decode cX9_readConjunction 56 = .ok (.bipush 28, 2) := by decide +kernel
theorem dX9_readConjunction_58 : decode cX9_readConjunction 58 = .ok (.iload_n 1, 1) := by decide +kernel
theorem dX9_readConjunction_59 : decode cX9_readConjunction 59 = .ok (.iload_n 2, 1) := by decide +kernel
theorem dX9_readConjunction_60 : decode cX9_readConjunction 60 = .ok (.iload 4, 2) := by decide +kernel
theorem dX9_readConjunction_62 : decode cX9_readConjunction 62 = .ok (.iconst 2, 1) := by decide +kernel
theorem dX9_readConjunction_63 : decode cX9_readConjunction 63 = .ok (.invokevirtual 305, 3) := by decide +kernel
theorem dX9_readConjunction_66 : decode cX9_readConjunction 66 = .ok (.pop, 1) := by decide +kernel
theorem dX9_readConjunction_67 : decode cX9_readConjunction 67 = .ok (.iinc 3 1, 3) := by decide +kernel
theorem dX9_readConjunction_70 : decode cX9_readConjunction 70 = .ok (.goto (-51), 3) := by decide +kernel
theorem dX9_readConjunction_73 : decode cX9_readConjunction 73 = .ok (.return_, 1) := by decide +kernel
abbrev cs_t_X9_readConjunction_f (cB cI cJ cZ : ClassId) (h0 hQ hKi hPl hNu : Nat) (kf pf : Nat → Int32) (vf : Nat → Int64) (fl pl : Int32) (w3 : Value) (i4 i5 : Int32) (w6 : Value) (x1 z1 : Nat) (w10 : Value) (i11 : Int32) (y3 : Value) (j4 j5 : Int32) (y6 : Value) (hCd hA1 hA2 hA3 hA4 hA5 hA6 hA7 s1 : Nat) (g8 g9 g10 g11 : Value) (tq : Int32) : va_W := [(h0, .inr (10, [.int fl, .int pl, .ref hCd, w3, .int i4, .int i5, w6, .ref hQ, .int (nI x1), .int (nI z1), w10, .int i11])), (hQ, .inr (11, [.ref hKi, .ref hPl, .ref hNu, y3, .int j4, .int j5, y6])), (hKi, .inl (cI, 2001, .inl kf)), (hPl, .inl (cI, 2001, .inl pf)), (hNu, .inl (cJ, 2001, .inr (.inl vf))), (hCd, .inr (2, [.int (nI s1), .ref hA1, .ref hA2, .ref hA3, .ref hA4, .ref hA5, .ref hA6, .ref hA7, g8, g9, g10, g11, .int tq]))]
abbrev pc_t_X9_readConjunction_f (dC : Nat → ClassId) (dI : Nat → Nat → Nat) (sz : Nat) (cB cI cJ cZ : ClassId) (h0 hQ hKi hPl hNu : Nat) (kf pf : Nat → Int32) (vf : Nat → Int64) (fl pl : Int32) (w3 : Value) (i4 i5 : Int32) (w6 : Value) (x1 z1 : Nat) (w10 : Value) (i11 : Int32) (y3 : Value) (j4 j5 : Int32) (y6 : Value) (hCd hA1 hA2 hA3 hA4 hA5 hA6 hA7 s1 : Nat) (g8 g9 g10 g11 : Value) (tq : Int32) : Array Value → State → Prop := va_Pc [.ref h0] (fun U => U.heap.size = sz ∧ va_P (dC, dI) vwCl [(h0, .inr (10, [.int fl, .int pl, .ref hCd, w3, .int i4, .int i5, w6, .ref hQ, .int (nI x1), .int (nI z1), w10, .int i11])), (hQ, .inr (11, [.ref hKi, .ref hPl, .ref hNu, y3, .int j4, .int j5, y6])), (hKi, .inl (cI, 2001, .inl kf)), (hPl, .inl (cI, 2001, .inl pf)), (hNu, .inl (cJ, 2001, .inr (.inl vf))), (hCd, .inr (2, [.int (nI s1), .ref hA1, .ref hA2, .ref hA3, .ref hA4, .ref hA5, .ref hA6, .ref hA7, g8, g9, g10, g11, .int tq]))] U.heap ∧ va_K (dC, dI) vwCl [(cB, .byte), (cI, .int), (cJ, .long), (cZ, .boolean)] U ∧ va_D (fun _ => True) [(h0, .inr (10, [.int fl, .int pl, .ref hCd, w3, .int i4, .int i5, w6, .ref hQ, .int (nI x1), .int (nI z1), w10, .int i11])), (hQ, .inr (11, [.ref hKi, .ref hPl, .ref hNu, y3, .int j4, .int j5, y6])), (hKi, .inl (cI, 2001, .inl kf)), (hPl, .inl (cI, 2001, .inl pf)), (hNu, .inl (cJ, 2001, .inr (.inl vf))), (hCd, .inr (2, [.int (nI s1), .ref hA1, .ref hA2, .ref hA3, .ref hA4, .ref hA5, .ref hA6, .ref hA7, g8, g9, g10, g11, .int tq]))])
abbrev qc_t_X9_readConjunction_f (dC : Nat → ClassId) (dI : Nat → Nat → Nat) (cB cI cJ cZ : ClassId) (h0 hQ hKi hPl hNu : Nat) (kf pf : Nat → Int32) (vf : Nat → Int64) (fl pl : Int32) (w3 : Value) (i4 i5 : Int32) (w6 : Value) (x1 z1 : Nat) (w10 : Value) (i11 : Int32) (y3 : Value) (j4 j5 : Int32) (y6 : Value) (hCd hA1 hA2 hA3 hA4 hA5 hA6 hA7 s1 : Nat) (g8 g9 g10 g11 : Value) (tq : Int32) (A : Nat → Prop) : Array Value → State → Outcome → State → Prop := va_Qv (fun (u : Unit) => match u with | _ => True) (fun (u : Unit) t_ => match u with | _ => va_P (dC, dI) vwCl [(h0, .inr (10, [.int fl, .int pl, .ref hCd, w3, .int i4, .int i5, w6, .ref hQ, .int (nI x1), .int (nI z1), w10, .int i11])), (hQ, .inr (11, [.ref hKi, .ref hPl, .ref hNu, y3, .int j4, .int j5, y6])), (hKi, .inl (cI, 2001, .inl kf)), (hPl, .inl (cI, 2001, .inl pf)), (hNu, .inl (cJ, 2001, .inr (.inl vf))), (hCd, .inr (2, [.int (nI s1), .ref hA1, .ref hA2, .ref hA3, .ref hA4, .ref hA5, .ref hA6, .ref hA7, g8, g9, g10, g11, .int tq]))] t_.heap ∧ va_K (dC, dI) vwCl [(cB, .byte), (cI, .int), (cJ, .long), (cZ, .boolean)] t_ ∧ va_D A [(h0, .inr (10, [.int fl, .int pl, .ref hCd, w3, .int i4, .int i5, w6, .ref hQ, .int (nI x1), .int (nI z1), w10, .int i11])), (hQ, .inr (11, [.ref hKi, .ref hPl, .ref hNu, y3, .int j4, .int j5, y6])), (hKi, .inl (cI, 2001, .inl kf)), (hPl, .inl (cI, 2001, .inl pf)), (hNu, .inl (cJ, 2001, .inr (.inl vf))), (hCd, .inr (2, [.int (nI s1), .ref hA1, .ref hA2, .ref hA3, .ref hA4, .ref hA5, .ref hA6, .ref hA7, g8, g9, g10, g11, .int tq]))]) A
set_option maxHeartbeats 4000000 in
set_option maxRecDepth 100000 in
theorem t_X9_readConjunction_f (l : Launch) (dC : Nat → ClassId) (dI : Nat → Nat → Nat) (sz : Nat) (cB cI cJ cZ : ClassId) (h0 hQ hKi hPl hNu : Nat) (kf pf : Nat → Int32) (vf : Nat → Int64) (fl pl : Int32) (w3 : Value) (i4 i5 : Int32) (w6 : Value) (x1 z1 : Nat) (w10 : Value) (i11 : Int32) (y3 : Value) (j4 j5 : Int32) (y6 : Value) (hCd hA1 hA2 hA3 hA4 hA5 hA6 hA7 s1 : Nat) (g8 g9 g10 g11 : Value) (tq : Int32) (hx1 : x1 ≤ 2000) (hfl : ¬ fl = 0) : Met l yX9_readConjunction (wsOf yX9_readConjunction cX9_readConjunction 5 none) ({ frames := 8, cells := 0, slots := 0, locals := 480 }) (pc_t_X9_readConjunction_f dC dI sz cB cI cJ cZ h0 hQ hKi hPl hNu kf pf vf fl pl w3 i4 i5 w6 x1 z1 w10 i11 y3 j4 j5 y6 hCd hA1 hA2 hA3 hA4 hA5 hA6 hA7 s1 g8 g9 g10 g11 tq) (qc_t_X9_readConjunction_f dC dI cB cI cJ cZ h0 hQ hKi hPl hNu kf pf vf fl pl w3 i4 i5 w6 x1 z1 w10 i11 y3 j4 j5 y6 hCd hA1 hA2 hA3 hA4 hA5 hA6 hA7 s1 g8 g9 g10 g11 tq (va_A (cs_t_X9_readConjunction_f cB cI cJ cZ h0 hQ hKi hPl hNu kf pf vf fl pl w3 i4 i5 w6 x1 z1 w10 i11 y3 j4 j5 y6 hCd hA1 hA2 hA3 hA4 hA5 hA6 hA7 s1 g8 g9 g10 g11 tq) sz)) 0 0 (va_A (cs_t_X9_readConjunction_f cB cI cJ cZ h0 hQ hKi hPl hNu kf pf vf fl pl w3 i4 i5 w6 x1 z1 w10 i11 y3 j4 j5 y6 hCd hA1 hA2 hA3 hA4 hA5 hA6 hA7 s1 g8 g9 g10 g11 tq) sz) := by
  refine Met.ofW (cc := cX9_readConjunction) (maxL := 5) (ret := none) (by decide) rfl ?_
  intro p e s m args below meth c s₁ B hml hv
  obtain ⟨rfl, hsz, hP, hK, hD0⟩ := hv
  have hx := B.exec
  have hb := B.bytes
  have hr := B.returns
  have hts := atoms_spec (ws := (wsOf yX9_readConjunction cX9_readConjunction 5 none)) B.pre
  have hown : s.vm.findClass RX9 = some m.cls := findClass_of_methodNamed B.named
  have hlocks := B.notSynchronized
  subst hsz
  have hD := hD0.self (sz := s.heap.size)
  generalize hAe : va_A (cs_t_X9_readConjunction_f cB cI cJ cZ h0 hQ hKi hPl hNu kf pf vf fl pl w3 i4 i5 w6 x1 z1 w10 i11 y3 j4 j5 y6 hCd hA1 hA2 hA3 hA4 hA5 hA6 hA7 s1 g8 g9 g10 g11 tq) s.heap.size = A at hD ⊢
  have hA : ∀ q : Nat, s.heap.size ≤ q → A q := fun q h => by rw [← hAe]; exact Or.inr h
  have hS : va_S A s.heap s.heap [] := va_S.rf
  have hP : va_P (dC, dI) vwCl [(h0, .inr (10, [.int fl, .int pl, .ref hCd, w3, .int i4, .int i5, w6, .ref hQ, .int (nI x1), .int (nI z1), w10, .int i11])), (hQ, .inr (11, [.ref hKi, .ref hPl, .ref hNu, y3, .int j4, .int j5, y6])), (hKi, .inl (cI, 2001, .inl kf)), (hPl, .inl (cI, 2001, .inl pf)), (hNu, .inl (cJ, 2001, .inr (.inl vf))), (hCd, .inr (2, [.int (nI s1), .ref hA1, .ref hA2, .ref hA3, .ref hA4, .ref hA5, .ref hA6, .ref hA7, g8, g9, g10, g11, .int tq]))] s.heap := hP
  have hl := lv_entry ([.ref h0]) (n := 5) (Nat.le_of_ble_eq_true rfl)
  rw [lg_entry_eq]
  generalize (lg_sl ([.ref h0]) ++ List.replicate (5 - (lg_sl ([.ref h0])).length) Slot.unset).toArray = ls at hl ⊢
  have hl : lv_has ls 5 [(0, .ref h0)] := hl
  refine lv_aload_n hx hb dX9_readConjunction_0 rfl (lv_at hl 0 rfl) ?_
  refine va_get (D := (dC, dI)) (ci := 10) (v := .ref hCd) (C := RX9) (T := TX9) (N := 12) hx hb hts (fun w h => List.mem_cons_of_mem _ (uG_X9 w h)) hown hK hP 0 rfl rfl 2 (by decide) (hts _ (List.mem_cons_of_mem _ kw_860)) (fun _ h9 => h9) rfl dX9_readConjunction_1 ?_
  refine va_get (D := (dC, dI)) (ci := 2) (v := .int (nI s1)) (C := RX1) (T := TX1) (N := 13) hx hb hts (fun w h => List.mem_cons_of_mem _ (uG_X1 w h)) hown hK hP 5 rfl rfl 0 (by decide) (hts _ (List.mem_cons_of_mem _ kw_373)) (fun _ h9 => h9) rfl dX9_readConjunction_4 ?_
  refine lv_istore_n (lv' := [(1, .int (nI s1)), (0, .ref h0)]) hx hb dX9_readConjunction_7 rfl hl (by decide) rfl (fun ls hl => ?_)
  refine lv_aload_n hx hb dX9_readConjunction_8 rfl (lv_at hl 1 rfl) ?_
  have hPc := hP.sub (ws' := [(h0, .inr (10, [.int fl, .int pl, .ref hCd, w3, .int i4, .int i5, w6, .ref hQ, .int (nI x1), .int (nI z1), w10, .int i11])), (hQ, .inr (11, [.ref hKi, .ref hPl, .ref hNu, y3, .int j4, .int j5, y6])), (hKi, .inl (cI, 2001, .inl kf)), (hPl, .inl (cI, 2001, .inl pf)), (hNu, .inl (cJ, 2001, .inr (.inl vf)))]) [0, 1, 2, 3, 4] rfl
  have hDc := hD.sub (ws' := [(h0, .inr (10, [.int fl, .int pl, .ref hCd, w3, .int i4, .int i5, w6, .ref hQ, .int (nI x1), .int (nI z1), w10, .int i11])), (hQ, .inr (11, [.ref hKi, .ref hPl, .ref hNu, y3, .int j4, .int j5, y6])), (hKi, .inl (cI, 2001, .inl kf)), (hPl, .inl (cI, 2001, .inl pf)), (hNu, .inl (cJ, 2001, .inr (.inl vf)))]) [0, 1, 2, 3, 4] (by decide) rfl
  have hKc := hK.sub (tys' := [(cB, .byte), (cI, .int), (cJ, .long), (cZ, .boolean)]) [0, 1, 2, 3] rfl
  have hFc := va_free (wc := [(h0, .inr (10, [.int fl, .int pl, .ref hCd, w3, .int i4, .int i5, w6, .ref hQ, .int (nI x1), .int (nI z1), w10, .int i11])), (hQ, .inr (11, [.ref hKi, .ref hPl, .ref hNu, y3, .int j4, .int j5, y6])), (hKi, .inl (cI, 2001, .inl kf)), (hPl, .inl (cI, 2001, .inl pf)), (hNu, .inl (cJ, 2001, .inr (.inl vf)))]) hD hS hA [0, 1, 2, 3, 4] rfl
  refine va_calli (va_runV (As := []) (rest := []) ⟨hx, hb, hml, hown, hts⟩ (t_X9_here l dC dI s.heap.size cB cI cJ cZ h0 hQ hKi hPl hNu kf pf vf fl pl (.ref hCd) w3 i4 i5 w6 x1 z1 w10 i11 y3 j4 j5 y6  hx1) (cwV 0 hts (gd_all (in_V kw_923 kw_925 kw_16 kw_193 kc_X9_here)) rfl rfl rfl (by decide +kernel) ⟨Nat.le_of_ble_eq_true rfl, Nat.le_of_ble_eq_true rfl⟩) ⟨fun a U g mk q => by obtain ⟨q0, q1, qP, qK, qD⟩ := q; exact ⟨q0, q1, qP, va_K.moved (u := U) (U := U.calling g mk a) (Vm.Alike.refl U.vm) qK, qD⟩, va_recv hKc hPc (ci := 10) (q0 := 0) rfl rfl, fun U hU hW => ⟨rfl, by rw [hU], by rw [hU]; exact hPc, va_K.moved hW.alike hKc, hDc.weaken (fun _ _ _ _ => trivial)⟩⟩ rfl rfl hl.1 rfl (lv_room (Nat.le_of_ble_eq_true rfl)) dX9_readConjunction_9 ⟨Nat.le_of_ble_eq_true rfl, Nat.le_of_ble_eq_true rfl⟩) hS (fun q _ h => hFc q h) hFc (fun r_1 u t_ H1 locs ht hvm hw hB hz1 hk1 hS => ?_)
  obtain ⟨hP1, hK1, hD1⟩ := hB
  rw [ht] at hP1
  have hK1 := va_K.moved hvm.symm hK1
  obtain ⟨hP, hD⟩ := va_join (wr := [(hCd, .inr (2, [.int (nI s1), .ref hA1, .ref hA2, .ref hA3, .ref hA4, .ref hA5, .ref hA6, .ref hA7, g8, g9, g10, g11, .int tq]))]) (w1 := [(h0, .inr (10, [.int fl, .int pl, .ref hCd, w3, .int i4, .int i5, w6, .ref hQ, .int (nI x1), .int (nI z1), w10, .int i11])), (hQ, .inr (11, [.ref hKi, .ref hPl, .ref hNu, y3, .int j4, .int j5, y6])), (hKi, .inl (cI, 2001, .inl kf)), (hPl, .inl (cI, 2001, .inl pf)), (hNu, .inl (cJ, 2001, .inr (.inl vf)))]) hP hD [0, 1, 2, 3, 4] [5] rfl rfl (by decide) (by decide) hk1 hFc hP1 hD1
  have hK := (hK.sub (tys' := []) [] rfl).app hK1
  generalize H1 = H at hP hS ⊢
  have hP : va_P (dC, dI) vwCl [(hCd, .inr (2, [.int (nI s1), .ref hA1, .ref hA2, .ref hA3, .ref hA4, .ref hA5, .ref hA6, .ref hA7, g8, g9, g10, g11, .int tq])), (h0, .inr (10, [.int fl, .int pl, .ref hCd, w3, .int i4, .int i5, w6, .ref hQ, .int (nI x1), .int (nI z1), w10, .int i11])), (hQ, .inr (11, [.ref hKi, .ref hPl, .ref hNu, y3, .int j4, .int j5, y6])), (hKi, .inl (cI, 2001, .inl kf)), (hPl, .inl (cI, 2001, .inl pf)), (hNu, .inl (cJ, 2001, .inr (.inl vf)))] H := hP
  have hD : va_D A [(hCd, .inr (2, [.int (nI s1), .ref hA1, .ref hA2, .ref hA3, .ref hA4, .ref hA5, .ref hA6, .ref hA7, g8, g9, g10, g11, .int tq])), (h0, .inr (10, [.int fl, .int pl, .ref hCd, w3, .int i4, .int i5, w6, .ref hQ, .int (nI x1), .int (nI z1), w10, .int i11])), (hQ, .inr (11, [.ref hKi, .ref hPl, .ref hNu, y3, .int j4, .int j5, y6])), (hKi, .inl (cI, 2001, .inl kf)), (hPl, .inl (cI, 2001, .inl pf)), (hNu, .inl (cJ, 2001, .inr (.inl vf)))] := hD
  have hK : va_K (dC, dI) vwCl [(cB, .byte), (cI, .int), (cJ, .long), (cZ, .boolean)] s := hK
  have er_1 : r_1 = pf x1 := hw
  rw [er_1]
  refine lv_istore_n (lv' := [(2, .int (pf x1)), (1, .int (nI s1)), (0, .ref h0)]) hx hb dX9_readConjunction_12 rfl hl (by decide) rfl (fun ls hl => ?_)
  refine lv_aload_n hx hb dX9_readConjunction_13 rfl (lv_at hl 2 rfl) ?_
  have hPc := hP.sub (ws' := [(h0, .inr (10, [.int fl, .int pl, .ref hCd, w3, .int i4, .int i5, w6, .ref hQ, .int (nI x1), .int (nI z1), w10, .int i11])), (hQ, .inr (11, [.ref hKi, .ref hPl, .ref hNu, y3, .int j4, .int j5, y6])), (hKi, .inl (cI, 2001, .inl kf)), (hPl, .inl (cI, 2001, .inl pf)), (hNu, .inl (cJ, 2001, .inr (.inl vf))), (hCd, .inr (2, [.int (nI s1), .ref hA1, .ref hA2, .ref hA3, .ref hA4, .ref hA5, .ref hA6, .ref hA7, g8, g9, g10, g11, .int tq]))]) [1, 2, 3, 4, 5, 0] rfl
  have hDc := hD.sub (ws' := [(h0, .inr (10, [.int fl, .int pl, .ref hCd, w3, .int i4, .int i5, w6, .ref hQ, .int (nI x1), .int (nI z1), w10, .int i11])), (hQ, .inr (11, [.ref hKi, .ref hPl, .ref hNu, y3, .int j4, .int j5, y6])), (hKi, .inl (cI, 2001, .inl kf)), (hPl, .inl (cI, 2001, .inl pf)), (hNu, .inl (cJ, 2001, .inr (.inl vf))), (hCd, .inr (2, [.int (nI s1), .ref hA1, .ref hA2, .ref hA3, .ref hA4, .ref hA5, .ref hA6, .ref hA7, g8, g9, g10, g11, .int tq]))]) [1, 2, 3, 4, 5, 0] (by decide) rfl
  have hKc := hK.sub (tys' := [(cB, .byte), (cI, .int), (cJ, .long), (cZ, .boolean)]) [0, 1, 2, 3] rfl
  have hFc := va_free (wc := [(h0, .inr (10, [.int fl, .int pl, .ref hCd, w3, .int i4, .int i5, w6, .ref hQ, .int (nI x1), .int (nI z1), w10, .int i11])), (hQ, .inr (11, [.ref hKi, .ref hPl, .ref hNu, y3, .int j4, .int j5, y6])), (hKi, .inl (cI, 2001, .inl kf)), (hPl, .inl (cI, 2001, .inl pf)), (hNu, .inl (cJ, 2001, .inr (.inl vf))), (hCd, .inr (2, [.int (nI s1), .ref hA1, .ref hA2, .ref hA3, .ref hA4, .ref hA5, .ref hA6, .ref hA7, g8, g9, g10, g11, .int tq]))]) hD hS hA [1, 2, 3, 4, 5, 0] rfl
  refine va_callv (va_runV (As := []) (rest := []) ⟨hx, hb, hml, hown, hts⟩ (t_X9_readNegation_f l dC dI H.size cB cI cJ cZ h0 hQ hKi hPl hNu kf pf vf fl pl w3 i4 i5 w6 x1 z1 w10 i11 y3 j4 j5 y6 hCd hA1 hA2 hA3 hA4 hA5 hA6 hA7 s1 g8 g9 g10 g11 tq   hx1 hfl) (cwV 0 hts (gd_all (in_V kw_955 kw_957 kw_22 kw_193 kc_X9_readNegation)) rfl rfl rfl (by decide +kernel) ⟨Nat.le_of_ble_eq_true rfl, Nat.le_of_ble_eq_true rfl⟩) ⟨fun a U g mk q => by obtain ⟨q0, q1, qP, qK, qD⟩ := q; exact ⟨q0, q1, qP, va_K.moved (u := U) (U := U.calling g mk a) (Vm.Alike.refl U.vm) qK, qD⟩, va_recv hKc hPc (ci := 10) (q0 := 0) rfl rfl, fun U hU hW => ⟨rfl, by rw [hU], by rw [hU]; exact hPc, va_K.moved hW.alike hKc, hDc.weaken (fun _ _ _ _ => trivial)⟩⟩ rfl rfl hl.1 rfl (lv_room (Nat.le_of_ble_eq_true rfl)) dX9_readConjunction_14 ⟨Nat.le_of_ble_eq_true rfl, Nat.le_of_ble_eq_true rfl⟩) hS (fun q _ h => hFc q h) hFc (fun u t_ H1 locs ht hvm hw hB hz1 hk1 hS => ?_)
  obtain ⟨hP1, hK1, hD1⟩ := hB
  rw [ht] at hP1
  have hK1 := va_K.moved hvm.symm hK1
  obtain ⟨hP, hD⟩ := va_join (wr := []) (w1 := [(h0, .inr (10, [.int fl, .int pl, .ref hCd, w3, .int i4, .int i5, w6, .ref hQ, .int (nI x1), .int (nI z1), w10, .int i11])), (hQ, .inr (11, [.ref hKi, .ref hPl, .ref hNu, y3, .int j4, .int j5, y6])), (hKi, .inl (cI, 2001, .inl kf)), (hPl, .inl (cI, 2001, .inl pf)), (hNu, .inl (cJ, 2001, .inr (.inl vf))), (hCd, .inr (2, [.int (nI s1), .ref hA1, .ref hA2, .ref hA3, .ref hA4, .ref hA5, .ref hA6, .ref hA7, g8, g9, g10, g11, .int tq]))]) hP hD [1, 2, 3, 4, 5, 0] [] rfl rfl (by decide) (by decide) hk1 hFc hP1 hD1
  have hK := (hK.sub (tys' := []) [] rfl).app hK1
  generalize H1 = H at hP hS ⊢
  have hP : va_P (dC, dI) vwCl [(h0, .inr (10, [.int fl, .int pl, .ref hCd, w3, .int i4, .int i5, w6, .ref hQ, .int (nI x1), .int (nI z1), w10, .int i11])), (hQ, .inr (11, [.ref hKi, .ref hPl, .ref hNu, y3, .int j4, .int j5, y6])), (hKi, .inl (cI, 2001, .inl kf)), (hPl, .inl (cI, 2001, .inl pf)), (hNu, .inl (cJ, 2001, .inr (.inl vf))), (hCd, .inr (2, [.int (nI s1), .ref hA1, .ref hA2, .ref hA3, .ref hA4, .ref hA5, .ref hA6, .ref hA7, g8, g9, g10, g11, .int tq]))] H := hP
  have hD : va_D A [(h0, .inr (10, [.int fl, .int pl, .ref hCd, w3, .int i4, .int i5, w6, .ref hQ, .int (nI x1), .int (nI z1), w10, .int i11])), (hQ, .inr (11, [.ref hKi, .ref hPl, .ref hNu, y3, .int j4, .int j5, y6])), (hKi, .inl (cI, 2001, .inl kf)), (hPl, .inl (cI, 2001, .inl pf)), (hNu, .inl (cJ, 2001, .inr (.inl vf))), (hCd, .inr (2, [.int (nI s1), .ref hA1, .ref hA2, .ref hA3, .ref hA4, .ref hA5, .ref hA6, .ref hA7, g8, g9, g10, g11, .int tq]))] := hD
  have hK : va_K (dC, dI) vwCl [(cB, .byte), (cI, .int), (cJ, .long), (cZ, .boolean)] s := hK
  refine lv_iconst (v := 0) hx hb dX9_readConjunction_17 (by decide) ?_
  refine lv_istore_n (lv' := [(3, .int 0), (2, .int (pf x1)), (1, .int (nI s1)), (0, .ref h0)]) hx hb dX9_readConjunction_18 rfl hl (by decide) rfl (fun ls hl => ?_)
  refine lv_iload_n hx hb dX9_readConjunction_19 rfl (lv_at hl 0 rfl) ?_
  refine lv_sipush (v := 2000) hx hb dX9_readConjunction_20 (by decide) ?_
  refine lv_icmp_ge (tgt := 73) hx hb dX9_readConjunction_23 (by decide) (fun c_3 => ?_) (fun c_3 => ?_)
  · skip
    exact absurd c_3 (by decide)
  · skip
    refine lv_aload_n hx hb dX9_readConjunction_26 rfl (lv_at hl 3 rfl) ?_
    have hPc := hP.sub (ws' := [(h0, .inr (10, [.int fl, .int pl, .ref hCd, w3, .int i4, .int i5, w6, .ref hQ, .int (nI x1), .int (nI z1), w10, .int i11])), (hQ, .inr (11, [.ref hKi, .ref hPl, .ref hNu, y3, .int j4, .int j5, y6])), (hKi, .inl (cI, 2001, .inl kf)), (hPl, .inl (cI, 2001, .inl pf)), (hNu, .inl (cJ, 2001, .inr (.inl vf)))]) [0, 1, 2, 3, 4] rfl
    have hDc := hD.sub (ws' := [(h0, .inr (10, [.int fl, .int pl, .ref hCd, w3, .int i4, .int i5, w6, .ref hQ, .int (nI x1), .int (nI z1), w10, .int i11])), (hQ, .inr (11, [.ref hKi, .ref hPl, .ref hNu, y3, .int j4, .int j5, y6])), (hKi, .inl (cI, 2001, .inl kf)), (hPl, .inl (cI, 2001, .inl pf)), (hNu, .inl (cJ, 2001, .inr (.inl vf)))]) [0, 1, 2, 3, 4] (by decide) rfl
    have hKc := hK.sub (tys' := [(cB, .byte), (cI, .int), (cJ, .long), (cZ, .boolean)]) [0, 1, 2, 3] rfl
    have hFc := va_free (wc := [(h0, .inr (10, [.int fl, .int pl, .ref hCd, w3, .int i4, .int i5, w6, .ref hQ, .int (nI x1), .int (nI z1), w10, .int i11])), (hQ, .inr (11, [.ref hKi, .ref hPl, .ref hNu, y3, .int j4, .int j5, y6])), (hKi, .inl (cI, 2001, .inl kf)), (hPl, .inl (cI, 2001, .inl pf)), (hNu, .inl (cJ, 2001, .inr (.inl vf)))]) hD hS hA [0, 1, 2, 3, 4] rfl
    refine va_calli (va_runV (As := []) (rest := []) ⟨hx, hb, hml, hown, hts⟩ (t_X9_kind l dC dI H.size cB cI cJ cZ h0 hQ hKi hPl hNu kf pf vf fl pl (.ref hCd) w3 i4 i5 w6 x1 z1 w10 i11 y3 j4 j5 y6  hx1) (cwV 0 hts (gd_all (in_V kw_907 kw_909 kw_12 kw_193 kc_X9_kind)) rfl rfl rfl (by decide +kernel) ⟨Nat.le_of_ble_eq_true rfl, Nat.le_of_ble_eq_true rfl⟩) ⟨fun a U g mk q => by obtain ⟨q0, q1, qP, qK, qD⟩ := q; exact ⟨q0, q1, qP, va_K.moved (u := U) (U := U.calling g mk a) (Vm.Alike.refl U.vm) qK, qD⟩, va_recv hKc hPc (ci := 10) (q0 := 0) rfl rfl, fun U hU hW => ⟨rfl, by rw [hU], by rw [hU]; exact hPc, va_K.moved hW.alike hKc, hDc.weaken (fun _ _ _ _ => trivial)⟩⟩ rfl rfl hl.1 rfl (lv_room (Nat.le_of_ble_eq_true rfl)) dX9_readConjunction_27 ⟨Nat.le_of_ble_eq_true rfl, Nat.le_of_ble_eq_true rfl⟩) hS (fun q _ h => hFc q h) hFc (fun r_4 u t_ H1 locs ht hvm hw hB hz1 hk1 hS => ?_)
    obtain ⟨hP1, hK1, hD1⟩ := hB
    rw [ht] at hP1
    have hK1 := va_K.moved hvm.symm hK1
    obtain ⟨hP, hD⟩ := va_join (wr := [(hCd, .inr (2, [.int (nI s1), .ref hA1, .ref hA2, .ref hA3, .ref hA4, .ref hA5, .ref hA6, .ref hA7, g8, g9, g10, g11, .int tq]))]) (w1 := [(h0, .inr (10, [.int fl, .int pl, .ref hCd, w3, .int i4, .int i5, w6, .ref hQ, .int (nI x1), .int (nI z1), w10, .int i11])), (hQ, .inr (11, [.ref hKi, .ref hPl, .ref hNu, y3, .int j4, .int j5, y6])), (hKi, .inl (cI, 2001, .inl kf)), (hPl, .inl (cI, 2001, .inl pf)), (hNu, .inl (cJ, 2001, .inr (.inl vf)))]) hP hD [0, 1, 2, 3, 4] [5] rfl rfl (by decide) (by decide) hk1 hFc hP1 hD1
    have hK := (hK.sub (tys' := []) [] rfl).app hK1
    generalize H1 = H at hP hS ⊢
    have hP : va_P (dC, dI) vwCl [(hCd, .inr (2, [.int (nI s1), .ref hA1, .ref hA2, .ref hA3, .ref hA4, .ref hA5, .ref hA6, .ref hA7, g8, g9, g10, g11, .int tq])), (h0, .inr (10, [.int fl, .int pl, .ref hCd, w3, .int i4, .int i5, w6, .ref hQ, .int (nI x1), .int (nI z1), w10, .int i11])), (hQ, .inr (11, [.ref hKi, .ref hPl, .ref hNu, y3, .int j4, .int j5, y6])), (hKi, .inl (cI, 2001, .inl kf)), (hPl, .inl (cI, 2001, .inl pf)), (hNu, .inl (cJ, 2001, .inr (.inl vf)))] H := hP
    have hD : va_D A [(hCd, .inr (2, [.int (nI s1), .ref hA1, .ref hA2, .ref hA3, .ref hA4, .ref hA5, .ref hA6, .ref hA7, g8, g9, g10, g11, .int tq])), (h0, .inr (10, [.int fl, .int pl, .ref hCd, w3, .int i4, .int i5, w6, .ref hQ, .int (nI x1), .int (nI z1), w10, .int i11])), (hQ, .inr (11, [.ref hKi, .ref hPl, .ref hNu, y3, .int j4, .int j5, y6])), (hKi, .inl (cI, 2001, .inl kf)), (hPl, .inl (cI, 2001, .inl pf)), (hNu, .inl (cJ, 2001, .inr (.inl vf)))] := hD
    have hK : va_K (dC, dI) vwCl [(cB, .byte), (cI, .int), (cJ, .long), (cZ, .boolean)] s := hK
    have er_4 : r_4 = 57 := hw.trans (if_neg hfl)
    rw [er_4]
    refine lv_bipush (v := 28) hx hb dX9_readConjunction_30 (by decide) ?_
    refine lv_icmp_ne (tgt := 73) hx hb dX9_readConjunction_32 (by decide) (fun c_5 => ?_) (fun c_5 => ?_)
    · skip
      have hP9 := hP.sub (ws' := [(h0, .inr (10, [.int fl, .int pl, .ref hCd, w3, .int i4, .int i5, w6, .ref hQ, .int (nI x1), .int (nI z1), w10, .int i11])), (hQ, .inr (11, [.ref hKi, .ref hPl, .ref hNu, y3, .int j4, .int j5, y6])), (hKi, .inl (cI, 2001, .inl kf)), (hPl, .inl (cI, 2001, .inl pf)), (hNu, .inl (cJ, 2001, .inr (.inl vf))), (hCd, .inr (2, [.int (nI s1), .ref hA1, .ref hA2, .ref hA3, .ref hA4, .ref hA5, .ref hA6, .ref hA7, g8, g9, g10, g11, .int tq]))]) [1, 2, 3, 4, 5, 0] rfl
      have hD9 := hD.sub (ws' := [(h0, .inr (10, [.int fl, .int pl, .ref hCd, w3, .int i4, .int i5, w6, .ref hQ, .int (nI x1), .int (nI z1), w10, .int i11])), (hQ, .inr (11, [.ref hKi, .ref hPl, .ref hNu, y3, .int j4, .int j5, y6])), (hKi, .inl (cI, 2001, .inl kf)), (hPl, .inl (cI, 2001, .inl pf)), (hNu, .inl (cJ, 2001, .inr (.inl vf))), (hCd, .inr (2, [.int (nI s1), .ref hA1, .ref hA2, .ref hA3, .ref hA4, .ref hA5, .ref hA6, .ref hA7, g8, g9, g10, g11, .int tq]))]) [1, 2, 3, 4, 5, 0] (by decide) rfl
      have hK9 := hK.sub (tys' := [(cB, .byte), (cI, .int), (cJ, .long), (cZ, .boolean)]) [0, 1, 2, 3] rfl
      exact W.vret hx hb hr (fun t_ ht hW => ⟨⟨(), rfl, trivial, by rw [ht]; exact hP9, va_K.moved hW.alike hK9, hD9⟩, hS.F ht⟩) hS.2.2 dX9_readConjunction_73
    · skip
      exact absurd c_5 (by decide)
theorem dX9_readExpr_0 : decode cX9_readExpr 0 = .ok (.aload_n 0, 1) := by decide +kernel
theorem dX9_readExpr_1 : decode cX9_readExpr 1 = .ok (.getfield 26, 3) := by decide +kernel
theorem dX9_readExpr_4 : decode cX9_readExpr 4 = .ok (.getfield 296, 3) := by decide +kernel
theorem dX9_readExpr_7 : decode cX9_readExpr 7 = .ok (.istore_n 1, 1) := by decide +kernel
theorem dX9_readExpr_8 : decode cX9_readExpr 8 = .ok (.aload_n 0, 1) := by decide +kernel
theorem dX9_readExpr_9 : decode cX9_readExpr 9 = .ok (.invokevirtual 118, 3) := by decide +kernel
theorem dX9_readExpr_12 : decode cX9_readExpr 12 = .ok (.istore_n 2, 1) := by decide +kernel
theorem dX9_readExpr_13 : decode cX9_readExpr 13 = .ok (.aload_n 0, 1) := by decide +kernel
theorem dX9_readExpr_14 : decode cX9_readExpr 14 = .ok (.invokevirtual 302, 3) := by decide +kernel
theorem dX9_readExpr_17 : decode cX9_readExpr 17 = .ok (.iconst 0, 1) := by decide +kernel
theorem dX9_readExpr_18 : decode cX9_readExpr 18 = .ok (.istore_n 3, 1) := by decide +kernel
theorem dX9_readExpr_19 : decode cX9_readExpr 19 = .ok (.iload_n 3, 1) := by decide +kernel
theorem dX9_readExpr_20 : decode cX9_readExpr 20 = .ok (.sipush 2000, 3) := by decide +kernel
theorem dX9_readExpr_23 : decode cX9_readExpr 23 = .ok (.if_icmp .ge 50, 3) := by decide +kernel
theorem dX9_readExpr_26 : decode cX9_readExpr 26 = .ok (.aload_n 0, 1) := by decide +kernel
theorem dX9_readExpr_27 : decode cX9_readExpr 27 = .ok (.invokevirtual 114, 3) := by decide +kernel
theorem dX9_readExpr_30 : decode cX9_readExpr 30 = .ok (.bipush 29, 2) := by decide +kernel
theorem dX9_readExpr_32 : decode cX9_readExpr 32 = .ok (.if_icmp .ne 41, 3) := by decide +kernel
theorem dX9_readExpr_35 : decode cX9_readExpr 35 = .ok (.aload_n 0, 1) := by decide +kernel
theorem dX9_readExpr_36 : decode cX9_readExpr 36 = .ok (.invokevirtual 118, 3) := by decide +kernel
theorem dX9_readExpr_39 : decode cX9_readExpr 39 = .ok (.istore 4, 2) := by decide +kernel
theorem dX9_readExpr_41 : decode cX9_readExpr 41 = .ok (.aload_n 0, 1) := by decide +kernel
theorem dX9_readExpr_42 : decode cX9_readExpr 42 = .ok (.dup, 1) := by decide +kernel
theorem dX9_readExpr_43 : decode cX9_readExpr 43 = .ok (.getfield 99, 3) := by decide +kernel
theorem dX9_readExpr_46 : decode cX9_readExpr 46 = .ok (.iconst 1, 1) := by decide +kernel
theorem dX9_readExpr_47 : decode cX9_readExpr 47 = .ok (.iadd, 1) := by decide +kernel
theorem dX9_readExpr_48 : decode cX9_readExpr 48 = .ok (.putfield 99, 3) := by decide +kernel
theorem dX9_readExpr_51 : decode cX9_readExpr 51 = .ok (.aload_n 0, 1) := by decide +kernel
theorem dX9_readExpr_52 : decode cX9_readExpr 52 = .ok (.invokevirtual 302, 3) := by decide +kernel
theorem dX9_readExpr_55 : decode cX9_readExpr 55 = .ok (.aload_n 0, 1) := by decide +kernel
theorem dX9_readExpr_56 : decode cX9_readExpr 56 = .ok (.bipush 29, 2) := by decide +kernel
theorem dX9_readExpr_58 : decode cX9_readExpr 58 = .ok (.iload_n 1, 1) := by decide +kernel
theorem dX9_readExpr_59 : decode cX9_readExpr 59 = .ok (.iload_n 2, 1) := by decide +kernel
theorem dX9_readExpr_60 : decode cX9_readExpr 60 = .ok (.iload 4, 2) := by decide +kernel
theorem dX9_readExpr_62 : decode cX9_readExpr 62 = .ok (.iconst 2, 1) := by decide +kernel
theorem dX9_readExpr_63 : decode cX9_readExpr 63 = .ok (.invokevirtual 305, 3) := by decide +kernel
theorem dX9_readExpr_66 : decode cX9_readExpr 66 = .ok (.pop, 1) := by decide +kernel
theorem dX9_readExpr_67 : decode cX9_readExpr 67 = .ok (.iinc 3 1, 3) := by decide +kernel
theorem dX9_readExpr_70 : decode cX9_readExpr 70 = .ok (.goto (-51), 3) := by decide +kernel
theorem dX9_readExpr_73 : decode cX9_readExpr 73 = .ok (.aload_n 0, 1) := by decide +kernel
theorem dX9_readExpr_74 : decode cX9_readExpr 74 = .ok (.getfield 26, 3) := by decide +kernel
theorem dX9_readExpr_77 : decode cX9_readExpr 77 = .ok (.getfield 296, 3) := by decide +kernel
theorem dX9_readExpr_80 : decode cX9_readExpr 80 = .ok (.iconst 1, 1) := by decide +kernel
theorem dX9_readExpr_81 : decode cX9_readExpr 81 = .ok (.isub, 1) := by decide +kernel
theorem dX9_readExpr_82 : decode cX9_readExpr 82 = .ok (.ireturn, 1) := by decide +kernel
abbrev cs_t_X9_readExpr_f (cB cI cJ cZ : ClassId) (h0 hQ hKi hPl hNu : Nat) (kf pf : Nat → Int32) (vf : Nat → Int64) (fl pl : Int32) (w3 : Value) (i4 i5 : Int32) (w6 : Value) (x1 z1 : Nat) (w10 : Value) (i11 : Int32) (y3 : Value) (j4 j5 : Int32) (y6 : Value) (hCd hA1 hA2 hA3 hA4 hA5 hA6 hA7 s1 : Nat) (g8 g9 g10 g11 : Value) (tq : Int32) : va_W := [(h0, .inr (10, [.int fl, .int pl, .ref hCd, w3, .int i4, .int i5, w6, .ref hQ, .int (nI x1), .int (nI z1), w10, .int i11])), (hQ, .inr (11, [.ref hKi, .ref hPl, .ref hNu, y3, .int j4, .int j5, y6])), (hKi, .inl (cI, 2001, .inl kf)), (hPl, .inl (cI, 2001, .inl pf)), (hNu, .inl (cJ, 2001, .inr (.inl vf))), (hCd, .inr (2, [.int (nI s1), .ref hA1, .ref hA2, .ref hA3, .ref hA4, .ref hA5, .ref hA6, .ref hA7, g8, g9, g10, g11, .int tq]))]
abbrev pc_t_X9_readExpr_f (dC : Nat → ClassId) (dI : Nat → Nat → Nat) (sz : Nat) (cB cI cJ cZ : ClassId) (h0 hQ hKi hPl hNu : Nat) (kf pf : Nat → Int32) (vf : Nat → Int64) (fl pl : Int32) (w3 : Value) (i4 i5 : Int32) (w6 : Value) (x1 z1 : Nat) (w10 : Value) (i11 : Int32) (y3 : Value) (j4 j5 : Int32) (y6 : Value) (hCd hA1 hA2 hA3 hA4 hA5 hA6 hA7 s1 : Nat) (g8 g9 g10 g11 : Value) (tq : Int32) : Array Value → State → Prop := va_Pc [.ref h0] (fun U => U.heap.size = sz ∧ va_P (dC, dI) vwCl [(h0, .inr (10, [.int fl, .int pl, .ref hCd, w3, .int i4, .int i5, w6, .ref hQ, .int (nI x1), .int (nI z1), w10, .int i11])), (hQ, .inr (11, [.ref hKi, .ref hPl, .ref hNu, y3, .int j4, .int j5, y6])), (hKi, .inl (cI, 2001, .inl kf)), (hPl, .inl (cI, 2001, .inl pf)), (hNu, .inl (cJ, 2001, .inr (.inl vf))), (hCd, .inr (2, [.int (nI s1), .ref hA1, .ref hA2, .ref hA3, .ref hA4, .ref hA5, .ref hA6, .ref hA7, g8, g9, g10, g11, .int tq]))] U.heap ∧ va_K (dC, dI) vwCl [(cB, .byte), (cI, .int), (cJ, .long), (cZ, .boolean)] U ∧ va_D (fun _ => True) [(h0, .inr (10, [.int fl, .int pl, .ref hCd, w3, .int i4, .int i5, w6, .ref hQ, .int (nI x1), .int (nI z1), w10, .int i11])), (hQ, .inr (11, [.ref hKi, .ref hPl, .ref hNu, y3, .int j4, .int j5, y6])), (hKi, .inl (cI, 2001, .inl kf)), (hPl, .inl (cI, 2001, .inl pf)), (hNu, .inl (cJ, 2001, .inr (.inl vf))), (hCd, .inr (2, [.int (nI s1), .ref hA1, .ref hA2, .ref hA3, .ref hA4, .ref hA5, .ref hA6, .ref hA7, g8, g9, g10, g11, .int tq]))])
abbrev qc_t_X9_readExpr_f (dC : Nat → ClassId) (dI : Nat → Nat → Nat) (cB cI cJ cZ : ClassId) (h0 hQ hKi hPl hNu : Nat) (kf pf : Nat → Int32) (vf : Nat → Int64) (fl pl : Int32) (w3 : Value) (i4 i5 : Int32) (w6 : Value) (x1 z1 : Nat) (w10 : Value) (i11 : Int32) (y3 : Value) (j4 j5 : Int32) (y6 : Value) (hCd hA1 hA2 hA3 hA4 hA5 hA6 hA7 s1 : Nat) (g8 g9 g10 g11 : Value) (tq : Int32) (A : Nat → Prop) : Array Value → State → Outcome → State → Prop := va_Qi (fun (r : Int32) (u : Unit) => match u with | _ => r = nI s1 - 1) (fun (u : Unit) t_ => match u with | _ => va_P (dC, dI) vwCl [(h0, .inr (10, [.int fl, .int pl, .ref hCd, w3, .int i4, .int i5, w6, .ref hQ, .int (nI x1), .int (nI z1), w10, .int i11])), (hQ, .inr (11, [.ref hKi, .ref hPl, .ref hNu, y3, .int j4, .int j5, y6])), (hKi, .inl (cI, 2001, .inl kf)), (hPl, .inl (cI, 2001, .inl pf)), (hNu, .inl (cJ, 2001, .inr (.inl vf))), (hCd, .inr (2, [.int (nI s1), .ref hA1, .ref hA2, .ref hA3, .ref hA4, .ref hA5, .ref hA6, .ref hA7, g8, g9, g10, g11, .int tq]))] t_.heap ∧ va_K (dC, dI) vwCl [(cB, .byte), (cI, .int), (cJ, .long), (cZ, .boolean)] t_ ∧ va_D A [(h0, .inr (10, [.int fl, .int pl, .ref hCd, w3, .int i4, .int i5, w6, .ref hQ, .int (nI x1), .int (nI z1), w10, .int i11])), (hQ, .inr (11, [.ref hKi, .ref hPl, .ref hNu, y3, .int j4, .int j5, y6])), (hKi, .inl (cI, 2001, .inl kf)), (hPl, .inl (cI, 2001, .inl pf)), (hNu, .inl (cJ, 2001, .inr (.inl vf))), (hCd, .inr (2, [.int (nI s1), .ref hA1, .ref hA2, .ref hA3, .ref hA4, .ref hA5, .ref hA6, .ref hA7, g8, g9, g10, g11, .int tq]))]) A
set_option maxHeartbeats 4000000 in
set_option maxRecDepth 100000 in
theorem t_X9_readExpr_f (l : Launch) (dC : Nat → ClassId) (dI : Nat → Nat → Nat) (sz : Nat) (cB cI cJ cZ : ClassId) (h0 hQ hKi hPl hNu : Nat) (kf pf : Nat → Int32) (vf : Nat → Int64) (fl pl : Int32) (w3 : Value) (i4 i5 : Int32) (w6 : Value) (x1 z1 : Nat) (w10 : Value) (i11 : Int32) (y3 : Value) (j4 j5 : Int32) (y6 : Value) (hCd hA1 hA2 hA3 hA4 hA5 hA6 hA7 s1 : Nat) (g8 g9 g10 g11 : Value) (tq : Int32) (hx1 : x1 ≤ 2000) (hfl : ¬ fl = 0) : Met l yX9_readExpr (wsOf yX9_readExpr cX9_readExpr 5 (some .int)) ({ frames := 9, cells := 0, slots := 0, locals := 540 }) (pc_t_X9_readExpr_f dC dI sz cB cI cJ cZ h0 hQ hKi hPl hNu kf pf vf fl pl w3 i4 i5 w6 x1 z1 w10 i11 y3 j4 j5 y6 hCd hA1 hA2 hA3 hA4 hA5 hA6 hA7 s1 g8 g9 g10 g11 tq) (qc_t_X9_readExpr_f dC dI cB cI cJ cZ h0 hQ hKi hPl hNu kf pf vf fl pl w3 i4 i5 w6 x1 z1 w10 i11 y3 j4 j5 y6 hCd hA1 hA2 hA3 hA4 hA5 hA6 hA7 s1 g8 g9 g10 g11 tq (va_A (cs_t_X9_readExpr_f cB cI cJ cZ h0 hQ hKi hPl hNu kf pf vf fl pl w3 i4 i5 w6 x1 z1 w10 i11 y3 j4 j5 y6 hCd hA1 hA2 hA3 hA4 hA5 hA6 hA7 s1 g8 g9 g10 g11 tq) sz)) 0 0 (va_A (cs_t_X9_readExpr_f cB cI cJ cZ h0 hQ hKi hPl hNu kf pf vf fl pl w3 i4 i5 w6 x1 z1 w10 i11 y3 j4 j5 y6 hCd hA1 hA2 hA3 hA4 hA5 hA6 hA7 s1 g8 g9 g10 g11 tq) sz) := by
  refine Met.ofW (cc := cX9_readExpr) (maxL := 5) (ret := (some .int)) (by decide) rfl ?_
  intro p e s m args below meth c s₁ B hml hv
  obtain ⟨rfl, hsz, hP, hK, hD0⟩ := hv
  have hx := B.exec
  have hb := B.bytes
  have hr := B.returns
  have hts := atoms_spec (ws := (wsOf yX9_readExpr cX9_readExpr 5 (some .int))) B.pre
  have hown : s.vm.findClass RX9 = some m.cls := findClass_of_methodNamed B.named
  have hlocks := B.notSynchronized
  subst hsz
  have hD := hD0.self (sz := s.heap.size)
  generalize hAe : va_A (cs_t_X9_readExpr_f cB cI cJ cZ h0 hQ hKi hPl hNu kf pf vf fl pl w3 i4 i5 w6 x1 z1 w10 i11 y3 j4 j5 y6 hCd hA1 hA2 hA3 hA4 hA5 hA6 hA7 s1 g8 g9 g10 g11 tq) s.heap.size = A at hD ⊢
  have hA : ∀ q : Nat, s.heap.size ≤ q → A q := fun q h => by rw [← hAe]; exact Or.inr h
  have hS : va_S A s.heap s.heap [] := va_S.rf
  have hP : va_P (dC, dI) vwCl [(h0, .inr (10, [.int fl, .int pl, .ref hCd, w3, .int i4, .int i5, w6, .ref hQ, .int (nI x1), .int (nI z1), w10, .int i11])), (hQ, .inr (11, [.ref hKi, .ref hPl, .ref hNu, y3, .int j4, .int j5, y6])), (hKi, .inl (cI, 2001, .inl kf)), (hPl, .inl (cI, 2001, .inl pf)), (hNu, .inl (cJ, 2001, .inr (.inl vf))), (hCd, .inr (2, [.int (nI s1), .ref hA1, .ref hA2, .ref hA3, .ref hA4, .ref hA5, .ref hA6, .ref hA7, g8, g9, g10, g11, .int tq]))] s.heap := hP
  have hl := lv_entry ([.ref h0]) (n := 5) (Nat.le_of_ble_eq_true rfl)
  rw [lg_entry_eq]
  generalize (lg_sl ([.ref h0]) ++ List.replicate (5 - (lg_sl ([.ref h0])).length) Slot.unset).toArray = ls at hl ⊢
  have hl : lv_has ls 5 [(0, .ref h0)] := hl
  refine lv_aload_n hx hb dX9_readExpr_0 rfl (lv_at hl 0 rfl) ?_
  refine va_get (D := (dC, dI)) (ci := 10) (v := .ref hCd) (C := RX9) (T := TX9) (N := 12) hx hb hts (fun w h => List.mem_cons_of_mem _ (uG_X9 w h)) hown hK hP 0 rfl rfl 2 (by decide) (hts _ (List.mem_cons_of_mem _ kw_860)) (fun _ h9 => h9) rfl dX9_readExpr_1 ?_
  refine va_get (D := (dC, dI)) (ci := 2) (v := .int (nI s1)) (C := RX1) (T := TX1) (N := 13) hx hb hts (fun w h => List.mem_cons_of_mem _ (uG_X1 w h)) hown hK hP 5 rfl rfl 0 (by decide) (hts _ (List.mem_cons_of_mem _ kw_373)) (fun _ h9 => h9) rfl dX9_readExpr_4 ?_
  refine lv_istore_n (lv' := [(1, .int (nI s1)), (0, .ref h0)]) hx hb dX9_readExpr_7 rfl hl (by decide) rfl (fun ls hl => ?_)
  refine lv_aload_n hx hb dX9_readExpr_8 rfl (lv_at hl 1 rfl) ?_
  have hPc := hP.sub (ws' := [(h0, .inr (10, [.int fl, .int pl, .ref hCd, w3, .int i4, .int i5, w6, .ref hQ, .int (nI x1), .int (nI z1), w10, .int i11])), (hQ, .inr (11, [.ref hKi, .ref hPl, .ref hNu, y3, .int j4, .int j5, y6])), (hKi, .inl (cI, 2001, .inl kf)), (hPl, .inl (cI, 2001, .inl pf)), (hNu, .inl (cJ, 2001, .inr (.inl vf)))]) [0, 1, 2, 3, 4] rfl
  have hDc := hD.sub (ws' := [(h0, .inr (10, [.int fl, .int pl, .ref hCd, w3, .int i4, .int i5, w6, .ref hQ, .int (nI x1), .int (nI z1), w10, .int i11])), (hQ, .inr (11, [.ref hKi, .ref hPl, .ref hNu, y3, .int j4, .int j5, y6])), (hKi, .inl (cI, 2001, .inl kf)), (hPl, .inl (cI, 2001, .inl pf)), (hNu, .inl (cJ, 2001, .inr (.inl vf)))]) [0, 1, 2, 3, 4] (by decide) rfl
  have hKc := hK.sub (tys' := [(cB, .byte), (cI, .int), (cJ, .long), (cZ, .boolean)]) [0, 1, 2, 3] rfl
  have hFc := va_free (wc := [(h0, .inr (10, [.int fl, .int pl, .ref hCd, w3, .int i4, .int i5, w6, .ref hQ, .int (nI x1), .int (nI z1), w10, .int i11])), (hQ, .inr (11, [.ref hKi, .ref hPl, .ref hNu, y3, .int j4, .int j5, y6])), (hKi, .inl (cI, 2001, .inl kf)), (hPl, .inl (cI, 2001, .inl pf)), (hNu, .inl (cJ, 2001, .inr (.inl vf)))]) hD hS hA [0, 1, 2, 3, 4] rfl
  refine va_calli (va_runV (As := []) (rest := []) ⟨hx, hb, hml, hown, hts⟩ (t_X9_here l dC dI s.heap.size cB cI cJ cZ h0 hQ hKi hPl hNu kf pf vf fl pl (.ref hCd) w3 i4 i5 w6 x1 z1 w10 i11 y3 j4 j5 y6  hx1) (cwV 0 hts (gd_all (in_V kw_923 kw_925 kw_16 kw_193 kc_X9_here)) rfl rfl rfl (by decide +kernel) ⟨Nat.le_of_ble_eq_true rfl, Nat.le_of_ble_eq_true rfl⟩) ⟨fun a U g mk q => by obtain ⟨q0, q1, qP, qK, qD⟩ := q; exact ⟨q0, q1, qP, va_K.moved (u := U) (U := U.calling g mk a) (Vm.Alike.refl U.vm) qK, qD⟩, va_recv hKc hPc (ci := 10) (q0 := 0) rfl rfl, fun U hU hW => ⟨rfl, by rw [hU], by rw [hU]; exact hPc, va_K.moved hW.alike hKc, hDc.weaken (fun _ _ _ _ => trivial)⟩⟩ rfl rfl hl.1 rfl (lv_room (Nat.le_of_ble_eq_true rfl)) dX9_readExpr_9 ⟨Nat.le_of_ble_eq_true rfl, Nat.le_of_ble_eq_true rfl⟩) hS (fun q _ h => hFc q h) hFc (fun r_1 u t_ H1 locs ht hvm hw hB hz1 hk1 hS => ?_)
  obtain ⟨hP1, hK1, hD1⟩ := hB
  rw [ht] at hP1
  have hK1 := va_K.moved hvm.symm hK1
  obtain ⟨hP, hD⟩ := va_join (wr := [(hCd, .inr (2, [.int (nI s1), .ref hA1, .ref hA2, .ref hA3, .ref hA4, .ref hA5, .ref hA6, .ref hA7, g8, g9, g10, g11, .int tq]))]) (w1 := [(h0, .inr (10, [.int fl, .int pl, .ref hCd, w3, .int i4, .int i5, w6, .ref hQ, .int (nI x1), .int (nI z1), w10, .int i11])), (hQ, .inr (11, [.ref hKi, .ref hPl, .ref hNu, y3, .int j4, .int j5, y6])), (hKi, .inl (cI, 2001, .inl kf)), (hPl, .inl (cI, 2001, .inl pf)), (hNu, .inl (cJ, 2001, .inr (.inl vf)))]) hP hD [0, 1, 2, 3, 4] [5] rfl rfl (by decide) (by decide) hk1 hFc hP1 hD1
  have hK := (hK.sub (tys' := []) [] rfl).app hK1
  generalize H1 = H at hP hS ⊢
  have hP : va_P (dC, dI) vwCl [(hCd, .inr (2, [.int (nI s1), .ref hA1, .ref hA2, .ref hA3, .ref hA4, .ref hA5, .ref hA6, .ref hA7, g8, g9, g10, g11, .int tq])), (h0, .inr (10, [.int fl, .int pl, .ref hCd, w3, .int i4, .int i5, w6, .ref hQ, .int (nI x1), .int (nI z1), w10, .int i11])), (hQ, .inr (11, [.ref hKi, .ref hPl, .ref hNu, y3, .int j4, .int j5, y6])), (hKi, .inl (cI, 2001, .inl kf)), (hPl, .inl (cI, 2001, .inl pf)), (hNu, .inl (cJ, 2001, .inr (.inl vf)))] H := hP
  have hD : va_D A [(hCd, .inr (2, [.int (nI s1), .ref hA1, .ref hA2, .ref hA3, .ref hA4, .ref hA5, .ref hA6, .ref hA7, g8, g9, g10, g11, .int tq])), (h0, .inr (10, [.int fl, .int pl, .ref hCd, w3, .int i4, .int i5, w6, .ref hQ, .int (nI x1), .int (nI z1), w10, .int i11])), (hQ, .inr (11, [.ref hKi, .ref hPl, .ref hNu, y3, .int j4, .int j5, y6])), (hKi, .inl (cI, 2001, .inl kf)), (hPl, .inl (cI, 2001, .inl pf)), (hNu, .inl (cJ, 2001, .inr (.inl vf)))] := hD
  have hK : va_K (dC, dI) vwCl [(cB, .byte), (cI, .int), (cJ, .long), (cZ, .boolean)] s := hK
  have er_1 : r_1 = pf x1 := hw
  rw [er_1]
  refine lv_istore_n (lv' := [(2, .int (pf x1)), (1, .int (nI s1)), (0, .ref h0)]) hx hb dX9_readExpr_12 rfl hl (by decide) rfl (fun ls hl => ?_)
  refine lv_aload_n hx hb dX9_readExpr_13 rfl (lv_at hl 2 rfl) ?_
  have hPc := hP.sub (ws' := [(h0, .inr (10, [.int fl, .int pl, .ref hCd, w3, .int i4, .int i5, w6, .ref hQ, .int (nI x1), .int (nI z1), w10, .int i11])), (hQ, .inr (11, [.ref hKi, .ref hPl, .ref hNu, y3, .int j4, .int j5, y6])), (hKi, .inl (cI, 2001, .inl kf)), (hPl, .inl (cI, 2001, .inl pf)), (hNu, .inl (cJ, 2001, .inr (.inl vf))), (hCd, .inr (2, [.int (nI s1), .ref hA1, .ref hA2, .ref hA3, .ref hA4, .ref hA5, .ref hA6, .ref hA7, g8, g9, g10, g11, .int tq]))]) [1, 2, 3, 4, 5, 0] rfl
  have hDc := hD.sub (ws' := [(h0, .inr (10, [.int fl, .int pl, .ref hCd, w3, .int i4, .int i5, w6, .ref hQ, .int (nI x1), .int (nI z1), w10, .int i11])), (hQ, .inr (11, [.ref hKi, .ref hPl, .ref hNu, y3, .int j4, .int j5, y6])), (hKi, .inl (cI, 2001, .inl kf)), (hPl, .inl (cI, 2001, .inl pf)), (hNu, .inl (cJ, 2001, .inr (.inl vf))), (hCd, .inr (2, [.int (nI s1), .ref hA1, .ref hA2, .ref hA3, .ref hA4, .ref hA5, .ref hA6, .ref hA7, g8, g9, g10, g11, .int tq]))]) [1, 2, 3, 4, 5, 0] (by decide) rfl
  have hKc := hK.sub (tys' := [(cB, .byte), (cI, .int), (cJ, .long), (cZ, .boolean)]) [0, 1, 2, 3] rfl
  have hFc := va_free (wc := [(h0, .inr (10, [.int fl, .int pl, .ref hCd, w3, .int i4, .int i5, w6, .ref hQ, .int (nI x1), .int (nI z1), w10, .int i11])), (hQ, .inr (11, [.ref hKi, .ref hPl, .ref hNu, y3, .int j4, .int j5, y6])), (hKi, .inl (cI, 2001, .inl kf)), (hPl, .inl (cI, 2001, .inl pf)), (hNu, .inl (cJ, 2001, .inr (.inl vf))), (hCd, .inr (2, [.int (nI s1), .ref hA1, .ref hA2, .ref hA3, .ref hA4, .ref hA5, .ref hA6, .ref hA7, g8, g9, g10, g11, .int tq]))]) hD hS hA [1, 2, 3, 4, 5, 0] rfl
  refine va_callv (va_runV (As := []) (rest := []) ⟨hx, hb, hml, hown, hts⟩ (t_X9_readConjunction_f l dC dI H.size cB cI cJ cZ h0 hQ hKi hPl hNu kf pf vf fl pl w3 i4 i5 w6 x1 z1 w10 i11 y3 j4 j5 y6 hCd hA1 hA2 hA3 hA4 hA5 hA6 hA7 s1 g8 g9 g10 g11 tq   hx1 hfl) (cwV 0 hts (gd_all (in_V kw_951 kw_953 kw_21 kw_193 kc_X9_readConjunction)) rfl rfl rfl (by decide +kernel) ⟨Nat.le_of_ble_eq_true rfl, Nat.le_of_ble_eq_true rfl⟩) ⟨fun a U g mk q => by obtain ⟨q0, q1, qP, qK, qD⟩ := q; exact ⟨q0, q1, qP, va_K.moved (u := U) (U := U.calling g mk a) (Vm.Alike.refl U.vm) qK, qD⟩, va_recv hKc hPc (ci := 10) (q0 := 0) rfl rfl, fun U hU hW => ⟨rfl, by rw [hU], by rw [hU]; exact hPc, va_K.moved hW.alike hKc, hDc.weaken (fun _ _ _ _ => trivial)⟩⟩ rfl rfl hl.1 rfl (lv_room (Nat.le_of_ble_eq_true rfl)) dX9_readExpr_14 ⟨Nat.le_of_ble_eq_true rfl, Nat.le_of_ble_eq_true rfl⟩) hS (fun q _ h => hFc q h) hFc (fun u t_ H1 locs ht hvm hw hB hz1 hk1 hS => ?_)
  obtain ⟨hP1, hK1, hD1⟩ := hB
  rw [ht] at hP1
  have hK1 := va_K.moved hvm.symm hK1
  obtain ⟨hP, hD⟩ := va_join (wr := []) (w1 := [(h0, .inr (10, [.int fl, .int pl, .ref hCd, w3, .int i4, .int i5, w6, .ref hQ, .int (nI x1), .int (nI z1), w10, .int i11])), (hQ, .inr (11, [.ref hKi, .ref hPl, .ref hNu, y3, .int j4, .int j5, y6])), (hKi, .inl (cI, 2001, .inl kf)), (hPl, .inl (cI, 2001, .inl pf)), (hNu, .inl (cJ, 2001, .inr (.inl vf))), (hCd, .inr (2, [.int (nI s1), .ref hA1, .ref hA2, .ref hA3, .ref hA4, .ref hA5, .ref hA6, .ref hA7, g8, g9, g10, g11, .int tq]))]) hP hD [1, 2, 3, 4, 5, 0] [] rfl rfl (by decide) (by decide) hk1 hFc hP1 hD1
  have hK := (hK.sub (tys' := []) [] rfl).app hK1
  generalize H1 = H at hP hS ⊢
  have hP : va_P (dC, dI) vwCl [(h0, .inr (10, [.int fl, .int pl, .ref hCd, w3, .int i4, .int i5, w6, .ref hQ, .int (nI x1), .int (nI z1), w10, .int i11])), (hQ, .inr (11, [.ref hKi, .ref hPl, .ref hNu, y3, .int j4, .int j5, y6])), (hKi, .inl (cI, 2001, .inl kf)), (hPl, .inl (cI, 2001, .inl pf)), (hNu, .inl (cJ, 2001, .inr (.inl vf))), (hCd, .inr (2, [.int (nI s1), .ref hA1, .ref hA2, .ref hA3, .ref hA4, .ref hA5, .ref hA6, .ref hA7, g8, g9, g10, g11, .int tq]))] H := hP
  have hD : va_D A [(h0, .inr (10, [.int fl, .int pl, .ref hCd, w3, .int i4, .int i5, w6, .ref hQ, .int (nI x1), .int (nI z1), w10, .int i11])), (hQ, .inr (11, [.ref hKi, .ref hPl, .ref hNu, y3, .int j4, .int j5, y6])), (hKi, .inl (cI, 2001, .inl kf)), (hPl, .inl (cI, 2001, .inl pf)), (hNu, .inl (cJ, 2001, .inr (.inl vf))), (hCd, .inr (2, [.int (nI s1), .ref hA1, .ref hA2, .ref hA3, .ref hA4, .ref hA5, .ref hA6, .ref hA7, g8, g9, g10, g11, .int tq]))] := hD
  have hK : va_K (dC, dI) vwCl [(cB, .byte), (cI, .int), (cJ, .long), (cZ, .boolean)] s := hK
  refine lv_iconst (v := 0) hx hb dX9_readExpr_17 (by decide) ?_
  refine lv_istore_n (lv' := [(3, .int 0), (2, .int (pf x1)), (1, .int (nI s1)), (0, .ref h0)]) hx hb dX9_readExpr_18 rfl hl (by decide) rfl (fun ls hl => ?_)
  refine lv_iload_n hx hb dX9_readExpr_19 rfl (lv_at hl 0 rfl) ?_
  refine lv_sipush (v := 2000) hx hb dX9_readExpr_20 (by decide) ?_
  refine lv_icmp_ge (tgt := 73) hx hb dX9_readExpr_23 (by decide) (fun c_3 => ?_) (fun c_3 => ?_)
  · skip
    exact absurd c_3 (by decide)
  · skip
    refine lv_aload_n hx hb dX9_readExpr_26 rfl (lv_at hl 3 rfl) ?_
    have hPc := hP.sub (ws' := [(h0, .inr (10, [.int fl, .int pl, .ref hCd, w3, .int i4, .int i5, w6, .ref hQ, .int (nI x1), .int (nI z1), w10, .int i11])), (hQ, .inr (11, [.ref hKi, .ref hPl, .ref hNu, y3, .int j4, .int j5, y6])), (hKi, .inl (cI, 2001, .inl kf)), (hPl, .inl (cI, 2001, .inl pf)), (hNu, .inl (cJ, 2001, .inr (.inl vf)))]) [0, 1, 2, 3, 4] rfl
    have hDc := hD.sub (ws' := [(h0, .inr (10, [.int fl, .int pl, .ref hCd, w3, .int i4, .int i5, w6, .ref hQ, .int (nI x1), .int (nI z1), w10, .int i11])), (hQ, .inr (11, [.ref hKi, .ref hPl, .ref hNu, y3, .int j4, .int j5, y6])), (hKi, .inl (cI, 2001, .inl kf)), (hPl, .inl (cI, 2001, .inl pf)), (hNu, .inl (cJ, 2001, .inr (.inl vf)))]) [0, 1, 2, 3, 4] (by decide) rfl
    have hKc := hK.sub (tys' := [(cB, .byte), (cI, .int), (cJ, .long), (cZ, .boolean)]) [0, 1, 2, 3] rfl
    have hFc := va_free (wc := [(h0, .inr (10, [.int fl, .int pl, .ref hCd, w3, .int i4, .int i5, w6, .ref hQ, .int (nI x1), .int (nI z1), w10, .int i11])), (hQ, .inr (11, [.ref hKi, .ref hPl, .ref hNu, y3, .int j4, .int j5, y6])), (hKi, .inl (cI, 2001, .inl kf)), (hPl, .inl (cI, 2001, .inl pf)), (hNu, .inl (cJ, 2001, .inr (.inl vf)))]) hD hS hA [0, 1, 2, 3, 4] rfl
    refine va_calli (va_runV (As := []) (rest := []) ⟨hx, hb, hml, hown, hts⟩ (t_X9_kind l dC dI H.size cB cI cJ cZ h0 hQ hKi hPl hNu kf pf vf fl pl (.ref hCd) w3 i4 i5 w6 x1 z1 w10 i11 y3 j4 j5 y6  hx1) (cwV 0 hts (gd_all (in_V kw_907 kw_909 kw_12 kw_193 kc_X9_kind)) rfl rfl rfl (by decide +kernel) ⟨Nat.le_of_ble_eq_true rfl, Nat.le_of_ble_eq_true rfl⟩) ⟨fun a U g mk q => by obtain ⟨q0, q1, qP, qK, qD⟩ := q; exact ⟨q0, q1, qP, va_K.moved (u := U) (U := U.calling g mk a) (Vm.Alike.refl U.vm) qK, qD⟩, va_recv hKc hPc (ci := 10) (q0 := 0) rfl rfl, fun U hU hW => ⟨rfl, by rw [hU], by rw [hU]; exact hPc, va_K.moved hW.alike hKc, hDc.weaken (fun _ _ _ _ => trivial)⟩⟩ rfl rfl hl.1 rfl (lv_room (Nat.le_of_ble_eq_true rfl)) dX9_readExpr_27 ⟨Nat.le_of_ble_eq_true rfl, Nat.le_of_ble_eq_true rfl⟩) hS (fun q _ h => hFc q h) hFc (fun r_4 u t_ H1 locs ht hvm hw hB hz1 hk1 hS => ?_)
    obtain ⟨hP1, hK1, hD1⟩ := hB
    rw [ht] at hP1
    have hK1 := va_K.moved hvm.symm hK1
    obtain ⟨hP, hD⟩ := va_join (wr := [(hCd, .inr (2, [.int (nI s1), .ref hA1, .ref hA2, .ref hA3, .ref hA4, .ref hA5, .ref hA6, .ref hA7, g8, g9, g10, g11, .int tq]))]) (w1 := [(h0, .inr (10, [.int fl, .int pl, .ref hCd, w3, .int i4, .int i5, w6, .ref hQ, .int (nI x1), .int (nI z1), w10, .int i11])), (hQ, .inr (11, [.ref hKi, .ref hPl, .ref hNu, y3, .int j4, .int j5, y6])), (hKi, .inl (cI, 2001, .inl kf)), (hPl, .inl (cI, 2001, .inl pf)), (hNu, .inl (cJ, 2001, .inr (.inl vf)))]) hP hD [0, 1, 2, 3, 4] [5] rfl rfl (by decide) (by decide) hk1 hFc hP1 hD1
    have hK := (hK.sub (tys' := []) [] rfl).app hK1
    generalize H1 = H at hP hS ⊢
    have hP : va_P (dC, dI) vwCl [(hCd, .inr (2, [.int (nI s1), .ref hA1, .ref hA2, .ref hA3, .ref hA4, .ref hA5, .ref hA6, .ref hA7, g8, g9, g10, g11, .int tq])), (h0, .inr (10, [.int fl, .int pl, .ref hCd, w3, .int i4, .int i5, w6, .ref hQ, .int (nI x1), .int (nI z1), w10, .int i11])), (hQ, .inr (11, [.ref hKi, .ref hPl, .ref hNu, y3, .int j4, .int j5, y6])), (hKi, .inl (cI, 2001, .inl kf)), (hPl, .inl (cI, 2001, .inl pf)), (hNu, .inl (cJ, 2001, .inr (.inl vf)))] H := hP
    have hD : va_D A [(hCd, .inr (2, [.int (nI s1), .ref hA1, .ref hA2, .ref hA3, .ref hA4, .ref hA5, .ref hA6, .ref hA7, g8, g9, g10, g11, .int tq])), (h0, .inr (10, [.int fl, .int pl, .ref hCd, w3, .int i4, .int i5, w6, .ref hQ, .int (nI x1), .int (nI z1), w10, .int i11])), (hQ, .inr (11, [.ref hKi, .ref hPl, .ref hNu, y3, .int j4, .int j5, y6])), (hKi, .inl (cI, 2001, .inl kf)), (hPl, .inl (cI, 2001, .inl pf)), (hNu, .inl (cJ, 2001, .inr (.inl vf)))] := hD
    have hK : va_K (dC, dI) vwCl [(cB, .byte), (cI, .int), (cJ, .long), (cZ, .boolean)] s := hK
    have er_4 : r_4 = 57 := hw.trans (if_neg hfl)
    rw [er_4]
    refine lv_bipush (v := 29) hx hb dX9_readExpr_30 (by decide) ?_
    refine lv_icmp_ne (tgt := 73) hx hb dX9_readExpr_32 (by decide) (fun c_5 => ?_) (fun c_5 => ?_)
    · skip
      refine lv_aload_n hx hb dX9_readExpr_73 rfl (lv_at hl 3 rfl) ?_
      refine va_get (D := (dC, dI)) (ci := 10) (v := .ref hCd) (C := RX9) (T := TX9) (N := 12) hx hb hts (fun w h => List.mem_cons_of_mem _ (uG_X9 w h)) hown hK hP 1 rfl rfl 2 (by decide) (hts _ (List.mem_cons_of_mem _ kw_860)) (fun _ h9 => h9) rfl dX9_readExpr_74 ?_
      refine va_get (D := (dC, dI)) (ci := 2) (v := .int (nI s1)) (C := RX1) (T := TX1) (N := 13) hx hb hts (fun w h => List.mem_cons_of_mem _ (uG_X1 w h)) hown hK hP 0 rfl rfl 0 (by decide) (hts _ (List.mem_cons_of_mem _ kw_373)) (fun _ h9 => h9) rfl dX9_readExpr_77 ?_
      refine lv_iconst (v := 1) hx hb dX9_readExpr_80 (by decide) ?_
      refine lv_isub hx hb dX9_readExpr_81 ?_
      have hP9 := hP.sub (ws' := [(h0, .inr (10, [.int fl, .int pl, .ref hCd, w3, .int i4, .int i5, w6, .ref hQ, .int (nI x1), .int (nI z1), w10, .int i11])), (hQ, .inr (11, [.ref hKi, .ref hPl, .ref hNu, y3, .int j4, .int j5, y6])), (hKi, .inl (cI, 2001, .inl kf)), (hPl, .inl (cI, 2001, .inl pf)), (hNu, .inl (cJ, 2001, .inr (.inl vf))), (hCd, .inr (2, [.int (nI s1), .ref hA1, .ref hA2, .ref hA3, .ref hA4, .ref hA5, .ref hA6, .ref hA7, g8, g9, g10, g11, .int tq]))]) [1, 2, 3, 4, 5, 0] rfl
      have hD9 := hD.sub (ws' := [(h0, .inr (10, [.int fl, .int pl, .ref hCd, w3, .int i4, .int i5, w6, .ref hQ, .int (nI x1), .int (nI z1), w10, .int i11])), (hQ, .inr (11, [.ref hKi, .ref hPl, .ref hNu, y3, .int j4, .int j5, y6])), (hKi, .inl (cI, 2001, .inl kf)), (hPl, .inl (cI, 2001, .inl pf)), (hNu, .inl (cJ, 2001, .inr (.inl vf))), (hCd, .inr (2, [.int (nI s1), .ref hA1, .ref hA2, .ref hA3, .ref hA4, .ref hA5, .ref hA6, .ref hA7, g8, g9, g10, g11, .int tq]))]) [1, 2, 3, 4, 5, 0] (by decide) rfl
      have hK9 := hK.sub (tys' := [(cB, .byte), (cI, .int), (cJ, .long), (cZ, .boolean)]) [0, 1, 2, 3] rfl
      exact W.iret (v := ((nI s1) - 1)) hx hb hr (fun t_ ht hW => ⟨⟨((nI s1) - 1), (), rfl, rfl, by rw [ht]; exact hP9, va_K.moved hW.alike hK9, hD9⟩, hS.F ht⟩) hS.2.2 dX9_readExpr_82
    · skip
      exact absurd c_5 (by decide)
theorem dX9_beginsExpr_0 : decode cX9_beginsExpr 0 = .ok (.iload_n 1, 1) := by decide +kernel
theorem dX9_beginsExpr_1 : decode cX9_beginsExpr 1 = .ok (.tableswitch 136 19 46 #[127, 136, 136, 136, 136, 136, 129, 127, 136, 136, 136, 127, 127, 131, 131, 131, 131, 127, 136, 127, 127, 127, 127, 136, 136, 136, 136, 127], 127) := by decide +kernel
theorem dX9_beginsExpr_128 : decode cX9_beginsExpr 128 = .ok (.iconst 1, 1) := by decide +kernel
theorem dX9_beginsExpr_129 : decode cX9_beginsExpr 129 = .ok (.ireturn, 1) := by decide +kernel
theorem dX9_beginsExpr_130 : decode cX9_beginsExpr 130 = .ok (.iload_n 2, 1) := by decide +kernel
theorem dX9_beginsExpr_131 : decode cX9_beginsExpr 131 = .ok (.ireturn, 1) := by decide +kernel
theorem dX9_beginsExpr_132 : decode cX9_beginsExpr 132 = .ok (.aload_n 0, 1) := by decide +kernel
theorem dX9_beginsExpr_133 : decode cX9_beginsExpr 133 = .ok (.getfield 163, 3) := by decide +kernel
theorem dX9_beginsExpr_136 : decode cX9_beginsExpr 136 = .ok (.ireturn, 1) := by decide +kernel
theorem dX9_beginsExpr_137 : decode cX9_beginsExpr 137 = .ok (.iconst 0, 1) := by decide +kernel
theorem dX9_beginsExpr_138 : decode cX9_beginsExpr 138 = .ok (.ireturn, 1) := by decide +kernel
abbrev cs_t_X9_beginsExpr_57 (cB cI cJ cZ : ClassId) (h0 : Nat) (v1 : List Value) (x : Int32) : va_W := [(h0, .inr (10, v1))]
abbrev pc_t_X9_beginsExpr_57 (dC : Nat → ClassId) (dI : Nat → Nat → Nat) (sz : Nat) (cB cI cJ cZ : ClassId) (h0 : Nat) (v1 : List Value) (x : Int32) : Array Value → State → Prop := va_Pc [.ref h0, .int 57, .int x] (fun U => U.heap.size = sz ∧ va_P (dC, dI) vwCl [(h0, .inr (10, v1))] U.heap ∧ va_K (dC, dI) vwCl [(cB, .byte), (cI, .int), (cJ, .long), (cZ, .boolean)] U ∧ va_D (fun _ => True) [(h0, .inr (10, v1))])
abbrev qc_t_X9_beginsExpr_57 (dC : Nat → ClassId) (dI : Nat → Nat → Nat) (cB cI cJ cZ : ClassId) (h0 : Nat) (v1 : List Value) (x : Int32) (A : Nat → Prop) : Array Value → State → Outcome → State → Prop := va_Qi (fun (r : Int32) (u : Unit) => match u with | _ => r = 0) (fun (u : Unit) t_ => match u with | _ => va_P (dC, dI) vwCl [(h0, .inr (10, v1))] t_.heap ∧ va_K (dC, dI) vwCl [(cB, .byte), (cI, .int), (cJ, .long), (cZ, .boolean)] t_ ∧ va_D A [(h0, .inr (10, v1))]) A
set_option maxHeartbeats 4000000 in
set_option maxRecDepth 100000 in
theorem t_X9_beginsExpr_57 (l : Launch) (dC : Nat → ClassId) (dI : Nat → Nat → Nat) (sz : Nat) (cB cI cJ cZ : ClassId) (h0 : Nat) (v1 : List Value) (x : Int32)  : Met l yX9_beginsExpr (wsOf yX9_beginsExpr cX9_beginsExpr 3 (some .boolean)) ({ frames := 0, cells := 0, slots := 0, locals := 0 }) (pc_t_X9_beginsExpr_57 dC dI sz cB cI cJ cZ h0 v1 x) (qc_t_X9_beginsExpr_57 dC dI cB cI cJ cZ h0 v1 x (va_A (cs_t_X9_beginsExpr_57 cB cI cJ cZ h0 v1 x) sz)) 0 0 (va_A (cs_t_X9_beginsExpr_57 cB cI cJ cZ h0 v1 x) sz) := by
  refine Met.ofW (cc := cX9_beginsExpr) (maxL := 3) (ret := (some .boolean)) (by decide) rfl ?_
  intro p e s m args below meth c s₁ B hml hv
  obtain ⟨rfl, hsz, hP, hK, hD0⟩ := hv
  have hx := B.exec
  have hb := B.bytes
  have hr := B.returns
  have hts := atoms_spec (ws := (wsOf yX9_beginsExpr cX9_beginsExpr 3 (some .boolean))) B.pre
  have hown : s.vm.findClass RX9 = some m.cls := findClass_of_methodNamed B.named
  have hlocks := B.notSynchronized
  subst hsz
  have hD := hD0.self (sz := s.heap.size)
  generalize hAe : va_A (cs_t_X9_beginsExpr_57 cB cI cJ cZ h0 v1 x) s.heap.size = A at hD ⊢
  have hA : ∀ q : Nat, s.heap.size ≤ q → A q := fun q h => by rw [← hAe]; exact Or.inr h
  have hS : va_S A s.heap s.heap [] := va_S.rf
  have hP : va_P (dC, dI) vwCl [(h0, .inr (10, v1))] s.heap := hP
  have hl := lv_entry ([.ref h0, .int 57, .int x]) (n := 3) (Nat.le_of_ble_eq_true rfl)
  rw [lg_entry_eq]
  generalize (lg_sl ([.ref h0, .int 57, .int x]) ++ List.replicate (3 - (lg_sl ([.ref h0, .int 57, .int x])).length) Slot.unset).toArray = ls at hl ⊢
  have hl : lv_has ls 3 [(0, .ref h0), (1, .int 57), (2, .int x)] := hl
  refine lv_iload_n hx hb dX9_beginsExpr_0 rfl (lv_at hl 1 rfl) ?_
  refine lv_tableOut (tgt := 137) hx hb dX9_beginsExpr_1 (by decide) (by decide) ?_
  refine lv_iconst (v := 0) hx hb dX9_beginsExpr_137 (by decide) ?_
  have hP9 := hP.sub (ws' := [(h0, .inr (10, v1))]) [0] rfl
  have hD9 := hD.sub (ws' := [(h0, .inr (10, v1))]) [0] (by decide) rfl
  have hK9 := hK.sub (tys' := [(cB, .byte), (cI, .int), (cJ, .long), (cZ, .boolean)]) [0, 1, 2, 3] rfl
  exact W.zret (v := 0) hx hb hr (by rfl) (fun t_ ht hW => ⟨⟨0, (), rfl, rfl, by rw [ht]; exact hP9, va_K.moved hW.alike hK9, hD9⟩, hS.F ht⟩) hS.2.2 dX9_beginsExpr_138
theorem dX9_refuseNinth_0 : decode cX9_refuseNinth 0 = .ok (.iload_n 1, 1) := by decide +kernel
theorem dX9_refuseNinth_1 : decode cX9_refuseNinth 1 = .ok (.ifCond .eq 29, 3) := by decide +kernel
theorem dX9_refuseNinth_4 : decode cX9_refuseNinth 4 = .ok (.aload_n 0, 1) := by decide +kernel
theorem dX9_refuseNinth_5 : decode cX9_refuseNinth 5 = .ok (.aload_n 0, 1) := by decide +kernel
theorem dX9_refuseNinth_6 : decode cX9_refuseNinth 6 = .ok (.aload_n 0, 1) := by decide +kernel
theorem dX9_refuseNinth_7 : decode cX9_refuseNinth 7 = .ok (.invokevirtual 114, 3) := by decide +kernel
theorem dX9_refuseNinth_10 : decode cX9_refuseNinth 10 = .ok (.iload_n 2, 1) := by decide +kernel
theorem dX9_refuseNinth_11 : decode cX9_refuseNinth 11 = .ok (.invokevirtual 194, 3) := by decide +kernel
theorem dX9_refuseNinth_14 : decode cX9_refuseNinth 14 = .ok (.ifCond .eq 8, 3) := by decide +kernel
theorem dX9_refuseNinth_17 : decode cX9_refuseNinth 17 = .ok (.bipush 7, 2) := by decide +kernel
theorem dX9_refuseNinth_19 : decode cX9_refuseNinth 19 = .ok (.goto 4, 3) := by decide +kernel
theorem dX9_refuseNinth_22 : decode cX9_refuseNinth 22 = .ok (.iconst 1, 1) := by decide +kernel
theorem dX9_refuseNinth_23 : decode cX9_refuseNinth 23 = .ok (.aload_n 0, 1) := by decide +kernel
theorem dX9_refuseNinth_24 : decode cX9_refuseNinth 24 = .ok (.invokevirtual 118, 3) := by decide +kernel
theorem dX9_refuseNinth_27 : decode cX9_refuseNinth 27 = .ok (.invokevirtual 121, 3) := by decide +kernel
theorem dX9_refuseNinth_30 : decode cX9_refuseNinth 30 = .ok (.return_, 1) := by decide +kernel
abbrev cs_t_X9_refuseNinth_f (cB cI cJ cZ : ClassId) (h0 hQ hKi hPl hNu : Nat) (kf pf : Nat → Int32) (vf : Nat → Int64) (fl pl : Int32) (w3 : Value) (i4 i5 : Int32) (w6 : Value) (x1 z1 : Nat) (w10 : Value) (i11 : Int32) (y3 : Value) (j4 j5 : Int32) (y6 : Value) (hCd hA1 hA2 hA3 hA4 hA5 hA6 hA7 s1 : Nat) (g8 g9 g10 g11 : Value) (tq : Int32) (x y2 x2 : Int32) : va_W := [(h0, .inr (10, [.int fl, .int pl, .ref hCd, w3, .int i4, .int i5, w6, .ref hQ, .int (nI x1), .int (nI z1), w10, .int i11])), (hQ, .inr (11, [.ref hKi, .ref hPl, .ref hNu, y3, .int j4, .int j5, y6])), (hKi, .inl (cI, 2001, .inl kf)), (hPl, .inl (cI, 2001, .inl pf)), (hNu, .inl (cJ, 2001, .inr (.inl vf))), (hCd, .inr (2, [.int (nI s1), .ref hA1, .ref hA2, .ref hA3, .ref hA4, .ref hA5, .ref hA6, .ref hA7, g8, g9, g10, g11, .int tq]))]
abbrev pc_t_X9_refuseNinth_f (dC : Nat → ClassId) (dI : Nat → Nat → Nat) (sz : Nat) (cB cI cJ cZ : ClassId) (h0 hQ hKi hPl hNu : Nat) (kf pf : Nat → Int32) (vf : Nat → Int64) (fl pl : Int32) (w3 : Value) (i4 i5 : Int32) (w6 : Value) (x1 z1 : Nat) (w10 : Value) (i11 : Int32) (y3 : Value) (j4 j5 : Int32) (y6 : Value) (hCd hA1 hA2 hA3 hA4 hA5 hA6 hA7 s1 : Nat) (g8 g9 g10 g11 : Value) (tq : Int32) (x y2 x2 : Int32) : Array Value → State → Prop := va_Pc [.ref h0, .int x, .int x2] (fun U => U.heap.size = sz ∧ va_P (dC, dI) vwCl [(h0, .inr (10, [.int fl, .int pl, .ref hCd, w3, .int i4, .int i5, w6, .ref hQ, .int (nI x1), .int (nI z1), w10, .int i11])), (hQ, .inr (11, [.ref hKi, .ref hPl, .ref hNu, y3, .int j4, .int j5, y6])), (hKi, .inl (cI, 2001, .inl kf)), (hPl, .inl (cI, 2001, .inl pf)), (hNu, .inl (cJ, 2001, .inr (.inl vf))), (hCd, .inr (2, [.int (nI s1), .ref hA1, .ref hA2, .ref hA3, .ref hA4, .ref hA5, .ref hA6, .ref hA7, g8, g9, g10, g11, .int tq]))] U.heap ∧ va_K (dC, dI) vwCl [(cB, .byte), (cI, .int), (cJ, .long), (cZ, .boolean)] U ∧ va_D (fun _ => True) [(h0, .inr (10, [.int fl, .int pl, .ref hCd, w3, .int i4, .int i5, w6, .ref hQ, .int (nI x1), .int (nI z1), w10, .int i11])), (hQ, .inr (11, [.ref hKi, .ref hPl, .ref hNu, y3, .int j4, .int j5, y6])), (hKi, .inl (cI, 2001, .inl kf)), (hPl, .inl (cI, 2001, .inl pf)), (hNu, .inl (cJ, 2001, .inr (.inl vf))), (hCd, .inr (2, [.int (nI s1), .ref hA1, .ref hA2, .ref hA3, .ref hA4, .ref hA5, .ref hA6, .ref hA7, g8, g9, g10, g11, .int tq]))])
abbrev qc_t_X9_refuseNinth_f (dC : Nat → ClassId) (dI : Nat → Nat → Nat) (cB cI cJ cZ : ClassId) (h0 hQ hKi hPl hNu : Nat) (kf pf : Nat → Int32) (vf : Nat → Int64) (fl pl : Int32) (w3 : Value) (i4 i5 : Int32) (w6 : Value) (x1 z1 : Nat) (w10 : Value) (i11 : Int32) (y3 : Value) (j4 j5 : Int32) (y6 : Value) (hCd hA1 hA2 hA3 hA4 hA5 hA6 hA7 s1 : Nat) (g8 g9 g10 g11 : Value) (tq : Int32) (x y2 x2 : Int32) (A : Nat → Prop) : Array Value → State → Outcome → State → Prop := va_Qv (fun (u : Unit) => match u with | _ => True) (fun (u : Unit) t_ => match u with | _ => va_P (dC, dI) vwCl [(h0, .inr (10, [.int fl, .int pl, .ref hCd, w3, .int i4, .int i5, w6, .ref hQ, .int (nI x1), .int (nI z1), w10, .int i11])), (hQ, .inr (11, [.ref hKi, .ref hPl, .ref hNu, y3, .int j4, .int j5, y6])), (hKi, .inl (cI, 2001, .inl kf)), (hPl, .inl (cI, 2001, .inl pf)), (hNu, .inl (cJ, 2001, .inr (.inl vf))), (hCd, .inr (2, [.int (nI s1), .ref hA1, .ref hA2, .ref hA3, .ref hA4, .ref hA5, .ref hA6, .ref hA7, g8, g9, g10, g11, .int tq]))] t_.heap ∧ va_K (dC, dI) vwCl [(cB, .byte), (cI, .int), (cJ, .long), (cZ, .boolean)] t_ ∧ va_D A [(h0, .inr (10, [.int fl, .int pl, .ref hCd, w3, .int i4, .int i5, w6, .ref hQ, .int (nI x1), .int (nI z1), w10, .int i11])), (hQ, .inr (11, [.ref hKi, .ref hPl, .ref hNu, y3, .int j4, .int j5, y6])), (hKi, .inl (cI, 2001, .inl kf)), (hPl, .inl (cI, 2001, .inl pf)), (hNu, .inl (cJ, 2001, .inr (.inl vf))), (hCd, .inr (2, [.int (nI s1), .ref hA1, .ref hA2, .ref hA3, .ref hA4, .ref hA5, .ref hA6, .ref hA7, g8, g9, g10, g11, .int tq]))]) A
set_option maxHeartbeats 4000000 in
set_option maxRecDepth 100000 in
theorem t_X9_refuseNinth_f (l : Launch) (dC : Nat → ClassId) (dI : Nat → Nat → Nat) (sz : Nat) (cB cI cJ cZ : ClassId) (h0 hQ hKi hPl hNu : Nat) (kf pf : Nat → Int32) (vf : Nat → Int64) (fl pl : Int32) (w3 : Value) (i4 i5 : Int32) (w6 : Value) (x1 z1 : Nat) (w10 : Value) (i11 : Int32) (y3 : Value) (j4 j5 : Int32) (y6 : Value) (hCd hA1 hA2 hA3 hA4 hA5 hA6 hA7 s1 : Nat) (g8 g9 g10 g11 : Value) (tq : Int32) (x y2 x2 : Int32) (hx1 : x1 ≤ 2000) (hfl : ¬ fl = 0) (hx2 : y2 = x2) : Met l yX9_refuseNinth (wsOf yX9_refuseNinth cX9_refuseNinth 3 none) ({ frames := 2, cells := 0, slots := 0, locals := 120 }) (pc_t_X9_refuseNinth_f dC dI sz cB cI cJ cZ h0 hQ hKi hPl hNu kf pf vf fl pl w3 i4 i5 w6 x1 z1 w10 i11 y3 j4 j5 y6 hCd hA1 hA2 hA3 hA4 hA5 hA6 hA7 s1 g8 g9 g10 g11 tq x y2 x2) (qc_t_X9_refuseNinth_f dC dI cB cI cJ cZ h0 hQ hKi hPl hNu kf pf vf fl pl w3 i4 i5 w6 x1 z1 w10 i11 y3 j4 j5 y6 hCd hA1 hA2 hA3 hA4 hA5 hA6 hA7 s1 g8 g9 g10 g11 tq x y2 x2 (va_A (cs_t_X9_refuseNinth_f cB cI cJ cZ h0 hQ hKi hPl hNu kf pf vf fl pl w3 i4 i5 w6 x1 z1 w10 i11 y3 j4 j5 y6 hCd hA1 hA2 hA3 hA4 hA5 hA6 hA7 s1 g8 g9 g10 g11 tq x y2 x2) sz)) 0 0 (va_A (cs_t_X9_refuseNinth_f cB cI cJ cZ h0 hQ hKi hPl hNu kf pf vf fl pl w3 i4 i5 w6 x1 z1 w10 i11 y3 j4 j5 y6 hCd hA1 hA2 hA3 hA4 hA5 hA6 hA7 s1 g8 g9 g10 g11 tq x y2 x2) sz) := by
  refine Met.ofW (cc := cX9_refuseNinth) (maxL := 3) (ret := none) (by decide) rfl ?_
  intro p e s m args below meth c s₁ B hml hv
  obtain ⟨rfl, hsz, hP, hK, hD0⟩ := hv
  have hx := B.exec
  have hb := B.bytes
  have hr := B.returns
  have hts := atoms_spec (ws := (wsOf yX9_refuseNinth cX9_refuseNinth 3 none)) B.pre
  have hown : s.vm.findClass RX9 = some m.cls := findClass_of_methodNamed B.named
  have hlocks := B.notSynchronized
  subst hsz
  have hD := hD0.self (sz := s.heap.size)
  generalize hAe : va_A (cs_t_X9_refuseNinth_f cB cI cJ cZ h0 hQ hKi hPl hNu kf pf vf fl pl w3 i4 i5 w6 x1 z1 w10 i11 y3 j4 j5 y6 hCd hA1 hA2 hA3 hA4 hA5 hA6 hA7 s1 g8 g9 g10 g11 tq x y2 x2) s.heap.size = A at hD ⊢
  have hA : ∀ q : Nat, s.heap.size ≤ q → A q := fun q h => by rw [← hAe]; exact Or.inr h
  have hS : va_S A s.heap s.heap [] := va_S.rf
  have hP : va_P (dC, dI) vwCl [(h0, .inr (10, [.int fl, .int pl, .ref hCd, w3, .int i4, .int i5, w6, .ref hQ, .int (nI x1), .int (nI z1), w10, .int i11])), (hQ, .inr (11, [.ref hKi, .ref hPl, .ref hNu, y3, .int j4, .int j5, y6])), (hKi, .inl (cI, 2001, .inl kf)), (hPl, .inl (cI, 2001, .inl pf)), (hNu, .inl (cJ, 2001, .inr (.inl vf))), (hCd, .inr (2, [.int (nI s1), .ref hA1, .ref hA2, .ref hA3, .ref hA4, .ref hA5, .ref hA6, .ref hA7, g8, g9, g10, g11, .int tq]))] s.heap := hP
  have hl := lv_entry ([.ref h0, .int x, .int x2]) (n := 3) (Nat.le_of_ble_eq_true rfl)
  rw [lg_entry_eq]
  generalize (lg_sl ([.ref h0, .int x, .int x2]) ++ List.replicate (3 - (lg_sl ([.ref h0, .int x, .int x2])).length) Slot.unset).toArray = ls at hl ⊢
  have hl : lv_has ls 3 [(0, .ref h0), (1, .int x), (2, .int x2)] := hl
  refine lv_iload_n hx hb dX9_refuseNinth_0 rfl (lv_at hl 1 rfl) ?_
  refine lv_if_eq (tgt := 30) hx hb dX9_refuseNinth_1 (by decide) (fun c_1 => ?_) (fun c_1 => ?_)
  · skip
    have hP9 := hP.sub (ws' := [(h0, .inr (10, [.int fl, .int pl, .ref hCd, w3, .int i4, .int i5, w6, .ref hQ, .int (nI x1), .int (nI z1), w10, .int i11])), (hQ, .inr (11, [.ref hKi, .ref hPl, .ref hNu, y3, .int j4, .int j5, y6])), (hKi, .inl (cI, 2001, .inl kf)), (hPl, .inl (cI, 2001, .inl pf)), (hNu, .inl (cJ, 2001, .inr (.inl vf))), (hCd, .inr (2, [.int (nI s1), .ref hA1, .ref hA2, .ref hA3, .ref hA4, .ref hA5, .ref hA6, .ref hA7, g8, g9, g10, g11, .int tq]))]) [0, 1, 2, 3, 4, 5] rfl
    have hD9 := hD.sub (ws' := [(h0, .inr (10, [.int fl, .int pl, .ref hCd, w3, .int i4, .int i5, w6, .ref hQ, .int (nI x1), .int (nI z1), w10, .int i11])), (hQ, .inr (11, [.ref hKi, .ref hPl, .ref hNu, y3, .int j4, .int j5, y6])), (hKi, .inl (cI, 2001, .inl kf)), (hPl, .inl (cI, 2001, .inl pf)), (hNu, .inl (cJ, 2001, .inr (.inl vf))), (hCd, .inr (2, [.int (nI s1), .ref hA1, .ref hA2, .ref hA3, .ref hA4, .ref hA5, .ref hA6, .ref hA7, g8, g9, g10, g11, .int tq]))]) [0, 1, 2, 3, 4, 5] (by decide) rfl
    have hK9 := hK.sub (tys' := [(cB, .byte), (cI, .int), (cJ, .long), (cZ, .boolean)]) [0, 1, 2, 3] rfl
    exact W.vret hx hb hr (fun t_ ht hW => ⟨⟨(), rfl, trivial, by rw [ht]; exact hP9, va_K.moved hW.alike hK9, hD9⟩, hS.F ht⟩) hS.2.2 dX9_refuseNinth_30
  · skip
    refine lv_aload_n hx hb dX9_refuseNinth_4 rfl (lv_at hl 0 rfl) ?_
    refine lv_aload_n hx hb dX9_refuseNinth_5 rfl (lv_at hl 0 rfl) ?_
    refine lv_aload_n hx hb dX9_refuseNinth_6 rfl (lv_at hl 0 rfl) ?_
    have hPc := hP.sub (ws' := [(h0, .inr (10, [.int fl, .int pl, .ref hCd, w3, .int i4, .int i5, w6, .ref hQ, .int (nI x1), .int (nI z1), w10, .int i11])), (hQ, .inr (11, [.ref hKi, .ref hPl, .ref hNu, y3, .int j4, .int j5, y6])), (hKi, .inl (cI, 2001, .inl kf)), (hPl, .inl (cI, 2001, .inl pf)), (hNu, .inl (cJ, 2001, .inr (.inl vf)))]) [0, 1, 2, 3, 4] rfl
    have hDc := hD.sub (ws' := [(h0, .inr (10, [.int fl, .int pl, .ref hCd, w3, .int i4, .int i5, w6, .ref hQ, .int (nI x1), .int (nI z1), w10, .int i11])), (hQ, .inr (11, [.ref hKi, .ref hPl, .ref hNu, y3, .int j4, .int j5, y6])), (hKi, .inl (cI, 2001, .inl kf)), (hPl, .inl (cI, 2001, .inl pf)), (hNu, .inl (cJ, 2001, .inr (.inl vf)))]) [0, 1, 2, 3, 4] (by decide) rfl
    have hKc := hK.sub (tys' := [(cB, .byte), (cI, .int), (cJ, .long), (cZ, .boolean)]) [0, 1, 2, 3] rfl
    have hFc := va_free (wc := [(h0, .inr (10, [.int fl, .int pl, .ref hCd, w3, .int i4, .int i5, w6, .ref hQ, .int (nI x1), .int (nI z1), w10, .int i11])), (hQ, .inr (11, [.ref hKi, .ref hPl, .ref hNu, y3, .int j4, .int j5, y6])), (hKi, .inl (cI, 2001, .inl kf)), (hPl, .inl (cI, 2001, .inl pf)), (hNu, .inl (cJ, 2001, .inr (.inl vf)))]) hD hS hA [0, 1, 2, 3, 4] rfl
    refine va_calli (va_runV (As := []) (rest := [.ref h0, .ref h0]) ⟨hx, hb, hml, hown, hts⟩ (t_X9_kind l dC dI s.heap.size cB cI cJ cZ h0 hQ hKi hPl hNu kf pf vf fl pl (.ref hCd) w3 i4 i5 w6 x1 z1 w10 i11 y3 j4 j5 y6  hx1) (cwV 0 hts (gd_all (in_V kw_907 kw_909 kw_12 kw_193 kc_X9_kind)) rfl rfl rfl (by decide +kernel) ⟨Nat.le_of_ble_eq_true rfl, Nat.le_of_ble_eq_true rfl⟩) ⟨fun a U g mk q => by obtain ⟨q0, q1, qP, qK, qD⟩ := q; exact ⟨q0, q1, qP, va_K.moved (u := U) (U := U.calling g mk a) (Vm.Alike.refl U.vm) qK, qD⟩, va_recv hKc hPc (ci := 10) (q0 := 0) rfl rfl, fun U hU hW => ⟨rfl, by rw [hU], by rw [hU]; exact hPc, va_K.moved hW.alike hKc, hDc.weaken (fun _ _ _ _ => trivial)⟩⟩ rfl rfl hl.1 rfl (lv_room (Nat.le_of_ble_eq_true rfl)) dX9_refuseNinth_7 ⟨Nat.le_of_ble_eq_true rfl, Nat.le_of_ble_eq_true rfl⟩) hS (fun q _ h => hFc q h) hFc (fun r_2 u t_ H1 locs ht hvm hw hB hz1 hk1 hS => ?_)
    obtain ⟨hP1, hK1, hD1⟩ := hB
    rw [ht] at hP1
    have hK1 := va_K.moved hvm.symm hK1
    obtain ⟨hP, hD⟩ := va_join (wr := [(hCd, .inr (2, [.int (nI s1), .ref hA1, .ref hA2, .ref hA3, .ref hA4, .ref hA5, .ref hA6, .ref hA7, g8, g9, g10, g11, .int tq]))]) (w1 := [(h0, .inr (10, [.int fl, .int pl, .ref hCd, w3, .int i4, .int i5, w6, .ref hQ, .int (nI x1), .int (nI z1), w10, .int i11])), (hQ, .inr (11, [.ref hKi, .ref hPl, .ref hNu, y3, .int j4, .int j5, y6])), (hKi, .inl (cI, 2001, .inl kf)), (hPl, .inl (cI, 2001, .inl pf)), (hNu, .inl (cJ, 2001, .inr (.inl vf)))]) hP hD [0, 1, 2, 3, 4] [5] rfl rfl (by decide) (by decide) hk1 hFc hP1 hD1
    have hK := (hK.sub (tys' := []) [] rfl).app hK1
    generalize H1 = H at hP hS ⊢
    have hP : va_P (dC, dI) vwCl [(hCd, .inr (2, [.int (nI s1), .ref hA1, .ref hA2, .ref hA3, .ref hA4, .ref hA5, .ref hA6, .ref hA7, g8, g9, g10, g11, .int tq])), (h0, .inr (10, [.int fl, .int pl, .ref hCd, w3, .int i4, .int i5, w6, .ref hQ, .int (nI x1), .int (nI z1), w10, .int i11])), (hQ, .inr (11, [.ref hKi, .ref hPl, .ref hNu, y3, .int j4, .int j5, y6])), (hKi, .inl (cI, 2001, .inl kf)), (hPl, .inl (cI, 2001, .inl pf)), (hNu, .inl (cJ, 2001, .inr (.inl vf)))] H := hP
    have hD : va_D A [(hCd, .inr (2, [.int (nI s1), .ref hA1, .ref hA2, .ref hA3, .ref hA4, .ref hA5, .ref hA6, .ref hA7, g8, g9, g10, g11, .int tq])), (h0, .inr (10, [.int fl, .int pl, .ref hCd, w3, .int i4, .int i5, w6, .ref hQ, .int (nI x1), .int (nI z1), w10, .int i11])), (hQ, .inr (11, [.ref hKi, .ref hPl, .ref hNu, y3, .int j4, .int j5, y6])), (hKi, .inl (cI, 2001, .inl kf)), (hPl, .inl (cI, 2001, .inl pf)), (hNu, .inl (cJ, 2001, .inr (.inl vf)))] := hD
    have hK : va_K (dC, dI) vwCl [(cB, .byte), (cI, .int), (cJ, .long), (cZ, .boolean)] s := hK
    have er_2 : r_2 = 57 := hw.trans (if_neg hfl)
    rw [er_2]
    refine lv_iload_n hx hb dX9_refuseNinth_10 rfl (lv_at hl 2 rfl) ?_
    have hPc := hP.sub (ws' := [(h0, .inr (10, [.int fl, .int pl, .ref hCd, w3, .int i4, .int i5, w6, .ref hQ, .int (nI x1), .int (nI z1), w10, .int i11]))]) [1] rfl
    have hDc := hD.sub (ws' := [(h0, .inr (10, [.int fl, .int pl, .ref hCd, w3, .int i4, .int i5, w6, .ref hQ, .int (nI x1), .int (nI z1), w10, .int i11]))]) [1] (by decide) rfl
    have hKc := hK.sub (tys' := [(cB, .byte), (cI, .int), (cJ, .long), (cZ, .boolean)]) [0, 1, 2, 3] rfl
    have hFc := va_free (wc := [(h0, .inr (10, [.int fl, .int pl, .ref hCd, w3, .int i4, .int i5, w6, .ref hQ, .int (nI x1), .int (nI z1), w10, .int i11]))]) hD hS hA [1] rfl
    refine va_calli (va_runV (As := [.int 57, .int x2]) (rest := [.ref h0]) ⟨hx, hb, hml, hown, hts⟩ (t_X9_beginsExpr_57 l dC dI H.size cB cI cJ cZ h0 [.int fl, .int pl, .ref hCd, w3, .int i4, .int i5, w6, .ref hQ, .int (nI x1), .int (nI z1), w10, .int i11] x2) (cwV 2 hts (gd_all (in_V kw_943 kw_945 kw_19 kw_193 kc_X9_beginsExpr)) rfl rfl rfl (by decide +kernel) ⟨Nat.le_of_ble_eq_true rfl, Nat.le_of_ble_eq_true rfl⟩) ⟨fun a U g mk q => by obtain ⟨q0, q1, qP, qK, qD⟩ := q; exact ⟨q0, q1, qP, va_K.moved (u := U) (U := U.calling g mk a) (Vm.Alike.refl U.vm) qK, qD⟩, va_recv hKc hPc (ci := 10) (q0 := 0) rfl rfl, fun U hU hW => ⟨rfl, by rw [hU], by rw [hU]; exact hPc, va_K.moved hW.alike hKc, hDc.weaken (fun _ _ _ _ => trivial)⟩⟩ rfl rfl hl.1 rfl (lv_room (Nat.le_of_ble_eq_true rfl)) dX9_refuseNinth_11 ⟨Nat.le_of_ble_eq_true rfl, Nat.le_of_ble_eq_true rfl⟩) hS (fun q _ h => hFc q h) hFc (fun r_3 u t_ H1 locs ht hvm hw hB hz1 hk1 hS => ?_)
    obtain ⟨hP1, hK1, hD1⟩ := hB
    rw [ht] at hP1
    have hK1 := va_K.moved hvm.symm hK1
    obtain ⟨hP, hD⟩ := va_join (wr := [(hCd, .inr (2, [.int (nI s1), .ref hA1, .ref hA2, .ref hA3, .ref hA4, .ref hA5, .ref hA6, .ref hA7, g8, g9, g10, g11, .int tq])), (hQ, .inr (11, [.ref hKi, .ref hPl, .ref hNu, y3, .int j4, .int j5, y6])), (hKi, .inl (cI, 2001, .inl kf)), (hPl, .inl (cI, 2001, .inl pf)), (hNu, .inl (cJ, 2001, .inr (.inl vf)))]) (w1 := [(h0, .inr (10, [.int fl, .int pl, .ref hCd, w3, .int i4, .int i5, w6, .ref hQ, .int (nI x1), .int (nI z1), w10, .int i11]))]) hP hD [1] [0, 2, 3, 4, 5] rfl rfl (by decide) (by decide) hk1 hFc hP1 hD1
    have hK := (hK.sub (tys' := []) [] rfl).app hK1
    generalize H1 = H at hP hS ⊢
    have hP : va_P (dC, dI) vwCl [(hCd, .inr (2, [.int (nI s1), .ref hA1, .ref hA2, .ref hA3, .ref hA4, .ref hA5, .ref hA6, .ref hA7, g8, g9, g10, g11, .int tq])), (hQ, .inr (11, [.ref hKi, .ref hPl, .ref hNu, y3, .int j4, .int j5, y6])), (hKi, .inl (cI, 2001, .inl kf)), (hPl, .inl (cI, 2001, .inl pf)), (hNu, .inl (cJ, 2001, .inr (.inl vf))), (h0, .inr (10, [.int fl, .int pl, .ref hCd, w3, .int i4, .int i5, w6, .ref hQ, .int (nI x1), .int (nI z1), w10, .int i11]))] H := hP
    have hD : va_D A [(hCd, .inr (2, [.int (nI s1), .ref hA1, .ref hA2, .ref hA3, .ref hA4, .ref hA5, .ref hA6, .ref hA7, g8, g9, g10, g11, .int tq])), (hQ, .inr (11, [.ref hKi, .ref hPl, .ref hNu, y3, .int j4, .int j5, y6])), (hKi, .inl (cI, 2001, .inl kf)), (hPl, .inl (cI, 2001, .inl pf)), (hNu, .inl (cJ, 2001, .inr (.inl vf))), (h0, .inr (10, [.int fl, .int pl, .ref hCd, w3, .int i4, .int i5, w6, .ref hQ, .int (nI x1), .int (nI z1), w10, .int i11]))] := hD
    have hK : va_K (dC, dI) vwCl [(cB, .byte), (cI, .int), (cJ, .long), (cZ, .boolean)] s := hK
    have er_3 : r_3 = 0 := hw
    rw [er_3]
    refine lv_if_eq (tgt := 22) hx hb dX9_refuseNinth_14 (by decide) (fun c_4 => ?_) (fun c_4 => ?_)
    · skip
      refine lv_iconst (v := 1) hx hb dX9_refuseNinth_22 (by decide) ?_
      refine lv_aload_n hx hb dX9_refuseNinth_23 rfl (lv_at hl 0 rfl) ?_
      have hPc := hP.sub (ws' := [(h0, .inr (10, [.int fl, .int pl, .ref hCd, w3, .int i4, .int i5, w6, .ref hQ, .int (nI x1), .int (nI z1), w10, .int i11])), (hQ, .inr (11, [.ref hKi, .ref hPl, .ref hNu, y3, .int j4, .int j5, y6])), (hKi, .inl (cI, 2001, .inl kf)), (hPl, .inl (cI, 2001, .inl pf)), (hNu, .inl (cJ, 2001, .inr (.inl vf)))]) [5, 1, 2, 3, 4] rfl
      have hDc := hD.sub (ws' := [(h0, .inr (10, [.int fl, .int pl, .ref hCd, w3, .int i4, .int i5, w6, .ref hQ, .int (nI x1), .int (nI z1), w10, .int i11])), (hQ, .inr (11, [.ref hKi, .ref hPl, .ref hNu, y3, .int j4, .int j5, y6])), (hKi, .inl (cI, 2001, .inl kf)), (hPl, .inl (cI, 2001, .inl pf)), (hNu, .inl (cJ, 2001, .inr (.inl vf)))]) [5, 1, 2, 3, 4] (by decide) rfl
      have hKc := hK.sub (tys' := [(cB, .byte), (cI, .int), (cJ, .long), (cZ, .boolean)]) [0, 1, 2, 3] rfl
      have hFc := va_free (wc := [(h0, .inr (10, [.int fl, .int pl, .ref hCd, w3, .int i4, .int i5, w6, .ref hQ, .int (nI x1), .int (nI z1), w10, .int i11])), (hQ, .inr (11, [.ref hKi, .ref hPl, .ref hNu, y3, .int j4, .int j5, y6])), (hKi, .inl (cI, 2001, .inl kf)), (hPl, .inl (cI, 2001, .inl pf)), (hNu, .inl (cJ, 2001, .inr (.inl vf)))]) hD hS hA [5, 1, 2, 3, 4] rfl
      refine va_calli (va_runV (As := []) (rest := [.int 1, .ref h0]) ⟨hx, hb, hml, hown, hts⟩ (t_X9_here l dC dI H.size cB cI cJ cZ h0 hQ hKi hPl hNu kf pf vf fl pl (.ref hCd) w3 i4 i5 w6 x1 z1 w10 i11 y3 j4 j5 y6  hx1) (cwV 0 hts (gd_all (in_V kw_923 kw_925 kw_16 kw_193 kc_X9_here)) rfl rfl rfl (by decide +kernel) ⟨Nat.le_of_ble_eq_true rfl, Nat.le_of_ble_eq_true rfl⟩) ⟨fun a U g mk q => by obtain ⟨q0, q1, qP, qK, qD⟩ := q; exact ⟨q0, q1, qP, va_K.moved (u := U) (U := U.calling g mk a) (Vm.Alike.refl U.vm) qK, qD⟩, va_recv hKc hPc (ci := 10) (q0 := 0) rfl rfl, fun U hU hW => ⟨rfl, by rw [hU], by rw [hU]; exact hPc, va_K.moved hW.alike hKc, hDc.weaken (fun _ _ _ _ => trivial)⟩⟩ rfl rfl hl.1 rfl (lv_room (Nat.le_of_ble_eq_true rfl)) dX9_refuseNinth_24 ⟨Nat.le_of_ble_eq_true rfl, Nat.le_of_ble_eq_true rfl⟩) hS (fun q _ h => hFc q h) hFc (fun r_5 u t_ H1 locs ht hvm hw hB hz1 hk1 hS => ?_)
      obtain ⟨hP1, hK1, hD1⟩ := hB
      rw [ht] at hP1
      have hK1 := va_K.moved hvm.symm hK1
      obtain ⟨hP, hD⟩ := va_join (wr := [(hCd, .inr (2, [.int (nI s1), .ref hA1, .ref hA2, .ref hA3, .ref hA4, .ref hA5, .ref hA6, .ref hA7, g8, g9, g10, g11, .int tq]))]) (w1 := [(h0, .inr (10, [.int fl, .int pl, .ref hCd, w3, .int i4, .int i5, w6, .ref hQ, .int (nI x1), .int (nI z1), w10, .int i11])), (hQ, .inr (11, [.ref hKi, .ref hPl, .ref hNu, y3, .int j4, .int j5, y6])), (hKi, .inl (cI, 2001, .inl kf)), (hPl, .inl (cI, 2001, .inl pf)), (hNu, .inl (cJ, 2001, .inr (.inl vf)))]) hP hD [5, 1, 2, 3, 4] [0] rfl rfl (by decide) (by decide) hk1 hFc hP1 hD1
      have hK := (hK.sub (tys' := []) [] rfl).app hK1
      generalize H1 = H at hP hS ⊢
      have hP : va_P (dC, dI) vwCl [(hCd, .inr (2, [.int (nI s1), .ref hA1, .ref hA2, .ref hA3, .ref hA4, .ref hA5, .ref hA6, .ref hA7, g8, g9, g10, g11, .int tq])), (h0, .inr (10, [.int fl, .int pl, .ref hCd, w3, .int i4, .int i5, w6, .ref hQ, .int (nI x1), .int (nI z1), w10, .int i11])), (hQ, .inr (11, [.ref hKi, .ref hPl, .ref hNu, y3, .int j4, .int j5, y6])), (hKi, .inl (cI, 2001, .inl kf)), (hPl, .inl (cI, 2001, .inl pf)), (hNu, .inl (cJ, 2001, .inr (.inl vf)))] H := hP
      have hD : va_D A [(hCd, .inr (2, [.int (nI s1), .ref hA1, .ref hA2, .ref hA3, .ref hA4, .ref hA5, .ref hA6, .ref hA7, g8, g9, g10, g11, .int tq])), (h0, .inr (10, [.int fl, .int pl, .ref hCd, w3, .int i4, .int i5, w6, .ref hQ, .int (nI x1), .int (nI z1), w10, .int i11])), (hQ, .inr (11, [.ref hKi, .ref hPl, .ref hNu, y3, .int j4, .int j5, y6])), (hKi, .inl (cI, 2001, .inl kf)), (hPl, .inl (cI, 2001, .inl pf)), (hNu, .inl (cJ, 2001, .inr (.inl vf)))] := hD
      have hK : va_K (dC, dI) vwCl [(cB, .byte), (cI, .int), (cJ, .long), (cZ, .boolean)] s := hK
      have er_5 : r_5 = pf x1 := hw
      rw [er_5]
      have hPc := hP.sub (ws' := [(h0, .inr (10, [.int fl, .int pl, .ref hCd, w3, .int i4, .int i5, w6, .ref hQ, .int (nI x1), .int (nI z1), w10, .int i11])), (hQ, .inr (11, [.ref hKi, .ref hPl, .ref hNu, y3, .int j4, .int j5, y6])), (hKi, .inl (cI, 2001, .inl kf)), (hPl, .inl (cI, 2001, .inl pf)), (hNu, .inl (cJ, 2001, .inr (.inl vf)))]) [1, 2, 3, 4, 5] rfl
      have hDc := hD.sub (ws' := [(h0, .inr (10, [.int fl, .int pl, .ref hCd, w3, .int i4, .int i5, w6, .ref hQ, .int (nI x1), .int (nI z1), w10, .int i11])), (hQ, .inr (11, [.ref hKi, .ref hPl, .ref hNu, y3, .int j4, .int j5, y6])), (hKi, .inl (cI, 2001, .inl kf)), (hPl, .inl (cI, 2001, .inl pf)), (hNu, .inl (cJ, 2001, .inr (.inl vf)))]) [1, 2, 3, 4, 5] (by decide) rfl
      have hKc := hK.sub (tys' := [(cB, .byte), (cI, .int), (cJ, .long), (cZ, .boolean)]) [0, 1, 2, 3] rfl
      have hFc := va_free (wc := [(h0, .inr (10, [.int fl, .int pl, .ref hCd, w3, .int i4, .int i5, w6, .ref hQ, .int (nI x1), .int (nI z1), w10, .int i11])), (hQ, .inr (11, [.ref hKi, .ref hPl, .ref hNu, y3, .int j4, .int j5, y6])), (hKi, .inl (cI, 2001, .inl kf)), (hPl, .inl (cI, 2001, .inl pf)), (hNu, .inl (cJ, 2001, .inr (.inl vf)))]) hD hS hA [1, 2, 3, 4, 5] rfl
      refine va_callv (va_runV (As := [.int 1, .int (pf x1)]) (rest := []) ⟨hx, hb, hml, hown, hts⟩ (t_X9_refuse_1 l dC dI H.size cB cI cJ cZ h0 hQ hKi hPl hNu kf pf vf fl pl (.ref hCd) w3 i4 i5 w6 x1 z1 w10 i11 y3 j4 j5 y6 1 (pf x1) hfl) (cwV 2 hts (gd_all (in_V kw_927 kw_928 kw_929 kw_193 kc_X9_refuse)) rfl rfl rfl (by decide +kernel) ⟨Nat.le_of_ble_eq_true rfl, Nat.le_of_ble_eq_true rfl⟩) ⟨fun a U g mk q => by obtain ⟨q0, q1, qP, qK, qD⟩ := q; exact ⟨q0, q1, qP, va_K.moved (u := U) (U := U.calling g mk a) (Vm.Alike.refl U.vm) qK, qD⟩, va_recv hKc hPc (ci := 10) (q0 := 0) rfl rfl, fun U hU hW => ⟨rfl, by rw [hU], by rw [hU]; exact hPc, va_K.moved hW.alike hKc, hDc.weaken (fun _ _ _ _ => trivial)⟩⟩ rfl rfl hl.1 rfl (lv_room (Nat.le_of_ble_eq_true rfl)) dX9_refuseNinth_27 ⟨Nat.le_of_ble_eq_true rfl, Nat.le_of_ble_eq_true rfl⟩) hS (fun q _ h => hFc q h) hFc (fun u t_ H1 locs ht hvm hw hB hz1 hk1 hS => ?_)
      obtain ⟨hP1, hK1, hD1⟩ := hB
      rw [ht] at hP1
      have hK1 := va_K.moved hvm.symm hK1
      obtain ⟨hP, hD⟩ := va_join (wr := [(hCd, .inr (2, [.int (nI s1), .ref hA1, .ref hA2, .ref hA3, .ref hA4, .ref hA5, .ref hA6, .ref hA7, g8, g9, g10, g11, .int tq]))]) (w1 := [(h0, .inr (10, [.int fl, .int pl, .ref hCd, w3, .int i4, .int i5, w6, .ref hQ, .int (nI x1), .int (nI z1), w10, .int i11])), (hQ, .inr (11, [.ref hKi, .ref hPl, .ref hNu, y3, .int j4, .int j5, y6])), (hKi, .inl (cI, 2001, .inl kf)), (hPl, .inl (cI, 2001, .inl pf)), (hNu, .inl (cJ, 2001, .inr (.inl vf)))]) hP hD [1, 2, 3, 4, 5] [0] rfl rfl (by decide) (by decide) hk1 hFc hP1 hD1
      have hK := (hK.sub (tys' := []) [] rfl).app hK1
      generalize H1 = H at hP hS ⊢
      have hP : va_P (dC, dI) vwCl [(hCd, .inr (2, [.int (nI s1), .ref hA1, .ref hA2, .ref hA3, .ref hA4, .ref hA5, .ref hA6, .ref hA7, g8, g9, g10, g11, .int tq])), (h0, .inr (10, [.int fl, .int pl, .ref hCd, w3, .int i4, .int i5, w6, .ref hQ, .int (nI x1), .int (nI z1), w10, .int i11])), (hQ, .inr (11, [.ref hKi, .ref hPl, .ref hNu, y3, .int j4, .int j5, y6])), (hKi, .inl (cI, 2001, .inl kf)), (hPl, .inl (cI, 2001, .inl pf)), (hNu, .inl (cJ, 2001, .inr (.inl vf)))] H := hP
      have hD : va_D A [(hCd, .inr (2, [.int (nI s1), .ref hA1, .ref hA2, .ref hA3, .ref hA4, .ref hA5, .ref hA6, .ref hA7, g8, g9, g10, g11, .int tq])), (h0, .inr (10, [.int fl, .int pl, .ref hCd, w3, .int i4, .int i5, w6, .ref hQ, .int (nI x1), .int (nI z1), w10, .int i11])), (hQ, .inr (11, [.ref hKi, .ref hPl, .ref hNu, y3, .int j4, .int j5, y6])), (hKi, .inl (cI, 2001, .inl kf)), (hPl, .inl (cI, 2001, .inl pf)), (hNu, .inl (cJ, 2001, .inr (.inl vf)))] := hD
      have hK : va_K (dC, dI) vwCl [(cB, .byte), (cI, .int), (cJ, .long), (cZ, .boolean)] s := hK
      have hP9 := hP.sub (ws' := [(h0, .inr (10, [.int fl, .int pl, .ref hCd, w3, .int i4, .int i5, w6, .ref hQ, .int (nI x1), .int (nI z1), w10, .int i11])), (hQ, .inr (11, [.ref hKi, .ref hPl, .ref hNu, y3, .int j4, .int j5, y6])), (hKi, .inl (cI, 2001, .inl kf)), (hPl, .inl (cI, 2001, .inl pf)), (hNu, .inl (cJ, 2001, .inr (.inl vf))), (hCd, .inr (2, [.int (nI s1), .ref hA1, .ref hA2, .ref hA3, .ref hA4, .ref hA5, .ref hA6, .ref hA7, g8, g9, g10, g11, .int tq]))]) [1, 2, 3, 4, 5, 0] rfl
      have hD9 := hD.sub (ws' := [(h0, .inr (10, [.int fl, .int pl, .ref hCd, w3, .int i4, .int i5, w6, .ref hQ, .int (nI x1), .int (nI z1), w10, .int i11])), (hQ, .inr (11, [.ref hKi, .ref hPl, .ref hNu, y3, .int j4, .int j5, y6])), (hKi, .inl (cI, 2001, .inl kf)), (hPl, .inl (cI, 2001, .inl pf)), (hNu, .inl (cJ, 2001, .inr (.inl vf))), (hCd, .inr (2, [.int (nI s1), .ref hA1, .ref hA2, .ref hA3, .ref hA4, .ref hA5, .ref hA6, .ref hA7, g8, g9, g10, g11, .int tq]))]) [1, 2, 3, 4, 5, 0] (by decide) rfl
      have hK9 := hK.sub (tys' := [(cB, .byte), (cI, .int), (cJ, .long), (cZ, .boolean)]) [0, 1, 2, 3] rfl
      exact W.vret hx hb hr (fun t_ ht hW => ⟨⟨(), rfl, trivial, by rw [ht]; exact hP9, va_K.moved hW.alike hK9, hD9⟩, hS.F ht⟩) hS.2.2 dX9_refuseNinth_30
    · skip
      exact absurd c_4 (by decide)
theorem dX9_readName_0 : decode cX9_readName 0 = .ok (.aload_n 0, 1) := by decide +kernel
theorem dX9_readName_1 : decode cX9_readName 1 = .ok (.invokevirtual 125, 3) := by decide +kernel
theorem dX9_readName_4 : decode cX9_readName 4 = .ok (.lstore_n 1, 1) := by decide +kernel
theorem dX9_readName_5 : decode cX9_readName 5 = .ok (.aload_n 0, 1) := by decide +kernel
theorem dX9_readName_6 : decode cX9_readName 6 = .ok (.bipush 39, 2) := by decide +kernel
theorem dX9_readName_8 : decode cX9_readName 8 = .ok (.invokevirtual 60, 3) := by decide +kernel
theorem dX9_readName_11 : decode cX9_readName 11 = .ok (.lload_n 1, 1) := by decide +kernel
theorem dX9_readName_12 : decode cX9_readName 12 = .ok (.lreturn, 1) := by decide +kernel
abbrev cs_t_X9_readName_f (cB cI cJ cZ : ClassId) (h0 hQ hKi hPl hNu : Nat) (kf pf : Nat → Int32) (vf : Nat → Int64) (fl pl : Int32) (w3 : Value) (i4 i5 : Int32) (w6 : Value) (x1 z1 : Nat) (w10 : Value) (i11 : Int32) (y3 : Value) (j4 j5 : Int32) (y6 : Value) (hCd hA1 hA2 hA3 hA4 hA5 hA6 hA7 s1 : Nat) (g8 g9 g10 g11 : Value) (tq : Int32) : va_W := [(h0, .inr (10, [.int fl, .int pl, .ref hCd, w3, .int i4, .int i5, w6, .ref hQ, .int (nI x1), .int (nI z1), w10, .int i11])), (hQ, .inr (11, [.ref hKi, .ref hPl, .ref hNu, y3, .int j4, .int j5, y6])), (hKi, .inl (cI, 2001, .inl kf)), (hPl, .inl (cI, 2001, .inl pf)), (hNu, .inl (cJ, 2001, .inr (.inl vf))), (hCd, .inr (2, [.int (nI s1), .ref hA1, .ref hA2, .ref hA3, .ref hA4, .ref hA5, .ref hA6, .ref hA7, g8, g9, g10, g11, .int tq]))]
abbrev pc_t_X9_readName_f (dC : Nat → ClassId) (dI : Nat → Nat → Nat) (sz : Nat) (cB cI cJ cZ : ClassId) (h0 hQ hKi hPl hNu : Nat) (kf pf : Nat → Int32) (vf : Nat → Int64) (fl pl : Int32) (w3 : Value) (i4 i5 : Int32) (w6 : Value) (x1 z1 : Nat) (w10 : Value) (i11 : Int32) (y3 : Value) (j4 j5 : Int32) (y6 : Value) (hCd hA1 hA2 hA3 hA4 hA5 hA6 hA7 s1 : Nat) (g8 g9 g10 g11 : Value) (tq : Int32) : Array Value → State → Prop := va_Pc [.ref h0] (fun U => U.heap.size = sz ∧ va_P (dC, dI) vwCl [(h0, .inr (10, [.int fl, .int pl, .ref hCd, w3, .int i4, .int i5, w6, .ref hQ, .int (nI x1), .int (nI z1), w10, .int i11])), (hQ, .inr (11, [.ref hKi, .ref hPl, .ref hNu, y3, .int j4, .int j5, y6])), (hKi, .inl (cI, 2001, .inl kf)), (hPl, .inl (cI, 2001, .inl pf)), (hNu, .inl (cJ, 2001, .inr (.inl vf))), (hCd, .inr (2, [.int (nI s1), .ref hA1, .ref hA2, .ref hA3, .ref hA4, .ref hA5, .ref hA6, .ref hA7, g8, g9, g10, g11, .int tq]))] U.heap ∧ va_K (dC, dI) vwCl [(cB, .byte), (cI, .int), (cJ, .long), (cZ, .boolean)] U ∧ va_D (fun _ => True) [(h0, .inr (10, [.int fl, .int pl, .ref hCd, w3, .int i4, .int i5, w6, .ref hQ, .int (nI x1), .int (nI z1), w10, .int i11])), (hQ, .inr (11, [.ref hKi, .ref hPl, .ref hNu, y3, .int j4, .int j5, y6])), (hKi, .inl (cI, 2001, .inl kf)), (hPl, .inl (cI, 2001, .inl pf)), (hNu, .inl (cJ, 2001, .inr (.inl vf))), (hCd, .inr (2, [.int (nI s1), .ref hA1, .ref hA2, .ref hA3, .ref hA4, .ref hA5, .ref hA6, .ref hA7, g8, g9, g10, g11, .int tq]))])
abbrev qc_t_X9_readName_f (dC : Nat → ClassId) (dI : Nat → Nat → Nat) (cB cI cJ cZ : ClassId) (h0 hQ hKi hPl hNu : Nat) (kf pf : Nat → Int32) (vf : Nat → Int64) (fl pl : Int32) (w3 : Value) (i4 i5 : Int32) (w6 : Value) (x1 z1 : Nat) (w10 : Value) (i11 : Int32) (y3 : Value) (j4 j5 : Int32) (y6 : Value) (hCd hA1 hA2 hA3 hA4 hA5 hA6 hA7 s1 : Nat) (g8 g9 g10 g11 : Value) (tq : Int32) (A : Nat → Prop) : Array Value → State → Outcome → State → Prop := va_Ql (fun (r : Int64) (u : Unit) => match u with | _ => r = vf x1) (fun (u : Unit) t_ => match u with | _ => va_P (dC, dI) vwCl [(h0, .inr (10, [.int fl, .int pl, .ref hCd, w3, .int i4, .int i5, w6, .ref hQ, .int (nI x1), .int (nI z1), w10, .int i11])), (hQ, .inr (11, [.ref hKi, .ref hPl, .ref hNu, y3, .int j4, .int j5, y6])), (hKi, .inl (cI, 2001, .inl kf)), (hPl, .inl (cI, 2001, .inl pf)), (hNu, .inl (cJ, 2001, .inr (.inl vf))), (hCd, .inr (2, [.int (nI s1), .ref hA1, .ref hA2, .ref hA3, .ref hA4, .ref hA5, .ref hA6, .ref hA7, g8, g9, g10, g11, .int tq]))] t_.heap ∧ va_K (dC, dI) vwCl [(cB, .byte), (cI, .int), (cJ, .long), (cZ, .boolean)] t_ ∧ va_D A [(h0, .inr (10, [.int fl, .int pl, .ref hCd, w3, .int i4, .int i5, w6, .ref hQ, .int (nI x1), .int (nI z1), w10, .int i11])), (hQ, .inr (11, [.ref hKi, .ref hPl, .ref hNu, y3, .int j4, .int j5, y6])), (hKi, .inl (cI, 2001, .inl kf)), (hPl, .inl (cI, 2001, .inl pf)), (hNu, .inl (cJ, 2001, .inr (.inl vf))), (hCd, .inr (2, [.int (nI s1), .ref hA1, .ref hA2, .ref hA3, .ref hA4, .ref hA5, .ref hA6, .ref hA7, g8, g9, g10, g11, .int tq]))]) A
set_option maxHeartbeats 4000000 in
set_option maxRecDepth 100000 in
theorem t_X9_readName_f (l : Launch) (dC : Nat → ClassId) (dI : Nat → Nat → Nat) (sz : Nat) (cB cI cJ cZ : ClassId) (h0 hQ hKi hPl hNu : Nat) (kf pf : Nat → Int32) (vf : Nat → Int64) (fl pl : Int32) (w3 : Value) (i4 i5 : Int32) (w6 : Value) (x1 z1 : Nat) (w10 : Value) (i11 : Int32) (y3 : Value) (j4 j5 : Int32) (y6 : Value) (hCd hA1 hA2 hA3 hA4 hA5 hA6 hA7 s1 : Nat) (g8 g9 g10 g11 : Value) (tq : Int32) (hx1 : x1 ≤ 2000) (hfl : ¬ fl = 0) : Met l yX9_readName (wsOf yX9_readName cX9_readName 3 (some .long)) ({ frames := 2, cells := 0, slots := 0, locals := 120 }) (pc_t_X9_readName_f dC dI sz cB cI cJ cZ h0 hQ hKi hPl hNu kf pf vf fl pl w3 i4 i5 w6 x1 z1 w10 i11 y3 j4 j5 y6 hCd hA1 hA2 hA3 hA4 hA5 hA6 hA7 s1 g8 g9 g10 g11 tq) (qc_t_X9_readName_f dC dI cB cI cJ cZ h0 hQ hKi hPl hNu kf pf vf fl pl w3 i4 i5 w6 x1 z1 w10 i11 y3 j4 j5 y6 hCd hA1 hA2 hA3 hA4 hA5 hA6 hA7 s1 g8 g9 g10 g11 tq (va_A (cs_t_X9_readName_f cB cI cJ cZ h0 hQ hKi hPl hNu kf pf vf fl pl w3 i4 i5 w6 x1 z1 w10 i11 y3 j4 j5 y6 hCd hA1 hA2 hA3 hA4 hA5 hA6 hA7 s1 g8 g9 g10 g11 tq) sz)) 0 0 (va_A (cs_t_X9_readName_f cB cI cJ cZ h0 hQ hKi hPl hNu kf pf vf fl pl w3 i4 i5 w6 x1 z1 w10 i11 y3 j4 j5 y6 hCd hA1 hA2 hA3 hA4 hA5 hA6 hA7 s1 g8 g9 g10 g11 tq) sz) := by
  refine Met.ofW (cc := cX9_readName) (maxL := 3) (ret := (some .long)) (by decide) rfl ?_
  intro p e s m args below meth c s₁ B hml hv
  obtain ⟨rfl, hsz, hP, hK, hD0⟩ := hv
  have hx := B.exec
  have hb := B.bytes
  have hr := B.returns
  have hts := atoms_spec (ws := (wsOf yX9_readName cX9_readName 3 (some .long))) B.pre
  have hown : s.vm.findClass RX9 = some m.cls := findClass_of_methodNamed B.named
  have hlocks := B.notSynchronized
  subst hsz
  have hD := hD0.self (sz := s.heap.size)
  generalize hAe : va_A (cs_t_X9_readName_f cB cI cJ cZ h0 hQ hKi hPl hNu kf pf vf fl pl w3 i4 i5 w6 x1 z1 w10 i11 y3 j4 j5 y6 hCd hA1 hA2 hA3 hA4 hA5 hA6 hA7 s1 g8 g9 g10 g11 tq) s.heap.size = A at hD ⊢
  have hA : ∀ q : Nat, s.heap.size ≤ q → A q := fun q h => by rw [← hAe]; exact Or.inr h
  have hS : va_S A s.heap s.heap [] := va_S.rf
  have hP : va_P (dC, dI) vwCl [(h0, .inr (10, [.int fl, .int pl, .ref hCd, w3, .int i4, .int i5, w6, .ref hQ, .int (nI x1), .int (nI z1), w10, .int i11])), (hQ, .inr (11, [.ref hKi, .ref hPl, .ref hNu, y3, .int j4, .int j5, y6])), (hKi, .inl (cI, 2001, .inl kf)), (hPl, .inl (cI, 2001, .inl pf)), (hNu, .inl (cJ, 2001, .inr (.inl vf))), (hCd, .inr (2, [.int (nI s1), .ref hA1, .ref hA2, .ref hA3, .ref hA4, .ref hA5, .ref hA6, .ref hA7, g8, g9, g10, g11, .int tq]))] s.heap := hP
  have hl := lv_entry ([.ref h0]) (n := 3) (Nat.le_of_ble_eq_true rfl)
  rw [lg_entry_eq]
  generalize (lg_sl ([.ref h0]) ++ List.replicate (3 - (lg_sl ([.ref h0])).length) Slot.unset).toArray = ls at hl ⊢
  have hl : lv_has ls 3 [(0, .ref h0)] := hl
  refine lv_aload_n hx hb dX9_readName_0 rfl (lv_at hl 0 rfl) ?_
  have hPc := hP.sub (ws' := [(h0, .inr (10, [.int fl, .int pl, .ref hCd, w3, .int i4, .int i5, w6, .ref hQ, .int (nI x1), .int (nI z1), w10, .int i11])), (hQ, .inr (11, [.ref hKi, .ref hPl, .ref hNu, y3, .int j4, .int j5, y6])), (hKi, .inl (cI, 2001, .inl kf)), (hPl, .inl (cI, 2001, .inl pf)), (hNu, .inl (cJ, 2001, .inr (.inl vf)))]) [0, 1, 2, 3, 4] rfl
  have hDc := hD.sub (ws' := [(h0, .inr (10, [.int fl, .int pl, .ref hCd, w3, .int i4, .int i5, w6, .ref hQ, .int (nI x1), .int (nI z1), w10, .int i11])), (hQ, .inr (11, [.ref hKi, .ref hPl, .ref hNu, y3, .int j4, .int j5, y6])), (hKi, .inl (cI, 2001, .inl kf)), (hPl, .inl (cI, 2001, .inl pf)), (hNu, .inl (cJ, 2001, .inr (.inl vf)))]) [0, 1, 2, 3, 4] (by decide) rfl
  have hKc := hK.sub (tys' := [(cB, .byte), (cI, .int), (cJ, .long), (cZ, .boolean)]) [0, 1, 2, 3] rfl
  have hFc := va_free (wc := [(h0, .inr (10, [.int fl, .int pl, .ref hCd, w3, .int i4, .int i5, w6, .ref hQ, .int (nI x1), .int (nI z1), w10, .int i11])), (hQ, .inr (11, [.ref hKi, .ref hPl, .ref hNu, y3, .int j4, .int j5, y6])), (hKi, .inl (cI, 2001, .inl kf)), (hPl, .inl (cI, 2001, .inl pf)), (hNu, .inl (cJ, 2001, .inr (.inl vf)))]) hD hS hA [0, 1, 2, 3, 4] rfl
  refine va_calll (va_runV (As := []) (rest := []) ⟨hx, hb, hml, hown, hts⟩ (t_X9_number l dC dI s.heap.size cB cI cJ cZ h0 hQ hKi hPl hNu kf pf vf fl pl (.ref hCd) w3 i4 i5 w6 x1 z1 w10 i11 y3 j4 j5 y6  hx1) (cwV 0 hts (gd_all (in_V kw_983 kw_985 kw_29 kw_193 kc_X9_number)) rfl rfl rfl (by decide +kernel) ⟨Nat.le_of_ble_eq_true rfl, Nat.le_of_ble_eq_true rfl⟩) ⟨fun a U g mk q => by obtain ⟨q0, q1, qP, qK, qD⟩ := q; exact ⟨q0, q1, qP, va_K.moved (u := U) (U := U.calling g mk a) (Vm.Alike.refl U.vm) qK, qD⟩, va_recv hKc hPc (ci := 10) (q0 := 0) rfl rfl, fun U hU hW => ⟨rfl, by rw [hU], by rw [hU]; exact hPc, va_K.moved hW.alike hKc, hDc.weaken (fun _ _ _ _ => trivial)⟩⟩ rfl rfl hl.1 rfl (lv_room (Nat.le_of_ble_eq_true rfl)) dX9_readName_1 ⟨Nat.le_of_ble_eq_true rfl, Nat.le_of_ble_eq_true rfl⟩) hS (fun q _ h => hFc q h) hFc (fun r_1 u t_ H1 locs ht hvm hw hB hz1 hk1 hS => ?_)
  obtain ⟨hP1, hK1, hD1⟩ := hB
  rw [ht] at hP1
  have hK1 := va_K.moved hvm.symm hK1
  obtain ⟨hP, hD⟩ := va_join (wr := [(hCd, .inr (2, [.int (nI s1), .ref hA1, .ref hA2, .ref hA3, .ref hA4, .ref hA5, .ref hA6, .ref hA7, g8, g9, g10, g11, .int tq]))]) (w1 := [(h0, .inr (10, [.int fl, .int pl, .ref hCd, w3, .int i4, .int i5, w6, .ref hQ, .int (nI x1), .int (nI z1), w10, .int i11])), (hQ, .inr (11, [.ref hKi, .ref hPl, .ref hNu, y3, .int j4, .int j5, y6])), (hKi, .inl (cI, 2001, .inl kf)), (hPl, .inl (cI, 2001, .inl pf)), (hNu, .inl (cJ, 2001, .inr (.inl vf)))]) hP hD [0, 1, 2, 3, 4] [5] rfl rfl (by decide) (by decide) hk1 hFc hP1 hD1
  have hK := (hK.sub (tys' := []) [] rfl).app hK1
  generalize H1 = H at hP hS ⊢
  have hP : va_P (dC, dI) vwCl [(hCd, .inr (2, [.int (nI s1), .ref hA1, .ref hA2, .ref hA3, .ref hA4, .ref hA5, .ref hA6, .ref hA7, g8, g9, g10, g11, .int tq])), (h0, .inr (10, [.int fl, .int pl, .ref hCd, w3, .int i4, .int i5, w6, .ref hQ, .int (nI x1), .int (nI z1), w10, .int i11])), (hQ, .inr (11, [.ref hKi, .ref hPl, .ref hNu, y3, .int j4, .int j5, y6])), (hKi, .inl (cI, 2001, .inl kf)), (hPl, .inl (cI, 2001, .inl pf)), (hNu, .inl (cJ, 2001, .inr (.inl vf)))] H := hP
  have hD : va_D A [(hCd, .inr (2, [.int (nI s1), .ref hA1, .ref hA2, .ref hA3, .ref hA4, .ref hA5, .ref hA6, .ref hA7, g8, g9, g10, g11, .int tq])), (h0, .inr (10, [.int fl, .int pl, .ref hCd, w3, .int i4, .int i5, w6, .ref hQ, .int (nI x1), .int (nI z1), w10, .int i11])), (hQ, .inr (11, [.ref hKi, .ref hPl, .ref hNu, y3, .int j4, .int j5, y6])), (hKi, .inl (cI, 2001, .inl kf)), (hPl, .inl (cI, 2001, .inl pf)), (hNu, .inl (cJ, 2001, .inr (.inl vf)))] := hD
  have hK : va_K (dC, dI) vwCl [(cB, .byte), (cI, .int), (cJ, .long), (cZ, .boolean)] s := hK
  have er_1 : r_1 = vf x1 := hw
  rw [er_1]
  refine lv_lstore_n (lv' := [(1, .long (vf x1)), (0, .ref h0)]) hx hb dX9_readName_4 rfl hl (by decide) rfl (fun ls hl => ?_)
  refine lv_aload_n hx hb dX9_readName_5 rfl (lv_at hl 1 rfl) ?_
  refine lv_bipush (v := 39) hx hb dX9_readName_6 (by decide) ?_
  have hPc := hP.sub (ws' := [(h0, .inr (10, [.int fl, .int pl, .ref hCd, w3, .int i4, .int i5, w6, .ref hQ, .int (nI x1), .int (nI z1), w10, .int i11])), (hQ, .inr (11, [.ref hKi, .ref hPl, .ref hNu, y3, .int j4, .int j5, y6])), (hKi, .inl (cI, 2001, .inl kf)), (hPl, .inl (cI, 2001, .inl pf)), (hNu, .inl (cJ, 2001, .inr (.inl vf)))]) [1, 2, 3, 4, 5] rfl
  have hDc := hD.sub (ws' := [(h0, .inr (10, [.int fl, .int pl, .ref hCd, w3, .int i4, .int i5, w6, .ref hQ, .int (nI x1), .int (nI z1), w10, .int i11])), (hQ, .inr (11, [.ref hKi, .ref hPl, .ref hNu, y3, .int j4, .int j5, y6])), (hKi, .inl (cI, 2001, .inl kf)), (hPl, .inl (cI, 2001, .inl pf)), (hNu, .inl (cJ, 2001, .inr (.inl vf)))]) [1, 2, 3, 4, 5] (by decide) rfl
  have hKc := hK.sub (tys' := [(cB, .byte), (cI, .int), (cJ, .long), (cZ, .boolean)]) [0, 1, 2, 3] rfl
  have hFc := va_free (wc := [(h0, .inr (10, [.int fl, .int pl, .ref hCd, w3, .int i4, .int i5, w6, .ref hQ, .int (nI x1), .int (nI z1), w10, .int i11])), (hQ, .inr (11, [.ref hKi, .ref hPl, .ref hNu, y3, .int j4, .int j5, y6])), (hKi, .inl (cI, 2001, .inl kf)), (hPl, .inl (cI, 2001, .inl pf)), (hNu, .inl (cJ, 2001, .inr (.inl vf)))]) hD hS hA [1, 2, 3, 4, 5] rfl
  refine va_callv (va_runV (As := [.int 39]) (rest := []) ⟨hx, hb, hml, hown, hts⟩ (t_X9_expect_1 l dC dI H.size cB cI cJ cZ h0 hQ hKi hPl hNu kf pf vf fl pl (.ref hCd) w3 i4 i5 w6 x1 z1 w10 i11 y3 j4 j5 y6 39 hx1 (fun h9 => absurd ((if_neg hfl).symm.trans h9) (by decide)) hfl) (cwV 1 hts (gd_all (in_V kw_919 kw_921 kw_15 kw_193 kc_X9_expect)) rfl rfl rfl (by decide +kernel) ⟨Nat.le_of_ble_eq_true rfl, Nat.le_of_ble_eq_true rfl⟩) ⟨fun a U g mk q => by obtain ⟨q0, q1, qP, qK, qD⟩ := q; exact ⟨q0, q1, qP, va_K.moved (u := U) (U := U.calling g mk a) (Vm.Alike.refl U.vm) qK, qD⟩, va_recv hKc hPc (ci := 10) (q0 := 0) rfl rfl, fun U hU hW => ⟨rfl, by rw [hU], by rw [hU]; exact hPc, va_K.moved hW.alike hKc, hDc.weaken (fun _ _ _ _ => trivial)⟩⟩ rfl rfl hl.1 rfl (lv_room (Nat.le_of_ble_eq_true rfl)) dX9_readName_8 ⟨Nat.le_of_ble_eq_true rfl, Nat.le_of_ble_eq_true rfl⟩) hS (fun q _ h => hFc q h) hFc (fun u t_ H1 locs ht hvm hw hB hz1 hk1 hS => ?_)
  obtain ⟨hP1, hK1, hD1⟩ := hB
  rw [ht] at hP1
  have hK1 := va_K.moved hvm.symm hK1
  obtain ⟨hP, hD⟩ := va_join (wr := [(hCd, .inr (2, [.int (nI s1), .ref hA1, .ref hA2, .ref hA3, .ref hA4, .ref hA5, .ref hA6, .ref hA7, g8, g9, g10, g11, .int tq]))]) (w1 := [(h0, .inr (10, [.int fl, .int pl, .ref hCd, w3, .int i4, .int i5, w6, .ref hQ, .int (nI x1), .int (nI z1), w10, .int i11])), (hQ, .inr (11, [.ref hKi, .ref hPl, .ref hNu, y3, .int j4, .int j5, y6])), (hKi, .inl (cI, 2001, .inl kf)), (hPl, .inl (cI, 2001, .inl pf)), (hNu, .inl (cJ, 2001, .inr (.inl vf)))]) hP hD [1, 2, 3, 4, 5] [0] rfl rfl (by decide) (by decide) hk1 hFc hP1 hD1
  have hK := (hK.sub (tys' := []) [] rfl).app hK1
  generalize H1 = H at hP hS ⊢
  have hP : va_P (dC, dI) vwCl [(hCd, .inr (2, [.int (nI s1), .ref hA1, .ref hA2, .ref hA3, .ref hA4, .ref hA5, .ref hA6, .ref hA7, g8, g9, g10, g11, .int tq])), (h0, .inr (10, [.int fl, .int pl, .ref hCd, w3, .int i4, .int i5, w6, .ref hQ, .int (nI x1), .int (nI z1), w10, .int i11])), (hQ, .inr (11, [.ref hKi, .ref hPl, .ref hNu, y3, .int j4, .int j5, y6])), (hKi, .inl (cI, 2001, .inl kf)), (hPl, .inl (cI, 2001, .inl pf)), (hNu, .inl (cJ, 2001, .inr (.inl vf)))] H := hP
  have hD : va_D A [(hCd, .inr (2, [.int (nI s1), .ref hA1, .ref hA2, .ref hA3, .ref hA4, .ref hA5, .ref hA6, .ref hA7, g8, g9, g10, g11, .int tq])), (h0, .inr (10, [.int fl, .int pl, .ref hCd, w3, .int i4, .int i5, w6, .ref hQ, .int (nI x1), .int (nI z1), w10, .int i11])), (hQ, .inr (11, [.ref hKi, .ref hPl, .ref hNu, y3, .int j4, .int j5, y6])), (hKi, .inl (cI, 2001, .inl kf)), (hPl, .inl (cI, 2001, .inl pf)), (hNu, .inl (cJ, 2001, .inr (.inl vf)))] := hD
  have hK : va_K (dC, dI) vwCl [(cB, .byte), (cI, .int), (cJ, .long), (cZ, .boolean)] s := hK
  refine lv_lload_n hx hb dX9_readName_11 rfl (lv_at hl 0 rfl) ?_
  have hP9 := hP.sub (ws' := [(h0, .inr (10, [.int fl, .int pl, .ref hCd, w3, .int i4, .int i5, w6, .ref hQ, .int (nI x1), .int (nI z1), w10, .int i11])), (hQ, .inr (11, [.ref hKi, .ref hPl, .ref hNu, y3, .int j4, .int j5, y6])), (hKi, .inl (cI, 2001, .inl kf)), (hPl, .inl (cI, 2001, .inl pf)), (hNu, .inl (cJ, 2001, .inr (.inl vf))), (hCd, .inr (2, [.int (nI s1), .ref hA1, .ref hA2, .ref hA3, .ref hA4, .ref hA5, .ref hA6, .ref hA7, g8, g9, g10, g11, .int tq]))]) [1, 2, 3, 4, 5, 0] rfl
  have hD9 := hD.sub (ws' := [(h0, .inr (10, [.int fl, .int pl, .ref hCd, w3, .int i4, .int i5, w6, .ref hQ, .int (nI x1), .int (nI z1), w10, .int i11])), (hQ, .inr (11, [.ref hKi, .ref hPl, .ref hNu, y3, .int j4, .int j5, y6])), (hKi, .inl (cI, 2001, .inl kf)), (hPl, .inl (cI, 2001, .inl pf)), (hNu, .inl (cJ, 2001, .inr (.inl vf))), (hCd, .inr (2, [.int (nI s1), .ref hA1, .ref hA2, .ref hA3, .ref hA4, .ref hA5, .ref hA6, .ref hA7, g8, g9, g10, g11, .int tq]))]) [1, 2, 3, 4, 5, 0] (by decide) rfl
  have hK9 := hK.sub (tys' := [(cB, .byte), (cI, .int), (cJ, .long), (cZ, .boolean)]) [0, 1, 2, 3] rfl
  exact W.lret (v := (vf x1)) hx hb hr (fun t_ ht hW => ⟨⟨(vf x1), (), rfl, rfl, by rw [ht]; exact hP9, va_K.moved hW.alike hK9, hD9⟩, hS.F ht⟩) hS.2.2 dX9_readName_12
theorem dX9_readLeaf_0 : decode cX9_readLeaf 0 = .ok (.aload_n 0, 1) := by decide +kernel
theorem dX9_readLeaf_1 : decode cX9_readLeaf 1 = .ok (.invokevirtual 125, 3) := by decide +kernel
theorem dX9_readLeaf_4 : decode cX9_readLeaf 4 = .ok (.ldc2_w 292, 3) := by decide +kernel
theorem dX9_readLeaf_7 : decode cX9_readLeaf 7 = .ok (.lsub, 1) := by decide +kernel
theorem dX9_readLeaf_8 : decode cX9_readLeaf 8 = .ok (.lstore_n 2, 1) := by decide +kernel
theorem dX9_readLeaf_9 : decode cX9_readLeaf 9 = .ok (.aload_n 0, 1) := by decide +kernel
theorem dX9_readLeaf_10 : decode cX9_readLeaf 10 = .ok (.invokevirtual 114, 3) := by decide +kernel
theorem dX9_readLeaf_13 : decode cX9_readLeaf 13 = .ok (.bipush 39, 2) := by decide +kernel
theorem dX9_readLeaf_15 : decode cX9_readLeaf 15 = .ok (.if_icmp .ne 17, 3) := by decide +kernel
theorem dX9_readLeaf_18 : decode cX9_readLeaf 18 = .ok (.lload_n 2, 1) := by decide +kernel
theorem dX9_readLeaf_19 : decode cX9_readLeaf 19 = .ok (.lconst 0, 1) := by decide +kernel
theorem dX9_readLeaf_20 : decode cX9_readLeaf 20 = .ok (.lcmp, 1) := by decide +kernel
theorem dX9_readLeaf_21 : decode cX9_readLeaf 21 = .ok (.ifCond .lt 11, 3) := by decide +kernel
theorem dX9_readLeaf_24 : decode cX9_readLeaf 24 = .ok (.lload_n 2, 1) := by decide +kernel
theorem dX9_readLeaf_25 : decode cX9_readLeaf 25 = .ok (.ldc2_w 294, 3) := by decide +kernel
theorem dX9_readLeaf_28 : decode cX9_readLeaf 28 = .ok (.lcmp, 1) := by decide +kernel
theorem dX9_readLeaf_29 : decode cX9_readLeaf 29 = .ok (.ifCond .le 15, 3) := by decide +kernel
theorem dX9_readLeaf_32 : decode cX9_readLeaf 32 = .ok (.aload_n 0, 1) := by decide +kernel
theorem dX9_readLeaf_33 : decode cX9_readLeaf 33 = .ok (.iconst 1, 1) := by decide +kernel
theorem dX9_readLeaf_34 : decode cX9_readLeaf 34 = .ok (.aload_n 0, 1) := by decide +kernel
theorem dX9_readLeaf_35 : decode cX9_readLeaf 35 = .ok (.invokevirtual 118, 3) := by decide +kernel
theorem dX9_readLeaf_38 : decode cX9_readLeaf 38 = .ok (.invokevirtual 121, 3) := by decide +kernel
theorem dX9_readLeaf_41 : decode cX9_readLeaf 41 = .ok (.goto 64, 3) := by decide +kernel
theorem dX9_readLeaf_44 : decode cX9_readLeaf 44 = .ok (.aload_n 0, 1) := by decide +kernel
theorem dX9_readLeaf_45 : decode cX9_readLeaf 45 = .ok (.getfield 76, 3) := by decide +kernel
theorem dX9_readLeaf_48 : decode cX9_readLeaf 48 = .ok (.aload_n 0, 1) := by decide +kernel
theorem dX9_readLeaf_49 : decode cX9_readLeaf 49 = .ok (.getfield 32, 3) := by decide +kernel
theorem dX9_readLeaf_52 : decode cX9_readLeaf 52 = .ok (.arraylength, 1) := by decide +kernel
theorem dX9_readLeaf_53 : decode cX9_readLeaf 53 = .ok (.if_icmp .lt 16, 3) := by decide +kernel
theorem dX9_readLeaf_56 : decode cX9_readLeaf 56 = .ok (.aload_n 0, 1) := by decide +kernel
theorem dX9_readLeaf_57 : decode cX9_readLeaf 57 = .ok (.bipush 7, 2) := by decide +kernel
theorem dX9_readLeaf_59 : decode cX9_readLeaf 59 = .ok (.aload_n 0, 1) := by decide +kernel
theorem dX9_readLeaf_60 : decode cX9_readLeaf 60 = .ok (.invokevirtual 118, 3) := by decide +kernel
theorem dX9_readLeaf_63 : decode cX9_readLeaf 63 = .ok (.invokevirtual 121, 3) := by decide +kernel
theorem dX9_readLeaf_66 : decode cX9_readLeaf 66 = .ok (.goto 39, 3) := by decide +kernel
theorem dX9_readLeaf_69 : decode cX9_readLeaf 69 = .ok (.aload_n 1, 1) := by decide +kernel
theorem dX9_readLeaf_70 : decode cX9_readLeaf 70 = .ok (.lload_n 2, 1) := by decide +kernel
theorem dX9_readLeaf_71 : decode cX9_readLeaf 71 = .ok (.l2i, 1) := by decide +kernel
theorem dX9_readLeaf_72 : decode cX9_readLeaf 72 = .ok (.putfield 80, 3) := by decide +kernel
theorem dX9_readLeaf_75 : decode cX9_readLeaf 75 = .ok (.aload_n 0, 1) := by decide +kernel
theorem dX9_readLeaf_76 : decode cX9_readLeaf 76 = .ok (.getfield 32, 3) := by decide +kernel
theorem dX9_readLeaf_79 : decode cX9_readLeaf 79 = .ok (.aload_n 0, 1) := by decide +kernel
theorem dX9_readLeaf_80 : decode cX9_readLeaf 80 = .ok (.getfield 76, 3) := by decide +kernel
theorem dX9_readLeaf_83 : decode cX9_readLeaf 83 = .ok (.aload_n 1, 1) := by decide +kernel
theorem dX9_readLeaf_84 : decode cX9_readLeaf 84 = .ok (.aastore, 1) := by decide +kernel
theorem dX9_readLeaf_85 : decode cX9_readLeaf 85 = .ok (.aload_n 0, 1) := by decide +kernel
theorem dX9_readLeaf_86 : decode cX9_readLeaf 86 = .ok (.dup, 1) := by decide +kernel
theorem dX9_readLeaf_87 : decode cX9_readLeaf 87 = .ok (.getfield 76, 3) := by decide +kernel
theorem dX9_readLeaf_90 : decode cX9_readLeaf 90 = .ok (.iconst 1, 1) := by decide +kernel
theorem dX9_readLeaf_91 : decode cX9_readLeaf 91 = .ok (.iadd, 1) := by decide +kernel
theorem dX9_readLeaf_92 : decode cX9_readLeaf 92 = .ok (.putfield 76, 3) := by decide +kernel
theorem dX9_readLeaf_95 : decode cX9_readLeaf 95 = .ok (.aload_n 0, 1) := by decide +kernel
theorem dX9_readLeaf_96 : decode cX9_readLeaf 96 = .ok (.dup, 1) := by decide +kernel
theorem dX9_readLeaf_97 : decode cX9_readLeaf 97 = .ok (.getfield 99, 3) := by decide +kernel
theorem dX9_readLeaf_100 : decode cX9_readLeaf 100 = .ok (.iconst 1, 1) := by decide +kernel
theorem dX9_readLeaf_101 : decode cX9_readLeaf 101 = .ok (.iadd, 1) := by decide +kernel
theorem dX9_readLeaf_102 : decode cX9_readLeaf 102 = .ok (.putfield 99, 3) := by decide +kernel
theorem dX9_readLeaf_105 : decode cX9_readLeaf 105 = .ok (.return_, 1) := by decide +kernel
abbrev cs_t_X9_readLeaf_f (cB cI cJ cZ : ClassId) (h0 hQ hKi hPl hNu : Nat) (kf pf : Nat → Int32) (vf : Nat → Int64) (fl pl : Int32) (w3 : Value) (i4 i5 : Int32) (w6 : Value) (x1 z1 : Nat) (w10 : Value) (i11 : Int32) (y3 : Value) (j4 j5 : Int32) (y6 : Value) (hCd hA1 hA2 hA3 hA4 hA5 hA6 hA7 s1 : Nat) (g8 g9 g10 g11 : Value) (tq : Int32) (hSo : Nat) : va_W := [(h0, .inr (10, [.int fl, .int pl, .ref hCd, w3, .int i4, .int i5, w6, .ref hQ, .int (nI x1), .int (nI z1), w10, .int i11])), (hQ, .inr (11, [.ref hKi, .ref hPl, .ref hNu, y3, .int j4, .int j5, y6])), (hKi, .inl (cI, 2001, .inl kf)), (hPl, .inl (cI, 2001, .inl pf)), (hNu, .inl (cJ, 2001, .inr (.inl vf))), (hCd, .inr (2, [.int (nI s1), .ref hA1, .ref hA2, .ref hA3, .ref hA4, .ref hA5, .ref hA6, .ref hA7, g8, g9, g10, g11, .int tq]))]
abbrev pc_t_X9_readLeaf_f (dC : Nat → ClassId) (dI : Nat → Nat → Nat) (sz : Nat) (cB cI cJ cZ : ClassId) (h0 hQ hKi hPl hNu : Nat) (kf pf : Nat → Int32) (vf : Nat → Int64) (fl pl : Int32) (w3 : Value) (i4 i5 : Int32) (w6 : Value) (x1 z1 : Nat) (w10 : Value) (i11 : Int32) (y3 : Value) (j4 j5 : Int32) (y6 : Value) (hCd hA1 hA2 hA3 hA4 hA5 hA6 hA7 s1 : Nat) (g8 g9 g10 g11 : Value) (tq : Int32) (hSo : Nat) : Array Value → State → Prop := va_Pc [.ref h0, .ref hSo] (fun U => U.heap.size = sz ∧ va_P (dC, dI) vwCl [(h0, .inr (10, [.int fl, .int pl, .ref hCd, w3, .int i4, .int i5, w6, .ref hQ, .int (nI x1), .int (nI z1), w10, .int i11])), (hQ, .inr (11, [.ref hKi, .ref hPl, .ref hNu, y3, .int j4, .int j5, y6])), (hKi, .inl (cI, 2001, .inl kf)), (hPl, .inl (cI, 2001, .inl pf)), (hNu, .inl (cJ, 2001, .inr (.inl vf))), (hCd, .inr (2, [.int (nI s1), .ref hA1, .ref hA2, .ref hA3, .ref hA4, .ref hA5, .ref hA6, .ref hA7, g8, g9, g10, g11, .int tq]))] U.heap ∧ va_K (dC, dI) vwCl [(cB, .byte), (cI, .int), (cJ, .long), (cZ, .boolean)] U ∧ va_D (fun _ => True) [(h0, .inr (10, [.int fl, .int pl, .ref hCd, w3, .int i4, .int i5, w6, .ref hQ, .int (nI x1), .int (nI z1), w10, .int i11])), (hQ, .inr (11, [.ref hKi, .ref hPl, .ref hNu, y3, .int j4, .int j5, y6])), (hKi, .inl (cI, 2001, .inl kf)), (hPl, .inl (cI, 2001, .inl pf)), (hNu, .inl (cJ, 2001, .inr (.inl vf))), (hCd, .inr (2, [.int (nI s1), .ref hA1, .ref hA2, .ref hA3, .ref hA4, .ref hA5, .ref hA6, .ref hA7, g8, g9, g10, g11, .int tq]))])
abbrev qc_t_X9_readLeaf_f (dC : Nat → ClassId) (dI : Nat → Nat → Nat) (cB cI cJ cZ : ClassId) (h0 hQ hKi hPl hNu : Nat) (kf pf : Nat → Int32) (vf : Nat → Int64) (fl pl : Int32) (w3 : Value) (i4 i5 : Int32) (w6 : Value) (x1 z1 : Nat) (w10 : Value) (i11 : Int32) (y3 : Value) (j4 j5 : Int32) (y6 : Value) (hCd hA1 hA2 hA3 hA4 hA5 hA6 hA7 s1 : Nat) (g8 g9 g10 g11 : Value) (tq : Int32) (hSo : Nat) (A : Nat → Prop) : Array Value → State → Outcome → State → Prop := va_Qv (fun (u : Unit) => match u with | _ => True) (fun (u : Unit) t_ => match u with | _ => va_P (dC, dI) vwCl [(h0, .inr (10, [.int fl, .int pl, .ref hCd, w3, .int i4, .int i5, w6, .ref hQ, .int (nI x1), .int (nI z1), w10, .int i11])), (hQ, .inr (11, [.ref hKi, .ref hPl, .ref hNu, y3, .int j4, .int j5, y6])), (hKi, .inl (cI, 2001, .inl kf)), (hPl, .inl (cI, 2001, .inl pf)), (hNu, .inl (cJ, 2001, .inr (.inl vf))), (hCd, .inr (2, [.int (nI s1), .ref hA1, .ref hA2, .ref hA3, .ref hA4, .ref hA5, .ref hA6, .ref hA7, g8, g9, g10, g11, .int tq]))] t_.heap ∧ va_K (dC, dI) vwCl [(cB, .byte), (cI, .int), (cJ, .long), (cZ, .boolean)] t_ ∧ va_D A [(h0, .inr (10, [.int fl, .int pl, .ref hCd, w3, .int i4, .int i5, w6, .ref hQ, .int (nI x1), .int (nI z1), w10, .int i11])), (hQ, .inr (11, [.ref hKi, .ref hPl, .ref hNu, y3, .int j4, .int j5, y6])), (hKi, .inl (cI, 2001, .inl kf)), (hPl, .inl (cI, 2001, .inl pf)), (hNu, .inl (cJ, 2001, .inr (.inl vf))), (hCd, .inr (2, [.int (nI s1), .ref hA1, .ref hA2, .ref hA3, .ref hA4, .ref hA5, .ref hA6, .ref hA7, g8, g9, g10, g11, .int tq]))]) A
set_option maxHeartbeats 4000000 in
set_option maxRecDepth 100000 in
theorem t_X9_readLeaf_f (l : Launch) (dC : Nat → ClassId) (dI : Nat → Nat → Nat) (sz : Nat) (cB cI cJ cZ : ClassId) (h0 hQ hKi hPl hNu : Nat) (kf pf : Nat → Int32) (vf : Nat → Int64) (fl pl : Int32) (w3 : Value) (i4 i5 : Int32) (w6 : Value) (x1 z1 : Nat) (w10 : Value) (i11 : Int32) (y3 : Value) (j4 j5 : Int32) (y6 : Value) (hCd hA1 hA2 hA3 hA4 hA5 hA6 hA7 s1 : Nat) (g8 g9 g10 g11 : Value) (tq : Int32) (hSo : Nat) (hx1 : x1 ≤ 2000) (hfl : ¬ fl = 0) : Met l yX9_readLeaf (wsOf yX9_readLeaf cX9_readLeaf 4 none) ({ frames := 2, cells := 0, slots := 0, locals := 120 }) (pc_t_X9_readLeaf_f dC dI sz cB cI cJ cZ h0 hQ hKi hPl hNu kf pf vf fl pl w3 i4 i5 w6 x1 z1 w10 i11 y3 j4 j5 y6 hCd hA1 hA2 hA3 hA4 hA5 hA6 hA7 s1 g8 g9 g10 g11 tq hSo) (qc_t_X9_readLeaf_f dC dI cB cI cJ cZ h0 hQ hKi hPl hNu kf pf vf fl pl w3 i4 i5 w6 x1 z1 w10 i11 y3 j4 j5 y6 hCd hA1 hA2 hA3 hA4 hA5 hA6 hA7 s1 g8 g9 g10 g11 tq hSo (va_A (cs_t_X9_readLeaf_f cB cI cJ cZ h0 hQ hKi hPl hNu kf pf vf fl pl w3 i4 i5 w6 x1 z1 w10 i11 y3 j4 j5 y6 hCd hA1 hA2 hA3 hA4 hA5 hA6 hA7 s1 g8 g9 g10 g11 tq hSo) sz)) 0 0 (va_A (cs_t_X9_readLeaf_f cB cI cJ cZ h0 hQ hKi hPl hNu kf pf vf fl pl w3 i4 i5 w6 x1 z1 w10 i11 y3 j4 j5 y6 hCd hA1 hA2 hA3 hA4 hA5 hA6 hA7 s1 g8 g9 g10 g11 tq hSo) sz) := by
  refine Met.ofW (cc := cX9_readLeaf) (maxL := 4) (ret := none) (by decide) rfl ?_
  intro p e s m args below meth c s₁ B hml hv
  obtain ⟨rfl, hsz, hP, hK, hD0⟩ := hv
  have hx := B.exec
  have hb := B.bytes
  have hr := B.returns
  have hts := atoms_spec (ws := (wsOf yX9_readLeaf cX9_readLeaf 4 none)) B.pre
  have hown : s.vm.findClass RX9 = some m.cls := findClass_of_methodNamed B.named
  have hlocks := B.notSynchronized
  subst hsz
  have hD := hD0.self (sz := s.heap.size)
  generalize hAe : va_A (cs_t_X9_readLeaf_f cB cI cJ cZ h0 hQ hKi hPl hNu kf pf vf fl pl w3 i4 i5 w6 x1 z1 w10 i11 y3 j4 j5 y6 hCd hA1 hA2 hA3 hA4 hA5 hA6 hA7 s1 g8 g9 g10 g11 tq hSo) s.heap.size = A at hD ⊢
  have hA : ∀ q : Nat, s.heap.size ≤ q → A q := fun q h => by rw [← hAe]; exact Or.inr h
  have hS : va_S A s.heap s.heap [] := va_S.rf
  have hP : va_P (dC, dI) vwCl [(h0, .inr (10, [.int fl, .int pl, .ref hCd, w3, .int i4, .int i5, w6, .ref hQ, .int (nI x1), .int (nI z1), w10, .int i11])), (hQ, .inr (11, [.ref hKi, .ref hPl, .ref hNu, y3, .int j4, .int j5, y6])), (hKi, .inl (cI, 2001, .inl kf)), (hPl, .inl (cI, 2001, .inl pf)), (hNu, .inl (cJ, 2001, .inr (.inl vf))), (hCd, .inr (2, [.int (nI s1), .ref hA1, .ref hA2, .ref hA3, .ref hA4, .ref hA5, .ref hA6, .ref hA7, g8, g9, g10, g11, .int tq]))] s.heap := hP
  have hl := lv_entry ([.ref h0, .ref hSo]) (n := 4) (Nat.le_of_ble_eq_true rfl)
  rw [lg_entry_eq]
  generalize (lg_sl ([.ref h0, .ref hSo]) ++ List.replicate (4 - (lg_sl ([.ref h0, .ref hSo])).length) Slot.unset).toArray = ls at hl ⊢
  have hl : lv_has ls 4 [(0, .ref h0), (1, .ref hSo)] := hl
  refine lv_aload_n hx hb dX9_readLeaf_0 rfl (lv_at hl 0 rfl) ?_
  have hPc := hP.sub (ws' := [(h0, .inr (10, [.int fl, .int pl, .ref hCd, w3, .int i4, .int i5, w6, .ref hQ, .int (nI x1), .int (nI z1), w10, .int i11])), (hQ, .inr (11, [.ref hKi, .ref hPl, .ref hNu, y3, .int j4, .int j5, y6])), (hKi, .inl (cI, 2001, .inl kf)), (hPl, .inl (cI, 2001, .inl pf)), (hNu, .inl (cJ, 2001, .inr (.inl vf)))]) [0, 1, 2, 3, 4] rfl
  have hDc := hD.sub (ws' := [(h0, .inr (10, [.int fl, .int pl, .ref hCd, w3, .int i4, .int i5, w6, .ref hQ, .int (nI x1), .int (nI z1), w10, .int i11])), (hQ, .inr (11, [.ref hKi, .ref hPl, .ref hNu, y3, .int j4, .int j5, y6])), (hKi, .inl (cI, 2001, .inl kf)), (hPl, .inl (cI, 2001, .inl pf)), (hNu, .inl (cJ, 2001, .inr (.inl vf)))]) [0, 1, 2, 3, 4] (by decide) rfl
  have hKc := hK.sub (tys' := [(cB, .byte), (cI, .int), (cJ, .long), (cZ, .boolean)]) [0, 1, 2, 3] rfl
  have hFc := va_free (wc := [(h0, .inr (10, [.int fl, .int pl, .ref hCd, w3, .int i4, .int i5, w6, .ref hQ, .int (nI x1), .int (nI z1), w10, .int i11])), (hQ, .inr (11, [.ref hKi, .ref hPl, .ref hNu, y3, .int j4, .int j5, y6])), (hKi, .inl (cI, 2001, .inl kf)), (hPl, .inl (cI, 2001, .inl pf)), (hNu, .inl (cJ, 2001, .inr (.inl vf)))]) hD hS hA [0, 1, 2, 3, 4] rfl
  refine va_calll (va_runV (As := []) (rest := []) ⟨hx, hb, hml, hown, hts⟩ (t_X9_number l dC dI s.heap.size cB cI cJ cZ h0 hQ hKi hPl hNu kf pf vf fl pl (.ref hCd) w3 i4 i5 w6 x1 z1 w10 i11 y3 j4 j5 y6  hx1) (cwV 0 hts (gd_all (in_V kw_983 kw_985 kw_29 kw_193 kc_X9_number)) rfl rfl rfl (by decide +kernel) ⟨Nat.le_of_ble_eq_true rfl, Nat.le_of_ble_eq_true rfl⟩) ⟨fun a U g mk q => by obtain ⟨q0, q1, qP, qK, qD⟩ := q; exact ⟨q0, q1, qP, va_K.moved (u := U) (U := U.calling g mk a) (Vm.Alike.refl U.vm) qK, qD⟩, va_recv hKc hPc (ci := 10) (q0 := 0) rfl rfl, fun U hU hW => ⟨rfl, by rw [hU], by rw [hU]; exact hPc, va_K.moved hW.alike hKc, hDc.weaken (fun _ _ _ _ => trivial)⟩⟩ rfl rfl hl.1 rfl (lv_room (Nat.le_of_ble_eq_true rfl)) dX9_readLeaf_1 ⟨Nat.le_of_ble_eq_true rfl, Nat.le_of_ble_eq_true rfl⟩) hS (fun q _ h => hFc q h) hFc (fun r_1 u t_ H1 locs ht hvm hw hB hz1 hk1 hS => ?_)
  obtain ⟨hP1, hK1, hD1⟩ := hB
  rw [ht] at hP1
  have hK1 := va_K.moved hvm.symm hK1
  obtain ⟨hP, hD⟩ := va_join (wr := [(hCd, .inr (2, [.int (nI s1), .ref hA1, .ref hA2, .ref hA3, .ref hA4, .ref hA5, .ref hA6, .ref hA7, g8, g9, g10, g11, .int tq]))]) (w1 := [(h0, .inr (10, [.int fl, .int pl, .ref hCd, w3, .int i4, .int i5, w6, .ref hQ, .int (nI x1), .int (nI z1), w10, .int i11])), (hQ, .inr (11, [.ref hKi, .ref hPl, .ref hNu, y3, .int j4, .int j5, y6])), (hKi, .inl (cI, 2001, .inl kf)), (hPl, .inl (cI, 2001, .inl pf)), (hNu, .inl (cJ, 2001, .inr (.inl vf)))]) hP hD [0, 1, 2, 3, 4] [5] rfl rfl (by decide) (by decide) hk1 hFc hP1 hD1
  have hK := (hK.sub (tys' := []) [] rfl).app hK1
  generalize H1 = H at hP hS ⊢
  have hP : va_P (dC, dI) vwCl [(hCd, .inr (2, [.int (nI s1), .ref hA1, .ref hA2, .ref hA3, .ref hA4, .ref hA5, .ref hA6, .ref hA7, g8, g9, g10, g11, .int tq])), (h0, .inr (10, [.int fl, .int pl, .ref hCd, w3, .int i4, .int i5, w6, .ref hQ, .int (nI x1), .int (nI z1), w10, .int i11])), (hQ, .inr (11, [.ref hKi, .ref hPl, .ref hNu, y3, .int j4, .int j5, y6])), (hKi, .inl (cI, 2001, .inl kf)), (hPl, .inl (cI, 2001, .inl pf)), (hNu, .inl (cJ, 2001, .inr (.inl vf)))] H := hP
  have hD : va_D A [(hCd, .inr (2, [.int (nI s1), .ref hA1, .ref hA2, .ref hA3, .ref hA4, .ref hA5, .ref hA6, .ref hA7, g8, g9, g10, g11, .int tq])), (h0, .inr (10, [.int fl, .int pl, .ref hCd, w3, .int i4, .int i5, w6, .ref hQ, .int (nI x1), .int (nI z1), w10, .int i11])), (hQ, .inr (11, [.ref hKi, .ref hPl, .ref hNu, y3, .int j4, .int j5, y6])), (hKi, .inl (cI, 2001, .inl kf)), (hPl, .inl (cI, 2001, .inl pf)), (hNu, .inl (cJ, 2001, .inr (.inl vf)))] := hD
  have hK : va_K (dC, dI) vwCl [(cB, .byte), (cI, .int), (cJ, .long), (cZ, .boolean)] s := hK
  have er_1 : r_1 = vf x1 := hw
  rw [er_1]
  refine lv_ldc2 hx hb hown (hts _ (List.mem_cons_of_mem _ kw_1118)) dX9_readLeaf_4 ?_
  refine lv_lsub hx hb dX9_readLeaf_7 ?_
  refine lv_lstore_n (lv' := [(2, .long ((vf x1) - (730))), (0, .ref h0), (1, .ref hSo)]) hx hb dX9_readLeaf_8 rfl hl (by decide) rfl (fun ls hl => ?_)
  refine lv_aload_n hx hb dX9_readLeaf_9 rfl (lv_at hl 1 rfl) ?_
  have hPc := hP.sub (ws' := [(h0, .inr (10, [.int fl, .int pl, .ref hCd, w3, .int i4, .int i5, w6, .ref hQ, .int (nI x1), .int (nI z1), w10, .int i11])), (hQ, .inr (11, [.ref hKi, .ref hPl, .ref hNu, y3, .int j4, .int j5, y6])), (hKi, .inl (cI, 2001, .inl kf)), (hPl, .inl (cI, 2001, .inl pf)), (hNu, .inl (cJ, 2001, .inr (.inl vf)))]) [1, 2, 3, 4, 5] rfl
  have hDc := hD.sub (ws' := [(h0, .inr (10, [.int fl, .int pl, .ref hCd, w3, .int i4, .int i5, w6, .ref hQ, .int (nI x1), .int (nI z1), w10, .int i11])), (hQ, .inr (11, [.ref hKi, .ref hPl, .ref hNu, y3, .int j4, .int j5, y6])), (hKi, .inl (cI, 2001, .inl kf)), (hPl, .inl (cI, 2001, .inl pf)), (hNu, .inl (cJ, 2001, .inr (.inl vf)))]) [1, 2, 3, 4, 5] (by decide) rfl
  have hKc := hK.sub (tys' := [(cB, .byte), (cI, .int), (cJ, .long), (cZ, .boolean)]) [0, 1, 2, 3] rfl
  have hFc := va_free (wc := [(h0, .inr (10, [.int fl, .int pl, .ref hCd, w3, .int i4, .int i5, w6, .ref hQ, .int (nI x1), .int (nI z1), w10, .int i11])), (hQ, .inr (11, [.ref hKi, .ref hPl, .ref hNu, y3, .int j4, .int j5, y6])), (hKi, .inl (cI, 2001, .inl kf)), (hPl, .inl (cI, 2001, .inl pf)), (hNu, .inl (cJ, 2001, .inr (.inl vf)))]) hD hS hA [1, 2, 3, 4, 5] rfl
  refine va_calli (va_runV (As := []) (rest := []) ⟨hx, hb, hml, hown, hts⟩ (t_X9_kind l dC dI H.size cB cI cJ cZ h0 hQ hKi hPl hNu kf pf vf fl pl (.ref hCd) w3 i4 i5 w6 x1 z1 w10 i11 y3 j4 j5 y6  hx1) (cwV 0 hts (gd_all (in_V kw_907 kw_909 kw_12 kw_193 kc_X9_kind)) rfl rfl rfl (by decide +kernel) ⟨Nat.le_of_ble_eq_true rfl, Nat.le_of_ble_eq_true rfl⟩) ⟨fun a U g mk q => by obtain ⟨q0, q1, qP, qK, qD⟩ := q; exact ⟨q0, q1, qP, va_K.moved (u := U) (U := U.calling g mk a) (Vm.Alike.refl U.vm) qK, qD⟩, va_recv hKc hPc (ci := 10) (q0 := 0) rfl rfl, fun U hU hW => ⟨rfl, by rw [hU], by rw [hU]; exact hPc, va_K.moved hW.alike hKc, hDc.weaken (fun _ _ _ _ => trivial)⟩⟩ rfl rfl hl.1 rfl (lv_room (Nat.le_of_ble_eq_true rfl)) dX9_readLeaf_10 ⟨Nat.le_of_ble_eq_true rfl, Nat.le_of_ble_eq_true rfl⟩) hS (fun q _ h => hFc q h) hFc (fun r_2 u t_ H1 locs ht hvm hw hB hz1 hk1 hS => ?_)
  obtain ⟨hP1, hK1, hD1⟩ := hB
  rw [ht] at hP1
  have hK1 := va_K.moved hvm.symm hK1
  obtain ⟨hP, hD⟩ := va_join (wr := [(hCd, .inr (2, [.int (nI s1), .ref hA1, .ref hA2, .ref hA3, .ref hA4, .ref hA5, .ref hA6, .ref hA7, g8, g9, g10, g11, .int tq]))]) (w1 := [(h0, .inr (10, [.int fl, .int pl, .ref hCd, w3, .int i4, .int i5, w6, .ref hQ, .int (nI x1), .int (nI z1), w10, .int i11])), (hQ, .inr (11, [.ref hKi, .ref hPl, .ref hNu, y3, .int j4, .int j5, y6])), (hKi, .inl (cI, 2001, .inl kf)), (hPl, .inl (cI, 2001, .inl pf)), (hNu, .inl (cJ, 2001, .inr (.inl vf)))]) hP hD [1, 2, 3, 4, 5] [0] rfl rfl (by decide) (by decide) hk1 hFc hP1 hD1
  have hK := (hK.sub (tys' := []) [] rfl).app hK1
  generalize H1 = H at hP hS ⊢
  have hP : va_P (dC, dI) vwCl [(hCd, .inr (2, [.int (nI s1), .ref hA1, .ref hA2, .ref hA3, .ref hA4, .ref hA5, .ref hA6, .ref hA7, g8, g9, g10, g11, .int tq])), (h0, .inr (10, [.int fl, .int pl, .ref hCd, w3, .int i4, .int i5, w6, .ref hQ, .int (nI x1), .int (nI z1), w10, .int i11])), (hQ, .inr (11, [.ref hKi, .ref hPl, .ref hNu, y3, .int j4, .int j5, y6])), (hKi, .inl (cI, 2001, .inl kf)), (hPl, .inl (cI, 2001, .inl pf)), (hNu, .inl (cJ, 2001, .inr (.inl vf)))] H := hP
  have hD : va_D A [(hCd, .inr (2, [.int (nI s1), .ref hA1, .ref hA2, .ref hA3, .ref hA4, .ref hA5, .ref hA6, .ref hA7, g8, g9, g10, g11, .int tq])), (h0, .inr (10, [.int fl, .int pl, .ref hCd, w3, .int i4, .int i5, w6, .ref hQ, .int (nI x1), .int (nI z1), w10, .int i11])), (hQ, .inr (11, [.ref hKi, .ref hPl, .ref hNu, y3, .int j4, .int j5, y6])), (hKi, .inl (cI, 2001, .inl kf)), (hPl, .inl (cI, 2001, .inl pf)), (hNu, .inl (cJ, 2001, .inr (.inl vf)))] := hD
  have hK : va_K (dC, dI) vwCl [(cB, .byte), (cI, .int), (cJ, .long), (cZ, .boolean)] s := hK
  have er_2 : r_2 = 57 := hw.trans (if_neg hfl)
  rw [er_2]
  refine lv_bipush (v := 39) hx hb dX9_readLeaf_13 (by decide) ?_
  refine lv_icmp_ne (tgt := 32) hx hb dX9_readLeaf_15 (by decide) (fun c_3 => ?_) (fun c_3 => ?_)
  · skip
    refine lv_aload_n hx hb dX9_readLeaf_32 rfl (lv_at hl 1 rfl) ?_
    refine lv_iconst (v := 1) hx hb dX9_readLeaf_33 (by decide) ?_
    refine lv_aload_n hx hb dX9_readLeaf_34 rfl (lv_at hl 1 rfl) ?_
    have hPc := hP.sub (ws' := [(h0, .inr (10, [.int fl, .int pl, .ref hCd, w3, .int i4, .int i5, w6, .ref hQ, .int (nI x1), .int (nI z1), w10, .int i11])), (hQ, .inr (11, [.ref hKi, .ref hPl, .ref hNu, y3, .int j4, .int j5, y6])), (hKi, .inl (cI, 2001, .inl kf)), (hPl, .inl (cI, 2001, .inl pf)), (hNu, .inl (cJ, 2001, .inr (.inl vf)))]) [1, 2, 3, 4, 5] rfl
    have hDc := hD.sub (ws' := [(h0, .inr (10, [.int fl, .int pl, .ref hCd, w3, .int i4, .int i5, w6, .ref hQ, .int (nI x1), .int (nI z1), w10, .int i11])), (hQ, .inr (11, [.ref hKi, .ref hPl, .ref hNu, y3, .int j4, .int j5, y6])), (hKi, .inl (cI, 2001, .inl kf)), (hPl, .inl (cI, 2001, .inl pf)), (hNu, .inl (cJ, 2001, .inr (.inl vf)))]) [1, 2, 3, 4, 5] (by decide) rfl
    have hKc := hK.sub (tys' := [(cB, .byte), (cI, .int), (cJ, .long), (cZ, .boolean)]) [0, 1, 2, 3] rfl
    have hFc := va_free (wc := [(h0, .inr (10, [.int fl, .int pl, .ref hCd, w3, .int i4, .int i5, w6, .ref hQ, .int (nI x1), .int (nI z1), w10, .int i11])), (hQ, .inr (11, [.ref hKi, .ref hPl, .ref hNu, y3, .int j4, .int j5, y6])), (hKi, .inl (cI, 2001, .inl kf)), (hPl, .inl (cI, 2001, .inl pf)), (hNu, .inl (cJ, 2001, .inr (.inl vf)))]) hD hS hA [1, 2, 3, 4, 5] rfl
    refine va_calli (va_runV (As := []) (rest := [.int 1, .ref h0]) ⟨hx, hb, hml, hown, hts⟩ (t_X9_here l dC dI H.size cB cI cJ cZ h0 hQ hKi hPl hNu kf pf vf fl pl (.ref hCd) w3 i4 i5 w6 x1 z1 w10 i11 y3 j4 j5 y6  hx1) (cwV 0 hts (gd_all (in_V kw_923 kw_925 kw_16 kw_193 kc_X9_here)) rfl rfl rfl (by decide +kernel) ⟨Nat.le_of_ble_eq_true rfl, Nat.le_of_ble_eq_true rfl⟩) ⟨fun a U g mk q => by obtain ⟨q0, q1, qP, qK, qD⟩ := q; exact ⟨q0, q1, qP, va_K.moved (u := U) (U := U.calling g mk a) (Vm.Alike.refl U.vm) qK, qD⟩, va_recv hKc hPc (ci := 10) (q0 := 0) rfl rfl, fun U hU hW => ⟨rfl, by rw [hU], by rw [hU]; exact hPc, va_K.moved hW.alike hKc, hDc.weaken (fun _ _ _ _ => trivial)⟩⟩ rfl rfl hl.1 rfl (lv_room (Nat.le_of_ble_eq_true rfl)) dX9_readLeaf_35 ⟨Nat.le_of_ble_eq_true rfl, Nat.le_of_ble_eq_true rfl⟩) hS (fun q _ h => hFc q h) hFc (fun r_4 u t_ H1 locs ht hvm hw hB hz1 hk1 hS => ?_)
    obtain ⟨hP1, hK1, hD1⟩ := hB
    rw [ht] at hP1
    have hK1 := va_K.moved hvm.symm hK1
    obtain ⟨hP, hD⟩ := va_join (wr := [(hCd, .inr (2, [.int (nI s1), .ref hA1, .ref hA2, .ref hA3, .ref hA4, .ref hA5, .ref hA6, .ref hA7, g8, g9, g10, g11, .int tq]))]) (w1 := [(h0, .inr (10, [.int fl, .int pl, .ref hCd, w3, .int i4, .int i5, w6, .ref hQ, .int (nI x1), .int (nI z1), w10, .int i11])), (hQ, .inr (11, [.ref hKi, .ref hPl, .ref hNu, y3, .int j4, .int j5, y6])), (hKi, .inl (cI, 2001, .inl kf)), (hPl, .inl (cI, 2001, .inl pf)), (hNu, .inl (cJ, 2001, .inr (.inl vf)))]) hP hD [1, 2, 3, 4, 5] [0] rfl rfl (by decide) (by decide) hk1 hFc hP1 hD1
    have hK := (hK.sub (tys' := []) [] rfl).app hK1
    generalize H1 = H at hP hS ⊢
    have hP : va_P (dC, dI) vwCl [(hCd, .inr (2, [.int (nI s1), .ref hA1, .ref hA2, .ref hA3, .ref hA4, .ref hA5, .ref hA6, .ref hA7, g8, g9, g10, g11, .int tq])), (h0, .inr (10, [.int fl, .int pl, .ref hCd, w3, .int i4, .int i5, w6, .ref hQ, .int (nI x1), .int (nI z1), w10, .int i11])), (hQ, .inr (11, [.ref hKi, .ref hPl, .ref hNu, y3, .int j4, .int j5, y6])), (hKi, .inl (cI, 2001, .inl kf)), (hPl, .inl (cI, 2001, .inl pf)), (hNu, .inl (cJ, 2001, .inr (.inl vf)))] H := hP
    have hD : va_D A [(hCd, .inr (2, [.int (nI s1), .ref hA1, .ref hA2, .ref hA3, .ref hA4, .ref hA5, .ref hA6, .ref hA7, g8, g9, g10, g11, .int tq])), (h0, .inr (10, [.int fl, .int pl, .ref hCd, w3, .int i4, .int i5, w6, .ref hQ, .int (nI x1), .int (nI z1), w10, .int i11])), (hQ, .inr (11, [.ref hKi, .ref hPl, .ref hNu, y3, .int j4, .int j5, y6])), (hKi, .inl (cI, 2001, .inl kf)), (hPl, .inl (cI, 2001, .inl pf)), (hNu, .inl (cJ, 2001, .inr (.inl vf)))] := hD
    have hK : va_K (dC, dI) vwCl [(cB, .byte), (cI, .int), (cJ, .long), (cZ, .boolean)] s := hK
    have er_4 : r_4 = pf x1 := hw
    rw [er_4]
    have hPc := hP.sub (ws' := [(h0, .inr (10, [.int fl, .int pl, .ref hCd, w3, .int i4, .int i5, w6, .ref hQ, .int (nI x1), .int (nI z1), w10, .int i11])), (hQ, .inr (11, [.ref hKi, .ref hPl, .ref hNu, y3, .int j4, .int j5, y6])), (hKi, .inl (cI, 2001, .inl kf)), (hPl, .inl (cI, 2001, .inl pf)), (hNu, .inl (cJ, 2001, .inr (.inl vf)))]) [1, 2, 3, 4, 5] rfl
    have hDc := hD.sub (ws' := [(h0, .inr (10, [.int fl, .int pl, .ref hCd, w3, .int i4, .int i5, w6, .ref hQ, .int (nI x1), .int (nI z1), w10, .int i11])), (hQ, .inr (11, [.ref hKi, .ref hPl, .ref hNu, y3, .int j4, .int j5, y6])), (hKi, .inl (cI, 2001, .inl kf)), (hPl, .inl (cI, 2001, .inl pf)), (hNu, .inl (cJ, 2001, .inr (.inl vf)))]) [1, 2, 3, 4, 5] (by decide) rfl
    have hKc := hK.sub (tys' := [(cB, .byte), (cI, .int), (cJ, .long), (cZ, .boolean)]) [0, 1, 2, 3] rfl
    have hFc := va_free (wc := [(h0, .inr (10, [.int fl, .int pl, .ref hCd, w3, .int i4, .int i5, w6, .ref hQ, .int (nI x1), .int (nI z1), w10, .int i11])), (hQ, .inr (11, [.ref hKi, .ref hPl, .ref hNu, y3, .int j4, .int j5, y6])), (hKi, .inl (cI, 2001, .inl kf)), (hPl, .inl (cI, 2001, .inl pf)), (hNu, .inl (cJ, 2001, .inr (.inl vf)))]) hD hS hA [1, 2, 3, 4, 5] rfl
    refine va_callv (va_runV (As := [.int 1, .int (pf x1)]) (rest := []) ⟨hx, hb, hml, hown, hts⟩ (t_X9_refuse_1 l dC dI H.size cB cI cJ cZ h0 hQ hKi hPl hNu kf pf vf fl pl (.ref hCd) w3 i4 i5 w6 x1 z1 w10 i11 y3 j4 j5 y6 1 (pf x1) hfl) (cwV 2 hts (gd_all (in_V kw_927 kw_928 kw_929 kw_193 kc_X9_refuse)) rfl rfl rfl (by decide +kernel) ⟨Nat.le_of_ble_eq_true rfl, Nat.le_of_ble_eq_true rfl⟩) ⟨fun a U g mk q => by obtain ⟨q0, q1, qP, qK, qD⟩ := q; exact ⟨q0, q1, qP, va_K.moved (u := U) (U := U.calling g mk a) (Vm.Alike.refl U.vm) qK, qD⟩, va_recv hKc hPc (ci := 10) (q0 := 0) rfl rfl, fun U hU hW => ⟨rfl, by rw [hU], by rw [hU]; exact hPc, va_K.moved hW.alike hKc, hDc.weaken (fun _ _ _ _ => trivial)⟩⟩ rfl rfl hl.1 rfl (lv_room (Nat.le_of_ble_eq_true rfl)) dX9_readLeaf_38 ⟨Nat.le_of_ble_eq_true rfl, Nat.le_of_ble_eq_true rfl⟩) hS (fun q _ h => hFc q h) hFc (fun u t_ H1 locs ht hvm hw hB hz1 hk1 hS => ?_)
    obtain ⟨hP1, hK1, hD1⟩ := hB
    rw [ht] at hP1
    have hK1 := va_K.moved hvm.symm hK1
    obtain ⟨hP, hD⟩ := va_join (wr := [(hCd, .inr (2, [.int (nI s1), .ref hA1, .ref hA2, .ref hA3, .ref hA4, .ref hA5, .ref hA6, .ref hA7, g8, g9, g10, g11, .int tq]))]) (w1 := [(h0, .inr (10, [.int fl, .int pl, .ref hCd, w3, .int i4, .int i5, w6, .ref hQ, .int (nI x1), .int (nI z1), w10, .int i11])), (hQ, .inr (11, [.ref hKi, .ref hPl, .ref hNu, y3, .int j4, .int j5, y6])), (hKi, .inl (cI, 2001, .inl kf)), (hPl, .inl (cI, 2001, .inl pf)), (hNu, .inl (cJ, 2001, .inr (.inl vf)))]) hP hD [1, 2, 3, 4, 5] [0] rfl rfl (by decide) (by decide) hk1 hFc hP1 hD1
    have hK := (hK.sub (tys' := []) [] rfl).app hK1
    generalize H1 = H at hP hS ⊢
    have hP : va_P (dC, dI) vwCl [(hCd, .inr (2, [.int (nI s1), .ref hA1, .ref hA2, .ref hA3, .ref hA4, .ref hA5, .ref hA6, .ref hA7, g8, g9, g10, g11, .int tq])), (h0, .inr (10, [.int fl, .int pl, .ref hCd, w3, .int i4, .int i5, w6, .ref hQ, .int (nI x1), .int (nI z1), w10, .int i11])), (hQ, .inr (11, [.ref hKi, .ref hPl, .ref hNu, y3, .int j4, .int j5, y6])), (hKi, .inl (cI, 2001, .inl kf)), (hPl, .inl (cI, 2001, .inl pf)), (hNu, .inl (cJ, 2001, .inr (.inl vf)))] H := hP
    have hD : va_D A [(hCd, .inr (2, [.int (nI s1), .ref hA1, .ref hA2, .ref hA3, .ref hA4, .ref hA5, .ref hA6, .ref hA7, g8, g9, g10, g11, .int tq])), (h0, .inr (10, [.int fl, .int pl, .ref hCd, w3, .int i4, .int i5, w6, .ref hQ, .int (nI x1), .int (nI z1), w10, .int i11])), (hQ, .inr (11, [.ref hKi, .ref hPl, .ref hNu, y3, .int j4, .int j5, y6])), (hKi, .inl (cI, 2001, .inl kf)), (hPl, .inl (cI, 2001, .inl pf)), (hNu, .inl (cJ, 2001, .inr (.inl vf)))] := hD
    have hK : va_K (dC, dI) vwCl [(cB, .byte), (cI, .int), (cJ, .long), (cZ, .boolean)] s := hK
    refine lv_goto (tgt := 105) hx hb dX9_readLeaf_41 (by decide) ?_
    have hP9 := hP.sub (ws' := [(h0, .inr (10, [.int fl, .int pl, .ref hCd, w3, .int i4, .int i5, w6, .ref hQ, .int (nI x1), .int (nI z1), w10, .int i11])), (hQ, .inr (11, [.ref hKi, .ref hPl, .ref hNu, y3, .int j4, .int j5, y6])), (hKi, .inl (cI, 2001, .inl kf)), (hPl, .inl (cI, 2001, .inl pf)), (hNu, .inl (cJ, 2001, .inr (.inl vf))), (hCd, .inr (2, [.int (nI s1), .ref hA1, .ref hA2, .ref hA3, .ref hA4, .ref hA5, .ref hA6, .ref hA7, g8, g9, g10, g11, .int tq]))]) [1, 2, 3, 4, 5, 0] rfl
    have hD9 := hD.sub (ws' := [(h0, .inr (10, [.int fl, .int pl, .ref hCd, w3, .int i4, .int i5, w6, .ref hQ, .int (nI x1), .int (nI z1), w10, .int i11])), (hQ, .inr (11, [.ref hKi, .ref hPl, .ref hNu, y3, .int j4, .int j5, y6])), (hKi, .inl (cI, 2001, .inl kf)), (hPl, .inl (cI, 2001, .inl pf)), (hNu, .inl (cJ, 2001, .inr (.inl vf))), (hCd, .inr (2, [.int (nI s1), .ref hA1, .ref hA2, .ref hA3, .ref hA4, .ref hA5, .ref hA6, .ref hA7, g8, g9, g10, g11, .int tq]))]) [1, 2, 3, 4, 5, 0] (by decide) rfl
    have hK9 := hK.sub (tys' := [(cB, .byte), (cI, .int), (cJ, .long), (cZ, .boolean)]) [0, 1, 2, 3] rfl
    exact W.vret hx hb hr (fun t_ ht hW => ⟨⟨(), rfl, trivial, by rw [ht]; exact hP9, va_K.moved hW.alike hK9, hD9⟩, hS.F ht⟩) hS.2.2 dX9_readLeaf_105
  · skip
    exact absurd c_3 (by decide)

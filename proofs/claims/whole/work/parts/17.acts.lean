
theorem dX1_reckon_0 : decode cX1_reckon 0 = .ok (.iload_n 0, 1) := by decide +kernel
theorem dX1_reckon_1 : decode cX1_reckon 1 = .ok (.tableswitch 209 36 54 #[131, 209, 209, 209, 209, 209, 209, 209, 209, 91, 95, 99, 103, 117, 149, 173, 197, 161, 185], 91) := by decide +kernel
theorem dX1_reckon_92 : decode cX1_reckon 92 = .ok (.lload_n 1, 1) := by decide +kernel
theorem dX1_reckon_93 : decode cX1_reckon 93 = .ok (.lload_n 3, 1) := by decide +kernel
theorem dX1_reckon_94 : decode cX1_reckon 94 = .ok (.ladd, 1) := by decide +kernel
theorem dX1_reckon_95 : decode cX1_reckon 95 = .ok (.lreturn, 1) := by decide +kernel
theorem dX1_reckon_96 : decode cX1_reckon 96 = .ok (.lload_n 1, 1) := by decide +kernel
theorem dX1_reckon_97 : decode cX1_reckon 97 = .ok (.lload_n 3, 1) := by decide +kernel
theorem dX1_reckon_98 : decode cX1_reckon 98 = .ok (.lsub, 1) := by decide +kernel
theorem dX1_reckon_99 : decode cX1_reckon 99 = .ok (.lreturn, 1) := by decide +kernel
theorem dX1_reckon_100 : decode cX1_reckon 100 = .ok (.lload_n 1, 1) := by decide +kernel
theorem dX1_reckon_101 : decode cX1_reckon 101 = .ok (.lload_n 3, 1) := by decide +kernel
theorem dX1_reckon_102 : decode cX1_reckon 102 = .ok (.lmul, 1) := by decide +kernel
theorem dX1_reckon_103 : decode cX1_reckon 103 = .ok (.lreturn, 1) := by decide +kernel
theorem dX1_reckon_104 : decode cX1_reckon 104 = .ok (.lload_n 3, 1) := by decide +kernel
theorem dX1_reckon_105 : decode cX1_reckon 105 = .ok (.lconst 0, 1) := by decide +kernel
theorem dX1_reckon_106 : decode cX1_reckon 106 = .ok (.lcmp, 1) := by decide +kernel
theorem dX1_reckon_107 : decode cX1_reckon 107 = .ok (.ifCond .ne 7, 3) := by decide +kernel
theorem dX1_reckon_110 : decode cX1_reckon 110 = .ok (.lconst 0, 1) := by decide +kernel
theorem dX1_reckon_111 : decode cX1_reckon 111 = .ok (.goto 6, 3) := by decide +kernel
theorem dX1_reckon_114 : decode cX1_reckon 114 = .ok (.lload_n 1, 1) := by decide +kernel
theorem dX1_reckon_115 : decode cX1_reckon 115 = .ok (.lload_n 3, 1) := by decide +kernel
theorem dX1_reckon_116 : decode cX1_reckon 116 = .ok (.ldiv, 1) := by decide +kernel
theorem dX1_reckon_117 : decode cX1_reckon 117 = .ok (.lreturn, 1) := by decide +kernel
theorem dX1_reckon_118 : decode cX1_reckon 118 = .ok (.lload_n 3, 1) := by decide +kernel
theorem dX1_reckon_119 : decode cX1_reckon 119 = .ok (.lconst 0, 1) := by decide +kernel
theorem dX1_reckon_120 : decode cX1_reckon 120 = .ok (.lcmp, 1) := by decide +kernel
theorem dX1_reckon_121 : decode cX1_reckon 121 = .ok (.ifCond .ne 7, 3) := by decide +kernel
theorem dX1_reckon_124 : decode cX1_reckon 124 = .ok (.lconst 0, 1) := by decide +kernel
theorem dX1_reckon_125 : decode cX1_reckon 125 = .ok (.goto 6, 3) := by decide +kernel
theorem dX1_reckon_128 : decode cX1_reckon 128 = .ok (.lload_n 1, 1) := by decide +kernel
theorem dX1_reckon_129 : decode cX1_reckon 129 = .ok (.lload_n 3, 1) := by decide +kernel
theorem dX1_reckon_130 : decode cX1_reckon 130 = .ok (.lrem, 1) := by decide +kernel
theorem dX1_reckon_131 : decode cX1_reckon 131 = .ok (.lreturn, 1) := by decide +kernel
theorem dX1_reckon_132 : decode cX1_reckon 132 = .ok (.lload_n 3, 1) := by decide +kernel
theorem dX1_reckon_133 : decode cX1_reckon 133 = .ok (.lconst 0, 1) := by decide +kernel
theorem dX1_reckon_134 : decode cX1_reckon 134 = .ok (.lcmp, 1) := by decide +kernel
theorem dX1_reckon_135 : decode cX1_reckon 135 = .ok (.ifCond .ne 7, 3) := by decide +kernel
theorem dX1_reckon_138 : decode cX1_reckon 138 = .ok (.lconst 0, 1) := by decide +kernel
theorem dX1_reckon_139 : decode cX1_reckon 139 = .ok (.goto 10, 3) := by decide +kernel
theorem dX1_reckon_142 : decode cX1_reckon 142 = .ok (.lload_n 1, 1) := by decide +kernel
theorem dX1_reckon_143 : decode cX1_reckon 143 = .ok (.lload_n 1, 1) := by decide +kernel
theorem dX1_reckon_144 : decode cX1_reckon 144 = .ok (.lload_n 3, 1) := by decide +kernel
theorem dX1_reckon_145 : decode cX1_reckon 145 = .ok (.invokestatic 104, 3) := by decide +kernel
theorem dX1_reckon_148 : decode cX1_reckon 148 = .ok (.lsub, 1) := by decide +kernel
theorem dX1_reckon_149 : decode cX1_reckon 149 = .ok (.lreturn, 1) := by decide +kernel
theorem dX1_reckon_150 : decode cX1_reckon 150 = .ok (.lload_n 1, 1) := by decide +kernel
theorem dX1_reckon_151 : decode cX1_reckon 151 = .ok (.lload_n 3, 1) := by decide +kernel
theorem dX1_reckon_152 : decode cX1_reckon 152 = .ok (.lcmp, 1) := by decide +kernel
theorem dX1_reckon_153 : decode cX1_reckon 153 = .ok (.ifCond .ne 7, 3) := by decide +kernel
theorem dX1_reckon_156 : decode cX1_reckon 156 = .ok (.lconst 1, 1) := by decide +kernel
theorem dX1_reckon_157 : decode cX1_reckon 157 = .ok (.goto 4, 3) := by decide +kernel
theorem dX1_reckon_160 : decode cX1_reckon 160 = .ok (.lconst 0, 1) := by decide +kernel
theorem dX1_reckon_161 : decode cX1_reckon 161 = .ok (.lreturn, 1) := by decide +kernel
theorem dX1_reckon_162 : decode cX1_reckon 162 = .ok (.lload_n 1, 1) := by decide +kernel
theorem dX1_reckon_163 : decode cX1_reckon 163 = .ok (.lload_n 3, 1) := by decide +kernel
theorem dX1_reckon_164 : decode cX1_reckon 164 = .ok (.lcmp, 1) := by decide +kernel
theorem dX1_reckon_165 : decode cX1_reckon 165 = .ok (.ifCond .eq 7, 3) := by decide +kernel
theorem dX1_reckon_168 : decode cX1_reckon 168 = .ok (.lconst 1, 1) := by decide +kernel
theorem dX1_reckon_169 : decode cX1_reckon 169 = .ok (.goto 4, 3) := by decide +kernel
theorem dX1_reckon_172 : decode cX1_reckon 172 = .ok (.lconst 0, 1) := by decide +kernel
theorem dX1_reckon_173 : decode cX1_reckon 173 = .ok (.lreturn, 1) := by decide +kernel
theorem dX1_reckon_174 : decode cX1_reckon 174 = .ok (.lload_n 1, 1) := by decide +kernel
theorem dX1_reckon_175 : decode cX1_reckon 175 = .ok (.lload_n 3, 1) := by decide +kernel
theorem dX1_reckon_176 : decode cX1_reckon 176 = .ok (.lcmp, 1) := by decide +kernel
theorem dX1_reckon_177 : decode cX1_reckon 177 = .ok (.ifCond .ge 7, 3) := by decide +kernel
theorem dX1_reckon_180 : decode cX1_reckon 180 = .ok (.lconst 1, 1) := by decide +kernel
theorem dX1_reckon_181 : decode cX1_reckon 181 = .ok (.goto 4, 3) := by decide +kernel
theorem dX1_reckon_184 : decode cX1_reckon 184 = .ok (.lconst 0, 1) := by decide +kernel
theorem dX1_reckon_185 : decode cX1_reckon 185 = .ok (.lreturn, 1) := by decide +kernel
theorem dX1_reckon_186 : decode cX1_reckon 186 = .ok (.lload_n 1, 1) := by decide +kernel
theorem dX1_reckon_187 : decode cX1_reckon 187 = .ok (.lload_n 3, 1) := by decide +kernel
theorem dX1_reckon_188 : decode cX1_reckon 188 = .ok (.lcmp, 1) := by decide +kernel
theorem dX1_reckon_189 : decode cX1_reckon 189 = .ok (.ifCond .gt 7, 3) := by decide +kernel
theorem dX1_reckon_192 : decode cX1_reckon 192 = .ok (.lconst 1, 1) := by decide +kernel
theorem dX1_reckon_193 : decode cX1_reckon 193 = .ok (.goto 4, 3) := by decide +kernel
theorem dX1_reckon_196 : decode cX1_reckon 196 = .ok (.lconst 0, 1) := by decide +kernel
theorem dX1_reckon_197 : decode cX1_reckon 197 = .ok (.lreturn, 1) := by decide +kernel
theorem dX1_reckon_198 : decode cX1_reckon 198 = .ok (.lload_n 1, 1) := by decide +kernel
theorem dX1_reckon_199 : decode cX1_reckon 199 = .ok (.lload_n 3, 1) := by decide +kernel
theorem dX1_reckon_200 : decode cX1_reckon 200 = .ok (.lcmp, 1) := by decide +kernel
theorem dX1_reckon_201 : decode cX1_reckon 201 = .ok (.ifCond .le 7, 3) := by decide +kernel
theorem dX1_reckon_204 : decode cX1_reckon 204 = .ok (.lconst 1, 1) := by decide +kernel
theorem dX1_reckon_205 : decode cX1_reckon 205 = .ok (.goto 4, 3) := by decide +kernel
theorem dX1_reckon_208 : decode cX1_reckon 208 = .ok (.lconst 0, 1) := by decide +kernel
theorem dX1_reckon_209 : decode cX1_reckon 209 = .ok (.lreturn, 1) := by decide +kernel
theorem dX1_reckon_210 : decode cX1_reckon 210 = .ok (.lload_n 1, 1) := by decide +kernel
theorem dX1_reckon_211 : decode cX1_reckon 211 = .ok (.lload_n 3, 1) := by decide +kernel
theorem dX1_reckon_212 : decode cX1_reckon 212 = .ok (.lcmp, 1) := by decide +kernel
theorem dX1_reckon_213 : decode cX1_reckon 213 = .ok (.ifCond .lt 7, 3) := by decide +kernel
theorem dX1_reckon_216 : decode cX1_reckon 216 = .ok (.lconst 1, 1) := by decide +kernel
theorem dX1_reckon_217 : decode cX1_reckon 217 = .ok (.goto 4, 3) := by decide +kernel
theorem dX1_reckon_220 : decode cX1_reckon 220 = .ok (.lconst 0, 1) := by decide +kernel
theorem dX1_reckon_221 : decode cX1_reckon 221 = .ok (.lreturn, 1) := by decide +kernel
abbrev cs_t_reckon_plus (cB cI cJ cZ : ClassId) (x y : Int64) : va_W := []
abbrev pc_t_reckon_plus (dC : Nat → ClassId) (dI : Nat → Nat → Nat) (sz : Nat) (cB cI cJ cZ : ClassId) (x y : Int64) : Array Value → State → Prop := va_Pc [.int 45, .long x, .long y] (fun U => U.heap.size = sz ∧ va_P (dC, dI) vwCl [] U.heap ∧ va_K (dC, dI) vwCl [(cB, .byte), (cI, .int), (cJ, .long), (cZ, .boolean)] U ∧ va_D (fun _ => True) [])
abbrev qc_t_reckon_plus (dC : Nat → ClassId) (dI : Nat → Nat → Nat) (cB cI cJ cZ : ClassId) (x y : Int64) (A : Nat → Prop) : Array Value → State → Outcome → State → Prop := va_Ql (fun (r : Int64) (u : Unit) => match u with | _ => r = (x + y)) (fun (u : Unit) t_ => match u with | _ => va_P (dC, dI) vwCl [] t_.heap ∧ va_K (dC, dI) vwCl [(cB, .byte), (cI, .int), (cJ, .long), (cZ, .boolean)] t_ ∧ va_D A []) A
set_option maxHeartbeats 4000000 in
set_option maxRecDepth 100000 in
theorem t_reckon_plus (l : Launch) (dC : Nat → ClassId) (dI : Nat → Nat → Nat) (sz : Nat) (cB cI cJ cZ : ClassId) (x y : Int64)  : Met l yX1_reckon (wsOf yX1_reckon cX1_reckon 5 (some .long)) ({ frames := 0, cells := 0, slots := 0, locals := 0 }) (pc_t_reckon_plus dC dI sz cB cI cJ cZ x y) (qc_t_reckon_plus dC dI cB cI cJ cZ x y (va_A (cs_t_reckon_plus cB cI cJ cZ x y) sz)) 0 0 (va_A (cs_t_reckon_plus cB cI cJ cZ x y) sz) := by
  refine Met.ofW (cc := cX1_reckon) (maxL := 5) (ret := (some .long)) (by decide) rfl ?_
  intro p e s m args below meth c s₁ B hml hv
  obtain ⟨rfl, hsz, hP, hK, hD0⟩ := hv
  have hx := B.exec
  have hb := B.bytes
  have hr := B.returns
  have hts := atoms_spec (ws := (wsOf yX1_reckon cX1_reckon 5 (some .long))) B.pre
  have hown : s.vm.findClass RX1 = some m.cls := findClass_of_methodNamed B.named
  have hlocks := B.notSynchronized
  subst hsz
  have hD := hD0.self (sz := s.heap.size)
  generalize hAe : va_A (cs_t_reckon_plus cB cI cJ cZ x y) s.heap.size = A at hD ⊢
  have hA : ∀ q : Nat, s.heap.size ≤ q → A q := fun q h => by rw [← hAe]; exact Or.inr h
  have hS : va_S A s.heap s.heap [] := va_S.rf
  have hP : va_P (dC, dI) vwCl [] s.heap := hP
  have hl := lv_entry ([.int 45, .long x, .long y]) (n := 5) (Nat.le_of_ble_eq_true rfl)
  rw [lg_entry_eq]
  generalize (lg_sl ([.int 45, .long x, .long y]) ++ List.replicate (5 - (lg_sl ([.int 45, .long x, .long y])).length) Slot.unset).toArray = ls at hl ⊢
  have hl : lv_has ls 5 [(0, .int 45), (1, .long x), (3, .long y)] := hl
  refine lv_iload_n hx hb dX1_reckon_0 rfl (lv_at hl 0 rfl) ?_
  refine lv_tableIn (tgt := 92) (off := 91) hx hb dX1_reckon_1 (by decide) (by decide) (by decide) (by decide) ?_
  refine lv_lload_n hx hb dX1_reckon_92 rfl (lv_at hl 1 rfl) ?_
  refine lv_lload_n hx hb dX1_reckon_93 rfl (lv_at hl 2 rfl) ?_
  refine lv_ladd hx hb dX1_reckon_94 ?_
  have hP9 := hP.sub (ws' := []) [] rfl
  have hD9 := hD.sub (ws' := []) [] (by decide) rfl
  have hK9 := hK.sub (tys' := [(cB, .byte), (cI, .int), (cJ, .long), (cZ, .boolean)]) [0, 1, 2, 3] rfl
  exact W.lret (v := (x + y)) hx hb hr (fun t_ ht hW => ⟨⟨(x + y), (), rfl, rfl, by rw [ht]; exact hP9, va_K.moved hW.alike hK9, hD9⟩, hS.F ht⟩) hS.2.2 dX1_reckon_95
theorem dX1_hasResult_0 : decode cX1_hasResult 0 = .ok (.iload_n 0, 1) := by decide +kernel
theorem dX1_hasResult_1 : decode cX1_hasResult 1 = .ok (.bipush 48, 2) := by decide +kernel
theorem dX1_hasResult_3 : decode cX1_hasResult 3 = .ok (.if_icmp .eq 9, 3) := by decide +kernel
theorem dX1_hasResult_6 : decode cX1_hasResult 6 = .ok (.iload_n 0, 1) := by decide +kernel
theorem dX1_hasResult_7 : decode cX1_hasResult 7 = .ok (.bipush 49, 2) := by decide +kernel
theorem dX1_hasResult_9 : decode cX1_hasResult 9 = .ok (.if_icmp .ne 15, 3) := by decide +kernel
theorem dX1_hasResult_12 : decode cX1_hasResult 12 = .ok (.lload_n 1, 1) := by decide +kernel
theorem dX1_hasResult_13 : decode cX1_hasResult 13 = .ok (.lconst 0, 1) := by decide +kernel
theorem dX1_hasResult_14 : decode cX1_hasResult 14 = .ok (.lcmp, 1) := by decide +kernel
theorem dX1_hasResult_15 : decode cX1_hasResult 15 = .ok (.ifCond .eq 7, 3) := by decide +kernel
theorem dX1_hasResult_18 : decode cX1_hasResult 18 = .ok (.iconst 1, 1) := by decide +kernel
theorem dX1_hasResult_19 : decode cX1_hasResult 19 = .ok (.goto 4, 3) := by decide +kernel
theorem dX1_hasResult_22 : decode cX1_hasResult 22 = .ok (.iconst 0, 1) := by decide +kernel
theorem dX1_hasResult_23 : decode cX1_hasResult 23 = .ok (.ireturn, 1) := by decide +kernel
theorem dX1_hasResult_24 : decode cX1_hasResult 24 = .ok (.iload_n 0, 1) := by decide +kernel
theorem dX1_hasResult_25 : decode cX1_hasResult 25 = .ok (.bipush 36, 2) := by decide +kernel
theorem dX1_hasResult_27 : decode cX1_hasResult 27 = .ok (.if_icmp .ne 9, 3) := by decide +kernel
theorem dX1_hasResult_30 : decode cX1_hasResult 30 = .ok (.lload_n 1, 1) := by decide +kernel
theorem dX1_hasResult_31 : decode cX1_hasResult 31 = .ok (.lconst 0, 1) := by decide +kernel
theorem dX1_hasResult_32 : decode cX1_hasResult 32 = .ok (.lcmp, 1) := by decide +kernel
theorem dX1_hasResult_33 : decode cX1_hasResult 33 = .ok (.ifCond .le 7, 3) := by decide +kernel
theorem dX1_hasResult_36 : decode cX1_hasResult 36 = .ok (.iconst 1, 1) := by decide +kernel
theorem dX1_hasResult_37 : decode cX1_hasResult 37 = .ok (.goto 4, 3) := by decide +kernel
theorem dX1_hasResult_40 : decode cX1_hasResult 40 = .ok (.iconst 0, 1) := by decide +kernel
theorem dX1_hasResult_41 : decode cX1_hasResult 41 = .ok (.ireturn, 1) := by decide +kernel
abbrev cs_t_hasResult_plus (cB cI cJ cZ : ClassId) (y : Int64) : va_W := []
abbrev pc_t_hasResult_plus (dC : Nat → ClassId) (dI : Nat → Nat → Nat) (sz : Nat) (cB cI cJ cZ : ClassId) (y : Int64) : Array Value → State → Prop := va_Pc [.int 45, .long y] (fun U => U.heap.size = sz ∧ va_P (dC, dI) vwCl [] U.heap ∧ va_K (dC, dI) vwCl [(cB, .byte), (cI, .int), (cJ, .long), (cZ, .boolean)] U ∧ va_D (fun _ => True) [])
abbrev qc_t_hasResult_plus (dC : Nat → ClassId) (dI : Nat → Nat → Nat) (cB cI cJ cZ : ClassId) (y : Int64) (A : Nat → Prop) : Array Value → State → Outcome → State → Prop := va_Qi (fun (r : Int32) (u : Unit) => match u with | _ => r = 1) (fun (u : Unit) t_ => match u with | _ => va_P (dC, dI) vwCl [] t_.heap ∧ va_K (dC, dI) vwCl [(cB, .byte), (cI, .int), (cJ, .long), (cZ, .boolean)] t_ ∧ va_D A []) A
set_option maxHeartbeats 4000000 in
set_option maxRecDepth 100000 in
theorem t_hasResult_plus (l : Launch) (dC : Nat → ClassId) (dI : Nat → Nat → Nat) (sz : Nat) (cB cI cJ cZ : ClassId) (y : Int64)  : Met l yX1_hasResult (wsOf yX1_hasResult cX1_hasResult 3 (some .boolean)) ({ frames := 0, cells := 0, slots := 0, locals := 0 }) (pc_t_hasResult_plus dC dI sz cB cI cJ cZ y) (qc_t_hasResult_plus dC dI cB cI cJ cZ y (va_A (cs_t_hasResult_plus cB cI cJ cZ y) sz)) 0 0 (va_A (cs_t_hasResult_plus cB cI cJ cZ y) sz) := by
  refine Met.ofW (cc := cX1_hasResult) (maxL := 3) (ret := (some .boolean)) (by decide) rfl ?_
  intro p e s m args below meth c s₁ B hml hv
  obtain ⟨rfl, hsz, hP, hK, hD0⟩ := hv
  have hx := B.exec
  have hb := B.bytes
  have hr := B.returns
  have hts := atoms_spec (ws := (wsOf yX1_hasResult cX1_hasResult 3 (some .boolean))) B.pre
  have hown : s.vm.findClass RX1 = some m.cls := findClass_of_methodNamed B.named
  have hlocks := B.notSynchronized
  subst hsz
  have hD := hD0.self (sz := s.heap.size)
  generalize hAe : va_A (cs_t_hasResult_plus cB cI cJ cZ y) s.heap.size = A at hD ⊢
  have hA : ∀ q : Nat, s.heap.size ≤ q → A q := fun q h => by rw [← hAe]; exact Or.inr h
  have hS : va_S A s.heap s.heap [] := va_S.rf
  have hP : va_P (dC, dI) vwCl [] s.heap := hP
  have hl := lv_entry ([.int 45, .long y]) (n := 3) (Nat.le_of_ble_eq_true rfl)
  rw [lg_entry_eq]
  generalize (lg_sl ([.int 45, .long y]) ++ List.replicate (3 - (lg_sl ([.int 45, .long y])).length) Slot.unset).toArray = ls at hl ⊢
  have hl : lv_has ls 3 [(0, .int 45), (1, .long y)] := hl
  refine lv_iload_n hx hb dX1_hasResult_0 rfl (lv_at hl 0 rfl) ?_
  refine lv_bipush (v := 48) hx hb dX1_hasResult_1 (by decide) ?_
  refine lv_icmp_eq (tgt := 12) hx hb dX1_hasResult_3 (by decide) (fun c_1 => ?_) (fun c_1 => ?_)
  · skip
    exact absurd c_1 (by decide)
  · skip
    refine lv_iload_n hx hb dX1_hasResult_6 rfl (lv_at hl 0 rfl) ?_
    refine lv_bipush (v := 49) hx hb dX1_hasResult_7 (by decide) ?_
    refine lv_icmp_ne (tgt := 24) hx hb dX1_hasResult_9 (by decide) (fun c_2 => ?_) (fun c_2 => ?_)
    · skip
      refine lv_iload_n hx hb dX1_hasResult_24 rfl (lv_at hl 0 rfl) ?_
      refine lv_bipush (v := 36) hx hb dX1_hasResult_25 (by decide) ?_
      refine lv_icmp_ne (tgt := 36) hx hb dX1_hasResult_27 (by decide) (fun c_3 => ?_) (fun c_3 => ?_)
      · skip
        refine lv_iconst (v := 1) hx hb dX1_hasResult_36 (by decide) ?_
        refine lv_goto (tgt := 41) hx hb dX1_hasResult_37 (by decide) ?_
        have hP9 := hP.sub (ws' := []) [] rfl
        have hD9 := hD.sub (ws' := []) [] (by decide) rfl
        have hK9 := hK.sub (tys' := [(cB, .byte), (cI, .int), (cJ, .long), (cZ, .boolean)]) [0, 1, 2, 3] rfl
        exact W.zret (v := 1) hx hb hr (by rfl) (fun t_ ht hW => ⟨⟨1, (), rfl, rfl, by rw [ht]; exact hP9, va_K.moved hW.alike hK9, hD9⟩, hS.F ht⟩) hS.2.2 dX1_hasResult_41
      · skip
        exact absurd c_3 (by decide)
    · skip
      exact absurd c_2 (by decide)
abbrev cs_t_reckon_minus (cB cI cJ cZ : ClassId) (x y : Int64) : va_W := []
abbrev pc_t_reckon_minus (dC : Nat → ClassId) (dI : Nat → Nat → Nat) (sz : Nat) (cB cI cJ cZ : ClassId) (x y : Int64) : Array Value → State → Prop := va_Pc [.int 46, .long x, .long y] (fun U => U.heap.size = sz ∧ va_P (dC, dI) vwCl [] U.heap ∧ va_K (dC, dI) vwCl [(cB, .byte), (cI, .int), (cJ, .long), (cZ, .boolean)] U ∧ va_D (fun _ => True) [])
abbrev qc_t_reckon_minus (dC : Nat → ClassId) (dI : Nat → Nat → Nat) (cB cI cJ cZ : ClassId) (x y : Int64) (A : Nat → Prop) : Array Value → State → Outcome → State → Prop := va_Ql (fun (r : Int64) (u : Unit) => match u with | _ => r = (x - y)) (fun (u : Unit) t_ => match u with | _ => va_P (dC, dI) vwCl [] t_.heap ∧ va_K (dC, dI) vwCl [(cB, .byte), (cI, .int), (cJ, .long), (cZ, .boolean)] t_ ∧ va_D A []) A
set_option maxHeartbeats 4000000 in
set_option maxRecDepth 100000 in
theorem t_reckon_minus (l : Launch) (dC : Nat → ClassId) (dI : Nat → Nat → Nat) (sz : Nat) (cB cI cJ cZ : ClassId) (x y : Int64)  : Met l yX1_reckon (wsOf yX1_reckon cX1_reckon 5 (some .long)) ({ frames := 0, cells := 0, slots := 0, locals := 0 }) (pc_t_reckon_minus dC dI sz cB cI cJ cZ x y) (qc_t_reckon_minus dC dI cB cI cJ cZ x y (va_A (cs_t_reckon_minus cB cI cJ cZ x y) sz)) 0 0 (va_A (cs_t_reckon_minus cB cI cJ cZ x y) sz) := by
  refine Met.ofW (cc := cX1_reckon) (maxL := 5) (ret := (some .long)) (by decide) rfl ?_
  intro p e s m args below meth c s₁ B hml hv
  obtain ⟨rfl, hsz, hP, hK, hD0⟩ := hv
  have hx := B.exec
  have hb := B.bytes
  have hr := B.returns
  have hts := atoms_spec (ws := (wsOf yX1_reckon cX1_reckon 5 (some .long))) B.pre
  have hown : s.vm.findClass RX1 = some m.cls := findClass_of_methodNamed B.named
  have hlocks := B.notSynchronized
  subst hsz
  have hD := hD0.self (sz := s.heap.size)
  generalize hAe : va_A (cs_t_reckon_minus cB cI cJ cZ x y) s.heap.size = A at hD ⊢
  have hA : ∀ q : Nat, s.heap.size ≤ q → A q := fun q h => by rw [← hAe]; exact Or.inr h
  have hS : va_S A s.heap s.heap [] := va_S.rf
  have hP : va_P (dC, dI) vwCl [] s.heap := hP
  have hl := lv_entry ([.int 46, .long x, .long y]) (n := 5) (Nat.le_of_ble_eq_true rfl)
  rw [lg_entry_eq]
  generalize (lg_sl ([.int 46, .long x, .long y]) ++ List.replicate (5 - (lg_sl ([.int 46, .long x, .long y])).length) Slot.unset).toArray = ls at hl ⊢
  have hl : lv_has ls 5 [(0, .int 46), (1, .long x), (3, .long y)] := hl
  refine lv_iload_n hx hb dX1_reckon_0 rfl (lv_at hl 0 rfl) ?_
  refine lv_tableIn (tgt := 96) (off := 95) hx hb dX1_reckon_1 (by decide) (by decide) (by decide) (by decide) ?_
  refine lv_lload_n hx hb dX1_reckon_96 rfl (lv_at hl 1 rfl) ?_
  refine lv_lload_n hx hb dX1_reckon_97 rfl (lv_at hl 2 rfl) ?_
  refine lv_lsub hx hb dX1_reckon_98 ?_
  have hP9 := hP.sub (ws' := []) [] rfl
  have hD9 := hD.sub (ws' := []) [] (by decide) rfl
  have hK9 := hK.sub (tys' := [(cB, .byte), (cI, .int), (cJ, .long), (cZ, .boolean)]) [0, 1, 2, 3] rfl
  exact W.lret (v := (x - y)) hx hb hr (fun t_ ht hW => ⟨⟨(x - y), (), rfl, rfl, by rw [ht]; exact hP9, va_K.moved hW.alike hK9, hD9⟩, hS.F ht⟩) hS.2.2 dX1_reckon_99
abbrev cs_t_hasResult_minus (cB cI cJ cZ : ClassId) (y : Int64) : va_W := []
abbrev pc_t_hasResult_minus (dC : Nat → ClassId) (dI : Nat → Nat → Nat) (sz : Nat) (cB cI cJ cZ : ClassId) (y : Int64) : Array Value → State → Prop := va_Pc [.int 46, .long y] (fun U => U.heap.size = sz ∧ va_P (dC, dI) vwCl [] U.heap ∧ va_K (dC, dI) vwCl [(cB, .byte), (cI, .int), (cJ, .long), (cZ, .boolean)] U ∧ va_D (fun _ => True) [])
abbrev qc_t_hasResult_minus (dC : Nat → ClassId) (dI : Nat → Nat → Nat) (cB cI cJ cZ : ClassId) (y : Int64) (A : Nat → Prop) : Array Value → State → Outcome → State → Prop := va_Qi (fun (r : Int32) (u : Unit) => match u with | _ => r = 1) (fun (u : Unit) t_ => match u with | _ => va_P (dC, dI) vwCl [] t_.heap ∧ va_K (dC, dI) vwCl [(cB, .byte), (cI, .int), (cJ, .long), (cZ, .boolean)] t_ ∧ va_D A []) A
set_option maxHeartbeats 4000000 in
set_option maxRecDepth 100000 in
theorem t_hasResult_minus (l : Launch) (dC : Nat → ClassId) (dI : Nat → Nat → Nat) (sz : Nat) (cB cI cJ cZ : ClassId) (y : Int64)  : Met l yX1_hasResult (wsOf yX1_hasResult cX1_hasResult 3 (some .boolean)) ({ frames := 0, cells := 0, slots := 0, locals := 0 }) (pc_t_hasResult_minus dC dI sz cB cI cJ cZ y) (qc_t_hasResult_minus dC dI cB cI cJ cZ y (va_A (cs_t_hasResult_minus cB cI cJ cZ y) sz)) 0 0 (va_A (cs_t_hasResult_minus cB cI cJ cZ y) sz) := by
  refine Met.ofW (cc := cX1_hasResult) (maxL := 3) (ret := (some .boolean)) (by decide) rfl ?_
  intro p e s m args below meth c s₁ B hml hv
  obtain ⟨rfl, hsz, hP, hK, hD0⟩ := hv
  have hx := B.exec
  have hb := B.bytes
  have hr := B.returns
  have hts := atoms_spec (ws := (wsOf yX1_hasResult cX1_hasResult 3 (some .boolean))) B.pre
  have hown : s.vm.findClass RX1 = some m.cls := findClass_of_methodNamed B.named
  have hlocks := B.notSynchronized
  subst hsz
  have hD := hD0.self (sz := s.heap.size)
  generalize hAe : va_A (cs_t_hasResult_minus cB cI cJ cZ y) s.heap.size = A at hD ⊢
  have hA : ∀ q : Nat, s.heap.size ≤ q → A q := fun q h => by rw [← hAe]; exact Or.inr h
  have hS : va_S A s.heap s.heap [] := va_S.rf
  have hP : va_P (dC, dI) vwCl [] s.heap := hP
  have hl := lv_entry ([.int 46, .long y]) (n := 3) (Nat.le_of_ble_eq_true rfl)
  rw [lg_entry_eq]
  generalize (lg_sl ([.int 46, .long y]) ++ List.replicate (3 - (lg_sl ([.int 46, .long y])).length) Slot.unset).toArray = ls at hl ⊢
  have hl : lv_has ls 3 [(0, .int 46), (1, .long y)] := hl
  refine lv_iload_n hx hb dX1_hasResult_0 rfl (lv_at hl 0 rfl) ?_
  refine lv_bipush (v := 48) hx hb dX1_hasResult_1 (by decide) ?_
  refine lv_icmp_eq (tgt := 12) hx hb dX1_hasResult_3 (by decide) (fun c_1 => ?_) (fun c_1 => ?_)
  · skip
    exact absurd c_1 (by decide)
  · skip
    refine lv_iload_n hx hb dX1_hasResult_6 rfl (lv_at hl 0 rfl) ?_
    refine lv_bipush (v := 49) hx hb dX1_hasResult_7 (by decide) ?_
    refine lv_icmp_ne (tgt := 24) hx hb dX1_hasResult_9 (by decide) (fun c_2 => ?_) (fun c_2 => ?_)
    · skip
      refine lv_iload_n hx hb dX1_hasResult_24 rfl (lv_at hl 0 rfl) ?_
      refine lv_bipush (v := 36) hx hb dX1_hasResult_25 (by decide) ?_
      refine lv_icmp_ne (tgt := 36) hx hb dX1_hasResult_27 (by decide) (fun c_3 => ?_) (fun c_3 => ?_)
      · skip
        refine lv_iconst (v := 1) hx hb dX1_hasResult_36 (by decide) ?_
        refine lv_goto (tgt := 41) hx hb dX1_hasResult_37 (by decide) ?_
        have hP9 := hP.sub (ws' := []) [] rfl
        have hD9 := hD.sub (ws' := []) [] (by decide) rfl
        have hK9 := hK.sub (tys' := [(cB, .byte), (cI, .int), (cJ, .long), (cZ, .boolean)]) [0, 1, 2, 3] rfl
        exact W.zret (v := 1) hx hb hr (by rfl) (fun t_ ht hW => ⟨⟨1, (), rfl, rfl, by rw [ht]; exact hP9, va_K.moved hW.alike hK9, hD9⟩, hS.F ht⟩) hS.2.2 dX1_hasResult_41
      · skip
        exact absurd c_3 (by decide)
    · skip
      exact absurd c_2 (by decide)
abbrev cs_t_reckon_star (cB cI cJ cZ : ClassId) (x y : Int64) : va_W := []
abbrev pc_t_reckon_star (dC : Nat → ClassId) (dI : Nat → Nat → Nat) (sz : Nat) (cB cI cJ cZ : ClassId) (x y : Int64) : Array Value → State → Prop := va_Pc [.int 47, .long x, .long y] (fun U => U.heap.size = sz ∧ va_P (dC, dI) vwCl [] U.heap ∧ va_K (dC, dI) vwCl [(cB, .byte), (cI, .int), (cJ, .long), (cZ, .boolean)] U ∧ va_D (fun _ => True) [])
abbrev qc_t_reckon_star (dC : Nat → ClassId) (dI : Nat → Nat → Nat) (cB cI cJ cZ : ClassId) (x y : Int64) (A : Nat → Prop) : Array Value → State → Outcome → State → Prop := va_Ql (fun (r : Int64) (u : Unit) => match u with | _ => r = (x * y)) (fun (u : Unit) t_ => match u with | _ => va_P (dC, dI) vwCl [] t_.heap ∧ va_K (dC, dI) vwCl [(cB, .byte), (cI, .int), (cJ, .long), (cZ, .boolean)] t_ ∧ va_D A []) A
set_option maxHeartbeats 4000000 in
set_option maxRecDepth 100000 in
theorem t_reckon_star (l : Launch) (dC : Nat → ClassId) (dI : Nat → Nat → Nat) (sz : Nat) (cB cI cJ cZ : ClassId) (x y : Int64)  : Met l yX1_reckon (wsOf yX1_reckon cX1_reckon 5 (some .long)) ({ frames := 0, cells := 0, slots := 0, locals := 0 }) (pc_t_reckon_star dC dI sz cB cI cJ cZ x y) (qc_t_reckon_star dC dI cB cI cJ cZ x y (va_A (cs_t_reckon_star cB cI cJ cZ x y) sz)) 0 0 (va_A (cs_t_reckon_star cB cI cJ cZ x y) sz) := by
  refine Met.ofW (cc := cX1_reckon) (maxL := 5) (ret := (some .long)) (by decide) rfl ?_
  intro p e s m args below meth c s₁ B hml hv
  obtain ⟨rfl, hsz, hP, hK, hD0⟩ := hv
  have hx := B.exec
  have hb := B.bytes
  have hr := B.returns
  have hts := atoms_spec (ws := (wsOf yX1_reckon cX1_reckon 5 (some .long))) B.pre
  have hown : s.vm.findClass RX1 = some m.cls := findClass_of_methodNamed B.named
  have hlocks := B.notSynchronized
  subst hsz
  have hD := hD0.self (sz := s.heap.size)
  generalize hAe : va_A (cs_t_reckon_star cB cI cJ cZ x y) s.heap.size = A at hD ⊢
  have hA : ∀ q : Nat, s.heap.size ≤ q → A q := fun q h => by rw [← hAe]; exact Or.inr h
  have hS : va_S A s.heap s.heap [] := va_S.rf
  have hP : va_P (dC, dI) vwCl [] s.heap := hP
  have hl := lv_entry ([.int 47, .long x, .long y]) (n := 5) (Nat.le_of_ble_eq_true rfl)
  rw [lg_entry_eq]
  generalize (lg_sl ([.int 47, .long x, .long y]) ++ List.replicate (5 - (lg_sl ([.int 47, .long x, .long y])).length) Slot.unset).toArray = ls at hl ⊢
  have hl : lv_has ls 5 [(0, .int 47), (1, .long x), (3, .long y)] := hl
  refine lv_iload_n hx hb dX1_reckon_0 rfl (lv_at hl 0 rfl) ?_
  refine lv_tableIn (tgt := 100) (off := 99) hx hb dX1_reckon_1 (by decide) (by decide) (by decide) (by decide) ?_
  refine lv_lload_n hx hb dX1_reckon_100 rfl (lv_at hl 1 rfl) ?_
  refine lv_lload_n hx hb dX1_reckon_101 rfl (lv_at hl 2 rfl) ?_
  refine lv_lmul hx hb dX1_reckon_102 ?_
  have hP9 := hP.sub (ws' := []) [] rfl
  have hD9 := hD.sub (ws' := []) [] (by decide) rfl
  have hK9 := hK.sub (tys' := [(cB, .byte), (cI, .int), (cJ, .long), (cZ, .boolean)]) [0, 1, 2, 3] rfl
  exact W.lret (v := (x * y)) hx hb hr (fun t_ ht hW => ⟨⟨(x * y), (), rfl, rfl, by rw [ht]; exact hP9, va_K.moved hW.alike hK9, hD9⟩, hS.F ht⟩) hS.2.2 dX1_reckon_103
abbrev cs_t_hasResult_star (cB cI cJ cZ : ClassId) (y : Int64) : va_W := []
abbrev pc_t_hasResult_star (dC : Nat → ClassId) (dI : Nat → Nat → Nat) (sz : Nat) (cB cI cJ cZ : ClassId) (y : Int64) : Array Value → State → Prop := va_Pc [.int 47, .long y] (fun U => U.heap.size = sz ∧ va_P (dC, dI) vwCl [] U.heap ∧ va_K (dC, dI) vwCl [(cB, .byte), (cI, .int), (cJ, .long), (cZ, .boolean)] U ∧ va_D (fun _ => True) [])
abbrev qc_t_hasResult_star (dC : Nat → ClassId) (dI : Nat → Nat → Nat) (cB cI cJ cZ : ClassId) (y : Int64) (A : Nat → Prop) : Array Value → State → Outcome → State → Prop := va_Qi (fun (r : Int32) (u : Unit) => match u with | _ => r = 1) (fun (u : Unit) t_ => match u with | _ => va_P (dC, dI) vwCl [] t_.heap ∧ va_K (dC, dI) vwCl [(cB, .byte), (cI, .int), (cJ, .long), (cZ, .boolean)] t_ ∧ va_D A []) A
set_option maxHeartbeats 4000000 in
set_option maxRecDepth 100000 in
theorem t_hasResult_star (l : Launch) (dC : Nat → ClassId) (dI : Nat → Nat → Nat) (sz : Nat) (cB cI cJ cZ : ClassId) (y : Int64)  : Met l yX1_hasResult (wsOf yX1_hasResult cX1_hasResult 3 (some .boolean)) ({ frames := 0, cells := 0, slots := 0, locals := 0 }) (pc_t_hasResult_star dC dI sz cB cI cJ cZ y) (qc_t_hasResult_star dC dI cB cI cJ cZ y (va_A (cs_t_hasResult_star cB cI cJ cZ y) sz)) 0 0 (va_A (cs_t_hasResult_star cB cI cJ cZ y) sz) := by
  refine Met.ofW (cc := cX1_hasResult) (maxL := 3) (ret := (some .boolean)) (by decide) rfl ?_
  intro p e s m args below meth c s₁ B hml hv
  obtain ⟨rfl, hsz, hP, hK, hD0⟩ := hv
  have hx := B.exec
  have hb := B.bytes
  have hr := B.returns
  have hts := atoms_spec (ws := (wsOf yX1_hasResult cX1_hasResult 3 (some .boolean))) B.pre
  have hown : s.vm.findClass RX1 = some m.cls := findClass_of_methodNamed B.named
  have hlocks := B.notSynchronized
  subst hsz
  have hD := hD0.self (sz := s.heap.size)
  generalize hAe : va_A (cs_t_hasResult_star cB cI cJ cZ y) s.heap.size = A at hD ⊢
  have hA : ∀ q : Nat, s.heap.size ≤ q → A q := fun q h => by rw [← hAe]; exact Or.inr h
  have hS : va_S A s.heap s.heap [] := va_S.rf
  have hP : va_P (dC, dI) vwCl [] s.heap := hP
  have hl := lv_entry ([.int 47, .long y]) (n := 3) (Nat.le_of_ble_eq_true rfl)
  rw [lg_entry_eq]
  generalize (lg_sl ([.int 47, .long y]) ++ List.replicate (3 - (lg_sl ([.int 47, .long y])).length) Slot.unset).toArray = ls at hl ⊢
  have hl : lv_has ls 3 [(0, .int 47), (1, .long y)] := hl
  refine lv_iload_n hx hb dX1_hasResult_0 rfl (lv_at hl 0 rfl) ?_
  refine lv_bipush (v := 48) hx hb dX1_hasResult_1 (by decide) ?_
  refine lv_icmp_eq (tgt := 12) hx hb dX1_hasResult_3 (by decide) (fun c_1 => ?_) (fun c_1 => ?_)
  · skip
    exact absurd c_1 (by decide)
  · skip
    refine lv_iload_n hx hb dX1_hasResult_6 rfl (lv_at hl 0 rfl) ?_
    refine lv_bipush (v := 49) hx hb dX1_hasResult_7 (by decide) ?_
    refine lv_icmp_ne (tgt := 24) hx hb dX1_hasResult_9 (by decide) (fun c_2 => ?_) (fun c_2 => ?_)
    · skip
      refine lv_iload_n hx hb dX1_hasResult_24 rfl (lv_at hl 0 rfl) ?_
      refine lv_bipush (v := 36) hx hb dX1_hasResult_25 (by decide) ?_
      refine lv_icmp_ne (tgt := 36) hx hb dX1_hasResult_27 (by decide) (fun c_3 => ?_) (fun c_3 => ?_)
      · skip
        refine lv_iconst (v := 1) hx hb dX1_hasResult_36 (by decide) ?_
        refine lv_goto (tgt := 41) hx hb dX1_hasResult_37 (by decide) ?_
        have hP9 := hP.sub (ws' := []) [] rfl
        have hD9 := hD.sub (ws' := []) [] (by decide) rfl
        have hK9 := hK.sub (tys' := [(cB, .byte), (cI, .int), (cJ, .long), (cZ, .boolean)]) [0, 1, 2, 3] rfl
        exact W.zret (v := 1) hx hb hr (by rfl) (fun t_ ht hW => ⟨⟨1, (), rfl, rfl, by rw [ht]; exact hP9, va_K.moved hW.alike hK9, hD9⟩, hS.F ht⟩) hS.2.2 dX1_hasResult_41
      · skip
        exact absurd c_3 (by decide)
    · skip
      exact absurd c_2 (by decide)
abbrev cs_t_reckon_eq (cB cI cJ cZ : ClassId) (x y : Int64) : va_W := []
abbrev pc_t_reckon_eq (dC : Nat → ClassId) (dI : Nat → Nat → Nat) (sz : Nat) (cB cI cJ cZ : ClassId) (x y : Int64) : Array Value → State → Prop := va_Pc [.int 50, .long x, .long y] (fun U => U.heap.size = sz ∧ va_P (dC, dI) vwCl [] U.heap ∧ va_K (dC, dI) vwCl [(cB, .byte), (cI, .int), (cJ, .long), (cZ, .boolean)] U ∧ va_D (fun _ => True) [])
abbrev qc_t_reckon_eq (dC : Nat → ClassId) (dI : Nat → Nat → Nat) (cB cI cJ cZ : ClassId) (x y : Int64) (A : Nat → Prop) : Array Value → State → Outcome → State → Prop := va_Ql (fun (r : Int64) (u : Unit) => match u with | _ => r = (if x = y then 1 else 0)) (fun (u : Unit) t_ => match u with | _ => va_P (dC, dI) vwCl [] t_.heap ∧ va_K (dC, dI) vwCl [(cB, .byte), (cI, .int), (cJ, .long), (cZ, .boolean)] t_ ∧ va_D A []) A
set_option maxHeartbeats 4000000 in
set_option maxRecDepth 100000 in
theorem t_reckon_eq (l : Launch) (dC : Nat → ClassId) (dI : Nat → Nat → Nat) (sz : Nat) (cB cI cJ cZ : ClassId) (x y : Int64)  : Met l yX1_reckon (wsOf yX1_reckon cX1_reckon 5 (some .long)) ({ frames := 0, cells := 0, slots := 0, locals := 0 }) (pc_t_reckon_eq dC dI sz cB cI cJ cZ x y) (qc_t_reckon_eq dC dI cB cI cJ cZ x y (va_A (cs_t_reckon_eq cB cI cJ cZ x y) sz)) 0 0 (va_A (cs_t_reckon_eq cB cI cJ cZ x y) sz) := by
  refine Met.ofW (cc := cX1_reckon) (maxL := 5) (ret := (some .long)) (by decide) rfl ?_
  intro p e s m args below meth c s₁ B hml hv
  obtain ⟨rfl, hsz, hP, hK, hD0⟩ := hv
  have hx := B.exec
  have hb := B.bytes
  have hr := B.returns
  have hts := atoms_spec (ws := (wsOf yX1_reckon cX1_reckon 5 (some .long))) B.pre
  have hown : s.vm.findClass RX1 = some m.cls := findClass_of_methodNamed B.named
  have hlocks := B.notSynchronized
  subst hsz
  have hD := hD0.self (sz := s.heap.size)
  generalize hAe : va_A (cs_t_reckon_eq cB cI cJ cZ x y) s.heap.size = A at hD ⊢
  have hA : ∀ q : Nat, s.heap.size ≤ q → A q := fun q h => by rw [← hAe]; exact Or.inr h
  have hS : va_S A s.heap s.heap [] := va_S.rf
  have hP : va_P (dC, dI) vwCl [] s.heap := hP
  have hl := lv_entry ([.int 50, .long x, .long y]) (n := 5) (Nat.le_of_ble_eq_true rfl)
  rw [lg_entry_eq]
  generalize (lg_sl ([.int 50, .long x, .long y]) ++ List.replicate (5 - (lg_sl ([.int 50, .long x, .long y])).length) Slot.unset).toArray = ls at hl ⊢
  have hl : lv_has ls 5 [(0, .int 50), (1, .long x), (3, .long y)] := hl
  refine lv_iload_n hx hb dX1_reckon_0 rfl (lv_at hl 0 rfl) ?_
  refine lv_tableIn (tgt := 150) (off := 149) hx hb dX1_reckon_1 (by decide) (by decide) (by decide) (by decide) ?_
  refine lv_lload_n hx hb dX1_reckon_150 rfl (lv_at hl 1 rfl) ?_
  refine lv_lload_n hx hb dX1_reckon_151 rfl (lv_at hl 2 rfl) ?_
  refine W.lcmp hx hb dX1_reckon_152 ?_
  refine lv_if_ne (tgt := 160) hx hb dX1_reckon_153 (by decide) (fun c_1 => ?_) (fun c_1 => ?_)
  · skip
    have c_1 : ¬ (x = y) := fun h => c_1 ((lg_cmp_eq x y).mpr h)
    refine lv_lconst (v := 0) hx hb dX1_reckon_160 (by decide) ?_
    have hP9 := hP.sub (ws' := []) [] rfl
    have hD9 := hD.sub (ws' := []) [] (by decide) rfl
    have hK9 := hK.sub (tys' := [(cB, .byte), (cI, .int), (cJ, .long), (cZ, .boolean)]) [0, 1, 2, 3] rfl
    exact W.lret (v := 0) hx hb hr (fun t_ ht hW => ⟨⟨0, (), rfl, by rw [if_neg c_1], by rw [ht]; exact hP9, va_K.moved hW.alike hK9, hD9⟩, hS.F ht⟩) hS.2.2 dX1_reckon_161
  · skip
    have c_1 : x = y := (lg_cmp_eq x y).mp c_1
    refine lv_lconst (v := 1) hx hb dX1_reckon_156 (by decide) ?_
    refine lv_goto (tgt := 161) hx hb dX1_reckon_157 (by decide) ?_
    have hP9 := hP.sub (ws' := []) [] rfl
    have hD9 := hD.sub (ws' := []) [] (by decide) rfl
    have hK9 := hK.sub (tys' := [(cB, .byte), (cI, .int), (cJ, .long), (cZ, .boolean)]) [0, 1, 2, 3] rfl
    exact W.lret (v := 1) hx hb hr (fun t_ ht hW => ⟨⟨1, (), rfl, by rw [if_pos c_1], by rw [ht]; exact hP9, va_K.moved hW.alike hK9, hD9⟩, hS.F ht⟩) hS.2.2 dX1_reckon_161
abbrev cs_t_hasResult_eq (cB cI cJ cZ : ClassId) (y : Int64) : va_W := []
abbrev pc_t_hasResult_eq (dC : Nat → ClassId) (dI : Nat → Nat → Nat) (sz : Nat) (cB cI cJ cZ : ClassId) (y : Int64) : Array Value → State → Prop := va_Pc [.int 50, .long y] (fun U => U.heap.size = sz ∧ va_P (dC, dI) vwCl [] U.heap ∧ va_K (dC, dI) vwCl [(cB, .byte), (cI, .int), (cJ, .long), (cZ, .boolean)] U ∧ va_D (fun _ => True) [])
abbrev qc_t_hasResult_eq (dC : Nat → ClassId) (dI : Nat → Nat → Nat) (cB cI cJ cZ : ClassId) (y : Int64) (A : Nat → Prop) : Array Value → State → Outcome → State → Prop := va_Qi (fun (r : Int32) (u : Unit) => match u with | _ => r = 1) (fun (u : Unit) t_ => match u with | _ => va_P (dC, dI) vwCl [] t_.heap ∧ va_K (dC, dI) vwCl [(cB, .byte), (cI, .int), (cJ, .long), (cZ, .boolean)] t_ ∧ va_D A []) A
set_option maxHeartbeats 4000000 in
set_option maxRecDepth 100000 in
theorem t_hasResult_eq (l : Launch) (dC : Nat → ClassId) (dI : Nat → Nat → Nat) (sz : Nat) (cB cI cJ cZ : ClassId) (y : Int64)  : Met l yX1_hasResult (wsOf yX1_hasResult cX1_hasResult 3 (some .boolean)) ({ frames := 0, cells := 0, slots := 0, locals := 0 }) (pc_t_hasResult_eq dC dI sz cB cI cJ cZ y) (qc_t_hasResult_eq dC dI cB cI cJ cZ y (va_A (cs_t_hasResult_eq cB cI cJ cZ y) sz)) 0 0 (va_A (cs_t_hasResult_eq cB cI cJ cZ y) sz) := by
  refine Met.ofW (cc := cX1_hasResult) (maxL := 3) (ret := (some .boolean)) (by decide) rfl ?_
  intro p e s m args below meth c s₁ B hml hv
  obtain ⟨rfl, hsz, hP, hK, hD0⟩ := hv
  have hx := B.exec
  have hb := B.bytes
  have hr := B.returns
  have hts := atoms_spec (ws := (wsOf yX1_hasResult cX1_hasResult 3 (some .boolean))) B.pre
  have hown : s.vm.findClass RX1 = some m.cls := findClass_of_methodNamed B.named
  have hlocks := B.notSynchronized
  subst hsz
  have hD := hD0.self (sz := s.heap.size)
  generalize hAe : va_A (cs_t_hasResult_eq cB cI cJ cZ y) s.heap.size = A at hD ⊢
  have hA : ∀ q : Nat, s.heap.size ≤ q → A q := fun q h => by rw [← hAe]; exact Or.inr h
  have hS : va_S A s.heap s.heap [] := va_S.rf
  have hP : va_P (dC, dI) vwCl [] s.heap := hP
  have hl := lv_entry ([.int 50, .long y]) (n := 3) (Nat.le_of_ble_eq_true rfl)
  rw [lg_entry_eq]
  generalize (lg_sl ([.int 50, .long y]) ++ List.replicate (3 - (lg_sl ([.int 50, .long y])).length) Slot.unset).toArray = ls at hl ⊢
  have hl : lv_has ls 3 [(0, .int 50), (1, .long y)] := hl
  refine lv_iload_n hx hb dX1_hasResult_0 rfl (lv_at hl 0 rfl) ?_
  refine lv_bipush (v := 48) hx hb dX1_hasResult_1 (by decide) ?_
  refine lv_icmp_eq (tgt := 12) hx hb dX1_hasResult_3 (by decide) (fun c_1 => ?_) (fun c_1 => ?_)
  · skip
    exact absurd c_1 (by decide)
  · skip
    refine lv_iload_n hx hb dX1_hasResult_6 rfl (lv_at hl 0 rfl) ?_
    refine lv_bipush (v := 49) hx hb dX1_hasResult_7 (by decide) ?_
    refine lv_icmp_ne (tgt := 24) hx hb dX1_hasResult_9 (by decide) (fun c_2 => ?_) (fun c_2 => ?_)
    · skip
      refine lv_iload_n hx hb dX1_hasResult_24 rfl (lv_at hl 0 rfl) ?_
      refine lv_bipush (v := 36) hx hb dX1_hasResult_25 (by decide) ?_
      refine lv_icmp_ne (tgt := 36) hx hb dX1_hasResult_27 (by decide) (fun c_3 => ?_) (fun c_3 => ?_)
      · skip
        refine lv_iconst (v := 1) hx hb dX1_hasResult_36 (by decide) ?_
        refine lv_goto (tgt := 41) hx hb dX1_hasResult_37 (by decide) ?_
        have hP9 := hP.sub (ws' := []) [] rfl
        have hD9 := hD.sub (ws' := []) [] (by decide) rfl
        have hK9 := hK.sub (tys' := [(cB, .byte), (cI, .int), (cJ, .long), (cZ, .boolean)]) [0, 1, 2, 3] rfl
        exact W.zret (v := 1) hx hb hr (by rfl) (fun t_ ht hW => ⟨⟨1, (), rfl, rfl, by rw [ht]; exact hP9, va_K.moved hW.alike hK9, hD9⟩, hS.F ht⟩) hS.2.2 dX1_hasResult_41
      · skip
        exact absurd c_3 (by decide)
    · skip
      exact absurd c_2 (by decide)
abbrev cs_t_reckon_ne (cB cI cJ cZ : ClassId) (x y : Int64) : va_W := []
abbrev pc_t_reckon_ne (dC : Nat → ClassId) (dI : Nat → Nat → Nat) (sz : Nat) (cB cI cJ cZ : ClassId) (x y : Int64) : Array Value → State → Prop := va_Pc [.int 53, .long x, .long y] (fun U => U.heap.size = sz ∧ va_P (dC, dI) vwCl [] U.heap ∧ va_K (dC, dI) vwCl [(cB, .byte), (cI, .int), (cJ, .long), (cZ, .boolean)] U ∧ va_D (fun _ => True) [])
abbrev qc_t_reckon_ne (dC : Nat → ClassId) (dI : Nat → Nat → Nat) (cB cI cJ cZ : ClassId) (x y : Int64) (A : Nat → Prop) : Array Value → State → Outcome → State → Prop := va_Ql (fun (r : Int64) (u : Unit) => match u with | _ => r = (if x = y then 0 else 1)) (fun (u : Unit) t_ => match u with | _ => va_P (dC, dI) vwCl [] t_.heap ∧ va_K (dC, dI) vwCl [(cB, .byte), (cI, .int), (cJ, .long), (cZ, .boolean)] t_ ∧ va_D A []) A
set_option maxHeartbeats 4000000 in
set_option maxRecDepth 100000 in
theorem t_reckon_ne (l : Launch) (dC : Nat → ClassId) (dI : Nat → Nat → Nat) (sz : Nat) (cB cI cJ cZ : ClassId) (x y : Int64)  : Met l yX1_reckon (wsOf yX1_reckon cX1_reckon 5 (some .long)) ({ frames := 0, cells := 0, slots := 0, locals := 0 }) (pc_t_reckon_ne dC dI sz cB cI cJ cZ x y) (qc_t_reckon_ne dC dI cB cI cJ cZ x y (va_A (cs_t_reckon_ne cB cI cJ cZ x y) sz)) 0 0 (va_A (cs_t_reckon_ne cB cI cJ cZ x y) sz) := by
  refine Met.ofW (cc := cX1_reckon) (maxL := 5) (ret := (some .long)) (by decide) rfl ?_
  intro p e s m args below meth c s₁ B hml hv
  obtain ⟨rfl, hsz, hP, hK, hD0⟩ := hv
  have hx := B.exec
  have hb := B.bytes
  have hr := B.returns
  have hts := atoms_spec (ws := (wsOf yX1_reckon cX1_reckon 5 (some .long))) B.pre
  have hown : s.vm.findClass RX1 = some m.cls := findClass_of_methodNamed B.named
  have hlocks := B.notSynchronized
  subst hsz
  have hD := hD0.self (sz := s.heap.size)
  generalize hAe : va_A (cs_t_reckon_ne cB cI cJ cZ x y) s.heap.size = A at hD ⊢
  have hA : ∀ q : Nat, s.heap.size ≤ q → A q := fun q h => by rw [← hAe]; exact Or.inr h
  have hS : va_S A s.heap s.heap [] := va_S.rf
  have hP : va_P (dC, dI) vwCl [] s.heap := hP
  have hl := lv_entry ([.int 53, .long x, .long y]) (n := 5) (Nat.le_of_ble_eq_true rfl)
  rw [lg_entry_eq]
  generalize (lg_sl ([.int 53, .long x, .long y]) ++ List.replicate (5 - (lg_sl ([.int 53, .long x, .long y])).length) Slot.unset).toArray = ls at hl ⊢
  have hl : lv_has ls 5 [(0, .int 53), (1, .long x), (3, .long y)] := hl
  refine lv_iload_n hx hb dX1_reckon_0 rfl (lv_at hl 0 rfl) ?_
  refine lv_tableIn (tgt := 162) (off := 161) hx hb dX1_reckon_1 (by decide) (by decide) (by decide) (by decide) ?_
  refine lv_lload_n hx hb dX1_reckon_162 rfl (lv_at hl 1 rfl) ?_
  refine lv_lload_n hx hb dX1_reckon_163 rfl (lv_at hl 2 rfl) ?_
  refine W.lcmp hx hb dX1_reckon_164 ?_
  refine lv_if_eq (tgt := 172) hx hb dX1_reckon_165 (by decide) (fun c_1 => ?_) (fun c_1 => ?_)
  · skip
    have c_1 : x = y := (lg_cmp_eq x y).mp c_1
    refine lv_lconst (v := 0) hx hb dX1_reckon_172 (by decide) ?_
    have hP9 := hP.sub (ws' := []) [] rfl
    have hD9 := hD.sub (ws' := []) [] (by decide) rfl
    have hK9 := hK.sub (tys' := [(cB, .byte), (cI, .int), (cJ, .long), (cZ, .boolean)]) [0, 1, 2, 3] rfl
    exact W.lret (v := 0) hx hb hr (fun t_ ht hW => ⟨⟨0, (), rfl, by rw [if_pos c_1], by rw [ht]; exact hP9, va_K.moved hW.alike hK9, hD9⟩, hS.F ht⟩) hS.2.2 dX1_reckon_173
  · skip
    have c_1 : ¬ (x = y) := fun h => c_1 ((lg_cmp_eq x y).mpr h)
    refine lv_lconst (v := 1) hx hb dX1_reckon_168 (by decide) ?_
    refine lv_goto (tgt := 173) hx hb dX1_reckon_169 (by decide) ?_
    have hP9 := hP.sub (ws' := []) [] rfl
    have hD9 := hD.sub (ws' := []) [] (by decide) rfl
    have hK9 := hK.sub (tys' := [(cB, .byte), (cI, .int), (cJ, .long), (cZ, .boolean)]) [0, 1, 2, 3] rfl
    exact W.lret (v := 1) hx hb hr (fun t_ ht hW => ⟨⟨1, (), rfl, by rw [if_neg c_1], by rw [ht]; exact hP9, va_K.moved hW.alike hK9, hD9⟩, hS.F ht⟩) hS.2.2 dX1_reckon_173
abbrev cs_t_hasResult_ne (cB cI cJ cZ : ClassId) (y : Int64) : va_W := []
abbrev pc_t_hasResult_ne (dC : Nat → ClassId) (dI : Nat → Nat → Nat) (sz : Nat) (cB cI cJ cZ : ClassId) (y : Int64) : Array Value → State → Prop := va_Pc [.int 53, .long y] (fun U => U.heap.size = sz ∧ va_P (dC, dI) vwCl [] U.heap ∧ va_K (dC, dI) vwCl [(cB, .byte), (cI, .int), (cJ, .long), (cZ, .boolean)] U ∧ va_D (fun _ => True) [])
abbrev qc_t_hasResult_ne (dC : Nat → ClassId) (dI : Nat → Nat → Nat) (cB cI cJ cZ : ClassId) (y : Int64) (A : Nat → Prop) : Array Value → State → Outcome → State → Prop := va_Qi (fun (r : Int32) (u : Unit) => match u with | _ => r = 1) (fun (u : Unit) t_ => match u with | _ => va_P (dC, dI) vwCl [] t_.heap ∧ va_K (dC, dI) vwCl [(cB, .byte), (cI, .int), (cJ, .long), (cZ, .boolean)] t_ ∧ va_D A []) A
set_option maxHeartbeats 4000000 in
set_option maxRecDepth 100000 in
theorem t_hasResult_ne (l : Launch) (dC : Nat → ClassId) (dI : Nat → Nat → Nat) (sz : Nat) (cB cI cJ cZ : ClassId) (y : Int64)  : Met l yX1_hasResult (wsOf yX1_hasResult cX1_hasResult 3 (some .boolean)) ({ frames := 0, cells := 0, slots := 0, locals := 0 }) (pc_t_hasResult_ne dC dI sz cB cI cJ cZ y) (qc_t_hasResult_ne dC dI cB cI cJ cZ y (va_A (cs_t_hasResult_ne cB cI cJ cZ y) sz)) 0 0 (va_A (cs_t_hasResult_ne cB cI cJ cZ y) sz) := by
  refine Met.ofW (cc := cX1_hasResult) (maxL := 3) (ret := (some .boolean)) (by decide) rfl ?_
  intro p e s m args below meth c s₁ B hml hv
  obtain ⟨rfl, hsz, hP, hK, hD0⟩ := hv
  have hx := B.exec
  have hb := B.bytes
  have hr := B.returns
  have hts := atoms_spec (ws := (wsOf yX1_hasResult cX1_hasResult 3 (some .boolean))) B.pre
  have hown : s.vm.findClass RX1 = some m.cls := findClass_of_methodNamed B.named
  have hlocks := B.notSynchronized
  subst hsz
  have hD := hD0.self (sz := s.heap.size)
  generalize hAe : va_A (cs_t_hasResult_ne cB cI cJ cZ y) s.heap.size = A at hD ⊢
  have hA : ∀ q : Nat, s.heap.size ≤ q → A q := fun q h => by rw [← hAe]; exact Or.inr h
  have hS : va_S A s.heap s.heap [] := va_S.rf
  have hP : va_P (dC, dI) vwCl [] s.heap := hP
  have hl := lv_entry ([.int 53, .long y]) (n := 3) (Nat.le_of_ble_eq_true rfl)
  rw [lg_entry_eq]
  generalize (lg_sl ([.int 53, .long y]) ++ List.replicate (3 - (lg_sl ([.int 53, .long y])).length) Slot.unset).toArray = ls at hl ⊢
  have hl : lv_has ls 3 [(0, .int 53), (1, .long y)] := hl
  refine lv_iload_n hx hb dX1_hasResult_0 rfl (lv_at hl 0 rfl) ?_
  refine lv_bipush (v := 48) hx hb dX1_hasResult_1 (by decide) ?_
  refine lv_icmp_eq (tgt := 12) hx hb dX1_hasResult_3 (by decide) (fun c_1 => ?_) (fun c_1 => ?_)
  · skip
    exact absurd c_1 (by decide)
  · skip
    refine lv_iload_n hx hb dX1_hasResult_6 rfl (lv_at hl 0 rfl) ?_
    refine lv_bipush (v := 49) hx hb dX1_hasResult_7 (by decide) ?_
    refine lv_icmp_ne (tgt := 24) hx hb dX1_hasResult_9 (by decide) (fun c_2 => ?_) (fun c_2 => ?_)
    · skip
      refine lv_iload_n hx hb dX1_hasResult_24 rfl (lv_at hl 0 rfl) ?_
      refine lv_bipush (v := 36) hx hb dX1_hasResult_25 (by decide) ?_
      refine lv_icmp_ne (tgt := 36) hx hb dX1_hasResult_27 (by decide) (fun c_3 => ?_) (fun c_3 => ?_)
      · skip
        refine lv_iconst (v := 1) hx hb dX1_hasResult_36 (by decide) ?_
        refine lv_goto (tgt := 41) hx hb dX1_hasResult_37 (by decide) ?_
        have hP9 := hP.sub (ws' := []) [] rfl
        have hD9 := hD.sub (ws' := []) [] (by decide) rfl
        have hK9 := hK.sub (tys' := [(cB, .byte), (cI, .int), (cJ, .long), (cZ, .boolean)]) [0, 1, 2, 3] rfl
        exact W.zret (v := 1) hx hb hr (by rfl) (fun t_ ht hW => ⟨⟨1, (), rfl, rfl, by rw [ht]; exact hP9, va_K.moved hW.alike hK9, hD9⟩, hS.F ht⟩) hS.2.2 dX1_hasResult_41
      · skip
        exact absurd c_3 (by decide)
    · skip
      exact absurd c_2 (by decide)
abbrev cs_t_reckon_lt (cB cI cJ cZ : ClassId) (x y : Int64) : va_W := []
abbrev pc_t_reckon_lt (dC : Nat → ClassId) (dI : Nat → Nat → Nat) (sz : Nat) (cB cI cJ cZ : ClassId) (x y : Int64) : Array Value → State → Prop := va_Pc [.int 51, .long x, .long y] (fun U => U.heap.size = sz ∧ va_P (dC, dI) vwCl [] U.heap ∧ va_K (dC, dI) vwCl [(cB, .byte), (cI, .int), (cJ, .long), (cZ, .boolean)] U ∧ va_D (fun _ => True) [])
abbrev qc_t_reckon_lt (dC : Nat → ClassId) (dI : Nat → Nat → Nat) (cB cI cJ cZ : ClassId) (x y : Int64) (A : Nat → Prop) : Array Value → State → Outcome → State → Prop := va_Ql (fun (r : Int64) (u : Unit) => match u with | _ => r = (if y ≤ x then 0 else 1)) (fun (u : Unit) t_ => match u with | _ => va_P (dC, dI) vwCl [] t_.heap ∧ va_K (dC, dI) vwCl [(cB, .byte), (cI, .int), (cJ, .long), (cZ, .boolean)] t_ ∧ va_D A []) A
set_option maxHeartbeats 4000000 in
set_option maxRecDepth 100000 in
theorem t_reckon_lt (l : Launch) (dC : Nat → ClassId) (dI : Nat → Nat → Nat) (sz : Nat) (cB cI cJ cZ : ClassId) (x y : Int64)  : Met l yX1_reckon (wsOf yX1_reckon cX1_reckon 5 (some .long)) ({ frames := 0, cells := 0, slots := 0, locals := 0 }) (pc_t_reckon_lt dC dI sz cB cI cJ cZ x y) (qc_t_reckon_lt dC dI cB cI cJ cZ x y (va_A (cs_t_reckon_lt cB cI cJ cZ x y) sz)) 0 0 (va_A (cs_t_reckon_lt cB cI cJ cZ x y) sz) := by
  refine Met.ofW (cc := cX1_reckon) (maxL := 5) (ret := (some .long)) (by decide) rfl ?_
  intro p e s m args below meth c s₁ B hml hv
  obtain ⟨rfl, hsz, hP, hK, hD0⟩ := hv
  have hx := B.exec
  have hb := B.bytes
  have hr := B.returns
  have hts := atoms_spec (ws := (wsOf yX1_reckon cX1_reckon 5 (some .long))) B.pre
  have hown : s.vm.findClass RX1 = some m.cls := findClass_of_methodNamed B.named
  have hlocks := B.notSynchronized
  subst hsz
  have hD := hD0.self (sz := s.heap.size)
  generalize hAe : va_A (cs_t_reckon_lt cB cI cJ cZ x y) s.heap.size = A at hD ⊢
  have hA : ∀ q : Nat, s.heap.size ≤ q → A q := fun q h => by rw [← hAe]; exact Or.inr h
  have hS : va_S A s.heap s.heap [] := va_S.rf
  have hP : va_P (dC, dI) vwCl [] s.heap := hP
  have hl := lv_entry ([.int 51, .long x, .long y]) (n := 5) (Nat.le_of_ble_eq_true rfl)
  rw [lg_entry_eq]
  generalize (lg_sl ([.int 51, .long x, .long y]) ++ List.replicate (5 - (lg_sl ([.int 51, .long x, .long y])).length) Slot.unset).toArray = ls at hl ⊢
  have hl : lv_has ls 5 [(0, .int 51), (1, .long x), (3, .long y)] := hl
  refine lv_iload_n hx hb dX1_reckon_0 rfl (lv_at hl 0 rfl) ?_
  refine lv_tableIn (tgt := 174) (off := 173) hx hb dX1_reckon_1 (by decide) (by decide) (by decide) (by decide) ?_
  refine lv_lload_n hx hb dX1_reckon_174 rfl (lv_at hl 1 rfl) ?_
  refine lv_lload_n hx hb dX1_reckon_175 rfl (lv_at hl 2 rfl) ?_
  refine W.lcmp hx hb dX1_reckon_176 ?_
  refine lv_if_ge (tgt := 184) hx hb dX1_reckon_177 (by decide) (fun c_1 => ?_) (fun c_1 => ?_)
  · skip
    have c_1 : y ≤ x := (lg_cmp_ge x y).mp c_1
    refine lv_lconst (v := 0) hx hb dX1_reckon_184 (by decide) ?_
    have hP9 := hP.sub (ws' := []) [] rfl
    have hD9 := hD.sub (ws' := []) [] (by decide) rfl
    have hK9 := hK.sub (tys' := [(cB, .byte), (cI, .int), (cJ, .long), (cZ, .boolean)]) [0, 1, 2, 3] rfl
    exact W.lret (v := 0) hx hb hr (fun t_ ht hW => ⟨⟨0, (), rfl, by rw [if_pos c_1], by rw [ht]; exact hP9, va_K.moved hW.alike hK9, hD9⟩, hS.F ht⟩) hS.2.2 dX1_reckon_185
  · skip
    have c_1 : ¬ (y ≤ x) := fun h => c_1 ((lg_cmp_ge x y).mpr h)
    refine lv_lconst (v := 1) hx hb dX1_reckon_180 (by decide) ?_
    refine lv_goto (tgt := 185) hx hb dX1_reckon_181 (by decide) ?_
    have hP9 := hP.sub (ws' := []) [] rfl
    have hD9 := hD.sub (ws' := []) [] (by decide) rfl
    have hK9 := hK.sub (tys' := [(cB, .byte), (cI, .int), (cJ, .long), (cZ, .boolean)]) [0, 1, 2, 3] rfl
    exact W.lret (v := 1) hx hb hr (fun t_ ht hW => ⟨⟨1, (), rfl, by rw [if_neg c_1], by rw [ht]; exact hP9, va_K.moved hW.alike hK9, hD9⟩, hS.F ht⟩) hS.2.2 dX1_reckon_185
abbrev cs_t_hasResult_lt (cB cI cJ cZ : ClassId) (y : Int64) : va_W := []
abbrev pc_t_hasResult_lt (dC : Nat → ClassId) (dI : Nat → Nat → Nat) (sz : Nat) (cB cI cJ cZ : ClassId) (y : Int64) : Array Value → State → Prop := va_Pc [.int 51, .long y] (fun U => U.heap.size = sz ∧ va_P (dC, dI) vwCl [] U.heap ∧ va_K (dC, dI) vwCl [(cB, .byte), (cI, .int), (cJ, .long), (cZ, .boolean)] U ∧ va_D (fun _ => True) [])
abbrev qc_t_hasResult_lt (dC : Nat → ClassId) (dI : Nat → Nat → Nat) (cB cI cJ cZ : ClassId) (y : Int64) (A : Nat → Prop) : Array Value → State → Outcome → State → Prop := va_Qi (fun (r : Int32) (u : Unit) => match u with | _ => r = 1) (fun (u : Unit) t_ => match u with | _ => va_P (dC, dI) vwCl [] t_.heap ∧ va_K (dC, dI) vwCl [(cB, .byte), (cI, .int), (cJ, .long), (cZ, .boolean)] t_ ∧ va_D A []) A
set_option maxHeartbeats 4000000 in
set_option maxRecDepth 100000 in
theorem t_hasResult_lt (l : Launch) (dC : Nat → ClassId) (dI : Nat → Nat → Nat) (sz : Nat) (cB cI cJ cZ : ClassId) (y : Int64)  : Met l yX1_hasResult (wsOf yX1_hasResult cX1_hasResult 3 (some .boolean)) ({ frames := 0, cells := 0, slots := 0, locals := 0 }) (pc_t_hasResult_lt dC dI sz cB cI cJ cZ y) (qc_t_hasResult_lt dC dI cB cI cJ cZ y (va_A (cs_t_hasResult_lt cB cI cJ cZ y) sz)) 0 0 (va_A (cs_t_hasResult_lt cB cI cJ cZ y) sz) := by
  refine Met.ofW (cc := cX1_hasResult) (maxL := 3) (ret := (some .boolean)) (by decide) rfl ?_
  intro p e s m args below meth c s₁ B hml hv
  obtain ⟨rfl, hsz, hP, hK, hD0⟩ := hv
  have hx := B.exec
  have hb := B.bytes
  have hr := B.returns
  have hts := atoms_spec (ws := (wsOf yX1_hasResult cX1_hasResult 3 (some .boolean))) B.pre
  have hown : s.vm.findClass RX1 = some m.cls := findClass_of_methodNamed B.named
  have hlocks := B.notSynchronized
  subst hsz
  have hD := hD0.self (sz := s.heap.size)
  generalize hAe : va_A (cs_t_hasResult_lt cB cI cJ cZ y) s.heap.size = A at hD ⊢
  have hA : ∀ q : Nat, s.heap.size ≤ q → A q := fun q h => by rw [← hAe]; exact Or.inr h
  have hS : va_S A s.heap s.heap [] := va_S.rf
  have hP : va_P (dC, dI) vwCl [] s.heap := hP
  have hl := lv_entry ([.int 51, .long y]) (n := 3) (Nat.le_of_ble_eq_true rfl)
  rw [lg_entry_eq]
  generalize (lg_sl ([.int 51, .long y]) ++ List.replicate (3 - (lg_sl ([.int 51, .long y])).length) Slot.unset).toArray = ls at hl ⊢
  have hl : lv_has ls 3 [(0, .int 51), (1, .long y)] := hl
  refine lv_iload_n hx hb dX1_hasResult_0 rfl (lv_at hl 0 rfl) ?_
  refine lv_bipush (v := 48) hx hb dX1_hasResult_1 (by decide) ?_
  refine lv_icmp_eq (tgt := 12) hx hb dX1_hasResult_3 (by decide) (fun c_1 => ?_) (fun c_1 => ?_)
  · skip
    exact absurd c_1 (by decide)
  · skip
    refine lv_iload_n hx hb dX1_hasResult_6 rfl (lv_at hl 0 rfl) ?_
    refine lv_bipush (v := 49) hx hb dX1_hasResult_7 (by decide) ?_
    refine lv_icmp_ne (tgt := 24) hx hb dX1_hasResult_9 (by decide) (fun c_2 => ?_) (fun c_2 => ?_)
    · skip
      refine lv_iload_n hx hb dX1_hasResult_24 rfl (lv_at hl 0 rfl) ?_
      refine lv_bipush (v := 36) hx hb dX1_hasResult_25 (by decide) ?_
      refine lv_icmp_ne (tgt := 36) hx hb dX1_hasResult_27 (by decide) (fun c_3 => ?_) (fun c_3 => ?_)
      · skip
        refine lv_iconst (v := 1) hx hb dX1_hasResult_36 (by decide) ?_
        refine lv_goto (tgt := 41) hx hb dX1_hasResult_37 (by decide) ?_
        have hP9 := hP.sub (ws' := []) [] rfl
        have hD9 := hD.sub (ws' := []) [] (by decide) rfl
        have hK9 := hK.sub (tys' := [(cB, .byte), (cI, .int), (cJ, .long), (cZ, .boolean)]) [0, 1, 2, 3] rfl
        exact W.zret (v := 1) hx hb hr (by rfl) (fun t_ ht hW => ⟨⟨1, (), rfl, rfl, by rw [ht]; exact hP9, va_K.moved hW.alike hK9, hD9⟩, hS.F ht⟩) hS.2.2 dX1_hasResult_41
      · skip
        exact absurd c_3 (by decide)
    · skip
      exact absurd c_2 (by decide)
abbrev cs_t_reckon_le (cB cI cJ cZ : ClassId) (x y : Int64) : va_W := []
abbrev pc_t_reckon_le (dC : Nat → ClassId) (dI : Nat → Nat → Nat) (sz : Nat) (cB cI cJ cZ : ClassId) (x y : Int64) : Array Value → State → Prop := va_Pc [.int 54, .long x, .long y] (fun U => U.heap.size = sz ∧ va_P (dC, dI) vwCl [] U.heap ∧ va_K (dC, dI) vwCl [(cB, .byte), (cI, .int), (cJ, .long), (cZ, .boolean)] U ∧ va_D (fun _ => True) [])
abbrev qc_t_reckon_le (dC : Nat → ClassId) (dI : Nat → Nat → Nat) (cB cI cJ cZ : ClassId) (x y : Int64) (A : Nat → Prop) : Array Value → State → Outcome → State → Prop := va_Ql (fun (r : Int64) (u : Unit) => match u with | _ => r = (if y < x then 0 else 1)) (fun (u : Unit) t_ => match u with | _ => va_P (dC, dI) vwCl [] t_.heap ∧ va_K (dC, dI) vwCl [(cB, .byte), (cI, .int), (cJ, .long), (cZ, .boolean)] t_ ∧ va_D A []) A
set_option maxHeartbeats 4000000 in
set_option maxRecDepth 100000 in
theorem t_reckon_le (l : Launch) (dC : Nat → ClassId) (dI : Nat → Nat → Nat) (sz : Nat) (cB cI cJ cZ : ClassId) (x y : Int64)  : Met l yX1_reckon (wsOf yX1_reckon cX1_reckon 5 (some .long)) ({ frames := 0, cells := 0, slots := 0, locals := 0 }) (pc_t_reckon_le dC dI sz cB cI cJ cZ x y) (qc_t_reckon_le dC dI cB cI cJ cZ x y (va_A (cs_t_reckon_le cB cI cJ cZ x y) sz)) 0 0 (va_A (cs_t_reckon_le cB cI cJ cZ x y) sz) := by
  refine Met.ofW (cc := cX1_reckon) (maxL := 5) (ret := (some .long)) (by decide) rfl ?_
  intro p e s m args below meth c s₁ B hml hv
  obtain ⟨rfl, hsz, hP, hK, hD0⟩ := hv
  have hx := B.exec
  have hb := B.bytes
  have hr := B.returns
  have hts := atoms_spec (ws := (wsOf yX1_reckon cX1_reckon 5 (some .long))) B.pre
  have hown : s.vm.findClass RX1 = some m.cls := findClass_of_methodNamed B.named
  have hlocks := B.notSynchronized
  subst hsz
  have hD := hD0.self (sz := s.heap.size)
  generalize hAe : va_A (cs_t_reckon_le cB cI cJ cZ x y) s.heap.size = A at hD ⊢
  have hA : ∀ q : Nat, s.heap.size ≤ q → A q := fun q h => by rw [← hAe]; exact Or.inr h
  have hS : va_S A s.heap s.heap [] := va_S.rf
  have hP : va_P (dC, dI) vwCl [] s.heap := hP
  have hl := lv_entry ([.int 54, .long x, .long y]) (n := 5) (Nat.le_of_ble_eq_true rfl)
  rw [lg_entry_eq]
  generalize (lg_sl ([.int 54, .long x, .long y]) ++ List.replicate (5 - (lg_sl ([.int 54, .long x, .long y])).length) Slot.unset).toArray = ls at hl ⊢
  have hl : lv_has ls 5 [(0, .int 54), (1, .long x), (3, .long y)] := hl
  refine lv_iload_n hx hb dX1_reckon_0 rfl (lv_at hl 0 rfl) ?_
  refine lv_tableIn (tgt := 186) (off := 185) hx hb dX1_reckon_1 (by decide) (by decide) (by decide) (by decide) ?_
  refine lv_lload_n hx hb dX1_reckon_186 rfl (lv_at hl 1 rfl) ?_
  refine lv_lload_n hx hb dX1_reckon_187 rfl (lv_at hl 2 rfl) ?_
  refine W.lcmp hx hb dX1_reckon_188 ?_
  refine lv_if_gt (tgt := 196) hx hb dX1_reckon_189 (by decide) (fun c_1 => ?_) (fun c_1 => ?_)
  · skip
    have c_1 : y < x := (lg_cmp_gt x y).mp c_1
    refine lv_lconst (v := 0) hx hb dX1_reckon_196 (by decide) ?_
    have hP9 := hP.sub (ws' := []) [] rfl
    have hD9 := hD.sub (ws' := []) [] (by decide) rfl
    have hK9 := hK.sub (tys' := [(cB, .byte), (cI, .int), (cJ, .long), (cZ, .boolean)]) [0, 1, 2, 3] rfl
    exact W.lret (v := 0) hx hb hr (fun t_ ht hW => ⟨⟨0, (), rfl, by rw [if_pos c_1], by rw [ht]; exact hP9, va_K.moved hW.alike hK9, hD9⟩, hS.F ht⟩) hS.2.2 dX1_reckon_197
  · skip
    have c_1 : ¬ (y < x) := fun h => c_1 ((lg_cmp_gt x y).mpr h)
    refine lv_lconst (v := 1) hx hb dX1_reckon_192 (by decide) ?_
    refine lv_goto (tgt := 197) hx hb dX1_reckon_193 (by decide) ?_
    have hP9 := hP.sub (ws' := []) [] rfl
    have hD9 := hD.sub (ws' := []) [] (by decide) rfl
    have hK9 := hK.sub (tys' := [(cB, .byte), (cI, .int), (cJ, .long), (cZ, .boolean)]) [0, 1, 2, 3] rfl
    exact W.lret (v := 1) hx hb hr (fun t_ ht hW => ⟨⟨1, (), rfl, by rw [if_neg c_1], by rw [ht]; exact hP9, va_K.moved hW.alike hK9, hD9⟩, hS.F ht⟩) hS.2.2 dX1_reckon_197
abbrev cs_t_hasResult_le (cB cI cJ cZ : ClassId) (y : Int64) : va_W := []
abbrev pc_t_hasResult_le (dC : Nat → ClassId) (dI : Nat → Nat → Nat) (sz : Nat) (cB cI cJ cZ : ClassId) (y : Int64) : Array Value → State → Prop := va_Pc [.int 54, .long y] (fun U => U.heap.size = sz ∧ va_P (dC, dI) vwCl [] U.heap ∧ va_K (dC, dI) vwCl [(cB, .byte), (cI, .int), (cJ, .long), (cZ, .boolean)] U ∧ va_D (fun _ => True) [])
abbrev qc_t_hasResult_le (dC : Nat → ClassId) (dI : Nat → Nat → Nat) (cB cI cJ cZ : ClassId) (y : Int64) (A : Nat → Prop) : Array Value → State → Outcome → State → Prop := va_Qi (fun (r : Int32) (u : Unit) => match u with | _ => r = 1) (fun (u : Unit) t_ => match u with | _ => va_P (dC, dI) vwCl [] t_.heap ∧ va_K (dC, dI) vwCl [(cB, .byte), (cI, .int), (cJ, .long), (cZ, .boolean)] t_ ∧ va_D A []) A
set_option maxHeartbeats 4000000 in
set_option maxRecDepth 100000 in
theorem t_hasResult_le (l : Launch) (dC : Nat → ClassId) (dI : Nat → Nat → Nat) (sz : Nat) (cB cI cJ cZ : ClassId) (y : Int64)  : Met l yX1_hasResult (wsOf yX1_hasResult cX1_hasResult 3 (some .boolean)) ({ frames := 0, cells := 0, slots := 0, locals := 0 }) (pc_t_hasResult_le dC dI sz cB cI cJ cZ y) (qc_t_hasResult_le dC dI cB cI cJ cZ y (va_A (cs_t_hasResult_le cB cI cJ cZ y) sz)) 0 0 (va_A (cs_t_hasResult_le cB cI cJ cZ y) sz) := by
  refine Met.ofW (cc := cX1_hasResult) (maxL := 3) (ret := (some .boolean)) (by decide) rfl ?_
  intro p e s m args below meth c s₁ B hml hv
  obtain ⟨rfl, hsz, hP, hK, hD0⟩ := hv
  have hx := B.exec
  have hb := B.bytes
  have hr := B.returns
  have hts := atoms_spec (ws := (wsOf yX1_hasResult cX1_hasResult 3 (some .boolean))) B.pre
  have hown : s.vm.findClass RX1 = some m.cls := findClass_of_methodNamed B.named
  have hlocks := B.notSynchronized
  subst hsz
  have hD := hD0.self (sz := s.heap.size)
  generalize hAe : va_A (cs_t_hasResult_le cB cI cJ cZ y) s.heap.size = A at hD ⊢
  have hA : ∀ q : Nat, s.heap.size ≤ q → A q := fun q h => by rw [← hAe]; exact Or.inr h
  have hS : va_S A s.heap s.heap [] := va_S.rf
  have hP : va_P (dC, dI) vwCl [] s.heap := hP
  have hl := lv_entry ([.int 54, .long y]) (n := 3) (Nat.le_of_ble_eq_true rfl)
  rw [lg_entry_eq]
  generalize (lg_sl ([.int 54, .long y]) ++ List.replicate (3 - (lg_sl ([.int 54, .long y])).length) Slot.unset).toArray = ls at hl ⊢
  have hl : lv_has ls 3 [(0, .int 54), (1, .long y)] := hl
  refine lv_iload_n hx hb dX1_hasResult_0 rfl (lv_at hl 0 rfl) ?_
  refine lv_bipush (v := 48) hx hb dX1_hasResult_1 (by decide) ?_
  refine lv_icmp_eq (tgt := 12) hx hb dX1_hasResult_3 (by decide) (fun c_1 => ?_) (fun c_1 => ?_)
  · skip
    exact absurd c_1 (by decide)
  · skip
    refine lv_iload_n hx hb dX1_hasResult_6 rfl (lv_at hl 0 rfl) ?_
    refine lv_bipush (v := 49) hx hb dX1_hasResult_7 (by decide) ?_
    refine lv_icmp_ne (tgt := 24) hx hb dX1_hasResult_9 (by decide) (fun c_2 => ?_) (fun c_2 => ?_)
    · skip
      refine lv_iload_n hx hb dX1_hasResult_24 rfl (lv_at hl 0 rfl) ?_
      refine lv_bipush (v := 36) hx hb dX1_hasResult_25 (by decide) ?_
      refine lv_icmp_ne (tgt := 36) hx hb dX1_hasResult_27 (by decide) (fun c_3 => ?_) (fun c_3 => ?_)
      · skip
        refine lv_iconst (v := 1) hx hb dX1_hasResult_36 (by decide) ?_
        refine lv_goto (tgt := 41) hx hb dX1_hasResult_37 (by decide) ?_
        have hP9 := hP.sub (ws' := []) [] rfl
        have hD9 := hD.sub (ws' := []) [] (by decide) rfl
        have hK9 := hK.sub (tys' := [(cB, .byte), (cI, .int), (cJ, .long), (cZ, .boolean)]) [0, 1, 2, 3] rfl
        exact W.zret (v := 1) hx hb hr (by rfl) (fun t_ ht hW => ⟨⟨1, (), rfl, rfl, by rw [ht]; exact hP9, va_K.moved hW.alike hK9, hD9⟩, hS.F ht⟩) hS.2.2 dX1_hasResult_41
      · skip
        exact absurd c_3 (by decide)
    · skip
      exact absurd c_2 (by decide)
abbrev cs_t_reckon_gt (cB cI cJ cZ : ClassId) (x y : Int64) : va_W := []
abbrev pc_t_reckon_gt (dC : Nat → ClassId) (dI : Nat → Nat → Nat) (sz : Nat) (cB cI cJ cZ : ClassId) (x y : Int64) : Array Value → State → Prop := va_Pc [.int 52, .long x, .long y] (fun U => U.heap.size = sz ∧ va_P (dC, dI) vwCl [] U.heap ∧ va_K (dC, dI) vwCl [(cB, .byte), (cI, .int), (cJ, .long), (cZ, .boolean)] U ∧ va_D (fun _ => True) [])
abbrev qc_t_reckon_gt (dC : Nat → ClassId) (dI : Nat → Nat → Nat) (cB cI cJ cZ : ClassId) (x y : Int64) (A : Nat → Prop) : Array Value → State → Outcome → State → Prop := va_Ql (fun (r : Int64) (u : Unit) => match u with | _ => r = (if x ≤ y then 0 else 1)) (fun (u : Unit) t_ => match u with | _ => va_P (dC, dI) vwCl [] t_.heap ∧ va_K (dC, dI) vwCl [(cB, .byte), (cI, .int), (cJ, .long), (cZ, .boolean)] t_ ∧ va_D A []) A
set_option maxHeartbeats 4000000 in
set_option maxRecDepth 100000 in
theorem t_reckon_gt (l : Launch) (dC : Nat → ClassId) (dI : Nat → Nat → Nat) (sz : Nat) (cB cI cJ cZ : ClassId) (x y : Int64)  : Met l yX1_reckon (wsOf yX1_reckon cX1_reckon 5 (some .long)) ({ frames := 0, cells := 0, slots := 0, locals := 0 }) (pc_t_reckon_gt dC dI sz cB cI cJ cZ x y) (qc_t_reckon_gt dC dI cB cI cJ cZ x y (va_A (cs_t_reckon_gt cB cI cJ cZ x y) sz)) 0 0 (va_A (cs_t_reckon_gt cB cI cJ cZ x y) sz) := by
  refine Met.ofW (cc := cX1_reckon) (maxL := 5) (ret := (some .long)) (by decide) rfl ?_
  intro p e s m args below meth c s₁ B hml hv
  obtain ⟨rfl, hsz, hP, hK, hD0⟩ := hv
  have hx := B.exec
  have hb := B.bytes
  have hr := B.returns
  have hts := atoms_spec (ws := (wsOf yX1_reckon cX1_reckon 5 (some .long))) B.pre
  have hown : s.vm.findClass RX1 = some m.cls := findClass_of_methodNamed B.named
  have hlocks := B.notSynchronized
  subst hsz
  have hD := hD0.self (sz := s.heap.size)
  generalize hAe : va_A (cs_t_reckon_gt cB cI cJ cZ x y) s.heap.size = A at hD ⊢
  have hA : ∀ q : Nat, s.heap.size ≤ q → A q := fun q h => by rw [← hAe]; exact Or.inr h
  have hS : va_S A s.heap s.heap [] := va_S.rf
  have hP : va_P (dC, dI) vwCl [] s.heap := hP
  have hl := lv_entry ([.int 52, .long x, .long y]) (n := 5) (Nat.le_of_ble_eq_true rfl)
  rw [lg_entry_eq]
  generalize (lg_sl ([.int 52, .long x, .long y]) ++ List.replicate (5 - (lg_sl ([.int 52, .long x, .long y])).length) Slot.unset).toArray = ls at hl ⊢
  have hl : lv_has ls 5 [(0, .int 52), (1, .long x), (3, .long y)] := hl
  refine lv_iload_n hx hb dX1_reckon_0 rfl (lv_at hl 0 rfl) ?_
  refine lv_tableIn (tgt := 198) (off := 197) hx hb dX1_reckon_1 (by decide) (by decide) (by decide) (by decide) ?_
  refine lv_lload_n hx hb dX1_reckon_198 rfl (lv_at hl 1 rfl) ?_
  refine lv_lload_n hx hb dX1_reckon_199 rfl (lv_at hl 2 rfl) ?_
  refine W.lcmp hx hb dX1_reckon_200 ?_
  refine lv_if_le (tgt := 208) hx hb dX1_reckon_201 (by decide) (fun c_1 => ?_) (fun c_1 => ?_)
  · skip
    have c_1 : x ≤ y := (lg_cmp_le x y).mp c_1
    refine lv_lconst (v := 0) hx hb dX1_reckon_208 (by decide) ?_
    have hP9 := hP.sub (ws' := []) [] rfl
    have hD9 := hD.sub (ws' := []) [] (by decide) rfl
    have hK9 := hK.sub (tys' := [(cB, .byte), (cI, .int), (cJ, .long), (cZ, .boolean)]) [0, 1, 2, 3] rfl
    exact W.lret (v := 0) hx hb hr (fun t_ ht hW => ⟨⟨0, (), rfl, by rw [if_pos c_1], by rw [ht]; exact hP9, va_K.moved hW.alike hK9, hD9⟩, hS.F ht⟩) hS.2.2 dX1_reckon_209
  · skip
    have c_1 : ¬ (x ≤ y) := fun h => c_1 ((lg_cmp_le x y).mpr h)
    refine lv_lconst (v := 1) hx hb dX1_reckon_204 (by decide) ?_
    refine lv_goto (tgt := 209) hx hb dX1_reckon_205 (by decide) ?_
    have hP9 := hP.sub (ws' := []) [] rfl
    have hD9 := hD.sub (ws' := []) [] (by decide) rfl
    have hK9 := hK.sub (tys' := [(cB, .byte), (cI, .int), (cJ, .long), (cZ, .boolean)]) [0, 1, 2, 3] rfl
    exact W.lret (v := 1) hx hb hr (fun t_ ht hW => ⟨⟨1, (), rfl, by rw [if_neg c_1], by rw [ht]; exact hP9, va_K.moved hW.alike hK9, hD9⟩, hS.F ht⟩) hS.2.2 dX1_reckon_209
abbrev cs_t_hasResult_gt (cB cI cJ cZ : ClassId) (y : Int64) : va_W := []
abbrev pc_t_hasResult_gt (dC : Nat → ClassId) (dI : Nat → Nat → Nat) (sz : Nat) (cB cI cJ cZ : ClassId) (y : Int64) : Array Value → State → Prop := va_Pc [.int 52, .long y] (fun U => U.heap.size = sz ∧ va_P (dC, dI) vwCl [] U.heap ∧ va_K (dC, dI) vwCl [(cB, .byte), (cI, .int), (cJ, .long), (cZ, .boolean)] U ∧ va_D (fun _ => True) [])
abbrev qc_t_hasResult_gt (dC : Nat → ClassId) (dI : Nat → Nat → Nat) (cB cI cJ cZ : ClassId) (y : Int64) (A : Nat → Prop) : Array Value → State → Outcome → State → Prop := va_Qi (fun (r : Int32) (u : Unit) => match u with | _ => r = 1) (fun (u : Unit) t_ => match u with | _ => va_P (dC, dI) vwCl [] t_.heap ∧ va_K (dC, dI) vwCl [(cB, .byte), (cI, .int), (cJ, .long), (cZ, .boolean)] t_ ∧ va_D A []) A
set_option maxHeartbeats 4000000 in
set_option maxRecDepth 100000 in
theorem t_hasResult_gt (l : Launch) (dC : Nat → ClassId) (dI : Nat → Nat → Nat) (sz : Nat) (cB cI cJ cZ : ClassId) (y : Int64)  : Met l yX1_hasResult (wsOf yX1_hasResult cX1_hasResult 3 (some .boolean)) ({ frames := 0, cells := 0, slots := 0, locals := 0 }) (pc_t_hasResult_gt dC dI sz cB cI cJ cZ y) (qc_t_hasResult_gt dC dI cB cI cJ cZ y (va_A (cs_t_hasResult_gt cB cI cJ cZ y) sz)) 0 0 (va_A (cs_t_hasResult_gt cB cI cJ cZ y) sz) := by
  refine Met.ofW (cc := cX1_hasResult) (maxL := 3) (ret := (some .boolean)) (by decide) rfl ?_
  intro p e s m args below meth c s₁ B hml hv
  obtain ⟨rfl, hsz, hP, hK, hD0⟩ := hv
  have hx := B.exec
  have hb := B.bytes
  have hr := B.returns
  have hts := atoms_spec (ws := (wsOf yX1_hasResult cX1_hasResult 3 (some .boolean))) B.pre
  have hown : s.vm.findClass RX1 = some m.cls := findClass_of_methodNamed B.named
  have hlocks := B.notSynchronized
  subst hsz
  have hD := hD0.self (sz := s.heap.size)
  generalize hAe : va_A (cs_t_hasResult_gt cB cI cJ cZ y) s.heap.size = A at hD ⊢
  have hA : ∀ q : Nat, s.heap.size ≤ q → A q := fun q h => by rw [← hAe]; exact Or.inr h
  have hS : va_S A s.heap s.heap [] := va_S.rf
  have hP : va_P (dC, dI) vwCl [] s.heap := hP
  have hl := lv_entry ([.int 52, .long y]) (n := 3) (Nat.le_of_ble_eq_true rfl)
  rw [lg_entry_eq]
  generalize (lg_sl ([.int 52, .long y]) ++ List.replicate (3 - (lg_sl ([.int 52, .long y])).length) Slot.unset).toArray = ls at hl ⊢
  have hl : lv_has ls 3 [(0, .int 52), (1, .long y)] := hl
  refine lv_iload_n hx hb dX1_hasResult_0 rfl (lv_at hl 0 rfl) ?_
  refine lv_bipush (v := 48) hx hb dX1_hasResult_1 (by decide) ?_
  refine lv_icmp_eq (tgt := 12) hx hb dX1_hasResult_3 (by decide) (fun c_1 => ?_) (fun c_1 => ?_)
  · skip
    exact absurd c_1 (by decide)
  · skip
    refine lv_iload_n hx hb dX1_hasResult_6 rfl (lv_at hl 0 rfl) ?_
    refine lv_bipush (v := 49) hx hb dX1_hasResult_7 (by decide) ?_
    refine lv_icmp_ne (tgt := 24) hx hb dX1_hasResult_9 (by decide) (fun c_2 => ?_) (fun c_2 => ?_)
    · skip
      refine lv_iload_n hx hb dX1_hasResult_24 rfl (lv_at hl 0 rfl) ?_
      refine lv_bipush (v := 36) hx hb dX1_hasResult_25 (by decide) ?_
      refine lv_icmp_ne (tgt := 36) hx hb dX1_hasResult_27 (by decide) (fun c_3 => ?_) (fun c_3 => ?_)
      · skip
        refine lv_iconst (v := 1) hx hb dX1_hasResult_36 (by decide) ?_
        refine lv_goto (tgt := 41) hx hb dX1_hasResult_37 (by decide) ?_
        have hP9 := hP.sub (ws' := []) [] rfl
        have hD9 := hD.sub (ws' := []) [] (by decide) rfl
        have hK9 := hK.sub (tys' := [(cB, .byte), (cI, .int), (cJ, .long), (cZ, .boolean)]) [0, 1, 2, 3] rfl
        exact W.zret (v := 1) hx hb hr (by rfl) (fun t_ ht hW => ⟨⟨1, (), rfl, rfl, by rw [ht]; exact hP9, va_K.moved hW.alike hK9, hD9⟩, hS.F ht⟩) hS.2.2 dX1_hasResult_41
      · skip
        exact absurd c_3 (by decide)
    · skip
      exact absurd c_2 (by decide)
abbrev cs_t_reckon_ge (cB cI cJ cZ : ClassId) (x y : Int64) : va_W := []
abbrev pc_t_reckon_ge (dC : Nat → ClassId) (dI : Nat → Nat → Nat) (sz : Nat) (cB cI cJ cZ : ClassId) (x y : Int64) : Array Value → State → Prop := va_Pc [.int 55, .long x, .long y] (fun U => U.heap.size = sz ∧ va_P (dC, dI) vwCl [] U.heap ∧ va_K (dC, dI) vwCl [(cB, .byte), (cI, .int), (cJ, .long), (cZ, .boolean)] U ∧ va_D (fun _ => True) [])
abbrev qc_t_reckon_ge (dC : Nat → ClassId) (dI : Nat → Nat → Nat) (cB cI cJ cZ : ClassId) (x y : Int64) (A : Nat → Prop) : Array Value → State → Outcome → State → Prop := va_Ql (fun (r : Int64) (u : Unit) => match u with | _ => r = (if x < y then 0 else 1)) (fun (u : Unit) t_ => match u with | _ => va_P (dC, dI) vwCl [] t_.heap ∧ va_K (dC, dI) vwCl [(cB, .byte), (cI, .int), (cJ, .long), (cZ, .boolean)] t_ ∧ va_D A []) A
set_option maxHeartbeats 4000000 in
set_option maxRecDepth 100000 in
theorem t_reckon_ge (l : Launch) (dC : Nat → ClassId) (dI : Nat → Nat → Nat) (sz : Nat) (cB cI cJ cZ : ClassId) (x y : Int64)  : Met l yX1_reckon (wsOf yX1_reckon cX1_reckon 5 (some .long)) ({ frames := 0, cells := 0, slots := 0, locals := 0 }) (pc_t_reckon_ge dC dI sz cB cI cJ cZ x y) (qc_t_reckon_ge dC dI cB cI cJ cZ x y (va_A (cs_t_reckon_ge cB cI cJ cZ x y) sz)) 0 0 (va_A (cs_t_reckon_ge cB cI cJ cZ x y) sz) := by
  refine Met.ofW (cc := cX1_reckon) (maxL := 5) (ret := (some .long)) (by decide) rfl ?_
  intro p e s m args below meth c s₁ B hml hv
  obtain ⟨rfl, hsz, hP, hK, hD0⟩ := hv
  have hx := B.exec
  have hb := B.bytes
  have hr := B.returns
  have hts := atoms_spec (ws := (wsOf yX1_reckon cX1_reckon 5 (some .long))) B.pre
  have hown : s.vm.findClass RX1 = some m.cls := findClass_of_methodNamed B.named
  have hlocks := B.notSynchronized
  subst hsz
  have hD := hD0.self (sz := s.heap.size)
  generalize hAe : va_A (cs_t_reckon_ge cB cI cJ cZ x y) s.heap.size = A at hD ⊢
  have hA : ∀ q : Nat, s.heap.size ≤ q → A q := fun q h => by rw [← hAe]; exact Or.inr h
  have hS : va_S A s.heap s.heap [] := va_S.rf
  have hP : va_P (dC, dI) vwCl [] s.heap := hP
  have hl := lv_entry ([.int 55, .long x, .long y]) (n := 5) (Nat.le_of_ble_eq_true rfl)
  rw [lg_entry_eq]
  generalize (lg_sl ([.int 55, .long x, .long y]) ++ List.replicate (5 - (lg_sl ([.int 55, .long x, .long y])).length) Slot.unset).toArray = ls at hl ⊢
  have hl : lv_has ls 5 [(0, .int 55), (1, .long x), (3, .long y)] := hl
  refine lv_iload_n hx hb dX1_reckon_0 rfl (lv_at hl 0 rfl) ?_
  refine lv_tableOut (tgt := 210) hx hb dX1_reckon_1 (by decide) (by decide) ?_
  refine lv_lload_n hx hb dX1_reckon_210 rfl (lv_at hl 1 rfl) ?_
  refine lv_lload_n hx hb dX1_reckon_211 rfl (lv_at hl 2 rfl) ?_
  refine W.lcmp hx hb dX1_reckon_212 ?_
  refine lv_if_lt (tgt := 220) hx hb dX1_reckon_213 (by decide) (fun c_1 => ?_) (fun c_1 => ?_)
  · skip
    have c_1 : x < y := (lg_cmp_lt x y).mp c_1
    refine lv_lconst (v := 0) hx hb dX1_reckon_220 (by decide) ?_
    have hP9 := hP.sub (ws' := []) [] rfl
    have hD9 := hD.sub (ws' := []) [] (by decide) rfl
    have hK9 := hK.sub (tys' := [(cB, .byte), (cI, .int), (cJ, .long), (cZ, .boolean)]) [0, 1, 2, 3] rfl
    exact W.lret (v := 0) hx hb hr (fun t_ ht hW => ⟨⟨0, (), rfl, by rw [if_pos c_1], by rw [ht]; exact hP9, va_K.moved hW.alike hK9, hD9⟩, hS.F ht⟩) hS.2.2 dX1_reckon_221
  · skip
    have c_1 : ¬ (x < y) := fun h => c_1 ((lg_cmp_lt x y).mpr h)
    refine lv_lconst (v := 1) hx hb dX1_reckon_216 (by decide) ?_
    refine lv_goto (tgt := 221) hx hb dX1_reckon_217 (by decide) ?_
    have hP9 := hP.sub (ws' := []) [] rfl
    have hD9 := hD.sub (ws' := []) [] (by decide) rfl
    have hK9 := hK.sub (tys' := [(cB, .byte), (cI, .int), (cJ, .long), (cZ, .boolean)]) [0, 1, 2, 3] rfl
    exact W.lret (v := 1) hx hb hr (fun t_ ht hW => ⟨⟨1, (), rfl, by rw [if_neg c_1], by rw [ht]; exact hP9, va_K.moved hW.alike hK9, hD9⟩, hS.F ht⟩) hS.2.2 dX1_reckon_221
abbrev cs_t_hasResult_ge (cB cI cJ cZ : ClassId) (y : Int64) : va_W := []
abbrev pc_t_hasResult_ge (dC : Nat → ClassId) (dI : Nat → Nat → Nat) (sz : Nat) (cB cI cJ cZ : ClassId) (y : Int64) : Array Value → State → Prop := va_Pc [.int 55, .long y] (fun U => U.heap.size = sz ∧ va_P (dC, dI) vwCl [] U.heap ∧ va_K (dC, dI) vwCl [(cB, .byte), (cI, .int), (cJ, .long), (cZ, .boolean)] U ∧ va_D (fun _ => True) [])
abbrev qc_t_hasResult_ge (dC : Nat → ClassId) (dI : Nat → Nat → Nat) (cB cI cJ cZ : ClassId) (y : Int64) (A : Nat → Prop) : Array Value → State → Outcome → State → Prop := va_Qi (fun (r : Int32) (u : Unit) => match u with | _ => r = 1) (fun (u : Unit) t_ => match u with | _ => va_P (dC, dI) vwCl [] t_.heap ∧ va_K (dC, dI) vwCl [(cB, .byte), (cI, .int), (cJ, .long), (cZ, .boolean)] t_ ∧ va_D A []) A
set_option maxHeartbeats 4000000 in
set_option maxRecDepth 100000 in
theorem t_hasResult_ge (l : Launch) (dC : Nat → ClassId) (dI : Nat → Nat → Nat) (sz : Nat) (cB cI cJ cZ : ClassId) (y : Int64)  : Met l yX1_hasResult (wsOf yX1_hasResult cX1_hasResult 3 (some .boolean)) ({ frames := 0, cells := 0, slots := 0, locals := 0 }) (pc_t_hasResult_ge dC dI sz cB cI cJ cZ y) (qc_t_hasResult_ge dC dI cB cI cJ cZ y (va_A (cs_t_hasResult_ge cB cI cJ cZ y) sz)) 0 0 (va_A (cs_t_hasResult_ge cB cI cJ cZ y) sz) := by
  refine Met.ofW (cc := cX1_hasResult) (maxL := 3) (ret := (some .boolean)) (by decide) rfl ?_
  intro p e s m args below meth c s₁ B hml hv
  obtain ⟨rfl, hsz, hP, hK, hD0⟩ := hv
  have hx := B.exec
  have hb := B.bytes
  have hr := B.returns
  have hts := atoms_spec (ws := (wsOf yX1_hasResult cX1_hasResult 3 (some .boolean))) B.pre
  have hown : s.vm.findClass RX1 = some m.cls := findClass_of_methodNamed B.named
  have hlocks := B.notSynchronized
  subst hsz
  have hD := hD0.self (sz := s.heap.size)
  generalize hAe : va_A (cs_t_hasResult_ge cB cI cJ cZ y) s.heap.size = A at hD ⊢
  have hA : ∀ q : Nat, s.heap.size ≤ q → A q := fun q h => by rw [← hAe]; exact Or.inr h
  have hS : va_S A s.heap s.heap [] := va_S.rf
  have hP : va_P (dC, dI) vwCl [] s.heap := hP
  have hl := lv_entry ([.int 55, .long y]) (n := 3) (Nat.le_of_ble_eq_true rfl)
  rw [lg_entry_eq]
  generalize (lg_sl ([.int 55, .long y]) ++ List.replicate (3 - (lg_sl ([.int 55, .long y])).length) Slot.unset).toArray = ls at hl ⊢
  have hl : lv_has ls 3 [(0, .int 55), (1, .long y)] := hl
  refine lv_iload_n hx hb dX1_hasResult_0 rfl (lv_at hl 0 rfl) ?_
  refine lv_bipush (v := 48) hx hb dX1_hasResult_1 (by decide) ?_
  refine lv_icmp_eq (tgt := 12) hx hb dX1_hasResult_3 (by decide) (fun c_1 => ?_) (fun c_1 => ?_)
  · skip
    exact absurd c_1 (by decide)
  · skip
    refine lv_iload_n hx hb dX1_hasResult_6 rfl (lv_at hl 0 rfl) ?_
    refine lv_bipush (v := 49) hx hb dX1_hasResult_7 (by decide) ?_
    refine lv_icmp_ne (tgt := 24) hx hb dX1_hasResult_9 (by decide) (fun c_2 => ?_) (fun c_2 => ?_)
    · skip
      refine lv_iload_n hx hb dX1_hasResult_24 rfl (lv_at hl 0 rfl) ?_
      refine lv_bipush (v := 36) hx hb dX1_hasResult_25 (by decide) ?_
      refine lv_icmp_ne (tgt := 36) hx hb dX1_hasResult_27 (by decide) (fun c_3 => ?_) (fun c_3 => ?_)
      · skip
        refine lv_iconst (v := 1) hx hb dX1_hasResult_36 (by decide) ?_
        refine lv_goto (tgt := 41) hx hb dX1_hasResult_37 (by decide) ?_
        have hP9 := hP.sub (ws' := []) [] rfl
        have hD9 := hD.sub (ws' := []) [] (by decide) rfl
        have hK9 := hK.sub (tys' := [(cB, .byte), (cI, .int), (cJ, .long), (cZ, .boolean)]) [0, 1, 2, 3] rfl
        exact W.zret (v := 1) hx hb hr (by rfl) (fun t_ ht hW => ⟨⟨1, (), rfl, rfl, by rw [ht]; exact hP9, va_K.moved hW.alike hK9, hD9⟩, hS.F ht⟩) hS.2.2 dX1_hasResult_41
      · skip
        exact absurd c_3 (by decide)
    · skip
      exact absurd c_2 (by decide)

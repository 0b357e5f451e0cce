def thI (b : Int32) : Int32 := if b = 0 then 1 else 0
def knI (a b : Int32) : Int32 := if thI a = 0 then 0 else if thI b = 0 then 0 else 1
def kvI (k : Int32) (v : Int64) : Int64 := if k = 0 then 0 else v
def nbI (k : Int32) : Int32 := if k = 0 then 1 else 0
def anI (d : Int32) (bx bz : Int32) (x y : Int64) : Int32 := if thI bx = 0 then (if thI bz = 0 then 0 else if y = d.toInt64 then 1 else 0) else if x = d.toInt64 then 1 else if thI bz = 0 then 0 else if y = d.toInt64 then 1 else 0
def avI (d f k : Int32) : Int64 := if k = 0 then f.toInt64 else d.toInt64
def abI (k bx bz : Int32) : Int32 := if k = 0 then (if thI bx = 0 then 1 else if thI bz = 0 then 1 else 0) else 0
theorem dX1_two_0 : decode cX1_two 0 = .ok (.aload_n 0, 1) := by decide +kernel
theorem dX1_two_1 : decode cX1_two 1 = .ok (.getfield 62, 3) := by decide +kernel
theorem dX1_two_4 : decode cX1_two 4 = .ok (.iconst 2, 1) := by decide +kernel
theorem dX1_two_5 : decode cX1_two 5 = .ok (.if_icmp .ge 4, 3) := by decide +kernel
theorem dX1_two_9 : decode cX1_two 9 = .ok (.aload_n 0, 1) := by decide +kernel
theorem dX1_two_10 : decode cX1_two 10 = .ok (.dup, 1) := by decide +kernel
theorem dX1_two_11 : decode cX1_two 11 = .ok (.getfield 62, 3) := by decide +kernel
theorem dX1_two_14 : decode cX1_two 14 = .ok (.iconst 2, 1) := by decide +kernel
theorem dX1_two_15 : decode cX1_two 15 = .ok (.isub, 1) := by decide +kernel
theorem dX1_two_16 : decode cX1_two 16 = .ok (.putfield 62, 3) := by decide +kernel
theorem dX1_two_19 : decode cX1_two 19 = .ok (.aload_n 0, 1) := by decide +kernel
theorem dX1_two_20 : decode cX1_two 20 = .ok (.getfield 46, 3) := by decide +kernel
theorem dX1_two_23 : decode cX1_two 23 = .ok (.aload_n 0, 1) := by decide +kernel
theorem dX1_two_24 : decode cX1_two 24 = .ok (.getfield 62, 3) := by decide +kernel
theorem dX1_two_27 : decode cX1_two 27 = .ok (.laload, 1) := by decide +kernel
theorem dX1_two_28 : decode cX1_two 28 = .ok (.lstore_n 2, 1) := by decide +kernel
theorem dX1_two_29 : decode cX1_two 29 = .ok (.aload_n 0, 1) := by decide +kernel
theorem dX1_two_30 : decode cX1_two 30 = .ok (.getfield 46, 3) := by decide +kernel
theorem dX1_two_33 : decode cX1_two 33 = .ok (.aload_n 0, 1) := by decide +kernel
theorem dX1_two_34 : decode cX1_two 34 = .ok (.getfield 62, 3) := by decide +kernel
theorem dX1_two_37 : decode cX1_two 37 = .ok (.iconst 1, 1) := by decide +kernel
theorem dX1_two_38 : decode cX1_two 38 = .ok (.iadd, 1) := by decide +kernel
theorem dX1_two_39 : decode cX1_two 39 = .ok (.laload, 1) := by decide +kernel
theorem dX1_two_40 : decode cX1_two 40 = .ok (.lstore 4, 2) := by decide +kernel
theorem dX1_two_42 : decode cX1_two 42 = .ok (.aload_n 0, 1) := by decide +kernel
theorem dX1_two_43 : decode cX1_two 43 = .ok (.getfield 49, 3) := by decide +kernel
theorem dX1_two_46 : decode cX1_two 46 = .ok (.aload_n 0, 1) := by decide +kernel
theorem dX1_two_47 : decode cX1_two 47 = .ok (.getfield 62, 3) := by decide +kernel
theorem dX1_two_50 : decode cX1_two 50 = .ok (.baload, 1) := by decide +kernel
theorem dX1_two_51 : decode cX1_two 51 = .ok (.ifCond .ne 7, 3) := by decide +kernel
theorem dX1_two_54 : decode cX1_two 54 = .ok (.iconst 1, 1) := by decide +kernel
theorem dX1_two_55 : decode cX1_two 55 = .ok (.goto 4, 3) := by decide +kernel
theorem dX1_two_58 : decode cX1_two 58 = .ok (.iconst 0, 1) := by decide +kernel
theorem dX1_two_59 : decode cX1_two 59 = .ok (.istore 6, 2) := by decide +kernel
theorem dX1_two_61 : decode cX1_two 61 = .ok (.aload_n 0, 1) := by decide +kernel
theorem dX1_two_62 : decode cX1_two 62 = .ok (.getfield 49, 3) := by decide +kernel
theorem dX1_two_65 : decode cX1_two 65 = .ok (.aload_n 0, 1) := by decide +kernel
theorem dX1_two_66 : decode cX1_two 66 = .ok (.getfield 62, 3) := by decide +kernel
theorem dX1_two_69 : decode cX1_two 69 = .ok (.iconst 1, 1) := by decide +kernel
theorem dX1_two_70 : decode cX1_two 70 = .ok (.iadd, 1) := by decide +kernel
theorem dX1_two_71 : decode cX1_two 71 = .ok (.baload, 1) := by decide +kernel
theorem dX1_two_72 : decode cX1_two 72 = .ok (.ifCond .ne 7, 3) := by decide +kernel
theorem dX1_two_75 : decode cX1_two 75 = .ok (.iconst 1, 1) := by decide +kernel
theorem dX1_two_76 : decode cX1_two 76 = .ok (.goto 4, 3) := by decide +kernel
theorem dX1_two_79 : decode cX1_two 79 = .ok (.iconst 0, 1) := by decide +kernel
theorem dX1_two_80 : decode cX1_two 80 = .ok (.istore 7, 2) := by decide +kernel
theorem dX1_two_82 : decode cX1_two 82 = .ok (.iload_n 1, 1) := by decide +kernel
theorem dX1_two_83 : decode cX1_two 83 = .ok (.bipush 28, 2) := by decide +kernel
theorem dX1_two_85 : decode cX1_two 85 = .ok (.if_icmp .eq 9, 3) := by decide +kernel
theorem dX1_two_88 : decode cX1_two 88 = .ok (.iload_n 1, 1) := by decide +kernel
theorem dX1_two_89 : decode cX1_two 89 = .ok (.bipush 29, 2) := by decide +kernel
theorem dX1_two_91 : decode cX1_two 91 = .ok (.if_icmp .ne 91, 3) := by decide +kernel
theorem dX1_two_94 : decode cX1_two 94 = .ok (.iload_n 1, 1) := by decide +kernel
theorem dX1_two_95 : decode cX1_two 95 = .ok (.bipush 28, 2) := by decide +kernel
theorem dX1_two_97 : decode cX1_two 97 = .ok (.if_icmp .ne 7, 3) := by decide +kernel
theorem dX1_two_100 : decode cX1_two 100 = .ok (.iconst 0, 1) := by decide +kernel
theorem dX1_two_101 : decode cX1_two 101 = .ok (.goto 4, 3) := by decide +kernel
theorem dX1_two_104 : decode cX1_two 104 = .ok (.iconst 1, 1) := by decide +kernel
theorem dX1_two_105 : decode cX1_two 105 = .ok (.istore 8, 2) := by decide +kernel
theorem dX1_two_107 : decode cX1_two 107 = .ok (.iload 6, 2) := by decide +kernel
theorem dX1_two_109 : decode cX1_two 109 = .ok (.ifCond .eq 11, 3) := by decide +kernel
theorem dX1_two_112 : decode cX1_two 112 = .ok (.lload_n 2, 1) := by decide +kernel
theorem dX1_two_113 : decode cX1_two 113 = .ok (.iload 8, 2) := by decide +kernel
theorem dX1_two_115 : decode cX1_two 115 = .ok (.i2l, 1) := by decide +kernel
theorem dX1_two_116 : decode cX1_two 116 = .ok (.lcmp, 1) := by decide +kernel
theorem dX1_two_117 : decode cX1_two 117 = .ok (.ifCond .eq 17, 3) := by decide +kernel
theorem dX1_two_120 : decode cX1_two 120 = .ok (.iload 7, 2) := by decide +kernel
theorem dX1_two_122 : decode cX1_two 122 = .ok (.ifCond .eq 16, 3) := by decide +kernel
theorem dX1_two_125 : decode cX1_two 125 = .ok (.lload 4, 2) := by decide +kernel
theorem dX1_two_127 : decode cX1_two 127 = .ok (.iload 8, 2) := by decide +kernel
theorem dX1_two_129 : decode cX1_two 129 = .ok (.i2l, 1) := by decide +kernel
theorem dX1_two_130 : decode cX1_two 130 = .ok (.lcmp, 1) := by decide +kernel
theorem dX1_two_131 : decode cX1_two 131 = .ok (.ifCond .ne 7, 3) := by decide +kernel
theorem dX1_two_134 : decode cX1_two 134 = .ok (.iconst 1, 1) := by decide +kernel
theorem dX1_two_135 : decode cX1_two 135 = .ok (.goto 4, 3) := by decide +kernel
theorem dX1_two_138 : decode cX1_two 138 = .ok (.iconst 0, 1) := by decide +kernel
theorem dX1_two_139 : decode cX1_two 139 = .ok (.istore 9, 2) := by decide +kernel
theorem dX1_two_141 : decode cX1_two 141 = .ok (.aload_n 0, 1) := by decide +kernel
theorem dX1_two_142 : decode cX1_two 142 = .ok (.iload 9, 2) := by decide +kernel
theorem dX1_two_144 : decode cX1_two 144 = .ok (.ifCond .eq 9, 3) := by decide +kernel
theorem dX1_two_147 : decode cX1_two 147 = .ok (.iload 8, 2) := by decide +kernel
theorem dX1_two_149 : decode cX1_two 149 = .ok (.i2l, 1) := by decide +kernel
theorem dX1_two_150 : decode cX1_two 150 = .ok (.goto 8, 3) := by decide +kernel
theorem dX1_two_153 : decode cX1_two 153 = .ok (.iconst 1, 1) := by decide +kernel
theorem dX1_two_154 : decode cX1_two 154 = .ok (.iload 8, 2) := by decide +kernel
theorem dX1_two_156 : decode cX1_two 156 = .ok (.isub, 1) := by decide +kernel
theorem dX1_two_157 : decode cX1_two 157 = .ok (.i2l, 1) := by decide +kernel
theorem dX1_two_158 : decode cX1_two 158 = .ok (.iload 9, 2) := by decide +kernel
theorem dX1_two_160 : decode cX1_two 160 = .ok (.ifCond .ne 13, 3) := by decide +kernel
theorem dX1_two_163 : decode cX1_two 163 = .ok (.iload 6, 2) := by decide +kernel
theorem dX1_two_165 : decode cX1_two 165 = .ok (.ifCond .eq 12, 3) := by decide +kernel
theorem dX1_two_168 : decode cX1_two 168 = .ok (.iload 7, 2) := by decide +kernel
theorem dX1_two_170 : decode cX1_two 170 = .ok (.ifCond .eq 7, 3) := by decide +kernel
theorem dX1_two_173 : decode cX1_two 173 = .ok (.iconst 0, 1) := by decide +kernel
theorem dX1_two_174 : decode cX1_two 174 = .ok (.goto 4, 3) := by decide +kernel
theorem dX1_two_177 : decode cX1_two 177 = .ok (.iconst 1, 1) := by decide +kernel
theorem dX1_two_178 : decode cX1_two 178 = .ok (.invokevirtual 69, 3) := by decide +kernel
theorem dX1_two_181 : decode cX1_two 181 = .ok (.return_, 1) := by decide +kernel
theorem dX1_two_182 : decode cX1_two 182 = .ok (.iload 6, 2) := by decide +kernel
theorem dX1_two_184 : decode cX1_two 184 = .ok (.ifCond .eq 21, 3) := by decide +kernel
theorem dX1_two_187 : decode cX1_two 187 = .ok (.iload 7, 2) := by decide +kernel
theorem dX1_two_189 : decode cX1_two 189 = .ok (.ifCond .eq 16, 3) := by decide +kernel
theorem dX1_two_192 : decode cX1_two 192 = .ok (.iload_n 1, 1) := by decide +kernel
theorem dX1_two_193 : decode cX1_two 193 = .ok (.lload 4, 2) := by decide +kernel
theorem dX1_two_195 : decode cX1_two 195 = .ok (.invokestatic 96, 3) := by decide +kernel
theorem dX1_two_198 : decode cX1_two 198 = .ok (.ifCond .eq 7, 3) := by decide +kernel
theorem dX1_two_201 : decode cX1_two 201 = .ok (.iconst 1, 1) := by decide +kernel
theorem dX1_two_202 : decode cX1_two 202 = .ok (.goto 4, 3) := by decide +kernel
theorem dX1_two_205 : decode cX1_two 205 = .ok (.iconst 0, 1) := by decide +kernel
theorem dX1_two_206 : decode cX1_two 206 = .ok (.istore 8, 2) := by decide +kernel
theorem dX1_two_208 : decode cX1_two 208 = .ok (.aload_n 0, 1) := by decide +kernel
theorem dX1_two_209 : decode cX1_two 209 = .ok (.iload 8, 2) := by decide +kernel
theorem dX1_two_211 : decode cX1_two 211 = .ok (.ifCond .eq 13, 3) := by decide +kernel
theorem dX1_two_214 : decode cX1_two 214 = .ok (.iload_n 1, 1) := by decide +kernel
theorem dX1_two_215 : decode cX1_two 215 = .ok (.lload_n 2, 1) := by decide +kernel
theorem dX1_two_216 : decode cX1_two 216 = .ok (.lload 4, 2) := by decide +kernel
theorem dX1_two_218 : decode cX1_two 218 = .ok (.invokestatic 100, 3) := by decide +kernel
theorem dX1_two_221 : decode cX1_two 221 = .ok (.goto 4, 3) := by decide +kernel
theorem dX1_two_224 : decode cX1_two 224 = .ok (.lconst 0, 1) := by decide +kernel
theorem dX1_two_225 : decode cX1_two 225 = .ok (.iload 8, 2) := by decide +kernel
theorem dX1_two_227 : decode cX1_two 227 = .ok (.ifCond .eq 7, 3) := by decide +kernel
theorem dX1_two_230 : decode cX1_two 230 = .ok (.iconst 0, 1) := by decide +kernel
theorem dX1_two_231 : decode cX1_two 231 = .ok (.goto 4, 3) := by decide +kernel
theorem dX1_two_234 : decode cX1_two 234 = .ok (.iconst 1, 1) := by decide +kernel
theorem dX1_two_235 : decode cX1_two 235 = .ok (.invokevirtual 69, 3) := by decide +kernel
theorem dX1_two_238 : decode cX1_two 238 = .ok (.return_, 1) := by decide +kernel
abbrev cs_t_two_plus (cB cI cJ cZ : ClassId) (h0 hS1 hB1 : Nat) (sz1 : Int32) (k1 k2 k3 k4 k5 k6 k7 k8 k9 : Value) (N : Nat) (sf : Nat → Int64) (bf : Nat → Int32) (tp : Nat) : va_W := [(h0, .inr (2, [.int sz1, k1, k2, k3, k4, k5, k6, k7, k8, k9, .ref hS1, .ref hB1, .int (nI (tp + 2))])), (hS1, .inl (cJ, N, .inr (.inl sf))), (hB1, .inl (cB, N, .inl bf))]
abbrev pc_t_two_plus (dC : Nat → ClassId) (dI : Nat → Nat → Nat) (sz : Nat) (cB cI cJ cZ : ClassId) (h0 hS1 hB1 : Nat) (sz1 : Int32) (k1 k2 k3 k4 k5 k6 k7 k8 k9 : Value) (N : Nat) (sf : Nat → Int64) (bf : Nat → Int32) (tp : Nat) : Array Value → State → Prop := va_Pc [.ref h0, .int 45] (fun U => U.heap.size = sz ∧ va_P (dC, dI) vwCl [(h0, .inr (2, [.int sz1, k1, k2, k3, k4, k5, k6, k7, k8, k9, .ref hS1, .ref hB1, .int (nI (tp + 2))])), (hS1, .inl (cJ, N, .inr (.inl sf))), (hB1, .inl (cB, N, .inl bf))] U.heap ∧ va_K (dC, dI) vwCl [(cB, .byte), (cI, .int), (cJ, .long), (cZ, .boolean)] U ∧ va_D (fun _ => True) [(h0, .inr (2, [.int sz1, k1, k2, k3, k4, k5, k6, k7, k8, k9, .ref hS1, .ref hB1, .int (nI (tp + 2))])), (hS1, .inl (cJ, N, .inr (.inl sf))), (hB1, .inl (cB, N, .inl bf))])
abbrev qc_t_two_plus (dC : Nat → ClassId) (dI : Nat → Nat → Nat) (cB cI cJ cZ : ClassId) (h0 hS1 hB1 : Nat) (sz1 : Int32) (k1 k2 k3 k4 k5 k6 k7 k8 k9 : Value) (N : Nat) (sf : Nat → Int64) (bf : Nat → Int32) (tp : Nat) (A : Nat → Prop) : Array Value → State → Outcome → State → Prop := va_Qv (fun (u : Unit) => match u with | _ => True) (fun (u : Unit) t_ => match u with | _ => va_P (dC, dI) vwCl [(h0, .inr (2, [.int sz1, k1, k2, k3, k4, k5, k6, k7, k8, k9, .ref hS1, .ref hB1, .int (nI (tp + 1))])), (hS1, .inl (cJ, N, .inr (.inl (vp_updL sf tp (pv (kvI (knI (bf tp) (bf (tp + 1))) ((sf tp) + (sf (tp + 1)))) (nbI (knI (bf tp) (bf (tp + 1))))))))), (hB1, .inl (cB, N, .inl (upd bf tp (pb (nbI (knI (bf tp) (bf (tp + 1))))))))] t_.heap ∧ va_K (dC, dI) vwCl [(cB, .byte), (cI, .int), (cJ, .long), (cZ, .boolean)] t_ ∧ va_D A [(h0, .inr (2, [.int sz1, k1, k2, k3, k4, k5, k6, k7, k8, k9, .ref hS1, .ref hB1, .int (nI (tp + 1))])), (hS1, .inl (cJ, N, .inr (.inl (vp_updL sf tp (pv (kvI (knI (bf tp) (bf (tp + 1))) ((sf tp) + (sf (tp + 1)))) (nbI (knI (bf tp) (bf (tp + 1))))))))), (hB1, .inl (cB, N, .inl (upd bf tp (pb (nbI (knI (bf tp) (bf (tp + 1))))))))]) A
set_option maxHeartbeats 4000000 in
set_option maxRecDepth 100000 in
theorem t_two_plus (l : Launch) (dC : Nat → ClassId) (dI : Nat → Nat → Nat) (sz : Nat) (cB cI cJ cZ : ClassId) (h0 hS1 hB1 : Nat) (sz1 : Int32) (k1 k2 k3 k4 k5 k6 k7 k8 k9 : Value) (N : Nat) (sf : Nat → Int64) (bf : Nat → Int32) (tp : Nat) (hN : N < 1000000) (htp : tp + 2 ≤ N) : Met l yX1_two (wsOf yX1_two cX1_two 10 none) ({ frames := 1, cells := 0, slots := 0, locals := 24 }) (pc_t_two_plus dC dI sz cB cI cJ cZ h0 hS1 hB1 sz1 k1 k2 k3 k4 k5 k6 k7 k8 k9 N sf bf tp) (qc_t_two_plus dC dI cB cI cJ cZ h0 hS1 hB1 sz1 k1 k2 k3 k4 k5 k6 k7 k8 k9 N sf bf tp (va_A (cs_t_two_plus cB cI cJ cZ h0 hS1 hB1 sz1 k1 k2 k3 k4 k5 k6 k7 k8 k9 N sf bf tp) sz)) 0 0 (va_A (cs_t_two_plus cB cI cJ cZ h0 hS1 hB1 sz1 k1 k2 k3 k4 k5 k6 k7 k8 k9 N sf bf tp) sz) := by
  refine Met.ofW (cc := cX1_two) (maxL := 10) (ret := none) (by decide) rfl ?_
  intro p e s m args below meth c s₁ B hml hv
  obtain ⟨rfl, hsz, hP, hK, hD0⟩ := hv
  have hx := B.exec
  have hb := B.bytes
  have hr := B.returns
  have hts := atoms_spec (ws := (wsOf yX1_two cX1_two 10 none)) B.pre
  have hown : s.vm.findClass RX1 = some m.cls := findClass_of_methodNamed B.named
  have hlocks := B.notSynchronized
  subst hsz
  have hD := hD0.self (sz := s.heap.size)
  generalize hAe : va_A (cs_t_two_plus cB cI cJ cZ h0 hS1 hB1 sz1 k1 k2 k3 k4 k5 k6 k7 k8 k9 N sf bf tp) s.heap.size = A at hD ⊢
  have hA : ∀ q : Nat, s.heap.size ≤ q → A q := fun q h => by rw [← hAe]; exact Or.inr h
  have hS : va_S A s.heap s.heap [] := va_S.rf
  have hP : va_P (dC, dI) vwCl [(h0, .inr (2, [.int sz1, k1, k2, k3, k4, k5, k6, k7, k8, k9, .ref hS1, .ref hB1, .int (nI (tp + 2))])), (hS1, .inl (cJ, N, .inr (.inl sf))), (hB1, .inl (cB, N, .inl bf))] s.heap := hP
  have hl := lv_entry ([.ref h0, .int 45]) (n := 10) (Nat.le_of_ble_eq_true rfl)
  rw [lg_entry_eq]
  generalize (lg_sl ([.ref h0, .int 45]) ++ List.replicate (10 - (lg_sl ([.ref h0, .int 45])).length) Slot.unset).toArray = ls at hl ⊢
  have hl : lv_has ls 10 [(0, .ref h0), (1, .int 45)] := hl
  refine lv_aload_n hx hb dX1_two_0 rfl (lv_at hl 0 rfl) ?_
  refine va_get (D := (dC, dI)) (ci := 2) (v := .int (nI (tp + 2))) (C := RX1) (T := TX1) (N := 13) hx hb hts (fun w h => List.mem_cons_of_mem _ (uG_X1 w h)) hown hK hP 0 rfl rfl 12 (by decide) (hts _ (List.mem_cons_of_mem _ kw_400)) (fun _ h9 => h9) rfl dX1_two_1 ?_
  refine lv_iconst (v := 2) hx hb dX1_two_4 (by decide) ?_
  refine lv_icmp_ge (tgt := 9) hx hb dX1_two_5 (by decide) (fun c_1 => ?_) (fun c_1 => ?_)
  · skip
    have c_1 : 2 ≤ tp + 2 := (nI_leI (a := 2) (b := tp + 2) (by omega) (by omega)).mp c_1
    refine lv_aload_n hx hb dX1_two_9 rfl (lv_at hl 0 rfl) ?_
    refine lv_dup hx hb dX1_two_10 rfl ?_
    refine va_get (D := (dC, dI)) (ci := 2) (v := .int (nI (tp + 2))) (C := RX1) (T := TX1) (N := 13) hx hb hts (fun w h => List.mem_cons_of_mem _ (uG_X1 w h)) hown hK hP 0 rfl rfl 12 (by decide) (hts _ (List.mem_cons_of_mem _ kw_400)) (fun _ h9 => h9) rfl dX1_two_11 ?_
    refine lv_iconst (v := 2) hx hb dX1_two_14 (by decide) ?_
    refine lv_isub hx hb dX1_two_15 ?_
    refine lv_topi (fun x_2 ex_2 => ?_)
    have ex_2 : x_2 = nI tp := by exact ex_2.trans (pk_sub (a := tp + 2) (b := 2) (by omega))
    subst ex_2
    refine va_put (D := (dC, dI)) (ci := 2) (v := .int (nI tp)) (ty := .int) (C := RX1) (T := TX1) (N := 13) hx hb hts (fun w h => List.mem_cons_of_mem _ (uG_X1 w h)) tyX1 tyX1_ok nmX1 hown hK hP hD hS 0 rfl rfl 12 (by decide) (hts _ (List.mem_cons_of_mem _ kw_400)) (fun _ h9 => h9) rfl (by decide +kernel) rfl rfl (Nat.le_of_ble_eq_true rfl) dX1_two_16 (fun H locs hP hD hS => ?_)
    have hP : va_P (dC, dI) vwCl [(h0, .inr (2, [.int sz1, k1, k2, k3, k4, k5, k6, k7, k8, k9, .ref hS1, .ref hB1, .int (nI tp)])), (hS1, .inl (cJ, N, .inr (.inl sf))), (hB1, .inl (cB, N, .inl bf))] H := hP
    have hD : va_D A [(h0, .inr (2, [.int sz1, k1, k2, k3, k4, k5, k6, k7, k8, k9, .ref hS1, .ref hB1, .int (nI tp)])), (hS1, .inl (cJ, N, .inr (.inl sf))), (hB1, .inl (cB, N, .inl bf))] := hD
    refine lv_aload_n hx hb dX1_two_19 rfl (lv_at hl 0 rfl) ?_
    refine va_get (D := (dC, dI)) (ci := 2) (v := .ref hS1) (C := RX1) (T := TX1) (N := 13) hx hb hts (fun w h => List.mem_cons_of_mem _ (uG_X1 w h)) hown hK hP 0 rfl rfl 10 (by decide) (hts _ (List.mem_cons_of_mem _ kw_398)) (fun _ h9 => h9) rfl dX1_two_20 ?_
    refine lv_aload_n hx hb dX1_two_23 rfl (lv_at hl 0 rfl) ?_
    refine va_get (D := (dC, dI)) (ci := 2) (v := .int (nI tp)) (C := RX1) (T := TX1) (N := 13) hx hb hts (fun w h => List.mem_cons_of_mem _ (uG_X1 w h)) hown hK hP 0 rfl rfl 12 (by decide) (hts _ (List.mem_cons_of_mem _ kw_400)) (fun _ h9 => h9) rfl dX1_two_24 ?_
    refine va_lald hx hb hK hP 1 2 rfl rfl (i := (nI tp)) (vp_in_nI (n := tp) (N := N) (by omega) (by omega)) dX1_two_27 ?_
    refine lv_topl (fun x_3 ex_3 => ?_)
    have ex_3 : x_3 = sf tp := ex_3.trans (congrArg sf (nI_clamp (n := tp) (by omega)))
    subst ex_3
    refine lv_lstore_n (lv' := [(2, .long (sf tp)), (0, .ref h0), (1, .int 45)]) hx hb dX1_two_28 rfl hl (by decide) rfl (fun ls hl => ?_)
    refine lv_aload_n hx hb dX1_two_29 rfl (lv_at hl 1 rfl) ?_
    refine va_get (D := (dC, dI)) (ci := 2) (v := .ref hS1) (C := RX1) (T := TX1) (N := 13) hx hb hts (fun w h => List.mem_cons_of_mem _ (uG_X1 w h)) hown hK hP 0 rfl rfl 10 (by decide) (hts _ (List.mem_cons_of_mem _ kw_398)) (fun _ h9 => h9) rfl dX1_two_30 ?_
    refine lv_aload_n hx hb dX1_two_33 rfl (lv_at hl 1 rfl) ?_
    refine va_get (D := (dC, dI)) (ci := 2) (v := .int (nI tp)) (C := RX1) (T := TX1) (N := 13) hx hb hts (fun w h => List.mem_cons_of_mem _ (uG_X1 w h)) hown hK hP 0 rfl rfl 12 (by decide) (hts _ (List.mem_cons_of_mem _ kw_400)) (fun _ h9 => h9) rfl dX1_two_34 ?_
    refine lv_iconst (v := 1) hx hb dX1_two_37 (by decide) ?_
    refine lv_iadd hx hb dX1_two_38 ?_
    refine lv_topi (fun x_4 ex_4 => ?_)
    have ex_4 : x_4 = nI (tp + 1) := ex_4.trans (nI_add tp 1)
    subst ex_4
    refine va_lald hx hb hK hP 1 2 rfl rfl (i := (nI (tp + 1))) (vp_in_nI (n := tp + 1) (N := N) (by omega) (by omega)) dX1_two_39 ?_
    refine lv_topl (fun x_5 ex_5 => ?_)
    have ex_5 : x_5 = sf (tp + 1) := ex_5.trans (congrArg sf (nI_clamp (n := tp + 1) (by omega)))
    subst ex_5
    refine lv_lstore (lv' := [(4, .long (sf (tp + 1))), (2, .long (sf tp)), (0, .ref h0), (1, .int 45)]) hx hb dX1_two_40 hl (by decide) rfl (fun ls hl => ?_)
    have mg_6 : ∀ (H : Heap) (locs : List Loc), va_P (dC, dI) vwCl [(h0, .inr (2, [.int sz1, k1, k2, k3, k4, k5, k6, k7, k8, k9, .ref hS1, .ref hB1, .int (nI tp)])), (hS1, .inl (cJ, N, .inr (.inl sf))), (hB1, .inl (cB, N, .inl bf))] H → va_D A [(h0, .inr (2, [.int sz1, k1, k2, k3, k4, k5, k6, k7, k8, k9, .ref hS1, .ref hB1, .int (nI tp)])), (hS1, .inl (cJ, N, .inr (.inl sf))), (hB1, .inl (cB, N, .inl bf))] → va_S A s.heap H locs → W p l e (headSpec (wsOf yX1_two cX1_two 10 none) ({ frames := 1, cells := 0, slots := 0, locals := 24 })).room s m ([.ref h0, .int 45] : List Value).toArray below meth c H locs 0 0 (MQ below (qc_t_two_plus dC dI cB cI cJ cZ h0 hS1 hB1 sz1 k1 k2 k3 k4 k5 k6 k7 k8 k9 N sf bf tp A) ([.ref h0, .int 45] : List Value).toArray s 0 0 A) (F0 m 59 ls [.int (thI (bf tp))]) := by
      intro H locs hP hD hS
      refine lv_istore (lv' := [(6, .int (thI (bf tp))), (4, .long (sf (tp + 1))), (2, .long (sf tp)), (0, .ref h0), (1, .int 45)]) hx hb dX1_two_59 hl (by decide) rfl (fun ls hl => ?_)
      have mg_7 : ∀ (H : Heap) (locs : List Loc), va_P (dC, dI) vwCl [(h0, .inr (2, [.int sz1, k1, k2, k3, k4, k5, k6, k7, k8, k9, .ref hS1, .ref hB1, .int (nI tp)])), (hS1, .inl (cJ, N, .inr (.inl sf))), (hB1, .inl (cB, N, .inl bf))] H → va_D A [(h0, .inr (2, [.int sz1, k1, k2, k3, k4, k5, k6, k7, k8, k9, .ref hS1, .ref hB1, .int (nI tp)])), (hS1, .inl (cJ, N, .inr (.inl sf))), (hB1, .inl (cB, N, .inl bf))] → va_S A s.heap H locs → W p l e (headSpec (wsOf yX1_two cX1_two 10 none) ({ frames := 1, cells := 0, slots := 0, locals := 24 })).room s m ([.ref h0, .int 45] : List Value).toArray below meth c H locs 0 0 (MQ below (qc_t_two_plus dC dI cB cI cJ cZ h0 hS1 hB1 sz1 k1 k2 k3 k4 k5 k6 k7 k8 k9 N sf bf tp A) ([.ref h0, .int 45] : List Value).toArray s 0 0 A) (F0 m 80 ls [.int (thI (bf (tp + 1)))]) := by
        intro H locs hP hD hS
        refine lv_istore (lv' := [(7, .int (thI (bf (tp + 1)))), (6, .int (thI (bf tp))), (4, .long (sf (tp + 1))), (2, .long (sf tp)), (0, .ref h0), (1, .int 45)]) hx hb dX1_two_80 hl (by decide) rfl (fun ls hl => ?_)
        refine lv_iload_n hx hb dX1_two_82 rfl (lv_at hl 5 rfl) ?_
        refine lv_bipush (v := 28) hx hb dX1_two_83 (by decide) ?_
        refine lv_icmp_eq (tgt := 94) hx hb dX1_two_85 (by decide) (fun c_8 => ?_) (fun c_8 => ?_)
        · skip
          exact absurd c_8 (by decide)
        · skip
          refine lv_iload_n hx hb dX1_two_88 rfl (lv_at hl 5 rfl) ?_
          refine lv_bipush (v := 29) hx hb dX1_two_89 (by decide) ?_
          refine lv_icmp_ne (tgt := 182) hx hb dX1_two_91 (by decide) (fun c_9 => ?_) (fun c_9 => ?_)
          · skip
            have mg_10 : ∀ (H : Heap) (locs : List Loc), va_P (dC, dI) vwCl [(h0, .inr (2, [.int sz1, k1, k2, k3, k4, k5, k6, k7, k8, k9, .ref hS1, .ref hB1, .int (nI tp)])), (hS1, .inl (cJ, N, .inr (.inl sf))), (hB1, .inl (cB, N, .inl bf))] H → va_D A [(h0, .inr (2, [.int sz1, k1, k2, k3, k4, k5, k6, k7, k8, k9, .ref hS1, .ref hB1, .int (nI tp)])), (hS1, .inl (cJ, N, .inr (.inl sf))), (hB1, .inl (cB, N, .inl bf))] → va_S A s.heap H locs → W p l e (headSpec (wsOf yX1_two cX1_two 10 none) ({ frames := 1, cells := 0, slots := 0, locals := 24 })).room s m ([.ref h0, .int 45] : List Value).toArray below meth c H locs 0 0 (MQ below (qc_t_two_plus dC dI cB cI cJ cZ h0 hS1 hB1 sz1 k1 k2 k3 k4 k5 k6 k7 k8 k9 N sf bf tp A) ([.ref h0, .int 45] : List Value).toArray s 0 0 A) (F0 m 206 ls [.int (knI (bf tp) (bf (tp + 1)))]) := by
              intro H locs hP hD hS
              refine lv_istore (lv' := [(8, .int (knI (bf tp) (bf (tp + 1)))), (7, .int (thI (bf (tp + 1)))), (6, .int (thI (bf tp))), (4, .long (sf (tp + 1))), (2, .long (sf tp)), (0, .ref h0), (1, .int 45)]) hx hb dX1_two_206 hl (by decide) rfl (fun ls hl => ?_)
              refine lv_aload_n hx hb dX1_two_208 rfl (lv_at hl 5 rfl) ?_
              have mg_11 : ∀ (H : Heap) (locs : List Loc), va_P (dC, dI) vwCl [(h0, .inr (2, [.int sz1, k1, k2, k3, k4, k5, k6, k7, k8, k9, .ref hS1, .ref hB1, .int (nI tp)])), (hS1, .inl (cJ, N, .inr (.inl sf))), (hB1, .inl (cB, N, .inl bf))] H → va_D A [(h0, .inr (2, [.int sz1, k1, k2, k3, k4, k5, k6, k7, k8, k9, .ref hS1, .ref hB1, .int (nI tp)])), (hS1, .inl (cJ, N, .inr (.inl sf))), (hB1, .inl (cB, N, .inl bf))] → va_S A s.heap H locs → W p l e (headSpec (wsOf yX1_two cX1_two 10 none) ({ frames := 1, cells := 0, slots := 0, locals := 24 })).room s m ([.ref h0, .int 45] : List Value).toArray below meth c H locs 0 0 (MQ below (qc_t_two_plus dC dI cB cI cJ cZ h0 hS1 hB1 sz1 k1 k2 k3 k4 k5 k6 k7 k8 k9 N sf bf tp A) ([.ref h0, .int 45] : List Value).toArray s 0 0 A) (F0 m 225 ls [.long (kvI (knI (bf tp) (bf (tp + 1))) ((sf tp) + (sf (tp + 1)))), .ref h0]) := by
                intro H locs hP hD hS
                have mg_12 : ∀ (H : Heap) (locs : List Loc), va_P (dC, dI) vwCl [(h0, .inr (2, [.int sz1, k1, k2, k3, k4, k5, k6, k7, k8, k9, .ref hS1, .ref hB1, .int (nI tp)])), (hS1, .inl (cJ, N, .inr (.inl sf))), (hB1, .inl (cB, N, .inl bf))] H → va_D A [(h0, .inr (2, [.int sz1, k1, k2, k3, k4, k5, k6, k7, k8, k9, .ref hS1, .ref hB1, .int (nI tp)])), (hS1, .inl (cJ, N, .inr (.inl sf))), (hB1, .inl (cB, N, .inl bf))] → va_S A s.heap H locs → W p l e (headSpec (wsOf yX1_two cX1_two 10 none) ({ frames := 1, cells := 0, slots := 0, locals := 24 })).room s m ([.ref h0, .int 45] : List Value).toArray below meth c H locs 0 0 (MQ below (qc_t_two_plus dC dI cB cI cJ cZ h0 hS1 hB1 sz1 k1 k2 k3 k4 k5 k6 k7 k8 k9 N sf bf tp A) ([.ref h0, .int 45] : List Value).toArray s 0 0 A) (F0 m 235 ls [.int (nbI (knI (bf tp) (bf (tp + 1)))), .long (kvI (knI (bf tp) (bf (tp + 1))) ((sf tp) + (sf (tp + 1)))), .ref h0]) := by
                  intro H locs hP hD hS
                  have hPc := hP.sub (ws' := [(h0, .inr (2, [.int sz1, k1, k2, k3, k4, k5, k6, k7, k8, k9, .ref hS1, .ref hB1, .int (nI tp)])), (hS1, .inl (cJ, N, .inr (.inl sf))), (hB1, .inl (cB, N, .inl bf))]) [0, 1, 2] rfl
                  have hDc := hD.sub (ws' := [(h0, .inr (2, [.int sz1, k1, k2, k3, k4, k5, k6, k7, k8, k9, .ref hS1, .ref hB1, .int (nI tp)])), (hS1, .inl (cJ, N, .inr (.inl sf))), (hB1, .inl (cB, N, .inl bf))]) [0, 1, 2] (by decide) rfl
                  have hKc := hK.sub (tys' := [(cB, .byte), (cI, .int), (cJ, .long), (cZ, .boolean)]) [0, 1, 2, 3] rfl
                  have hFc := va_free (wc := [(h0, .inr (2, [.int sz1, k1, k2, k3, k4, k5, k6, k7, k8, k9, .ref hS1, .ref hB1, .int (nI tp)])), (hS1, .inl (cJ, N, .inr (.inl sf))), (hB1, .inl (cB, N, .inl bf))]) hD hS hA [0, 1, 2] rfl
                  refine va_callv (va_runV (As := [.long (kvI (knI (bf tp) (bf (tp + 1))) ((sf tp) + (sf (tp + 1)))), .int (nbI (knI (bf tp) (bf (tp + 1))))]) (rest := []) ⟨hx, hb, hml, hown, hts⟩ (t_X1_push l dC dI H.size cB cI cJ cZ h0 hS1 hB1 sz1 k1 k2 k3 k4 k5 k6 k7 k8 k9 N sf bf tp (kvI (knI (bf tp) (bf (tp + 1))) ((sf tp) + (sf (tp + 1)))) (nbI (knI (bf tp) (bf (tp + 1)))) (by omega) (by omega)) (cwV 2 hts (gd_all (in_V kw_1415 kw_1417 kw_73 kw_189 kc_X1_push)) rfl rfl rfl (by decide +kernel) ⟨Nat.le_of_ble_eq_true rfl, Nat.le_of_ble_eq_true rfl⟩) ⟨fun a U g mk q => by obtain ⟨q0, q1, qP, qK, qD⟩ := q; exact ⟨q0, q1, qP, va_K.moved (u := U) (U := U.calling g mk a) (Vm.Alike.refl U.vm) qK, qD⟩, va_recv hKc hPc (ci := 2) (q0 := 0) rfl rfl, fun U hU hW => ⟨rfl, by rw [hU], by rw [hU]; exact hPc, va_K.moved hW.alike hKc, hDc.weaken (fun _ _ _ _ => trivial)⟩⟩ rfl rfl hl.1 rfl (lv_room (Nat.le_of_ble_eq_true rfl)) dX1_two_235 ⟨Nat.le_of_ble_eq_true rfl, Nat.le_of_ble_eq_true rfl⟩) hS (fun q _ h => hFc q h) hFc (fun u t_ H1 locs ht hvm hw hB hz1 hk1 hS => ?_)
                  obtain ⟨hP1, hK1, hD1⟩ := hB
                  rw [ht] at hP1
                  have hK1 := va_K.moved hvm.symm hK1
                  obtain ⟨hP, hD⟩ := va_join (wr := []) (w1 := [(h0, .inr (2, [.int sz1, k1, k2, k3, k4, k5, k6, k7, k8, k9, .ref hS1, .ref hB1, .int (nI (tp + 1))])), (hS1, .inl (cJ, N, .inr (.inl (vp_updL sf tp (pv (kvI (knI (bf tp) (bf (tp + 1))) ((sf tp) + (sf (tp + 1)))) (nbI (knI (bf tp) (bf (tp + 1))))))))), (hB1, .inl (cB, N, .inl (upd bf tp (pb (nbI (knI (bf tp) (bf (tp + 1))))))))]) hP hD [0, 1, 2] [] rfl rfl (by decide) (by decide) hk1 hFc hP1 hD1
                  have hK := (hK.sub (tys' := []) [] rfl).app hK1
                  generalize H1 = H at hP hS ⊢
                  have hP : va_P (dC, dI) vwCl [(h0, .inr (2, [.int sz1, k1, k2, k3, k4, k5, k6, k7, k8, k9, .ref hS1, .ref hB1, .int (nI (tp + 1))])), (hS1, .inl (cJ, N, .inr (.inl (vp_updL sf tp (pv (kvI (knI (bf tp) (bf (tp + 1))) ((sf tp) + (sf (tp + 1)))) (nbI (knI (bf tp) (bf (tp + 1))))))))), (hB1, .inl (cB, N, .inl (upd bf tp (pb (nbI (knI (bf tp) (bf (tp + 1))))))))] H := hP
                  have hD : va_D A [(h0, .inr (2, [.int sz1, k1, k2, k3, k4, k5, k6, k7, k8, k9, .ref hS1, .ref hB1, .int (nI (tp + 1))])), (hS1, .inl (cJ, N, .inr (.inl (vp_updL sf tp (pv (kvI (knI (bf tp) (bf (tp + 1))) ((sf tp) + (sf (tp + 1)))) (nbI (knI (bf tp) (bf (tp + 1))))))))), (hB1, .inl (cB, N, .inl (upd bf tp (pb (nbI (knI (bf tp) (bf (tp + 1))))))))] := hD
                  have hK : va_K (dC, dI) vwCl [(cB, .byte), (cI, .int), (cJ, .long), (cZ, .boolean)] s := hK
                  have hP9 := hP.sub (ws' := [(h0, .inr (2, [.int sz1, k1, k2, k3, k4, k5, k6, k7, k8, k9, .ref hS1, .ref hB1, .int (nI (tp + 1))])), (hS1, .inl (cJ, N, .inr (.inl (vp_updL sf tp (pv (kvI (knI (bf tp) (bf (tp + 1))) ((sf tp) + (sf (tp + 1)))) (nbI (knI (bf tp) (bf (tp + 1))))))))), (hB1, .inl (cB, N, .inl (upd bf tp (pb (nbI (knI (bf tp) (bf (tp + 1))))))))]) [0, 1, 2] rfl
                  have hD9 := hD.sub (ws' := [(h0, .inr (2, [.int sz1, k1, k2, k3, k4, k5, k6, k7, k8, k9, .ref hS1, .ref hB1, .int (nI (tp + 1))])), (hS1, .inl (cJ, N, .inr (.inl (vp_updL sf tp (pv (kvI (knI (bf tp) (bf (tp + 1))) ((sf tp) + (sf (tp + 1)))) (nbI (knI (bf tp) (bf (tp + 1))))))))), (hB1, .inl (cB, N, .inl (upd bf tp (pb (nbI (knI (bf tp) (bf (tp + 1))))))))]) [0, 1, 2] (by decide) rfl
                  have hK9 := hK.sub (tys' := [(cB, .byte), (cI, .int), (cJ, .long), (cZ, .boolean)]) [0, 1, 2, 3] rfl
                  exact W.vret hx hb hr (fun t_ ht hW => ⟨⟨(), rfl, trivial, by rw [ht]; exact hP9, va_K.moved hW.alike hK9, hD9⟩, hS.F ht⟩) hS.2.2 dX1_two_238
                refine lv_iload hx hb dX1_two_225 (lv_at hl 0 rfl) ?_
                refine lv_if_eq (tgt := 234) hx hb dX1_two_227 (by decide) (fun c_14 => ?_) (fun c_14 => ?_)
                · skip
                  refine lv_iconst (v := 1) hx hb dX1_two_234 (by decide) ?_
                  exact W.eq (by unfold nbI; rw [if_pos c_14]) (mg_12 _ _ hP hD hS)
                · skip
                  refine lv_iconst (v := 0) hx hb dX1_two_230 (by decide) ?_
                  refine lv_goto (tgt := 235) hx hb dX1_two_231 (by decide) ?_
                  exact W.eq (by unfold nbI; rw [if_neg c_14]) (mg_12 _ _ hP hD hS)
              refine lv_iload hx hb dX1_two_209 (lv_at hl 0 rfl) ?_
              refine lv_if_eq (tgt := 224) hx hb dX1_two_211 (by decide) (fun c_15 => ?_) (fun c_15 => ?_)
              · skip
                refine lv_lconst (v := 0) hx hb dX1_two_224 (by decide) ?_
                exact W.eq (by unfold kvI; rw [if_pos c_15]) (mg_11 _ _ hP hD hS)
              · skip
                refine lv_iload_n hx hb dX1_two_214 rfl (lv_at hl 6 rfl) ?_
                refine lv_lload_n hx hb dX1_two_215 rfl (lv_at hl 4 rfl) ?_
                refine lv_lload hx hb dX1_two_216 (lv_at hl 3 rfl) ?_
                have hPc := hP.sub (ws' := []) [] rfl
                have hDc := hD.sub (ws' := []) [] (by decide) rfl
                have hKc := hK.sub (tys' := [(cB, .byte), (cI, .int), (cJ, .long), (cZ, .boolean)]) [0, 1, 2, 3] rfl
                have hFc := va_free (wc := []) hD hS hA [] rfl
                refine va_calll (va_runS (As := [.int 45, .long (sf tp), .long (sf (tp + 1))]) (rest := [.ref h0]) ⟨hx, hb, hml, hown, hts⟩ (t_reckon_plus l dC dI H.size cB cI cJ cZ (sf tp) (sf (tp + 1))) (cwS 3 hts (gd_all (in_S kw_1446 kw_1447 kw_189 kc_X1_reckon)) rfl rfl rfl (by decide +kernel) ⟨Nat.le_of_ble_eq_true rfl, Nat.le_of_ble_eq_true rfl⟩) ⟨fun a U g mk q => by obtain ⟨q0, q1, qP, qK, qD⟩ := q; exact ⟨q0, q1, qP, va_K.moved (u := U) (U := U.calling g mk a) (Vm.Alike.refl U.vm) qK, qD⟩, fun U hU hW => ⟨rfl, by rw [hU], by rw [hU]; exact hPc, va_K.moved hW.alike hKc, hDc.weaken (fun _ _ _ _ => trivial)⟩⟩ rfl rfl hl.1 rfl (lv_room (Nat.le_of_ble_eq_true rfl)) dX1_two_218 ⟨Nat.le_of_ble_eq_true rfl, Nat.le_of_ble_eq_true rfl⟩) hS (fun q _ h => hFc q h) hFc (fun r_16 u t_ H1 locs ht hvm hw hB hz1 hk1 hS => ?_)
                obtain ⟨hP1, hK1, hD1⟩ := hB
                rw [ht] at hP1
                have hK1 := va_K.moved hvm.symm hK1
                obtain ⟨hP, hD⟩ := va_join (wr := [(h0, .inr (2, [.int sz1, k1, k2, k3, k4, k5, k6, k7, k8, k9, .ref hS1, .ref hB1, .int (nI tp)])), (hS1, .inl (cJ, N, .inr (.inl sf))), (hB1, .inl (cB, N, .inl bf))]) (w1 := []) hP hD [] [0, 1, 2] rfl rfl (by decide) (by decide) hk1 hFc hP1 hD1
                have hK := (hK.sub (tys' := []) [] rfl).app hK1
                generalize H1 = H at hP hS ⊢
                have hP : va_P (dC, dI) vwCl [(h0, .inr (2, [.int sz1, k1, k2, k3, k4, k5, k6, k7, k8, k9, .ref hS1, .ref hB1, .int (nI tp)])), (hS1, .inl (cJ, N, .inr (.inl sf))), (hB1, .inl (cB, N, .inl bf))] H := hP
                have hD : va_D A [(h0, .inr (2, [.int sz1, k1, k2, k3, k4, k5, k6, k7, k8, k9, .ref hS1, .ref hB1, .int (nI tp)])), (hS1, .inl (cJ, N, .inr (.inl sf))), (hB1, .inl (cB, N, .inl bf))] := hD
                have hK : va_K (dC, dI) vwCl [(cB, .byte), (cI, .int), (cJ, .long), (cZ, .boolean)] s := hK
                have er_16 : r_16 = ((sf tp) + (sf (tp + 1))) := hw
                subst er_16
                refine lv_goto (tgt := 225) hx hb dX1_two_221 (by decide) ?_
                exact W.eq (by unfold kvI; rw [if_neg c_15]) (mg_11 _ _ hP hD hS)
            refine lv_iload hx hb dX1_two_182 (lv_at hl 1 rfl) ?_
            refine lv_if_eq (tgt := 205) hx hb dX1_two_184 (by decide) (fun c_17 => ?_) (fun c_17 => ?_)
            · skip
              refine lv_iconst (v := 0) hx hb dX1_two_205 (by decide) ?_
              exact W.eq (by unfold knI; rw [if_pos c_17]) (mg_10 _ _ hP hD hS)
            · skip
              refine lv_iload hx hb dX1_two_187 (lv_at hl 0 rfl) ?_
              refine lv_if_eq (tgt := 205) hx hb dX1_two_189 (by decide) (fun c_18 => ?_) (fun c_18 => ?_)
              · skip
                refine lv_iconst (v := 0) hx hb dX1_two_205 (by decide) ?_
                exact W.eq (by unfold knI; rw [if_neg c_17, if_pos c_18]) (mg_10 _ _ hP hD hS)
              · skip
                refine lv_iload_n hx hb dX1_two_192 rfl (lv_at hl 5 rfl) ?_
                refine lv_lload hx hb dX1_two_193 (lv_at hl 2 rfl) ?_
                have hPc := hP.sub (ws' := []) [] rfl
                have hDc := hD.sub (ws' := []) [] (by decide) rfl
                have hKc := hK.sub (tys' := [(cB, .byte), (cI, .int), (cJ, .long), (cZ, .boolean)]) [0, 1, 2, 3] rfl
                have hFc := va_free (wc := []) hD hS hA [] rfl
                refine va_calli (va_runS (As := [.int 45, .long (sf (tp + 1))]) (rest := []) ⟨hx, hb, hml, hown, hts⟩ (t_hasResult_plus l dC dI H.size cB cI cJ cZ (sf (tp + 1))) (cwS 2 hts (gd_all (in_S kw_1443 kw_1444 kw_189 kc_X1_hasResult)) rfl rfl rfl (by decide +kernel) ⟨Nat.le_of_ble_eq_true rfl, Nat.le_of_ble_eq_true rfl⟩) ⟨fun a U g mk q => by obtain ⟨q0, q1, qP, qK, qD⟩ := q; exact ⟨q0, q1, qP, va_K.moved (u := U) (U := U.calling g mk a) (Vm.Alike.refl U.vm) qK, qD⟩, fun U hU hW => ⟨rfl, by rw [hU], by rw [hU]; exact hPc, va_K.moved hW.alike hKc, hDc.weaken (fun _ _ _ _ => trivial)⟩⟩ rfl rfl hl.1 rfl (lv_room (Nat.le_of_ble_eq_true rfl)) dX1_two_195 ⟨Nat.le_of_ble_eq_true rfl, Nat.le_of_ble_eq_true rfl⟩) hS (fun q _ h => hFc q h) hFc (fun r_19 u t_ H1 locs ht hvm hw hB hz1 hk1 hS => ?_)
                obtain ⟨hP1, hK1, hD1⟩ := hB
                rw [ht] at hP1
                have hK1 := va_K.moved hvm.symm hK1
                obtain ⟨hP, hD⟩ := va_join (wr := [(h0, .inr (2, [.int sz1, k1, k2, k3, k4, k5, k6, k7, k8, k9, .ref hS1, .ref hB1, .int (nI tp)])), (hS1, .inl (cJ, N, .inr (.inl sf))), (hB1, .inl (cB, N, .inl bf))]) (w1 := []) hP hD [] [0, 1, 2] rfl rfl (by decide) (by decide) hk1 hFc hP1 hD1
                have hK := (hK.sub (tys' := []) [] rfl).app hK1
                generalize H1 = H at hP hS ⊢
                have hP : va_P (dC, dI) vwCl [(h0, .inr (2, [.int sz1, k1, k2, k3, k4, k5, k6, k7, k8, k9, .ref hS1, .ref hB1, .int (nI tp)])), (hS1, .inl (cJ, N, .inr (.inl sf))), (hB1, .inl (cB, N, .inl bf))] H := hP
                have hD : va_D A [(h0, .inr (2, [.int sz1, k1, k2, k3, k4, k5, k6, k7, k8, k9, .ref hS1, .ref hB1, .int (nI tp)])), (hS1, .inl (cJ, N, .inr (.inl sf))), (hB1, .inl (cB, N, .inl bf))] := hD
                have hK : va_K (dC, dI) vwCl [(cB, .byte), (cI, .int), (cJ, .long), (cZ, .boolean)] s := hK
                have er_19 : r_19 = 1 := hw
                subst er_19
                refine lv_if_eq (tgt := 205) hx hb dX1_two_198 (by decide) (fun c_20 => ?_) (fun c_20 => ?_)
                · skip
                  exact absurd c_20 (by decide)
                · skip
                  refine lv_iconst (v := 1) hx hb dX1_two_201 (by decide) ?_
                  refine lv_goto (tgt := 206) hx hb dX1_two_202 (by decide) ?_
                  exact W.eq (by unfold knI; rw [if_neg c_17, if_neg c_18]) (mg_10 _ _ hP hD hS)
          · skip
            exact absurd c_9 (by decide)
      refine lv_aload_n hx hb dX1_two_61 rfl (lv_at hl 3 rfl) ?_
      refine va_get (D := (dC, dI)) (ci := 2) (v := .ref hB1) (C := RX1) (T := TX1) (N := 13) hx hb hts (fun w h => List.mem_cons_of_mem _ (uG_X1 w h)) hown hK hP 0 rfl rfl 11 (by decide) (hts _ (List.mem_cons_of_mem _ kw_399)) (fun _ h9 => h9) rfl dX1_two_62 ?_
      refine lv_aload_n hx hb dX1_two_65 rfl (lv_at hl 3 rfl) ?_
      refine va_get (D := (dC, dI)) (ci := 2) (v := .int (nI tp)) (C := RX1) (T := TX1) (N := 13) hx hb hts (fun w h => List.mem_cons_of_mem _ (uG_X1 w h)) hown hK hP 0 rfl rfl 12 (by decide) (hts _ (List.mem_cons_of_mem _ kw_400)) (fun _ h9 => h9) rfl dX1_two_66 ?_
      refine lv_iconst (v := 1) hx hb dX1_two_69 (by decide) ?_
      refine lv_iadd hx hb dX1_two_70 ?_
      refine lv_topi (fun x_21 ex_21 => ?_)
      have ex_21 : x_21 = nI (tp + 1) := ex_21.trans (nI_add tp 1)
      subst ex_21
      refine va_bald hx hb hK hP 2 0 rfl rfl (i := (nI (tp + 1))) (vp_in_nI (n := tp + 1) (N := N) (by omega) (by omega)) dX1_two_71 ?_
      refine lv_topi (fun x_22 ex_22 => ?_)
      have ex_22 : x_22 = bf (tp + 1) := ex_22.trans (congrArg bf (nI_clamp (n := tp + 1) (by omega)))
      subst ex_22
      refine lv_if_ne (tgt := 79) hx hb dX1_two_72 (by decide) (fun c_23 => ?_) (fun c_23 => ?_)
      · skip
        refine lv_iconst (v := 0) hx hb dX1_two_79 (by decide) ?_
        exact W.eq (by unfold thI; rw [if_neg c_23]) (mg_7 _ _ hP hD hS)
      · skip
        refine lv_iconst (v := 1) hx hb dX1_two_75 (by decide) ?_
        refine lv_goto (tgt := 80) hx hb dX1_two_76 (by decide) ?_
        exact W.eq (by unfold thI; rw [if_pos c_23]) (mg_7 _ _ hP hD hS)
    refine lv_aload_n hx hb dX1_two_42 rfl (lv_at hl 2 rfl) ?_
    refine va_get (D := (dC, dI)) (ci := 2) (v := .ref hB1) (C := RX1) (T := TX1) (N := 13) hx hb hts (fun w h => List.mem_cons_of_mem _ (uG_X1 w h)) hown hK hP 0 rfl rfl 11 (by decide) (hts _ (List.mem_cons_of_mem _ kw_399)) (fun _ h9 => h9) rfl dX1_two_43 ?_
    refine lv_aload_n hx hb dX1_two_46 rfl (lv_at hl 2 rfl) ?_
    refine va_get (D := (dC, dI)) (ci := 2) (v := .int (nI tp)) (C := RX1) (T := TX1) (N := 13) hx hb hts (fun w h => List.mem_cons_of_mem _ (uG_X1 w h)) hown hK hP 0 rfl rfl 12 (by decide) (hts _ (List.mem_cons_of_mem _ kw_400)) (fun _ h9 => h9) rfl dX1_two_47 ?_
    refine va_bald hx hb hK hP 2 0 rfl rfl (i := (nI tp)) (vp_in_nI (n := tp) (N := N) (by omega) (by omega)) dX1_two_50 ?_
    refine lv_topi (fun x_24 ex_24 => ?_)
    have ex_24 : x_24 = bf tp := ex_24.trans (congrArg bf (nI_clamp (n := tp) (by omega)))
    subst ex_24
    refine lv_if_ne (tgt := 58) hx hb dX1_two_51 (by decide) (fun c_25 => ?_) (fun c_25 => ?_)
    · skip
      refine lv_iconst (v := 0) hx hb dX1_two_58 (by decide) ?_
      exact W.eq (by unfold thI; rw [if_neg c_25]) (mg_6 _ _ hP hD hS)
    · skip
      refine lv_iconst (v := 1) hx hb dX1_two_54 (by decide) ?_
      refine lv_goto (tgt := 59) hx hb dX1_two_55 (by decide) ?_
      exact W.eq (by unfold thI; rw [if_pos c_25]) (mg_6 _ _ hP hD hS)
  · skip
    have c_1 : ¬ (2 ≤ tp + 2) := fun h => c_1 ((nI_leI (a := 2) (b := tp + 2) (by omega) (by omega)).mpr h)
    exact absurd (show 2 ≤ tp + 2 by omega) c_1
abbrev cs_t_two_eq (cB cI cJ cZ : ClassId) (h0 hS1 hB1 : Nat) (sz1 : Int32) (k1 k2 k3 k4 k5 k6 k7 k8 k9 : Value) (N : Nat) (sf : Nat → Int64) (bf : Nat → Int32) (tp : Nat) : va_W := [(h0, .inr (2, [.int sz1, k1, k2, k3, k4, k5, k6, k7, k8, k9, .ref hS1, .ref hB1, .int (nI (tp + 2))])), (hS1, .inl (cJ, N, .inr (.inl sf))), (hB1, .inl (cB, N, .inl bf))]
abbrev pc_t_two_eq (dC : Nat → ClassId) (dI : Nat → Nat → Nat) (sz : Nat) (cB cI cJ cZ : ClassId) (h0 hS1 hB1 : Nat) (sz1 : Int32) (k1 k2 k3 k4 k5 k6 k7 k8 k9 : Value) (N : Nat) (sf : Nat → Int64) (bf : Nat → Int32) (tp : Nat) : Array Value → State → Prop := va_Pc [.ref h0, .int 50] (fun U => U.heap.size = sz ∧ va_P (dC, dI) vwCl [(h0, .inr (2, [.int sz1, k1, k2, k3, k4, k5, k6, k7, k8, k9, .ref hS1, .ref hB1, .int (nI (tp + 2))])), (hS1, .inl (cJ, N, .inr (.inl sf))), (hB1, .inl (cB, N, .inl bf))] U.heap ∧ va_K (dC, dI) vwCl [(cB, .byte), (cI, .int), (cJ, .long), (cZ, .boolean)] U ∧ va_D (fun _ => True) [(h0, .inr (2, [.int sz1, k1, k2, k3, k4, k5, k6, k7, k8, k9, .ref hS1, .ref hB1, .int (nI (tp + 2))])), (hS1, .inl (cJ, N, .inr (.inl sf))), (hB1, .inl (cB, N, .inl bf))])
abbrev qc_t_two_eq (dC : Nat → ClassId) (dI : Nat → Nat → Nat) (cB cI cJ cZ : ClassId) (h0 hS1 hB1 : Nat) (sz1 : Int32) (k1 k2 k3 k4 k5 k6 k7 k8 k9 : Value) (N : Nat) (sf : Nat → Int64) (bf : Nat → Int32) (tp : Nat) (A : Nat → Prop) : Array Value → State → Outcome → State → Prop := va_Qv (fun (u : Unit) => match u with | _ => True) (fun (u : Unit) t_ => match u with | _ => va_P (dC, dI) vwCl [(h0, .inr (2, [.int sz1, k1, k2, k3, k4, k5, k6, k7, k8, k9, .ref hS1, .ref hB1, .int (nI (tp + 1))])), (hS1, .inl (cJ, N, .inr (.inl (vp_updL sf tp (pv (kvI (knI (bf tp) (bf (tp + 1))) (if (sf tp) = (sf (tp + 1)) then 1 else 0)) (nbI (knI (bf tp) (bf (tp + 1))))))))), (hB1, .inl (cB, N, .inl (upd bf tp (pb (nbI (knI (bf tp) (bf (tp + 1))))))))] t_.heap ∧ va_K (dC, dI) vwCl [(cB, .byte), (cI, .int), (cJ, .long), (cZ, .boolean)] t_ ∧ va_D A [(h0, .inr (2, [.int sz1, k1, k2, k3, k4, k5, k6, k7, k8, k9, .ref hS1, .ref hB1, .int (nI (tp + 1))])), (hS1, .inl (cJ, N, .inr (.inl (vp_updL sf tp (pv (kvI (knI (bf tp) (bf (tp + 1))) (if (sf tp) = (sf (tp + 1)) then 1 else 0)) (nbI (knI (bf tp) (bf (tp + 1))))))))), (hB1, .inl (cB, N, .inl (upd bf tp (pb (nbI (knI (bf tp) (bf (tp + 1))))))))]) A
set_option maxHeartbeats 4000000 in
set_option maxRecDepth 100000 in
theorem t_two_eq (l : Launch) (dC : Nat → ClassId) (dI : Nat → Nat → Nat) (sz : Nat) (cB cI cJ cZ : ClassId) (h0 hS1 hB1 : Nat) (sz1 : Int32) (k1 k2 k3 k4 k5 k6 k7 k8 k9 : Value) (N : Nat) (sf : Nat → Int64) (bf : Nat → Int32) (tp : Nat) (hN : N < 1000000) (htp : tp + 2 ≤ N) : Met l yX1_two (wsOf yX1_two cX1_two 10 none) ({ frames := 1, cells := 0, slots := 0, locals := 24 }) (pc_t_two_eq dC dI sz cB cI cJ cZ h0 hS1 hB1 sz1 k1 k2 k3 k4 k5 k6 k7 k8 k9 N sf bf tp) (qc_t_two_eq dC dI cB cI cJ cZ h0 hS1 hB1 sz1 k1 k2 k3 k4 k5 k6 k7 k8 k9 N sf bf tp (va_A (cs_t_two_eq cB cI cJ cZ h0 hS1 hB1 sz1 k1 k2 k3 k4 k5 k6 k7 k8 k9 N sf bf tp) sz)) 0 0 (va_A (cs_t_two_eq cB cI cJ cZ h0 hS1 hB1 sz1 k1 k2 k3 k4 k5 k6 k7 k8 k9 N sf bf tp) sz) := by
  refine Met.ofW (cc := cX1_two) (maxL := 10) (ret := none) (by decide) rfl ?_
  intro p e s m args below meth c s₁ B hml hv
  obtain ⟨rfl, hsz, hP, hK, hD0⟩ := hv
  have hx := B.exec
  have hb := B.bytes
  have hr := B.returns
  have hts := atoms_spec (ws := (wsOf yX1_two cX1_two 10 none)) B.pre
  have hown : s.vm.findClass RX1 = some m.cls := findClass_of_methodNamed B.named
  have hlocks := B.notSynchronized
  subst hsz
  have hD := hD0.self (sz := s.heap.size)
  generalize hAe : va_A (cs_t_two_eq cB cI cJ cZ h0 hS1 hB1 sz1 k1 k2 k3 k4 k5 k6 k7 k8 k9 N sf bf tp) s.heap.size = A at hD ⊢
  have hA : ∀ q : Nat, s.heap.size ≤ q → A q := fun q h => by rw [← hAe]; exact Or.inr h
  have hS : va_S A s.heap s.heap [] := va_S.rf
  have hP : va_P (dC, dI) vwCl [(h0, .inr (2, [.int sz1, k1, k2, k3, k4, k5, k6, k7, k8, k9, .ref hS1, .ref hB1, .int (nI (tp + 2))])), (hS1, .inl (cJ, N, .inr (.inl sf))), (hB1, .inl (cB, N, .inl bf))] s.heap := hP
  have hl := lv_entry ([.ref h0, .int 50]) (n := 10) (Nat.le_of_ble_eq_true rfl)
  rw [lg_entry_eq]
  generalize (lg_sl ([.ref h0, .int 50]) ++ List.replicate (10 - (lg_sl ([.ref h0, .int 50])).length) Slot.unset).toArray = ls at hl ⊢
  have hl : lv_has ls 10 [(0, .ref h0), (1, .int 50)] := hl
  refine lv_aload_n hx hb dX1_two_0 rfl (lv_at hl 0 rfl) ?_
  refine va_get (D := (dC, dI)) (ci := 2) (v := .int (nI (tp + 2))) (C := RX1) (T := TX1) (N := 13) hx hb hts (fun w h => List.mem_cons_of_mem _ (uG_X1 w h)) hown hK hP 0 rfl rfl 12 (by decide) (hts _ (List.mem_cons_of_mem _ kw_400)) (fun _ h9 => h9) rfl dX1_two_1 ?_
  refine lv_iconst (v := 2) hx hb dX1_two_4 (by decide) ?_
  refine lv_icmp_ge (tgt := 9) hx hb dX1_two_5 (by decide) (fun c_1 => ?_) (fun c_1 => ?_)
  · skip
    have c_1 : 2 ≤ tp + 2 := (nI_leI (a := 2) (b := tp + 2) (by omega) (by omega)).mp c_1
    refine lv_aload_n hx hb dX1_two_9 rfl (lv_at hl 0 rfl) ?_
    refine lv_dup hx hb dX1_two_10 rfl ?_
    refine va_get (D := (dC, dI)) (ci := 2) (v := .int (nI (tp + 2))) (C := RX1) (T := TX1) (N := 13) hx hb hts (fun w h => List.mem_cons_of_mem _ (uG_X1 w h)) hown hK hP 0 rfl rfl 12 (by decide) (hts _ (List.mem_cons_of_mem _ kw_400)) (fun _ h9 => h9) rfl dX1_two_11 ?_
    refine lv_iconst (v := 2) hx hb dX1_two_14 (by decide) ?_
    refine lv_isub hx hb dX1_two_15 ?_
    refine lv_topi (fun x_2 ex_2 => ?_)
    have ex_2 : x_2 = nI tp := by exact ex_2.trans (pk_sub (a := tp + 2) (b := 2) (by omega))
    subst ex_2
    refine va_put (D := (dC, dI)) (ci := 2) (v := .int (nI tp)) (ty := .int) (C := RX1) (T := TX1) (N := 13) hx hb hts (fun w h => List.mem_cons_of_mem _ (uG_X1 w h)) tyX1 tyX1_ok nmX1 hown hK hP hD hS 0 rfl rfl 12 (by decide) (hts _ (List.mem_cons_of_mem _ kw_400)) (fun _ h9 => h9) rfl (by decide +kernel) rfl rfl (Nat.le_of_ble_eq_true rfl) dX1_two_16 (fun H locs hP hD hS => ?_)
    have hP : va_P (dC, dI) vwCl [(h0, .inr (2, [.int sz1, k1, k2, k3, k4, k5, k6, k7, k8, k9, .ref hS1, .ref hB1, .int (nI tp)])), (hS1, .inl (cJ, N, .inr (.inl sf))), (hB1, .inl (cB, N, .inl bf))] H := hP
    have hD : va_D A [(h0, .inr (2, [.int sz1, k1, k2, k3, k4, k5, k6, k7, k8, k9, .ref hS1, .ref hB1, .int (nI tp)])), (hS1, .inl (cJ, N, .inr (.inl sf))), (hB1, .inl (cB, N, .inl bf))] := hD
    refine lv_aload_n hx hb dX1_two_19 rfl (lv_at hl 0 rfl) ?_
    refine va_get (D := (dC, dI)) (ci := 2) (v := .ref hS1) (C := RX1) (T := TX1) (N := 13) hx hb hts (fun w h => List.mem_cons_of_mem _ (uG_X1 w h)) hown hK hP 0 rfl rfl 10 (by decide) (hts _ (List.mem_cons_of_mem _ kw_398)) (fun _ h9 => h9) rfl dX1_two_20 ?_
    refine lv_aload_n hx hb dX1_two_23 rfl (lv_at hl 0 rfl) ?_
    refine va_get (D := (dC, dI)) (ci := 2) (v := .int (nI tp)) (C := RX1) (T := TX1) (N := 13) hx hb hts (fun w h => List.mem_cons_of_mem _ (uG_X1 w h)) hown hK hP 0 rfl rfl 12 (by decide) (hts _ (List.mem_cons_of_mem _ kw_400)) (fun _ h9 => h9) rfl dX1_two_24 ?_
    refine va_lald hx hb hK hP 1 2 rfl rfl (i := (nI tp)) (vp_in_nI (n := tp) (N := N) (by omega) (by omega)) dX1_two_27 ?_
    refine lv_topl (fun x_3 ex_3 => ?_)
    have ex_3 : x_3 = sf tp := ex_3.trans (congrArg sf (nI_clamp (n := tp) (by omega)))
    subst ex_3
    refine lv_lstore_n (lv' := [(2, .long (sf tp)), (0, .ref h0), (1, .int 50)]) hx hb dX1_two_28 rfl hl (by decide) rfl (fun ls hl => ?_)
    refine lv_aload_n hx hb dX1_two_29 rfl (lv_at hl 1 rfl) ?_
    refine va_get (D := (dC, dI)) (ci := 2) (v := .ref hS1) (C := RX1) (T := TX1) (N := 13) hx hb hts (fun w h => List.mem_cons_of_mem _ (uG_X1 w h)) hown hK hP 0 rfl rfl 10 (by decide) (hts _ (List.mem_cons_of_mem _ kw_398)) (fun _ h9 => h9) rfl dX1_two_30 ?_
    refine lv_aload_n hx hb dX1_two_33 rfl (lv_at hl 1 rfl) ?_
    refine va_get (D := (dC, dI)) (ci := 2) (v := .int (nI tp)) (C := RX1) (T := TX1) (N := 13) hx hb hts (fun w h => List.mem_cons_of_mem _ (uG_X1 w h)) hown hK hP 0 rfl rfl 12 (by decide) (hts _ (List.mem_cons_of_mem _ kw_400)) (fun _ h9 => h9) rfl dX1_two_34 ?_
    refine lv_iconst (v := 1) hx hb dX1_two_37 (by decide) ?_
    refine lv_iadd hx hb dX1_two_38 ?_
    refine lv_topi (fun x_4 ex_4 => ?_)
    have ex_4 : x_4 = nI (tp + 1) := ex_4.trans (nI_add tp 1)
    subst ex_4
    refine va_lald hx hb hK hP 1 2 rfl rfl (i := (nI (tp + 1))) (vp_in_nI (n := tp + 1) (N := N) (by omega) (by omega)) dX1_two_39 ?_
    refine lv_topl (fun x_5 ex_5 => ?_)
    have ex_5 : x_5 = sf (tp + 1) := ex_5.trans (congrArg sf (nI_clamp (n := tp + 1) (by omega)))
    subst ex_5
    refine lv_lstore (lv' := [(4, .long (sf (tp + 1))), (2, .long (sf tp)), (0, .ref h0), (1, .int 50)]) hx hb dX1_two_40 hl (by decide) rfl (fun ls hl => ?_)
    have mg_6 : ∀ (H : Heap) (locs : List Loc), va_P (dC, dI) vwCl [(h0, .inr (2, [.int sz1, k1, k2, k3, k4, k5, k6, k7, k8, k9, .ref hS1, .ref hB1, .int (nI tp)])), (hS1, .inl (cJ, N, .inr (.inl sf))), (hB1, .inl (cB, N, .inl bf))] H → va_D A [(h0, .inr (2, [.int sz1, k1, k2, k3, k4, k5, k6, k7, k8, k9, .ref hS1, .ref hB1, .int (nI tp)])), (hS1, .inl (cJ, N, .inr (.inl sf))), (hB1, .inl (cB, N, .inl bf))] → va_S A s.heap H locs → W p l e (headSpec (wsOf yX1_two cX1_two 10 none) ({ frames := 1, cells := 0, slots := 0, locals := 24 })).room s m ([.ref h0, .int 50] : List Value).toArray below meth c H locs 0 0 (MQ below (qc_t_two_eq dC dI cB cI cJ cZ h0 hS1 hB1 sz1 k1 k2 k3 k4 k5 k6 k7 k8 k9 N sf bf tp A) ([.ref h0, .int 50] : List Value).toArray s 0 0 A) (F0 m 59 ls [.int (thI (bf tp))]) := by
      intro H locs hP hD hS
      refine lv_istore (lv' := [(6, .int (thI (bf tp))), (4, .long (sf (tp + 1))), (2, .long (sf tp)), (0, .ref h0), (1, .int 50)]) hx hb dX1_two_59 hl (by decide) rfl (fun ls hl => ?_)
      have mg_7 : ∀ (H : Heap) (locs : List Loc), va_P (dC, dI) vwCl [(h0, .inr (2, [.int sz1, k1, k2, k3, k4, k5, k6, k7, k8, k9, .ref hS1, .ref hB1, .int (nI tp)])), (hS1, .inl (cJ, N, .inr (.inl sf))), (hB1, .inl (cB, N, .inl bf))] H → va_D A [(h0, .inr (2, [.int sz1, k1, k2, k3, k4, k5, k6, k7, k8, k9, .ref hS1, .ref hB1, .int (nI tp)])), (hS1, .inl (cJ, N, .inr (.inl sf))), (hB1, .inl (cB, N, .inl bf))] → va_S A s.heap H locs → W p l e (headSpec (wsOf yX1_two cX1_two 10 none) ({ frames := 1, cells := 0, slots := 0, locals := 24 })).room s m ([.ref h0, .int 50] : List Value).toArray below meth c H locs 0 0 (MQ below (qc_t_two_eq dC dI cB cI cJ cZ h0 hS1 hB1 sz1 k1 k2 k3 k4 k5 k6 k7 k8 k9 N sf bf tp A) ([.ref h0, .int 50] : List Value).toArray s 0 0 A) (F0 m 80 ls [.int (thI (bf (tp + 1)))]) := by
        intro H locs hP hD hS
        refine lv_istore (lv' := [(7, .int (thI (bf (tp + 1)))), (6, .int (thI (bf tp))), (4, .long (sf (tp + 1))), (2, .long (sf tp)), (0, .ref h0), (1, .int 50)]) hx hb dX1_two_80 hl (by decide) rfl (fun ls hl => ?_)
        refine lv_iload_n hx hb dX1_two_82 rfl (lv_at hl 5 rfl) ?_
        refine lv_bipush (v := 28) hx hb dX1_two_83 (by decide) ?_
        refine lv_icmp_eq (tgt := 94) hx hb dX1_two_85 (by decide) (fun c_8 => ?_) (fun c_8 => ?_)
        · skip
          exact absurd c_8 (by decide)
        · skip
          refine lv_iload_n hx hb dX1_two_88 rfl (lv_at hl 5 rfl) ?_
          refine lv_bipush (v := 29) hx hb dX1_two_89 (by decide) ?_
          refine lv_icmp_ne (tgt := 182) hx hb dX1_two_91 (by decide) (fun c_9 => ?_) (fun c_9 => ?_)
          · skip
            have mg_10 : ∀ (H : Heap) (locs : List Loc), va_P (dC, dI) vwCl [(h0, .inr (2, [.int sz1, k1, k2, k3, k4, k5, k6, k7, k8, k9, .ref hS1, .ref hB1, .int (nI tp)])), (hS1, .inl (cJ, N, .inr (.inl sf))), (hB1, .inl (cB, N, .inl bf))] H → va_D A [(h0, .inr (2, [.int sz1, k1, k2, k3, k4, k5, k6, k7, k8, k9, .ref hS1, .ref hB1, .int (nI tp)])), (hS1, .inl (cJ, N, .inr (.inl sf))), (hB1, .inl (cB, N, .inl bf))] → va_S A s.heap H locs → W p l e (headSpec (wsOf yX1_two cX1_two 10 none) ({ frames := 1, cells := 0, slots := 0, locals := 24 })).room s m ([.ref h0, .int 50] : List Value).toArray below meth c H locs 0 0 (MQ below (qc_t_two_eq dC dI cB cI cJ cZ h0 hS1 hB1 sz1 k1 k2 k3 k4 k5 k6 k7 k8 k9 N sf bf tp A) ([.ref h0, .int 50] : List Value).toArray s 0 0 A) (F0 m 206 ls [.int (knI (bf tp) (bf (tp + 1)))]) := by
              intro H locs hP hD hS
              refine lv_istore (lv' := [(8, .int (knI (bf tp) (bf (tp + 1)))), (7, .int (thI (bf (tp + 1)))), (6, .int (thI (bf tp))), (4, .long (sf (tp + 1))), (2, .long (sf tp)), (0, .ref h0), (1, .int 50)]) hx hb dX1_two_206 hl (by decide) rfl (fun ls hl => ?_)
              refine lv_aload_n hx hb dX1_two_208 rfl (lv_at hl 5 rfl) ?_
              have mg_11 : ∀ (H : Heap) (locs : List Loc), va_P (dC, dI) vwCl [(h0, .inr (2, [.int sz1, k1, k2, k3, k4, k5, k6, k7, k8, k9, .ref hS1, .ref hB1, .int (nI tp)])), (hS1, .inl (cJ, N, .inr (.inl sf))), (hB1, .inl (cB, N, .inl bf))] H → va_D A [(h0, .inr (2, [.int sz1, k1, k2, k3, k4, k5, k6, k7, k8, k9, .ref hS1, .ref hB1, .int (nI tp)])), (hS1, .inl (cJ, N, .inr (.inl sf))), (hB1, .inl (cB, N, .inl bf))] → va_S A s.heap H locs → W p l e (headSpec (wsOf yX1_two cX1_two 10 none) ({ frames := 1, cells := 0, slots := 0, locals := 24 })).room s m ([.ref h0, .int 50] : List Value).toArray below meth c H locs 0 0 (MQ below (qc_t_two_eq dC dI cB cI cJ cZ h0 hS1 hB1 sz1 k1 k2 k3 k4 k5 k6 k7 k8 k9 N sf bf tp A) ([.ref h0, .int 50] : List Value).toArray s 0 0 A) (F0 m 225 ls [.long (kvI (knI (bf tp) (bf (tp + 1))) (if (sf tp) = (sf (tp + 1)) then 1 else 0)), .ref h0]) := by
                intro H locs hP hD hS
                have mg_12 : ∀ (H : Heap) (locs : List Loc), va_P (dC, dI) vwCl [(h0, .inr (2, [.int sz1, k1, k2, k3, k4, k5, k6, k7, k8, k9, .ref hS1, .ref hB1, .int (nI tp)])), (hS1, .inl (cJ, N, .inr (.inl sf))), (hB1, .inl (cB, N, .inl bf))] H → va_D A [(h0, .inr (2, [.int sz1, k1, k2, k3, k4, k5, k6, k7, k8, k9, .ref hS1, .ref hB1, .int (nI tp)])), (hS1, .inl (cJ, N, .inr (.inl sf))), (hB1, .inl (cB, N, .inl bf))] → va_S A s.heap H locs → W p l e (headSpec (wsOf yX1_two cX1_two 10 none) ({ frames := 1, cells := 0, slots := 0, locals := 24 })).room s m ([.ref h0, .int 50] : List Value).toArray below meth c H locs 0 0 (MQ below (qc_t_two_eq dC dI cB cI cJ cZ h0 hS1 hB1 sz1 k1 k2 k3 k4 k5 k6 k7 k8 k9 N sf bf tp A) ([.ref h0, .int 50] : List Value).toArray s 0 0 A) (F0 m 235 ls [.int (nbI (knI (bf tp) (bf (tp + 1)))), .long (kvI (knI (bf tp) (bf (tp + 1))) (if (sf tp) = (sf (tp + 1)) then 1 else 0)), .ref h0]) := by
                  intro H locs hP hD hS
                  have hPc := hP.sub (ws' := [(h0, .inr (2, [.int sz1, k1, k2, k3, k4, k5, k6, k7, k8, k9, .ref hS1, .ref hB1, .int (nI tp)])), (hS1, .inl (cJ, N, .inr (.inl sf))), (hB1, .inl (cB, N, .inl bf))]) [0, 1, 2] rfl
                  have hDc := hD.sub (ws' := [(h0, .inr (2, [.int sz1, k1, k2, k3, k4, k5, k6, k7, k8, k9, .ref hS1, .ref hB1, .int (nI tp)])), (hS1, .inl (cJ, N, .inr (.inl sf))), (hB1, .inl (cB, N, .inl bf))]) [0, 1, 2] (by decide) rfl
                  have hKc := hK.sub (tys' := [(cB, .byte), (cI, .int), (cJ, .long), (cZ, .boolean)]) [0, 1, 2, 3] rfl
                  have hFc := va_free (wc := [(h0, .inr (2, [.int sz1, k1, k2, k3, k4, k5, k6, k7, k8, k9, .ref hS1, .ref hB1, .int (nI tp)])), (hS1, .inl (cJ, N, .inr (.inl sf))), (hB1, .inl (cB, N, .inl bf))]) hD hS hA [0, 1, 2] rfl
                  refine va_callv (va_runV (As := [.long (kvI (knI (bf tp) (bf (tp + 1))) (if (sf tp) = (sf (tp + 1)) then 1 else 0)), .int (nbI (knI (bf tp) (bf (tp + 1))))]) (rest := []) ⟨hx, hb, hml, hown, hts⟩ (t_X1_push l dC dI H.size cB cI cJ cZ h0 hS1 hB1 sz1 k1 k2 k3 k4 k5 k6 k7 k8 k9 N sf bf tp (kvI (knI (bf tp) (bf (tp + 1))) (if (sf tp) = (sf (tp + 1)) then 1 else 0)) (nbI (knI (bf tp) (bf (tp + 1)))) (by omega) (by omega)) (cwV 2 hts (gd_all (in_V kw_1415 kw_1417 kw_73 kw_189 kc_X1_push)) rfl rfl rfl (by decide +kernel) ⟨Nat.le_of_ble_eq_true rfl, Nat.le_of_ble_eq_true rfl⟩) ⟨fun a U g mk q => by obtain ⟨q0, q1, qP, qK, qD⟩ := q; exact ⟨q0, q1, qP, va_K.moved (u := U) (U := U.calling g mk a) (Vm.Alike.refl U.vm) qK, qD⟩, va_recv hKc hPc (ci := 2) (q0 := 0) rfl rfl, fun U hU hW => ⟨rfl, by rw [hU], by rw [hU]; exact hPc, va_K.moved hW.alike hKc, hDc.weaken (fun _ _ _ _ => trivial)⟩⟩ rfl rfl hl.1 rfl (lv_room (Nat.le_of_ble_eq_true rfl)) dX1_two_235 ⟨Nat.le_of_ble_eq_true rfl, Nat.le_of_ble_eq_true rfl⟩) hS (fun q _ h => hFc q h) hFc (fun u t_ H1 locs ht hvm hw hB hz1 hk1 hS => ?_)
                  obtain ⟨hP1, hK1, hD1⟩ := hB
                  rw [ht] at hP1
                  have hK1 := va_K.moved hvm.symm hK1
                  obtain ⟨hP, hD⟩ := va_join (wr := []) (w1 := [(h0, .inr (2, [.int sz1, k1, k2, k3, k4, k5, k6, k7, k8, k9, .ref hS1, .ref hB1, .int (nI (tp + 1))])), (hS1, .inl (cJ, N, .inr (.inl (vp_updL sf tp (pv (kvI (knI (bf tp) (bf (tp + 1))) (if (sf tp) = (sf (tp + 1)) then 1 else 0)) (nbI (knI (bf tp) (bf (tp + 1))))))))), (hB1, .inl (cB, N, .inl (upd bf tp (pb (nbI (knI (bf tp) (bf (tp + 1))))))))]) hP hD [0, 1, 2] [] rfl rfl (by decide) (by decide) hk1 hFc hP1 hD1
                  have hK := (hK.sub (tys' := []) [] rfl).app hK1
                  generalize H1 = H at hP hS ⊢
                  have hP : va_P (dC, dI) vwCl [(h0, .inr (2, [.int sz1, k1, k2, k3, k4, k5, k6, k7, k8, k9, .ref hS1, .ref hB1, .int (nI (tp + 1))])), (hS1, .inl (cJ, N, .inr (.inl (vp_updL sf tp (pv (kvI (knI (bf tp) (bf (tp + 1))) (if (sf tp) = (sf (tp + 1)) then 1 else 0)) (nbI (knI (bf tp) (bf (tp + 1))))))))), (hB1, .inl (cB, N, .inl (upd bf tp (pb (nbI (knI (bf tp) (bf (tp + 1))))))))] H := hP
                  have hD : va_D A [(h0, .inr (2, [.int sz1, k1, k2, k3, k4, k5, k6, k7, k8, k9, .ref hS1, .ref hB1, .int (nI (tp + 1))])), (hS1, .inl (cJ, N, .inr (.inl (vp_updL sf tp (pv (kvI (knI (bf tp) (bf (tp + 1))) (if (sf tp) = (sf (tp + 1)) then 1 else 0)) (nbI (knI (bf tp) (bf (tp + 1))))))))), (hB1, .inl (cB, N, .inl (upd bf tp (pb (nbI (knI (bf tp) (bf (tp + 1))))))))] := hD
                  have hK : va_K (dC, dI) vwCl [(cB, .byte), (cI, .int), (cJ, .long), (cZ, .boolean)] s := hK
                  have hP9 := hP.sub (ws' := [(h0, .inr (2, [.int sz1, k1, k2, k3, k4, k5, k6, k7, k8, k9, .ref hS1, .ref hB1, .int (nI (tp + 1))])), (hS1, .inl (cJ, N, .inr (.inl (vp_updL sf tp (pv (kvI (knI (bf tp) (bf (tp + 1))) (if (sf tp) = (sf (tp + 1)) then 1 else 0)) (nbI (knI (bf tp) (bf (tp + 1))))))))), (hB1, .inl (cB, N, .inl (upd bf tp (pb (nbI (knI (bf tp) (bf (tp + 1))))))))]) [0, 1, 2] rfl
                  have hD9 := hD.sub (ws' := [(h0, .inr (2, [.int sz1, k1, k2, k3, k4, k5, k6, k7, k8, k9, .ref hS1, .ref hB1, .int (nI (tp + 1))])), (hS1, .inl (cJ, N, .inr (.inl (vp_updL sf tp (pv (kvI (knI (bf tp) (bf (tp + 1))) (if (sf tp) = (sf (tp + 1)) then 1 else 0)) (nbI (knI (bf tp) (bf (tp + 1))))))))), (hB1, .inl (cB, N, .inl (upd bf tp (pb (nbI (knI (bf tp) (bf (tp + 1))))))))]) [0, 1, 2] (by decide) rfl
                  have hK9 := hK.sub (tys' := [(cB, .byte), (cI, .int), (cJ, .long), (cZ, .boolean)]) [0, 1, 2, 3] rfl
                  exact W.vret hx hb hr (fun t_ ht hW => ⟨⟨(), rfl, trivial, by rw [ht]; exact hP9, va_K.moved hW.alike hK9, hD9⟩, hS.F ht⟩) hS.2.2 dX1_two_238
                refine lv_iload hx hb dX1_two_225 (lv_at hl 0 rfl) ?_
                refine lv_if_eq (tgt := 234) hx hb dX1_two_227 (by decide) (fun c_14 => ?_) (fun c_14 => ?_)
                · skip
                  refine lv_iconst (v := 1) hx hb dX1_two_234 (by decide) ?_
                  exact W.eq (by unfold nbI; rw [if_pos c_14]) (mg_12 _ _ hP hD hS)
                · skip
                  refine lv_iconst (v := 0) hx hb dX1_two_230 (by decide) ?_
                  refine lv_goto (tgt := 235) hx hb dX1_two_231 (by decide) ?_
                  exact W.eq (by unfold nbI; rw [if_neg c_14]) (mg_12 _ _ hP hD hS)
              refine lv_iload hx hb dX1_two_209 (lv_at hl 0 rfl) ?_
              refine lv_if_eq (tgt := 224) hx hb dX1_two_211 (by decide) (fun c_15 => ?_) (fun c_15 => ?_)
              · skip
                refine lv_lconst (v := 0) hx hb dX1_two_224 (by decide) ?_
                exact W.eq (by unfold kvI; rw [if_pos c_15]) (mg_11 _ _ hP hD hS)
              · skip
                refine lv_iload_n hx hb dX1_two_214 rfl (lv_at hl 6 rfl) ?_
                refine lv_lload_n hx hb dX1_two_215 rfl (lv_at hl 4 rfl) ?_
                refine lv_lload hx hb dX1_two_216 (lv_at hl 3 rfl) ?_
                have hPc := hP.sub (ws' := []) [] rfl
                have hDc := hD.sub (ws' := []) [] (by decide) rfl
                have hKc := hK.sub (tys' := [(cB, .byte), (cI, .int), (cJ, .long), (cZ, .boolean)]) [0, 1, 2, 3] rfl
                have hFc := va_free (wc := []) hD hS hA [] rfl
                refine va_calll (va_runS (As := [.int 50, .long (sf tp), .long (sf (tp + 1))]) (rest := [.ref h0]) ⟨hx, hb, hml, hown, hts⟩ (t_reckon_eq l dC dI H.size cB cI cJ cZ (sf tp) (sf (tp + 1))) (cwS 3 hts (gd_all (in_S kw_1446 kw_1447 kw_189 kc_X1_reckon)) rfl rfl rfl (by decide +kernel) ⟨Nat.le_of_ble_eq_true rfl, Nat.le_of_ble_eq_true rfl⟩) ⟨fun a U g mk q => by obtain ⟨q0, q1, qP, qK, qD⟩ := q; exact ⟨q0, q1, qP, va_K.moved (u := U) (U := U.calling g mk a) (Vm.Alike.refl U.vm) qK, qD⟩, fun U hU hW => ⟨rfl, by rw [hU], by rw [hU]; exact hPc, va_K.moved hW.alike hKc, hDc.weaken (fun _ _ _ _ => trivial)⟩⟩ rfl rfl hl.1 rfl (lv_room (Nat.le_of_ble_eq_true rfl)) dX1_two_218 ⟨Nat.le_of_ble_eq_true rfl, Nat.le_of_ble_eq_true rfl⟩) hS (fun q _ h => hFc q h) hFc (fun r_16 u t_ H1 locs ht hvm hw hB hz1 hk1 hS => ?_)
                obtain ⟨hP1, hK1, hD1⟩ := hB
                rw [ht] at hP1
                have hK1 := va_K.moved hvm.symm hK1
                obtain ⟨hP, hD⟩ := va_join (wr := [(h0, .inr (2, [.int sz1, k1, k2, k3, k4, k5, k6, k7, k8, k9, .ref hS1, .ref hB1, .int (nI tp)])), (hS1, .inl (cJ, N, .inr (.inl sf))), (hB1, .inl (cB, N, .inl bf))]) (w1 := []) hP hD [] [0, 1, 2] rfl rfl (by decide) (by decide) hk1 hFc hP1 hD1
                have hK := (hK.sub (tys' := []) [] rfl).app hK1
                generalize H1 = H at hP hS ⊢
                have hP : va_P (dC, dI) vwCl [(h0, .inr (2, [.int sz1, k1, k2, k3, k4, k5, k6, k7, k8, k9, .ref hS1, .ref hB1, .int (nI tp)])), (hS1, .inl (cJ, N, .inr (.inl sf))), (hB1, .inl (cB, N, .inl bf))] H := hP
                have hD : va_D A [(h0, .inr (2, [.int sz1, k1, k2, k3, k4, k5, k6, k7, k8, k9, .ref hS1, .ref hB1, .int (nI tp)])), (hS1, .inl (cJ, N, .inr (.inl sf))), (hB1, .inl (cB, N, .inl bf))] := hD
                have hK : va_K (dC, dI) vwCl [(cB, .byte), (cI, .int), (cJ, .long), (cZ, .boolean)] s := hK
                have er_16 : r_16 = (if (sf tp) = (sf (tp + 1)) then 1 else 0) := hw
                subst er_16
                refine lv_goto (tgt := 225) hx hb dX1_two_221 (by decide) ?_
                exact W.eq (by unfold kvI; rw [if_neg c_15]) (mg_11 _ _ hP hD hS)
            refine lv_iload hx hb dX1_two_182 (lv_at hl 1 rfl) ?_
            refine lv_if_eq (tgt := 205) hx hb dX1_two_184 (by decide) (fun c_17 => ?_) (fun c_17 => ?_)
            · skip
              refine lv_iconst (v := 0) hx hb dX1_two_205 (by decide) ?_
              exact W.eq (by unfold knI; rw [if_pos c_17]) (mg_10 _ _ hP hD hS)
            · skip
              refine lv_iload hx hb dX1_two_187 (lv_at hl 0 rfl) ?_
              refine lv_if_eq (tgt := 205) hx hb dX1_two_189 (by decide) (fun c_18 => ?_) (fun c_18 => ?_)
              · skip
                refine lv_iconst (v := 0) hx hb dX1_two_205 (by decide) ?_
                exact W.eq (by unfold knI; rw [if_neg c_17, if_pos c_18]) (mg_10 _ _ hP hD hS)
              · skip
                refine lv_iload_n hx hb dX1_two_192 rfl (lv_at hl 5 rfl) ?_
                refine lv_lload hx hb dX1_two_193 (lv_at hl 2 rfl) ?_
                have hPc := hP.sub (ws' := []) [] rfl
                have hDc := hD.sub (ws' := []) [] (by decide) rfl
                have hKc := hK.sub (tys' := [(cB, .byte), (cI, .int), (cJ, .long), (cZ, .boolean)]) [0, 1, 2, 3] rfl
                have hFc := va_free (wc := []) hD hS hA [] rfl
                refine va_calli (va_runS (As := [.int 50, .long (sf (tp + 1))]) (rest := []) ⟨hx, hb, hml, hown, hts⟩ (t_hasResult_eq l dC dI H.size cB cI cJ cZ (sf (tp + 1))) (cwS 2 hts (gd_all (in_S kw_1443 kw_1444 kw_189 kc_X1_hasResult)) rfl rfl rfl (by decide +kernel) ⟨Nat.le_of_ble_eq_true rfl, Nat.le_of_ble_eq_true rfl⟩) ⟨fun a U g mk q => by obtain ⟨q0, q1, qP, qK, qD⟩ := q; exact ⟨q0, q1, qP, va_K.moved (u := U) (U := U.calling g mk a) (Vm.Alike.refl U.vm) qK, qD⟩, fun U hU hW => ⟨rfl, by rw [hU], by rw [hU]; exact hPc, va_K.moved hW.alike hKc, hDc.weaken (fun _ _ _ _ => trivial)⟩⟩ rfl rfl hl.1 rfl (lv_room (Nat.le_of_ble_eq_true rfl)) dX1_two_195 ⟨Nat.le_of_ble_eq_true rfl, Nat.le_of_ble_eq_true rfl⟩) hS (fun q _ h => hFc q h) hFc (fun r_19 u t_ H1 locs ht hvm hw hB hz1 hk1 hS => ?_)
                obtain ⟨hP1, hK1, hD1⟩ := hB
                rw [ht] at hP1
                have hK1 := va_K.moved hvm.symm hK1
                obtain ⟨hP, hD⟩ := va_join (wr := [(h0, .inr (2, [.int sz1, k1, k2, k3, k4, k5, k6, k7, k8, k9, .ref hS1, .ref hB1, .int (nI tp)])), (hS1, .inl (cJ, N, .inr (.inl sf))), (hB1, .inl (cB, N, .inl bf))]) (w1 := []) hP hD [] [0, 1, 2] rfl rfl (by decide) (by decide) hk1 hFc hP1 hD1
                have hK := (hK.sub (tys' := []) [] rfl).app hK1
                generalize H1 = H at hP hS ⊢
                have hP : va_P (dC, dI) vwCl [(h0, .inr (2, [.int sz1, k1, k2, k3, k4, k5, k6, k7, k8, k9, .ref hS1, .ref hB1, .int (nI tp)])), (hS1, .inl (cJ, N, .inr (.inl sf))), (hB1, .inl (cB, N, .inl bf))] H := hP
                have hD : va_D A [(h0, .inr (2, [.int sz1, k1, k2, k3, k4, k5, k6, k7, k8, k9, .ref hS1, .ref hB1, .int (nI tp)])), (hS1, .inl (cJ, N, .inr (.inl sf))), (hB1, .inl (cB, N, .inl bf))] := hD
                have hK : va_K (dC, dI) vwCl [(cB, .byte), (cI, .int), (cJ, .long), (cZ, .boolean)] s := hK
                have er_19 : r_19 = 1 := hw
                subst er_19
                refine lv_if_eq (tgt := 205) hx hb dX1_two_198 (by decide) (fun c_20 => ?_) (fun c_20 => ?_)
                · skip
                  exact absurd c_20 (by decide)
                · skip
                  refine lv_iconst (v := 1) hx hb dX1_two_201 (by decide) ?_
                  refine lv_goto (tgt := 206) hx hb dX1_two_202 (by decide) ?_
                  exact W.eq (by unfold knI; rw [if_neg c_17, if_neg c_18]) (mg_10 _ _ hP hD hS)
          · skip
            exact absurd c_9 (by decide)
      refine lv_aload_n hx hb dX1_two_61 rfl (lv_at hl 3 rfl) ?_
      refine va_get (D := (dC, dI)) (ci := 2) (v := .ref hB1) (C := RX1) (T := TX1) (N := 13) hx hb hts (fun w h => List.mem_cons_of_mem _ (uG_X1 w h)) hown hK hP 0 rfl rfl 11 (by decide) (hts _ (List.mem_cons_of_mem _ kw_399)) (fun _ h9 => h9) rfl dX1_two_62 ?_
      refine lv_aload_n hx hb dX1_two_65 rfl (lv_at hl 3 rfl) ?_
      refine va_get (D := (dC, dI)) (ci := 2) (v := .int (nI tp)) (C := RX1) (T := TX1) (N := 13) hx hb hts (fun w h => List.mem_cons_of_mem _ (uG_X1 w h)) hown hK hP 0 rfl rfl 12 (by decide) (hts _ (List.mem_cons_of_mem _ kw_400)) (fun _ h9 => h9) rfl dX1_two_66 ?_
      refine lv_iconst (v := 1) hx hb dX1_two_69 (by decide) ?_
      refine lv_iadd hx hb dX1_two_70 ?_
      refine lv_topi (fun x_21 ex_21 => ?_)
      have ex_21 : x_21 = nI (tp + 1) := ex_21.trans (nI_add tp 1)
      subst ex_21
      refine va_bald hx hb hK hP 2 0 rfl rfl (i := (nI (tp + 1))) (vp_in_nI (n := tp + 1) (N := N) (by omega) (by omega)) dX1_two_71 ?_
      refine lv_topi (fun x_22 ex_22 => ?_)
      have ex_22 : x_22 = bf (tp + 1) := ex_22.trans (congrArg bf (nI_clamp (n := tp + 1) (by omega)))
      subst ex_22
      refine lv_if_ne (tgt := 79) hx hb dX1_two_72 (by decide) (fun c_23 => ?_) (fun c_23 => ?_)
      · skip
        refine lv_iconst (v := 0) hx hb dX1_two_79 (by decide) ?_
        exact W.eq (by unfold thI; rw [if_neg c_23]) (mg_7 _ _ hP hD hS)
      · skip
        refine lv_iconst (v := 1) hx hb dX1_two_75 (by decide) ?_
        refine lv_goto (tgt := 80) hx hb dX1_two_76 (by decide) ?_
        exact W.eq (by unfold thI; rw [if_pos c_23]) (mg_7 _ _ hP hD hS)
    refine lv_aload_n hx hb dX1_two_42 rfl (lv_at hl 2 rfl) ?_
    refine va_get (D := (dC, dI)) (ci := 2) (v := .ref hB1) (C := RX1) (T := TX1) (N := 13) hx hb hts (fun w h => List.mem_cons_of_mem _ (uG_X1 w h)) hown hK hP 0 rfl rfl 11 (by decide) (hts _ (List.mem_cons_of_mem _ kw_399)) (fun _ h9 => h9) rfl dX1_two_43 ?_
    refine lv_aload_n hx hb dX1_two_46 rfl (lv_at hl 2 rfl) ?_
    refine va_get (D := (dC, dI)) (ci := 2) (v := .int (nI tp)) (C := RX1) (T := TX1) (N := 13) hx hb hts (fun w h => List.mem_cons_of_mem _ (uG_X1 w h)) hown hK hP 0 rfl rfl 12 (by decide) (hts _ (List.mem_cons_of_mem _ kw_400)) (fun _ h9 => h9) rfl dX1_two_47 ?_
    refine va_bald hx hb hK hP 2 0 rfl rfl (i := (nI tp)) (vp_in_nI (n := tp) (N := N) (by omega) (by omega)) dX1_two_50 ?_
    refine lv_topi (fun x_24 ex_24 => ?_)
    have ex_24 : x_24 = bf tp := ex_24.trans (congrArg bf (nI_clamp (n := tp) (by omega)))
    subst ex_24
    refine lv_if_ne (tgt := 58) hx hb dX1_two_51 (by decide) (fun c_25 => ?_) (fun c_25 => ?_)
    · skip
      refine lv_iconst (v := 0) hx hb dX1_two_58 (by decide) ?_
      exact W.eq (by unfold thI; rw [if_neg c_25]) (mg_6 _ _ hP hD hS)
    · skip
      refine lv_iconst (v := 1) hx hb dX1_two_54 (by decide) ?_
      refine lv_goto (tgt := 59) hx hb dX1_two_55 (by decide) ?_
      exact W.eq (by unfold thI; rw [if_pos c_25]) (mg_6 _ _ hP hD hS)
  · skip
    have c_1 : ¬ (2 ≤ tp + 2) := fun h => c_1 ((nI_leI (a := 2) (b := tp + 2) (by omega) (by omega)).mpr h)
    exact absurd (show 2 ≤ tp + 2 by omega) c_1
abbrev cs_t_two_lt (cB cI cJ cZ : ClassId) (h0 hS1 hB1 : Nat) (sz1 : Int32) (k1 k2 k3 k4 k5 k6 k7 k8 k9 : Value) (N : Nat) (sf : Nat → Int64) (bf : Nat → Int32) (tp : Nat) : va_W := [(h0, .inr (2, [.int sz1, k1, k2, k3, k4, k5, k6, k7, k8, k9, .ref hS1, .ref hB1, .int (nI (tp + 2))])), (hS1, .inl (cJ, N, .inr (.inl sf))), (hB1, .inl (cB, N, .inl bf))]
abbrev pc_t_two_lt (dC : Nat → ClassId) (dI : Nat → Nat → Nat) (sz : Nat) (cB cI cJ cZ : ClassId) (h0 hS1 hB1 : Nat) (sz1 : Int32) (k1 k2 k3 k4 k5 k6 k7 k8 k9 : Value) (N : Nat) (sf : Nat → Int64) (bf : Nat → Int32) (tp : Nat) : Array Value → State → Prop := va_Pc [.ref h0, .int 51] (fun U => U.heap.size = sz ∧ va_P (dC, dI) vwCl [(h0, .inr (2, [.int sz1, k1, k2, k3, k4, k5, k6, k7, k8, k9, .ref hS1, .ref hB1, .int (nI (tp + 2))])), (hS1, .inl (cJ, N, .inr (.inl sf))), (hB1, .inl (cB, N, .inl bf))] U.heap ∧ va_K (dC, dI) vwCl [(cB, .byte), (cI, .int), (cJ, .long), (cZ, .boolean)] U ∧ va_D (fun _ => True) [(h0, .inr (2, [.int sz1, k1, k2, k3, k4, k5, k6, k7, k8, k9, .ref hS1, .ref hB1, .int (nI (tp + 2))])), (hS1, .inl (cJ, N, .inr (.inl sf))), (hB1, .inl (cB, N, .inl bf))])
abbrev qc_t_two_lt (dC : Nat → ClassId) (dI : Nat → Nat → Nat) (cB cI cJ cZ : ClassId) (h0 hS1 hB1 : Nat) (sz1 : Int32) (k1 k2 k3 k4 k5 k6 k7 k8 k9 : Value) (N : Nat) (sf : Nat → Int64) (bf : Nat → Int32) (tp : Nat) (A : Nat → Prop) : Array Value → State → Outcome → State → Prop := va_Qv (fun (u : Unit) => match u with | _ => True) (fun (u : Unit) t_ => match u with | _ => va_P (dC, dI) vwCl [(h0, .inr (2, [.int sz1, k1, k2, k3, k4, k5, k6, k7, k8, k9, .ref hS1, .ref hB1, .int (nI (tp + 1))])), (hS1, .inl (cJ, N, .inr (.inl (vp_updL sf tp (pv (kvI (knI (bf tp) (bf (tp + 1))) (if (sf (tp + 1)) ≤ (sf tp) then 0 else 1)) (nbI (knI (bf tp) (bf (tp + 1))))))))), (hB1, .inl (cB, N, .inl (upd bf tp (pb (nbI (knI (bf tp) (bf (tp + 1))))))))] t_.heap ∧ va_K (dC, dI) vwCl [(cB, .byte), (cI, .int), (cJ, .long), (cZ, .boolean)] t_ ∧ va_D A [(h0, .inr (2, [.int sz1, k1, k2, k3, k4, k5, k6, k7, k8, k9, .ref hS1, .ref hB1, .int (nI (tp + 1))])), (hS1, .inl (cJ, N, .inr (.inl (vp_updL sf tp (pv (kvI (knI (bf tp) (bf (tp + 1))) (if (sf (tp + 1)) ≤ (sf tp) then 0 else 1)) (nbI (knI (bf tp) (bf (tp + 1))))))))), (hB1, .inl (cB, N, .inl (upd bf tp (pb (nbI (knI (bf tp) (bf (tp + 1))))))))]) A
set_option maxHeartbeats 4000000 in
set_option maxRecDepth 100000 in
theorem t_two_lt (l : Launch) (dC : Nat → ClassId) (dI : Nat → Nat → Nat) (sz : Nat) (cB cI cJ cZ : ClassId) (h0 hS1 hB1 : Nat) (sz1 : Int32) (k1 k2 k3 k4 k5 k6 k7 k8 k9 : Value) (N : Nat) (sf : Nat → Int64) (bf : Nat → Int32) (tp : Nat) (hN : N < 1000000) (htp : tp + 2 ≤ N) : Met l yX1_two (wsOf yX1_two cX1_two 10 none) ({ frames := 1, cells := 0, slots := 0, locals := 24 }) (pc_t_two_lt dC dI sz cB cI cJ cZ h0 hS1 hB1 sz1 k1 k2 k3 k4 k5 k6 k7 k8 k9 N sf bf tp) (qc_t_two_lt dC dI cB cI cJ cZ h0 hS1 hB1 sz1 k1 k2 k3 k4 k5 k6 k7 k8 k9 N sf bf tp (va_A (cs_t_two_lt cB cI cJ cZ h0 hS1 hB1 sz1 k1 k2 k3 k4 k5 k6 k7 k8 k9 N sf bf tp) sz)) 0 0 (va_A (cs_t_two_lt cB cI cJ cZ h0 hS1 hB1 sz1 k1 k2 k3 k4 k5 k6 k7 k8 k9 N sf bf tp) sz) := by
  refine Met.ofW (cc := cX1_two) (maxL := 10) (ret := none) (by decide) rfl ?_
  intro p e s m args below meth c s₁ B hml hv
  obtain ⟨rfl, hsz, hP, hK, hD0⟩ := hv
  have hx := B.exec
  have hb := B.bytes
  have hr := B.returns
  have hts := atoms_spec (ws := (wsOf yX1_two cX1_two 10 none)) B.pre
  have hown : s.vm.findClass RX1 = some m.cls := findClass_of_methodNamed B.named
  have hlocks := B.notSynchronized
  subst hsz
  have hD := hD0.self (sz := s.heap.size)
  generalize hAe : va_A (cs_t_two_lt cB cI cJ cZ h0 hS1 hB1 sz1 k1 k2 k3 k4 k5 k6 k7 k8 k9 N sf bf tp) s.heap.size = A at hD ⊢
  have hA : ∀ q : Nat, s.heap.size ≤ q → A q := fun q h => by rw [← hAe]; exact Or.inr h
  have hS : va_S A s.heap s.heap [] := va_S.rf
  have hP : va_P (dC, dI) vwCl [(h0, .inr (2, [.int sz1, k1, k2, k3, k4, k5, k6, k7, k8, k9, .ref hS1, .ref hB1, .int (nI (tp + 2))])), (hS1, .inl (cJ, N, .inr (.inl sf))), (hB1, .inl (cB, N, .inl bf))] s.heap := hP
  have hl := lv_entry ([.ref h0, .int 51]) (n := 10) (Nat.le_of_ble_eq_true rfl)
  rw [lg_entry_eq]
  generalize (lg_sl ([.ref h0, .int 51]) ++ List.replicate (10 - (lg_sl ([.ref h0, .int 51])).length) Slot.unset).toArray = ls at hl ⊢
  have hl : lv_has ls 10 [(0, .ref h0), (1, .int 51)] := hl
  refine lv_aload_n hx hb dX1_two_0 rfl (lv_at hl 0 rfl) ?_
  refine va_get (D := (dC, dI)) (ci := 2) (v := .int (nI (tp + 2))) (C := RX1) (T := TX1) (N := 13) hx hb hts (fun w h => List.mem_cons_of_mem _ (uG_X1 w h)) hown hK hP 0 rfl rfl 12 (by decide) (hts _ (List.mem_cons_of_mem _ kw_400)) (fun _ h9 => h9) rfl dX1_two_1 ?_
  refine lv_iconst (v := 2) hx hb dX1_two_4 (by decide) ?_
  refine lv_icmp_ge (tgt := 9) hx hb dX1_two_5 (by decide) (fun c_1 => ?_) (fun c_1 => ?_)
  · skip
    have c_1 : 2 ≤ tp + 2 := (nI_leI (a := 2) (b := tp + 2) (by omega) (by omega)).mp c_1
    refine lv_aload_n hx hb dX1_two_9 rfl (lv_at hl 0 rfl) ?_
    refine lv_dup hx hb dX1_two_10 rfl ?_
    refine va_get (D := (dC, dI)) (ci := 2) (v := .int (nI (tp + 2))) (C := RX1) (T := TX1) (N := 13) hx hb hts (fun w h => List.mem_cons_of_mem _ (uG_X1 w h)) hown hK hP 0 rfl rfl 12 (by decide) (hts _ (List.mem_cons_of_mem _ kw_400)) (fun _ h9 => h9) rfl dX1_two_11 ?_
    refine lv_iconst (v := 2) hx hb dX1_two_14 (by decide) ?_
    refine lv_isub hx hb dX1_two_15 ?_
    refine lv_topi (fun x_2 ex_2 => ?_)
    have ex_2 : x_2 = nI tp := by exact ex_2.trans (pk_sub (a := tp + 2) (b := 2) (by omega))
    subst ex_2
    refine va_put (D := (dC, dI)) (ci := 2) (v := .int (nI tp)) (ty := .int) (C := RX1) (T := TX1) (N := 13) hx hb hts (fun w h => List.mem_cons_of_mem _ (uG_X1 w h)) tyX1 tyX1_ok nmX1 hown hK hP hD hS 0 rfl rfl 12 (by decide) (hts _ (List.mem_cons_of_mem _ kw_400)) (fun _ h9 => h9) rfl (by decide +kernel) rfl rfl (Nat.le_of_ble_eq_true rfl) dX1_two_16 (fun H locs hP hD hS => ?_)
    have hP : va_P (dC, dI) vwCl [(h0, .inr (2, [.int sz1, k1, k2, k3, k4, k5, k6, k7, k8, k9, .ref hS1, .ref hB1, .int (nI tp)])), (hS1, .inl (cJ, N, .inr (.inl sf))), (hB1, .inl (cB, N, .inl bf))] H := hP
    have hD : va_D A [(h0, .inr (2, [.int sz1, k1, k2, k3, k4, k5, k6, k7, k8, k9, .ref hS1, .ref hB1, .int (nI tp)])), (hS1, .inl (cJ, N, .inr (.inl sf))), (hB1, .inl (cB, N, .inl bf))] := hD
    refine lv_aload_n hx hb dX1_two_19 rfl (lv_at hl 0 rfl) ?_
    refine va_get (D := (dC, dI)) (ci := 2) (v := .ref hS1) (C := RX1) (T := TX1) (N := 13) hx hb hts (fun w h => List.mem_cons_of_mem _ (uG_X1 w h)) hown hK hP 0 rfl rfl 10 (by decide) (hts _ (List.mem_cons_of_mem _ kw_398)) (fun _ h9 => h9) rfl dX1_two_20 ?_
    refine lv_aload_n hx hb dX1_two_23 rfl (lv_at hl 0 rfl) ?_
    refine va_get (D := (dC, dI)) (ci := 2) (v := .int (nI tp)) (C := RX1) (T := TX1) (N := 13) hx hb hts (fun w h => List.mem_cons_of_mem _ (uG_X1 w h)) hown hK hP 0 rfl rfl 12 (by decide) (hts _ (List.mem_cons_of_mem _ kw_400)) (fun _ h9 => h9) rfl dX1_two_24 ?_
    refine va_lald hx hb hK hP 1 2 rfl rfl (i := (nI tp)) (vp_in_nI (n := tp) (N := N) (by omega) (by omega)) dX1_two_27 ?_
    refine lv_topl (fun x_3 ex_3 => ?_)
    have ex_3 : x_3 = sf tp := ex_3.trans (congrArg sf (nI_clamp (n := tp) (by omega)))
    subst ex_3
    refine lv_lstore_n (lv' := [(2, .long (sf tp)), (0, .ref h0), (1, .int 51)]) hx hb dX1_two_28 rfl hl (by decide) rfl (fun ls hl => ?_)
    refine lv_aload_n hx hb dX1_two_29 rfl (lv_at hl 1 rfl) ?_
    refine va_get (D := (dC, dI)) (ci := 2) (v := .ref hS1) (C := RX1) (T := TX1) (N := 13) hx hb hts (fun w h => List.mem_cons_of_mem _ (uG_X1 w h)) hown hK hP 0 rfl rfl 10 (by decide) (hts _ (List.mem_cons_of_mem _ kw_398)) (fun _ h9 => h9) rfl dX1_two_30 ?_
    refine lv_aload_n hx hb dX1_two_33 rfl (lv_at hl 1 rfl) ?_
    refine va_get (D := (dC, dI)) (ci := 2) (v := .int (nI tp)) (C := RX1) (T := TX1) (N := 13) hx hb hts (fun w h => List.mem_cons_of_mem _ (uG_X1 w h)) hown hK hP 0 rfl rfl 12 (by decide) (hts _ (List.mem_cons_of_mem _ kw_400)) (fun _ h9 => h9) rfl dX1_two_34 ?_
    refine lv_iconst (v := 1) hx hb dX1_two_37 (by decide) ?_
    refine lv_iadd hx hb dX1_two_38 ?_
    refine lv_topi (fun x_4 ex_4 => ?_)
    have ex_4 : x_4 = nI (tp + 1) := ex_4.trans (nI_add tp 1)
    subst ex_4
    refine va_lald hx hb hK hP 1 2 rfl rfl (i := (nI (tp + 1))) (vp_in_nI (n := tp + 1) (N := N) (by omega) (by omega)) dX1_two_39 ?_
    refine lv_topl (fun x_5 ex_5 => ?_)
    have ex_5 : x_5 = sf (tp + 1) := ex_5.trans (congrArg sf (nI_clamp (n := tp + 1) (by omega)))
    subst ex_5
    refine lv_lstore (lv' := [(4, .long (sf (tp + 1))), (2, .long (sf tp)), (0, .ref h0), (1, .int 51)]) hx hb dX1_two_40 hl (by decide) rfl (fun ls hl => ?_)
    have mg_6 : ∀ (H : Heap) (locs : List Loc), va_P (dC, dI) vwCl [(h0, .inr (2, [.int sz1, k1, k2, k3, k4, k5, k6, k7, k8, k9, .ref hS1, .ref hB1, .int (nI tp)])), (hS1, .inl (cJ, N, .inr (.inl sf))), (hB1, .inl (cB, N, .inl bf))] H → va_D A [(h0, .inr (2, [.int sz1, k1, k2, k3, k4, k5, k6, k7, k8, k9, .ref hS1, .ref hB1, .int (nI tp)])), (hS1, .inl (cJ, N, .inr (.inl sf))), (hB1, .inl (cB, N, .inl bf))] → va_S A s.heap H locs → W p l e (headSpec (wsOf yX1_two cX1_two 10 none) ({ frames := 1, cells := 0, slots := 0, locals := 24 })).room s m ([.ref h0, .int 51] : List Value).toArray below meth c H locs 0 0 (MQ below (qc_t_two_lt dC dI cB cI cJ cZ h0 hS1 hB1 sz1 k1 k2 k3 k4 k5 k6 k7 k8 k9 N sf bf tp A) ([.ref h0, .int 51] : List Value).toArray s 0 0 A) (F0 m 59 ls [.int (thI (bf tp))]) := by
      intro H locs hP hD hS
      refine lv_istore (lv' := [(6, .int (thI (bf tp))), (4, .long (sf (tp + 1))), (2, .long (sf tp)), (0, .ref h0), (1, .int 51)]) hx hb dX1_two_59 hl (by decide) rfl (fun ls hl => ?_)
      have mg_7 : ∀ (H : Heap) (locs : List Loc), va_P (dC, dI) vwCl [(h0, .inr (2, [.int sz1, k1, k2, k3, k4, k5, k6, k7, k8, k9, .ref hS1, .ref hB1, .int (nI tp)])), (hS1, .inl (cJ, N, .inr (.inl sf))), (hB1, .inl (cB, N, .inl bf))] H → va_D A [(h0, .inr (2, [.int sz1, k1, k2, k3, k4, k5, k6, k7, k8, k9, .ref hS1, .ref hB1, .int (nI tp)])), (hS1, .inl (cJ, N, .inr (.inl sf))), (hB1, .inl (cB, N, .inl bf))] → va_S A s.heap H locs → W p l e (headSpec (wsOf yX1_two cX1_two 10 none) ({ frames := 1, cells := 0, slots := 0, locals := 24 })).room s m ([.ref h0, .int 51] : List Value).toArray below meth c H locs 0 0 (MQ below (qc_t_two_lt dC dI cB cI cJ cZ h0 hS1 hB1 sz1 k1 k2 k3 k4 k5 k6 k7 k8 k9 N sf bf tp A) ([.ref h0, .int 51] : List Value).toArray s 0 0 A) (F0 m 80 ls [.int (thI (bf (tp + 1)))]) := by
        intro H locs hP hD hS
        refine lv_istore (lv' := [(7, .int (thI (bf (tp + 1)))), (6, .int (thI (bf tp))), (4, .long (sf (tp + 1))), (2, .long (sf tp)), (0, .ref h0), (1, .int 51)]) hx hb dX1_two_80 hl (by decide) rfl (fun ls hl => ?_)
        refine lv_iload_n hx hb dX1_two_82 rfl (lv_at hl 5 rfl) ?_
        refine lv_bipush (v := 28) hx hb dX1_two_83 (by decide) ?_
        refine lv_icmp_eq (tgt := 94) hx hb dX1_two_85 (by decide) (fun c_8 => ?_) (fun c_8 => ?_)
        · skip
          exact absurd c_8 (by decide)
        · skip
          refine lv_iload_n hx hb dX1_two_88 rfl (lv_at hl 5 rfl) ?_
          refine lv_bipush (v := 29) hx hb dX1_two_89 (by decide) ?_
          refine lv_icmp_ne (tgt := 182) hx hb dX1_two_91 (by decide) (fun c_9 => ?_) (fun c_9 => ?_)
          · skip
            have mg_10 : ∀ (H : Heap) (locs : List Loc), va_P (dC, dI) vwCl [(h0, .inr (2, [.int sz1, k1, k2, k3, k4, k5, k6, k7, k8, k9, .ref hS1, .ref hB1, .int (nI tp)])), (hS1, .inl (cJ, N, .inr (.inl sf))), (hB1, .inl (cB, N, .inl bf))] H → va_D A [(h0, .inr (2, [.int sz1, k1, k2, k3, k4, k5, k6, k7, k8, k9, .ref hS1, .ref hB1, .int (nI tp)])), (hS1, .inl (cJ, N, .inr (.inl sf))), (hB1, .inl (cB, N, .inl bf))] → va_S A s.heap H locs → W p l e (headSpec (wsOf yX1_two cX1_two 10 none) ({ frames := 1, cells := 0, slots := 0, locals := 24 })).room s m ([.ref h0, .int 51] : List Value).toArray below meth c H locs 0 0 (MQ below (qc_t_two_lt dC dI cB cI cJ cZ h0 hS1 hB1 sz1 k1 k2 k3 k4 k5 k6 k7 k8 k9 N sf bf tp A) ([.ref h0, .int 51] : List Value).toArray s 0 0 A) (F0 m 206 ls [.int (knI (bf tp) (bf (tp + 1)))]) := by
              intro H locs hP hD hS
              refine lv_istore (lv' := [(8, .int (knI (bf tp) (bf (tp + 1)))), (7, .int (thI (bf (tp + 1)))), (6, .int (thI (bf tp))), (4, .long (sf (tp + 1))), (2, .long (sf tp)), (0, .ref h0), (1, .int 51)]) hx hb dX1_two_206 hl (by decide) rfl (fun ls hl => ?_)
              refine lv_aload_n hx hb dX1_two_208 rfl (lv_at hl 5 rfl) ?_
              have mg_11 : ∀ (H : Heap) (locs : List Loc), va_P (dC, dI) vwCl [(h0, .inr (2, [.int sz1, k1, k2, k3, k4, k5, k6, k7, k8, k9, .ref hS1, .ref hB1, .int (nI tp)])), (hS1, .inl (cJ, N, .inr (.inl sf))), (hB1, .inl (cB, N, .inl bf))] H → va_D A [(h0, .inr (2, [.int sz1, k1, k2, k3, k4, k5, k6, k7, k8, k9, .ref hS1, .ref hB1, .int (nI tp)])), (hS1, .inl (cJ, N, .inr (.inl sf))), (hB1, .inl (cB, N, .inl bf))] → va_S A s.heap H locs → W p l e (headSpec (wsOf yX1_two cX1_two 10 none) ({ frames := 1, cells := 0, slots := 0, locals := 24 })).room s m ([.ref h0, .int 51] : List Value).toArray below meth c H locs 0 0 (MQ below (qc_t_two_lt dC dI cB cI cJ cZ h0 hS1 hB1 sz1 k1 k2 k3 k4 k5 k6 k7 k8 k9 N sf bf tp A) ([.ref h0, .int 51] : List Value).toArray s 0 0 A) (F0 m 225 ls [.long (kvI (knI (bf tp) (bf (tp + 1))) (if (sf (tp + 1)) ≤ (sf tp) then 0 else 1)), .ref h0]) := by
                intro H locs hP hD hS
                have mg_12 : ∀ (H : Heap) (locs : List Loc), va_P (dC, dI) vwCl [(h0, .inr (2, [.int sz1, k1, k2, k3, k4, k5, k6, k7, k8, k9, .ref hS1, .ref hB1, .int (nI tp)])), (hS1, .inl (cJ, N, .inr (.inl sf))), (hB1, .inl (cB, N, .inl bf))] H → va_D A [(h0, .inr (2, [.int sz1, k1, k2, k3, k4, k5, k6, k7, k8, k9, .ref hS1, .ref hB1, .int (nI tp)])), (hS1, .inl (cJ, N, .inr (.inl sf))), (hB1, .inl (cB, N, .inl bf))] → va_S A s.heap H locs → W p l e (headSpec (wsOf yX1_two cX1_two 10 none) ({ frames := 1, cells := 0, slots := 0, locals := 24 })).room s m ([.ref h0, .int 51] : List Value).toArray below meth c H locs 0 0 (MQ below (qc_t_two_lt dC dI cB cI cJ cZ h0 hS1 hB1 sz1 k1 k2 k3 k4 k5 k6 k7 k8 k9 N sf bf tp A) ([.ref h0, .int 51] : List Value).toArray s 0 0 A) (F0 m 235 ls [.int (nbI (knI (bf tp) (bf (tp + 1)))), .long (kvI (knI (bf tp) (bf (tp + 1))) (if (sf (tp + 1)) ≤ (sf tp) then 0 else 1)), .ref h0]) := by
                  intro H locs hP hD hS
                  have hPc := hP.sub (ws' := [(h0, .inr (2, [.int sz1, k1, k2, k3, k4, k5, k6, k7, k8, k9, .ref hS1, .ref hB1, .int (nI tp)])), (hS1, .inl (cJ, N, .inr (.inl sf))), (hB1, .inl (cB, N, .inl bf))]) [0, 1, 2] rfl
                  have hDc := hD.sub (ws' := [(h0, .inr (2, [.int sz1, k1, k2, k3, k4, k5, k6, k7, k8, k9, .ref hS1, .ref hB1, .int (nI tp)])), (hS1, .inl (cJ, N, .inr (.inl sf))), (hB1, .inl (cB, N, .inl bf))]) [0, 1, 2] (by decide) rfl
                  have hKc := hK.sub (tys' := [(cB, .byte), (cI, .int), (cJ, .long), (cZ, .boolean)]) [0, 1, 2, 3] rfl
                  have hFc := va_free (wc := [(h0, .inr (2, [.int sz1, k1, k2, k3, k4, k5, k6, k7, k8, k9, .ref hS1, .ref hB1, .int (nI tp)])), (hS1, .inl (cJ, N, .inr (.inl sf))), (hB1, .inl (cB, N, .inl bf))]) hD hS hA [0, 1, 2] rfl
                  refine va_callv (va_runV (As := [.long (kvI (knI (bf tp) (bf (tp + 1))) (if (sf (tp + 1)) ≤ (sf tp) then 0 else 1)), .int (nbI (knI (bf tp) (bf (tp + 1))))]) (rest := []) ⟨hx, hb, hml, hown, hts⟩ (t_X1_push l dC dI H.size cB cI cJ cZ h0 hS1 hB1 sz1 k1 k2 k3 k4 k5 k6 k7 k8 k9 N sf bf tp (kvI (knI (bf tp) (bf (tp + 1))) (if (sf (tp + 1)) ≤ (sf tp) then 0 else 1)) (nbI (knI (bf tp) (bf (tp + 1)))) (by omega) (by omega)) (cwV 2 hts (gd_all (in_V kw_1415 kw_1417 kw_73 kw_189 kc_X1_push)) rfl rfl rfl (by decide +kernel) ⟨Nat.le_of_ble_eq_true rfl, Nat.le_of_ble_eq_true rfl⟩) ⟨fun a U g mk q => by obtain ⟨q0, q1, qP, qK, qD⟩ := q; exact ⟨q0, q1, qP, va_K.moved (u := U) (U := U.calling g mk a) (Vm.Alike.refl U.vm) qK, qD⟩, va_recv hKc hPc (ci := 2) (q0 := 0) rfl rfl, fun U hU hW => ⟨rfl, by rw [hU], by rw [hU]; exact hPc, va_K.moved hW.alike hKc, hDc.weaken (fun _ _ _ _ => trivial)⟩⟩ rfl rfl hl.1 rfl (lv_room (Nat.le_of_ble_eq_true rfl)) dX1_two_235 ⟨Nat.le_of_ble_eq_true rfl, Nat.le_of_ble_eq_true rfl⟩) hS (fun q _ h => hFc q h) hFc (fun u t_ H1 locs ht hvm hw hB hz1 hk1 hS => ?_)
                  obtain ⟨hP1, hK1, hD1⟩ := hB
                  rw [ht] at hP1
                  have hK1 := va_K.moved hvm.symm hK1
                  obtain ⟨hP, hD⟩ := va_join (wr := []) (w1 := [(h0, .inr (2, [.int sz1, k1, k2, k3, k4, k5, k6, k7, k8, k9, .ref hS1, .ref hB1, .int (nI (tp + 1))])), (hS1, .inl (cJ, N, .inr (.inl (vp_updL sf tp (pv (kvI (knI (bf tp) (bf (tp + 1))) (if (sf (tp + 1)) ≤ (sf tp) then 0 else 1)) (nbI (knI (bf tp) (bf (tp + 1))))))))), (hB1, .inl (cB, N, .inl (upd bf tp (pb (nbI (knI (bf tp) (bf (tp + 1))))))))]) hP hD [0, 1, 2] [] rfl rfl (by decide) (by decide) hk1 hFc hP1 hD1
                  have hK := (hK.sub (tys' := []) [] rfl).app hK1
                  generalize H1 = H at hP hS ⊢
                  have hP : va_P (dC, dI) vwCl [(h0, .inr (2, [.int sz1, k1, k2, k3, k4, k5, k6, k7, k8, k9, .ref hS1, .ref hB1, .int (nI (tp + 1))])), (hS1, .inl (cJ, N, .inr (.inl (vp_updL sf tp (pv (kvI (knI (bf tp) (bf (tp + 1))) (if (sf (tp + 1)) ≤ (sf tp) then 0 else 1)) (nbI (knI (bf tp) (bf (tp + 1))))))))), (hB1, .inl (cB, N, .inl (upd bf tp (pb (nbI (knI (bf tp) (bf (tp + 1))))))))] H := hP
                  have hD : va_D A [(h0, .inr (2, [.int sz1, k1, k2, k3, k4, k5, k6, k7, k8, k9, .ref hS1, .ref hB1, .int (nI (tp + 1))])), (hS1, .inl (cJ, N, .inr (.inl (vp_updL sf tp (pv (kvI (knI (bf tp) (bf (tp + 1))) (if (sf (tp + 1)) ≤ (sf tp) then 0 else 1)) (nbI (knI (bf tp) (bf (tp + 1))))))))), (hB1, .inl (cB, N, .inl (upd bf tp (pb (nbI (knI (bf tp) (bf (tp + 1))))))))] := hD
                  have hK : va_K (dC, dI) vwCl [(cB, .byte), (cI, .int), (cJ, .long), (cZ, .boolean)] s := hK
                  have hP9 := hP.sub (ws' := [(h0, .inr (2, [.int sz1, k1, k2, k3, k4, k5, k6, k7, k8, k9, .ref hS1, .ref hB1, .int (nI (tp + 1))])), (hS1, .inl (cJ, N, .inr (.inl (vp_updL sf tp (pv (kvI (knI (bf tp) (bf (tp + 1))) (if (sf (tp + 1)) ≤ (sf tp) then 0 else 1)) (nbI (knI (bf tp) (bf (tp + 1))))))))), (hB1, .inl (cB, N, .inl (upd bf tp (pb (nbI (knI (bf tp) (bf (tp + 1))))))))]) [0, 1, 2] rfl
                  have hD9 := hD.sub (ws' := [(h0, .inr (2, [.int sz1, k1, k2, k3, k4, k5, k6, k7, k8, k9, .ref hS1, .ref hB1, .int (nI (tp + 1))])), (hS1, .inl (cJ, N, .inr (.inl (vp_updL sf tp (pv (kvI (knI (bf tp) (bf (tp + 1))) (if (sf (tp + 1)) ≤ (sf tp) then 0 else 1)) (nbI (knI (bf tp) (bf (tp + 1))))))))), (hB1, .inl (cB, N, .inl (upd bf tp (pb (nbI (knI (bf tp) (bf (tp + 1))))))))]) [0, 1, 2] (by decide) rfl
                  have hK9 := hK.sub (tys' := [(cB, .byte), (cI, .int), (cJ, .long), (cZ, .boolean)]) [0, 1, 2, 3] rfl
                  exact W.vret hx hb hr (fun t_ ht hW => ⟨⟨(), rfl, trivial, by rw [ht]; exact hP9, va_K.moved hW.alike hK9, hD9⟩, hS.F ht⟩) hS.2.2 dX1_two_238
                refine lv_iload hx hb dX1_two_225 (lv_at hl 0 rfl) ?_
                refine lv_if_eq (tgt := 234) hx hb dX1_two_227 (by decide) (fun c_14 => ?_) (fun c_14 => ?_)
                · skip
                  refine lv_iconst (v := 1) hx hb dX1_two_234 (by decide) ?_
                  exact W.eq (by unfold nbI; rw [if_pos c_14]) (mg_12 _ _ hP hD hS)
                · skip
                  refine lv_iconst (v := 0) hx hb dX1_two_230 (by decide) ?_
                  refine lv_goto (tgt := 235) hx hb dX1_two_231 (by decide) ?_
                  exact W.eq (by unfold nbI; rw [if_neg c_14]) (mg_12 _ _ hP hD hS)
              refine lv_iload hx hb dX1_two_209 (lv_at hl 0 rfl) ?_
              refine lv_if_eq (tgt := 224) hx hb dX1_two_211 (by decide) (fun c_15 => ?_) (fun c_15 => ?_)
              · skip
                refine lv_lconst (v := 0) hx hb dX1_two_224 (by decide) ?_
                exact W.eq (by unfold kvI; rw [if_pos c_15]) (mg_11 _ _ hP hD hS)
              · skip
                refine lv_iload_n hx hb dX1_two_214 rfl (lv_at hl 6 rfl) ?_
                refine lv_lload_n hx hb dX1_two_215 rfl (lv_at hl 4 rfl) ?_
                refine lv_lload hx hb dX1_two_216 (lv_at hl 3 rfl) ?_
                have hPc := hP.sub (ws' := []) [] rfl
                have hDc := hD.sub (ws' := []) [] (by decide) rfl
                have hKc := hK.sub (tys' := [(cB, .byte), (cI, .int), (cJ, .long), (cZ, .boolean)]) [0, 1, 2, 3] rfl
                have hFc := va_free (wc := []) hD hS hA [] rfl
                refine va_calll (va_runS (As := [.int 51, .long (sf tp), .long (sf (tp + 1))]) (rest := [.ref h0]) ⟨hx, hb, hml, hown, hts⟩ (t_reckon_lt l dC dI H.size cB cI cJ cZ (sf tp) (sf (tp + 1))) (cwS 3 hts (gd_all (in_S kw_1446 kw_1447 kw_189 kc_X1_reckon)) rfl rfl rfl (by decide +kernel) ⟨Nat.le_of_ble_eq_true rfl, Nat.le_of_ble_eq_true rfl⟩) ⟨fun a U g mk q => by obtain ⟨q0, q1, qP, qK, qD⟩ := q; exact ⟨q0, q1, qP, va_K.moved (u := U) (U := U.calling g mk a) (Vm.Alike.refl U.vm) qK, qD⟩, fun U hU hW => ⟨rfl, by rw [hU], by rw [hU]; exact hPc, va_K.moved hW.alike hKc, hDc.weaken (fun _ _ _ _ => trivial)⟩⟩ rfl rfl hl.1 rfl (lv_room (Nat.le_of_ble_eq_true rfl)) dX1_two_218 ⟨Nat.le_of_ble_eq_true rfl, Nat.le_of_ble_eq_true rfl⟩) hS (fun q _ h => hFc q h) hFc (fun r_16 u t_ H1 locs ht hvm hw hB hz1 hk1 hS => ?_)
                obtain ⟨hP1, hK1, hD1⟩ := hB
                rw [ht] at hP1
                have hK1 := va_K.moved hvm.symm hK1
                obtain ⟨hP, hD⟩ := va_join (wr := [(h0, .inr (2, [.int sz1, k1, k2, k3, k4, k5, k6, k7, k8, k9, .ref hS1, .ref hB1, .int (nI tp)])), (hS1, .inl (cJ, N, .inr (.inl sf))), (hB1, .inl (cB, N, .inl bf))]) (w1 := []) hP hD [] [0, 1, 2] rfl rfl (by decide) (by decide) hk1 hFc hP1 hD1
                have hK := (hK.sub (tys' := []) [] rfl).app hK1
                generalize H1 = H at hP hS ⊢
                have hP : va_P (dC, dI) vwCl [(h0, .inr (2, [.int sz1, k1, k2, k3, k4, k5, k6, k7, k8, k9, .ref hS1, .ref hB1, .int (nI tp)])), (hS1, .inl (cJ, N, .inr (.inl sf))), (hB1, .inl (cB, N, .inl bf))] H := hP
                have hD : va_D A [(h0, .inr (2, [.int sz1, k1, k2, k3, k4, k5, k6, k7, k8, k9, .ref hS1, .ref hB1, .int (nI tp)])), (hS1, .inl (cJ, N, .inr (.inl sf))), (hB1, .inl (cB, N, .inl bf))] := hD
                have hK : va_K (dC, dI) vwCl [(cB, .byte), (cI, .int), (cJ, .long), (cZ, .boolean)] s := hK
                have er_16 : r_16 = (if (sf (tp + 1)) ≤ (sf tp) then 0 else 1) := hw
                subst er_16
                refine lv_goto (tgt := 225) hx hb dX1_two_221 (by decide) ?_
                exact W.eq (by unfold kvI; rw [if_neg c_15]) (mg_11 _ _ hP hD hS)
            refine lv_iload hx hb dX1_two_182 (lv_at hl 1 rfl) ?_
            refine lv_if_eq (tgt := 205) hx hb dX1_two_184 (by decide) (fun c_17 => ?_) (fun c_17 => ?_)
            · skip
              refine lv_iconst (v := 0) hx hb dX1_two_205 (by decide) ?_
              exact W.eq (by unfold knI; rw [if_pos c_17]) (mg_10 _ _ hP hD hS)
            · skip
              refine lv_iload hx hb dX1_two_187 (lv_at hl 0 rfl) ?_
              refine lv_if_eq (tgt := 205) hx hb dX1_two_189 (by decide) (fun c_18 => ?_) (fun c_18 => ?_)
              · skip
                refine lv_iconst (v := 0) hx hb dX1_two_205 (by decide) ?_
                exact W.eq (by unfold knI; rw [if_neg c_17, if_pos c_18]) (mg_10 _ _ hP hD hS)
              · skip
                refine lv_iload_n hx hb dX1_two_192 rfl (lv_at hl 5 rfl) ?_
                refine lv_lload hx hb dX1_two_193 (lv_at hl 2 rfl) ?_
                have hPc := hP.sub (ws' := []) [] rfl
                have hDc := hD.sub (ws' := []) [] (by decide) rfl
                have hKc := hK.sub (tys' := [(cB, .byte), (cI, .int), (cJ, .long), (cZ, .boolean)]) [0, 1, 2, 3] rfl
                have hFc := va_free (wc := []) hD hS hA [] rfl
                refine va_calli (va_runS (As := [.int 51, .long (sf (tp + 1))]) (rest := []) ⟨hx, hb, hml, hown, hts⟩ (t_hasResult_lt l dC dI H.size cB cI cJ cZ (sf (tp + 1))) (cwS 2 hts (gd_all (in_S kw_1443 kw_1444 kw_189 kc_X1_hasResult)) rfl rfl rfl (by decide +kernel) ⟨Nat.le_of_ble_eq_true rfl, Nat.le_of_ble_eq_true rfl⟩) ⟨fun a U g mk q => by obtain ⟨q0, q1, qP, qK, qD⟩ := q; exact ⟨q0, q1, qP, va_K.moved (u := U) (U := U.calling g mk a) (Vm.Alike.refl U.vm) qK, qD⟩, fun U hU hW => ⟨rfl, by rw [hU], by rw [hU]; exact hPc, va_K.moved hW.alike hKc, hDc.weaken (fun _ _ _ _ => trivial)⟩⟩ rfl rfl hl.1 rfl (lv_room (Nat.le_of_ble_eq_true rfl)) dX1_two_195 ⟨Nat.le_of_ble_eq_true rfl, Nat.le_of_ble_eq_true rfl⟩) hS (fun q _ h => hFc q h) hFc (fun r_19 u t_ H1 locs ht hvm hw hB hz1 hk1 hS => ?_)
                obtain ⟨hP1, hK1, hD1⟩ := hB
                rw [ht] at hP1
                have hK1 := va_K.moved hvm.symm hK1
                obtain ⟨hP, hD⟩ := va_join (wr := [(h0, .inr (2, [.int sz1, k1, k2, k3, k4, k5, k6, k7, k8, k9, .ref hS1, .ref hB1, .int (nI tp)])), (hS1, .inl (cJ, N, .inr (.inl sf))), (hB1, .inl (cB, N, .inl bf))]) (w1 := []) hP hD [] [0, 1, 2] rfl rfl (by decide) (by decide) hk1 hFc hP1 hD1
                have hK := (hK.sub (tys' := []) [] rfl).app hK1
                generalize H1 = H at hP hS ⊢
                have hP : va_P (dC, dI) vwCl [(h0, .inr (2, [.int sz1, k1, k2, k3, k4, k5, k6, k7, k8, k9, .ref hS1, .ref hB1, .int (nI tp)])), (hS1, .inl (cJ, N, .inr (.inl sf))), (hB1, .inl (cB, N, .inl bf))] H := hP
                have hD : va_D A [(h0, .inr (2, [.int sz1, k1, k2, k3, k4, k5, k6, k7, k8, k9, .ref hS1, .ref hB1, .int (nI tp)])), (hS1, .inl (cJ, N, .inr (.inl sf))), (hB1, .inl (cB, N, .inl bf))] := hD
                have hK : va_K (dC, dI) vwCl [(cB, .byte), (cI, .int), (cJ, .long), (cZ, .boolean)] s := hK
                have er_19 : r_19 = 1 := hw
                subst er_19
                refine lv_if_eq (tgt := 205) hx hb dX1_two_198 (by decide) (fun c_20 => ?_) (fun c_20 => ?_)
                · skip
                  exact absurd c_20 (by decide)
                · skip
                  refine lv_iconst (v := 1) hx hb dX1_two_201 (by decide) ?_
                  refine lv_goto (tgt := 206) hx hb dX1_two_202 (by decide) ?_
                  exact W.eq (by unfold knI; rw [if_neg c_17, if_neg c_18]) (mg_10 _ _ hP hD hS)
          · skip
            exact absurd c_9 (by decide)
      refine lv_aload_n hx hb dX1_two_61 rfl (lv_at hl 3 rfl) ?_
      refine va_get (D := (dC, dI)) (ci := 2) (v := .ref hB1) (C := RX1) (T := TX1) (N := 13) hx hb hts (fun w h => List.mem_cons_of_mem _ (uG_X1 w h)) hown hK hP 0 rfl rfl 11 (by decide) (hts _ (List.mem_cons_of_mem _ kw_399)) (fun _ h9 => h9) rfl dX1_two_62 ?_
      refine lv_aload_n hx hb dX1_two_65 rfl (lv_at hl 3 rfl) ?_
      refine va_get (D := (dC, dI)) (ci := 2) (v := .int (nI tp)) (C := RX1) (T := TX1) (N := 13) hx hb hts (fun w h => List.mem_cons_of_mem _ (uG_X1 w h)) hown hK hP 0 rfl rfl 12 (by decide) (hts _ (List.mem_cons_of_mem _ kw_400)) (fun _ h9 => h9) rfl dX1_two_66 ?_
      refine lv_iconst (v := 1) hx hb dX1_two_69 (by decide) ?_
      refine lv_iadd hx hb dX1_two_70 ?_
      refine lv_topi (fun x_21 ex_21 => ?_)
      have ex_21 : x_21 = nI (tp + 1) := ex_21.trans (nI_add tp 1)
      subst ex_21
      refine va_bald hx hb hK hP 2 0 rfl rfl (i := (nI (tp + 1))) (vp_in_nI (n := tp + 1) (N := N) (by omega) (by omega)) dX1_two_71 ?_
      refine lv_topi (fun x_22 ex_22 => ?_)
      have ex_22 : x_22 = bf (tp + 1) := ex_22.trans (congrArg bf (nI_clamp (n := tp + 1) (by omega)))
      subst ex_22
      refine lv_if_ne (tgt := 79) hx hb dX1_two_72 (by decide) (fun c_23 => ?_) (fun c_23 => ?_)
      · skip
        refine lv_iconst (v := 0) hx hb dX1_two_79 (by decide) ?_
        exact W.eq (by unfold thI; rw [if_neg c_23]) (mg_7 _ _ hP hD hS)
      · skip
        refine lv_iconst (v := 1) hx hb dX1_two_75 (by decide) ?_
        refine lv_goto (tgt := 80) hx hb dX1_two_76 (by decide) ?_
        exact W.eq (by unfold thI; rw [if_pos c_23]) (mg_7 _ _ hP hD hS)
    refine lv_aload_n hx hb dX1_two_42 rfl (lv_at hl 2 rfl) ?_
    refine va_get (D := (dC, dI)) (ci := 2) (v := .ref hB1) (C := RX1) (T := TX1) (N := 13) hx hb hts (fun w h => List.mem_cons_of_mem _ (uG_X1 w h)) hown hK hP 0 rfl rfl 11 (by decide) (hts _ (List.mem_cons_of_mem _ kw_399)) (fun _ h9 => h9) rfl dX1_two_43 ?_
    refine lv_aload_n hx hb dX1_two_46 rfl (lv_at hl 2 rfl) ?_
    refine va_get (D := (dC, dI)) (ci := 2) (v := .int (nI tp)) (C := RX1) (T := TX1) (N := 13) hx hb hts (fun w h => List.mem_cons_of_mem _ (uG_X1 w h)) hown hK hP 0 rfl rfl 12 (by decide) (hts _ (List.mem_cons_of_mem _ kw_400)) (fun _ h9 => h9) rfl dX1_two_47 ?_
    refine va_bald hx hb hK hP 2 0 rfl rfl (i := (nI tp)) (vp_in_nI (n := tp) (N := N) (by omega) (by omega)) dX1_two_50 ?_
    refine lv_topi (fun x_24 ex_24 => ?_)
    have ex_24 : x_24 = bf tp := ex_24.trans (congrArg bf (nI_clamp (n := tp) (by omega)))
    subst ex_24
    refine lv_if_ne (tgt := 58) hx hb dX1_two_51 (by decide) (fun c_25 => ?_) (fun c_25 => ?_)
    · skip
      refine lv_iconst (v := 0) hx hb dX1_two_58 (by decide) ?_
      exact W.eq (by unfold thI; rw [if_neg c_25]) (mg_6 _ _ hP hD hS)
    · skip
      refine lv_iconst (v := 1) hx hb dX1_two_54 (by decide) ?_
      refine lv_goto (tgt := 59) hx hb dX1_two_55 (by decide) ?_
      exact W.eq (by unfold thI; rw [if_pos c_25]) (mg_6 _ _ hP hD hS)
  · skip
    have c_1 : ¬ (2 ≤ tp + 2) := fun h => c_1 ((nI_leI (a := 2) (b := tp + 2) (by omega) (by omega)).mpr h)
    exact absurd (show 2 ≤ tp + 2 by omega) c_1
abbrev cs_t_two_and (cB cI cJ cZ : ClassId) (h0 hS1 hB1 : Nat) (sz1 : Int32) (k1 k2 k3 k4 k5 k6 k7 k8 k9 : Value) (N : Nat) (sf : Nat → Int64) (bf : Nat → Int32) (tp : Nat) : va_W := [(h0, .inr (2, [.int sz1, k1, k2, k3, k4, k5, k6, k7, k8, k9, .ref hS1, .ref hB1, .int (nI (tp + 2))])), (hS1, .inl (cJ, N, .inr (.inl sf))), (hB1, .inl (cB, N, .inl bf))]
abbrev pc_t_two_and (dC : Nat → ClassId) (dI : Nat → Nat → Nat) (sz : Nat) (cB cI cJ cZ : ClassId) (h0 hS1 hB1 : Nat) (sz1 : Int32) (k1 k2 k3 k4 k5 k6 k7 k8 k9 : Value) (N : Nat) (sf : Nat → Int64) (bf : Nat → Int32) (tp : Nat) : Array Value → State → Prop := va_Pc [.ref h0, .int 28] (fun U => U.heap.size = sz ∧ va_P (dC, dI) vwCl [(h0, .inr (2, [.int sz1, k1, k2, k3, k4, k5, k6, k7, k8, k9, .ref hS1, .ref hB1, .int (nI (tp + 2))])), (hS1, .inl (cJ, N, .inr (.inl sf))), (hB1, .inl (cB, N, .inl bf))] U.heap ∧ va_K (dC, dI) vwCl [(cB, .byte), (cI, .int), (cJ, .long), (cZ, .boolean)] U ∧ va_D (fun _ => True) [(h0, .inr (2, [.int sz1, k1, k2, k3, k4, k5, k6, k7, k8, k9, .ref hS1, .ref hB1, .int (nI (tp + 2))])), (hS1, .inl (cJ, N, .inr (.inl sf))), (hB1, .inl (cB, N, .inl bf))])
abbrev qc_t_two_and (dC : Nat → ClassId) (dI : Nat → Nat → Nat) (cB cI cJ cZ : ClassId) (h0 hS1 hB1 : Nat) (sz1 : Int32) (k1 k2 k3 k4 k5 k6 k7 k8 k9 : Value) (N : Nat) (sf : Nat → Int64) (bf : Nat → Int32) (tp : Nat) (A : Nat → Prop) : Array Value → State → Outcome → State → Prop := va_Qv (fun (u : Unit) => match u with | _ => True) (fun (u : Unit) t_ => match u with | _ => va_P (dC, dI) vwCl [(h0, .inr (2, [.int sz1, k1, k2, k3, k4, k5, k6, k7, k8, k9, .ref hS1, .ref hB1, .int (nI (tp + 1))])), (hS1, .inl (cJ, N, .inr (.inl (vp_updL sf tp (pv (avI 0 1 (anI 0 (bf tp) (bf (tp + 1)) (sf tp) (sf (tp + 1)))) (abI (anI 0 (bf tp) (bf (tp + 1)) (sf tp) (sf (tp + 1))) (bf tp) (bf (tp + 1)))))))), (hB1, .inl (cB, N, .inl (upd bf tp (pb (abI (anI 0 (bf tp) (bf (tp + 1)) (sf tp) (sf (tp + 1))) (bf tp) (bf (tp + 1)))))))] t_.heap ∧ va_K (dC, dI) vwCl [(cB, .byte), (cI, .int), (cJ, .long), (cZ, .boolean)] t_ ∧ va_D A [(h0, .inr (2, [.int sz1, k1, k2, k3, k4, k5, k6, k7, k8, k9, .ref hS1, .ref hB1, .int (nI (tp + 1))])), (hS1, .inl (cJ, N, .inr (.inl (vp_updL sf tp (pv (avI 0 1 (anI 0 (bf tp) (bf (tp + 1)) (sf tp) (sf (tp + 1)))) (abI (anI 0 (bf tp) (bf (tp + 1)) (sf tp) (sf (tp + 1))) (bf tp) (bf (tp + 1)))))))), (hB1, .inl (cB, N, .inl (upd bf tp (pb (abI (anI 0 (bf tp) (bf (tp + 1)) (sf tp) (sf (tp + 1))) (bf tp) (bf (tp + 1)))))))]) A
set_option maxHeartbeats 4000000 in
set_option maxRecDepth 100000 in
theorem t_two_and (l : Launch) (dC : Nat → ClassId) (dI : Nat → Nat → Nat) (sz : Nat) (cB cI cJ cZ : ClassId) (h0 hS1 hB1 : Nat) (sz1 : Int32) (k1 k2 k3 k4 k5 k6 k7 k8 k9 : Value) (N : Nat) (sf : Nat → Int64) (bf : Nat → Int32) (tp : Nat) (hN : N < 1000000) (htp : tp + 2 ≤ N) : Met l yX1_two (wsOf yX1_two cX1_two 10 none) ({ frames := 1, cells := 0, slots := 0, locals := 24 }) (pc_t_two_and dC dI sz cB cI cJ cZ h0 hS1 hB1 sz1 k1 k2 k3 k4 k5 k6 k7 k8 k9 N sf bf tp) (qc_t_two_and dC dI cB cI cJ cZ h0 hS1 hB1 sz1 k1 k2 k3 k4 k5 k6 k7 k8 k9 N sf bf tp (va_A (cs_t_two_and cB cI cJ cZ h0 hS1 hB1 sz1 k1 k2 k3 k4 k5 k6 k7 k8 k9 N sf bf tp) sz)) 0 0 (va_A (cs_t_two_and cB cI cJ cZ h0 hS1 hB1 sz1 k1 k2 k3 k4 k5 k6 k7 k8 k9 N sf bf tp) sz) := by
  refine Met.ofW (cc := cX1_two) (maxL := 10) (ret := none) (by decide) rfl ?_
  intro p e s m args below meth c s₁ B hml hv
  obtain ⟨rfl, hsz, hP, hK, hD0⟩ := hv
  have hx := B.exec
  have hb := B.bytes
  have hr := B.returns
  have hts := atoms_spec (ws := (wsOf yX1_two cX1_two 10 none)) B.pre
  have hown : s.vm.findClass RX1 = some m.cls := findClass_of_methodNamed B.named
  have hlocks := B.notSynchronized
  subst hsz
  have hD := hD0.self (sz := s.heap.size)
  generalize hAe : va_A (cs_t_two_and cB cI cJ cZ h0 hS1 hB1 sz1 k1 k2 k3 k4 k5 k6 k7 k8 k9 N sf bf tp) s.heap.size = A at hD ⊢
  have hA : ∀ q : Nat, s.heap.size ≤ q → A q := fun q h => by rw [← hAe]; exact Or.inr h
  have hS : va_S A s.heap s.heap [] := va_S.rf
  have hP : va_P (dC, dI) vwCl [(h0, .inr (2, [.int sz1, k1, k2, k3, k4, k5, k6, k7, k8, k9, .ref hS1, .ref hB1, .int (nI (tp + 2))])), (hS1, .inl (cJ, N, .inr (.inl sf))), (hB1, .inl (cB, N, .inl bf))] s.heap := hP
  have hl := lv_entry ([.ref h0, .int 28]) (n := 10) (Nat.le_of_ble_eq_true rfl)
  rw [lg_entry_eq]
  generalize (lg_sl ([.ref h0, .int 28]) ++ List.replicate (10 - (lg_sl ([.ref h0, .int 28])).length) Slot.unset).toArray = ls at hl ⊢
  have hl : lv_has ls 10 [(0, .ref h0), (1, .int 28)] := hl
  refine lv_aload_n hx hb dX1_two_0 rfl (lv_at hl 0 rfl) ?_
  refine va_get (D := (dC, dI)) (ci := 2) (v := .int (nI (tp + 2))) (C := RX1) (T := TX1) (N := 13) hx hb hts (fun w h => List.mem_cons_of_mem _ (uG_X1 w h)) hown hK hP 0 rfl rfl 12 (by decide) (hts _ (List.mem_cons_of_mem _ kw_400)) (fun _ h9 => h9) rfl dX1_two_1 ?_
  refine lv_iconst (v := 2) hx hb dX1_two_4 (by decide) ?_
  refine lv_icmp_ge (tgt := 9) hx hb dX1_two_5 (by decide) (fun c_1 => ?_) (fun c_1 => ?_)
  · skip
    have c_1 : 2 ≤ tp + 2 := (nI_leI (a := 2) (b := tp + 2) (by omega) (by omega)).mp c_1
    refine lv_aload_n hx hb dX1_two_9 rfl (lv_at hl 0 rfl) ?_
    refine lv_dup hx hb dX1_two_10 rfl ?_
    refine va_get (D := (dC, dI)) (ci := 2) (v := .int (nI (tp + 2))) (C := RX1) (T := TX1) (N := 13) hx hb hts (fun w h => List.mem_cons_of_mem _ (uG_X1 w h)) hown hK hP 0 rfl rfl 12 (by decide) (hts _ (List.mem_cons_of_mem _ kw_400)) (fun _ h9 => h9) rfl dX1_two_11 ?_
    refine lv_iconst (v := 2) hx hb dX1_two_14 (by decide) ?_
    refine lv_isub hx hb dX1_two_15 ?_
    refine lv_topi (fun x_2 ex_2 => ?_)
    have ex_2 : x_2 = nI tp := by exact ex_2.trans (pk_sub (a := tp + 2) (b := 2) (by omega))
    subst ex_2
    refine va_put (D := (dC, dI)) (ci := 2) (v := .int (nI tp)) (ty := .int) (C := RX1) (T := TX1) (N := 13) hx hb hts (fun w h => List.mem_cons_of_mem _ (uG_X1 w h)) tyX1 tyX1_ok nmX1 hown hK hP hD hS 0 rfl rfl 12 (by decide) (hts _ (List.mem_cons_of_mem _ kw_400)) (fun _ h9 => h9) rfl (by decide +kernel) rfl rfl (Nat.le_of_ble_eq_true rfl) dX1_two_16 (fun H locs hP hD hS => ?_)
    have hP : va_P (dC, dI) vwCl [(h0, .inr (2, [.int sz1, k1, k2, k3, k4, k5, k6, k7, k8, k9, .ref hS1, .ref hB1, .int (nI tp)])), (hS1, .inl (cJ, N, .inr (.inl sf))), (hB1, .inl (cB, N, .inl bf))] H := hP
    have hD : va_D A [(h0, .inr (2, [.int sz1, k1, k2, k3, k4, k5, k6, k7, k8, k9, .ref hS1, .ref hB1, .int (nI tp)])), (hS1, .inl (cJ, N, .inr (.inl sf))), (hB1, .inl (cB, N, .inl bf))] := hD
    refine lv_aload_n hx hb dX1_two_19 rfl (lv_at hl 0 rfl) ?_
    refine va_get (D := (dC, dI)) (ci := 2) (v := .ref hS1) (C := RX1) (T := TX1) (N := 13) hx hb hts (fun w h => List.mem_cons_of_mem _ (uG_X1 w h)) hown hK hP 0 rfl rfl 10 (by decide) (hts _ (List.mem_cons_of_mem _ kw_398)) (fun _ h9 => h9) rfl dX1_two_20 ?_
    refine lv_aload_n hx hb dX1_two_23 rfl (lv_at hl 0 rfl) ?_
    refine va_get (D := (dC, dI)) (ci := 2) (v := .int (nI tp)) (C := RX1) (T := TX1) (N := 13) hx hb hts (fun w h => List.mem_cons_of_mem _ (uG_X1 w h)) hown hK hP 0 rfl rfl 12 (by decide) (hts _ (List.mem_cons_of_mem _ kw_400)) (fun _ h9 => h9) rfl dX1_two_24 ?_
    refine va_lald hx hb hK hP 1 2 rfl rfl (i := (nI tp)) (vp_in_nI (n := tp) (N := N) (by omega) (by omega)) dX1_two_27 ?_
    refine lv_topl (fun x_3 ex_3 => ?_)
    have ex_3 : x_3 = sf tp := ex_3.trans (congrArg sf (nI_clamp (n := tp) (by omega)))
    subst ex_3
    refine lv_lstore_n (lv' := [(2, .long (sf tp)), (0, .ref h0), (1, .int 28)]) hx hb dX1_two_28 rfl hl (by decide) rfl (fun ls hl => ?_)
    refine lv_aload_n hx hb dX1_two_29 rfl (lv_at hl 1 rfl) ?_
    refine va_get (D := (dC, dI)) (ci := 2) (v := .ref hS1) (C := RX1) (T := TX1) (N := 13) hx hb hts (fun w h => List.mem_cons_of_mem _ (uG_X1 w h)) hown hK hP 0 rfl rfl 10 (by decide) (hts _ (List.mem_cons_of_mem _ kw_398)) (fun _ h9 => h9) rfl dX1_two_30 ?_
    refine lv_aload_n hx hb dX1_two_33 rfl (lv_at hl 1 rfl) ?_
    refine va_get (D := (dC, dI)) (ci := 2) (v := .int (nI tp)) (C := RX1) (T := TX1) (N := 13) hx hb hts (fun w h => List.mem_cons_of_mem _ (uG_X1 w h)) hown hK hP 0 rfl rfl 12 (by decide) (hts _ (List.mem_cons_of_mem _ kw_400)) (fun _ h9 => h9) rfl dX1_two_34 ?_
    refine lv_iconst (v := 1) hx hb dX1_two_37 (by decide) ?_
    refine lv_iadd hx hb dX1_two_38 ?_
    refine lv_topi (fun x_4 ex_4 => ?_)
    have ex_4 : x_4 = nI (tp + 1) := ex_4.trans (nI_add tp 1)
    subst ex_4
    refine va_lald hx hb hK hP 1 2 rfl rfl (i := (nI (tp + 1))) (vp_in_nI (n := tp + 1) (N := N) (by omega) (by omega)) dX1_two_39 ?_
    refine lv_topl (fun x_5 ex_5 => ?_)
    have ex_5 : x_5 = sf (tp + 1) := ex_5.trans (congrArg sf (nI_clamp (n := tp + 1) (by omega)))
    subst ex_5
    refine lv_lstore (lv' := [(4, .long (sf (tp + 1))), (2, .long (sf tp)), (0, .ref h0), (1, .int 28)]) hx hb dX1_two_40 hl (by decide) rfl (fun ls hl => ?_)
    have mg_6 : ∀ (H : Heap) (locs : List Loc), va_P (dC, dI) vwCl [(h0, .inr (2, [.int sz1, k1, k2, k3, k4, k5, k6, k7, k8, k9, .ref hS1, .ref hB1, .int (nI tp)])), (hS1, .inl (cJ, N, .inr (.inl sf))), (hB1, .inl (cB, N, .inl bf))] H → va_D A [(h0, .inr (2, [.int sz1, k1, k2, k3, k4, k5, k6, k7, k8, k9, .ref hS1, .ref hB1, .int (nI tp)])), (hS1, .inl (cJ, N, .inr (.inl sf))), (hB1, .inl (cB, N, .inl bf))] → va_S A s.heap H locs → W p l e (headSpec (wsOf yX1_two cX1_two 10 none) ({ frames := 1, cells := 0, slots := 0, locals := 24 })).room s m ([.ref h0, .int 28] : List Value).toArray below meth c H locs 0 0 (MQ below (qc_t_two_and dC dI cB cI cJ cZ h0 hS1 hB1 sz1 k1 k2 k3 k4 k5 k6 k7 k8 k9 N sf bf tp A) ([.ref h0, .int 28] : List Value).toArray s 0 0 A) (F0 m 59 ls [.int (thI (bf tp))]) := by
      intro H locs hP hD hS
      refine lv_istore (lv' := [(6, .int (thI (bf tp))), (4, .long (sf (tp + 1))), (2, .long (sf tp)), (0, .ref h0), (1, .int 28)]) hx hb dX1_two_59 hl (by decide) rfl (fun ls hl => ?_)
      have mg_7 : ∀ (H : Heap) (locs : List Loc), va_P (dC, dI) vwCl [(h0, .inr (2, [.int sz1, k1, k2, k3, k4, k5, k6, k7, k8, k9, .ref hS1, .ref hB1, .int (nI tp)])), (hS1, .inl (cJ, N, .inr (.inl sf))), (hB1, .inl (cB, N, .inl bf))] H → va_D A [(h0, .inr (2, [.int sz1, k1, k2, k3, k4, k5, k6, k7, k8, k9, .ref hS1, .ref hB1, .int (nI tp)])), (hS1, .inl (cJ, N, .inr (.inl sf))), (hB1, .inl (cB, N, .inl bf))] → va_S A s.heap H locs → W p l e (headSpec (wsOf yX1_two cX1_two 10 none) ({ frames := 1, cells := 0, slots := 0, locals := 24 })).room s m ([.ref h0, .int 28] : List Value).toArray below meth c H locs 0 0 (MQ below (qc_t_two_and dC dI cB cI cJ cZ h0 hS1 hB1 sz1 k1 k2 k3 k4 k5 k6 k7 k8 k9 N sf bf tp A) ([.ref h0, .int 28] : List Value).toArray s 0 0 A) (F0 m 80 ls [.int (thI (bf (tp + 1)))]) := by
        intro H locs hP hD hS
        refine lv_istore (lv' := [(7, .int (thI (bf (tp + 1)))), (6, .int (thI (bf tp))), (4, .long (sf (tp + 1))), (2, .long (sf tp)), (0, .ref h0), (1, .int 28)]) hx hb dX1_two_80 hl (by decide) rfl (fun ls hl => ?_)
        refine lv_iload_n hx hb dX1_two_82 rfl (lv_at hl 5 rfl) ?_
        refine lv_bipush (v := 28) hx hb dX1_two_83 (by decide) ?_
        refine lv_icmp_eq (tgt := 94) hx hb dX1_two_85 (by decide) (fun c_8 => ?_) (fun c_8 => ?_)
        · skip
          refine lv_iload_n hx hb dX1_two_94 rfl (lv_at hl 5 rfl) ?_
          refine lv_bipush (v := 28) hx hb dX1_two_95 (by decide) ?_
          refine lv_icmp_ne (tgt := 104) hx hb dX1_two_97 (by decide) (fun c_9 => ?_) (fun c_9 => ?_)
          · skip
            exact absurd c_9 (by decide)
          · skip
            refine lv_iconst (v := 0) hx hb dX1_two_100 (by decide) ?_
            refine lv_goto (tgt := 105) hx hb dX1_two_101 (by decide) ?_
            refine lv_istore (lv' := [(8, .int 0), (7, .int (thI (bf (tp + 1)))), (6, .int (thI (bf tp))), (4, .long (sf (tp + 1))), (2, .long (sf tp)), (0, .ref h0), (1, .int 28)]) hx hb dX1_two_105 hl (by decide) rfl (fun ls hl => ?_)
            have mg_10 : ∀ (H : Heap) (locs : List Loc), va_P (dC, dI) vwCl [(h0, .inr (2, [.int sz1, k1, k2, k3, k4, k5, k6, k7, k8, k9, .ref hS1, .ref hB1, .int (nI tp)])), (hS1, .inl (cJ, N, .inr (.inl sf))), (hB1, .inl (cB, N, .inl bf))] H → va_D A [(h0, .inr (2, [.int sz1, k1, k2, k3, k4, k5, k6, k7, k8, k9, .ref hS1, .ref hB1, .int (nI tp)])), (hS1, .inl (cJ, N, .inr (.inl sf))), (hB1, .inl (cB, N, .inl bf))] → va_S A s.heap H locs → W p l e (headSpec (wsOf yX1_two cX1_two 10 none) ({ frames := 1, cells := 0, slots := 0, locals := 24 })).room s m ([.ref h0, .int 28] : List Value).toArray below meth c H locs 0 0 (MQ below (qc_t_two_and dC dI cB cI cJ cZ h0 hS1 hB1 sz1 k1 k2 k3 k4 k5 k6 k7 k8 k9 N sf bf tp A) ([.ref h0, .int 28] : List Value).toArray s 0 0 A) (F0 m 139 ls [.int (anI 0 (bf tp) (bf (tp + 1)) (sf tp) (sf (tp + 1)))]) := by
              intro H locs hP hD hS
              refine lv_istore (lv' := [(9, .int (anI 0 (bf tp) (bf (tp + 1)) (sf tp) (sf (tp + 1)))), (8, .int 0), (7, .int (thI (bf (tp + 1)))), (6, .int (thI (bf tp))), (4, .long (sf (tp + 1))), (2, .long (sf tp)), (0, .ref h0), (1, .int 28)]) hx hb dX1_two_139 hl (by decide) rfl (fun ls hl => ?_)
              refine lv_aload_n hx hb dX1_two_141 rfl (lv_at hl 6 rfl) ?_
              have mg_11 : ∀ (H : Heap) (locs : List Loc), va_P (dC, dI) vwCl [(h0, .inr (2, [.int sz1, k1, k2, k3, k4, k5, k6, k7, k8, k9, .ref hS1, .ref hB1, .int (nI tp)])), (hS1, .inl (cJ, N, .inr (.inl sf))), (hB1, .inl (cB, N, .inl bf))] H → va_D A [(h0, .inr (2, [.int sz1, k1, k2, k3, k4, k5, k6, k7, k8, k9, .ref hS1, .ref hB1, .int (nI tp)])), (hS1, .inl (cJ, N, .inr (.inl sf))), (hB1, .inl (cB, N, .inl bf))] → va_S A s.heap H locs → W p l e (headSpec (wsOf yX1_two cX1_two 10 none) ({ frames := 1, cells := 0, slots := 0, locals := 24 })).room s m ([.ref h0, .int 28] : List Value).toArray below meth c H locs 0 0 (MQ below (qc_t_two_and dC dI cB cI cJ cZ h0 hS1 hB1 sz1 k1 k2 k3 k4 k5 k6 k7 k8 k9 N sf bf tp A) ([.ref h0, .int 28] : List Value).toArray s 0 0 A) (F0 m 158 ls [.long (avI 0 1 (anI 0 (bf tp) (bf (tp + 1)) (sf tp) (sf (tp + 1)))), .ref h0]) := by
                intro H locs hP hD hS
                have mg_12 : ∀ (H : Heap) (locs : List Loc), va_P (dC, dI) vwCl [(h0, .inr (2, [.int sz1, k1, k2, k3, k4, k5, k6, k7, k8, k9, .ref hS1, .ref hB1, .int (nI tp)])), (hS1, .inl (cJ, N, .inr (.inl sf))), (hB1, .inl (cB, N, .inl bf))] H → va_D A [(h0, .inr (2, [.int sz1, k1, k2, k3, k4, k5, k6, k7, k8, k9, .ref hS1, .ref hB1, .int (nI tp)])), (hS1, .inl (cJ, N, .inr (.inl sf))), (hB1, .inl (cB, N, .inl bf))] → va_S A s.heap H locs → W p l e (headSpec (wsOf yX1_two cX1_two 10 none) ({ frames := 1, cells := 0, slots := 0, locals := 24 })).room s m ([.ref h0, .int 28] : List Value).toArray below meth c H locs 0 0 (MQ below (qc_t_two_and dC dI cB cI cJ cZ h0 hS1 hB1 sz1 k1 k2 k3 k4 k5 k6 k7 k8 k9 N sf bf tp A) ([.ref h0, .int 28] : List Value).toArray s 0 0 A) (F0 m 178 ls [.int (abI (anI 0 (bf tp) (bf (tp + 1)) (sf tp) (sf (tp + 1))) (bf tp) (bf (tp + 1))), .long (avI 0 1 (anI 0 (bf tp) (bf (tp + 1)) (sf tp) (sf (tp + 1)))), .ref h0]) := by
                  intro H locs hP hD hS
                  have hPc := hP.sub (ws' := [(h0, .inr (2, [.int sz1, k1, k2, k3, k4, k5, k6, k7, k8, k9, .ref hS1, .ref hB1, .int (nI tp)])), (hS1, .inl (cJ, N, .inr (.inl sf))), (hB1, .inl (cB, N, .inl bf))]) [0, 1, 2] rfl
                  have hDc := hD.sub (ws' := [(h0, .inr (2, [.int sz1, k1, k2, k3, k4, k5, k6, k7, k8, k9, .ref hS1, .ref hB1, .int (nI tp)])), (hS1, .inl (cJ, N, .inr (.inl sf))), (hB1, .inl (cB, N, .inl bf))]) [0, 1, 2] (by decide) rfl
                  have hKc := hK.sub (tys' := [(cB, .byte), (cI, .int), (cJ, .long), (cZ, .boolean)]) [0, 1, 2, 3] rfl
                  have hFc := va_free (wc := [(h0, .inr (2, [.int sz1, k1, k2, k3, k4, k5, k6, k7, k8, k9, .ref hS1, .ref hB1, .int (nI tp)])), (hS1, .inl (cJ, N, .inr (.inl sf))), (hB1, .inl (cB, N, .inl bf))]) hD hS hA [0, 1, 2] rfl
                  refine va_callv (va_runV (As := [.long (avI 0 1 (anI 0 (bf tp) (bf (tp + 1)) (sf tp) (sf (tp + 1)))), .int (abI (anI 0 (bf tp) (bf (tp + 1)) (sf tp) (sf (tp + 1))) (bf tp) (bf (tp + 1)))]) (rest := []) ⟨hx, hb, hml, hown, hts⟩ (t_X1_push l dC dI H.size cB cI cJ cZ h0 hS1 hB1 sz1 k1 k2 k3 k4 k5 k6 k7 k8 k9 N sf bf tp (avI 0 1 (anI 0 (bf tp) (bf (tp + 1)) (sf tp) (sf (tp + 1)))) (abI (anI 0 (bf tp) (bf (tp + 1)) (sf tp) (sf (tp + 1))) (bf tp) (bf (tp + 1))) (by omega) (by omega)) (cwV 2 hts (gd_all (in_V kw_1415 kw_1417 kw_73 kw_189 kc_X1_push)) rfl rfl rfl (by decide +kernel) ⟨Nat.le_of_ble_eq_true rfl, Nat.le_of_ble_eq_true rfl⟩) ⟨fun a U g mk q => by obtain ⟨q0, q1, qP, qK, qD⟩ := q; exact ⟨q0, q1, qP, va_K.moved (u := U) (U := U.calling g mk a) (Vm.Alike.refl U.vm) qK, qD⟩, va_recv hKc hPc (ci := 2) (q0 := 0) rfl rfl, fun U hU hW => ⟨rfl, by rw [hU], by rw [hU]; exact hPc, va_K.moved hW.alike hKc, hDc.weaken (fun _ _ _ _ => trivial)⟩⟩ rfl rfl hl.1 rfl (lv_room (Nat.le_of_ble_eq_true rfl)) dX1_two_178 ⟨Nat.le_of_ble_eq_true rfl, Nat.le_of_ble_eq_true rfl⟩) hS (fun q _ h => hFc q h) hFc (fun u t_ H1 locs ht hvm hw hB hz1 hk1 hS => ?_)
                  obtain ⟨hP1, hK1, hD1⟩ := hB
                  rw [ht] at hP1
                  have hK1 := va_K.moved hvm.symm hK1
                  obtain ⟨hP, hD⟩ := va_join (wr := []) (w1 := [(h0, .inr (2, [.int sz1, k1, k2, k3, k4, k5, k6, k7, k8, k9, .ref hS1, .ref hB1, .int (nI (tp + 1))])), (hS1, .inl (cJ, N, .inr (.inl (vp_updL sf tp (pv (avI 0 1 (anI 0 (bf tp) (bf (tp + 1)) (sf tp) (sf (tp + 1)))) (abI (anI 0 (bf tp) (bf (tp + 1)) (sf tp) (sf (tp + 1))) (bf tp) (bf (tp + 1)))))))), (hB1, .inl (cB, N, .inl (upd bf tp (pb (abI (anI 0 (bf tp) (bf (tp + 1)) (sf tp) (sf (tp + 1))) (bf tp) (bf (tp + 1)))))))]) hP hD [0, 1, 2] [] rfl rfl (by decide) (by decide) hk1 hFc hP1 hD1
                  have hK := (hK.sub (tys' := []) [] rfl).app hK1
                  generalize H1 = H at hP hS ⊢
                  have hP : va_P (dC, dI) vwCl [(h0, .inr (2, [.int sz1, k1, k2, k3, k4, k5, k6, k7, k8, k9, .ref hS1, .ref hB1, .int (nI (tp + 1))])), (hS1, .inl (cJ, N, .inr (.inl (vp_updL sf tp (pv (avI 0 1 (anI 0 (bf tp) (bf (tp + 1)) (sf tp) (sf (tp + 1)))) (abI (anI 0 (bf tp) (bf (tp + 1)) (sf tp) (sf (tp + 1))) (bf tp) (bf (tp + 1)))))))), (hB1, .inl (cB, N, .inl (upd bf tp (pb (abI (anI 0 (bf tp) (bf (tp + 1)) (sf tp) (sf (tp + 1))) (bf tp) (bf (tp + 1)))))))] H := hP
                  have hD : va_D A [(h0, .inr (2, [.int sz1, k1, k2, k3, k4, k5, k6, k7, k8, k9, .ref hS1, .ref hB1, .int (nI (tp + 1))])), (hS1, .inl (cJ, N, .inr (.inl (vp_updL sf tp (pv (avI 0 1 (anI 0 (bf tp) (bf (tp + 1)) (sf tp) (sf (tp + 1)))) (abI (anI 0 (bf tp) (bf (tp + 1)) (sf tp) (sf (tp + 1))) (bf tp) (bf (tp + 1)))))))), (hB1, .inl (cB, N, .inl (upd bf tp (pb (abI (anI 0 (bf tp) (bf (tp + 1)) (sf tp) (sf (tp + 1))) (bf tp) (bf (tp + 1)))))))] := hD
                  have hK : va_K (dC, dI) vwCl [(cB, .byte), (cI, .int), (cJ, .long), (cZ, .boolean)] s := hK
                  have hP9 := hP.sub (ws' := [(h0, .inr (2, [.int sz1, k1, k2, k3, k4, k5, k6, k7, k8, k9, .ref hS1, .ref hB1, .int (nI (tp + 1))])), (hS1, .inl (cJ, N, .inr (.inl (vp_updL sf tp (pv (avI 0 1 (anI 0 (bf tp) (bf (tp + 1)) (sf tp) (sf (tp + 1)))) (abI (anI 0 (bf tp) (bf (tp + 1)) (sf tp) (sf (tp + 1))) (bf tp) (bf (tp + 1)))))))), (hB1, .inl (cB, N, .inl (upd bf tp (pb (abI (anI 0 (bf tp) (bf (tp + 1)) (sf tp) (sf (tp + 1))) (bf tp) (bf (tp + 1)))))))]) [0, 1, 2] rfl
                  have hD9 := hD.sub (ws' := [(h0, .inr (2, [.int sz1, k1, k2, k3, k4, k5, k6, k7, k8, k9, .ref hS1, .ref hB1, .int (nI (tp + 1))])), (hS1, .inl (cJ, N, .inr (.inl (vp_updL sf tp (pv (avI 0 1 (anI 0 (bf tp) (bf (tp + 1)) (sf tp) (sf (tp + 1)))) (abI (anI 0 (bf tp) (bf (tp + 1)) (sf tp) (sf (tp + 1))) (bf tp) (bf (tp + 1)))))))), (hB1, .inl (cB, N, .inl (upd bf tp (pb (abI (anI 0 (bf tp) (bf (tp + 1)) (sf tp) (sf (tp + 1))) (bf tp) (bf (tp + 1)))))))]) [0, 1, 2] (by decide) rfl
                  have hK9 := hK.sub (tys' := [(cB, .byte), (cI, .int), (cJ, .long), (cZ, .boolean)]) [0, 1, 2, 3] rfl
                  exact W.vret hx hb hr (fun t_ ht hW => ⟨⟨(), rfl, trivial, by rw [ht]; exact hP9, va_K.moved hW.alike hK9, hD9⟩, hS.F ht⟩) hS.2.2 dX1_two_181
                refine lv_iload hx hb dX1_two_158 (lv_at hl 0 rfl) ?_
                refine lv_if_ne (tgt := 173) hx hb dX1_two_160 (by decide) (fun c_14 => ?_) (fun c_14 => ?_)
                · skip
                  refine lv_iconst (v := 0) hx hb dX1_two_173 (by decide) ?_
                  refine lv_goto (tgt := 178) hx hb dX1_two_174 (by decide) ?_
                  exact W.eq (by unfold abI; rw [if_neg c_14]) (mg_12 _ _ hP hD hS)
                · skip
                  refine lv_iload hx hb dX1_two_163 (lv_at hl 3 rfl) ?_
                  refine lv_if_eq (tgt := 177) hx hb dX1_two_165 (by decide) (fun c_15 => ?_) (fun c_15 => ?_)
                  · skip
                    refine lv_iconst (v := 1) hx hb dX1_two_177 (by decide) ?_
                    exact W.eq (by unfold abI; rw [if_pos c_14, if_pos c_15]) (mg_12 _ _ hP hD hS)
                  · skip
                    refine lv_iload hx hb dX1_two_168 (lv_at hl 2 rfl) ?_
                    refine lv_if_eq (tgt := 177) hx hb dX1_two_170 (by decide) (fun c_16 => ?_) (fun c_16 => ?_)
                    · skip
                      refine lv_iconst (v := 1) hx hb dX1_two_177 (by decide) ?_
                      exact W.eq (by unfold abI; rw [if_pos c_14, if_neg c_15, if_pos c_16]) (mg_12 _ _ hP hD hS)
                    · skip
                      refine lv_iconst (v := 0) hx hb dX1_two_173 (by decide) ?_
                      refine lv_goto (tgt := 178) hx hb dX1_two_174 (by decide) ?_
                      exact W.eq (by unfold abI; rw [if_pos c_14, if_neg c_15, if_neg c_16]) (mg_12 _ _ hP hD hS)
              refine lv_iload hx hb dX1_two_142 (lv_at hl 0 rfl) ?_
              refine lv_if_eq (tgt := 153) hx hb dX1_two_144 (by decide) (fun c_17 => ?_) (fun c_17 => ?_)
              · skip
                refine lv_iconst (v := 1) hx hb dX1_two_153 (by decide) ?_
                refine lv_iload hx hb dX1_two_154 (lv_at hl 1 rfl) ?_
                refine lv_isub hx hb dX1_two_156 ?_
                refine lv_topi (fun x_18 ex_18 => ?_)
                have ex_18 : x_18 = 1 := ex_18.trans (by decide)
                subst ex_18
                refine lv_i2l hx hb dX1_two_157 rfl ?_
                exact W.eq (by unfold avI; rw [if_pos c_17]) (mg_11 _ _ hP hD hS)
              · skip
                refine lv_iload hx hb dX1_two_147 (lv_at hl 1 rfl) ?_
                refine lv_i2l hx hb dX1_two_149 rfl ?_
                refine lv_goto (tgt := 158) hx hb dX1_two_150 (by decide) ?_
                exact W.eq (by unfold avI; rw [if_neg c_17]) (mg_11 _ _ hP hD hS)
            refine lv_iload hx hb dX1_two_107 (lv_at hl 2 rfl) ?_
            refine lv_if_eq (tgt := 120) hx hb dX1_two_109 (by decide) (fun c_19 => ?_) (fun c_19 => ?_)
            · skip
              refine lv_iload hx hb dX1_two_120 (lv_at hl 1 rfl) ?_
              refine lv_if_eq (tgt := 138) hx hb dX1_two_122 (by decide) (fun c_20 => ?_) (fun c_20 => ?_)
              · skip
                refine lv_iconst (v := 0) hx hb dX1_two_138 (by decide) ?_
                exact W.eq (by unfold anI; rw [if_pos c_19, if_pos c_20]) (mg_10 _ _ hP hD hS)
              · skip
                refine lv_lload hx hb dX1_two_125 (lv_at hl 3 rfl) ?_
                refine lv_iload hx hb dX1_two_127 (lv_at hl 0 rfl) ?_
                refine lv_i2l hx hb dX1_two_129 rfl ?_
                refine W.lcmp hx hb dX1_two_130 ?_
                refine lv_if_ne (tgt := 138) hx hb dX1_two_131 (by decide) (fun c_21 => ?_) (fun c_21 => ?_)
                · skip
                  have c_21 : ¬ ((sf (tp + 1)) = ((0 : Int32).toInt64)) := fun h => c_21 ((lg_cmp_eq (sf (tp + 1)) ((0 : Int32).toInt64)).mpr h)
                  refine lv_iconst (v := 0) hx hb dX1_two_138 (by decide) ?_
                  exact W.eq (by unfold anI; rw [if_pos c_19, if_neg c_20, if_neg c_21]) (mg_10 _ _ hP hD hS)
                · skip
                  have c_21 : (sf (tp + 1)) = ((0 : Int32).toInt64) := (lg_cmp_eq (sf (tp + 1)) ((0 : Int32).toInt64)).mp c_21
                  refine lv_iconst (v := 1) hx hb dX1_two_134 (by decide) ?_
                  refine lv_goto (tgt := 139) hx hb dX1_two_135 (by decide) ?_
                  exact W.eq (by unfold anI; rw [if_pos c_19, if_neg c_20, if_pos c_21]) (mg_10 _ _ hP hD hS)
            · skip
              refine lv_lload_n hx hb dX1_two_112 rfl (lv_at hl 4 rfl) ?_
              refine lv_iload hx hb dX1_two_113 (lv_at hl 0 rfl) ?_
              refine lv_i2l hx hb dX1_two_115 rfl ?_
              refine W.lcmp hx hb dX1_two_116 ?_
              refine lv_if_eq (tgt := 134) hx hb dX1_two_117 (by decide) (fun c_22 => ?_) (fun c_22 => ?_)
              · skip
                have c_22 : (sf tp) = ((0 : Int32).toInt64) := (lg_cmp_eq (sf tp) ((0 : Int32).toInt64)).mp c_22
                refine lv_iconst (v := 1) hx hb dX1_two_134 (by decide) ?_
                refine lv_goto (tgt := 139) hx hb dX1_two_135 (by decide) ?_
                exact W.eq (by unfold anI; rw [if_neg c_19, if_pos c_22]) (mg_10 _ _ hP hD hS)
              · skip
                have c_22 : ¬ ((sf tp) = ((0 : Int32).toInt64)) := fun h => c_22 ((lg_cmp_eq (sf tp) ((0 : Int32).toInt64)).mpr h)
                refine lv_iload hx hb dX1_two_120 (lv_at hl 1 rfl) ?_
                refine lv_if_eq (tgt := 138) hx hb dX1_two_122 (by decide) (fun c_23 => ?_) (fun c_23 => ?_)
                · skip
                  refine lv_iconst (v := 0) hx hb dX1_two_138 (by decide) ?_
                  exact W.eq (by unfold anI; rw [if_neg c_19, if_neg c_22, if_pos c_23]) (mg_10 _ _ hP hD hS)
                · skip
                  refine lv_lload hx hb dX1_two_125 (lv_at hl 3 rfl) ?_
                  refine lv_iload hx hb dX1_two_127 (lv_at hl 0 rfl) ?_
                  refine lv_i2l hx hb dX1_two_129 rfl ?_
                  refine W.lcmp hx hb dX1_two_130 ?_
                  refine lv_if_ne (tgt := 138) hx hb dX1_two_131 (by decide) (fun c_24 => ?_) (fun c_24 => ?_)
                  · skip
                    have c_24 : ¬ ((sf (tp + 1)) = ((0 : Int32).toInt64)) := fun h => c_24 ((lg_cmp_eq (sf (tp + 1)) ((0 : Int32).toInt64)).mpr h)
                    refine lv_iconst (v := 0) hx hb dX1_two_138 (by decide) ?_
                    exact W.eq (by unfold anI; rw [if_neg c_19, if_neg c_22, if_neg c_23, if_neg c_24]) (mg_10 _ _ hP hD hS)
                  · skip
                    have c_24 : (sf (tp + 1)) = ((0 : Int32).toInt64) := (lg_cmp_eq (sf (tp + 1)) ((0 : Int32).toInt64)).mp c_24
                    refine lv_iconst (v := 1) hx hb dX1_two_134 (by decide) ?_
                    refine lv_goto (tgt := 139) hx hb dX1_two_135 (by decide) ?_
                    exact W.eq (by unfold anI; rw [if_neg c_19, if_neg c_22, if_neg c_23, if_pos c_24]) (mg_10 _ _ hP hD hS)
        · skip
          exact absurd c_8 (by decide)
      refine lv_aload_n hx hb dX1_two_61 rfl (lv_at hl 3 rfl) ?_
      refine va_get (D := (dC, dI)) (ci := 2) (v := .ref hB1) (C := RX1) (T := TX1) (N := 13) hx hb hts (fun w h => List.mem_cons_of_mem _ (uG_X1 w h)) hown hK hP 0 rfl rfl 11 (by decide) (hts _ (List.mem_cons_of_mem _ kw_399)) (fun _ h9 => h9) rfl dX1_two_62 ?_
      refine lv_aload_n hx hb dX1_two_65 rfl (lv_at hl 3 rfl) ?_
      refine va_get (D := (dC, dI)) (ci := 2) (v := .int (nI tp)) (C := RX1) (T := TX1) (N := 13) hx hb hts (fun w h => List.mem_cons_of_mem _ (uG_X1 w h)) hown hK hP 0 rfl rfl 12 (by decide) (hts _ (List.mem_cons_of_mem _ kw_400)) (fun _ h9 => h9) rfl dX1_two_66 ?_
      refine lv_iconst (v := 1) hx hb dX1_two_69 (by decide) ?_
      refine lv_iadd hx hb dX1_two_70 ?_
      refine lv_topi (fun x_25 ex_25 => ?_)
      have ex_25 : x_25 = nI (tp + 1) := ex_25.trans (nI_add tp 1)
      subst ex_25
      refine va_bald hx hb hK hP 2 0 rfl rfl (i := (nI (tp + 1))) (vp_in_nI (n := tp + 1) (N := N) (by omega) (by omega)) dX1_two_71 ?_
      refine lv_topi (fun x_26 ex_26 => ?_)
      have ex_26 : x_26 = bf (tp + 1) := ex_26.trans (congrArg bf (nI_clamp (n := tp + 1) (by omega)))
      subst ex_26
      refine lv_if_ne (tgt := 79) hx hb dX1_two_72 (by decide) (fun c_27 => ?_) (fun c_27 => ?_)
      · skip
        refine lv_iconst (v := 0) hx hb dX1_two_79 (by decide) ?_
        exact W.eq (by unfold thI; rw [if_neg c_27]) (mg_7 _ _ hP hD hS)
      · skip
        refine lv_iconst (v := 1) hx hb dX1_two_75 (by decide) ?_
        refine lv_goto (tgt := 80) hx hb dX1_two_76 (by decide) ?_
        exact W.eq (by unfold thI; rw [if_pos c_27]) (mg_7 _ _ hP hD hS)
    refine lv_aload_n hx hb dX1_two_42 rfl (lv_at hl 2 rfl) ?_
    refine va_get (D := (dC, dI)) (ci := 2) (v := .ref hB1) (C := RX1) (T := TX1) (N := 13) hx hb hts (fun w h => List.mem_cons_of_mem _ (uG_X1 w h)) hown hK hP 0 rfl rfl 11 (by decide) (hts _ (List.mem_cons_of_mem _ kw_399)) (fun _ h9 => h9) rfl dX1_two_43 ?_
    refine lv_aload_n hx hb dX1_two_46 rfl (lv_at hl 2 rfl) ?_
    refine va_get (D := (dC, dI)) (ci := 2) (v := .int (nI tp)) (C := RX1) (T := TX1) (N := 13) hx hb hts (fun w h => List.mem_cons_of_mem _ (uG_X1 w h)) hown hK hP 0 rfl rfl 12 (by decide) (hts _ (List.mem_cons_of_mem _ kw_400)) (fun _ h9 => h9) rfl dX1_two_47 ?_
    refine va_bald hx hb hK hP 2 0 rfl rfl (i := (nI tp)) (vp_in_nI (n := tp) (N := N) (by omega) (by omega)) dX1_two_50 ?_
    refine lv_topi (fun x_28 ex_28 => ?_)
    have ex_28 : x_28 = bf tp := ex_28.trans (congrArg bf (nI_clamp (n := tp) (by omega)))
    subst ex_28
    refine lv_if_ne (tgt := 58) hx hb dX1_two_51 (by decide) (fun c_29 => ?_) (fun c_29 => ?_)
    · skip
      refine lv_iconst (v := 0) hx hb dX1_two_58 (by decide) ?_
      exact W.eq (by unfold thI; rw [if_neg c_29]) (mg_6 _ _ hP hD hS)
    · skip
      refine lv_iconst (v := 1) hx hb dX1_two_54 (by decide) ?_
      refine lv_goto (tgt := 59) hx hb dX1_two_55 (by decide) ?_
      exact W.eq (by unfold thI; rw [if_pos c_29]) (mg_6 _ _ hP hD hS)
  · skip
    have c_1 : ¬ (2 ≤ tp + 2) := fun h => c_1 ((nI_leI (a := 2) (b := tp + 2) (by omega) (by omega)).mpr h)
    exact absurd (show 2 ≤ tp + 2 by omega) c_1
abbrev cs_t_two_or (cB cI cJ cZ : ClassId) (h0 hS1 hB1 : Nat) (sz1 : Int32) (k1 k2 k3 k4 k5 k6 k7 k8 k9 : Value) (N : Nat) (sf : Nat → Int64) (bf : Nat → Int32) (tp : Nat) : va_W := [(h0, .inr (2, [.int sz1, k1, k2, k3, k4, k5, k6, k7, k8, k9, .ref hS1, .ref hB1, .int (nI (tp + 2))])), (hS1, .inl (cJ, N, .inr (.inl sf))), (hB1, .inl (cB, N, .inl bf))]
abbrev pc_t_two_or (dC : Nat → ClassId) (dI : Nat → Nat → Nat) (sz : Nat) (cB cI cJ cZ : ClassId) (h0 hS1 hB1 : Nat) (sz1 : Int32) (k1 k2 k3 k4 k5 k6 k7 k8 k9 : Value) (N : Nat) (sf : Nat → Int64) (bf : Nat → Int32) (tp : Nat) : Array Value → State → Prop := va_Pc [.ref h0, .int 29] (fun U => U.heap.size = sz ∧ va_P (dC, dI) vwCl [(h0, .inr (2, [.int sz1, k1, k2, k3, k4, k5, k6, k7, k8, k9, .ref hS1, .ref hB1, .int (nI (tp + 2))])), (hS1, .inl (cJ, N, .inr (.inl sf))), (hB1, .inl (cB, N, .inl bf))] U.heap ∧ va_K (dC, dI) vwCl [(cB, .byte), (cI, .int), (cJ, .long), (cZ, .boolean)] U ∧ va_D (fun _ => True) [(h0, .inr (2, [.int sz1, k1, k2, k3, k4, k5, k6, k7, k8, k9, .ref hS1, .ref hB1, .int (nI (tp + 2))])), (hS1, .inl (cJ, N, .inr (.inl sf))), (hB1, .inl (cB, N, .inl bf))])
abbrev qc_t_two_or (dC : Nat → ClassId) (dI : Nat → Nat → Nat) (cB cI cJ cZ : ClassId) (h0 hS1 hB1 : Nat) (sz1 : Int32) (k1 k2 k3 k4 k5 k6 k7 k8 k9 : Value) (N : Nat) (sf : Nat → Int64) (bf : Nat → Int32) (tp : Nat) (A : Nat → Prop) : Array Value → State → Outcome → State → Prop := va_Qv (fun (u : Unit) => match u with | _ => True) (fun (u : Unit) t_ => match u with | _ => va_P (dC, dI) vwCl [(h0, .inr (2, [.int sz1, k1, k2, k3, k4, k5, k6, k7, k8, k9, .ref hS1, .ref hB1, .int (nI (tp + 1))])), (hS1, .inl (cJ, N, .inr (.inl (vp_updL sf tp (pv (avI 1 0 (anI 1 (bf tp) (bf (tp + 1)) (sf tp) (sf (tp + 1)))) (abI (anI 1 (bf tp) (bf (tp + 1)) (sf tp) (sf (tp + 1))) (bf tp) (bf (tp + 1)))))))), (hB1, .inl (cB, N, .inl (upd bf tp (pb (abI (anI 1 (bf tp) (bf (tp + 1)) (sf tp) (sf (tp + 1))) (bf tp) (bf (tp + 1)))))))] t_.heap ∧ va_K (dC, dI) vwCl [(cB, .byte), (cI, .int), (cJ, .long), (cZ, .boolean)] t_ ∧ va_D A [(h0, .inr (2, [.int sz1, k1, k2, k3, k4, k5, k6, k7, k8, k9, .ref hS1, .ref hB1, .int (nI (tp + 1))])), (hS1, .inl (cJ, N, .inr (.inl (vp_updL sf tp (pv (avI 1 0 (anI 1 (bf tp) (bf (tp + 1)) (sf tp) (sf (tp + 1)))) (abI (anI 1 (bf tp) (bf (tp + 1)) (sf tp) (sf (tp + 1))) (bf tp) (bf (tp + 1)))))))), (hB1, .inl (cB, N, .inl (upd bf tp (pb (abI (anI 1 (bf tp) (bf (tp + 1)) (sf tp) (sf (tp + 1))) (bf tp) (bf (tp + 1)))))))]) A
set_option maxHeartbeats 4000000 in
set_option maxRecDepth 100000 in
theorem t_two_or (l : Launch) (dC : Nat → ClassId) (dI : Nat → Nat → Nat) (sz : Nat) (cB cI cJ cZ : ClassId) (h0 hS1 hB1 : Nat) (sz1 : Int32) (k1 k2 k3 k4 k5 k6 k7 k8 k9 : Value) (N : Nat) (sf : Nat → Int64) (bf : Nat → Int32) (tp : Nat) (hN : N < 1000000) (htp : tp + 2 ≤ N) : Met l yX1_two (wsOf yX1_two cX1_two 10 none) ({ frames := 1, cells := 0, slots := 0, locals := 24 }) (pc_t_two_or dC dI sz cB cI cJ cZ h0 hS1 hB1 sz1 k1 k2 k3 k4 k5 k6 k7 k8 k9 N sf bf tp) (qc_t_two_or dC dI cB cI cJ cZ h0 hS1 hB1 sz1 k1 k2 k3 k4 k5 k6 k7 k8 k9 N sf bf tp (va_A (cs_t_two_or cB cI cJ cZ h0 hS1 hB1 sz1 k1 k2 k3 k4 k5 k6 k7 k8 k9 N sf bf tp) sz)) 0 0 (va_A (cs_t_two_or cB cI cJ cZ h0 hS1 hB1 sz1 k1 k2 k3 k4 k5 k6 k7 k8 k9 N sf bf tp) sz) := by
  refine Met.ofW (cc := cX1_two) (maxL := 10) (ret := none) (by decide) rfl ?_
  intro p e s m args below meth c s₁ B hml hv
  obtain ⟨rfl, hsz, hP, hK, hD0⟩ := hv
  have hx := B.exec
  have hb := B.bytes
  have hr := B.returns
  have hts := atoms_spec (ws := (wsOf yX1_two cX1_two 10 none)) B.pre
  have hown : s.vm.findClass RX1 = some m.cls := findClass_of_methodNamed B.named
  have hlocks := B.notSynchronized
  subst hsz
  have hD := hD0.self (sz := s.heap.size)
  generalize hAe : va_A (cs_t_two_or cB cI cJ cZ h0 hS1 hB1 sz1 k1 k2 k3 k4 k5 k6 k7 k8 k9 N sf bf tp) s.heap.size = A at hD ⊢
  have hA : ∀ q : Nat, s.heap.size ≤ q → A q := fun q h => by rw [← hAe]; exact Or.inr h
  have hS : va_S A s.heap s.heap [] := va_S.rf
  have hP : va_P (dC, dI) vwCl [(h0, .inr (2, [.int sz1, k1, k2, k3, k4, k5, k6, k7, k8, k9, .ref hS1, .ref hB1, .int (nI (tp + 2))])), (hS1, .inl (cJ, N, .inr (.inl sf))), (hB1, .inl (cB, N, .inl bf))] s.heap := hP
  have hl := lv_entry ([.ref h0, .int 29]) (n := 10) (Nat.le_of_ble_eq_true rfl)
  rw [lg_entry_eq]
  generalize (lg_sl ([.ref h0, .int 29]) ++ List.replicate (10 - (lg_sl ([.ref h0, .int 29])).length) Slot.unset).toArray = ls at hl ⊢
  have hl : lv_has ls 10 [(0, .ref h0), (1, .int 29)] := hl
  refine lv_aload_n hx hb dX1_two_0 rfl (lv_at hl 0 rfl) ?_
  refine va_get (D := (dC, dI)) (ci := 2) (v := .int (nI (tp + 2))) (C := RX1) (T := TX1) (N := 13) hx hb hts (fun w h => List.mem_cons_of_mem _ (uG_X1 w h)) hown hK hP 0 rfl rfl 12 (by decide) (hts _ (List.mem_cons_of_mem _ kw_400)) (fun _ h9 => h9) rfl dX1_two_1 ?_
  refine lv_iconst (v := 2) hx hb dX1_two_4 (by decide) ?_
  refine lv_icmp_ge (tgt := 9) hx hb dX1_two_5 (by decide) (fun c_1 => ?_) (fun c_1 => ?_)
  · skip
    have c_1 : 2 ≤ tp + 2 := (nI_leI (a := 2) (b := tp + 2) (by omega) (by omega)).mp c_1
    refine lv_aload_n hx hb dX1_two_9 rfl (lv_at hl 0 rfl) ?_
    refine lv_dup hx hb dX1_two_10 rfl ?_
    refine va_get (D := (dC, dI)) (ci := 2) (v := .int (nI (tp + 2))) (C := RX1) (T := TX1) (N := 13) hx hb hts (fun w h => List.mem_cons_of_mem _ (uG_X1 w h)) hown hK hP 0 rfl rfl 12 (by decide) (hts _ (List.mem_cons_of_mem _ kw_400)) (fun _ h9 => h9) rfl dX1_two_11 ?_
    refine lv_iconst (v := 2) hx hb dX1_two_14 (by decide) ?_
    refine lv_isub hx hb dX1_two_15 ?_
    refine lv_topi (fun x_2 ex_2 => ?_)
    have ex_2 : x_2 = nI tp := by exact ex_2.trans (pk_sub (a := tp + 2) (b := 2) (by omega))
    subst ex_2
    refine va_put (D := (dC, dI)) (ci := 2) (v := .int (nI tp)) (ty := .int) (C := RX1) (T := TX1) (N := 13) hx hb hts (fun w h => List.mem_cons_of_mem _ (uG_X1 w h)) tyX1 tyX1_ok nmX1 hown hK hP hD hS 0 rfl rfl 12 (by decide) (hts _ (List.mem_cons_of_mem _ kw_400)) (fun _ h9 => h9) rfl (by decide +kernel) rfl rfl (Nat.le_of_ble_eq_true rfl) dX1_two_16 (fun H locs hP hD hS => ?_)
    have hP : va_P (dC, dI) vwCl [(h0, .inr (2, [.int sz1, k1, k2, k3, k4, k5, k6, k7, k8, k9, .ref hS1, .ref hB1, .int (nI tp)])), (hS1, .inl (cJ, N, .inr (.inl sf))), (hB1, .inl (cB, N, .inl bf))] H := hP
    have hD : va_D A [(h0, .inr (2, [.int sz1, k1, k2, k3, k4, k5, k6, k7, k8, k9, .ref hS1, .ref hB1, .int (nI tp)])), (hS1, .inl (cJ, N, .inr (.inl sf))), (hB1, .inl (cB, N, .inl bf))] := hD
    refine lv_aload_n hx hb dX1_two_19 rfl (lv_at hl 0 rfl) ?_
    refine va_get (D := (dC, dI)) (ci := 2) (v := .ref hS1) (C := RX1) (T := TX1) (N := 13) hx hb hts (fun w h => List.mem_cons_of_mem _ (uG_X1 w h)) hown hK hP 0 rfl rfl 10 (by decide) (hts _ (List.mem_cons_of_mem _ kw_398)) (fun _ h9 => h9) rfl dX1_two_20 ?_
    refine lv_aload_n hx hb dX1_two_23 rfl (lv_at hl 0 rfl) ?_
    refine va_get (D := (dC, dI)) (ci := 2) (v := .int (nI tp)) (C := RX1) (T := TX1) (N := 13) hx hb hts (fun w h => List.mem_cons_of_mem _ (uG_X1 w h)) hown hK hP 0 rfl rfl 12 (by decide) (hts _ (List.mem_cons_of_mem _ kw_400)) (fun _ h9 => h9) rfl dX1_two_24 ?_
    refine va_lald hx hb hK hP 1 2 rfl rfl (i := (nI tp)) (vp_in_nI (n := tp) (N := N) (by omega) (by omega)) dX1_two_27 ?_
    refine lv_topl (fun x_3 ex_3 => ?_)
    have ex_3 : x_3 = sf tp := ex_3.trans (congrArg sf (nI_clamp (n := tp) (by omega)))
    subst ex_3
    refine lv_lstore_n (lv' := [(2, .long (sf tp)), (0, .ref h0), (1, .int 29)]) hx hb dX1_two_28 rfl hl (by decide) rfl (fun ls hl => ?_)
    refine lv_aload_n hx hb dX1_two_29 rfl (lv_at hl 1 rfl) ?_
    refine va_get (D := (dC, dI)) (ci := 2) (v := .ref hS1) (C := RX1) (T := TX1) (N := 13) hx hb hts (fun w h => List.mem_cons_of_mem _ (uG_X1 w h)) hown hK hP 0 rfl rfl 10 (by decide) (hts _ (List.mem_cons_of_mem _ kw_398)) (fun _ h9 => h9) rfl dX1_two_30 ?_
    refine lv_aload_n hx hb dX1_two_33 rfl (lv_at hl 1 rfl) ?_
    refine va_get (D := (dC, dI)) (ci := 2) (v := .int (nI tp)) (C := RX1) (T := TX1) (N := 13) hx hb hts (fun w h => List.mem_cons_of_mem _ (uG_X1 w h)) hown hK hP 0 rfl rfl 12 (by decide) (hts _ (List.mem_cons_of_mem _ kw_400)) (fun _ h9 => h9) rfl dX1_two_34 ?_
    refine lv_iconst (v := 1) hx hb dX1_two_37 (by decide) ?_
    refine lv_iadd hx hb dX1_two_38 ?_
    refine lv_topi (fun x_4 ex_4 => ?_)
    have ex_4 : x_4 = nI (tp + 1) := ex_4.trans (nI_add tp 1)
    subst ex_4
    refine va_lald hx hb hK hP 1 2 rfl rfl (i := (nI (tp + 1))) (vp_in_nI (n := tp + 1) (N := N) (by omega) (by omega)) dX1_two_39 ?_
    refine lv_topl (fun x_5 ex_5 => ?_)
    have ex_5 : x_5 = sf (tp + 1) := ex_5.trans (congrArg sf (nI_clamp (n := tp + 1) (by omega)))
    subst ex_5
    refine lv_lstore (lv' := [(4, .long (sf (tp + 1))), (2, .long (sf tp)), (0, .ref h0), (1, .int 29)]) hx hb dX1_two_40 hl (by decide) rfl (fun ls hl => ?_)
    have mg_6 : ∀ (H : Heap) (locs : List Loc), va_P (dC, dI) vwCl [(h0, .inr (2, [.int sz1, k1, k2, k3, k4, k5, k6, k7, k8, k9, .ref hS1, .ref hB1, .int (nI tp)])), (hS1, .inl (cJ, N, .inr (.inl sf))), (hB1, .inl (cB, N, .inl bf))] H → va_D A [(h0, .inr (2, [.int sz1, k1, k2, k3, k4, k5, k6, k7, k8, k9, .ref hS1, .ref hB1, .int (nI tp)])), (hS1, .inl (cJ, N, .inr (.inl sf))), (hB1, .inl (cB, N, .inl bf))] → va_S A s.heap H locs → W p l e (headSpec (wsOf yX1_two cX1_two 10 none) ({ frames := 1, cells := 0, slots := 0, locals := 24 })).room s m ([.ref h0, .int 29] : List Value).toArray below meth c H locs 0 0 (MQ below (qc_t_two_or dC dI cB cI cJ cZ h0 hS1 hB1 sz1 k1 k2 k3 k4 k5 k6 k7 k8 k9 N sf bf tp A) ([.ref h0, .int 29] : List Value).toArray s 0 0 A) (F0 m 59 ls [.int (thI (bf tp))]) := by
      intro H locs hP hD hS
      refine lv_istore (lv' := [(6, .int (thI (bf tp))), (4, .long (sf (tp + 1))), (2, .long (sf tp)), (0, .ref h0), (1, .int 29)]) hx hb dX1_two_59 hl (by decide) rfl (fun ls hl => ?_)
      have mg_7 : ∀ (H : Heap) (locs : List Loc), va_P (dC, dI) vwCl [(h0, .inr (2, [.int sz1, k1, k2, k3, k4, k5, k6, k7, k8, k9, .ref hS1, .ref hB1, .int (nI tp)])), (hS1, .inl (cJ, N, .inr (.inl sf))), (hB1, .inl (cB, N, .inl bf))] H → va_D A [(h0, .inr (2, [.int sz1, k1, k2, k3, k4, k5, k6, k7, k8, k9, .ref hS1, .ref hB1, .int (nI tp)])), (hS1, .inl (cJ, N, .inr (.inl sf))), (hB1, .inl (cB, N, .inl bf))] → va_S A s.heap H locs → W p l e (headSpec (wsOf yX1_two cX1_two 10 none) ({ frames := 1, cells := 0, slots := 0, locals := 24 })).room s m ([.ref h0, .int 29] : List Value).toArray below meth c H locs 0 0 (MQ below (qc_t_two_or dC dI cB cI cJ cZ h0 hS1 hB1 sz1 k1 k2 k3 k4 k5 k6 k7 k8 k9 N sf bf tp A) ([.ref h0, .int 29] : List Value).toArray s 0 0 A) (F0 m 80 ls [.int (thI (bf (tp + 1)))]) := by
        intro H locs hP hD hS
        refine lv_istore (lv' := [(7, .int (thI (bf (tp + 1)))), (6, .int (thI (bf tp))), (4, .long (sf (tp + 1))), (2, .long (sf tp)), (0, .ref h0), (1, .int 29)]) hx hb dX1_two_80 hl (by decide) rfl (fun ls hl => ?_)
        refine lv_iload_n hx hb dX1_two_82 rfl (lv_at hl 5 rfl) ?_
        refine lv_bipush (v := 28) hx hb dX1_two_83 (by decide) ?_
        refine lv_icmp_eq (tgt := 94) hx hb dX1_two_85 (by decide) (fun c_8 => ?_) (fun c_8 => ?_)
        · skip
          exact absurd c_8 (by decide)
        · skip
          refine lv_iload_n hx hb dX1_two_88 rfl (lv_at hl 5 rfl) ?_
          refine lv_bipush (v := 29) hx hb dX1_two_89 (by decide) ?_
          refine lv_icmp_ne (tgt := 182) hx hb dX1_two_91 (by decide) (fun c_9 => ?_) (fun c_9 => ?_)
          · skip
            exact absurd c_9 (by decide)
          · skip
            refine lv_iload_n hx hb dX1_two_94 rfl (lv_at hl 5 rfl) ?_
            refine lv_bipush (v := 28) hx hb dX1_two_95 (by decide) ?_
            refine lv_icmp_ne (tgt := 104) hx hb dX1_two_97 (by decide) (fun c_10 => ?_) (fun c_10 => ?_)
            · skip
              refine lv_iconst (v := 1) hx hb dX1_two_104 (by decide) ?_
              refine lv_istore (lv' := [(8, .int 1), (7, .int (thI (bf (tp + 1)))), (6, .int (thI (bf tp))), (4, .long (sf (tp + 1))), (2, .long (sf tp)), (0, .ref h0), (1, .int 29)]) hx hb dX1_two_105 hl (by decide) rfl (fun ls hl => ?_)
              have mg_11 : ∀ (H : Heap) (locs : List Loc), va_P (dC, dI) vwCl [(h0, .inr (2, [.int sz1, k1, k2, k3, k4, k5, k6, k7, k8, k9, .ref hS1, .ref hB1, .int (nI tp)])), (hS1, .inl (cJ, N, .inr (.inl sf))), (hB1, .inl (cB, N, .inl bf))] H → va_D A [(h0, .inr (2, [.int sz1, k1, k2, k3, k4, k5, k6, k7, k8, k9, .ref hS1, .ref hB1, .int (nI tp)])), (hS1, .inl (cJ, N, .inr (.inl sf))), (hB1, .inl (cB, N, .inl bf))] → va_S A s.heap H locs → W p l e (headSpec (wsOf yX1_two cX1_two 10 none) ({ frames := 1, cells := 0, slots := 0, locals := 24 })).room s m ([.ref h0, .int 29] : List Value).toArray below meth c H locs 0 0 (MQ below (qc_t_two_or dC dI cB cI cJ cZ h0 hS1 hB1 sz1 k1 k2 k3 k4 k5 k6 k7 k8 k9 N sf bf tp A) ([.ref h0, .int 29] : List Value).toArray s 0 0 A) (F0 m 139 ls [.int (anI 1 (bf tp) (bf (tp + 1)) (sf tp) (sf (tp + 1)))]) := by
                intro H locs hP hD hS
                refine lv_istore (lv' := [(9, .int (anI 1 (bf tp) (bf (tp + 1)) (sf tp) (sf (tp + 1)))), (8, .int 1), (7, .int (thI (bf (tp + 1)))), (6, .int (thI (bf tp))), (4, .long (sf (tp + 1))), (2, .long (sf tp)), (0, .ref h0), (1, .int 29)]) hx hb dX1_two_139 hl (by decide) rfl (fun ls hl => ?_)
                refine lv_aload_n hx hb dX1_two_141 rfl (lv_at hl 6 rfl) ?_
                have mg_12 : ∀ (H : Heap) (locs : List Loc), va_P (dC, dI) vwCl [(h0, .inr (2, [.int sz1, k1, k2, k3, k4, k5, k6, k7, k8, k9, .ref hS1, .ref hB1, .int (nI tp)])), (hS1, .inl (cJ, N, .inr (.inl sf))), (hB1, .inl (cB, N, .inl bf))] H → va_D A [(h0, .inr (2, [.int sz1, k1, k2, k3, k4, k5, k6, k7, k8, k9, .ref hS1, .ref hB1, .int (nI tp)])), (hS1, .inl (cJ, N, .inr (.inl sf))), (hB1, .inl (cB, N, .inl bf))] → va_S A s.heap H locs → W p l e (headSpec (wsOf yX1_two cX1_two 10 none) ({ frames := 1, cells := 0, slots := 0, locals := 24 })).room s m ([.ref h0, .int 29] : List Value).toArray below meth c H locs 0 0 (MQ below (qc_t_two_or dC dI cB cI cJ cZ h0 hS1 hB1 sz1 k1 k2 k3 k4 k5 k6 k7 k8 k9 N sf bf tp A) ([.ref h0, .int 29] : List Value).toArray s 0 0 A) (F0 m 158 ls [.long (avI 1 0 (anI 1 (bf tp) (bf (tp + 1)) (sf tp) (sf (tp + 1)))), .ref h0]) := by
                  intro H locs hP hD hS
                  have mg_13 : ∀ (H : Heap) (locs : List Loc), va_P (dC, dI) vwCl [(h0, .inr (2, [.int sz1, k1, k2, k3, k4, k5, k6, k7, k8, k9, .ref hS1, .ref hB1, .int (nI tp)])), (hS1, .inl (cJ, N, .inr (.inl sf))), (hB1, .inl (cB, N, .inl bf))] H → va_D A [(h0, .inr (2, [.int sz1, k1, k2, k3, k4, k5, k6, k7, k8, k9, .ref hS1, .ref hB1, .int (nI tp)])), (hS1, .inl (cJ, N, .inr (.inl sf))), (hB1, .inl (cB, N, .inl bf))] → va_S A s.heap H locs → W p l e (headSpec (wsOf yX1_two cX1_two 10 none) ({ frames := 1, cells := 0, slots := 0, locals := 24 })).room s m ([.ref h0, .int 29] : List Value).toArray below meth c H locs 0 0 (MQ below (qc_t_two_or dC dI cB cI cJ cZ h0 hS1 hB1 sz1 k1 k2 k3 k4 k5 k6 k7 k8 k9 N sf bf tp A) ([.ref h0, .int 29] : List Value).toArray s 0 0 A) (F0 m 178 ls [.int (abI (anI 1 (bf tp) (bf (tp + 1)) (sf tp) (sf (tp + 1))) (bf tp) (bf (tp + 1))), .long (avI 1 0 (anI 1 (bf tp) (bf (tp + 1)) (sf tp) (sf (tp + 1)))), .ref h0]) := by
                    intro H locs hP hD hS
                    have hPc := hP.sub (ws' := [(h0, .inr (2, [.int sz1, k1, k2, k3, k4, k5, k6, k7, k8, k9, .ref hS1, .ref hB1, .int (nI tp)])), (hS1, .inl (cJ, N, .inr (.inl sf))), (hB1, .inl (cB, N, .inl bf))]) [0, 1, 2] rfl
                    have hDc := hD.sub (ws' := [(h0, .inr (2, [.int sz1, k1, k2, k3, k4, k5, k6, k7, k8, k9, .ref hS1, .ref hB1, .int (nI tp)])), (hS1, .inl (cJ, N, .inr (.inl sf))), (hB1, .inl (cB, N, .inl bf))]) [0, 1, 2] (by decide) rfl
                    have hKc := hK.sub (tys' := [(cB, .byte), (cI, .int), (cJ, .long), (cZ, .boolean)]) [0, 1, 2, 3] rfl
                    have hFc := va_free (wc := [(h0, .inr (2, [.int sz1, k1, k2, k3, k4, k5, k6, k7, k8, k9, .ref hS1, .ref hB1, .int (nI tp)])), (hS1, .inl (cJ, N, .inr (.inl sf))), (hB1, .inl (cB, N, .inl bf))]) hD hS hA [0, 1, 2] rfl
                    refine va_callv (va_runV (As := [.long (avI 1 0 (anI 1 (bf tp) (bf (tp + 1)) (sf tp) (sf (tp + 1)))), .int (abI (anI 1 (bf tp) (bf (tp + 1)) (sf tp) (sf (tp + 1))) (bf tp) (bf (tp + 1)))]) (rest := []) ⟨hx, hb, hml, hown, hts⟩ (t_X1_push l dC dI H.size cB cI cJ cZ h0 hS1 hB1 sz1 k1 k2 k3 k4 k5 k6 k7 k8 k9 N sf bf tp (avI 1 0 (anI 1 (bf tp) (bf (tp + 1)) (sf tp) (sf (tp + 1)))) (abI (anI 1 (bf tp) (bf (tp + 1)) (sf tp) (sf (tp + 1))) (bf tp) (bf (tp + 1))) (by omega) (by omega)) (cwV 2 hts (gd_all (in_V kw_1415 kw_1417 kw_73 kw_189 kc_X1_push)) rfl rfl rfl (by decide +kernel) ⟨Nat.le_of_ble_eq_true rfl, Nat.le_of_ble_eq_true rfl⟩) ⟨fun a U g mk q => by obtain ⟨q0, q1, qP, qK, qD⟩ := q; exact ⟨q0, q1, qP, va_K.moved (u := U) (U := U.calling g mk a) (Vm.Alike.refl U.vm) qK, qD⟩, va_recv hKc hPc (ci := 2) (q0 := 0) rfl rfl, fun U hU hW => ⟨rfl, by rw [hU], by rw [hU]; exact hPc, va_K.moved hW.alike hKc, hDc.weaken (fun _ _ _ _ => trivial)⟩⟩ rfl rfl hl.1 rfl (lv_room (Nat.le_of_ble_eq_true rfl)) dX1_two_178 ⟨Nat.le_of_ble_eq_true rfl, Nat.le_of_ble_eq_true rfl⟩) hS (fun q _ h => hFc q h) hFc (fun u t_ H1 locs ht hvm hw hB hz1 hk1 hS => ?_)
                    obtain ⟨hP1, hK1, hD1⟩ := hB
                    rw [ht] at hP1
                    have hK1 := va_K.moved hvm.symm hK1
                    obtain ⟨hP, hD⟩ := va_join (wr := []) (w1 := [(h0, .inr (2, [.int sz1, k1, k2, k3, k4, k5, k6, k7, k8, k9, .ref hS1, .ref hB1, .int (nI (tp + 1))])), (hS1, .inl (cJ, N, .inr (.inl (vp_updL sf tp (pv (avI 1 0 (anI 1 (bf tp) (bf (tp + 1)) (sf tp) (sf (tp + 1)))) (abI (anI 1 (bf tp) (bf (tp + 1)) (sf tp) (sf (tp + 1))) (bf tp) (bf (tp + 1)))))))), (hB1, .inl (cB, N, .inl (upd bf tp (pb (abI (anI 1 (bf tp) (bf (tp + 1)) (sf tp) (sf (tp + 1))) (bf tp) (bf (tp + 1)))))))]) hP hD [0, 1, 2] [] rfl rfl (by decide) (by decide) hk1 hFc hP1 hD1
                    have hK := (hK.sub (tys' := []) [] rfl).app hK1
                    generalize H1 = H at hP hS ⊢
                    have hP : va_P (dC, dI) vwCl [(h0, .inr (2, [.int sz1, k1, k2, k3, k4, k5, k6, k7, k8, k9, .ref hS1, .ref hB1, .int (nI (tp + 1))])), (hS1, .inl (cJ, N, .inr (.inl (vp_updL sf tp (pv (avI 1 0 (anI 1 (bf tp) (bf (tp + 1)) (sf tp) (sf (tp + 1)))) (abI (anI 1 (bf tp) (bf (tp + 1)) (sf tp) (sf (tp + 1))) (bf tp) (bf (tp + 1)))))))), (hB1, .inl (cB, N, .inl (upd bf tp (pb (abI (anI 1 (bf tp) (bf (tp + 1)) (sf tp) (sf (tp + 1))) (bf tp) (bf (tp + 1)))))))] H := hP
                    have hD : va_D A [(h0, .inr (2, [.int sz1, k1, k2, k3, k4, k5, k6, k7, k8, k9, .ref hS1, .ref hB1, .int (nI (tp + 1))])), (hS1, .inl (cJ, N, .inr (.inl (vp_updL sf tp (pv (avI 1 0 (anI 1 (bf tp) (bf (tp + 1)) (sf tp) (sf (tp + 1)))) (abI (anI 1 (bf tp) (bf (tp + 1)) (sf tp) (sf (tp + 1))) (bf tp) (bf (tp + 1)))))))), (hB1, .inl (cB, N, .inl (upd bf tp (pb (abI (anI 1 (bf tp) (bf (tp + 1)) (sf tp) (sf (tp + 1))) (bf tp) (bf (tp + 1)))))))] := hD
                    have hK : va_K (dC, dI) vwCl [(cB, .byte), (cI, .int), (cJ, .long), (cZ, .boolean)] s := hK
                    have hP9 := hP.sub (ws' := [(h0, .inr (2, [.int sz1, k1, k2, k3, k4, k5, k6, k7, k8, k9, .ref hS1, .ref hB1, .int (nI (tp + 1))])), (hS1, .inl (cJ, N, .inr (.inl (vp_updL sf tp (pv (avI 1 0 (anI 1 (bf tp) (bf (tp + 1)) (sf tp) (sf (tp + 1)))) (abI (anI 1 (bf tp) (bf (tp + 1)) (sf tp) (sf (tp + 1))) (bf tp) (bf (tp + 1)))))))), (hB1, .inl (cB, N, .inl (upd bf tp (pb (abI (anI 1 (bf tp) (bf (tp + 1)) (sf tp) (sf (tp + 1))) (bf tp) (bf (tp + 1)))))))]) [0, 1, 2] rfl
                    have hD9 := hD.sub (ws' := [(h0, .inr (2, [.int sz1, k1, k2, k3, k4, k5, k6, k7, k8, k9, .ref hS1, .ref hB1, .int (nI (tp + 1))])), (hS1, .inl (cJ, N, .inr (.inl (vp_updL sf tp (pv (avI 1 0 (anI 1 (bf tp) (bf (tp + 1)) (sf tp) (sf (tp + 1)))) (abI (anI 1 (bf tp) (bf (tp + 1)) (sf tp) (sf (tp + 1))) (bf tp) (bf (tp + 1)))))))), (hB1, .inl (cB, N, .inl (upd bf tp (pb (abI (anI 1 (bf tp) (bf (tp + 1)) (sf tp) (sf (tp + 1))) (bf tp) (bf (tp + 1)))))))]) [0, 1, 2] (by decide) rfl
                    have hK9 := hK.sub (tys' := [(cB, .byte), (cI, .int), (cJ, .long), (cZ, .boolean)]) [0, 1, 2, 3] rfl
                    exact W.vret hx hb hr (fun t_ ht hW => ⟨⟨(), rfl, trivial, by rw [ht]; exact hP9, va_K.moved hW.alike hK9, hD9⟩, hS.F ht⟩) hS.2.2 dX1_two_181
                  refine lv_iload hx hb dX1_two_158 (lv_at hl 0 rfl) ?_
                  refine lv_if_ne (tgt := 173) hx hb dX1_two_160 (by decide) (fun c_15 => ?_) (fun c_15 => ?_)
                  · skip
                    refine lv_iconst (v := 0) hx hb dX1_two_173 (by decide) ?_
                    refine lv_goto (tgt := 178) hx hb dX1_two_174 (by decide) ?_
                    exact W.eq (by unfold abI; rw [if_neg c_15]) (mg_13 _ _ hP hD hS)
                  · skip
                    refine lv_iload hx hb dX1_two_163 (lv_at hl 3 rfl) ?_
                    refine lv_if_eq (tgt := 177) hx hb dX1_two_165 (by decide) (fun c_16 => ?_) (fun c_16 => ?_)
                    · skip
                      refine lv_iconst (v := 1) hx hb dX1_two_177 (by decide) ?_
                      exact W.eq (by unfold abI; rw [if_pos c_15, if_pos c_16]) (mg_13 _ _ hP hD hS)
                    · skip
                      refine lv_iload hx hb dX1_two_168 (lv_at hl 2 rfl) ?_
                      refine lv_if_eq (tgt := 177) hx hb dX1_two_170 (by decide) (fun c_17 => ?_) (fun c_17 => ?_)
                      · skip
                        refine lv_iconst (v := 1) hx hb dX1_two_177 (by decide) ?_
                        exact W.eq (by unfold abI; rw [if_pos c_15, if_neg c_16, if_pos c_17]) (mg_13 _ _ hP hD hS)
                      · skip
                        refine lv_iconst (v := 0) hx hb dX1_two_173 (by decide) ?_
                        refine lv_goto (tgt := 178) hx hb dX1_two_174 (by decide) ?_
                        exact W.eq (by unfold abI; rw [if_pos c_15, if_neg c_16, if_neg c_17]) (mg_13 _ _ hP hD hS)
                refine lv_iload hx hb dX1_two_142 (lv_at hl 0 rfl) ?_
                refine lv_if_eq (tgt := 153) hx hb dX1_two_144 (by decide) (fun c_18 => ?_) (fun c_18 => ?_)
                · skip
                  refine lv_iconst (v := 1) hx hb dX1_two_153 (by decide) ?_
                  refine lv_iload hx hb dX1_two_154 (lv_at hl 1 rfl) ?_
                  refine lv_isub hx hb dX1_two_156 ?_
                  refine lv_topi (fun x_19 ex_19 => ?_)
                  have ex_19 : x_19 = 0 := ex_19.trans (by decide)
                  subst ex_19
                  refine lv_i2l hx hb dX1_two_157 rfl ?_
                  exact W.eq (by unfold avI; rw [if_pos c_18]) (mg_12 _ _ hP hD hS)
                · skip
                  refine lv_iload hx hb dX1_two_147 (lv_at hl 1 rfl) ?_
                  refine lv_i2l hx hb dX1_two_149 rfl ?_
                  refine lv_goto (tgt := 158) hx hb dX1_two_150 (by decide) ?_
                  exact W.eq (by unfold avI; rw [if_neg c_18]) (mg_12 _ _ hP hD hS)
              refine lv_iload hx hb dX1_two_107 (lv_at hl 2 rfl) ?_
              refine lv_if_eq (tgt := 120) hx hb dX1_two_109 (by decide) (fun c_20 => ?_) (fun c_20 => ?_)
              · skip
                refine lv_iload hx hb dX1_two_120 (lv_at hl 1 rfl) ?_
                refine lv_if_eq (tgt := 138) hx hb dX1_two_122 (by decide) (fun c_21 => ?_) (fun c_21 => ?_)
                · skip
                  refine lv_iconst (v := 0) hx hb dX1_two_138 (by decide) ?_
                  exact W.eq (by unfold anI; rw [if_pos c_20, if_pos c_21]) (mg_11 _ _ hP hD hS)
                · skip
                  refine lv_lload hx hb dX1_two_125 (lv_at hl 3 rfl) ?_
                  refine lv_iload hx hb dX1_two_127 (lv_at hl 0 rfl) ?_
                  refine lv_i2l hx hb dX1_two_129 rfl ?_
                  refine W.lcmp hx hb dX1_two_130 ?_
                  refine lv_if_ne (tgt := 138) hx hb dX1_two_131 (by decide) (fun c_22 => ?_) (fun c_22 => ?_)
                  · skip
                    have c_22 : ¬ ((sf (tp + 1)) = ((1 : Int32).toInt64)) := fun h => c_22 ((lg_cmp_eq (sf (tp + 1)) ((1 : Int32).toInt64)).mpr h)
                    refine lv_iconst (v := 0) hx hb dX1_two_138 (by decide) ?_
                    exact W.eq (by unfold anI; rw [if_pos c_20, if_neg c_21, if_neg c_22]) (mg_11 _ _ hP hD hS)
                  · skip
                    have c_22 : (sf (tp + 1)) = ((1 : Int32).toInt64) := (lg_cmp_eq (sf (tp + 1)) ((1 : Int32).toInt64)).mp c_22
                    refine lv_iconst (v := 1) hx hb dX1_two_134 (by decide) ?_
                    refine lv_goto (tgt := 139) hx hb dX1_two_135 (by decide) ?_
                    exact W.eq (by unfold anI; rw [if_pos c_20, if_neg c_21, if_pos c_22]) (mg_11 _ _ hP hD hS)
              · skip
                refine lv_lload_n hx hb dX1_two_112 rfl (lv_at hl 4 rfl) ?_
                refine lv_iload hx hb dX1_two_113 (lv_at hl 0 rfl) ?_
                refine lv_i2l hx hb dX1_two_115 rfl ?_
                refine W.lcmp hx hb dX1_two_116 ?_
                refine lv_if_eq (tgt := 134) hx hb dX1_two_117 (by decide) (fun c_23 => ?_) (fun c_23 => ?_)
                · skip
                  have c_23 : (sf tp) = ((1 : Int32).toInt64) := (lg_cmp_eq (sf tp) ((1 : Int32).toInt64)).mp c_23
                  refine lv_iconst (v := 1) hx hb dX1_two_134 (by decide) ?_
                  refine lv_goto (tgt := 139) hx hb dX1_two_135 (by decide) ?_
                  exact W.eq (by unfold anI; rw [if_neg c_20, if_pos c_23]) (mg_11 _ _ hP hD hS)
                · skip
                  have c_23 : ¬ ((sf tp) = ((1 : Int32).toInt64)) := fun h => c_23 ((lg_cmp_eq (sf tp) ((1 : Int32).toInt64)).mpr h)
                  refine lv_iload hx hb dX1_two_120 (lv_at hl 1 rfl) ?_
                  refine lv_if_eq (tgt := 138) hx hb dX1_two_122 (by decide) (fun c_24 => ?_) (fun c_24 => ?_)
                  · skip
                    refine lv_iconst (v := 0) hx hb dX1_two_138 (by decide) ?_
                    exact W.eq (by unfold anI; rw [if_neg c_20, if_neg c_23, if_pos c_24]) (mg_11 _ _ hP hD hS)
                  · skip
                    refine lv_lload hx hb dX1_two_125 (lv_at hl 3 rfl) ?_
                    refine lv_iload hx hb dX1_two_127 (lv_at hl 0 rfl) ?_
                    refine lv_i2l hx hb dX1_two_129 rfl ?_
                    refine W.lcmp hx hb dX1_two_130 ?_
                    refine lv_if_ne (tgt := 138) hx hb dX1_two_131 (by decide) (fun c_25 => ?_) (fun c_25 => ?_)
                    · skip
                      have c_25 : ¬ ((sf (tp + 1)) = ((1 : Int32).toInt64)) := fun h => c_25 ((lg_cmp_eq (sf (tp + 1)) ((1 : Int32).toInt64)).mpr h)
                      refine lv_iconst (v := 0) hx hb dX1_two_138 (by decide) ?_
                      exact W.eq (by unfold anI; rw [if_neg c_20, if_neg c_23, if_neg c_24, if_neg c_25]) (mg_11 _ _ hP hD hS)
                    · skip
                      have c_25 : (sf (tp + 1)) = ((1 : Int32).toInt64) := (lg_cmp_eq (sf (tp + 1)) ((1 : Int32).toInt64)).mp c_25
                      refine lv_iconst (v := 1) hx hb dX1_two_134 (by decide) ?_
                      refine lv_goto (tgt := 139) hx hb dX1_two_135 (by decide) ?_
                      exact W.eq (by unfold anI; rw [if_neg c_20, if_neg c_23, if_neg c_24, if_pos c_25]) (mg_11 _ _ hP hD hS)
            · skip
              exact absurd c_10 (by decide)
      refine lv_aload_n hx hb dX1_two_61 rfl (lv_at hl 3 rfl) ?_
      refine va_get (D := (dC, dI)) (ci := 2) (v := .ref hB1) (C := RX1) (T := TX1) (N := 13) hx hb hts (fun w h => List.mem_cons_of_mem _ (uG_X1 w h)) hown hK hP 0 rfl rfl 11 (by decide) (hts _ (List.mem_cons_of_mem _ kw_399)) (fun _ h9 => h9) rfl dX1_two_62 ?_
      refine lv_aload_n hx hb dX1_two_65 rfl (lv_at hl 3 rfl) ?_
      refine va_get (D := (dC, dI)) (ci := 2) (v := .int (nI tp)) (C := RX1) (T := TX1) (N := 13) hx hb hts (fun w h => List.mem_cons_of_mem _ (uG_X1 w h)) hown hK hP 0 rfl rfl 12 (by decide) (hts _ (List.mem_cons_of_mem _ kw_400)) (fun _ h9 => h9) rfl dX1_two_66 ?_
      refine lv_iconst (v := 1) hx hb dX1_two_69 (by decide) ?_
      refine lv_iadd hx hb dX1_two_70 ?_
      refine lv_topi (fun x_26 ex_26 => ?_)
      have ex_26 : x_26 = nI (tp + 1) := ex_26.trans (nI_add tp 1)
      subst ex_26
      refine va_bald hx hb hK hP 2 0 rfl rfl (i := (nI (tp + 1))) (vp_in_nI (n := tp + 1) (N := N) (by omega) (by omega)) dX1_two_71 ?_
      refine lv_topi (fun x_27 ex_27 => ?_)
      have ex_27 : x_27 = bf (tp + 1) := ex_27.trans (congrArg bf (nI_clamp (n := tp + 1) (by omega)))
      subst ex_27
      refine lv_if_ne (tgt := 79) hx hb dX1_two_72 (by decide) (fun c_28 => ?_) (fun c_28 => ?_)
      · skip
        refine lv_iconst (v := 0) hx hb dX1_two_79 (by decide) ?_
        exact W.eq (by unfold thI; rw [if_neg c_28]) (mg_7 _ _ hP hD hS)
      · skip
        refine lv_iconst (v := 1) hx hb dX1_two_75 (by decide) ?_
        refine lv_goto (tgt := 80) hx hb dX1_two_76 (by decide) ?_
        exact W.eq (by unfold thI; rw [if_pos c_28]) (mg_7 _ _ hP hD hS)
    refine lv_aload_n hx hb dX1_two_42 rfl (lv_at hl 2 rfl) ?_
    refine va_get (D := (dC, dI)) (ci := 2) (v := .ref hB1) (C := RX1) (T := TX1) (N := 13) hx hb hts (fun w h => List.mem_cons_of_mem _ (uG_X1 w h)) hown hK hP 0 rfl rfl 11 (by decide) (hts _ (List.mem_cons_of_mem _ kw_399)) (fun _ h9 => h9) rfl dX1_two_43 ?_
    refine lv_aload_n hx hb dX1_two_46 rfl (lv_at hl 2 rfl) ?_
    refine va_get (D := (dC, dI)) (ci := 2) (v := .int (nI tp)) (C := RX1) (T := TX1) (N := 13) hx hb hts (fun w h => List.mem_cons_of_mem _ (uG_X1 w h)) hown hK hP 0 rfl rfl 12 (by decide) (hts _ (List.mem_cons_of_mem _ kw_400)) (fun _ h9 => h9) rfl dX1_two_47 ?_
    refine va_bald hx hb hK hP 2 0 rfl rfl (i := (nI tp)) (vp_in_nI (n := tp) (N := N) (by omega) (by omega)) dX1_two_50 ?_
    refine lv_topi (fun x_29 ex_29 => ?_)
    have ex_29 : x_29 = bf tp := ex_29.trans (congrArg bf (nI_clamp (n := tp) (by omega)))
    subst ex_29
    refine lv_if_ne (tgt := 58) hx hb dX1_two_51 (by decide) (fun c_30 => ?_) (fun c_30 => ?_)
    · skip
      refine lv_iconst (v := 0) hx hb dX1_two_58 (by decide) ?_
      exact W.eq (by unfold thI; rw [if_neg c_30]) (mg_6 _ _ hP hD hS)
    · skip
      refine lv_iconst (v := 1) hx hb dX1_two_54 (by decide) ?_
      refine lv_goto (tgt := 59) hx hb dX1_two_55 (by decide) ?_
      exact W.eq (by unfold thI; rw [if_pos c_30]) (mg_6 _ _ hP hD hS)
  · skip
    have c_1 : ¬ (2 ≤ tp + 2) := fun h => c_1 ((nI_leI (a := 2) (b := tp + 2) (by omega) (by omega)).mpr h)
    exact absurd (show 2 ≤ tp + 2 by omega) c_1
theorem dX1_one_0 : decode cX1_one 0 = .ok (.aload_n 0, 1) := by decide +kernel
theorem dX1_one_1 : decode cX1_one 1 = .ok (.getfield 62, 3) := by decide +kernel
theorem dX1_one_4 : decode cX1_one 4 = .ok (.iconst 1, 1) := by decide +kernel
theorem dX1_one_5 : decode cX1_one 5 = .ok (.if_icmp .ge 4, 3) := by decide +kernel
theorem dX1_one_9 : decode cX1_one 9 = .ok (.aload_n 0, 1) := by decide +kernel
theorem dX1_one_10 : decode cX1_one 10 = .ok (.dup, 1) := by decide +kernel
theorem dX1_one_11 : decode cX1_one 11 = .ok (.getfield 62, 3) := by decide +kernel
theorem dX1_one_14 : decode cX1_one 14 = .ok (.iconst 1, 1) := by decide +kernel
theorem dX1_one_15 : decode cX1_one 15 = .ok (.isub, 1) := by decide +kernel
theorem dX1_one_16 : decode cX1_one 16 = .ok (.putfield 62, 3) := by decide +kernel
theorem dX1_one_19 : decode cX1_one 19 = .ok (.aload_n 0, 1) := by decide +kernel
theorem dX1_one_20 : decode cX1_one 20 = .ok (.getfield 46, 3) := by decide +kernel
theorem dX1_one_23 : decode cX1_one 23 = .ok (.aload_n 0, 1) := by decide +kernel
theorem dX1_one_24 : decode cX1_one 24 = .ok (.getfield 62, 3) := by decide +kernel
theorem dX1_one_27 : decode cX1_one 27 = .ok (.laload, 1) := by decide +kernel
theorem dX1_one_28 : decode cX1_one 28 = .ok (.lstore_n 2, 1) := by decide +kernel
theorem dX1_one_29 : decode cX1_one 29 = .ok (.aload_n 0, 1) := by decide +kernel
theorem dX1_one_30 : decode cX1_one 30 = .ok (.getfield 49, 3) := by decide +kernel
theorem dX1_one_33 : decode cX1_one 33 = .ok (.aload_n 0, 1) := by decide +kernel
theorem dX1_one_34 : decode cX1_one 34 = .ok (.getfield 62, 3) := by decide +kernel
theorem dX1_one_37 : decode cX1_one 37 = .ok (.baload, 1) := by decide +kernel
theorem dX1_one_38 : decode cX1_one 38 = .ok (.istore 4, 2) := by decide +kernel
theorem dX1_one_40 : decode cX1_one 40 = .ok (.iload_n 1, 1) := by decide +kernel
theorem dX1_one_41 : decode cX1_one 41 = .ok (.lookupswitch 69 #[(24, 58), (25, 35), (58, 47)], 35) := by decide +kernel
theorem dX1_one_76 : decode cX1_one 76 = .ok (.aload_n 0, 1) := by decide +kernel
theorem dX1_one_77 : decode cX1_one 77 = .ok (.lconst 1, 1) := by decide +kernel
theorem dX1_one_78 : decode cX1_one 78 = .ok (.lload_n 2, 1) := by decide +kernel
theorem dX1_one_79 : decode cX1_one 79 = .ok (.lsub, 1) := by decide +kernel
theorem dX1_one_80 : decode cX1_one 80 = .ok (.iload 4, 2) := by decide +kernel
theorem dX1_one_82 : decode cX1_one 82 = .ok (.invokevirtual 69, 3) := by decide +kernel
theorem dX1_one_85 : decode cX1_one 85 = .ok (.goto 35, 3) := by decide +kernel
theorem dX1_one_120 : decode cX1_one 120 = .ok (.return_, 1) := by decide +kernel
abbrev cs_t_one_not (cB cI cJ cZ : ClassId) (h0 hS1 hB1 : Nat) (sz1 : Int32) (k1 k2 k3 k4 k5 k6 k7 k8 k9 : Value) (N : Nat) (sf : Nat → Int64) (bf : Nat → Int32) (tp : Nat) : va_W := [(h0, .inr (2, [.int sz1, k1, k2, k3, k4, k5, k6, k7, k8, k9, .ref hS1, .ref hB1, .int (nI (tp + 1))])), (hS1, .inl (cJ, N, .inr (.inl sf))), (hB1, .inl (cB, N, .inl bf))]
abbrev pc_t_one_not (dC : Nat → ClassId) (dI : Nat → Nat → Nat) (sz : Nat) (cB cI cJ cZ : ClassId) (h0 hS1 hB1 : Nat) (sz1 : Int32) (k1 k2 k3 k4 k5 k6 k7 k8 k9 : Value) (N : Nat) (sf : Nat → Int64) (bf : Nat → Int32) (tp : Nat) : Array Value → State → Prop := va_Pc [.ref h0, .int 25] (fun U => U.heap.size = sz ∧ va_P (dC, dI) vwCl [(h0, .inr (2, [.int sz1, k1, k2, k3, k4, k5, k6, k7, k8, k9, .ref hS1, .ref hB1, .int (nI (tp + 1))])), (hS1, .inl (cJ, N, .inr (.inl sf))), (hB1, .inl (cB, N, .inl bf))] U.heap ∧ va_K (dC, dI) vwCl [(cB, .byte), (cI, .int), (cJ, .long), (cZ, .boolean)] U ∧ va_D (fun _ => True) [(h0, .inr (2, [.int sz1, k1, k2, k3, k4, k5, k6, k7, k8, k9, .ref hS1, .ref hB1, .int (nI (tp + 1))])), (hS1, .inl (cJ, N, .inr (.inl sf))), (hB1, .inl (cB, N, .inl bf))])
abbrev qc_t_one_not (dC : Nat → ClassId) (dI : Nat → Nat → Nat) (cB cI cJ cZ : ClassId) (h0 hS1 hB1 : Nat) (sz1 : Int32) (k1 k2 k3 k4 k5 k6 k7 k8 k9 : Value) (N : Nat) (sf : Nat → Int64) (bf : Nat → Int32) (tp : Nat) (A : Nat → Prop) : Array Value → State → Outcome → State → Prop := va_Qv (fun (u : Unit) => match u with | _ => True) (fun (u : Unit) t_ => match u with | _ => va_P (dC, dI) vwCl [(h0, .inr (2, [.int sz1, k1, k2, k3, k4, k5, k6, k7, k8, k9, .ref hS1, .ref hB1, .int (nI (tp + 1))])), (hS1, .inl (cJ, N, .inr (.inl (vp_updL sf tp (pv (1 - sf tp) (bf tp)))))), (hB1, .inl (cB, N, .inl (upd bf tp (pb (bf tp)))))] t_.heap ∧ va_K (dC, dI) vwCl [(cB, .byte), (cI, .int), (cJ, .long), (cZ, .boolean)] t_ ∧ va_D A [(h0, .inr (2, [.int sz1, k1, k2, k3, k4, k5, k6, k7, k8, k9, .ref hS1, .ref hB1, .int (nI (tp + 1))])), (hS1, .inl (cJ, N, .inr (.inl (vp_updL sf tp (pv (1 - sf tp) (bf tp)))))), (hB1, .inl (cB, N, .inl (upd bf tp (pb (bf tp)))))]) A
set_option maxHeartbeats 4000000 in
set_option maxRecDepth 100000 in
theorem t_one_not (l : Launch) (dC : Nat → ClassId) (dI : Nat → Nat → Nat) (sz : Nat) (cB cI cJ cZ : ClassId) (h0 hS1 hB1 : Nat) (sz1 : Int32) (k1 k2 k3 k4 k5 k6 k7 k8 k9 : Value) (N : Nat) (sf : Nat → Int64) (bf : Nat → Int32) (tp : Nat) (hN : N < 1000000) (htp : tp + 1 ≤ N) : Met l yX1_one (wsOf yX1_one cX1_one 5 none) ({ frames := 1, cells := 0, slots := 0, locals := 24 }) (pc_t_one_not dC dI sz cB cI cJ cZ h0 hS1 hB1 sz1 k1 k2 k3 k4 k5 k6 k7 k8 k9 N sf bf tp) (qc_t_one_not dC dI cB cI cJ cZ h0 hS1 hB1 sz1 k1 k2 k3 k4 k5 k6 k7 k8 k9 N sf bf tp (va_A (cs_t_one_not cB cI cJ cZ h0 hS1 hB1 sz1 k1 k2 k3 k4 k5 k6 k7 k8 k9 N sf bf tp) sz)) 0 0 (va_A (cs_t_one_not cB cI cJ cZ h0 hS1 hB1 sz1 k1 k2 k3 k4 k5 k6 k7 k8 k9 N sf bf tp) sz) := by
  refine Met.ofW (cc := cX1_one) (maxL := 5) (ret := none) (by decide) rfl ?_
  intro p e s m args below meth c s₁ B hml hv
  obtain ⟨rfl, hsz, hP, hK, hD0⟩ := hv
  have hx := B.exec
  have hb := B.bytes
  have hr := B.returns
  have hts := atoms_spec (ws := (wsOf yX1_one cX1_one 5 none)) B.pre
  have hown : s.vm.findClass RX1 = some m.cls := findClass_of_methodNamed B.named
  have hlocks := B.notSynchronized
  subst hsz
  have hD := hD0.self (sz := s.heap.size)
  generalize hAe : va_A (cs_t_one_not cB cI cJ cZ h0 hS1 hB1 sz1 k1 k2 k3 k4 k5 k6 k7 k8 k9 N sf bf tp) s.heap.size = A at hD ⊢
  have hA : ∀ q : Nat, s.heap.size ≤ q → A q := fun q h => by rw [← hAe]; exact Or.inr h
  have hS : va_S A s.heap s.heap [] := va_S.rf
  have hP : va_P (dC, dI) vwCl [(h0, .inr (2, [.int sz1, k1, k2, k3, k4, k5, k6, k7, k8, k9, .ref hS1, .ref hB1, .int (nI (tp + 1))])), (hS1, .inl (cJ, N, .inr (.inl sf))), (hB1, .inl (cB, N, .inl bf))] s.heap := hP
  have hl := lv_entry ([.ref h0, .int 25]) (n := 5) (Nat.le_of_ble_eq_true rfl)
  rw [lg_entry_eq]
  generalize (lg_sl ([.ref h0, .int 25]) ++ List.replicate (5 - (lg_sl ([.ref h0, .int 25])).length) Slot.unset).toArray = ls at hl ⊢
  have hl : lv_has ls 5 [(0, .ref h0), (1, .int 25)] := hl
  refine lv_aload_n hx hb dX1_one_0 rfl (lv_at hl 0 rfl) ?_
  refine va_get (D := (dC, dI)) (ci := 2) (v := .int (nI (tp + 1))) (C := RX1) (T := TX1) (N := 13) hx hb hts (fun w h => List.mem_cons_of_mem _ (uG_X1 w h)) hown hK hP 0 rfl rfl 12 (by decide) (hts _ (List.mem_cons_of_mem _ kw_400)) (fun _ h9 => h9) rfl dX1_one_1 ?_
  refine lv_iconst (v := 1) hx hb dX1_one_4 (by decide) ?_
  refine lv_icmp_ge (tgt := 9) hx hb dX1_one_5 (by decide) (fun c_1 => ?_) (fun c_1 => ?_)
  · skip
    have c_1 : 1 ≤ tp + 1 := (nI_leI (a := 1) (b := tp + 1) (by omega) (by omega)).mp c_1
    refine lv_aload_n hx hb dX1_one_9 rfl (lv_at hl 0 rfl) ?_
    refine lv_dup hx hb dX1_one_10 rfl ?_
    refine va_get (D := (dC, dI)) (ci := 2) (v := .int (nI (tp + 1))) (C := RX1) (T := TX1) (N := 13) hx hb hts (fun w h => List.mem_cons_of_mem _ (uG_X1 w h)) hown hK hP 0 rfl rfl 12 (by decide) (hts _ (List.mem_cons_of_mem _ kw_400)) (fun _ h9 => h9) rfl dX1_one_11 ?_
    refine lv_iconst (v := 1) hx hb dX1_one_14 (by decide) ?_
    refine lv_isub hx hb dX1_one_15 ?_
    refine lv_topi (fun x_2 ex_2 => ?_)
    have ex_2 : x_2 = nI tp := by exact ex_2.trans (pk_sub (a := tp + 1) (b := 1) (by omega))
    subst ex_2
    refine va_put (D := (dC, dI)) (ci := 2) (v := .int (nI tp)) (ty := .int) (C := RX1) (T := TX1) (N := 13) hx hb hts (fun w h => List.mem_cons_of_mem _ (uG_X1 w h)) tyX1 tyX1_ok nmX1 hown hK hP hD hS 0 rfl rfl 12 (by decide) (hts _ (List.mem_cons_of_mem _ kw_400)) (fun _ h9 => h9) rfl (by decide +kernel) rfl rfl (Nat.le_of_ble_eq_true rfl) dX1_one_16 (fun H locs hP hD hS => ?_)
    have hP : va_P (dC, dI) vwCl [(h0, .inr (2, [.int sz1, k1, k2, k3, k4, k5, k6, k7, k8, k9, .ref hS1, .ref hB1, .int (nI tp)])), (hS1, .inl (cJ, N, .inr (.inl sf))), (hB1, .inl (cB, N, .inl bf))] H := hP
    have hD : va_D A [(h0, .inr (2, [.int sz1, k1, k2, k3, k4, k5, k6, k7, k8, k9, .ref hS1, .ref hB1, .int (nI tp)])), (hS1, .inl (cJ, N, .inr (.inl sf))), (hB1, .inl (cB, N, .inl bf))] := hD
    refine lv_aload_n hx hb dX1_one_19 rfl (lv_at hl 0 rfl) ?_
    refine va_get (D := (dC, dI)) (ci := 2) (v := .ref hS1) (C := RX1) (T := TX1) (N := 13) hx hb hts (fun w h => List.mem_cons_of_mem _ (uG_X1 w h)) hown hK hP 0 rfl rfl 10 (by decide) (hts _ (List.mem_cons_of_mem _ kw_398)) (fun _ h9 => h9) rfl dX1_one_20 ?_
    refine lv_aload_n hx hb dX1_one_23 rfl (lv_at hl 0 rfl) ?_
    refine va_get (D := (dC, dI)) (ci := 2) (v := .int (nI tp)) (C := RX1) (T := TX1) (N := 13) hx hb hts (fun w h => List.mem_cons_of_mem _ (uG_X1 w h)) hown hK hP 0 rfl rfl 12 (by decide) (hts _ (List.mem_cons_of_mem _ kw_400)) (fun _ h9 => h9) rfl dX1_one_24 ?_
    refine va_lald hx hb hK hP 1 2 rfl rfl (i := (nI tp)) (vp_in_nI (n := tp) (N := N) (by omega) (by omega)) dX1_one_27 ?_
    refine lv_topl (fun x_3 ex_3 => ?_)
    have ex_3 : x_3 = sf tp := ex_3.trans (congrArg sf (nI_clamp (n := tp) (by omega)))
    subst ex_3
    refine lv_lstore_n (lv' := [(2, .long (sf tp)), (0, .ref h0), (1, .int 25)]) hx hb dX1_one_28 rfl hl (by decide) rfl (fun ls hl => ?_)
    refine lv_aload_n hx hb dX1_one_29 rfl (lv_at hl 1 rfl) ?_
    refine va_get (D := (dC, dI)) (ci := 2) (v := .ref hB1) (C := RX1) (T := TX1) (N := 13) hx hb hts (fun w h => List.mem_cons_of_mem _ (uG_X1 w h)) hown hK hP 0 rfl rfl 11 (by decide) (hts _ (List.mem_cons_of_mem _ kw_399)) (fun _ h9 => h9) rfl dX1_one_30 ?_
    refine lv_aload_n hx hb dX1_one_33 rfl (lv_at hl 1 rfl) ?_
    refine va_get (D := (dC, dI)) (ci := 2) (v := .int (nI tp)) (C := RX1) (T := TX1) (N := 13) hx hb hts (fun w h => List.mem_cons_of_mem _ (uG_X1 w h)) hown hK hP 0 rfl rfl 12 (by decide) (hts _ (List.mem_cons_of_mem _ kw_400)) (fun _ h9 => h9) rfl dX1_one_34 ?_
    refine va_bald hx hb hK hP 2 0 rfl rfl (i := (nI tp)) (vp_in_nI (n := tp) (N := N) (by omega) (by omega)) dX1_one_37 ?_
    refine lv_topi (fun x_4 ex_4 => ?_)
    have ex_4 : x_4 = bf tp := ex_4.trans (congrArg bf (nI_clamp (n := tp) (by omega)))
    subst ex_4
    refine lv_istore (lv' := [(4, .int (bf tp)), (2, .long (sf tp)), (0, .ref h0), (1, .int 25)]) hx hb dX1_one_38 hl (by decide) rfl (fun ls hl => ?_)
    refine lv_iload_n hx hb dX1_one_40 rfl (lv_at hl 3 rfl) ?_
    refine lv_lookup (tgt := 76) (off := 35) hx hb dX1_one_41 (by decide) (by decide) (by decide) ?_
    refine lv_aload_n hx hb dX1_one_76 rfl (lv_at hl 2 rfl) ?_
    refine lv_lconst (v := 1) hx hb dX1_one_77 (by decide) ?_
    refine lv_lload_n hx hb dX1_one_78 rfl (lv_at hl 1 rfl) ?_
    refine lv_lsub hx hb dX1_one_79 ?_
    refine lv_iload hx hb dX1_one_80 (lv_at hl 0 rfl) ?_
    have hPc := hP.sub (ws' := [(h0, .inr (2, [.int sz1, k1, k2, k3, k4, k5, k6, k7, k8, k9, .ref hS1, .ref hB1, .int (nI tp)])), (hS1, .inl (cJ, N, .inr (.inl sf))), (hB1, .inl (cB, N, .inl bf))]) [0, 1, 2] rfl
    have hDc := hD.sub (ws' := [(h0, .inr (2, [.int sz1, k1, k2, k3, k4, k5, k6, k7, k8, k9, .ref hS1, .ref hB1, .int (nI tp)])), (hS1, .inl (cJ, N, .inr (.inl sf))), (hB1, .inl (cB, N, .inl bf))]) [0, 1, 2] (by decide) rfl
    have hKc := hK.sub (tys' := [(cB, .byte), (cI, .int), (cJ, .long), (cZ, .boolean)]) [0, 1, 2, 3] rfl
    have hFc := va_free (wc := [(h0, .inr (2, [.int sz1, k1, k2, k3, k4, k5, k6, k7, k8, k9, .ref hS1, .ref hB1, .int (nI tp)])), (hS1, .inl (cJ, N, .inr (.inl sf))), (hB1, .inl (cB, N, .inl bf))]) hD hS hA [0, 1, 2] rfl
    refine va_callv (va_runV (As := [.long (1 - (sf tp)), .int (bf tp)]) (rest := []) ⟨hx, hb, hml, hown, hts⟩ (t_X1_push l dC dI H.size cB cI cJ cZ h0 hS1 hB1 sz1 k1 k2 k3 k4 k5 k6 k7 k8 k9 N sf bf tp (1 - (sf tp)) (bf tp) (by omega) (by omega)) (cwV 2 hts (gd_all (in_V kw_1415 kw_1417 kw_73 kw_189 kc_X1_push)) rfl rfl rfl (by decide +kernel) ⟨Nat.le_of_ble_eq_true rfl, Nat.le_of_ble_eq_true rfl⟩) ⟨fun a U g mk q => by obtain ⟨q0, q1, qP, qK, qD⟩ := q; exact ⟨q0, q1, qP, va_K.moved (u := U) (U := U.calling g mk a) (Vm.Alike.refl U.vm) qK, qD⟩, va_recv hKc hPc (ci := 2) (q0 := 0) rfl rfl, fun U hU hW => ⟨rfl, by rw [hU], by rw [hU]; exact hPc, va_K.moved hW.alike hKc, hDc.weaken (fun _ _ _ _ => trivial)⟩⟩ rfl rfl hl.1 rfl (lv_room (Nat.le_of_ble_eq_true rfl)) dX1_one_82 ⟨Nat.le_of_ble_eq_true rfl, Nat.le_of_ble_eq_true rfl⟩) hS (fun q _ h => hFc q h) hFc (fun u t_ H1 locs ht hvm hw hB hz1 hk1 hS => ?_)
    obtain ⟨hP1, hK1, hD1⟩ := hB
    rw [ht] at hP1
    have hK1 := va_K.moved hvm.symm hK1
    obtain ⟨hP, hD⟩ := va_join (wr := []) (w1 := [(h0, .inr (2, [.int sz1, k1, k2, k3, k4, k5, k6, k7, k8, k9, .ref hS1, .ref hB1, .int (nI (tp + 1))])), (hS1, .inl (cJ, N, .inr (.inl (vp_updL sf tp (pv (1 - (sf tp)) (bf tp)))))), (hB1, .inl (cB, N, .inl (upd bf tp (pb (bf tp)))))]) hP hD [0, 1, 2] [] rfl rfl (by decide) (by decide) hk1 hFc hP1 hD1
    have hK := (hK.sub (tys' := []) [] rfl).app hK1
    generalize H1 = H at hP hS ⊢
    have hP : va_P (dC, dI) vwCl [(h0, .inr (2, [.int sz1, k1, k2, k3, k4, k5, k6, k7, k8, k9, .ref hS1, .ref hB1, .int (nI (tp + 1))])), (hS1, .inl (cJ, N, .inr (.inl (vp_updL sf tp (pv (1 - (sf tp)) (bf tp)))))), (hB1, .inl (cB, N, .inl (upd bf tp (pb (bf tp)))))] H := hP
    have hD : va_D A [(h0, .inr (2, [.int sz1, k1, k2, k3, k4, k5, k6, k7, k8, k9, .ref hS1, .ref hB1, .int (nI (tp + 1))])), (hS1, .inl (cJ, N, .inr (.inl (vp_updL sf tp (pv (1 - (sf tp)) (bf tp)))))), (hB1, .inl (cB, N, .inl (upd bf tp (pb (bf tp)))))] := hD
    have hK : va_K (dC, dI) vwCl [(cB, .byte), (cI, .int), (cJ, .long), (cZ, .boolean)] s := hK
    refine lv_goto (tgt := 120) hx hb dX1_one_85 (by decide) ?_
    have hP9 := hP.sub (ws' := [(h0, .inr (2, [.int sz1, k1, k2, k3, k4, k5, k6, k7, k8, k9, .ref hS1, .ref hB1, .int (nI (tp + 1))])), (hS1, .inl (cJ, N, .inr (.inl (vp_updL sf tp (pv (1 - (sf tp)) (bf tp)))))), (hB1, .inl (cB, N, .inl (upd bf tp (pb (bf tp)))))]) [0, 1, 2] rfl
    have hD9 := hD.sub (ws' := [(h0, .inr (2, [.int sz1, k1, k2, k3, k4, k5, k6, k7, k8, k9, .ref hS1, .ref hB1, .int (nI (tp + 1))])), (hS1, .inl (cJ, N, .inr (.inl (vp_updL sf tp (pv (1 - (sf tp)) (bf tp)))))), (hB1, .inl (cB, N, .inl (upd bf tp (pb (bf tp)))))]) [0, 1, 2] (by decide) rfl
    have hK9 := hK.sub (tys' := [(cB, .byte), (cI, .int), (cJ, .long), (cZ, .boolean)]) [0, 1, 2, 3] rfl
    exact W.vret hx hb hr (fun t_ ht hW => ⟨⟨(), rfl, trivial, by rw [ht]; exact hP9, va_K.moved hW.alike hK9, hD9⟩, hS.F ht⟩) hS.2.2 dX1_one_120
  · skip
    have c_1 : ¬ (1 ≤ tp + 1) := fun h => c_1 ((nI_leI (a := 1) (b := tp + 1) (by omega) (by omega)).mpr h)
    exact absurd (show 1 ≤ tp + 1 by omega) c_1

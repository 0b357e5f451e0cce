/-! the reference, mirrored: take, query, row, back, watermark -/
theorem dX12_row_0 : decode cX12_row 0 = .ok (.aload_n 0, 1) := by decide +kernel
theorem dX12_row_1 : decode cX12_row 1 = .ok (.getfield 268, 3) := by decide +kernel
theorem dX12_row_4 : decode cX12_row 4 = .ok (.istore 4, 2) := by decide +kernel
theorem dX12_row_6 : decode cX12_row 6 = .ok (.aload_n 0, 1) := by decide +kernel
theorem dX12_row_7 : decode cX12_row 7 = .ok (.iconst 0, 1) := by decide +kernel
theorem dX12_row_8 : decode cX12_row 8 = .ok (.putfield 268, 3) := by decide +kernel
theorem dX12_row_11 : decode cX12_row 11 = .ok (.aload_n 0, 1) := by decide +kernel
theorem dX12_row_12 : decode cX12_row 12 = .ok (.iconst 0, 1) := by decide +kernel
theorem dX12_row_13 : decode cX12_row 13 = .ok (.putfield 271, 3) := by decide +kernel
theorem dX12_row_16 : decode cX12_row 16 = .ok (.iload_n 1, 1) := by decide +kernel
theorem dX12_row_17 : decode cX12_row 17 = .ok (.ifCond .lt 22, 3) := by decide +kernel
theorem dX12_row_20 : decode cX12_row 20 = .ok (.iload_n 1, 1) := by decide +kernel
theorem dX12_row_21 : decode cX12_row 21 = .ok (.aload_n 0, 1) := by decide +kernel
theorem dX12_row_22 : decode cX12_row 22 = .ok (.getfield 261, 3) := by decide +kernel
theorem dX12_row_25 : decode cX12_row 25 = .ok (.if_icmp .ge 14, 3) := by decide +kernel
theorem dX12_row_28 : decode cX12_row 28 = .ok (.iload 4, 2) := by decide +kernel
theorem dX12_row_30 : decode cX12_row 30 = .ok (.aload_n 0, 1) := by decide +kernel
theorem dX12_row_31 : decode cX12_row 31 = .ok (.getfield 16, 3) := by decide +kernel
theorem dX12_row_34 : decode cX12_row 34 = .ok (.iload_n 1, 1) := by decide +kernel
theorem dX12_row_35 : decode cX12_row 35 = .ok (.iaload, 1) := by decide +kernel
theorem dX12_row_36 : decode cX12_row 36 = .ok (.if_icmp .eq 5, 3) := by decide +kernel
theorem dX12_row_39 : decode cX12_row 39 = .ok (.iconst (-1), 1) := by decide +kernel
theorem dX12_row_40 : decode cX12_row 40 = .ok (.ireturn, 1) := by decide +kernel
theorem dX12_row_41 : decode cX12_row 41 = .ok (.iconst 0, 1) := by decide +kernel
theorem dX12_row_42 : decode cX12_row 42 = .ok (.istore 5, 2) := by decide +kernel
theorem dX12_row_44 : decode cX12_row 44 = .ok (.iload 5, 2) := by decide +kernel
theorem dX12_row_46 : decode cX12_row 46 = .ok (.bipush 8, 2) := by decide +kernel
theorem dX12_row_48 : decode cX12_row 48 = .ok (.if_icmp .ge 24, 3) := by decide +kernel
theorem dX12_row_51 : decode cX12_row 51 = .ok (.aload_n 0, 1) := by decide +kernel
theorem dX12_row_52 : decode cX12_row 52 = .ok (.getfield 20, 3) := by decide +kernel
theorem dX12_row_55 : decode cX12_row 55 = .ok (.bipush 8, 2) := by decide +kernel
theorem dX12_row_57 : decode cX12_row 57 = .ok (.iload_n 1, 1) := by decide +kernel
theorem dX12_row_58 : decode cX12_row 58 = .ok (.imul, 1) := by decide +kernel
theorem dX12_row_59 : decode cX12_row 59 = .ok (.iload 5, 2) := by decide +kernel
theorem dX12_row_61 : decode cX12_row 61 = .ok (.iadd, 1) := by decide +kernel
theorem dX12_row_62 : decode cX12_row 62 = .ok (.baload, 1) := by decide +kernel
theorem dX12_row_63 : decode cX12_row 63 = .ok (.ifCond .eq 9, 3) := by decide +kernel
theorem dX12_row_66 : decode cX12_row 66 = .ok (.iinc 5 1, 3) := by decide +kernel
theorem dX12_row_69 : decode cX12_row 69 = .ok (.goto (-25), 3) := by decide +kernel
theorem dX12_row_72 : decode cX12_row 72 = .ok (.iload 5, 2) := by decide +kernel
theorem dX12_row_74 : decode cX12_row 74 = .ok (.bipush 8, 2) := by decide +kernel
theorem dX12_row_76 : decode cX12_row 76 = .ok (.if_icmp .ne 5, 3) := by decide +kernel
theorem dX12_row_79 : decode cX12_row 79 = .ok (.iconst (-1), 1) := by decide +kernel
theorem dX12_row_80 : decode cX12_row 80 = .ok (.ireturn, 1) := by decide +kernel
theorem dX12_row_81 : decode cX12_row 81 = .ok (.bipush 8, 2) := by decide +kernel
theorem dX12_row_83 : decode cX12_row 83 = .ok (.iload_n 1, 1) := by decide +kernel
theorem dX12_row_84 : decode cX12_row 84 = .ok (.imul, 1) := by decide +kernel
theorem dX12_row_85 : decode cX12_row 85 = .ok (.iload 5, 2) := by decide +kernel
theorem dX12_row_87 : decode cX12_row 87 = .ok (.iadd, 1) := by decide +kernel
theorem dX12_row_88 : decode cX12_row 88 = .ok (.istore 6, 2) := by decide +kernel
theorem dX12_row_90 : decode cX12_row 90 = .ok (.aload_n 0, 1) := by decide +kernel
theorem dX12_row_91 : decode cX12_row 91 = .ok (.getfield 20, 3) := by decide +kernel
theorem dX12_row_94 : decode cX12_row 94 = .ok (.iload 6, 2) := by decide +kernel
theorem dX12_row_96 : decode cX12_row 96 = .ok (.iconst 1, 1) := by decide +kernel
theorem dX12_row_97 : decode cX12_row 97 = .ok (.bastore, 1) := by decide +kernel
theorem dX12_row_98 : decode cX12_row 98 = .ok (.aload_n 0, 1) := by decide +kernel
theorem dX12_row_99 : decode cX12_row 99 = .ok (.getfield 24, 3) := by decide +kernel
theorem dX12_row_102 : decode cX12_row 102 = .ok (.iload 6, 2) := by decide +kernel
theorem dX12_row_104 : decode cX12_row 104 = .ok (.lload_n 2, 1) := by decide +kernel
theorem dX12_row_105 : decode cX12_row 105 = .ok (.lastore, 1) := by decide +kernel
theorem dX12_row_106 : decode cX12_row 106 = .ok (.iconst 0, 1) := by decide +kernel
theorem dX12_row_107 : decode cX12_row 107 = .ok (.istore 7, 2) := by decide +kernel
theorem dX12_row_109 : decode cX12_row 109 = .ok (.iload 7, 2) := by decide +kernel
theorem dX12_row_111 : decode cX12_row 111 = .ok (.iload 4, 2) := by decide +kernel
theorem dX12_row_113 : decode cX12_row 113 = .ok (.if_icmp .ge 47, 3) := by decide +kernel
theorem dX12_row_116 : decode cX12_row 116 = .ok (.aload_n 0, 1) := by decide +kernel
theorem dX12_row_117 : decode cX12_row 117 = .ok (.getfield 28, 3) := by decide +kernel
theorem dX12_row_120 : decode cX12_row 120 = .ok (.iconst 4, 1) := by decide +kernel
theorem dX12_row_121 : decode cX12_row 121 = .ok (.iload 6, 2) := by decide +kernel
theorem dX12_row_123 : decode cX12_row 123 = .ok (.imul, 1) := by decide +kernel
theorem dX12_row_124 : decode cX12_row 124 = .ok (.iload 7, 2) := by decide +kernel
theorem dX12_row_126 : decode cX12_row 126 = .ok (.iadd, 1) := by decide +kernel
theorem dX12_row_127 : decode cX12_row 127 = .ok (.aload_n 0, 1) := by decide +kernel
theorem dX12_row_128 : decode cX12_row 128 = .ok (.getfield 34, 3) := by decide +kernel
theorem dX12_row_131 : decode cX12_row 131 = .ok (.iload 7, 2) := by decide +kernel
theorem dX12_row_133 : decode cX12_row 133 = .ok (.laload, 1) := by decide +kernel
theorem dX12_row_134 : decode cX12_row 134 = .ok (.lastore, 1) := by decide +kernel
theorem dX12_row_135 : decode cX12_row 135 = .ok (.aload_n 0, 1) := by decide +kernel
theorem dX12_row_136 : decode cX12_row 136 = .ok (.getfield 31, 3) := by decide +kernel
theorem dX12_row_139 : decode cX12_row 139 = .ok (.iconst 4, 1) := by decide +kernel
theorem dX12_row_140 : decode cX12_row 140 = .ok (.iload 6, 2) := by decide +kernel
theorem dX12_row_142 : decode cX12_row 142 = .ok (.imul, 1) := by decide +kernel
theorem dX12_row_143 : decode cX12_row 143 = .ok (.iload 7, 2) := by decide +kernel
theorem dX12_row_145 : decode cX12_row 145 = .ok (.iadd, 1) := by decide +kernel
theorem dX12_row_146 : decode cX12_row 146 = .ok (.aload_n 0, 1) := by decide +kernel
theorem dX12_row_147 : decode cX12_row 147 = .ok (.getfield 37, 3) := by decide +kernel
theorem dX12_row_150 : decode cX12_row 150 = .ok (.iload 7, 2) := by decide +kernel
theorem dX12_row_152 : decode cX12_row 152 = .ok (.baload, 1) := by decide +kernel
theorem dX12_row_153 : decode cX12_row 153 = .ok (.bastore, 1) := by decide +kernel
theorem dX12_row_154 : decode cX12_row 154 = .ok (.iinc 7 1, 3) := by decide +kernel
theorem dX12_row_157 : decode cX12_row 157 = .ok (.goto (-48), 3) := by decide +kernel
theorem dX12_row_160 : decode cX12_row 160 = .ok (.aload_n 0, 1) := by decide +kernel
theorem dX12_row_161 : decode cX12_row 161 = .ok (.iconst 1, 1) := by decide +kernel
theorem dX12_row_162 : decode cX12_row 162 = .ok (.invokevirtual 274, 3) := by decide +kernel
theorem dX12_row_165 : decode cX12_row 165 = .ok (.iload 5, 2) := by decide +kernel
theorem dX12_row_167 : decode cX12_row 167 = .ok (.ireturn, 1) := by decide +kernel
def m_row_b39 (F : Nat) (cs1 : RS) : Option (RS × Int32) := some (cs1, (-1))
def m_row_L109 (F : Nat) : Nat → RS → Int32 → Int32 → Int32 → Int32 → Option (RS × Int32)
  | 0, _, _, _, _, _ => none
  | lf_109 + 1, cs1, u4, u5, u6, u7 => if u4 ≤ u7 then (Option.bind (m_renew F cs1 1) fun cs_2 => some (cs_2, u5)) else (Option.bind (rdL (cs1.2.2.2 12) 4 u7) fun v_3 => Option.bind (wrL cs1 8 192 ((4 * u6) + u7) v_3) fun cs_4 => Option.bind (rdI (cs_4.2.2.1 13) 4 u7) fun v_5 => Option.bind (wrI cs_4 9 192 ((4 * u6) + u7) (vp_nar .boolean v_5)) fun cs_6 => (m_row_L109 F lf_109) cs_6 u4 u5 u6 (u7 + 1))
def m_row_b72 (F : Nat) (cs1 : RS) (u1 : Int32) (u2 : Int64) (u4 : Int32) (u5 : Int32) : Option (RS × Int32) := if u5 = 8 then (some (cs1, (-1))) else (Option.bind (wrI cs1 6 48 ((8 * u1) + u5) (vp_nar .boolean 1)) fun cs_8 => Option.bind (wrL cs_8 7 48 ((8 * u1) + u5) u2) fun cs_9 => m_row_L109 F F cs_9 u4 u5 ((8 * u1) + u5) 0)
def m_row_L44 (F : Nat) : Nat → RS → Int32 → Int64 → Int32 → Int32 → Option (RS × Int32)
  | 0, _, _, _, _, _ => none
  | lf_44 + 1, cs1, u1, u2, u4, u5 => if 8 ≤ u5 then (m_row_b72 F cs1 u1 u2 u4 u5) else (Option.bind (rdI (cs1.2.2.1 6) 48 ((8 * u1) + u5)) fun v_11 => if v_11 = 0 then (m_row_b72 F cs1 u1 u2 u4 u5) else ((m_row_L44 F lf_44) cs1 u1 u2 u4 (u5 + 1)))
def m_row (F : Nat) (cs : RS) (x1 : Int32) (x2 : Int64) : Option (RS × Int32) := if x1 < 0 then (m_row_b39 F (setF (setF cs 11 0) 110 0)) else (if ((setF (setF cs 11 0) 110 0).1 4) ≤ x1 then (m_row_b39 F (setF (setF cs 11 0) 110 0)) else (Option.bind (rdI ((setF (setF cs 11 0) 110 0).2.2.1 5) 6 x1) fun v_15 => if (cs.1 11) = v_15 then (m_row_L44 F F (setF (setF cs 11 0) 110 0) x1 x2 (cs.1 11) 0) else (m_row_b39 F (setF (setF cs 11 0) 110 0))))
set_option maxHeartbeats 4000000 in
set_option maxRecDepth 100000 in
theorem s_row (l : Launch) (dC : Nat → ClassId) (dI : Nat → Nat → Nat) (cB cI cJ cZ : ClassId) (h0 : Nat) (a : Nat → Nat) (K V : Nat → Nat) (fz : Value) (F : Nat) (cs : RS) (x1 : Int32) (x2 : Int64) (cs9 : RS) (r9 : Int32) (hf : m_row F cs x1 x2 = some (cs9, r9)) : okI l dC dI cB cI cJ cZ h0 a K V fz yX12_row (wsOf yX12_row cX12_row 8 (some .int)) (606) [.ref h0, .int x1, .long x2] cs cs9 r9 := by
  intro sz
  refine Met.ofW (cc := cX12_row) (maxL := 8) (ret := (some .int)) (by decide) rfl ?_
  intro p e s m args below meth c s₁ B hml hv
  obtain ⟨rfl, hsz, hP, hK, hD0, hZ⟩ := hv
  have hx := B.exec
  have hb := B.bytes
  have hr := B.returns
  have hts := atoms_spec (ws := (wsOf yX12_row cX12_row 8 (some .int))) B.pre
  have hown : s.vm.findClass RX12 = some m.cls := findClass_of_methodNamed B.named
  have hlocks := B.notSynchronized
  subst hsz
  have hD := hD0.self (sz := s.heap.size)
  generalize hAe : va_A (mW cB cI cJ cZ h0 a cs) s.heap.size = A at hD hZ ⊢
  have hA : ∀ q : Nat, s.heap.size ≤ q → A q := fun q h => by rw [← hAe]; exact Or.inr h
  have hS : va_S A s.heap s.heap [] := va_S.rf
  have hl := lv_entry ([.ref h0, .int x1, .long x2]) (n := 8) (Nat.le_of_ble_eq_true rfl)
  rw [lg_entry_eq]
  generalize (lg_sl ([.ref h0, .int x1, .long x2]) ++ List.replicate (8 - (lg_sl ([.ref h0, .int x1, .long x2])).length) Slot.unset).toArray = ls at hl ⊢
  have hl : lv_has ls 8 [(0, .ref h0), (1, .int x1), (2, .long x2)] := hl
  have B_39 : ∀ (cs1 : RS) , m_row_b39 F cs1 = some (cs9, r9) → ∀ (H : Heap) (locs : List Loc) (ls : Array Slot), va_P (dC, dI) vwCl (mW cB cI cJ cZ h0 a cs1) H → va_D A (mW cB cI cJ cZ h0 a cs1) → va_S A s.heap H locs → lv_has ls 8 [] → W p l e (headSpec (wsOf yX12_row cX12_row 8 (some .int)) ({ frames := 606, cells := 0, slots := 0, locals := 60 * (606) } : Room)).room s m ([.ref h0, .int x1, .long x2] : List Value).toArray below meth c H locs 0 0 (MQ below (va_Qi (fun (x : Int32) (_ : Unit) => x = r9) (fun _ t_ => va_P (dC, dI) vwCl (mW cB cI cJ cZ h0 a cs9) t_.heap ∧ va_D A (mW cB cI cJ cZ h0 a cs9)) A) ([.ref h0, .int x1, .long x2] : List Value).toArray s 0 0 A) (F0 m 39 ls []) := by
    intro cs1  h H locs ls hP hD hS hl
    unfold m_row_b39 at h
    refine lv_iconst (v := (-1)) hx hb dX12_row_39 (by decide) ?_
    obtain ⟨e1, e2⟩ := Prod.mk.inj (Option.some.inj h)
    rw [e1] at hP hD
    exact W.iret (v := (-1)) hx hb hr (fun t_ ht hW => ⟨⟨(-1), (), rfl, e2, by rw [ht]; exact hP, hD⟩, hS.F ht⟩) hS.2.2 dX12_row_40
  have L_109 : ∀ (lf_109 : Nat), ∀ (cs1 : RS) (u4 : Int32) (u5 : Int32) (u6 : Int32) (u7 : Int32), m_row_L109 F lf_109 cs1 u4 u5 u6 u7 = some (cs9, r9) → ∀ (H : Heap) (locs : List Loc) (ls : Array Slot), va_P (dC, dI) vwCl (mW cB cI cJ cZ h0 a cs1) H → va_D A (mW cB cI cJ cZ h0 a cs1) → va_S A s.heap H locs → lv_has ls 8 [(0, .ref h0), (4, .int u4), (5, .int u5), (6, .int u6), (7, .int u7)] → W p l e (headSpec (wsOf yX12_row cX12_row 8 (some .int)) ({ frames := 606, cells := 0, slots := 0, locals := 60 * (606) } : Room)).room s m ([.ref h0, .int x1, .long x2] : List Value).toArray below meth c H locs 0 0 (MQ below (va_Qi (fun (x : Int32) (_ : Unit) => x = r9) (fun _ t_ => va_P (dC, dI) vwCl (mW cB cI cJ cZ h0 a cs9) t_.heap ∧ va_D A (mW cB cI cJ cZ h0 a cs9)) A) ([.ref h0, .int x1, .long x2] : List Value).toArray s 0 0 A) (F0 m 109 ls []) := by
    intro lf_109
    induction lf_109 with
    | zero => intro cs1 u4 u5 u6 u7 h; cases (show (none : Option (RS × Int32)) = _ from h)
    | succ lf_109 ih_109 =>
      intro cs1 u4 u5 u6 u7 h H locs ls hP hD hS hl
      rw [m_row_L109] at h
      refine lv_iload hx hb dX12_row_109 (lv_at hl 4 rfl) ?_
      refine lv_iload hx hb dX12_row_111 (lv_at hl 1 rfl) ?_
      refine lv_icmp_ge (tgt := 160) hx hb dX12_row_113 (by decide) (fun c_1 => ?_) (fun c_1 => ?_)
      · skip
        replace h := (if_pos c_1).symm.trans h
        refine lv_aload_n hx hb dX12_row_160 rfl (lv_at hl 0 rfl) ?_
        refine lv_iconst (v := 1) hx hb dX12_row_161 (by decide) ?_
        obtain ⟨cs_2, hv_2, h⟩ := ob h
        refine calV (As := [.int 1]) hx hb hml hts hown hK hP hD hS hA hZ (s_renew l dC dI cB cI cJ cZ h0 a K V fz F cs1 1 cs_2 hv_2) (cw_renew hts (fr := 605) (Nat.le_of_ble_eq_true rfl) (Nat.le_of_ble_eq_true rfl)) rfl hl.1 (Nat.le_of_ble_eq_true rfl) ⟨Nat.zero_le _, Nat.zero_le _⟩ dX12_row_162 (fun H locs hP hD hS => ?_)
        refine lv_iload hx hb dX12_row_165 (lv_at hl 2 rfl) ?_
        obtain ⟨e1, e2⟩ := Prod.mk.inj (Option.some.inj h)
        rw [e1] at hP hD
        exact W.iret (v := u5) hx hb hr (fun t_ ht hW => ⟨⟨u5, (), rfl, e2, by rw [ht]; exact hP, hD⟩, hS.F ht⟩) hS.2.2 dX12_row_167
      · skip
        replace h := (if_neg c_1).symm.trans h
        refine lv_aload_n hx hb dX12_row_116 rfl (lv_at hl 0 rfl) ?_
        refine fg_8 hx hb hts hown hK hP dX12_row_117 ?_
        refine lv_iconst (v := 4) hx hb dX12_row_120 (by decide) ?_
        refine lv_iload hx hb dX12_row_121 (lv_at hl 3 rfl) ?_
        refine lv_imul hx hb dX12_row_123 ?_
        refine lv_iload hx hb dX12_row_124 (lv_at hl 4 rfl) ?_
        refine lv_iadd hx hb dX12_row_126 ?_
        refine lv_aload_n hx hb dX12_row_127 rfl (lv_at hl 0 rfl) ?_
        refine fg_12 hx hb hts hown hK hP dX12_row_128 ?_
        refine lv_iload hx hb dX12_row_131 (lv_at hl 4 rfl) ?_
        obtain ⟨v_3, hv_3, h⟩ := ob h
        refine ag_12 hx hb hK hP hv_3 dX12_row_133 ?_
        obtain ⟨cs_4, hv_4, h⟩ := ob h
        refine ap_8 hx hb hK hP hD hS hv_4 dX12_row_134 (fun H locs hP hD hS => ?_)
        refine lv_aload_n hx hb dX12_row_135 rfl (lv_at hl 0 rfl) ?_
        refine fg_9 hx hb hts hown hK hP dX12_row_136 ?_
        refine lv_iconst (v := 4) hx hb dX12_row_139 (by decide) ?_
        refine lv_iload hx hb dX12_row_140 (lv_at hl 3 rfl) ?_
        refine lv_imul hx hb dX12_row_142 ?_
        refine lv_iload hx hb dX12_row_143 (lv_at hl 4 rfl) ?_
        refine lv_iadd hx hb dX12_row_145 ?_
        refine lv_aload_n hx hb dX12_row_146 rfl (lv_at hl 0 rfl) ?_
        refine fg_13 hx hb hts hown hK hP dX12_row_147 ?_
        refine lv_iload hx hb dX12_row_150 (lv_at hl 4 rfl) ?_
        obtain ⟨v_5, hv_5, h⟩ := ob h
        refine ag_13 hx hb hK hP hv_5 dX12_row_152 ?_
        obtain ⟨cs_6, hv_6, h⟩ := ob h
        refine ap_9 hx hb hK hP hD hS hv_6 dX12_row_153 (fun H locs hP hD hS => ?_)
        refine lv_iinc (v := u7 + 1) (lv' := [(7, .int (u7 + 1)), (0, .ref h0), (4, .int u4), (5, .int u5), (6, .int u6)]) hx hb dX12_row_154 hl (k := 4) rfl rfl (by decide) rfl (fun ls hl => ?_)
        refine lv_goto (tgt := 109) hx hb dX12_row_157 (by decide) ?_
        exact ih_109 cs_6 u4 u5 u6 (u7 + 1) h _ _ _ hP hD hS (lv_sub hl [1, 2, 3, 4, 0] rfl)
  have B_72 : ∀ (cs1 : RS) (u1 : Int32) (u2 : Int64) (u4 : Int32) (u5 : Int32), m_row_b72 F cs1 u1 u2 u4 u5 = some (cs9, r9) → ∀ (H : Heap) (locs : List Loc) (ls : Array Slot), va_P (dC, dI) vwCl (mW cB cI cJ cZ h0 a cs1) H → va_D A (mW cB cI cJ cZ h0 a cs1) → va_S A s.heap H locs → lv_has ls 8 [(0, .ref h0), (1, .int u1), (2, .long u2), (4, .int u4), (5, .int u5)] → W p l e (headSpec (wsOf yX12_row cX12_row 8 (some .int)) ({ frames := 606, cells := 0, slots := 0, locals := 60 * (606) } : Room)).room s m ([.ref h0, .int x1, .long x2] : List Value).toArray below meth c H locs 0 0 (MQ below (va_Qi (fun (x : Int32) (_ : Unit) => x = r9) (fun _ t_ => va_P (dC, dI) vwCl (mW cB cI cJ cZ h0 a cs9) t_.heap ∧ va_D A (mW cB cI cJ cZ h0 a cs9)) A) ([.ref h0, .int x1, .long x2] : List Value).toArray s 0 0 A) (F0 m 72 ls []) := by
    intro cs1 u1 u2 u4 u5 h H locs ls hP hD hS hl
    unfold m_row_b72 at h
    refine lv_iload hx hb dX12_row_72 (lv_at hl 4 rfl) ?_
    refine lv_bipush (v := 8) hx hb dX12_row_74 (by decide) ?_
    refine lv_icmp_ne (tgt := 81) hx hb dX12_row_76 (by decide) (fun c_7 => ?_) (fun c_7 => ?_)
    · skip
      replace h := (if_neg c_7).symm.trans h
      refine lv_bipush (v := 8) hx hb dX12_row_81 (by decide) ?_
      refine lv_iload_n hx hb dX12_row_83 rfl (lv_at hl 1 rfl) ?_
      refine lv_imul hx hb dX12_row_84 ?_
      refine lv_iload hx hb dX12_row_85 (lv_at hl 4 rfl) ?_
      refine lv_iadd hx hb dX12_row_87 ?_
      refine lv_istore (lv' := [(6, .int ((8 * u1) + u5)), (0, .ref h0), (1, .int u1), (2, .long u2), (4, .int u4), (5, .int u5)]) hx hb dX12_row_88 hl (by decide) rfl (fun ls hl => ?_)
      refine lv_aload_n hx hb dX12_row_90 rfl (lv_at hl 1 rfl) ?_
      refine fg_6 hx hb hts hown hK hP dX12_row_91 ?_
      refine lv_iload hx hb dX12_row_94 (lv_at hl 0 rfl) ?_
      refine lv_iconst (v := 1) hx hb dX12_row_96 (by decide) ?_
      obtain ⟨cs_8, hv_8, h⟩ := ob h
      refine ap_6 hx hb hK hP hD hS hv_8 dX12_row_97 (fun H locs hP hD hS => ?_)
      refine lv_aload_n hx hb dX12_row_98 rfl (lv_at hl 1 rfl) ?_
      refine fg_7 hx hb hts hown hK hP dX12_row_99 ?_
      refine lv_iload hx hb dX12_row_102 (lv_at hl 0 rfl) ?_
      refine lv_lload_n hx hb dX12_row_104 rfl (lv_at hl 3 rfl) ?_
      obtain ⟨cs_9, hv_9, h⟩ := ob h
      refine ap_7 hx hb hK hP hD hS hv_9 dX12_row_105 (fun H locs hP hD hS => ?_)
      refine lv_iconst (v := 0) hx hb dX12_row_106 (by decide) ?_
      refine lv_istore (lv' := [(7, .int 0), (6, .int ((8 * u1) + u5)), (0, .ref h0), (1, .int u1), (2, .long u2), (4, .int u4), (5, .int u5)]) hx hb dX12_row_107 hl (by decide) rfl (fun ls hl => ?_)
      exact L_109 F cs_9 u4 u5 ((8 * u1) + u5) 0 h _ _ _ hP hD hS (lv_sub hl [2, 5, 6, 1, 0] rfl)
    · skip
      replace h := (if_pos c_7).symm.trans h
      refine lv_iconst (v := (-1)) hx hb dX12_row_79 (by decide) ?_
      obtain ⟨e1, e2⟩ := Prod.mk.inj (Option.some.inj h)
      rw [e1] at hP hD
      exact W.iret (v := (-1)) hx hb hr (fun t_ ht hW => ⟨⟨(-1), (), rfl, e2, by rw [ht]; exact hP, hD⟩, hS.F ht⟩) hS.2.2 dX12_row_80
  have L_44 : ∀ (lf_44 : Nat), ∀ (cs1 : RS) (u1 : Int32) (u2 : Int64) (u4 : Int32) (u5 : Int32), m_row_L44 F lf_44 cs1 u1 u2 u4 u5 = some (cs9, r9) → ∀ (H : Heap) (locs : List Loc) (ls : Array Slot), va_P (dC, dI) vwCl (mW cB cI cJ cZ h0 a cs1) H → va_D A (mW cB cI cJ cZ h0 a cs1) → va_S A s.heap H locs → lv_has ls 8 [(0, .ref h0), (1, .int u1), (2, .long u2), (4, .int u4), (5, .int u5)] → W p l e (headSpec (wsOf yX12_row cX12_row 8 (some .int)) ({ frames := 606, cells := 0, slots := 0, locals := 60 * (606) } : Room)).room s m ([.ref h0, .int x1, .long x2] : List Value).toArray below meth c H locs 0 0 (MQ below (va_Qi (fun (x : Int32) (_ : Unit) => x = r9) (fun _ t_ => va_P (dC, dI) vwCl (mW cB cI cJ cZ h0 a cs9) t_.heap ∧ va_D A (mW cB cI cJ cZ h0 a cs9)) A) ([.ref h0, .int x1, .long x2] : List Value).toArray s 0 0 A) (F0 m 44 ls []) := by
    intro lf_44
    induction lf_44 with
    | zero => intro cs1 u1 u2 u4 u5 h; cases (show (none : Option (RS × Int32)) = _ from h)
    | succ lf_44 ih_44 =>
      intro cs1 u1 u2 u4 u5 h H locs ls hP hD hS hl
      rw [m_row_L44] at h
      refine lv_iload hx hb dX12_row_44 (lv_at hl 4 rfl) ?_
      refine lv_bipush (v := 8) hx hb dX12_row_46 (by decide) ?_
      refine lv_icmp_ge (tgt := 72) hx hb dX12_row_48 (by decide) (fun c_10 => ?_) (fun c_10 => ?_)
      · skip
        replace h := (if_pos c_10).symm.trans h
        exact B_72 cs1 u1 u2 u4 u5 h _ _ _ hP hD hS (lv_sub hl [0, 1, 2, 3, 4] rfl)
      · skip
        replace h := (if_neg c_10).symm.trans h
        refine lv_aload_n hx hb dX12_row_51 rfl (lv_at hl 0 rfl) ?_
        refine fg_6 hx hb hts hown hK hP dX12_row_52 ?_
        refine lv_bipush (v := 8) hx hb dX12_row_55 (by decide) ?_
        refine lv_iload_n hx hb dX12_row_57 rfl (lv_at hl 1 rfl) ?_
        refine lv_imul hx hb dX12_row_58 ?_
        refine lv_iload hx hb dX12_row_59 (lv_at hl 4 rfl) ?_
        refine lv_iadd hx hb dX12_row_61 ?_
        obtain ⟨v_11, hv_11, h⟩ := ob h
        refine ag_6 hx hb hK hP hv_11 dX12_row_62 ?_
        refine lv_if_eq (tgt := 72) hx hb dX12_row_63 (by decide) (fun c_12 => ?_) (fun c_12 => ?_)
        · skip
          replace h := (if_pos c_12).symm.trans h
          exact B_72 cs1 u1 u2 u4 u5 h _ _ _ hP hD hS (lv_sub hl [0, 1, 2, 3, 4] rfl)
        · skip
          replace h := (if_neg c_12).symm.trans h
          refine lv_iinc (v := u5 + 1) (lv' := [(5, .int (u5 + 1)), (0, .ref h0), (1, .int u1), (2, .long u2), (4, .int u4)]) hx hb dX12_row_66 hl (k := 4) rfl rfl (by decide) rfl (fun ls hl => ?_)
          refine lv_goto (tgt := 44) hx hb dX12_row_69 (by decide) ?_
          exact ih_44 cs1 u1 u2 u4 (u5 + 1) h _ _ _ hP hD hS (lv_sub hl [1, 2, 3, 4, 0] rfl)
  have h := hf
  unfold m_row at h
  refine lv_aload_n hx hb dX12_row_0 rfl (lv_at hl 0 rfl) ?_
  refine fg_11 hx hb hts hown hK hP dX12_row_1 ?_
  refine lv_istore (lv' := [(4, .int (cs.1 11)), (0, .ref h0), (1, .int x1), (2, .long x2)]) hx hb dX12_row_4 hl (by decide) rfl (fun ls hl => ?_)
  refine lv_aload_n hx hb dX12_row_6 rfl (lv_at hl 1 rfl) ?_
  refine lv_iconst (v := 0) hx hb dX12_row_7 (by decide) ?_
  refine fp_11 hx hb hts hown hK hP hD hS dX12_row_8 (fun H locs hP hD hS => ?_)
  refine lv_aload_n hx hb dX12_row_11 rfl (lv_at hl 1 rfl) ?_
  refine lv_iconst (v := 0) hx hb dX12_row_12 (by decide) ?_
  refine fp_110 hx hb hts hown hK hP hD hS dX12_row_13 (fun H locs hP hD hS => ?_)
  refine lv_iload_n hx hb dX12_row_16 rfl (lv_at hl 2 rfl) ?_
  refine lv_if_lt (tgt := 39) hx hb dX12_row_17 (by decide) (fun c_13 => ?_) (fun c_13 => ?_)
  · skip
    replace h := (if_pos c_13).symm.trans h
    exact B_39 (setF (setF cs 11 0) 110 0) h _ _ _ hP hD hS (lv_sub hl [] rfl)
  · skip
    replace h := (if_neg c_13).symm.trans h
    refine lv_iload_n hx hb dX12_row_20 rfl (lv_at hl 2 rfl) ?_
    refine lv_aload_n hx hb dX12_row_21 rfl (lv_at hl 1 rfl) ?_
    refine fg_4 hx hb hts hown hK hP dX12_row_22 ?_
    refine lv_icmp_ge (tgt := 39) hx hb dX12_row_25 (by decide) (fun c_14 => ?_) (fun c_14 => ?_)
    · skip
      replace h := (if_pos c_14).symm.trans h
      exact B_39 (setF (setF cs 11 0) 110 0) h _ _ _ hP hD hS (lv_sub hl [] rfl)
    · skip
      replace h := (if_neg c_14).symm.trans h
      refine lv_iload hx hb dX12_row_28 (lv_at hl 0 rfl) ?_
      refine lv_aload_n hx hb dX12_row_30 rfl (lv_at hl 1 rfl) ?_
      refine fg_5 hx hb hts hown hK hP dX12_row_31 ?_
      refine lv_iload_n hx hb dX12_row_34 rfl (lv_at hl 2 rfl) ?_
      obtain ⟨v_15, hv_15, h⟩ := ob h
      refine ag_5 hx hb hK hP hv_15 dX12_row_35 ?_
      refine lv_icmp_eq (tgt := 41) hx hb dX12_row_36 (by decide) (fun c_16 => ?_) (fun c_16 => ?_)
      · skip
        replace h := (if_pos c_16).symm.trans h
        refine lv_iconst (v := 0) hx hb dX12_row_41 (by decide) ?_
        refine lv_istore (lv' := [(5, .int 0), (4, .int (cs.1 11)), (0, .ref h0), (1, .int x1), (2, .long x2)]) hx hb dX12_row_42 hl (by decide) rfl (fun ls hl => ?_)
        exact L_44 F (setF (setF cs 11 0) 110 0) x1 x2 (cs.1 11) 0 h _ _ _ hP hD hS (lv_sub hl [2, 3, 4, 1, 0] rfl)
      · skip
        replace h := (if_neg c_16).symm.trans h
        exact B_39 (setF (setF cs 11 0) 110 0) h _ _ _ hP hD hS (lv_sub hl [] rfl)
theorem dX12_back_0 : decode cX12_back 0 = .ok (.aload_n 0, 1) := by decide +kernel
theorem dX12_back_1 : decode cX12_back 1 = .ok (.iconst 0, 1) := by decide +kernel
theorem dX12_back_2 : decode cX12_back 2 = .ok (.putfield 271, 3) := by decide +kernel
theorem dX12_back_5 : decode cX12_back 5 = .ok (.iload_n 1, 1) := by decide +kernel
theorem dX12_back_6 : decode cX12_back 6 = .ok (.ifCond .lt 35, 3) := by decide +kernel
theorem dX12_back_9 : decode cX12_back 9 = .ok (.iload_n 1, 1) := by decide +kernel
theorem dX12_back_10 : decode cX12_back 10 = .ok (.aload_n 0, 1) := by decide +kernel
theorem dX12_back_11 : decode cX12_back 11 = .ok (.getfield 261, 3) := by decide +kernel
theorem dX12_back_14 : decode cX12_back 14 = .ok (.if_icmp .ge 27, 3) := by decide +kernel
theorem dX12_back_17 : decode cX12_back 17 = .ok (.iload_n 2, 1) := by decide +kernel
theorem dX12_back_18 : decode cX12_back 18 = .ok (.ifCond .lt 23, 3) := by decide +kernel
theorem dX12_back_21 : decode cX12_back 21 = .ok (.iload_n 2, 1) := by decide +kernel
theorem dX12_back_22 : decode cX12_back 22 = .ok (.bipush 7, 2) := by decide +kernel
theorem dX12_back_24 : decode cX12_back 24 = .ok (.if_icmp .gt 17, 3) := by decide +kernel
theorem dX12_back_27 : decode cX12_back 27 = .ok (.aload_n 0, 1) := by decide +kernel
theorem dX12_back_28 : decode cX12_back 28 = .ok (.getfield 20, 3) := by decide +kernel
theorem dX12_back_31 : decode cX12_back 31 = .ok (.bipush 8, 2) := by decide +kernel
theorem dX12_back_33 : decode cX12_back 33 = .ok (.iload_n 1, 1) := by decide +kernel
theorem dX12_back_34 : decode cX12_back 34 = .ok (.imul, 1) := by decide +kernel
theorem dX12_back_35 : decode cX12_back 35 = .ok (.iload_n 2, 1) := by decide +kernel
theorem dX12_back_36 : decode cX12_back 36 = .ok (.iadd, 1) := by decide +kernel
theorem dX12_back_37 : decode cX12_back 37 = .ok (.baload, 1) := by decide +kernel
theorem dX12_back_38 : decode cX12_back 38 = .ok (.ifCond .ne 5, 3) := by decide +kernel
theorem dX12_back_41 : decode cX12_back 41 = .ok (.iconst 0, 1) := by decide +kernel
theorem dX12_back_42 : decode cX12_back 42 = .ok (.ireturn, 1) := by decide +kernel
theorem dX12_back_43 : decode cX12_back 43 = .ok (.aload_n 0, 1) := by decide +kernel
theorem dX12_back_44 : decode cX12_back 44 = .ok (.getfield 20, 3) := by decide +kernel
theorem dX12_back_47 : decode cX12_back 47 = .ok (.bipush 8, 2) := by decide +kernel
theorem dX12_back_49 : decode cX12_back 49 = .ok (.iload_n 1, 1) := by decide +kernel
theorem dX12_back_50 : decode cX12_back 50 = .ok (.imul, 1) := by decide +kernel
theorem dX12_back_51 : decode cX12_back 51 = .ok (.iload_n 2, 1) := by decide +kernel
theorem dX12_back_52 : decode cX12_back 52 = .ok (.iadd, 1) := by decide +kernel
theorem dX12_back_53 : decode cX12_back 53 = .ok (.iconst 0, 1) := by decide +kernel
theorem dX12_back_54 : decode cX12_back 54 = .ok (.bastore, 1) := by decide +kernel
theorem dX12_back_55 : decode cX12_back 55 = .ok (.aload_n 0, 1) := by decide +kernel
theorem dX12_back_56 : decode cX12_back 56 = .ok (.iconst 1, 1) := by decide +kernel
theorem dX12_back_57 : decode cX12_back 57 = .ok (.invokevirtual 274, 3) := by decide +kernel
theorem dX12_back_60 : decode cX12_back 60 = .ok (.iconst 1, 1) := by decide +kernel
theorem dX12_back_61 : decode cX12_back 61 = .ok (.ireturn, 1) := by decide +kernel
def m_back_b41 (F : Nat) (cs1 : RS) : Option (RS × Int32) := some (cs1, 0)
def m_back (F : Nat) (cs : RS) (x1 : Int32) (x2 : Int32) : Option (RS × Int32) := if x1 < 0 then (m_back_b41 F (setF cs 110 0)) else (if ((setF cs 110 0).1 4) ≤ x1 then (m_back_b41 F (setF cs 110 0)) else (if x2 < 0 then (m_back_b41 F (setF cs 110 0)) else (if 7 < x2 then (m_back_b41 F (setF cs 110 0)) else (Option.bind (rdI ((setF cs 110 0).2.2.1 6) 48 ((8 * x1) + x2)) fun v_5 => if v_5 = 0 then (m_back_b41 F (setF cs 110 0)) else (Option.bind (wrI (setF cs 110 0) 6 48 ((8 * x1) + x2) (vp_nar .boolean 0)) fun cs_7 => Option.bind (m_renew F cs_7 1) fun cs_8 => some (cs_8, 1))))))
set_option maxHeartbeats 4000000 in
set_option maxRecDepth 100000 in
theorem s_back (l : Launch) (dC : Nat → ClassId) (dI : Nat → Nat → Nat) (cB cI cJ cZ : ClassId) (h0 : Nat) (a : Nat → Nat) (K V : Nat → Nat) (fz : Value) (F : Nat) (cs : RS) (x1 : Int32) (x2 : Int32) (cs9 : RS) (r9 : Int32) (hf : m_back F cs x1 x2 = some (cs9, r9)) : okI l dC dI cB cI cJ cZ h0 a K V fz yX12_back (wsOf yX12_back cX12_back 3 (some .boolean)) (606) [.ref h0, .int x1, .int x2] cs cs9 r9 := by
  intro sz
  refine Met.ofW (cc := cX12_back) (maxL := 3) (ret := (some .boolean)) (by decide) rfl ?_
  intro p e s m args below meth c s₁ B hml hv
  obtain ⟨rfl, hsz, hP, hK, hD0, hZ⟩ := hv
  have hx := B.exec
  have hb := B.bytes
  have hr := B.returns
  have hts := atoms_spec (ws := (wsOf yX12_back cX12_back 3 (some .boolean))) B.pre
  have hown : s.vm.findClass RX12 = some m.cls := findClass_of_methodNamed B.named
  have hlocks := B.notSynchronized
  subst hsz
  have hD := hD0.self (sz := s.heap.size)
  generalize hAe : va_A (mW cB cI cJ cZ h0 a cs) s.heap.size = A at hD hZ ⊢
  have hA : ∀ q : Nat, s.heap.size ≤ q → A q := fun q h => by rw [← hAe]; exact Or.inr h
  have hS : va_S A s.heap s.heap [] := va_S.rf
  have hl := lv_entry ([.ref h0, .int x1, .int x2]) (n := 3) (Nat.le_of_ble_eq_true rfl)
  rw [lg_entry_eq]
  generalize (lg_sl ([.ref h0, .int x1, .int x2]) ++ List.replicate (3 - (lg_sl ([.ref h0, .int x1, .int x2])).length) Slot.unset).toArray = ls at hl ⊢
  have hl : lv_has ls 3 [(0, .ref h0), (1, .int x1), (2, .int x2)] := hl
  have B_41 : ∀ (cs1 : RS) , m_back_b41 F cs1 = some (cs9, r9) → ∀ (H : Heap) (locs : List Loc) (ls : Array Slot), va_P (dC, dI) vwCl (mW cB cI cJ cZ h0 a cs1) H → va_D A (mW cB cI cJ cZ h0 a cs1) → va_S A s.heap H locs → lv_has ls 3 [] → W p l e (headSpec (wsOf yX12_back cX12_back 3 (some .boolean)) ({ frames := 606, cells := 0, slots := 0, locals := 60 * (606) } : Room)).room s m ([.ref h0, .int x1, .int x2] : List Value).toArray below meth c H locs 0 0 (MQ below (va_Qi (fun (x : Int32) (_ : Unit) => x = r9) (fun _ t_ => va_P (dC, dI) vwCl (mW cB cI cJ cZ h0 a cs9) t_.heap ∧ va_D A (mW cB cI cJ cZ h0 a cs9)) A) ([.ref h0, .int x1, .int x2] : List Value).toArray s 0 0 A) (F0 m 41 ls []) := by
    intro cs1  h H locs ls hP hD hS hl
    unfold m_back_b41 at h
    refine lv_iconst (v := 0) hx hb dX12_back_41 (by decide) ?_
    obtain ⟨e1, e2⟩ := Prod.mk.inj (Option.some.inj h)
    rw [e1] at hP hD
    exact W.zret (v := 0) hx hb hr (nzN (Or.inl rfl)) (fun t_ ht hW => ⟨⟨0, (), rfl, e2, by rw [ht]; exact hP, hD⟩, hS.F ht⟩) hS.2.2 dX12_back_42
  have h := hf
  unfold m_back at h
  refine lv_aload_n hx hb dX12_back_0 rfl (lv_at hl 0 rfl) ?_
  refine lv_iconst (v := 0) hx hb dX12_back_1 (by decide) ?_
  refine fp_110 hx hb hts hown hK hP hD hS dX12_back_2 (fun H locs hP hD hS => ?_)
  refine lv_iload_n hx hb dX12_back_5 rfl (lv_at hl 1 rfl) ?_
  refine lv_if_lt (tgt := 41) hx hb dX12_back_6 (by decide) (fun c_1 => ?_) (fun c_1 => ?_)
  · skip
    replace h := (if_pos c_1).symm.trans h
    exact B_41 (setF cs 110 0) h _ _ _ hP hD hS (lv_sub hl [] rfl)
  · skip
    replace h := (if_neg c_1).symm.trans h
    refine lv_iload_n hx hb dX12_back_9 rfl (lv_at hl 1 rfl) ?_
    refine lv_aload_n hx hb dX12_back_10 rfl (lv_at hl 0 rfl) ?_
    refine fg_4 hx hb hts hown hK hP dX12_back_11 ?_
    refine lv_icmp_ge (tgt := 41) hx hb dX12_back_14 (by decide) (fun c_2 => ?_) (fun c_2 => ?_)
    · skip
      replace h := (if_pos c_2).symm.trans h
      exact B_41 (setF cs 110 0) h _ _ _ hP hD hS (lv_sub hl [] rfl)
    · skip
      replace h := (if_neg c_2).symm.trans h
      refine lv_iload_n hx hb dX12_back_17 rfl (lv_at hl 2 rfl) ?_
      refine lv_if_lt (tgt := 41) hx hb dX12_back_18 (by decide) (fun c_3 => ?_) (fun c_3 => ?_)
      · skip
        replace h := (if_pos c_3).symm.trans h
        exact B_41 (setF cs 110 0) h _ _ _ hP hD hS (lv_sub hl [] rfl)
      · skip
        replace h := (if_neg c_3).symm.trans h
        refine lv_iload_n hx hb dX12_back_21 rfl (lv_at hl 2 rfl) ?_
        refine lv_bipush (v := 7) hx hb dX12_back_22 (by decide) ?_
        refine lv_icmp_gt (tgt := 41) hx hb dX12_back_24 (by decide) (fun c_4 => ?_) (fun c_4 => ?_)
        · skip
          replace h := (if_pos c_4).symm.trans h
          exact B_41 (setF cs 110 0) h _ _ _ hP hD hS (lv_sub hl [] rfl)
        · skip
          replace h := (if_neg c_4).symm.trans h
          refine lv_aload_n hx hb dX12_back_27 rfl (lv_at hl 0 rfl) ?_
          refine fg_6 hx hb hts hown hK hP dX12_back_28 ?_
          refine lv_bipush (v := 8) hx hb dX12_back_31 (by decide) ?_
          refine lv_iload_n hx hb dX12_back_33 rfl (lv_at hl 1 rfl) ?_
          refine lv_imul hx hb dX12_back_34 ?_
          refine lv_iload_n hx hb dX12_back_35 rfl (lv_at hl 2 rfl) ?_
          refine lv_iadd hx hb dX12_back_36 ?_
          obtain ⟨v_5, hv_5, h⟩ := ob h
          refine ag_6 hx hb hK hP hv_5 dX12_back_37 ?_
          refine lv_if_ne (tgt := 43) hx hb dX12_back_38 (by decide) (fun c_6 => ?_) (fun c_6 => ?_)
          · skip
            replace h := (if_neg c_6).symm.trans h
            refine lv_aload_n hx hb dX12_back_43 rfl (lv_at hl 0 rfl) ?_
            refine fg_6 hx hb hts hown hK hP dX12_back_44 ?_
            refine lv_bipush (v := 8) hx hb dX12_back_47 (by decide) ?_
            refine lv_iload_n hx hb dX12_back_49 rfl (lv_at hl 1 rfl) ?_
            refine lv_imul hx hb dX12_back_50 ?_
            refine lv_iload_n hx hb dX12_back_51 rfl (lv_at hl 2 rfl) ?_
            refine lv_iadd hx hb dX12_back_52 ?_
            refine lv_iconst (v := 0) hx hb dX12_back_53 (by decide) ?_
            obtain ⟨cs_7, hv_7, h⟩ := ob h
            refine ap_6 hx hb hK hP hD hS hv_7 dX12_back_54 (fun H locs hP hD hS => ?_)
            refine lv_aload_n hx hb dX12_back_55 rfl (lv_at hl 0 rfl) ?_
            refine lv_iconst (v := 1) hx hb dX12_back_56 (by decide) ?_
            obtain ⟨cs_8, hv_8, h⟩ := ob h
            refine calV (As := [.int 1]) hx hb hml hts hown hK hP hD hS hA hZ (s_renew l dC dI cB cI cJ cZ h0 a K V fz F cs_7 1 cs_8 hv_8) (cw_renew hts (fr := 605) (Nat.le_of_ble_eq_true rfl) (Nat.le_of_ble_eq_true rfl)) rfl hl.1 (Nat.le_of_ble_eq_true rfl) ⟨Nat.zero_le _, Nat.zero_le _⟩ dX12_back_57 (fun H locs hP hD hS => ?_)
            refine lv_iconst (v := 1) hx hb dX12_back_60 (by decide) ?_
            obtain ⟨e1, e2⟩ := Prod.mk.inj (Option.some.inj h)
            rw [e1] at hP hD
            exact W.zret (v := 1) hx hb hr (nzN (Or.inr rfl)) (fun t_ ht hW => ⟨⟨1, (), rfl, e2, by rw [ht]; exact hP, hD⟩, hS.F ht⟩) hS.2.2 dX12_back_61
          · skip
            replace h := (if_pos c_6).symm.trans h
            exact B_41 (setF cs 110 0) h _ _ _ hP hD hS (lv_sub hl [] rfl)
theorem dX12_watermark_0 : decode cX12_watermark 0 = .ok (.aload_n 0, 1) := by decide +kernel
theorem dX12_watermark_1 : decode cX12_watermark 1 = .ok (.iconst 0, 1) := by decide +kernel
theorem dX12_watermark_2 : decode cX12_watermark 2 = .ok (.putfield 271, 3) := by decide +kernel
theorem dX12_watermark_5 : decode cX12_watermark 5 = .ok (.lload_n 1, 1) := by decide +kernel
theorem dX12_watermark_6 : decode cX12_watermark 6 = .ok (.aload_n 0, 1) := by decide +kernel
theorem dX12_watermark_7 : decode cX12_watermark 7 = .ok (.getfield 249, 3) := by decide +kernel
theorem dX12_watermark_10 : decode cX12_watermark 10 = .ok (.lcmp, 1) := by decide +kernel
theorem dX12_watermark_11 : decode cX12_watermark 11 = .ok (.ifCond .le 13, 3) := by decide +kernel
theorem dX12_watermark_14 : decode cX12_watermark 14 = .ok (.aload_n 0, 1) := by decide +kernel
theorem dX12_watermark_15 : decode cX12_watermark 15 = .ok (.lload_n 1, 1) := by decide +kernel
theorem dX12_watermark_16 : decode cX12_watermark 16 = .ok (.putfield 249, 3) := by decide +kernel
theorem dX12_watermark_19 : decode cX12_watermark 19 = .ok (.aload_n 0, 1) := by decide +kernel
theorem dX12_watermark_20 : decode cX12_watermark 20 = .ok (.iconst 1, 1) := by decide +kernel
theorem dX12_watermark_21 : decode cX12_watermark 21 = .ok (.invokevirtual 274, 3) := by decide +kernel
theorem dX12_watermark_24 : decode cX12_watermark 24 = .ok (.aload_n 0, 1) := by decide +kernel
theorem dX12_watermark_25 : decode cX12_watermark 25 = .ok (.getfield 271, 3) := by decide +kernel
theorem dX12_watermark_28 : decode cX12_watermark 28 = .ok (.ireturn, 1) := by decide +kernel
def m_watermark_b24 (F : Nat) (cs1 : RS) : Option (RS × Int32) := some (cs1, cs1.1 110)
def m_watermark (F : Nat) (cs : RS) (x1 : Int64) : Option (RS × Int32) := if x1 ≤ ((setF cs 110 0).2.1) then (m_watermark_b24 F (setF cs 110 0)) else (Option.bind (m_renew F (setW (setF cs 110 0) x1) 1) fun cs_2 => m_watermark_b24 F cs_2)
set_option maxHeartbeats 4000000 in
set_option maxRecDepth 100000 in
theorem s_watermark (l : Launch) (dC : Nat → ClassId) (dI : Nat → Nat → Nat) (cB cI cJ cZ : ClassId) (h0 : Nat) (a : Nat → Nat) (K V : Nat → Nat) (fz : Value) (F : Nat) (cs : RS) (x1 : Int64) (cs9 : RS) (r9 : Int32) (hf : m_watermark F cs x1 = some (cs9, r9)) : okI l dC dI cB cI cJ cZ h0 a K V fz yX12_watermark (wsOf yX12_watermark cX12_watermark 3 (some .int)) (606) [.ref h0, .long x1] cs cs9 r9 := by
  intro sz
  refine Met.ofW (cc := cX12_watermark) (maxL := 3) (ret := (some .int)) (by decide) rfl ?_
  intro p e s m args below meth c s₁ B hml hv
  obtain ⟨rfl, hsz, hP, hK, hD0, hZ⟩ := hv
  have hx := B.exec
  have hb := B.bytes
  have hr := B.returns
  have hts := atoms_spec (ws := (wsOf yX12_watermark cX12_watermark 3 (some .int))) B.pre
  have hown : s.vm.findClass RX12 = some m.cls := findClass_of_methodNamed B.named
  have hlocks := B.notSynchronized
  subst hsz
  have hD := hD0.self (sz := s.heap.size)
  generalize hAe : va_A (mW cB cI cJ cZ h0 a cs) s.heap.size = A at hD hZ ⊢
  have hA : ∀ q : Nat, s.heap.size ≤ q → A q := fun q h => by rw [← hAe]; exact Or.inr h
  have hS : va_S A s.heap s.heap [] := va_S.rf
  have hl := lv_entry ([.ref h0, .long x1]) (n := 3) (Nat.le_of_ble_eq_true rfl)
  rw [lg_entry_eq]
  generalize (lg_sl ([.ref h0, .long x1]) ++ List.replicate (3 - (lg_sl ([.ref h0, .long x1])).length) Slot.unset).toArray = ls at hl ⊢
  have hl : lv_has ls 3 [(0, .ref h0), (1, .long x1)] := hl
  have B_24 : ∀ (cs1 : RS) , m_watermark_b24 F cs1 = some (cs9, r9) → ∀ (H : Heap) (locs : List Loc) (ls : Array Slot), va_P (dC, dI) vwCl (mW cB cI cJ cZ h0 a cs1) H → va_D A (mW cB cI cJ cZ h0 a cs1) → va_S A s.heap H locs → lv_has ls 3 [(0, .ref h0)] → W p l e (headSpec (wsOf yX12_watermark cX12_watermark 3 (some .int)) ({ frames := 606, cells := 0, slots := 0, locals := 60 * (606) } : Room)).room s m ([.ref h0, .long x1] : List Value).toArray below meth c H locs 0 0 (MQ below (va_Qi (fun (x : Int32) (_ : Unit) => x = r9) (fun _ t_ => va_P (dC, dI) vwCl (mW cB cI cJ cZ h0 a cs9) t_.heap ∧ va_D A (mW cB cI cJ cZ h0 a cs9)) A) ([.ref h0, .long x1] : List Value).toArray s 0 0 A) (F0 m 24 ls []) := by
    intro cs1  h H locs ls hP hD hS hl
    unfold m_watermark_b24 at h
    refine lv_aload_n hx hb dX12_watermark_24 rfl (lv_at hl 0 rfl) ?_
    refine fg_110 hx hb hts hown hK hP dX12_watermark_25 ?_
    obtain ⟨e1, e2⟩ := Prod.mk.inj (Option.some.inj h)
    rw [e1] at hP hD
    exact W.iret (v := cs1.1 110) hx hb hr (fun t_ ht hW => ⟨⟨cs1.1 110, (), rfl, e2, by rw [ht]; exact hP, hD⟩, hS.F ht⟩) hS.2.2 dX12_watermark_28
  have h := hf
  unfold m_watermark at h
  refine lv_aload_n hx hb dX12_watermark_0 rfl (lv_at hl 0 rfl) ?_
  refine lv_iconst (v := 0) hx hb dX12_watermark_1 (by decide) ?_
  refine fp_110 hx hb hts hown hK hP hD hS dX12_watermark_2 (fun H locs hP hD hS => ?_)
  refine lv_lload_n hx hb dX12_watermark_5 rfl (lv_at hl 1 rfl) ?_
  refine lv_aload_n hx hb dX12_watermark_6 rfl (lv_at hl 0 rfl) ?_
  refine fg_10 hx hb hts hown hK hP dX12_watermark_7 ?_
  refine W.lcmp hx hb dX12_watermark_10 ?_
  refine lv_if_le (tgt := 24) hx hb dX12_watermark_11 (by decide) (fun c_1 => ?_) (fun c_1 => ?_)
  · skip
    have c_1 : x1 ≤ ((setF cs 110 0).2.1) := (lg_cmp_le _ _).mp c_1
    replace h := (if_pos c_1).symm.trans h
    exact B_24 (setF cs 110 0) h _ _ _ hP hD hS (lv_sub hl [0] rfl)
  · skip
    have c_1 : ¬ (x1 ≤ ((setF cs 110 0).2.1)) := fun h9 => c_1 ((lg_cmp_le _ _).mpr h9)
    replace h := (if_neg c_1).symm.trans h
    refine lv_aload_n hx hb dX12_watermark_14 rfl (lv_at hl 0 rfl) ?_
    refine lv_lload_n hx hb dX12_watermark_15 rfl (lv_at hl 1 rfl) ?_
    refine fp_10 hx hb hts hown hK hP hD hS dX12_watermark_16 (fun H locs hP hD hS => ?_)
    refine lv_aload_n hx hb dX12_watermark_19 rfl (lv_at hl 0 rfl) ?_
    refine lv_iconst (v := 1) hx hb dX12_watermark_20 (by decide) ?_
    obtain ⟨cs_2, hv_2, h⟩ := ob h
    refine calV (As := [.int 1]) hx hb hml hts hown hK hP hD hS hA hZ (s_renew l dC dI cB cI cJ cZ h0 a K V fz F (setW (setF cs 110 0) x1) 1 cs_2 hv_2) (cw_renew hts (fr := 605) (Nat.le_of_ble_eq_true rfl) (Nat.le_of_ble_eq_true rfl)) rfl hl.1 (Nat.le_of_ble_eq_true rfl) ⟨Nat.zero_le _, Nat.zero_le _⟩ dX12_watermark_21 (fun H locs hP hD hS => ?_)
    exact B_24 cs_2 h _ _ _ hP hD hS (lv_sub hl [0] rfl)
theorem dX12_take_0 : decode cX12_take 0 = .ok (.aload_n 0, 1) := by decide +kernel
theorem dX12_take_1 : decode cX12_take 1 = .ok (.invokevirtual 574, 3) := by decide +kernel
theorem dX12_take_4 : decode cX12_take 4 = .ok (.aload_n 0, 1) := by decide +kernel
theorem dX12_take_5 : decode cX12_take 5 = .ok (.iconst 0, 1) := by decide +kernel
theorem dX12_take_6 : decode cX12_take 6 = .ok (.putfield 302, 3) := by decide +kernel
theorem dX12_take_9 : decode cX12_take 9 = .ok (.aload_n 0, 1) := by decide +kernel
theorem dX12_take_10 : decode cX12_take 10 = .ok (.iconst 1, 1) := by decide +kernel
theorem dX12_take_11 : decode cX12_take 11 = .ok (.putfield 292, 3) := by decide +kernel
theorem dX12_take_14 : decode cX12_take 14 = .ok (.aload_n 0, 1) := by decide +kernel
theorem dX12_take_15 : decode cX12_take 15 = .ok (.iconst 0, 1) := by decide +kernel
theorem dX12_take_16 : decode cX12_take 16 = .ok (.putfield 296, 3) := by decide +kernel
theorem dX12_take_19 : decode cX12_take 19 = .ok (.aload_n 0, 1) := by decide +kernel
theorem dX12_take_20 : decode cX12_take 20 = .ok (.iconst 0, 1) := by decide +kernel
theorem dX12_take_21 : decode cX12_take 21 = .ok (.putfield 378, 3) := by decide +kernel
theorem dX12_take_24 : decode cX12_take 24 = .ok (.aload_n 0, 1) := by decide +kernel
theorem dX12_take_25 : decode cX12_take 25 = .ok (.iconst 0, 1) := by decide +kernel
theorem dX12_take_26 : decode cX12_take 26 = .ok (.putfield 477, 3) := by decide +kernel
theorem dX12_take_29 : decode cX12_take 29 = .ok (.aload_n 0, 1) := by decide +kernel
theorem dX12_take_30 : decode cX12_take 30 = .ok (.iconst 0, 1) := by decide +kernel
theorem dX12_take_31 : decode cX12_take 31 = .ok (.putfield 453, 3) := by decide +kernel
theorem dX12_take_34 : decode cX12_take 34 = .ok (.aload_n 0, 1) := by decide +kernel
theorem dX12_take_35 : decode cX12_take 35 = .ok (.iconst 0, 1) := by decide +kernel
theorem dX12_take_36 : decode cX12_take 36 = .ok (.putfield 503, 3) := by decide +kernel
theorem dX12_take_39 : decode cX12_take 39 = .ok (.aload_n 0, 1) := by decide +kernel
theorem dX12_take_40 : decode cX12_take 40 = .ok (.iconst 0, 1) := by decide +kernel
theorem dX12_take_41 : decode cX12_take 41 = .ok (.putfield 347, 3) := by decide +kernel
theorem dX12_take_44 : decode cX12_take 44 = .ok (.aload_n 0, 1) := by decide +kernel
theorem dX12_take_45 : decode cX12_take 45 = .ok (.iconst 0, 1) := by decide +kernel
theorem dX12_take_46 : decode cX12_take 46 = .ok (.putfield 447, 3) := by decide +kernel
theorem dX12_take_49 : decode cX12_take 49 = .ok (.aload_n 0, 1) := by decide +kernel
theorem dX12_take_50 : decode cX12_take 50 = .ok (.iconst 0, 1) := by decide +kernel
theorem dX12_take_51 : decode cX12_take 51 = .ok (.putfield 358, 3) := by decide +kernel
theorem dX12_take_54 : decode cX12_take 54 = .ok (.aload_n 0, 1) := by decide +kernel
theorem dX12_take_55 : decode cX12_take 55 = .ok (.iconst 0, 1) := by decide +kernel
theorem dX12_take_56 : decode cX12_take 56 = .ok (.putfield 361, 3) := by decide +kernel
theorem dX12_take_59 : decode cX12_take 59 = .ok (.aload_n 0, 1) := by decide +kernel
theorem dX12_take_60 : decode cX12_take 60 = .ok (.aload_n 0, 1) := by decide +kernel
theorem dX12_take_61 : decode cX12_take 61 = .ok (.ldc_w 577, 3) := by decide +kernel
theorem dX12_take_64 : decode cX12_take 64 = .ok (.invokevirtual 326, 3) := by decide +kernel
theorem dX12_take_67 : decode cX12_take 67 = .ok (.putfield 552, 3) := by decide +kernel
theorem dX12_take_70 : decode cX12_take 70 = .ok (.aload_n 0, 1) := by decide +kernel
theorem dX12_take_71 : decode cX12_take 71 = .ok (.invokevirtual 500, 3) := by decide +kernel
theorem dX12_take_74 : decode cX12_take 74 = .ok (.istore_n 1, 1) := by decide +kernel
theorem dX12_take_75 : decode cX12_take 75 = .ok (.aload_n 0, 1) := by decide +kernel
theorem dX12_take_76 : decode cX12_take 76 = .ok (.getfield 292, 3) := by decide +kernel
theorem dX12_take_79 : decode cX12_take 79 = .ok (.ifCond .eq 19, 3) := by decide +kernel
theorem dX12_take_82 : decode cX12_take 82 = .ok (.aload_n 0, 1) := by decide +kernel
theorem dX12_take_83 : decode cX12_take 83 = .ok (.getfield 40, 3) := by decide +kernel
theorem dX12_take_86 : decode cX12_take 86 = .ok (.aload_n 0, 1) := by decide +kernel
theorem dX12_take_87 : decode cX12_take 87 = .ok (.getfield 302, 3) := by decide +kernel
theorem dX12_take_90 : decode cX12_take 90 = .ok (.iaload, 1) := by decide +kernel
theorem dX12_take_91 : decode cX12_take 91 = .ok (.ifCond .eq 7, 3) := by decide +kernel
theorem dX12_take_94 : decode cX12_take 94 = .ok (.aload_n 0, 1) := by decide +kernel
theorem dX12_take_95 : decode cX12_take 95 = .ok (.invokevirtual 329, 3) := by decide +kernel
theorem dX12_take_98 : decode cX12_take 98 = .ok (.aload_n 0, 1) := by decide +kernel
theorem dX12_take_99 : decode cX12_take 99 = .ok (.getfield 292, 3) := by decide +kernel
theorem dX12_take_102 : decode cX12_take 102 = .ok (.ifCond .eq 8, 3) := by decide +kernel
theorem dX12_take_105 : decode cX12_take 105 = .ok (.aload_n 0, 1) := by decide +kernel
theorem dX12_take_106 : decode cX12_take 106 = .ok (.iconst 0, 1) := by decide +kernel
theorem dX12_take_107 : decode cX12_take 107 = .ok (.invokevirtual 562, 3) := by decide +kernel
theorem dX12_take_110 : decode cX12_take 110 = .ok (.return_, 1) := by decide +kernel
def m_take_b110 (F : Nat) (cs1 : RS) : Option RS := some cs1
def m_take_b98 (F : Nat) (cs1 : RS) : Option RS := if (cs1.1 21) = 0 then (m_take_b110 F cs1) else (Option.bind (m_judgeQuery F 300 cs1 0) fun cs_2 => m_take_b110 F cs_2)
def m_take (F : Nat) (cs : RS) : Option RS := Option.bind (m_tokens F cs ) fun cs_3 => Option.bind (m_takeWord F (setF (setF (setF (setF (setF (setF (setF (setF (setF (setF (setF cs_3 18 0) 21 1) 19 0) 22 0) 34 0) 59 0) 69 0) 70 0) 71 0) 72 0) 73 0) 2) fun z_4 => Option.bind (ckZ z_4.2) fun _ => Option.bind (m_queryOf F 300 (setF z_4.1 75 z_4.2) ) fun z_6 => if (z_6.1.1 21) = 0 then (m_take_b98 F z_6.1) else (Option.bind (rdI (z_6.1.2.2.1 14) 2001 (z_6.1.1 18)) fun v_8 => if v_8 = 0 then (m_take_b98 F z_6.1) else (Option.bind (m_wrong F z_6.1 ) fun cs_10 => m_take_b98 F cs_10))
set_option maxHeartbeats 4000000 in
set_option maxRecDepth 100000 in
theorem s_take (l : Launch) (dC : Nat → ClassId) (dI : Nat → Nat → Nat) (cB cI cJ cZ : ClassId) (h0 : Nat) (a : Nat → Nat) (K V : Nat → Nat) (fz : Value) (F : Nat) (cs : RS) (cs9 : RS) (hf : m_take F cs = some cs9) : okV l dC dI cB cI cJ cZ h0 a K V fz yX12_take (wsOf yX12_take cX12_take 2 none) (612) [.ref h0] cs cs9 := by
  intro sz
  refine Met.ofW (cc := cX12_take) (maxL := 2) (ret := none) (by decide) rfl ?_
  intro p e s m args below meth c s₁ B hml hv
  obtain ⟨rfl, hsz, hP, hK, hD0, hZ⟩ := hv
  have hx := B.exec
  have hb := B.bytes
  have hr := B.returns
  have hts := atoms_spec (ws := (wsOf yX12_take cX12_take 2 none)) B.pre
  have hown : s.vm.findClass RX12 = some m.cls := findClass_of_methodNamed B.named
  have hlocks := B.notSynchronized
  subst hsz
  have hD := hD0.self (sz := s.heap.size)
  generalize hAe : va_A (mW cB cI cJ cZ h0 a cs) s.heap.size = A at hD hZ ⊢
  have hA : ∀ q : Nat, s.heap.size ≤ q → A q := fun q h => by rw [← hAe]; exact Or.inr h
  have hS : va_S A s.heap s.heap [] := va_S.rf
  have hl := lv_entry ([.ref h0]) (n := 2) (Nat.le_of_ble_eq_true rfl)
  rw [lg_entry_eq]
  generalize (lg_sl ([.ref h0]) ++ List.replicate (2 - (lg_sl ([.ref h0])).length) Slot.unset).toArray = ls at hl ⊢
  have hl : lv_has ls 2 [(0, .ref h0)] := hl
  have B_110 : ∀ (cs1 : RS) , m_take_b110 F cs1 = some cs9 → ∀ (H : Heap) (locs : List Loc) (ls : Array Slot), va_P (dC, dI) vwCl (mW cB cI cJ cZ h0 a cs1) H → va_D A (mW cB cI cJ cZ h0 a cs1) → va_S A s.heap H locs → lv_has ls 2 [] → W p l e (headSpec (wsOf yX12_take cX12_take 2 none) ({ frames := 612, cells := 0, slots := 0, locals := 60 * (612) } : Room)).room s m ([.ref h0] : List Value).toArray below meth c H locs 0 0 (MQ below (va_Qv (fun (_ : Unit) => True) (fun _ t_ => va_P (dC, dI) vwCl (mW cB cI cJ cZ h0 a cs9) t_.heap ∧ va_D A (mW cB cI cJ cZ h0 a cs9)) A) ([.ref h0] : List Value).toArray s 0 0 A) (F0 m 110 ls []) := by
    intro cs1  h H locs ls hP hD hS hl
    unfold m_take_b110 at h
    have e1 := Option.some.inj h
    rw [e1] at hP hD
    exact W.vret hx hb hr (fun t_ ht hW => ⟨⟨(), rfl, trivial, by rw [ht]; exact hP, hD⟩, hS.F ht⟩) hS.2.2 dX12_take_110
  have B_98 : ∀ (cs1 : RS) , m_take_b98 F cs1 = some cs9 → ∀ (H : Heap) (locs : List Loc) (ls : Array Slot), va_P (dC, dI) vwCl (mW cB cI cJ cZ h0 a cs1) H → va_D A (mW cB cI cJ cZ h0 a cs1) → va_S A s.heap H locs → lv_has ls 2 [(0, .ref h0)] → W p l e (headSpec (wsOf yX12_take cX12_take 2 none) ({ frames := 612, cells := 0, slots := 0, locals := 60 * (612) } : Room)).room s m ([.ref h0] : List Value).toArray below meth c H locs 0 0 (MQ below (va_Qv (fun (_ : Unit) => True) (fun _ t_ => va_P (dC, dI) vwCl (mW cB cI cJ cZ h0 a cs9) t_.heap ∧ va_D A (mW cB cI cJ cZ h0 a cs9)) A) ([.ref h0] : List Value).toArray s 0 0 A) (F0 m 98 ls []) := by
    intro cs1  h H locs ls hP hD hS hl
    unfold m_take_b98 at h
    refine lv_aload_n hx hb dX12_take_98 rfl (lv_at hl 0 rfl) ?_
    refine fg_21 hx hb hts hown hK hP dX12_take_99 ?_
    refine lv_if_eq (tgt := 110) hx hb dX12_take_102 (by decide) (fun c_1 => ?_) (fun c_1 => ?_)
    · skip
      replace h := (if_pos c_1).symm.trans h
      exact B_110 cs1 h _ _ _ hP hD hS (lv_sub hl [] rfl)
    · skip
      replace h := (if_neg c_1).symm.trans h
      refine lv_aload_n hx hb dX12_take_105 rfl (lv_at hl 0 rfl) ?_
      refine lv_iconst (v := 0) hx hb dX12_take_106 (by decide) ?_
      obtain ⟨cs_2, hv_2, h⟩ := ob h
      refine calV (As := [.int 0]) hx hb hml hts hown hK hP hD hS hA hZ (s_judgeQuery l dC dI cB cI cJ cZ h0 a K V fz F 300 cs1 0 cs_2 hv_2) (cw_judgeQuery hts (fr := 610) (Nat.le_of_ble_eq_true rfl) (Nat.le_of_ble_eq_true rfl)) rfl hl.1 (Nat.le_of_ble_eq_true rfl) ⟨Nat.zero_le _, Nat.zero_le _⟩ dX12_take_107 (fun H locs hP hD hS => ?_)
      exact B_110 cs_2 h _ _ _ hP hD hS (lv_sub hl [] rfl)
  have h := hf
  unfold m_take at h
  refine lv_aload_n hx hb dX12_take_0 rfl (lv_at hl 0 rfl) ?_
  obtain ⟨cs_3, hv_3, h⟩ := ob h
  refine calV (As := []) hx hb hml hts hown hK hP hD hS hA hZ (s_tokens l dC dI cB cI cJ cZ h0 a K V fz F cs  cs_3 hv_3) (cw_tokens hts (fr := 1) (Nat.le_of_ble_eq_true rfl) (Nat.le_of_ble_eq_true rfl)) rfl hl.1 (Nat.le_of_ble_eq_true rfl) ⟨Nat.zero_le _, Nat.zero_le _⟩ dX12_take_1 (fun H locs hP hD hS => ?_)
  refine lv_aload_n hx hb dX12_take_4 rfl (lv_at hl 0 rfl) ?_
  refine lv_iconst (v := 0) hx hb dX12_take_5 (by decide) ?_
  refine fp_18 hx hb hts hown hK hP hD hS dX12_take_6 (fun H locs hP hD hS => ?_)
  refine lv_aload_n hx hb dX12_take_9 rfl (lv_at hl 0 rfl) ?_
  refine lv_iconst (v := 1) hx hb dX12_take_10 (by decide) ?_
  refine fp_21 hx hb hts hown hK hP hD hS (Or.inr rfl) dX12_take_11 (fun H locs hP hD hS => ?_)
  refine lv_aload_n hx hb dX12_take_14 rfl (lv_at hl 0 rfl) ?_
  refine lv_iconst (v := 0) hx hb dX12_take_15 (by decide) ?_
  refine fp_19 hx hb hts hown hK hP hD hS dX12_take_16 (fun H locs hP hD hS => ?_)
  refine lv_aload_n hx hb dX12_take_19 rfl (lv_at hl 0 rfl) ?_
  refine lv_iconst (v := 0) hx hb dX12_take_20 (by decide) ?_
  refine fp_22 hx hb hts hown hK hP hD hS dX12_take_21 (fun H locs hP hD hS => ?_)
  refine lv_aload_n hx hb dX12_take_24 rfl (lv_at hl 0 rfl) ?_
  refine lv_iconst (v := 0) hx hb dX12_take_25 (by decide) ?_
  refine fp_34 hx hb hts hown hK hP hD hS dX12_take_26 (fun H locs hP hD hS => ?_)
  refine lv_aload_n hx hb dX12_take_29 rfl (lv_at hl 0 rfl) ?_
  refine lv_iconst (v := 0) hx hb dX12_take_30 (by decide) ?_
  refine fp_59 hx hb hts hown hK hP hD hS dX12_take_31 (fun H locs hP hD hS => ?_)
  refine lv_aload_n hx hb dX12_take_34 rfl (lv_at hl 0 rfl) ?_
  refine lv_iconst (v := 0) hx hb dX12_take_35 (by decide) ?_
  refine fp_69 hx hb hts hown hK hP hD hS dX12_take_36 (fun H locs hP hD hS => ?_)
  refine lv_aload_n hx hb dX12_take_39 rfl (lv_at hl 0 rfl) ?_
  refine lv_iconst (v := 0) hx hb dX12_take_40 (by decide) ?_
  refine fp_70 hx hb hts hown hK hP hD hS dX12_take_41 (fun H locs hP hD hS => ?_)
  refine lv_aload_n hx hb dX12_take_44 rfl (lv_at hl 0 rfl) ?_
  refine lv_iconst (v := 0) hx hb dX12_take_45 (by decide) ?_
  refine fp_71 hx hb hts hown hK hP hD hS dX12_take_46 (fun H locs hP hD hS => ?_)
  refine lv_aload_n hx hb dX12_take_49 rfl (lv_at hl 0 rfl) ?_
  refine lv_iconst (v := 0) hx hb dX12_take_50 (by decide) ?_
  refine fp_72 hx hb hts hown hK hP hD hS (Or.inl rfl) dX12_take_51 (fun H locs hP hD hS => ?_)
  refine lv_aload_n hx hb dX12_take_54 rfl (lv_at hl 0 rfl) ?_
  refine lv_iconst (v := 0) hx hb dX12_take_55 (by decide) ?_
  refine fp_73 hx hb hts hown hK hP hD hS (Or.inl rfl) dX12_take_56 (fun H locs hP hD hS => ?_)
  refine lv_aload_n hx hb dX12_take_59 rfl (lv_at hl 0 rfl) ?_
  refine lv_aload_n hx hb dX12_take_60 rfl (lv_at hl 0 rfl) ?_
  refine va_ldcSW (own := RX12) (index := 577) (tx := soT 2) (q := K 2) hx hb hown (hZ.ref 2 (by decide)) dX12_take_61 ?_
  obtain ⟨z_4, hv_4, h⟩ := ob h
  refine calI (As := [.ref (K 2)]) hx hb hml hts hown hK hP hD hS hA hZ (s_takeWord l dC dI cB cI cJ cZ h0 a K V fz F (setF (setF (setF (setF (setF (setF (setF (setF (setF (setF (setF cs_3 18 0) 21 1) 19 0) 22 0) 34 0) 59 0) 69 0) 70 0) 71 0) 72 0) 73 0) 2 (by decide) z_4.1 z_4.2 hv_4) (cw_takeWord hts (fr := 8) (Nat.le_of_ble_eq_true rfl) (Nat.le_of_ble_eq_true rfl)) rfl hl.1 (Nat.le_of_ble_eq_true rfl) ⟨Nat.zero_le _, Nat.zero_le _⟩ dX12_take_64 (fun H locs hP hD hS => ?_)
  obtain ⟨w_5, hw_5, h⟩ := ob h
  refine fp_75 hx hb hts hown hK hP hD hS (ckZ_some hw_5) dX12_take_67 (fun H locs hP hD hS => ?_)
  refine lv_aload_n hx hb dX12_take_70 rfl (lv_at hl 0 rfl) ?_
  obtain ⟨z_6, hv_6, h⟩ := ob h
  refine calI (As := []) hx hb hml hts hown hK hP hD hS hA hZ (s_queryOf l dC dI cB cI cJ cZ h0 a K V fz F 300 (setF z_4.1 75 z_4.2)  z_6.1 z_6.2 hv_6) (cw_queryOf hts (fr := 611) (Nat.le_of_ble_eq_true rfl) (Nat.le_of_ble_eq_true rfl)) rfl hl.1 (Nat.le_of_ble_eq_true rfl) ⟨Nat.zero_le _, Nat.zero_le _⟩ dX12_take_71 (fun H locs hP hD hS => ?_)
  refine lv_istore_n (lv' := [(1, .int z_6.2), (0, .ref h0)]) hx hb dX12_take_74 rfl hl (by decide) rfl (fun ls hl => ?_)
  refine lv_aload_n hx hb dX12_take_75 rfl (lv_at hl 1 rfl) ?_
  refine fg_21 hx hb hts hown hK hP dX12_take_76 ?_
  refine lv_if_eq (tgt := 98) hx hb dX12_take_79 (by decide) (fun c_7 => ?_) (fun c_7 => ?_)
  · skip
    replace h := (if_pos c_7).symm.trans h
    exact B_98 z_6.1 h _ _ _ hP hD hS (lv_sub hl [1] rfl)
  · skip
    replace h := (if_neg c_7).symm.trans h
    refine lv_aload_n hx hb dX12_take_82 rfl (lv_at hl 1 rfl) ?_
    refine fg_14 hx hb hts hown hK hP dX12_take_83 ?_
    refine lv_aload_n hx hb dX12_take_86 rfl (lv_at hl 1 rfl) ?_
    refine fg_18 hx hb hts hown hK hP dX12_take_87 ?_
    obtain ⟨v_8, hv_8, h⟩ := ob h
    refine ag_14 hx hb hK hP hv_8 dX12_take_90 ?_
    refine lv_if_eq (tgt := 98) hx hb dX12_take_91 (by decide) (fun c_9 => ?_) (fun c_9 => ?_)
    · skip
      replace h := (if_pos c_9).symm.trans h
      exact B_98 z_6.1 h _ _ _ hP hD hS (lv_sub hl [1] rfl)
    · skip
      replace h := (if_neg c_9).symm.trans h
      refine lv_aload_n hx hb dX12_take_94 rfl (lv_at hl 1 rfl) ?_
      obtain ⟨cs_10, hv_10, h⟩ := ob h
      refine calV (As := []) hx hb hml hts hown hK hP hD hS hA hZ (s_wrong l dC dI cB cI cJ cZ h0 a K V fz F z_6.1  cs_10 hv_10) (cw_wrong hts (fr := 1) (Nat.le_of_ble_eq_true rfl) (Nat.le_of_ble_eq_true rfl)) rfl hl.1 (Nat.le_of_ble_eq_true rfl) ⟨Nat.zero_le _, Nat.zero_le _⟩ dX12_take_95 (fun H locs hP hD hS => ?_)
      exact B_98 cs_10 h _ _ _ hP hD hS (lv_sub hl [1] rfl)
theorem cw_take {R : Room} {s : State} {args : Array Value} {y0 : MethodName} {c0 : ByteArray} {n0 : Nat} {r0 : Option FieldType} (hts : ∀ w ∈ wsOf y0 c0 n0 r0, w.before args s = true) {fr : Nat} (h1 : fr + 1 ≤ R.frames) (h2 : 8 + (2 + 11) + 60 * fr ≤ R.locals) : CallW R s args RX12 RX12 578 yX12_take cX12_take 2 none (wsOf yX12_take cX12_take 2 none) ({ frames := fr, cells := 0, slots := 0, locals := 60 * fr } : Room) 0 0 0 := cwV 0 hts (gd_all (in_V kw_2224 kw_2226 kw_132 kw_191 kc_X12_take)) rfl rfl rfl (by decide +kernel) ⟨h1, h2⟩
theorem dX12_query_0 : decode cX12_query 0 = .ok (.aload_n 0, 1) := by decide +kernel
theorem dX12_query_1 : decode cX12_query 1 = .ok (.aload_n 0, 1) := by decide +kernel
theorem dX12_query_2 : decode cX12_query 2 = .ok (.getfield 253, 3) := by decide +kernel
theorem dX12_query_5 : decode cX12_query 5 = .ok (.putfield 278, 3) := by decide +kernel
theorem dX12_query_8 : decode cX12_query 8 = .ok (.iconst 0, 1) := by decide +kernel
theorem dX12_query_9 : decode cX12_query 9 = .ok (.istore_n 1, 1) := by decide +kernel
theorem dX12_query_10 : decode cX12_query 10 = .ok (.iload_n 1, 1) := by decide +kernel
theorem dX12_query_11 : decode cX12_query 11 = .ok (.aload_n 0, 1) := by decide +kernel
theorem dX12_query_12 : decode cX12_query 12 = .ok (.getfield 253, 3) := by decide +kernel
theorem dX12_query_15 : decode cX12_query 15 = .ok (.if_icmp .ge 21, 3) := by decide +kernel
theorem dX12_query_18 : decode cX12_query 18 = .ok (.aload_n 0, 1) := by decide +kernel
theorem dX12_query_19 : decode cX12_query 19 = .ok (.getfield 13, 3) := by decide +kernel
theorem dX12_query_22 : decode cX12_query 22 = .ok (.iload_n 1, 1) := by decide +kernel
theorem dX12_query_23 : decode cX12_query 23 = .ok (.aload_n 0, 1) := by decide +kernel
theorem dX12_query_24 : decode cX12_query 24 = .ok (.getfield 7, 3) := by decide +kernel
theorem dX12_query_27 : decode cX12_query 27 = .ok (.iload_n 1, 1) := by decide +kernel
theorem dX12_query_28 : decode cX12_query 28 = .ok (.baload, 1) := by decide +kernel
theorem dX12_query_29 : decode cX12_query 29 = .ok (.bastore, 1) := by decide +kernel
theorem dX12_query_30 : decode cX12_query 30 = .ok (.iinc 1 1, 3) := by decide +kernel
theorem dX12_query_33 : decode cX12_query 33 = .ok (.goto (-23), 3) := by decide +kernel
theorem dX12_query_36 : decode cX12_query 36 = .ok (.aload_n 0, 1) := by decide +kernel
theorem dX12_query_37 : decode cX12_query 37 = .ok (.iconst 0, 1) := by decide +kernel
theorem dX12_query_38 : decode cX12_query 38 = .ok (.putfield 253, 3) := by decide +kernel
theorem dX12_query_41 : decode cX12_query 41 = .ok (.aload_n 0, 1) := by decide +kernel
theorem dX12_query_42 : decode cX12_query 42 = .ok (.iconst 0, 1) := by decide +kernel
theorem dX12_query_43 : decode cX12_query 43 = .ok (.putfield 271, 3) := by decide +kernel
theorem dX12_query_46 : decode cX12_query 46 = .ok (.aload_n 0, 1) := by decide +kernel
theorem dX12_query_47 : decode cX12_query 47 = .ok (.invokevirtual 578, 3) := by decide +kernel
theorem dX12_query_50 : decode cX12_query 50 = .ok (.aload_n 0, 1) := by decide +kernel
theorem dX12_query_51 : decode cX12_query 51 = .ok (.aload_n 0, 1) := by decide +kernel
theorem dX12_query_52 : decode cX12_query 52 = .ok (.getfield 296, 3) := by decide +kernel
theorem dX12_query_55 : decode cX12_query 55 = .ok (.putfield 581, 3) := by decide +kernel
theorem dX12_query_58 : decode cX12_query 58 = .ok (.aload_n 0, 1) := by decide +kernel
theorem dX12_query_59 : decode cX12_query 59 = .ok (.getfield 292, 3) := by decide +kernel
theorem dX12_query_62 : decode cX12_query 62 = .ok (.ifCond .ne 60, 3) := by decide +kernel
theorem dX12_query_65 : decode cX12_query 65 = .ok (.aload_n 0, 1) := by decide +kernel
theorem dX12_query_66 : decode cX12_query 66 = .ok (.getfield 299, 3) := by decide +kernel
theorem dX12_query_69 : decode cX12_query 69 = .ok (.istore_n 1, 1) := by decide +kernel
theorem dX12_query_70 : decode cX12_query 70 = .ok (.aload_n 0, 1) := by decide +kernel
theorem dX12_query_71 : decode cX12_query 71 = .ok (.getfield 584, 3) := by decide +kernel
theorem dX12_query_74 : decode cX12_query 74 = .ok (.ifCond .eq 43, 3) := by decide +kernel
theorem dX12_query_77 : decode cX12_query 77 = .ok (.aload_n 0, 1) := by decide +kernel
theorem dX12_query_78 : decode cX12_query 78 = .ok (.aload_n 0, 1) := by decide +kernel
theorem dX12_query_79 : decode cX12_query 79 = .ok (.getfield 587, 3) := by decide +kernel
theorem dX12_query_82 : decode cX12_query 82 = .ok (.putfield 278, 3) := by decide +kernel
theorem dX12_query_85 : decode cX12_query 85 = .ok (.iconst 0, 1) := by decide +kernel
theorem dX12_query_86 : decode cX12_query 86 = .ok (.istore_n 2, 1) := by decide +kernel
theorem dX12_query_87 : decode cX12_query 87 = .ok (.iload_n 2, 1) := by decide +kernel
theorem dX12_query_88 : decode cX12_query 88 = .ok (.aload_n 0, 1) := by decide +kernel
theorem dX12_query_89 : decode cX12_query 89 = .ok (.getfield 587, 3) := by decide +kernel
theorem dX12_query_92 : decode cX12_query 92 = .ok (.if_icmp .ge 21, 3) := by decide +kernel
theorem dX12_query_95 : decode cX12_query 95 = .ok (.aload_n 0, 1) := by decide +kernel
theorem dX12_query_96 : decode cX12_query 96 = .ok (.getfield 13, 3) := by decide +kernel
theorem dX12_query_99 : decode cX12_query 99 = .ok (.iload_n 2, 1) := by decide +kernel
theorem dX12_query_100 : decode cX12_query 100 = .ok (.aload_n 0, 1) := by decide +kernel
theorem dX12_query_101 : decode cX12_query 101 = .ok (.getfield 190, 3) := by decide +kernel
theorem dX12_query_104 : decode cX12_query 104 = .ok (.iload_n 2, 1) := by decide +kernel
theorem dX12_query_105 : decode cX12_query 105 = .ok (.baload, 1) := by decide +kernel
theorem dX12_query_106 : decode cX12_query 106 = .ok (.bastore, 1) := by decide +kernel
theorem dX12_query_107 : decode cX12_query 107 = .ok (.iinc 2 1, 3) := by decide +kernel
theorem dX12_query_110 : decode cX12_query 110 = .ok (.goto (-23), 3) := by decide +kernel
theorem dX12_query_113 : decode cX12_query 113 = .ok (.aload_n 0, 1) := by decide +kernel
theorem dX12_query_114 : decode cX12_query 114 = .ok (.invokevirtual 578, 3) := by decide +kernel
theorem dX12_query_117 : decode cX12_query 117 = .ok (.bipush (-10), 2) := by decide +kernel
theorem dX12_query_119 : decode cX12_query 119 = .ok (.iload_n 1, 1) := by decide +kernel
theorem dX12_query_120 : decode cX12_query 120 = .ok (.isub, 1) := by decide +kernel
theorem dX12_query_121 : decode cX12_query 121 = .ok (.ireturn, 1) := by decide +kernel
theorem dX12_query_122 : decode cX12_query 122 = .ok (.aload_n 0, 1) := by decide +kernel
theorem dX12_query_123 : decode cX12_query 123 = .ok (.iconst 1, 1) := by decide +kernel
theorem dX12_query_124 : decode cX12_query 124 = .ok (.putfield 584, 3) := by decide +kernel
theorem dX12_query_127 : decode cX12_query 127 = .ok (.aload_n 0, 1) := by decide +kernel
theorem dX12_query_128 : decode cX12_query 128 = .ok (.aload_n 0, 1) := by decide +kernel
theorem dX12_query_129 : decode cX12_query 129 = .ok (.getfield 278, 3) := by decide +kernel
theorem dX12_query_132 : decode cX12_query 132 = .ok (.putfield 587, 3) := by decide +kernel
theorem dX12_query_135 : decode cX12_query 135 = .ok (.iconst 0, 1) := by decide +kernel
theorem dX12_query_136 : decode cX12_query 136 = .ok (.istore_n 1, 1) := by decide +kernel
theorem dX12_query_137 : decode cX12_query 137 = .ok (.iload_n 1, 1) := by decide +kernel
theorem dX12_query_138 : decode cX12_query 138 = .ok (.aload_n 0, 1) := by decide +kernel
theorem dX12_query_139 : decode cX12_query 139 = .ok (.getfield 278, 3) := by decide +kernel
theorem dX12_query_142 : decode cX12_query 142 = .ok (.if_icmp .ge 21, 3) := by decide +kernel
theorem dX12_query_145 : decode cX12_query 145 = .ok (.aload_n 0, 1) := by decide +kernel
theorem dX12_query_146 : decode cX12_query 146 = .ok (.getfield 190, 3) := by decide +kernel
theorem dX12_query_149 : decode cX12_query 149 = .ok (.iload_n 1, 1) := by decide +kernel
theorem dX12_query_150 : decode cX12_query 150 = .ok (.aload_n 0, 1) := by decide +kernel
theorem dX12_query_151 : decode cX12_query 151 = .ok (.getfield 13, 3) := by decide +kernel
theorem dX12_query_154 : decode cX12_query 154 = .ok (.iload_n 1, 1) := by decide +kernel
theorem dX12_query_155 : decode cX12_query 155 = .ok (.baload, 1) := by decide +kernel
theorem dX12_query_156 : decode cX12_query 156 = .ok (.bastore, 1) := by decide +kernel
theorem dX12_query_157 : decode cX12_query 157 = .ok (.iinc 1 1, 3) := by decide +kernel
theorem dX12_query_160 : decode cX12_query 160 = .ok (.goto (-23), 3) := by decide +kernel
theorem dX12_query_163 : decode cX12_query 163 = .ok (.aload_n 0, 1) := by decide +kernel
theorem dX12_query_164 : decode cX12_query 164 = .ok (.iconst 0, 1) := by decide +kernel
theorem dX12_query_165 : decode cX12_query 165 = .ok (.invokevirtual 274, 3) := by decide +kernel
theorem dX12_query_168 : decode cX12_query 168 = .ok (.aload_n 0, 1) := by decide +kernel
theorem dX12_query_169 : decode cX12_query 169 = .ok (.getfield 88, 3) := by decide +kernel
theorem dX12_query_172 : decode cX12_query 172 = .ok (.aload_n 0, 1) := by decide +kernel
theorem dX12_query_173 : decode cX12_query 173 = .ok (.getfield 160, 3) := by decide +kernel
theorem dX12_query_176 : decode cX12_query 176 = .ok (.iconst 0, 1) := by decide +kernel
theorem dX12_query_177 : decode cX12_query 177 = .ok (.iaload, 1) := by decide +kernel
theorem dX12_query_178 : decode cX12_query 178 = .ok (.iaload, 1) := by decide +kernel
theorem dX12_query_179 : decode cX12_query 179 = .ok (.ireturn, 1) := by decide +kernel
def m_query_b117 (F : Nat) (cs1 : RS) (u1 : Int32) : Option (RS × Int32) := some (cs1, (-10) - u1)
def m_query_L87 (F : Nat) : Nat → RS → Int32 → Int32 → Option (RS × Int32)
  | 0, _, _, _ => none
  | lf_87 + 1, cs1, u1, u2 => if (cs1.1 84) ≤ u2 then (Option.bind (m_take F cs1 ) fun cs_2 => m_query_b117 F cs_2 u1) else (Option.bind (rdI (cs1.2.2.1 83) 2000 u2) fun v_3 => Option.bind (wrI cs1 2 2000 u2 (vp_nar .byte v_3)) fun cs_4 => (m_query_L87 F lf_87) cs_4 u1 (u2 + 1))
def m_query_L137 (F : Nat) : Nat → RS → Int32 → Option (RS × Int32)
  | 0, _, _ => none
  | lf_137 + 1, cs1, u1 => if (cs1.1 3) ≤ u1 then (Option.bind (m_renew F cs1 0) fun cs_6 => Option.bind (rdI (cs_6.2.2.1 61) 300 0) fun v_7 => Option.bind (rdI (cs_6.2.2.1 36) 60 v_7) fun v_8 => some (cs_6, v_8)) else (Option.bind (rdI (cs1.2.2.1 2) 2000 u1) fun v_9 => Option.bind (wrI cs1 83 2000 u1 (vp_nar .byte v_9)) fun cs_10 => (m_query_L137 F lf_137) cs_10 (u1 + 1))
def m_query_L10 (F : Nat) : Nat → RS → Int32 → Option (RS × Int32)
  | 0, _, _ => none
  | lf_10 + 1, cs1, u1 => if (cs1.1 1) ≤ u1 then (Option.bind (m_take F (setF (setF cs1 1 0) 110 0) ) fun cs_12 => if ((setF cs_12 82 (cs_12.1 19)).1 21) = 0 then (if ((setF cs_12 82 (cs_12.1 19)).1 81) = 0 then (m_query_b117 F (setF cs_12 82 (cs_12.1 19)) ((setF cs_12 82 (cs_12.1 19)).1 20)) else (m_query_L87 F F (setF (setF cs_12 82 (cs_12.1 19)) 3 ((setF cs_12 82 (cs_12.1 19)).1 84)) ((setF cs_12 82 (cs_12.1 19)).1 20) 0)) else (m_query_L137 F F (setF (setF (setF cs_12 82 (cs_12.1 19)) 81 1) 84 ((setF (setF cs_12 82 (cs_12.1 19)) 81 1).1 3)) 0)) else (Option.bind (rdI (cs1.2.2.1 0) 2000 u1) fun v_15 => Option.bind (wrI cs1 2 2000 u1 (vp_nar .byte v_15)) fun cs_16 => (m_query_L10 F lf_10) cs_16 (u1 + 1))
def m_query (F : Nat) (cs : RS) : Option (RS × Int32) := m_query_L10 F F (setF cs 3 (cs.1 1)) 0
set_option maxHeartbeats 4000000 in
set_option maxRecDepth 100000 in
theorem s_query (l : Launch) (dC : Nat → ClassId) (dI : Nat → Nat → Nat) (cB cI cJ cZ : ClassId) (h0 : Nat) (a : Nat → Nat) (K V : Nat → Nat) (fz : Value) (F : Nat) (cs : RS) (cs9 : RS) (r9 : Int32) (hf : m_query F cs = some (cs9, r9)) : okI l dC dI cB cI cJ cZ h0 a K V fz yX12_query (wsOf yX12_query cX12_query 3 (some .int)) (613) [.ref h0] cs cs9 r9 := by
  intro sz
  refine Met.ofW (cc := cX12_query) (maxL := 3) (ret := (some .int)) (by decide) rfl ?_
  intro p e s m args below meth c s₁ B hml hv
  obtain ⟨rfl, hsz, hP, hK, hD0, hZ⟩ := hv
  have hx := B.exec
  have hb := B.bytes
  have hr := B.returns
  have hts := atoms_spec (ws := (wsOf yX12_query cX12_query 3 (some .int))) B.pre
  have hown : s.vm.findClass RX12 = some m.cls := findClass_of_methodNamed B.named
  have hlocks := B.notSynchronized
  subst hsz
  have hD := hD0.self (sz := s.heap.size)
  generalize hAe : va_A (mW cB cI cJ cZ h0 a cs) s.heap.size = A at hD hZ ⊢
  have hA : ∀ q : Nat, s.heap.size ≤ q → A q := fun q h => by rw [← hAe]; exact Or.inr h
  have hS : va_S A s.heap s.heap [] := va_S.rf
  have hl := lv_entry ([.ref h0]) (n := 3) (Nat.le_of_ble_eq_true rfl)
  rw [lg_entry_eq]
  generalize (lg_sl ([.ref h0]) ++ List.replicate (3 - (lg_sl ([.ref h0])).length) Slot.unset).toArray = ls at hl ⊢
  have hl : lv_has ls 3 [(0, .ref h0)] := hl
  have B_117 : ∀ (cs1 : RS) (u1 : Int32), m_query_b117 F cs1 u1 = some (cs9, r9) → ∀ (H : Heap) (locs : List Loc) (ls : Array Slot), va_P (dC, dI) vwCl (mW cB cI cJ cZ h0 a cs1) H → va_D A (mW cB cI cJ cZ h0 a cs1) → va_S A s.heap H locs → lv_has ls 3 [(1, .int u1)] → W p l e (headSpec (wsOf yX12_query cX12_query 3 (some .int)) ({ frames := 613, cells := 0, slots := 0, locals := 60 * (613) } : Room)).room s m ([.ref h0] : List Value).toArray below meth c H locs 0 0 (MQ below (va_Qi (fun (x : Int32) (_ : Unit) => x = r9) (fun _ t_ => va_P (dC, dI) vwCl (mW cB cI cJ cZ h0 a cs9) t_.heap ∧ va_D A (mW cB cI cJ cZ h0 a cs9)) A) ([.ref h0] : List Value).toArray s 0 0 A) (F0 m 117 ls []) := by
    intro cs1 u1 h H locs ls hP hD hS hl
    unfold m_query_b117 at h
    refine lv_bipush (v := (-10)) hx hb dX12_query_117 (by decide) ?_
    refine lv_iload_n hx hb dX12_query_119 rfl (lv_at hl 0 rfl) ?_
    refine lv_isub hx hb dX12_query_120 ?_
    obtain ⟨e1, e2⟩ := Prod.mk.inj (Option.some.inj h)
    rw [e1] at hP hD
    exact W.iret (v := (-10) - u1) hx hb hr (fun t_ ht hW => ⟨⟨(-10) - u1, (), rfl, e2, by rw [ht]; exact hP, hD⟩, hS.F ht⟩) hS.2.2 dX12_query_121
  have L_87 : ∀ (lf_87 : Nat), ∀ (cs1 : RS) (u1 : Int32) (u2 : Int32), m_query_L87 F lf_87 cs1 u1 u2 = some (cs9, r9) → ∀ (H : Heap) (locs : List Loc) (ls : Array Slot), va_P (dC, dI) vwCl (mW cB cI cJ cZ h0 a cs1) H → va_D A (mW cB cI cJ cZ h0 a cs1) → va_S A s.heap H locs → lv_has ls 3 [(0, .ref h0), (1, .int u1), (2, .int u2)] → W p l e (headSpec (wsOf yX12_query cX12_query 3 (some .int)) ({ frames := 613, cells := 0, slots := 0, locals := 60 * (613) } : Room)).room s m ([.ref h0] : List Value).toArray below meth c H locs 0 0 (MQ below (va_Qi (fun (x : Int32) (_ : Unit) => x = r9) (fun _ t_ => va_P (dC, dI) vwCl (mW cB cI cJ cZ h0 a cs9) t_.heap ∧ va_D A (mW cB cI cJ cZ h0 a cs9)) A) ([.ref h0] : List Value).toArray s 0 0 A) (F0 m 87 ls []) := by
    intro lf_87
    induction lf_87 with
    | zero => intro cs1 u1 u2 h; cases (show (none : Option (RS × Int32)) = _ from h)
    | succ lf_87 ih_87 =>
      intro cs1 u1 u2 h H locs ls hP hD hS hl
      rw [m_query_L87] at h
      refine lv_iload_n hx hb dX12_query_87 rfl (lv_at hl 2 rfl) ?_
      refine lv_aload_n hx hb dX12_query_88 rfl (lv_at hl 0 rfl) ?_
      refine fg_84 hx hb hts hown hK hP dX12_query_89 ?_
      refine lv_icmp_ge (tgt := 113) hx hb dX12_query_92 (by decide) (fun c_1 => ?_) (fun c_1 => ?_)
      · skip
        replace h := (if_pos c_1).symm.trans h
        refine lv_aload_n hx hb dX12_query_113 rfl (lv_at hl 0 rfl) ?_
        obtain ⟨cs_2, hv_2, h⟩ := ob h
        refine calV (As := []) hx hb hml hts hown hK hP hD hS hA hZ (s_take l dC dI cB cI cJ cZ h0 a K V fz F cs1  cs_2 hv_2) (cw_take hts (fr := 612) (Nat.le_of_ble_eq_true rfl) (Nat.le_of_ble_eq_true rfl)) rfl hl.1 (Nat.le_of_ble_eq_true rfl) ⟨Nat.zero_le _, Nat.zero_le _⟩ dX12_query_114 (fun H locs hP hD hS => ?_)
        exact B_117 cs_2 u1 h _ _ _ hP hD hS (lv_sub hl [1] rfl)
      · skip
        replace h := (if_neg c_1).symm.trans h
        refine lv_aload_n hx hb dX12_query_95 rfl (lv_at hl 0 rfl) ?_
        refine fg_2 hx hb hts hown hK hP dX12_query_96 ?_
        refine lv_iload_n hx hb dX12_query_99 rfl (lv_at hl 2 rfl) ?_
        refine lv_aload_n hx hb dX12_query_100 rfl (lv_at hl 0 rfl) ?_
        refine fg_83 hx hb hts hown hK hP dX12_query_101 ?_
        refine lv_iload_n hx hb dX12_query_104 rfl (lv_at hl 2 rfl) ?_
        obtain ⟨v_3, hv_3, h⟩ := ob h
        refine ag_83 hx hb hK hP hv_3 dX12_query_105 ?_
        obtain ⟨cs_4, hv_4, h⟩ := ob h
        refine ap_2 hx hb hK hP hD hS hv_4 dX12_query_106 (fun H locs hP hD hS => ?_)
        refine lv_iinc (v := u2 + 1) (lv' := [(2, .int (u2 + 1)), (0, .ref h0), (1, .int u1)]) hx hb dX12_query_107 hl (k := 2) rfl rfl (by decide) rfl (fun ls hl => ?_)
        refine lv_goto (tgt := 87) hx hb dX12_query_110 (by decide) ?_
        exact ih_87 cs_4 u1 (u2 + 1) h _ _ _ hP hD hS (lv_sub hl [1, 2, 0] rfl)
  have L_137 : ∀ (lf_137 : Nat), ∀ (cs1 : RS) (u1 : Int32), m_query_L137 F lf_137 cs1 u1 = some (cs9, r9) → ∀ (H : Heap) (locs : List Loc) (ls : Array Slot), va_P (dC, dI) vwCl (mW cB cI cJ cZ h0 a cs1) H → va_D A (mW cB cI cJ cZ h0 a cs1) → va_S A s.heap H locs → lv_has ls 3 [(0, .ref h0), (1, .int u1)] → W p l e (headSpec (wsOf yX12_query cX12_query 3 (some .int)) ({ frames := 613, cells := 0, slots := 0, locals := 60 * (613) } : Room)).room s m ([.ref h0] : List Value).toArray below meth c H locs 0 0 (MQ below (va_Qi (fun (x : Int32) (_ : Unit) => x = r9) (fun _ t_ => va_P (dC, dI) vwCl (mW cB cI cJ cZ h0 a cs9) t_.heap ∧ va_D A (mW cB cI cJ cZ h0 a cs9)) A) ([.ref h0] : List Value).toArray s 0 0 A) (F0 m 137 ls []) := by
    intro lf_137
    induction lf_137 with
    | zero => intro cs1 u1 h; cases (show (none : Option (RS × Int32)) = _ from h)
    | succ lf_137 ih_137 =>
      intro cs1 u1 h H locs ls hP hD hS hl
      rw [m_query_L137] at h
      refine lv_iload_n hx hb dX12_query_137 rfl (lv_at hl 1 rfl) ?_
      refine lv_aload_n hx hb dX12_query_138 rfl (lv_at hl 0 rfl) ?_
      refine fg_3 hx hb hts hown hK hP dX12_query_139 ?_
      refine lv_icmp_ge (tgt := 163) hx hb dX12_query_142 (by decide) (fun c_5 => ?_) (fun c_5 => ?_)
      · skip
        replace h := (if_pos c_5).symm.trans h
        refine lv_aload_n hx hb dX12_query_163 rfl (lv_at hl 0 rfl) ?_
        refine lv_iconst (v := 0) hx hb dX12_query_164 (by decide) ?_
        obtain ⟨cs_6, hv_6, h⟩ := ob h
        refine calV (As := [.int 0]) hx hb hml hts hown hK hP hD hS hA hZ (s_renew l dC dI cB cI cJ cZ h0 a K V fz F cs1 0 cs_6 hv_6) (cw_renew hts (fr := 605) (Nat.le_of_ble_eq_true rfl) (Nat.le_of_ble_eq_true rfl)) rfl hl.1 (Nat.le_of_ble_eq_true rfl) ⟨Nat.zero_le _, Nat.zero_le _⟩ dX12_query_165 (fun H locs hP hD hS => ?_)
        refine lv_aload_n hx hb dX12_query_168 rfl (lv_at hl 0 rfl) ?_
        refine fg_36 hx hb hts hown hK hP dX12_query_169 ?_
        refine lv_aload_n hx hb dX12_query_172 rfl (lv_at hl 0 rfl) ?_
        refine fg_61 hx hb hts hown hK hP dX12_query_173 ?_
        refine lv_iconst (v := 0) hx hb dX12_query_176 (by decide) ?_
        obtain ⟨v_7, hv_7, h⟩ := ob h
        refine ag_61 hx hb hK hP hv_7 dX12_query_177 ?_
        obtain ⟨v_8, hv_8, h⟩ := ob h
        refine ag_36 hx hb hK hP hv_8 dX12_query_178 ?_
        obtain ⟨e1, e2⟩ := Prod.mk.inj (Option.some.inj h)
        rw [e1] at hP hD
        exact W.iret (v := v_8) hx hb hr (fun t_ ht hW => ⟨⟨v_8, (), rfl, e2, by rw [ht]; exact hP, hD⟩, hS.F ht⟩) hS.2.2 dX12_query_179
      · skip
        replace h := (if_neg c_5).symm.trans h
        refine lv_aload_n hx hb dX12_query_145 rfl (lv_at hl 0 rfl) ?_
        refine fg_83 hx hb hts hown hK hP dX12_query_146 ?_
        refine lv_iload_n hx hb dX12_query_149 rfl (lv_at hl 1 rfl) ?_
        refine lv_aload_n hx hb dX12_query_150 rfl (lv_at hl 0 rfl) ?_
        refine fg_2 hx hb hts hown hK hP dX12_query_151 ?_
        refine lv_iload_n hx hb dX12_query_154 rfl (lv_at hl 1 rfl) ?_
        obtain ⟨v_9, hv_9, h⟩ := ob h
        refine ag_2 hx hb hK hP hv_9 dX12_query_155 ?_
        obtain ⟨cs_10, hv_10, h⟩ := ob h
        refine ap_83 hx hb hK hP hD hS hv_10 dX12_query_156 (fun H locs hP hD hS => ?_)
        refine lv_iinc (v := u1 + 1) (lv' := [(1, .int (u1 + 1)), (0, .ref h0)]) hx hb dX12_query_157 hl (k := 1) rfl rfl (by decide) rfl (fun ls hl => ?_)
        refine lv_goto (tgt := 137) hx hb dX12_query_160 (by decide) ?_
        exact ih_137 cs_10 (u1 + 1) h _ _ _ hP hD hS (lv_sub hl [1, 0] rfl)
  have L_10 : ∀ (lf_10 : Nat), ∀ (cs1 : RS) (u1 : Int32), m_query_L10 F lf_10 cs1 u1 = some (cs9, r9) → ∀ (H : Heap) (locs : List Loc) (ls : Array Slot), va_P (dC, dI) vwCl (mW cB cI cJ cZ h0 a cs1) H → va_D A (mW cB cI cJ cZ h0 a cs1) → va_S A s.heap H locs → lv_has ls 3 [(0, .ref h0), (1, .int u1)] → W p l e (headSpec (wsOf yX12_query cX12_query 3 (some .int)) ({ frames := 613, cells := 0, slots := 0, locals := 60 * (613) } : Room)).room s m ([.ref h0] : List Value).toArray below meth c H locs 0 0 (MQ below (va_Qi (fun (x : Int32) (_ : Unit) => x = r9) (fun _ t_ => va_P (dC, dI) vwCl (mW cB cI cJ cZ h0 a cs9) t_.heap ∧ va_D A (mW cB cI cJ cZ h0 a cs9)) A) ([.ref h0] : List Value).toArray s 0 0 A) (F0 m 10 ls []) := by
    intro lf_10
    induction lf_10 with
    | zero => intro cs1 u1 h; cases (show (none : Option (RS × Int32)) = _ from h)
    | succ lf_10 ih_10 =>
      intro cs1 u1 h H locs ls hP hD hS hl
      rw [m_query_L10] at h
      refine lv_iload_n hx hb dX12_query_10 rfl (lv_at hl 1 rfl) ?_
      refine lv_aload_n hx hb dX12_query_11 rfl (lv_at hl 0 rfl) ?_
      refine fg_1 hx hb hts hown hK hP dX12_query_12 ?_
      refine lv_icmp_ge (tgt := 36) hx hb dX12_query_15 (by decide) (fun c_11 => ?_) (fun c_11 => ?_)
      · skip
        replace h := (if_pos c_11).symm.trans h
        refine lv_aload_n hx hb dX12_query_36 rfl (lv_at hl 0 rfl) ?_
        refine lv_iconst (v := 0) hx hb dX12_query_37 (by decide) ?_
        refine fp_1 hx hb hts hown hK hP hD hS dX12_query_38 (fun H locs hP hD hS => ?_)
        refine lv_aload_n hx hb dX12_query_41 rfl (lv_at hl 0 rfl) ?_
        refine lv_iconst (v := 0) hx hb dX12_query_42 (by decide) ?_
        refine fp_110 hx hb hts hown hK hP hD hS dX12_query_43 (fun H locs hP hD hS => ?_)
        refine lv_aload_n hx hb dX12_query_46 rfl (lv_at hl 0 rfl) ?_
        obtain ⟨cs_12, hv_12, h⟩ := ob h
        refine calV (As := []) hx hb hml hts hown hK hP hD hS hA hZ (s_take l dC dI cB cI cJ cZ h0 a K V fz F (setF (setF cs1 1 0) 110 0)  cs_12 hv_12) (cw_take hts (fr := 612) (Nat.le_of_ble_eq_true rfl) (Nat.le_of_ble_eq_true rfl)) rfl hl.1 (Nat.le_of_ble_eq_true rfl) ⟨Nat.zero_le _, Nat.zero_le _⟩ dX12_query_47 (fun H locs hP hD hS => ?_)
        refine lv_aload_n hx hb dX12_query_50 rfl (lv_at hl 0 rfl) ?_
        refine lv_aload_n hx hb dX12_query_51 rfl (lv_at hl 0 rfl) ?_
        refine fg_19 hx hb hts hown hK hP dX12_query_52 ?_
        refine fp_82 hx hb hts hown hK hP hD hS dX12_query_55 (fun H locs hP hD hS => ?_)
        refine lv_aload_n hx hb dX12_query_58 rfl (lv_at hl 0 rfl) ?_
        refine fg_21 hx hb hts hown hK hP dX12_query_59 ?_
        refine lv_if_ne (tgt := 122) hx hb dX12_query_62 (by decide) (fun c_13 => ?_) (fun c_13 => ?_)
        · skip
          replace h := (if_neg c_13).symm.trans h
          refine lv_aload_n hx hb dX12_query_122 rfl (lv_at hl 0 rfl) ?_
          refine lv_iconst (v := 1) hx hb dX12_query_123 (by decide) ?_
          refine fp_81 hx hb hts hown hK hP hD hS (Or.inr rfl) dX12_query_124 (fun H locs hP hD hS => ?_)
          refine lv_aload_n hx hb dX12_query_127 rfl (lv_at hl 0 rfl) ?_
          refine lv_aload_n hx hb dX12_query_128 rfl (lv_at hl 0 rfl) ?_
          refine fg_3 hx hb hts hown hK hP dX12_query_129 ?_
          refine fp_84 hx hb hts hown hK hP hD hS dX12_query_132 (fun H locs hP hD hS => ?_)
          refine lv_iconst (v := 0) hx hb dX12_query_135 (by decide) ?_
          refine lv_istore_n (lv' := [(1, .int 0), (0, .ref h0)]) hx hb dX12_query_136 rfl hl (by decide) rfl (fun ls hl => ?_)
          exact L_137 F (setF (setF (setF cs_12 82 (cs_12.1 19)) 81 1) 84 ((setF (setF cs_12 82 (cs_12.1 19)) 81 1).1 3)) 0 h _ _ _ hP hD hS (lv_sub hl [1, 0] rfl)
        · skip
          replace h := (if_pos c_13).symm.trans h
          refine lv_aload_n hx hb dX12_query_65 rfl (lv_at hl 0 rfl) ?_
          refine fg_20 hx hb hts hown hK hP dX12_query_66 ?_
          refine lv_istore_n (lv' := [(1, .int ((setF cs_12 82 (cs_12.1 19)).1 20)), (0, .ref h0)]) hx hb dX12_query_69 rfl hl (by decide) rfl (fun ls hl => ?_)
          refine lv_aload_n hx hb dX12_query_70 rfl (lv_at hl 1 rfl) ?_
          refine fg_81 hx hb hts hown hK hP dX12_query_71 ?_
          refine lv_if_eq (tgt := 117) hx hb dX12_query_74 (by decide) (fun c_14 => ?_) (fun c_14 => ?_)
          · skip
            replace h := (if_pos c_14).symm.trans h
            exact B_117 (setF cs_12 82 (cs_12.1 19)) ((setF cs_12 82 (cs_12.1 19)).1 20) h _ _ _ hP hD hS (lv_sub hl [0] rfl)
          · skip
            replace h := (if_neg c_14).symm.trans h
            refine lv_aload_n hx hb dX12_query_77 rfl (lv_at hl 1 rfl) ?_
            refine lv_aload_n hx hb dX12_query_78 rfl (lv_at hl 1 rfl) ?_
            refine fg_84 hx hb hts hown hK hP dX12_query_79 ?_
            refine fp_3 hx hb hts hown hK hP hD hS dX12_query_82 (fun H locs hP hD hS => ?_)
            refine lv_iconst (v := 0) hx hb dX12_query_85 (by decide) ?_
            refine lv_istore_n (lv' := [(2, .int 0), (1, .int ((setF cs_12 82 (cs_12.1 19)).1 20)), (0, .ref h0)]) hx hb dX12_query_86 rfl hl (by decide) rfl (fun ls hl => ?_)
            exact L_87 F (setF (setF cs_12 82 (cs_12.1 19)) 3 ((setF cs_12 82 (cs_12.1 19)).1 84)) ((setF cs_12 82 (cs_12.1 19)).1 20) 0 h _ _ _ hP hD hS (lv_sub hl [2, 1, 0] rfl)
      · skip
        replace h := (if_neg c_11).symm.trans h
        refine lv_aload_n hx hb dX12_query_18 rfl (lv_at hl 0 rfl) ?_
        refine fg_2 hx hb hts hown hK hP dX12_query_19 ?_
        refine lv_iload_n hx hb dX12_query_22 rfl (lv_at hl 1 rfl) ?_
        refine lv_aload_n hx hb dX12_query_23 rfl (lv_at hl 0 rfl) ?_
        refine fg_0 hx hb hts hown hK hP dX12_query_24 ?_
        refine lv_iload_n hx hb dX12_query_27 rfl (lv_at hl 1 rfl) ?_
        obtain ⟨v_15, hv_15, h⟩ := ob h
        refine ag_0 hx hb hK hP hv_15 dX12_query_28 ?_
        obtain ⟨cs_16, hv_16, h⟩ := ob h
        refine ap_2 hx hb hK hP hD hS hv_16 dX12_query_29 (fun H locs hP hD hS => ?_)
        refine lv_iinc (v := u1 + 1) (lv' := [(1, .int (u1 + 1)), (0, .ref h0)]) hx hb dX12_query_30 hl (k := 1) rfl rfl (by decide) rfl (fun ls hl => ?_)
        refine lv_goto (tgt := 10) hx hb dX12_query_33 (by decide) ?_
        exact ih_10 cs_16 (u1 + 1) h _ _ _ hP hD hS (lv_sub hl [1, 0] rfl)
  have h := hf
  unfold m_query at h
  refine lv_aload_n hx hb dX12_query_0 rfl (lv_at hl 0 rfl) ?_
  refine lv_aload_n hx hb dX12_query_1 rfl (lv_at hl 0 rfl) ?_
  refine fg_1 hx hb hts hown hK hP dX12_query_2 ?_
  refine fp_3 hx hb hts hown hK hP hD hS dX12_query_5 (fun H locs hP hD hS => ?_)
  refine lv_iconst (v := 0) hx hb dX12_query_8 (by decide) ?_
  refine lv_istore_n (lv' := [(1, .int 0), (0, .ref h0)]) hx hb dX12_query_9 rfl hl (by decide) rfl (fun ls hl => ?_)
  exact L_10 F (setF cs 3 (cs.1 1)) 0 h _ _ _ hP hD hS (lv_sub hl [1, 0] rfl)

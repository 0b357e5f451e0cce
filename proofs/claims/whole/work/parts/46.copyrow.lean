/-! a stream's row laid into a strip, cell by cell; the capacity grows with it -/
def crV (vs : Nat → Int64) (ns : Nat → Int32) (c t : Nat) (v : Nat → Int64) : Nat → Nat → Int64 | 0 => v | i + 1 => vp_updL (crV vs ns c t v i) (t + i) (pv (vs (c + i)) (ns (c + i)))
def crB (ns : Nat → Int32) (c t : Nat) (b : Nat → Int32) : Nat → Nat → Int32 | 0 => b | i + 1 => upd (crB ns c t b i) (t + i) (pb (ns (c + i)))
def crN (n t : Nat) : Nat → Nat | 0 => n | i + 1 => capN (crN n t i) (t + i + 1)
theorem crN_s (n t i : Nat) : crN n t i ≤ crN n t (i + 1) := (capN_le (crN n t i) (t + i + 1)).1
theorem crN_m (n t i : Nat) : ∀ k, crN n t i ≤ crN n t (i + k)
  | 0 => Nat.le_refl _
  | k + 1 => Nat.le_trans (crN_m n t i k) (crN_s n t (i + k))
theorem crN_lt {n t : Nat} (hn : n < 500000) : ∀ i, t + i < 199999 → crN n t i < 500000
  | 0, _ => hn
  | i + 1, h => capN_lt (crN_lt hn i (by omega)) (by omega)
theorem crN_g (n t i : Nat) : n ≤ crN n t i := by have h := crN_m n t 0 i; rw [Nat.zero_add] at h; exact h
theorem crV_z {vs : Nat → Int64} {ns : Nat → Int32} {c t n : Nat} {v : Nat → Int64} (hz : ∀ j, n ≤ j → v j = 0) : ∀ i j, crN n t i ≤ j → crV vs ns c t v i j = 0
  | 0, j, h => hz j h
  | i + 1, j, h => by
    have h1 := capN_le (crN n t i) (t + i + 1)
    have h2 : capN (crN n t i) (t + i + 1) ≤ j := h
    show vp_updL (crV vs ns c t v i) (t + i) _ j = 0
    rw [pk_uLn (by omega)]
    exact crV_z hz i j (by omega)
theorem crB_z {ns : Nat → Int32} {c t n : Nat} {b : Nat → Int32} (hz : ∀ j, n ≤ j → b j = 0) : ∀ i j, crN n t i ≤ j → crB ns c t b i j = 0
  | 0, j, h => hz j h
  | i + 1, j, h => by
    have h1 := capN_le (crN n t i) (t + i + 1)
    have h2 : capN (crN n t i) (t + i + 1) ≤ j := h
    show upd (crB ns c t b i) (t + i) _ j = 0
    rw [pk_un (by omega)]
    exact crB_z hz i j (by omega)
theorem fit_pb (x : Int32) : fits .byte (.int (pb x)) = true := by unfold pb; rw [pk_vb]; exact pk_fb _
theorem crB_f {ns : Nat → Int32} {c t : Nat} {b : Nat → Int32} (h : sb_Fit b) : ∀ i, sb_Fit (crB ns c t b i)
  | 0 => h
  | i + 1 => sb_fitU (crB_f h i) (fit_pb _)
theorem dX7_copyRow_0 : decode cX7_copyRow 0 = .ok (.aload_n 0, 1) := by decide +kernel
theorem dX7_copyRow_1 : decode cX7_copyRow 1 = .ok (.iload_n 1, 1) := by decide +kernel
theorem dX7_copyRow_2 : decode cX7_copyRow 2 = .ok (.iload_n 2, 1) := by decide +kernel
theorem dX7_copyRow_3 : decode cX7_copyRow 3 = .ok (.invokevirtual 62, 3) := by decide +kernel
theorem dX7_copyRow_6 : decode cX7_copyRow 6 = .ok (.ifCond .ne 4, 3) := by decide +kernel
theorem dX7_copyRow_9 : decode cX7_copyRow 9 = .ok (.return_, 1) := by decide +kernel
theorem dX7_copyRow_10 : decode cX7_copyRow 10 = .ok (.iload_n 1, 1) := by decide +kernel
theorem dX7_copyRow_11 : decode cX7_copyRow 11 = .ok (.bipush 8, 2) := by decide +kernel
theorem dX7_copyRow_13 : decode cX7_copyRow 13 = .ok (.imul, 1) := by decide +kernel
theorem dX7_copyRow_14 : decode cX7_copyRow 14 = .ok (.iload_n 2, 1) := by decide +kernel
theorem dX7_copyRow_15 : decode cX7_copyRow 15 = .ok (.iadd, 1) := by decide +kernel
theorem dX7_copyRow_16 : decode cX7_copyRow 16 = .ok (.iconst 5, 1) := by decide +kernel
theorem dX7_copyRow_17 : decode cX7_copyRow 17 = .ok (.imul, 1) := by decide +kernel
theorem dX7_copyRow_18 : decode cX7_copyRow 18 = .ok (.istore 5, 2) := by decide +kernel
theorem dX7_copyRow_20 : decode cX7_copyRow 20 = .ok (.iconst 0, 1) := by decide +kernel
theorem dX7_copyRow_21 : decode cX7_copyRow 21 = .ok (.istore 6, 2) := by decide +kernel
theorem dX7_copyRow_23 : decode cX7_copyRow 23 = .ok (.iload 6, 2) := by decide +kernel
theorem dX7_copyRow_25 : decode cX7_copyRow 25 = .ok (.aload_n 0, 1) := by decide +kernel
theorem dX7_copyRow_26 : decode cX7_copyRow 26 = .ok (.getfield 19, 3) := by decide +kernel
theorem dX7_copyRow_29 : decode cX7_copyRow 29 = .ok (.iload_n 1, 1) := by decide +kernel
theorem dX7_copyRow_30 : decode cX7_copyRow 30 = .ok (.iaload, 1) := by decide +kernel
theorem dX7_copyRow_31 : decode cX7_copyRow 31 = .ok (.if_icmp .gt 44, 3) := by decide +kernel
theorem dX7_copyRow_34 : decode cX7_copyRow 34 = .ok (.iload 6, 2) := by decide +kernel
theorem dX7_copyRow_36 : decode cX7_copyRow 36 = .ok (.iconst 5, 1) := by decide +kernel
theorem dX7_copyRow_37 : decode cX7_copyRow 37 = .ok (.if_icmp .ge 38, 3) := by decide +kernel
theorem dX7_copyRow_40 : decode cX7_copyRow 40 = .ok (.aload_n 3, 1) := by decide +kernel
theorem dX7_copyRow_41 : decode cX7_copyRow 41 = .ok (.iload 4, 2) := by decide +kernel
theorem dX7_copyRow_43 : decode cX7_copyRow 43 = .ok (.iload 6, 2) := by decide +kernel
theorem dX7_copyRow_45 : decode cX7_copyRow 45 = .ok (.iadd, 1) := by decide +kernel
theorem dX7_copyRow_46 : decode cX7_copyRow 46 = .ok (.aload_n 0, 1) := by decide +kernel
theorem dX7_copyRow_47 : decode cX7_copyRow 47 = .ok (.getfield 23, 3) := by decide +kernel
theorem dX7_copyRow_50 : decode cX7_copyRow 50 = .ok (.iload 5, 2) := by decide +kernel
theorem dX7_copyRow_52 : decode cX7_copyRow 52 = .ok (.iload 6, 2) := by decide +kernel
theorem dX7_copyRow_54 : decode cX7_copyRow 54 = .ok (.iadd, 1) := by decide +kernel
theorem dX7_copyRow_55 : decode cX7_copyRow 55 = .ok (.laload, 1) := by decide +kernel
theorem dX7_copyRow_56 : decode cX7_copyRow 56 = .ok (.aload_n 0, 1) := by decide +kernel
theorem dX7_copyRow_57 : decode cX7_copyRow 57 = .ok (.getfield 27, 3) := by decide +kernel
theorem dX7_copyRow_60 : decode cX7_copyRow 60 = .ok (.iload 5, 2) := by decide +kernel
theorem dX7_copyRow_62 : decode cX7_copyRow 62 = .ok (.iload 6, 2) := by decide +kernel
theorem dX7_copyRow_64 : decode cX7_copyRow 64 = .ok (.iadd, 1) := by decide +kernel
theorem dX7_copyRow_65 : decode cX7_copyRow 65 = .ok (.baload, 1) := by decide +kernel
theorem dX7_copyRow_66 : decode cX7_copyRow 66 = .ok (.invokevirtual 72, 3) := by decide +kernel
theorem dX7_copyRow_69 : decode cX7_copyRow 69 = .ok (.iinc 6 1, 3) := by decide +kernel
theorem dX7_copyRow_72 : decode cX7_copyRow 72 = .ok (.goto (-49), 3) := by decide +kernel
theorem dX7_copyRow_75 : decode cX7_copyRow 75 = .ok (.return_, 1) := by decide +kernel
abbrev cs_t_X7_copyRow (cB cI cJ cZ : ClassId) (h0 hC hV hN hH hSt hU hBl : Nat) (k : Nat) (cf : Nat → Int32) (vf : Nat → Int64) (nf tf : Nat → Int32) (wm : Int64) (wx wy : Value) (d : Int32) (n : Nat) (sv : Nat → Int64) (sb : Nat → Int32) (wo wp : Value) (i9 j9 n1 t1 : Nat) : va_W := [(h0, .inr (8, [.int (nI k), .long wm, .ref hC, .ref hV, .ref hN, .ref hH, wx, wy, .int d])), (hC, .inl (cI, 6, .inl cf)), (hV, .inl (cJ, 240, .inr (.inl vf))), (hN, .inl (cB, 240, .inl nf)), (hH, .inl (cB, 48, .inl tf)), (hSt, .inr (9, [.ref hU, .ref hBl, wo, wp])), (hU, .inl (cJ, n, .inr (.inl sv))), (hBl, .inl (cB, n, .inl sb))]
abbrev pc_t_X7_copyRow (dC : Nat → ClassId) (dI : Nat → Nat → Nat) (sz : Nat) (cB cI cJ cZ : ClassId) (h0 hC hV hN hH hSt hU hBl : Nat) (k : Nat) (cf : Nat → Int32) (vf : Nat → Int64) (nf tf : Nat → Int32) (wm : Int64) (wx wy : Value) (d : Int32) (n : Nat) (sv : Nat → Int64) (sb : Nat → Int32) (wo wp : Value) (i9 j9 n1 t1 : Nat) : Array Value → State → Prop := va_Pc [.ref h0, .int (nI i9), .int (nI j9), .ref hSt, .int (nI t1)] (fun U => U.heap.size = sz ∧ va_P (dC, dI) vwCl [(h0, .inr (8, [.int (nI k), .long wm, .ref hC, .ref hV, .ref hN, .ref hH, wx, wy, .int d])), (hC, .inl (cI, 6, .inl cf)), (hV, .inl (cJ, 240, .inr (.inl vf))), (hN, .inl (cB, 240, .inl nf)), (hH, .inl (cB, 48, .inl tf)), (hSt, .inr (9, [.ref hU, .ref hBl, wo, wp])), (hU, .inl (cJ, n, .inr (.inl sv))), (hBl, .inl (cB, n, .inl sb))] U.heap ∧ va_K (dC, dI) vwCl [(cB, .byte), (cI, .int), (cJ, .long), (cZ, .boolean)] U ∧ va_D (fun _ => True) [(h0, .inr (8, [.int (nI k), .long wm, .ref hC, .ref hV, .ref hN, .ref hH, wx, wy, .int d])), (hC, .inl (cI, 6, .inl cf)), (hV, .inl (cJ, 240, .inr (.inl vf))), (hN, .inl (cB, 240, .inl nf)), (hH, .inl (cB, 48, .inl tf)), (hSt, .inr (9, [.ref hU, .ref hBl, wo, wp])), (hU, .inl (cJ, n, .inr (.inl sv))), (hBl, .inl (cB, n, .inl sb))])
abbrev qc_t_X7_copyRow (dC : Nat → ClassId) (dI : Nat → Nat → Nat) (cB cI cJ cZ : ClassId) (h0 hC hV hN hH hSt hU hBl : Nat) (k : Nat) (cf : Nat → Int32) (vf : Nat → Int64) (nf tf : Nat → Int32) (wm : Int64) (wx wy : Value) (d : Int32) (n : Nat) (sv : Nat → Int64) (sb : Nat → Int32) (wo wp : Value) (i9 j9 n1 t1 : Nat) (A : Nat → Prop) : Array Value → State → Outcome → State → Prop := va_Qv (fun (u : Unit) => match u with | _ => True) (fun (u : Unit) t_ => match u with | _ => ∃ (a1 a2 : Nat), va_P (dC, dI) vwCl [(h0, .inr (8, [.int (nI k), .long wm, .ref hC, .ref hV, .ref hN, .ref hH, wx, wy, .int d])), (hC, .inl (cI, 6, .inl cf)), (hV, .inl (cJ, 240, .inr (.inl vf))), (hN, .inl (cB, 240, .inl nf)), (hH, .inl (cB, 48, .inl tf)), (hSt, .inr (9, [.ref a1, .ref a2, wo, wp])), (a1, .inl (cJ, crN n t1 (n1 + 1), .inr (.inl (crV vf nf ((i9 * 8 + j9) * 5) t1 sv (n1 + 1))))), (a2, .inl (cB, crN n t1 (n1 + 1), .inl (crB nf ((i9 * 8 + j9) * 5) t1 sb (n1 + 1))))] t_.heap ∧ va_K (dC, dI) vwCl [(cB, .byte), (cI, .int), (cJ, .long), (cZ, .boolean)] t_ ∧ va_D A [(h0, .inr (8, [.int (nI k), .long wm, .ref hC, .ref hV, .ref hN, .ref hH, wx, wy, .int d])), (hC, .inl (cI, 6, .inl cf)), (hV, .inl (cJ, 240, .inr (.inl vf))), (hN, .inl (cB, 240, .inl nf)), (hH, .inl (cB, 48, .inl tf)), (hSt, .inr (9, [.ref a1, .ref a2, wo, wp])), (a1, .inl (cJ, crN n t1 (n1 + 1), .inr (.inl (crV vf nf ((i9 * 8 + j9) * 5) t1 sv (n1 + 1))))), (a2, .inl (cB, crN n t1 (n1 + 1), .inl (crB nf ((i9 * 8 + j9) * 5) t1 sb (n1 + 1))))]) A
set_option maxHeartbeats 4000000 in
set_option maxRecDepth 100000 in
theorem t_X7_copyRow (l : Launch) (dC : Nat → ClassId) (dI : Nat → Nat → Nat) (sz : Nat) (cB cI cJ cZ : ClassId) (h0 hC hV hN hH hSt hU hBl : Nat) (k : Nat) (cf : Nat → Int32) (vf : Nat → Int64) (nf tf : Nat → Int32) (wm : Int64) (wx wy : Value) (d : Int32) (n : Nat) (sv : Nat → Int64) (sb : Nat → Int32) (wo wp : Value) (i9 j9 n1 t1 : Nat) (hk : k ≤ 6) (hi9 : i9 < k) (hj9 : j9 < 8) (hci : cf i9 = nI n1) (hn1 : n1 ≤ 4) (hth : ¬ tf (i9 * 8 + j9) = 0) (hn : n < 500000) (hzv : ∀ j, n ≤ j → sv j = 0) (hzb : ∀ j, n ≤ j → sb j = 0) (hy : sb_Fit sb) (h64 : 64 ≤ n) (ht1 : t1 < 199000) : Met l yX7_copyRow (wsOf yX7_copyRow cX7_copyRow 7 none) ({ frames := 5, cells := (crN n t1 (n1 + 1) - n) / 16, slots := 4 * (crN n t1 (n1 + 1) - n), locals := 300 }) (pc_t_X7_copyRow dC dI sz cB cI cJ cZ h0 hC hV hN hH hSt hU hBl k cf vf nf tf wm wx wy d n sv sb wo wp i9 j9 n1 t1) (qc_t_X7_copyRow dC dI cB cI cJ cZ h0 hC hV hN hH hSt hU hBl k cf vf nf tf wm wx wy d n sv sb wo wp i9 j9 n1 t1 (va_A (cs_t_X7_copyRow cB cI cJ cZ h0 hC hV hN hH hSt hU hBl k cf vf nf tf wm wx wy d n sv sb wo wp i9 j9 n1 t1) sz)) ((crN n t1 (n1 + 1) - n) / 16) (4 * (crN n t1 (n1 + 1) - n)) (va_A (cs_t_X7_copyRow cB cI cJ cZ h0 hC hV hN hH hSt hU hBl k cf vf nf tf wm wx wy d n sv sb wo wp i9 j9 n1 t1) sz) := by
  refine Met.ofW (cc := cX7_copyRow) (maxL := 7) (ret := none) (by decide) rfl ?_
  intro p e s m args below meth c s₁ B hml hv
  obtain ⟨rfl, hsz, hP, hK, hD0⟩ := hv
  have hx := B.exec
  have hb := B.bytes
  have hr := B.returns
  have hts := atoms_spec (ws := (wsOf yX7_copyRow cX7_copyRow 7 none)) B.pre
  have hown : s.vm.findClass RX7 = some m.cls := findClass_of_methodNamed B.named
  have hlocks := B.notSynchronized
  subst hsz
  have hD := hD0.self (sz := s.heap.size)
  generalize hAe : va_A (cs_t_X7_copyRow cB cI cJ cZ h0 hC hV hN hH hSt hU hBl k cf vf nf tf wm wx wy d n sv sb wo wp i9 j9 n1 t1) s.heap.size = A at hD ⊢
  have hA : ∀ q : Nat, s.heap.size ≤ q → A q := fun q h => by rw [← hAe]; exact Or.inr h
  have hS : va_S A s.heap s.heap [] := va_S.rf
  have hP : va_P (dC, dI) vwCl [(h0, .inr (8, [.int (nI k), .long wm, .ref hC, .ref hV, .ref hN, .ref hH, wx, wy, .int d])), (hC, .inl (cI, 6, .inl cf)), (hV, .inl (cJ, 240, .inr (.inl vf))), (hN, .inl (cB, 240, .inl nf)), (hH, .inl (cB, 48, .inl tf)), (hSt, .inr (9, [.ref hU, .ref hBl, wo, wp])), (hU, .inl (cJ, n, .inr (.inl sv))), (hBl, .inl (cB, n, .inl sb))] s.heap := hP
  have hl := lv_entry ([.ref h0, .int (nI i9), .int (nI j9), .ref hSt, .int (nI t1)]) (n := 7) (Nat.le_of_ble_eq_true rfl)
  rw [lg_entry_eq]
  generalize (lg_sl ([.ref h0, .int (nI i9), .int (nI j9), .ref hSt, .int (nI t1)]) ++ List.replicate (7 - (lg_sl ([.ref h0, .int (nI i9), .int (nI j9), .ref hSt, .int (nI t1)])).length) Slot.unset).toArray = ls at hl ⊢
  have hl : lv_has ls 7 [(0, .ref h0), (1, .int (nI i9)), (2, .int (nI j9)), (3, .ref hSt), (4, .int (nI t1))] := hl
  refine lv_aload_n hx hb dX7_copyRow_0 rfl (lv_at hl 0 rfl) ?_
  refine lv_iload_n hx hb dX7_copyRow_1 rfl (lv_at hl 1 rfl) ?_
  refine lv_iload_n hx hb dX7_copyRow_2 rfl (lv_at hl 2 rfl) ?_
  have hPc := hP.sub (ws' := [(h0, .inr (8, [.int (nI k), .long wm, .ref hC, .ref hV, .ref hN, .ref hH, wx, wy, .int d])), (hC, .inl (cI, 6, .inl cf)), (hH, .inl (cB, 48, .inl tf))]) [0, 1, 4] rfl
  have hDc := hD.sub (ws' := [(h0, .inr (8, [.int (nI k), .long wm, .ref hC, .ref hV, .ref hN, .ref hH, wx, wy, .int d])), (hC, .inl (cI, 6, .inl cf)), (hH, .inl (cB, 48, .inl tf))]) [0, 1, 4] (by decide) rfl
  have hKc := hK.sub (tys' := [(cB, .byte), (cI, .int), (cJ, .long), (cZ, .boolean)]) [0, 1, 2, 3] rfl
  have hFc := va_free (wc := [(h0, .inr (8, [.int (nI k), .long wm, .ref hC, .ref hV, .ref hN, .ref hH, wx, wy, .int d])), (hC, .inl (cI, 6, .inl cf)), (hH, .inl (cB, 48, .inl tf))]) hD hS hA [0, 1, 4] rfl
  refine va_calli (va_runV (As := [.int (nI i9), .int (nI j9)]) (rest := []) ⟨hx, hb, hml, hown, hts⟩ (t_X7_holds_in l dC dI s.heap.size cB cI cJ cZ h0 hC hH k cf tf wm (.ref hV) (.ref hN) wx wy d i9 j9 hk hi9 hj9) (cwV 2 hts (gd_all (in_V kw_1389 kw_1390 kw_1391 kw_182 kc_X7_holds)) rfl rfl rfl (by decide +kernel) ⟨Nat.le_of_ble_eq_true rfl, Nat.le_of_ble_eq_true rfl⟩) ⟨fun a U g mk q => by obtain ⟨q0, q1, qP, qK, qD⟩ := q; exact ⟨q0, q1, qP, va_K.moved (u := U) (U := U.calling g mk a) (Vm.Alike.refl U.vm) qK, qD⟩, va_recv hKc hPc (ci := 8) (q0 := 0) rfl rfl, fun U hU hW => ⟨rfl, by rw [hU], by rw [hU]; exact hPc, va_K.moved hW.alike hKc, hDc.weaken (fun _ _ _ _ => trivial)⟩⟩ rfl rfl hl.1 rfl (lv_room (Nat.le_of_ble_eq_true rfl)) dX7_copyRow_3 ⟨by show 0 + 0 ≤ (crN n t1 (n1 + 1) - n) / 16; omega, by show 0 + 0 ≤ 4 * (crN n t1 (n1 + 1) - n); omega⟩) hS (fun q _ h => hFc q h) hFc (fun r_1 u t_ H1 locs ht hvm hw hB hz1 hk1 hS => ?_)
  obtain ⟨hP1, hK1, hD1⟩ := hB
  rw [ht] at hP1
  have hK1 := va_K.moved hvm.symm hK1
  obtain ⟨hP, hD⟩ := va_join (wr := [(hV, .inl (cJ, 240, .inr (.inl vf))), (hN, .inl (cB, 240, .inl nf)), (hSt, .inr (9, [.ref hU, .ref hBl, wo, wp])), (hU, .inl (cJ, n, .inr (.inl sv))), (hBl, .inl (cB, n, .inl sb))]) (w1 := [(h0, .inr (8, [.int (nI k), .long wm, .ref hC, .ref hV, .ref hN, .ref hH, wx, wy, .int d])), (hC, .inl (cI, 6, .inl cf)), (hH, .inl (cB, 48, .inl tf))]) hP hD [0, 1, 4] [2, 3, 5, 6, 7] rfl rfl (by decide) (by decide) hk1 hFc hP1 hD1
  have hK := (hK.sub (tys' := []) [] rfl).app hK1
  generalize H1 = H at hP hS ⊢
  have hP : va_P (dC, dI) vwCl [(hV, .inl (cJ, 240, .inr (.inl vf))), (hN, .inl (cB, 240, .inl nf)), (hSt, .inr (9, [.ref hU, .ref hBl, wo, wp])), (hU, .inl (cJ, n, .inr (.inl sv))), (hBl, .inl (cB, n, .inl sb)), (h0, .inr (8, [.int (nI k), .long wm, .ref hC, .ref hV, .ref hN, .ref hH, wx, wy, .int d])), (hC, .inl (cI, 6, .inl cf)), (hH, .inl (cB, 48, .inl tf))] H := hP
  have hD : va_D A [(hV, .inl (cJ, 240, .inr (.inl vf))), (hN, .inl (cB, 240, .inl nf)), (hSt, .inr (9, [.ref hU, .ref hBl, wo, wp])), (hU, .inl (cJ, n, .inr (.inl sv))), (hBl, .inl (cB, n, .inl sb)), (h0, .inr (8, [.int (nI k), .long wm, .ref hC, .ref hV, .ref hN, .ref hH, wx, wy, .int d])), (hC, .inl (cI, 6, .inl cf)), (hH, .inl (cB, 48, .inl tf))] := hD
  have hK : va_K (dC, dI) vwCl [(cB, .byte), (cI, .int), (cJ, .long), (cZ, .boolean)] s := hK
  have er_1 : r_1 = 1 := hw.trans (if_neg hth)
  rw [er_1]
  refine lv_if_ne (tgt := 10) hx hb dX7_copyRow_6 (by decide) (fun c_2 => ?_) (fun c_2 => ?_)
  · skip
    refine lv_iload_n hx hb dX7_copyRow_10 rfl (lv_at hl 1 rfl) ?_
    refine lv_bipush (v := 8) hx hb dX7_copyRow_11 (by decide) ?_
    refine lv_imul hx hb dX7_copyRow_13 ?_
    refine lv_topi (fun x_3 ex_3 => ?_)
    have ex_3 : x_3 = nI (i9 * 8) := ex_3.trans (pk_mul i9 8)
    subst ex_3
    refine lv_iload_n hx hb dX7_copyRow_14 rfl (lv_at hl 2 rfl) ?_
    refine lv_iadd hx hb dX7_copyRow_15 ?_
    refine lv_topi (fun x_4 ex_4 => ?_)
    have ex_4 : x_4 = nI (i9 * 8 + j9) := ex_4.trans (nI_add (i9 * 8) j9)
    subst ex_4
    refine lv_iconst (v := 5) hx hb dX7_copyRow_16 (by decide) ?_
    refine lv_imul hx hb dX7_copyRow_17 ?_
    refine lv_topi (fun x_5 ex_5 => ?_)
    have ex_5 : x_5 = nI ((i9 * 8 + j9) * 5) := ex_5.trans (pk_mul (i9 * 8 + j9) 5)
    subst ex_5
    refine lv_istore (lv' := [(5, .int (nI ((i9 * 8 + j9) * 5))), (0, .ref h0), (1, .int (nI i9)), (2, .int (nI j9)), (3, .ref hSt), (4, .int (nI t1))]) hx hb dX7_copyRow_18 hl (by decide) rfl (fun ls hl => ?_)
    refine lv_iconst (v := 0) hx hb dX7_copyRow_20 (by decide) ?_
    refine lv_istore (lv' := [(6, .int 0), (5, .int (nI ((i9 * 8 + j9) * 5))), (0, .ref h0), (1, .int (nI i9)), (2, .int (nI j9)), (3, .ref hSt), (4, .int (nI t1))]) hx hb dX7_copyRow_21 hl (by decide) rfl (fun ls hl => ?_)
    have lp_23 : ∀ (n_ : Nat) (i A1 A2 : Nat), i ≤ n1 + 1 → n1 + 1 - i < n_ → ∀ (H : Heap) (locs : List Loc) (ls : Array Slot), va_P (dC, dI) vwCl [(h0, .inr (8, [.int (nI k), .long wm, .ref hC, .ref hV, .ref hN, .ref hH, wx, wy, .int d])), (hC, .inl (cI, 6, .inl cf)), (hV, .inl (cJ, 240, .inr (.inl vf))), (hN, .inl (cB, 240, .inl nf)), (hH, .inl (cB, 48, .inl tf)), (hSt, .inr (9, [.ref A1, .ref A2, wo, wp])), (A1, .inl (cJ, crN n t1 i, .inr (.inl (crV vf nf ((i9 * 8 + j9) * 5) t1 sv i)))), (A2, .inl (cB, crN n t1 i, .inl (crB nf ((i9 * 8 + j9) * 5) t1 sb i)))] H → va_D A [(h0, .inr (8, [.int (nI k), .long wm, .ref hC, .ref hV, .ref hN, .ref hH, wx, wy, .int d])), (hC, .inl (cI, 6, .inl cf)), (hV, .inl (cJ, 240, .inr (.inl vf))), (hN, .inl (cB, 240, .inl nf)), (hH, .inl (cB, 48, .inl tf)), (hSt, .inr (9, [.ref A1, .ref A2, wo, wp])), (A1, .inl (cJ, crN n t1 i, .inr (.inl (crV vf nf ((i9 * 8 + j9) * 5) t1 sv i)))), (A2, .inl (cB, crN n t1 i, .inl (crB nf ((i9 * 8 + j9) * 5) t1 sb i)))] → va_S A s.heap H locs → lv_has ls 7 [(6, .int (nI i)), (5, .int (nI ((i9 * 8 + j9) * 5))), (0, .ref h0), (1, .int (nI i9)), (2, .int (nI j9)), (3, .ref hSt), (4, .int (nI t1))] → W p l e (headSpec (wsOf yX7_copyRow cX7_copyRow 7 none) ({ frames := 5, cells := (crN n t1 (n1 + 1) - n) / 16, slots := 4 * (crN n t1 (n1 + 1) - n), locals := 300 })).room s m ([.ref h0, .int (nI i9), .int (nI j9), .ref hSt, .int (nI t1)] : List Value).toArray below meth c H locs ((crN n t1 i - n) / 16) (4 * (crN n t1 i - n)) (MQ below (qc_t_X7_copyRow dC dI cB cI cJ cZ h0 hC hV hN hH hSt hU hBl k cf vf nf tf wm wx wy d n sv sb wo wp i9 j9 n1 t1 A) ([.ref h0, .int (nI i9), .int (nI j9), .ref hSt, .int (nI t1)] : List Value).toArray s ((crN n t1 (n1 + 1) - n) / 16) (4 * (crN n t1 (n1 + 1) - n)) A) (F0 m 23 ls []) := by
      intro n_
      induction n_ with
      | zero => intro i A1 A2 hi hm; exact absurd hm (Nat.not_lt_zero _)
      | succ n_ ih_23 =>
        intro i A1 A2 hi hm H locs ls hP hD hS hl
        have hl5 : crN n t1 i < 500000 := crN_lt hn i (by omega)
        have hg5 := crN_g n t1 i
        have hs5 : crN n t1 i ≤ capN (crN n t1 i) (t1 + i + 1) := crN_s n t1 i
        have hm5 : i ≤ n1 → capN (crN n t1 i) (t1 + i + 1) ≤ crN n t1 (n1 + 1) := fun h9 => by have h8 := crN_m n t1 (i + 1) (n1 - i); rw [show i + 1 + (n1 - i) = n1 + 1 by omega] at h8; exact h8
        refine lv_iload hx hb dX7_copyRow_23 (lv_at hl 0 rfl) ?_
        refine lv_aload_n hx hb dX7_copyRow_25 rfl (lv_at hl 2 rfl) ?_
        refine va_get (D := (dC, dI)) (ci := 8) (v := .ref hC) (C := RX7) (T := TX7) (N := 9) hx hb hts (fun w h => List.mem_cons_of_mem _ (uG_X7 w h)) hown hK hP 0 rfl rfl 2 (by decide) (hts _ (List.mem_cons_of_mem _ kw_227)) (fun _ h9 => h9) rfl dX7_copyRow_26 ?_
        refine lv_iload_n hx hb dX7_copyRow_29 rfl (lv_at hl 3 rfl) ?_
        refine va_iald hx hb hK hP 1 1 rfl rfl (i := (nI i9)) (vp_in_nI (n := i9) (N := 6) (by omega) (by omega)) dX7_copyRow_30 ?_
        refine lv_topi (fun x_6 ex_6 => ?_)
        have ex_6 : x_6 = cf i9 := ex_6.trans (congrArg cf (nI_clamp (n := i9) (by omega)))
        have ex_6 : x_6 = nI n1 := ex_6.trans hci
        subst ex_6
        refine lv_icmp_gt (tgt := 75) hx hb dX7_copyRow_31 (by decide) (fun c_7 => ?_) (fun c_7 => ?_)
        · skip
          have c_7 : n1 < i := (nI_ltI (a := n1) (b := i) (by omega) (by omega)).mp c_7
          have ei : i = n1 + 1 := by omega
          rw [ei] at hP hD ⊢
          have hP9 := hP.sub (ws' := [(h0, .inr (8, [.int (nI k), .long wm, .ref hC, .ref hV, .ref hN, .ref hH, wx, wy, .int d])), (hC, .inl (cI, 6, .inl cf)), (hV, .inl (cJ, 240, .inr (.inl vf))), (hN, .inl (cB, 240, .inl nf)), (hH, .inl (cB, 48, .inl tf)), (hSt, .inr (9, [.ref A1, .ref A2, wo, wp])), (A1, .inl (cJ, crN n t1 (n1 + 1), .inr (.inl (crV vf nf ((i9 * 8 + j9) * 5) t1 sv (n1 + 1))))), (A2, .inl (cB, crN n t1 (n1 + 1), .inl (crB nf ((i9 * 8 + j9) * 5) t1 sb (n1 + 1))))]) [0, 1, 2, 3, 4, 5, 6, 7] rfl
          have hD9 := hD.sub (ws' := [(h0, .inr (8, [.int (nI k), .long wm, .ref hC, .ref hV, .ref hN, .ref hH, wx, wy, .int d])), (hC, .inl (cI, 6, .inl cf)), (hV, .inl (cJ, 240, .inr (.inl vf))), (hN, .inl (cB, 240, .inl nf)), (hH, .inl (cB, 48, .inl tf)), (hSt, .inr (9, [.ref A1, .ref A2, wo, wp])), (A1, .inl (cJ, crN n t1 (n1 + 1), .inr (.inl (crV vf nf ((i9 * 8 + j9) * 5) t1 sv (n1 + 1))))), (A2, .inl (cB, crN n t1 (n1 + 1), .inl (crB nf ((i9 * 8 + j9) * 5) t1 sb (n1 + 1))))]) [0, 1, 2, 3, 4, 5, 6, 7] (by decide) rfl
          have hK9 := hK.sub (tys' := [(cB, .byte), (cI, .int), (cJ, .long), (cZ, .boolean)]) [0, 1, 2, 3] rfl
          refine W.widen (k := (crN n t1 (n1 + 1) - n) / 16) (n := 4 * (crN n t1 (n1 + 1) - n)) (by omega) (by omega) ?_
          exact W.vret hx hb hr (fun t_ ht hW => ⟨⟨(), rfl, trivial, A1, A2, by rw [ht]; exact hP9, va_K.moved hW.alike hK9, hD9⟩, hS.F ht⟩) hS.2.2 dX7_copyRow_75
        · skip
          have c_7 : ¬ (n1 < i) := fun h => c_7 ((nI_ltI (a := n1) (b := i) (by omega) (by omega)).mpr h)
          refine lv_iload hx hb dX7_copyRow_34 (lv_at hl 0 rfl) ?_
          refine lv_iconst (v := 5) hx hb dX7_copyRow_36 (by decide) ?_
          refine lv_icmp_ge (tgt := 75) hx hb dX7_copyRow_37 (by decide) (fun c_8 => ?_) (fun c_8 => ?_)
          · skip
            have c_8 : 5 ≤ i := (nI_leI (a := 5) (b := i) (by omega) (by omega)).mp c_8
            exact absurd c_8 (by omega)
          · skip
            have c_8 : ¬ (5 ≤ i) := fun h => c_8 ((nI_leI (a := 5) (b := i) (by omega) (by omega)).mpr h)
            refine lv_aload_n hx hb dX7_copyRow_40 rfl (lv_at hl 5 rfl) ?_
            refine lv_iload hx hb dX7_copyRow_41 (lv_at hl 6 rfl) ?_
            refine lv_iload hx hb dX7_copyRow_43 (lv_at hl 0 rfl) ?_
            refine lv_iadd hx hb dX7_copyRow_45 ?_
            refine lv_topi (fun x_9 ex_9 => ?_)
            have ex_9 : x_9 = nI (t1 + i) := ex_9.trans (nI_add t1 i)
            subst ex_9
            refine lv_aload_n hx hb dX7_copyRow_46 rfl (lv_at hl 2 rfl) ?_
            refine va_get (D := (dC, dI)) (ci := 8) (v := .ref hV) (C := RX7) (T := TX7) (N := 9) hx hb hts (fun w h => List.mem_cons_of_mem _ (uG_X7 w h)) hown hK hP 0 rfl rfl 3 (by decide) (hts _ (List.mem_cons_of_mem _ kw_228)) (fun _ h9 => h9) rfl dX7_copyRow_47 ?_
            refine lv_iload hx hb dX7_copyRow_50 (lv_at hl 1 rfl) ?_
            refine lv_iload hx hb dX7_copyRow_52 (lv_at hl 0 rfl) ?_
            refine lv_iadd hx hb dX7_copyRow_54 ?_
            refine lv_topi (fun x_10 ex_10 => ?_)
            have ex_10 : x_10 = nI ((i9 * 8 + j9) * 5 + i) := ex_10.trans (nI_add ((i9 * 8 + j9) * 5) i)
            subst ex_10
            refine va_lald hx hb hK hP 2 2 rfl rfl (i := (nI ((i9 * 8 + j9) * 5 + i))) (vp_in_nI (n := (i9 * 8 + j9) * 5 + i) (N := 240) (by omega) (by omega)) dX7_copyRow_55 ?_
            refine lv_topl (fun x_11 ex_11 => ?_)
            have ex_11 : x_11 = vf ((i9 * 8 + j9) * 5 + i) := ex_11.trans (congrArg vf (nI_clamp (n := (i9 * 8 + j9) * 5 + i) (by omega)))
            subst ex_11
            refine lv_aload_n hx hb dX7_copyRow_56 rfl (lv_at hl 2 rfl) ?_
            refine va_get (D := (dC, dI)) (ci := 8) (v := .ref hN) (C := RX7) (T := TX7) (N := 9) hx hb hts (fun w h => List.mem_cons_of_mem _ (uG_X7 w h)) hown hK hP 0 rfl rfl 4 (by decide) (hts _ (List.mem_cons_of_mem _ kw_229)) (fun _ h9 => h9) rfl dX7_copyRow_57 ?_
            refine lv_iload hx hb dX7_copyRow_60 (lv_at hl 1 rfl) ?_
            refine lv_iload hx hb dX7_copyRow_62 (lv_at hl 0 rfl) ?_
            refine lv_iadd hx hb dX7_copyRow_64 ?_
            refine lv_topi (fun x_12 ex_12 => ?_)
            have ex_12 : x_12 = nI ((i9 * 8 + j9) * 5 + i) := ex_12.trans (nI_add ((i9 * 8 + j9) * 5) i)
            subst ex_12
            refine va_bald hx hb hK hP 3 0 rfl rfl (i := (nI ((i9 * 8 + j9) * 5 + i))) (vp_in_nI (n := (i9 * 8 + j9) * 5 + i) (N := 240) (by omega) (by omega)) dX7_copyRow_65 ?_
            refine lv_topi (fun x_13 ex_13 => ?_)
            have ex_13 : x_13 = nf ((i9 * 8 + j9) * 5 + i) := ex_13.trans (congrArg nf (nI_clamp (n := (i9 * 8 + j9) * 5 + i) (by omega)))
            subst ex_13
            have hPc := hP.sub (ws' := [(hSt, .inr (9, [.ref A1, .ref A2, wo, wp])), (A1, .inl (cJ, crN n t1 i, .inr (.inl (crV vf nf ((i9 * 8 + j9) * 5) t1 sv i)))), (A2, .inl (cB, crN n t1 i, .inl (crB nf ((i9 * 8 + j9) * 5) t1 sb i)))]) [5, 6, 7] rfl
            have hDc := hD.sub (ws' := [(hSt, .inr (9, [.ref A1, .ref A2, wo, wp])), (A1, .inl (cJ, crN n t1 i, .inr (.inl (crV vf nf ((i9 * 8 + j9) * 5) t1 sv i)))), (A2, .inl (cB, crN n t1 i, .inl (crB nf ((i9 * 8 + j9) * 5) t1 sb i)))]) [5, 6, 7] (by decide) rfl
            have hKc := hK.sub (tys' := [(cB, .byte), (cI, .int), (cJ, .long), (cZ, .boolean)]) [0, 1, 2, 3] rfl
            have hFc := va_free (wc := [(hSt, .inr (9, [.ref A1, .ref A2, wo, wp])), (A1, .inl (cJ, crN n t1 i, .inr (.inl (crV vf nf ((i9 * 8 + j9) * 5) t1 sv i)))), (A2, .inl (cB, crN n t1 i, .inl (crB nf ((i9 * 8 + j9) * 5) t1 sb i)))]) hD hS hA [5, 6, 7] rfl
            refine va_callv (va_runV (As := [.int (nI (t1 + i)), .long (vf ((i9 * 8 + j9) * 5 + i)), .int (nf ((i9 * 8 + j9) * 5 + i))]) (rest := []) ⟨hx, hb, hml, hown, hts⟩ (t_X8_put l dC dI H.size cB cI cJ cZ hSt A1 A2 (crN n t1 i) (crV vf nf ((i9 * 8 + j9) * 5) t1 sv i) (crB nf ((i9 * 8 + j9) * 5) t1 sb i) wo wp (t1 + i) (vf ((i9 * 8 + j9) * 5 + i)) (nf ((i9 * 8 + j9) * 5 + i)) hl5 (crV_z hzv i) (crB_z hzb i) (crB_f hy i) (by omega) (by omega)) (cwV 3 hts (gd_all (in_V kw_1397 kw_1398 kw_1399 kw_188 kc_X8_put)) rfl rfl rfl (by decide +kernel) ⟨Nat.le_of_ble_eq_true rfl, Nat.le_of_ble_eq_true rfl⟩) ⟨fun a U g mk q => by obtain ⟨q0, q1, qP, qK, qD⟩ := q; exact ⟨q0, q1, qP, va_K.moved (u := U) (U := U.calling g mk a) (Vm.Alike.refl U.vm) qK, qD⟩, va_recv hKc hPc (ci := 9) (q0 := 0) rfl rfl, fun U hU hW => ⟨rfl, by rw [hU], by rw [hU]; exact hPc, va_K.moved hW.alike hKc, hDc.weaken (fun _ _ _ _ => trivial)⟩⟩ rfl rfl hl.1 rfl (lv_room (Nat.le_of_ble_eq_true rfl)) dX7_copyRow_66 ⟨by show (crN n t1 i - n) / 16 + (capN (crN n t1 i) (t1 + i + 1) - crN n t1 i) / 16 ≤ (crN n t1 (n1 + 1) - n) / 16; omega, by show 4 * (crN n t1 i - n) + 4 * (capN (crN n t1 i) (t1 + i + 1) - crN n t1 i) ≤ 4 * (crN n t1 (n1 + 1) - n); omega⟩) hS (fun q _ h => hFc q h) hFc (fun u t_ H1 locs ht hvm hw hB hz1 hk1 hS => ?_)
            obtain ⟨a1, a2, hP1, hK1, hD1⟩ := hB
            rw [ht] at hP1
            have hK1 := va_K.moved hvm.symm hK1
            obtain ⟨hP, hD⟩ := va_join (wr := [(h0, .inr (8, [.int (nI k), .long wm, .ref hC, .ref hV, .ref hN, .ref hH, wx, wy, .int d])), (hC, .inl (cI, 6, .inl cf)), (hV, .inl (cJ, 240, .inr (.inl vf))), (hN, .inl (cB, 240, .inl nf)), (hH, .inl (cB, 48, .inl tf))]) (w1 := [(hSt, .inr (9, [.ref a1, .ref a2, wo, wp])), (a1, .inl (cJ, capN (crN n t1 i) (t1 + i + 1), .inr (.inl (vp_updL (crV vf nf ((i9 * 8 + j9) * 5) t1 sv i) (t1 + i) (pv (vf ((i9 * 8 + j9) * 5 + i)) (nf ((i9 * 8 + j9) * 5 + i))))))), (a2, .inl (cB, capN (crN n t1 i) (t1 + i + 1), .inl (upd (crB nf ((i9 * 8 + j9) * 5) t1 sb i) (t1 + i) (pb (nf ((i9 * 8 + j9) * 5 + i))))))]) hP hD [5, 6, 7] [0, 1, 2, 3, 4] rfl rfl (by decide) (by decide) hk1 hFc hP1 hD1
            have hK := (hK.sub (tys' := []) [] rfl).app hK1
            generalize H1 = H at hP hS ⊢
            have hP : va_P (dC, dI) vwCl [(h0, .inr (8, [.int (nI k), .long wm, .ref hC, .ref hV, .ref hN, .ref hH, wx, wy, .int d])), (hC, .inl (cI, 6, .inl cf)), (hV, .inl (cJ, 240, .inr (.inl vf))), (hN, .inl (cB, 240, .inl nf)), (hH, .inl (cB, 48, .inl tf)), (hSt, .inr (9, [.ref a1, .ref a2, wo, wp])), (a1, .inl (cJ, capN (crN n t1 i) (t1 + i + 1), .inr (.inl (vp_updL (crV vf nf ((i9 * 8 + j9) * 5) t1 sv i) (t1 + i) (pv (vf ((i9 * 8 + j9) * 5 + i)) (nf ((i9 * 8 + j9) * 5 + i))))))), (a2, .inl (cB, capN (crN n t1 i) (t1 + i + 1), .inl (upd (crB nf ((i9 * 8 + j9) * 5) t1 sb i) (t1 + i) (pb (nf ((i9 * 8 + j9) * 5 + i))))))] H := hP
            have hD : va_D A [(h0, .inr (8, [.int (nI k), .long wm, .ref hC, .ref hV, .ref hN, .ref hH, wx, wy, .int d])), (hC, .inl (cI, 6, .inl cf)), (hV, .inl (cJ, 240, .inr (.inl vf))), (hN, .inl (cB, 240, .inl nf)), (hH, .inl (cB, 48, .inl tf)), (hSt, .inr (9, [.ref a1, .ref a2, wo, wp])), (a1, .inl (cJ, capN (crN n t1 i) (t1 + i + 1), .inr (.inl (vp_updL (crV vf nf ((i9 * 8 + j9) * 5) t1 sv i) (t1 + i) (pv (vf ((i9 * 8 + j9) * 5 + i)) (nf ((i9 * 8 + j9) * 5 + i))))))), (a2, .inl (cB, capN (crN n t1 i) (t1 + i + 1), .inl (upd (crB nf ((i9 * 8 + j9) * 5) t1 sb i) (t1 + i) (pb (nf ((i9 * 8 + j9) * 5 + i))))))] := hD
            have hK : va_K (dC, dI) vwCl [(cB, .byte), (cI, .int), (cJ, .long), (cZ, .boolean)] s := hK
            refine lv_iinc (v := nI (i + 1)) (lv' := [(6, .int (nI (i + 1))), (5, .int (nI ((i9 * 8 + j9) * 5))), (0, .ref h0), (1, .int (nI i9)), (2, .int (nI j9)), (3, .ref hSt), (4, .int (nI t1))]) hx hb dX7_copyRow_69 hl (k := 0) rfl (nI_add i 1) (by decide) rfl (fun ls hl => ?_)
            refine lv_goto (tgt := 23) hx hb dX7_copyRow_72 (by decide) ?_
            refine W.widen (k := (crN n t1 (i + 1) - n) / 16) (n := 4 * (crN n t1 (i + 1) - n)) (by show (crN n t1 i - n) / 16 + (capN (crN n t1 i) (t1 + i + 1) - crN n t1 i) / 16 ≤ (capN (crN n t1 i) (t1 + i + 1) - n) / 16; omega) (by show 4 * (crN n t1 i - n) + 4 * (capN (crN n t1 i) (t1 + i + 1) - crN n t1 i) ≤ 4 * (capN (crN n t1 i) (t1 + i + 1) - n); omega) ?_
            exact ih_23 (i + 1) a1 a2 (by omega) (by omega) _ _ _ (hP.sub [0, 1, 2, 3, 4, 5, 6, 7] rfl) (hD.sub [0, 1, 2, 3, 4, 5, 6, 7] (by decide) rfl) hS (lv_sub hl [0, 1, 2, 3, 4, 5, 6] rfl)
    refine W.widen (k := (crN n t1 0 - n) / 16) (n := 4 * (crN n t1 0 - n)) (Nat.zero_le _) (Nat.zero_le _) ?_
    exact lp_23 _ 0 hU hBl (Nat.zero_le _) (Nat.lt_succ_self _) _ _ _ (hP.sub [5, 6, 0, 1, 7, 2, 3, 4] rfl) (hD.sub [5, 6, 0, 1, 7, 2, 3, 4] (by decide) rfl) hS (lv_sub hl [0, 1, 2, 3, 4, 5, 6] rfl)
  · skip
    exact absurd c_2 (by decide)

/-! THE CLAIM OUT OF ONE WALK OF THE LAW'S BODY. Your part is whole_start (and what it stands on); all else here is the same for every law, but numbers. -/
def R_law : String := "StreamQueriesLaw"
def lw_P (b : Addr) (xs : List Int32) (args : Array Value) (s : State) : Prop := args = #[.ref b] ∧ s.IntsAt b xs ∧ xs.length ≤ 384 ∧ (Jvm.Cond.and given_1 narrow_1).before args s = true
def lw_Q (_ : Array Value) (s : State) (o : Outcome) (t : State) : Prop := o = .returned (some (.int 1)) ∧ Framed s o t [] 600000 7302250
def lw_Z (below : List Frame) (a : Array Value) (s : State) : State → Prop := fun t => ∃ o, t.status = .running ∧ Ended t below o ∧ lw_Q a s o t
/-- the law's own end, with 1 on the stack, nothing written that was there before, its room as the claim has it -/
theorem lw_ret {p : Program} {l : Launch} {e : Env} {s : State} {m : MethodId} {below : List Frame} {meth : Method} {c : Code} {b : Nat} (hx : p.tables.exec = Jvm.exec) (hb : c.code = code) (hr : meth.sig.returnType = ret) (hlocks : meth.locks = false) {pc : Nat} {H : Heap} {ls : Array Slot} (hdg : decode code pc = .ok (.ireturn, 1)) : W p l e room_1 s m #[Value.ref b] below meth c H [] 600000 7302250 (lw_Z below #[Value.ref b] s) (F0 m pc ls [.int 1]) := by
  intro T hT X
  obtain ⟨fs, hret, hrun, hended, hW, hframe⟩ := X.leave (v := some (.int 1)) (hlocks := hlocks) (fun h => by rw [hr] at h; cases h)
  have hmeth' : T.vm.method? m = some meth := X.method'
  refine ⟨T.setFrames fs, ?_, .returned (some (.int 1)), hrun, hended, rfl, ⟨_, rfl⟩, hW, hframe⟩
  jvm_step X.here [X.here.top, hx, hb, hdg, hmeth', hr, ret, narrow_b1]
  (try refine ⟨rfl, ?_⟩); (try refine ⟨rfl, ?_⟩)
  first | (intro acts; rw [hret _ acts rfl rfl rfl]) | rw [hret _ _ rfl rfl rfl]
  exact Steps.refl _
/-- what holds at the law's entry: the machine, the code, the tables' words (any of lw_tbl by 'hts w (by decide +kernel)'), the script of L ints xs at the cell b, what the Statement gives of the start (any of its parts by flat_of_before) -/
def lw_At (p : Program) (s : State) (m : MethodId) (meth : Method) (c : Code) (b L : Nat) (xs : Nat → Int32) : Prop :=
  p.tables.exec = Jvm.exec ∧ c.code = code ∧ meth.sig.returnType = ret ∧ c.maxLocals = 4 ∧ s.vm.findClass R_law = some m.cls ∧ (∀ w ∈ lw_tbl, w.before #[Value.ref b] s = true) ∧ va_X b L xs s s.heap ∧ b < s.heap.size ∧ meth.locks = false ∧ (Jvm.Cond.and given_1 narrow_1).before #[Value.ref b] s = true
/-! the start: the String constants -/
def evL : List Cond := flatC (Jvm.Cond.and given_1 narrow_1)
def soI : List Nat := [262, 544, 2240, 2263, 2276, 2281, 2282, 2283, 2284, 2285, 2286, 2287, 2288, 2289, 2290, 2295, 2296, 2349, 2350, 2351, 2352, 2369, 2370, 2371, 2372, 2373, 2374, 2379, 2380, 2381, 2382, 2383, 2384, 2385, 2386, 2387, 2388, 2389, 2390, 2391, 2392, 2393]
def soP : List Nat := [14, 221, 237, 250, 260, 272, 281, 288, 295, 302, 310, 318, 327, 335, 343, 351, 559, 566, 574, 582, 590, 597, 603, 609, 616, 622, 628, 636, 644, 652, 660, 666, 675, 684, 690, 700, 709, 716, 726, 739, 748, 756]
set_option maxRecDepth 100000 in
theorem ev_t : ∀ i, i < 42 → lw_tbl[soI.getD i 0]? = some (Cond.stringRef (soO i) (soK i) (soT i)) := by decide +kernel
set_option maxRecDepth 100000 in
theorem ev_a : ∀ i, i < 42 → evL[soP.getD i 0]? = some (Cond.exactly (Term.string (soO i) (soK i)) "java/lang/String") := by decide +kernel
set_option maxRecDepth 100000 in
theorem ev_b : ∀ i, i < 42 → evL[soP.getD i 0 + 1]? = some (Cond.eq (.field (Term.string (soO i) (soK i)) "java/lang/String" "coder" "B") (.int 0)) := by decide +kernel
set_option maxRecDepth 100000 in
theorem ev_c : ∀ i, i < 42 → evL[soP.getD i 0 + 2]? = some (Cond.arrayOf (.field (Term.string (soO i) (soK i)) "java/lang/String" "value" "[B") .byte) := by decide +kernel
set_option maxRecDepth 100000 in
theorem ev_d : ∀ i, i < 42 → evL[soP.getD i 0 + 3]? = some (Cond.eq (.length (.field (Term.string (soO i) (soK i)) "java/lang/String" "value" "[B")) (.int (Int32.ofNat (soB i).length))) := by decide +kernel
set_option maxRecDepth 100000 in
theorem ev_e : ∀ i, i < 42 → ∀ j, j < (soB i).length → evL[soP.getD i 0 + 4 + j]? = some (Cond.eq (.elem (.field (Term.string (soO i) (soK i)) "java/lang/String" "value" "[B") (.int (Int32.ofNat j))) (.int ((soB i).getD j 0))) := by decide +kernel
theorem zE_start {args : Array Value} {s : State} (hts : ∀ w ∈ lw_tbl, w.before args s = true) (hgv : (Jvm.Cond.and given_1 narrow_1).before args s = true) : ∃ (K V : Nat → Nat) (fz : Value), zE K V fz (fun q : Nat => s.heap.size ≤ q) s := by
  have hfl := flat_of_before _ hgv
  have hA : ∀ a : Nat, a < s.heap.size → ¬ (fun q : Nat => s.heap.size ≤ q) a := fun a h => Nat.not_le.mpr h
  have mem : ∀ {k : Nat} {w : Cond}, evL[k]? = some w → w.before args s = true := fun h => hfl _ (List.mem_of_getElem? h)
  have h0 : ∀ i : Nat, ∃ q : Nat × Nat, i < 42 → (Term.string (soO i) (soK i)).eval args s none [] s = some (.ref q.1) ∧ va_O "java/lang/String" q.1 (fun q : Nat => s.heap.size ≤ q) s s.heap ∧ va_OF "java/lang/String" "coder" "B" (.int 0) q.1 (fun q : Nat => s.heap.size ≤ q) s s.heap ∧ va_OF "java/lang/String" "value" "[B" (.ref q.2) q.1 (fun q : Nat => s.heap.size ≤ q) s s.heap ∧ va_T .byte q.2 (soB i).length (fun j => .int ((soB i).getD j 0)) (fun q : Nat => s.heap.size ≤ q) s s.heap := by
    intro i
    by_cases hi : i < 42
    · obtain ⟨a, c, cA, kA, q1, q2, q3, q4, q5, q6, -⟩ := Cond.exactly_spec (args := args) (first := s) (o := none) (s := s) (idx := []) (t := (Term.string (soO i) (soK i))) (cls := "java/lang/String") (mem (ev_a i hi))
      obtain ⟨t, ht, hT⟩ := va_Tof (f := fun j => .int ((soB i).getD j 0)) (A := fun q : Nat => s.heap.size ≤ q) (by have := so_len i hi; omega) (mem (ev_c i hi)) (va_eqt (mem (ev_d i hi))) (fun j hj => va_eqt (mem (ev_e i hi j hj))) hA
      exact ⟨(a, t), fun _ => ⟨q1, ⟨cA, q3, q5, by rw [q6]; exact q2, hA a (Array.getElem?_eq_some_iff.mp q3).1⟩, vk_OFof q1 (va_eqt (mem (ev_b i hi))) hA, vk_OFof q1 ht hA, hT⟩⟩
    · exact ⟨(0, 0), fun h => absurd h hi⟩
  obtain ⟨ad, had⟩ := Classical.axiomOfChoice h0
  obtain ⟨ea, hea, hTe⟩ := va_Tof (tm := (Term.static "java/util/ArrayList" "DEFAULTCAPACITY_EMPTY_ELEMENTDATA" "[Ljava/lang/Object;")) (ty := .object "java/lang/Object") (N := 0) (f := fun _ => .null) (A := fun q : Nat => s.heap.size ≤ q) (by decide) (mem (show evL[10]? = some (Cond.arrayOf (Term.static "java/util/ArrayList" "DEFAULTCAPACITY_EMPTY_ELEMENTDATA" "[Ljava/lang/Object;") (.object "java/lang/Object")) by decide +kernel)) (va_eqt (mem (show evL[12]? = some (Cond.eq (.length (Term.static "java/util/ArrayList" "DEFAULTCAPACITY_EMPTY_ELEMENTDATA" "[Ljava/lang/Object;")) (.int (Int32.ofNat 0))) by decide +kernel))) (fun j hj => absurd hj (Nat.not_lt_zero _)) hA
  obtain ⟨fz, hfz, hfr⟩ := Cond.isRef_spec (mem (show evL[5]? = some (Cond.isRef (Term.static "jdk/internal/util/Preconditions" "SIOOBE_FORMATTER" "Ljava/util/function/BiFunction;")) by decide +kernel))
  refine ⟨fun i => (ad i).1, fun i => if i = 42 then ea else (ad i).2, fz, fun i hi => ?_, fun i hi => ?_, ?_, ?_, ?_, ?_, ?_, ?_, ?_, ?_, ?_, ?_, ?_, ?_, ?_⟩
  · have h42 : (if i = 42 then ea else (ad i).2) = (ad i).2 := if_neg (by omega)
    show va_O _ _ _ _ _ ∧ va_OF _ _ _ _ _ _ _ _ ∧ va_OF _ _ _ (.ref (if i = 42 then ea else (ad i).2)) _ _ _ _ ∧ va_T _ (if i = 42 then ea else (ad i).2) _ _ _ _ _
    rw [h42]
    exact (had i hi).2
  · exact vk_R.of (hts _ (List.mem_of_getElem? (ev_t i hi))) (had i hi).1
  · exact va_Zof (hts _ (List.mem_of_getElem? (i := 272) (by decide +kernel))) (hts _ (kG_in kw_184)) (va_eqi (mem (show evL[4]? = some (Cond.eq (Term.static "java/lang/String" "COMPACT_STRINGS" "Z") (.int 1)) by decide +kernel))) hA
  · exact va_Zof (hts _ (List.mem_of_getElem? (i := 288) (by decide +kernel))) (hts _ (kG_in kw_186)) hfz hA
  · cases fz with
    | null => exact Or.inl rfl
    | ref a => exact Or.inr ⟨a, rfl⟩
    | _ => simp [Value.isRef] at hfr
  · exact va_AO.of (hts _ (List.mem_of_getElem? (i := 613) (by decide +kernel)))
  · exact va_AO.of (hts _ (List.mem_of_getElem? (i := 815) (by decide +kernel)))
  · exact va_Zof (hts _ (List.mem_of_getElem? (i := 753) (by decide +kernel))) (hts _ (kG_in kw_199)) hea hA
  · exact hTe
  · exact va_Nw.of rfl (hts _ (List.mem_of_getElem? (i := 2524) (by decide +kernel)))
  · exact va_Nw.of rfl (hts _ (List.mem_of_getElem? (i := 2512) (by decide +kernel)))
  · exact va_Nw.of rfl (hts _ (List.mem_of_getElem? (i := 618) (by decide +kernel)))
  · exact va_Nw.of rfl (hts _ (List.mem_of_getElem? (i := 1047) (by decide +kernel)))
  · exact va_Nw.of rfl (hts _ (List.mem_of_getElem? (i := 1170) (by decide +kernel)))
  · exact va_Nw.of rfl (hts _ (List.mem_of_getElem? (i := 1364) (by decide +kernel)))
/-! the start: the classes -/
set_option maxRecDepth 100000 in
theorem ks_start {args : Array Value} {s : State} (hts : ∀ w ∈ lw_tbl, w.before args s = true) : ∃ (dC : Nat → ClassId) (dI : Nat → Nat → Nat) (cB cI cJ cZ cS cO : ClassId), va_K (dC, dI) vwCl [(cB, .byte), (cI, .int), (cJ, .long), (cZ, .boolean), (cS, .object "StreamQueries$Source"), (cO, .object "java/lang/Object")] s := by
  obtain ⟨c0, i0, k0⟩ := u_known (C := RJx4a65c) (T := TJx4a65c) (N := 3) (n := 3) hts (fun w h => kG_in (uG_Jx4a65c w h)) (hts _ (kG_in kw_741))
  obtain ⟨c1, i1, k1⟩ := u_known (C := RX0) (T := TX0) (N := 6) (n := 6) hts (fun w h => kG_in (uG_X0 w h)) (hts _ (kG_in kw_1146))
  obtain ⟨c2, i2, k2⟩ := u_known (C := RX1) (T := TX1) (N := 13) (n := 13) hts (fun w h => kG_in (uG_X1 w h)) (hts _ (kG_in kw_363))
  obtain ⟨c3, i3, k3⟩ := u_known (C := RX2) (T := TX2) (N := 5) (n := 5) hts (fun w h => kG_in (uG_X2 w h)) (hts _ (kG_in kw_623))
  obtain ⟨c4, i4, k4⟩ := u_known (C := RX3) (T := TX3) (N := 6) (n := 6) hts (fun w h => kG_in (uG_X3 w h)) (hts _ (kG_in kw_615))
  obtain ⟨c5, i5, k5⟩ := u_known (C := RX4) (T := TX4) (N := 3) (n := 3) hts (fun w h => kG_in (uG_X4 w h)) (hts _ (kG_in kw_1310))
  obtain ⟨c6, i6, k6⟩ := u_known (C := RX5) (T := TX5) (N := 15) (n := 15) hts (fun w h => kG_in (uG_X5 w h)) (hts _ (kG_in kw_617))
  obtain ⟨c7, i7, k7⟩ := u_known (C := RX6) (T := TX6) (N := 12) (n := 12) hts (fun w h => kG_in (uG_X6 w h)) (hts _ (kG_in kw_1046))
  obtain ⟨c8, i8, k8⟩ := u_known (C := RX7) (T := TX7) (N := 9) (n := 9) hts (fun w h => kG_in (uG_X7 w h)) (hts _ (kG_in kw_217))
  obtain ⟨c9, i9, k9⟩ := u_known (C := RX8) (T := TX8) (N := 4) (n := 4) hts (fun w h => kG_in (uG_X8 w h)) (hts _ (kG_in kw_344))
  obtain ⟨c10, i10, k10⟩ := u_known (C := RX9) (T := TX9) (N := 12) (n := 12) hts (fun w h => kG_in (uG_X9 w h)) (hts _ (kG_in kw_604))
  obtain ⟨c11, i11, k11⟩ := u_known (C := RX10) (T := TX10) (N := 7) (n := 7) hts (fun w h => kG_in (uG_X10 w h)) (hts _ (kG_in kw_257))
  obtain ⟨c12, i12, k12⟩ := u_known (C := RX11) (T := TX11) (N := 16) (n := 16) hts (fun w h => kG_in (uG_X11 w h)) (hts _ (kG_in kw_209))
  obtain ⟨c13, i13, k13⟩ := u_known (C := RX12) (T := TX12) (N := 115) (n := 115) hts (fun w h => kG_in (uG_X12 w h)) (hts _ (kG_in kw_1687))
  obtain ⟨cB, kB, mB, eB1, eB2, eB3⟩ := Cond.arrayClass_spec (hts _ (kG_in kn_B))
  obtain ⟨cI, kI, mI, eI1, eI2, eI3⟩ := Cond.arrayClass_spec (hts _ (kG_in kn_I))
  obtain ⟨cJ, kJ, mJ, eJ1, eJ2, eJ3⟩ := Cond.arrayClass_spec (hts _ (kG_in kn_J))
  obtain ⟨cZ, kZ, mZ, eZ1, eZ2, eZ3⟩ := Cond.arrayClass_spec (hts _ (kG_in kn_Z))
  obtain ⟨mS, cS, kS, eS1, -, eS2, eS3, eS4⟩ := Cond.arrayOver_spec (n := "StreamQueries$Source") (hts _ (List.mem_of_getElem? (i := 613) (by decide +kernel)))
  obtain ⟨mO, cO, kO, eO1, -, eO2, eO3, eO4⟩ := Cond.arrayOver_spec (n := "java/lang/Object") (hts _ (List.mem_of_getElem? (i := 815) (by decide +kernel)))
  refine ⟨fun k => match k with | 0 => c0 | 1 => c1 | 2 => c2 | 3 => c3 | 4 => c4 | 5 => c5 | 6 => c6 | 7 => c7 | 8 => c8 | 9 => c9 | 10 => c10 | 11 => c11 | 12 => c12 | _ => c13, fun k => match k with | 0 => i0 | 1 => i1 | 2 => i2 | 3 => i3 | 4 => i4 | 5 => i5 | 6 => i6 | 7 => i7 | 8 => i8 | 9 => i9 | 10 => i10 | 11 => i11 | 12 => i12 | _ => i13, cB, cI, cJ, cZ, cS, cO, ?_, ?_⟩
  · intro k q hq
    match k, hq with
    | 0, hq => cases hq; exact k0
    | 1, hq => cases hq; exact k1
    | 2, hq => cases hq; exact k2
    | 3, hq => cases hq; exact k3
    | 4, hq => cases hq; exact k4
    | 5, hq => cases hq; exact k5
    | 6, hq => cases hq; exact k6
    | 7, hq => cases hq; exact k7
    | 8, hq => cases hq; exact k8
    | 9, hq => cases hq; exact k9
    | 10, hq => cases hq; exact k10
    | 11, hq => cases hq; exact k11
    | 12, hq => cases hq; exact k12
    | 13, hq => cases hq; exact k13
    | k + 14, hq => simp [vwCl] at hq
  · intro k q hq
    match k, hq with
    | 0, hq => cases hq; exact ⟨fun n z => ⟨(fun k h => by cases h), kB, eB2, mB, eB3⟩, eB1⟩
    | 1, hq => cases hq; exact ⟨fun n z => ⟨(fun k h => by cases h), kI, eI2, mI, eI3⟩, eI1⟩
    | 2, hq => cases hq; exact ⟨fun n z => ⟨(fun k h => by cases h), kJ, eJ2, mJ, eJ3⟩, eJ1⟩
    | 3, hq => cases hq; exact ⟨fun n z => ⟨(fun k h => by cases h), kZ, eZ2, mZ, eZ3⟩, eZ1⟩
    | 4, hq => cases hq; exact ⟨fun n z => ⟨(fun k h => by cases h), kS, eS2, mS, eS3⟩, kS, mS, eS2, eS3, eS1, eS4⟩
    | 5, hq => cases hq; exact ⟨fun n z => ⟨(fun k h => by cases h), kO, eO2, mO, eO3⟩, kO, mO, eO2, eO3, eO1, eO4⟩
    | k + 6, hq => simp at hq

/-! two worlds side by side -/
theorem va_P.left {D : va_G} {cl : List vw_C} {w wf : va_W} {H : Heap} (h : va_P D cl (w ++ wf) H) : va_P D cl w H := fun k y hy => h k y ((List.getElem?_append_left (List.getElem?_eq_some_iff.mp hy).1).trans hy)
theorem at_right {w wf : va_W} {k : Nat} {y : Nat × va_E} (hy : wf[k]? = some y) : (w ++ wf)[w.length + k]? = some y := by
  rw [List.getElem?_append_right (Nat.le_add_right _ _), Nat.add_sub_cancel_left]
  exact hy
theorem va_P.right {D : va_G} {cl : List vw_C} {w wf : va_W} {H : Heap} (h : va_P D cl (w ++ wf) H) : va_P D cl wf H := fun _ y hy => h _ y (at_right hy)
theorem va_D.left {A : Nat → Prop} {w wf : va_W} (h : va_D A (w ++ wf)) : va_D A w := ⟨fun m n y z hm hn he => h.1 m n y z ((List.getElem?_append_left (List.getElem?_eq_some_iff.mp hm).1).trans hm) ((List.getElem?_append_left (List.getElem?_eq_some_iff.mp hn).1).trans hn) he, fun k y hy => h.2 k y ((List.getElem?_append_left (List.getElem?_eq_some_iff.mp hy).1).trans hy)⟩
theorem va_D.right {A : Nat → Prop} {w wf : va_W} (h : va_D A (w ++ wf)) : va_D A wf := ⟨fun m n y z hm hn he => by
    have := h.1 _ _ y z (at_right hm) (at_right hn) he
    omega, fun _ y hy => h.2 _ y (at_right hy)⟩
theorem va_D.both {A : Nat → Prop} {w wf : va_W} (h1 : va_D A w) (h2 : va_D A wf) (hn : ∀ (k j : Nat) (y z : Nat × va_E), w[k]? = some y → wf[j]? = some z → y.1 ≠ z.1) : va_D A (w ++ wf) := by
  have sp : ∀ (k : Nat) (y : Nat × va_E), (w ++ wf)[k]? = some y → (k < w.length ∧ w[k]? = some y) ∨ (w.length ≤ k ∧ wf[k - w.length]? = some y) := fun k y hy => by
    by_cases hk : k < w.length
    · exact Or.inl ⟨hk, (List.getElem?_append_left hk).symm.trans hy⟩
    · have hk : w.length ≤ k := by omega
      exact Or.inr ⟨hk, (List.getElem?_append_right hk).symm.trans hy⟩
  refine ⟨fun m n y z hm hn' he => ?_, fun k y hy => ?_⟩
  · rcases sp m y hm with ⟨a1, a2⟩ | ⟨a1, a2⟩
    · rcases sp n z hn' with ⟨b1, b2⟩ | ⟨b1, b2⟩
      · exact h1.1 m n y z a2 b2 he
      · exact absurd he (hn _ _ y z a2 b2)
    · rcases sp n z hn' with ⟨b1, b2⟩ | ⟨b1, b2⟩
      · exact absurd he.symm (hn _ _ z y b2 a2)
      · have := h2.1 _ _ y z a2 b2 he
        omega
  · rcases sp k y hy with ⟨a1, a2⟩ | ⟨a1, a2⟩
    · exact h1.2 _ y a2
    · exact h2.2 _ y a2
theorem va_D.apart {A : Nat → Prop} {w wf : va_W} (h : va_D A (w ++ wf)) (k j : Nat) (y z : Nat × va_E) (hk : w[k]? = some y) (hj : wf[j]? = some z) : y.1 ≠ z.1 := fun e => by
  have l1 := (List.getElem?_eq_some_iff.mp hk).1
  have := h.1 _ _ y z ((List.getElem?_append_left l1).trans hk) (at_right hj) e
  omega
theorem va_D.swap {A : Nat → Prop} {w wf : va_W} (h : va_D A (w ++ wf)) : va_D A (wf ++ w) := va_D.both h.right h.left (fun k j y z hk hj e => h.apart j k z y hj hk e.symm)
theorem va_P.swap {D : va_G} {cl : List vw_C} {w wf : va_W} {H : Heap} (h : va_P D cl (w ++ wf) H) : va_P D cl (wf ++ w) H := h.right.app h.left
theorem joinF {D : va_G} {cl : List vw_C} {A : Nat → Prop} {w1 w2 wf : va_W} {H H1 : Heap} {sz : Nat} (hP : va_P D cl (w1 ++ wf) H) (hD : va_D A (w1 ++ wf)) (hz : H.size ≤ sz) (hk : ∀ q : Nat, q < H.size → ¬ va_A w1 sz q → H1[q]? = H[q]?) (hP1 : va_P D cl w2 H1) (hD1 : va_D (va_A w1 sz) w2) (hA : ∀ q, va_A w1 sz q → A q) : va_P D cl (w2 ++ wf) H1 ∧ va_D A (w2 ++ wf) := by
  have hn : ∀ (k : Nat) (y : Nat × va_E), wf[k]? = some y → ¬ va_A w1 sz y.1 := fun k y hy h => by
    have lt := (hP.right k y hy).lt
    rcases h with ⟨k2, e2, h⟩ | h
    · exact hD.apart k2 k _ y h hy rfl
    · omega
  refine ⟨hP1.app (fun k y hy => (hP.right k y hy).kept (hk y.1 (hP.right k y hy).lt (hn k y hy))), va_D.both (hD1.weaken (fun _ q _ h => hA q.1 h)) hD.right (fun k j y z hk2 hj e => hn j z hj ?_)⟩
  rw [← e]
  exact hD1.2 k y hk2
theorem jbV {p : Program} {l : Launch} {e : Env} {R : Room} {s : State} {m : MethodId} {args : Array Value} {below : List Frame} {meth : Method} {c : Code} {H : Heap} {locs : List Loc} {cells slots : Nat} {Q : State → Prop} {cc : ByteArray} {pc : Nat} {ls : Array Slot} {rest : List Value} {ws0 : List Cond} {dC : Nat → ClassId} {dI : Nat → Nat → Nat} {cB cI cJ cZ cS cO : ClassId} {b : Nat} {cs : CS} {A : Nat → Prop} {wf : va_W} {y : MethodName} {bytes : ByteArray} {maxL n fr nL index : Nat} {ws : List Cond} {As : List Value} {K V : Nat → Nat} {fz : Value} {own : String} {ret : Option FieldType} {C : String} {T : u_T} {N X i : Nat} {cs9 : CS} (hx : p.tables.exec = Jvm.exec) (hb : c.code = cc) (hml : c.maxLocals = nL) (hts : ∀ w ∈ ws0, w.before args s = true) (hown : s.vm.findClass own = some m.cls) (hK : va_K (dC, dI) vwCl [(cB, .byte), (cI, .int), (cJ, .long), (cZ, .boolean), (cS, .object "StreamQueries$Source"), (cO, .object "java/lang/Object")] s) (hPJ : va_P (dC, dI) vwCl (cW cB cI cJ cZ cS cO b cs ++ wf) H) (hDJ : va_D A (cW cB cI cJ cZ cS cO b cs ++ wf)) (hS : va_S A s.heap H locs) (hA : ∀ q, s.heap.size ≤ q → A q) (hz : H.size = b + kK cs) (hcc : s.heap.size + cells = b + kK cs) (hZ : zE K V fz A s) (hX : X < 32) (hcl : vwCl[X]? = some (C, T, N)) (hm : (X, i) ∈ kE cs) (hok : ocV l dC dI cB cI cJ cZ cS cO b K V fz y ws fr (.ref (b + i) :: As) cs cs9) (cw : CallW R s args own C index y bytes maxL ret ws ({ frames := fr, cells := 0, slots := 0, locals := 60 * fr } : Room) 0 0 n) (hn : As.length = n) (hsz : ls.size = nL) (h8 : (rest.map fun v => v.category).sum ≤ 8) (hR : cells ≤ R.cells ∧ slots ≤ R.slots) (hdg : decode cc pc = .ok (.invokevirtual index, 3)) (kk : ∀ (H1 : Heap) (locs1 : List Loc), va_P (dC, dI) vwCl (cW cB cI cJ cZ cS cO b cs9 ++ wf) H1 → va_D A (cW cB cI cJ cZ cS cO b cs9 ++ wf) → va_S A s.heap H1 locs1 → H1.size = b + kK cs → W p l e R s m args below meth c H1 locs1 cells slots Q (F0 m (pc + 3) ls rest)) : W p l e R s m args below meth c H locs cells slots Q (F0 m pc ls (As.reverse ++ .ref (b + i) :: rest)) := by
  have hP := hPJ.left
  have hD := hDJ.left
  obtain ⟨k, -, hg⟩ := cO_at (b := b) (cB := cB) (cI := cI) (cJ := cJ) (cZ := cZ) (cS := cS) (cO := cO) hX hm
  refine va_callv (va_runV (As := As) (rest := rest) (b := b + i) ⟨hx, hb, hml, hown, hts⟩ (hok H.size) cw ⟨pcC_blind, va_recv hK hP (ci := X) (q0 := k) hcl hg, pcC_pre hK hP hD hS hA hZ⟩ (g := F0 m pc ls (As.reverse ++ .ref (b + i) :: rest)) rfl hn hsz rfl (lv_room h8) hdg hR) hS (fun q _ h => (va_freeAll hD hS hA) q h) (va_freeAll hD hS hA) (fun u t_ H1 locs1 ht hvm hw hB hz1 hk1 hS1 => ?_)
  refine W_sz (fun hu2 => ?_)
  obtain ⟨hP1, hD1⟩ := hB
  have hj := joinF hPJ hDJ (Nat.le_refl _) hk1 (by rw [← ht]; exact hP1) hD1 (va_freeAll hD hS hA)
  exact kk H1 locs1 hj.1 hj.2 hS1 (by omega)
theorem jbI {p : Program} {l : Launch} {e : Env} {R : Room} {s : State} {m : MethodId} {args : Array Value} {below : List Frame} {meth : Method} {c : Code} {H : Heap} {locs : List Loc} {cells slots : Nat} {Q : State → Prop} {cc : ByteArray} {pc : Nat} {ls : Array Slot} {rest : List Value} {ws0 : List Cond} {dC : Nat → ClassId} {dI : Nat → Nat → Nat} {cB cI cJ cZ cS cO : ClassId} {b : Nat} {cs : CS} {A : Nat → Prop} {wf : va_W} {y : MethodName} {bytes : ByteArray} {maxL n fr nL index : Nat} {ws : List Cond} {As : List Value} {K V : Nat → Nat} {fz : Value} {own : String} {ret : Option FieldType} {C : String} {T : u_T} {N X i : Nat} {cs9 : CS} {r9 : Int32} (hx : p.tables.exec = Jvm.exec) (hb : c.code = cc) (hml : c.maxLocals = nL) (hts : ∀ w ∈ ws0, w.before args s = true) (hown : s.vm.findClass own = some m.cls) (hK : va_K (dC, dI) vwCl [(cB, .byte), (cI, .int), (cJ, .long), (cZ, .boolean), (cS, .object "StreamQueries$Source"), (cO, .object "java/lang/Object")] s) (hPJ : va_P (dC, dI) vwCl (cW cB cI cJ cZ cS cO b cs ++ wf) H) (hDJ : va_D A (cW cB cI cJ cZ cS cO b cs ++ wf)) (hS : va_S A s.heap H locs) (hA : ∀ q, s.heap.size ≤ q → A q) (hz : H.size = b + kK cs) (hcc : s.heap.size + cells = b + kK cs) (hZ : zE K V fz A s) (hX : X < 32) (hcl : vwCl[X]? = some (C, T, N)) (hm : (X, i) ∈ kE cs) (hok : ocI l dC dI cB cI cJ cZ cS cO b K V fz y ws fr (.ref (b + i) :: As) cs cs9 r9) (cw : CallW R s args own C index y bytes maxL ret ws ({ frames := fr, cells := 0, slots := 0, locals := 60 * fr } : Room) 0 0 n) (hn : As.length = n) (hsz : ls.size = nL) (h8 : (rest.map fun v => v.category).sum ≤ 8) (hR : cells ≤ R.cells ∧ slots ≤ R.slots) (hdg : decode cc pc = .ok (.invokevirtual index, 3)) (kk : ∀ (H1 : Heap) (locs1 : List Loc), va_P (dC, dI) vwCl (cW cB cI cJ cZ cS cO b cs9 ++ wf) H1 → va_D A (cW cB cI cJ cZ cS cO b cs9 ++ wf) → va_S A s.heap H1 locs1 → H1.size = b + kK cs → W p l e R s m args below meth c H1 locs1 cells slots Q (F0 m (pc + 3) ls (.int r9 :: rest))) : W p l e R s m args below meth c H locs cells slots Q (F0 m pc ls (As.reverse ++ .ref (b + i) :: rest)) := by
  have hP := hPJ.left
  have hD := hDJ.left
  obtain ⟨k, -, hg⟩ := cO_at (b := b) (cB := cB) (cI := cI) (cJ := cJ) (cZ := cZ) (cS := cS) (cO := cO) hX hm
  refine va_calli (va_runV (As := As) (rest := rest) (b := b + i) ⟨hx, hb, hml, hown, hts⟩ (hok H.size) cw ⟨pcC_blind, va_recv hK hP (ci := X) (q0 := k) hcl hg, pcC_pre hK hP hD hS hA hZ⟩ (g := F0 m pc ls (As.reverse ++ .ref (b + i) :: rest)) rfl hn hsz rfl (lv_room h8) hdg hR) hS (fun q _ h => (va_freeAll hD hS hA) q h) (va_freeAll hD hS hA) (fun r u t_ H1 locs1 ht hvm hw hB hz1 hk1 hS1 => ?_)
  refine W_sz (fun hu2 => ?_)
  obtain ⟨hP1, hD1⟩ := hB
  subst hw
  have hj := joinF hPJ hDJ (Nat.le_refl _) hk1 (by rw [← ht]; exact hP1) hD1 (va_freeAll hD hS hA)
  exact kk H1 locs1 hj.1 hj.2 hS1 (by omega)
theorem jbL {p : Program} {l : Launch} {e : Env} {R : Room} {s : State} {m : MethodId} {args : Array Value} {below : List Frame} {meth : Method} {c : Code} {H : Heap} {locs : List Loc} {cells slots : Nat} {Q : State → Prop} {cc : ByteArray} {pc : Nat} {ls : Array Slot} {rest : List Value} {ws0 : List Cond} {dC : Nat → ClassId} {dI : Nat → Nat → Nat} {cB cI cJ cZ cS cO : ClassId} {b : Nat} {cs : CS} {A : Nat → Prop} {wf : va_W} {y : MethodName} {bytes : ByteArray} {maxL n fr nL index : Nat} {ws : List Cond} {As : List Value} {K V : Nat → Nat} {fz : Value} {own : String} {ret : Option FieldType} {C : String} {T : u_T} {N X i : Nat} {cs9 : CS} {r9 : Int64} (hx : p.tables.exec = Jvm.exec) (hb : c.code = cc) (hml : c.maxLocals = nL) (hts : ∀ w ∈ ws0, w.before args s = true) (hown : s.vm.findClass own = some m.cls) (hK : va_K (dC, dI) vwCl [(cB, .byte), (cI, .int), (cJ, .long), (cZ, .boolean), (cS, .object "StreamQueries$Source"), (cO, .object "java/lang/Object")] s) (hPJ : va_P (dC, dI) vwCl (cW cB cI cJ cZ cS cO b cs ++ wf) H) (hDJ : va_D A (cW cB cI cJ cZ cS cO b cs ++ wf)) (hS : va_S A s.heap H locs) (hA : ∀ q, s.heap.size ≤ q → A q) (hz : H.size = b + kK cs) (hcc : s.heap.size + cells = b + kK cs) (hZ : zE K V fz A s) (hX : X < 32) (hcl : vwCl[X]? = some (C, T, N)) (hm : (X, i) ∈ kE cs) (hok : ocL l dC dI cB cI cJ cZ cS cO b K V fz y ws fr (.ref (b + i) :: As) cs cs9 r9) (cw : CallW R s args own C index y bytes maxL ret ws ({ frames := fr, cells := 0, slots := 0, locals := 60 * fr } : Room) 0 0 n) (hn : As.length = n) (hsz : ls.size = nL) (h8 : (rest.map fun v => v.category).sum ≤ 8) (hR : cells ≤ R.cells ∧ slots ≤ R.slots) (hdg : decode cc pc = .ok (.invokevirtual index, 3)) (kk : ∀ (H1 : Heap) (locs1 : List Loc), va_P (dC, dI) vwCl (cW cB cI cJ cZ cS cO b cs9 ++ wf) H1 → va_D A (cW cB cI cJ cZ cS cO b cs9 ++ wf) → va_S A s.heap H1 locs1 → H1.size = b + kK cs → W p l e R s m args below meth c H1 locs1 cells slots Q (F0 m (pc + 3) ls (.long r9 :: rest))) : W p l e R s m args below meth c H locs cells slots Q (F0 m pc ls (As.reverse ++ .ref (b + i) :: rest)) := by
  have hP := hPJ.left
  have hD := hDJ.left
  obtain ⟨k, -, hg⟩ := cO_at (b := b) (cB := cB) (cI := cI) (cJ := cJ) (cZ := cZ) (cS := cS) (cO := cO) hX hm
  refine va_calll (va_runV (As := As) (rest := rest) (b := b + i) ⟨hx, hb, hml, hown, hts⟩ (hok H.size) cw ⟨pcC_blind, va_recv hK hP (ci := X) (q0 := k) hcl hg, pcC_pre hK hP hD hS hA hZ⟩ (g := F0 m pc ls (As.reverse ++ .ref (b + i) :: rest)) rfl hn hsz rfl (lv_room h8) hdg hR) hS (fun q _ h => (va_freeAll hD hS hA) q h) (va_freeAll hD hS hA) (fun r u t_ H1 locs1 ht hvm hw hB hz1 hk1 hS1 => ?_)
  refine W_sz (fun hu2 => ?_)
  obtain ⟨hP1, hD1⟩ := hB
  subst hw
  have hj := joinF hPJ hDJ (Nat.le_refl _) hk1 (by rw [← ht]; exact hP1) hD1 (va_freeAll hD hS hA)
  exact kk H1 locs1 hj.1 hj.2 hS1 (by omega)
theorem jaV {p : Program} {l : Launch} {e : Env} {R : Room} {s : State} {m : MethodId} {args : Array Value} {below : List Frame} {meth : Method} {c : Code} {H : Heap} {locs : List Loc} {cells slots : Nat} {Q : State → Prop} {cc : ByteArray} {pc : Nat} {ls : Array Slot} {rest : List Value} {ws0 : List Cond} {dC : Nat → ClassId} {dI : Nat → Nat → Nat} {cB cI cJ cZ cS cO : ClassId} {b : Nat} {cs : CS} {A : Nat → Prop} {wf : va_W} {y : MethodName} {bytes : ByteArray} {maxL n fr nL index : Nat} {ws : List Cond} {As : List Value} {K V : Nat → Nat} {fz : Value} {own : String} {ret : Option FieldType} {C : String} {T : u_T} {N X i : Nat} {cs9 : CS} (hx : p.tables.exec = Jvm.exec) (hb : c.code = cc) (hml : c.maxLocals = nL) (hts : ∀ w ∈ ws0, w.before args s = true) (hown : s.vm.findClass own = some m.cls) (hK : va_K (dC, dI) vwCl [(cB, .byte), (cI, .int), (cJ, .long), (cZ, .boolean), (cS, .object "StreamQueries$Source"), (cO, .object "java/lang/Object")] s) (hPJ : va_P (dC, dI) vwCl (cW cB cI cJ cZ cS cO b cs ++ wf) H) (hDJ : va_D A (cW cB cI cJ cZ cS cO b cs ++ wf)) (hS : va_S A s.heap H locs) (hA : ∀ q, s.heap.size ≤ q → A q) (hz : H.size = b + kK cs) (hcc : s.heap.size + cells = b + kK cs) (hZ : zE K V fz A s) (hX : X < 32) (hcl : vwCl[X]? = some (C, T, N)) (hm : (X, i) ∈ kE cs) (hok : oaV l dC dI cB cI cJ cZ cS cO b K V fz y ws fr (.ref (b + i) :: As) cs cs9) (cw : CallW R s args own C index y bytes maxL ret ws ({ frames := fr, cells := kK cs9 - kK cs, slots := kM cs9 - kM cs, locals := 60 * fr } : Room) (kK cs9 - kK cs) (kM cs9 - kM cs) n) (hn : As.length = n) (hsz : ls.size = nL) (h8 : (rest.map fun v => v.category).sum ≤ 8) (hR : cells + (kK cs9 - kK cs) ≤ R.cells ∧ slots + (kM cs9 - kM cs) ≤ R.slots) (hdg : decode cc pc = .ok (.invokevirtual index, 3)) (kk : ∀ (H1 : Heap) (locs1 : List Loc), va_P (dC, dI) vwCl (cW cB cI cJ cZ cS cO b cs9 ++ wf) H1 → va_D A (cW cB cI cJ cZ cS cO b cs9 ++ wf) → va_S A s.heap H1 locs1 → H1.size = b + kK cs9 → W p l e R s m args below meth c H1 locs1 (cells + (kK cs9 - kK cs)) (slots + (kM cs9 - kM cs)) Q (F0 m (pc + 3) ls rest)) : W p l e R s m args below meth c H locs cells slots Q (F0 m pc ls (As.reverse ++ .ref (b + i) :: rest)) := by
  have hP := hPJ.left
  have hD := hDJ.left
  obtain ⟨k, -, hg⟩ := cO_at (b := b) (cB := cB) (cI := cI) (cJ := cJ) (cZ := cZ) (cS := cS) (cO := cO) hX hm
  refine va_callv (va_runV (As := As) (rest := rest) (b := b + i) ⟨hx, hb, hml, hown, hts⟩ hok.2 cw ⟨pcC_blind, va_recv hK hP (ci := X) (q0 := k) hcl hg, (by rw [← hz]; exact pcC_pre hK hP hD hS hA hZ)⟩ (g := F0 m pc ls (As.reverse ++ .ref (b + i) :: rest)) rfl hn hsz rfl (lv_room h8) hdg hR) hS (fun q _ h => (fun q h => va_freeAll hD hS hA q (by rw [hz]; exact h)) q h) (fun q h => va_freeAll hD hS hA q (by rw [hz]; exact h)) (fun u t_ H1 locs1 ht hvm hw hB hz1 hk1 hS1 => ?_)
  refine W_sz (fun hu2 => ?_)
  obtain ⟨hP1, hD1, hge⟩ := hB
  rw [ht] at hge
  have hmo := hok.1.1
  have hj := joinF hPJ hDJ (Nat.le_of_eq hz) hk1 (by rw [← ht]; exact hP1) hD1 (fun q h => va_freeAll hD hS hA q (by rw [hz]; exact h))
  exact kk H1 locs1 hj.1 hj.2 hS1 (by omega)
theorem jaI {p : Program} {l : Launch} {e : Env} {R : Room} {s : State} {m : MethodId} {args : Array Value} {below : List Frame} {meth : Method} {c : Code} {H : Heap} {locs : List Loc} {cells slots : Nat} {Q : State → Prop} {cc : ByteArray} {pc : Nat} {ls : Array Slot} {rest : List Value} {ws0 : List Cond} {dC : Nat → ClassId} {dI : Nat → Nat → Nat} {cB cI cJ cZ cS cO : ClassId} {b : Nat} {cs : CS} {A : Nat → Prop} {wf : va_W} {y : MethodName} {bytes : ByteArray} {maxL n fr nL index : Nat} {ws : List Cond} {As : List Value} {K V : Nat → Nat} {fz : Value} {own : String} {ret : Option FieldType} {C : String} {T : u_T} {N X i : Nat} {cs9 : CS} {r9 : Int32} (hx : p.tables.exec = Jvm.exec) (hb : c.code = cc) (hml : c.maxLocals = nL) (hts : ∀ w ∈ ws0, w.before args s = true) (hown : s.vm.findClass own = some m.cls) (hK : va_K (dC, dI) vwCl [(cB, .byte), (cI, .int), (cJ, .long), (cZ, .boolean), (cS, .object "StreamQueries$Source"), (cO, .object "java/lang/Object")] s) (hPJ : va_P (dC, dI) vwCl (cW cB cI cJ cZ cS cO b cs ++ wf) H) (hDJ : va_D A (cW cB cI cJ cZ cS cO b cs ++ wf)) (hS : va_S A s.heap H locs) (hA : ∀ q, s.heap.size ≤ q → A q) (hz : H.size = b + kK cs) (hcc : s.heap.size + cells = b + kK cs) (hZ : zE K V fz A s) (hX : X < 32) (hcl : vwCl[X]? = some (C, T, N)) (hm : (X, i) ∈ kE cs) (hok : oaI l dC dI cB cI cJ cZ cS cO b K V fz y ws fr (.ref (b + i) :: As) cs cs9 r9) (cw : CallW R s args own C index y bytes maxL ret ws ({ frames := fr, cells := kK cs9 - kK cs, slots := kM cs9 - kM cs, locals := 60 * fr } : Room) (kK cs9 - kK cs) (kM cs9 - kM cs) n) (hn : As.length = n) (hsz : ls.size = nL) (h8 : (rest.map fun v => v.category).sum ≤ 8) (hR : cells + (kK cs9 - kK cs) ≤ R.cells ∧ slots + (kM cs9 - kM cs) ≤ R.slots) (hdg : decode cc pc = .ok (.invokevirtual index, 3)) (kk : ∀ (H1 : Heap) (locs1 : List Loc), va_P (dC, dI) vwCl (cW cB cI cJ cZ cS cO b cs9 ++ wf) H1 → va_D A (cW cB cI cJ cZ cS cO b cs9 ++ wf) → va_S A s.heap H1 locs1 → H1.size = b + kK cs9 → W p l e R s m args below meth c H1 locs1 (cells + (kK cs9 - kK cs)) (slots + (kM cs9 - kM cs)) Q (F0 m (pc + 3) ls (.int r9 :: rest))) : W p l e R s m args below meth c H locs cells slots Q (F0 m pc ls (As.reverse ++ .ref (b + i) :: rest)) := by
  have hP := hPJ.left
  have hD := hDJ.left
  obtain ⟨k, -, hg⟩ := cO_at (b := b) (cB := cB) (cI := cI) (cJ := cJ) (cZ := cZ) (cS := cS) (cO := cO) hX hm
  refine va_calli (va_runV (As := As) (rest := rest) (b := b + i) ⟨hx, hb, hml, hown, hts⟩ hok.2 cw ⟨pcC_blind, va_recv hK hP (ci := X) (q0 := k) hcl hg, (by rw [← hz]; exact pcC_pre hK hP hD hS hA hZ)⟩ (g := F0 m pc ls (As.reverse ++ .ref (b + i) :: rest)) rfl hn hsz rfl (lv_room h8) hdg hR) hS (fun q _ h => (fun q h => va_freeAll hD hS hA q (by rw [hz]; exact h)) q h) (fun q h => va_freeAll hD hS hA q (by rw [hz]; exact h)) (fun r u t_ H1 locs1 ht hvm hw hB hz1 hk1 hS1 => ?_)
  refine W_sz (fun hu2 => ?_)
  obtain ⟨hP1, hD1, hge⟩ := hB
  subst hw
  rw [ht] at hge
  have hmo := hok.1.1
  have hj := joinF hPJ hDJ (Nat.le_of_eq hz) hk1 (by rw [← ht]; exact hP1) hD1 (fun q h => va_freeAll hD hS hA q (by rw [hz]; exact h))
  exact kk H1 locs1 hj.1 hj.2 hS1 (by omega)

/-! String.length, charAt where cells are made -/
def lnS (i : Nat) : Int32 := nI (soB i).length
def chS (i : Nat) (x : Int32) : Option Int32 := if x < 0 ∨ (soB i).length ≤ x.toNatClampNeg then none else some (soC i x.toNatClampNeg)
theorem strLen_X10 {p : Program} {l : Launch} {e : Env} {R : Room} {s : State} {m : MethodId} {args : Array Value} {below : List Frame} {meth : Method} {c : Code} {H : Heap} {locs : List Loc} {cells slots : Nat} {Q : State → Prop} {cc : ByteArray} {pc : Nat} {ls : Array Slot} {rest : List Value} {y0 : MethodName} {c0 : ByteArray} {n0 : Nat} {r0 : Option FieldType} {dC : Nat → ClassId} {dI : Nat → Nat → Nat} {cB cI cJ cZ cS cO : ClassId} {b : Nat} {cs : CS} {A : Nat → Prop} {Gh : Heap} {nL : Nat} {K V : Nat → Nat} {fz : Value} {i : Nat} (hx : p.tables.exec = Jvm.exec) (hb : c.code = cc) (hml : c.maxLocals = nL) (hts : ∀ w ∈ wsOf y0 c0 n0 r0, w.before args s = true) (hown : s.vm.findClass RX10 = some m.cls) (hK : va_K (dC, dI) vwCl [(cB, .byte), (cI, .int), (cJ, .long), (cZ, .boolean), (cS, .object "StreamQueries$Source"), (cO, .object "java/lang/Object")] s) (hP : va_P (dC, dI) vwCl (cW cB cI cJ cZ cS cO b cs) H) (hD : va_D A (cW cB cI cJ cZ cS cO b cs)) (hS : va_S A Gh H locs) (hG : va_S A s.heap Gh []) (hA : ∀ q, s.heap.size ≤ q → A q) (hgz : Gh.size = b + kK cs) (hcc : s.heap.size + cells = b + kK cs) (hZ : zE K V fz A s) (hi : i < 42) (hsz : ls.size = nL) (h8 : (rest.map fun v => v.category).sum ≤ 8) (hR : cells ≤ R.cells ∧ slots ≤ R.slots) (hR1 : 4 ≤ R.frames) (hR2 : 300 ≤ R.locals) (hdg : decode cc pc = .ok (.invokevirtual 31, 3)) (kk : ∀ (H1 : Heap) (locs1 : List Loc), va_P (dC, dI) vwCl (cW cB cI cJ cZ cS cO b cs) H1 → va_D A (cW cB cI cJ cZ cS cO b cs) → va_S A s.heap H1 [] → H1.size = b + kK cs → va_S A H1 H1 locs1 → W p l e R s m args below meth c H1 locs1 cells slots Q (F0 m (pc + 3) ls (.int (lnS i) :: rest))) : W p l e R s m args below meth c H locs cells slots Q (F0 m pc ls (.ref (K i) :: rest)) := by
  refine W_sz (fun hu => ?_)
  have hz : H.size = b + kK cs := by have := hS.1; omega
  have hSs := hG.comp hS
  have hPc : va_P (dC, dI) vwCl [] H := hP.sub [] rfl
  have hFc : ∀ q, va_A [] H.size q → A q := va_free (wc := []) hD hSs hA [] rfl
  have hK4 := hK.sub (tys' := [(cB, .byte), (cI, .int), (cJ, .long), (cZ, .boolean)]) [0, 1, 2, 3] rfl
  refine va_calli (va_runV (As := []) (rest := rest) (b := K i) ⟨hx, hb, hml, hown, hts⟩ (t_length l dC dI H.size cB cI cJ cZ i K V fz hi) (cwV 0 hts (gd_all (in_V kw_263 kw_264 kw_265 kw_184 kc_J0_length_8abf5)) rfl rfl rfl (by decide +kernel) ⟨by show 1 + 1 ≤ R.frames; omega, by show 8 + (1 + 11) + 60 ≤ R.locals; omega⟩)
    ⟨fun x U g mk q => by obtain ⟨q0, q1, qP, qK, qD, qZ⟩ := q; exact ⟨q0, q1, qP, va_K.moved (u := U) (U := U.calling g mk x) (Vm.Alike.refl U.vm) qK, qD, zE.same (u := U) (U := U.calling g mk x) rfl rfl qZ⟩, zE.recv hZ hi hSs, fun U hU hW => ⟨rfl, by rw [hU], by rw [hU]; exact hPc, va_K.moved hW.alike hK4, ⟨fun i j x y h => by simp at h, fun k x h => by simp at h⟩, zE.go hZ hSs hU hW hFc⟩⟩
    (g := F0 m pc ls _) rfl rfl hsz rfl (lv_room h8) hdg hR) hSs (fun q _ h => hFc q h) hFc (fun r u t_ H1 locs1 ht hvm hw hB hz1 hk1 hS1 => ?_)
  refine W_sz (fun hu2 => ?_)
  subst hw
  refine kk H1 locs1 (hP.kept (fun k q hq => hk1 q.1 (hP k q hq).lt (fun h => ?_))) hD hS1.nil (by omega) hS1.self
  rcases h with ⟨k2, e2, h⟩ | h
  · simp at h
  · exact absurd (hP k q hq).lt (Nat.not_lt.mpr h)
theorem strChr_X10 {p : Program} {l : Launch} {e : Env} {R : Room} {s : State} {m : MethodId} {args : Array Value} {below : List Frame} {meth : Method} {c : Code} {H : Heap} {locs : List Loc} {cells slots : Nat} {Q : State → Prop} {cc : ByteArray} {pc : Nat} {ls : Array Slot} {rest : List Value} {y0 : MethodName} {c0 : ByteArray} {n0 : Nat} {r0 : Option FieldType} {dC : Nat → ClassId} {dI : Nat → Nat → Nat} {cB cI cJ cZ cS cO : ClassId} {b : Nat} {cs : CS} {A : Nat → Prop} {Gh : Heap} {nL : Nat} {K V : Nat → Nat} {fz : Value} {i : Nat} {x v : Int32} (hx : p.tables.exec = Jvm.exec) (hb : c.code = cc) (hml : c.maxLocals = nL) (hts : ∀ w ∈ wsOf y0 c0 n0 r0, w.before args s = true) (hown : s.vm.findClass RX10 = some m.cls) (hK : va_K (dC, dI) vwCl [(cB, .byte), (cI, .int), (cJ, .long), (cZ, .boolean), (cS, .object "StreamQueries$Source"), (cO, .object "java/lang/Object")] s) (hP : va_P (dC, dI) vwCl (cW cB cI cJ cZ cS cO b cs) H) (hD : va_D A (cW cB cI cJ cZ cS cO b cs)) (hS : va_S A Gh H locs) (hG : va_S A s.heap Gh []) (hA : ∀ q, s.heap.size ≤ q → A q) (hgz : Gh.size = b + kK cs) (hcc : s.heap.size + cells = b + kK cs) (hZ : zE K V fz A s) (hi : i < 42) (hv : chS i x = some v) (hsz : ls.size = nL) (h8 : (rest.map fun v => v.category).sum ≤ 8) (hR : cells ≤ R.cells ∧ slots ≤ R.slots) (hR1 : 4 ≤ R.frames) (hR2 : 300 ≤ R.locals) (hdg : decode cc pc = .ok (.invokevirtual 37, 3)) (kk : ∀ (H1 : Heap) (locs1 : List Loc), va_P (dC, dI) vwCl (cW cB cI cJ cZ cS cO b cs) H1 → va_D A (cW cB cI cJ cZ cS cO b cs) → va_S A s.heap H1 [] → H1.size = b + kK cs → va_S A H1 H1 locs1 → W p l e R s m args below meth c H1 locs1 cells slots Q (F0 m (pc + 3) ls (.int v :: rest))) : W p l e R s m args below meth c H locs cells slots Q (F0 m pc ls (.int x :: .ref (K i) :: rest)) := by
  refine W_sz (fun hu => ?_)
  have hz : H.size = b + kK cs := by have := hS.1; omega
  have hSs := hG.comp hS
  unfold chS at hv
  by_cases hc : x < 0 ∨ (soB i).length ≤ x.toNatClampNeg
  · rw [if_pos hc] at hv; cases hv
  rw [if_neg hc] at hv
  have hlen := so_len i hi
  obtain ⟨j, hj, rfl⟩ := vp_in_of (x := x) (n := (soB i).length) hc (by omega)
  rw [nI_clamp (n := j) (by omega)] at hv
  cases hv
  have hPc : va_P (dC, dI) vwCl [] H := hP.sub [] rfl
  have hFc : ∀ q, va_A [] H.size q → A q := va_free (wc := []) hD hSs hA [] rfl
  have hK4 := hK.sub (tys' := [(cB, .byte), (cI, .int), (cJ, .long), (cZ, .boolean)]) [0, 1, 2, 3] rfl
  refine va_calli (va_runV (As := [.int (nI j)]) (rest := rest) (b := K i) ⟨hx, hb, hml, hown, hts⟩ (t_charAt l dC dI H.size cB cI cJ cZ i j K V fz hi hj) (cwV 1 hts (gd_all (in_V kw_273 kw_274 kw_275 kw_184 kc_J0_charAt_5068e)) rfl rfl rfl (by decide +kernel) ⟨by show 3 + 1 ≤ R.frames; omega, by show 8 + (2 + 11) + 180 ≤ R.locals; omega⟩)
    ⟨fun x U g mk q => by obtain ⟨q0, q1, qP, qK, qD, qZ⟩ := q; exact ⟨q0, q1, qP, va_K.moved (u := U) (U := U.calling g mk x) (Vm.Alike.refl U.vm) qK, qD, zE.same (u := U) (U := U.calling g mk x) rfl rfl qZ⟩, zE.recv hZ hi hSs, fun U hU hW => ⟨rfl, by rw [hU], by rw [hU]; exact hPc, va_K.moved hW.alike hK4, ⟨fun i j x y h => by simp at h, fun k x h => by simp at h⟩, zE.go hZ hSs hU hW hFc⟩⟩
    (g := F0 m pc ls _) rfl rfl hsz rfl (lv_room h8) hdg hR) hSs (fun q _ h => hFc q h) hFc (fun r u t_ H1 locs1 ht hvm hw hB hz1 hk1 hS1 => ?_)
  refine W_sz (fun hu2 => ?_)
  subst hw
  refine kk H1 locs1 (hP.kept (fun k q hq => hk1 q.1 (hP k q hq).lt (fun h => ?_))) hD hS1.nil (by omega) hS1.self
  rcases h with ⟨k2, e2, h⟩ | h
  · simp at h
  · exact absurd (hP k q hq).lt (Nat.not_lt.mpr h)

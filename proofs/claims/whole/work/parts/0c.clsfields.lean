/-! a row a field, by the class that asks -/
theorem uG_Jx4a65c : ∀ w ∈ u_ws RJx4a65c TJx4a65c 3, w ∈ wsG := uG [763, 759, 761] (by decide +kernel) (by decide +kernel)
theorem fg_X11_9 {p : Program} {l : Launch} {e : Env} {R : Room} {s : State} {m : MethodId} {args : Array Value} {below : List Frame} {meth : Method} {c : Code} {H : Heap} {locs : List Loc} {cells slots : Nat} {Q : State → Prop} {cc : ByteArray} {pc : Nat} {ls : Array Slot} {rest : List Value} {y0 : MethodName} {c0 : ByteArray} {n0 : Nat} {r0 : Option FieldType} {dC : Nat → ClassId} {dI : Nat → Nat → Nat} {cB cI cJ cZ cS cO : ClassId} {b : Nat} {cs : CS} {i : Nat} {v : Nat} (hx : p.tables.exec = Jvm.exec) (hb : c.code = cc) (hts : ∀ w ∈ wsOf y0 c0 n0 r0, w.before args s = true) (hown : s.vm.findClass RX11 = some m.cls) (hK : va_K (dC, dI) vwCl [(cB, .byte), (cI, .int), (cJ, .long), (cZ, .boolean), (cS, .object "StreamQueries$Source"), (cO, .object "java/lang/Object")] s) (hP : va_P (dC, dI) vwCl (cW cB cI cJ cZ cS cO b cs) H) (hv : gA cs 12 384 i = some v) (hdg : decode cc pc = .ok (.getfield 9, 3)) (kk : W p l e R s m args below meth c H locs cells slots Q (F0 m (pc + 3) ls (.ref (b + v) :: rest))) : W p l e R s m args below meth c H locs cells slots Q (F0 m pc ls (.ref (b + i) :: rest)) := by
  obtain ⟨h1, h2⟩ := gA_some hv
  obtain ⟨k, -, hg⟩ := cO_at (b := b) (cB := cB) (cI := cI) (cJ := cJ) (cZ := cZ) (cS := cS) (cO := cO) (by decide) h1
  have hf : (vL b cs i (32 * 12) (tyX 12))[0]? = some (.ref (b + v)) := by
    show some (vV b cs 384 i 3) = _
    show some (rv b (kP cs 384 i)) = _
    rw [h2]; rfl
  exact va_get (D := (dC, dI)) (ci := 12) (C := RX11) (T := TX11) (N := 16) hx hb hts (fun w h => List.mem_cons_of_mem _ (uG_X11 w h)) hown hK hP k hg rfl 0 (by decide) (hts _ (List.mem_cons_of_mem _ kw_428)) (fun _ h9 => h9) hf hdg kk
theorem fg_X11_16 {p : Program} {l : Launch} {e : Env} {R : Room} {s : State} {m : MethodId} {args : Array Value} {below : List Frame} {meth : Method} {c : Code} {H : Heap} {locs : List Loc} {cells slots : Nat} {Q : State → Prop} {cc : ByteArray} {pc : Nat} {ls : Array Slot} {rest : List Value} {y0 : MethodName} {c0 : ByteArray} {n0 : Nat} {r0 : Option FieldType} {dC : Nat → ClassId} {dI : Nat → Nat → Nat} {cB cI cJ cZ cS cO : ClassId} {b : Nat} {cs : CS} {i : Nat} {v : (Option Nat)} (hx : p.tables.exec = Jvm.exec) (hb : c.code = cc) (hts : ∀ w ∈ wsOf y0 c0 n0 r0, w.before args s = true) (hown : s.vm.findClass RX11 = some m.cls) (hK : va_K (dC, dI) vwCl [(cB, .byte), (cI, .int), (cJ, .long), (cZ, .boolean), (cS, .object "StreamQueries$Source"), (cO, .object "java/lang/Object")] s) (hP : va_P (dC, dI) vwCl (cW cB cI cJ cZ cS cO b cs) H) (hv : gR cs 12 386 i = some v) (hdg : decode cc pc = .ok (.getfield 16, 3)) (kk : W p l e R s m args below meth c H locs cells slots Q (F0 m (pc + 3) ls (rv b v :: rest))) : W p l e R s m args below meth c H locs cells slots Q (F0 m pc ls (.ref (b + i) :: rest)) := by
  obtain ⟨h1, h2⟩ := gR_some hv
  obtain ⟨k, -, hg⟩ := cO_at (b := b) (cB := cB) (cI := cI) (cJ := cJ) (cZ := cZ) (cS := cS) (cO := cO) (by decide) h1
  have hf : (vL b cs i (32 * 12) (tyX 12))[2]? = some (rv b v) := by
    show some (vV b cs 386 i 2) = _
    show some (rv b (kR cs 386 i)) = _
    rw [h2]
  exact va_get (D := (dC, dI)) (ci := 12) (C := RX11) (T := TX11) (N := 16) hx hb hts (fun w h => List.mem_cons_of_mem _ (uG_X11 w h)) hown hK hP k hg rfl 2 (by decide) (hts _ (List.mem_cons_of_mem _ kw_430)) (fun _ h9 => h9) hf hdg kk
theorem fp_X11_16 {p : Program} {l : Launch} {e : Env} {R : Room} {s : State} {m : MethodId} {args : Array Value} {below : List Frame} {meth : Method} {c : Code} {H : Heap} {locs : List Loc} {cells slots : Nat} {Q : State → Prop} {cc : ByteArray} {pc : Nat} {ls : Array Slot} {rest : List Value} {y0 : MethodName} {c0 : ByteArray} {n0 : Nat} {r0 : Option FieldType} {dC : Nat → ClassId} {dI : Nat → Nat → Nat} {cB cI cJ cZ cS cO : ClassId} {b : Nat} {cs : CS} {A : Nat → Prop} {H0 : Heap} {cs1 : CS} {i : Nat} {v : (Option Nat)} (hx : p.tables.exec = Jvm.exec) (hb : c.code = cc) (hts : ∀ w ∈ wsOf y0 c0 n0 r0, w.before args s = true) (hown : s.vm.findClass RX11 = some m.cls) (hK : va_K (dC, dI) vwCl [(cB, .byte), (cI, .int), (cJ, .long), (cZ, .boolean), (cS, .object "StreamQueries$Source"), (cO, .object "java/lang/Object")] s) (hP : va_P (dC, dI) vwCl (cW cB cI cJ cZ cS cO b cs) H) (hD : va_D A (cW cB cI cJ cZ cS cO b cs)) (hS : va_S A H0 H locs) (hin : meth.name = "<init>") (hv : pR cs 12 386 i v = some cs1) (hdg : decode cc pc = .ok (.putfield 16, 3)) (kk : ∀ (H1 : Heap) (locs1 : List Loc), va_P (dC, dI) vwCl (cW cB cI cJ cZ cS cO b cs1) H1 → va_D A (cW cB cI cJ cZ cS cO b cs1) → va_S A H0 H1 locs1 → W p l e R s m args below meth c H1 locs1 cells slots Q (F0 m (pc + 3) ls rest)) : W p l e R s m args below meth c H locs cells slots Q (F0 m pc ls (rv b v :: .ref (b + i) :: rest)) := by
  obtain ⟨h1, rfl⟩ := pR_some hv
  obtain ⟨k, hk, hg⟩ := cO_at (b := b) (cB := cB) (cI := cI) (cJ := cJ) (cZ := cZ) (cS := cS) (cO := cO) (by decide) h1
  have hset := cW_putF (f := 2) (y := 2) (v := rv b v) (cs1 := sR cs 386 i v) (by decide) rfl hD hk rfl rfl rfl rfl rfl rfl (by show rv b (u2 (kR cs) 386 i v 386 i) = _; rw [u2_s]) (fun z j w hn => by
    have e9 : kR (sR cs 386 i v) z j = kR cs z j := u2_n hn
    match w with
    | 0 => rfl
    | 1 => rfl
    | 2 => show rv b (kR (sR cs 386 i v) z j) = rv b (kR cs z j); rw [e9]
    | _ + 3 => rfl)
  refine va_putF (D := (dC, dI)) (ci := 12) (v := rv b v) (ty := .object "StreamQueries$Streams") (C := RX11) (T := TX11) (N := 16) hx hb hts (fun w h => List.mem_cons_of_mem _ (uG_X11 w h)) tyX11 tyX11_ok nmX11 hown hK hP hD hS k hg rfl 2 (by decide) (hts _ (List.mem_cons_of_mem _ kw_430)) (fun _ h9 => h9) rfl hin rfl (by decide +kernel) (rv_nar b v _) (rv_fit b v _) (by rw [vL_len]; decide) hdg (fun H1 l1 q1 q2 q3 => ?_)
  rw [hset] at q1 q2
  exact kk H1 l1 q1 q2 q3
theorem fg_X11_23 {p : Program} {l : Launch} {e : Env} {R : Room} {s : State} {m : MethodId} {args : Array Value} {below : List Frame} {meth : Method} {c : Code} {H : Heap} {locs : List Loc} {cells slots : Nat} {Q : State → Prop} {cc : ByteArray} {pc : Nat} {ls : Array Slot} {rest : List Value} {y0 : MethodName} {c0 : ByteArray} {n0 : Nat} {r0 : Option FieldType} {dC : Nat → ClassId} {dI : Nat → Nat → Nat} {cB cI cJ cZ cS cO : ClassId} {b : Nat} {cs : CS} {i : Nat} {v : (Option Nat)} (hx : p.tables.exec = Jvm.exec) (hb : c.code = cc) (hts : ∀ w ∈ wsOf y0 c0 n0 r0, w.before args s = true) (hown : s.vm.findClass RX11 = some m.cls) (hK : va_K (dC, dI) vwCl [(cB, .byte), (cI, .int), (cJ, .long), (cZ, .boolean), (cS, .object "StreamQueries$Source"), (cO, .object "java/lang/Object")] s) (hP : va_P (dC, dI) vwCl (cW cB cI cJ cZ cS cO b cs) H) (hv : gR cs 12 387 i = some v) (hdg : decode cc pc = .ok (.getfield 23, 3)) (kk : W p l e R s m args below meth c H locs cells slots Q (F0 m (pc + 3) ls (rv b v :: rest))) : W p l e R s m args below meth c H locs cells slots Q (F0 m pc ls (.ref (b + i) :: rest)) := by
  obtain ⟨h1, h2⟩ := gR_some hv
  obtain ⟨k, -, hg⟩ := cO_at (b := b) (cB := cB) (cI := cI) (cJ := cJ) (cZ := cZ) (cS := cS) (cO := cO) (by decide) h1
  have hf : (vL b cs i (32 * 12) (tyX 12))[3]? = some (rv b v) := by
    show some (vV b cs 387 i 2) = _
    show some (rv b (kR cs 387 i)) = _
    rw [h2]
  exact va_get (D := (dC, dI)) (ci := 12) (C := RX11) (T := TX11) (N := 16) hx hb hts (fun w h => List.mem_cons_of_mem _ (uG_X11 w h)) hown hK hP k hg rfl 3 (by decide) (hts _ (List.mem_cons_of_mem _ kw_431)) (fun _ h9 => h9) hf hdg kk
theorem fp_X11_23 {p : Program} {l : Launch} {e : Env} {R : Room} {s : State} {m : MethodId} {args : Array Value} {below : List Frame} {meth : Method} {c : Code} {H : Heap} {locs : List Loc} {cells slots : Nat} {Q : State → Prop} {cc : ByteArray} {pc : Nat} {ls : Array Slot} {rest : List Value} {y0 : MethodName} {c0 : ByteArray} {n0 : Nat} {r0 : Option FieldType} {dC : Nat → ClassId} {dI : Nat → Nat → Nat} {cB cI cJ cZ cS cO : ClassId} {b : Nat} {cs : CS} {A : Nat → Prop} {H0 : Heap} {cs1 : CS} {i : Nat} {v : (Option Nat)} (hx : p.tables.exec = Jvm.exec) (hb : c.code = cc) (hts : ∀ w ∈ wsOf y0 c0 n0 r0, w.before args s = true) (hown : s.vm.findClass RX11 = some m.cls) (hK : va_K (dC, dI) vwCl [(cB, .byte), (cI, .int), (cJ, .long), (cZ, .boolean), (cS, .object "StreamQueries$Source"), (cO, .object "java/lang/Object")] s) (hP : va_P (dC, dI) vwCl (cW cB cI cJ cZ cS cO b cs) H) (hD : va_D A (cW cB cI cJ cZ cS cO b cs)) (hS : va_S A H0 H locs) (hin : meth.name = "<init>") (hv : pR cs 12 387 i v = some cs1) (hdg : decode cc pc = .ok (.putfield 23, 3)) (kk : ∀ (H1 : Heap) (locs1 : List Loc), va_P (dC, dI) vwCl (cW cB cI cJ cZ cS cO b cs1) H1 → va_D A (cW cB cI cJ cZ cS cO b cs1) → va_S A H0 H1 locs1 → W p l e R s m args below meth c H1 locs1 cells slots Q (F0 m (pc + 3) ls rest)) : W p l e R s m args below meth c H locs cells slots Q (F0 m pc ls (rv b v :: .ref (b + i) :: rest)) := by
  obtain ⟨h1, rfl⟩ := pR_some hv
  obtain ⟨k, hk, hg⟩ := cO_at (b := b) (cB := cB) (cI := cI) (cJ := cJ) (cZ := cZ) (cS := cS) (cO := cO) (by decide) h1
  have hset := cW_putF (f := 3) (y := 2) (v := rv b v) (cs1 := sR cs 387 i v) (by decide) rfl hD hk rfl rfl rfl rfl rfl rfl (by show rv b (u2 (kR cs) 387 i v 387 i) = _; rw [u2_s]) (fun z j w hn => by
    have e9 : kR (sR cs 387 i v) z j = kR cs z j := u2_n hn
    match w with
    | 0 => rfl
    | 1 => rfl
    | 2 => show rv b (kR (sR cs 387 i v) z j) = rv b (kR cs z j); rw [e9]
    | _ + 3 => rfl)
  refine va_putF (D := (dC, dI)) (ci := 12) (v := rv b v) (ty := .object "StreamQueries$Tokens") (C := RX11) (T := TX11) (N := 16) hx hb hts (fun w h => List.mem_cons_of_mem _ (uG_X11 w h)) tyX11 tyX11_ok nmX11 hown hK hP hD hS k hg rfl 3 (by decide) (hts _ (List.mem_cons_of_mem _ kw_431)) (fun _ h9 => h9) rfl hin rfl (by decide +kernel) (rv_nar b v _) (rv_fit b v _) (by rw [vL_len]; decide) hdg (fun H1 l1 q1 q2 q3 => ?_)
  rw [hset] at q1 q2
  exact kk H1 l1 q1 q2 q3
theorem fg_X11_30 {p : Program} {l : Launch} {e : Env} {R : Room} {s : State} {m : MethodId} {args : Array Value} {below : List Frame} {meth : Method} {c : Code} {H : Heap} {locs : List Loc} {cells slots : Nat} {Q : State → Prop} {cc : ByteArray} {pc : Nat} {ls : Array Slot} {rest : List Value} {y0 : MethodName} {c0 : ByteArray} {n0 : Nat} {r0 : Option FieldType} {dC : Nat → ClassId} {dI : Nat → Nat → Nat} {cB cI cJ cZ cS cO : ClassId} {b : Nat} {cs : CS} {i : Nat} {v : (Option Nat)} (hx : p.tables.exec = Jvm.exec) (hb : c.code = cc) (hts : ∀ w ∈ wsOf y0 c0 n0 r0, w.before args s = true) (hown : s.vm.findClass RX11 = some m.cls) (hK : va_K (dC, dI) vwCl [(cB, .byte), (cI, .int), (cJ, .long), (cZ, .boolean), (cS, .object "StreamQueries$Source"), (cO, .object "java/lang/Object")] s) (hP : va_P (dC, dI) vwCl (cW cB cI cJ cZ cS cO b cs) H) (hv : gR cs 12 391 i = some v) (hdg : decode cc pc = .ok (.getfield 30, 3)) (kk : W p l e R s m args below meth c H locs cells slots Q (F0 m (pc + 3) ls (rv b v :: rest))) : W p l e R s m args below meth c H locs cells slots Q (F0 m pc ls (.ref (b + i) :: rest)) := by
  obtain ⟨h1, h2⟩ := gR_some hv
  obtain ⟨k, -, hg⟩ := cO_at (b := b) (cB := cB) (cI := cI) (cJ := cJ) (cZ := cZ) (cS := cS) (cO := cO) (by decide) h1
  have hf : (vL b cs i (32 * 12) (tyX 12))[7]? = some (rv b v) := by
    show some (vV b cs 391 i 2) = _
    show some (rv b (kR cs 391 i)) = _
    rw [h2]
  exact va_get (D := (dC, dI)) (ci := 12) (C := RX11) (T := TX11) (N := 16) hx hb hts (fun w h => List.mem_cons_of_mem _ (uG_X11 w h)) hown hK hP k hg rfl 7 (by decide) (hts _ (List.mem_cons_of_mem _ kw_435)) (fun _ h9 => h9) hf hdg kk
theorem fp_X11_30 {p : Program} {l : Launch} {e : Env} {R : Room} {s : State} {m : MethodId} {args : Array Value} {below : List Frame} {meth : Method} {c : Code} {H : Heap} {locs : List Loc} {cells slots : Nat} {Q : State → Prop} {cc : ByteArray} {pc : Nat} {ls : Array Slot} {rest : List Value} {y0 : MethodName} {c0 : ByteArray} {n0 : Nat} {r0 : Option FieldType} {dC : Nat → ClassId} {dI : Nat → Nat → Nat} {cB cI cJ cZ cS cO : ClassId} {b : Nat} {cs : CS} {A : Nat → Prop} {H0 : Heap} {cs1 : CS} {i : Nat} {v : (Option Nat)} (hx : p.tables.exec = Jvm.exec) (hb : c.code = cc) (hts : ∀ w ∈ wsOf y0 c0 n0 r0, w.before args s = true) (hown : s.vm.findClass RX11 = some m.cls) (hK : va_K (dC, dI) vwCl [(cB, .byte), (cI, .int), (cJ, .long), (cZ, .boolean), (cS, .object "StreamQueries$Source"), (cO, .object "java/lang/Object")] s) (hP : va_P (dC, dI) vwCl (cW cB cI cJ cZ cS cO b cs) H) (hD : va_D A (cW cB cI cJ cZ cS cO b cs)) (hS : va_S A H0 H locs) (hin : meth.name = "<init>") (hv : pR cs 12 391 i v = some cs1) (hdg : decode cc pc = .ok (.putfield 30, 3)) (kk : ∀ (H1 : Heap) (locs1 : List Loc), va_P (dC, dI) vwCl (cW cB cI cJ cZ cS cO b cs1) H1 → va_D A (cW cB cI cJ cZ cS cO b cs1) → va_S A H0 H1 locs1 → W p l e R s m args below meth c H1 locs1 cells slots Q (F0 m (pc + 3) ls rest)) : W p l e R s m args below meth c H locs cells slots Q (F0 m pc ls (rv b v :: .ref (b + i) :: rest)) := by
  obtain ⟨h1, rfl⟩ := pR_some hv
  obtain ⟨k, hk, hg⟩ := cO_at (b := b) (cB := cB) (cI := cI) (cJ := cJ) (cZ := cZ) (cS := cS) (cO := cO) (by decide) h1
  have hset := cW_putF (f := 7) (y := 2) (v := rv b v) (cs1 := sR cs 391 i v) (by decide) rfl hD hk rfl rfl rfl rfl rfl rfl (by show rv b (u2 (kR cs) 391 i v 391 i) = _; rw [u2_s]) (fun z j w hn => by
    have e9 : kR (sR cs 391 i v) z j = kR cs z j := u2_n hn
    match w with
    | 0 => rfl
    | 1 => rfl
    | 2 => show rv b (kR (sR cs 391 i v) z j) = rv b (kR cs z j); rw [e9]
    | _ + 3 => rfl)
  refine va_putF (D := (dC, dI)) (ci := 12) (v := rv b v) (ty := .object "StreamQueries$Strip") (C := RX11) (T := TX11) (N := 16) hx hb hts (fun w h => List.mem_cons_of_mem _ (uG_X11 w h)) tyX11 tyX11_ok nmX11 hown hK hP hD hS k hg rfl 7 (by decide) (hts _ (List.mem_cons_of_mem _ kw_435)) (fun _ h9 => h9) rfl hin rfl (by decide +kernel) (rv_nar b v _) (rv_fit b v _) (by rw [vL_len]; decide) hdg (fun H1 l1 q1 q2 q3 => ?_)
  rw [hset] at q1 q2
  exact kk H1 l1 q1 q2 q3
theorem fg_X11_34 {p : Program} {l : Launch} {e : Env} {R : Room} {s : State} {m : MethodId} {args : Array Value} {below : List Frame} {meth : Method} {c : Code} {H : Heap} {locs : List Loc} {cells slots : Nat} {Q : State → Prop} {cc : ByteArray} {pc : Nat} {ls : Array Slot} {rest : List Value} {y0 : MethodName} {c0 : ByteArray} {n0 : Nat} {r0 : Option FieldType} {dC : Nat → ClassId} {dI : Nat → Nat → Nat} {cB cI cJ cZ cS cO : ClassId} {b : Nat} {cs : CS} {i : Nat} {v : (Option Nat)} (hx : p.tables.exec = Jvm.exec) (hb : c.code = cc) (hts : ∀ w ∈ wsOf y0 c0 n0 r0, w.before args s = true) (hown : s.vm.findClass RX11 = some m.cls) (hK : va_K (dC, dI) vwCl [(cB, .byte), (cI, .int), (cJ, .long), (cZ, .boolean), (cS, .object "StreamQueries$Source"), (cO, .object "java/lang/Object")] s) (hP : va_P (dC, dI) vwCl (cW cB cI cJ cZ cS cO b cs) H) (hv : gR cs 12 392 i = some v) (hdg : decode cc pc = .ok (.getfield 34, 3)) (kk : W p l e R s m args below meth c H locs cells slots Q (F0 m (pc + 3) ls (rv b v :: rest))) : W p l e R s m args below meth c H locs cells slots Q (F0 m pc ls (.ref (b + i) :: rest)) := by
  obtain ⟨h1, h2⟩ := gR_some hv
  obtain ⟨k, -, hg⟩ := cO_at (b := b) (cB := cB) (cI := cI) (cJ := cJ) (cZ := cZ) (cS := cS) (cO := cO) (by decide) h1
  have hf : (vL b cs i (32 * 12) (tyX 12))[8]? = some (rv b v) := by
    show some (vV b cs 392 i 2) = _
    show some (rv b (kR cs 392 i)) = _
    rw [h2]
  exact va_get (D := (dC, dI)) (ci := 12) (C := RX11) (T := TX11) (N := 16) hx hb hts (fun w h => List.mem_cons_of_mem _ (uG_X11 w h)) hown hK hP k hg rfl 8 (by decide) (hts _ (List.mem_cons_of_mem _ kw_436)) (fun _ h9 => h9) hf hdg kk
theorem fp_X11_34 {p : Program} {l : Launch} {e : Env} {R : Room} {s : State} {m : MethodId} {args : Array Value} {below : List Frame} {meth : Method} {c : Code} {H : Heap} {locs : List Loc} {cells slots : Nat} {Q : State → Prop} {cc : ByteArray} {pc : Nat} {ls : Array Slot} {rest : List Value} {y0 : MethodName} {c0 : ByteArray} {n0 : Nat} {r0 : Option FieldType} {dC : Nat → ClassId} {dI : Nat → Nat → Nat} {cB cI cJ cZ cS cO : ClassId} {b : Nat} {cs : CS} {A : Nat → Prop} {H0 : Heap} {cs1 : CS} {i : Nat} {v : (Option Nat)} (hx : p.tables.exec = Jvm.exec) (hb : c.code = cc) (hts : ∀ w ∈ wsOf y0 c0 n0 r0, w.before args s = true) (hown : s.vm.findClass RX11 = some m.cls) (hK : va_K (dC, dI) vwCl [(cB, .byte), (cI, .int), (cJ, .long), (cZ, .boolean), (cS, .object "StreamQueries$Source"), (cO, .object "java/lang/Object")] s) (hP : va_P (dC, dI) vwCl (cW cB cI cJ cZ cS cO b cs) H) (hD : va_D A (cW cB cI cJ cZ cS cO b cs)) (hS : va_S A H0 H locs) (hin : meth.name = "<init>") (hv : pR cs 12 392 i v = some cs1) (hdg : decode cc pc = .ok (.putfield 34, 3)) (kk : ∀ (H1 : Heap) (locs1 : List Loc), va_P (dC, dI) vwCl (cW cB cI cJ cZ cS cO b cs1) H1 → va_D A (cW cB cI cJ cZ cS cO b cs1) → va_S A H0 H1 locs1 → W p l e R s m args below meth c H1 locs1 cells slots Q (F0 m (pc + 3) ls rest)) : W p l e R s m args below meth c H locs cells slots Q (F0 m pc ls (rv b v :: .ref (b + i) :: rest)) := by
  obtain ⟨h1, rfl⟩ := pR_some hv
  obtain ⟨k, hk, hg⟩ := cO_at (b := b) (cB := cB) (cI := cI) (cJ := cJ) (cZ := cZ) (cS := cS) (cO := cO) (by decide) h1
  have hset := cW_putF (f := 8) (y := 2) (v := rv b v) (cs1 := sR cs 392 i v) (by decide) rfl hD hk rfl rfl rfl rfl rfl rfl (by show rv b (u2 (kR cs) 392 i v 392 i) = _; rw [u2_s]) (fun z j w hn => by
    have e9 : kR (sR cs 392 i v) z j = kR cs z j := u2_n hn
    match w with
    | 0 => rfl
    | 1 => rfl
    | 2 => show rv b (kR (sR cs 392 i v) z j) = rv b (kR cs z j); rw [e9]
    | _ + 3 => rfl)
  refine va_putF (D := (dC, dI)) (ci := 12) (v := rv b v) (ty := .object "StreamQueries$Strip") (C := RX11) (T := TX11) (N := 16) hx hb hts (fun w h => List.mem_cons_of_mem _ (uG_X11 w h)) tyX11 tyX11_ok nmX11 hown hK hP hD hS k hg rfl 8 (by decide) (hts _ (List.mem_cons_of_mem _ kw_436)) (fun _ h9 => h9) rfl hin rfl (by decide +kernel) (rv_nar b v _) (rv_fit b v _) (by rw [vL_len]; decide) hdg (fun H1 l1 q1 q2 q3 => ?_)
  rw [hset] at q1 q2
  exact kk H1 l1 q1 q2 q3
theorem fg_X11_37 {p : Program} {l : Launch} {e : Env} {R : Room} {s : State} {m : MethodId} {args : Array Value} {below : List Frame} {meth : Method} {c : Code} {H : Heap} {locs : List Loc} {cells slots : Nat} {Q : State → Prop} {cc : ByteArray} {pc : Nat} {ls : Array Slot} {rest : List Value} {y0 : MethodName} {c0 : ByteArray} {n0 : Nat} {r0 : Option FieldType} {dC : Nat → ClassId} {dI : Nat → Nat → Nat} {cB cI cJ cZ cS cO : ClassId} {b : Nat} {cs : CS} {i : Nat} {v : (Option Nat)} (hx : p.tables.exec = Jvm.exec) (hb : c.code = cc) (hts : ∀ w ∈ wsOf y0 c0 n0 r0, w.before args s = true) (hown : s.vm.findClass RX11 = some m.cls) (hK : va_K (dC, dI) vwCl [(cB, .byte), (cI, .int), (cJ, .long), (cZ, .boolean), (cS, .object "StreamQueries$Source"), (cO, .object "java/lang/Object")] s) (hP : va_P (dC, dI) vwCl (cW cB cI cJ cZ cS cO b cs) H) (hv : gR cs 12 393 i = some v) (hdg : decode cc pc = .ok (.getfield 37, 3)) (kk : W p l e R s m args below meth c H locs cells slots Q (F0 m (pc + 3) ls (rv b v :: rest))) : W p l e R s m args below meth c H locs cells slots Q (F0 m pc ls (.ref (b + i) :: rest)) := by
  obtain ⟨h1, h2⟩ := gR_some hv
  obtain ⟨k, -, hg⟩ := cO_at (b := b) (cB := cB) (cI := cI) (cJ := cJ) (cZ := cZ) (cS := cS) (cO := cO) (by decide) h1
  have hf : (vL b cs i (32 * 12) (tyX 12))[9]? = some (rv b v) := by
    show some (vV b cs 393 i 2) = _
    show some (rv b (kR cs 393 i)) = _
    rw [h2]
  exact va_get (D := (dC, dI)) (ci := 12) (C := RX11) (T := TX11) (N := 16) hx hb hts (fun w h => List.mem_cons_of_mem _ (uG_X11 w h)) hown hK hP k hg rfl 9 (by decide) (hts _ (List.mem_cons_of_mem _ kw_437)) (fun _ h9 => h9) hf hdg kk
theorem fp_X11_37 {p : Program} {l : Launch} {e : Env} {R : Room} {s : State} {m : MethodId} {args : Array Value} {below : List Frame} {meth : Method} {c : Code} {H : Heap} {locs : List Loc} {cells slots : Nat} {Q : State → Prop} {cc : ByteArray} {pc : Nat} {ls : Array Slot} {rest : List Value} {y0 : MethodName} {c0 : ByteArray} {n0 : Nat} {r0 : Option FieldType} {dC : Nat → ClassId} {dI : Nat → Nat → Nat} {cB cI cJ cZ cS cO : ClassId} {b : Nat} {cs : CS} {A : Nat → Prop} {H0 : Heap} {cs1 : CS} {i : Nat} {v : (Option Nat)} (hx : p.tables.exec = Jvm.exec) (hb : c.code = cc) (hts : ∀ w ∈ wsOf y0 c0 n0 r0, w.before args s = true) (hown : s.vm.findClass RX11 = some m.cls) (hK : va_K (dC, dI) vwCl [(cB, .byte), (cI, .int), (cJ, .long), (cZ, .boolean), (cS, .object "StreamQueries$Source"), (cO, .object "java/lang/Object")] s) (hP : va_P (dC, dI) vwCl (cW cB cI cJ cZ cS cO b cs) H) (hD : va_D A (cW cB cI cJ cZ cS cO b cs)) (hS : va_S A H0 H locs) (hin : meth.name = "<init>") (hv : pR cs 12 393 i v = some cs1) (hdg : decode cc pc = .ok (.putfield 37, 3)) (kk : ∀ (H1 : Heap) (locs1 : List Loc), va_P (dC, dI) vwCl (cW cB cI cJ cZ cS cO b cs1) H1 → va_D A (cW cB cI cJ cZ cS cO b cs1) → va_S A H0 H1 locs1 → W p l e R s m args below meth c H1 locs1 cells slots Q (F0 m (pc + 3) ls rest)) : W p l e R s m args below meth c H locs cells slots Q (F0 m pc ls (rv b v :: .ref (b + i) :: rest)) := by
  obtain ⟨h1, rfl⟩ := pR_some hv
  obtain ⟨k, hk, hg⟩ := cO_at (b := b) (cB := cB) (cI := cI) (cJ := cJ) (cZ := cZ) (cS := cS) (cO := cO) (by decide) h1
  have hset := cW_putF (f := 9) (y := 2) (v := rv b v) (cs1 := sR cs 393 i v) (by decide) rfl hD hk rfl rfl rfl rfl rfl rfl (by show rv b (u2 (kR cs) 393 i v 393 i) = _; rw [u2_s]) (fun z j w hn => by
    have e9 : kR (sR cs 393 i v) z j = kR cs z j := u2_n hn
    match w with
    | 0 => rfl
    | 1 => rfl
    | 2 => show rv b (kR (sR cs 393 i v) z j) = rv b (kR cs z j); rw [e9]
    | _ + 3 => rfl)
  refine va_putF (D := (dC, dI)) (ci := 12) (v := rv b v) (ty := .object "StreamQueries$Strip") (C := RX11) (T := TX11) (N := 16) hx hb hts (fun w h => List.mem_cons_of_mem _ (uG_X11 w h)) tyX11 tyX11_ok nmX11 hown hK hP hD hS k hg rfl 9 (by decide) (hts _ (List.mem_cons_of_mem _ kw_437)) (fun _ h9 => h9) rfl hin rfl (by decide +kernel) (rv_nar b v _) (rv_fit b v _) (by rw [vL_len]; decide) hdg (fun H1 l1 q1 q2 q3 => ?_)
  rw [hset] at q1 q2
  exact kk H1 l1 q1 q2 q3
theorem fg_X11_40 {p : Program} {l : Launch} {e : Env} {R : Room} {s : State} {m : MethodId} {args : Array Value} {below : List Frame} {meth : Method} {c : Code} {H : Heap} {locs : List Loc} {cells slots : Nat} {Q : State → Prop} {cc : ByteArray} {pc : Nat} {ls : Array Slot} {rest : List Value} {y0 : MethodName} {c0 : ByteArray} {n0 : Nat} {r0 : Option FieldType} {dC : Nat → ClassId} {dI : Nat → Nat → Nat} {cB cI cJ cZ cS cO : ClassId} {b : Nat} {cs : CS} {i : Nat} {v : (Option Nat)} (hx : p.tables.exec = Jvm.exec) (hb : c.code = cc) (hts : ∀ w ∈ wsOf y0 c0 n0 r0, w.before args s = true) (hown : s.vm.findClass RX11 = some m.cls) (hK : va_K (dC, dI) vwCl [(cB, .byte), (cI, .int), (cJ, .long), (cZ, .boolean), (cS, .object "StreamQueries$Source"), (cO, .object "java/lang/Object")] s) (hP : va_P (dC, dI) vwCl (cW cB cI cJ cZ cS cO b cs) H) (hv : gR cs 12 394 i = some v) (hdg : decode cc pc = .ok (.getfield 40, 3)) (kk : W p l e R s m args below meth c H locs cells slots Q (F0 m (pc + 3) ls (rv b v :: rest))) : W p l e R s m args below meth c H locs cells slots Q (F0 m pc ls (.ref (b + i) :: rest)) := by
  obtain ⟨h1, h2⟩ := gR_some hv
  obtain ⟨k, -, hg⟩ := cO_at (b := b) (cB := cB) (cI := cI) (cJ := cJ) (cZ := cZ) (cS := cS) (cO := cO) (by decide) h1
  have hf : (vL b cs i (32 * 12) (tyX 12))[10]? = some (rv b v) := by
    show some (vV b cs 394 i 2) = _
    show some (rv b (kR cs 394 i)) = _
    rw [h2]
  exact va_get (D := (dC, dI)) (ci := 12) (C := RX11) (T := TX11) (N := 16) hx hb hts (fun w h => List.mem_cons_of_mem _ (uG_X11 w h)) hown hK hP k hg rfl 10 (by decide) (hts _ (List.mem_cons_of_mem _ kw_438)) (fun _ h9 => h9) hf hdg kk
theorem fp_X11_40 {p : Program} {l : Launch} {e : Env} {R : Room} {s : State} {m : MethodId} {args : Array Value} {below : List Frame} {meth : Method} {c : Code} {H : Heap} {locs : List Loc} {cells slots : Nat} {Q : State → Prop} {cc : ByteArray} {pc : Nat} {ls : Array Slot} {rest : List Value} {y0 : MethodName} {c0 : ByteArray} {n0 : Nat} {r0 : Option FieldType} {dC : Nat → ClassId} {dI : Nat → Nat → Nat} {cB cI cJ cZ cS cO : ClassId} {b : Nat} {cs : CS} {A : Nat → Prop} {H0 : Heap} {cs1 : CS} {i : Nat} {v : (Option Nat)} (hx : p.tables.exec = Jvm.exec) (hb : c.code = cc) (hts : ∀ w ∈ wsOf y0 c0 n0 r0, w.before args s = true) (hown : s.vm.findClass RX11 = some m.cls) (hK : va_K (dC, dI) vwCl [(cB, .byte), (cI, .int), (cJ, .long), (cZ, .boolean), (cS, .object "StreamQueries$Source"), (cO, .object "java/lang/Object")] s) (hP : va_P (dC, dI) vwCl (cW cB cI cJ cZ cS cO b cs) H) (hD : va_D A (cW cB cI cJ cZ cS cO b cs)) (hS : va_S A H0 H locs) (hin : meth.name = "<init>") (hv : pR cs 12 394 i v = some cs1) (hdg : decode cc pc = .ok (.putfield 40, 3)) (kk : ∀ (H1 : Heap) (locs1 : List Loc), va_P (dC, dI) vwCl (cW cB cI cJ cZ cS cO b cs1) H1 → va_D A (cW cB cI cJ cZ cS cO b cs1) → va_S A H0 H1 locs1 → W p l e R s m args below meth c H1 locs1 cells slots Q (F0 m (pc + 3) ls rest)) : W p l e R s m args below meth c H locs cells slots Q (F0 m pc ls (rv b v :: .ref (b + i) :: rest)) := by
  obtain ⟨h1, rfl⟩ := pR_some hv
  obtain ⟨k, hk, hg⟩ := cO_at (b := b) (cB := cB) (cI := cI) (cJ := cJ) (cZ := cZ) (cS := cS) (cO := cO) (by decide) h1
  have hset := cW_putF (f := 10) (y := 2) (v := rv b v) (cs1 := sR cs 394 i v) (by decide) rfl hD hk rfl rfl rfl rfl rfl rfl (by show rv b (u2 (kR cs) 394 i v 394 i) = _; rw [u2_s]) (fun z j w hn => by
    have e9 : kR (sR cs 394 i v) z j = kR cs z j := u2_n hn
    match w with
    | 0 => rfl
    | 1 => rfl
    | 2 => show rv b (kR (sR cs 394 i v) z j) = rv b (kR cs z j); rw [e9]
    | _ + 3 => rfl)
  refine va_putF (D := (dC, dI)) (ci := 12) (v := rv b v) (ty := .object "StreamQueries$Strip") (C := RX11) (T := TX11) (N := 16) hx hb hts (fun w h => List.mem_cons_of_mem _ (uG_X11 w h)) tyX11 tyX11_ok nmX11 hown hK hP hD hS k hg rfl 10 (by decide) (hts _ (List.mem_cons_of_mem _ kw_438)) (fun _ h9 => h9) rfl hin rfl (by decide +kernel) (rv_nar b v _) (rv_fit b v _) (by rw [vL_len]; decide) hdg (fun H1 l1 q1 q2 q3 => ?_)
  rw [hset] at q1 q2
  exact kk H1 l1 q1 q2 q3
theorem fg_X11_43 {p : Program} {l : Launch} {e : Env} {R : Room} {s : State} {m : MethodId} {args : Array Value} {below : List Frame} {meth : Method} {c : Code} {H : Heap} {locs : List Loc} {cells slots : Nat} {Q : State → Prop} {cc : ByteArray} {pc : Nat} {ls : Array Slot} {rest : List Value} {y0 : MethodName} {c0 : ByteArray} {n0 : Nat} {r0 : Option FieldType} {dC : Nat → ClassId} {dI : Nat → Nat → Nat} {cB cI cJ cZ cS cO : ClassId} {b : Nat} {cs : CS} {i : Nat} {v : Nat} (hx : p.tables.exec = Jvm.exec) (hb : c.code = cc) (hts : ∀ w ∈ wsOf y0 c0 n0 r0, w.before args s = true) (hown : s.vm.findClass RX11 = some m.cls) (hK : va_K (dC, dI) vwCl [(cB, .byte), (cI, .int), (cJ, .long), (cZ, .boolean), (cS, .object "StreamQueries$Source"), (cO, .object "java/lang/Object")] s) (hP : va_P (dC, dI) vwCl (cW cB cI cJ cZ cS cO b cs) H) (hv : gA cs 12 396 i = some v) (hdg : decode cc pc = .ok (.getfield 43, 3)) (kk : W p l e R s m args below meth c H locs cells slots Q (F0 m (pc + 3) ls (.ref (b + v) :: rest))) : W p l e R s m args below meth c H locs cells slots Q (F0 m pc ls (.ref (b + i) :: rest)) := by
  obtain ⟨h1, h2⟩ := gA_some hv
  obtain ⟨k, -, hg⟩ := cO_at (b := b) (cB := cB) (cI := cI) (cJ := cJ) (cZ := cZ) (cS := cS) (cO := cO) (by decide) h1
  have hf : (vL b cs i (32 * 12) (tyX 12))[12]? = some (.ref (b + v)) := by
    show some (vV b cs 396 i 3) = _
    show some (rv b (kP cs 396 i)) = _
    rw [h2]; rfl
  exact va_get (D := (dC, dI)) (ci := 12) (C := RX11) (T := TX11) (N := 16) hx hb hts (fun w h => List.mem_cons_of_mem _ (uG_X11 w h)) hown hK hP k hg rfl 12 (by decide) (hts _ (List.mem_cons_of_mem _ kw_440)) (fun _ h9 => h9) hf hdg kk
theorem fg_X11_47 {p : Program} {l : Launch} {e : Env} {R : Room} {s : State} {m : MethodId} {args : Array Value} {below : List Frame} {meth : Method} {c : Code} {H : Heap} {locs : List Loc} {cells slots : Nat} {Q : State → Prop} {cc : ByteArray} {pc : Nat} {ls : Array Slot} {rest : List Value} {y0 : MethodName} {c0 : ByteArray} {n0 : Nat} {r0 : Option FieldType} {dC : Nat → ClassId} {dI : Nat → Nat → Nat} {cB cI cJ cZ cS cO : ClassId} {b : Nat} {cs : CS} {i : Nat} {v : Nat} (hx : p.tables.exec = Jvm.exec) (hb : c.code = cc) (hts : ∀ w ∈ wsOf y0 c0 n0 r0, w.before args s = true) (hown : s.vm.findClass RX11 = some m.cls) (hK : va_K (dC, dI) vwCl [(cB, .byte), (cI, .int), (cJ, .long), (cZ, .boolean), (cS, .object "StreamQueries$Source"), (cO, .object "java/lang/Object")] s) (hP : va_P (dC, dI) vwCl (cW cB cI cJ cZ cS cO b cs) H) (hv : gA cs 12 397 i = some v) (hdg : decode cc pc = .ok (.getfield 47, 3)) (kk : W p l e R s m args below meth c H locs cells slots Q (F0 m (pc + 3) ls (.ref (b + v) :: rest))) : W p l e R s m args below meth c H locs cells slots Q (F0 m pc ls (.ref (b + i) :: rest)) := by
  obtain ⟨h1, h2⟩ := gA_some hv
  obtain ⟨k, -, hg⟩ := cO_at (b := b) (cB := cB) (cI := cI) (cJ := cJ) (cZ := cZ) (cS := cS) (cO := cO) (by decide) h1
  have hf : (vL b cs i (32 * 12) (tyX 12))[13]? = some (.ref (b + v)) := by
    show some (vV b cs 397 i 3) = _
    show some (rv b (kP cs 397 i)) = _
    rw [h2]; rfl
  exact va_get (D := (dC, dI)) (ci := 12) (C := RX11) (T := TX11) (N := 16) hx hb hts (fun w h => List.mem_cons_of_mem _ (uG_X11 w h)) hown hK hP k hg rfl 13 (by decide) (hts _ (List.mem_cons_of_mem _ kw_441)) (fun _ h9 => h9) hf hdg kk
theorem fg_X11_55 {p : Program} {l : Launch} {e : Env} {R : Room} {s : State} {m : MethodId} {args : Array Value} {below : List Frame} {meth : Method} {c : Code} {H : Heap} {locs : List Loc} {cells slots : Nat} {Q : State → Prop} {cc : ByteArray} {pc : Nat} {ls : Array Slot} {rest : List Value} {y0 : MethodName} {c0 : ByteArray} {n0 : Nat} {r0 : Option FieldType} {dC : Nat → ClassId} {dI : Nat → Nat → Nat} {cB cI cJ cZ cS cO : ClassId} {b : Nat} {cs : CS} {i : Nat} {v : (Option Nat)} (hx : p.tables.exec = Jvm.exec) (hb : c.code = cc) (hts : ∀ w ∈ wsOf y0 c0 n0 r0, w.before args s = true) (hown : s.vm.findClass RX11 = some m.cls) (hK : va_K (dC, dI) vwCl [(cB, .byte), (cI, .int), (cJ, .long), (cZ, .boolean), (cS, .object "StreamQueries$Source"), (cO, .object "java/lang/Object")] s) (hP : va_P (dC, dI) vwCl (cW cB cI cJ cZ cS cO b cs) H) (hv : gR cs 12 399 i = some v) (hdg : decode cc pc = .ok (.getfield 55, 3)) (kk : W p l e R s m args below meth c H locs cells slots Q (F0 m (pc + 3) ls (rv b v :: rest))) : W p l e R s m args below meth c H locs cells slots Q (F0 m pc ls (.ref (b + i) :: rest)) := by
  obtain ⟨h1, h2⟩ := gR_some hv
  obtain ⟨k, -, hg⟩ := cO_at (b := b) (cB := cB) (cI := cI) (cJ := cJ) (cZ := cZ) (cS := cS) (cO := cO) (by decide) h1
  have hf : (vL b cs i (32 * 12) (tyX 12))[15]? = some (rv b v) := by
    show some (vV b cs 399 i 2) = _
    show some (rv b (kR cs 399 i)) = _
    rw [h2]
  exact va_get (D := (dC, dI)) (ci := 12) (C := RX11) (T := TX11) (N := 16) hx hb hts (fun w h => List.mem_cons_of_mem _ (uG_X11 w h)) hown hK hP k hg rfl 15 (by decide) (hts _ (List.mem_cons_of_mem _ kw_443)) (fun _ h9 => h9) hf hdg kk
theorem fp_X11_55 {p : Program} {l : Launch} {e : Env} {R : Room} {s : State} {m : MethodId} {args : Array Value} {below : List Frame} {meth : Method} {c : Code} {H : Heap} {locs : List Loc} {cells slots : Nat} {Q : State → Prop} {cc : ByteArray} {pc : Nat} {ls : Array Slot} {rest : List Value} {y0 : MethodName} {c0 : ByteArray} {n0 : Nat} {r0 : Option FieldType} {dC : Nat → ClassId} {dI : Nat → Nat → Nat} {cB cI cJ cZ cS cO : ClassId} {b : Nat} {cs : CS} {A : Nat → Prop} {H0 : Heap} {cs1 : CS} {i : Nat} {v : (Option Nat)} (hx : p.tables.exec = Jvm.exec) (hb : c.code = cc) (hts : ∀ w ∈ wsOf y0 c0 n0 r0, w.before args s = true) (hown : s.vm.findClass RX11 = some m.cls) (hK : va_K (dC, dI) vwCl [(cB, .byte), (cI, .int), (cJ, .long), (cZ, .boolean), (cS, .object "StreamQueries$Source"), (cO, .object "java/lang/Object")] s) (hP : va_P (dC, dI) vwCl (cW cB cI cJ cZ cS cO b cs) H) (hD : va_D A (cW cB cI cJ cZ cS cO b cs)) (hS : va_S A H0 H locs) (hin : meth.name = "<init>") (hv : pR cs 12 399 i v = some cs1) (hdg : decode cc pc = .ok (.putfield 55, 3)) (kk : ∀ (H1 : Heap) (locs1 : List Loc), va_P (dC, dI) vwCl (cW cB cI cJ cZ cS cO b cs1) H1 → va_D A (cW cB cI cJ cZ cS cO b cs1) → va_S A H0 H1 locs1 → W p l e R s m args below meth c H1 locs1 cells slots Q (F0 m (pc + 3) ls rest)) : W p l e R s m args below meth c H locs cells slots Q (F0 m pc ls (rv b v :: .ref (b + i) :: rest)) := by
  obtain ⟨h1, rfl⟩ := pR_some hv
  obtain ⟨k, hk, hg⟩ := cO_at (b := b) (cB := cB) (cI := cI) (cJ := cJ) (cZ := cZ) (cS := cS) (cO := cO) (by decide) h1
  have hset := cW_putF (f := 15) (y := 2) (v := rv b v) (cs1 := sR cs 399 i v) (by decide) rfl hD hk rfl rfl rfl rfl rfl rfl (by show rv b (u2 (kR cs) 399 i v 399 i) = _; rw [u2_s]) (fun z j w hn => by
    have e9 : kR (sR cs 399 i v) z j = kR cs z j := u2_n hn
    match w with
    | 0 => rfl
    | 1 => rfl
    | 2 => show rv b (kR (sR cs 399 i v) z j) = rv b (kR cs z j); rw [e9]
    | _ + 3 => rfl)
  refine va_putF (D := (dC, dI)) (ci := 12) (v := rv b v) (ty := .object "StreamQueries$Code") (C := RX11) (T := TX11) (N := 16) hx hb hts (fun w h => List.mem_cons_of_mem _ (uG_X11 w h)) tyX11 tyX11_ok nmX11 hown hK hP hD hS k hg rfl 15 (by decide) (hts _ (List.mem_cons_of_mem _ kw_443)) (fun _ h9 => h9) rfl hin rfl (by decide +kernel) (rv_nar b v _) (rv_fit b v _) (by rw [vL_len]; decide) hdg (fun H1 l1 q1 q2 q3 => ?_)
  rw [hset] at q1 q2
  exact kk H1 l1 q1 q2 q3
theorem fg_X11_59 {p : Program} {l : Launch} {e : Env} {R : Room} {s : State} {m : MethodId} {args : Array Value} {below : List Frame} {meth : Method} {c : Code} {H : Heap} {locs : List Loc} {cells slots : Nat} {Q : State → Prop} {cc : ByteArray} {pc : Nat} {ls : Array Slot} {rest : List Value} {y0 : MethodName} {c0 : ByteArray} {n0 : Nat} {r0 : Option FieldType} {dC : Nat → ClassId} {dI : Nat → Nat → Nat} {cB cI cJ cZ cS cO : ClassId} {b : Nat} {cs : CS} {i : Nat} {v : Int32} (hx : p.tables.exec = Jvm.exec) (hb : c.code = cc) (hts : ∀ w ∈ wsOf y0 c0 n0 r0, w.before args s = true) (hown : s.vm.findClass RX11 = some m.cls) (hK : va_K (dC, dI) vwCl [(cB, .byte), (cI, .int), (cJ, .long), (cZ, .boolean), (cS, .object "StreamQueries$Source"), (cO, .object "java/lang/Object")] s) (hP : va_P (dC, dI) vwCl (cW cB cI cJ cZ cS cO b cs) H) (hv : gI cs 12 385 i = some v) (hdg : decode cc pc = .ok (.getfield 59, 3)) (kk : W p l e R s m args below meth c H locs cells slots Q (F0 m (pc + 3) ls (.int v :: rest))) : W p l e R s m args below meth c H locs cells slots Q (F0 m pc ls (.ref (b + i) :: rest)) := by
  obtain ⟨h1, h2⟩ := gI_some hv
  obtain ⟨k, -, hg⟩ := cO_at (b := b) (cB := cB) (cI := cI) (cJ := cJ) (cZ := cZ) (cS := cS) (cO := cO) (by decide) h1
  have hf : (vL b cs i (32 * 12) (tyX 12))[1]? = some (.int v) := by
    show some (vV b cs 385 i 0) = _
    show some (Value.int (kI cs 385 i)) = _
    rw [h2]
  exact va_get (D := (dC, dI)) (ci := 12) (C := RX11) (T := TX11) (N := 16) hx hb hts (fun w h => List.mem_cons_of_mem _ (uG_X11 w h)) hown hK hP k hg rfl 1 (by decide) (hts _ (List.mem_cons_of_mem _ kw_429)) (fun _ h9 => h9) hf hdg kk
theorem fp_X11_59 {p : Program} {l : Launch} {e : Env} {R : Room} {s : State} {m : MethodId} {args : Array Value} {below : List Frame} {meth : Method} {c : Code} {H : Heap} {locs : List Loc} {cells slots : Nat} {Q : State → Prop} {cc : ByteArray} {pc : Nat} {ls : Array Slot} {rest : List Value} {y0 : MethodName} {c0 : ByteArray} {n0 : Nat} {r0 : Option FieldType} {dC : Nat → ClassId} {dI : Nat → Nat → Nat} {cB cI cJ cZ cS cO : ClassId} {b : Nat} {cs : CS} {A : Nat → Prop} {H0 : Heap} {cs1 : CS} {i : Nat} {v : Int32} (hx : p.tables.exec = Jvm.exec) (hb : c.code = cc) (hts : ∀ w ∈ wsOf y0 c0 n0 r0, w.before args s = true) (hown : s.vm.findClass RX11 = some m.cls) (hK : va_K (dC, dI) vwCl [(cB, .byte), (cI, .int), (cJ, .long), (cZ, .boolean), (cS, .object "StreamQueries$Source"), (cO, .object "java/lang/Object")] s) (hP : va_P (dC, dI) vwCl (cW cB cI cJ cZ cS cO b cs) H) (hD : va_D A (cW cB cI cJ cZ cS cO b cs)) (hS : va_S A H0 H locs) (hv : pI cs 12 385 i v = some cs1) (hdg : decode cc pc = .ok (.putfield 59, 3)) (kk : ∀ (H1 : Heap) (locs1 : List Loc), va_P (dC, dI) vwCl (cW cB cI cJ cZ cS cO b cs1) H1 → va_D A (cW cB cI cJ cZ cS cO b cs1) → va_S A H0 H1 locs1 → W p l e R s m args below meth c H1 locs1 cells slots Q (F0 m (pc + 3) ls rest)) : W p l e R s m args below meth c H locs cells slots Q (F0 m pc ls (.int v :: .ref (b + i) :: rest)) := by
  obtain ⟨h1, rfl⟩ := pI_some hv
  obtain ⟨k, hk, hg⟩ := cO_at (b := b) (cB := cB) (cI := cI) (cJ := cJ) (cZ := cZ) (cS := cS) (cO := cO) (by decide) h1
  have hset := cW_putF (f := 1) (y := 0) (v := .int v) (cs1 := sI cs 385 i v) (by decide) rfl hD hk rfl rfl rfl rfl rfl rfl (by show Value.int (u2 (kI cs) 385 i v 385 i) = _; rw [u2_s]) (fun z j w hn => by
    have e9 : kI (sI cs 385 i v) z j = kI cs z j := u2_n hn
    match w with
    | 0 => show Value.int (kI (sI cs 385 i v) z j) = Value.int (kI cs z j); rw [e9]
    | 1 => rfl
    | 2 => rfl
    | _ + 3 => rfl)
  refine va_put (D := (dC, dI)) (ci := 12) (v := .int v) (ty := .int) (C := RX11) (T := TX11) (N := 16) hx hb hts (fun w h => List.mem_cons_of_mem _ (uG_X11 w h)) tyX11 tyX11_ok nmX11 hown hK hP hD hS k hg rfl 1 (by decide) (hts _ (List.mem_cons_of_mem _ kw_429)) (fun _ h9 => h9) rfl (by decide +kernel) rfl rfl (by rw [vL_len]; decide) hdg (fun H1 l1 q1 q2 q3 => ?_)
  rw [hset] at q1 q2
  exact kk H1 l1 q1 q2 q3
theorem fg_X11_82 {p : Program} {l : Launch} {e : Env} {R : Room} {s : State} {m : MethodId} {args : Array Value} {below : List Frame} {meth : Method} {c : Code} {H : Heap} {locs : List Loc} {cells slots : Nat} {Q : State → Prop} {cc : ByteArray} {pc : Nat} {ls : Array Slot} {rest : List Value} {y0 : MethodName} {c0 : ByteArray} {n0 : Nat} {r0 : Option FieldType} {dC : Nat → ClassId} {dI : Nat → Nat → Nat} {cB cI cJ cZ cS cO : ClassId} {b : Nat} {cs : CS} {i : Nat} {v : Int32} (hx : p.tables.exec = Jvm.exec) (hb : c.code = cc) (hts : ∀ w ∈ wsOf y0 c0 n0 r0, w.before args s = true) (hown : s.vm.findClass RX11 = some m.cls) (hK : va_K (dC, dI) vwCl [(cB, .byte), (cI, .int), (cJ, .long), (cZ, .boolean), (cS, .object "StreamQueries$Source"), (cO, .object "java/lang/Object")] s) (hP : va_P (dC, dI) vwCl (cW cB cI cJ cZ cS cO b cs) H) (hv : gI cs 10 320 i = some v) (hdg : decode cc pc = .ok (.getfield 82, 3)) (kk : W p l e R s m args below meth c H locs cells slots Q (F0 m (pc + 3) ls (.int v :: rest))) : W p l e R s m args below meth c H locs cells slots Q (F0 m pc ls (.ref (b + i) :: rest)) := by
  obtain ⟨h1, h2⟩ := gI_some hv
  obtain ⟨k, -, hg⟩ := cO_at (b := b) (cB := cB) (cI := cI) (cJ := cJ) (cZ := cZ) (cS := cS) (cO := cO) (by decide) h1
  have hf : (vL b cs i (32 * 10) (tyX 10))[0]? = some (.int v) := by
    show some (vV b cs 320 i 0) = _
    show some (Value.int (kI cs 320 i)) = _
    rw [h2]
  exact va_get (D := (dC, dI)) (ci := 10) (C := RX9) (T := TX9) (N := 12) hx hb hts (fun w h => List.mem_cons_of_mem _ (uG_X9 w h)) hown hK hP k hg rfl 0 (by decide) (hts _ (List.mem_cons_of_mem _ kw_856)) (fun _ h9 => h9) hf hdg kk
theorem fp_X11_82 {p : Program} {l : Launch} {e : Env} {R : Room} {s : State} {m : MethodId} {args : Array Value} {below : List Frame} {meth : Method} {c : Code} {H : Heap} {locs : List Loc} {cells slots : Nat} {Q : State → Prop} {cc : ByteArray} {pc : Nat} {ls : Array Slot} {rest : List Value} {y0 : MethodName} {c0 : ByteArray} {n0 : Nat} {r0 : Option FieldType} {dC : Nat → ClassId} {dI : Nat → Nat → Nat} {cB cI cJ cZ cS cO : ClassId} {b : Nat} {cs : CS} {A : Nat → Prop} {H0 : Heap} {cs1 : CS} {i : Nat} {v : Int32} (hx : p.tables.exec = Jvm.exec) (hb : c.code = cc) (hts : ∀ w ∈ wsOf y0 c0 n0 r0, w.before args s = true) (hown : s.vm.findClass RX11 = some m.cls) (hK : va_K (dC, dI) vwCl [(cB, .byte), (cI, .int), (cJ, .long), (cZ, .boolean), (cS, .object "StreamQueries$Source"), (cO, .object "java/lang/Object")] s) (hP : va_P (dC, dI) vwCl (cW cB cI cJ cZ cS cO b cs) H) (hD : va_D A (cW cB cI cJ cZ cS cO b cs)) (hS : va_S A H0 H locs) (hv : pI cs 10 320 i v = some cs1) (hdg : decode cc pc = .ok (.putfield 82, 3)) (kk : ∀ (H1 : Heap) (locs1 : List Loc), va_P (dC, dI) vwCl (cW cB cI cJ cZ cS cO b cs1) H1 → va_D A (cW cB cI cJ cZ cS cO b cs1) → va_S A H0 H1 locs1 → W p l e R s m args below meth c H1 locs1 cells slots Q (F0 m (pc + 3) ls rest)) : W p l e R s m args below meth c H locs cells slots Q (F0 m pc ls (.int v :: .ref (b + i) :: rest)) := by
  obtain ⟨h1, rfl⟩ := pI_some hv
  obtain ⟨k, hk, hg⟩ := cO_at (b := b) (cB := cB) (cI := cI) (cJ := cJ) (cZ := cZ) (cS := cS) (cO := cO) (by decide) h1
  have hset := cW_putF (f := 0) (y := 0) (v := .int v) (cs1 := sI cs 320 i v) (by decide) rfl hD hk rfl rfl rfl rfl rfl rfl (by show Value.int (u2 (kI cs) 320 i v 320 i) = _; rw [u2_s]) (fun z j w hn => by
    have e9 : kI (sI cs 320 i v) z j = kI cs z j := u2_n hn
    match w with
    | 0 => show Value.int (kI (sI cs 320 i v) z j) = Value.int (kI cs z j); rw [e9]
    | 1 => rfl
    | 2 => rfl
    | _ + 3 => rfl)
  refine va_put (D := (dC, dI)) (ci := 10) (v := .int v) (ty := .int) (C := RX9) (T := TX9) (N := 12) hx hb hts (fun w h => List.mem_cons_of_mem _ (uG_X9 w h)) tyX9 tyX9_ok nmX9 hown hK hP hD hS k hg rfl 0 (by decide) (hts _ (List.mem_cons_of_mem _ kw_856)) (fun _ h9 => h9) rfl (by decide +kernel) rfl rfl (by rw [vL_len]; decide) hdg (fun H1 l1 q1 q2 q3 => ?_)
  rw [hset] at q1 q2
  exact kk H1 l1 q1 q2 q3
theorem fg_X11_90 {p : Program} {l : Launch} {e : Env} {R : Room} {s : State} {m : MethodId} {args : Array Value} {below : List Frame} {meth : Method} {c : Code} {H : Heap} {locs : List Loc} {cells slots : Nat} {Q : State → Prop} {cc : ByteArray} {pc : Nat} {ls : Array Slot} {rest : List Value} {y0 : MethodName} {c0 : ByteArray} {n0 : Nat} {r0 : Option FieldType} {dC : Nat → ClassId} {dI : Nat → Nat → Nat} {cB cI cJ cZ cS cO : ClassId} {b : Nat} {cs : CS} {i : Nat} {v : (Option Nat)} (hx : p.tables.exec = Jvm.exec) (hb : c.code = cc) (hts : ∀ w ∈ wsOf y0 c0 n0 r0, w.before args s = true) (hown : s.vm.findClass RX11 = some m.cls) (hK : va_K (dC, dI) vwCl [(cB, .byte), (cI, .int), (cJ, .long), (cZ, .boolean), (cS, .object "StreamQueries$Source"), (cO, .object "java/lang/Object")] s) (hP : va_P (dC, dI) vwCl (cW cB cI cJ cZ cS cO b cs) H) (hv : gR cs 10 323 i = some v) (hdg : decode cc pc = .ok (.getfield 90, 3)) (kk : W p l e R s m args below meth c H locs cells slots Q (F0 m (pc + 3) ls (rv b v :: rest))) : W p l e R s m args below meth c H locs cells slots Q (F0 m pc ls (.ref (b + i) :: rest)) := by
  obtain ⟨h1, h2⟩ := gR_some hv
  obtain ⟨k, -, hg⟩ := cO_at (b := b) (cB := cB) (cI := cI) (cJ := cJ) (cZ := cZ) (cS := cS) (cO := cO) (by decide) h1
  have hf : (vL b cs i (32 * 10) (tyX 10))[3]? = some (rv b v) := by
    show some (vV b cs 323 i 2) = _
    show some (rv b (kR cs 323 i)) = _
    rw [h2]
  exact va_get (D := (dC, dI)) (ci := 10) (C := RX9) (T := TX9) (N := 12) hx hb hts (fun w h => List.mem_cons_of_mem _ (uG_X9 w h)) hown hK hP k hg rfl 3 (by decide) (hts _ (List.mem_cons_of_mem _ kw_863)) (fun _ h9 => h9) hf hdg kk
theorem fp_X11_90 {p : Program} {l : Launch} {e : Env} {R : Room} {s : State} {m : MethodId} {args : Array Value} {below : List Frame} {meth : Method} {c : Code} {H : Heap} {locs : List Loc} {cells slots : Nat} {Q : State → Prop} {cc : ByteArray} {pc : Nat} {ls : Array Slot} {rest : List Value} {y0 : MethodName} {c0 : ByteArray} {n0 : Nat} {r0 : Option FieldType} {dC : Nat → ClassId} {dI : Nat → Nat → Nat} {cB cI cJ cZ cS cO : ClassId} {b : Nat} {cs : CS} {A : Nat → Prop} {H0 : Heap} {cs1 : CS} {i : Nat} {v : (Option Nat)} (hx : p.tables.exec = Jvm.exec) (hb : c.code = cc) (hts : ∀ w ∈ wsOf y0 c0 n0 r0, w.before args s = true) (hown : s.vm.findClass RX11 = some m.cls) (hK : va_K (dC, dI) vwCl [(cB, .byte), (cI, .int), (cJ, .long), (cZ, .boolean), (cS, .object "StreamQueries$Source"), (cO, .object "java/lang/Object")] s) (hP : va_P (dC, dI) vwCl (cW cB cI cJ cZ cS cO b cs) H) (hD : va_D A (cW cB cI cJ cZ cS cO b cs)) (hS : va_S A H0 H locs) (hv : pR cs 10 323 i v = some cs1) (hdg : decode cc pc = .ok (.putfield 90, 3)) (kk : ∀ (H1 : Heap) (locs1 : List Loc), va_P (dC, dI) vwCl (cW cB cI cJ cZ cS cO b cs1) H1 → va_D A (cW cB cI cJ cZ cS cO b cs1) → va_S A H0 H1 locs1 → W p l e R s m args below meth c H1 locs1 cells slots Q (F0 m (pc + 3) ls rest)) : W p l e R s m args below meth c H locs cells slots Q (F0 m pc ls (rv b v :: .ref (b + i) :: rest)) := by
  obtain ⟨h1, rfl⟩ := pR_some hv
  obtain ⟨k, hk, hg⟩ := cO_at (b := b) (cB := cB) (cI := cI) (cJ := cJ) (cZ := cZ) (cS := cS) (cO := cO) (by decide) h1
  have hset := cW_putF (f := 3) (y := 2) (v := rv b v) (cs1 := sR cs 323 i v) (by decide) rfl hD hk rfl rfl rfl rfl rfl rfl (by show rv b (u2 (kR cs) 323 i v 323 i) = _; rw [u2_s]) (fun z j w hn => by
    have e9 : kR (sR cs 323 i v) z j = kR cs z j := u2_n hn
    match w with
    | 0 => rfl
    | 1 => rfl
    | 2 => show rv b (kR (sR cs 323 i v) z j) = rv b (kR cs z j); rw [e9]
    | _ + 3 => rfl)
  refine va_put (D := (dC, dI)) (ci := 10) (v := rv b v) (ty := .object "StreamQueries$Query") (C := RX9) (T := TX9) (N := 12) hx hb hts (fun w h => List.mem_cons_of_mem _ (uG_X9 w h)) tyX9 tyX9_ok nmX9 hown hK hP hD hS k hg rfl 3 (by decide) (hts _ (List.mem_cons_of_mem _ kw_863)) (fun _ h9 => h9) rfl (by decide +kernel) (rv_nar b v _) (rv_fit b v _) (by rw [vL_len]; decide) hdg (fun H1 l1 q1 q2 q3 => ?_)
  rw [hset] at q1 q2
  exact kk H1 l1 q1 q2 q3
theorem fg_X11_98 {p : Program} {l : Launch} {e : Env} {R : Room} {s : State} {m : MethodId} {args : Array Value} {below : List Frame} {meth : Method} {c : Code} {H : Heap} {locs : List Loc} {cells slots : Nat} {Q : State → Prop} {cc : ByteArray} {pc : Nat} {ls : Array Slot} {rest : List Value} {y0 : MethodName} {c0 : ByteArray} {n0 : Nat} {r0 : Option FieldType} {dC : Nat → ClassId} {dI : Nat → Nat → Nat} {cB cI cJ cZ cS cO : ClassId} {b : Nat} {cs : CS} {i : Nat} {v : Int32} (hx : p.tables.exec = Jvm.exec) (hb : c.code = cc) (hts : ∀ w ∈ wsOf y0 c0 n0 r0, w.before args s = true) (hown : s.vm.findClass RX11 = some m.cls) (hK : va_K (dC, dI) vwCl [(cB, .byte), (cI, .int), (cJ, .long), (cZ, .boolean), (cS, .object "StreamQueries$Source"), (cO, .object "java/lang/Object")] s) (hP : va_P (dC, dI) vwCl (cW cB cI cJ cZ cS cO b cs) H) (hv : gI cs 12 398 i = some v) (hdg : decode cc pc = .ok (.getfield 98, 3)) (kk : W p l e R s m args below meth c H locs cells slots Q (F0 m (pc + 3) ls (.int v :: rest))) : W p l e R s m args below meth c H locs cells slots Q (F0 m pc ls (.ref (b + i) :: rest)) := by
  obtain ⟨h1, h2⟩ := gI_some hv
  obtain ⟨k, -, hg⟩ := cO_at (b := b) (cB := cB) (cI := cI) (cJ := cJ) (cZ := cZ) (cS := cS) (cO := cO) (by decide) h1
  have hf : (vL b cs i (32 * 12) (tyX 12))[14]? = some (.int v) := by
    show some (vV b cs 398 i 0) = _
    show some (Value.int (kI cs 398 i)) = _
    rw [h2]
  exact va_get (D := (dC, dI)) (ci := 12) (C := RX11) (T := TX11) (N := 16) hx hb hts (fun w h => List.mem_cons_of_mem _ (uG_X11 w h)) hown hK hP k hg rfl 14 (by decide) (hts _ (List.mem_cons_of_mem _ kw_442)) (fun _ h9 => h9) hf hdg kk
theorem fp_X11_98 {p : Program} {l : Launch} {e : Env} {R : Room} {s : State} {m : MethodId} {args : Array Value} {below : List Frame} {meth : Method} {c : Code} {H : Heap} {locs : List Loc} {cells slots : Nat} {Q : State → Prop} {cc : ByteArray} {pc : Nat} {ls : Array Slot} {rest : List Value} {y0 : MethodName} {c0 : ByteArray} {n0 : Nat} {r0 : Option FieldType} {dC : Nat → ClassId} {dI : Nat → Nat → Nat} {cB cI cJ cZ cS cO : ClassId} {b : Nat} {cs : CS} {A : Nat → Prop} {H0 : Heap} {cs1 : CS} {i : Nat} {v : Int32} (hx : p.tables.exec = Jvm.exec) (hb : c.code = cc) (hts : ∀ w ∈ wsOf y0 c0 n0 r0, w.before args s = true) (hown : s.vm.findClass RX11 = some m.cls) (hK : va_K (dC, dI) vwCl [(cB, .byte), (cI, .int), (cJ, .long), (cZ, .boolean), (cS, .object "StreamQueries$Source"), (cO, .object "java/lang/Object")] s) (hP : va_P (dC, dI) vwCl (cW cB cI cJ cZ cS cO b cs) H) (hD : va_D A (cW cB cI cJ cZ cS cO b cs)) (hS : va_S A H0 H locs) (hv : pI cs 12 398 i v = some cs1) (hdg : decode cc pc = .ok (.putfield 98, 3)) (kk : ∀ (H1 : Heap) (locs1 : List Loc), va_P (dC, dI) vwCl (cW cB cI cJ cZ cS cO b cs1) H1 → va_D A (cW cB cI cJ cZ cS cO b cs1) → va_S A H0 H1 locs1 → W p l e R s m args below meth c H1 locs1 cells slots Q (F0 m (pc + 3) ls rest)) : W p l e R s m args below meth c H locs cells slots Q (F0 m pc ls (.int v :: .ref (b + i) :: rest)) := by
  obtain ⟨h1, rfl⟩ := pI_some hv
  obtain ⟨k, hk, hg⟩ := cO_at (b := b) (cB := cB) (cI := cI) (cJ := cJ) (cZ := cZ) (cS := cS) (cO := cO) (by decide) h1
  have hset := cW_putF (f := 14) (y := 0) (v := .int v) (cs1 := sI cs 398 i v) (by decide) rfl hD hk rfl rfl rfl rfl rfl rfl (by show Value.int (u2 (kI cs) 398 i v 398 i) = _; rw [u2_s]) (fun z j w hn => by
    have e9 : kI (sI cs 398 i v) z j = kI cs z j := u2_n hn
    match w with
    | 0 => show Value.int (kI (sI cs 398 i v) z j) = Value.int (kI cs z j); rw [e9]
    | 1 => rfl
    | 2 => rfl
    | _ + 3 => rfl)
  refine va_put (D := (dC, dI)) (ci := 12) (v := .int v) (ty := .int) (C := RX11) (T := TX11) (N := 16) hx hb hts (fun w h => List.mem_cons_of_mem _ (uG_X11 w h)) tyX11 tyX11_ok nmX11 hown hK hP hD hS k hg rfl 14 (by decide) (hts _ (List.mem_cons_of_mem _ kw_442)) (fun _ h9 => h9) rfl (by decide +kernel) rfl rfl (by rw [vL_len]; decide) hdg (fun H1 l1 q1 q2 q3 => ?_)
  rw [hset] at q1 q2
  exact kk H1 l1 q1 q2 q3
theorem fg_X11_101 {p : Program} {l : Launch} {e : Env} {R : Room} {s : State} {m : MethodId} {args : Array Value} {below : List Frame} {meth : Method} {c : Code} {H : Heap} {locs : List Loc} {cells slots : Nat} {Q : State → Prop} {cc : ByteArray} {pc : Nat} {ls : Array Slot} {rest : List Value} {y0 : MethodName} {c0 : ByteArray} {n0 : Nat} {r0 : Option FieldType} {dC : Nat → ClassId} {dI : Nat → Nat → Nat} {cB cI cJ cZ cS cO : ClassId} {b : Nat} {cs : CS} {i : Nat} {v : Int32} (hx : p.tables.exec = Jvm.exec) (hb : c.code = cc) (hts : ∀ w ∈ wsOf y0 c0 n0 r0, w.before args s = true) (hown : s.vm.findClass RX11 = some m.cls) (hK : va_K (dC, dI) vwCl [(cB, .byte), (cI, .int), (cJ, .long), (cZ, .boolean), (cS, .object "StreamQueries$Source"), (cO, .object "java/lang/Object")] s) (hP : va_P (dC, dI) vwCl (cW cB cI cJ cZ cS cO b cs) H) (hv : gI cs 12 388 i = some v) (hdg : decode cc pc = .ok (.getfield 101, 3)) (kk : W p l e R s m args below meth c H locs cells slots Q (F0 m (pc + 3) ls (.int v :: rest))) : W p l e R s m args below meth c H locs cells slots Q (F0 m pc ls (.ref (b + i) :: rest)) := by
  obtain ⟨h1, h2⟩ := gI_some hv
  obtain ⟨k, -, hg⟩ := cO_at (b := b) (cB := cB) (cI := cI) (cJ := cJ) (cZ := cZ) (cS := cS) (cO := cO) (by decide) h1
  have hf : (vL b cs i (32 * 12) (tyX 12))[4]? = some (.int v) := by
    show some (vV b cs 388 i 0) = _
    show some (Value.int (kI cs 388 i)) = _
    rw [h2]
  exact va_get (D := (dC, dI)) (ci := 12) (C := RX11) (T := TX11) (N := 16) hx hb hts (fun w h => List.mem_cons_of_mem _ (uG_X11 w h)) hown hK hP k hg rfl 4 (by decide) (hts _ (List.mem_cons_of_mem _ kw_432)) (fun _ h9 => h9) hf hdg kk
theorem fp_X11_101 {p : Program} {l : Launch} {e : Env} {R : Room} {s : State} {m : MethodId} {args : Array Value} {below : List Frame} {meth : Method} {c : Code} {H : Heap} {locs : List Loc} {cells slots : Nat} {Q : State → Prop} {cc : ByteArray} {pc : Nat} {ls : Array Slot} {rest : List Value} {y0 : MethodName} {c0 : ByteArray} {n0 : Nat} {r0 : Option FieldType} {dC : Nat → ClassId} {dI : Nat → Nat → Nat} {cB cI cJ cZ cS cO : ClassId} {b : Nat} {cs : CS} {A : Nat → Prop} {H0 : Heap} {cs1 : CS} {i : Nat} {v : Int32} (hx : p.tables.exec = Jvm.exec) (hb : c.code = cc) (hts : ∀ w ∈ wsOf y0 c0 n0 r0, w.before args s = true) (hown : s.vm.findClass RX11 = some m.cls) (hK : va_K (dC, dI) vwCl [(cB, .byte), (cI, .int), (cJ, .long), (cZ, .boolean), (cS, .object "StreamQueries$Source"), (cO, .object "java/lang/Object")] s) (hP : va_P (dC, dI) vwCl (cW cB cI cJ cZ cS cO b cs) H) (hD : va_D A (cW cB cI cJ cZ cS cO b cs)) (hS : va_S A H0 H locs) (hv : pI cs 12 388 i v = some cs1) (hdg : decode cc pc = .ok (.putfield 101, 3)) (kk : ∀ (H1 : Heap) (locs1 : List Loc), va_P (dC, dI) vwCl (cW cB cI cJ cZ cS cO b cs1) H1 → va_D A (cW cB cI cJ cZ cS cO b cs1) → va_S A H0 H1 locs1 → W p l e R s m args below meth c H1 locs1 cells slots Q (F0 m (pc + 3) ls rest)) : W p l e R s m args below meth c H locs cells slots Q (F0 m pc ls (.int v :: .ref (b + i) :: rest)) := by
  obtain ⟨h1, rfl⟩ := pI_some hv
  obtain ⟨k, hk, hg⟩ := cO_at (b := b) (cB := cB) (cI := cI) (cJ := cJ) (cZ := cZ) (cS := cS) (cO := cO) (by decide) h1
  have hset := cW_putF (f := 4) (y := 0) (v := .int v) (cs1 := sI cs 388 i v) (by decide) rfl hD hk rfl rfl rfl rfl rfl rfl (by show Value.int (u2 (kI cs) 388 i v 388 i) = _; rw [u2_s]) (fun z j w hn => by
    have e9 : kI (sI cs 388 i v) z j = kI cs z j := u2_n hn
    match w with
    | 0 => show Value.int (kI (sI cs 388 i v) z j) = Value.int (kI cs z j); rw [e9]
    | 1 => rfl
    | 2 => rfl
    | _ + 3 => rfl)
  refine va_put (D := (dC, dI)) (ci := 12) (v := .int v) (ty := .int) (C := RX11) (T := TX11) (N := 16) hx hb hts (fun w h => List.mem_cons_of_mem _ (uG_X11 w h)) tyX11 tyX11_ok nmX11 hown hK hP hD hS k hg rfl 4 (by decide) (hts _ (List.mem_cons_of_mem _ kw_432)) (fun _ h9 => h9) rfl (by decide +kernel) rfl rfl (by rw [vL_len]; decide) hdg (fun H1 l1 q1 q2 q3 => ?_)
  rw [hset] at q1 q2
  exact kk H1 l1 q1 q2 q3
theorem fg_X11_104 {p : Program} {l : Launch} {e : Env} {R : Room} {s : State} {m : MethodId} {args : Array Value} {below : List Frame} {meth : Method} {c : Code} {H : Heap} {locs : List Loc} {cells slots : Nat} {Q : State → Prop} {cc : ByteArray} {pc : Nat} {ls : Array Slot} {rest : List Value} {y0 : MethodName} {c0 : ByteArray} {n0 : Nat} {r0 : Option FieldType} {dC : Nat → ClassId} {dI : Nat → Nat → Nat} {cB cI cJ cZ cS cO : ClassId} {b : Nat} {cs : CS} {i : Nat} {v : Int32} (hx : p.tables.exec = Jvm.exec) (hb : c.code = cc) (hts : ∀ w ∈ wsOf y0 c0 n0 r0, w.before args s = true) (hown : s.vm.findClass RX11 = some m.cls) (hK : va_K (dC, dI) vwCl [(cB, .byte), (cI, .int), (cJ, .long), (cZ, .boolean), (cS, .object "StreamQueries$Source"), (cO, .object "java/lang/Object")] s) (hP : va_P (dC, dI) vwCl (cW cB cI cJ cZ cS cO b cs) H) (hv : gI cs 10 321 i = some v) (hdg : decode cc pc = .ok (.getfield 104, 3)) (kk : W p l e R s m args below meth c H locs cells slots Q (F0 m (pc + 3) ls (.int v :: rest))) : W p l e R s m args below meth c H locs cells slots Q (F0 m pc ls (.ref (b + i) :: rest)) := by
  obtain ⟨h1, h2⟩ := gI_some hv
  obtain ⟨k, -, hg⟩ := cO_at (b := b) (cB := cB) (cI := cI) (cJ := cJ) (cZ := cZ) (cS := cS) (cO := cO) (by decide) h1
  have hf : (vL b cs i (32 * 10) (tyX 10))[1]? = some (.int v) := by
    show some (vV b cs 321 i 0) = _
    show some (Value.int (kI cs 321 i)) = _
    rw [h2]
  exact va_get (D := (dC, dI)) (ci := 10) (C := RX9) (T := TX9) (N := 12) hx hb hts (fun w h => List.mem_cons_of_mem _ (uG_X9 w h)) hown hK hP k hg rfl 1 (by decide) (hts _ (List.mem_cons_of_mem _ kw_858)) (fun _ h9 => h9) hf hdg kk
theorem fp_X11_104 {p : Program} {l : Launch} {e : Env} {R : Room} {s : State} {m : MethodId} {args : Array Value} {below : List Frame} {meth : Method} {c : Code} {H : Heap} {locs : List Loc} {cells slots : Nat} {Q : State → Prop} {cc : ByteArray} {pc : Nat} {ls : Array Slot} {rest : List Value} {y0 : MethodName} {c0 : ByteArray} {n0 : Nat} {r0 : Option FieldType} {dC : Nat → ClassId} {dI : Nat → Nat → Nat} {cB cI cJ cZ cS cO : ClassId} {b : Nat} {cs : CS} {A : Nat → Prop} {H0 : Heap} {cs1 : CS} {i : Nat} {v : Int32} (hx : p.tables.exec = Jvm.exec) (hb : c.code = cc) (hts : ∀ w ∈ wsOf y0 c0 n0 r0, w.before args s = true) (hown : s.vm.findClass RX11 = some m.cls) (hK : va_K (dC, dI) vwCl [(cB, .byte), (cI, .int), (cJ, .long), (cZ, .boolean), (cS, .object "StreamQueries$Source"), (cO, .object "java/lang/Object")] s) (hP : va_P (dC, dI) vwCl (cW cB cI cJ cZ cS cO b cs) H) (hD : va_D A (cW cB cI cJ cZ cS cO b cs)) (hS : va_S A H0 H locs) (hv : pI cs 10 321 i v = some cs1) (hdg : decode cc pc = .ok (.putfield 104, 3)) (kk : ∀ (H1 : Heap) (locs1 : List Loc), va_P (dC, dI) vwCl (cW cB cI cJ cZ cS cO b cs1) H1 → va_D A (cW cB cI cJ cZ cS cO b cs1) → va_S A H0 H1 locs1 → W p l e R s m args below meth c H1 locs1 cells slots Q (F0 m (pc + 3) ls rest)) : W p l e R s m args below meth c H locs cells slots Q (F0 m pc ls (.int v :: .ref (b + i) :: rest)) := by
  obtain ⟨h1, rfl⟩ := pI_some hv
  obtain ⟨k, hk, hg⟩ := cO_at (b := b) (cB := cB) (cI := cI) (cJ := cJ) (cZ := cZ) (cS := cS) (cO := cO) (by decide) h1
  have hset := cW_putF (f := 1) (y := 0) (v := .int v) (cs1 := sI cs 321 i v) (by decide) rfl hD hk rfl rfl rfl rfl rfl rfl (by show Value.int (u2 (kI cs) 321 i v 321 i) = _; rw [u2_s]) (fun z j w hn => by
    have e9 : kI (sI cs 321 i v) z j = kI cs z j := u2_n hn
    match w with
    | 0 => show Value.int (kI (sI cs 321 i v) z j) = Value.int (kI cs z j); rw [e9]
    | 1 => rfl
    | 2 => rfl
    | _ + 3 => rfl)
  refine va_put (D := (dC, dI)) (ci := 10) (v := .int v) (ty := .int) (C := RX9) (T := TX9) (N := 12) hx hb hts (fun w h => List.mem_cons_of_mem _ (uG_X9 w h)) tyX9 tyX9_ok nmX9 hown hK hP hD hS k hg rfl 1 (by decide) (hts _ (List.mem_cons_of_mem _ kw_858)) (fun _ h9 => h9) rfl (by decide +kernel) rfl rfl (by rw [vL_len]; decide) hdg (fun H1 l1 q1 q2 q3 => ?_)
  rw [hset] at q1 q2
  exact kk H1 l1 q1 q2 q3
theorem fg_X11_107 {p : Program} {l : Launch} {e : Env} {R : Room} {s : State} {m : MethodId} {args : Array Value} {below : List Frame} {meth : Method} {c : Code} {H : Heap} {locs : List Loc} {cells slots : Nat} {Q : State → Prop} {cc : ByteArray} {pc : Nat} {ls : Array Slot} {rest : List Value} {y0 : MethodName} {c0 : ByteArray} {n0 : Nat} {r0 : Option FieldType} {dC : Nat → ClassId} {dI : Nat → Nat → Nat} {cB cI cJ cZ cS cO : ClassId} {b : Nat} {cs : CS} {i : Nat} {v : (Option Nat)} (hx : p.tables.exec = Jvm.exec) (hb : c.code = cc) (hts : ∀ w ∈ wsOf y0 c0 n0 r0, w.before args s = true) (hown : s.vm.findClass RX11 = some m.cls) (hK : va_K (dC, dI) vwCl [(cB, .byte), (cI, .int), (cJ, .long), (cZ, .boolean), (cS, .object "StreamQueries$Source"), (cO, .object "java/lang/Object")] s) (hP : va_P (dC, dI) vwCl (cW cB cI cJ cZ cS cO b cs) H) (hv : gR cs 12 389 i = some v) (hdg : decode cc pc = .ok (.getfield 107, 3)) (kk : W p l e R s m args below meth c H locs cells slots Q (F0 m (pc + 3) ls (rv b v :: rest))) : W p l e R s m args below meth c H locs cells slots Q (F0 m pc ls (.ref (b + i) :: rest)) := by
  obtain ⟨h1, h2⟩ := gR_some hv
  obtain ⟨k, -, hg⟩ := cO_at (b := b) (cB := cB) (cI := cI) (cJ := cJ) (cZ := cZ) (cS := cS) (cO := cO) (by decide) h1
  have hf : (vL b cs i (32 * 12) (tyX 12))[5]? = some (rv b v) := by
    show some (vV b cs 389 i 2) = _
    show some (rv b (kR cs 389 i)) = _
    rw [h2]
  exact va_get (D := (dC, dI)) (ci := 12) (C := RX11) (T := TX11) (N := 16) hx hb hts (fun w h => List.mem_cons_of_mem _ (uG_X11 w h)) hown hK hP k hg rfl 5 (by decide) (hts _ (List.mem_cons_of_mem _ kw_433)) (fun _ h9 => h9) hf hdg kk
theorem fp_X11_107 {p : Program} {l : Launch} {e : Env} {R : Room} {s : State} {m : MethodId} {args : Array Value} {below : List Frame} {meth : Method} {c : Code} {H : Heap} {locs : List Loc} {cells slots : Nat} {Q : State → Prop} {cc : ByteArray} {pc : Nat} {ls : Array Slot} {rest : List Value} {y0 : MethodName} {c0 : ByteArray} {n0 : Nat} {r0 : Option FieldType} {dC : Nat → ClassId} {dI : Nat → Nat → Nat} {cB cI cJ cZ cS cO : ClassId} {b : Nat} {cs : CS} {A : Nat → Prop} {H0 : Heap} {cs1 : CS} {i : Nat} {v : (Option Nat)} (hx : p.tables.exec = Jvm.exec) (hb : c.code = cc) (hts : ∀ w ∈ wsOf y0 c0 n0 r0, w.before args s = true) (hown : s.vm.findClass RX11 = some m.cls) (hK : va_K (dC, dI) vwCl [(cB, .byte), (cI, .int), (cJ, .long), (cZ, .boolean), (cS, .object "StreamQueries$Source"), (cO, .object "java/lang/Object")] s) (hP : va_P (dC, dI) vwCl (cW cB cI cJ cZ cS cO b cs) H) (hD : va_D A (cW cB cI cJ cZ cS cO b cs)) (hS : va_S A H0 H locs) (hv : pR cs 12 389 i v = some cs1) (hdg : decode cc pc = .ok (.putfield 107, 3)) (kk : ∀ (H1 : Heap) (locs1 : List Loc), va_P (dC, dI) vwCl (cW cB cI cJ cZ cS cO b cs1) H1 → va_D A (cW cB cI cJ cZ cS cO b cs1) → va_S A H0 H1 locs1 → W p l e R s m args below meth c H1 locs1 cells slots Q (F0 m (pc + 3) ls rest)) : W p l e R s m args below meth c H locs cells slots Q (F0 m pc ls (rv b v :: .ref (b + i) :: rest)) := by
  obtain ⟨h1, rfl⟩ := pR_some hv
  obtain ⟨k, hk, hg⟩ := cO_at (b := b) (cB := cB) (cI := cI) (cJ := cJ) (cZ := cZ) (cS := cS) (cO := cO) (by decide) h1
  have hset := cW_putF (f := 5) (y := 2) (v := rv b v) (cs1 := sR cs 389 i v) (by decide) rfl hD hk rfl rfl rfl rfl rfl rfl (by show rv b (u2 (kR cs) 389 i v 389 i) = _; rw [u2_s]) (fun z j w hn => by
    have e9 : kR (sR cs 389 i v) z j = kR cs z j := u2_n hn
    match w with
    | 0 => rfl
    | 1 => rfl
    | 2 => show rv b (kR (sR cs 389 i v) z j) = rv b (kR cs z j); rw [e9]
    | _ + 3 => rfl)
  refine va_put (D := (dC, dI)) (ci := 12) (v := rv b v) (ty := .object "StreamQueries$Text") (C := RX11) (T := TX11) (N := 16) hx hb hts (fun w h => List.mem_cons_of_mem _ (uG_X11 w h)) tyX11 tyX11_ok nmX11 hown hK hP hD hS k hg rfl 5 (by decide) (hts _ (List.mem_cons_of_mem _ kw_433)) (fun _ h9 => h9) rfl (by decide +kernel) (rv_nar b v _) (rv_fit b v _) (by rw [vL_len]; decide) hdg (fun H1 l1 q1 q2 q3 => ?_)
  rw [hset] at q1 q2
  exact kk H1 l1 q1 q2 q3
theorem fg_X11_113 {p : Program} {l : Launch} {e : Env} {R : Room} {s : State} {m : MethodId} {args : Array Value} {below : List Frame} {meth : Method} {c : Code} {H : Heap} {locs : List Loc} {cells slots : Nat} {Q : State → Prop} {cc : ByteArray} {pc : Nat} {ls : Array Slot} {rest : List Value} {y0 : MethodName} {c0 : ByteArray} {n0 : Nat} {r0 : Option FieldType} {dC : Nat → ClassId} {dI : Nat → Nat → Nat} {cB cI cJ cZ cS cO : ClassId} {b : Nat} {cs : CS} {i : Nat} {v : (Option Nat)} (hx : p.tables.exec = Jvm.exec) (hb : c.code = cc) (hts : ∀ w ∈ wsOf y0 c0 n0 r0, w.before args s = true) (hown : s.vm.findClass RX11 = some m.cls) (hK : va_K (dC, dI) vwCl [(cB, .byte), (cI, .int), (cJ, .long), (cZ, .boolean), (cS, .object "StreamQueries$Source"), (cO, .object "java/lang/Object")] s) (hP : va_P (dC, dI) vwCl (cW cB cI cJ cZ cS cO b cs) H) (hv : gR cs 10 322 i = some v) (hdg : decode cc pc = .ok (.getfield 113, 3)) (kk : W p l e R s m args below meth c H locs cells slots Q (F0 m (pc + 3) ls (rv b v :: rest))) : W p l e R s m args below meth c H locs cells slots Q (F0 m pc ls (.ref (b + i) :: rest)) := by
  obtain ⟨h1, h2⟩ := gR_some hv
  obtain ⟨k, -, hg⟩ := cO_at (b := b) (cB := cB) (cI := cI) (cJ := cJ) (cZ := cZ) (cS := cS) (cO := cO) (by decide) h1
  have hf : (vL b cs i (32 * 10) (tyX 10))[2]? = some (rv b v) := by
    show some (vV b cs 322 i 2) = _
    show some (rv b (kR cs 322 i)) = _
    rw [h2]
  exact va_get (D := (dC, dI)) (ci := 10) (C := RX9) (T := TX9) (N := 12) hx hb hts (fun w h => List.mem_cons_of_mem _ (uG_X9 w h)) hown hK hP k hg rfl 2 (by decide) (hts _ (List.mem_cons_of_mem _ kw_861)) (fun _ h9 => h9) hf hdg kk
theorem fg_X11_119 {p : Program} {l : Launch} {e : Env} {R : Room} {s : State} {m : MethodId} {args : Array Value} {below : List Frame} {meth : Method} {c : Code} {H : Heap} {locs : List Loc} {cells slots : Nat} {Q : State → Prop} {cc : ByteArray} {pc : Nat} {ls : Array Slot} {rest : List Value} {y0 : MethodName} {c0 : ByteArray} {n0 : Nat} {r0 : Option FieldType} {dC : Nat → ClassId} {dI : Nat → Nat → Nat} {cB cI cJ cZ cS cO : ClassId} {b : Nat} {cs : CS} {i : Nat} {v : (Option Nat)} (hx : p.tables.exec = Jvm.exec) (hb : c.code = cc) (hts : ∀ w ∈ wsOf y0 c0 n0 r0, w.before args s = true) (hown : s.vm.findClass RX11 = some m.cls) (hK : va_K (dC, dI) vwCl [(cB, .byte), (cI, .int), (cJ, .long), (cZ, .boolean), (cS, .object "StreamQueries$Source"), (cO, .object "java/lang/Object")] s) (hP : va_P (dC, dI) vwCl (cW cB cI cJ cZ cS cO b cs) H) (hv : gR cs 12 390 i = some v) (hdg : decode cc pc = .ok (.getfield 119, 3)) (kk : W p l e R s m args below meth c H locs cells slots Q (F0 m (pc + 3) ls (rv b v :: rest))) : W p l e R s m args below meth c H locs cells slots Q (F0 m pc ls (.ref (b + i) :: rest)) := by
  obtain ⟨h1, h2⟩ := gR_some hv
  obtain ⟨k, -, hg⟩ := cO_at (b := b) (cB := cB) (cI := cI) (cJ := cJ) (cZ := cZ) (cS := cS) (cO := cO) (by decide) h1
  have hf : (vL b cs i (32 * 12) (tyX 12))[6]? = some (rv b v) := by
    show some (vV b cs 390 i 2) = _
    show some (rv b (kR cs 390 i)) = _
    rw [h2]
  exact va_get (D := (dC, dI)) (ci := 12) (C := RX11) (T := TX11) (N := 16) hx hb hts (fun w h => List.mem_cons_of_mem _ (uG_X11 w h)) hown hK hP k hg rfl 6 (by decide) (hts _ (List.mem_cons_of_mem _ kw_434)) (fun _ h9 => h9) hf hdg kk
theorem fp_X11_119 {p : Program} {l : Launch} {e : Env} {R : Room} {s : State} {m : MethodId} {args : Array Value} {below : List Frame} {meth : Method} {c : Code} {H : Heap} {locs : List Loc} {cells slots : Nat} {Q : State → Prop} {cc : ByteArray} {pc : Nat} {ls : Array Slot} {rest : List Value} {y0 : MethodName} {c0 : ByteArray} {n0 : Nat} {r0 : Option FieldType} {dC : Nat → ClassId} {dI : Nat → Nat → Nat} {cB cI cJ cZ cS cO : ClassId} {b : Nat} {cs : CS} {A : Nat → Prop} {H0 : Heap} {cs1 : CS} {i : Nat} {v : (Option Nat)} (hx : p.tables.exec = Jvm.exec) (hb : c.code = cc) (hts : ∀ w ∈ wsOf y0 c0 n0 r0, w.before args s = true) (hown : s.vm.findClass RX11 = some m.cls) (hK : va_K (dC, dI) vwCl [(cB, .byte), (cI, .int), (cJ, .long), (cZ, .boolean), (cS, .object "StreamQueries$Source"), (cO, .object "java/lang/Object")] s) (hP : va_P (dC, dI) vwCl (cW cB cI cJ cZ cS cO b cs) H) (hD : va_D A (cW cB cI cJ cZ cS cO b cs)) (hS : va_S A H0 H locs) (hv : pR cs 12 390 i v = some cs1) (hdg : decode cc pc = .ok (.putfield 119, 3)) (kk : ∀ (H1 : Heap) (locs1 : List Loc), va_P (dC, dI) vwCl (cW cB cI cJ cZ cS cO b cs1) H1 → va_D A (cW cB cI cJ cZ cS cO b cs1) → va_S A H0 H1 locs1 → W p l e R s m args below meth c H1 locs1 cells slots Q (F0 m (pc + 3) ls rest)) : W p l e R s m args below meth c H locs cells slots Q (F0 m pc ls (rv b v :: .ref (b + i) :: rest)) := by
  obtain ⟨h1, rfl⟩ := pR_some hv
  obtain ⟨k, hk, hg⟩ := cO_at (b := b) (cB := cB) (cI := cI) (cJ := cJ) (cZ := cZ) (cS := cS) (cO := cO) (by decide) h1
  have hset := cW_putF (f := 6) (y := 2) (v := rv b v) (cs1 := sR cs 390 i v) (by decide) rfl hD hk rfl rfl rfl rfl rfl rfl (by show rv b (u2 (kR cs) 390 i v 390 i) = _; rw [u2_s]) (fun z j w hn => by
    have e9 : kR (sR cs 390 i v) z j = kR cs z j := u2_n hn
    match w with
    | 0 => rfl
    | 1 => rfl
    | 2 => show rv b (kR (sR cs 390 i v) z j) = rv b (kR cs z j); rw [e9]
    | _ + 3 => rfl)
  refine va_put (D := (dC, dI)) (ci := 12) (v := rv b v) (ty := .object "StreamQueries$Runner") (C := RX11) (T := TX11) (N := 16) hx hb hts (fun w h => List.mem_cons_of_mem _ (uG_X11 w h)) tyX11 tyX11_ok nmX11 hown hK hP hD hS k hg rfl 6 (by decide) (hts _ (List.mem_cons_of_mem _ kw_434)) (fun _ h9 => h9) rfl (by decide +kernel) (rv_nar b v _) (rv_fit b v _) (by rw [vL_len]; decide) hdg (fun H1 l1 q1 q2 q3 => ?_)
  rw [hset] at q1 q2
  exact kk H1 l1 q1 q2 q3
theorem fg_X11_143 {p : Program} {l : Launch} {e : Env} {R : Room} {s : State} {m : MethodId} {args : Array Value} {below : List Frame} {meth : Method} {c : Code} {H : Heap} {locs : List Loc} {cells slots : Nat} {Q : State → Prop} {cc : ByteArray} {pc : Nat} {ls : Array Slot} {rest : List Value} {y0 : MethodName} {c0 : ByteArray} {n0 : Nat} {r0 : Option FieldType} {dC : Nat → ClassId} {dI : Nat → Nat → Nat} {cB cI cJ cZ cS cO : ClassId} {b : Nat} {cs : CS} {i : Nat} {v : Int64} (hx : p.tables.exec = Jvm.exec) (hb : c.code = cc) (hts : ∀ w ∈ wsOf y0 c0 n0 r0, w.before args s = true) (hown : s.vm.findClass RX11 = some m.cls) (hK : va_K (dC, dI) vwCl [(cB, .byte), (cI, .int), (cJ, .long), (cZ, .boolean), (cS, .object "StreamQueries$Source"), (cO, .object "java/lang/Object")] s) (hP : va_P (dC, dI) vwCl (cW cB cI cJ cZ cS cO b cs) H) (hv : gJ cs 8 257 i = some v) (hdg : decode cc pc = .ok (.getfield 143, 3)) (kk : W p l e R s m args below meth c H locs cells slots Q (F0 m (pc + 3) ls (.long v :: rest))) : W p l e R s m args below meth c H locs cells slots Q (F0 m pc ls (.ref (b + i) :: rest)) := by
  obtain ⟨h1, h2⟩ := gJ_some hv
  obtain ⟨k, -, hg⟩ := cO_at (b := b) (cB := cB) (cI := cI) (cJ := cJ) (cZ := cZ) (cS := cS) (cO := cO) (by decide) h1
  have hf : (vL b cs i (32 * 8) (tyX 8))[1]? = some (.long v) := by
    show some (vV b cs 257 i 1) = _
    show some (Value.long (kJ cs 257 i)) = _
    rw [h2]
  exact va_get (D := (dC, dI)) (ci := 8) (C := RX7) (T := TX7) (N := 9) hx hb hts (fun w h => List.mem_cons_of_mem _ (uG_X7 w h)) hown hK hP k hg rfl 1 (by decide) (hts _ (List.mem_cons_of_mem _ kw_226)) (fun _ h9 => h9) hf hdg kk
theorem fp_X11_143 {p : Program} {l : Launch} {e : Env} {R : Room} {s : State} {m : MethodId} {args : Array Value} {below : List Frame} {meth : Method} {c : Code} {H : Heap} {locs : List Loc} {cells slots : Nat} {Q : State → Prop} {cc : ByteArray} {pc : Nat} {ls : Array Slot} {rest : List Value} {y0 : MethodName} {c0 : ByteArray} {n0 : Nat} {r0 : Option FieldType} {dC : Nat → ClassId} {dI : Nat → Nat → Nat} {cB cI cJ cZ cS cO : ClassId} {b : Nat} {cs : CS} {A : Nat → Prop} {H0 : Heap} {cs1 : CS} {i : Nat} {v : Int64} (hx : p.tables.exec = Jvm.exec) (hb : c.code = cc) (hts : ∀ w ∈ wsOf y0 c0 n0 r0, w.before args s = true) (hown : s.vm.findClass RX11 = some m.cls) (hK : va_K (dC, dI) vwCl [(cB, .byte), (cI, .int), (cJ, .long), (cZ, .boolean), (cS, .object "StreamQueries$Source"), (cO, .object "java/lang/Object")] s) (hP : va_P (dC, dI) vwCl (cW cB cI cJ cZ cS cO b cs) H) (hD : va_D A (cW cB cI cJ cZ cS cO b cs)) (hS : va_S A H0 H locs) (hv : pJ cs 8 257 i v = some cs1) (hdg : decode cc pc = .ok (.putfield 143, 3)) (kk : ∀ (H1 : Heap) (locs1 : List Loc), va_P (dC, dI) vwCl (cW cB cI cJ cZ cS cO b cs1) H1 → va_D A (cW cB cI cJ cZ cS cO b cs1) → va_S A H0 H1 locs1 → W p l e R s m args below meth c H1 locs1 cells slots Q (F0 m (pc + 3) ls rest)) : W p l e R s m args below meth c H locs cells slots Q (F0 m pc ls (.long v :: .ref (b + i) :: rest)) := by
  obtain ⟨h1, rfl⟩ := pJ_some hv
  obtain ⟨k, hk, hg⟩ := cO_at (b := b) (cB := cB) (cI := cI) (cJ := cJ) (cZ := cZ) (cS := cS) (cO := cO) (by decide) h1
  have hset := cW_putF (f := 1) (y := 1) (v := .long v) (cs1 := sJ cs 257 i v) (by decide) rfl hD hk rfl rfl rfl rfl rfl rfl (by show Value.long (u2 (kJ cs) 257 i v 257 i) = _; rw [u2_s]) (fun z j w hn => by
    have e9 : kJ (sJ cs 257 i v) z j = kJ cs z j := u2_n hn
    match w with
    | 0 => rfl
    | 1 => show Value.long (kJ (sJ cs 257 i v) z j) = Value.long (kJ cs z j); rw [e9]
    | 2 => rfl
    | _ + 3 => rfl)
  refine va_put (D := (dC, dI)) (ci := 8) (v := .long v) (ty := .long) (C := RX7) (T := TX7) (N := 9) hx hb hts (fun w h => List.mem_cons_of_mem _ (uG_X7 w h)) tyX7 tyX7_ok nmX7 hown hK hP hD hS k hg rfl 1 (by decide) (hts _ (List.mem_cons_of_mem _ kw_226)) (fun _ h9 => h9) rfl (by decide +kernel) rfl rfl (by rw [vL_len]; decide) hdg (fun H1 l1 q1 q2 q3 => ?_)
  rw [hset] at q1 q2
  exact kk H1 l1 q1 q2 q3
theorem fg_X11_162 {p : Program} {l : Launch} {e : Env} {R : Room} {s : State} {m : MethodId} {args : Array Value} {below : List Frame} {meth : Method} {c : Code} {H : Heap} {locs : List Loc} {cells slots : Nat} {Q : State → Prop} {cc : ByteArray} {pc : Nat} {ls : Array Slot} {rest : List Value} {y0 : MethodName} {c0 : ByteArray} {n0 : Nat} {r0 : Option FieldType} {dC : Nat → ClassId} {dI : Nat → Nat → Nat} {cB cI cJ cZ cS cO : ClassId} {b : Nat} {cs : CS} {i : Nat} {v : Int32} (hx : p.tables.exec = Jvm.exec) (hb : c.code = cc) (hts : ∀ w ∈ wsOf y0 c0 n0 r0, w.before args s = true) (hown : s.vm.findClass RX11 = some m.cls) (hK : va_K (dC, dI) vwCl [(cB, .byte), (cI, .int), (cJ, .long), (cZ, .boolean), (cS, .object "StreamQueries$Source"), (cO, .object "java/lang/Object")] s) (hP : va_P (dC, dI) vwCl (cW cB cI cJ cZ cS cO b cs) H) (hv : gI cs 12 395 i = some v) (hdg : decode cc pc = .ok (.getfield 162, 3)) (kk : W p l e R s m args below meth c H locs cells slots Q (F0 m (pc + 3) ls (.int v :: rest))) : W p l e R s m args below meth c H locs cells slots Q (F0 m pc ls (.ref (b + i) :: rest)) := by
  obtain ⟨h1, h2⟩ := gI_some hv
  obtain ⟨k, -, hg⟩ := cO_at (b := b) (cB := cB) (cI := cI) (cJ := cJ) (cZ := cZ) (cS := cS) (cO := cO) (by decide) h1
  have hf : (vL b cs i (32 * 12) (tyX 12))[11]? = some (.int v) := by
    show some (vV b cs 395 i 0) = _
    show some (Value.int (kI cs 395 i)) = _
    rw [h2]
  exact va_get (D := (dC, dI)) (ci := 12) (C := RX11) (T := TX11) (N := 16) hx hb hts (fun w h => List.mem_cons_of_mem _ (uG_X11 w h)) hown hK hP k hg rfl 11 (by decide) (hts _ (List.mem_cons_of_mem _ kw_439)) (fun _ h9 => h9) hf hdg kk
theorem fp_X11_162 {p : Program} {l : Launch} {e : Env} {R : Room} {s : State} {m : MethodId} {args : Array Value} {below : List Frame} {meth : Method} {c : Code} {H : Heap} {locs : List Loc} {cells slots : Nat} {Q : State → Prop} {cc : ByteArray} {pc : Nat} {ls : Array Slot} {rest : List Value} {y0 : MethodName} {c0 : ByteArray} {n0 : Nat} {r0 : Option FieldType} {dC : Nat → ClassId} {dI : Nat → Nat → Nat} {cB cI cJ cZ cS cO : ClassId} {b : Nat} {cs : CS} {A : Nat → Prop} {H0 : Heap} {cs1 : CS} {i : Nat} {v : Int32} (hx : p.tables.exec = Jvm.exec) (hb : c.code = cc) (hts : ∀ w ∈ wsOf y0 c0 n0 r0, w.before args s = true) (hown : s.vm.findClass RX11 = some m.cls) (hK : va_K (dC, dI) vwCl [(cB, .byte), (cI, .int), (cJ, .long), (cZ, .boolean), (cS, .object "StreamQueries$Source"), (cO, .object "java/lang/Object")] s) (hP : va_P (dC, dI) vwCl (cW cB cI cJ cZ cS cO b cs) H) (hD : va_D A (cW cB cI cJ cZ cS cO b cs)) (hS : va_S A H0 H locs) (hv : pI cs 12 395 i v = some cs1) (hdg : decode cc pc = .ok (.putfield 162, 3)) (kk : ∀ (H1 : Heap) (locs1 : List Loc), va_P (dC, dI) vwCl (cW cB cI cJ cZ cS cO b cs1) H1 → va_D A (cW cB cI cJ cZ cS cO b cs1) → va_S A H0 H1 locs1 → W p l e R s m args below meth c H1 locs1 cells slots Q (F0 m (pc + 3) ls rest)) : W p l e R s m args below meth c H locs cells slots Q (F0 m pc ls (.int v :: .ref (b + i) :: rest)) := by
  obtain ⟨h1, rfl⟩ := pI_some hv
  obtain ⟨k, hk, hg⟩ := cO_at (b := b) (cB := cB) (cI := cI) (cJ := cJ) (cZ := cZ) (cS := cS) (cO := cO) (by decide) h1
  have hset := cW_putF (f := 11) (y := 0) (v := .int v) (cs1 := sI cs 395 i v) (by decide) rfl hD hk rfl rfl rfl rfl rfl rfl (by show Value.int (u2 (kI cs) 395 i v 395 i) = _; rw [u2_s]) (fun z j w hn => by
    have e9 : kI (sI cs 395 i v) z j = kI cs z j := u2_n hn
    match w with
    | 0 => show Value.int (kI (sI cs 395 i v) z j) = Value.int (kI cs z j); rw [e9]
    | 1 => rfl
    | 2 => rfl
    | _ + 3 => rfl)
  refine va_put (D := (dC, dI)) (ci := 12) (v := .int v) (ty := .int) (C := RX11) (T := TX11) (N := 16) hx hb hts (fun w h => List.mem_cons_of_mem _ (uG_X11 w h)) tyX11 tyX11_ok nmX11 hown hK hP hD hS k hg rfl 11 (by decide) (hts _ (List.mem_cons_of_mem _ kw_439)) (fun _ h9 => h9) rfl (by decide +kernel) rfl rfl (by rw [vL_len]; decide) hdg (fun H1 l1 q1 q2 q3 => ?_)
  rw [hset] at q1 q2
  exact kk H1 l1 q1 q2 q3
theorem fg_X11_179 {p : Program} {l : Launch} {e : Env} {R : Room} {s : State} {m : MethodId} {args : Array Value} {below : List Frame} {meth : Method} {c : Code} {H : Heap} {locs : List Loc} {cells slots : Nat} {Q : State → Prop} {cc : ByteArray} {pc : Nat} {ls : Array Slot} {rest : List Value} {y0 : MethodName} {c0 : ByteArray} {n0 : Nat} {r0 : Option FieldType} {dC : Nat → ClassId} {dI : Nat → Nat → Nat} {cB cI cJ cZ cS cO : ClassId} {b : Nat} {cs : CS} {i : Nat} {v : Int32} (hx : p.tables.exec = Jvm.exec) (hb : c.code = cc) (hts : ∀ w ∈ wsOf y0 c0 n0 r0, w.before args s = true) (hown : s.vm.findClass RX11 = some m.cls) (hK : va_K (dC, dI) vwCl [(cB, .byte), (cI, .int), (cJ, .long), (cZ, .boolean), (cS, .object "StreamQueries$Source"), (cO, .object "java/lang/Object")] s) (hP : va_P (dC, dI) vwCl (cW cB cI cJ cZ cS cO b cs) H) (hv : gI cs 8 256 i = some v) (hdg : decode cc pc = .ok (.getfield 179, 3)) (kk : W p l e R s m args below meth c H locs cells slots Q (F0 m (pc + 3) ls (.int v :: rest))) : W p l e R s m args below meth c H locs cells slots Q (F0 m pc ls (.ref (b + i) :: rest)) := by
  obtain ⟨h1, h2⟩ := gI_some hv
  obtain ⟨k, -, hg⟩ := cO_at (b := b) (cB := cB) (cI := cI) (cJ := cJ) (cZ := cZ) (cS := cS) (cO := cO) (by decide) h1
  have hf : (vL b cs i (32 * 8) (tyX 8))[0]? = some (.int v) := by
    show some (vV b cs 256 i 0) = _
    show some (Value.int (kI cs 256 i)) = _
    rw [h2]
  exact va_get (D := (dC, dI)) (ci := 8) (C := RX7) (T := TX7) (N := 9) hx hb hts (fun w h => List.mem_cons_of_mem _ (uG_X7 w h)) hown hK hP k hg rfl 0 (by decide) (hts _ (List.mem_cons_of_mem _ kw_224)) (fun _ h9 => h9) hf hdg kk
theorem fp_X11_179 {p : Program} {l : Launch} {e : Env} {R : Room} {s : State} {m : MethodId} {args : Array Value} {below : List Frame} {meth : Method} {c : Code} {H : Heap} {locs : List Loc} {cells slots : Nat} {Q : State → Prop} {cc : ByteArray} {pc : Nat} {ls : Array Slot} {rest : List Value} {y0 : MethodName} {c0 : ByteArray} {n0 : Nat} {r0 : Option FieldType} {dC : Nat → ClassId} {dI : Nat → Nat → Nat} {cB cI cJ cZ cS cO : ClassId} {b : Nat} {cs : CS} {A : Nat → Prop} {H0 : Heap} {cs1 : CS} {i : Nat} {v : Int32} (hx : p.tables.exec = Jvm.exec) (hb : c.code = cc) (hts : ∀ w ∈ wsOf y0 c0 n0 r0, w.before args s = true) (hown : s.vm.findClass RX11 = some m.cls) (hK : va_K (dC, dI) vwCl [(cB, .byte), (cI, .int), (cJ, .long), (cZ, .boolean), (cS, .object "StreamQueries$Source"), (cO, .object "java/lang/Object")] s) (hP : va_P (dC, dI) vwCl (cW cB cI cJ cZ cS cO b cs) H) (hD : va_D A (cW cB cI cJ cZ cS cO b cs)) (hS : va_S A H0 H locs) (hv : pI cs 8 256 i v = some cs1) (hdg : decode cc pc = .ok (.putfield 179, 3)) (kk : ∀ (H1 : Heap) (locs1 : List Loc), va_P (dC, dI) vwCl (cW cB cI cJ cZ cS cO b cs1) H1 → va_D A (cW cB cI cJ cZ cS cO b cs1) → va_S A H0 H1 locs1 → W p l e R s m args below meth c H1 locs1 cells slots Q (F0 m (pc + 3) ls rest)) : W p l e R s m args below meth c H locs cells slots Q (F0 m pc ls (.int v :: .ref (b + i) :: rest)) := by
  obtain ⟨h1, rfl⟩ := pI_some hv
  obtain ⟨k, hk, hg⟩ := cO_at (b := b) (cB := cB) (cI := cI) (cJ := cJ) (cZ := cZ) (cS := cS) (cO := cO) (by decide) h1
  have hset := cW_putF (f := 0) (y := 0) (v := .int v) (cs1 := sI cs 256 i v) (by decide) rfl hD hk rfl rfl rfl rfl rfl rfl (by show Value.int (u2 (kI cs) 256 i v 256 i) = _; rw [u2_s]) (fun z j w hn => by
    have e9 : kI (sI cs 256 i v) z j = kI cs z j := u2_n hn
    match w with
    | 0 => show Value.int (kI (sI cs 256 i v) z j) = Value.int (kI cs z j); rw [e9]
    | 1 => rfl
    | 2 => rfl
    | _ + 3 => rfl)
  refine va_put (D := (dC, dI)) (ci := 8) (v := .int v) (ty := .int) (C := RX7) (T := TX7) (N := 9) hx hb hts (fun w h => List.mem_cons_of_mem _ (uG_X7 w h)) tyX7 tyX7_ok nmX7 hown hK hP hD hS k hg rfl 0 (by decide) (hts _ (List.mem_cons_of_mem _ kw_224)) (fun _ h9 => h9) rfl (by decide +kernel) rfl rfl (by rw [vL_len]; decide) hdg (fun H1 l1 q1 q2 q3 => ?_)
  rw [hset] at q1 q2
  exact kk H1 l1 q1 q2 q3
theorem fg_X11_189 {p : Program} {l : Launch} {e : Env} {R : Room} {s : State} {m : MethodId} {args : Array Value} {below : List Frame} {meth : Method} {c : Code} {H : Heap} {locs : List Loc} {cells slots : Nat} {Q : State → Prop} {cc : ByteArray} {pc : Nat} {ls : Array Slot} {rest : List Value} {y0 : MethodName} {c0 : ByteArray} {n0 : Nat} {r0 : Option FieldType} {dC : Nat → ClassId} {dI : Nat → Nat → Nat} {cB cI cJ cZ cS cO : ClassId} {b : Nat} {cs : CS} {i : Nat} {v : Int32} (hx : p.tables.exec = Jvm.exec) (hb : c.code = cc) (hts : ∀ w ∈ wsOf y0 c0 n0 r0, w.before args s = true) (hown : s.vm.findClass RX11 = some m.cls) (hK : va_K (dC, dI) vwCl [(cB, .byte), (cI, .int), (cJ, .long), (cZ, .boolean), (cS, .object "StreamQueries$Source"), (cO, .object "java/lang/Object")] s) (hP : va_P (dC, dI) vwCl (cW cB cI cJ cZ cS cO b cs) H) (hv : gI cs 2 64 i = some v) (hdg : decode cc pc = .ok (.getfield 189, 3)) (kk : W p l e R s m args below meth c H locs cells slots Q (F0 m (pc + 3) ls (.int v :: rest))) : W p l e R s m args below meth c H locs cells slots Q (F0 m pc ls (.ref (b + i) :: rest)) := by
  obtain ⟨h1, h2⟩ := gI_some hv
  obtain ⟨k, -, hg⟩ := cO_at (b := b) (cB := cB) (cI := cI) (cJ := cJ) (cZ := cZ) (cS := cS) (cO := cO) (by decide) h1
  have hf : (vL b cs i (32 * 2) (tyX 2))[0]? = some (.int v) := by
    show some (vV b cs 64 i 0) = _
    show some (Value.int (kI cs 64 i)) = _
    rw [h2]
  exact va_get (D := (dC, dI)) (ci := 2) (C := RX1) (T := TX1) (N := 13) hx hb hts (fun w h => List.mem_cons_of_mem _ (uG_X1 w h)) hown hK hP k hg rfl 0 (by decide) (hts _ (List.mem_cons_of_mem _ kw_372)) (fun _ h9 => h9) hf hdg kk
theorem fp_X11_189 {p : Program} {l : Launch} {e : Env} {R : Room} {s : State} {m : MethodId} {args : Array Value} {below : List Frame} {meth : Method} {c : Code} {H : Heap} {locs : List Loc} {cells slots : Nat} {Q : State → Prop} {cc : ByteArray} {pc : Nat} {ls : Array Slot} {rest : List Value} {y0 : MethodName} {c0 : ByteArray} {n0 : Nat} {r0 : Option FieldType} {dC : Nat → ClassId} {dI : Nat → Nat → Nat} {cB cI cJ cZ cS cO : ClassId} {b : Nat} {cs : CS} {A : Nat → Prop} {H0 : Heap} {cs1 : CS} {i : Nat} {v : Int32} (hx : p.tables.exec = Jvm.exec) (hb : c.code = cc) (hts : ∀ w ∈ wsOf y0 c0 n0 r0, w.before args s = true) (hown : s.vm.findClass RX11 = some m.cls) (hK : va_K (dC, dI) vwCl [(cB, .byte), (cI, .int), (cJ, .long), (cZ, .boolean), (cS, .object "StreamQueries$Source"), (cO, .object "java/lang/Object")] s) (hP : va_P (dC, dI) vwCl (cW cB cI cJ cZ cS cO b cs) H) (hD : va_D A (cW cB cI cJ cZ cS cO b cs)) (hS : va_S A H0 H locs) (hv : pI cs 2 64 i v = some cs1) (hdg : decode cc pc = .ok (.putfield 189, 3)) (kk : ∀ (H1 : Heap) (locs1 : List Loc), va_P (dC, dI) vwCl (cW cB cI cJ cZ cS cO b cs1) H1 → va_D A (cW cB cI cJ cZ cS cO b cs1) → va_S A H0 H1 locs1 → W p l e R s m args below meth c H1 locs1 cells slots Q (F0 m (pc + 3) ls rest)) : W p l e R s m args below meth c H locs cells slots Q (F0 m pc ls (.int v :: .ref (b + i) :: rest)) := by
  obtain ⟨h1, rfl⟩ := pI_some hv
  obtain ⟨k, hk, hg⟩ := cO_at (b := b) (cB := cB) (cI := cI) (cJ := cJ) (cZ := cZ) (cS := cS) (cO := cO) (by decide) h1
  have hset := cW_putF (f := 0) (y := 0) (v := .int v) (cs1 := sI cs 64 i v) (by decide) rfl hD hk rfl rfl rfl rfl rfl rfl (by show Value.int (u2 (kI cs) 64 i v 64 i) = _; rw [u2_s]) (fun z j w hn => by
    have e9 : kI (sI cs 64 i v) z j = kI cs z j := u2_n hn
    match w with
    | 0 => show Value.int (kI (sI cs 64 i v) z j) = Value.int (kI cs z j); rw [e9]
    | 1 => rfl
    | 2 => rfl
    | _ + 3 => rfl)
  refine va_put (D := (dC, dI)) (ci := 2) (v := .int v) (ty := .int) (C := RX1) (T := TX1) (N := 13) hx hb hts (fun w h => List.mem_cons_of_mem _ (uG_X1 w h)) tyX1 tyX1_ok nmX1 hown hK hP hD hS k hg rfl 0 (by decide) (hts _ (List.mem_cons_of_mem _ kw_372)) (fun _ h9 => h9) rfl (by decide +kernel) rfl rfl (by rw [vL_len]; decide) hdg (fun H1 l1 q1 q2 q3 => ?_)
  rw [hset] at q1 q2
  exact kk H1 l1 q1 q2 q3
theorem fg_X11_192 {p : Program} {l : Launch} {e : Env} {R : Room} {s : State} {m : MethodId} {args : Array Value} {below : List Frame} {meth : Method} {c : Code} {H : Heap} {locs : List Loc} {cells slots : Nat} {Q : State → Prop} {cc : ByteArray} {pc : Nat} {ls : Array Slot} {rest : List Value} {y0 : MethodName} {c0 : ByteArray} {n0 : Nat} {r0 : Option FieldType} {dC : Nat → ClassId} {dI : Nat → Nat → Nat} {cB cI cJ cZ cS cO : ClassId} {b : Nat} {cs : CS} {i : Nat} {v : Int32} (hx : p.tables.exec = Jvm.exec) (hb : c.code = cc) (hts : ∀ w ∈ wsOf y0 c0 n0 r0, w.before args s = true) (hown : s.vm.findClass RX11 = some m.cls) (hK : va_K (dC, dI) vwCl [(cB, .byte), (cI, .int), (cJ, .long), (cZ, .boolean), (cS, .object "StreamQueries$Source"), (cO, .object "java/lang/Object")] s) (hP : va_P (dC, dI) vwCl (cW cB cI cJ cZ cS cO b cs) H) (hv : gI cs 10 325 i = some v) (hdg : decode cc pc = .ok (.getfield 192, 3)) (kk : W p l e R s m args below meth c H locs cells slots Q (F0 m (pc + 3) ls (.int v :: rest))) : W p l e R s m args below meth c H locs cells slots Q (F0 m pc ls (.ref (b + i) :: rest)) := by
  obtain ⟨h1, h2⟩ := gI_some hv
  obtain ⟨k, -, hg⟩ := cO_at (b := b) (cB := cB) (cI := cI) (cJ := cJ) (cZ := cZ) (cS := cS) (cO := cO) (by decide) h1
  have hf : (vL b cs i (32 * 10) (tyX 10))[5]? = some (.int v) := by
    show some (vV b cs 325 i 0) = _
    show some (Value.int (kI cs 325 i)) = _
    rw [h2]
  exact va_get (D := (dC, dI)) (ci := 10) (C := RX9) (T := TX9) (N := 12) hx hb hts (fun w h => List.mem_cons_of_mem _ (uG_X9 w h)) hown hK hP k hg rfl 5 (by decide) (hts _ (List.mem_cons_of_mem _ kw_867)) (fun _ h9 => h9) hf hdg kk
theorem fp_X11_192 {p : Program} {l : Launch} {e : Env} {R : Room} {s : State} {m : MethodId} {args : Array Value} {below : List Frame} {meth : Method} {c : Code} {H : Heap} {locs : List Loc} {cells slots : Nat} {Q : State → Prop} {cc : ByteArray} {pc : Nat} {ls : Array Slot} {rest : List Value} {y0 : MethodName} {c0 : ByteArray} {n0 : Nat} {r0 : Option FieldType} {dC : Nat → ClassId} {dI : Nat → Nat → Nat} {cB cI cJ cZ cS cO : ClassId} {b : Nat} {cs : CS} {A : Nat → Prop} {H0 : Heap} {cs1 : CS} {i : Nat} {v : Int32} (hx : p.tables.exec = Jvm.exec) (hb : c.code = cc) (hts : ∀ w ∈ wsOf y0 c0 n0 r0, w.before args s = true) (hown : s.vm.findClass RX11 = some m.cls) (hK : va_K (dC, dI) vwCl [(cB, .byte), (cI, .int), (cJ, .long), (cZ, .boolean), (cS, .object "StreamQueries$Source"), (cO, .object "java/lang/Object")] s) (hP : va_P (dC, dI) vwCl (cW cB cI cJ cZ cS cO b cs) H) (hD : va_D A (cW cB cI cJ cZ cS cO b cs)) (hS : va_S A H0 H locs) (hv : pI cs 10 325 i v = some cs1) (hdg : decode cc pc = .ok (.putfield 192, 3)) (kk : ∀ (H1 : Heap) (locs1 : List Loc), va_P (dC, dI) vwCl (cW cB cI cJ cZ cS cO b cs1) H1 → va_D A (cW cB cI cJ cZ cS cO b cs1) → va_S A H0 H1 locs1 → W p l e R s m args below meth c H1 locs1 cells slots Q (F0 m (pc + 3) ls rest)) : W p l e R s m args below meth c H locs cells slots Q (F0 m pc ls (.int v :: .ref (b + i) :: rest)) := by
  obtain ⟨h1, rfl⟩ := pI_some hv
  obtain ⟨k, hk, hg⟩ := cO_at (b := b) (cB := cB) (cI := cI) (cJ := cJ) (cZ := cZ) (cS := cS) (cO := cO) (by decide) h1
  have hset := cW_putF (f := 5) (y := 0) (v := .int v) (cs1 := sI cs 325 i v) (by decide) rfl hD hk rfl rfl rfl rfl rfl rfl (by show Value.int (u2 (kI cs) 325 i v 325 i) = _; rw [u2_s]) (fun z j w hn => by
    have e9 : kI (sI cs 325 i v) z j = kI cs z j := u2_n hn
    match w with
    | 0 => show Value.int (kI (sI cs 325 i v) z j) = Value.int (kI cs z j); rw [e9]
    | 1 => rfl
    | 2 => rfl
    | _ + 3 => rfl)
  refine va_put (D := (dC, dI)) (ci := 10) (v := .int v) (ty := .int) (C := RX9) (T := TX9) (N := 12) hx hb hts (fun w h => List.mem_cons_of_mem _ (uG_X9 w h)) tyX9 tyX9_ok nmX9 hown hK hP hD hS k hg rfl 5 (by decide) (hts _ (List.mem_cons_of_mem _ kw_867)) (fun _ h9 => h9) rfl (by decide +kernel) rfl rfl (by rw [vL_len]; decide) hdg (fun H1 l1 q1 q2 q3 => ?_)
  rw [hset] at q1 q2
  exact kk H1 l1 q1 q2 q3
theorem fg_X11_195 {p : Program} {l : Launch} {e : Env} {R : Room} {s : State} {m : MethodId} {args : Array Value} {below : List Frame} {meth : Method} {c : Code} {H : Heap} {locs : List Loc} {cells slots : Nat} {Q : State → Prop} {cc : ByteArray} {pc : Nat} {ls : Array Slot} {rest : List Value} {y0 : MethodName} {c0 : ByteArray} {n0 : Nat} {r0 : Option FieldType} {dC : Nat → ClassId} {dI : Nat → Nat → Nat} {cB cI cJ cZ cS cO : ClassId} {b : Nat} {cs : CS} {i : Nat} {v : (Option Nat)} (hx : p.tables.exec = Jvm.exec) (hb : c.code = cc) (hts : ∀ w ∈ wsOf y0 c0 n0 r0, w.before args s = true) (hown : s.vm.findClass RX11 = some m.cls) (hK : va_K (dC, dI) vwCl [(cB, .byte), (cI, .int), (cJ, .long), (cZ, .boolean), (cS, .object "StreamQueries$Source"), (cO, .object "java/lang/Object")] s) (hP : va_P (dC, dI) vwCl (cW cB cI cJ cZ cS cO b cs) H) (hv : gR cs 4 129 i = some v) (hdg : decode cc pc = .ok (.getfield 195, 3)) (kk : W p l e R s m args below meth c H locs cells slots Q (F0 m (pc + 3) ls (rv b v :: rest))) : W p l e R s m args below meth c H locs cells slots Q (F0 m pc ls (.ref (b + i) :: rest)) := by
  obtain ⟨h1, h2⟩ := gR_some hv
  obtain ⟨k, -, hg⟩ := cO_at (b := b) (cB := cB) (cI := cI) (cJ := cJ) (cZ := cZ) (cS := cS) (cO := cO) (by decide) h1
  have hf : (vL b cs i (32 * 4) (tyX 4))[1]? = some (rv b v) := by
    show some (vV b cs 129 i 2) = _
    show some (rv b (kR cs 129 i)) = _
    rw [h2]
  exact va_get (D := (dC, dI)) (ci := 4) (C := RX3) (T := TX3) (N := 6) hx hb hts (fun w h => List.mem_cons_of_mem _ (uG_X3 w h)) hown hK hP k hg rfl 1 (by decide) (hts _ (List.mem_cons_of_mem _ kw_831)) (fun _ h9 => h9) hf hdg kk
theorem fg_X11_201 {p : Program} {l : Launch} {e : Env} {R : Room} {s : State} {m : MethodId} {args : Array Value} {below : List Frame} {meth : Method} {c : Code} {H : Heap} {locs : List Loc} {cells slots : Nat} {Q : State → Prop} {cc : ByteArray} {pc : Nat} {ls : Array Slot} {rest : List Value} {y0 : MethodName} {c0 : ByteArray} {n0 : Nat} {r0 : Option FieldType} {dC : Nat → ClassId} {dI : Nat → Nat → Nat} {cB cI cJ cZ cS cO : ClassId} {b : Nat} {cs : CS} {i : Nat} {v : Int32} (hx : p.tables.exec = Jvm.exec) (hb : c.code = cc) (hts : ∀ w ∈ wsOf y0 c0 n0 r0, w.before args s = true) (hown : s.vm.findClass RX11 = some m.cls) (hK : va_K (dC, dI) vwCl [(cB, .byte), (cI, .int), (cJ, .long), (cZ, .boolean), (cS, .object "StreamQueries$Source"), (cO, .object "java/lang/Object")] s) (hP : va_P (dC, dI) vwCl (cW cB cI cJ cZ cS cO b cs) H) (hv : gI cs 3 96 i = some v) (hdg : decode cc pc = .ok (.getfield 201, 3)) (kk : W p l e R s m args below meth c H locs cells slots Q (F0 m (pc + 3) ls (.int v :: rest))) : W p l e R s m args below meth c H locs cells slots Q (F0 m pc ls (.ref (b + i) :: rest)) := by
  obtain ⟨h1, h2⟩ := gI_some hv
  obtain ⟨k, -, hg⟩ := cO_at (b := b) (cB := cB) (cI := cI) (cJ := cJ) (cZ := cZ) (cS := cS) (cO := cO) (by decide) h1
  have hf : (vL b cs i (32 * 3) (tyX 3))[0]? = some (.int v) := by
    show some (vV b cs 96 i 0) = _
    show some (Value.int (kI cs 96 i)) = _
    rw [h2]
  exact va_get (D := (dC, dI)) (ci := 3) (C := RX2) (T := TX2) (N := 5) hx hb hts (fun w h => List.mem_cons_of_mem _ (uG_X2 w h)) hown hK hP k hg rfl 0 (by decide) (hts _ (List.mem_cons_of_mem _ kw_632)) (fun _ h9 => h9) hf hdg kk
theorem fp_X11_201 {p : Program} {l : Launch} {e : Env} {R : Room} {s : State} {m : MethodId} {args : Array Value} {below : List Frame} {meth : Method} {c : Code} {H : Heap} {locs : List Loc} {cells slots : Nat} {Q : State → Prop} {cc : ByteArray} {pc : Nat} {ls : Array Slot} {rest : List Value} {y0 : MethodName} {c0 : ByteArray} {n0 : Nat} {r0 : Option FieldType} {dC : Nat → ClassId} {dI : Nat → Nat → Nat} {cB cI cJ cZ cS cO : ClassId} {b : Nat} {cs : CS} {A : Nat → Prop} {H0 : Heap} {cs1 : CS} {i : Nat} {v : Int32} (hx : p.tables.exec = Jvm.exec) (hb : c.code = cc) (hts : ∀ w ∈ wsOf y0 c0 n0 r0, w.before args s = true) (hown : s.vm.findClass RX11 = some m.cls) (hK : va_K (dC, dI) vwCl [(cB, .byte), (cI, .int), (cJ, .long), (cZ, .boolean), (cS, .object "StreamQueries$Source"), (cO, .object "java/lang/Object")] s) (hP : va_P (dC, dI) vwCl (cW cB cI cJ cZ cS cO b cs) H) (hD : va_D A (cW cB cI cJ cZ cS cO b cs)) (hS : va_S A H0 H locs) (hv : pI cs 3 96 i v = some cs1) (hdg : decode cc pc = .ok (.putfield 201, 3)) (kk : ∀ (H1 : Heap) (locs1 : List Loc), va_P (dC, dI) vwCl (cW cB cI cJ cZ cS cO b cs1) H1 → va_D A (cW cB cI cJ cZ cS cO b cs1) → va_S A H0 H1 locs1 → W p l e R s m args below meth c H1 locs1 cells slots Q (F0 m (pc + 3) ls rest)) : W p l e R s m args below meth c H locs cells slots Q (F0 m pc ls (.int v :: .ref (b + i) :: rest)) := by
  obtain ⟨h1, rfl⟩ := pI_some hv
  obtain ⟨k, hk, hg⟩ := cO_at (b := b) (cB := cB) (cI := cI) (cJ := cJ) (cZ := cZ) (cS := cS) (cO := cO) (by decide) h1
  have hset := cW_putF (f := 0) (y := 0) (v := .int v) (cs1 := sI cs 96 i v) (by decide) rfl hD hk rfl rfl rfl rfl rfl rfl (by show Value.int (u2 (kI cs) 96 i v 96 i) = _; rw [u2_s]) (fun z j w hn => by
    have e9 : kI (sI cs 96 i v) z j = kI cs z j := u2_n hn
    match w with
    | 0 => show Value.int (kI (sI cs 96 i v) z j) = Value.int (kI cs z j); rw [e9]
    | 1 => rfl
    | 2 => rfl
    | _ + 3 => rfl)
  refine va_put (D := (dC, dI)) (ci := 3) (v := .int v) (ty := .int) (C := RX2) (T := TX2) (N := 5) hx hb hts (fun w h => List.mem_cons_of_mem _ (uG_X2 w h)) tyX2 tyX2_ok nmX2 hown hK hP hD hS k hg rfl 0 (by decide) (hts _ (List.mem_cons_of_mem _ kw_632)) (fun _ h9 => h9) rfl (by decide +kernel) rfl rfl (by rw [vL_len]; decide) hdg (fun H1 l1 q1 q2 q3 => ?_)
  rw [hset] at q1 q2
  exact kk H1 l1 q1 q2 q3
theorem fg_X11_204 {p : Program} {l : Launch} {e : Env} {R : Room} {s : State} {m : MethodId} {args : Array Value} {below : List Frame} {meth : Method} {c : Code} {H : Heap} {locs : List Loc} {cells slots : Nat} {Q : State → Prop} {cc : ByteArray} {pc : Nat} {ls : Array Slot} {rest : List Value} {y0 : MethodName} {c0 : ByteArray} {n0 : Nat} {r0 : Option FieldType} {dC : Nat → ClassId} {dI : Nat → Nat → Nat} {cB cI cJ cZ cS cO : ClassId} {b : Nat} {cs : CS} {i : Nat} {v : (Option Nat)} (hx : p.tables.exec = Jvm.exec) (hb : c.code = cc) (hts : ∀ w ∈ wsOf y0 c0 n0 r0, w.before args s = true) (hown : s.vm.findClass RX11 = some m.cls) (hK : va_K (dC, dI) vwCl [(cB, .byte), (cI, .int), (cJ, .long), (cZ, .boolean), (cS, .object "StreamQueries$Source"), (cO, .object "java/lang/Object")] s) (hP : va_P (dC, dI) vwCl (cW cB cI cJ cZ cS cO b cs) H) (hv : gR cs 4 130 i = some v) (hdg : decode cc pc = .ok (.getfield 204, 3)) (kk : W p l e R s m args below meth c H locs cells slots Q (F0 m (pc + 3) ls (rv b v :: rest))) : W p l e R s m args below meth c H locs cells slots Q (F0 m pc ls (.ref (b + i) :: rest)) := by
  obtain ⟨h1, h2⟩ := gR_some hv
  obtain ⟨k, -, hg⟩ := cO_at (b := b) (cB := cB) (cI := cI) (cJ := cJ) (cZ := cZ) (cS := cS) (cO := cO) (by decide) h1
  have hf : (vL b cs i (32 * 4) (tyX 4))[2]? = some (rv b v) := by
    show some (vV b cs 130 i 2) = _
    show some (rv b (kR cs 130 i)) = _
    rw [h2]
  exact va_get (D := (dC, dI)) (ci := 4) (C := RX3) (T := TX3) (N := 6) hx hb hts (fun w h => List.mem_cons_of_mem _ (uG_X3 w h)) hown hK hP k hg rfl 2 (by decide) (hts _ (List.mem_cons_of_mem _ kw_835)) (fun _ h9 => h9) hf hdg kk
theorem fp_X11_204 {p : Program} {l : Launch} {e : Env} {R : Room} {s : State} {m : MethodId} {args : Array Value} {below : List Frame} {meth : Method} {c : Code} {H : Heap} {locs : List Loc} {cells slots : Nat} {Q : State → Prop} {cc : ByteArray} {pc : Nat} {ls : Array Slot} {rest : List Value} {y0 : MethodName} {c0 : ByteArray} {n0 : Nat} {r0 : Option FieldType} {dC : Nat → ClassId} {dI : Nat → Nat → Nat} {cB cI cJ cZ cS cO : ClassId} {b : Nat} {cs : CS} {A : Nat → Prop} {H0 : Heap} {cs1 : CS} {i : Nat} {v : (Option Nat)} (hx : p.tables.exec = Jvm.exec) (hb : c.code = cc) (hts : ∀ w ∈ wsOf y0 c0 n0 r0, w.before args s = true) (hown : s.vm.findClass RX11 = some m.cls) (hK : va_K (dC, dI) vwCl [(cB, .byte), (cI, .int), (cJ, .long), (cZ, .boolean), (cS, .object "StreamQueries$Source"), (cO, .object "java/lang/Object")] s) (hP : va_P (dC, dI) vwCl (cW cB cI cJ cZ cS cO b cs) H) (hD : va_D A (cW cB cI cJ cZ cS cO b cs)) (hS : va_S A H0 H locs) (hv : pR cs 4 130 i v = some cs1) (hdg : decode cc pc = .ok (.putfield 204, 3)) (kk : ∀ (H1 : Heap) (locs1 : List Loc), va_P (dC, dI) vwCl (cW cB cI cJ cZ cS cO b cs1) H1 → va_D A (cW cB cI cJ cZ cS cO b cs1) → va_S A H0 H1 locs1 → W p l e R s m args below meth c H1 locs1 cells slots Q (F0 m (pc + 3) ls rest)) : W p l e R s m args below meth c H locs cells slots Q (F0 m pc ls (rv b v :: .ref (b + i) :: rest)) := by
  obtain ⟨h1, rfl⟩ := pR_some hv
  obtain ⟨k, hk, hg⟩ := cO_at (b := b) (cB := cB) (cI := cI) (cJ := cJ) (cZ := cZ) (cS := cS) (cO := cO) (by decide) h1
  have hset := cW_putF (f := 2) (y := 2) (v := rv b v) (cs1 := sR cs 130 i v) (by decide) rfl hD hk rfl rfl rfl rfl rfl rfl (by show rv b (u2 (kR cs) 130 i v 130 i) = _; rw [u2_s]) (fun z j w hn => by
    have e9 : kR (sR cs 130 i v) z j = kR cs z j := u2_n hn
    match w with
    | 0 => rfl
    | 1 => rfl
    | 2 => show rv b (kR (sR cs 130 i v) z j) = rv b (kR cs z j); rw [e9]
    | _ + 3 => rfl)
  refine va_put (D := (dC, dI)) (ci := 4) (v := rv b v) (ty := .object "StreamQueries$Columns") (C := RX3) (T := TX3) (N := 6) hx hb hts (fun w h => List.mem_cons_of_mem _ (uG_X3 w h)) tyX3 tyX3_ok nmX3 hown hK hP hD hS k hg rfl 2 (by decide) (hts _ (List.mem_cons_of_mem _ kw_835)) (fun _ h9 => h9) rfl (by decide +kernel) (rv_nar b v _) (rv_fit b v _) (by rw [vL_len]; decide) hdg (fun H1 l1 q1 q2 q3 => ?_)
  rw [hset] at q1 q2
  exact kk H1 l1 q1 q2 q3
theorem fg_X0_9 {p : Program} {l : Launch} {e : Env} {R : Room} {s : State} {m : MethodId} {args : Array Value} {below : List Frame} {meth : Method} {c : Code} {H : Heap} {locs : List Loc} {cells slots : Nat} {Q : State → Prop} {cc : ByteArray} {pc : Nat} {ls : Array Slot} {rest : List Value} {y0 : MethodName} {c0 : ByteArray} {n0 : Nat} {r0 : Option FieldType} {dC : Nat → ClassId} {dI : Nat → Nat → Nat} {cB cI cJ cZ cS cO : ClassId} {b : Nat} {cs : CS} {i : Nat} {v : (Option Nat)} (hx : p.tables.exec = Jvm.exec) (hb : c.code = cc) (hts : ∀ w ∈ wsOf y0 c0 n0 r0, w.before args s = true) (hown : s.vm.findClass RX0 = some m.cls) (hK : va_K (dC, dI) vwCl [(cB, .byte), (cI, .int), (cJ, .long), (cZ, .boolean), (cS, .object "StreamQueries$Source"), (cO, .object "java/lang/Object")] s) (hP : va_P (dC, dI) vwCl (cW cB cI cJ cZ cS cO b cs) H) (hv : gR cs 1 32 i = some v) (hdg : decode cc pc = .ok (.getfield 9, 3)) (kk : W p l e R s m args below meth c H locs cells slots Q (F0 m (pc + 3) ls (rv b v :: rest))) : W p l e R s m args below meth c H locs cells slots Q (F0 m pc ls (.ref (b + i) :: rest)) := by
  obtain ⟨h1, h2⟩ := gR_some hv
  obtain ⟨k, -, hg⟩ := cO_at (b := b) (cB := cB) (cI := cI) (cJ := cJ) (cZ := cZ) (cS := cS) (cO := cO) (by decide) h1
  have hf : (vL b cs i (32 * 1) (tyX 1))[0]? = some (rv b v) := by
    show some (vV b cs 32 i 2) = _
    show some (rv b (kR cs 32 i)) = _
    rw [h2]
  exact va_get (D := (dC, dI)) (ci := 1) (C := RX0) (T := TX0) (N := 6) hx hb hts (fun w h => List.mem_cons_of_mem _ (uG_X0 w h)) hown hK hP k hg rfl 0 (by decide) (hts _ (List.mem_cons_of_mem _ kw_1151)) (fun _ h9 => h9) hf hdg kk
theorem fp_X0_9 {p : Program} {l : Launch} {e : Env} {R : Room} {s : State} {m : MethodId} {args : Array Value} {below : List Frame} {meth : Method} {c : Code} {H : Heap} {locs : List Loc} {cells slots : Nat} {Q : State → Prop} {cc : ByteArray} {pc : Nat} {ls : Array Slot} {rest : List Value} {y0 : MethodName} {c0 : ByteArray} {n0 : Nat} {r0 : Option FieldType} {dC : Nat → ClassId} {dI : Nat → Nat → Nat} {cB cI cJ cZ cS cO : ClassId} {b : Nat} {cs : CS} {A : Nat → Prop} {H0 : Heap} {cs1 : CS} {i : Nat} {v : (Option Nat)} (hx : p.tables.exec = Jvm.exec) (hb : c.code = cc) (hts : ∀ w ∈ wsOf y0 c0 n0 r0, w.before args s = true) (hown : s.vm.findClass RX0 = some m.cls) (hK : va_K (dC, dI) vwCl [(cB, .byte), (cI, .int), (cJ, .long), (cZ, .boolean), (cS, .object "StreamQueries$Source"), (cO, .object "java/lang/Object")] s) (hP : va_P (dC, dI) vwCl (cW cB cI cJ cZ cS cO b cs) H) (hD : va_D A (cW cB cI cJ cZ cS cO b cs)) (hS : va_S A H0 H locs) (hin : meth.name = "<init>") (hv : pR cs 1 32 i v = some cs1) (hdg : decode cc pc = .ok (.putfield 9, 3)) (kk : ∀ (H1 : Heap) (locs1 : List Loc), va_P (dC, dI) vwCl (cW cB cI cJ cZ cS cO b cs1) H1 → va_D A (cW cB cI cJ cZ cS cO b cs1) → va_S A H0 H1 locs1 → W p l e R s m args below meth c H1 locs1 cells slots Q (F0 m (pc + 3) ls rest)) : W p l e R s m args below meth c H locs cells slots Q (F0 m pc ls (rv b v :: .ref (b + i) :: rest)) := by
  obtain ⟨h1, rfl⟩ := pR_some hv
  obtain ⟨k, hk, hg⟩ := cO_at (b := b) (cB := cB) (cI := cI) (cJ := cJ) (cZ := cZ) (cS := cS) (cO := cO) (by decide) h1
  have hset := cW_putF (f := 0) (y := 2) (v := rv b v) (cs1 := sR cs 32 i v) (by decide) rfl hD hk rfl rfl rfl rfl rfl rfl (by show rv b (u2 (kR cs) 32 i v 32 i) = _; rw [u2_s]) (fun z j w hn => by
    have e9 : kR (sR cs 32 i v) z j = kR cs z j := u2_n hn
    match w with
    | 0 => rfl
    | 1 => rfl
    | 2 => show rv b (kR (sR cs 32 i v) z j) = rv b (kR cs z j); rw [e9]
    | _ + 3 => rfl)
  refine va_putF (D := (dC, dI)) (ci := 1) (v := rv b v) (ty := .object "StreamQueries$Text") (C := RX0) (T := TX0) (N := 6) hx hb hts (fun w h => List.mem_cons_of_mem _ (uG_X0 w h)) tyX0 tyX0_ok nmX0 hown hK hP hD hS k hg rfl 0 (by decide) (hts _ (List.mem_cons_of_mem _ kw_1151)) (fun _ h9 => h9) rfl hin rfl (by decide +kernel) (rv_nar b v _) (rv_fit b v _) (by rw [vL_len]; decide) hdg (fun H1 l1 q1 q2 q3 => ?_)
  rw [hset] at q1 q2
  exact kk H1 l1 q1 q2 q3
theorem fg_X0_15 {p : Program} {l : Launch} {e : Env} {R : Room} {s : State} {m : MethodId} {args : Array Value} {below : List Frame} {meth : Method} {c : Code} {H : Heap} {locs : List Loc} {cells slots : Nat} {Q : State → Prop} {cc : ByteArray} {pc : Nat} {ls : Array Slot} {rest : List Value} {y0 : MethodName} {c0 : ByteArray} {n0 : Nat} {r0 : Option FieldType} {dC : Nat → ClassId} {dI : Nat → Nat → Nat} {cB cI cJ cZ cS cO : ClassId} {b : Nat} {cs : CS} {i : Nat} {v : (Option Nat)} (hx : p.tables.exec = Jvm.exec) (hb : c.code = cc) (hts : ∀ w ∈ wsOf y0 c0 n0 r0, w.before args s = true) (hown : s.vm.findClass RX0 = some m.cls) (hK : va_K (dC, dI) vwCl [(cB, .byte), (cI, .int), (cJ, .long), (cZ, .boolean), (cS, .object "StreamQueries$Source"), (cO, .object "java/lang/Object")] s) (hP : va_P (dC, dI) vwCl (cW cB cI cJ cZ cS cO b cs) H) (hv : gR cs 1 33 i = some v) (hdg : decode cc pc = .ok (.getfield 15, 3)) (kk : W p l e R s m args below meth c H locs cells slots Q (F0 m (pc + 3) ls (rv b v :: rest))) : W p l e R s m args below meth c H locs cells slots Q (F0 m pc ls (.ref (b + i) :: rest)) := by
  obtain ⟨h1, h2⟩ := gR_some hv
  obtain ⟨k, -, hg⟩ := cO_at (b := b) (cB := cB) (cI := cI) (cJ := cJ) (cZ := cZ) (cS := cS) (cO := cO) (by decide) h1
  have hf : (vL b cs i (32 * 1) (tyX 1))[1]? = some (rv b v) := by
    show some (vV b cs 33 i 2) = _
    show some (rv b (kR cs 33 i)) = _
    rw [h2]
  exact va_get (D := (dC, dI)) (ci := 1) (C := RX0) (T := TX0) (N := 6) hx hb hts (fun w h => List.mem_cons_of_mem _ (uG_X0 w h)) hown hK hP k hg rfl 1 (by decide) (hts _ (List.mem_cons_of_mem _ kw_1152)) (fun _ h9 => h9) hf hdg kk
theorem fp_X0_15 {p : Program} {l : Launch} {e : Env} {R : Room} {s : State} {m : MethodId} {args : Array Value} {below : List Frame} {meth : Method} {c : Code} {H : Heap} {locs : List Loc} {cells slots : Nat} {Q : State → Prop} {cc : ByteArray} {pc : Nat} {ls : Array Slot} {rest : List Value} {y0 : MethodName} {c0 : ByteArray} {n0 : Nat} {r0 : Option FieldType} {dC : Nat → ClassId} {dI : Nat → Nat → Nat} {cB cI cJ cZ cS cO : ClassId} {b : Nat} {cs : CS} {A : Nat → Prop} {H0 : Heap} {cs1 : CS} {i : Nat} {v : (Option Nat)} (hx : p.tables.exec = Jvm.exec) (hb : c.code = cc) (hts : ∀ w ∈ wsOf y0 c0 n0 r0, w.before args s = true) (hown : s.vm.findClass RX0 = some m.cls) (hK : va_K (dC, dI) vwCl [(cB, .byte), (cI, .int), (cJ, .long), (cZ, .boolean), (cS, .object "StreamQueries$Source"), (cO, .object "java/lang/Object")] s) (hP : va_P (dC, dI) vwCl (cW cB cI cJ cZ cS cO b cs) H) (hD : va_D A (cW cB cI cJ cZ cS cO b cs)) (hS : va_S A H0 H locs) (hin : meth.name = "<init>") (hv : pR cs 1 33 i v = some cs1) (hdg : decode cc pc = .ok (.putfield 15, 3)) (kk : ∀ (H1 : Heap) (locs1 : List Loc), va_P (dC, dI) vwCl (cW cB cI cJ cZ cS cO b cs1) H1 → va_D A (cW cB cI cJ cZ cS cO b cs1) → va_S A H0 H1 locs1 → W p l e R s m args below meth c H1 locs1 cells slots Q (F0 m (pc + 3) ls rest)) : W p l e R s m args below meth c H locs cells slots Q (F0 m pc ls (rv b v :: .ref (b + i) :: rest)) := by
  obtain ⟨h1, rfl⟩ := pR_some hv
  obtain ⟨k, hk, hg⟩ := cO_at (b := b) (cB := cB) (cI := cI) (cJ := cJ) (cZ := cZ) (cS := cS) (cO := cO) (by decide) h1
  have hset := cW_putF (f := 1) (y := 2) (v := rv b v) (cs1 := sR cs 33 i v) (by decide) rfl hD hk rfl rfl rfl rfl rfl rfl (by show rv b (u2 (kR cs) 33 i v 33 i) = _; rw [u2_s]) (fun z j w hn => by
    have e9 : kR (sR cs 33 i v) z j = kR cs z j := u2_n hn
    match w with
    | 0 => rfl
    | 1 => rfl
    | 2 => show rv b (kR (sR cs 33 i v) z j) = rv b (kR cs z j); rw [e9]
    | _ + 3 => rfl)
  refine va_putF (D := (dC, dI)) (ci := 1) (v := rv b v) (ty := .object "StreamQueries$Streams") (C := RX0) (T := TX0) (N := 6) hx hb hts (fun w h => List.mem_cons_of_mem _ (uG_X0 w h)) tyX0 tyX0_ok nmX0 hown hK hP hD hS k hg rfl 1 (by decide) (hts _ (List.mem_cons_of_mem _ kw_1152)) (fun _ h9 => h9) rfl hin rfl (by decide +kernel) (rv_nar b v _) (rv_fit b v _) (by rw [vL_len]; decide) hdg (fun H1 l1 q1 q2 q3 => ?_)
  rw [hset] at q1 q2
  exact kk H1 l1 q1 q2 q3
theorem fg_X0_19 {p : Program} {l : Launch} {e : Env} {R : Room} {s : State} {m : MethodId} {args : Array Value} {below : List Frame} {meth : Method} {c : Code} {H : Heap} {locs : List Loc} {cells slots : Nat} {Q : State → Prop} {cc : ByteArray} {pc : Nat} {ls : Array Slot} {rest : List Value} {y0 : MethodName} {c0 : ByteArray} {n0 : Nat} {r0 : Option FieldType} {dC : Nat → ClassId} {dI : Nat → Nat → Nat} {cB cI cJ cZ cS cO : ClassId} {b : Nat} {cs : CS} {i : Nat} {v : (Option Nat)} (hx : p.tables.exec = Jvm.exec) (hb : c.code = cc) (hts : ∀ w ∈ wsOf y0 c0 n0 r0, w.before args s = true) (hown : s.vm.findClass RX0 = some m.cls) (hK : va_K (dC, dI) vwCl [(cB, .byte), (cI, .int), (cJ, .long), (cZ, .boolean), (cS, .object "StreamQueries$Source"), (cO, .object "java/lang/Object")] s) (hP : va_P (dC, dI) vwCl (cW cB cI cJ cZ cS cO b cs) H) (hv : gR cs 10 322 i = some v) (hdg : decode cc pc = .ok (.getfield 19, 3)) (kk : W p l e R s m args below meth c H locs cells slots Q (F0 m (pc + 3) ls (rv b v :: rest))) : W p l e R s m args below meth c H locs cells slots Q (F0 m pc ls (.ref (b + i) :: rest)) := by
  obtain ⟨h1, h2⟩ := gR_some hv
  obtain ⟨k, -, hg⟩ := cO_at (b := b) (cB := cB) (cI := cI) (cJ := cJ) (cZ := cZ) (cS := cS) (cO := cO) (by decide) h1
  have hf : (vL b cs i (32 * 10) (tyX 10))[2]? = some (rv b v) := by
    show some (vV b cs 322 i 2) = _
    show some (rv b (kR cs 322 i)) = _
    rw [h2]
  exact va_get (D := (dC, dI)) (ci := 10) (C := RX9) (T := TX9) (N := 12) hx hb hts (fun w h => List.mem_cons_of_mem _ (uG_X9 w h)) hown hK hP k hg rfl 2 (by decide) (hts _ (List.mem_cons_of_mem _ kw_859)) (fun _ h9 => h9) hf hdg kk
theorem fg_X0_25 {p : Program} {l : Launch} {e : Env} {R : Room} {s : State} {m : MethodId} {args : Array Value} {below : List Frame} {meth : Method} {c : Code} {H : Heap} {locs : List Loc} {cells slots : Nat} {Q : State → Prop} {cc : ByteArray} {pc : Nat} {ls : Array Slot} {rest : List Value} {y0 : MethodName} {c0 : ByteArray} {n0 : Nat} {r0 : Option FieldType} {dC : Nat → ClassId} {dI : Nat → Nat → Nat} {cB cI cJ cZ cS cO : ClassId} {b : Nat} {cs : CS} {i : Nat} {v : (Option Nat)} (hx : p.tables.exec = Jvm.exec) (hb : c.code = cc) (hts : ∀ w ∈ wsOf y0 c0 n0 r0, w.before args s = true) (hown : s.vm.findClass RX0 = some m.cls) (hK : va_K (dC, dI) vwCl [(cB, .byte), (cI, .int), (cJ, .long), (cZ, .boolean), (cS, .object "StreamQueries$Source"), (cO, .object "java/lang/Object")] s) (hP : va_P (dC, dI) vwCl (cW cB cI cJ cZ cS cO b cs) H) (hv : gR cs 1 34 i = some v) (hdg : decode cc pc = .ok (.getfield 25, 3)) (kk : W p l e R s m args below meth c H locs cells slots Q (F0 m (pc + 3) ls (rv b v :: rest))) : W p l e R s m args below meth c H locs cells slots Q (F0 m pc ls (.ref (b + i) :: rest)) := by
  obtain ⟨h1, h2⟩ := gR_some hv
  obtain ⟨k, -, hg⟩ := cO_at (b := b) (cB := cB) (cI := cI) (cJ := cJ) (cZ := cZ) (cS := cS) (cO := cO) (by decide) h1
  have hf : (vL b cs i (32 * 1) (tyX 1))[2]? = some (rv b v) := by
    show some (vV b cs 34 i 2) = _
    show some (rv b (kR cs 34 i)) = _
    rw [h2]
  exact va_get (D := (dC, dI)) (ci := 1) (C := RX0) (T := TX0) (N := 6) hx hb hts (fun w h => List.mem_cons_of_mem _ (uG_X0 w h)) hown hK hP k hg rfl 2 (by decide) (hts _ (List.mem_cons_of_mem _ kw_1153)) (fun _ h9 => h9) hf hdg kk
theorem fp_X0_25 {p : Program} {l : Launch} {e : Env} {R : Room} {s : State} {m : MethodId} {args : Array Value} {below : List Frame} {meth : Method} {c : Code} {H : Heap} {locs : List Loc} {cells slots : Nat} {Q : State → Prop} {cc : ByteArray} {pc : Nat} {ls : Array Slot} {rest : List Value} {y0 : MethodName} {c0 : ByteArray} {n0 : Nat} {r0 : Option FieldType} {dC : Nat → ClassId} {dI : Nat → Nat → Nat} {cB cI cJ cZ cS cO : ClassId} {b : Nat} {cs : CS} {A : Nat → Prop} {H0 : Heap} {cs1 : CS} {i : Nat} {v : (Option Nat)} (hx : p.tables.exec = Jvm.exec) (hb : c.code = cc) (hts : ∀ w ∈ wsOf y0 c0 n0 r0, w.before args s = true) (hown : s.vm.findClass RX0 = some m.cls) (hK : va_K (dC, dI) vwCl [(cB, .byte), (cI, .int), (cJ, .long), (cZ, .boolean), (cS, .object "StreamQueries$Source"), (cO, .object "java/lang/Object")] s) (hP : va_P (dC, dI) vwCl (cW cB cI cJ cZ cS cO b cs) H) (hD : va_D A (cW cB cI cJ cZ cS cO b cs)) (hS : va_S A H0 H locs) (hin : meth.name = "<init>") (hv : pR cs 1 34 i v = some cs1) (hdg : decode cc pc = .ok (.putfield 25, 3)) (kk : ∀ (H1 : Heap) (locs1 : List Loc), va_P (dC, dI) vwCl (cW cB cI cJ cZ cS cO b cs1) H1 → va_D A (cW cB cI cJ cZ cS cO b cs1) → va_S A H0 H1 locs1 → W p l e R s m args below meth c H1 locs1 cells slots Q (F0 m (pc + 3) ls rest)) : W p l e R s m args below meth c H locs cells slots Q (F0 m pc ls (rv b v :: .ref (b + i) :: rest)) := by
  obtain ⟨h1, rfl⟩ := pR_some hv
  obtain ⟨k, hk, hg⟩ := cO_at (b := b) (cB := cB) (cI := cI) (cJ := cJ) (cZ := cZ) (cS := cS) (cO := cO) (by decide) h1
  have hset := cW_putF (f := 2) (y := 2) (v := rv b v) (cs1 := sR cs 34 i v) (by decide) rfl hD hk rfl rfl rfl rfl rfl rfl (by show rv b (u2 (kR cs) 34 i v 34 i) = _; rw [u2_s]) (fun z j w hn => by
    have e9 : kR (sR cs 34 i v) z j = kR cs z j := u2_n hn
    match w with
    | 0 => rfl
    | 1 => rfl
    | 2 => show rv b (kR (sR cs 34 i v) z j) = rv b (kR cs z j); rw [e9]
    | _ + 3 => rfl)
  refine va_putF (D := (dC, dI)) (ci := 1) (v := rv b v) (ty := .object "StreamQueries$Code") (C := RX0) (T := TX0) (N := 6) hx hb hts (fun w h => List.mem_cons_of_mem _ (uG_X0 w h)) tyX0 tyX0_ok nmX0 hown hK hP hD hS k hg rfl 2 (by decide) (hts _ (List.mem_cons_of_mem _ kw_1153)) (fun _ h9 => h9) rfl hin rfl (by decide +kernel) (rv_nar b v _) (rv_fit b v _) (by rw [vL_len]; decide) hdg (fun H1 l1 q1 q2 q3 => ?_)
  rw [hset] at q1 q2
  exact kk H1 l1 q1 q2 q3
theorem fg_X0_26 {p : Program} {l : Launch} {e : Env} {R : Room} {s : State} {m : MethodId} {args : Array Value} {below : List Frame} {meth : Method} {c : Code} {H : Heap} {locs : List Loc} {cells slots : Nat} {Q : State → Prop} {cc : ByteArray} {pc : Nat} {ls : Array Slot} {rest : List Value} {y0 : MethodName} {c0 : ByteArray} {n0 : Nat} {r0 : Option FieldType} {dC : Nat → ClassId} {dI : Nat → Nat → Nat} {cB cI cJ cZ cS cO : ClassId} {b : Nat} {cs : CS} {i : Nat} {v : Int32} (hx : p.tables.exec = Jvm.exec) (hb : c.code = cc) (hts : ∀ w ∈ wsOf y0 c0 n0 r0, w.before args s = true) (hown : s.vm.findClass RX0 = some m.cls) (hK : va_K (dC, dI) vwCl [(cB, .byte), (cI, .int), (cJ, .long), (cZ, .boolean), (cS, .object "StreamQueries$Source"), (cO, .object "java/lang/Object")] s) (hP : va_P (dC, dI) vwCl (cW cB cI cJ cZ cS cO b cs) H) (hv : gI cs 10 320 i = some v) (hdg : decode cc pc = .ok (.getfield 26, 3)) (kk : W p l e R s m args below meth c H locs cells slots Q (F0 m (pc + 3) ls (.int v :: rest))) : W p l e R s m args below meth c H locs cells slots Q (F0 m pc ls (.ref (b + i) :: rest)) := by
  obtain ⟨h1, h2⟩ := gI_some hv
  obtain ⟨k, -, hg⟩ := cO_at (b := b) (cB := cB) (cI := cI) (cJ := cJ) (cZ := cZ) (cS := cS) (cO := cO) (by decide) h1
  have hf : (vL b cs i (32 * 10) (tyX 10))[0]? = some (.int v) := by
    show some (vV b cs 320 i 0) = _
    show some (Value.int (kI cs 320 i)) = _
    rw [h2]
  exact va_get (D := (dC, dI)) (ci := 10) (C := RX9) (T := TX9) (N := 12) hx hb hts (fun w h => List.mem_cons_of_mem _ (uG_X9 w h)) hown hK hP k hg rfl 0 (by decide) (hts _ (List.mem_cons_of_mem _ kw_854)) (fun _ h9 => h9) hf hdg kk
theorem fp_X0_26 {p : Program} {l : Launch} {e : Env} {R : Room} {s : State} {m : MethodId} {args : Array Value} {below : List Frame} {meth : Method} {c : Code} {H : Heap} {locs : List Loc} {cells slots : Nat} {Q : State → Prop} {cc : ByteArray} {pc : Nat} {ls : Array Slot} {rest : List Value} {y0 : MethodName} {c0 : ByteArray} {n0 : Nat} {r0 : Option FieldType} {dC : Nat → ClassId} {dI : Nat → Nat → Nat} {cB cI cJ cZ cS cO : ClassId} {b : Nat} {cs : CS} {A : Nat → Prop} {H0 : Heap} {cs1 : CS} {i : Nat} {v : Int32} (hx : p.tables.exec = Jvm.exec) (hb : c.code = cc) (hts : ∀ w ∈ wsOf y0 c0 n0 r0, w.before args s = true) (hown : s.vm.findClass RX0 = some m.cls) (hK : va_K (dC, dI) vwCl [(cB, .byte), (cI, .int), (cJ, .long), (cZ, .boolean), (cS, .object "StreamQueries$Source"), (cO, .object "java/lang/Object")] s) (hP : va_P (dC, dI) vwCl (cW cB cI cJ cZ cS cO b cs) H) (hD : va_D A (cW cB cI cJ cZ cS cO b cs)) (hS : va_S A H0 H locs) (hv : pI cs 10 320 i v = some cs1) (hdg : decode cc pc = .ok (.putfield 26, 3)) (kk : ∀ (H1 : Heap) (locs1 : List Loc), va_P (dC, dI) vwCl (cW cB cI cJ cZ cS cO b cs1) H1 → va_D A (cW cB cI cJ cZ cS cO b cs1) → va_S A H0 H1 locs1 → W p l e R s m args below meth c H1 locs1 cells slots Q (F0 m (pc + 3) ls rest)) : W p l e R s m args below meth c H locs cells slots Q (F0 m pc ls (.int v :: .ref (b + i) :: rest)) := by
  obtain ⟨h1, rfl⟩ := pI_some hv
  obtain ⟨k, hk, hg⟩ := cO_at (b := b) (cB := cB) (cI := cI) (cJ := cJ) (cZ := cZ) (cS := cS) (cO := cO) (by decide) h1
  have hset := cW_putF (f := 0) (y := 0) (v := .int v) (cs1 := sI cs 320 i v) (by decide) rfl hD hk rfl rfl rfl rfl rfl rfl (by show Value.int (u2 (kI cs) 320 i v 320 i) = _; rw [u2_s]) (fun z j w hn => by
    have e9 : kI (sI cs 320 i v) z j = kI cs z j := u2_n hn
    match w with
    | 0 => show Value.int (kI (sI cs 320 i v) z j) = Value.int (kI cs z j); rw [e9]
    | 1 => rfl
    | 2 => rfl
    | _ + 3 => rfl)
  refine va_put (D := (dC, dI)) (ci := 10) (v := .int v) (ty := .int) (C := RX9) (T := TX9) (N := 12) hx hb hts (fun w h => List.mem_cons_of_mem _ (uG_X9 w h)) tyX9 tyX9_ok nmX9 hown hK hP hD hS k hg rfl 0 (by decide) (hts _ (List.mem_cons_of_mem _ kw_854)) (fun _ h9 => h9) rfl (by decide +kernel) rfl rfl (by rw [vL_len]; decide) hdg (fun H1 l1 q1 q2 q3 => ?_)
  rw [hset] at q1 q2
  exact kk H1 l1 q1 q2 q3
theorem fg_X0_30 {p : Program} {l : Launch} {e : Env} {R : Room} {s : State} {m : MethodId} {args : Array Value} {below : List Frame} {meth : Method} {c : Code} {H : Heap} {locs : List Loc} {cells slots : Nat} {Q : State → Prop} {cc : ByteArray} {pc : Nat} {ls : Array Slot} {rest : List Value} {y0 : MethodName} {c0 : ByteArray} {n0 : Nat} {r0 : Option FieldType} {dC : Nat → ClassId} {dI : Nat → Nat → Nat} {cB cI cJ cZ cS cO : ClassId} {b : Nat} {cs : CS} {i : Nat} {v : (Option Nat)} (hx : p.tables.exec = Jvm.exec) (hb : c.code = cc) (hts : ∀ w ∈ wsOf y0 c0 n0 r0, w.before args s = true) (hown : s.vm.findClass RX0 = some m.cls) (hK : va_K (dC, dI) vwCl [(cB, .byte), (cI, .int), (cJ, .long), (cZ, .boolean), (cS, .object "StreamQueries$Source"), (cO, .object "java/lang/Object")] s) (hP : va_P (dC, dI) vwCl (cW cB cI cJ cZ cS cO b cs) H) (hv : gR cs 4 128 i = some v) (hdg : decode cc pc = .ok (.getfield 30, 3)) (kk : W p l e R s m args below meth c H locs cells slots Q (F0 m (pc + 3) ls (rv b v :: rest))) : W p l e R s m args below meth c H locs cells slots Q (F0 m pc ls (.ref (b + i) :: rest)) := by
  obtain ⟨h1, h2⟩ := gR_some hv
  obtain ⟨k, -, hg⟩ := cO_at (b := b) (cB := cB) (cI := cI) (cJ := cJ) (cZ := cZ) (cS := cS) (cO := cO) (by decide) h1
  have hf : (vL b cs i (32 * 4) (tyX 4))[0]? = some (rv b v) := by
    show some (vV b cs 128 i 2) = _
    show some (rv b (kR cs 128 i)) = _
    rw [h2]
  exact va_get (D := (dC, dI)) (ci := 4) (C := RX3) (T := TX3) (N := 6) hx hb hts (fun w h => List.mem_cons_of_mem _ (uG_X3 w h)) hown hK hP k hg rfl 0 (by decide) (hts _ (List.mem_cons_of_mem _ kw_825)) (fun _ h9 => h9) hf hdg kk
theorem fg_X0_56 {p : Program} {l : Launch} {e : Env} {R : Room} {s : State} {m : MethodId} {args : Array Value} {below : List Frame} {meth : Method} {c : Code} {H : Heap} {locs : List Loc} {cells slots : Nat} {Q : State → Prop} {cc : ByteArray} {pc : Nat} {ls : Array Slot} {rest : List Value} {y0 : MethodName} {c0 : ByteArray} {n0 : Nat} {r0 : Option FieldType} {dC : Nat → ClassId} {dI : Nat → Nat → Nat} {cB cI cJ cZ cS cO : ClassId} {b : Nat} {cs : CS} {i : Nat} {v : Int32} (hx : p.tables.exec = Jvm.exec) (hb : c.code = cc) (hts : ∀ w ∈ wsOf y0 c0 n0 r0, w.before args s = true) (hown : s.vm.findClass RX0 = some m.cls) (hK : va_K (dC, dI) vwCl [(cB, .byte), (cI, .int), (cJ, .long), (cZ, .boolean), (cS, .object "StreamQueries$Source"), (cO, .object "java/lang/Object")] s) (hP : va_P (dC, dI) vwCl (cW cB cI cJ cZ cS cO b cs) H) (hv : gI cs 4 133 i = some v) (hdg : decode cc pc = .ok (.getfield 56, 3)) (kk : W p l e R s m args below meth c H locs cells slots Q (F0 m (pc + 3) ls (.int v :: rest))) : W p l e R s m args below meth c H locs cells slots Q (F0 m pc ls (.ref (b + i) :: rest)) := by
  obtain ⟨h1, h2⟩ := gI_some hv
  obtain ⟨k, -, hg⟩ := cO_at (b := b) (cB := cB) (cI := cI) (cJ := cJ) (cZ := cZ) (cS := cS) (cO := cO) (by decide) h1
  have hf : (vL b cs i (32 * 4) (tyX 4))[5]? = some (.int v) := by
    show some (vV b cs 133 i 0) = _
    show some (Value.int (kI cs 133 i)) = _
    rw [h2]
  exact va_get (D := (dC, dI)) (ci := 4) (C := RX3) (T := TX3) (N := 6) hx hb hts (fun w h => List.mem_cons_of_mem _ (uG_X3 w h)) hown hK hP k hg rfl 5 (by decide) (hts _ (List.mem_cons_of_mem _ kw_840)) (fun _ h9 => h9) hf hdg kk
theorem fp_X0_56 {p : Program} {l : Launch} {e : Env} {R : Room} {s : State} {m : MethodId} {args : Array Value} {below : List Frame} {meth : Method} {c : Code} {H : Heap} {locs : List Loc} {cells slots : Nat} {Q : State → Prop} {cc : ByteArray} {pc : Nat} {ls : Array Slot} {rest : List Value} {y0 : MethodName} {c0 : ByteArray} {n0 : Nat} {r0 : Option FieldType} {dC : Nat → ClassId} {dI : Nat → Nat → Nat} {cB cI cJ cZ cS cO : ClassId} {b : Nat} {cs : CS} {A : Nat → Prop} {H0 : Heap} {cs1 : CS} {i : Nat} {v : Int32} (hx : p.tables.exec = Jvm.exec) (hb : c.code = cc) (hts : ∀ w ∈ wsOf y0 c0 n0 r0, w.before args s = true) (hown : s.vm.findClass RX0 = some m.cls) (hK : va_K (dC, dI) vwCl [(cB, .byte), (cI, .int), (cJ, .long), (cZ, .boolean), (cS, .object "StreamQueries$Source"), (cO, .object "java/lang/Object")] s) (hP : va_P (dC, dI) vwCl (cW cB cI cJ cZ cS cO b cs) H) (hD : va_D A (cW cB cI cJ cZ cS cO b cs)) (hS : va_S A H0 H locs) (hz : v = 0 ∨ v = 1) (hv : pI cs 4 133 i v = some cs1) (hdg : decode cc pc = .ok (.putfield 56, 3)) (kk : ∀ (H1 : Heap) (locs1 : List Loc), va_P (dC, dI) vwCl (cW cB cI cJ cZ cS cO b cs1) H1 → va_D A (cW cB cI cJ cZ cS cO b cs1) → va_S A H0 H1 locs1 → W p l e R s m args below meth c H1 locs1 cells slots Q (F0 m (pc + 3) ls rest)) : W p l e R s m args below meth c H locs cells slots Q (F0 m pc ls (.int v :: .ref (b + i) :: rest)) := by
  obtain ⟨h1, rfl⟩ := pI_some hv
  obtain ⟨k, hk, hg⟩ := cO_at (b := b) (cB := cB) (cI := cI) (cJ := cJ) (cZ := cZ) (cS := cS) (cO := cO) (by decide) h1
  have hset := cW_putF (f := 5) (y := 0) (v := .int v) (cs1 := sI cs 133 i v) (by decide) rfl hD hk rfl rfl rfl rfl rfl rfl (by show Value.int (u2 (kI cs) 133 i v 133 i) = _; rw [u2_s]) (fun z j w hn => by
    have e9 : kI (sI cs 133 i v) z j = kI cs z j := u2_n hn
    match w with
    | 0 => show Value.int (kI (sI cs 133 i v) z j) = Value.int (kI cs z j); rw [e9]
    | 1 => rfl
    | 2 => rfl
    | _ + 3 => rfl)
  refine va_put (D := (dC, dI)) (ci := 4) (v := .int v) (ty := .boolean) (C := RX3) (T := TX3) (N := 6) hx hb hts (fun w h => List.mem_cons_of_mem _ (uG_X3 w h)) tyX3 tyX3_ok nmX3 hown hK hP hD hS k hg rfl 5 (by decide) (hts _ (List.mem_cons_of_mem _ kw_840)) (fun _ h9 => h9) rfl (by decide +kernel) (nzN hz) (nzF hz) (by rw [vL_len]; decide) hdg (fun H1 l1 q1 q2 q3 => ?_)
  rw [hset] at q1 q2
  exact kk H1 l1 q1 q2 q3
theorem fg_X0_60 {p : Program} {l : Launch} {e : Env} {R : Room} {s : State} {m : MethodId} {args : Array Value} {below : List Frame} {meth : Method} {c : Code} {H : Heap} {locs : List Loc} {cells slots : Nat} {Q : State → Prop} {cc : ByteArray} {pc : Nat} {ls : Array Slot} {rest : List Value} {y0 : MethodName} {c0 : ByteArray} {n0 : Nat} {r0 : Option FieldType} {dC : Nat → ClassId} {dI : Nat → Nat → Nat} {cB cI cJ cZ cS cO : ClassId} {b : Nat} {cs : CS} {i : Nat} {v : Int32} (hx : p.tables.exec = Jvm.exec) (hb : c.code = cc) (hts : ∀ w ∈ wsOf y0 c0 n0 r0, w.before args s = true) (hown : s.vm.findClass RX0 = some m.cls) (hK : va_K (dC, dI) vwCl [(cB, .byte), (cI, .int), (cJ, .long), (cZ, .boolean), (cS, .object "StreamQueries$Source"), (cO, .object "java/lang/Object")] s) (hP : va_P (dC, dI) vwCl (cW cB cI cJ cZ cS cO b cs) H) (hv : gI cs 6 206 i = some v) (hdg : decode cc pc = .ok (.getfield 60, 3)) (kk : W p l e R s m args below meth c H locs cells slots Q (F0 m (pc + 3) ls (.int v :: rest))) : W p l e R s m args below meth c H locs cells slots Q (F0 m pc ls (.ref (b + i) :: rest)) := by
  obtain ⟨h1, h2⟩ := gI_some hv
  obtain ⟨k, -, hg⟩ := cO_at (b := b) (cB := cB) (cI := cI) (cJ := cJ) (cZ := cZ) (cS := cS) (cO := cO) (by decide) h1
  have hf : (vL b cs i (32 * 6) (tyX 6))[14]? = some (.int v) := by
    show some (vV b cs 206 i 0) = _
    show some (Value.int (kI cs 206 i)) = _
    rw [h2]
  exact va_get (D := (dC, dI)) (ci := 6) (C := RX5) (T := TX5) (N := 15) hx hb hts (fun w h => List.mem_cons_of_mem _ (uG_X5 w h)) hown hK hP k hg rfl 14 (by decide) (hts _ (List.mem_cons_of_mem _ kw_704)) (fun _ h9 => h9) hf hdg kk
theorem fp_X0_60 {p : Program} {l : Launch} {e : Env} {R : Room} {s : State} {m : MethodId} {args : Array Value} {below : List Frame} {meth : Method} {c : Code} {H : Heap} {locs : List Loc} {cells slots : Nat} {Q : State → Prop} {cc : ByteArray} {pc : Nat} {ls : Array Slot} {rest : List Value} {y0 : MethodName} {c0 : ByteArray} {n0 : Nat} {r0 : Option FieldType} {dC : Nat → ClassId} {dI : Nat → Nat → Nat} {cB cI cJ cZ cS cO : ClassId} {b : Nat} {cs : CS} {A : Nat → Prop} {H0 : Heap} {cs1 : CS} {i : Nat} {v : Int32} (hx : p.tables.exec = Jvm.exec) (hb : c.code = cc) (hts : ∀ w ∈ wsOf y0 c0 n0 r0, w.before args s = true) (hown : s.vm.findClass RX0 = some m.cls) (hK : va_K (dC, dI) vwCl [(cB, .byte), (cI, .int), (cJ, .long), (cZ, .boolean), (cS, .object "StreamQueries$Source"), (cO, .object "java/lang/Object")] s) (hP : va_P (dC, dI) vwCl (cW cB cI cJ cZ cS cO b cs) H) (hD : va_D A (cW cB cI cJ cZ cS cO b cs)) (hS : va_S A H0 H locs) (hz : v = 0 ∨ v = 1) (hv : pI cs 6 206 i v = some cs1) (hdg : decode cc pc = .ok (.putfield 60, 3)) (kk : ∀ (H1 : Heap) (locs1 : List Loc), va_P (dC, dI) vwCl (cW cB cI cJ cZ cS cO b cs1) H1 → va_D A (cW cB cI cJ cZ cS cO b cs1) → va_S A H0 H1 locs1 → W p l e R s m args below meth c H1 locs1 cells slots Q (F0 m (pc + 3) ls rest)) : W p l e R s m args below meth c H locs cells slots Q (F0 m pc ls (.int v :: .ref (b + i) :: rest)) := by
  obtain ⟨h1, rfl⟩ := pI_some hv
  obtain ⟨k, hk, hg⟩ := cO_at (b := b) (cB := cB) (cI := cI) (cJ := cJ) (cZ := cZ) (cS := cS) (cO := cO) (by decide) h1
  have hset := cW_putF (f := 14) (y := 0) (v := .int v) (cs1 := sI cs 206 i v) (by decide) rfl hD hk rfl rfl rfl rfl rfl rfl (by show Value.int (u2 (kI cs) 206 i v 206 i) = _; rw [u2_s]) (fun z j w hn => by
    have e9 : kI (sI cs 206 i v) z j = kI cs z j := u2_n hn
    match w with
    | 0 => show Value.int (kI (sI cs 206 i v) z j) = Value.int (kI cs z j); rw [e9]
    | 1 => rfl
    | 2 => rfl
    | _ + 3 => rfl)
  refine va_put (D := (dC, dI)) (ci := 6) (v := .int v) (ty := .boolean) (C := RX5) (T := TX5) (N := 15) hx hb hts (fun w h => List.mem_cons_of_mem _ (uG_X5 w h)) tyX5 tyX5_ok nmX5 hown hK hP hD hS k hg rfl 14 (by decide) (hts _ (List.mem_cons_of_mem _ kw_704)) (fun _ h9 => h9) rfl (by decide +kernel) (nzN hz) (nzF hz) (by rw [vL_len]; decide) hdg (fun H1 l1 q1 q2 q3 => ?_)
  rw [hset] at q1 q2
  exact kk H1 l1 q1 q2 q3
theorem fg_X0_65 {p : Program} {l : Launch} {e : Env} {R : Room} {s : State} {m : MethodId} {args : Array Value} {below : List Frame} {meth : Method} {c : Code} {H : Heap} {locs : List Loc} {cells slots : Nat} {Q : State → Prop} {cc : ByteArray} {pc : Nat} {ls : Array Slot} {rest : List Value} {y0 : MethodName} {c0 : ByteArray} {n0 : Nat} {r0 : Option FieldType} {dC : Nat → ClassId} {dI : Nat → Nat → Nat} {cB cI cJ cZ cS cO : ClassId} {b : Nat} {cs : CS} {i : Nat} {v : (Option Nat)} (hx : p.tables.exec = Jvm.exec) (hb : c.code = cc) (hts : ∀ w ∈ wsOf y0 c0 n0 r0, w.before args s = true) (hown : s.vm.findClass RX0 = some m.cls) (hK : va_K (dC, dI) vwCl [(cB, .byte), (cI, .int), (cJ, .long), (cZ, .boolean), (cS, .object "StreamQueries$Source"), (cO, .object "java/lang/Object")] s) (hP : va_P (dC, dI) vwCl (cW cB cI cJ cZ cS cO b cs) H) (hv : gR cs 4 130 i = some v) (hdg : decode cc pc = .ok (.getfield 65, 3)) (kk : W p l e R s m args below meth c H locs cells slots Q (F0 m (pc + 3) ls (rv b v :: rest))) : W p l e R s m args below meth c H locs cells slots Q (F0 m pc ls (.ref (b + i) :: rest)) := by
  obtain ⟨h1, h2⟩ := gR_some hv
  obtain ⟨k, -, hg⟩ := cO_at (b := b) (cB := cB) (cI := cI) (cJ := cJ) (cZ := cZ) (cS := cS) (cO := cO) (by decide) h1
  have hf : (vL b cs i (32 * 4) (tyX 4))[2]? = some (rv b v) := by
    show some (vV b cs 130 i 2) = _
    show some (rv b (kR cs 130 i)) = _
    rw [h2]
  exact va_get (D := (dC, dI)) (ci := 4) (C := RX3) (T := TX3) (N := 6) hx hb hts (fun w h => List.mem_cons_of_mem _ (uG_X3 w h)) hown hK hP k hg rfl 2 (by decide) (hts _ (List.mem_cons_of_mem _ kw_833)) (fun _ h9 => h9) hf hdg kk
theorem fp_X0_65 {p : Program} {l : Launch} {e : Env} {R : Room} {s : State} {m : MethodId} {args : Array Value} {below : List Frame} {meth : Method} {c : Code} {H : Heap} {locs : List Loc} {cells slots : Nat} {Q : State → Prop} {cc : ByteArray} {pc : Nat} {ls : Array Slot} {rest : List Value} {y0 : MethodName} {c0 : ByteArray} {n0 : Nat} {r0 : Option FieldType} {dC : Nat → ClassId} {dI : Nat → Nat → Nat} {cB cI cJ cZ cS cO : ClassId} {b : Nat} {cs : CS} {A : Nat → Prop} {H0 : Heap} {cs1 : CS} {i : Nat} {v : (Option Nat)} (hx : p.tables.exec = Jvm.exec) (hb : c.code = cc) (hts : ∀ w ∈ wsOf y0 c0 n0 r0, w.before args s = true) (hown : s.vm.findClass RX0 = some m.cls) (hK : va_K (dC, dI) vwCl [(cB, .byte), (cI, .int), (cJ, .long), (cZ, .boolean), (cS, .object "StreamQueries$Source"), (cO, .object "java/lang/Object")] s) (hP : va_P (dC, dI) vwCl (cW cB cI cJ cZ cS cO b cs) H) (hD : va_D A (cW cB cI cJ cZ cS cO b cs)) (hS : va_S A H0 H locs) (hv : pR cs 4 130 i v = some cs1) (hdg : decode cc pc = .ok (.putfield 65, 3)) (kk : ∀ (H1 : Heap) (locs1 : List Loc), va_P (dC, dI) vwCl (cW cB cI cJ cZ cS cO b cs1) H1 → va_D A (cW cB cI cJ cZ cS cO b cs1) → va_S A H0 H1 locs1 → W p l e R s m args below meth c H1 locs1 cells slots Q (F0 m (pc + 3) ls rest)) : W p l e R s m args below meth c H locs cells slots Q (F0 m pc ls (rv b v :: .ref (b + i) :: rest)) := by
  obtain ⟨h1, rfl⟩ := pR_some hv
  obtain ⟨k, hk, hg⟩ := cO_at (b := b) (cB := cB) (cI := cI) (cJ := cJ) (cZ := cZ) (cS := cS) (cO := cO) (by decide) h1
  have hset := cW_putF (f := 2) (y := 2) (v := rv b v) (cs1 := sR cs 130 i v) (by decide) rfl hD hk rfl rfl rfl rfl rfl rfl (by show rv b (u2 (kR cs) 130 i v 130 i) = _; rw [u2_s]) (fun z j w hn => by
    have e9 : kR (sR cs 130 i v) z j = kR cs z j := u2_n hn
    match w with
    | 0 => rfl
    | 1 => rfl
    | 2 => show rv b (kR (sR cs 130 i v) z j) = rv b (kR cs z j); rw [e9]
    | _ + 3 => rfl)
  refine va_put (D := (dC, dI)) (ci := 4) (v := rv b v) (ty := .object "StreamQueries$Columns") (C := RX3) (T := TX3) (N := 6) hx hb hts (fun w h => List.mem_cons_of_mem _ (uG_X3 w h)) tyX3 tyX3_ok nmX3 hown hK hP hD hS k hg rfl 2 (by decide) (hts _ (List.mem_cons_of_mem _ kw_833)) (fun _ h9 => h9) rfl (by decide +kernel) (rv_nar b v _) (rv_fit b v _) (by rw [vL_len]; decide) hdg (fun H1 l1 q1 q2 q3 => ?_)
  rw [hset] at q1 q2
  exact kk H1 l1 q1 q2 q3
theorem fg_X0_73 {p : Program} {l : Launch} {e : Env} {R : Room} {s : State} {m : MethodId} {args : Array Value} {below : List Frame} {meth : Method} {c : Code} {H : Heap} {locs : List Loc} {cells slots : Nat} {Q : State → Prop} {cc : ByteArray} {pc : Nat} {ls : Array Slot} {rest : List Value} {y0 : MethodName} {c0 : ByteArray} {n0 : Nat} {r0 : Option FieldType} {dC : Nat → ClassId} {dI : Nat → Nat → Nat} {cB cI cJ cZ cS cO : ClassId} {b : Nat} {cs : CS} {i : Nat} {v : Int32} (hx : p.tables.exec = Jvm.exec) (hb : c.code = cc) (hts : ∀ w ∈ wsOf y0 c0 n0 r0, w.before args s = true) (hown : s.vm.findClass RX0 = some m.cls) (hK : va_K (dC, dI) vwCl [(cB, .byte), (cI, .int), (cJ, .long), (cZ, .boolean), (cS, .object "StreamQueries$Source"), (cO, .object "java/lang/Object")] s) (hP : va_P (dC, dI) vwCl (cW cB cI cJ cZ cS cO b cs) H) (hv : gI cs 10 324 i = some v) (hdg : decode cc pc = .ok (.getfield 73, 3)) (kk : W p l e R s m args below meth c H locs cells slots Q (F0 m (pc + 3) ls (.int v :: rest))) : W p l e R s m args below meth c H locs cells slots Q (F0 m pc ls (.ref (b + i) :: rest)) := by
  obtain ⟨h1, h2⟩ := gI_some hv
  obtain ⟨k, -, hg⟩ := cO_at (b := b) (cB := cB) (cI := cI) (cJ := cJ) (cZ := cZ) (cS := cS) (cO := cO) (by decide) h1
  have hf : (vL b cs i (32 * 10) (tyX 10))[4]? = some (.int v) := by
    show some (vV b cs 324 i 0) = _
    show some (Value.int (kI cs 324 i)) = _
    rw [h2]
  exact va_get (D := (dC, dI)) (ci := 10) (C := RX9) (T := TX9) (N := 12) hx hb hts (fun w h => List.mem_cons_of_mem _ (uG_X9 w h)) hown hK hP k hg rfl 4 (by decide) (hts _ (List.mem_cons_of_mem _ kw_865)) (fun _ h9 => h9) hf hdg kk
theorem fp_X0_73 {p : Program} {l : Launch} {e : Env} {R : Room} {s : State} {m : MethodId} {args : Array Value} {below : List Frame} {meth : Method} {c : Code} {H : Heap} {locs : List Loc} {cells slots : Nat} {Q : State → Prop} {cc : ByteArray} {pc : Nat} {ls : Array Slot} {rest : List Value} {y0 : MethodName} {c0 : ByteArray} {n0 : Nat} {r0 : Option FieldType} {dC : Nat → ClassId} {dI : Nat → Nat → Nat} {cB cI cJ cZ cS cO : ClassId} {b : Nat} {cs : CS} {A : Nat → Prop} {H0 : Heap} {cs1 : CS} {i : Nat} {v : Int32} (hx : p.tables.exec = Jvm.exec) (hb : c.code = cc) (hts : ∀ w ∈ wsOf y0 c0 n0 r0, w.before args s = true) (hown : s.vm.findClass RX0 = some m.cls) (hK : va_K (dC, dI) vwCl [(cB, .byte), (cI, .int), (cJ, .long), (cZ, .boolean), (cS, .object "StreamQueries$Source"), (cO, .object "java/lang/Object")] s) (hP : va_P (dC, dI) vwCl (cW cB cI cJ cZ cS cO b cs) H) (hD : va_D A (cW cB cI cJ cZ cS cO b cs)) (hS : va_S A H0 H locs) (hz : v = 0 ∨ v = 1) (hv : pI cs 10 324 i v = some cs1) (hdg : decode cc pc = .ok (.putfield 73, 3)) (kk : ∀ (H1 : Heap) (locs1 : List Loc), va_P (dC, dI) vwCl (cW cB cI cJ cZ cS cO b cs1) H1 → va_D A (cW cB cI cJ cZ cS cO b cs1) → va_S A H0 H1 locs1 → W p l e R s m args below meth c H1 locs1 cells slots Q (F0 m (pc + 3) ls rest)) : W p l e R s m args below meth c H locs cells slots Q (F0 m pc ls (.int v :: .ref (b + i) :: rest)) := by
  obtain ⟨h1, rfl⟩ := pI_some hv
  obtain ⟨k, hk, hg⟩ := cO_at (b := b) (cB := cB) (cI := cI) (cJ := cJ) (cZ := cZ) (cS := cS) (cO := cO) (by decide) h1
  have hset := cW_putF (f := 4) (y := 0) (v := .int v) (cs1 := sI cs 324 i v) (by decide) rfl hD hk rfl rfl rfl rfl rfl rfl (by show Value.int (u2 (kI cs) 324 i v 324 i) = _; rw [u2_s]) (fun z j w hn => by
    have e9 : kI (sI cs 324 i v) z j = kI cs z j := u2_n hn
    match w with
    | 0 => show Value.int (kI (sI cs 324 i v) z j) = Value.int (kI cs z j); rw [e9]
    | 1 => rfl
    | 2 => rfl
    | _ + 3 => rfl)
  refine va_put (D := (dC, dI)) (ci := 10) (v := .int v) (ty := .boolean) (C := RX9) (T := TX9) (N := 12) hx hb hts (fun w h => List.mem_cons_of_mem _ (uG_X9 w h)) tyX9 tyX9_ok nmX9 hown hK hP hD hS k hg rfl 4 (by decide) (hts _ (List.mem_cons_of_mem _ kw_865)) (fun _ h9 => h9) rfl (by decide +kernel) (nzN hz) (nzF hz) (by rw [vL_len]; decide) hdg (fun H1 l1 q1 q2 q3 => ?_)
  rw [hset] at q1 q2
  exact kk H1 l1 q1 q2 q3
theorem fg_X0_80 {p : Program} {l : Launch} {e : Env} {R : Room} {s : State} {m : MethodId} {args : Array Value} {below : List Frame} {meth : Method} {c : Code} {H : Heap} {locs : List Loc} {cells slots : Nat} {Q : State → Prop} {cc : ByteArray} {pc : Nat} {ls : Array Slot} {rest : List Value} {y0 : MethodName} {c0 : ByteArray} {n0 : Nat} {r0 : Option FieldType} {dC : Nat → ClassId} {dI : Nat → Nat → Nat} {cB cI cJ cZ cS cO : ClassId} {b : Nat} {cs : CS} {i : Nat} {v : Int32} (hx : p.tables.exec = Jvm.exec) (hb : c.code = cc) (hts : ∀ w ∈ wsOf y0 c0 n0 r0, w.before args s = true) (hown : s.vm.findClass RX0 = some m.cls) (hK : va_K (dC, dI) vwCl [(cB, .byte), (cI, .int), (cJ, .long), (cZ, .boolean), (cS, .object "StreamQueries$Source"), (cO, .object "java/lang/Object")] s) (hP : va_P (dC, dI) vwCl (cW cB cI cJ cZ cS cO b cs) H) (hv : gI cs 6 204 i = some v) (hdg : decode cc pc = .ok (.getfield 80, 3)) (kk : W p l e R s m args below meth c H locs cells slots Q (F0 m (pc + 3) ls (.int v :: rest))) : W p l e R s m args below meth c H locs cells slots Q (F0 m pc ls (.ref (b + i) :: rest)) := by
  obtain ⟨h1, h2⟩ := gI_some hv
  obtain ⟨k, -, hg⟩ := cO_at (b := b) (cB := cB) (cI := cI) (cJ := cJ) (cZ := cZ) (cS := cS) (cO := cO) (by decide) h1
  have hf : (vL b cs i (32 * 6) (tyX 6))[12]? = some (.int v) := by
    show some (vV b cs 204 i 0) = _
    show some (Value.int (kI cs 204 i)) = _
    rw [h2]
  exact va_get (D := (dC, dI)) (ci := 6) (C := RX5) (T := TX5) (N := 15) hx hb hts (fun w h => List.mem_cons_of_mem _ (uG_X5 w h)) hown hK hP k hg rfl 12 (by decide) (hts _ (List.mem_cons_of_mem _ kw_700)) (fun _ h9 => h9) hf hdg kk
theorem fp_X0_80 {p : Program} {l : Launch} {e : Env} {R : Room} {s : State} {m : MethodId} {args : Array Value} {below : List Frame} {meth : Method} {c : Code} {H : Heap} {locs : List Loc} {cells slots : Nat} {Q : State → Prop} {cc : ByteArray} {pc : Nat} {ls : Array Slot} {rest : List Value} {y0 : MethodName} {c0 : ByteArray} {n0 : Nat} {r0 : Option FieldType} {dC : Nat → ClassId} {dI : Nat → Nat → Nat} {cB cI cJ cZ cS cO : ClassId} {b : Nat} {cs : CS} {A : Nat → Prop} {H0 : Heap} {cs1 : CS} {i : Nat} {v : Int32} (hx : p.tables.exec = Jvm.exec) (hb : c.code = cc) (hts : ∀ w ∈ wsOf y0 c0 n0 r0, w.before args s = true) (hown : s.vm.findClass RX0 = some m.cls) (hK : va_K (dC, dI) vwCl [(cB, .byte), (cI, .int), (cJ, .long), (cZ, .boolean), (cS, .object "StreamQueries$Source"), (cO, .object "java/lang/Object")] s) (hP : va_P (dC, dI) vwCl (cW cB cI cJ cZ cS cO b cs) H) (hD : va_D A (cW cB cI cJ cZ cS cO b cs)) (hS : va_S A H0 H locs) (hv : pI cs 6 204 i v = some cs1) (hdg : decode cc pc = .ok (.putfield 80, 3)) (kk : ∀ (H1 : Heap) (locs1 : List Loc), va_P (dC, dI) vwCl (cW cB cI cJ cZ cS cO b cs1) H1 → va_D A (cW cB cI cJ cZ cS cO b cs1) → va_S A H0 H1 locs1 → W p l e R s m args below meth c H1 locs1 cells slots Q (F0 m (pc + 3) ls rest)) : W p l e R s m args below meth c H locs cells slots Q (F0 m pc ls (.int v :: .ref (b + i) :: rest)) := by
  obtain ⟨h1, rfl⟩ := pI_some hv
  obtain ⟨k, hk, hg⟩ := cO_at (b := b) (cB := cB) (cI := cI) (cJ := cJ) (cZ := cZ) (cS := cS) (cO := cO) (by decide) h1
  have hset := cW_putF (f := 12) (y := 0) (v := .int v) (cs1 := sI cs 204 i v) (by decide) rfl hD hk rfl rfl rfl rfl rfl rfl (by show Value.int (u2 (kI cs) 204 i v 204 i) = _; rw [u2_s]) (fun z j w hn => by
    have e9 : kI (sI cs 204 i v) z j = kI cs z j := u2_n hn
    match w with
    | 0 => show Value.int (kI (sI cs 204 i v) z j) = Value.int (kI cs z j); rw [e9]
    | 1 => rfl
    | 2 => rfl
    | _ + 3 => rfl)
  refine va_put (D := (dC, dI)) (ci := 6) (v := .int v) (ty := .int) (C := RX5) (T := TX5) (N := 15) hx hb hts (fun w h => List.mem_cons_of_mem _ (uG_X5 w h)) tyX5 tyX5_ok nmX5 hown hK hP hD hS k hg rfl 12 (by decide) (hts _ (List.mem_cons_of_mem _ kw_700)) (fun _ h9 => h9) rfl (by decide +kernel) rfl rfl (by rw [vL_len]; decide) hdg (fun H1 l1 q1 q2 q3 => ?_)
  rw [hset] at q1 q2
  exact kk H1 l1 q1 q2 q3
theorem fg_X0_83 {p : Program} {l : Launch} {e : Env} {R : Room} {s : State} {m : MethodId} {args : Array Value} {below : List Frame} {meth : Method} {c : Code} {H : Heap} {locs : List Loc} {cells slots : Nat} {Q : State → Prop} {cc : ByteArray} {pc : Nat} {ls : Array Slot} {rest : List Value} {y0 : MethodName} {c0 : ByteArray} {n0 : Nat} {r0 : Option FieldType} {dC : Nat → ClassId} {dI : Nat → Nat → Nat} {cB cI cJ cZ cS cO : ClassId} {b : Nat} {cs : CS} {i : Nat} {v : Int32} (hx : p.tables.exec = Jvm.exec) (hb : c.code = cc) (hts : ∀ w ∈ wsOf y0 c0 n0 r0, w.before args s = true) (hown : s.vm.findClass RX0 = some m.cls) (hK : va_K (dC, dI) vwCl [(cB, .byte), (cI, .int), (cJ, .long), (cZ, .boolean), (cS, .object "StreamQueries$Source"), (cO, .object "java/lang/Object")] s) (hP : va_P (dC, dI) vwCl (cW cB cI cJ cZ cS cO b cs) H) (hv : gI cs 6 205 i = some v) (hdg : decode cc pc = .ok (.getfield 83, 3)) (kk : W p l e R s m args below meth c H locs cells slots Q (F0 m (pc + 3) ls (.int v :: rest))) : W p l e R s m args below meth c H locs cells slots Q (F0 m pc ls (.ref (b + i) :: rest)) := by
  obtain ⟨h1, h2⟩ := gI_some hv
  obtain ⟨k, -, hg⟩ := cO_at (b := b) (cB := cB) (cI := cI) (cJ := cJ) (cZ := cZ) (cS := cS) (cO := cO) (by decide) h1
  have hf : (vL b cs i (32 * 6) (tyX 6))[13]? = some (.int v) := by
    show some (vV b cs 205 i 0) = _
    show some (Value.int (kI cs 205 i)) = _
    rw [h2]
  exact va_get (D := (dC, dI)) (ci := 6) (C := RX5) (T := TX5) (N := 15) hx hb hts (fun w h => List.mem_cons_of_mem _ (uG_X5 w h)) hown hK hP k hg rfl 13 (by decide) (hts _ (List.mem_cons_of_mem _ kw_702)) (fun _ h9 => h9) hf hdg kk
theorem fp_X0_83 {p : Program} {l : Launch} {e : Env} {R : Room} {s : State} {m : MethodId} {args : Array Value} {below : List Frame} {meth : Method} {c : Code} {H : Heap} {locs : List Loc} {cells slots : Nat} {Q : State → Prop} {cc : ByteArray} {pc : Nat} {ls : Array Slot} {rest : List Value} {y0 : MethodName} {c0 : ByteArray} {n0 : Nat} {r0 : Option FieldType} {dC : Nat → ClassId} {dI : Nat → Nat → Nat} {cB cI cJ cZ cS cO : ClassId} {b : Nat} {cs : CS} {A : Nat → Prop} {H0 : Heap} {cs1 : CS} {i : Nat} {v : Int32} (hx : p.tables.exec = Jvm.exec) (hb : c.code = cc) (hts : ∀ w ∈ wsOf y0 c0 n0 r0, w.before args s = true) (hown : s.vm.findClass RX0 = some m.cls) (hK : va_K (dC, dI) vwCl [(cB, .byte), (cI, .int), (cJ, .long), (cZ, .boolean), (cS, .object "StreamQueries$Source"), (cO, .object "java/lang/Object")] s) (hP : va_P (dC, dI) vwCl (cW cB cI cJ cZ cS cO b cs) H) (hD : va_D A (cW cB cI cJ cZ cS cO b cs)) (hS : va_S A H0 H locs) (hv : pI cs 6 205 i v = some cs1) (hdg : decode cc pc = .ok (.putfield 83, 3)) (kk : ∀ (H1 : Heap) (locs1 : List Loc), va_P (dC, dI) vwCl (cW cB cI cJ cZ cS cO b cs1) H1 → va_D A (cW cB cI cJ cZ cS cO b cs1) → va_S A H0 H1 locs1 → W p l e R s m args below meth c H1 locs1 cells slots Q (F0 m (pc + 3) ls rest)) : W p l e R s m args below meth c H locs cells slots Q (F0 m pc ls (.int v :: .ref (b + i) :: rest)) := by
  obtain ⟨h1, rfl⟩ := pI_some hv
  obtain ⟨k, hk, hg⟩ := cO_at (b := b) (cB := cB) (cI := cI) (cJ := cJ) (cZ := cZ) (cS := cS) (cO := cO) (by decide) h1
  have hset := cW_putF (f := 13) (y := 0) (v := .int v) (cs1 := sI cs 205 i v) (by decide) rfl hD hk rfl rfl rfl rfl rfl rfl (by show Value.int (u2 (kI cs) 205 i v 205 i) = _; rw [u2_s]) (fun z j w hn => by
    have e9 : kI (sI cs 205 i v) z j = kI cs z j := u2_n hn
    match w with
    | 0 => show Value.int (kI (sI cs 205 i v) z j) = Value.int (kI cs z j); rw [e9]
    | 1 => rfl
    | 2 => rfl
    | _ + 3 => rfl)
  refine va_put (D := (dC, dI)) (ci := 6) (v := .int v) (ty := .int) (C := RX5) (T := TX5) (N := 15) hx hb hts (fun w h => List.mem_cons_of_mem _ (uG_X5 w h)) tyX5 tyX5_ok nmX5 hown hK hP hD hS k hg rfl 13 (by decide) (hts _ (List.mem_cons_of_mem _ kw_702)) (fun _ h9 => h9) rfl (by decide +kernel) rfl rfl (by rw [vL_len]; decide) hdg (fun H1 l1 q1 q2 q3 => ?_)
  rw [hset] at q1 q2
  exact kk H1 l1 q1 q2 q3
theorem fg_X0_90 {p : Program} {l : Launch} {e : Env} {R : Room} {s : State} {m : MethodId} {args : Array Value} {below : List Frame} {meth : Method} {c : Code} {H : Heap} {locs : List Loc} {cells slots : Nat} {Q : State → Prop} {cc : ByteArray} {pc : Nat} {ls : Array Slot} {rest : List Value} {y0 : MethodName} {c0 : ByteArray} {n0 : Nat} {r0 : Option FieldType} {dC : Nat → ClassId} {dI : Nat → Nat → Nat} {cB cI cJ cZ cS cO : ClassId} {b : Nat} {cs : CS} {i : Nat} {v : (Option Nat)} (hx : p.tables.exec = Jvm.exec) (hb : c.code = cc) (hts : ∀ w ∈ wsOf y0 c0 n0 r0, w.before args s = true) (hown : s.vm.findClass RX0 = some m.cls) (hK : va_K (dC, dI) vwCl [(cB, .byte), (cI, .int), (cJ, .long), (cZ, .boolean), (cS, .object "StreamQueries$Source"), (cO, .object "java/lang/Object")] s) (hP : va_P (dC, dI) vwCl (cW cB cI cJ cZ cS cO b cs) H) (hv : gR cs 4 129 i = some v) (hdg : decode cc pc = .ok (.getfield 90, 3)) (kk : W p l e R s m args below meth c H locs cells slots Q (F0 m (pc + 3) ls (rv b v :: rest))) : W p l e R s m args below meth c H locs cells slots Q (F0 m pc ls (.ref (b + i) :: rest)) := by
  obtain ⟨h1, h2⟩ := gR_some hv
  obtain ⟨k, -, hg⟩ := cO_at (b := b) (cB := cB) (cI := cI) (cJ := cJ) (cZ := cZ) (cS := cS) (cO := cO) (by decide) h1
  have hf : (vL b cs i (32 * 4) (tyX 4))[1]? = some (rv b v) := by
    show some (vV b cs 129 i 2) = _
    show some (rv b (kR cs 129 i)) = _
    rw [h2]
  exact va_get (D := (dC, dI)) (ci := 4) (C := RX3) (T := TX3) (N := 6) hx hb hts (fun w h => List.mem_cons_of_mem _ (uG_X3 w h)) hown hK hP k hg rfl 1 (by decide) (hts _ (List.mem_cons_of_mem _ kw_830)) (fun _ h9 => h9) hf hdg kk
theorem fg_X0_93 {p : Program} {l : Launch} {e : Env} {R : Room} {s : State} {m : MethodId} {args : Array Value} {below : List Frame} {meth : Method} {c : Code} {H : Heap} {locs : List Loc} {cells slots : Nat} {Q : State → Prop} {cc : ByteArray} {pc : Nat} {ls : Array Slot} {rest : List Value} {y0 : MethodName} {c0 : ByteArray} {n0 : Nat} {r0 : Option FieldType} {dC : Nat → ClassId} {dI : Nat → Nat → Nat} {cB cI cJ cZ cS cO : ClassId} {b : Nat} {cs : CS} {i : Nat} {v : (Option Nat)} (hx : p.tables.exec = Jvm.exec) (hb : c.code = cc) (hts : ∀ w ∈ wsOf y0 c0 n0 r0, w.before args s = true) (hown : s.vm.findClass RX0 = some m.cls) (hK : va_K (dC, dI) vwCl [(cB, .byte), (cI, .int), (cJ, .long), (cZ, .boolean), (cS, .object "StreamQueries$Source"), (cO, .object "java/lang/Object")] s) (hP : va_P (dC, dI) vwCl (cW cB cI cJ cZ cS cO b cs) H) (hv : gR cs 6 194 i = some v) (hdg : decode cc pc = .ok (.getfield 93, 3)) (kk : W p l e R s m args below meth c H locs cells slots Q (F0 m (pc + 3) ls (rv b v :: rest))) : W p l e R s m args below meth c H locs cells slots Q (F0 m pc ls (.ref (b + i) :: rest)) := by
  obtain ⟨h1, h2⟩ := gR_some hv
  obtain ⟨k, -, hg⟩ := cO_at (b := b) (cB := cB) (cI := cI) (cJ := cJ) (cZ := cZ) (cS := cS) (cO := cO) (by decide) h1
  have hf : (vL b cs i (32 * 6) (tyX 6))[2]? = some (rv b v) := by
    show some (vV b cs 194 i 2) = _
    show some (rv b (kR cs 194 i)) = _
    rw [h2]
  exact va_get (D := (dC, dI)) (ci := 6) (C := RX5) (T := TX5) (N := 15) hx hb hts (fun w h => List.mem_cons_of_mem _ (uG_X5 w h)) hown hK hP k hg rfl 2 (by decide) (hts _ (List.mem_cons_of_mem _ kw_662)) (fun _ h9 => h9) hf hdg kk
theorem fg_X0_100 {p : Program} {l : Launch} {e : Env} {R : Room} {s : State} {m : MethodId} {args : Array Value} {below : List Frame} {meth : Method} {c : Code} {H : Heap} {locs : List Loc} {cells slots : Nat} {Q : State → Prop} {cc : ByteArray} {pc : Nat} {ls : Array Slot} {rest : List Value} {y0 : MethodName} {c0 : ByteArray} {n0 : Nat} {r0 : Option FieldType} {dC : Nat → ClassId} {dI : Nat → Nat → Nat} {cB cI cJ cZ cS cO : ClassId} {b : Nat} {cs : CS} {i : Nat} {v : Int32} (hx : p.tables.exec = Jvm.exec) (hb : c.code = cc) (hts : ∀ w ∈ wsOf y0 c0 n0 r0, w.before args s = true) (hown : s.vm.findClass RX0 = some m.cls) (hK : va_K (dC, dI) vwCl [(cB, .byte), (cI, .int), (cJ, .long), (cZ, .boolean), (cS, .object "StreamQueries$Source"), (cO, .object "java/lang/Object")] s) (hP : va_P (dC, dI) vwCl (cW cB cI cJ cZ cS cO b cs) H) (hv : gI cs 4 131 i = some v) (hdg : decode cc pc = .ok (.getfield 100, 3)) (kk : W p l e R s m args below meth c H locs cells slots Q (F0 m (pc + 3) ls (.int v :: rest))) : W p l e R s m args below meth c H locs cells slots Q (F0 m pc ls (.ref (b + i) :: rest)) := by
  obtain ⟨h1, h2⟩ := gI_some hv
  obtain ⟨k, -, hg⟩ := cO_at (b := b) (cB := cB) (cI := cI) (cJ := cJ) (cZ := cZ) (cS := cS) (cO := cO) (by decide) h1
  have hf : (vL b cs i (32 * 4) (tyX 4))[3]? = some (.int v) := by
    show some (vV b cs 131 i 0) = _
    show some (Value.int (kI cs 131 i)) = _
    rw [h2]
  exact va_get (D := (dC, dI)) (ci := 4) (C := RX3) (T := TX3) (N := 6) hx hb hts (fun w h => List.mem_cons_of_mem _ (uG_X3 w h)) hown hK hP k hg rfl 3 (by decide) (hts _ (List.mem_cons_of_mem _ kw_836)) (fun _ h9 => h9) hf hdg kk
theorem fp_X0_100 {p : Program} {l : Launch} {e : Env} {R : Room} {s : State} {m : MethodId} {args : Array Value} {below : List Frame} {meth : Method} {c : Code} {H : Heap} {locs : List Loc} {cells slots : Nat} {Q : State → Prop} {cc : ByteArray} {pc : Nat} {ls : Array Slot} {rest : List Value} {y0 : MethodName} {c0 : ByteArray} {n0 : Nat} {r0 : Option FieldType} {dC : Nat → ClassId} {dI : Nat → Nat → Nat} {cB cI cJ cZ cS cO : ClassId} {b : Nat} {cs : CS} {A : Nat → Prop} {H0 : Heap} {cs1 : CS} {i : Nat} {v : Int32} (hx : p.tables.exec = Jvm.exec) (hb : c.code = cc) (hts : ∀ w ∈ wsOf y0 c0 n0 r0, w.before args s = true) (hown : s.vm.findClass RX0 = some m.cls) (hK : va_K (dC, dI) vwCl [(cB, .byte), (cI, .int), (cJ, .long), (cZ, .boolean), (cS, .object "StreamQueries$Source"), (cO, .object "java/lang/Object")] s) (hP : va_P (dC, dI) vwCl (cW cB cI cJ cZ cS cO b cs) H) (hD : va_D A (cW cB cI cJ cZ cS cO b cs)) (hS : va_S A H0 H locs) (hv : pI cs 4 131 i v = some cs1) (hdg : decode cc pc = .ok (.putfield 100, 3)) (kk : ∀ (H1 : Heap) (locs1 : List Loc), va_P (dC, dI) vwCl (cW cB cI cJ cZ cS cO b cs1) H1 → va_D A (cW cB cI cJ cZ cS cO b cs1) → va_S A H0 H1 locs1 → W p l e R s m args below meth c H1 locs1 cells slots Q (F0 m (pc + 3) ls rest)) : W p l e R s m args below meth c H locs cells slots Q (F0 m pc ls (.int v :: .ref (b + i) :: rest)) := by
  obtain ⟨h1, rfl⟩ := pI_some hv
  obtain ⟨k, hk, hg⟩ := cO_at (b := b) (cB := cB) (cI := cI) (cJ := cJ) (cZ := cZ) (cS := cS) (cO := cO) (by decide) h1
  have hset := cW_putF (f := 3) (y := 0) (v := .int v) (cs1 := sI cs 131 i v) (by decide) rfl hD hk rfl rfl rfl rfl rfl rfl (by show Value.int (u2 (kI cs) 131 i v 131 i) = _; rw [u2_s]) (fun z j w hn => by
    have e9 : kI (sI cs 131 i v) z j = kI cs z j := u2_n hn
    match w with
    | 0 => show Value.int (kI (sI cs 131 i v) z j) = Value.int (kI cs z j); rw [e9]
    | 1 => rfl
    | 2 => rfl
    | _ + 3 => rfl)
  refine va_put (D := (dC, dI)) (ci := 4) (v := .int v) (ty := .int) (C := RX3) (T := TX3) (N := 6) hx hb hts (fun w h => List.mem_cons_of_mem _ (uG_X3 w h)) tyX3 tyX3_ok nmX3 hown hK hP hD hS k hg rfl 3 (by decide) (hts _ (List.mem_cons_of_mem _ kw_836)) (fun _ h9 => h9) rfl (by decide +kernel) rfl rfl (by rw [vL_len]; decide) hdg (fun H1 l1 q1 q2 q3 => ?_)
  rw [hset] at q1 q2
  exact kk H1 l1 q1 q2 q3
theorem fg_X0_103 {p : Program} {l : Launch} {e : Env} {R : Room} {s : State} {m : MethodId} {args : Array Value} {below : List Frame} {meth : Method} {c : Code} {H : Heap} {locs : List Loc} {cells slots : Nat} {Q : State → Prop} {cc : ByteArray} {pc : Nat} {ls : Array Slot} {rest : List Value} {y0 : MethodName} {c0 : ByteArray} {n0 : Nat} {r0 : Option FieldType} {dC : Nat → ClassId} {dI : Nat → Nat → Nat} {cB cI cJ cZ cS cO : ClassId} {b : Nat} {cs : CS} {i : Nat} {v : (Option Nat)} (hx : p.tables.exec = Jvm.exec) (hb : c.code = cc) (hts : ∀ w ∈ wsOf y0 c0 n0 r0, w.before args s = true) (hown : s.vm.findClass RX0 = some m.cls) (hK : va_K (dC, dI) vwCl [(cB, .byte), (cI, .int), (cJ, .long), (cZ, .boolean), (cS, .object "StreamQueries$Source"), (cO, .object "java/lang/Object")] s) (hP : va_P (dC, dI) vwCl (cW cB cI cJ cZ cS cO b cs) H) (hv : gR cs 1 37 i = some v) (hdg : decode cc pc = .ok (.getfield 103, 3)) (kk : W p l e R s m args below meth c H locs cells slots Q (F0 m (pc + 3) ls (rv b v :: rest))) : W p l e R s m args below meth c H locs cells slots Q (F0 m pc ls (.ref (b + i) :: rest)) := by
  obtain ⟨h1, h2⟩ := gR_some hv
  obtain ⟨k, -, hg⟩ := cO_at (b := b) (cB := cB) (cI := cI) (cJ := cJ) (cZ := cZ) (cS := cS) (cO := cO) (by decide) h1
  have hf : (vL b cs i (32 * 1) (tyX 1))[5]? = some (rv b v) := by
    show some (vV b cs 37 i 2) = _
    show some (rv b (kR cs 37 i)) = _
    rw [h2]
  exact va_get (D := (dC, dI)) (ci := 1) (C := RX0) (T := TX0) (N := 6) hx hb hts (fun w h => List.mem_cons_of_mem _ (uG_X0 w h)) hown hK hP k hg rfl 5 (by decide) (hts _ (List.mem_cons_of_mem _ kw_1156)) (fun _ h9 => h9) hf hdg kk
theorem fp_X0_103 {p : Program} {l : Launch} {e : Env} {R : Room} {s : State} {m : MethodId} {args : Array Value} {below : List Frame} {meth : Method} {c : Code} {H : Heap} {locs : List Loc} {cells slots : Nat} {Q : State → Prop} {cc : ByteArray} {pc : Nat} {ls : Array Slot} {rest : List Value} {y0 : MethodName} {c0 : ByteArray} {n0 : Nat} {r0 : Option FieldType} {dC : Nat → ClassId} {dI : Nat → Nat → Nat} {cB cI cJ cZ cS cO : ClassId} {b : Nat} {cs : CS} {A : Nat → Prop} {H0 : Heap} {cs1 : CS} {i : Nat} {v : (Option Nat)} (hx : p.tables.exec = Jvm.exec) (hb : c.code = cc) (hts : ∀ w ∈ wsOf y0 c0 n0 r0, w.before args s = true) (hown : s.vm.findClass RX0 = some m.cls) (hK : va_K (dC, dI) vwCl [(cB, .byte), (cI, .int), (cJ, .long), (cZ, .boolean), (cS, .object "StreamQueries$Source"), (cO, .object "java/lang/Object")] s) (hP : va_P (dC, dI) vwCl (cW cB cI cJ cZ cS cO b cs) H) (hD : va_D A (cW cB cI cJ cZ cS cO b cs)) (hS : va_S A H0 H locs) (hv : pR cs 1 37 i v = some cs1) (hdg : decode cc pc = .ok (.putfield 103, 3)) (kk : ∀ (H1 : Heap) (locs1 : List Loc), va_P (dC, dI) vwCl (cW cB cI cJ cZ cS cO b cs1) H1 → va_D A (cW cB cI cJ cZ cS cO b cs1) → va_S A H0 H1 locs1 → W p l e R s m args below meth c H1 locs1 cells slots Q (F0 m (pc + 3) ls rest)) : W p l e R s m args below meth c H locs cells slots Q (F0 m pc ls (rv b v :: .ref (b + i) :: rest)) := by
  obtain ⟨h1, rfl⟩ := pR_some hv
  obtain ⟨k, hk, hg⟩ := cO_at (b := b) (cB := cB) (cI := cI) (cJ := cJ) (cZ := cZ) (cS := cS) (cO := cO) (by decide) h1
  have hset := cW_putF (f := 5) (y := 2) (v := rv b v) (cs1 := sR cs 37 i v) (by decide) rfl hD hk rfl rfl rfl rfl rfl rfl (by show rv b (u2 (kR cs) 37 i v 37 i) = _; rw [u2_s]) (fun z j w hn => by
    have e9 : kR (sR cs 37 i v) z j = kR cs z j := u2_n hn
    match w with
    | 0 => rfl
    | 1 => rfl
    | 2 => show rv b (kR (sR cs 37 i v) z j) = rv b (kR cs z j); rw [e9]
    | _ + 3 => rfl)
  refine va_put (D := (dC, dI)) (ci := 1) (v := rv b v) (ty := .object "StreamQueries$Columns") (C := RX0) (T := TX0) (N := 6) hx hb hts (fun w h => List.mem_cons_of_mem _ (uG_X0 w h)) tyX0 tyX0_ok nmX0 hown hK hP hD hS k hg rfl 5 (by decide) (hts _ (List.mem_cons_of_mem _ kw_1156)) (fun _ h9 => h9) rfl (by decide +kernel) (rv_nar b v _) (rv_fit b v _) (by rw [vL_len]; decide) hdg (fun H1 l1 q1 q2 q3 => ?_)
  rw [hset] at q1 q2
  exact kk H1 l1 q1 q2 q3
theorem fg_X0_110 {p : Program} {l : Launch} {e : Env} {R : Room} {s : State} {m : MethodId} {args : Array Value} {below : List Frame} {meth : Method} {c : Code} {H : Heap} {locs : List Loc} {cells slots : Nat} {Q : State → Prop} {cc : ByteArray} {pc : Nat} {ls : Array Slot} {rest : List Value} {y0 : MethodName} {c0 : ByteArray} {n0 : Nat} {r0 : Option FieldType} {dC : Nat → ClassId} {dI : Nat → Nat → Nat} {cB cI cJ cZ cS cO : ClassId} {b : Nat} {cs : CS} {i : Nat} {v : Int32} (hx : p.tables.exec = Jvm.exec) (hb : c.code = cc) (hts : ∀ w ∈ wsOf y0 c0 n0 r0, w.before args s = true) (hown : s.vm.findClass RX0 = some m.cls) (hK : va_K (dC, dI) vwCl [(cB, .byte), (cI, .int), (cJ, .long), (cZ, .boolean), (cS, .object "StreamQueries$Source"), (cO, .object "java/lang/Object")] s) (hP : va_P (dC, dI) vwCl (cW cB cI cJ cZ cS cO b cs) H) (hv : gI cs 6 196 i = some v) (hdg : decode cc pc = .ok (.getfield 110, 3)) (kk : W p l e R s m args below meth c H locs cells slots Q (F0 m (pc + 3) ls (.int v :: rest))) : W p l e R s m args below meth c H locs cells slots Q (F0 m pc ls (.ref (b + i) :: rest)) := by
  obtain ⟨h1, h2⟩ := gI_some hv
  obtain ⟨k, -, hg⟩ := cO_at (b := b) (cB := cB) (cI := cI) (cJ := cJ) (cZ := cZ) (cS := cS) (cO := cO) (by decide) h1
  have hf : (vL b cs i (32 * 6) (tyX 6))[4]? = some (.int v) := by
    show some (vV b cs 196 i 0) = _
    show some (Value.int (kI cs 196 i)) = _
    rw [h2]
  exact va_get (D := (dC, dI)) (ci := 6) (C := RX5) (T := TX5) (N := 15) hx hb hts (fun w h => List.mem_cons_of_mem _ (uG_X5 w h)) hown hK hP k hg rfl 4 (by decide) (hts _ (List.mem_cons_of_mem _ kw_670)) (fun _ h9 => h9) hf hdg kk
theorem fp_X0_110 {p : Program} {l : Launch} {e : Env} {R : Room} {s : State} {m : MethodId} {args : Array Value} {below : List Frame} {meth : Method} {c : Code} {H : Heap} {locs : List Loc} {cells slots : Nat} {Q : State → Prop} {cc : ByteArray} {pc : Nat} {ls : Array Slot} {rest : List Value} {y0 : MethodName} {c0 : ByteArray} {n0 : Nat} {r0 : Option FieldType} {dC : Nat → ClassId} {dI : Nat → Nat → Nat} {cB cI cJ cZ cS cO : ClassId} {b : Nat} {cs : CS} {A : Nat → Prop} {H0 : Heap} {cs1 : CS} {i : Nat} {v : Int32} (hx : p.tables.exec = Jvm.exec) (hb : c.code = cc) (hts : ∀ w ∈ wsOf y0 c0 n0 r0, w.before args s = true) (hown : s.vm.findClass RX0 = some m.cls) (hK : va_K (dC, dI) vwCl [(cB, .byte), (cI, .int), (cJ, .long), (cZ, .boolean), (cS, .object "StreamQueries$Source"), (cO, .object "java/lang/Object")] s) (hP : va_P (dC, dI) vwCl (cW cB cI cJ cZ cS cO b cs) H) (hD : va_D A (cW cB cI cJ cZ cS cO b cs)) (hS : va_S A H0 H locs) (hv : pI cs 6 196 i v = some cs1) (hdg : decode cc pc = .ok (.putfield 110, 3)) (kk : ∀ (H1 : Heap) (locs1 : List Loc), va_P (dC, dI) vwCl (cW cB cI cJ cZ cS cO b cs1) H1 → va_D A (cW cB cI cJ cZ cS cO b cs1) → va_S A H0 H1 locs1 → W p l e R s m args below meth c H1 locs1 cells slots Q (F0 m (pc + 3) ls rest)) : W p l e R s m args below meth c H locs cells slots Q (F0 m pc ls (.int v :: .ref (b + i) :: rest)) := by
  obtain ⟨h1, rfl⟩ := pI_some hv
  obtain ⟨k, hk, hg⟩ := cO_at (b := b) (cB := cB) (cI := cI) (cJ := cJ) (cZ := cZ) (cS := cS) (cO := cO) (by decide) h1
  have hset := cW_putF (f := 4) (y := 0) (v := .int v) (cs1 := sI cs 196 i v) (by decide) rfl hD hk rfl rfl rfl rfl rfl rfl (by show Value.int (u2 (kI cs) 196 i v 196 i) = _; rw [u2_s]) (fun z j w hn => by
    have e9 : kI (sI cs 196 i v) z j = kI cs z j := u2_n hn
    match w with
    | 0 => show Value.int (kI (sI cs 196 i v) z j) = Value.int (kI cs z j); rw [e9]
    | 1 => rfl
    | 2 => rfl
    | _ + 3 => rfl)
  refine va_put (D := (dC, dI)) (ci := 6) (v := .int v) (ty := .int) (C := RX5) (T := TX5) (N := 15) hx hb hts (fun w h => List.mem_cons_of_mem _ (uG_X5 w h)) tyX5 tyX5_ok nmX5 hown hK hP hD hS k hg rfl 4 (by decide) (hts _ (List.mem_cons_of_mem _ kw_670)) (fun _ h9 => h9) rfl (by decide +kernel) rfl rfl (by rw [vL_len]; decide) hdg (fun H1 l1 q1 q2 q3 => ?_)
  rw [hset] at q1 q2
  exact kk H1 l1 q1 q2 q3
theorem fg_X0_113 {p : Program} {l : Launch} {e : Env} {R : Room} {s : State} {m : MethodId} {args : Array Value} {below : List Frame} {meth : Method} {c : Code} {H : Heap} {locs : List Loc} {cells slots : Nat} {Q : State → Prop} {cc : ByteArray} {pc : Nat} {ls : Array Slot} {rest : List Value} {y0 : MethodName} {c0 : ByteArray} {n0 : Nat} {r0 : Option FieldType} {dC : Nat → ClassId} {dI : Nat → Nat → Nat} {cB cI cJ cZ cS cO : ClassId} {b : Nat} {cs : CS} {i : Nat} {v : Nat} (hx : p.tables.exec = Jvm.exec) (hb : c.code = cc) (hts : ∀ w ∈ wsOf y0 c0 n0 r0, w.before args s = true) (hown : s.vm.findClass RX0 = some m.cls) (hK : va_K (dC, dI) vwCl [(cB, .byte), (cI, .int), (cJ, .long), (cZ, .boolean), (cS, .object "StreamQueries$Source"), (cO, .object "java/lang/Object")] s) (hP : va_P (dC, dI) vwCl (cW cB cI cJ cZ cS cO b cs) H) (hv : gA cs 6 195 i = some v) (hdg : decode cc pc = .ok (.getfield 113, 3)) (kk : W p l e R s m args below meth c H locs cells slots Q (F0 m (pc + 3) ls (.ref (b + v) :: rest))) : W p l e R s m args below meth c H locs cells slots Q (F0 m pc ls (.ref (b + i) :: rest)) := by
  obtain ⟨h1, h2⟩ := gA_some hv
  obtain ⟨k, -, hg⟩ := cO_at (b := b) (cB := cB) (cI := cI) (cJ := cJ) (cZ := cZ) (cS := cS) (cO := cO) (by decide) h1
  have hf : (vL b cs i (32 * 6) (tyX 6))[3]? = some (.ref (b + v)) := by
    show some (vV b cs 195 i 3) = _
    show some (rv b (kP cs 195 i)) = _
    rw [h2]; rfl
  exact va_get (D := (dC, dI)) (ci := 6) (C := RX5) (T := TX5) (N := 15) hx hb hts (fun w h => List.mem_cons_of_mem _ (uG_X5 w h)) hown hK hP k hg rfl 3 (by decide) (hts _ (List.mem_cons_of_mem _ kw_666)) (fun _ h9 => h9) hf hdg kk
theorem fg_X0_121 {p : Program} {l : Launch} {e : Env} {R : Room} {s : State} {m : MethodId} {args : Array Value} {below : List Frame} {meth : Method} {c : Code} {H : Heap} {locs : List Loc} {cells slots : Nat} {Q : State → Prop} {cc : ByteArray} {pc : Nat} {ls : Array Slot} {rest : List Value} {y0 : MethodName} {c0 : ByteArray} {n0 : Nat} {r0 : Option FieldType} {dC : Nat → ClassId} {dI : Nat → Nat → Nat} {cB cI cJ cZ cS cO : ClassId} {b : Nat} {cs : CS} {i : Nat} {v : (Option Nat)} (hx : p.tables.exec = Jvm.exec) (hb : c.code = cc) (hts : ∀ w ∈ wsOf y0 c0 n0 r0, w.before args s = true) (hown : s.vm.findClass RX0 = some m.cls) (hK : va_K (dC, dI) vwCl [(cB, .byte), (cI, .int), (cJ, .long), (cZ, .boolean), (cS, .object "StreamQueries$Source"), (cO, .object "java/lang/Object")] s) (hP : va_P (dC, dI) vwCl (cW cB cI cJ cZ cS cO b cs) H) (hv : gR cs 1 35 i = some v) (hdg : decode cc pc = .ok (.getfield 121, 3)) (kk : W p l e R s m args below meth c H locs cells slots Q (F0 m (pc + 3) ls (rv b v :: rest))) : W p l e R s m args below meth c H locs cells slots Q (F0 m pc ls (.ref (b + i) :: rest)) := by
  obtain ⟨h1, h2⟩ := gR_some hv
  obtain ⟨k, -, hg⟩ := cO_at (b := b) (cB := cB) (cI := cI) (cJ := cJ) (cZ := cZ) (cS := cS) (cO := cO) (by decide) h1
  have hf : (vL b cs i (32 * 1) (tyX 1))[3]? = some (rv b v) := by
    show some (vV b cs 35 i 2) = _
    show some (rv b (kR cs 35 i)) = _
    rw [h2]
  exact va_get (D := (dC, dI)) (ci := 1) (C := RX0) (T := TX0) (N := 6) hx hb hts (fun w h => List.mem_cons_of_mem _ (uG_X0 w h)) hown hK hP k hg rfl 3 (by decide) (hts _ (List.mem_cons_of_mem _ kw_1154)) (fun _ h9 => h9) hf hdg kk
theorem fp_X0_121 {p : Program} {l : Launch} {e : Env} {R : Room} {s : State} {m : MethodId} {args : Array Value} {below : List Frame} {meth : Method} {c : Code} {H : Heap} {locs : List Loc} {cells slots : Nat} {Q : State → Prop} {cc : ByteArray} {pc : Nat} {ls : Array Slot} {rest : List Value} {y0 : MethodName} {c0 : ByteArray} {n0 : Nat} {r0 : Option FieldType} {dC : Nat → ClassId} {dI : Nat → Nat → Nat} {cB cI cJ cZ cS cO : ClassId} {b : Nat} {cs : CS} {A : Nat → Prop} {H0 : Heap} {cs1 : CS} {i : Nat} {v : (Option Nat)} (hx : p.tables.exec = Jvm.exec) (hb : c.code = cc) (hts : ∀ w ∈ wsOf y0 c0 n0 r0, w.before args s = true) (hown : s.vm.findClass RX0 = some m.cls) (hK : va_K (dC, dI) vwCl [(cB, .byte), (cI, .int), (cJ, .long), (cZ, .boolean), (cS, .object "StreamQueries$Source"), (cO, .object "java/lang/Object")] s) (hP : va_P (dC, dI) vwCl (cW cB cI cJ cZ cS cO b cs) H) (hD : va_D A (cW cB cI cJ cZ cS cO b cs)) (hS : va_S A H0 H locs) (hv : pR cs 1 35 i v = some cs1) (hdg : decode cc pc = .ok (.putfield 121, 3)) (kk : ∀ (H1 : Heap) (locs1 : List Loc), va_P (dC, dI) vwCl (cW cB cI cJ cZ cS cO b cs1) H1 → va_D A (cW cB cI cJ cZ cS cO b cs1) → va_S A H0 H1 locs1 → W p l e R s m args below meth c H1 locs1 cells slots Q (F0 m (pc + 3) ls rest)) : W p l e R s m args below meth c H locs cells slots Q (F0 m pc ls (rv b v :: .ref (b + i) :: rest)) := by
  obtain ⟨h1, rfl⟩ := pR_some hv
  obtain ⟨k, hk, hg⟩ := cO_at (b := b) (cB := cB) (cI := cI) (cJ := cJ) (cZ := cZ) (cS := cS) (cO := cO) (by decide) h1
  have hset := cW_putF (f := 3) (y := 2) (v := rv b v) (cs1 := sR cs 35 i v) (by decide) rfl hD hk rfl rfl rfl rfl rfl rfl (by show rv b (u2 (kR cs) 35 i v 35 i) = _; rw [u2_s]) (fun z j w hn => by
    have e9 : kR (sR cs 35 i v) z j = kR cs z j := u2_n hn
    match w with
    | 0 => rfl
    | 1 => rfl
    | 2 => show rv b (kR (sR cs 35 i v) z j) = rv b (kR cs z j); rw [e9]
    | _ + 3 => rfl)
  refine va_put (D := (dC, dI)) (ci := 1) (v := rv b v) (ty := .object "StreamQueries$Select") (C := RX0) (T := TX0) (N := 6) hx hb hts (fun w h => List.mem_cons_of_mem _ (uG_X0 w h)) tyX0 tyX0_ok nmX0 hown hK hP hD hS k hg rfl 3 (by decide) (hts _ (List.mem_cons_of_mem _ kw_1154)) (fun _ h9 => h9) rfl (by decide +kernel) (rv_nar b v _) (rv_fit b v _) (by rw [vL_len]; decide) hdg (fun H1 l1 q1 q2 q3 => ?_)
  rw [hset] at q1 q2
  exact kk H1 l1 q1 q2 q3
theorem fg_X0_125 {p : Program} {l : Launch} {e : Env} {R : Room} {s : State} {m : MethodId} {args : Array Value} {below : List Frame} {meth : Method} {c : Code} {H : Heap} {locs : List Loc} {cells slots : Nat} {Q : State → Prop} {cc : ByteArray} {pc : Nat} {ls : Array Slot} {rest : List Value} {y0 : MethodName} {c0 : ByteArray} {n0 : Nat} {r0 : Option FieldType} {dC : Nat → ClassId} {dI : Nat → Nat → Nat} {cB cI cJ cZ cS cO : ClassId} {b : Nat} {cs : CS} {i : Nat} {v : Int32} (hx : p.tables.exec = Jvm.exec) (hb : c.code = cc) (hts : ∀ w ∈ wsOf y0 c0 n0 r0, w.before args s = true) (hown : s.vm.findClass RX0 = some m.cls) (hK : va_K (dC, dI) vwCl [(cB, .byte), (cI, .int), (cJ, .long), (cZ, .boolean), (cS, .object "StreamQueries$Source"), (cO, .object "java/lang/Object")] s) (hP : va_P (dC, dI) vwCl (cW cB cI cJ cZ cS cO b cs) H) (hv : gI cs 1 36 i = some v) (hdg : decode cc pc = .ok (.getfield 125, 3)) (kk : W p l e R s m args below meth c H locs cells slots Q (F0 m (pc + 3) ls (.int v :: rest))) : W p l e R s m args below meth c H locs cells slots Q (F0 m pc ls (.ref (b + i) :: rest)) := by
  obtain ⟨h1, h2⟩ := gI_some hv
  obtain ⟨k, -, hg⟩ := cO_at (b := b) (cB := cB) (cI := cI) (cJ := cJ) (cZ := cZ) (cS := cS) (cO := cO) (by decide) h1
  have hf : (vL b cs i (32 * 1) (tyX 1))[4]? = some (.int v) := by
    show some (vV b cs 36 i 0) = _
    show some (Value.int (kI cs 36 i)) = _
    rw [h2]
  exact va_get (D := (dC, dI)) (ci := 1) (C := RX0) (T := TX0) (N := 6) hx hb hts (fun w h => List.mem_cons_of_mem _ (uG_X0 w h)) hown hK hP k hg rfl 4 (by decide) (hts _ (List.mem_cons_of_mem _ kw_1155)) (fun _ h9 => h9) hf hdg kk
theorem fp_X0_125 {p : Program} {l : Launch} {e : Env} {R : Room} {s : State} {m : MethodId} {args : Array Value} {below : List Frame} {meth : Method} {c : Code} {H : Heap} {locs : List Loc} {cells slots : Nat} {Q : State → Prop} {cc : ByteArray} {pc : Nat} {ls : Array Slot} {rest : List Value} {y0 : MethodName} {c0 : ByteArray} {n0 : Nat} {r0 : Option FieldType} {dC : Nat → ClassId} {dI : Nat → Nat → Nat} {cB cI cJ cZ cS cO : ClassId} {b : Nat} {cs : CS} {A : Nat → Prop} {H0 : Heap} {cs1 : CS} {i : Nat} {v : Int32} (hx : p.tables.exec = Jvm.exec) (hb : c.code = cc) (hts : ∀ w ∈ wsOf y0 c0 n0 r0, w.before args s = true) (hown : s.vm.findClass RX0 = some m.cls) (hK : va_K (dC, dI) vwCl [(cB, .byte), (cI, .int), (cJ, .long), (cZ, .boolean), (cS, .object "StreamQueries$Source"), (cO, .object "java/lang/Object")] s) (hP : va_P (dC, dI) vwCl (cW cB cI cJ cZ cS cO b cs) H) (hD : va_D A (cW cB cI cJ cZ cS cO b cs)) (hS : va_S A H0 H locs) (hv : pI cs 1 36 i v = some cs1) (hdg : decode cc pc = .ok (.putfield 125, 3)) (kk : ∀ (H1 : Heap) (locs1 : List Loc), va_P (dC, dI) vwCl (cW cB cI cJ cZ cS cO b cs1) H1 → va_D A (cW cB cI cJ cZ cS cO b cs1) → va_S A H0 H1 locs1 → W p l e R s m args below meth c H1 locs1 cells slots Q (F0 m (pc + 3) ls rest)) : W p l e R s m args below meth c H locs cells slots Q (F0 m pc ls (.int v :: .ref (b + i) :: rest)) := by
  obtain ⟨h1, rfl⟩ := pI_some hv
  obtain ⟨k, hk, hg⟩ := cO_at (b := b) (cB := cB) (cI := cI) (cJ := cJ) (cZ := cZ) (cS := cS) (cO := cO) (by decide) h1
  have hset := cW_putF (f := 4) (y := 0) (v := .int v) (cs1 := sI cs 36 i v) (by decide) rfl hD hk rfl rfl rfl rfl rfl rfl (by show Value.int (u2 (kI cs) 36 i v 36 i) = _; rw [u2_s]) (fun z j w hn => by
    have e9 : kI (sI cs 36 i v) z j = kI cs z j := u2_n hn
    match w with
    | 0 => show Value.int (kI (sI cs 36 i v) z j) = Value.int (kI cs z j); rw [e9]
    | 1 => rfl
    | 2 => rfl
    | _ + 3 => rfl)
  refine va_put (D := (dC, dI)) (ci := 1) (v := .int v) (ty := .int) (C := RX0) (T := TX0) (N := 6) hx hb hts (fun w h => List.mem_cons_of_mem _ (uG_X0 w h)) tyX0 tyX0_ok nmX0 hown hK hP hD hS k hg rfl 4 (by decide) (hts _ (List.mem_cons_of_mem _ kw_1155)) (fun _ h9 => h9) rfl (by decide +kernel) rfl rfl (by rw [vL_len]; decide) hdg (fun H1 l1 q1 q2 q3 => ?_)
  rw [hset] at q1 q2
  exact kk H1 l1 q1 q2 q3
theorem fg_X0_128 {p : Program} {l : Launch} {e : Env} {R : Room} {s : State} {m : MethodId} {args : Array Value} {below : List Frame} {meth : Method} {c : Code} {H : Heap} {locs : List Loc} {cells slots : Nat} {Q : State → Prop} {cc : ByteArray} {pc : Nat} {ls : Array Slot} {rest : List Value} {y0 : MethodName} {c0 : ByteArray} {n0 : Nat} {r0 : Option FieldType} {dC : Nat → ClassId} {dI : Nat → Nat → Nat} {cB cI cJ cZ cS cO : ClassId} {b : Nat} {cs : CS} {i : Nat} {v : Int32} (hx : p.tables.exec = Jvm.exec) (hb : c.code = cc) (hts : ∀ w ∈ wsOf y0 c0 n0 r0, w.before args s = true) (hown : s.vm.findClass RX0 = some m.cls) (hK : va_K (dC, dI) vwCl [(cB, .byte), (cI, .int), (cJ, .long), (cZ, .boolean), (cS, .object "StreamQueries$Source"), (cO, .object "java/lang/Object")] s) (hP : va_P (dC, dI) vwCl (cW cB cI cJ cZ cS cO b cs) H) (hv : gI cs 6 197 i = some v) (hdg : decode cc pc = .ok (.getfield 128, 3)) (kk : W p l e R s m args below meth c H locs cells slots Q (F0 m (pc + 3) ls (.int v :: rest))) : W p l e R s m args below meth c H locs cells slots Q (F0 m pc ls (.ref (b + i) :: rest)) := by
  obtain ⟨h1, h2⟩ := gI_some hv
  obtain ⟨k, -, hg⟩ := cO_at (b := b) (cB := cB) (cI := cI) (cJ := cJ) (cZ := cZ) (cS := cS) (cO := cO) (by decide) h1
  have hf : (vL b cs i (32 * 6) (tyX 6))[5]? = some (.int v) := by
    show some (vV b cs 197 i 0) = _
    show some (Value.int (kI cs 197 i)) = _
    rw [h2]
  exact va_get (D := (dC, dI)) (ci := 6) (C := RX5) (T := TX5) (N := 15) hx hb hts (fun w h => List.mem_cons_of_mem _ (uG_X5 w h)) hown hK hP k hg rfl 5 (by decide) (hts _ (List.mem_cons_of_mem _ kw_675)) (fun _ h9 => h9) hf hdg kk
theorem fp_X0_128 {p : Program} {l : Launch} {e : Env} {R : Room} {s : State} {m : MethodId} {args : Array Value} {below : List Frame} {meth : Method} {c : Code} {H : Heap} {locs : List Loc} {cells slots : Nat} {Q : State → Prop} {cc : ByteArray} {pc : Nat} {ls : Array Slot} {rest : List Value} {y0 : MethodName} {c0 : ByteArray} {n0 : Nat} {r0 : Option FieldType} {dC : Nat → ClassId} {dI : Nat → Nat → Nat} {cB cI cJ cZ cS cO : ClassId} {b : Nat} {cs : CS} {A : Nat → Prop} {H0 : Heap} {cs1 : CS} {i : Nat} {v : Int32} (hx : p.tables.exec = Jvm.exec) (hb : c.code = cc) (hts : ∀ w ∈ wsOf y0 c0 n0 r0, w.before args s = true) (hown : s.vm.findClass RX0 = some m.cls) (hK : va_K (dC, dI) vwCl [(cB, .byte), (cI, .int), (cJ, .long), (cZ, .boolean), (cS, .object "StreamQueries$Source"), (cO, .object "java/lang/Object")] s) (hP : va_P (dC, dI) vwCl (cW cB cI cJ cZ cS cO b cs) H) (hD : va_D A (cW cB cI cJ cZ cS cO b cs)) (hS : va_S A H0 H locs) (hv : pI cs 6 197 i v = some cs1) (hdg : decode cc pc = .ok (.putfield 128, 3)) (kk : ∀ (H1 : Heap) (locs1 : List Loc), va_P (dC, dI) vwCl (cW cB cI cJ cZ cS cO b cs1) H1 → va_D A (cW cB cI cJ cZ cS cO b cs1) → va_S A H0 H1 locs1 → W p l e R s m args below meth c H1 locs1 cells slots Q (F0 m (pc + 3) ls rest)) : W p l e R s m args below meth c H locs cells slots Q (F0 m pc ls (.int v :: .ref (b + i) :: rest)) := by
  obtain ⟨h1, rfl⟩ := pI_some hv
  obtain ⟨k, hk, hg⟩ := cO_at (b := b) (cB := cB) (cI := cI) (cJ := cJ) (cZ := cZ) (cS := cS) (cO := cO) (by decide) h1
  have hset := cW_putF (f := 5) (y := 0) (v := .int v) (cs1 := sI cs 197 i v) (by decide) rfl hD hk rfl rfl rfl rfl rfl rfl (by show Value.int (u2 (kI cs) 197 i v 197 i) = _; rw [u2_s]) (fun z j w hn => by
    have e9 : kI (sI cs 197 i v) z j = kI cs z j := u2_n hn
    match w with
    | 0 => show Value.int (kI (sI cs 197 i v) z j) = Value.int (kI cs z j); rw [e9]
    | 1 => rfl
    | 2 => rfl
    | _ + 3 => rfl)
  refine va_put (D := (dC, dI)) (ci := 6) (v := .int v) (ty := .int) (C := RX5) (T := TX5) (N := 15) hx hb hts (fun w h => List.mem_cons_of_mem _ (uG_X5 w h)) tyX5 tyX5_ok nmX5 hown hK hP hD hS k hg rfl 5 (by decide) (hts _ (List.mem_cons_of_mem _ kw_675)) (fun _ h9 => h9) rfl (by decide +kernel) rfl rfl (by rw [vL_len]; decide) hdg (fun H1 l1 q1 q2 q3 => ?_)
  rw [hset] at q1 q2
  exact kk H1 l1 q1 q2 q3
theorem fg_X0_141 {p : Program} {l : Launch} {e : Env} {R : Room} {s : State} {m : MethodId} {args : Array Value} {below : List Frame} {meth : Method} {c : Code} {H : Heap} {locs : List Loc} {cells slots : Nat} {Q : State → Prop} {cc : ByteArray} {pc : Nat} {ls : Array Slot} {rest : List Value} {y0 : MethodName} {c0 : ByteArray} {n0 : Nat} {r0 : Option FieldType} {dC : Nat → ClassId} {dI : Nat → Nat → Nat} {cB cI cJ cZ cS cO : ClassId} {b : Nat} {cs : CS} {i : Nat} {v : (Option Nat)} (hx : p.tables.exec = Jvm.exec) (hb : c.code = cc) (hts : ∀ w ∈ wsOf y0 c0 n0 r0, w.before args s = true) (hown : s.vm.findClass RX0 = some m.cls) (hK : va_K (dC, dI) vwCl [(cB, .byte), (cI, .int), (cJ, .long), (cZ, .boolean), (cS, .object "StreamQueries$Source"), (cO, .object "java/lang/Object")] s) (hP : va_P (dC, dI) vwCl (cW cB cI cJ cZ cS cO b cs) H) (hv : gR cs 6 200 i = some v) (hdg : decode cc pc = .ok (.getfield 141, 3)) (kk : W p l e R s m args below meth c H locs cells slots Q (F0 m (pc + 3) ls (rv b v :: rest))) : W p l e R s m args below meth c H locs cells slots Q (F0 m pc ls (.ref (b + i) :: rest)) := by
  obtain ⟨h1, h2⟩ := gR_some hv
  obtain ⟨k, -, hg⟩ := cO_at (b := b) (cB := cB) (cI := cI) (cJ := cJ) (cZ := cZ) (cS := cS) (cO := cO) (by decide) h1
  have hf : (vL b cs i (32 * 6) (tyX 6))[8]? = some (rv b v) := by
    show some (vV b cs 200 i 2) = _
    show some (rv b (kR cs 200 i)) = _
    rw [h2]
  exact va_get (D := (dC, dI)) (ci := 6) (C := RX5) (T := TX5) (N := 15) hx hb hts (fun w h => List.mem_cons_of_mem _ (uG_X5 w h)) hown hK hP k hg rfl 8 (by decide) (hts _ (List.mem_cons_of_mem _ kw_684)) (fun _ h9 => h9) hf hdg kk
theorem fg_X0_144 {p : Program} {l : Launch} {e : Env} {R : Room} {s : State} {m : MethodId} {args : Array Value} {below : List Frame} {meth : Method} {c : Code} {H : Heap} {locs : List Loc} {cells slots : Nat} {Q : State → Prop} {cc : ByteArray} {pc : Nat} {ls : Array Slot} {rest : List Value} {y0 : MethodName} {c0 : ByteArray} {n0 : Nat} {r0 : Option FieldType} {dC : Nat → ClassId} {dI : Nat → Nat → Nat} {cB cI cJ cZ cS cO : ClassId} {b : Nat} {cs : CS} {i : Nat} {v : Int32} (hx : p.tables.exec = Jvm.exec) (hb : c.code = cc) (hts : ∀ w ∈ wsOf y0 c0 n0 r0, w.before args s = true) (hown : s.vm.findClass RX0 = some m.cls) (hK : va_K (dC, dI) vwCl [(cB, .byte), (cI, .int), (cJ, .long), (cZ, .boolean), (cS, .object "StreamQueries$Source"), (cO, .object "java/lang/Object")] s) (hP : va_P (dC, dI) vwCl (cW cB cI cJ cZ cS cO b cs) H) (hv : gI cs 6 201 i = some v) (hdg : decode cc pc = .ok (.getfield 144, 3)) (kk : W p l e R s m args below meth c H locs cells slots Q (F0 m (pc + 3) ls (.int v :: rest))) : W p l e R s m args below meth c H locs cells slots Q (F0 m pc ls (.ref (b + i) :: rest)) := by
  obtain ⟨h1, h2⟩ := gI_some hv
  obtain ⟨k, -, hg⟩ := cO_at (b := b) (cB := cB) (cI := cI) (cJ := cJ) (cZ := cZ) (cS := cS) (cO := cO) (by decide) h1
  have hf : (vL b cs i (32 * 6) (tyX 6))[9]? = some (.int v) := by
    show some (vV b cs 201 i 0) = _
    show some (Value.int (kI cs 201 i)) = _
    rw [h2]
  exact va_get (D := (dC, dI)) (ci := 6) (C := RX5) (T := TX5) (N := 15) hx hb hts (fun w h => List.mem_cons_of_mem _ (uG_X5 w h)) hown hK hP k hg rfl 9 (by decide) (hts _ (List.mem_cons_of_mem _ kw_688)) (fun _ h9 => h9) hf hdg kk
theorem fp_X0_144 {p : Program} {l : Launch} {e : Env} {R : Room} {s : State} {m : MethodId} {args : Array Value} {below : List Frame} {meth : Method} {c : Code} {H : Heap} {locs : List Loc} {cells slots : Nat} {Q : State → Prop} {cc : ByteArray} {pc : Nat} {ls : Array Slot} {rest : List Value} {y0 : MethodName} {c0 : ByteArray} {n0 : Nat} {r0 : Option FieldType} {dC : Nat → ClassId} {dI : Nat → Nat → Nat} {cB cI cJ cZ cS cO : ClassId} {b : Nat} {cs : CS} {A : Nat → Prop} {H0 : Heap} {cs1 : CS} {i : Nat} {v : Int32} (hx : p.tables.exec = Jvm.exec) (hb : c.code = cc) (hts : ∀ w ∈ wsOf y0 c0 n0 r0, w.before args s = true) (hown : s.vm.findClass RX0 = some m.cls) (hK : va_K (dC, dI) vwCl [(cB, .byte), (cI, .int), (cJ, .long), (cZ, .boolean), (cS, .object "StreamQueries$Source"), (cO, .object "java/lang/Object")] s) (hP : va_P (dC, dI) vwCl (cW cB cI cJ cZ cS cO b cs) H) (hD : va_D A (cW cB cI cJ cZ cS cO b cs)) (hS : va_S A H0 H locs) (hv : pI cs 6 201 i v = some cs1) (hdg : decode cc pc = .ok (.putfield 144, 3)) (kk : ∀ (H1 : Heap) (locs1 : List Loc), va_P (dC, dI) vwCl (cW cB cI cJ cZ cS cO b cs1) H1 → va_D A (cW cB cI cJ cZ cS cO b cs1) → va_S A H0 H1 locs1 → W p l e R s m args below meth c H1 locs1 cells slots Q (F0 m (pc + 3) ls rest)) : W p l e R s m args below meth c H locs cells slots Q (F0 m pc ls (.int v :: .ref (b + i) :: rest)) := by
  obtain ⟨h1, rfl⟩ := pI_some hv
  obtain ⟨k, hk, hg⟩ := cO_at (b := b) (cB := cB) (cI := cI) (cJ := cJ) (cZ := cZ) (cS := cS) (cO := cO) (by decide) h1
  have hset := cW_putF (f := 9) (y := 0) (v := .int v) (cs1 := sI cs 201 i v) (by decide) rfl hD hk rfl rfl rfl rfl rfl rfl (by show Value.int (u2 (kI cs) 201 i v 201 i) = _; rw [u2_s]) (fun z j w hn => by
    have e9 : kI (sI cs 201 i v) z j = kI cs z j := u2_n hn
    match w with
    | 0 => show Value.int (kI (sI cs 201 i v) z j) = Value.int (kI cs z j); rw [e9]
    | 1 => rfl
    | 2 => rfl
    | _ + 3 => rfl)
  refine va_put (D := (dC, dI)) (ci := 6) (v := .int v) (ty := .int) (C := RX5) (T := TX5) (N := 15) hx hb hts (fun w h => List.mem_cons_of_mem _ (uG_X5 w h)) tyX5 tyX5_ok nmX5 hown hK hP hD hS k hg rfl 9 (by decide) (hts _ (List.mem_cons_of_mem _ kw_688)) (fun _ h9 => h9) rfl (by decide +kernel) rfl rfl (by rw [vL_len]; decide) hdg (fun H1 l1 q1 q2 q3 => ?_)
  rw [hset] at q1 q2
  exact kk H1 l1 q1 q2 q3
theorem fg_X0_147 {p : Program} {l : Launch} {e : Env} {R : Room} {s : State} {m : MethodId} {args : Array Value} {below : List Frame} {meth : Method} {c : Code} {H : Heap} {locs : List Loc} {cells slots : Nat} {Q : State → Prop} {cc : ByteArray} {pc : Nat} {ls : Array Slot} {rest : List Value} {y0 : MethodName} {c0 : ByteArray} {n0 : Nat} {r0 : Option FieldType} {dC : Nat → ClassId} {dI : Nat → Nat → Nat} {cB cI cJ cZ cS cO : ClassId} {b : Nat} {cs : CS} {i : Nat} {v : Int32} (hx : p.tables.exec = Jvm.exec) (hb : c.code = cc) (hts : ∀ w ∈ wsOf y0 c0 n0 r0, w.before args s = true) (hown : s.vm.findClass RX0 = some m.cls) (hK : va_K (dC, dI) vwCl [(cB, .byte), (cI, .int), (cJ, .long), (cZ, .boolean), (cS, .object "StreamQueries$Source"), (cO, .object "java/lang/Object")] s) (hP : va_P (dC, dI) vwCl (cW cB cI cJ cZ cS cO b cs) H) (hv : gI cs 6 192 i = some v) (hdg : decode cc pc = .ok (.getfield 147, 3)) (kk : W p l e R s m args below meth c H locs cells slots Q (F0 m (pc + 3) ls (.int v :: rest))) : W p l e R s m args below meth c H locs cells slots Q (F0 m pc ls (.ref (b + i) :: rest)) := by
  obtain ⟨h1, h2⟩ := gI_some hv
  obtain ⟨k, -, hg⟩ := cO_at (b := b) (cB := cB) (cI := cI) (cJ := cJ) (cZ := cZ) (cS := cS) (cO := cO) (by decide) h1
  have hf : (vL b cs i (32 * 6) (tyX 6))[0]? = some (.int v) := by
    show some (vV b cs 192 i 0) = _
    show some (Value.int (kI cs 192 i)) = _
    rw [h2]
  exact va_get (D := (dC, dI)) (ci := 6) (C := RX5) (T := TX5) (N := 15) hx hb hts (fun w h => List.mem_cons_of_mem _ (uG_X5 w h)) hown hK hP k hg rfl 0 (by decide) (hts _ (List.mem_cons_of_mem _ kw_656)) (fun _ h9 => h9) hf hdg kk
theorem fp_X0_147 {p : Program} {l : Launch} {e : Env} {R : Room} {s : State} {m : MethodId} {args : Array Value} {below : List Frame} {meth : Method} {c : Code} {H : Heap} {locs : List Loc} {cells slots : Nat} {Q : State → Prop} {cc : ByteArray} {pc : Nat} {ls : Array Slot} {rest : List Value} {y0 : MethodName} {c0 : ByteArray} {n0 : Nat} {r0 : Option FieldType} {dC : Nat → ClassId} {dI : Nat → Nat → Nat} {cB cI cJ cZ cS cO : ClassId} {b : Nat} {cs : CS} {A : Nat → Prop} {H0 : Heap} {cs1 : CS} {i : Nat} {v : Int32} (hx : p.tables.exec = Jvm.exec) (hb : c.code = cc) (hts : ∀ w ∈ wsOf y0 c0 n0 r0, w.before args s = true) (hown : s.vm.findClass RX0 = some m.cls) (hK : va_K (dC, dI) vwCl [(cB, .byte), (cI, .int), (cJ, .long), (cZ, .boolean), (cS, .object "StreamQueries$Source"), (cO, .object "java/lang/Object")] s) (hP : va_P (dC, dI) vwCl (cW cB cI cJ cZ cS cO b cs) H) (hD : va_D A (cW cB cI cJ cZ cS cO b cs)) (hS : va_S A H0 H locs) (hz : v = 0 ∨ v = 1) (hv : pI cs 6 192 i v = some cs1) (hdg : decode cc pc = .ok (.putfield 147, 3)) (kk : ∀ (H1 : Heap) (locs1 : List Loc), va_P (dC, dI) vwCl (cW cB cI cJ cZ cS cO b cs1) H1 → va_D A (cW cB cI cJ cZ cS cO b cs1) → va_S A H0 H1 locs1 → W p l e R s m args below meth c H1 locs1 cells slots Q (F0 m (pc + 3) ls rest)) : W p l e R s m args below meth c H locs cells slots Q (F0 m pc ls (.int v :: .ref (b + i) :: rest)) := by
  obtain ⟨h1, rfl⟩ := pI_some hv
  obtain ⟨k, hk, hg⟩ := cO_at (b := b) (cB := cB) (cI := cI) (cJ := cJ) (cZ := cZ) (cS := cS) (cO := cO) (by decide) h1
  have hset := cW_putF (f := 0) (y := 0) (v := .int v) (cs1 := sI cs 192 i v) (by decide) rfl hD hk rfl rfl rfl rfl rfl rfl (by show Value.int (u2 (kI cs) 192 i v 192 i) = _; rw [u2_s]) (fun z j w hn => by
    have e9 : kI (sI cs 192 i v) z j = kI cs z j := u2_n hn
    match w with
    | 0 => show Value.int (kI (sI cs 192 i v) z j) = Value.int (kI cs z j); rw [e9]
    | 1 => rfl
    | 2 => rfl
    | _ + 3 => rfl)
  refine va_put (D := (dC, dI)) (ci := 6) (v := .int v) (ty := .boolean) (C := RX5) (T := TX5) (N := 15) hx hb hts (fun w h => List.mem_cons_of_mem _ (uG_X5 w h)) tyX5 tyX5_ok nmX5 hown hK hP hD hS k hg rfl 0 (by decide) (hts _ (List.mem_cons_of_mem _ kw_656)) (fun _ h9 => h9) rfl (by decide +kernel) (nzN hz) (nzF hz) (by rw [vL_len]; decide) hdg (fun H1 l1 q1 q2 q3 => ?_)
  rw [hset] at q1 q2
  exact kk H1 l1 q1 q2 q3
theorem fg_X0_150 {p : Program} {l : Launch} {e : Env} {R : Room} {s : State} {m : MethodId} {args : Array Value} {below : List Frame} {meth : Method} {c : Code} {H : Heap} {locs : List Loc} {cells slots : Nat} {Q : State → Prop} {cc : ByteArray} {pc : Nat} {ls : Array Slot} {rest : List Value} {y0 : MethodName} {c0 : ByteArray} {n0 : Nat} {r0 : Option FieldType} {dC : Nat → ClassId} {dI : Nat → Nat → Nat} {cB cI cJ cZ cS cO : ClassId} {b : Nat} {cs : CS} {i : Nat} {v : Int32} (hx : p.tables.exec = Jvm.exec) (hb : c.code = cc) (hts : ∀ w ∈ wsOf y0 c0 n0 r0, w.before args s = true) (hown : s.vm.findClass RX0 = some m.cls) (hK : va_K (dC, dI) vwCl [(cB, .byte), (cI, .int), (cJ, .long), (cZ, .boolean), (cS, .object "StreamQueries$Source"), (cO, .object "java/lang/Object")] s) (hP : va_P (dC, dI) vwCl (cW cB cI cJ cZ cS cO b cs) H) (hv : gI cs 6 193 i = some v) (hdg : decode cc pc = .ok (.getfield 150, 3)) (kk : W p l e R s m args below meth c H locs cells slots Q (F0 m (pc + 3) ls (.int v :: rest))) : W p l e R s m args below meth c H locs cells slots Q (F0 m pc ls (.ref (b + i) :: rest)) := by
  obtain ⟨h1, h2⟩ := gI_some hv
  obtain ⟨k, -, hg⟩ := cO_at (b := b) (cB := cB) (cI := cI) (cJ := cJ) (cZ := cZ) (cS := cS) (cO := cO) (by decide) h1
  have hf : (vL b cs i (32 * 6) (tyX 6))[1]? = some (.int v) := by
    show some (vV b cs 193 i 0) = _
    show some (Value.int (kI cs 193 i)) = _
    rw [h2]
  exact va_get (D := (dC, dI)) (ci := 6) (C := RX5) (T := TX5) (N := 15) hx hb hts (fun w h => List.mem_cons_of_mem _ (uG_X5 w h)) hown hK hP k hg rfl 1 (by decide) (hts _ (List.mem_cons_of_mem _ kw_658)) (fun _ h9 => h9) hf hdg kk
theorem fp_X0_150 {p : Program} {l : Launch} {e : Env} {R : Room} {s : State} {m : MethodId} {args : Array Value} {below : List Frame} {meth : Method} {c : Code} {H : Heap} {locs : List Loc} {cells slots : Nat} {Q : State → Prop} {cc : ByteArray} {pc : Nat} {ls : Array Slot} {rest : List Value} {y0 : MethodName} {c0 : ByteArray} {n0 : Nat} {r0 : Option FieldType} {dC : Nat → ClassId} {dI : Nat → Nat → Nat} {cB cI cJ cZ cS cO : ClassId} {b : Nat} {cs : CS} {A : Nat → Prop} {H0 : Heap} {cs1 : CS} {i : Nat} {v : Int32} (hx : p.tables.exec = Jvm.exec) (hb : c.code = cc) (hts : ∀ w ∈ wsOf y0 c0 n0 r0, w.before args s = true) (hown : s.vm.findClass RX0 = some m.cls) (hK : va_K (dC, dI) vwCl [(cB, .byte), (cI, .int), (cJ, .long), (cZ, .boolean), (cS, .object "StreamQueries$Source"), (cO, .object "java/lang/Object")] s) (hP : va_P (dC, dI) vwCl (cW cB cI cJ cZ cS cO b cs) H) (hD : va_D A (cW cB cI cJ cZ cS cO b cs)) (hS : va_S A H0 H locs) (hv : pI cs 6 193 i v = some cs1) (hdg : decode cc pc = .ok (.putfield 150, 3)) (kk : ∀ (H1 : Heap) (locs1 : List Loc), va_P (dC, dI) vwCl (cW cB cI cJ cZ cS cO b cs1) H1 → va_D A (cW cB cI cJ cZ cS cO b cs1) → va_S A H0 H1 locs1 → W p l e R s m args below meth c H1 locs1 cells slots Q (F0 m (pc + 3) ls rest)) : W p l e R s m args below meth c H locs cells slots Q (F0 m pc ls (.int v :: .ref (b + i) :: rest)) := by
  obtain ⟨h1, rfl⟩ := pI_some hv
  obtain ⟨k, hk, hg⟩ := cO_at (b := b) (cB := cB) (cI := cI) (cJ := cJ) (cZ := cZ) (cS := cS) (cO := cO) (by decide) h1
  have hset := cW_putF (f := 1) (y := 0) (v := .int v) (cs1 := sI cs 193 i v) (by decide) rfl hD hk rfl rfl rfl rfl rfl rfl (by show Value.int (u2 (kI cs) 193 i v 193 i) = _; rw [u2_s]) (fun z j w hn => by
    have e9 : kI (sI cs 193 i v) z j = kI cs z j := u2_n hn
    match w with
    | 0 => show Value.int (kI (sI cs 193 i v) z j) = Value.int (kI cs z j); rw [e9]
    | 1 => rfl
    | 2 => rfl
    | _ + 3 => rfl)
  refine va_put (D := (dC, dI)) (ci := 6) (v := .int v) (ty := .int) (C := RX5) (T := TX5) (N := 15) hx hb hts (fun w h => List.mem_cons_of_mem _ (uG_X5 w h)) tyX5 tyX5_ok nmX5 hown hK hP hD hS k hg rfl 1 (by decide) (hts _ (List.mem_cons_of_mem _ kw_658)) (fun _ h9 => h9) rfl (by decide +kernel) rfl rfl (by rw [vL_len]; decide) hdg (fun H1 l1 q1 q2 q3 => ?_)
  rw [hset] at q1 q2
  exact kk H1 l1 q1 q2 q3
theorem fg_X0_153 {p : Program} {l : Launch} {e : Env} {R : Room} {s : State} {m : MethodId} {args : Array Value} {below : List Frame} {meth : Method} {c : Code} {H : Heap} {locs : List Loc} {cells slots : Nat} {Q : State → Prop} {cc : ByteArray} {pc : Nat} {ls : Array Slot} {rest : List Value} {y0 : MethodName} {c0 : ByteArray} {n0 : Nat} {r0 : Option FieldType} {dC : Nat → ClassId} {dI : Nat → Nat → Nat} {cB cI cJ cZ cS cO : ClassId} {b : Nat} {cs : CS} {i : Nat} {v : (Option Nat)} (hx : p.tables.exec = Jvm.exec) (hb : c.code = cc) (hts : ∀ w ∈ wsOf y0 c0 n0 r0, w.before args s = true) (hown : s.vm.findClass RX0 = some m.cls) (hK : va_K (dC, dI) vwCl [(cB, .byte), (cI, .int), (cJ, .long), (cZ, .boolean), (cS, .object "StreamQueries$Source"), (cO, .object "java/lang/Object")] s) (hP : va_P (dC, dI) vwCl (cW cB cI cJ cZ cS cO b cs) H) (hv : gR cs 7 225 i = some v) (hdg : decode cc pc = .ok (.getfield 153, 3)) (kk : W p l e R s m args below meth c H locs cells slots Q (F0 m (pc + 3) ls (rv b v :: rest))) : W p l e R s m args below meth c H locs cells slots Q (F0 m pc ls (.ref (b + i) :: rest)) := by
  obtain ⟨h1, h2⟩ := gR_some hv
  obtain ⟨k, -, hg⟩ := cO_at (b := b) (cB := cB) (cI := cI) (cJ := cJ) (cZ := cZ) (cS := cS) (cO := cO) (by decide) h1
  have hf : (vL b cs i (32 * 7) (tyX 7))[1]? = some (rv b v) := by
    show some (vV b cs 225 i 2) = _
    show some (rv b (kR cs 225 i)) = _
    rw [h2]
  exact va_get (D := (dC, dI)) (ci := 7) (C := RX6) (T := TX6) (N := 12) hx hb hts (fun w h => List.mem_cons_of_mem _ (uG_X6 w h)) hown hK hP k hg rfl 1 (by decide) (hts _ (List.mem_cons_of_mem _ kw_1058)) (fun _ h9 => h9) hf hdg kk
theorem fp_X0_153 {p : Program} {l : Launch} {e : Env} {R : Room} {s : State} {m : MethodId} {args : Array Value} {below : List Frame} {meth : Method} {c : Code} {H : Heap} {locs : List Loc} {cells slots : Nat} {Q : State → Prop} {cc : ByteArray} {pc : Nat} {ls : Array Slot} {rest : List Value} {y0 : MethodName} {c0 : ByteArray} {n0 : Nat} {r0 : Option FieldType} {dC : Nat → ClassId} {dI : Nat → Nat → Nat} {cB cI cJ cZ cS cO : ClassId} {b : Nat} {cs : CS} {A : Nat → Prop} {H0 : Heap} {cs1 : CS} {i : Nat} {v : (Option Nat)} (hx : p.tables.exec = Jvm.exec) (hb : c.code = cc) (hts : ∀ w ∈ wsOf y0 c0 n0 r0, w.before args s = true) (hown : s.vm.findClass RX0 = some m.cls) (hK : va_K (dC, dI) vwCl [(cB, .byte), (cI, .int), (cJ, .long), (cZ, .boolean), (cS, .object "StreamQueries$Source"), (cO, .object "java/lang/Object")] s) (hP : va_P (dC, dI) vwCl (cW cB cI cJ cZ cS cO b cs) H) (hD : va_D A (cW cB cI cJ cZ cS cO b cs)) (hS : va_S A H0 H locs) (hv : pR cs 7 225 i v = some cs1) (hdg : decode cc pc = .ok (.putfield 153, 3)) (kk : ∀ (H1 : Heap) (locs1 : List Loc), va_P (dC, dI) vwCl (cW cB cI cJ cZ cS cO b cs1) H1 → va_D A (cW cB cI cJ cZ cS cO b cs1) → va_S A H0 H1 locs1 → W p l e R s m args below meth c H1 locs1 cells slots Q (F0 m (pc + 3) ls rest)) : W p l e R s m args below meth c H locs cells slots Q (F0 m pc ls (rv b v :: .ref (b + i) :: rest)) := by
  obtain ⟨h1, rfl⟩ := pR_some hv
  obtain ⟨k, hk, hg⟩ := cO_at (b := b) (cB := cB) (cI := cI) (cJ := cJ) (cZ := cZ) (cS := cS) (cO := cO) (by decide) h1
  have hset := cW_putF (f := 1) (y := 2) (v := rv b v) (cs1 := sR cs 225 i v) (by decide) rfl hD hk rfl rfl rfl rfl rfl rfl (by show rv b (u2 (kR cs) 225 i v 225 i) = _; rw [u2_s]) (fun z j w hn => by
    have e9 : kR (sR cs 225 i v) z j = kR cs z j := u2_n hn
    match w with
    | 0 => rfl
    | 1 => rfl
    | 2 => show rv b (kR (sR cs 225 i v) z j) = rv b (kR cs z j); rw [e9]
    | _ + 3 => rfl)
  refine va_put (D := (dC, dI)) (ci := 7) (v := rv b v) (ty := .object "StreamQueries$Query") (C := RX6) (T := TX6) (N := 12) hx hb hts (fun w h => List.mem_cons_of_mem _ (uG_X6 w h)) tyX6 tyX6_ok nmX6 hown hK hP hD hS k hg rfl 1 (by decide) (hts _ (List.mem_cons_of_mem _ kw_1058)) (fun _ h9 => h9) rfl (by decide +kernel) (rv_nar b v _) (rv_fit b v _) (by rw [vL_len]; decide) hdg (fun H1 l1 q1 q2 q3 => ?_)
  rw [hset] at q1 q2
  exact kk H1 l1 q1 q2 q3
theorem fg_X0_167 {p : Program} {l : Launch} {e : Env} {R : Room} {s : State} {m : MethodId} {args : Array Value} {below : List Frame} {meth : Method} {c : Code} {H : Heap} {locs : List Loc} {cells slots : Nat} {Q : State → Prop} {cc : ByteArray} {pc : Nat} {ls : Array Slot} {rest : List Value} {y0 : MethodName} {c0 : ByteArray} {n0 : Nat} {r0 : Option FieldType} {dC : Nat → ClassId} {dI : Nat → Nat → Nat} {cB cI cJ cZ cS cO : ClassId} {b : Nat} {cs : CS} {i : Nat} {v : Int64} (hx : p.tables.exec = Jvm.exec) (hb : c.code = cc) (hts : ∀ w ∈ wsOf y0 c0 n0 r0, w.before args s = true) (hown : s.vm.findClass RX0 = some m.cls) (hK : va_K (dC, dI) vwCl [(cB, .byte), (cI, .int), (cJ, .long), (cZ, .boolean), (cS, .object "StreamQueries$Source"), (cO, .object "java/lang/Object")] s) (hP : va_P (dC, dI) vwCl (cW cB cI cJ cZ cS cO b cs) H) (hv : gJ cs 7 230 i = some v) (hdg : decode cc pc = .ok (.getfield 167, 3)) (kk : W p l e R s m args below meth c H locs cells slots Q (F0 m (pc + 3) ls (.long v :: rest))) : W p l e R s m args below meth c H locs cells slots Q (F0 m pc ls (.ref (b + i) :: rest)) := by
  obtain ⟨h1, h2⟩ := gJ_some hv
  obtain ⟨k, -, hg⟩ := cO_at (b := b) (cB := cB) (cI := cI) (cJ := cJ) (cZ := cZ) (cS := cS) (cO := cO) (by decide) h1
  have hf : (vL b cs i (32 * 7) (tyX 7))[6]? = some (.long v) := by
    show some (vV b cs 230 i 1) = _
    show some (Value.long (kJ cs 230 i)) = _
    rw [h2]
  exact va_get (D := (dC, dI)) (ci := 7) (C := RX6) (T := TX6) (N := 12) hx hb hts (fun w h => List.mem_cons_of_mem _ (uG_X6 w h)) hown hK hP k hg rfl 6 (by decide) (hts _ (List.mem_cons_of_mem _ kw_1072)) (fun _ h9 => h9) hf hdg kk
theorem fp_X0_167 {p : Program} {l : Launch} {e : Env} {R : Room} {s : State} {m : MethodId} {args : Array Value} {below : List Frame} {meth : Method} {c : Code} {H : Heap} {locs : List Loc} {cells slots : Nat} {Q : State → Prop} {cc : ByteArray} {pc : Nat} {ls : Array Slot} {rest : List Value} {y0 : MethodName} {c0 : ByteArray} {n0 : Nat} {r0 : Option FieldType} {dC : Nat → ClassId} {dI : Nat → Nat → Nat} {cB cI cJ cZ cS cO : ClassId} {b : Nat} {cs : CS} {A : Nat → Prop} {H0 : Heap} {cs1 : CS} {i : Nat} {v : Int64} (hx : p.tables.exec = Jvm.exec) (hb : c.code = cc) (hts : ∀ w ∈ wsOf y0 c0 n0 r0, w.before args s = true) (hown : s.vm.findClass RX0 = some m.cls) (hK : va_K (dC, dI) vwCl [(cB, .byte), (cI, .int), (cJ, .long), (cZ, .boolean), (cS, .object "StreamQueries$Source"), (cO, .object "java/lang/Object")] s) (hP : va_P (dC, dI) vwCl (cW cB cI cJ cZ cS cO b cs) H) (hD : va_D A (cW cB cI cJ cZ cS cO b cs)) (hS : va_S A H0 H locs) (hv : pJ cs 7 230 i v = some cs1) (hdg : decode cc pc = .ok (.putfield 167, 3)) (kk : ∀ (H1 : Heap) (locs1 : List Loc), va_P (dC, dI) vwCl (cW cB cI cJ cZ cS cO b cs1) H1 → va_D A (cW cB cI cJ cZ cS cO b cs1) → va_S A H0 H1 locs1 → W p l e R s m args below meth c H1 locs1 cells slots Q (F0 m (pc + 3) ls rest)) : W p l e R s m args below meth c H locs cells slots Q (F0 m pc ls (.long v :: .ref (b + i) :: rest)) := by
  obtain ⟨h1, rfl⟩ := pJ_some hv
  obtain ⟨k, hk, hg⟩ := cO_at (b := b) (cB := cB) (cI := cI) (cJ := cJ) (cZ := cZ) (cS := cS) (cO := cO) (by decide) h1
  have hset := cW_putF (f := 6) (y := 1) (v := .long v) (cs1 := sJ cs 230 i v) (by decide) rfl hD hk rfl rfl rfl rfl rfl rfl (by show Value.long (u2 (kJ cs) 230 i v 230 i) = _; rw [u2_s]) (fun z j w hn => by
    have e9 : kJ (sJ cs 230 i v) z j = kJ cs z j := u2_n hn
    match w with
    | 0 => rfl
    | 1 => show Value.long (kJ (sJ cs 230 i v) z j) = Value.long (kJ cs z j); rw [e9]
    | 2 => rfl
    | _ + 3 => rfl)
  refine va_put (D := (dC, dI)) (ci := 7) (v := .long v) (ty := .long) (C := RX6) (T := TX6) (N := 12) hx hb hts (fun w h => List.mem_cons_of_mem _ (uG_X6 w h)) tyX6 tyX6_ok nmX6 hown hK hP hD hS k hg rfl 6 (by decide) (hts _ (List.mem_cons_of_mem _ kw_1072)) (fun _ h9 => h9) rfl (by decide +kernel) rfl rfl (by rw [vL_len]; decide) hdg (fun H1 l1 q1 q2 q3 => ?_)
  rw [hset] at q1 q2
  exact kk H1 l1 q1 q2 q3
theorem fg_X0_171 {p : Program} {l : Launch} {e : Env} {R : Room} {s : State} {m : MethodId} {args : Array Value} {below : List Frame} {meth : Method} {c : Code} {H : Heap} {locs : List Loc} {cells slots : Nat} {Q : State → Prop} {cc : ByteArray} {pc : Nat} {ls : Array Slot} {rest : List Value} {y0 : MethodName} {c0 : ByteArray} {n0 : Nat} {r0 : Option FieldType} {dC : Nat → ClassId} {dI : Nat → Nat → Nat} {cB cI cJ cZ cS cO : ClassId} {b : Nat} {cs : CS} {i : Nat} {v : Int64} (hx : p.tables.exec = Jvm.exec) (hb : c.code = cc) (hts : ∀ w ∈ wsOf y0 c0 n0 r0, w.before args s = true) (hown : s.vm.findClass RX0 = some m.cls) (hK : va_K (dC, dI) vwCl [(cB, .byte), (cI, .int), (cJ, .long), (cZ, .boolean), (cS, .object "StreamQueries$Source"), (cO, .object "java/lang/Object")] s) (hP : va_P (dC, dI) vwCl (cW cB cI cJ cZ cS cO b cs) H) (hv : gJ cs 7 228 i = some v) (hdg : decode cc pc = .ok (.getfield 171, 3)) (kk : W p l e R s m args below meth c H locs cells slots Q (F0 m (pc + 3) ls (.long v :: rest))) : W p l e R s m args below meth c H locs cells slots Q (F0 m pc ls (.ref (b + i) :: rest)) := by
  obtain ⟨h1, h2⟩ := gJ_some hv
  obtain ⟨k, -, hg⟩ := cO_at (b := b) (cB := cB) (cI := cI) (cJ := cJ) (cZ := cZ) (cS := cS) (cO := cO) (by decide) h1
  have hf : (vL b cs i (32 * 7) (tyX 7))[4]? = some (.long v) := by
    show some (vV b cs 228 i 1) = _
    show some (Value.long (kJ cs 228 i)) = _
    rw [h2]
  exact va_get (D := (dC, dI)) (ci := 7) (C := RX6) (T := TX6) (N := 12) hx hb hts (fun w h => List.mem_cons_of_mem _ (uG_X6 w h)) hown hK hP k hg rfl 4 (by decide) (hts _ (List.mem_cons_of_mem _ kw_1066)) (fun _ h9 => h9) hf hdg kk
theorem fp_X0_171 {p : Program} {l : Launch} {e : Env} {R : Room} {s : State} {m : MethodId} {args : Array Value} {below : List Frame} {meth : Method} {c : Code} {H : Heap} {locs : List Loc} {cells slots : Nat} {Q : State → Prop} {cc : ByteArray} {pc : Nat} {ls : Array Slot} {rest : List Value} {y0 : MethodName} {c0 : ByteArray} {n0 : Nat} {r0 : Option FieldType} {dC : Nat → ClassId} {dI : Nat → Nat → Nat} {cB cI cJ cZ cS cO : ClassId} {b : Nat} {cs : CS} {A : Nat → Prop} {H0 : Heap} {cs1 : CS} {i : Nat} {v : Int64} (hx : p.tables.exec = Jvm.exec) (hb : c.code = cc) (hts : ∀ w ∈ wsOf y0 c0 n0 r0, w.before args s = true) (hown : s.vm.findClass RX0 = some m.cls) (hK : va_K (dC, dI) vwCl [(cB, .byte), (cI, .int), (cJ, .long), (cZ, .boolean), (cS, .object "StreamQueries$Source"), (cO, .object "java/lang/Object")] s) (hP : va_P (dC, dI) vwCl (cW cB cI cJ cZ cS cO b cs) H) (hD : va_D A (cW cB cI cJ cZ cS cO b cs)) (hS : va_S A H0 H locs) (hv : pJ cs 7 228 i v = some cs1) (hdg : decode cc pc = .ok (.putfield 171, 3)) (kk : ∀ (H1 : Heap) (locs1 : List Loc), va_P (dC, dI) vwCl (cW cB cI cJ cZ cS cO b cs1) H1 → va_D A (cW cB cI cJ cZ cS cO b cs1) → va_S A H0 H1 locs1 → W p l e R s m args below meth c H1 locs1 cells slots Q (F0 m (pc + 3) ls rest)) : W p l e R s m args below meth c H locs cells slots Q (F0 m pc ls (.long v :: .ref (b + i) :: rest)) := by
  obtain ⟨h1, rfl⟩ := pJ_some hv
  obtain ⟨k, hk, hg⟩ := cO_at (b := b) (cB := cB) (cI := cI) (cJ := cJ) (cZ := cZ) (cS := cS) (cO := cO) (by decide) h1
  have hset := cW_putF (f := 4) (y := 1) (v := .long v) (cs1 := sJ cs 228 i v) (by decide) rfl hD hk rfl rfl rfl rfl rfl rfl (by show Value.long (u2 (kJ cs) 228 i v 228 i) = _; rw [u2_s]) (fun z j w hn => by
    have e9 : kJ (sJ cs 228 i v) z j = kJ cs z j := u2_n hn
    match w with
    | 0 => rfl
    | 1 => show Value.long (kJ (sJ cs 228 i v) z j) = Value.long (kJ cs z j); rw [e9]
    | 2 => rfl
    | _ + 3 => rfl)
  refine va_put (D := (dC, dI)) (ci := 7) (v := .long v) (ty := .long) (C := RX6) (T := TX6) (N := 12) hx hb hts (fun w h => List.mem_cons_of_mem _ (uG_X6 w h)) tyX6 tyX6_ok nmX6 hown hK hP hD hS k hg rfl 4 (by decide) (hts _ (List.mem_cons_of_mem _ kw_1066)) (fun _ h9 => h9) rfl (by decide +kernel) rfl rfl (by rw [vL_len]; decide) hdg (fun H1 l1 q1 q2 q3 => ?_)
  rw [hset] at q1 q2
  exact kk H1 l1 q1 q2 q3
theorem fg_X0_174 {p : Program} {l : Launch} {e : Env} {R : Room} {s : State} {m : MethodId} {args : Array Value} {below : List Frame} {meth : Method} {c : Code} {H : Heap} {locs : List Loc} {cells slots : Nat} {Q : State → Prop} {cc : ByteArray} {pc : Nat} {ls : Array Slot} {rest : List Value} {y0 : MethodName} {c0 : ByteArray} {n0 : Nat} {r0 : Option FieldType} {dC : Nat → ClassId} {dI : Nat → Nat → Nat} {cB cI cJ cZ cS cO : ClassId} {b : Nat} {cs : CS} {i : Nat} {v : Int32} (hx : p.tables.exec = Jvm.exec) (hb : c.code = cc) (hts : ∀ w ∈ wsOf y0 c0 n0 r0, w.before args s = true) (hown : s.vm.findClass RX0 = some m.cls) (hK : va_K (dC, dI) vwCl [(cB, .byte), (cI, .int), (cJ, .long), (cZ, .boolean), (cS, .object "StreamQueries$Source"), (cO, .object "java/lang/Object")] s) (hP : va_P (dC, dI) vwCl (cW cB cI cJ cZ cS cO b cs) H) (hv : gI cs 7 229 i = some v) (hdg : decode cc pc = .ok (.getfield 174, 3)) (kk : W p l e R s m args below meth c H locs cells slots Q (F0 m (pc + 3) ls (.int v :: rest))) : W p l e R s m args below meth c H locs cells slots Q (F0 m pc ls (.ref (b + i) :: rest)) := by
  obtain ⟨h1, h2⟩ := gI_some hv
  obtain ⟨k, -, hg⟩ := cO_at (b := b) (cB := cB) (cI := cI) (cJ := cJ) (cZ := cZ) (cS := cS) (cO := cO) (by decide) h1
  have hf : (vL b cs i (32 * 7) (tyX 7))[5]? = some (.int v) := by
    show some (vV b cs 229 i 0) = _
    show some (Value.int (kI cs 229 i)) = _
    rw [h2]
  exact va_get (D := (dC, dI)) (ci := 7) (C := RX6) (T := TX6) (N := 12) hx hb hts (fun w h => List.mem_cons_of_mem _ (uG_X6 w h)) hown hK hP k hg rfl 5 (by decide) (hts _ (List.mem_cons_of_mem _ kw_1068)) (fun _ h9 => h9) hf hdg kk
theorem fp_X0_174 {p : Program} {l : Launch} {e : Env} {R : Room} {s : State} {m : MethodId} {args : Array Value} {below : List Frame} {meth : Method} {c : Code} {H : Heap} {locs : List Loc} {cells slots : Nat} {Q : State → Prop} {cc : ByteArray} {pc : Nat} {ls : Array Slot} {rest : List Value} {y0 : MethodName} {c0 : ByteArray} {n0 : Nat} {r0 : Option FieldType} {dC : Nat → ClassId} {dI : Nat → Nat → Nat} {cB cI cJ cZ cS cO : ClassId} {b : Nat} {cs : CS} {A : Nat → Prop} {H0 : Heap} {cs1 : CS} {i : Nat} {v : Int32} (hx : p.tables.exec = Jvm.exec) (hb : c.code = cc) (hts : ∀ w ∈ wsOf y0 c0 n0 r0, w.before args s = true) (hown : s.vm.findClass RX0 = some m.cls) (hK : va_K (dC, dI) vwCl [(cB, .byte), (cI, .int), (cJ, .long), (cZ, .boolean), (cS, .object "StreamQueries$Source"), (cO, .object "java/lang/Object")] s) (hP : va_P (dC, dI) vwCl (cW cB cI cJ cZ cS cO b cs) H) (hD : va_D A (cW cB cI cJ cZ cS cO b cs)) (hS : va_S A H0 H locs) (hv : pI cs 7 229 i v = some cs1) (hdg : decode cc pc = .ok (.putfield 174, 3)) (kk : ∀ (H1 : Heap) (locs1 : List Loc), va_P (dC, dI) vwCl (cW cB cI cJ cZ cS cO b cs1) H1 → va_D A (cW cB cI cJ cZ cS cO b cs1) → va_S A H0 H1 locs1 → W p l e R s m args below meth c H1 locs1 cells slots Q (F0 m (pc + 3) ls rest)) : W p l e R s m args below meth c H locs cells slots Q (F0 m pc ls (.int v :: .ref (b + i) :: rest)) := by
  obtain ⟨h1, rfl⟩ := pI_some hv
  obtain ⟨k, hk, hg⟩ := cO_at (b := b) (cB := cB) (cI := cI) (cJ := cJ) (cZ := cZ) (cS := cS) (cO := cO) (by decide) h1
  have hset := cW_putF (f := 5) (y := 0) (v := .int v) (cs1 := sI cs 229 i v) (by decide) rfl hD hk rfl rfl rfl rfl rfl rfl (by show Value.int (u2 (kI cs) 229 i v 229 i) = _; rw [u2_s]) (fun z j w hn => by
    have e9 : kI (sI cs 229 i v) z j = kI cs z j := u2_n hn
    match w with
    | 0 => show Value.int (kI (sI cs 229 i v) z j) = Value.int (kI cs z j); rw [e9]
    | 1 => rfl
    | 2 => rfl
    | _ + 3 => rfl)
  refine va_put (D := (dC, dI)) (ci := 7) (v := .int v) (ty := .int) (C := RX6) (T := TX6) (N := 12) hx hb hts (fun w h => List.mem_cons_of_mem _ (uG_X6 w h)) tyX6 tyX6_ok nmX6 hown hK hP hD hS k hg rfl 5 (by decide) (hts _ (List.mem_cons_of_mem _ kw_1068)) (fun _ h9 => h9) rfl (by decide +kernel) rfl rfl (by rw [vL_len]; decide) hdg (fun H1 l1 q1 q2 q3 => ?_)
  rw [hset] at q1 q2
  exact kk H1 l1 q1 q2 q3
theorem fg_X0_177 {p : Program} {l : Launch} {e : Env} {R : Room} {s : State} {m : MethodId} {args : Array Value} {below : List Frame} {meth : Method} {c : Code} {H : Heap} {locs : List Loc} {cells slots : Nat} {Q : State → Prop} {cc : ByteArray} {pc : Nat} {ls : Array Slot} {rest : List Value} {y0 : MethodName} {c0 : ByteArray} {n0 : Nat} {r0 : Option FieldType} {dC : Nat → ClassId} {dI : Nat → Nat → Nat} {cB cI cJ cZ cS cO : ClassId} {b : Nat} {cs : CS} {i : Nat} {v : Int32} (hx : p.tables.exec = Jvm.exec) (hb : c.code = cc) (hts : ∀ w ∈ wsOf y0 c0 n0 r0, w.before args s = true) (hown : s.vm.findClass RX0 = some m.cls) (hK : va_K (dC, dI) vwCl [(cB, .byte), (cI, .int), (cJ, .long), (cZ, .boolean), (cS, .object "StreamQueries$Source"), (cO, .object "java/lang/Object")] s) (hP : va_P (dC, dI) vwCl (cW cB cI cJ cZ cS cO b cs) H) (hv : gI cs 7 232 i = some v) (hdg : decode cc pc = .ok (.getfield 177, 3)) (kk : W p l e R s m args below meth c H locs cells slots Q (F0 m (pc + 3) ls (.int v :: rest))) : W p l e R s m args below meth c H locs cells slots Q (F0 m pc ls (.ref (b + i) :: rest)) := by
  obtain ⟨h1, h2⟩ := gI_some hv
  obtain ⟨k, -, hg⟩ := cO_at (b := b) (cB := cB) (cI := cI) (cJ := cJ) (cZ := cZ) (cS := cS) (cO := cO) (by decide) h1
  have hf : (vL b cs i (32 * 7) (tyX 7))[8]? = some (.int v) := by
    show some (vV b cs 232 i 0) = _
    show some (Value.int (kI cs 232 i)) = _
    rw [h2]
  exact va_get (D := (dC, dI)) (ci := 7) (C := RX6) (T := TX6) (N := 12) hx hb hts (fun w h => List.mem_cons_of_mem _ (uG_X6 w h)) hown hK hP k hg rfl 8 (by decide) (hts _ (List.mem_cons_of_mem _ kw_1076)) (fun _ h9 => h9) hf hdg kk
theorem fp_X0_177 {p : Program} {l : Launch} {e : Env} {R : Room} {s : State} {m : MethodId} {args : Array Value} {below : List Frame} {meth : Method} {c : Code} {H : Heap} {locs : List Loc} {cells slots : Nat} {Q : State → Prop} {cc : ByteArray} {pc : Nat} {ls : Array Slot} {rest : List Value} {y0 : MethodName} {c0 : ByteArray} {n0 : Nat} {r0 : Option FieldType} {dC : Nat → ClassId} {dI : Nat → Nat → Nat} {cB cI cJ cZ cS cO : ClassId} {b : Nat} {cs : CS} {A : Nat → Prop} {H0 : Heap} {cs1 : CS} {i : Nat} {v : Int32} (hx : p.tables.exec = Jvm.exec) (hb : c.code = cc) (hts : ∀ w ∈ wsOf y0 c0 n0 r0, w.before args s = true) (hown : s.vm.findClass RX0 = some m.cls) (hK : va_K (dC, dI) vwCl [(cB, .byte), (cI, .int), (cJ, .long), (cZ, .boolean), (cS, .object "StreamQueries$Source"), (cO, .object "java/lang/Object")] s) (hP : va_P (dC, dI) vwCl (cW cB cI cJ cZ cS cO b cs) H) (hD : va_D A (cW cB cI cJ cZ cS cO b cs)) (hS : va_S A H0 H locs) (hv : pI cs 7 232 i v = some cs1) (hdg : decode cc pc = .ok (.putfield 177, 3)) (kk : ∀ (H1 : Heap) (locs1 : List Loc), va_P (dC, dI) vwCl (cW cB cI cJ cZ cS cO b cs1) H1 → va_D A (cW cB cI cJ cZ cS cO b cs1) → va_S A H0 H1 locs1 → W p l e R s m args below meth c H1 locs1 cells slots Q (F0 m (pc + 3) ls rest)) : W p l e R s m args below meth c H locs cells slots Q (F0 m pc ls (.int v :: .ref (b + i) :: rest)) := by
  obtain ⟨h1, rfl⟩ := pI_some hv
  obtain ⟨k, hk, hg⟩ := cO_at (b := b) (cB := cB) (cI := cI) (cJ := cJ) (cZ := cZ) (cS := cS) (cO := cO) (by decide) h1
  have hset := cW_putF (f := 8) (y := 0) (v := .int v) (cs1 := sI cs 232 i v) (by decide) rfl hD hk rfl rfl rfl rfl rfl rfl (by show Value.int (u2 (kI cs) 232 i v 232 i) = _; rw [u2_s]) (fun z j w hn => by
    have e9 : kI (sI cs 232 i v) z j = kI cs z j := u2_n hn
    match w with
    | 0 => show Value.int (kI (sI cs 232 i v) z j) = Value.int (kI cs z j); rw [e9]
    | 1 => rfl
    | 2 => rfl
    | _ + 3 => rfl)
  refine va_put (D := (dC, dI)) (ci := 7) (v := .int v) (ty := .int) (C := RX6) (T := TX6) (N := 12) hx hb hts (fun w h => List.mem_cons_of_mem _ (uG_X6 w h)) tyX6 tyX6_ok nmX6 hown hK hP hD hS k hg rfl 8 (by decide) (hts _ (List.mem_cons_of_mem _ kw_1076)) (fun _ h9 => h9) rfl (by decide +kernel) rfl rfl (by rw [vL_len]; decide) hdg (fun H1 l1 q1 q2 q3 => ?_)
  rw [hset] at q1 q2
  exact kk H1 l1 q1 q2 q3
theorem fg_X0_180 {p : Program} {l : Launch} {e : Env} {R : Room} {s : State} {m : MethodId} {args : Array Value} {below : List Frame} {meth : Method} {c : Code} {H : Heap} {locs : List Loc} {cells slots : Nat} {Q : State → Prop} {cc : ByteArray} {pc : Nat} {ls : Array Slot} {rest : List Value} {y0 : MethodName} {c0 : ByteArray} {n0 : Nat} {r0 : Option FieldType} {dC : Nat → ClassId} {dI : Nat → Nat → Nat} {cB cI cJ cZ cS cO : ClassId} {b : Nat} {cs : CS} {i : Nat} {v : Int32} (hx : p.tables.exec = Jvm.exec) (hb : c.code = cc) (hts : ∀ w ∈ wsOf y0 c0 n0 r0, w.before args s = true) (hown : s.vm.findClass RX0 = some m.cls) (hK : va_K (dC, dI) vwCl [(cB, .byte), (cI, .int), (cJ, .long), (cZ, .boolean), (cS, .object "StreamQueries$Source"), (cO, .object "java/lang/Object")] s) (hP : va_P (dC, dI) vwCl (cW cB cI cJ cZ cS cO b cs) H) (hv : gI cs 7 234 i = some v) (hdg : decode cc pc = .ok (.getfield 180, 3)) (kk : W p l e R s m args below meth c H locs cells slots Q (F0 m (pc + 3) ls (.int v :: rest))) : W p l e R s m args below meth c H locs cells slots Q (F0 m pc ls (.ref (b + i) :: rest)) := by
  obtain ⟨h1, h2⟩ := gI_some hv
  obtain ⟨k, -, hg⟩ := cO_at (b := b) (cB := cB) (cI := cI) (cJ := cJ) (cZ := cZ) (cS := cS) (cO := cO) (by decide) h1
  have hf : (vL b cs i (32 * 7) (tyX 7))[10]? = some (.int v) := by
    show some (vV b cs 234 i 0) = _
    show some (Value.int (kI cs 234 i)) = _
    rw [h2]
  exact va_get (D := (dC, dI)) (ci := 7) (C := RX6) (T := TX6) (N := 12) hx hb hts (fun w h => List.mem_cons_of_mem _ (uG_X6 w h)) hown hK hP k hg rfl 10 (by decide) (hts _ (List.mem_cons_of_mem _ kw_1083)) (fun _ h9 => h9) hf hdg kk
theorem fp_X0_180 {p : Program} {l : Launch} {e : Env} {R : Room} {s : State} {m : MethodId} {args : Array Value} {below : List Frame} {meth : Method} {c : Code} {H : Heap} {locs : List Loc} {cells slots : Nat} {Q : State → Prop} {cc : ByteArray} {pc : Nat} {ls : Array Slot} {rest : List Value} {y0 : MethodName} {c0 : ByteArray} {n0 : Nat} {r0 : Option FieldType} {dC : Nat → ClassId} {dI : Nat → Nat → Nat} {cB cI cJ cZ cS cO : ClassId} {b : Nat} {cs : CS} {A : Nat → Prop} {H0 : Heap} {cs1 : CS} {i : Nat} {v : Int32} (hx : p.tables.exec = Jvm.exec) (hb : c.code = cc) (hts : ∀ w ∈ wsOf y0 c0 n0 r0, w.before args s = true) (hown : s.vm.findClass RX0 = some m.cls) (hK : va_K (dC, dI) vwCl [(cB, .byte), (cI, .int), (cJ, .long), (cZ, .boolean), (cS, .object "StreamQueries$Source"), (cO, .object "java/lang/Object")] s) (hP : va_P (dC, dI) vwCl (cW cB cI cJ cZ cS cO b cs) H) (hD : va_D A (cW cB cI cJ cZ cS cO b cs)) (hS : va_S A H0 H locs) (hv : pI cs 7 234 i v = some cs1) (hdg : decode cc pc = .ok (.putfield 180, 3)) (kk : ∀ (H1 : Heap) (locs1 : List Loc), va_P (dC, dI) vwCl (cW cB cI cJ cZ cS cO b cs1) H1 → va_D A (cW cB cI cJ cZ cS cO b cs1) → va_S A H0 H1 locs1 → W p l e R s m args below meth c H1 locs1 cells slots Q (F0 m (pc + 3) ls rest)) : W p l e R s m args below meth c H locs cells slots Q (F0 m pc ls (.int v :: .ref (b + i) :: rest)) := by
  obtain ⟨h1, rfl⟩ := pI_some hv
  obtain ⟨k, hk, hg⟩ := cO_at (b := b) (cB := cB) (cI := cI) (cJ := cJ) (cZ := cZ) (cS := cS) (cO := cO) (by decide) h1
  have hset := cW_putF (f := 10) (y := 0) (v := .int v) (cs1 := sI cs 234 i v) (by decide) rfl hD hk rfl rfl rfl rfl rfl rfl (by show Value.int (u2 (kI cs) 234 i v 234 i) = _; rw [u2_s]) (fun z j w hn => by
    have e9 : kI (sI cs 234 i v) z j = kI cs z j := u2_n hn
    match w with
    | 0 => show Value.int (kI (sI cs 234 i v) z j) = Value.int (kI cs z j); rw [e9]
    | 1 => rfl
    | 2 => rfl
    | _ + 3 => rfl)
  refine va_put (D := (dC, dI)) (ci := 7) (v := .int v) (ty := .int) (C := RX6) (T := TX6) (N := 12) hx hb hts (fun w h => List.mem_cons_of_mem _ (uG_X6 w h)) tyX6 tyX6_ok nmX6 hown hK hP hD hS k hg rfl 10 (by decide) (hts _ (List.mem_cons_of_mem _ kw_1083)) (fun _ h9 => h9) rfl (by decide +kernel) rfl rfl (by rw [vL_len]; decide) hdg (fun H1 l1 q1 q2 q3 => ?_)
  rw [hset] at q1 q2
  exact kk H1 l1 q1 q2 q3
theorem fg_X0_183 {p : Program} {l : Launch} {e : Env} {R : Room} {s : State} {m : MethodId} {args : Array Value} {below : List Frame} {meth : Method} {c : Code} {H : Heap} {locs : List Loc} {cells slots : Nat} {Q : State → Prop} {cc : ByteArray} {pc : Nat} {ls : Array Slot} {rest : List Value} {y0 : MethodName} {c0 : ByteArray} {n0 : Nat} {r0 : Option FieldType} {dC : Nat → ClassId} {dI : Nat → Nat → Nat} {cB cI cJ cZ cS cO : ClassId} {b : Nat} {cs : CS} {i : Nat} {v : (Option Nat)} (hx : p.tables.exec = Jvm.exec) (hb : c.code = cc) (hts : ∀ w ∈ wsOf y0 c0 n0 r0, w.before args s = true) (hown : s.vm.findClass RX0 = some m.cls) (hK : va_K (dC, dI) vwCl [(cB, .byte), (cI, .int), (cJ, .long), (cZ, .boolean), (cS, .object "StreamQueries$Source"), (cO, .object "java/lang/Object")] s) (hP : va_P (dC, dI) vwCl (cW cB cI cJ cZ cS cO b cs) H) (hv : gR cs 7 235 i = some v) (hdg : decode cc pc = .ok (.getfield 183, 3)) (kk : W p l e R s m args below meth c H locs cells slots Q (F0 m (pc + 3) ls (rv b v :: rest))) : W p l e R s m args below meth c H locs cells slots Q (F0 m pc ls (.ref (b + i) :: rest)) := by
  obtain ⟨h1, h2⟩ := gR_some hv
  obtain ⟨k, -, hg⟩ := cO_at (b := b) (cB := cB) (cI := cI) (cJ := cJ) (cZ := cZ) (cS := cS) (cO := cO) (by decide) h1
  have hf : (vL b cs i (32 * 7) (tyX 7))[11]? = some (rv b v) := by
    show some (vV b cs 235 i 2) = _
    show some (rv b (kR cs 235 i)) = _
    rw [h2]
  exact va_get (D := (dC, dI)) (ci := 7) (C := RX6) (T := TX6) (N := 12) hx hb hts (fun w h => List.mem_cons_of_mem _ (uG_X6 w h)) hown hK hP k hg rfl 11 (by decide) (hts _ (List.mem_cons_of_mem _ kw_1086)) (fun _ h9 => h9) hf hdg kk
theorem fg_X0_186 {p : Program} {l : Launch} {e : Env} {R : Room} {s : State} {m : MethodId} {args : Array Value} {below : List Frame} {meth : Method} {c : Code} {H : Heap} {locs : List Loc} {cells slots : Nat} {Q : State → Prop} {cc : ByteArray} {pc : Nat} {ls : Array Slot} {rest : List Value} {y0 : MethodName} {c0 : ByteArray} {n0 : Nat} {r0 : Option FieldType} {dC : Nat → ClassId} {dI : Nat → Nat → Nat} {cB cI cJ cZ cS cO : ClassId} {b : Nat} {cs : CS} {i : Nat} {v : Int32} (hx : p.tables.exec = Jvm.exec) (hb : c.code = cc) (hts : ∀ w ∈ wsOf y0 c0 n0 r0, w.before args s = true) (hown : s.vm.findClass RX0 = some m.cls) (hK : va_K (dC, dI) vwCl [(cB, .byte), (cI, .int), (cJ, .long), (cZ, .boolean), (cS, .object "StreamQueries$Source"), (cO, .object "java/lang/Object")] s) (hP : va_P (dC, dI) vwCl (cW cB cI cJ cZ cS cO b cs) H) (hv : gI cs 3 96 i = some v) (hdg : decode cc pc = .ok (.getfield 186, 3)) (kk : W p l e R s m args below meth c H locs cells slots Q (F0 m (pc + 3) ls (.int v :: rest))) : W p l e R s m args below meth c H locs cells slots Q (F0 m pc ls (.ref (b + i) :: rest)) := by
  obtain ⟨h1, h2⟩ := gI_some hv
  obtain ⟨k, -, hg⟩ := cO_at (b := b) (cB := cB) (cI := cI) (cJ := cJ) (cZ := cZ) (cS := cS) (cO := cO) (by decide) h1
  have hf : (vL b cs i (32 * 3) (tyX 3))[0]? = some (.int v) := by
    show some (vV b cs 96 i 0) = _
    show some (Value.int (kI cs 96 i)) = _
    rw [h2]
  exact va_get (D := (dC, dI)) (ci := 3) (C := RX2) (T := TX2) (N := 5) hx hb hts (fun w h => List.mem_cons_of_mem _ (uG_X2 w h)) hown hK hP k hg rfl 0 (by decide) (hts _ (List.mem_cons_of_mem _ kw_631)) (fun _ h9 => h9) hf hdg kk
theorem fp_X0_186 {p : Program} {l : Launch} {e : Env} {R : Room} {s : State} {m : MethodId} {args : Array Value} {below : List Frame} {meth : Method} {c : Code} {H : Heap} {locs : List Loc} {cells slots : Nat} {Q : State → Prop} {cc : ByteArray} {pc : Nat} {ls : Array Slot} {rest : List Value} {y0 : MethodName} {c0 : ByteArray} {n0 : Nat} {r0 : Option FieldType} {dC : Nat → ClassId} {dI : Nat → Nat → Nat} {cB cI cJ cZ cS cO : ClassId} {b : Nat} {cs : CS} {A : Nat → Prop} {H0 : Heap} {cs1 : CS} {i : Nat} {v : Int32} (hx : p.tables.exec = Jvm.exec) (hb : c.code = cc) (hts : ∀ w ∈ wsOf y0 c0 n0 r0, w.before args s = true) (hown : s.vm.findClass RX0 = some m.cls) (hK : va_K (dC, dI) vwCl [(cB, .byte), (cI, .int), (cJ, .long), (cZ, .boolean), (cS, .object "StreamQueries$Source"), (cO, .object "java/lang/Object")] s) (hP : va_P (dC, dI) vwCl (cW cB cI cJ cZ cS cO b cs) H) (hD : va_D A (cW cB cI cJ cZ cS cO b cs)) (hS : va_S A H0 H locs) (hv : pI cs 3 96 i v = some cs1) (hdg : decode cc pc = .ok (.putfield 186, 3)) (kk : ∀ (H1 : Heap) (locs1 : List Loc), va_P (dC, dI) vwCl (cW cB cI cJ cZ cS cO b cs1) H1 → va_D A (cW cB cI cJ cZ cS cO b cs1) → va_S A H0 H1 locs1 → W p l e R s m args below meth c H1 locs1 cells slots Q (F0 m (pc + 3) ls rest)) : W p l e R s m args below meth c H locs cells slots Q (F0 m pc ls (.int v :: .ref (b + i) :: rest)) := by
  obtain ⟨h1, rfl⟩ := pI_some hv
  obtain ⟨k, hk, hg⟩ := cO_at (b := b) (cB := cB) (cI := cI) (cJ := cJ) (cZ := cZ) (cS := cS) (cO := cO) (by decide) h1
  have hset := cW_putF (f := 0) (y := 0) (v := .int v) (cs1 := sI cs 96 i v) (by decide) rfl hD hk rfl rfl rfl rfl rfl rfl (by show Value.int (u2 (kI cs) 96 i v 96 i) = _; rw [u2_s]) (fun z j w hn => by
    have e9 : kI (sI cs 96 i v) z j = kI cs z j := u2_n hn
    match w with
    | 0 => show Value.int (kI (sI cs 96 i v) z j) = Value.int (kI cs z j); rw [e9]
    | 1 => rfl
    | 2 => rfl
    | _ + 3 => rfl)
  refine va_put (D := (dC, dI)) (ci := 3) (v := .int v) (ty := .int) (C := RX2) (T := TX2) (N := 5) hx hb hts (fun w h => List.mem_cons_of_mem _ (uG_X2 w h)) tyX2 tyX2_ok nmX2 hown hK hP hD hS k hg rfl 0 (by decide) (hts _ (List.mem_cons_of_mem _ kw_631)) (fun _ h9 => h9) rfl (by decide +kernel) rfl rfl (by rw [vL_len]; decide) hdg (fun H1 l1 q1 q2 q3 => ?_)
  rw [hset] at q1 q2
  exact kk H1 l1 q1 q2 q3
theorem fg_X0_188 {p : Program} {l : Launch} {e : Env} {R : Room} {s : State} {m : MethodId} {args : Array Value} {below : List Frame} {meth : Method} {c : Code} {H : Heap} {locs : List Loc} {cells slots : Nat} {Q : State → Prop} {cc : ByteArray} {pc : Nat} {ls : Array Slot} {rest : List Value} {y0 : MethodName} {c0 : ByteArray} {n0 : Nat} {r0 : Option FieldType} {dC : Nat → ClassId} {dI : Nat → Nat → Nat} {cB cI cJ cZ cS cO : ClassId} {b : Nat} {cs : CS} {i : Nat} {v : Int32} (hx : p.tables.exec = Jvm.exec) (hb : c.code = cc) (hts : ∀ w ∈ wsOf y0 c0 n0 r0, w.before args s = true) (hown : s.vm.findClass RX0 = some m.cls) (hK : va_K (dC, dI) vwCl [(cB, .byte), (cI, .int), (cJ, .long), (cZ, .boolean), (cS, .object "StreamQueries$Source"), (cO, .object "java/lang/Object")] s) (hP : va_P (dC, dI) vwCl (cW cB cI cJ cZ cS cO b cs) H) (hv : gI cs 7 233 i = some v) (hdg : decode cc pc = .ok (.getfield 188, 3)) (kk : W p l e R s m args below meth c H locs cells slots Q (F0 m (pc + 3) ls (.int v :: rest))) : W p l e R s m args below meth c H locs cells slots Q (F0 m pc ls (.ref (b + i) :: rest)) := by
  obtain ⟨h1, h2⟩ := gI_some hv
  obtain ⟨k, -, hg⟩ := cO_at (b := b) (cB := cB) (cI := cI) (cJ := cJ) (cZ := cZ) (cS := cS) (cO := cO) (by decide) h1
  have hf : (vL b cs i (32 * 7) (tyX 7))[9]? = some (.int v) := by
    show some (vV b cs 233 i 0) = _
    show some (Value.int (kI cs 233 i)) = _
    rw [h2]
  exact va_get (D := (dC, dI)) (ci := 7) (C := RX6) (T := TX6) (N := 12) hx hb hts (fun w h => List.mem_cons_of_mem _ (uG_X6 w h)) hown hK hP k hg rfl 9 (by decide) (hts _ (List.mem_cons_of_mem _ kw_1079)) (fun _ h9 => h9) hf hdg kk
theorem fp_X0_188 {p : Program} {l : Launch} {e : Env} {R : Room} {s : State} {m : MethodId} {args : Array Value} {below : List Frame} {meth : Method} {c : Code} {H : Heap} {locs : List Loc} {cells slots : Nat} {Q : State → Prop} {cc : ByteArray} {pc : Nat} {ls : Array Slot} {rest : List Value} {y0 : MethodName} {c0 : ByteArray} {n0 : Nat} {r0 : Option FieldType} {dC : Nat → ClassId} {dI : Nat → Nat → Nat} {cB cI cJ cZ cS cO : ClassId} {b : Nat} {cs : CS} {A : Nat → Prop} {H0 : Heap} {cs1 : CS} {i : Nat} {v : Int32} (hx : p.tables.exec = Jvm.exec) (hb : c.code = cc) (hts : ∀ w ∈ wsOf y0 c0 n0 r0, w.before args s = true) (hown : s.vm.findClass RX0 = some m.cls) (hK : va_K (dC, dI) vwCl [(cB, .byte), (cI, .int), (cJ, .long), (cZ, .boolean), (cS, .object "StreamQueries$Source"), (cO, .object "java/lang/Object")] s) (hP : va_P (dC, dI) vwCl (cW cB cI cJ cZ cS cO b cs) H) (hD : va_D A (cW cB cI cJ cZ cS cO b cs)) (hS : va_S A H0 H locs) (hv : pI cs 7 233 i v = some cs1) (hdg : decode cc pc = .ok (.putfield 188, 3)) (kk : ∀ (H1 : Heap) (locs1 : List Loc), va_P (dC, dI) vwCl (cW cB cI cJ cZ cS cO b cs1) H1 → va_D A (cW cB cI cJ cZ cS cO b cs1) → va_S A H0 H1 locs1 → W p l e R s m args below meth c H1 locs1 cells slots Q (F0 m (pc + 3) ls rest)) : W p l e R s m args below meth c H locs cells slots Q (F0 m pc ls (.int v :: .ref (b + i) :: rest)) := by
  obtain ⟨h1, rfl⟩ := pI_some hv
  obtain ⟨k, hk, hg⟩ := cO_at (b := b) (cB := cB) (cI := cI) (cJ := cJ) (cZ := cZ) (cS := cS) (cO := cO) (by decide) h1
  have hset := cW_putF (f := 9) (y := 0) (v := .int v) (cs1 := sI cs 233 i v) (by decide) rfl hD hk rfl rfl rfl rfl rfl rfl (by show Value.int (u2 (kI cs) 233 i v 233 i) = _; rw [u2_s]) (fun z j w hn => by
    have e9 : kI (sI cs 233 i v) z j = kI cs z j := u2_n hn
    match w with
    | 0 => show Value.int (kI (sI cs 233 i v) z j) = Value.int (kI cs z j); rw [e9]
    | 1 => rfl
    | 2 => rfl
    | _ + 3 => rfl)
  refine va_put (D := (dC, dI)) (ci := 7) (v := .int v) (ty := .int) (C := RX6) (T := TX6) (N := 12) hx hb hts (fun w h => List.mem_cons_of_mem _ (uG_X6 w h)) tyX6 tyX6_ok nmX6 hown hK hP hD hS k hg rfl 9 (by decide) (hts _ (List.mem_cons_of_mem _ kw_1079)) (fun _ h9 => h9) rfl (by decide +kernel) rfl rfl (by rw [vL_len]; decide) hdg (fun H1 l1 q1 q2 q3 => ?_)
  rw [hset] at q1 q2
  exact kk H1 l1 q1 q2 q3
theorem fg_X0_191 {p : Program} {l : Launch} {e : Env} {R : Room} {s : State} {m : MethodId} {args : Array Value} {below : List Frame} {meth : Method} {c : Code} {H : Heap} {locs : List Loc} {cells slots : Nat} {Q : State → Prop} {cc : ByteArray} {pc : Nat} {ls : Array Slot} {rest : List Value} {y0 : MethodName} {c0 : ByteArray} {n0 : Nat} {r0 : Option FieldType} {dC : Nat → ClassId} {dI : Nat → Nat → Nat} {cB cI cJ cZ cS cO : ClassId} {b : Nat} {cs : CS} {i : Nat} {v : Int32} (hx : p.tables.exec = Jvm.exec) (hb : c.code = cc) (hts : ∀ w ∈ wsOf y0 c0 n0 r0, w.before args s = true) (hown : s.vm.findClass RX0 = some m.cls) (hK : va_K (dC, dI) vwCl [(cB, .byte), (cI, .int), (cJ, .long), (cZ, .boolean), (cS, .object "StreamQueries$Source"), (cO, .object "java/lang/Object")] s) (hP : va_P (dC, dI) vwCl (cW cB cI cJ cZ cS cO b cs) H) (hv : gI cs 7 224 i = some v) (hdg : decode cc pc = .ok (.getfield 191, 3)) (kk : W p l e R s m args below meth c H locs cells slots Q (F0 m (pc + 3) ls (.int v :: rest))) : W p l e R s m args below meth c H locs cells slots Q (F0 m pc ls (.ref (b + i) :: rest)) := by
  obtain ⟨h1, h2⟩ := gI_some hv
  obtain ⟨k, -, hg⟩ := cO_at (b := b) (cB := cB) (cI := cI) (cJ := cJ) (cZ := cZ) (cS := cS) (cO := cO) (by decide) h1
  have hf : (vL b cs i (32 * 7) (tyX 7))[0]? = some (.int v) := by
    show some (vV b cs 224 i 0) = _
    show some (Value.int (kI cs 224 i)) = _
    rw [h2]
  exact va_get (D := (dC, dI)) (ci := 7) (C := RX6) (T := TX6) (N := 12) hx hb hts (fun w h => List.mem_cons_of_mem _ (uG_X6 w h)) hown hK hP k hg rfl 0 (by decide) (hts _ (List.mem_cons_of_mem _ kw_1056)) (fun _ h9 => h9) hf hdg kk
theorem fp_X0_191 {p : Program} {l : Launch} {e : Env} {R : Room} {s : State} {m : MethodId} {args : Array Value} {below : List Frame} {meth : Method} {c : Code} {H : Heap} {locs : List Loc} {cells slots : Nat} {Q : State → Prop} {cc : ByteArray} {pc : Nat} {ls : Array Slot} {rest : List Value} {y0 : MethodName} {c0 : ByteArray} {n0 : Nat} {r0 : Option FieldType} {dC : Nat → ClassId} {dI : Nat → Nat → Nat} {cB cI cJ cZ cS cO : ClassId} {b : Nat} {cs : CS} {A : Nat → Prop} {H0 : Heap} {cs1 : CS} {i : Nat} {v : Int32} (hx : p.tables.exec = Jvm.exec) (hb : c.code = cc) (hts : ∀ w ∈ wsOf y0 c0 n0 r0, w.before args s = true) (hown : s.vm.findClass RX0 = some m.cls) (hK : va_K (dC, dI) vwCl [(cB, .byte), (cI, .int), (cJ, .long), (cZ, .boolean), (cS, .object "StreamQueries$Source"), (cO, .object "java/lang/Object")] s) (hP : va_P (dC, dI) vwCl (cW cB cI cJ cZ cS cO b cs) H) (hD : va_D A (cW cB cI cJ cZ cS cO b cs)) (hS : va_S A H0 H locs) (hv : pI cs 7 224 i v = some cs1) (hdg : decode cc pc = .ok (.putfield 191, 3)) (kk : ∀ (H1 : Heap) (locs1 : List Loc), va_P (dC, dI) vwCl (cW cB cI cJ cZ cS cO b cs1) H1 → va_D A (cW cB cI cJ cZ cS cO b cs1) → va_S A H0 H1 locs1 → W p l e R s m args below meth c H1 locs1 cells slots Q (F0 m (pc + 3) ls rest)) : W p l e R s m args below meth c H locs cells slots Q (F0 m pc ls (.int v :: .ref (b + i) :: rest)) := by
  obtain ⟨h1, rfl⟩ := pI_some hv
  obtain ⟨k, hk, hg⟩ := cO_at (b := b) (cB := cB) (cI := cI) (cJ := cJ) (cZ := cZ) (cS := cS) (cO := cO) (by decide) h1
  have hset := cW_putF (f := 0) (y := 0) (v := .int v) (cs1 := sI cs 224 i v) (by decide) rfl hD hk rfl rfl rfl rfl rfl rfl (by show Value.int (u2 (kI cs) 224 i v 224 i) = _; rw [u2_s]) (fun z j w hn => by
    have e9 : kI (sI cs 224 i v) z j = kI cs z j := u2_n hn
    match w with
    | 0 => show Value.int (kI (sI cs 224 i v) z j) = Value.int (kI cs z j); rw [e9]
    | 1 => rfl
    | 2 => rfl
    | _ + 3 => rfl)
  refine va_put (D := (dC, dI)) (ci := 7) (v := .int v) (ty := .int) (C := RX6) (T := TX6) (N := 12) hx hb hts (fun w h => List.mem_cons_of_mem _ (uG_X6 w h)) tyX6 tyX6_ok nmX6 hown hK hP hD hS k hg rfl 0 (by decide) (hts _ (List.mem_cons_of_mem _ kw_1056)) (fun _ h9 => h9) rfl (by decide +kernel) rfl rfl (by rw [vL_len]; decide) hdg (fun H1 l1 q1 q2 q3 => ?_)
  rw [hset] at q1 q2
  exact kk H1 l1 q1 q2 q3
theorem fg_X0_200 {p : Program} {l : Launch} {e : Env} {R : Room} {s : State} {m : MethodId} {args : Array Value} {below : List Frame} {meth : Method} {c : Code} {H : Heap} {locs : List Loc} {cells slots : Nat} {Q : State → Prop} {cc : ByteArray} {pc : Nat} {ls : Array Slot} {rest : List Value} {y0 : MethodName} {c0 : ByteArray} {n0 : Nat} {r0 : Option FieldType} {dC : Nat → ClassId} {dI : Nat → Nat → Nat} {cB cI cJ cZ cS cO : ClassId} {b : Nat} {cs : CS} {i : Nat} {v : Int32} (hx : p.tables.exec = Jvm.exec) (hb : c.code = cc) (hts : ∀ w ∈ wsOf y0 c0 n0 r0, w.before args s = true) (hown : s.vm.findClass RX0 = some m.cls) (hK : va_K (dC, dI) vwCl [(cB, .byte), (cI, .int), (cJ, .long), (cZ, .boolean), (cS, .object "StreamQueries$Source"), (cO, .object "java/lang/Object")] s) (hP : va_P (dC, dI) vwCl (cW cB cI cJ cZ cS cO b cs) H) (hv : gI cs 7 226 i = some v) (hdg : decode cc pc = .ok (.getfield 200, 3)) (kk : W p l e R s m args below meth c H locs cells slots Q (F0 m (pc + 3) ls (.int v :: rest))) : W p l e R s m args below meth c H locs cells slots Q (F0 m pc ls (.ref (b + i) :: rest)) := by
  obtain ⟨h1, h2⟩ := gI_some hv
  obtain ⟨k, -, hg⟩ := cO_at (b := b) (cB := cB) (cI := cI) (cJ := cJ) (cZ := cZ) (cS := cS) (cO := cO) (by decide) h1
  have hf : (vL b cs i (32 * 7) (tyX 7))[2]? = some (.int v) := by
    show some (vV b cs 226 i 0) = _
    show some (Value.int (kI cs 226 i)) = _
    rw [h2]
  exact va_get (D := (dC, dI)) (ci := 7) (C := RX6) (T := TX6) (N := 12) hx hb hts (fun w h => List.mem_cons_of_mem _ (uG_X6 w h)) hown hK hP k hg rfl 2 (by decide) (hts _ (List.mem_cons_of_mem _ kw_1061)) (fun _ h9 => h9) hf hdg kk
theorem fp_X0_200 {p : Program} {l : Launch} {e : Env} {R : Room} {s : State} {m : MethodId} {args : Array Value} {below : List Frame} {meth : Method} {c : Code} {H : Heap} {locs : List Loc} {cells slots : Nat} {Q : State → Prop} {cc : ByteArray} {pc : Nat} {ls : Array Slot} {rest : List Value} {y0 : MethodName} {c0 : ByteArray} {n0 : Nat} {r0 : Option FieldType} {dC : Nat → ClassId} {dI : Nat → Nat → Nat} {cB cI cJ cZ cS cO : ClassId} {b : Nat} {cs : CS} {A : Nat → Prop} {H0 : Heap} {cs1 : CS} {i : Nat} {v : Int32} (hx : p.tables.exec = Jvm.exec) (hb : c.code = cc) (hts : ∀ w ∈ wsOf y0 c0 n0 r0, w.before args s = true) (hown : s.vm.findClass RX0 = some m.cls) (hK : va_K (dC, dI) vwCl [(cB, .byte), (cI, .int), (cJ, .long), (cZ, .boolean), (cS, .object "StreamQueries$Source"), (cO, .object "java/lang/Object")] s) (hP : va_P (dC, dI) vwCl (cW cB cI cJ cZ cS cO b cs) H) (hD : va_D A (cW cB cI cJ cZ cS cO b cs)) (hS : va_S A H0 H locs) (hv : pI cs 7 226 i v = some cs1) (hdg : decode cc pc = .ok (.putfield 200, 3)) (kk : ∀ (H1 : Heap) (locs1 : List Loc), va_P (dC, dI) vwCl (cW cB cI cJ cZ cS cO b cs1) H1 → va_D A (cW cB cI cJ cZ cS cO b cs1) → va_S A H0 H1 locs1 → W p l e R s m args below meth c H1 locs1 cells slots Q (F0 m (pc + 3) ls rest)) : W p l e R s m args below meth c H locs cells slots Q (F0 m pc ls (.int v :: .ref (b + i) :: rest)) := by
  obtain ⟨h1, rfl⟩ := pI_some hv
  obtain ⟨k, hk, hg⟩ := cO_at (b := b) (cB := cB) (cI := cI) (cJ := cJ) (cZ := cZ) (cS := cS) (cO := cO) (by decide) h1
  have hset := cW_putF (f := 2) (y := 0) (v := .int v) (cs1 := sI cs 226 i v) (by decide) rfl hD hk rfl rfl rfl rfl rfl rfl (by show Value.int (u2 (kI cs) 226 i v 226 i) = _; rw [u2_s]) (fun z j w hn => by
    have e9 : kI (sI cs 226 i v) z j = kI cs z j := u2_n hn
    match w with
    | 0 => show Value.int (kI (sI cs 226 i v) z j) = Value.int (kI cs z j); rw [e9]
    | 1 => rfl
    | 2 => rfl
    | _ + 3 => rfl)
  refine va_put (D := (dC, dI)) (ci := 7) (v := .int v) (ty := .int) (C := RX6) (T := TX6) (N := 12) hx hb hts (fun w h => List.mem_cons_of_mem _ (uG_X6 w h)) tyX6 tyX6_ok nmX6 hown hK hP hD hS k hg rfl 2 (by decide) (hts _ (List.mem_cons_of_mem _ kw_1061)) (fun _ h9 => h9) rfl (by decide +kernel) rfl rfl (by rw [vL_len]; decide) hdg (fun H1 l1 q1 q2 q3 => ?_)
  rw [hset] at q1 q2
  exact kk H1 l1 q1 q2 q3
theorem fg_X0_218 {p : Program} {l : Launch} {e : Env} {R : Room} {s : State} {m : MethodId} {args : Array Value} {below : List Frame} {meth : Method} {c : Code} {H : Heap} {locs : List Loc} {cells slots : Nat} {Q : State → Prop} {cc : ByteArray} {pc : Nat} {ls : Array Slot} {rest : List Value} {y0 : MethodName} {c0 : ByteArray} {n0 : Nat} {r0 : Option FieldType} {dC : Nat → ClassId} {dI : Nat → Nat → Nat} {cB cI cJ cZ cS cO : ClassId} {b : Nat} {cs : CS} {i : Nat} {v : Int32} (hx : p.tables.exec = Jvm.exec) (hb : c.code = cc) (hts : ∀ w ∈ wsOf y0 c0 n0 r0, w.before args s = true) (hown : s.vm.findClass RX0 = some m.cls) (hK : va_K (dC, dI) vwCl [(cB, .byte), (cI, .int), (cJ, .long), (cZ, .boolean), (cS, .object "StreamQueries$Source"), (cO, .object "java/lang/Object")] s) (hP : va_P (dC, dI) vwCl (cW cB cI cJ cZ cS cO b cs) H) (hv : gI cs 7 227 i = some v) (hdg : decode cc pc = .ok (.getfield 218, 3)) (kk : W p l e R s m args below meth c H locs cells slots Q (F0 m (pc + 3) ls (.int v :: rest))) : W p l e R s m args below meth c H locs cells slots Q (F0 m pc ls (.ref (b + i) :: rest)) := by
  obtain ⟨h1, h2⟩ := gI_some hv
  obtain ⟨k, -, hg⟩ := cO_at (b := b) (cB := cB) (cI := cI) (cJ := cJ) (cZ := cZ) (cS := cS) (cO := cO) (by decide) h1
  have hf : (vL b cs i (32 * 7) (tyX 7))[3]? = some (.int v) := by
    show some (vV b cs 227 i 0) = _
    show some (Value.int (kI cs 227 i)) = _
    rw [h2]
  exact va_get (D := (dC, dI)) (ci := 7) (C := RX6) (T := TX6) (N := 12) hx hb hts (fun w h => List.mem_cons_of_mem _ (uG_X6 w h)) hown hK hP k hg rfl 3 (by decide) (hts _ (List.mem_cons_of_mem _ kw_1063)) (fun _ h9 => h9) hf hdg kk
theorem fp_X0_218 {p : Program} {l : Launch} {e : Env} {R : Room} {s : State} {m : MethodId} {args : Array Value} {below : List Frame} {meth : Method} {c : Code} {H : Heap} {locs : List Loc} {cells slots : Nat} {Q : State → Prop} {cc : ByteArray} {pc : Nat} {ls : Array Slot} {rest : List Value} {y0 : MethodName} {c0 : ByteArray} {n0 : Nat} {r0 : Option FieldType} {dC : Nat → ClassId} {dI : Nat → Nat → Nat} {cB cI cJ cZ cS cO : ClassId} {b : Nat} {cs : CS} {A : Nat → Prop} {H0 : Heap} {cs1 : CS} {i : Nat} {v : Int32} (hx : p.tables.exec = Jvm.exec) (hb : c.code = cc) (hts : ∀ w ∈ wsOf y0 c0 n0 r0, w.before args s = true) (hown : s.vm.findClass RX0 = some m.cls) (hK : va_K (dC, dI) vwCl [(cB, .byte), (cI, .int), (cJ, .long), (cZ, .boolean), (cS, .object "StreamQueries$Source"), (cO, .object "java/lang/Object")] s) (hP : va_P (dC, dI) vwCl (cW cB cI cJ cZ cS cO b cs) H) (hD : va_D A (cW cB cI cJ cZ cS cO b cs)) (hS : va_S A H0 H locs) (hv : pI cs 7 227 i v = some cs1) (hdg : decode cc pc = .ok (.putfield 218, 3)) (kk : ∀ (H1 : Heap) (locs1 : List Loc), va_P (dC, dI) vwCl (cW cB cI cJ cZ cS cO b cs1) H1 → va_D A (cW cB cI cJ cZ cS cO b cs1) → va_S A H0 H1 locs1 → W p l e R s m args below meth c H1 locs1 cells slots Q (F0 m (pc + 3) ls rest)) : W p l e R s m args below meth c H locs cells slots Q (F0 m pc ls (.int v :: .ref (b + i) :: rest)) := by
  obtain ⟨h1, rfl⟩ := pI_some hv
  obtain ⟨k, hk, hg⟩ := cO_at (b := b) (cB := cB) (cI := cI) (cJ := cJ) (cZ := cZ) (cS := cS) (cO := cO) (by decide) h1
  have hset := cW_putF (f := 3) (y := 0) (v := .int v) (cs1 := sI cs 227 i v) (by decide) rfl hD hk rfl rfl rfl rfl rfl rfl (by show Value.int (u2 (kI cs) 227 i v 227 i) = _; rw [u2_s]) (fun z j w hn => by
    have e9 : kI (sI cs 227 i v) z j = kI cs z j := u2_n hn
    match w with
    | 0 => show Value.int (kI (sI cs 227 i v) z j) = Value.int (kI cs z j); rw [e9]
    | 1 => rfl
    | 2 => rfl
    | _ + 3 => rfl)
  refine va_put (D := (dC, dI)) (ci := 7) (v := .int v) (ty := .int) (C := RX6) (T := TX6) (N := 12) hx hb hts (fun w h => List.mem_cons_of_mem _ (uG_X6 w h)) tyX6 tyX6_ok nmX6 hown hK hP hD hS k hg rfl 3 (by decide) (hts _ (List.mem_cons_of_mem _ kw_1063)) (fun _ h9 => h9) rfl (by decide +kernel) rfl rfl (by rw [vL_len]; decide) hdg (fun H1 l1 q1 q2 q3 => ?_)
  rw [hset] at q1 q2
  exact kk H1 l1 q1 q2 q3
theorem fg_X0_224 {p : Program} {l : Launch} {e : Env} {R : Room} {s : State} {m : MethodId} {args : Array Value} {below : List Frame} {meth : Method} {c : Code} {H : Heap} {locs : List Loc} {cells slots : Nat} {Q : State → Prop} {cc : ByteArray} {pc : Nat} {ls : Array Slot} {rest : List Value} {y0 : MethodName} {c0 : ByteArray} {n0 : Nat} {r0 : Option FieldType} {dC : Nat → ClassId} {dI : Nat → Nat → Nat} {cB cI cJ cZ cS cO : ClassId} {b : Nat} {cs : CS} {i : Nat} {v : Nat} (hx : p.tables.exec = Jvm.exec) (hb : c.code = cc) (hts : ∀ w ∈ wsOf y0 c0 n0 r0, w.before args s = true) (hown : s.vm.findClass RX0 = some m.cls) (hK : va_K (dC, dI) vwCl [(cB, .byte), (cI, .int), (cJ, .long), (cZ, .boolean), (cS, .object "StreamQueries$Source"), (cO, .object "java/lang/Object")] s) (hP : va_P (dC, dI) vwCl (cW cB cI cJ cZ cS cO b cs) H) (hv : gA cs 3 98 i = some v) (hdg : decode cc pc = .ok (.getfield 224, 3)) (kk : W p l e R s m args below meth c H locs cells slots Q (F0 m (pc + 3) ls (.ref (b + v) :: rest))) : W p l e R s m args below meth c H locs cells slots Q (F0 m pc ls (.ref (b + i) :: rest)) := by
  obtain ⟨h1, h2⟩ := gA_some hv
  obtain ⟨k, -, hg⟩ := cO_at (b := b) (cB := cB) (cI := cI) (cJ := cJ) (cZ := cZ) (cS := cS) (cO := cO) (by decide) h1
  have hf : (vL b cs i (32 * 3) (tyX 3))[2]? = some (.ref (b + v)) := by
    show some (vV b cs 98 i 3) = _
    show some (rv b (kP cs 98 i)) = _
    rw [h2]; rfl
  exact va_get (D := (dC, dI)) (ci := 3) (C := RX2) (T := TX2) (N := 5) hx hb hts (fun w h => List.mem_cons_of_mem _ (uG_X2 w h)) hown hK hP k hg rfl 2 (by decide) (hts _ (List.mem_cons_of_mem _ kw_637)) (fun _ h9 => h9) hf hdg kk
theorem fg_X0_227 {p : Program} {l : Launch} {e : Env} {R : Room} {s : State} {m : MethodId} {args : Array Value} {below : List Frame} {meth : Method} {c : Code} {H : Heap} {locs : List Loc} {cells slots : Nat} {Q : State → Prop} {cc : ByteArray} {pc : Nat} {ls : Array Slot} {rest : List Value} {y0 : MethodName} {c0 : ByteArray} {n0 : Nat} {r0 : Option FieldType} {dC : Nat → ClassId} {dI : Nat → Nat → Nat} {cB cI cJ cZ cS cO : ClassId} {b : Nat} {cs : CS} {i : Nat} {v : Nat} (hx : p.tables.exec = Jvm.exec) (hb : c.code = cc) (hts : ∀ w ∈ wsOf y0 c0 n0 r0, w.before args s = true) (hown : s.vm.findClass RX0 = some m.cls) (hK : va_K (dC, dI) vwCl [(cB, .byte), (cI, .int), (cJ, .long), (cZ, .boolean), (cS, .object "StreamQueries$Source"), (cO, .object "java/lang/Object")] s) (hP : va_P (dC, dI) vwCl (cW cB cI cJ cZ cS cO b cs) H) (hv : gA cs 3 100 i = some v) (hdg : decode cc pc = .ok (.getfield 227, 3)) (kk : W p l e R s m args below meth c H locs cells slots Q (F0 m (pc + 3) ls (.ref (b + v) :: rest))) : W p l e R s m args below meth c H locs cells slots Q (F0 m pc ls (.ref (b + i) :: rest)) := by
  obtain ⟨h1, h2⟩ := gA_some hv
  obtain ⟨k, -, hg⟩ := cO_at (b := b) (cB := cB) (cI := cI) (cJ := cJ) (cZ := cZ) (cS := cS) (cO := cO) (by decide) h1
  have hf : (vL b cs i (32 * 3) (tyX 3))[4]? = some (.ref (b + v)) := by
    show some (vV b cs 100 i 3) = _
    show some (rv b (kP cs 100 i)) = _
    rw [h2]; rfl
  exact va_get (D := (dC, dI)) (ci := 3) (C := RX2) (T := TX2) (N := 5) hx hb hts (fun w h => List.mem_cons_of_mem _ (uG_X2 w h)) hown hK hP k hg rfl 4 (by decide) (hts _ (List.mem_cons_of_mem _ kw_642)) (fun _ h9 => h9) hf hdg kk
theorem fg_X0_231 {p : Program} {l : Launch} {e : Env} {R : Room} {s : State} {m : MethodId} {args : Array Value} {below : List Frame} {meth : Method} {c : Code} {H : Heap} {locs : List Loc} {cells slots : Nat} {Q : State → Prop} {cc : ByteArray} {pc : Nat} {ls : Array Slot} {rest : List Value} {y0 : MethodName} {c0 : ByteArray} {n0 : Nat} {r0 : Option FieldType} {dC : Nat → ClassId} {dI : Nat → Nat → Nat} {cB cI cJ cZ cS cO : ClassId} {b : Nat} {cs : CS} {i : Nat} {v : Int32} (hx : p.tables.exec = Jvm.exec) (hb : c.code = cc) (hts : ∀ w ∈ wsOf y0 c0 n0 r0, w.before args s = true) (hown : s.vm.findClass RX0 = some m.cls) (hK : va_K (dC, dI) vwCl [(cB, .byte), (cI, .int), (cJ, .long), (cZ, .boolean), (cS, .object "StreamQueries$Source"), (cO, .object "java/lang/Object")] s) (hP : va_P (dC, dI) vwCl (cW cB cI cJ cZ cS cO b cs) H) (hv : gI cs 6 198 i = some v) (hdg : decode cc pc = .ok (.getfield 231, 3)) (kk : W p l e R s m args below meth c H locs cells slots Q (F0 m (pc + 3) ls (.int v :: rest))) : W p l e R s m args below meth c H locs cells slots Q (F0 m pc ls (.ref (b + i) :: rest)) := by
  obtain ⟨h1, h2⟩ := gI_some hv
  obtain ⟨k, -, hg⟩ := cO_at (b := b) (cB := cB) (cI := cI) (cJ := cJ) (cZ := cZ) (cS := cS) (cO := cO) (by decide) h1
  have hf : (vL b cs i (32 * 6) (tyX 6))[6]? = some (.int v) := by
    show some (vV b cs 198 i 0) = _
    show some (Value.int (kI cs 198 i)) = _
    rw [h2]
  exact va_get (D := (dC, dI)) (ci := 6) (C := RX5) (T := TX5) (N := 15) hx hb hts (fun w h => List.mem_cons_of_mem _ (uG_X5 w h)) hown hK hP k hg rfl 6 (by decide) (hts _ (List.mem_cons_of_mem _ kw_678)) (fun _ h9 => h9) hf hdg kk
theorem fp_X0_231 {p : Program} {l : Launch} {e : Env} {R : Room} {s : State} {m : MethodId} {args : Array Value} {below : List Frame} {meth : Method} {c : Code} {H : Heap} {locs : List Loc} {cells slots : Nat} {Q : State → Prop} {cc : ByteArray} {pc : Nat} {ls : Array Slot} {rest : List Value} {y0 : MethodName} {c0 : ByteArray} {n0 : Nat} {r0 : Option FieldType} {dC : Nat → ClassId} {dI : Nat → Nat → Nat} {cB cI cJ cZ cS cO : ClassId} {b : Nat} {cs : CS} {A : Nat → Prop} {H0 : Heap} {cs1 : CS} {i : Nat} {v : Int32} (hx : p.tables.exec = Jvm.exec) (hb : c.code = cc) (hts : ∀ w ∈ wsOf y0 c0 n0 r0, w.before args s = true) (hown : s.vm.findClass RX0 = some m.cls) (hK : va_K (dC, dI) vwCl [(cB, .byte), (cI, .int), (cJ, .long), (cZ, .boolean), (cS, .object "StreamQueries$Source"), (cO, .object "java/lang/Object")] s) (hP : va_P (dC, dI) vwCl (cW cB cI cJ cZ cS cO b cs) H) (hD : va_D A (cW cB cI cJ cZ cS cO b cs)) (hS : va_S A H0 H locs) (hz : v = 0 ∨ v = 1) (hv : pI cs 6 198 i v = some cs1) (hdg : decode cc pc = .ok (.putfield 231, 3)) (kk : ∀ (H1 : Heap) (locs1 : List Loc), va_P (dC, dI) vwCl (cW cB cI cJ cZ cS cO b cs1) H1 → va_D A (cW cB cI cJ cZ cS cO b cs1) → va_S A H0 H1 locs1 → W p l e R s m args below meth c H1 locs1 cells slots Q (F0 m (pc + 3) ls rest)) : W p l e R s m args below meth c H locs cells slots Q (F0 m pc ls (.int v :: .ref (b + i) :: rest)) := by
  obtain ⟨h1, rfl⟩ := pI_some hv
  obtain ⟨k, hk, hg⟩ := cO_at (b := b) (cB := cB) (cI := cI) (cJ := cJ) (cZ := cZ) (cS := cS) (cO := cO) (by decide) h1
  have hset := cW_putF (f := 6) (y := 0) (v := .int v) (cs1 := sI cs 198 i v) (by decide) rfl hD hk rfl rfl rfl rfl rfl rfl (by show Value.int (u2 (kI cs) 198 i v 198 i) = _; rw [u2_s]) (fun z j w hn => by
    have e9 : kI (sI cs 198 i v) z j = kI cs z j := u2_n hn
    match w with
    | 0 => show Value.int (kI (sI cs 198 i v) z j) = Value.int (kI cs z j); rw [e9]
    | 1 => rfl
    | 2 => rfl
    | _ + 3 => rfl)
  refine va_put (D := (dC, dI)) (ci := 6) (v := .int v) (ty := .boolean) (C := RX5) (T := TX5) (N := 15) hx hb hts (fun w h => List.mem_cons_of_mem _ (uG_X5 w h)) tyX5 tyX5_ok nmX5 hown hK hP hD hS k hg rfl 6 (by decide) (hts _ (List.mem_cons_of_mem _ kw_678)) (fun _ h9 => h9) rfl (by decide +kernel) (nzN hz) (nzF hz) (by rw [vL_len]; decide) hdg (fun H1 l1 q1 q2 q3 => ?_)
  rw [hset] at q1 q2
  exact kk H1 l1 q1 q2 q3
theorem fg_X0_234 {p : Program} {l : Launch} {e : Env} {R : Room} {s : State} {m : MethodId} {args : Array Value} {below : List Frame} {meth : Method} {c : Code} {H : Heap} {locs : List Loc} {cells slots : Nat} {Q : State → Prop} {cc : ByteArray} {pc : Nat} {ls : Array Slot} {rest : List Value} {y0 : MethodName} {c0 : ByteArray} {n0 : Nat} {r0 : Option FieldType} {dC : Nat → ClassId} {dI : Nat → Nat → Nat} {cB cI cJ cZ cS cO : ClassId} {b : Nat} {cs : CS} {i : Nat} {v : Int32} (hx : p.tables.exec = Jvm.exec) (hb : c.code = cc) (hts : ∀ w ∈ wsOf y0 c0 n0 r0, w.before args s = true) (hown : s.vm.findClass RX0 = some m.cls) (hK : va_K (dC, dI) vwCl [(cB, .byte), (cI, .int), (cJ, .long), (cZ, .boolean), (cS, .object "StreamQueries$Source"), (cO, .object "java/lang/Object")] s) (hP : va_P (dC, dI) vwCl (cW cB cI cJ cZ cS cO b cs) H) (hv : gI cs 6 199 i = some v) (hdg : decode cc pc = .ok (.getfield 234, 3)) (kk : W p l e R s m args below meth c H locs cells slots Q (F0 m (pc + 3) ls (.int v :: rest))) : W p l e R s m args below meth c H locs cells slots Q (F0 m pc ls (.ref (b + i) :: rest)) := by
  obtain ⟨h1, h2⟩ := gI_some hv
  obtain ⟨k, -, hg⟩ := cO_at (b := b) (cB := cB) (cI := cI) (cJ := cJ) (cZ := cZ) (cS := cS) (cO := cO) (by decide) h1
  have hf : (vL b cs i (32 * 6) (tyX 6))[7]? = some (.int v) := by
    show some (vV b cs 199 i 0) = _
    show some (Value.int (kI cs 199 i)) = _
    rw [h2]
  exact va_get (D := (dC, dI)) (ci := 6) (C := RX5) (T := TX5) (N := 15) hx hb hts (fun w h => List.mem_cons_of_mem _ (uG_X5 w h)) hown hK hP k hg rfl 7 (by decide) (hts _ (List.mem_cons_of_mem _ kw_680)) (fun _ h9 => h9) hf hdg kk
theorem fp_X0_234 {p : Program} {l : Launch} {e : Env} {R : Room} {s : State} {m : MethodId} {args : Array Value} {below : List Frame} {meth : Method} {c : Code} {H : Heap} {locs : List Loc} {cells slots : Nat} {Q : State → Prop} {cc : ByteArray} {pc : Nat} {ls : Array Slot} {rest : List Value} {y0 : MethodName} {c0 : ByteArray} {n0 : Nat} {r0 : Option FieldType} {dC : Nat → ClassId} {dI : Nat → Nat → Nat} {cB cI cJ cZ cS cO : ClassId} {b : Nat} {cs : CS} {A : Nat → Prop} {H0 : Heap} {cs1 : CS} {i : Nat} {v : Int32} (hx : p.tables.exec = Jvm.exec) (hb : c.code = cc) (hts : ∀ w ∈ wsOf y0 c0 n0 r0, w.before args s = true) (hown : s.vm.findClass RX0 = some m.cls) (hK : va_K (dC, dI) vwCl [(cB, .byte), (cI, .int), (cJ, .long), (cZ, .boolean), (cS, .object "StreamQueries$Source"), (cO, .object "java/lang/Object")] s) (hP : va_P (dC, dI) vwCl (cW cB cI cJ cZ cS cO b cs) H) (hD : va_D A (cW cB cI cJ cZ cS cO b cs)) (hS : va_S A H0 H locs) (hv : pI cs 6 199 i v = some cs1) (hdg : decode cc pc = .ok (.putfield 234, 3)) (kk : ∀ (H1 : Heap) (locs1 : List Loc), va_P (dC, dI) vwCl (cW cB cI cJ cZ cS cO b cs1) H1 → va_D A (cW cB cI cJ cZ cS cO b cs1) → va_S A H0 H1 locs1 → W p l e R s m args below meth c H1 locs1 cells slots Q (F0 m (pc + 3) ls rest)) : W p l e R s m args below meth c H locs cells slots Q (F0 m pc ls (.int v :: .ref (b + i) :: rest)) := by
  obtain ⟨h1, rfl⟩ := pI_some hv
  obtain ⟨k, hk, hg⟩ := cO_at (b := b) (cB := cB) (cI := cI) (cJ := cJ) (cZ := cZ) (cS := cS) (cO := cO) (by decide) h1
  have hset := cW_putF (f := 7) (y := 0) (v := .int v) (cs1 := sI cs 199 i v) (by decide) rfl hD hk rfl rfl rfl rfl rfl rfl (by show Value.int (u2 (kI cs) 199 i v 199 i) = _; rw [u2_s]) (fun z j w hn => by
    have e9 : kI (sI cs 199 i v) z j = kI cs z j := u2_n hn
    match w with
    | 0 => show Value.int (kI (sI cs 199 i v) z j) = Value.int (kI cs z j); rw [e9]
    | 1 => rfl
    | 2 => rfl
    | _ + 3 => rfl)
  refine va_put (D := (dC, dI)) (ci := 6) (v := .int v) (ty := .int) (C := RX5) (T := TX5) (N := 15) hx hb hts (fun w h => List.mem_cons_of_mem _ (uG_X5 w h)) tyX5 tyX5_ok nmX5 hown hK hP hD hS k hg rfl 7 (by decide) (hts _ (List.mem_cons_of_mem _ kw_680)) (fun _ h9 => h9) rfl (by decide +kernel) rfl rfl (by rw [vL_len]; decide) hdg (fun H1 l1 q1 q2 q3 => ?_)
  rw [hset] at q1 q2
  exact kk H1 l1 q1 q2 q3
theorem fg_X0_237 {p : Program} {l : Launch} {e : Env} {R : Room} {s : State} {m : MethodId} {args : Array Value} {below : List Frame} {meth : Method} {c : Code} {H : Heap} {locs : List Loc} {cells slots : Nat} {Q : State → Prop} {cc : ByteArray} {pc : Nat} {ls : Array Slot} {rest : List Value} {y0 : MethodName} {c0 : ByteArray} {n0 : Nat} {r0 : Option FieldType} {dC : Nat → ClassId} {dI : Nat → Nat → Nat} {cB cI cJ cZ cS cO : ClassId} {b : Nat} {cs : CS} {i : Nat} {v : Int32} (hx : p.tables.exec = Jvm.exec) (hb : c.code = cc) (hts : ∀ w ∈ wsOf y0 c0 n0 r0, w.before args s = true) (hown : s.vm.findClass RX0 = some m.cls) (hK : va_K (dC, dI) vwCl [(cB, .byte), (cI, .int), (cJ, .long), (cZ, .boolean), (cS, .object "StreamQueries$Source"), (cO, .object "java/lang/Object")] s) (hP : va_P (dC, dI) vwCl (cW cB cI cJ cZ cS cO b cs) H) (hv : gI cs 6 203 i = some v) (hdg : decode cc pc = .ok (.getfield 237, 3)) (kk : W p l e R s m args below meth c H locs cells slots Q (F0 m (pc + 3) ls (.int v :: rest))) : W p l e R s m args below meth c H locs cells slots Q (F0 m pc ls (.ref (b + i) :: rest)) := by
  obtain ⟨h1, h2⟩ := gI_some hv
  obtain ⟨k, -, hg⟩ := cO_at (b := b) (cB := cB) (cI := cI) (cJ := cJ) (cZ := cZ) (cS := cS) (cO := cO) (by decide) h1
  have hf : (vL b cs i (32 * 6) (tyX 6))[11]? = some (.int v) := by
    show some (vV b cs 203 i 0) = _
    show some (Value.int (kI cs 203 i)) = _
    rw [h2]
  exact va_get (D := (dC, dI)) (ci := 6) (C := RX5) (T := TX5) (N := 15) hx hb hts (fun w h => List.mem_cons_of_mem _ (uG_X5 w h)) hown hK hP k hg rfl 11 (by decide) (hts _ (List.mem_cons_of_mem _ kw_696)) (fun _ h9 => h9) hf hdg kk
theorem fp_X0_237 {p : Program} {l : Launch} {e : Env} {R : Room} {s : State} {m : MethodId} {args : Array Value} {below : List Frame} {meth : Method} {c : Code} {H : Heap} {locs : List Loc} {cells slots : Nat} {Q : State → Prop} {cc : ByteArray} {pc : Nat} {ls : Array Slot} {rest : List Value} {y0 : MethodName} {c0 : ByteArray} {n0 : Nat} {r0 : Option FieldType} {dC : Nat → ClassId} {dI : Nat → Nat → Nat} {cB cI cJ cZ cS cO : ClassId} {b : Nat} {cs : CS} {A : Nat → Prop} {H0 : Heap} {cs1 : CS} {i : Nat} {v : Int32} (hx : p.tables.exec = Jvm.exec) (hb : c.code = cc) (hts : ∀ w ∈ wsOf y0 c0 n0 r0, w.before args s = true) (hown : s.vm.findClass RX0 = some m.cls) (hK : va_K (dC, dI) vwCl [(cB, .byte), (cI, .int), (cJ, .long), (cZ, .boolean), (cS, .object "StreamQueries$Source"), (cO, .object "java/lang/Object")] s) (hP : va_P (dC, dI) vwCl (cW cB cI cJ cZ cS cO b cs) H) (hD : va_D A (cW cB cI cJ cZ cS cO b cs)) (hS : va_S A H0 H locs) (hv : pI cs 6 203 i v = some cs1) (hdg : decode cc pc = .ok (.putfield 237, 3)) (kk : ∀ (H1 : Heap) (locs1 : List Loc), va_P (dC, dI) vwCl (cW cB cI cJ cZ cS cO b cs1) H1 → va_D A (cW cB cI cJ cZ cS cO b cs1) → va_S A H0 H1 locs1 → W p l e R s m args below meth c H1 locs1 cells slots Q (F0 m (pc + 3) ls rest)) : W p l e R s m args below meth c H locs cells slots Q (F0 m pc ls (.int v :: .ref (b + i) :: rest)) := by
  obtain ⟨h1, rfl⟩ := pI_some hv
  obtain ⟨k, hk, hg⟩ := cO_at (b := b) (cB := cB) (cI := cI) (cJ := cJ) (cZ := cZ) (cS := cS) (cO := cO) (by decide) h1
  have hset := cW_putF (f := 11) (y := 0) (v := .int v) (cs1 := sI cs 203 i v) (by decide) rfl hD hk rfl rfl rfl rfl rfl rfl (by show Value.int (u2 (kI cs) 203 i v 203 i) = _; rw [u2_s]) (fun z j w hn => by
    have e9 : kI (sI cs 203 i v) z j = kI cs z j := u2_n hn
    match w with
    | 0 => show Value.int (kI (sI cs 203 i v) z j) = Value.int (kI cs z j); rw [e9]
    | 1 => rfl
    | 2 => rfl
    | _ + 3 => rfl)
  refine va_put (D := (dC, dI)) (ci := 6) (v := .int v) (ty := .int) (C := RX5) (T := TX5) (N := 15) hx hb hts (fun w h => List.mem_cons_of_mem _ (uG_X5 w h)) tyX5 tyX5_ok nmX5 hown hK hP hD hS k hg rfl 11 (by decide) (hts _ (List.mem_cons_of_mem _ kw_696)) (fun _ h9 => h9) rfl (by decide +kernel) rfl rfl (by rw [vL_len]; decide) hdg (fun H1 l1 q1 q2 q3 => ?_)
  rw [hset] at q1 q2
  exact kk H1 l1 q1 q2 q3
theorem fg_X0_240 {p : Program} {l : Launch} {e : Env} {R : Room} {s : State} {m : MethodId} {args : Array Value} {below : List Frame} {meth : Method} {c : Code} {H : Heap} {locs : List Loc} {cells slots : Nat} {Q : State → Prop} {cc : ByteArray} {pc : Nat} {ls : Array Slot} {rest : List Value} {y0 : MethodName} {c0 : ByteArray} {n0 : Nat} {r0 : Option FieldType} {dC : Nat → ClassId} {dI : Nat → Nat → Nat} {cB cI cJ cZ cS cO : ClassId} {b : Nat} {cs : CS} {i : Nat} {v : Nat} (hx : p.tables.exec = Jvm.exec) (hb : c.code = cc) (hts : ∀ w ∈ wsOf y0 c0 n0 r0, w.before args s = true) (hown : s.vm.findClass RX0 = some m.cls) (hK : va_K (dC, dI) vwCl [(cB, .byte), (cI, .int), (cJ, .long), (cZ, .boolean), (cS, .object "StreamQueries$Source"), (cO, .object "java/lang/Object")] s) (hP : va_P (dC, dI) vwCl (cW cB cI cJ cZ cS cO b cs) H) (hv : gA cs 6 202 i = some v) (hdg : decode cc pc = .ok (.getfield 240, 3)) (kk : W p l e R s m args below meth c H locs cells slots Q (F0 m (pc + 3) ls (.ref (b + v) :: rest))) : W p l e R s m args below meth c H locs cells slots Q (F0 m pc ls (.ref (b + i) :: rest)) := by
  obtain ⟨h1, h2⟩ := gA_some hv
  obtain ⟨k, -, hg⟩ := cO_at (b := b) (cB := cB) (cI := cI) (cJ := cJ) (cZ := cZ) (cS := cS) (cO := cO) (by decide) h1
  have hf : (vL b cs i (32 * 6) (tyX 6))[10]? = some (.ref (b + v)) := by
    show some (vV b cs 202 i 3) = _
    show some (rv b (kP cs 202 i)) = _
    rw [h2]; rfl
  exact va_get (D := (dC, dI)) (ci := 6) (C := RX5) (T := TX5) (N := 15) hx hb hts (fun w h => List.mem_cons_of_mem _ (uG_X5 w h)) hown hK hP k hg rfl 10 (by decide) (hts _ (List.mem_cons_of_mem _ kw_691)) (fun _ h9 => h9) hf hdg kk
theorem fg_X0_246 {p : Program} {l : Launch} {e : Env} {R : Room} {s : State} {m : MethodId} {args : Array Value} {below : List Frame} {meth : Method} {c : Code} {H : Heap} {locs : List Loc} {cells slots : Nat} {Q : State → Prop} {cc : ByteArray} {pc : Nat} {ls : Array Slot} {rest : List Value} {y0 : MethodName} {c0 : ByteArray} {n0 : Nat} {r0 : Option FieldType} {dC : Nat → ClassId} {dI : Nat → Nat → Nat} {cB cI cJ cZ cS cO : ClassId} {b : Nat} {cs : CS} {i : Nat} {v : Nat} (hx : p.tables.exec = Jvm.exec) (hb : c.code = cc) (hts : ∀ w ∈ wsOf y0 c0 n0 r0, w.before args s = true) (hown : s.vm.findClass RX0 = some m.cls) (hK : va_K (dC, dI) vwCl [(cB, .byte), (cI, .int), (cJ, .long), (cZ, .boolean), (cS, .object "StreamQueries$Source"), (cO, .object "java/lang/Object")] s) (hP : va_P (dC, dI) vwCl (cW cB cI cJ cZ cS cO b cs) H) (hv : gA cs 2 66 i = some v) (hdg : decode cc pc = .ok (.getfield 246, 3)) (kk : W p l e R s m args below meth c H locs cells slots Q (F0 m (pc + 3) ls (.ref (b + v) :: rest))) : W p l e R s m args below meth c H locs cells slots Q (F0 m pc ls (.ref (b + i) :: rest)) := by
  obtain ⟨h1, h2⟩ := gA_some hv
  obtain ⟨k, -, hg⟩ := cO_at (b := b) (cB := cB) (cI := cI) (cJ := cJ) (cZ := cZ) (cS := cS) (cO := cO) (by decide) h1
  have hf : (vL b cs i (32 * 2) (tyX 2))[2]? = some (.ref (b + v)) := by
    show some (vV b cs 66 i 3) = _
    show some (rv b (kP cs 66 i)) = _
    rw [h2]; rfl
  exact va_get (D := (dC, dI)) (ci := 2) (C := RX1) (T := TX1) (N := 13) hx hb hts (fun w h => List.mem_cons_of_mem _ (uG_X1 w h)) hown hK hP k hg rfl 2 (by decide) (hts _ (List.mem_cons_of_mem _ kw_379)) (fun _ h9 => h9) hf hdg kk
theorem fg_X0_249 {p : Program} {l : Launch} {e : Env} {R : Room} {s : State} {m : MethodId} {args : Array Value} {below : List Frame} {meth : Method} {c : Code} {H : Heap} {locs : List Loc} {cells slots : Nat} {Q : State → Prop} {cc : ByteArray} {pc : Nat} {ls : Array Slot} {rest : List Value} {y0 : MethodName} {c0 : ByteArray} {n0 : Nat} {r0 : Option FieldType} {dC : Nat → ClassId} {dI : Nat → Nat → Nat} {cB cI cJ cZ cS cO : ClassId} {b : Nat} {cs : CS} {i : Nat} {v : Nat} (hx : p.tables.exec = Jvm.exec) (hb : c.code = cc) (hts : ∀ w ∈ wsOf y0 c0 n0 r0, w.before args s = true) (hown : s.vm.findClass RX0 = some m.cls) (hK : va_K (dC, dI) vwCl [(cB, .byte), (cI, .int), (cJ, .long), (cZ, .boolean), (cS, .object "StreamQueries$Source"), (cO, .object "java/lang/Object")] s) (hP : va_P (dC, dI) vwCl (cW cB cI cJ cZ cS cO b cs) H) (hv : gA cs 3 97 i = some v) (hdg : decode cc pc = .ok (.getfield 249, 3)) (kk : W p l e R s m args below meth c H locs cells slots Q (F0 m (pc + 3) ls (.ref (b + v) :: rest))) : W p l e R s m args below meth c H locs cells slots Q (F0 m pc ls (.ref (b + i) :: rest)) := by
  obtain ⟨h1, h2⟩ := gA_some hv
  obtain ⟨k, -, hg⟩ := cO_at (b := b) (cB := cB) (cI := cI) (cJ := cJ) (cZ := cZ) (cS := cS) (cO := cO) (by decide) h1
  have hf : (vL b cs i (32 * 3) (tyX 3))[1]? = some (.ref (b + v)) := by
    show some (vV b cs 97 i 3) = _
    show some (rv b (kP cs 97 i)) = _
    rw [h2]; rfl
  exact va_get (D := (dC, dI)) (ci := 3) (C := RX2) (T := TX2) (N := 5) hx hb hts (fun w h => List.mem_cons_of_mem _ (uG_X2 w h)) hown hK hP k hg rfl 1 (by decide) (hts _ (List.mem_cons_of_mem _ kw_635)) (fun _ h9 => h9) hf hdg kk
theorem fg_X0_265 {p : Program} {l : Launch} {e : Env} {R : Room} {s : State} {m : MethodId} {args : Array Value} {below : List Frame} {meth : Method} {c : Code} {H : Heap} {locs : List Loc} {cells slots : Nat} {Q : State → Prop} {cc : ByteArray} {pc : Nat} {ls : Array Slot} {rest : List Value} {y0 : MethodName} {c0 : ByteArray} {n0 : Nat} {r0 : Option FieldType} {dC : Nat → ClassId} {dI : Nat → Nat → Nat} {cB cI cJ cZ cS cO : ClassId} {b : Nat} {cs : CS} {i : Nat} {v : Nat} (hx : p.tables.exec = Jvm.exec) (hb : c.code = cc) (hts : ∀ w ∈ wsOf y0 c0 n0 r0, w.before args s = true) (hown : s.vm.findClass RX0 = some m.cls) (hK : va_K (dC, dI) vwCl [(cB, .byte), (cI, .int), (cJ, .long), (cZ, .boolean), (cS, .object "StreamQueries$Source"), (cO, .object "java/lang/Object")] s) (hP : va_P (dC, dI) vwCl (cW cB cI cJ cZ cS cO b cs) H) (hv : gA cs 3 99 i = some v) (hdg : decode cc pc = .ok (.getfield 265, 3)) (kk : W p l e R s m args below meth c H locs cells slots Q (F0 m (pc + 3) ls (.ref (b + v) :: rest))) : W p l e R s m args below meth c H locs cells slots Q (F0 m pc ls (.ref (b + i) :: rest)) := by
  obtain ⟨h1, h2⟩ := gA_some hv
  obtain ⟨k, -, hg⟩ := cO_at (b := b) (cB := cB) (cI := cI) (cJ := cJ) (cZ := cZ) (cS := cS) (cO := cO) (by decide) h1
  have hf : (vL b cs i (32 * 3) (tyX 3))[3]? = some (.ref (b + v)) := by
    show some (vV b cs 99 i 3) = _
    show some (rv b (kP cs 99 i)) = _
    rw [h2]; rfl
  exact va_get (D := (dC, dI)) (ci := 3) (C := RX2) (T := TX2) (N := 5) hx hb hts (fun w h => List.mem_cons_of_mem _ (uG_X2 w h)) hown hK hP k hg rfl 3 (by decide) (hts _ (List.mem_cons_of_mem _ kw_639)) (fun _ h9 => h9) hf hdg kk
theorem fg_X0_268 {p : Program} {l : Launch} {e : Env} {R : Room} {s : State} {m : MethodId} {args : Array Value} {below : List Frame} {meth : Method} {c : Code} {H : Heap} {locs : List Loc} {cells slots : Nat} {Q : State → Prop} {cc : ByteArray} {pc : Nat} {ls : Array Slot} {rest : List Value} {y0 : MethodName} {c0 : ByteArray} {n0 : Nat} {r0 : Option FieldType} {dC : Nat → ClassId} {dI : Nat → Nat → Nat} {cB cI cJ cZ cS cO : ClassId} {b : Nat} {cs : CS} {i : Nat} {v : Nat} (hx : p.tables.exec = Jvm.exec) (hb : c.code = cc) (hts : ∀ w ∈ wsOf y0 c0 n0 r0, w.before args s = true) (hown : s.vm.findClass RX0 = some m.cls) (hK : va_K (dC, dI) vwCl [(cB, .byte), (cI, .int), (cJ, .long), (cZ, .boolean), (cS, .object "StreamQueries$Source"), (cO, .object "java/lang/Object")] s) (hP : va_P (dC, dI) vwCl (cW cB cI cJ cZ cS cO b cs) H) (hv : gA cs 2 72 i = some v) (hdg : decode cc pc = .ok (.getfield 268, 3)) (kk : W p l e R s m args below meth c H locs cells slots Q (F0 m (pc + 3) ls (.ref (b + v) :: rest))) : W p l e R s m args below meth c H locs cells slots Q (F0 m pc ls (.ref (b + i) :: rest)) := by
  obtain ⟨h1, h2⟩ := gA_some hv
  obtain ⟨k, -, hg⟩ := cO_at (b := b) (cB := cB) (cI := cI) (cJ := cJ) (cZ := cZ) (cS := cS) (cO := cO) (by decide) h1
  have hf : (vL b cs i (32 * 2) (tyX 2))[8]? = some (.ref (b + v)) := by
    show some (vV b cs 72 i 3) = _
    show some (rv b (kP cs 72 i)) = _
    rw [h2]; rfl
  exact va_get (D := (dC, dI)) (ci := 2) (C := RX1) (T := TX1) (N := 13) hx hb hts (fun w h => List.mem_cons_of_mem _ (uG_X1 w h)) hown hK hP k hg rfl 8 (by decide) (hts _ (List.mem_cons_of_mem _ kw_395)) (fun _ h9 => h9) hf hdg kk
theorem fg_X0_271 {p : Program} {l : Launch} {e : Env} {R : Room} {s : State} {m : MethodId} {args : Array Value} {below : List Frame} {meth : Method} {c : Code} {H : Heap} {locs : List Loc} {cells slots : Nat} {Q : State → Prop} {cc : ByteArray} {pc : Nat} {ls : Array Slot} {rest : List Value} {y0 : MethodName} {c0 : ByteArray} {n0 : Nat} {r0 : Option FieldType} {dC : Nat → ClassId} {dI : Nat → Nat → Nat} {cB cI cJ cZ cS cO : ClassId} {b : Nat} {cs : CS} {i : Nat} {v : Nat} (hx : p.tables.exec = Jvm.exec) (hb : c.code = cc) (hts : ∀ w ∈ wsOf y0 c0 n0 r0, w.before args s = true) (hown : s.vm.findClass RX0 = some m.cls) (hK : va_K (dC, dI) vwCl [(cB, .byte), (cI, .int), (cJ, .long), (cZ, .boolean), (cS, .object "StreamQueries$Source"), (cO, .object "java/lang/Object")] s) (hP : va_P (dC, dI) vwCl (cW cB cI cJ cZ cS cO b cs) H) (hv : gA cs 2 73 i = some v) (hdg : decode cc pc = .ok (.getfield 271, 3)) (kk : W p l e R s m args below meth c H locs cells slots Q (F0 m (pc + 3) ls (.ref (b + v) :: rest))) : W p l e R s m args below meth c H locs cells slots Q (F0 m pc ls (.ref (b + i) :: rest)) := by
  obtain ⟨h1, h2⟩ := gA_some hv
  obtain ⟨k, -, hg⟩ := cO_at (b := b) (cB := cB) (cI := cI) (cJ := cJ) (cZ := cZ) (cS := cS) (cO := cO) (by decide) h1
  have hf : (vL b cs i (32 * 2) (tyX 2))[9]? = some (.ref (b + v)) := by
    show some (vV b cs 73 i 3) = _
    show some (rv b (kP cs 73 i)) = _
    rw [h2]; rfl
  exact va_get (D := (dC, dI)) (ci := 2) (C := RX1) (T := TX1) (N := 13) hx hb hts (fun w h => List.mem_cons_of_mem _ (uG_X1 w h)) hown hK hP k hg rfl 9 (by decide) (hts _ (List.mem_cons_of_mem _ kw_397)) (fun _ h9 => h9) hf hdg kk
theorem fg_X0_272 {p : Program} {l : Launch} {e : Env} {R : Room} {s : State} {m : MethodId} {args : Array Value} {below : List Frame} {meth : Method} {c : Code} {H : Heap} {locs : List Loc} {cells slots : Nat} {Q : State → Prop} {cc : ByteArray} {pc : Nat} {ls : Array Slot} {rest : List Value} {y0 : MethodName} {c0 : ByteArray} {n0 : Nat} {r0 : Option FieldType} {dC : Nat → ClassId} {dI : Nat → Nat → Nat} {cB cI cJ cZ cS cO : ClassId} {b : Nat} {cs : CS} {i : Nat} {v : Nat} (hx : p.tables.exec = Jvm.exec) (hb : c.code = cc) (hts : ∀ w ∈ wsOf y0 c0 n0 r0, w.before args s = true) (hown : s.vm.findClass RX0 = some m.cls) (hK : va_K (dC, dI) vwCl [(cB, .byte), (cI, .int), (cJ, .long), (cZ, .boolean), (cS, .object "StreamQueries$Source"), (cO, .object "java/lang/Object")] s) (hP : va_P (dC, dI) vwCl (cW cB cI cJ cZ cS cO b cs) H) (hv : gA cs 2 67 i = some v) (hdg : decode cc pc = .ok (.getfield 272, 3)) (kk : W p l e R s m args below meth c H locs cells slots Q (F0 m (pc + 3) ls (.ref (b + v) :: rest))) : W p l e R s m args below meth c H locs cells slots Q (F0 m pc ls (.ref (b + i) :: rest)) := by
  obtain ⟨h1, h2⟩ := gA_some hv
  obtain ⟨k, -, hg⟩ := cO_at (b := b) (cB := cB) (cI := cI) (cJ := cJ) (cZ := cZ) (cS := cS) (cO := cO) (by decide) h1
  have hf : (vL b cs i (32 * 2) (tyX 2))[3]? = some (.ref (b + v)) := by
    show some (vV b cs 67 i 3) = _
    show some (rv b (kP cs 67 i)) = _
    rw [h2]; rfl
  exact va_get (D := (dC, dI)) (ci := 2) (C := RX1) (T := TX1) (N := 13) hx hb hts (fun w h => List.mem_cons_of_mem _ (uG_X1 w h)) hown hK hP k hg rfl 3 (by decide) (hts _ (List.mem_cons_of_mem _ kw_382)) (fun _ h9 => h9) hf hdg kk
theorem fg_X0_275 {p : Program} {l : Launch} {e : Env} {R : Room} {s : State} {m : MethodId} {args : Array Value} {below : List Frame} {meth : Method} {c : Code} {H : Heap} {locs : List Loc} {cells slots : Nat} {Q : State → Prop} {cc : ByteArray} {pc : Nat} {ls : Array Slot} {rest : List Value} {y0 : MethodName} {c0 : ByteArray} {n0 : Nat} {r0 : Option FieldType} {dC : Nat → ClassId} {dI : Nat → Nat → Nat} {cB cI cJ cZ cS cO : ClassId} {b : Nat} {cs : CS} {i : Nat} {v : Nat} (hx : p.tables.exec = Jvm.exec) (hb : c.code = cc) (hts : ∀ w ∈ wsOf y0 c0 n0 r0, w.before args s = true) (hown : s.vm.findClass RX0 = some m.cls) (hK : va_K (dC, dI) vwCl [(cB, .byte), (cI, .int), (cJ, .long), (cZ, .boolean), (cS, .object "StreamQueries$Source"), (cO, .object "java/lang/Object")] s) (hP : va_P (dC, dI) vwCl (cW cB cI cJ cZ cS cO b cs) H) (hv : gA cs 2 71 i = some v) (hdg : decode cc pc = .ok (.getfield 275, 3)) (kk : W p l e R s m args below meth c H locs cells slots Q (F0 m (pc + 3) ls (.ref (b + v) :: rest))) : W p l e R s m args below meth c H locs cells slots Q (F0 m pc ls (.ref (b + i) :: rest)) := by
  obtain ⟨h1, h2⟩ := gA_some hv
  obtain ⟨k, -, hg⟩ := cO_at (b := b) (cB := cB) (cI := cI) (cJ := cJ) (cZ := cZ) (cS := cS) (cO := cO) (by decide) h1
  have hf : (vL b cs i (32 * 2) (tyX 2))[7]? = some (.ref (b + v)) := by
    show some (vV b cs 71 i 3) = _
    show some (rv b (kP cs 71 i)) = _
    rw [h2]; rfl
  exact va_get (D := (dC, dI)) (ci := 2) (C := RX1) (T := TX1) (N := 13) hx hb hts (fun w h => List.mem_cons_of_mem _ (uG_X1 w h)) hown hK hP k hg rfl 7 (by decide) (hts _ (List.mem_cons_of_mem _ kw_392)) (fun _ h9 => h9) hf hdg kk
theorem fg_X0_278 {p : Program} {l : Launch} {e : Env} {R : Room} {s : State} {m : MethodId} {args : Array Value} {below : List Frame} {meth : Method} {c : Code} {H : Heap} {locs : List Loc} {cells slots : Nat} {Q : State → Prop} {cc : ByteArray} {pc : Nat} {ls : Array Slot} {rest : List Value} {y0 : MethodName} {c0 : ByteArray} {n0 : Nat} {r0 : Option FieldType} {dC : Nat → ClassId} {dI : Nat → Nat → Nat} {cB cI cJ cZ cS cO : ClassId} {b : Nat} {cs : CS} {i : Nat} {v : Nat} (hx : p.tables.exec = Jvm.exec) (hb : c.code = cc) (hts : ∀ w ∈ wsOf y0 c0 n0 r0, w.before args s = true) (hown : s.vm.findClass RX0 = some m.cls) (hK : va_K (dC, dI) vwCl [(cB, .byte), (cI, .int), (cJ, .long), (cZ, .boolean), (cS, .object "StreamQueries$Source"), (cO, .object "java/lang/Object")] s) (hP : va_P (dC, dI) vwCl (cW cB cI cJ cZ cS cO b cs) H) (hv : gA cs 2 65 i = some v) (hdg : decode cc pc = .ok (.getfield 278, 3)) (kk : W p l e R s m args below meth c H locs cells slots Q (F0 m (pc + 3) ls (.ref (b + v) :: rest))) : W p l e R s m args below meth c H locs cells slots Q (F0 m pc ls (.ref (b + i) :: rest)) := by
  obtain ⟨h1, h2⟩ := gA_some hv
  obtain ⟨k, -, hg⟩ := cO_at (b := b) (cB := cB) (cI := cI) (cJ := cJ) (cZ := cZ) (cS := cS) (cO := cO) (by decide) h1
  have hf : (vL b cs i (32 * 2) (tyX 2))[1]? = some (.ref (b + v)) := by
    show some (vV b cs 65 i 3) = _
    show some (rv b (kP cs 65 i)) = _
    rw [h2]; rfl
  exact va_get (D := (dC, dI)) (ci := 2) (C := RX1) (T := TX1) (N := 13) hx hb hts (fun w h => List.mem_cons_of_mem _ (uG_X1 w h)) hown hK hP k hg rfl 1 (by decide) (hts _ (List.mem_cons_of_mem _ kw_376)) (fun _ h9 => h9) hf hdg kk
theorem fg_X0_291 {p : Program} {l : Launch} {e : Env} {R : Room} {s : State} {m : MethodId} {args : Array Value} {below : List Frame} {meth : Method} {c : Code} {H : Heap} {locs : List Loc} {cells slots : Nat} {Q : State → Prop} {cc : ByteArray} {pc : Nat} {ls : Array Slot} {rest : List Value} {y0 : MethodName} {c0 : ByteArray} {n0 : Nat} {r0 : Option FieldType} {dC : Nat → ClassId} {dI : Nat → Nat → Nat} {cB cI cJ cZ cS cO : ClassId} {b : Nat} {cs : CS} {i : Nat} {v : Nat} (hx : p.tables.exec = Jvm.exec) (hb : c.code = cc) (hts : ∀ w ∈ wsOf y0 c0 n0 r0, w.before args s = true) (hown : s.vm.findClass RX0 = some m.cls) (hK : va_K (dC, dI) vwCl [(cB, .byte), (cI, .int), (cJ, .long), (cZ, .boolean), (cS, .object "StreamQueries$Source"), (cO, .object "java/lang/Object")] s) (hP : va_P (dC, dI) vwCl (cW cB cI cJ cZ cS cO b cs) H) (hv : gA cs 2 70 i = some v) (hdg : decode cc pc = .ok (.getfield 291, 3)) (kk : W p l e R s m args below meth c H locs cells slots Q (F0 m (pc + 3) ls (.ref (b + v) :: rest))) : W p l e R s m args below meth c H locs cells slots Q (F0 m pc ls (.ref (b + i) :: rest)) := by
  obtain ⟨h1, h2⟩ := gA_some hv
  obtain ⟨k, -, hg⟩ := cO_at (b := b) (cB := cB) (cI := cI) (cJ := cJ) (cZ := cZ) (cS := cS) (cO := cO) (by decide) h1
  have hf : (vL b cs i (32 * 2) (tyX 2))[6]? = some (.ref (b + v)) := by
    show some (vV b cs 70 i 3) = _
    show some (rv b (kP cs 70 i)) = _
    rw [h2]; rfl
  exact va_get (D := (dC, dI)) (ci := 2) (C := RX1) (T := TX1) (N := 13) hx hb hts (fun w h => List.mem_cons_of_mem _ (uG_X1 w h)) hown hK hP k hg rfl 6 (by decide) (hts _ (List.mem_cons_of_mem _ kw_389)) (fun _ h9 => h9) hf hdg kk
theorem fg_X0_296 {p : Program} {l : Launch} {e : Env} {R : Room} {s : State} {m : MethodId} {args : Array Value} {below : List Frame} {meth : Method} {c : Code} {H : Heap} {locs : List Loc} {cells slots : Nat} {Q : State → Prop} {cc : ByteArray} {pc : Nat} {ls : Array Slot} {rest : List Value} {y0 : MethodName} {c0 : ByteArray} {n0 : Nat} {r0 : Option FieldType} {dC : Nat → ClassId} {dI : Nat → Nat → Nat} {cB cI cJ cZ cS cO : ClassId} {b : Nat} {cs : CS} {i : Nat} {v : Nat} (hx : p.tables.exec = Jvm.exec) (hb : c.code = cc) (hts : ∀ w ∈ wsOf y0 c0 n0 r0, w.before args s = true) (hown : s.vm.findClass RX0 = some m.cls) (hK : va_K (dC, dI) vwCl [(cB, .byte), (cI, .int), (cJ, .long), (cZ, .boolean), (cS, .object "StreamQueries$Source"), (cO, .object "java/lang/Object")] s) (hP : va_P (dC, dI) vwCl (cW cB cI cJ cZ cS cO b cs) H) (hv : gA cs 2 69 i = some v) (hdg : decode cc pc = .ok (.getfield 296, 3)) (kk : W p l e R s m args below meth c H locs cells slots Q (F0 m (pc + 3) ls (.ref (b + v) :: rest))) : W p l e R s m args below meth c H locs cells slots Q (F0 m pc ls (.ref (b + i) :: rest)) := by
  obtain ⟨h1, h2⟩ := gA_some hv
  obtain ⟨k, -, hg⟩ := cO_at (b := b) (cB := cB) (cI := cI) (cJ := cJ) (cZ := cZ) (cS := cS) (cO := cO) (by decide) h1
  have hf : (vL b cs i (32 * 2) (tyX 2))[5]? = some (.ref (b + v)) := by
    show some (vV b cs 69 i 3) = _
    show some (rv b (kP cs 69 i)) = _
    rw [h2]; rfl
  exact va_get (D := (dC, dI)) (ci := 2) (C := RX1) (T := TX1) (N := 13) hx hb hts (fun w h => List.mem_cons_of_mem _ (uG_X1 w h)) hown hK hP k hg rfl 5 (by decide) (hts _ (List.mem_cons_of_mem _ kw_386)) (fun _ h9 => h9) hf hdg kk
theorem fg_X0_309 {p : Program} {l : Launch} {e : Env} {R : Room} {s : State} {m : MethodId} {args : Array Value} {below : List Frame} {meth : Method} {c : Code} {H : Heap} {locs : List Loc} {cells slots : Nat} {Q : State → Prop} {cc : ByteArray} {pc : Nat} {ls : Array Slot} {rest : List Value} {y0 : MethodName} {c0 : ByteArray} {n0 : Nat} {r0 : Option FieldType} {dC : Nat → ClassId} {dI : Nat → Nat → Nat} {cB cI cJ cZ cS cO : ClassId} {b : Nat} {cs : CS} {i : Nat} {v : Nat} (hx : p.tables.exec = Jvm.exec) (hb : c.code = cc) (hts : ∀ w ∈ wsOf y0 c0 n0 r0, w.before args s = true) (hown : s.vm.findClass RX0 = some m.cls) (hK : va_K (dC, dI) vwCl [(cB, .byte), (cI, .int), (cJ, .long), (cZ, .boolean), (cS, .object "StreamQueries$Source"), (cO, .object "java/lang/Object")] s) (hP : va_P (dC, dI) vwCl (cW cB cI cJ cZ cS cO b cs) H) (hv : gA cs 2 68 i = some v) (hdg : decode cc pc = .ok (.getfield 309, 3)) (kk : W p l e R s m args below meth c H locs cells slots Q (F0 m (pc + 3) ls (.ref (b + v) :: rest))) : W p l e R s m args below meth c H locs cells slots Q (F0 m pc ls (.ref (b + i) :: rest)) := by
  obtain ⟨h1, h2⟩ := gA_some hv
  obtain ⟨k, -, hg⟩ := cO_at (b := b) (cB := cB) (cI := cI) (cJ := cJ) (cZ := cZ) (cS := cS) (cO := cO) (by decide) h1
  have hf : (vL b cs i (32 * 2) (tyX 2))[4]? = some (.ref (b + v)) := by
    show some (vV b cs 68 i 3) = _
    show some (rv b (kP cs 68 i)) = _
    rw [h2]; rfl
  exact va_get (D := (dC, dI)) (ci := 2) (C := RX1) (T := TX1) (N := 13) hx hb hts (fun w h => List.mem_cons_of_mem _ (uG_X1 w h)) hown hK hP k hg rfl 4 (by decide) (hts _ (List.mem_cons_of_mem _ kw_384)) (fun _ h9 => h9) hf hdg kk
theorem fg_X1_15 {p : Program} {l : Launch} {e : Env} {R : Room} {s : State} {m : MethodId} {args : Array Value} {below : List Frame} {meth : Method} {c : Code} {H : Heap} {locs : List Loc} {cells slots : Nat} {Q : State → Prop} {cc : ByteArray} {pc : Nat} {ls : Array Slot} {rest : List Value} {y0 : MethodName} {c0 : ByteArray} {n0 : Nat} {r0 : Option FieldType} {dC : Nat → ClassId} {dI : Nat → Nat → Nat} {cB cI cJ cZ cS cO : ClassId} {b : Nat} {cs : CS} {i : Nat} {v : Nat} (hx : p.tables.exec = Jvm.exec) (hb : c.code = cc) (hts : ∀ w ∈ wsOf y0 c0 n0 r0, w.before args s = true) (hown : s.vm.findClass RX1 = some m.cls) (hK : va_K (dC, dI) vwCl [(cB, .byte), (cI, .int), (cJ, .long), (cZ, .boolean), (cS, .object "StreamQueries$Source"), (cO, .object "java/lang/Object")] s) (hP : va_P (dC, dI) vwCl (cW cB cI cJ cZ cS cO b cs) H) (hv : gA cs 2 65 i = some v) (hdg : decode cc pc = .ok (.getfield 15, 3)) (kk : W p l e R s m args below meth c H locs cells slots Q (F0 m (pc + 3) ls (.ref (b + v) :: rest))) : W p l e R s m args below meth c H locs cells slots Q (F0 m pc ls (.ref (b + i) :: rest)) := by
  obtain ⟨h1, h2⟩ := gA_some hv
  obtain ⟨k, -, hg⟩ := cO_at (b := b) (cB := cB) (cI := cI) (cJ := cJ) (cZ := cZ) (cS := cS) (cO := cO) (by decide) h1
  have hf : (vL b cs i (32 * 2) (tyX 2))[1]? = some (.ref (b + v)) := by
    show some (vV b cs 65 i 3) = _
    show some (rv b (kP cs 65 i)) = _
    rw [h2]; rfl
  exact va_get (D := (dC, dI)) (ci := 2) (C := RX1) (T := TX1) (N := 13) hx hb hts (fun w h => List.mem_cons_of_mem _ (uG_X1 w h)) hown hK hP k hg rfl 1 (by decide) (hts _ (List.mem_cons_of_mem _ kw_374)) (fun _ h9 => h9) hf hdg kk
theorem fg_X1_21 {p : Program} {l : Launch} {e : Env} {R : Room} {s : State} {m : MethodId} {args : Array Value} {below : List Frame} {meth : Method} {c : Code} {H : Heap} {locs : List Loc} {cells slots : Nat} {Q : State → Prop} {cc : ByteArray} {pc : Nat} {ls : Array Slot} {rest : List Value} {y0 : MethodName} {c0 : ByteArray} {n0 : Nat} {r0 : Option FieldType} {dC : Nat → ClassId} {dI : Nat → Nat → Nat} {cB cI cJ cZ cS cO : ClassId} {b : Nat} {cs : CS} {i : Nat} {v : Nat} (hx : p.tables.exec = Jvm.exec) (hb : c.code = cc) (hts : ∀ w ∈ wsOf y0 c0 n0 r0, w.before args s = true) (hown : s.vm.findClass RX1 = some m.cls) (hK : va_K (dC, dI) vwCl [(cB, .byte), (cI, .int), (cJ, .long), (cZ, .boolean), (cS, .object "StreamQueries$Source"), (cO, .object "java/lang/Object")] s) (hP : va_P (dC, dI) vwCl (cW cB cI cJ cZ cS cO b cs) H) (hv : gA cs 2 66 i = some v) (hdg : decode cc pc = .ok (.getfield 21, 3)) (kk : W p l e R s m args below meth c H locs cells slots Q (F0 m (pc + 3) ls (.ref (b + v) :: rest))) : W p l e R s m args below meth c H locs cells slots Q (F0 m pc ls (.ref (b + i) :: rest)) := by
  obtain ⟨h1, h2⟩ := gA_some hv
  obtain ⟨k, -, hg⟩ := cO_at (b := b) (cB := cB) (cI := cI) (cJ := cJ) (cZ := cZ) (cS := cS) (cO := cO) (by decide) h1
  have hf : (vL b cs i (32 * 2) (tyX 2))[2]? = some (.ref (b + v)) := by
    show some (vV b cs 66 i 3) = _
    show some (rv b (kP cs 66 i)) = _
    rw [h2]; rfl
  exact va_get (D := (dC, dI)) (ci := 2) (C := RX1) (T := TX1) (N := 13) hx hb hts (fun w h => List.mem_cons_of_mem _ (uG_X1 w h)) hown hK hP k hg rfl 2 (by decide) (hts _ (List.mem_cons_of_mem _ kw_378)) (fun _ h9 => h9) hf hdg kk
theorem fg_X1_24 {p : Program} {l : Launch} {e : Env} {R : Room} {s : State} {m : MethodId} {args : Array Value} {below : List Frame} {meth : Method} {c : Code} {H : Heap} {locs : List Loc} {cells slots : Nat} {Q : State → Prop} {cc : ByteArray} {pc : Nat} {ls : Array Slot} {rest : List Value} {y0 : MethodName} {c0 : ByteArray} {n0 : Nat} {r0 : Option FieldType} {dC : Nat → ClassId} {dI : Nat → Nat → Nat} {cB cI cJ cZ cS cO : ClassId} {b : Nat} {cs : CS} {i : Nat} {v : Nat} (hx : p.tables.exec = Jvm.exec) (hb : c.code = cc) (hts : ∀ w ∈ wsOf y0 c0 n0 r0, w.before args s = true) (hown : s.vm.findClass RX1 = some m.cls) (hK : va_K (dC, dI) vwCl [(cB, .byte), (cI, .int), (cJ, .long), (cZ, .boolean), (cS, .object "StreamQueries$Source"), (cO, .object "java/lang/Object")] s) (hP : va_P (dC, dI) vwCl (cW cB cI cJ cZ cS cO b cs) H) (hv : gA cs 2 67 i = some v) (hdg : decode cc pc = .ok (.getfield 24, 3)) (kk : W p l e R s m args below meth c H locs cells slots Q (F0 m (pc + 3) ls (.ref (b + v) :: rest))) : W p l e R s m args below meth c H locs cells slots Q (F0 m pc ls (.ref (b + i) :: rest)) := by
  obtain ⟨h1, h2⟩ := gA_some hv
  obtain ⟨k, -, hg⟩ := cO_at (b := b) (cB := cB) (cI := cI) (cJ := cJ) (cZ := cZ) (cS := cS) (cO := cO) (by decide) h1
  have hf : (vL b cs i (32 * 2) (tyX 2))[3]? = some (.ref (b + v)) := by
    show some (vV b cs 67 i 3) = _
    show some (rv b (kP cs 67 i)) = _
    rw [h2]; rfl
  exact va_get (D := (dC, dI)) (ci := 2) (C := RX1) (T := TX1) (N := 13) hx hb hts (fun w h => List.mem_cons_of_mem _ (uG_X1 w h)) hown hK hP k hg rfl 3 (by decide) (hts _ (List.mem_cons_of_mem _ kw_381)) (fun _ h9 => h9) hf hdg kk
theorem fg_X1_27 {p : Program} {l : Launch} {e : Env} {R : Room} {s : State} {m : MethodId} {args : Array Value} {below : List Frame} {meth : Method} {c : Code} {H : Heap} {locs : List Loc} {cells slots : Nat} {Q : State → Prop} {cc : ByteArray} {pc : Nat} {ls : Array Slot} {rest : List Value} {y0 : MethodName} {c0 : ByteArray} {n0 : Nat} {r0 : Option FieldType} {dC : Nat → ClassId} {dI : Nat → Nat → Nat} {cB cI cJ cZ cS cO : ClassId} {b : Nat} {cs : CS} {i : Nat} {v : Nat} (hx : p.tables.exec = Jvm.exec) (hb : c.code = cc) (hts : ∀ w ∈ wsOf y0 c0 n0 r0, w.before args s = true) (hown : s.vm.findClass RX1 = some m.cls) (hK : va_K (dC, dI) vwCl [(cB, .byte), (cI, .int), (cJ, .long), (cZ, .boolean), (cS, .object "StreamQueries$Source"), (cO, .object "java/lang/Object")] s) (hP : va_P (dC, dI) vwCl (cW cB cI cJ cZ cS cO b cs) H) (hv : gA cs 2 68 i = some v) (hdg : decode cc pc = .ok (.getfield 27, 3)) (kk : W p l e R s m args below meth c H locs cells slots Q (F0 m (pc + 3) ls (.ref (b + v) :: rest))) : W p l e R s m args below meth c H locs cells slots Q (F0 m pc ls (.ref (b + i) :: rest)) := by
  obtain ⟨h1, h2⟩ := gA_some hv
  obtain ⟨k, -, hg⟩ := cO_at (b := b) (cB := cB) (cI := cI) (cJ := cJ) (cZ := cZ) (cS := cS) (cO := cO) (by decide) h1
  have hf : (vL b cs i (32 * 2) (tyX 2))[4]? = some (.ref (b + v)) := by
    show some (vV b cs 68 i 3) = _
    show some (rv b (kP cs 68 i)) = _
    rw [h2]; rfl
  exact va_get (D := (dC, dI)) (ci := 2) (C := RX1) (T := TX1) (N := 13) hx hb hts (fun w h => List.mem_cons_of_mem _ (uG_X1 w h)) hown hK hP k hg rfl 4 (by decide) (hts _ (List.mem_cons_of_mem _ kw_383)) (fun _ h9 => h9) hf hdg kk
theorem fg_X1_30 {p : Program} {l : Launch} {e : Env} {R : Room} {s : State} {m : MethodId} {args : Array Value} {below : List Frame} {meth : Method} {c : Code} {H : Heap} {locs : List Loc} {cells slots : Nat} {Q : State → Prop} {cc : ByteArray} {pc : Nat} {ls : Array Slot} {rest : List Value} {y0 : MethodName} {c0 : ByteArray} {n0 : Nat} {r0 : Option FieldType} {dC : Nat → ClassId} {dI : Nat → Nat → Nat} {cB cI cJ cZ cS cO : ClassId} {b : Nat} {cs : CS} {i : Nat} {v : Nat} (hx : p.tables.exec = Jvm.exec) (hb : c.code = cc) (hts : ∀ w ∈ wsOf y0 c0 n0 r0, w.before args s = true) (hown : s.vm.findClass RX1 = some m.cls) (hK : va_K (dC, dI) vwCl [(cB, .byte), (cI, .int), (cJ, .long), (cZ, .boolean), (cS, .object "StreamQueries$Source"), (cO, .object "java/lang/Object")] s) (hP : va_P (dC, dI) vwCl (cW cB cI cJ cZ cS cO b cs) H) (hv : gA cs 2 69 i = some v) (hdg : decode cc pc = .ok (.getfield 30, 3)) (kk : W p l e R s m args below meth c H locs cells slots Q (F0 m (pc + 3) ls (.ref (b + v) :: rest))) : W p l e R s m args below meth c H locs cells slots Q (F0 m pc ls (.ref (b + i) :: rest)) := by
  obtain ⟨h1, h2⟩ := gA_some hv
  obtain ⟨k, -, hg⟩ := cO_at (b := b) (cB := cB) (cI := cI) (cJ := cJ) (cZ := cZ) (cS := cS) (cO := cO) (by decide) h1
  have hf : (vL b cs i (32 * 2) (tyX 2))[5]? = some (.ref (b + v)) := by
    show some (vV b cs 69 i 3) = _
    show some (rv b (kP cs 69 i)) = _
    rw [h2]; rfl
  exact va_get (D := (dC, dI)) (ci := 2) (C := RX1) (T := TX1) (N := 13) hx hb hts (fun w h => List.mem_cons_of_mem _ (uG_X1 w h)) hown hK hP k hg rfl 5 (by decide) (hts _ (List.mem_cons_of_mem _ kw_385)) (fun _ h9 => h9) hf hdg kk
theorem fg_X1_34 {p : Program} {l : Launch} {e : Env} {R : Room} {s : State} {m : MethodId} {args : Array Value} {below : List Frame} {meth : Method} {c : Code} {H : Heap} {locs : List Loc} {cells slots : Nat} {Q : State → Prop} {cc : ByteArray} {pc : Nat} {ls : Array Slot} {rest : List Value} {y0 : MethodName} {c0 : ByteArray} {n0 : Nat} {r0 : Option FieldType} {dC : Nat → ClassId} {dI : Nat → Nat → Nat} {cB cI cJ cZ cS cO : ClassId} {b : Nat} {cs : CS} {i : Nat} {v : Nat} (hx : p.tables.exec = Jvm.exec) (hb : c.code = cc) (hts : ∀ w ∈ wsOf y0 c0 n0 r0, w.before args s = true) (hown : s.vm.findClass RX1 = some m.cls) (hK : va_K (dC, dI) vwCl [(cB, .byte), (cI, .int), (cJ, .long), (cZ, .boolean), (cS, .object "StreamQueries$Source"), (cO, .object "java/lang/Object")] s) (hP : va_P (dC, dI) vwCl (cW cB cI cJ cZ cS cO b cs) H) (hv : gA cs 2 70 i = some v) (hdg : decode cc pc = .ok (.getfield 34, 3)) (kk : W p l e R s m args below meth c H locs cells slots Q (F0 m (pc + 3) ls (.ref (b + v) :: rest))) : W p l e R s m args below meth c H locs cells slots Q (F0 m pc ls (.ref (b + i) :: rest)) := by
  obtain ⟨h1, h2⟩ := gA_some hv
  obtain ⟨k, -, hg⟩ := cO_at (b := b) (cB := cB) (cI := cI) (cJ := cJ) (cZ := cZ) (cS := cS) (cO := cO) (by decide) h1
  have hf : (vL b cs i (32 * 2) (tyX 2))[6]? = some (.ref (b + v)) := by
    show some (vV b cs 70 i 3) = _
    show some (rv b (kP cs 70 i)) = _
    rw [h2]; rfl
  exact va_get (D := (dC, dI)) (ci := 2) (C := RX1) (T := TX1) (N := 13) hx hb hts (fun w h => List.mem_cons_of_mem _ (uG_X1 w h)) hown hK hP k hg rfl 6 (by decide) (hts _ (List.mem_cons_of_mem _ kw_388)) (fun _ h9 => h9) hf hdg kk
theorem fg_X1_37 {p : Program} {l : Launch} {e : Env} {R : Room} {s : State} {m : MethodId} {args : Array Value} {below : List Frame} {meth : Method} {c : Code} {H : Heap} {locs : List Loc} {cells slots : Nat} {Q : State → Prop} {cc : ByteArray} {pc : Nat} {ls : Array Slot} {rest : List Value} {y0 : MethodName} {c0 : ByteArray} {n0 : Nat} {r0 : Option FieldType} {dC : Nat → ClassId} {dI : Nat → Nat → Nat} {cB cI cJ cZ cS cO : ClassId} {b : Nat} {cs : CS} {i : Nat} {v : Nat} (hx : p.tables.exec = Jvm.exec) (hb : c.code = cc) (hts : ∀ w ∈ wsOf y0 c0 n0 r0, w.before args s = true) (hown : s.vm.findClass RX1 = some m.cls) (hK : va_K (dC, dI) vwCl [(cB, .byte), (cI, .int), (cJ, .long), (cZ, .boolean), (cS, .object "StreamQueries$Source"), (cO, .object "java/lang/Object")] s) (hP : va_P (dC, dI) vwCl (cW cB cI cJ cZ cS cO b cs) H) (hv : gA cs 2 71 i = some v) (hdg : decode cc pc = .ok (.getfield 37, 3)) (kk : W p l e R s m args below meth c H locs cells slots Q (F0 m (pc + 3) ls (.ref (b + v) :: rest))) : W p l e R s m args below meth c H locs cells slots Q (F0 m pc ls (.ref (b + i) :: rest)) := by
  obtain ⟨h1, h2⟩ := gA_some hv
  obtain ⟨k, -, hg⟩ := cO_at (b := b) (cB := cB) (cI := cI) (cJ := cJ) (cZ := cZ) (cS := cS) (cO := cO) (by decide) h1
  have hf : (vL b cs i (32 * 2) (tyX 2))[7]? = some (.ref (b + v)) := by
    show some (vV b cs 71 i 3) = _
    show some (rv b (kP cs 71 i)) = _
    rw [h2]; rfl
  exact va_get (D := (dC, dI)) (ci := 2) (C := RX1) (T := TX1) (N := 13) hx hb hts (fun w h => List.mem_cons_of_mem _ (uG_X1 w h)) hown hK hP k hg rfl 7 (by decide) (hts _ (List.mem_cons_of_mem _ kw_391)) (fun _ h9 => h9) hf hdg kk
theorem fg_X1_40 {p : Program} {l : Launch} {e : Env} {R : Room} {s : State} {m : MethodId} {args : Array Value} {below : List Frame} {meth : Method} {c : Code} {H : Heap} {locs : List Loc} {cells slots : Nat} {Q : State → Prop} {cc : ByteArray} {pc : Nat} {ls : Array Slot} {rest : List Value} {y0 : MethodName} {c0 : ByteArray} {n0 : Nat} {r0 : Option FieldType} {dC : Nat → ClassId} {dI : Nat → Nat → Nat} {cB cI cJ cZ cS cO : ClassId} {b : Nat} {cs : CS} {i : Nat} {v : Nat} (hx : p.tables.exec = Jvm.exec) (hb : c.code = cc) (hts : ∀ w ∈ wsOf y0 c0 n0 r0, w.before args s = true) (hown : s.vm.findClass RX1 = some m.cls) (hK : va_K (dC, dI) vwCl [(cB, .byte), (cI, .int), (cJ, .long), (cZ, .boolean), (cS, .object "StreamQueries$Source"), (cO, .object "java/lang/Object")] s) (hP : va_P (dC, dI) vwCl (cW cB cI cJ cZ cS cO b cs) H) (hv : gA cs 2 72 i = some v) (hdg : decode cc pc = .ok (.getfield 40, 3)) (kk : W p l e R s m args below meth c H locs cells slots Q (F0 m (pc + 3) ls (.ref (b + v) :: rest))) : W p l e R s m args below meth c H locs cells slots Q (F0 m pc ls (.ref (b + i) :: rest)) := by
  obtain ⟨h1, h2⟩ := gA_some hv
  obtain ⟨k, -, hg⟩ := cO_at (b := b) (cB := cB) (cI := cI) (cJ := cJ) (cZ := cZ) (cS := cS) (cO := cO) (by decide) h1
  have hf : (vL b cs i (32 * 2) (tyX 2))[8]? = some (.ref (b + v)) := by
    show some (vV b cs 72 i 3) = _
    show some (rv b (kP cs 72 i)) = _
    rw [h2]; rfl
  exact va_get (D := (dC, dI)) (ci := 2) (C := RX1) (T := TX1) (N := 13) hx hb hts (fun w h => List.mem_cons_of_mem _ (uG_X1 w h)) hown hK hP k hg rfl 8 (by decide) (hts _ (List.mem_cons_of_mem _ kw_394)) (fun _ h9 => h9) hf hdg kk
theorem fg_X1_43 {p : Program} {l : Launch} {e : Env} {R : Room} {s : State} {m : MethodId} {args : Array Value} {below : List Frame} {meth : Method} {c : Code} {H : Heap} {locs : List Loc} {cells slots : Nat} {Q : State → Prop} {cc : ByteArray} {pc : Nat} {ls : Array Slot} {rest : List Value} {y0 : MethodName} {c0 : ByteArray} {n0 : Nat} {r0 : Option FieldType} {dC : Nat → ClassId} {dI : Nat → Nat → Nat} {cB cI cJ cZ cS cO : ClassId} {b : Nat} {cs : CS} {i : Nat} {v : Nat} (hx : p.tables.exec = Jvm.exec) (hb : c.code = cc) (hts : ∀ w ∈ wsOf y0 c0 n0 r0, w.before args s = true) (hown : s.vm.findClass RX1 = some m.cls) (hK : va_K (dC, dI) vwCl [(cB, .byte), (cI, .int), (cJ, .long), (cZ, .boolean), (cS, .object "StreamQueries$Source"), (cO, .object "java/lang/Object")] s) (hP : va_P (dC, dI) vwCl (cW cB cI cJ cZ cS cO b cs) H) (hv : gA cs 2 73 i = some v) (hdg : decode cc pc = .ok (.getfield 43, 3)) (kk : W p l e R s m args below meth c H locs cells slots Q (F0 m (pc + 3) ls (.ref (b + v) :: rest))) : W p l e R s m args below meth c H locs cells slots Q (F0 m pc ls (.ref (b + i) :: rest)) := by
  obtain ⟨h1, h2⟩ := gA_some hv
  obtain ⟨k, -, hg⟩ := cO_at (b := b) (cB := cB) (cI := cI) (cJ := cJ) (cZ := cZ) (cS := cS) (cO := cO) (by decide) h1
  have hf : (vL b cs i (32 * 2) (tyX 2))[9]? = some (.ref (b + v)) := by
    show some (vV b cs 73 i 3) = _
    show some (rv b (kP cs 73 i)) = _
    rw [h2]; rfl
  exact va_get (D := (dC, dI)) (ci := 2) (C := RX1) (T := TX1) (N := 13) hx hb hts (fun w h => List.mem_cons_of_mem _ (uG_X1 w h)) hown hK hP k hg rfl 9 (by decide) (hts _ (List.mem_cons_of_mem _ kw_396)) (fun _ h9 => h9) hf hdg kk
theorem fg_X1_46 {p : Program} {l : Launch} {e : Env} {R : Room} {s : State} {m : MethodId} {args : Array Value} {below : List Frame} {meth : Method} {c : Code} {H : Heap} {locs : List Loc} {cells slots : Nat} {Q : State → Prop} {cc : ByteArray} {pc : Nat} {ls : Array Slot} {rest : List Value} {y0 : MethodName} {c0 : ByteArray} {n0 : Nat} {r0 : Option FieldType} {dC : Nat → ClassId} {dI : Nat → Nat → Nat} {cB cI cJ cZ cS cO : ClassId} {b : Nat} {cs : CS} {i : Nat} {v : Nat} (hx : p.tables.exec = Jvm.exec) (hb : c.code = cc) (hts : ∀ w ∈ wsOf y0 c0 n0 r0, w.before args s = true) (hown : s.vm.findClass RX1 = some m.cls) (hK : va_K (dC, dI) vwCl [(cB, .byte), (cI, .int), (cJ, .long), (cZ, .boolean), (cS, .object "StreamQueries$Source"), (cO, .object "java/lang/Object")] s) (hP : va_P (dC, dI) vwCl (cW cB cI cJ cZ cS cO b cs) H) (hv : gA cs 2 74 i = some v) (hdg : decode cc pc = .ok (.getfield 46, 3)) (kk : W p l e R s m args below meth c H locs cells slots Q (F0 m (pc + 3) ls (.ref (b + v) :: rest))) : W p l e R s m args below meth c H locs cells slots Q (F0 m pc ls (.ref (b + i) :: rest)) := by
  obtain ⟨h1, h2⟩ := gA_some hv
  obtain ⟨k, -, hg⟩ := cO_at (b := b) (cB := cB) (cI := cI) (cJ := cJ) (cZ := cZ) (cS := cS) (cO := cO) (by decide) h1
  have hf : (vL b cs i (32 * 2) (tyX 2))[10]? = some (.ref (b + v)) := by
    show some (vV b cs 74 i 3) = _
    show some (rv b (kP cs 74 i)) = _
    rw [h2]; rfl
  exact va_get (D := (dC, dI)) (ci := 2) (C := RX1) (T := TX1) (N := 13) hx hb hts (fun w h => List.mem_cons_of_mem _ (uG_X1 w h)) hown hK hP k hg rfl 10 (by decide) (hts _ (List.mem_cons_of_mem _ kw_398)) (fun _ h9 => h9) hf hdg kk
theorem fg_X1_49 {p : Program} {l : Launch} {e : Env} {R : Room} {s : State} {m : MethodId} {args : Array Value} {below : List Frame} {meth : Method} {c : Code} {H : Heap} {locs : List Loc} {cells slots : Nat} {Q : State → Prop} {cc : ByteArray} {pc : Nat} {ls : Array Slot} {rest : List Value} {y0 : MethodName} {c0 : ByteArray} {n0 : Nat} {r0 : Option FieldType} {dC : Nat → ClassId} {dI : Nat → Nat → Nat} {cB cI cJ cZ cS cO : ClassId} {b : Nat} {cs : CS} {i : Nat} {v : Nat} (hx : p.tables.exec = Jvm.exec) (hb : c.code = cc) (hts : ∀ w ∈ wsOf y0 c0 n0 r0, w.before args s = true) (hown : s.vm.findClass RX1 = some m.cls) (hK : va_K (dC, dI) vwCl [(cB, .byte), (cI, .int), (cJ, .long), (cZ, .boolean), (cS, .object "StreamQueries$Source"), (cO, .object "java/lang/Object")] s) (hP : va_P (dC, dI) vwCl (cW cB cI cJ cZ cS cO b cs) H) (hv : gA cs 2 75 i = some v) (hdg : decode cc pc = .ok (.getfield 49, 3)) (kk : W p l e R s m args below meth c H locs cells slots Q (F0 m (pc + 3) ls (.ref (b + v) :: rest))) : W p l e R s m args below meth c H locs cells slots Q (F0 m pc ls (.ref (b + i) :: rest)) := by
  obtain ⟨h1, h2⟩ := gA_some hv
  obtain ⟨k, -, hg⟩ := cO_at (b := b) (cB := cB) (cI := cI) (cJ := cJ) (cZ := cZ) (cS := cS) (cO := cO) (by decide) h1
  have hf : (vL b cs i (32 * 2) (tyX 2))[11]? = some (.ref (b + v)) := by
    show some (vV b cs 75 i 3) = _
    show some (rv b (kP cs 75 i)) = _
    rw [h2]; rfl
  exact va_get (D := (dC, dI)) (ci := 2) (C := RX1) (T := TX1) (N := 13) hx hb hts (fun w h => List.mem_cons_of_mem _ (uG_X1 w h)) hown hK hP k hg rfl 11 (by decide) (hts _ (List.mem_cons_of_mem _ kw_399)) (fun _ h9 => h9) hf hdg kk
theorem fg_X1_53 {p : Program} {l : Launch} {e : Env} {R : Room} {s : State} {m : MethodId} {args : Array Value} {below : List Frame} {meth : Method} {c : Code} {H : Heap} {locs : List Loc} {cells slots : Nat} {Q : State → Prop} {cc : ByteArray} {pc : Nat} {ls : Array Slot} {rest : List Value} {y0 : MethodName} {c0 : ByteArray} {n0 : Nat} {r0 : Option FieldType} {dC : Nat → ClassId} {dI : Nat → Nat → Nat} {cB cI cJ cZ cS cO : ClassId} {b : Nat} {cs : CS} {i : Nat} {v : Int32} (hx : p.tables.exec = Jvm.exec) (hb : c.code = cc) (hts : ∀ w ∈ wsOf y0 c0 n0 r0, w.before args s = true) (hown : s.vm.findClass RX1 = some m.cls) (hK : va_K (dC, dI) vwCl [(cB, .byte), (cI, .int), (cJ, .long), (cZ, .boolean), (cS, .object "StreamQueries$Source"), (cO, .object "java/lang/Object")] s) (hP : va_P (dC, dI) vwCl (cW cB cI cJ cZ cS cO b cs) H) (hv : gI cs 2 64 i = some v) (hdg : decode cc pc = .ok (.getfield 53, 3)) (kk : W p l e R s m args below meth c H locs cells slots Q (F0 m (pc + 3) ls (.int v :: rest))) : W p l e R s m args below meth c H locs cells slots Q (F0 m pc ls (.ref (b + i) :: rest)) := by
  obtain ⟨h1, h2⟩ := gI_some hv
  obtain ⟨k, -, hg⟩ := cO_at (b := b) (cB := cB) (cI := cI) (cJ := cJ) (cZ := cZ) (cS := cS) (cO := cO) (by decide) h1
  have hf : (vL b cs i (32 * 2) (tyX 2))[0]? = some (.int v) := by
    show some (vV b cs 64 i 0) = _
    show some (Value.int (kI cs 64 i)) = _
    rw [h2]
  exact va_get (D := (dC, dI)) (ci := 2) (C := RX1) (T := TX1) (N := 13) hx hb hts (fun w h => List.mem_cons_of_mem _ (uG_X1 w h)) hown hK hP k hg rfl 0 (by decide) (hts _ (List.mem_cons_of_mem _ kw_371)) (fun _ h9 => h9) hf hdg kk
theorem fp_X1_53 {p : Program} {l : Launch} {e : Env} {R : Room} {s : State} {m : MethodId} {args : Array Value} {below : List Frame} {meth : Method} {c : Code} {H : Heap} {locs : List Loc} {cells slots : Nat} {Q : State → Prop} {cc : ByteArray} {pc : Nat} {ls : Array Slot} {rest : List Value} {y0 : MethodName} {c0 : ByteArray} {n0 : Nat} {r0 : Option FieldType} {dC : Nat → ClassId} {dI : Nat → Nat → Nat} {cB cI cJ cZ cS cO : ClassId} {b : Nat} {cs : CS} {A : Nat → Prop} {H0 : Heap} {cs1 : CS} {i : Nat} {v : Int32} (hx : p.tables.exec = Jvm.exec) (hb : c.code = cc) (hts : ∀ w ∈ wsOf y0 c0 n0 r0, w.before args s = true) (hown : s.vm.findClass RX1 = some m.cls) (hK : va_K (dC, dI) vwCl [(cB, .byte), (cI, .int), (cJ, .long), (cZ, .boolean), (cS, .object "StreamQueries$Source"), (cO, .object "java/lang/Object")] s) (hP : va_P (dC, dI) vwCl (cW cB cI cJ cZ cS cO b cs) H) (hD : va_D A (cW cB cI cJ cZ cS cO b cs)) (hS : va_S A H0 H locs) (hv : pI cs 2 64 i v = some cs1) (hdg : decode cc pc = .ok (.putfield 53, 3)) (kk : ∀ (H1 : Heap) (locs1 : List Loc), va_P (dC, dI) vwCl (cW cB cI cJ cZ cS cO b cs1) H1 → va_D A (cW cB cI cJ cZ cS cO b cs1) → va_S A H0 H1 locs1 → W p l e R s m args below meth c H1 locs1 cells slots Q (F0 m (pc + 3) ls rest)) : W p l e R s m args below meth c H locs cells slots Q (F0 m pc ls (.int v :: .ref (b + i) :: rest)) := by
  obtain ⟨h1, rfl⟩ := pI_some hv
  obtain ⟨k, hk, hg⟩ := cO_at (b := b) (cB := cB) (cI := cI) (cJ := cJ) (cZ := cZ) (cS := cS) (cO := cO) (by decide) h1
  have hset := cW_putF (f := 0) (y := 0) (v := .int v) (cs1 := sI cs 64 i v) (by decide) rfl hD hk rfl rfl rfl rfl rfl rfl (by show Value.int (u2 (kI cs) 64 i v 64 i) = _; rw [u2_s]) (fun z j w hn => by
    have e9 : kI (sI cs 64 i v) z j = kI cs z j := u2_n hn
    match w with
    | 0 => show Value.int (kI (sI cs 64 i v) z j) = Value.int (kI cs z j); rw [e9]
    | 1 => rfl
    | 2 => rfl
    | _ + 3 => rfl)
  refine va_put (D := (dC, dI)) (ci := 2) (v := .int v) (ty := .int) (C := RX1) (T := TX1) (N := 13) hx hb hts (fun w h => List.mem_cons_of_mem _ (uG_X1 w h)) tyX1 tyX1_ok nmX1 hown hK hP hD hS k hg rfl 0 (by decide) (hts _ (List.mem_cons_of_mem _ kw_371)) (fun _ h9 => h9) rfl (by decide +kernel) rfl rfl (by rw [vL_len]; decide) hdg (fun H1 l1 q1 q2 q3 => ?_)
  rw [hset] at q1 q2
  exact kk H1 l1 q1 q2 q3
theorem fg_X1_59 {p : Program} {l : Launch} {e : Env} {R : Room} {s : State} {m : MethodId} {args : Array Value} {below : List Frame} {meth : Method} {c : Code} {H : Heap} {locs : List Loc} {cells slots : Nat} {Q : State → Prop} {cc : ByteArray} {pc : Nat} {ls : Array Slot} {rest : List Value} {y0 : MethodName} {c0 : ByteArray} {n0 : Nat} {r0 : Option FieldType} {dC : Nat → ClassId} {dI : Nat → Nat → Nat} {cB cI cJ cZ cS cO : ClassId} {b : Nat} {cs : CS} {i : Nat} {v : Int32} (hx : p.tables.exec = Jvm.exec) (hb : c.code = cc) (hts : ∀ w ∈ wsOf y0 c0 n0 r0, w.before args s = true) (hown : s.vm.findClass RX1 = some m.cls) (hK : va_K (dC, dI) vwCl [(cB, .byte), (cI, .int), (cJ, .long), (cZ, .boolean), (cS, .object "StreamQueries$Source"), (cO, .object "java/lang/Object")] s) (hP : va_P (dC, dI) vwCl (cW cB cI cJ cZ cS cO b cs) H) (hv : gI cs 2 76 i = some v) (hdg : decode cc pc = .ok (.getfield 59, 3)) (kk : W p l e R s m args below meth c H locs cells slots Q (F0 m (pc + 3) ls (.int v :: rest))) : W p l e R s m args below meth c H locs cells slots Q (F0 m pc ls (.ref (b + i) :: rest)) := by
  obtain ⟨h1, h2⟩ := gI_some hv
  obtain ⟨k, -, hg⟩ := cO_at (b := b) (cB := cB) (cI := cI) (cJ := cJ) (cZ := cZ) (cS := cS) (cO := cO) (by decide) h1
  have hf : (vL b cs i (32 * 2) (tyX 2))[12]? = some (.int v) := by
    show some (vV b cs 76 i 0) = _
    show some (Value.int (kI cs 76 i)) = _
    rw [h2]
  exact va_get (D := (dC, dI)) (ci := 2) (C := RX1) (T := TX1) (N := 13) hx hb hts (fun w h => List.mem_cons_of_mem _ (uG_X1 w h)) hown hK hP k hg rfl 12 (by decide) (hts _ (List.mem_cons_of_mem _ kw_400)) (fun _ h9 => h9) hf hdg kk
theorem fp_X1_59 {p : Program} {l : Launch} {e : Env} {R : Room} {s : State} {m : MethodId} {args : Array Value} {below : List Frame} {meth : Method} {c : Code} {H : Heap} {locs : List Loc} {cells slots : Nat} {Q : State → Prop} {cc : ByteArray} {pc : Nat} {ls : Array Slot} {rest : List Value} {y0 : MethodName} {c0 : ByteArray} {n0 : Nat} {r0 : Option FieldType} {dC : Nat → ClassId} {dI : Nat → Nat → Nat} {cB cI cJ cZ cS cO : ClassId} {b : Nat} {cs : CS} {A : Nat → Prop} {H0 : Heap} {cs1 : CS} {i : Nat} {v : Int32} (hx : p.tables.exec = Jvm.exec) (hb : c.code = cc) (hts : ∀ w ∈ wsOf y0 c0 n0 r0, w.before args s = true) (hown : s.vm.findClass RX1 = some m.cls) (hK : va_K (dC, dI) vwCl [(cB, .byte), (cI, .int), (cJ, .long), (cZ, .boolean), (cS, .object "StreamQueries$Source"), (cO, .object "java/lang/Object")] s) (hP : va_P (dC, dI) vwCl (cW cB cI cJ cZ cS cO b cs) H) (hD : va_D A (cW cB cI cJ cZ cS cO b cs)) (hS : va_S A H0 H locs) (hv : pI cs 2 76 i v = some cs1) (hdg : decode cc pc = .ok (.putfield 59, 3)) (kk : ∀ (H1 : Heap) (locs1 : List Loc), va_P (dC, dI) vwCl (cW cB cI cJ cZ cS cO b cs1) H1 → va_D A (cW cB cI cJ cZ cS cO b cs1) → va_S A H0 H1 locs1 → W p l e R s m args below meth c H1 locs1 cells slots Q (F0 m (pc + 3) ls rest)) : W p l e R s m args below meth c H locs cells slots Q (F0 m pc ls (.int v :: .ref (b + i) :: rest)) := by
  obtain ⟨h1, rfl⟩ := pI_some hv
  obtain ⟨k, hk, hg⟩ := cO_at (b := b) (cB := cB) (cI := cI) (cJ := cJ) (cZ := cZ) (cS := cS) (cO := cO) (by decide) h1
  have hset := cW_putF (f := 12) (y := 0) (v := .int v) (cs1 := sI cs 76 i v) (by decide) rfl hD hk rfl rfl rfl rfl rfl rfl (by show Value.int (u2 (kI cs) 76 i v 76 i) = _; rw [u2_s]) (fun z j w hn => by
    have e9 : kI (sI cs 76 i v) z j = kI cs z j := u2_n hn
    match w with
    | 0 => show Value.int (kI (sI cs 76 i v) z j) = Value.int (kI cs z j); rw [e9]
    | 1 => rfl
    | 2 => rfl
    | _ + 3 => rfl)
  refine va_put (D := (dC, dI)) (ci := 2) (v := .int v) (ty := .int) (C := RX1) (T := TX1) (N := 13) hx hb hts (fun w h => List.mem_cons_of_mem _ (uG_X1 w h)) tyX1 tyX1_ok nmX1 hown hK hP hD hS k hg rfl 12 (by decide) (hts _ (List.mem_cons_of_mem _ kw_400)) (fun _ h9 => h9) rfl (by decide +kernel) rfl rfl (by rw [vL_len]; decide) hdg (fun H1 l1 q1 q2 q3 => ?_)
  rw [hset] at q1 q2
  exact kk H1 l1 q1 q2 q3
theorem fg_X2_9 {p : Program} {l : Launch} {e : Env} {R : Room} {s : State} {m : MethodId} {args : Array Value} {below : List Frame} {meth : Method} {c : Code} {H : Heap} {locs : List Loc} {cells slots : Nat} {Q : State → Prop} {cc : ByteArray} {pc : Nat} {ls : Array Slot} {rest : List Value} {y0 : MethodName} {c0 : ByteArray} {n0 : Nat} {r0 : Option FieldType} {dC : Nat → ClassId} {dI : Nat → Nat → Nat} {cB cI cJ cZ cS cO : ClassId} {b : Nat} {cs : CS} {i : Nat} {v : Nat} (hx : p.tables.exec = Jvm.exec) (hb : c.code = cc) (hts : ∀ w ∈ wsOf y0 c0 n0 r0, w.before args s = true) (hown : s.vm.findClass RX2 = some m.cls) (hK : va_K (dC, dI) vwCl [(cB, .byte), (cI, .int), (cJ, .long), (cZ, .boolean), (cS, .object "StreamQueries$Source"), (cO, .object "java/lang/Object")] s) (hP : va_P (dC, dI) vwCl (cW cB cI cJ cZ cS cO b cs) H) (hv : gA cs 3 97 i = some v) (hdg : decode cc pc = .ok (.getfield 9, 3)) (kk : W p l e R s m args below meth c H locs cells slots Q (F0 m (pc + 3) ls (.ref (b + v) :: rest))) : W p l e R s m args below meth c H locs cells slots Q (F0 m pc ls (.ref (b + i) :: rest)) := by
  obtain ⟨h1, h2⟩ := gA_some hv
  obtain ⟨k, -, hg⟩ := cO_at (b := b) (cB := cB) (cI := cI) (cJ := cJ) (cZ := cZ) (cS := cS) (cO := cO) (by decide) h1
  have hf : (vL b cs i (32 * 3) (tyX 3))[1]? = some (.ref (b + v)) := by
    show some (vV b cs 97 i 3) = _
    show some (rv b (kP cs 97 i)) = _
    rw [h2]; rfl
  exact va_get (D := (dC, dI)) (ci := 3) (C := RX2) (T := TX2) (N := 5) hx hb hts (fun w h => List.mem_cons_of_mem _ (uG_X2 w h)) hown hK hP k hg rfl 1 (by decide) (hts _ (List.mem_cons_of_mem _ kw_633)) (fun _ h9 => h9) hf hdg kk
theorem fg_X2_15 {p : Program} {l : Launch} {e : Env} {R : Room} {s : State} {m : MethodId} {args : Array Value} {below : List Frame} {meth : Method} {c : Code} {H : Heap} {locs : List Loc} {cells slots : Nat} {Q : State → Prop} {cc : ByteArray} {pc : Nat} {ls : Array Slot} {rest : List Value} {y0 : MethodName} {c0 : ByteArray} {n0 : Nat} {r0 : Option FieldType} {dC : Nat → ClassId} {dI : Nat → Nat → Nat} {cB cI cJ cZ cS cO : ClassId} {b : Nat} {cs : CS} {i : Nat} {v : Nat} (hx : p.tables.exec = Jvm.exec) (hb : c.code = cc) (hts : ∀ w ∈ wsOf y0 c0 n0 r0, w.before args s = true) (hown : s.vm.findClass RX2 = some m.cls) (hK : va_K (dC, dI) vwCl [(cB, .byte), (cI, .int), (cJ, .long), (cZ, .boolean), (cS, .object "StreamQueries$Source"), (cO, .object "java/lang/Object")] s) (hP : va_P (dC, dI) vwCl (cW cB cI cJ cZ cS cO b cs) H) (hv : gA cs 3 98 i = some v) (hdg : decode cc pc = .ok (.getfield 15, 3)) (kk : W p l e R s m args below meth c H locs cells slots Q (F0 m (pc + 3) ls (.ref (b + v) :: rest))) : W p l e R s m args below meth c H locs cells slots Q (F0 m pc ls (.ref (b + i) :: rest)) := by
  obtain ⟨h1, h2⟩ := gA_some hv
  obtain ⟨k, -, hg⟩ := cO_at (b := b) (cB := cB) (cI := cI) (cJ := cJ) (cZ := cZ) (cS := cS) (cO := cO) (by decide) h1
  have hf : (vL b cs i (32 * 3) (tyX 3))[2]? = some (.ref (b + v)) := by
    show some (vV b cs 98 i 3) = _
    show some (rv b (kP cs 98 i)) = _
    rw [h2]; rfl
  exact va_get (D := (dC, dI)) (ci := 3) (C := RX2) (T := TX2) (N := 5) hx hb hts (fun w h => List.mem_cons_of_mem _ (uG_X2 w h)) hown hK hP k hg rfl 2 (by decide) (hts _ (List.mem_cons_of_mem _ kw_636)) (fun _ h9 => h9) hf hdg kk
theorem fg_X2_19 {p : Program} {l : Launch} {e : Env} {R : Room} {s : State} {m : MethodId} {args : Array Value} {below : List Frame} {meth : Method} {c : Code} {H : Heap} {locs : List Loc} {cells slots : Nat} {Q : State → Prop} {cc : ByteArray} {pc : Nat} {ls : Array Slot} {rest : List Value} {y0 : MethodName} {c0 : ByteArray} {n0 : Nat} {r0 : Option FieldType} {dC : Nat → ClassId} {dI : Nat → Nat → Nat} {cB cI cJ cZ cS cO : ClassId} {b : Nat} {cs : CS} {i : Nat} {v : Nat} (hx : p.tables.exec = Jvm.exec) (hb : c.code = cc) (hts : ∀ w ∈ wsOf y0 c0 n0 r0, w.before args s = true) (hown : s.vm.findClass RX2 = some m.cls) (hK : va_K (dC, dI) vwCl [(cB, .byte), (cI, .int), (cJ, .long), (cZ, .boolean), (cS, .object "StreamQueries$Source"), (cO, .object "java/lang/Object")] s) (hP : va_P (dC, dI) vwCl (cW cB cI cJ cZ cS cO b cs) H) (hv : gA cs 3 99 i = some v) (hdg : decode cc pc = .ok (.getfield 19, 3)) (kk : W p l e R s m args below meth c H locs cells slots Q (F0 m (pc + 3) ls (.ref (b + v) :: rest))) : W p l e R s m args below meth c H locs cells slots Q (F0 m pc ls (.ref (b + i) :: rest)) := by
  obtain ⟨h1, h2⟩ := gA_some hv
  obtain ⟨k, -, hg⟩ := cO_at (b := b) (cB := cB) (cI := cI) (cJ := cJ) (cZ := cZ) (cS := cS) (cO := cO) (by decide) h1
  have hf : (vL b cs i (32 * 3) (tyX 3))[3]? = some (.ref (b + v)) := by
    show some (vV b cs 99 i 3) = _
    show some (rv b (kP cs 99 i)) = _
    rw [h2]; rfl
  exact va_get (D := (dC, dI)) (ci := 3) (C := RX2) (T := TX2) (N := 5) hx hb hts (fun w h => List.mem_cons_of_mem _ (uG_X2 w h)) hown hK hP k hg rfl 3 (by decide) (hts _ (List.mem_cons_of_mem _ kw_638)) (fun _ h9 => h9) hf hdg kk
theorem fg_X2_22 {p : Program} {l : Launch} {e : Env} {R : Room} {s : State} {m : MethodId} {args : Array Value} {below : List Frame} {meth : Method} {c : Code} {H : Heap} {locs : List Loc} {cells slots : Nat} {Q : State → Prop} {cc : ByteArray} {pc : Nat} {ls : Array Slot} {rest : List Value} {y0 : MethodName} {c0 : ByteArray} {n0 : Nat} {r0 : Option FieldType} {dC : Nat → ClassId} {dI : Nat → Nat → Nat} {cB cI cJ cZ cS cO : ClassId} {b : Nat} {cs : CS} {i : Nat} {v : Nat} (hx : p.tables.exec = Jvm.exec) (hb : c.code = cc) (hts : ∀ w ∈ wsOf y0 c0 n0 r0, w.before args s = true) (hown : s.vm.findClass RX2 = some m.cls) (hK : va_K (dC, dI) vwCl [(cB, .byte), (cI, .int), (cJ, .long), (cZ, .boolean), (cS, .object "StreamQueries$Source"), (cO, .object "java/lang/Object")] s) (hP : va_P (dC, dI) vwCl (cW cB cI cJ cZ cS cO b cs) H) (hv : gA cs 3 100 i = some v) (hdg : decode cc pc = .ok (.getfield 22, 3)) (kk : W p l e R s m args below meth c H locs cells slots Q (F0 m (pc + 3) ls (.ref (b + v) :: rest))) : W p l e R s m args below meth c H locs cells slots Q (F0 m pc ls (.ref (b + i) :: rest)) := by
  obtain ⟨h1, h2⟩ := gA_some hv
  obtain ⟨k, -, hg⟩ := cO_at (b := b) (cB := cB) (cI := cI) (cJ := cJ) (cZ := cZ) (cS := cS) (cO := cO) (by decide) h1
  have hf : (vL b cs i (32 * 3) (tyX 3))[4]? = some (.ref (b + v)) := by
    show some (vV b cs 100 i 3) = _
    show some (rv b (kP cs 100 i)) = _
    rw [h2]; rfl
  exact va_get (D := (dC, dI)) (ci := 3) (C := RX2) (T := TX2) (N := 5) hx hb hts (fun w h => List.mem_cons_of_mem _ (uG_X2 w h)) hown hK hP k hg rfl 4 (by decide) (hts _ (List.mem_cons_of_mem _ kw_640)) (fun _ h9 => h9) hf hdg kk
theorem fg_X2_25 {p : Program} {l : Launch} {e : Env} {R : Room} {s : State} {m : MethodId} {args : Array Value} {below : List Frame} {meth : Method} {c : Code} {H : Heap} {locs : List Loc} {cells slots : Nat} {Q : State → Prop} {cc : ByteArray} {pc : Nat} {ls : Array Slot} {rest : List Value} {y0 : MethodName} {c0 : ByteArray} {n0 : Nat} {r0 : Option FieldType} {dC : Nat → ClassId} {dI : Nat → Nat → Nat} {cB cI cJ cZ cS cO : ClassId} {b : Nat} {cs : CS} {i : Nat} {v : Int32} (hx : p.tables.exec = Jvm.exec) (hb : c.code = cc) (hts : ∀ w ∈ wsOf y0 c0 n0 r0, w.before args s = true) (hown : s.vm.findClass RX2 = some m.cls) (hK : va_K (dC, dI) vwCl [(cB, .byte), (cI, .int), (cJ, .long), (cZ, .boolean), (cS, .object "StreamQueries$Source"), (cO, .object "java/lang/Object")] s) (hP : va_P (dC, dI) vwCl (cW cB cI cJ cZ cS cO b cs) H) (hv : gI cs 3 96 i = some v) (hdg : decode cc pc = .ok (.getfield 25, 3)) (kk : W p l e R s m args below meth c H locs cells slots Q (F0 m (pc + 3) ls (.int v :: rest))) : W p l e R s m args below meth c H locs cells slots Q (F0 m pc ls (.ref (b + i) :: rest)) := by
  obtain ⟨h1, h2⟩ := gI_some hv
  obtain ⟨k, -, hg⟩ := cO_at (b := b) (cB := cB) (cI := cI) (cJ := cJ) (cZ := cZ) (cS := cS) (cO := cO) (by decide) h1
  have hf : (vL b cs i (32 * 3) (tyX 3))[0]? = some (.int v) := by
    show some (vV b cs 96 i 0) = _
    show some (Value.int (kI cs 96 i)) = _
    rw [h2]
  exact va_get (D := (dC, dI)) (ci := 3) (C := RX2) (T := TX2) (N := 5) hx hb hts (fun w h => List.mem_cons_of_mem _ (uG_X2 w h)) hown hK hP k hg rfl 0 (by decide) (hts _ (List.mem_cons_of_mem _ kw_628)) (fun _ h9 => h9) hf hdg kk
theorem fp_X2_25 {p : Program} {l : Launch} {e : Env} {R : Room} {s : State} {m : MethodId} {args : Array Value} {below : List Frame} {meth : Method} {c : Code} {H : Heap} {locs : List Loc} {cells slots : Nat} {Q : State → Prop} {cc : ByteArray} {pc : Nat} {ls : Array Slot} {rest : List Value} {y0 : MethodName} {c0 : ByteArray} {n0 : Nat} {r0 : Option FieldType} {dC : Nat → ClassId} {dI : Nat → Nat → Nat} {cB cI cJ cZ cS cO : ClassId} {b : Nat} {cs : CS} {A : Nat → Prop} {H0 : Heap} {cs1 : CS} {i : Nat} {v : Int32} (hx : p.tables.exec = Jvm.exec) (hb : c.code = cc) (hts : ∀ w ∈ wsOf y0 c0 n0 r0, w.before args s = true) (hown : s.vm.findClass RX2 = some m.cls) (hK : va_K (dC, dI) vwCl [(cB, .byte), (cI, .int), (cJ, .long), (cZ, .boolean), (cS, .object "StreamQueries$Source"), (cO, .object "java/lang/Object")] s) (hP : va_P (dC, dI) vwCl (cW cB cI cJ cZ cS cO b cs) H) (hD : va_D A (cW cB cI cJ cZ cS cO b cs)) (hS : va_S A H0 H locs) (hv : pI cs 3 96 i v = some cs1) (hdg : decode cc pc = .ok (.putfield 25, 3)) (kk : ∀ (H1 : Heap) (locs1 : List Loc), va_P (dC, dI) vwCl (cW cB cI cJ cZ cS cO b cs1) H1 → va_D A (cW cB cI cJ cZ cS cO b cs1) → va_S A H0 H1 locs1 → W p l e R s m args below meth c H1 locs1 cells slots Q (F0 m (pc + 3) ls rest)) : W p l e R s m args below meth c H locs cells slots Q (F0 m pc ls (.int v :: .ref (b + i) :: rest)) := by
  obtain ⟨h1, rfl⟩ := pI_some hv
  obtain ⟨k, hk, hg⟩ := cO_at (b := b) (cB := cB) (cI := cI) (cJ := cJ) (cZ := cZ) (cS := cS) (cO := cO) (by decide) h1
  have hset := cW_putF (f := 0) (y := 0) (v := .int v) (cs1 := sI cs 96 i v) (by decide) rfl hD hk rfl rfl rfl rfl rfl rfl (by show Value.int (u2 (kI cs) 96 i v 96 i) = _; rw [u2_s]) (fun z j w hn => by
    have e9 : kI (sI cs 96 i v) z j = kI cs z j := u2_n hn
    match w with
    | 0 => show Value.int (kI (sI cs 96 i v) z j) = Value.int (kI cs z j); rw [e9]
    | 1 => rfl
    | 2 => rfl
    | _ + 3 => rfl)
  refine va_put (D := (dC, dI)) (ci := 3) (v := .int v) (ty := .int) (C := RX2) (T := TX2) (N := 5) hx hb hts (fun w h => List.mem_cons_of_mem _ (uG_X2 w h)) tyX2 tyX2_ok nmX2 hown hK hP hD hS k hg rfl 0 (by decide) (hts _ (List.mem_cons_of_mem _ kw_628)) (fun _ h9 => h9) rfl (by decide +kernel) rfl rfl (by rw [vL_len]; decide) hdg (fun H1 l1 q1 q2 q3 => ?_)
  rw [hset] at q1 q2
  exact kk H1 l1 q1 q2 q3
theorem fg_X3_10 {p : Program} {l : Launch} {e : Env} {R : Room} {s : State} {m : MethodId} {args : Array Value} {below : List Frame} {meth : Method} {c : Code} {H : Heap} {locs : List Loc} {cells slots : Nat} {Q : State → Prop} {cc : ByteArray} {pc : Nat} {ls : Array Slot} {rest : List Value} {y0 : MethodName} {c0 : ByteArray} {n0 : Nat} {r0 : Option FieldType} {dC : Nat → ClassId} {dI : Nat → Nat → Nat} {cB cI cJ cZ cS cO : ClassId} {b : Nat} {cs : CS} {i : Nat} {v : (Option Nat)} (hx : p.tables.exec = Jvm.exec) (hb : c.code = cc) (hts : ∀ w ∈ wsOf y0 c0 n0 r0, w.before args s = true) (hown : s.vm.findClass RX3 = some m.cls) (hK : va_K (dC, dI) vwCl [(cB, .byte), (cI, .int), (cJ, .long), (cZ, .boolean), (cS, .object "StreamQueries$Source"), (cO, .object "java/lang/Object")] s) (hP : va_P (dC, dI) vwCl (cW cB cI cJ cZ cS cO b cs) H) (hv : gR cs 4 128 i = some v) (hdg : decode cc pc = .ok (.getfield 10, 3)) (kk : W p l e R s m args below meth c H locs cells slots Q (F0 m (pc + 3) ls (rv b v :: rest))) : W p l e R s m args below meth c H locs cells slots Q (F0 m pc ls (.ref (b + i) :: rest)) := by
  obtain ⟨h1, h2⟩ := gR_some hv
  obtain ⟨k, -, hg⟩ := cO_at (b := b) (cB := cB) (cI := cI) (cJ := cJ) (cZ := cZ) (cS := cS) (cO := cO) (by decide) h1
  have hf : (vL b cs i (32 * 4) (tyX 4))[0]? = some (rv b v) := by
    show some (vV b cs 128 i 2) = _
    show some (rv b (kR cs 128 i)) = _
    rw [h2]
  exact va_get (D := (dC, dI)) (ci := 4) (C := RX3) (T := TX3) (N := 6) hx hb hts (fun w h => List.mem_cons_of_mem _ (uG_X3 w h)) hown hK hP k hg rfl 0 (by decide) (hts _ (List.mem_cons_of_mem _ kw_823)) (fun _ h9 => h9) hf hdg kk
theorem fp_X3_10 {p : Program} {l : Launch} {e : Env} {R : Room} {s : State} {m : MethodId} {args : Array Value} {below : List Frame} {meth : Method} {c : Code} {H : Heap} {locs : List Loc} {cells slots : Nat} {Q : State → Prop} {cc : ByteArray} {pc : Nat} {ls : Array Slot} {rest : List Value} {y0 : MethodName} {c0 : ByteArray} {n0 : Nat} {r0 : Option FieldType} {dC : Nat → ClassId} {dI : Nat → Nat → Nat} {cB cI cJ cZ cS cO : ClassId} {b : Nat} {cs : CS} {A : Nat → Prop} {H0 : Heap} {cs1 : CS} {i : Nat} {v : (Option Nat)} (hx : p.tables.exec = Jvm.exec) (hb : c.code = cc) (hts : ∀ w ∈ wsOf y0 c0 n0 r0, w.before args s = true) (hown : s.vm.findClass RX3 = some m.cls) (hK : va_K (dC, dI) vwCl [(cB, .byte), (cI, .int), (cJ, .long), (cZ, .boolean), (cS, .object "StreamQueries$Source"), (cO, .object "java/lang/Object")] s) (hP : va_P (dC, dI) vwCl (cW cB cI cJ cZ cS cO b cs) H) (hD : va_D A (cW cB cI cJ cZ cS cO b cs)) (hS : va_S A H0 H locs) (hin : meth.name = "<init>") (hv : pR cs 4 128 i v = some cs1) (hdg : decode cc pc = .ok (.putfield 10, 3)) (kk : ∀ (H1 : Heap) (locs1 : List Loc), va_P (dC, dI) vwCl (cW cB cI cJ cZ cS cO b cs1) H1 → va_D A (cW cB cI cJ cZ cS cO b cs1) → va_S A H0 H1 locs1 → W p l e R s m args below meth c H1 locs1 cells slots Q (F0 m (pc + 3) ls rest)) : W p l e R s m args below meth c H locs cells slots Q (F0 m pc ls (rv b v :: .ref (b + i) :: rest)) := by
  obtain ⟨h1, rfl⟩ := pR_some hv
  obtain ⟨k, hk, hg⟩ := cO_at (b := b) (cB := cB) (cI := cI) (cJ := cJ) (cZ := cZ) (cS := cS) (cO := cO) (by decide) h1
  have hset := cW_putF (f := 0) (y := 2) (v := rv b v) (cs1 := sR cs 128 i v) (by decide) rfl hD hk rfl rfl rfl rfl rfl rfl (by show rv b (u2 (kR cs) 128 i v 128 i) = _; rw [u2_s]) (fun z j w hn => by
    have e9 : kR (sR cs 128 i v) z j = kR cs z j := u2_n hn
    match w with
    | 0 => rfl
    | 1 => rfl
    | 2 => show rv b (kR (sR cs 128 i v) z j) = rv b (kR cs z j); rw [e9]
    | _ + 3 => rfl)
  refine va_putF (D := (dC, dI)) (ci := 4) (v := rv b v) (ty := .object "java/util/ArrayList") (C := RX3) (T := TX3) (N := 6) hx hb hts (fun w h => List.mem_cons_of_mem _ (uG_X3 w h)) tyX3 tyX3_ok nmX3 hown hK hP hD hS k hg rfl 0 (by decide) (hts _ (List.mem_cons_of_mem _ kw_823)) (fun _ h9 => h9) rfl hin rfl (by decide +kernel) (rv_nar b v _) (rv_fit b v _) (by rw [vL_len]; decide) hdg (fun H1 l1 q1 q2 q3 => ?_)
  rw [hset] at q1 q2
  exact kk H1 l1 q1 q2 q3
theorem fg_X3_20 {p : Program} {l : Launch} {e : Env} {R : Room} {s : State} {m : MethodId} {args : Array Value} {below : List Frame} {meth : Method} {c : Code} {H : Heap} {locs : List Loc} {cells slots : Nat} {Q : State → Prop} {cc : ByteArray} {pc : Nat} {ls : Array Slot} {rest : List Value} {y0 : MethodName} {c0 : ByteArray} {n0 : Nat} {r0 : Option FieldType} {dC : Nat → ClassId} {dI : Nat → Nat → Nat} {cB cI cJ cZ cS cO : ClassId} {b : Nat} {cs : CS} {i : Nat} {v : (Option Nat)} (hx : p.tables.exec = Jvm.exec) (hb : c.code = cc) (hts : ∀ w ∈ wsOf y0 c0 n0 r0, w.before args s = true) (hown : s.vm.findClass RX3 = some m.cls) (hK : va_K (dC, dI) vwCl [(cB, .byte), (cI, .int), (cJ, .long), (cZ, .boolean), (cS, .object "StreamQueries$Source"), (cO, .object "java/lang/Object")] s) (hP : va_P (dC, dI) vwCl (cW cB cI cJ cZ cS cO b cs) H) (hv : gR cs 6 194 i = some v) (hdg : decode cc pc = .ok (.getfield 20, 3)) (kk : W p l e R s m args below meth c H locs cells slots Q (F0 m (pc + 3) ls (rv b v :: rest))) : W p l e R s m args below meth c H locs cells slots Q (F0 m pc ls (.ref (b + i) :: rest)) := by
  obtain ⟨h1, h2⟩ := gR_some hv
  obtain ⟨k, -, hg⟩ := cO_at (b := b) (cB := cB) (cI := cI) (cJ := cJ) (cZ := cZ) (cS := cS) (cO := cO) (by decide) h1
  have hf : (vL b cs i (32 * 6) (tyX 6))[2]? = some (rv b v) := by
    show some (vV b cs 194 i 2) = _
    show some (rv b (kR cs 194 i)) = _
    rw [h2]
  exact va_get (D := (dC, dI)) (ci := 6) (C := RX5) (T := TX5) (N := 15) hx hb hts (fun w h => List.mem_cons_of_mem _ (uG_X5 w h)) hown hK hP k hg rfl 2 (by decide) (hts _ (List.mem_cons_of_mem _ kw_661)) (fun _ h9 => h9) hf hdg kk
theorem fg_X3_26 {p : Program} {l : Launch} {e : Env} {R : Room} {s : State} {m : MethodId} {args : Array Value} {below : List Frame} {meth : Method} {c : Code} {H : Heap} {locs : List Loc} {cells slots : Nat} {Q : State → Prop} {cc : ByteArray} {pc : Nat} {ls : Array Slot} {rest : List Value} {y0 : MethodName} {c0 : ByteArray} {n0 : Nat} {r0 : Option FieldType} {dC : Nat → ClassId} {dI : Nat → Nat → Nat} {cB cI cJ cZ cS cO : ClassId} {b : Nat} {cs : CS} {i : Nat} {v : (Option Nat)} (hx : p.tables.exec = Jvm.exec) (hb : c.code = cc) (hts : ∀ w ∈ wsOf y0 c0 n0 r0, w.before args s = true) (hown : s.vm.findClass RX3 = some m.cls) (hK : va_K (dC, dI) vwCl [(cB, .byte), (cI, .int), (cJ, .long), (cZ, .boolean), (cS, .object "StreamQueries$Source"), (cO, .object "java/lang/Object")] s) (hP : va_P (dC, dI) vwCl (cW cB cI cJ cZ cS cO b cs) H) (hv : gR cs 4 129 i = some v) (hdg : decode cc pc = .ok (.getfield 26, 3)) (kk : W p l e R s m args below meth c H locs cells slots Q (F0 m (pc + 3) ls (rv b v :: rest))) : W p l e R s m args below meth c H locs cells slots Q (F0 m pc ls (.ref (b + i) :: rest)) := by
  obtain ⟨h1, h2⟩ := gR_some hv
  obtain ⟨k, -, hg⟩ := cO_at (b := b) (cB := cB) (cI := cI) (cJ := cJ) (cZ := cZ) (cS := cS) (cO := cO) (by decide) h1
  have hf : (vL b cs i (32 * 4) (tyX 4))[1]? = some (rv b v) := by
    show some (vV b cs 129 i 2) = _
    show some (rv b (kR cs 129 i)) = _
    rw [h2]
  exact va_get (D := (dC, dI)) (ci := 4) (C := RX3) (T := TX3) (N := 6) hx hb hts (fun w h => List.mem_cons_of_mem _ (uG_X3 w h)) hown hK hP k hg rfl 1 (by decide) (hts _ (List.mem_cons_of_mem _ kw_827)) (fun _ h9 => h9) hf hdg kk
theorem fp_X3_26 {p : Program} {l : Launch} {e : Env} {R : Room} {s : State} {m : MethodId} {args : Array Value} {below : List Frame} {meth : Method} {c : Code} {H : Heap} {locs : List Loc} {cells slots : Nat} {Q : State → Prop} {cc : ByteArray} {pc : Nat} {ls : Array Slot} {rest : List Value} {y0 : MethodName} {c0 : ByteArray} {n0 : Nat} {r0 : Option FieldType} {dC : Nat → ClassId} {dI : Nat → Nat → Nat} {cB cI cJ cZ cS cO : ClassId} {b : Nat} {cs : CS} {A : Nat → Prop} {H0 : Heap} {cs1 : CS} {i : Nat} {v : (Option Nat)} (hx : p.tables.exec = Jvm.exec) (hb : c.code = cc) (hts : ∀ w ∈ wsOf y0 c0 n0 r0, w.before args s = true) (hown : s.vm.findClass RX3 = some m.cls) (hK : va_K (dC, dI) vwCl [(cB, .byte), (cI, .int), (cJ, .long), (cZ, .boolean), (cS, .object "StreamQueries$Source"), (cO, .object "java/lang/Object")] s) (hP : va_P (dC, dI) vwCl (cW cB cI cJ cZ cS cO b cs) H) (hD : va_D A (cW cB cI cJ cZ cS cO b cs)) (hS : va_S A H0 H locs) (hin : meth.name = "<init>") (hv : pR cs 4 129 i v = some cs1) (hdg : decode cc pc = .ok (.putfield 26, 3)) (kk : ∀ (H1 : Heap) (locs1 : List Loc), va_P (dC, dI) vwCl (cW cB cI cJ cZ cS cO b cs1) H1 → va_D A (cW cB cI cJ cZ cS cO b cs1) → va_S A H0 H1 locs1 → W p l e R s m args below meth c H1 locs1 cells slots Q (F0 m (pc + 3) ls rest)) : W p l e R s m args below meth c H locs cells slots Q (F0 m pc ls (rv b v :: .ref (b + i) :: rest)) := by
  obtain ⟨h1, rfl⟩ := pR_some hv
  obtain ⟨k, hk, hg⟩ := cO_at (b := b) (cB := cB) (cI := cI) (cJ := cJ) (cZ := cZ) (cS := cS) (cO := cO) (by decide) h1
  have hset := cW_putF (f := 1) (y := 2) (v := rv b v) (cs1 := sR cs 129 i v) (by decide) rfl hD hk rfl rfl rfl rfl rfl rfl (by show rv b (u2 (kR cs) 129 i v 129 i) = _; rw [u2_s]) (fun z j w hn => by
    have e9 : kR (sR cs 129 i v) z j = kR cs z j := u2_n hn
    match w with
    | 0 => rfl
    | 1 => rfl
    | 2 => show rv b (kR (sR cs 129 i v) z j) = rv b (kR cs z j); rw [e9]
    | _ + 3 => rfl)
  refine va_putF (D := (dC, dI)) (ci := 4) (v := rv b v) (ty := .object "StreamQueries$Columns") (C := RX3) (T := TX3) (N := 6) hx hb hts (fun w h => List.mem_cons_of_mem _ (uG_X3 w h)) tyX3 tyX3_ok nmX3 hown hK hP hD hS k hg rfl 1 (by decide) (hts _ (List.mem_cons_of_mem _ kw_827)) (fun _ h9 => h9) rfl hin rfl (by decide +kernel) (rv_nar b v _) (rv_fit b v _) (by rw [vL_len]; decide) hdg (fun H1 l1 q1 q2 q3 => ?_)
  rw [hset] at q1 q2
  exact kk H1 l1 q1 q2 q3
theorem fg_X4_9 {p : Program} {l : Launch} {e : Env} {R : Room} {s : State} {m : MethodId} {args : Array Value} {below : List Frame} {meth : Method} {c : Code} {H : Heap} {locs : List Loc} {cells slots : Nat} {Q : State → Prop} {cc : ByteArray} {pc : Nat} {ls : Array Slot} {rest : List Value} {y0 : MethodName} {c0 : ByteArray} {n0 : Nat} {r0 : Option FieldType} {dC : Nat → ClassId} {dI : Nat → Nat → Nat} {cB cI cJ cZ cS cO : ClassId} {b : Nat} {cs : CS} {i : Nat} {v : (Option Nat)} (hx : p.tables.exec = Jvm.exec) (hb : c.code = cc) (hts : ∀ w ∈ wsOf y0 c0 n0 r0, w.before args s = true) (hown : s.vm.findClass RX4 = some m.cls) (hK : va_K (dC, dI) vwCl [(cB, .byte), (cI, .int), (cJ, .long), (cZ, .boolean), (cS, .object "StreamQueries$Source"), (cO, .object "java/lang/Object")] s) (hP : va_P (dC, dI) vwCl (cW cB cI cJ cZ cS cO b cs) H) (hv : gR cs 5 160 i = some v) (hdg : decode cc pc = .ok (.getfield 9, 3)) (kk : W p l e R s m args below meth c H locs cells slots Q (F0 m (pc + 3) ls (rv b v :: rest))) : W p l e R s m args below meth c H locs cells slots Q (F0 m pc ls (.ref (b + i) :: rest)) := by
  obtain ⟨h1, h2⟩ := gR_some hv
  obtain ⟨k, -, hg⟩ := cO_at (b := b) (cB := cB) (cI := cI) (cJ := cJ) (cZ := cZ) (cS := cS) (cO := cO) (by decide) h1
  have hf : (vL b cs i (32 * 5) (tyX 5))[0]? = some (rv b v) := by
    show some (vV b cs 160 i 2) = _
    show some (rv b (kR cs 160 i)) = _
    rw [h2]
  exact va_get (D := (dC, dI)) (ci := 5) (C := RX4) (T := TX4) (N := 3) hx hb hts (fun w h => List.mem_cons_of_mem _ (uG_X4 w h)) hown hK hP k hg rfl 0 (by decide) (hts _ (List.mem_cons_of_mem _ kw_1315)) (fun _ h9 => h9) hf hdg kk
theorem fp_X4_9 {p : Program} {l : Launch} {e : Env} {R : Room} {s : State} {m : MethodId} {args : Array Value} {below : List Frame} {meth : Method} {c : Code} {H : Heap} {locs : List Loc} {cells slots : Nat} {Q : State → Prop} {cc : ByteArray} {pc : Nat} {ls : Array Slot} {rest : List Value} {y0 : MethodName} {c0 : ByteArray} {n0 : Nat} {r0 : Option FieldType} {dC : Nat → ClassId} {dI : Nat → Nat → Nat} {cB cI cJ cZ cS cO : ClassId} {b : Nat} {cs : CS} {A : Nat → Prop} {H0 : Heap} {cs1 : CS} {i : Nat} {v : (Option Nat)} (hx : p.tables.exec = Jvm.exec) (hb : c.code = cc) (hts : ∀ w ∈ wsOf y0 c0 n0 r0, w.before args s = true) (hown : s.vm.findClass RX4 = some m.cls) (hK : va_K (dC, dI) vwCl [(cB, .byte), (cI, .int), (cJ, .long), (cZ, .boolean), (cS, .object "StreamQueries$Source"), (cO, .object "java/lang/Object")] s) (hP : va_P (dC, dI) vwCl (cW cB cI cJ cZ cS cO b cs) H) (hD : va_D A (cW cB cI cJ cZ cS cO b cs)) (hS : va_S A H0 H locs) (hin : meth.name = "<init>") (hv : pR cs 5 160 i v = some cs1) (hdg : decode cc pc = .ok (.putfield 9, 3)) (kk : ∀ (H1 : Heap) (locs1 : List Loc), va_P (dC, dI) vwCl (cW cB cI cJ cZ cS cO b cs1) H1 → va_D A (cW cB cI cJ cZ cS cO b cs1) → va_S A H0 H1 locs1 → W p l e R s m args below meth c H1 locs1 cells slots Q (F0 m (pc + 3) ls rest)) : W p l e R s m args below meth c H locs cells slots Q (F0 m pc ls (rv b v :: .ref (b + i) :: rest)) := by
  obtain ⟨h1, rfl⟩ := pR_some hv
  obtain ⟨k, hk, hg⟩ := cO_at (b := b) (cB := cB) (cI := cI) (cJ := cJ) (cZ := cZ) (cS := cS) (cO := cO) (by decide) h1
  have hset := cW_putF (f := 0) (y := 2) (v := rv b v) (cs1 := sR cs 160 i v) (by decide) rfl hD hk rfl rfl rfl rfl rfl rfl (by show rv b (u2 (kR cs) 160 i v 160 i) = _; rw [u2_s]) (fun z j w hn => by
    have e9 : kR (sR cs 160 i v) z j = kR cs z j := u2_n hn
    match w with
    | 0 => rfl
    | 1 => rfl
    | 2 => show rv b (kR (sR cs 160 i v) z j) = rv b (kR cs z j); rw [e9]
    | _ + 3 => rfl)
  refine va_putF (D := (dC, dI)) (ci := 5) (v := rv b v) (ty := .object "StreamQueries$Streams") (C := RX4) (T := TX4) (N := 3) hx hb hts (fun w h => List.mem_cons_of_mem _ (uG_X4 w h)) tyX4 tyX4_ok nmX4 hown hK hP hD hS k hg rfl 0 (by decide) (hts _ (List.mem_cons_of_mem _ kw_1315)) (fun _ h9 => h9) rfl hin rfl (by decide +kernel) (rv_nar b v _) (rv_fit b v _) (by rw [vL_len]; decide) hdg (fun H1 l1 q1 q2 q3 => ?_)
  rw [hset] at q1 q2
  exact kk H1 l1 q1 q2 q3
theorem fg_X4_15 {p : Program} {l : Launch} {e : Env} {R : Room} {s : State} {m : MethodId} {args : Array Value} {below : List Frame} {meth : Method} {c : Code} {H : Heap} {locs : List Loc} {cells slots : Nat} {Q : State → Prop} {cc : ByteArray} {pc : Nat} {ls : Array Slot} {rest : List Value} {y0 : MethodName} {c0 : ByteArray} {n0 : Nat} {r0 : Option FieldType} {dC : Nat → ClassId} {dI : Nat → Nat → Nat} {cB cI cJ cZ cS cO : ClassId} {b : Nat} {cs : CS} {i : Nat} {v : (Option Nat)} (hx : p.tables.exec = Jvm.exec) (hb : c.code = cc) (hts : ∀ w ∈ wsOf y0 c0 n0 r0, w.before args s = true) (hown : s.vm.findClass RX4 = some m.cls) (hK : va_K (dC, dI) vwCl [(cB, .byte), (cI, .int), (cJ, .long), (cZ, .boolean), (cS, .object "StreamQueries$Source"), (cO, .object "java/lang/Object")] s) (hP : va_P (dC, dI) vwCl (cW cB cI cJ cZ cS cO b cs) H) (hv : gR cs 5 161 i = some v) (hdg : decode cc pc = .ok (.getfield 15, 3)) (kk : W p l e R s m args below meth c H locs cells slots Q (F0 m (pc + 3) ls (rv b v :: rest))) : W p l e R s m args below meth c H locs cells slots Q (F0 m pc ls (.ref (b + i) :: rest)) := by
  obtain ⟨h1, h2⟩ := gR_some hv
  obtain ⟨k, -, hg⟩ := cO_at (b := b) (cB := cB) (cI := cI) (cJ := cJ) (cZ := cZ) (cS := cS) (cO := cO) (by decide) h1
  have hf : (vL b cs i (32 * 5) (tyX 5))[1]? = some (rv b v) := by
    show some (vV b cs 161 i 2) = _
    show some (rv b (kR cs 161 i)) = _
    rw [h2]
  exact va_get (D := (dC, dI)) (ci := 5) (C := RX4) (T := TX4) (N := 3) hx hb hts (fun w h => List.mem_cons_of_mem _ (uG_X4 w h)) hown hK hP k hg rfl 1 (by decide) (hts _ (List.mem_cons_of_mem _ kw_1316)) (fun _ h9 => h9) hf hdg kk
theorem fp_X4_15 {p : Program} {l : Launch} {e : Env} {R : Room} {s : State} {m : MethodId} {args : Array Value} {below : List Frame} {meth : Method} {c : Code} {H : Heap} {locs : List Loc} {cells slots : Nat} {Q : State → Prop} {cc : ByteArray} {pc : Nat} {ls : Array Slot} {rest : List Value} {y0 : MethodName} {c0 : ByteArray} {n0 : Nat} {r0 : Option FieldType} {dC : Nat → ClassId} {dI : Nat → Nat → Nat} {cB cI cJ cZ cS cO : ClassId} {b : Nat} {cs : CS} {A : Nat → Prop} {H0 : Heap} {cs1 : CS} {i : Nat} {v : (Option Nat)} (hx : p.tables.exec = Jvm.exec) (hb : c.code = cc) (hts : ∀ w ∈ wsOf y0 c0 n0 r0, w.before args s = true) (hown : s.vm.findClass RX4 = some m.cls) (hK : va_K (dC, dI) vwCl [(cB, .byte), (cI, .int), (cJ, .long), (cZ, .boolean), (cS, .object "StreamQueries$Source"), (cO, .object "java/lang/Object")] s) (hP : va_P (dC, dI) vwCl (cW cB cI cJ cZ cS cO b cs) H) (hD : va_D A (cW cB cI cJ cZ cS cO b cs)) (hS : va_S A H0 H locs) (hin : meth.name = "<init>") (hv : pR cs 5 161 i v = some cs1) (hdg : decode cc pc = .ok (.putfield 15, 3)) (kk : ∀ (H1 : Heap) (locs1 : List Loc), va_P (dC, dI) vwCl (cW cB cI cJ cZ cS cO b cs1) H1 → va_D A (cW cB cI cJ cZ cS cO b cs1) → va_S A H0 H1 locs1 → W p l e R s m args below meth c H1 locs1 cells slots Q (F0 m (pc + 3) ls rest)) : W p l e R s m args below meth c H locs cells slots Q (F0 m pc ls (rv b v :: .ref (b + i) :: rest)) := by
  obtain ⟨h1, rfl⟩ := pR_some hv
  obtain ⟨k, hk, hg⟩ := cO_at (b := b) (cB := cB) (cI := cI) (cJ := cJ) (cZ := cZ) (cS := cS) (cO := cO) (by decide) h1
  have hset := cW_putF (f := 1) (y := 2) (v := rv b v) (cs1 := sR cs 161 i v) (by decide) rfl hD hk rfl rfl rfl rfl rfl rfl (by show rv b (u2 (kR cs) 161 i v 161 i) = _; rw [u2_s]) (fun z j w hn => by
    have e9 : kR (sR cs 161 i v) z j = kR cs z j := u2_n hn
    match w with
    | 0 => rfl
    | 1 => rfl
    | 2 => show rv b (kR (sR cs 161 i v) z j) = rv b (kR cs z j); rw [e9]
    | _ + 3 => rfl)
  refine va_putF (D := (dC, dI)) (ci := 5) (v := rv b v) (ty := .object "StreamQueries$Code") (C := RX4) (T := TX4) (N := 3) hx hb hts (fun w h => List.mem_cons_of_mem _ (uG_X4 w h)) tyX4 tyX4_ok nmX4 hown hK hP hD hS k hg rfl 1 (by decide) (hts _ (List.mem_cons_of_mem _ kw_1316)) (fun _ h9 => h9) rfl hin rfl (by decide +kernel) (rv_nar b v _) (rv_fit b v _) (by rw [vL_len]; decide) hdg (fun H1 l1 q1 q2 q3 => ?_)
  rw [hset] at q1 q2
  exact kk H1 l1 q1 q2 q3
theorem fg_X4_19 {p : Program} {l : Launch} {e : Env} {R : Room} {s : State} {m : MethodId} {args : Array Value} {below : List Frame} {meth : Method} {c : Code} {H : Heap} {locs : List Loc} {cells slots : Nat} {Q : State → Prop} {cc : ByteArray} {pc : Nat} {ls : Array Slot} {rest : List Value} {y0 : MethodName} {c0 : ByteArray} {n0 : Nat} {r0 : Option FieldType} {dC : Nat → ClassId} {dI : Nat → Nat → Nat} {cB cI cJ cZ cS cO : ClassId} {b : Nat} {cs : CS} {i : Nat} {v : (Option Nat)} (hx : p.tables.exec = Jvm.exec) (hb : c.code = cc) (hts : ∀ w ∈ wsOf y0 c0 n0 r0, w.before args s = true) (hown : s.vm.findClass RX4 = some m.cls) (hK : va_K (dC, dI) vwCl [(cB, .byte), (cI, .int), (cJ, .long), (cZ, .boolean), (cS, .object "StreamQueries$Source"), (cO, .object "java/lang/Object")] s) (hP : va_P (dC, dI) vwCl (cW cB cI cJ cZ cS cO b cs) H) (hv : gR cs 5 162 i = some v) (hdg : decode cc pc = .ok (.getfield 19, 3)) (kk : W p l e R s m args below meth c H locs cells slots Q (F0 m (pc + 3) ls (rv b v :: rest))) : W p l e R s m args below meth c H locs cells slots Q (F0 m pc ls (.ref (b + i) :: rest)) := by
  obtain ⟨h1, h2⟩ := gR_some hv
  obtain ⟨k, -, hg⟩ := cO_at (b := b) (cB := cB) (cI := cI) (cJ := cJ) (cZ := cZ) (cS := cS) (cO := cO) (by decide) h1
  have hf : (vL b cs i (32 * 5) (tyX 5))[2]? = some (rv b v) := by
    show some (vV b cs 162 i 2) = _
    show some (rv b (kR cs 162 i)) = _
    rw [h2]
  exact va_get (D := (dC, dI)) (ci := 5) (C := RX4) (T := TX4) (N := 3) hx hb hts (fun w h => List.mem_cons_of_mem _ (uG_X4 w h)) hown hK hP k hg rfl 2 (by decide) (hts _ (List.mem_cons_of_mem _ kw_1317)) (fun _ h9 => h9) hf hdg kk
theorem fp_X4_19 {p : Program} {l : Launch} {e : Env} {R : Room} {s : State} {m : MethodId} {args : Array Value} {below : List Frame} {meth : Method} {c : Code} {H : Heap} {locs : List Loc} {cells slots : Nat} {Q : State → Prop} {cc : ByteArray} {pc : Nat} {ls : Array Slot} {rest : List Value} {y0 : MethodName} {c0 : ByteArray} {n0 : Nat} {r0 : Option FieldType} {dC : Nat → ClassId} {dI : Nat → Nat → Nat} {cB cI cJ cZ cS cO : ClassId} {b : Nat} {cs : CS} {A : Nat → Prop} {H0 : Heap} {cs1 : CS} {i : Nat} {v : (Option Nat)} (hx : p.tables.exec = Jvm.exec) (hb : c.code = cc) (hts : ∀ w ∈ wsOf y0 c0 n0 r0, w.before args s = true) (hown : s.vm.findClass RX4 = some m.cls) (hK : va_K (dC, dI) vwCl [(cB, .byte), (cI, .int), (cJ, .long), (cZ, .boolean), (cS, .object "StreamQueries$Source"), (cO, .object "java/lang/Object")] s) (hP : va_P (dC, dI) vwCl (cW cB cI cJ cZ cS cO b cs) H) (hD : va_D A (cW cB cI cJ cZ cS cO b cs)) (hS : va_S A H0 H locs) (hin : meth.name = "<init>") (hv : pR cs 5 162 i v = some cs1) (hdg : decode cc pc = .ok (.putfield 19, 3)) (kk : ∀ (H1 : Heap) (locs1 : List Loc), va_P (dC, dI) vwCl (cW cB cI cJ cZ cS cO b cs1) H1 → va_D A (cW cB cI cJ cZ cS cO b cs1) → va_S A H0 H1 locs1 → W p l e R s m args below meth c H1 locs1 cells slots Q (F0 m (pc + 3) ls rest)) : W p l e R s m args below meth c H locs cells slots Q (F0 m pc ls (rv b v :: .ref (b + i) :: rest)) := by
  obtain ⟨h1, rfl⟩ := pR_some hv
  obtain ⟨k, hk, hg⟩ := cO_at (b := b) (cB := cB) (cI := cI) (cJ := cJ) (cZ := cZ) (cS := cS) (cO := cO) (by decide) h1
  have hset := cW_putF (f := 2) (y := 2) (v := rv b v) (cs1 := sR cs 162 i v) (by decide) rfl hD hk rfl rfl rfl rfl rfl rfl (by show rv b (u2 (kR cs) 162 i v 162 i) = _; rw [u2_s]) (fun z j w hn => by
    have e9 : kR (sR cs 162 i v) z j = kR cs z j := u2_n hn
    match w with
    | 0 => rfl
    | 1 => rfl
    | 2 => show rv b (kR (sR cs 162 i v) z j) = rv b (kR cs z j); rw [e9]
    | _ + 3 => rfl)
  refine va_putF (D := (dC, dI)) (ci := 5) (v := rv b v) (ty := .object "StreamQueries$Strip") (C := RX4) (T := TX4) (N := 3) hx hb hts (fun w h => List.mem_cons_of_mem _ (uG_X4 w h)) tyX4 tyX4_ok nmX4 hown hK hP hD hS k hg rfl 2 (by decide) (hts _ (List.mem_cons_of_mem _ kw_1317)) (fun _ h9 => h9) rfl hin rfl (by decide +kernel) (rv_nar b v _) (rv_fit b v _) (by rw [vL_len]; decide) hdg (fun H1 l1 q1 q2 q3 => ?_)
  rw [hset] at q1 q2
  exact kk H1 l1 q1 q2 q3
theorem fg_X4_23 {p : Program} {l : Launch} {e : Env} {R : Room} {s : State} {m : MethodId} {args : Array Value} {below : List Frame} {meth : Method} {c : Code} {H : Heap} {locs : List Loc} {cells slots : Nat} {Q : State → Prop} {cc : ByteArray} {pc : Nat} {ls : Array Slot} {rest : List Value} {y0 : MethodName} {c0 : ByteArray} {n0 : Nat} {r0 : Option FieldType} {dC : Nat → ClassId} {dI : Nat → Nat → Nat} {cB cI cJ cZ cS cO : ClassId} {b : Nat} {cs : CS} {i : Nat} {v : (Option Nat)} (hx : p.tables.exec = Jvm.exec) (hb : c.code = cc) (hts : ∀ w ∈ wsOf y0 c0 n0 r0, w.before args s = true) (hown : s.vm.findClass RX4 = some m.cls) (hK : va_K (dC, dI) vwCl [(cB, .byte), (cI, .int), (cJ, .long), (cZ, .boolean), (cS, .object "StreamQueries$Source"), (cO, .object "java/lang/Object")] s) (hP : va_P (dC, dI) vwCl (cW cB cI cJ cZ cS cO b cs) H) (hv : gR cs 4 129 i = some v) (hdg : decode cc pc = .ok (.getfield 23, 3)) (kk : W p l e R s m args below meth c H locs cells slots Q (F0 m (pc + 3) ls (rv b v :: rest))) : W p l e R s m args below meth c H locs cells slots Q (F0 m pc ls (.ref (b + i) :: rest)) := by
  obtain ⟨h1, h2⟩ := gR_some hv
  obtain ⟨k, -, hg⟩ := cO_at (b := b) (cB := cB) (cI := cI) (cJ := cJ) (cZ := cZ) (cS := cS) (cO := cO) (by decide) h1
  have hf : (vL b cs i (32 * 4) (tyX 4))[1]? = some (rv b v) := by
    show some (vV b cs 129 i 2) = _
    show some (rv b (kR cs 129 i)) = _
    rw [h2]
  exact va_get (D := (dC, dI)) (ci := 4) (C := RX3) (T := TX3) (N := 6) hx hb hts (fun w h => List.mem_cons_of_mem _ (uG_X3 w h)) hown hK hP k hg rfl 1 (by decide) (hts _ (List.mem_cons_of_mem _ kw_828)) (fun _ h9 => h9) hf hdg kk
theorem fg_X4_29 {p : Program} {l : Launch} {e : Env} {R : Room} {s : State} {m : MethodId} {args : Array Value} {below : List Frame} {meth : Method} {c : Code} {H : Heap} {locs : List Loc} {cells slots : Nat} {Q : State → Prop} {cc : ByteArray} {pc : Nat} {ls : Array Slot} {rest : List Value} {y0 : MethodName} {c0 : ByteArray} {n0 : Nat} {r0 : Option FieldType} {dC : Nat → ClassId} {dI : Nat → Nat → Nat} {cB cI cJ cZ cS cO : ClassId} {b : Nat} {cs : CS} {i : Nat} {v : Int32} (hx : p.tables.exec = Jvm.exec) (hb : c.code = cc) (hts : ∀ w ∈ wsOf y0 c0 n0 r0, w.before args s = true) (hown : s.vm.findClass RX4 = some m.cls) (hK : va_K (dC, dI) vwCl [(cB, .byte), (cI, .int), (cJ, .long), (cZ, .boolean), (cS, .object "StreamQueries$Source"), (cO, .object "java/lang/Object")] s) (hP : va_P (dC, dI) vwCl (cW cB cI cJ cZ cS cO b cs) H) (hv : gI cs 3 96 i = some v) (hdg : decode cc pc = .ok (.getfield 29, 3)) (kk : W p l e R s m args below meth c H locs cells slots Q (F0 m (pc + 3) ls (.int v :: rest))) : W p l e R s m args below meth c H locs cells slots Q (F0 m pc ls (.ref (b + i) :: rest)) := by
  obtain ⟨h1, h2⟩ := gI_some hv
  obtain ⟨k, -, hg⟩ := cO_at (b := b) (cB := cB) (cI := cI) (cJ := cJ) (cZ := cZ) (cS := cS) (cO := cO) (by decide) h1
  have hf : (vL b cs i (32 * 3) (tyX 3))[0]? = some (.int v) := by
    show some (vV b cs 96 i 0) = _
    show some (Value.int (kI cs 96 i)) = _
    rw [h2]
  exact va_get (D := (dC, dI)) (ci := 3) (C := RX2) (T := TX2) (N := 5) hx hb hts (fun w h => List.mem_cons_of_mem _ (uG_X2 w h)) hown hK hP k hg rfl 0 (by decide) (hts _ (List.mem_cons_of_mem _ kw_629)) (fun _ h9 => h9) hf hdg kk
theorem fp_X4_29 {p : Program} {l : Launch} {e : Env} {R : Room} {s : State} {m : MethodId} {args : Array Value} {below : List Frame} {meth : Method} {c : Code} {H : Heap} {locs : List Loc} {cells slots : Nat} {Q : State → Prop} {cc : ByteArray} {pc : Nat} {ls : Array Slot} {rest : List Value} {y0 : MethodName} {c0 : ByteArray} {n0 : Nat} {r0 : Option FieldType} {dC : Nat → ClassId} {dI : Nat → Nat → Nat} {cB cI cJ cZ cS cO : ClassId} {b : Nat} {cs : CS} {A : Nat → Prop} {H0 : Heap} {cs1 : CS} {i : Nat} {v : Int32} (hx : p.tables.exec = Jvm.exec) (hb : c.code = cc) (hts : ∀ w ∈ wsOf y0 c0 n0 r0, w.before args s = true) (hown : s.vm.findClass RX4 = some m.cls) (hK : va_K (dC, dI) vwCl [(cB, .byte), (cI, .int), (cJ, .long), (cZ, .boolean), (cS, .object "StreamQueries$Source"), (cO, .object "java/lang/Object")] s) (hP : va_P (dC, dI) vwCl (cW cB cI cJ cZ cS cO b cs) H) (hD : va_D A (cW cB cI cJ cZ cS cO b cs)) (hS : va_S A H0 H locs) (hv : pI cs 3 96 i v = some cs1) (hdg : decode cc pc = .ok (.putfield 29, 3)) (kk : ∀ (H1 : Heap) (locs1 : List Loc), va_P (dC, dI) vwCl (cW cB cI cJ cZ cS cO b cs1) H1 → va_D A (cW cB cI cJ cZ cS cO b cs1) → va_S A H0 H1 locs1 → W p l e R s m args below meth c H1 locs1 cells slots Q (F0 m (pc + 3) ls rest)) : W p l e R s m args below meth c H locs cells slots Q (F0 m pc ls (.int v :: .ref (b + i) :: rest)) := by
  obtain ⟨h1, rfl⟩ := pI_some hv
  obtain ⟨k, hk, hg⟩ := cO_at (b := b) (cB := cB) (cI := cI) (cJ := cJ) (cZ := cZ) (cS := cS) (cO := cO) (by decide) h1
  have hset := cW_putF (f := 0) (y := 0) (v := .int v) (cs1 := sI cs 96 i v) (by decide) rfl hD hk rfl rfl rfl rfl rfl rfl (by show Value.int (u2 (kI cs) 96 i v 96 i) = _; rw [u2_s]) (fun z j w hn => by
    have e9 : kI (sI cs 96 i v) z j = kI cs z j := u2_n hn
    match w with
    | 0 => show Value.int (kI (sI cs 96 i v) z j) = Value.int (kI cs z j); rw [e9]
    | 1 => rfl
    | 2 => rfl
    | _ + 3 => rfl)
  refine va_put (D := (dC, dI)) (ci := 3) (v := .int v) (ty := .int) (C := RX2) (T := TX2) (N := 5) hx hb hts (fun w h => List.mem_cons_of_mem _ (uG_X2 w h)) tyX2 tyX2_ok nmX2 hown hK hP hD hS k hg rfl 0 (by decide) (hts _ (List.mem_cons_of_mem _ kw_629)) (fun _ h9 => h9) rfl (by decide +kernel) rfl rfl (by rw [vL_len]; decide) hdg (fun H1 l1 q1 q2 q3 => ?_)
  rw [hset] at q1 q2
  exact kk H1 l1 q1 q2 q3
theorem fg_X4_35 {p : Program} {l : Launch} {e : Env} {R : Room} {s : State} {m : MethodId} {args : Array Value} {below : List Frame} {meth : Method} {c : Code} {H : Heap} {locs : List Loc} {cells slots : Nat} {Q : State → Prop} {cc : ByteArray} {pc : Nat} {ls : Array Slot} {rest : List Value} {y0 : MethodName} {c0 : ByteArray} {n0 : Nat} {r0 : Option FieldType} {dC : Nat → ClassId} {dI : Nat → Nat → Nat} {cB cI cJ cZ cS cO : ClassId} {b : Nat} {cs : CS} {i : Nat} {v : (Option Nat)} (hx : p.tables.exec = Jvm.exec) (hb : c.code = cc) (hts : ∀ w ∈ wsOf y0 c0 n0 r0, w.before args s = true) (hown : s.vm.findClass RX4 = some m.cls) (hK : va_K (dC, dI) vwCl [(cB, .byte), (cI, .int), (cJ, .long), (cZ, .boolean), (cS, .object "StreamQueries$Source"), (cO, .object "java/lang/Object")] s) (hP : va_P (dC, dI) vwCl (cW cB cI cJ cZ cS cO b cs) H) (hv : gR cs 4 128 i = some v) (hdg : decode cc pc = .ok (.getfield 35, 3)) (kk : W p l e R s m args below meth c H locs cells slots Q (F0 m (pc + 3) ls (rv b v :: rest))) : W p l e R s m args below meth c H locs cells slots Q (F0 m pc ls (.ref (b + i) :: rest)) := by
  obtain ⟨h1, h2⟩ := gR_some hv
  obtain ⟨k, -, hg⟩ := cO_at (b := b) (cB := cB) (cI := cI) (cJ := cJ) (cZ := cZ) (cS := cS) (cO := cO) (by decide) h1
  have hf : (vL b cs i (32 * 4) (tyX 4))[0]? = some (rv b v) := by
    show some (vV b cs 128 i 2) = _
    show some (rv b (kR cs 128 i)) = _
    rw [h2]
  exact va_get (D := (dC, dI)) (ci := 4) (C := RX3) (T := TX3) (N := 6) hx hb hts (fun w h => List.mem_cons_of_mem _ (uG_X3 w h)) hown hK hP k hg rfl 0 (by decide) (hts _ (List.mem_cons_of_mem _ kw_824)) (fun _ h9 => h9) hf hdg kk
theorem fg_X4_54 {p : Program} {l : Launch} {e : Env} {R : Room} {s : State} {m : MethodId} {args : Array Value} {below : List Frame} {meth : Method} {c : Code} {H : Heap} {locs : List Loc} {cells slots : Nat} {Q : State → Prop} {cc : ByteArray} {pc : Nat} {ls : Array Slot} {rest : List Value} {y0 : MethodName} {c0 : ByteArray} {n0 : Nat} {r0 : Option FieldType} {dC : Nat → ClassId} {dI : Nat → Nat → Nat} {cB cI cJ cZ cS cO : ClassId} {b : Nat} {cs : CS} {i : Nat} {v : Int32} (hx : p.tables.exec = Jvm.exec) (hb : c.code = cc) (hts : ∀ w ∈ wsOf y0 c0 n0 r0, w.before args s = true) (hown : s.vm.findClass RX4 = some m.cls) (hK : va_K (dC, dI) vwCl [(cB, .byte), (cI, .int), (cJ, .long), (cZ, .boolean), (cS, .object "StreamQueries$Source"), (cO, .object "java/lang/Object")] s) (hP : va_P (dC, dI) vwCl (cW cB cI cJ cZ cS cO b cs) H) (hv : gI cs 6 204 i = some v) (hdg : decode cc pc = .ok (.getfield 54, 3)) (kk : W p l e R s m args below meth c H locs cells slots Q (F0 m (pc + 3) ls (.int v :: rest))) : W p l e R s m args below meth c H locs cells slots Q (F0 m pc ls (.ref (b + i) :: rest)) := by
  obtain ⟨h1, h2⟩ := gI_some hv
  obtain ⟨k, -, hg⟩ := cO_at (b := b) (cB := cB) (cI := cI) (cJ := cJ) (cZ := cZ) (cS := cS) (cO := cO) (by decide) h1
  have hf : (vL b cs i (32 * 6) (tyX 6))[12]? = some (.int v) := by
    show some (vV b cs 204 i 0) = _
    show some (Value.int (kI cs 204 i)) = _
    rw [h2]
  exact va_get (D := (dC, dI)) (ci := 6) (C := RX5) (T := TX5) (N := 15) hx hb hts (fun w h => List.mem_cons_of_mem _ (uG_X5 w h)) hown hK hP k hg rfl 12 (by decide) (hts _ (List.mem_cons_of_mem _ kw_699)) (fun _ h9 => h9) hf hdg kk
theorem fp_X4_54 {p : Program} {l : Launch} {e : Env} {R : Room} {s : State} {m : MethodId} {args : Array Value} {below : List Frame} {meth : Method} {c : Code} {H : Heap} {locs : List Loc} {cells slots : Nat} {Q : State → Prop} {cc : ByteArray} {pc : Nat} {ls : Array Slot} {rest : List Value} {y0 : MethodName} {c0 : ByteArray} {n0 : Nat} {r0 : Option FieldType} {dC : Nat → ClassId} {dI : Nat → Nat → Nat} {cB cI cJ cZ cS cO : ClassId} {b : Nat} {cs : CS} {A : Nat → Prop} {H0 : Heap} {cs1 : CS} {i : Nat} {v : Int32} (hx : p.tables.exec = Jvm.exec) (hb : c.code = cc) (hts : ∀ w ∈ wsOf y0 c0 n0 r0, w.before args s = true) (hown : s.vm.findClass RX4 = some m.cls) (hK : va_K (dC, dI) vwCl [(cB, .byte), (cI, .int), (cJ, .long), (cZ, .boolean), (cS, .object "StreamQueries$Source"), (cO, .object "java/lang/Object")] s) (hP : va_P (dC, dI) vwCl (cW cB cI cJ cZ cS cO b cs) H) (hD : va_D A (cW cB cI cJ cZ cS cO b cs)) (hS : va_S A H0 H locs) (hv : pI cs 6 204 i v = some cs1) (hdg : decode cc pc = .ok (.putfield 54, 3)) (kk : ∀ (H1 : Heap) (locs1 : List Loc), va_P (dC, dI) vwCl (cW cB cI cJ cZ cS cO b cs1) H1 → va_D A (cW cB cI cJ cZ cS cO b cs1) → va_S A H0 H1 locs1 → W p l e R s m args below meth c H1 locs1 cells slots Q (F0 m (pc + 3) ls rest)) : W p l e R s m args below meth c H locs cells slots Q (F0 m pc ls (.int v :: .ref (b + i) :: rest)) := by
  obtain ⟨h1, rfl⟩ := pI_some hv
  obtain ⟨k, hk, hg⟩ := cO_at (b := b) (cB := cB) (cI := cI) (cJ := cJ) (cZ := cZ) (cS := cS) (cO := cO) (by decide) h1
  have hset := cW_putF (f := 12) (y := 0) (v := .int v) (cs1 := sI cs 204 i v) (by decide) rfl hD hk rfl rfl rfl rfl rfl rfl (by show Value.int (u2 (kI cs) 204 i v 204 i) = _; rw [u2_s]) (fun z j w hn => by
    have e9 : kI (sI cs 204 i v) z j = kI cs z j := u2_n hn
    match w with
    | 0 => show Value.int (kI (sI cs 204 i v) z j) = Value.int (kI cs z j); rw [e9]
    | 1 => rfl
    | 2 => rfl
    | _ + 3 => rfl)
  refine va_put (D := (dC, dI)) (ci := 6) (v := .int v) (ty := .int) (C := RX5) (T := TX5) (N := 15) hx hb hts (fun w h => List.mem_cons_of_mem _ (uG_X5 w h)) tyX5 tyX5_ok nmX5 hown hK hP hD hS k hg rfl 12 (by decide) (hts _ (List.mem_cons_of_mem _ kw_699)) (fun _ h9 => h9) rfl (by decide +kernel) rfl rfl (by rw [vL_len]; decide) hdg (fun H1 l1 q1 q2 q3 => ?_)
  rw [hset] at q1 q2
  exact kk H1 l1 q1 q2 q3
theorem fg_X4_61 {p : Program} {l : Launch} {e : Env} {R : Room} {s : State} {m : MethodId} {args : Array Value} {below : List Frame} {meth : Method} {c : Code} {H : Heap} {locs : List Loc} {cells slots : Nat} {Q : State → Prop} {cc : ByteArray} {pc : Nat} {ls : Array Slot} {rest : List Value} {y0 : MethodName} {c0 : ByteArray} {n0 : Nat} {r0 : Option FieldType} {dC : Nat → ClassId} {dI : Nat → Nat → Nat} {cB cI cJ cZ cS cO : ClassId} {b : Nat} {cs : CS} {i : Nat} {v : (Option Nat)} (hx : p.tables.exec = Jvm.exec) (hb : c.code = cc) (hts : ∀ w ∈ wsOf y0 c0 n0 r0, w.before args s = true) (hown : s.vm.findClass RX4 = some m.cls) (hK : va_K (dC, dI) vwCl [(cB, .byte), (cI, .int), (cJ, .long), (cZ, .boolean), (cS, .object "StreamQueries$Source"), (cO, .object "java/lang/Object")] s) (hP : va_P (dC, dI) vwCl (cW cB cI cJ cZ cS cO b cs) H) (hv : gR cs 4 130 i = some v) (hdg : decode cc pc = .ok (.getfield 61, 3)) (kk : W p l e R s m args below meth c H locs cells slots Q (F0 m (pc + 3) ls (rv b v :: rest))) : W p l e R s m args below meth c H locs cells slots Q (F0 m pc ls (.ref (b + i) :: rest)) := by
  obtain ⟨h1, h2⟩ := gR_some hv
  obtain ⟨k, -, hg⟩ := cO_at (b := b) (cB := cB) (cI := cI) (cJ := cJ) (cZ := cZ) (cS := cS) (cO := cO) (by decide) h1
  have hf : (vL b cs i (32 * 4) (tyX 4))[2]? = some (rv b v) := by
    show some (vV b cs 130 i 2) = _
    show some (rv b (kR cs 130 i)) = _
    rw [h2]
  exact va_get (D := (dC, dI)) (ci := 4) (C := RX3) (T := TX3) (N := 6) hx hb hts (fun w h => List.mem_cons_of_mem _ (uG_X3 w h)) hown hK hP k hg rfl 2 (by decide) (hts _ (List.mem_cons_of_mem _ kw_832)) (fun _ h9 => h9) hf hdg kk
theorem fp_X4_61 {p : Program} {l : Launch} {e : Env} {R : Room} {s : State} {m : MethodId} {args : Array Value} {below : List Frame} {meth : Method} {c : Code} {H : Heap} {locs : List Loc} {cells slots : Nat} {Q : State → Prop} {cc : ByteArray} {pc : Nat} {ls : Array Slot} {rest : List Value} {y0 : MethodName} {c0 : ByteArray} {n0 : Nat} {r0 : Option FieldType} {dC : Nat → ClassId} {dI : Nat → Nat → Nat} {cB cI cJ cZ cS cO : ClassId} {b : Nat} {cs : CS} {A : Nat → Prop} {H0 : Heap} {cs1 : CS} {i : Nat} {v : (Option Nat)} (hx : p.tables.exec = Jvm.exec) (hb : c.code = cc) (hts : ∀ w ∈ wsOf y0 c0 n0 r0, w.before args s = true) (hown : s.vm.findClass RX4 = some m.cls) (hK : va_K (dC, dI) vwCl [(cB, .byte), (cI, .int), (cJ, .long), (cZ, .boolean), (cS, .object "StreamQueries$Source"), (cO, .object "java/lang/Object")] s) (hP : va_P (dC, dI) vwCl (cW cB cI cJ cZ cS cO b cs) H) (hD : va_D A (cW cB cI cJ cZ cS cO b cs)) (hS : va_S A H0 H locs) (hv : pR cs 4 130 i v = some cs1) (hdg : decode cc pc = .ok (.putfield 61, 3)) (kk : ∀ (H1 : Heap) (locs1 : List Loc), va_P (dC, dI) vwCl (cW cB cI cJ cZ cS cO b cs1) H1 → va_D A (cW cB cI cJ cZ cS cO b cs1) → va_S A H0 H1 locs1 → W p l e R s m args below meth c H1 locs1 cells slots Q (F0 m (pc + 3) ls rest)) : W p l e R s m args below meth c H locs cells slots Q (F0 m pc ls (rv b v :: .ref (b + i) :: rest)) := by
  obtain ⟨h1, rfl⟩ := pR_some hv
  obtain ⟨k, hk, hg⟩ := cO_at (b := b) (cB := cB) (cI := cI) (cJ := cJ) (cZ := cZ) (cS := cS) (cO := cO) (by decide) h1
  have hset := cW_putF (f := 2) (y := 2) (v := rv b v) (cs1 := sR cs 130 i v) (by decide) rfl hD hk rfl rfl rfl rfl rfl rfl (by show rv b (u2 (kR cs) 130 i v 130 i) = _; rw [u2_s]) (fun z j w hn => by
    have e9 : kR (sR cs 130 i v) z j = kR cs z j := u2_n hn
    match w with
    | 0 => rfl
    | 1 => rfl
    | 2 => show rv b (kR (sR cs 130 i v) z j) = rv b (kR cs z j); rw [e9]
    | _ + 3 => rfl)
  refine va_put (D := (dC, dI)) (ci := 4) (v := rv b v) (ty := .object "StreamQueries$Columns") (C := RX3) (T := TX3) (N := 6) hx hb hts (fun w h => List.mem_cons_of_mem _ (uG_X3 w h)) tyX3 tyX3_ok nmX3 hown hK hP hD hS k hg rfl 2 (by decide) (hts _ (List.mem_cons_of_mem _ kw_832)) (fun _ h9 => h9) rfl (by decide +kernel) (rv_nar b v _) (rv_fit b v _) (by rw [vL_len]; decide) hdg (fun H1 l1 q1 q2 q3 => ?_)
  rw [hset] at q1 q2
  exact kk H1 l1 q1 q2 q3
theorem fg_X4_64 {p : Program} {l : Launch} {e : Env} {R : Room} {s : State} {m : MethodId} {args : Array Value} {below : List Frame} {meth : Method} {c : Code} {H : Heap} {locs : List Loc} {cells slots : Nat} {Q : State → Prop} {cc : ByteArray} {pc : Nat} {ls : Array Slot} {rest : List Value} {y0 : MethodName} {c0 : ByteArray} {n0 : Nat} {r0 : Option FieldType} {dC : Nat → ClassId} {dI : Nat → Nat → Nat} {cB cI cJ cZ cS cO : ClassId} {b : Nat} {cs : CS} {i : Nat} {v : Int32} (hx : p.tables.exec = Jvm.exec) (hb : c.code = cc) (hts : ∀ w ∈ wsOf y0 c0 n0 r0, w.before args s = true) (hown : s.vm.findClass RX4 = some m.cls) (hK : va_K (dC, dI) vwCl [(cB, .byte), (cI, .int), (cJ, .long), (cZ, .boolean), (cS, .object "StreamQueries$Source"), (cO, .object "java/lang/Object")] s) (hP : va_P (dC, dI) vwCl (cW cB cI cJ cZ cS cO b cs) H) (hv : gI cs 4 132 i = some v) (hdg : decode cc pc = .ok (.getfield 64, 3)) (kk : W p l e R s m args below meth c H locs cells slots Q (F0 m (pc + 3) ls (.int v :: rest))) : W p l e R s m args below meth c H locs cells slots Q (F0 m pc ls (.ref (b + i) :: rest)) := by
  obtain ⟨h1, h2⟩ := gI_some hv
  obtain ⟨k, -, hg⟩ := cO_at (b := b) (cB := cB) (cI := cI) (cJ := cJ) (cZ := cZ) (cS := cS) (cO := cO) (by decide) h1
  have hf : (vL b cs i (32 * 4) (tyX 4))[4]? = some (.int v) := by
    show some (vV b cs 132 i 0) = _
    show some (Value.int (kI cs 132 i)) = _
    rw [h2]
  exact va_get (D := (dC, dI)) (ci := 4) (C := RX3) (T := TX3) (N := 6) hx hb hts (fun w h => List.mem_cons_of_mem _ (uG_X3 w h)) hown hK hP k hg rfl 4 (by decide) (hts _ (List.mem_cons_of_mem _ kw_838)) (fun _ h9 => h9) hf hdg kk
theorem fp_X4_64 {p : Program} {l : Launch} {e : Env} {R : Room} {s : State} {m : MethodId} {args : Array Value} {below : List Frame} {meth : Method} {c : Code} {H : Heap} {locs : List Loc} {cells slots : Nat} {Q : State → Prop} {cc : ByteArray} {pc : Nat} {ls : Array Slot} {rest : List Value} {y0 : MethodName} {c0 : ByteArray} {n0 : Nat} {r0 : Option FieldType} {dC : Nat → ClassId} {dI : Nat → Nat → Nat} {cB cI cJ cZ cS cO : ClassId} {b : Nat} {cs : CS} {A : Nat → Prop} {H0 : Heap} {cs1 : CS} {i : Nat} {v : Int32} (hx : p.tables.exec = Jvm.exec) (hb : c.code = cc) (hts : ∀ w ∈ wsOf y0 c0 n0 r0, w.before args s = true) (hown : s.vm.findClass RX4 = some m.cls) (hK : va_K (dC, dI) vwCl [(cB, .byte), (cI, .int), (cJ, .long), (cZ, .boolean), (cS, .object "StreamQueries$Source"), (cO, .object "java/lang/Object")] s) (hP : va_P (dC, dI) vwCl (cW cB cI cJ cZ cS cO b cs) H) (hD : va_D A (cW cB cI cJ cZ cS cO b cs)) (hS : va_S A H0 H locs) (hv : pI cs 4 132 i v = some cs1) (hdg : decode cc pc = .ok (.putfield 64, 3)) (kk : ∀ (H1 : Heap) (locs1 : List Loc), va_P (dC, dI) vwCl (cW cB cI cJ cZ cS cO b cs1) H1 → va_D A (cW cB cI cJ cZ cS cO b cs1) → va_S A H0 H1 locs1 → W p l e R s m args below meth c H1 locs1 cells slots Q (F0 m (pc + 3) ls rest)) : W p l e R s m args below meth c H locs cells slots Q (F0 m pc ls (.int v :: .ref (b + i) :: rest)) := by
  obtain ⟨h1, rfl⟩ := pI_some hv
  obtain ⟨k, hk, hg⟩ := cO_at (b := b) (cB := cB) (cI := cI) (cJ := cJ) (cZ := cZ) (cS := cS) (cO := cO) (by decide) h1
  have hset := cW_putF (f := 4) (y := 0) (v := .int v) (cs1 := sI cs 132 i v) (by decide) rfl hD hk rfl rfl rfl rfl rfl rfl (by show Value.int (u2 (kI cs) 132 i v 132 i) = _; rw [u2_s]) (fun z j w hn => by
    have e9 : kI (sI cs 132 i v) z j = kI cs z j := u2_n hn
    match w with
    | 0 => show Value.int (kI (sI cs 132 i v) z j) = Value.int (kI cs z j); rw [e9]
    | 1 => rfl
    | 2 => rfl
    | _ + 3 => rfl)
  refine va_put (D := (dC, dI)) (ci := 4) (v := .int v) (ty := .int) (C := RX3) (T := TX3) (N := 6) hx hb hts (fun w h => List.mem_cons_of_mem _ (uG_X3 w h)) tyX3 tyX3_ok nmX3 hown hK hP hD hS k hg rfl 4 (by decide) (hts _ (List.mem_cons_of_mem _ kw_838)) (fun _ h9 => h9) rfl (by decide +kernel) rfl rfl (by rw [vL_len]; decide) hdg (fun H1 l1 q1 q2 q3 => ?_)
  rw [hset] at q1 q2
  exact kk H1 l1 q1 q2 q3
theorem fg_X4_110 {p : Program} {l : Launch} {e : Env} {R : Room} {s : State} {m : MethodId} {args : Array Value} {below : List Frame} {meth : Method} {c : Code} {H : Heap} {locs : List Loc} {cells slots : Nat} {Q : State → Prop} {cc : ByteArray} {pc : Nat} {ls : Array Slot} {rest : List Value} {y0 : MethodName} {c0 : ByteArray} {n0 : Nat} {r0 : Option FieldType} {dC : Nat → ClassId} {dI : Nat → Nat → Nat} {cB cI cJ cZ cS cO : ClassId} {b : Nat} {cs : CS} {i : Nat} {v : Nat} (hx : p.tables.exec = Jvm.exec) (hb : c.code = cc) (hts : ∀ w ∈ wsOf y0 c0 n0 r0, w.before args s = true) (hown : s.vm.findClass RX4 = some m.cls) (hK : va_K (dC, dI) vwCl [(cB, .byte), (cI, .int), (cJ, .long), (cZ, .boolean), (cS, .object "StreamQueries$Source"), (cO, .object "java/lang/Object")] s) (hP : va_P (dC, dI) vwCl (cW cB cI cJ cZ cS cO b cs) H) (hv : gA cs 3 97 i = some v) (hdg : decode cc pc = .ok (.getfield 110, 3)) (kk : W p l e R s m args below meth c H locs cells slots Q (F0 m (pc + 3) ls (.ref (b + v) :: rest))) : W p l e R s m args below meth c H locs cells slots Q (F0 m pc ls (.ref (b + i) :: rest)) := by
  obtain ⟨h1, h2⟩ := gA_some hv
  obtain ⟨k, -, hg⟩ := cO_at (b := b) (cB := cB) (cI := cI) (cJ := cJ) (cZ := cZ) (cS := cS) (cO := cO) (by decide) h1
  have hf : (vL b cs i (32 * 3) (tyX 3))[1]? = some (.ref (b + v)) := by
    show some (vV b cs 97 i 3) = _
    show some (rv b (kP cs 97 i)) = _
    rw [h2]; rfl
  exact va_get (D := (dC, dI)) (ci := 3) (C := RX2) (T := TX2) (N := 5) hx hb hts (fun w h => List.mem_cons_of_mem _ (uG_X2 w h)) hown hK hP k hg rfl 1 (by decide) (hts _ (List.mem_cons_of_mem _ kw_634)) (fun _ h9 => h9) hf hdg kk
theorem fg_X4_138 {p : Program} {l : Launch} {e : Env} {R : Room} {s : State} {m : MethodId} {args : Array Value} {below : List Frame} {meth : Method} {c : Code} {H : Heap} {locs : List Loc} {cells slots : Nat} {Q : State → Prop} {cc : ByteArray} {pc : Nat} {ls : Array Slot} {rest : List Value} {y0 : MethodName} {c0 : ByteArray} {n0 : Nat} {r0 : Option FieldType} {dC : Nat → ClassId} {dI : Nat → Nat → Nat} {cB cI cJ cZ cS cO : ClassId} {b : Nat} {cs : CS} {i : Nat} {v : Int32} (hx : p.tables.exec = Jvm.exec) (hb : c.code = cc) (hts : ∀ w ∈ wsOf y0 c0 n0 r0, w.before args s = true) (hown : s.vm.findClass RX4 = some m.cls) (hK : va_K (dC, dI) vwCl [(cB, .byte), (cI, .int), (cJ, .long), (cZ, .boolean), (cS, .object "StreamQueries$Source"), (cO, .object "java/lang/Object")] s) (hP : va_P (dC, dI) vwCl (cW cB cI cJ cZ cS cO b cs) H) (hv : gI cs 6 197 i = some v) (hdg : decode cc pc = .ok (.getfield 138, 3)) (kk : W p l e R s m args below meth c H locs cells slots Q (F0 m (pc + 3) ls (.int v :: rest))) : W p l e R s m args below meth c H locs cells slots Q (F0 m pc ls (.ref (b + i) :: rest)) := by
  obtain ⟨h1, h2⟩ := gI_some hv
  obtain ⟨k, -, hg⟩ := cO_at (b := b) (cB := cB) (cI := cI) (cJ := cJ) (cZ := cZ) (cS := cS) (cO := cO) (by decide) h1
  have hf : (vL b cs i (32 * 6) (tyX 6))[5]? = some (.int v) := by
    show some (vV b cs 197 i 0) = _
    show some (Value.int (kI cs 197 i)) = _
    rw [h2]
  exact va_get (D := (dC, dI)) (ci := 6) (C := RX5) (T := TX5) (N := 15) hx hb hts (fun w h => List.mem_cons_of_mem _ (uG_X5 w h)) hown hK hP k hg rfl 5 (by decide) (hts _ (List.mem_cons_of_mem _ kw_674)) (fun _ h9 => h9) hf hdg kk
theorem fp_X4_138 {p : Program} {l : Launch} {e : Env} {R : Room} {s : State} {m : MethodId} {args : Array Value} {below : List Frame} {meth : Method} {c : Code} {H : Heap} {locs : List Loc} {cells slots : Nat} {Q : State → Prop} {cc : ByteArray} {pc : Nat} {ls : Array Slot} {rest : List Value} {y0 : MethodName} {c0 : ByteArray} {n0 : Nat} {r0 : Option FieldType} {dC : Nat → ClassId} {dI : Nat → Nat → Nat} {cB cI cJ cZ cS cO : ClassId} {b : Nat} {cs : CS} {A : Nat → Prop} {H0 : Heap} {cs1 : CS} {i : Nat} {v : Int32} (hx : p.tables.exec = Jvm.exec) (hb : c.code = cc) (hts : ∀ w ∈ wsOf y0 c0 n0 r0, w.before args s = true) (hown : s.vm.findClass RX4 = some m.cls) (hK : va_K (dC, dI) vwCl [(cB, .byte), (cI, .int), (cJ, .long), (cZ, .boolean), (cS, .object "StreamQueries$Source"), (cO, .object "java/lang/Object")] s) (hP : va_P (dC, dI) vwCl (cW cB cI cJ cZ cS cO b cs) H) (hD : va_D A (cW cB cI cJ cZ cS cO b cs)) (hS : va_S A H0 H locs) (hv : pI cs 6 197 i v = some cs1) (hdg : decode cc pc = .ok (.putfield 138, 3)) (kk : ∀ (H1 : Heap) (locs1 : List Loc), va_P (dC, dI) vwCl (cW cB cI cJ cZ cS cO b cs1) H1 → va_D A (cW cB cI cJ cZ cS cO b cs1) → va_S A H0 H1 locs1 → W p l e R s m args below meth c H1 locs1 cells slots Q (F0 m (pc + 3) ls rest)) : W p l e R s m args below meth c H locs cells slots Q (F0 m pc ls (.int v :: .ref (b + i) :: rest)) := by
  obtain ⟨h1, rfl⟩ := pI_some hv
  obtain ⟨k, hk, hg⟩ := cO_at (b := b) (cB := cB) (cI := cI) (cJ := cJ) (cZ := cZ) (cS := cS) (cO := cO) (by decide) h1
  have hset := cW_putF (f := 5) (y := 0) (v := .int v) (cs1 := sI cs 197 i v) (by decide) rfl hD hk rfl rfl rfl rfl rfl rfl (by show Value.int (u2 (kI cs) 197 i v 197 i) = _; rw [u2_s]) (fun z j w hn => by
    have e9 : kI (sI cs 197 i v) z j = kI cs z j := u2_n hn
    match w with
    | 0 => show Value.int (kI (sI cs 197 i v) z j) = Value.int (kI cs z j); rw [e9]
    | 1 => rfl
    | 2 => rfl
    | _ + 3 => rfl)
  refine va_put (D := (dC, dI)) (ci := 6) (v := .int v) (ty := .int) (C := RX5) (T := TX5) (N := 15) hx hb hts (fun w h => List.mem_cons_of_mem _ (uG_X5 w h)) tyX5 tyX5_ok nmX5 hown hK hP hD hS k hg rfl 5 (by decide) (hts _ (List.mem_cons_of_mem _ kw_674)) (fun _ h9 => h9) rfl (by decide +kernel) rfl rfl (by rw [vL_len]; decide) hdg (fun H1 l1 q1 q2 q3 => ?_)
  rw [hset] at q1 q2
  exact kk H1 l1 q1 q2 q3
theorem fg_X4_153 {p : Program} {l : Launch} {e : Env} {R : Room} {s : State} {m : MethodId} {args : Array Value} {below : List Frame} {meth : Method} {c : Code} {H : Heap} {locs : List Loc} {cells slots : Nat} {Q : State → Prop} {cc : ByteArray} {pc : Nat} {ls : Array Slot} {rest : List Value} {y0 : MethodName} {c0 : ByteArray} {n0 : Nat} {r0 : Option FieldType} {dC : Nat → ClassId} {dI : Nat → Nat → Nat} {cB cI cJ cZ cS cO : ClassId} {b : Nat} {cs : CS} {i : Nat} {v : (Option Nat)} (hx : p.tables.exec = Jvm.exec) (hb : c.code = cc) (hts : ∀ w ∈ wsOf y0 c0 n0 r0, w.before args s = true) (hown : s.vm.findClass RX4 = some m.cls) (hK : va_K (dC, dI) vwCl [(cB, .byte), (cI, .int), (cJ, .long), (cZ, .boolean), (cS, .object "StreamQueries$Source"), (cO, .object "java/lang/Object")] s) (hP : va_P (dC, dI) vwCl (cW cB cI cJ cZ cS cO b cs) H) (hv : gR cs 6 200 i = some v) (hdg : decode cc pc = .ok (.getfield 153, 3)) (kk : W p l e R s m args below meth c H locs cells slots Q (F0 m (pc + 3) ls (rv b v :: rest))) : W p l e R s m args below meth c H locs cells slots Q (F0 m pc ls (.ref (b + i) :: rest)) := by
  obtain ⟨h1, h2⟩ := gR_some hv
  obtain ⟨k, -, hg⟩ := cO_at (b := b) (cB := cB) (cI := cI) (cJ := cJ) (cZ := cZ) (cS := cS) (cO := cO) (by decide) h1
  have hf : (vL b cs i (32 * 6) (tyX 6))[8]? = some (rv b v) := by
    show some (vV b cs 200 i 2) = _
    show some (rv b (kR cs 200 i)) = _
    rw [h2]
  exact va_get (D := (dC, dI)) (ci := 6) (C := RX5) (T := TX5) (N := 15) hx hb hts (fun w h => List.mem_cons_of_mem _ (uG_X5 w h)) hown hK hP k hg rfl 8 (by decide) (hts _ (List.mem_cons_of_mem _ kw_683)) (fun _ h9 => h9) hf hdg kk
theorem fg_X4_156 {p : Program} {l : Launch} {e : Env} {R : Room} {s : State} {m : MethodId} {args : Array Value} {below : List Frame} {meth : Method} {c : Code} {H : Heap} {locs : List Loc} {cells slots : Nat} {Q : State → Prop} {cc : ByteArray} {pc : Nat} {ls : Array Slot} {rest : List Value} {y0 : MethodName} {c0 : ByteArray} {n0 : Nat} {r0 : Option FieldType} {dC : Nat → ClassId} {dI : Nat → Nat → Nat} {cB cI cJ cZ cS cO : ClassId} {b : Nat} {cs : CS} {i : Nat} {v : Int32} (hx : p.tables.exec = Jvm.exec) (hb : c.code = cc) (hts : ∀ w ∈ wsOf y0 c0 n0 r0, w.before args s = true) (hown : s.vm.findClass RX4 = some m.cls) (hK : va_K (dC, dI) vwCl [(cB, .byte), (cI, .int), (cJ, .long), (cZ, .boolean), (cS, .object "StreamQueries$Source"), (cO, .object "java/lang/Object")] s) (hP : va_P (dC, dI) vwCl (cW cB cI cJ cZ cS cO b cs) H) (hv : gI cs 6 203 i = some v) (hdg : decode cc pc = .ok (.getfield 156, 3)) (kk : W p l e R s m args below meth c H locs cells slots Q (F0 m (pc + 3) ls (.int v :: rest))) : W p l e R s m args below meth c H locs cells slots Q (F0 m pc ls (.ref (b + i) :: rest)) := by
  obtain ⟨h1, h2⟩ := gI_some hv
  obtain ⟨k, -, hg⟩ := cO_at (b := b) (cB := cB) (cI := cI) (cJ := cJ) (cZ := cZ) (cS := cS) (cO := cO) (by decide) h1
  have hf : (vL b cs i (32 * 6) (tyX 6))[11]? = some (.int v) := by
    show some (vV b cs 203 i 0) = _
    show some (Value.int (kI cs 203 i)) = _
    rw [h2]
  exact va_get (D := (dC, dI)) (ci := 6) (C := RX5) (T := TX5) (N := 15) hx hb hts (fun w h => List.mem_cons_of_mem _ (uG_X5 w h)) hown hK hP k hg rfl 11 (by decide) (hts _ (List.mem_cons_of_mem _ kw_695)) (fun _ h9 => h9) hf hdg kk
theorem fp_X4_156 {p : Program} {l : Launch} {e : Env} {R : Room} {s : State} {m : MethodId} {args : Array Value} {below : List Frame} {meth : Method} {c : Code} {H : Heap} {locs : List Loc} {cells slots : Nat} {Q : State → Prop} {cc : ByteArray} {pc : Nat} {ls : Array Slot} {rest : List Value} {y0 : MethodName} {c0 : ByteArray} {n0 : Nat} {r0 : Option FieldType} {dC : Nat → ClassId} {dI : Nat → Nat → Nat} {cB cI cJ cZ cS cO : ClassId} {b : Nat} {cs : CS} {A : Nat → Prop} {H0 : Heap} {cs1 : CS} {i : Nat} {v : Int32} (hx : p.tables.exec = Jvm.exec) (hb : c.code = cc) (hts : ∀ w ∈ wsOf y0 c0 n0 r0, w.before args s = true) (hown : s.vm.findClass RX4 = some m.cls) (hK : va_K (dC, dI) vwCl [(cB, .byte), (cI, .int), (cJ, .long), (cZ, .boolean), (cS, .object "StreamQueries$Source"), (cO, .object "java/lang/Object")] s) (hP : va_P (dC, dI) vwCl (cW cB cI cJ cZ cS cO b cs) H) (hD : va_D A (cW cB cI cJ cZ cS cO b cs)) (hS : va_S A H0 H locs) (hv : pI cs 6 203 i v = some cs1) (hdg : decode cc pc = .ok (.putfield 156, 3)) (kk : ∀ (H1 : Heap) (locs1 : List Loc), va_P (dC, dI) vwCl (cW cB cI cJ cZ cS cO b cs1) H1 → va_D A (cW cB cI cJ cZ cS cO b cs1) → va_S A H0 H1 locs1 → W p l e R s m args below meth c H1 locs1 cells slots Q (F0 m (pc + 3) ls rest)) : W p l e R s m args below meth c H locs cells slots Q (F0 m pc ls (.int v :: .ref (b + i) :: rest)) := by
  obtain ⟨h1, rfl⟩ := pI_some hv
  obtain ⟨k, hk, hg⟩ := cO_at (b := b) (cB := cB) (cI := cI) (cJ := cJ) (cZ := cZ) (cS := cS) (cO := cO) (by decide) h1
  have hset := cW_putF (f := 11) (y := 0) (v := .int v) (cs1 := sI cs 203 i v) (by decide) rfl hD hk rfl rfl rfl rfl rfl rfl (by show Value.int (u2 (kI cs) 203 i v 203 i) = _; rw [u2_s]) (fun z j w hn => by
    have e9 : kI (sI cs 203 i v) z j = kI cs z j := u2_n hn
    match w with
    | 0 => show Value.int (kI (sI cs 203 i v) z j) = Value.int (kI cs z j); rw [e9]
    | 1 => rfl
    | 2 => rfl
    | _ + 3 => rfl)
  refine va_put (D := (dC, dI)) (ci := 6) (v := .int v) (ty := .int) (C := RX5) (T := TX5) (N := 15) hx hb hts (fun w h => List.mem_cons_of_mem _ (uG_X5 w h)) tyX5 tyX5_ok nmX5 hown hK hP hD hS k hg rfl 11 (by decide) (hts _ (List.mem_cons_of_mem _ kw_695)) (fun _ h9 => h9) rfl (by decide +kernel) rfl rfl (by rw [vL_len]; decide) hdg (fun H1 l1 q1 q2 q3 => ?_)
  rw [hset] at q1 q2
  exact kk H1 l1 q1 q2 q3
theorem fg_X4_159 {p : Program} {l : Launch} {e : Env} {R : Room} {s : State} {m : MethodId} {args : Array Value} {below : List Frame} {meth : Method} {c : Code} {H : Heap} {locs : List Loc} {cells slots : Nat} {Q : State → Prop} {cc : ByteArray} {pc : Nat} {ls : Array Slot} {rest : List Value} {y0 : MethodName} {c0 : ByteArray} {n0 : Nat} {r0 : Option FieldType} {dC : Nat → ClassId} {dI : Nat → Nat → Nat} {cB cI cJ cZ cS cO : ClassId} {b : Nat} {cs : CS} {i : Nat} {v : Int32} (hx : p.tables.exec = Jvm.exec) (hb : c.code = cc) (hts : ∀ w ∈ wsOf y0 c0 n0 r0, w.before args s = true) (hown : s.vm.findClass RX4 = some m.cls) (hK : va_K (dC, dI) vwCl [(cB, .byte), (cI, .int), (cJ, .long), (cZ, .boolean), (cS, .object "StreamQueries$Source"), (cO, .object "java/lang/Object")] s) (hP : va_P (dC, dI) vwCl (cW cB cI cJ cZ cS cO b cs) H) (hv : gI cs 6 201 i = some v) (hdg : decode cc pc = .ok (.getfield 159, 3)) (kk : W p l e R s m args below meth c H locs cells slots Q (F0 m (pc + 3) ls (.int v :: rest))) : W p l e R s m args below meth c H locs cells slots Q (F0 m pc ls (.ref (b + i) :: rest)) := by
  obtain ⟨h1, h2⟩ := gI_some hv
  obtain ⟨k, -, hg⟩ := cO_at (b := b) (cB := cB) (cI := cI) (cJ := cJ) (cZ := cZ) (cS := cS) (cO := cO) (by decide) h1
  have hf : (vL b cs i (32 * 6) (tyX 6))[9]? = some (.int v) := by
    show some (vV b cs 201 i 0) = _
    show some (Value.int (kI cs 201 i)) = _
    rw [h2]
  exact va_get (D := (dC, dI)) (ci := 6) (C := RX5) (T := TX5) (N := 15) hx hb hts (fun w h => List.mem_cons_of_mem _ (uG_X5 w h)) hown hK hP k hg rfl 9 (by decide) (hts _ (List.mem_cons_of_mem _ kw_687)) (fun _ h9 => h9) hf hdg kk
theorem fp_X4_159 {p : Program} {l : Launch} {e : Env} {R : Room} {s : State} {m : MethodId} {args : Array Value} {below : List Frame} {meth : Method} {c : Code} {H : Heap} {locs : List Loc} {cells slots : Nat} {Q : State → Prop} {cc : ByteArray} {pc : Nat} {ls : Array Slot} {rest : List Value} {y0 : MethodName} {c0 : ByteArray} {n0 : Nat} {r0 : Option FieldType} {dC : Nat → ClassId} {dI : Nat → Nat → Nat} {cB cI cJ cZ cS cO : ClassId} {b : Nat} {cs : CS} {A : Nat → Prop} {H0 : Heap} {cs1 : CS} {i : Nat} {v : Int32} (hx : p.tables.exec = Jvm.exec) (hb : c.code = cc) (hts : ∀ w ∈ wsOf y0 c0 n0 r0, w.before args s = true) (hown : s.vm.findClass RX4 = some m.cls) (hK : va_K (dC, dI) vwCl [(cB, .byte), (cI, .int), (cJ, .long), (cZ, .boolean), (cS, .object "StreamQueries$Source"), (cO, .object "java/lang/Object")] s) (hP : va_P (dC, dI) vwCl (cW cB cI cJ cZ cS cO b cs) H) (hD : va_D A (cW cB cI cJ cZ cS cO b cs)) (hS : va_S A H0 H locs) (hv : pI cs 6 201 i v = some cs1) (hdg : decode cc pc = .ok (.putfield 159, 3)) (kk : ∀ (H1 : Heap) (locs1 : List Loc), va_P (dC, dI) vwCl (cW cB cI cJ cZ cS cO b cs1) H1 → va_D A (cW cB cI cJ cZ cS cO b cs1) → va_S A H0 H1 locs1 → W p l e R s m args below meth c H1 locs1 cells slots Q (F0 m (pc + 3) ls rest)) : W p l e R s m args below meth c H locs cells slots Q (F0 m pc ls (.int v :: .ref (b + i) :: rest)) := by
  obtain ⟨h1, rfl⟩ := pI_some hv
  obtain ⟨k, hk, hg⟩ := cO_at (b := b) (cB := cB) (cI := cI) (cJ := cJ) (cZ := cZ) (cS := cS) (cO := cO) (by decide) h1
  have hset := cW_putF (f := 9) (y := 0) (v := .int v) (cs1 := sI cs 201 i v) (by decide) rfl hD hk rfl rfl rfl rfl rfl rfl (by show Value.int (u2 (kI cs) 201 i v 201 i) = _; rw [u2_s]) (fun z j w hn => by
    have e9 : kI (sI cs 201 i v) z j = kI cs z j := u2_n hn
    match w with
    | 0 => show Value.int (kI (sI cs 201 i v) z j) = Value.int (kI cs z j); rw [e9]
    | 1 => rfl
    | 2 => rfl
    | _ + 3 => rfl)
  refine va_put (D := (dC, dI)) (ci := 6) (v := .int v) (ty := .int) (C := RX5) (T := TX5) (N := 15) hx hb hts (fun w h => List.mem_cons_of_mem _ (uG_X5 w h)) tyX5 tyX5_ok nmX5 hown hK hP hD hS k hg rfl 9 (by decide) (hts _ (List.mem_cons_of_mem _ kw_687)) (fun _ h9 => h9) rfl (by decide +kernel) rfl rfl (by rw [vL_len]; decide) hdg (fun H1 l1 q1 q2 q3 => ?_)
  rw [hset] at q1 q2
  exact kk H1 l1 q1 q2 q3
theorem fg_X4_162 {p : Program} {l : Launch} {e : Env} {R : Room} {s : State} {m : MethodId} {args : Array Value} {below : List Frame} {meth : Method} {c : Code} {H : Heap} {locs : List Loc} {cells slots : Nat} {Q : State → Prop} {cc : ByteArray} {pc : Nat} {ls : Array Slot} {rest : List Value} {y0 : MethodName} {c0 : ByteArray} {n0 : Nat} {r0 : Option FieldType} {dC : Nat → ClassId} {dI : Nat → Nat → Nat} {cB cI cJ cZ cS cO : ClassId} {b : Nat} {cs : CS} {i : Nat} {v : (Option Nat)} (hx : p.tables.exec = Jvm.exec) (hb : c.code = cc) (hts : ∀ w ∈ wsOf y0 c0 n0 r0, w.before args s = true) (hown : s.vm.findClass RX4 = some m.cls) (hK : va_K (dC, dI) vwCl [(cB, .byte), (cI, .int), (cJ, .long), (cZ, .boolean), (cS, .object "StreamQueries$Source"), (cO, .object "java/lang/Object")] s) (hP : va_P (dC, dI) vwCl (cW cB cI cJ cZ cS cO b cs) H) (hv : gR cs 6 194 i = some v) (hdg : decode cc pc = .ok (.getfield 162, 3)) (kk : W p l e R s m args below meth c H locs cells slots Q (F0 m (pc + 3) ls (rv b v :: rest))) : W p l e R s m args below meth c H locs cells slots Q (F0 m pc ls (.ref (b + i) :: rest)) := by
  obtain ⟨h1, h2⟩ := gR_some hv
  obtain ⟨k, -, hg⟩ := cO_at (b := b) (cB := cB) (cI := cI) (cJ := cJ) (cZ := cZ) (cS := cS) (cO := cO) (by decide) h1
  have hf : (vL b cs i (32 * 6) (tyX 6))[2]? = some (rv b v) := by
    show some (vV b cs 194 i 2) = _
    show some (rv b (kR cs 194 i)) = _
    rw [h2]
  exact va_get (D := (dC, dI)) (ci := 6) (C := RX5) (T := TX5) (N := 15) hx hb hts (fun w h => List.mem_cons_of_mem _ (uG_X5 w h)) hown hK hP k hg rfl 2 (by decide) (hts _ (List.mem_cons_of_mem _ kw_663)) (fun _ h9 => h9) hf hdg kk
theorem fg_X4_167 {p : Program} {l : Launch} {e : Env} {R : Room} {s : State} {m : MethodId} {args : Array Value} {below : List Frame} {meth : Method} {c : Code} {H : Heap} {locs : List Loc} {cells slots : Nat} {Q : State → Prop} {cc : ByteArray} {pc : Nat} {ls : Array Slot} {rest : List Value} {y0 : MethodName} {c0 : ByteArray} {n0 : Nat} {r0 : Option FieldType} {dC : Nat → ClassId} {dI : Nat → Nat → Nat} {cB cI cJ cZ cS cO : ClassId} {b : Nat} {cs : CS} {i : Nat} {v : Int32} (hx : p.tables.exec = Jvm.exec) (hb : c.code = cc) (hts : ∀ w ∈ wsOf y0 c0 n0 r0, w.before args s = true) (hown : s.vm.findClass RX4 = some m.cls) (hK : va_K (dC, dI) vwCl [(cB, .byte), (cI, .int), (cJ, .long), (cZ, .boolean), (cS, .object "StreamQueries$Source"), (cO, .object "java/lang/Object")] s) (hP : va_P (dC, dI) vwCl (cW cB cI cJ cZ cS cO b cs) H) (hv : gI cs 6 192 i = some v) (hdg : decode cc pc = .ok (.getfield 167, 3)) (kk : W p l e R s m args below meth c H locs cells slots Q (F0 m (pc + 3) ls (.int v :: rest))) : W p l e R s m args below meth c H locs cells slots Q (F0 m pc ls (.ref (b + i) :: rest)) := by
  obtain ⟨h1, h2⟩ := gI_some hv
  obtain ⟨k, -, hg⟩ := cO_at (b := b) (cB := cB) (cI := cI) (cJ := cJ) (cZ := cZ) (cS := cS) (cO := cO) (by decide) h1
  have hf : (vL b cs i (32 * 6) (tyX 6))[0]? = some (.int v) := by
    show some (vV b cs 192 i 0) = _
    show some (Value.int (kI cs 192 i)) = _
    rw [h2]
  exact va_get (D := (dC, dI)) (ci := 6) (C := RX5) (T := TX5) (N := 15) hx hb hts (fun w h => List.mem_cons_of_mem _ (uG_X5 w h)) hown hK hP k hg rfl 0 (by decide) (hts _ (List.mem_cons_of_mem _ kw_655)) (fun _ h9 => h9) hf hdg kk
theorem fp_X4_167 {p : Program} {l : Launch} {e : Env} {R : Room} {s : State} {m : MethodId} {args : Array Value} {below : List Frame} {meth : Method} {c : Code} {H : Heap} {locs : List Loc} {cells slots : Nat} {Q : State → Prop} {cc : ByteArray} {pc : Nat} {ls : Array Slot} {rest : List Value} {y0 : MethodName} {c0 : ByteArray} {n0 : Nat} {r0 : Option FieldType} {dC : Nat → ClassId} {dI : Nat → Nat → Nat} {cB cI cJ cZ cS cO : ClassId} {b : Nat} {cs : CS} {A : Nat → Prop} {H0 : Heap} {cs1 : CS} {i : Nat} {v : Int32} (hx : p.tables.exec = Jvm.exec) (hb : c.code = cc) (hts : ∀ w ∈ wsOf y0 c0 n0 r0, w.before args s = true) (hown : s.vm.findClass RX4 = some m.cls) (hK : va_K (dC, dI) vwCl [(cB, .byte), (cI, .int), (cJ, .long), (cZ, .boolean), (cS, .object "StreamQueries$Source"), (cO, .object "java/lang/Object")] s) (hP : va_P (dC, dI) vwCl (cW cB cI cJ cZ cS cO b cs) H) (hD : va_D A (cW cB cI cJ cZ cS cO b cs)) (hS : va_S A H0 H locs) (hz : v = 0 ∨ v = 1) (hv : pI cs 6 192 i v = some cs1) (hdg : decode cc pc = .ok (.putfield 167, 3)) (kk : ∀ (H1 : Heap) (locs1 : List Loc), va_P (dC, dI) vwCl (cW cB cI cJ cZ cS cO b cs1) H1 → va_D A (cW cB cI cJ cZ cS cO b cs1) → va_S A H0 H1 locs1 → W p l e R s m args below meth c H1 locs1 cells slots Q (F0 m (pc + 3) ls rest)) : W p l e R s m args below meth c H locs cells slots Q (F0 m pc ls (.int v :: .ref (b + i) :: rest)) := by
  obtain ⟨h1, rfl⟩ := pI_some hv
  obtain ⟨k, hk, hg⟩ := cO_at (b := b) (cB := cB) (cI := cI) (cJ := cJ) (cZ := cZ) (cS := cS) (cO := cO) (by decide) h1
  have hset := cW_putF (f := 0) (y := 0) (v := .int v) (cs1 := sI cs 192 i v) (by decide) rfl hD hk rfl rfl rfl rfl rfl rfl (by show Value.int (u2 (kI cs) 192 i v 192 i) = _; rw [u2_s]) (fun z j w hn => by
    have e9 : kI (sI cs 192 i v) z j = kI cs z j := u2_n hn
    match w with
    | 0 => show Value.int (kI (sI cs 192 i v) z j) = Value.int (kI cs z j); rw [e9]
    | 1 => rfl
    | 2 => rfl
    | _ + 3 => rfl)
  refine va_put (D := (dC, dI)) (ci := 6) (v := .int v) (ty := .boolean) (C := RX5) (T := TX5) (N := 15) hx hb hts (fun w h => List.mem_cons_of_mem _ (uG_X5 w h)) tyX5 tyX5_ok nmX5 hown hK hP hD hS k hg rfl 0 (by decide) (hts _ (List.mem_cons_of_mem _ kw_655)) (fun _ h9 => h9) rfl (by decide +kernel) (nzN hz) (nzF hz) (by rw [vL_len]; decide) hdg (fun H1 l1 q1 q2 q3 => ?_)
  rw [hset] at q1 q2
  exact kk H1 l1 q1 q2 q3
theorem fg_X4_171 {p : Program} {l : Launch} {e : Env} {R : Room} {s : State} {m : MethodId} {args : Array Value} {below : List Frame} {meth : Method} {c : Code} {H : Heap} {locs : List Loc} {cells slots : Nat} {Q : State → Prop} {cc : ByteArray} {pc : Nat} {ls : Array Slot} {rest : List Value} {y0 : MethodName} {c0 : ByteArray} {n0 : Nat} {r0 : Option FieldType} {dC : Nat → ClassId} {dI : Nat → Nat → Nat} {cB cI cJ cZ cS cO : ClassId} {b : Nat} {cs : CS} {i : Nat} {v : Int32} (hx : p.tables.exec = Jvm.exec) (hb : c.code = cc) (hts : ∀ w ∈ wsOf y0 c0 n0 r0, w.before args s = true) (hown : s.vm.findClass RX4 = some m.cls) (hK : va_K (dC, dI) vwCl [(cB, .byte), (cI, .int), (cJ, .long), (cZ, .boolean), (cS, .object "StreamQueries$Source"), (cO, .object "java/lang/Object")] s) (hP : va_P (dC, dI) vwCl (cW cB cI cJ cZ cS cO b cs) H) (hv : gI cs 6 196 i = some v) (hdg : decode cc pc = .ok (.getfield 171, 3)) (kk : W p l e R s m args below meth c H locs cells slots Q (F0 m (pc + 3) ls (.int v :: rest))) : W p l e R s m args below meth c H locs cells slots Q (F0 m pc ls (.ref (b + i) :: rest)) := by
  obtain ⟨h1, h2⟩ := gI_some hv
  obtain ⟨k, -, hg⟩ := cO_at (b := b) (cB := cB) (cI := cI) (cJ := cJ) (cZ := cZ) (cS := cS) (cO := cO) (by decide) h1
  have hf : (vL b cs i (32 * 6) (tyX 6))[4]? = some (.int v) := by
    show some (vV b cs 196 i 0) = _
    show some (Value.int (kI cs 196 i)) = _
    rw [h2]
  exact va_get (D := (dC, dI)) (ci := 6) (C := RX5) (T := TX5) (N := 15) hx hb hts (fun w h => List.mem_cons_of_mem _ (uG_X5 w h)) hown hK hP k hg rfl 4 (by decide) (hts _ (List.mem_cons_of_mem _ kw_671)) (fun _ h9 => h9) hf hdg kk
theorem fp_X4_171 {p : Program} {l : Launch} {e : Env} {R : Room} {s : State} {m : MethodId} {args : Array Value} {below : List Frame} {meth : Method} {c : Code} {H : Heap} {locs : List Loc} {cells slots : Nat} {Q : State → Prop} {cc : ByteArray} {pc : Nat} {ls : Array Slot} {rest : List Value} {y0 : MethodName} {c0 : ByteArray} {n0 : Nat} {r0 : Option FieldType} {dC : Nat → ClassId} {dI : Nat → Nat → Nat} {cB cI cJ cZ cS cO : ClassId} {b : Nat} {cs : CS} {A : Nat → Prop} {H0 : Heap} {cs1 : CS} {i : Nat} {v : Int32} (hx : p.tables.exec = Jvm.exec) (hb : c.code = cc) (hts : ∀ w ∈ wsOf y0 c0 n0 r0, w.before args s = true) (hown : s.vm.findClass RX4 = some m.cls) (hK : va_K (dC, dI) vwCl [(cB, .byte), (cI, .int), (cJ, .long), (cZ, .boolean), (cS, .object "StreamQueries$Source"), (cO, .object "java/lang/Object")] s) (hP : va_P (dC, dI) vwCl (cW cB cI cJ cZ cS cO b cs) H) (hD : va_D A (cW cB cI cJ cZ cS cO b cs)) (hS : va_S A H0 H locs) (hv : pI cs 6 196 i v = some cs1) (hdg : decode cc pc = .ok (.putfield 171, 3)) (kk : ∀ (H1 : Heap) (locs1 : List Loc), va_P (dC, dI) vwCl (cW cB cI cJ cZ cS cO b cs1) H1 → va_D A (cW cB cI cJ cZ cS cO b cs1) → va_S A H0 H1 locs1 → W p l e R s m args below meth c H1 locs1 cells slots Q (F0 m (pc + 3) ls rest)) : W p l e R s m args below meth c H locs cells slots Q (F0 m pc ls (.int v :: .ref (b + i) :: rest)) := by
  obtain ⟨h1, rfl⟩ := pI_some hv
  obtain ⟨k, hk, hg⟩ := cO_at (b := b) (cB := cB) (cI := cI) (cJ := cJ) (cZ := cZ) (cS := cS) (cO := cO) (by decide) h1
  have hset := cW_putF (f := 4) (y := 0) (v := .int v) (cs1 := sI cs 196 i v) (by decide) rfl hD hk rfl rfl rfl rfl rfl rfl (by show Value.int (u2 (kI cs) 196 i v 196 i) = _; rw [u2_s]) (fun z j w hn => by
    have e9 : kI (sI cs 196 i v) z j = kI cs z j := u2_n hn
    match w with
    | 0 => show Value.int (kI (sI cs 196 i v) z j) = Value.int (kI cs z j); rw [e9]
    | 1 => rfl
    | 2 => rfl
    | _ + 3 => rfl)
  refine va_put (D := (dC, dI)) (ci := 6) (v := .int v) (ty := .int) (C := RX5) (T := TX5) (N := 15) hx hb hts (fun w h => List.mem_cons_of_mem _ (uG_X5 w h)) tyX5 tyX5_ok nmX5 hown hK hP hD hS k hg rfl 4 (by decide) (hts _ (List.mem_cons_of_mem _ kw_671)) (fun _ h9 => h9) rfl (by decide +kernel) rfl rfl (by rw [vL_len]; decide) hdg (fun H1 l1 q1 q2 q3 => ?_)
  rw [hset] at q1 q2
  exact kk H1 l1 q1 q2 q3
theorem fg_X4_174 {p : Program} {l : Launch} {e : Env} {R : Room} {s : State} {m : MethodId} {args : Array Value} {below : List Frame} {meth : Method} {c : Code} {H : Heap} {locs : List Loc} {cells slots : Nat} {Q : State → Prop} {cc : ByteArray} {pc : Nat} {ls : Array Slot} {rest : List Value} {y0 : MethodName} {c0 : ByteArray} {n0 : Nat} {r0 : Option FieldType} {dC : Nat → ClassId} {dI : Nat → Nat → Nat} {cB cI cJ cZ cS cO : ClassId} {b : Nat} {cs : CS} {i : Nat} {v : Nat} (hx : p.tables.exec = Jvm.exec) (hb : c.code = cc) (hts : ∀ w ∈ wsOf y0 c0 n0 r0, w.before args s = true) (hown : s.vm.findClass RX4 = some m.cls) (hK : va_K (dC, dI) vwCl [(cB, .byte), (cI, .int), (cJ, .long), (cZ, .boolean), (cS, .object "StreamQueries$Source"), (cO, .object "java/lang/Object")] s) (hP : va_P (dC, dI) vwCl (cW cB cI cJ cZ cS cO b cs) H) (hv : gA cs 6 195 i = some v) (hdg : decode cc pc = .ok (.getfield 174, 3)) (kk : W p l e R s m args below meth c H locs cells slots Q (F0 m (pc + 3) ls (.ref (b + v) :: rest))) : W p l e R s m args below meth c H locs cells slots Q (F0 m pc ls (.ref (b + i) :: rest)) := by
  obtain ⟨h1, h2⟩ := gA_some hv
  obtain ⟨k, -, hg⟩ := cO_at (b := b) (cB := cB) (cI := cI) (cJ := cJ) (cZ := cZ) (cS := cS) (cO := cO) (by decide) h1
  have hf : (vL b cs i (32 * 6) (tyX 6))[3]? = some (.ref (b + v)) := by
    show some (vV b cs 195 i 3) = _
    show some (rv b (kP cs 195 i)) = _
    rw [h2]; rfl
  exact va_get (D := (dC, dI)) (ci := 6) (C := RX5) (T := TX5) (N := 15) hx hb hts (fun w h => List.mem_cons_of_mem _ (uG_X5 w h)) hown hK hP k hg rfl 3 (by decide) (hts _ (List.mem_cons_of_mem _ kw_667)) (fun _ h9 => h9) hf hdg kk
theorem fg_X4_178 {p : Program} {l : Launch} {e : Env} {R : Room} {s : State} {m : MethodId} {args : Array Value} {below : List Frame} {meth : Method} {c : Code} {H : Heap} {locs : List Loc} {cells slots : Nat} {Q : State → Prop} {cc : ByteArray} {pc : Nat} {ls : Array Slot} {rest : List Value} {y0 : MethodName} {c0 : ByteArray} {n0 : Nat} {r0 : Option FieldType} {dC : Nat → ClassId} {dI : Nat → Nat → Nat} {cB cI cJ cZ cS cO : ClassId} {b : Nat} {cs : CS} {i : Nat} {v : Int32} (hx : p.tables.exec = Jvm.exec) (hb : c.code = cc) (hts : ∀ w ∈ wsOf y0 c0 n0 r0, w.before args s = true) (hown : s.vm.findClass RX4 = some m.cls) (hK : va_K (dC, dI) vwCl [(cB, .byte), (cI, .int), (cJ, .long), (cZ, .boolean), (cS, .object "StreamQueries$Source"), (cO, .object "java/lang/Object")] s) (hP : va_P (dC, dI) vwCl (cW cB cI cJ cZ cS cO b cs) H) (hv : gI cs 7 234 i = some v) (hdg : decode cc pc = .ok (.getfield 178, 3)) (kk : W p l e R s m args below meth c H locs cells slots Q (F0 m (pc + 3) ls (.int v :: rest))) : W p l e R s m args below meth c H locs cells slots Q (F0 m pc ls (.ref (b + i) :: rest)) := by
  obtain ⟨h1, h2⟩ := gI_some hv
  obtain ⟨k, -, hg⟩ := cO_at (b := b) (cB := cB) (cI := cI) (cJ := cJ) (cZ := cZ) (cS := cS) (cO := cO) (by decide) h1
  have hf : (vL b cs i (32 * 7) (tyX 7))[10]? = some (.int v) := by
    show some (vV b cs 234 i 0) = _
    show some (Value.int (kI cs 234 i)) = _
    rw [h2]
  exact va_get (D := (dC, dI)) (ci := 7) (C := RX6) (T := TX6) (N := 12) hx hb hts (fun w h => List.mem_cons_of_mem _ (uG_X6 w h)) hown hK hP k hg rfl 10 (by decide) (hts _ (List.mem_cons_of_mem _ kw_1082)) (fun _ h9 => h9) hf hdg kk
theorem fp_X4_178 {p : Program} {l : Launch} {e : Env} {R : Room} {s : State} {m : MethodId} {args : Array Value} {below : List Frame} {meth : Method} {c : Code} {H : Heap} {locs : List Loc} {cells slots : Nat} {Q : State → Prop} {cc : ByteArray} {pc : Nat} {ls : Array Slot} {rest : List Value} {y0 : MethodName} {c0 : ByteArray} {n0 : Nat} {r0 : Option FieldType} {dC : Nat → ClassId} {dI : Nat → Nat → Nat} {cB cI cJ cZ cS cO : ClassId} {b : Nat} {cs : CS} {A : Nat → Prop} {H0 : Heap} {cs1 : CS} {i : Nat} {v : Int32} (hx : p.tables.exec = Jvm.exec) (hb : c.code = cc) (hts : ∀ w ∈ wsOf y0 c0 n0 r0, w.before args s = true) (hown : s.vm.findClass RX4 = some m.cls) (hK : va_K (dC, dI) vwCl [(cB, .byte), (cI, .int), (cJ, .long), (cZ, .boolean), (cS, .object "StreamQueries$Source"), (cO, .object "java/lang/Object")] s) (hP : va_P (dC, dI) vwCl (cW cB cI cJ cZ cS cO b cs) H) (hD : va_D A (cW cB cI cJ cZ cS cO b cs)) (hS : va_S A H0 H locs) (hv : pI cs 7 234 i v = some cs1) (hdg : decode cc pc = .ok (.putfield 178, 3)) (kk : ∀ (H1 : Heap) (locs1 : List Loc), va_P (dC, dI) vwCl (cW cB cI cJ cZ cS cO b cs1) H1 → va_D A (cW cB cI cJ cZ cS cO b cs1) → va_S A H0 H1 locs1 → W p l e R s m args below meth c H1 locs1 cells slots Q (F0 m (pc + 3) ls rest)) : W p l e R s m args below meth c H locs cells slots Q (F0 m pc ls (.int v :: .ref (b + i) :: rest)) := by
  obtain ⟨h1, rfl⟩ := pI_some hv
  obtain ⟨k, hk, hg⟩ := cO_at (b := b) (cB := cB) (cI := cI) (cJ := cJ) (cZ := cZ) (cS := cS) (cO := cO) (by decide) h1
  have hset := cW_putF (f := 10) (y := 0) (v := .int v) (cs1 := sI cs 234 i v) (by decide) rfl hD hk rfl rfl rfl rfl rfl rfl (by show Value.int (u2 (kI cs) 234 i v 234 i) = _; rw [u2_s]) (fun z j w hn => by
    have e9 : kI (sI cs 234 i v) z j = kI cs z j := u2_n hn
    match w with
    | 0 => show Value.int (kI (sI cs 234 i v) z j) = Value.int (kI cs z j); rw [e9]
    | 1 => rfl
    | 2 => rfl
    | _ + 3 => rfl)
  refine va_put (D := (dC, dI)) (ci := 7) (v := .int v) (ty := .int) (C := RX6) (T := TX6) (N := 12) hx hb hts (fun w h => List.mem_cons_of_mem _ (uG_X6 w h)) tyX6 tyX6_ok nmX6 hown hK hP hD hS k hg rfl 10 (by decide) (hts _ (List.mem_cons_of_mem _ kw_1082)) (fun _ h9 => h9) rfl (by decide +kernel) rfl rfl (by rw [vL_len]; decide) hdg (fun H1 l1 q1 q2 q3 => ?_)
  rw [hset] at q1 q2
  exact kk H1 l1 q1 q2 q3
theorem fg_X4_191 {p : Program} {l : Launch} {e : Env} {R : Room} {s : State} {m : MethodId} {args : Array Value} {below : List Frame} {meth : Method} {c : Code} {H : Heap} {locs : List Loc} {cells slots : Nat} {Q : State → Prop} {cc : ByteArray} {pc : Nat} {ls : Array Slot} {rest : List Value} {y0 : MethodName} {c0 : ByteArray} {n0 : Nat} {r0 : Option FieldType} {dC : Nat → ClassId} {dI : Nat → Nat → Nat} {cB cI cJ cZ cS cO : ClassId} {b : Nat} {cs : CS} {i : Nat} {v : (Option Nat)} (hx : p.tables.exec = Jvm.exec) (hb : c.code = cc) (hts : ∀ w ∈ wsOf y0 c0 n0 r0, w.before args s = true) (hown : s.vm.findClass RX4 = some m.cls) (hK : va_K (dC, dI) vwCl [(cB, .byte), (cI, .int), (cJ, .long), (cZ, .boolean), (cS, .object "StreamQueries$Source"), (cO, .object "java/lang/Object")] s) (hP : va_P (dC, dI) vwCl (cW cB cI cJ cZ cS cO b cs) H) (hv : gR cs 7 225 i = some v) (hdg : decode cc pc = .ok (.getfield 191, 3)) (kk : W p l e R s m args below meth c H locs cells slots Q (F0 m (pc + 3) ls (rv b v :: rest))) : W p l e R s m args below meth c H locs cells slots Q (F0 m pc ls (.ref (b + i) :: rest)) := by
  obtain ⟨h1, h2⟩ := gR_some hv
  obtain ⟨k, -, hg⟩ := cO_at (b := b) (cB := cB) (cI := cI) (cJ := cJ) (cZ := cZ) (cS := cS) (cO := cO) (by decide) h1
  have hf : (vL b cs i (32 * 7) (tyX 7))[1]? = some (rv b v) := by
    show some (vV b cs 225 i 2) = _
    show some (rv b (kR cs 225 i)) = _
    rw [h2]
  exact va_get (D := (dC, dI)) (ci := 7) (C := RX6) (T := TX6) (N := 12) hx hb hts (fun w h => List.mem_cons_of_mem _ (uG_X6 w h)) hown hK hP k hg rfl 1 (by decide) (hts _ (List.mem_cons_of_mem _ kw_1059)) (fun _ h9 => h9) hf hdg kk
theorem fp_X4_191 {p : Program} {l : Launch} {e : Env} {R : Room} {s : State} {m : MethodId} {args : Array Value} {below : List Frame} {meth : Method} {c : Code} {H : Heap} {locs : List Loc} {cells slots : Nat} {Q : State → Prop} {cc : ByteArray} {pc : Nat} {ls : Array Slot} {rest : List Value} {y0 : MethodName} {c0 : ByteArray} {n0 : Nat} {r0 : Option FieldType} {dC : Nat → ClassId} {dI : Nat → Nat → Nat} {cB cI cJ cZ cS cO : ClassId} {b : Nat} {cs : CS} {A : Nat → Prop} {H0 : Heap} {cs1 : CS} {i : Nat} {v : (Option Nat)} (hx : p.tables.exec = Jvm.exec) (hb : c.code = cc) (hts : ∀ w ∈ wsOf y0 c0 n0 r0, w.before args s = true) (hown : s.vm.findClass RX4 = some m.cls) (hK : va_K (dC, dI) vwCl [(cB, .byte), (cI, .int), (cJ, .long), (cZ, .boolean), (cS, .object "StreamQueries$Source"), (cO, .object "java/lang/Object")] s) (hP : va_P (dC, dI) vwCl (cW cB cI cJ cZ cS cO b cs) H) (hD : va_D A (cW cB cI cJ cZ cS cO b cs)) (hS : va_S A H0 H locs) (hv : pR cs 7 225 i v = some cs1) (hdg : decode cc pc = .ok (.putfield 191, 3)) (kk : ∀ (H1 : Heap) (locs1 : List Loc), va_P (dC, dI) vwCl (cW cB cI cJ cZ cS cO b cs1) H1 → va_D A (cW cB cI cJ cZ cS cO b cs1) → va_S A H0 H1 locs1 → W p l e R s m args below meth c H1 locs1 cells slots Q (F0 m (pc + 3) ls rest)) : W p l e R s m args below meth c H locs cells slots Q (F0 m pc ls (rv b v :: .ref (b + i) :: rest)) := by
  obtain ⟨h1, rfl⟩ := pR_some hv
  obtain ⟨k, hk, hg⟩ := cO_at (b := b) (cB := cB) (cI := cI) (cJ := cJ) (cZ := cZ) (cS := cS) (cO := cO) (by decide) h1
  have hset := cW_putF (f := 1) (y := 2) (v := rv b v) (cs1 := sR cs 225 i v) (by decide) rfl hD hk rfl rfl rfl rfl rfl rfl (by show rv b (u2 (kR cs) 225 i v 225 i) = _; rw [u2_s]) (fun z j w hn => by
    have e9 : kR (sR cs 225 i v) z j = kR cs z j := u2_n hn
    match w with
    | 0 => rfl
    | 1 => rfl
    | 2 => show rv b (kR (sR cs 225 i v) z j) = rv b (kR cs z j); rw [e9]
    | _ + 3 => rfl)
  refine va_put (D := (dC, dI)) (ci := 7) (v := rv b v) (ty := .object "StreamQueries$Query") (C := RX6) (T := TX6) (N := 12) hx hb hts (fun w h => List.mem_cons_of_mem _ (uG_X6 w h)) tyX6 tyX6_ok nmX6 hown hK hP hD hS k hg rfl 1 (by decide) (hts _ (List.mem_cons_of_mem _ kw_1059)) (fun _ h9 => h9) rfl (by decide +kernel) (rv_nar b v _) (rv_fit b v _) (by rw [vL_len]; decide) hdg (fun H1 l1 q1 q2 q3 => ?_)
  rw [hset] at q1 q2
  exact kk H1 l1 q1 q2 q3
theorem fg_X4_199 {p : Program} {l : Launch} {e : Env} {R : Room} {s : State} {m : MethodId} {args : Array Value} {below : List Frame} {meth : Method} {c : Code} {H : Heap} {locs : List Loc} {cells slots : Nat} {Q : State → Prop} {cc : ByteArray} {pc : Nat} {ls : Array Slot} {rest : List Value} {y0 : MethodName} {c0 : ByteArray} {n0 : Nat} {r0 : Option FieldType} {dC : Nat → ClassId} {dI : Nat → Nat → Nat} {cB cI cJ cZ cS cO : ClassId} {b : Nat} {cs : CS} {i : Nat} {v : Int32} (hx : p.tables.exec = Jvm.exec) (hb : c.code = cc) (hts : ∀ w ∈ wsOf y0 c0 n0 r0, w.before args s = true) (hown : s.vm.findClass RX4 = some m.cls) (hK : va_K (dC, dI) vwCl [(cB, .byte), (cI, .int), (cJ, .long), (cZ, .boolean), (cS, .object "StreamQueries$Source"), (cO, .object "java/lang/Object")] s) (hP : va_P (dC, dI) vwCl (cW cB cI cJ cZ cS cO b cs) H) (hv : gI cs 7 224 i = some v) (hdg : decode cc pc = .ok (.getfield 199, 3)) (kk : W p l e R s m args below meth c H locs cells slots Q (F0 m (pc + 3) ls (.int v :: rest))) : W p l e R s m args below meth c H locs cells slots Q (F0 m pc ls (.ref (b + i) :: rest)) := by
  obtain ⟨h1, h2⟩ := gI_some hv
  obtain ⟨k, -, hg⟩ := cO_at (b := b) (cB := cB) (cI := cI) (cJ := cJ) (cZ := cZ) (cS := cS) (cO := cO) (by decide) h1
  have hf : (vL b cs i (32 * 7) (tyX 7))[0]? = some (.int v) := by
    show some (vV b cs 224 i 0) = _
    show some (Value.int (kI cs 224 i)) = _
    rw [h2]
  exact va_get (D := (dC, dI)) (ci := 7) (C := RX6) (T := TX6) (N := 12) hx hb hts (fun w h => List.mem_cons_of_mem _ (uG_X6 w h)) hown hK hP k hg rfl 0 (by decide) (hts _ (List.mem_cons_of_mem _ kw_1057)) (fun _ h9 => h9) hf hdg kk
theorem fp_X4_199 {p : Program} {l : Launch} {e : Env} {R : Room} {s : State} {m : MethodId} {args : Array Value} {below : List Frame} {meth : Method} {c : Code} {H : Heap} {locs : List Loc} {cells slots : Nat} {Q : State → Prop} {cc : ByteArray} {pc : Nat} {ls : Array Slot} {rest : List Value} {y0 : MethodName} {c0 : ByteArray} {n0 : Nat} {r0 : Option FieldType} {dC : Nat → ClassId} {dI : Nat → Nat → Nat} {cB cI cJ cZ cS cO : ClassId} {b : Nat} {cs : CS} {A : Nat → Prop} {H0 : Heap} {cs1 : CS} {i : Nat} {v : Int32} (hx : p.tables.exec = Jvm.exec) (hb : c.code = cc) (hts : ∀ w ∈ wsOf y0 c0 n0 r0, w.before args s = true) (hown : s.vm.findClass RX4 = some m.cls) (hK : va_K (dC, dI) vwCl [(cB, .byte), (cI, .int), (cJ, .long), (cZ, .boolean), (cS, .object "StreamQueries$Source"), (cO, .object "java/lang/Object")] s) (hP : va_P (dC, dI) vwCl (cW cB cI cJ cZ cS cO b cs) H) (hD : va_D A (cW cB cI cJ cZ cS cO b cs)) (hS : va_S A H0 H locs) (hv : pI cs 7 224 i v = some cs1) (hdg : decode cc pc = .ok (.putfield 199, 3)) (kk : ∀ (H1 : Heap) (locs1 : List Loc), va_P (dC, dI) vwCl (cW cB cI cJ cZ cS cO b cs1) H1 → va_D A (cW cB cI cJ cZ cS cO b cs1) → va_S A H0 H1 locs1 → W p l e R s m args below meth c H1 locs1 cells slots Q (F0 m (pc + 3) ls rest)) : W p l e R s m args below meth c H locs cells slots Q (F0 m pc ls (.int v :: .ref (b + i) :: rest)) := by
  obtain ⟨h1, rfl⟩ := pI_some hv
  obtain ⟨k, hk, hg⟩ := cO_at (b := b) (cB := cB) (cI := cI) (cJ := cJ) (cZ := cZ) (cS := cS) (cO := cO) (by decide) h1
  have hset := cW_putF (f := 0) (y := 0) (v := .int v) (cs1 := sI cs 224 i v) (by decide) rfl hD hk rfl rfl rfl rfl rfl rfl (by show Value.int (u2 (kI cs) 224 i v 224 i) = _; rw [u2_s]) (fun z j w hn => by
    have e9 : kI (sI cs 224 i v) z j = kI cs z j := u2_n hn
    match w with
    | 0 => show Value.int (kI (sI cs 224 i v) z j) = Value.int (kI cs z j); rw [e9]
    | 1 => rfl
    | 2 => rfl
    | _ + 3 => rfl)
  refine va_put (D := (dC, dI)) (ci := 7) (v := .int v) (ty := .int) (C := RX6) (T := TX6) (N := 12) hx hb hts (fun w h => List.mem_cons_of_mem _ (uG_X6 w h)) tyX6 tyX6_ok nmX6 hown hK hP hD hS k hg rfl 0 (by decide) (hts _ (List.mem_cons_of_mem _ kw_1057)) (fun _ h9 => h9) rfl (by decide +kernel) rfl rfl (by rw [vL_len]; decide) hdg (fun H1 l1 q1 q2 q3 => ?_)
  rw [hset] at q1 q2
  exact kk H1 l1 q1 q2 q3
theorem fg_X4_202 {p : Program} {l : Launch} {e : Env} {R : Room} {s : State} {m : MethodId} {args : Array Value} {below : List Frame} {meth : Method} {c : Code} {H : Heap} {locs : List Loc} {cells slots : Nat} {Q : State → Prop} {cc : ByteArray} {pc : Nat} {ls : Array Slot} {rest : List Value} {y0 : MethodName} {c0 : ByteArray} {n0 : Nat} {r0 : Option FieldType} {dC : Nat → ClassId} {dI : Nat → Nat → Nat} {cB cI cJ cZ cS cO : ClassId} {b : Nat} {cs : CS} {i : Nat} {v : Int64} (hx : p.tables.exec = Jvm.exec) (hb : c.code = cc) (hts : ∀ w ∈ wsOf y0 c0 n0 r0, w.before args s = true) (hown : s.vm.findClass RX4 = some m.cls) (hK : va_K (dC, dI) vwCl [(cB, .byte), (cI, .int), (cJ, .long), (cZ, .boolean), (cS, .object "StreamQueries$Source"), (cO, .object "java/lang/Object")] s) (hP : va_P (dC, dI) vwCl (cW cB cI cJ cZ cS cO b cs) H) (hv : gJ cs 7 230 i = some v) (hdg : decode cc pc = .ok (.getfield 202, 3)) (kk : W p l e R s m args below meth c H locs cells slots Q (F0 m (pc + 3) ls (.long v :: rest))) : W p l e R s m args below meth c H locs cells slots Q (F0 m pc ls (.ref (b + i) :: rest)) := by
  obtain ⟨h1, h2⟩ := gJ_some hv
  obtain ⟨k, -, hg⟩ := cO_at (b := b) (cB := cB) (cI := cI) (cJ := cJ) (cZ := cZ) (cS := cS) (cO := cO) (by decide) h1
  have hf : (vL b cs i (32 * 7) (tyX 7))[6]? = some (.long v) := by
    show some (vV b cs 230 i 1) = _
    show some (Value.long (kJ cs 230 i)) = _
    rw [h2]
  exact va_get (D := (dC, dI)) (ci := 7) (C := RX6) (T := TX6) (N := 12) hx hb hts (fun w h => List.mem_cons_of_mem _ (uG_X6 w h)) hown hK hP k hg rfl 6 (by decide) (hts _ (List.mem_cons_of_mem _ kw_1073)) (fun _ h9 => h9) hf hdg kk
theorem fp_X4_202 {p : Program} {l : Launch} {e : Env} {R : Room} {s : State} {m : MethodId} {args : Array Value} {below : List Frame} {meth : Method} {c : Code} {H : Heap} {locs : List Loc} {cells slots : Nat} {Q : State → Prop} {cc : ByteArray} {pc : Nat} {ls : Array Slot} {rest : List Value} {y0 : MethodName} {c0 : ByteArray} {n0 : Nat} {r0 : Option FieldType} {dC : Nat → ClassId} {dI : Nat → Nat → Nat} {cB cI cJ cZ cS cO : ClassId} {b : Nat} {cs : CS} {A : Nat → Prop} {H0 : Heap} {cs1 : CS} {i : Nat} {v : Int64} (hx : p.tables.exec = Jvm.exec) (hb : c.code = cc) (hts : ∀ w ∈ wsOf y0 c0 n0 r0, w.before args s = true) (hown : s.vm.findClass RX4 = some m.cls) (hK : va_K (dC, dI) vwCl [(cB, .byte), (cI, .int), (cJ, .long), (cZ, .boolean), (cS, .object "StreamQueries$Source"), (cO, .object "java/lang/Object")] s) (hP : va_P (dC, dI) vwCl (cW cB cI cJ cZ cS cO b cs) H) (hD : va_D A (cW cB cI cJ cZ cS cO b cs)) (hS : va_S A H0 H locs) (hv : pJ cs 7 230 i v = some cs1) (hdg : decode cc pc = .ok (.putfield 202, 3)) (kk : ∀ (H1 : Heap) (locs1 : List Loc), va_P (dC, dI) vwCl (cW cB cI cJ cZ cS cO b cs1) H1 → va_D A (cW cB cI cJ cZ cS cO b cs1) → va_S A H0 H1 locs1 → W p l e R s m args below meth c H1 locs1 cells slots Q (F0 m (pc + 3) ls rest)) : W p l e R s m args below meth c H locs cells slots Q (F0 m pc ls (.long v :: .ref (b + i) :: rest)) := by
  obtain ⟨h1, rfl⟩ := pJ_some hv
  obtain ⟨k, hk, hg⟩ := cO_at (b := b) (cB := cB) (cI := cI) (cJ := cJ) (cZ := cZ) (cS := cS) (cO := cO) (by decide) h1
  have hset := cW_putF (f := 6) (y := 1) (v := .long v) (cs1 := sJ cs 230 i v) (by decide) rfl hD hk rfl rfl rfl rfl rfl rfl (by show Value.long (u2 (kJ cs) 230 i v 230 i) = _; rw [u2_s]) (fun z j w hn => by
    have e9 : kJ (sJ cs 230 i v) z j = kJ cs z j := u2_n hn
    match w with
    | 0 => rfl
    | 1 => show Value.long (kJ (sJ cs 230 i v) z j) = Value.long (kJ cs z j); rw [e9]
    | 2 => rfl
    | _ + 3 => rfl)
  refine va_put (D := (dC, dI)) (ci := 7) (v := .long v) (ty := .long) (C := RX6) (T := TX6) (N := 12) hx hb hts (fun w h => List.mem_cons_of_mem _ (uG_X6 w h)) tyX6 tyX6_ok nmX6 hown hK hP hD hS k hg rfl 6 (by decide) (hts _ (List.mem_cons_of_mem _ kw_1073)) (fun _ h9 => h9) rfl (by decide +kernel) rfl rfl (by rw [vL_len]; decide) hdg (fun H1 l1 q1 q2 q3 => ?_)
  rw [hset] at q1 q2
  exact kk H1 l1 q1 q2 q3
theorem fg_X4_212 {p : Program} {l : Launch} {e : Env} {R : Room} {s : State} {m : MethodId} {args : Array Value} {below : List Frame} {meth : Method} {c : Code} {H : Heap} {locs : List Loc} {cells slots : Nat} {Q : State → Prop} {cc : ByteArray} {pc : Nat} {ls : Array Slot} {rest : List Value} {y0 : MethodName} {c0 : ByteArray} {n0 : Nat} {r0 : Option FieldType} {dC : Nat → ClassId} {dI : Nat → Nat → Nat} {cB cI cJ cZ cS cO : ClassId} {b : Nat} {cs : CS} {i : Nat} {v : (Option Nat)} (hx : p.tables.exec = Jvm.exec) (hb : c.code = cc) (hts : ∀ w ∈ wsOf y0 c0 n0 r0, w.before args s = true) (hown : s.vm.findClass RX4 = some m.cls) (hK : va_K (dC, dI) vwCl [(cB, .byte), (cI, .int), (cJ, .long), (cZ, .boolean), (cS, .object "StreamQueries$Source"), (cO, .object "java/lang/Object")] s) (hP : va_P (dC, dI) vwCl (cW cB cI cJ cZ cS cO b cs) H) (hv : gR cs 7 235 i = some v) (hdg : decode cc pc = .ok (.getfield 212, 3)) (kk : W p l e R s m args below meth c H locs cells slots Q (F0 m (pc + 3) ls (rv b v :: rest))) : W p l e R s m args below meth c H locs cells slots Q (F0 m pc ls (.ref (b + i) :: rest)) := by
  obtain ⟨h1, h2⟩ := gR_some hv
  obtain ⟨k, -, hg⟩ := cO_at (b := b) (cB := cB) (cI := cI) (cJ := cJ) (cZ := cZ) (cS := cS) (cO := cO) (by decide) h1
  have hf : (vL b cs i (32 * 7) (tyX 7))[11]? = some (rv b v) := by
    show some (vV b cs 235 i 2) = _
    show some (rv b (kR cs 235 i)) = _
    rw [h2]
  exact va_get (D := (dC, dI)) (ci := 7) (C := RX6) (T := TX6) (N := 12) hx hb hts (fun w h => List.mem_cons_of_mem _ (uG_X6 w h)) hown hK hP k hg rfl 11 (by decide) (hts _ (List.mem_cons_of_mem _ kw_1087)) (fun _ h9 => h9) hf hdg kk
theorem fg_X4_219 {p : Program} {l : Launch} {e : Env} {R : Room} {s : State} {m : MethodId} {args : Array Value} {below : List Frame} {meth : Method} {c : Code} {H : Heap} {locs : List Loc} {cells slots : Nat} {Q : State → Prop} {cc : ByteArray} {pc : Nat} {ls : Array Slot} {rest : List Value} {y0 : MethodName} {c0 : ByteArray} {n0 : Nat} {r0 : Option FieldType} {dC : Nat → ClassId} {dI : Nat → Nat → Nat} {cB cI cJ cZ cS cO : ClassId} {b : Nat} {cs : CS} {i : Nat} {v : Int32} (hx : p.tables.exec = Jvm.exec) (hb : c.code = cc) (hts : ∀ w ∈ wsOf y0 c0 n0 r0, w.before args s = true) (hown : s.vm.findClass RX4 = some m.cls) (hK : va_K (dC, dI) vwCl [(cB, .byte), (cI, .int), (cJ, .long), (cZ, .boolean), (cS, .object "StreamQueries$Source"), (cO, .object "java/lang/Object")] s) (hP : va_P (dC, dI) vwCl (cW cB cI cJ cZ cS cO b cs) H) (hv : gI cs 7 233 i = some v) (hdg : decode cc pc = .ok (.getfield 219, 3)) (kk : W p l e R s m args below meth c H locs cells slots Q (F0 m (pc + 3) ls (.int v :: rest))) : W p l e R s m args below meth c H locs cells slots Q (F0 m pc ls (.ref (b + i) :: rest)) := by
  obtain ⟨h1, h2⟩ := gI_some hv
  obtain ⟨k, -, hg⟩ := cO_at (b := b) (cB := cB) (cI := cI) (cJ := cJ) (cZ := cZ) (cS := cS) (cO := cO) (by decide) h1
  have hf : (vL b cs i (32 * 7) (tyX 7))[9]? = some (.int v) := by
    show some (vV b cs 233 i 0) = _
    show some (Value.int (kI cs 233 i)) = _
    rw [h2]
  exact va_get (D := (dC, dI)) (ci := 7) (C := RX6) (T := TX6) (N := 12) hx hb hts (fun w h => List.mem_cons_of_mem _ (uG_X6 w h)) hown hK hP k hg rfl 9 (by decide) (hts _ (List.mem_cons_of_mem _ kw_1080)) (fun _ h9 => h9) hf hdg kk
theorem fp_X4_219 {p : Program} {l : Launch} {e : Env} {R : Room} {s : State} {m : MethodId} {args : Array Value} {below : List Frame} {meth : Method} {c : Code} {H : Heap} {locs : List Loc} {cells slots : Nat} {Q : State → Prop} {cc : ByteArray} {pc : Nat} {ls : Array Slot} {rest : List Value} {y0 : MethodName} {c0 : ByteArray} {n0 : Nat} {r0 : Option FieldType} {dC : Nat → ClassId} {dI : Nat → Nat → Nat} {cB cI cJ cZ cS cO : ClassId} {b : Nat} {cs : CS} {A : Nat → Prop} {H0 : Heap} {cs1 : CS} {i : Nat} {v : Int32} (hx : p.tables.exec = Jvm.exec) (hb : c.code = cc) (hts : ∀ w ∈ wsOf y0 c0 n0 r0, w.before args s = true) (hown : s.vm.findClass RX4 = some m.cls) (hK : va_K (dC, dI) vwCl [(cB, .byte), (cI, .int), (cJ, .long), (cZ, .boolean), (cS, .object "StreamQueries$Source"), (cO, .object "java/lang/Object")] s) (hP : va_P (dC, dI) vwCl (cW cB cI cJ cZ cS cO b cs) H) (hD : va_D A (cW cB cI cJ cZ cS cO b cs)) (hS : va_S A H0 H locs) (hv : pI cs 7 233 i v = some cs1) (hdg : decode cc pc = .ok (.putfield 219, 3)) (kk : ∀ (H1 : Heap) (locs1 : List Loc), va_P (dC, dI) vwCl (cW cB cI cJ cZ cS cO b cs1) H1 → va_D A (cW cB cI cJ cZ cS cO b cs1) → va_S A H0 H1 locs1 → W p l e R s m args below meth c H1 locs1 cells slots Q (F0 m (pc + 3) ls rest)) : W p l e R s m args below meth c H locs cells slots Q (F0 m pc ls (.int v :: .ref (b + i) :: rest)) := by
  obtain ⟨h1, rfl⟩ := pI_some hv
  obtain ⟨k, hk, hg⟩ := cO_at (b := b) (cB := cB) (cI := cI) (cJ := cJ) (cZ := cZ) (cS := cS) (cO := cO) (by decide) h1
  have hset := cW_putF (f := 9) (y := 0) (v := .int v) (cs1 := sI cs 233 i v) (by decide) rfl hD hk rfl rfl rfl rfl rfl rfl (by show Value.int (u2 (kI cs) 233 i v 233 i) = _; rw [u2_s]) (fun z j w hn => by
    have e9 : kI (sI cs 233 i v) z j = kI cs z j := u2_n hn
    match w with
    | 0 => show Value.int (kI (sI cs 233 i v) z j) = Value.int (kI cs z j); rw [e9]
    | 1 => rfl
    | 2 => rfl
    | _ + 3 => rfl)
  refine va_put (D := (dC, dI)) (ci := 7) (v := .int v) (ty := .int) (C := RX6) (T := TX6) (N := 12) hx hb hts (fun w h => List.mem_cons_of_mem _ (uG_X6 w h)) tyX6 tyX6_ok nmX6 hown hK hP hD hS k hg rfl 9 (by decide) (hts _ (List.mem_cons_of_mem _ kw_1080)) (fun _ h9 => h9) rfl (by decide +kernel) rfl rfl (by rw [vL_len]; decide) hdg (fun H1 l1 q1 q2 q3 => ?_)
  rw [hset] at q1 q2
  exact kk H1 l1 q1 q2 q3
theorem fg_X4_222 {p : Program} {l : Launch} {e : Env} {R : Room} {s : State} {m : MethodId} {args : Array Value} {below : List Frame} {meth : Method} {c : Code} {H : Heap} {locs : List Loc} {cells slots : Nat} {Q : State → Prop} {cc : ByteArray} {pc : Nat} {ls : Array Slot} {rest : List Value} {y0 : MethodName} {c0 : ByteArray} {n0 : Nat} {r0 : Option FieldType} {dC : Nat → ClassId} {dI : Nat → Nat → Nat} {cB cI cJ cZ cS cO : ClassId} {b : Nat} {cs : CS} {i : Nat} {v : Int32} (hx : p.tables.exec = Jvm.exec) (hb : c.code = cc) (hts : ∀ w ∈ wsOf y0 c0 n0 r0, w.before args s = true) (hown : s.vm.findClass RX4 = some m.cls) (hK : va_K (dC, dI) vwCl [(cB, .byte), (cI, .int), (cJ, .long), (cZ, .boolean), (cS, .object "StreamQueries$Source"), (cO, .object "java/lang/Object")] s) (hP : va_P (dC, dI) vwCl (cW cB cI cJ cZ cS cO b cs) H) (hv : gI cs 7 231 i = some v) (hdg : decode cc pc = .ok (.getfield 222, 3)) (kk : W p l e R s m args below meth c H locs cells slots Q (F0 m (pc + 3) ls (.int v :: rest))) : W p l e R s m args below meth c H locs cells slots Q (F0 m pc ls (.ref (b + i) :: rest)) := by
  obtain ⟨h1, h2⟩ := gI_some hv
  obtain ⟨k, -, hg⟩ := cO_at (b := b) (cB := cB) (cI := cI) (cJ := cJ) (cZ := cZ) (cS := cS) (cO := cO) (by decide) h1
  have hf : (vL b cs i (32 * 7) (tyX 7))[7]? = some (.int v) := by
    show some (vV b cs 231 i 0) = _
    show some (Value.int (kI cs 231 i)) = _
    rw [h2]
  exact va_get (D := (dC, dI)) (ci := 7) (C := RX6) (T := TX6) (N := 12) hx hb hts (fun w h => List.mem_cons_of_mem _ (uG_X6 w h)) hown hK hP k hg rfl 7 (by decide) (hts _ (List.mem_cons_of_mem _ kw_1074)) (fun _ h9 => h9) hf hdg kk
theorem fp_X4_222 {p : Program} {l : Launch} {e : Env} {R : Room} {s : State} {m : MethodId} {args : Array Value} {below : List Frame} {meth : Method} {c : Code} {H : Heap} {locs : List Loc} {cells slots : Nat} {Q : State → Prop} {cc : ByteArray} {pc : Nat} {ls : Array Slot} {rest : List Value} {y0 : MethodName} {c0 : ByteArray} {n0 : Nat} {r0 : Option FieldType} {dC : Nat → ClassId} {dI : Nat → Nat → Nat} {cB cI cJ cZ cS cO : ClassId} {b : Nat} {cs : CS} {A : Nat → Prop} {H0 : Heap} {cs1 : CS} {i : Nat} {v : Int32} (hx : p.tables.exec = Jvm.exec) (hb : c.code = cc) (hts : ∀ w ∈ wsOf y0 c0 n0 r0, w.before args s = true) (hown : s.vm.findClass RX4 = some m.cls) (hK : va_K (dC, dI) vwCl [(cB, .byte), (cI, .int), (cJ, .long), (cZ, .boolean), (cS, .object "StreamQueries$Source"), (cO, .object "java/lang/Object")] s) (hP : va_P (dC, dI) vwCl (cW cB cI cJ cZ cS cO b cs) H) (hD : va_D A (cW cB cI cJ cZ cS cO b cs)) (hS : va_S A H0 H locs) (hz : v = 0 ∨ v = 1) (hv : pI cs 7 231 i v = some cs1) (hdg : decode cc pc = .ok (.putfield 222, 3)) (kk : ∀ (H1 : Heap) (locs1 : List Loc), va_P (dC, dI) vwCl (cW cB cI cJ cZ cS cO b cs1) H1 → va_D A (cW cB cI cJ cZ cS cO b cs1) → va_S A H0 H1 locs1 → W p l e R s m args below meth c H1 locs1 cells slots Q (F0 m (pc + 3) ls rest)) : W p l e R s m args below meth c H locs cells slots Q (F0 m pc ls (.int v :: .ref (b + i) :: rest)) := by
  obtain ⟨h1, rfl⟩ := pI_some hv
  obtain ⟨k, hk, hg⟩ := cO_at (b := b) (cB := cB) (cI := cI) (cJ := cJ) (cZ := cZ) (cS := cS) (cO := cO) (by decide) h1
  have hset := cW_putF (f := 7) (y := 0) (v := .int v) (cs1 := sI cs 231 i v) (by decide) rfl hD hk rfl rfl rfl rfl rfl rfl (by show Value.int (u2 (kI cs) 231 i v 231 i) = _; rw [u2_s]) (fun z j w hn => by
    have e9 : kI (sI cs 231 i v) z j = kI cs z j := u2_n hn
    match w with
    | 0 => show Value.int (kI (sI cs 231 i v) z j) = Value.int (kI cs z j); rw [e9]
    | 1 => rfl
    | 2 => rfl
    | _ + 3 => rfl)
  refine va_put (D := (dC, dI)) (ci := 7) (v := .int v) (ty := .boolean) (C := RX6) (T := TX6) (N := 12) hx hb hts (fun w h => List.mem_cons_of_mem _ (uG_X6 w h)) tyX6 tyX6_ok nmX6 hown hK hP hD hS k hg rfl 7 (by decide) (hts _ (List.mem_cons_of_mem _ kw_1074)) (fun _ h9 => h9) rfl (by decide +kernel) (nzN hz) (nzF hz) (by rw [vL_len]; decide) hdg (fun H1 l1 q1 q2 q3 => ?_)
  rw [hset] at q1 q2
  exact kk H1 l1 q1 q2 q3
theorem fg_X4_244 {p : Program} {l : Launch} {e : Env} {R : Room} {s : State} {m : MethodId} {args : Array Value} {below : List Frame} {meth : Method} {c : Code} {H : Heap} {locs : List Loc} {cells slots : Nat} {Q : State → Prop} {cc : ByteArray} {pc : Nat} {ls : Array Slot} {rest : List Value} {y0 : MethodName} {c0 : ByteArray} {n0 : Nat} {r0 : Option FieldType} {dC : Nat → ClassId} {dI : Nat → Nat → Nat} {cB cI cJ cZ cS cO : ClassId} {b : Nat} {cs : CS} {i : Nat} {v : Nat} (hx : p.tables.exec = Jvm.exec) (hb : c.code = cc) (hts : ∀ w ∈ wsOf y0 c0 n0 r0, w.before args s = true) (hown : s.vm.findClass RX4 = some m.cls) (hK : va_K (dC, dI) vwCl [(cB, .byte), (cI, .int), (cJ, .long), (cZ, .boolean), (cS, .object "StreamQueries$Source"), (cO, .object "java/lang/Object")] s) (hP : va_P (dC, dI) vwCl (cW cB cI cJ cZ cS cO b cs) H) (hv : gA cs 6 202 i = some v) (hdg : decode cc pc = .ok (.getfield 244, 3)) (kk : W p l e R s m args below meth c H locs cells slots Q (F0 m (pc + 3) ls (.ref (b + v) :: rest))) : W p l e R s m args below meth c H locs cells slots Q (F0 m pc ls (.ref (b + i) :: rest)) := by
  obtain ⟨h1, h2⟩ := gA_some hv
  obtain ⟨k, -, hg⟩ := cO_at (b := b) (cB := cB) (cI := cI) (cJ := cJ) (cZ := cZ) (cS := cS) (cO := cO) (by decide) h1
  have hf : (vL b cs i (32 * 6) (tyX 6))[10]? = some (.ref (b + v)) := by
    show some (vV b cs 202 i 3) = _
    show some (rv b (kP cs 202 i)) = _
    rw [h2]; rfl
  exact va_get (D := (dC, dI)) (ci := 6) (C := RX5) (T := TX5) (N := 15) hx hb hts (fun w h => List.mem_cons_of_mem _ (uG_X5 w h)) hown hK hP k hg rfl 10 (by decide) (hts _ (List.mem_cons_of_mem _ kw_692)) (fun _ h9 => h9) hf hdg kk
theorem fg_X4_248 {p : Program} {l : Launch} {e : Env} {R : Room} {s : State} {m : MethodId} {args : Array Value} {below : List Frame} {meth : Method} {c : Code} {H : Heap} {locs : List Loc} {cells slots : Nat} {Q : State → Prop} {cc : ByteArray} {pc : Nat} {ls : Array Slot} {rest : List Value} {y0 : MethodName} {c0 : ByteArray} {n0 : Nat} {r0 : Option FieldType} {dC : Nat → ClassId} {dI : Nat → Nat → Nat} {cB cI cJ cZ cS cO : ClassId} {b : Nat} {cs : CS} {i : Nat} {v : Nat} (hx : p.tables.exec = Jvm.exec) (hb : c.code = cc) (hts : ∀ w ∈ wsOf y0 c0 n0 r0, w.before args s = true) (hown : s.vm.findClass RX4 = some m.cls) (hK : va_K (dC, dI) vwCl [(cB, .byte), (cI, .int), (cJ, .long), (cZ, .boolean), (cS, .object "StreamQueries$Source"), (cO, .object "java/lang/Object")] s) (hP : va_P (dC, dI) vwCl (cW cB cI cJ cZ cS cO b cs) H) (hv : gA cs 2 65 i = some v) (hdg : decode cc pc = .ok (.getfield 248, 3)) (kk : W p l e R s m args below meth c H locs cells slots Q (F0 m (pc + 3) ls (.ref (b + v) :: rest))) : W p l e R s m args below meth c H locs cells slots Q (F0 m pc ls (.ref (b + i) :: rest)) := by
  obtain ⟨h1, h2⟩ := gA_some hv
  obtain ⟨k, -, hg⟩ := cO_at (b := b) (cB := cB) (cI := cI) (cJ := cJ) (cZ := cZ) (cS := cS) (cO := cO) (by decide) h1
  have hf : (vL b cs i (32 * 2) (tyX 2))[1]? = some (.ref (b + v)) := by
    show some (vV b cs 65 i 3) = _
    show some (rv b (kP cs 65 i)) = _
    rw [h2]; rfl
  exact va_get (D := (dC, dI)) (ci := 2) (C := RX1) (T := TX1) (N := 13) hx hb hts (fun w h => List.mem_cons_of_mem _ (uG_X1 w h)) hown hK hP k hg rfl 1 (by decide) (hts _ (List.mem_cons_of_mem _ kw_375)) (fun _ h9 => h9) hf hdg kk
theorem fg_X5_12 {p : Program} {l : Launch} {e : Env} {R : Room} {s : State} {m : MethodId} {args : Array Value} {below : List Frame} {meth : Method} {c : Code} {H : Heap} {locs : List Loc} {cells slots : Nat} {Q : State → Prop} {cc : ByteArray} {pc : Nat} {ls : Array Slot} {rest : List Value} {y0 : MethodName} {c0 : ByteArray} {n0 : Nat} {r0 : Option FieldType} {dC : Nat → ClassId} {dI : Nat → Nat → Nat} {cB cI cJ cZ cS cO : ClassId} {b : Nat} {cs : CS} {i : Nat} {v : (Option Nat)} (hx : p.tables.exec = Jvm.exec) (hb : c.code = cc) (hts : ∀ w ∈ wsOf y0 c0 n0 r0, w.before args s = true) (hown : s.vm.findClass RX5 = some m.cls) (hK : va_K (dC, dI) vwCl [(cB, .byte), (cI, .int), (cJ, .long), (cZ, .boolean), (cS, .object "StreamQueries$Source"), (cO, .object "java/lang/Object")] s) (hP : va_P (dC, dI) vwCl (cW cB cI cJ cZ cS cO b cs) H) (hv : gR cs 6 194 i = some v) (hdg : decode cc pc = .ok (.getfield 12, 3)) (kk : W p l e R s m args below meth c H locs cells slots Q (F0 m (pc + 3) ls (rv b v :: rest))) : W p l e R s m args below meth c H locs cells slots Q (F0 m pc ls (.ref (b + i) :: rest)) := by
  obtain ⟨h1, h2⟩ := gR_some hv
  obtain ⟨k, -, hg⟩ := cO_at (b := b) (cB := cB) (cI := cI) (cJ := cJ) (cZ := cZ) (cS := cS) (cO := cO) (by decide) h1
  have hf : (vL b cs i (32 * 6) (tyX 6))[2]? = some (rv b v) := by
    show some (vV b cs 194 i 2) = _
    show some (rv b (kR cs 194 i)) = _
    rw [h2]
  exact va_get (D := (dC, dI)) (ci := 6) (C := RX5) (T := TX5) (N := 15) hx hb hts (fun w h => List.mem_cons_of_mem _ (uG_X5 w h)) hown hK hP k hg rfl 2 (by decide) (hts _ (List.mem_cons_of_mem _ kw_660)) (fun _ h9 => h9) hf hdg kk
theorem fp_X5_12 {p : Program} {l : Launch} {e : Env} {R : Room} {s : State} {m : MethodId} {args : Array Value} {below : List Frame} {meth : Method} {c : Code} {H : Heap} {locs : List Loc} {cells slots : Nat} {Q : State → Prop} {cc : ByteArray} {pc : Nat} {ls : Array Slot} {rest : List Value} {y0 : MethodName} {c0 : ByteArray} {n0 : Nat} {r0 : Option FieldType} {dC : Nat → ClassId} {dI : Nat → Nat → Nat} {cB cI cJ cZ cS cO : ClassId} {b : Nat} {cs : CS} {A : Nat → Prop} {H0 : Heap} {cs1 : CS} {i : Nat} {v : (Option Nat)} (hx : p.tables.exec = Jvm.exec) (hb : c.code = cc) (hts : ∀ w ∈ wsOf y0 c0 n0 r0, w.before args s = true) (hown : s.vm.findClass RX5 = some m.cls) (hK : va_K (dC, dI) vwCl [(cB, .byte), (cI, .int), (cJ, .long), (cZ, .boolean), (cS, .object "StreamQueries$Source"), (cO, .object "java/lang/Object")] s) (hP : va_P (dC, dI) vwCl (cW cB cI cJ cZ cS cO b cs) H) (hD : va_D A (cW cB cI cJ cZ cS cO b cs)) (hS : va_S A H0 H locs) (hin : meth.name = "<init>") (hv : pR cs 6 194 i v = some cs1) (hdg : decode cc pc = .ok (.putfield 12, 3)) (kk : ∀ (H1 : Heap) (locs1 : List Loc), va_P (dC, dI) vwCl (cW cB cI cJ cZ cS cO b cs1) H1 → va_D A (cW cB cI cJ cZ cS cO b cs1) → va_S A H0 H1 locs1 → W p l e R s m args below meth c H1 locs1 cells slots Q (F0 m (pc + 3) ls rest)) : W p l e R s m args below meth c H locs cells slots Q (F0 m pc ls (rv b v :: .ref (b + i) :: rest)) := by
  obtain ⟨h1, rfl⟩ := pR_some hv
  obtain ⟨k, hk, hg⟩ := cO_at (b := b) (cB := cB) (cI := cI) (cJ := cJ) (cZ := cZ) (cS := cS) (cO := cO) (by decide) h1
  have hset := cW_putF (f := 2) (y := 2) (v := rv b v) (cs1 := sR cs 194 i v) (by decide) rfl hD hk rfl rfl rfl rfl rfl rfl (by show rv b (u2 (kR cs) 194 i v 194 i) = _; rw [u2_s]) (fun z j w hn => by
    have e9 : kR (sR cs 194 i v) z j = kR cs z j := u2_n hn
    match w with
    | 0 => rfl
    | 1 => rfl
    | 2 => show rv b (kR (sR cs 194 i v) z j) = rv b (kR cs z j); rw [e9]
    | _ + 3 => rfl)
  refine va_putF (D := (dC, dI)) (ci := 6) (v := rv b v) (ty := .object "StreamQueries$Columns") (C := RX5) (T := TX5) (N := 15) hx hb hts (fun w h => List.mem_cons_of_mem _ (uG_X5 w h)) tyX5 tyX5_ok nmX5 hown hK hP hD hS k hg rfl 2 (by decide) (hts _ (List.mem_cons_of_mem _ kw_660)) (fun _ h9 => h9) rfl hin rfl (by decide +kernel) (rv_nar b v _) (rv_fit b v _) (by rw [vL_len]; decide) hdg (fun H1 l1 q1 q2 q3 => ?_)
  rw [hset] at q1 q2
  exact kk H1 l1 q1 q2 q3
theorem fg_X5_20 {p : Program} {l : Launch} {e : Env} {R : Room} {s : State} {m : MethodId} {args : Array Value} {below : List Frame} {meth : Method} {c : Code} {H : Heap} {locs : List Loc} {cells slots : Nat} {Q : State → Prop} {cc : ByteArray} {pc : Nat} {ls : Array Slot} {rest : List Value} {y0 : MethodName} {c0 : ByteArray} {n0 : Nat} {r0 : Option FieldType} {dC : Nat → ClassId} {dI : Nat → Nat → Nat} {cB cI cJ cZ cS cO : ClassId} {b : Nat} {cs : CS} {i : Nat} {v : Nat} (hx : p.tables.exec = Jvm.exec) (hb : c.code = cc) (hts : ∀ w ∈ wsOf y0 c0 n0 r0, w.before args s = true) (hown : s.vm.findClass RX5 = some m.cls) (hK : va_K (dC, dI) vwCl [(cB, .byte), (cI, .int), (cJ, .long), (cZ, .boolean), (cS, .object "StreamQueries$Source"), (cO, .object "java/lang/Object")] s) (hP : va_P (dC, dI) vwCl (cW cB cI cJ cZ cS cO b cs) H) (hv : gA cs 6 195 i = some v) (hdg : decode cc pc = .ok (.getfield 20, 3)) (kk : W p l e R s m args below meth c H locs cells slots Q (F0 m (pc + 3) ls (.ref (b + v) :: rest))) : W p l e R s m args below meth c H locs cells slots Q (F0 m pc ls (.ref (b + i) :: rest)) := by
  obtain ⟨h1, h2⟩ := gA_some hv
  obtain ⟨k, -, hg⟩ := cO_at (b := b) (cB := cB) (cI := cI) (cJ := cJ) (cZ := cZ) (cS := cS) (cO := cO) (by decide) h1
  have hf : (vL b cs i (32 * 6) (tyX 6))[3]? = some (.ref (b + v)) := by
    show some (vV b cs 195 i 3) = _
    show some (rv b (kP cs 195 i)) = _
    rw [h2]; rfl
  exact va_get (D := (dC, dI)) (ci := 6) (C := RX5) (T := TX5) (N := 15) hx hb hts (fun w h => List.mem_cons_of_mem _ (uG_X5 w h)) hown hK hP k hg rfl 3 (by decide) (hts _ (List.mem_cons_of_mem _ kw_665)) (fun _ h9 => h9) hf hdg kk
theorem fg_X5_24 {p : Program} {l : Launch} {e : Env} {R : Room} {s : State} {m : MethodId} {args : Array Value} {below : List Frame} {meth : Method} {c : Code} {H : Heap} {locs : List Loc} {cells slots : Nat} {Q : State → Prop} {cc : ByteArray} {pc : Nat} {ls : Array Slot} {rest : List Value} {y0 : MethodName} {c0 : ByteArray} {n0 : Nat} {r0 : Option FieldType} {dC : Nat → ClassId} {dI : Nat → Nat → Nat} {cB cI cJ cZ cS cO : ClassId} {b : Nat} {cs : CS} {i : Nat} {v : Int32} (hx : p.tables.exec = Jvm.exec) (hb : c.code = cc) (hts : ∀ w ∈ wsOf y0 c0 n0 r0, w.before args s = true) (hown : s.vm.findClass RX5 = some m.cls) (hK : va_K (dC, dI) vwCl [(cB, .byte), (cI, .int), (cJ, .long), (cZ, .boolean), (cS, .object "StreamQueries$Source"), (cO, .object "java/lang/Object")] s) (hP : va_P (dC, dI) vwCl (cW cB cI cJ cZ cS cO b cs) H) (hv : gI cs 6 197 i = some v) (hdg : decode cc pc = .ok (.getfield 24, 3)) (kk : W p l e R s m args below meth c H locs cells slots Q (F0 m (pc + 3) ls (.int v :: rest))) : W p l e R s m args below meth c H locs cells slots Q (F0 m pc ls (.ref (b + i) :: rest)) := by
  obtain ⟨h1, h2⟩ := gI_some hv
  obtain ⟨k, -, hg⟩ := cO_at (b := b) (cB := cB) (cI := cI) (cJ := cJ) (cZ := cZ) (cS := cS) (cO := cO) (by decide) h1
  have hf : (vL b cs i (32 * 6) (tyX 6))[5]? = some (.int v) := by
    show some (vV b cs 197 i 0) = _
    show some (Value.int (kI cs 197 i)) = _
    rw [h2]
  exact va_get (D := (dC, dI)) (ci := 6) (C := RX5) (T := TX5) (N := 15) hx hb hts (fun w h => List.mem_cons_of_mem _ (uG_X5 w h)) hown hK hP k hg rfl 5 (by decide) (hts _ (List.mem_cons_of_mem _ kw_673)) (fun _ h9 => h9) hf hdg kk
theorem fp_X5_24 {p : Program} {l : Launch} {e : Env} {R : Room} {s : State} {m : MethodId} {args : Array Value} {below : List Frame} {meth : Method} {c : Code} {H : Heap} {locs : List Loc} {cells slots : Nat} {Q : State → Prop} {cc : ByteArray} {pc : Nat} {ls : Array Slot} {rest : List Value} {y0 : MethodName} {c0 : ByteArray} {n0 : Nat} {r0 : Option FieldType} {dC : Nat → ClassId} {dI : Nat → Nat → Nat} {cB cI cJ cZ cS cO : ClassId} {b : Nat} {cs : CS} {A : Nat → Prop} {H0 : Heap} {cs1 : CS} {i : Nat} {v : Int32} (hx : p.tables.exec = Jvm.exec) (hb : c.code = cc) (hts : ∀ w ∈ wsOf y0 c0 n0 r0, w.before args s = true) (hown : s.vm.findClass RX5 = some m.cls) (hK : va_K (dC, dI) vwCl [(cB, .byte), (cI, .int), (cJ, .long), (cZ, .boolean), (cS, .object "StreamQueries$Source"), (cO, .object "java/lang/Object")] s) (hP : va_P (dC, dI) vwCl (cW cB cI cJ cZ cS cO b cs) H) (hD : va_D A (cW cB cI cJ cZ cS cO b cs)) (hS : va_S A H0 H locs) (hv : pI cs 6 197 i v = some cs1) (hdg : decode cc pc = .ok (.putfield 24, 3)) (kk : ∀ (H1 : Heap) (locs1 : List Loc), va_P (dC, dI) vwCl (cW cB cI cJ cZ cS cO b cs1) H1 → va_D A (cW cB cI cJ cZ cS cO b cs1) → va_S A H0 H1 locs1 → W p l e R s m args below meth c H1 locs1 cells slots Q (F0 m (pc + 3) ls rest)) : W p l e R s m args below meth c H locs cells slots Q (F0 m pc ls (.int v :: .ref (b + i) :: rest)) := by
  obtain ⟨h1, rfl⟩ := pI_some hv
  obtain ⟨k, hk, hg⟩ := cO_at (b := b) (cB := cB) (cI := cI) (cJ := cJ) (cZ := cZ) (cS := cS) (cO := cO) (by decide) h1
  have hset := cW_putF (f := 5) (y := 0) (v := .int v) (cs1 := sI cs 197 i v) (by decide) rfl hD hk rfl rfl rfl rfl rfl rfl (by show Value.int (u2 (kI cs) 197 i v 197 i) = _; rw [u2_s]) (fun z j w hn => by
    have e9 : kI (sI cs 197 i v) z j = kI cs z j := u2_n hn
    match w with
    | 0 => show Value.int (kI (sI cs 197 i v) z j) = Value.int (kI cs z j); rw [e9]
    | 1 => rfl
    | 2 => rfl
    | _ + 3 => rfl)
  refine va_put (D := (dC, dI)) (ci := 6) (v := .int v) (ty := .int) (C := RX5) (T := TX5) (N := 15) hx hb hts (fun w h => List.mem_cons_of_mem _ (uG_X5 w h)) tyX5 tyX5_ok nmX5 hown hK hP hD hS k hg rfl 5 (by decide) (hts _ (List.mem_cons_of_mem _ kw_673)) (fun _ h9 => h9) rfl (by decide +kernel) rfl rfl (by rw [vL_len]; decide) hdg (fun H1 l1 q1 q2 q3 => ?_)
  rw [hset] at q1 q2
  exact kk H1 l1 q1 q2 q3
theorem fg_X5_28 {p : Program} {l : Launch} {e : Env} {R : Room} {s : State} {m : MethodId} {args : Array Value} {below : List Frame} {meth : Method} {c : Code} {H : Heap} {locs : List Loc} {cells slots : Nat} {Q : State → Prop} {cc : ByteArray} {pc : Nat} {ls : Array Slot} {rest : List Value} {y0 : MethodName} {c0 : ByteArray} {n0 : Nat} {r0 : Option FieldType} {dC : Nat → ClassId} {dI : Nat → Nat → Nat} {cB cI cJ cZ cS cO : ClassId} {b : Nat} {cs : CS} {i : Nat} {v : (Option Nat)} (hx : p.tables.exec = Jvm.exec) (hb : c.code = cc) (hts : ∀ w ∈ wsOf y0 c0 n0 r0, w.before args s = true) (hown : s.vm.findClass RX5 = some m.cls) (hK : va_K (dC, dI) vwCl [(cB, .byte), (cI, .int), (cJ, .long), (cZ, .boolean), (cS, .object "StreamQueries$Source"), (cO, .object "java/lang/Object")] s) (hP : va_P (dC, dI) vwCl (cW cB cI cJ cZ cS cO b cs) H) (hv : gR cs 6 200 i = some v) (hdg : decode cc pc = .ok (.getfield 28, 3)) (kk : W p l e R s m args below meth c H locs cells slots Q (F0 m (pc + 3) ls (rv b v :: rest))) : W p l e R s m args below meth c H locs cells slots Q (F0 m pc ls (.ref (b + i) :: rest)) := by
  obtain ⟨h1, h2⟩ := gR_some hv
  obtain ⟨k, -, hg⟩ := cO_at (b := b) (cB := cB) (cI := cI) (cJ := cJ) (cZ := cZ) (cS := cS) (cO := cO) (by decide) h1
  have hf : (vL b cs i (32 * 6) (tyX 6))[8]? = some (rv b v) := by
    show some (vV b cs 200 i 2) = _
    show some (rv b (kR cs 200 i)) = _
    rw [h2]
  exact va_get (D := (dC, dI)) (ci := 6) (C := RX5) (T := TX5) (N := 15) hx hb hts (fun w h => List.mem_cons_of_mem _ (uG_X5 w h)) hown hK hP k hg rfl 8 (by decide) (hts _ (List.mem_cons_of_mem _ kw_682)) (fun _ h9 => h9) hf hdg kk
theorem fp_X5_28 {p : Program} {l : Launch} {e : Env} {R : Room} {s : State} {m : MethodId} {args : Array Value} {below : List Frame} {meth : Method} {c : Code} {H : Heap} {locs : List Loc} {cells slots : Nat} {Q : State → Prop} {cc : ByteArray} {pc : Nat} {ls : Array Slot} {rest : List Value} {y0 : MethodName} {c0 : ByteArray} {n0 : Nat} {r0 : Option FieldType} {dC : Nat → ClassId} {dI : Nat → Nat → Nat} {cB cI cJ cZ cS cO : ClassId} {b : Nat} {cs : CS} {A : Nat → Prop} {H0 : Heap} {cs1 : CS} {i : Nat} {v : (Option Nat)} (hx : p.tables.exec = Jvm.exec) (hb : c.code = cc) (hts : ∀ w ∈ wsOf y0 c0 n0 r0, w.before args s = true) (hown : s.vm.findClass RX5 = some m.cls) (hK : va_K (dC, dI) vwCl [(cB, .byte), (cI, .int), (cJ, .long), (cZ, .boolean), (cS, .object "StreamQueries$Source"), (cO, .object "java/lang/Object")] s) (hP : va_P (dC, dI) vwCl (cW cB cI cJ cZ cS cO b cs) H) (hD : va_D A (cW cB cI cJ cZ cS cO b cs)) (hS : va_S A H0 H locs) (hin : meth.name = "<init>") (hv : pR cs 6 200 i v = some cs1) (hdg : decode cc pc = .ok (.putfield 28, 3)) (kk : ∀ (H1 : Heap) (locs1 : List Loc), va_P (dC, dI) vwCl (cW cB cI cJ cZ cS cO b cs1) H1 → va_D A (cW cB cI cJ cZ cS cO b cs1) → va_S A H0 H1 locs1 → W p l e R s m args below meth c H1 locs1 cells slots Q (F0 m (pc + 3) ls rest)) : W p l e R s m args below meth c H locs cells slots Q (F0 m pc ls (rv b v :: .ref (b + i) :: rest)) := by
  obtain ⟨h1, rfl⟩ := pR_some hv
  obtain ⟨k, hk, hg⟩ := cO_at (b := b) (cB := cB) (cI := cI) (cJ := cJ) (cZ := cZ) (cS := cS) (cO := cO) (by decide) h1
  have hset := cW_putF (f := 8) (y := 2) (v := rv b v) (cs1 := sR cs 200 i v) (by decide) rfl hD hk rfl rfl rfl rfl rfl rfl (by show rv b (u2 (kR cs) 200 i v 200 i) = _; rw [u2_s]) (fun z j w hn => by
    have e9 : kR (sR cs 200 i v) z j = kR cs z j := u2_n hn
    match w with
    | 0 => rfl
    | 1 => rfl
    | 2 => show rv b (kR (sR cs 200 i v) z j) = rv b (kR cs z j); rw [e9]
    | _ + 3 => rfl)
  refine va_putF (D := (dC, dI)) (ci := 6) (v := rv b v) (ty := .object "StreamQueries$Columns") (C := RX5) (T := TX5) (N := 15) hx hb hts (fun w h => List.mem_cons_of_mem _ (uG_X5 w h)) tyX5 tyX5_ok nmX5 hown hK hP hD hS k hg rfl 8 (by decide) (hts _ (List.mem_cons_of_mem _ kw_682)) (fun _ h9 => h9) rfl hin rfl (by decide +kernel) (rv_nar b v _) (rv_fit b v _) (by rw [vL_len]; decide) hdg (fun H1 l1 q1 q2 q3 => ?_)
  rw [hset] at q1 q2
  exact kk H1 l1 q1 q2 q3
theorem fg_X5_31 {p : Program} {l : Launch} {e : Env} {R : Room} {s : State} {m : MethodId} {args : Array Value} {below : List Frame} {meth : Method} {c : Code} {H : Heap} {locs : List Loc} {cells slots : Nat} {Q : State → Prop} {cc : ByteArray} {pc : Nat} {ls : Array Slot} {rest : List Value} {y0 : MethodName} {c0 : ByteArray} {n0 : Nat} {r0 : Option FieldType} {dC : Nat → ClassId} {dI : Nat → Nat → Nat} {cB cI cJ cZ cS cO : ClassId} {b : Nat} {cs : CS} {i : Nat} {v : Int32} (hx : p.tables.exec = Jvm.exec) (hb : c.code = cc) (hts : ∀ w ∈ wsOf y0 c0 n0 r0, w.before args s = true) (hown : s.vm.findClass RX5 = some m.cls) (hK : va_K (dC, dI) vwCl [(cB, .byte), (cI, .int), (cJ, .long), (cZ, .boolean), (cS, .object "StreamQueries$Source"), (cO, .object "java/lang/Object")] s) (hP : va_P (dC, dI) vwCl (cW cB cI cJ cZ cS cO b cs) H) (hv : gI cs 6 201 i = some v) (hdg : decode cc pc = .ok (.getfield 31, 3)) (kk : W p l e R s m args below meth c H locs cells slots Q (F0 m (pc + 3) ls (.int v :: rest))) : W p l e R s m args below meth c H locs cells slots Q (F0 m pc ls (.ref (b + i) :: rest)) := by
  obtain ⟨h1, h2⟩ := gI_some hv
  obtain ⟨k, -, hg⟩ := cO_at (b := b) (cB := cB) (cI := cI) (cJ := cJ) (cZ := cZ) (cS := cS) (cO := cO) (by decide) h1
  have hf : (vL b cs i (32 * 6) (tyX 6))[9]? = some (.int v) := by
    show some (vV b cs 201 i 0) = _
    show some (Value.int (kI cs 201 i)) = _
    rw [h2]
  exact va_get (D := (dC, dI)) (ci := 6) (C := RX5) (T := TX5) (N := 15) hx hb hts (fun w h => List.mem_cons_of_mem _ (uG_X5 w h)) hown hK hP k hg rfl 9 (by decide) (hts _ (List.mem_cons_of_mem _ kw_686)) (fun _ h9 => h9) hf hdg kk
theorem fp_X5_31 {p : Program} {l : Launch} {e : Env} {R : Room} {s : State} {m : MethodId} {args : Array Value} {below : List Frame} {meth : Method} {c : Code} {H : Heap} {locs : List Loc} {cells slots : Nat} {Q : State → Prop} {cc : ByteArray} {pc : Nat} {ls : Array Slot} {rest : List Value} {y0 : MethodName} {c0 : ByteArray} {n0 : Nat} {r0 : Option FieldType} {dC : Nat → ClassId} {dI : Nat → Nat → Nat} {cB cI cJ cZ cS cO : ClassId} {b : Nat} {cs : CS} {A : Nat → Prop} {H0 : Heap} {cs1 : CS} {i : Nat} {v : Int32} (hx : p.tables.exec = Jvm.exec) (hb : c.code = cc) (hts : ∀ w ∈ wsOf y0 c0 n0 r0, w.before args s = true) (hown : s.vm.findClass RX5 = some m.cls) (hK : va_K (dC, dI) vwCl [(cB, .byte), (cI, .int), (cJ, .long), (cZ, .boolean), (cS, .object "StreamQueries$Source"), (cO, .object "java/lang/Object")] s) (hP : va_P (dC, dI) vwCl (cW cB cI cJ cZ cS cO b cs) H) (hD : va_D A (cW cB cI cJ cZ cS cO b cs)) (hS : va_S A H0 H locs) (hv : pI cs 6 201 i v = some cs1) (hdg : decode cc pc = .ok (.putfield 31, 3)) (kk : ∀ (H1 : Heap) (locs1 : List Loc), va_P (dC, dI) vwCl (cW cB cI cJ cZ cS cO b cs1) H1 → va_D A (cW cB cI cJ cZ cS cO b cs1) → va_S A H0 H1 locs1 → W p l e R s m args below meth c H1 locs1 cells slots Q (F0 m (pc + 3) ls rest)) : W p l e R s m args below meth c H locs cells slots Q (F0 m pc ls (.int v :: .ref (b + i) :: rest)) := by
  obtain ⟨h1, rfl⟩ := pI_some hv
  obtain ⟨k, hk, hg⟩ := cO_at (b := b) (cB := cB) (cI := cI) (cJ := cJ) (cZ := cZ) (cS := cS) (cO := cO) (by decide) h1
  have hset := cW_putF (f := 9) (y := 0) (v := .int v) (cs1 := sI cs 201 i v) (by decide) rfl hD hk rfl rfl rfl rfl rfl rfl (by show Value.int (u2 (kI cs) 201 i v 201 i) = _; rw [u2_s]) (fun z j w hn => by
    have e9 : kI (sI cs 201 i v) z j = kI cs z j := u2_n hn
    match w with
    | 0 => show Value.int (kI (sI cs 201 i v) z j) = Value.int (kI cs z j); rw [e9]
    | 1 => rfl
    | 2 => rfl
    | _ + 3 => rfl)
  refine va_put (D := (dC, dI)) (ci := 6) (v := .int v) (ty := .int) (C := RX5) (T := TX5) (N := 15) hx hb hts (fun w h => List.mem_cons_of_mem _ (uG_X5 w h)) tyX5 tyX5_ok nmX5 hown hK hP hD hS k hg rfl 9 (by decide) (hts _ (List.mem_cons_of_mem _ kw_686)) (fun _ h9 => h9) rfl (by decide +kernel) rfl rfl (by rw [vL_len]; decide) hdg (fun H1 l1 q1 q2 q3 => ?_)
  rw [hset] at q1 q2
  exact kk H1 l1 q1 q2 q3
theorem fg_X5_34 {p : Program} {l : Launch} {e : Env} {R : Room} {s : State} {m : MethodId} {args : Array Value} {below : List Frame} {meth : Method} {c : Code} {H : Heap} {locs : List Loc} {cells slots : Nat} {Q : State → Prop} {cc : ByteArray} {pc : Nat} {ls : Array Slot} {rest : List Value} {y0 : MethodName} {c0 : ByteArray} {n0 : Nat} {r0 : Option FieldType} {dC : Nat → ClassId} {dI : Nat → Nat → Nat} {cB cI cJ cZ cS cO : ClassId} {b : Nat} {cs : CS} {i : Nat} {v : Nat} (hx : p.tables.exec = Jvm.exec) (hb : c.code = cc) (hts : ∀ w ∈ wsOf y0 c0 n0 r0, w.before args s = true) (hown : s.vm.findClass RX5 = some m.cls) (hK : va_K (dC, dI) vwCl [(cB, .byte), (cI, .int), (cJ, .long), (cZ, .boolean), (cS, .object "StreamQueries$Source"), (cO, .object "java/lang/Object")] s) (hP : va_P (dC, dI) vwCl (cW cB cI cJ cZ cS cO b cs) H) (hv : gA cs 6 202 i = some v) (hdg : decode cc pc = .ok (.getfield 34, 3)) (kk : W p l e R s m args below meth c H locs cells slots Q (F0 m (pc + 3) ls (.ref (b + v) :: rest))) : W p l e R s m args below meth c H locs cells slots Q (F0 m pc ls (.ref (b + i) :: rest)) := by
  obtain ⟨h1, h2⟩ := gA_some hv
  obtain ⟨k, -, hg⟩ := cO_at (b := b) (cB := cB) (cI := cI) (cJ := cJ) (cZ := cZ) (cS := cS) (cO := cO) (by decide) h1
  have hf : (vL b cs i (32 * 6) (tyX 6))[10]? = some (.ref (b + v)) := by
    show some (vV b cs 202 i 3) = _
    show some (rv b (kP cs 202 i)) = _
    rw [h2]; rfl
  exact va_get (D := (dC, dI)) (ci := 6) (C := RX5) (T := TX5) (N := 15) hx hb hts (fun w h => List.mem_cons_of_mem _ (uG_X5 w h)) hown hK hP k hg rfl 10 (by decide) (hts _ (List.mem_cons_of_mem _ kw_690)) (fun _ h9 => h9) hf hdg kk
theorem fg_X5_38 {p : Program} {l : Launch} {e : Env} {R : Room} {s : State} {m : MethodId} {args : Array Value} {below : List Frame} {meth : Method} {c : Code} {H : Heap} {locs : List Loc} {cells slots : Nat} {Q : State → Prop} {cc : ByteArray} {pc : Nat} {ls : Array Slot} {rest : List Value} {y0 : MethodName} {c0 : ByteArray} {n0 : Nat} {r0 : Option FieldType} {dC : Nat → ClassId} {dI : Nat → Nat → Nat} {cB cI cJ cZ cS cO : ClassId} {b : Nat} {cs : CS} {i : Nat} {v : Int32} (hx : p.tables.exec = Jvm.exec) (hb : c.code = cc) (hts : ∀ w ∈ wsOf y0 c0 n0 r0, w.before args s = true) (hown : s.vm.findClass RX5 = some m.cls) (hK : va_K (dC, dI) vwCl [(cB, .byte), (cI, .int), (cJ, .long), (cZ, .boolean), (cS, .object "StreamQueries$Source"), (cO, .object "java/lang/Object")] s) (hP : va_P (dC, dI) vwCl (cW cB cI cJ cZ cS cO b cs) H) (hv : gI cs 6 204 i = some v) (hdg : decode cc pc = .ok (.getfield 38, 3)) (kk : W p l e R s m args below meth c H locs cells slots Q (F0 m (pc + 3) ls (.int v :: rest))) : W p l e R s m args below meth c H locs cells slots Q (F0 m pc ls (.ref (b + i) :: rest)) := by
  obtain ⟨h1, h2⟩ := gI_some hv
  obtain ⟨k, -, hg⟩ := cO_at (b := b) (cB := cB) (cI := cI) (cJ := cJ) (cZ := cZ) (cS := cS) (cO := cO) (by decide) h1
  have hf : (vL b cs i (32 * 6) (tyX 6))[12]? = some (.int v) := by
    show some (vV b cs 204 i 0) = _
    show some (Value.int (kI cs 204 i)) = _
    rw [h2]
  exact va_get (D := (dC, dI)) (ci := 6) (C := RX5) (T := TX5) (N := 15) hx hb hts (fun w h => List.mem_cons_of_mem _ (uG_X5 w h)) hown hK hP k hg rfl 12 (by decide) (hts _ (List.mem_cons_of_mem _ kw_698)) (fun _ h9 => h9) hf hdg kk
theorem fp_X5_38 {p : Program} {l : Launch} {e : Env} {R : Room} {s : State} {m : MethodId} {args : Array Value} {below : List Frame} {meth : Method} {c : Code} {H : Heap} {locs : List Loc} {cells slots : Nat} {Q : State → Prop} {cc : ByteArray} {pc : Nat} {ls : Array Slot} {rest : List Value} {y0 : MethodName} {c0 : ByteArray} {n0 : Nat} {r0 : Option FieldType} {dC : Nat → ClassId} {dI : Nat → Nat → Nat} {cB cI cJ cZ cS cO : ClassId} {b : Nat} {cs : CS} {A : Nat → Prop} {H0 : Heap} {cs1 : CS} {i : Nat} {v : Int32} (hx : p.tables.exec = Jvm.exec) (hb : c.code = cc) (hts : ∀ w ∈ wsOf y0 c0 n0 r0, w.before args s = true) (hown : s.vm.findClass RX5 = some m.cls) (hK : va_K (dC, dI) vwCl [(cB, .byte), (cI, .int), (cJ, .long), (cZ, .boolean), (cS, .object "StreamQueries$Source"), (cO, .object "java/lang/Object")] s) (hP : va_P (dC, dI) vwCl (cW cB cI cJ cZ cS cO b cs) H) (hD : va_D A (cW cB cI cJ cZ cS cO b cs)) (hS : va_S A H0 H locs) (hv : pI cs 6 204 i v = some cs1) (hdg : decode cc pc = .ok (.putfield 38, 3)) (kk : ∀ (H1 : Heap) (locs1 : List Loc), va_P (dC, dI) vwCl (cW cB cI cJ cZ cS cO b cs1) H1 → va_D A (cW cB cI cJ cZ cS cO b cs1) → va_S A H0 H1 locs1 → W p l e R s m args below meth c H1 locs1 cells slots Q (F0 m (pc + 3) ls rest)) : W p l e R s m args below meth c H locs cells slots Q (F0 m pc ls (.int v :: .ref (b + i) :: rest)) := by
  obtain ⟨h1, rfl⟩ := pI_some hv
  obtain ⟨k, hk, hg⟩ := cO_at (b := b) (cB := cB) (cI := cI) (cJ := cJ) (cZ := cZ) (cS := cS) (cO := cO) (by decide) h1
  have hset := cW_putF (f := 12) (y := 0) (v := .int v) (cs1 := sI cs 204 i v) (by decide) rfl hD hk rfl rfl rfl rfl rfl rfl (by show Value.int (u2 (kI cs) 204 i v 204 i) = _; rw [u2_s]) (fun z j w hn => by
    have e9 : kI (sI cs 204 i v) z j = kI cs z j := u2_n hn
    match w with
    | 0 => show Value.int (kI (sI cs 204 i v) z j) = Value.int (kI cs z j); rw [e9]
    | 1 => rfl
    | 2 => rfl
    | _ + 3 => rfl)
  refine va_put (D := (dC, dI)) (ci := 6) (v := .int v) (ty := .int) (C := RX5) (T := TX5) (N := 15) hx hb hts (fun w h => List.mem_cons_of_mem _ (uG_X5 w h)) tyX5 tyX5_ok nmX5 hown hK hP hD hS k hg rfl 12 (by decide) (hts _ (List.mem_cons_of_mem _ kw_698)) (fun _ h9 => h9) rfl (by decide +kernel) rfl rfl (by rw [vL_len]; decide) hdg (fun H1 l1 q1 q2 q3 => ?_)
  rw [hset] at q1 q2
  exact kk H1 l1 q1 q2 q3
theorem fg_X5_41 {p : Program} {l : Launch} {e : Env} {R : Room} {s : State} {m : MethodId} {args : Array Value} {below : List Frame} {meth : Method} {c : Code} {H : Heap} {locs : List Loc} {cells slots : Nat} {Q : State → Prop} {cc : ByteArray} {pc : Nat} {ls : Array Slot} {rest : List Value} {y0 : MethodName} {c0 : ByteArray} {n0 : Nat} {r0 : Option FieldType} {dC : Nat → ClassId} {dI : Nat → Nat → Nat} {cB cI cJ cZ cS cO : ClassId} {b : Nat} {cs : CS} {i : Nat} {v : Int32} (hx : p.tables.exec = Jvm.exec) (hb : c.code = cc) (hts : ∀ w ∈ wsOf y0 c0 n0 r0, w.before args s = true) (hown : s.vm.findClass RX5 = some m.cls) (hK : va_K (dC, dI) vwCl [(cB, .byte), (cI, .int), (cJ, .long), (cZ, .boolean), (cS, .object "StreamQueries$Source"), (cO, .object "java/lang/Object")] s) (hP : va_P (dC, dI) vwCl (cW cB cI cJ cZ cS cO b cs) H) (hv : gI cs 6 198 i = some v) (hdg : decode cc pc = .ok (.getfield 41, 3)) (kk : W p l e R s m args below meth c H locs cells slots Q (F0 m (pc + 3) ls (.int v :: rest))) : W p l e R s m args below meth c H locs cells slots Q (F0 m pc ls (.ref (b + i) :: rest)) := by
  obtain ⟨h1, h2⟩ := gI_some hv
  obtain ⟨k, -, hg⟩ := cO_at (b := b) (cB := cB) (cI := cI) (cJ := cJ) (cZ := cZ) (cS := cS) (cO := cO) (by decide) h1
  have hf : (vL b cs i (32 * 6) (tyX 6))[6]? = some (.int v) := by
    show some (vV b cs 198 i 0) = _
    show some (Value.int (kI cs 198 i)) = _
    rw [h2]
  exact va_get (D := (dC, dI)) (ci := 6) (C := RX5) (T := TX5) (N := 15) hx hb hts (fun w h => List.mem_cons_of_mem _ (uG_X5 w h)) hown hK hP k hg rfl 6 (by decide) (hts _ (List.mem_cons_of_mem _ kw_677)) (fun _ h9 => h9) hf hdg kk
theorem fp_X5_41 {p : Program} {l : Launch} {e : Env} {R : Room} {s : State} {m : MethodId} {args : Array Value} {below : List Frame} {meth : Method} {c : Code} {H : Heap} {locs : List Loc} {cells slots : Nat} {Q : State → Prop} {cc : ByteArray} {pc : Nat} {ls : Array Slot} {rest : List Value} {y0 : MethodName} {c0 : ByteArray} {n0 : Nat} {r0 : Option FieldType} {dC : Nat → ClassId} {dI : Nat → Nat → Nat} {cB cI cJ cZ cS cO : ClassId} {b : Nat} {cs : CS} {A : Nat → Prop} {H0 : Heap} {cs1 : CS} {i : Nat} {v : Int32} (hx : p.tables.exec = Jvm.exec) (hb : c.code = cc) (hts : ∀ w ∈ wsOf y0 c0 n0 r0, w.before args s = true) (hown : s.vm.findClass RX5 = some m.cls) (hK : va_K (dC, dI) vwCl [(cB, .byte), (cI, .int), (cJ, .long), (cZ, .boolean), (cS, .object "StreamQueries$Source"), (cO, .object "java/lang/Object")] s) (hP : va_P (dC, dI) vwCl (cW cB cI cJ cZ cS cO b cs) H) (hD : va_D A (cW cB cI cJ cZ cS cO b cs)) (hS : va_S A H0 H locs) (hz : v = 0 ∨ v = 1) (hv : pI cs 6 198 i v = some cs1) (hdg : decode cc pc = .ok (.putfield 41, 3)) (kk : ∀ (H1 : Heap) (locs1 : List Loc), va_P (dC, dI) vwCl (cW cB cI cJ cZ cS cO b cs1) H1 → va_D A (cW cB cI cJ cZ cS cO b cs1) → va_S A H0 H1 locs1 → W p l e R s m args below meth c H1 locs1 cells slots Q (F0 m (pc + 3) ls rest)) : W p l e R s m args below meth c H locs cells slots Q (F0 m pc ls (.int v :: .ref (b + i) :: rest)) := by
  obtain ⟨h1, rfl⟩ := pI_some hv
  obtain ⟨k, hk, hg⟩ := cO_at (b := b) (cB := cB) (cI := cI) (cJ := cJ) (cZ := cZ) (cS := cS) (cO := cO) (by decide) h1
  have hset := cW_putF (f := 6) (y := 0) (v := .int v) (cs1 := sI cs 198 i v) (by decide) rfl hD hk rfl rfl rfl rfl rfl rfl (by show Value.int (u2 (kI cs) 198 i v 198 i) = _; rw [u2_s]) (fun z j w hn => by
    have e9 : kI (sI cs 198 i v) z j = kI cs z j := u2_n hn
    match w with
    | 0 => show Value.int (kI (sI cs 198 i v) z j) = Value.int (kI cs z j); rw [e9]
    | 1 => rfl
    | 2 => rfl
    | _ + 3 => rfl)
  refine va_put (D := (dC, dI)) (ci := 6) (v := .int v) (ty := .boolean) (C := RX5) (T := TX5) (N := 15) hx hb hts (fun w h => List.mem_cons_of_mem _ (uG_X5 w h)) tyX5 tyX5_ok nmX5 hown hK hP hD hS k hg rfl 6 (by decide) (hts _ (List.mem_cons_of_mem _ kw_677)) (fun _ h9 => h9) rfl (by decide +kernel) (nzN hz) (nzF hz) (by rw [vL_len]; decide) hdg (fun H1 l1 q1 q2 q3 => ?_)
  rw [hset] at q1 q2
  exact kk H1 l1 q1 q2 q3
theorem fg_X5_45 {p : Program} {l : Launch} {e : Env} {R : Room} {s : State} {m : MethodId} {args : Array Value} {below : List Frame} {meth : Method} {c : Code} {H : Heap} {locs : List Loc} {cells slots : Nat} {Q : State → Prop} {cc : ByteArray} {pc : Nat} {ls : Array Slot} {rest : List Value} {y0 : MethodName} {c0 : ByteArray} {n0 : Nat} {r0 : Option FieldType} {dC : Nat → ClassId} {dI : Nat → Nat → Nat} {cB cI cJ cZ cS cO : ClassId} {b : Nat} {cs : CS} {i : Nat} {v : Int32} (hx : p.tables.exec = Jvm.exec) (hb : c.code = cc) (hts : ∀ w ∈ wsOf y0 c0 n0 r0, w.before args s = true) (hown : s.vm.findClass RX5 = some m.cls) (hK : va_K (dC, dI) vwCl [(cB, .byte), (cI, .int), (cJ, .long), (cZ, .boolean), (cS, .object "StreamQueries$Source"), (cO, .object "java/lang/Object")] s) (hP : va_P (dC, dI) vwCl (cW cB cI cJ cZ cS cO b cs) H) (hv : gI cs 6 203 i = some v) (hdg : decode cc pc = .ok (.getfield 45, 3)) (kk : W p l e R s m args below meth c H locs cells slots Q (F0 m (pc + 3) ls (.int v :: rest))) : W p l e R s m args below meth c H locs cells slots Q (F0 m pc ls (.ref (b + i) :: rest)) := by
  obtain ⟨h1, h2⟩ := gI_some hv
  obtain ⟨k, -, hg⟩ := cO_at (b := b) (cB := cB) (cI := cI) (cJ := cJ) (cZ := cZ) (cS := cS) (cO := cO) (by decide) h1
  have hf : (vL b cs i (32 * 6) (tyX 6))[11]? = some (.int v) := by
    show some (vV b cs 203 i 0) = _
    show some (Value.int (kI cs 203 i)) = _
    rw [h2]
  exact va_get (D := (dC, dI)) (ci := 6) (C := RX5) (T := TX5) (N := 15) hx hb hts (fun w h => List.mem_cons_of_mem _ (uG_X5 w h)) hown hK hP k hg rfl 11 (by decide) (hts _ (List.mem_cons_of_mem _ kw_694)) (fun _ h9 => h9) hf hdg kk
theorem fp_X5_45 {p : Program} {l : Launch} {e : Env} {R : Room} {s : State} {m : MethodId} {args : Array Value} {below : List Frame} {meth : Method} {c : Code} {H : Heap} {locs : List Loc} {cells slots : Nat} {Q : State → Prop} {cc : ByteArray} {pc : Nat} {ls : Array Slot} {rest : List Value} {y0 : MethodName} {c0 : ByteArray} {n0 : Nat} {r0 : Option FieldType} {dC : Nat → ClassId} {dI : Nat → Nat → Nat} {cB cI cJ cZ cS cO : ClassId} {b : Nat} {cs : CS} {A : Nat → Prop} {H0 : Heap} {cs1 : CS} {i : Nat} {v : Int32} (hx : p.tables.exec = Jvm.exec) (hb : c.code = cc) (hts : ∀ w ∈ wsOf y0 c0 n0 r0, w.before args s = true) (hown : s.vm.findClass RX5 = some m.cls) (hK : va_K (dC, dI) vwCl [(cB, .byte), (cI, .int), (cJ, .long), (cZ, .boolean), (cS, .object "StreamQueries$Source"), (cO, .object "java/lang/Object")] s) (hP : va_P (dC, dI) vwCl (cW cB cI cJ cZ cS cO b cs) H) (hD : va_D A (cW cB cI cJ cZ cS cO b cs)) (hS : va_S A H0 H locs) (hv : pI cs 6 203 i v = some cs1) (hdg : decode cc pc = .ok (.putfield 45, 3)) (kk : ∀ (H1 : Heap) (locs1 : List Loc), va_P (dC, dI) vwCl (cW cB cI cJ cZ cS cO b cs1) H1 → va_D A (cW cB cI cJ cZ cS cO b cs1) → va_S A H0 H1 locs1 → W p l e R s m args below meth c H1 locs1 cells slots Q (F0 m (pc + 3) ls rest)) : W p l e R s m args below meth c H locs cells slots Q (F0 m pc ls (.int v :: .ref (b + i) :: rest)) := by
  obtain ⟨h1, rfl⟩ := pI_some hv
  obtain ⟨k, hk, hg⟩ := cO_at (b := b) (cB := cB) (cI := cI) (cJ := cJ) (cZ := cZ) (cS := cS) (cO := cO) (by decide) h1
  have hset := cW_putF (f := 11) (y := 0) (v := .int v) (cs1 := sI cs 203 i v) (by decide) rfl hD hk rfl rfl rfl rfl rfl rfl (by show Value.int (u2 (kI cs) 203 i v 203 i) = _; rw [u2_s]) (fun z j w hn => by
    have e9 : kI (sI cs 203 i v) z j = kI cs z j := u2_n hn
    match w with
    | 0 => show Value.int (kI (sI cs 203 i v) z j) = Value.int (kI cs z j); rw [e9]
    | 1 => rfl
    | 2 => rfl
    | _ + 3 => rfl)
  refine va_put (D := (dC, dI)) (ci := 6) (v := .int v) (ty := .int) (C := RX5) (T := TX5) (N := 15) hx hb hts (fun w h => List.mem_cons_of_mem _ (uG_X5 w h)) tyX5 tyX5_ok nmX5 hown hK hP hD hS k hg rfl 11 (by decide) (hts _ (List.mem_cons_of_mem _ kw_694)) (fun _ h9 => h9) rfl (by decide +kernel) rfl rfl (by rw [vL_len]; decide) hdg (fun H1 l1 q1 q2 q3 => ?_)
  rw [hset] at q1 q2
  exact kk H1 l1 q1 q2 q3
theorem fg_X5_48 {p : Program} {l : Launch} {e : Env} {R : Room} {s : State} {m : MethodId} {args : Array Value} {below : List Frame} {meth : Method} {c : Code} {H : Heap} {locs : List Loc} {cells slots : Nat} {Q : State → Prop} {cc : ByteArray} {pc : Nat} {ls : Array Slot} {rest : List Value} {y0 : MethodName} {c0 : ByteArray} {n0 : Nat} {r0 : Option FieldType} {dC : Nat → ClassId} {dI : Nat → Nat → Nat} {cB cI cJ cZ cS cO : ClassId} {b : Nat} {cs : CS} {i : Nat} {v : Int32} (hx : p.tables.exec = Jvm.exec) (hb : c.code = cc) (hts : ∀ w ∈ wsOf y0 c0 n0 r0, w.before args s = true) (hown : s.vm.findClass RX5 = some m.cls) (hK : va_K (dC, dI) vwCl [(cB, .byte), (cI, .int), (cJ, .long), (cZ, .boolean), (cS, .object "StreamQueries$Source"), (cO, .object "java/lang/Object")] s) (hP : va_P (dC, dI) vwCl (cW cB cI cJ cZ cS cO b cs) H) (hv : gI cs 6 196 i = some v) (hdg : decode cc pc = .ok (.getfield 48, 3)) (kk : W p l e R s m args below meth c H locs cells slots Q (F0 m (pc + 3) ls (.int v :: rest))) : W p l e R s m args below meth c H locs cells slots Q (F0 m pc ls (.ref (b + i) :: rest)) := by
  obtain ⟨h1, h2⟩ := gI_some hv
  obtain ⟨k, -, hg⟩ := cO_at (b := b) (cB := cB) (cI := cI) (cJ := cJ) (cZ := cZ) (cS := cS) (cO := cO) (by decide) h1
  have hf : (vL b cs i (32 * 6) (tyX 6))[4]? = some (.int v) := by
    show some (vV b cs 196 i 0) = _
    show some (Value.int (kI cs 196 i)) = _
    rw [h2]
  exact va_get (D := (dC, dI)) (ci := 6) (C := RX5) (T := TX5) (N := 15) hx hb hts (fun w h => List.mem_cons_of_mem _ (uG_X5 w h)) hown hK hP k hg rfl 4 (by decide) (hts _ (List.mem_cons_of_mem _ kw_669)) (fun _ h9 => h9) hf hdg kk
theorem fp_X5_48 {p : Program} {l : Launch} {e : Env} {R : Room} {s : State} {m : MethodId} {args : Array Value} {below : List Frame} {meth : Method} {c : Code} {H : Heap} {locs : List Loc} {cells slots : Nat} {Q : State → Prop} {cc : ByteArray} {pc : Nat} {ls : Array Slot} {rest : List Value} {y0 : MethodName} {c0 : ByteArray} {n0 : Nat} {r0 : Option FieldType} {dC : Nat → ClassId} {dI : Nat → Nat → Nat} {cB cI cJ cZ cS cO : ClassId} {b : Nat} {cs : CS} {A : Nat → Prop} {H0 : Heap} {cs1 : CS} {i : Nat} {v : Int32} (hx : p.tables.exec = Jvm.exec) (hb : c.code = cc) (hts : ∀ w ∈ wsOf y0 c0 n0 r0, w.before args s = true) (hown : s.vm.findClass RX5 = some m.cls) (hK : va_K (dC, dI) vwCl [(cB, .byte), (cI, .int), (cJ, .long), (cZ, .boolean), (cS, .object "StreamQueries$Source"), (cO, .object "java/lang/Object")] s) (hP : va_P (dC, dI) vwCl (cW cB cI cJ cZ cS cO b cs) H) (hD : va_D A (cW cB cI cJ cZ cS cO b cs)) (hS : va_S A H0 H locs) (hv : pI cs 6 196 i v = some cs1) (hdg : decode cc pc = .ok (.putfield 48, 3)) (kk : ∀ (H1 : Heap) (locs1 : List Loc), va_P (dC, dI) vwCl (cW cB cI cJ cZ cS cO b cs1) H1 → va_D A (cW cB cI cJ cZ cS cO b cs1) → va_S A H0 H1 locs1 → W p l e R s m args below meth c H1 locs1 cells slots Q (F0 m (pc + 3) ls rest)) : W p l e R s m args below meth c H locs cells slots Q (F0 m pc ls (.int v :: .ref (b + i) :: rest)) := by
  obtain ⟨h1, rfl⟩ := pI_some hv
  obtain ⟨k, hk, hg⟩ := cO_at (b := b) (cB := cB) (cI := cI) (cJ := cJ) (cZ := cZ) (cS := cS) (cO := cO) (by decide) h1
  have hset := cW_putF (f := 4) (y := 0) (v := .int v) (cs1 := sI cs 196 i v) (by decide) rfl hD hk rfl rfl rfl rfl rfl rfl (by show Value.int (u2 (kI cs) 196 i v 196 i) = _; rw [u2_s]) (fun z j w hn => by
    have e9 : kI (sI cs 196 i v) z j = kI cs z j := u2_n hn
    match w with
    | 0 => show Value.int (kI (sI cs 196 i v) z j) = Value.int (kI cs z j); rw [e9]
    | 1 => rfl
    | 2 => rfl
    | _ + 3 => rfl)
  refine va_put (D := (dC, dI)) (ci := 6) (v := .int v) (ty := .int) (C := RX5) (T := TX5) (N := 15) hx hb hts (fun w h => List.mem_cons_of_mem _ (uG_X5 w h)) tyX5 tyX5_ok nmX5 hown hK hP hD hS k hg rfl 4 (by decide) (hts _ (List.mem_cons_of_mem _ kw_669)) (fun _ h9 => h9) rfl (by decide +kernel) rfl rfl (by rw [vL_len]; decide) hdg (fun H1 l1 q1 q2 q3 => ?_)
  rw [hset] at q1 q2
  exact kk H1 l1 q1 q2 q3
theorem fg_X5_51 {p : Program} {l : Launch} {e : Env} {R : Room} {s : State} {m : MethodId} {args : Array Value} {below : List Frame} {meth : Method} {c : Code} {H : Heap} {locs : List Loc} {cells slots : Nat} {Q : State → Prop} {cc : ByteArray} {pc : Nat} {ls : Array Slot} {rest : List Value} {y0 : MethodName} {c0 : ByteArray} {n0 : Nat} {r0 : Option FieldType} {dC : Nat → ClassId} {dI : Nat → Nat → Nat} {cB cI cJ cZ cS cO : ClassId} {b : Nat} {cs : CS} {i : Nat} {v : (Option Nat)} (hx : p.tables.exec = Jvm.exec) (hb : c.code = cc) (hts : ∀ w ∈ wsOf y0 c0 n0 r0, w.before args s = true) (hown : s.vm.findClass RX5 = some m.cls) (hK : va_K (dC, dI) vwCl [(cB, .byte), (cI, .int), (cJ, .long), (cZ, .boolean), (cS, .object "StreamQueries$Source"), (cO, .object "java/lang/Object")] s) (hP : va_P (dC, dI) vwCl (cW cB cI cJ cZ cS cO b cs) H) (hv : gR cs 7 235 i = some v) (hdg : decode cc pc = .ok (.getfield 51, 3)) (kk : W p l e R s m args below meth c H locs cells slots Q (F0 m (pc + 3) ls (rv b v :: rest))) : W p l e R s m args below meth c H locs cells slots Q (F0 m pc ls (.ref (b + i) :: rest)) := by
  obtain ⟨h1, h2⟩ := gR_some hv
  obtain ⟨k, -, hg⟩ := cO_at (b := b) (cB := cB) (cI := cI) (cJ := cJ) (cZ := cZ) (cS := cS) (cO := cO) (by decide) h1
  have hf : (vL b cs i (32 * 7) (tyX 7))[11]? = some (rv b v) := by
    show some (vV b cs 235 i 2) = _
    show some (rv b (kR cs 235 i)) = _
    rw [h2]
  exact va_get (D := (dC, dI)) (ci := 7) (C := RX6) (T := TX6) (N := 12) hx hb hts (fun w h => List.mem_cons_of_mem _ (uG_X6 w h)) hown hK hP k hg rfl 11 (by decide) (hts _ (List.mem_cons_of_mem _ kw_1085)) (fun _ h9 => h9) hf hdg kk
theorem fg_X5_54 {p : Program} {l : Launch} {e : Env} {R : Room} {s : State} {m : MethodId} {args : Array Value} {below : List Frame} {meth : Method} {c : Code} {H : Heap} {locs : List Loc} {cells slots : Nat} {Q : State → Prop} {cc : ByteArray} {pc : Nat} {ls : Array Slot} {rest : List Value} {y0 : MethodName} {c0 : ByteArray} {n0 : Nat} {r0 : Option FieldType} {dC : Nat → ClassId} {dI : Nat → Nat → Nat} {cB cI cJ cZ cS cO : ClassId} {b : Nat} {cs : CS} {i : Nat} {v : Int32} (hx : p.tables.exec = Jvm.exec) (hb : c.code = cc) (hts : ∀ w ∈ wsOf y0 c0 n0 r0, w.before args s = true) (hown : s.vm.findClass RX5 = some m.cls) (hK : va_K (dC, dI) vwCl [(cB, .byte), (cI, .int), (cJ, .long), (cZ, .boolean), (cS, .object "StreamQueries$Source"), (cO, .object "java/lang/Object")] s) (hP : va_P (dC, dI) vwCl (cW cB cI cJ cZ cS cO b cs) H) (hv : gI cs 3 96 i = some v) (hdg : decode cc pc = .ok (.getfield 54, 3)) (kk : W p l e R s m args below meth c H locs cells slots Q (F0 m (pc + 3) ls (.int v :: rest))) : W p l e R s m args below meth c H locs cells slots Q (F0 m pc ls (.ref (b + i) :: rest)) := by
  obtain ⟨h1, h2⟩ := gI_some hv
  obtain ⟨k, -, hg⟩ := cO_at (b := b) (cB := cB) (cI := cI) (cJ := cJ) (cZ := cZ) (cS := cS) (cO := cO) (by decide) h1
  have hf : (vL b cs i (32 * 3) (tyX 3))[0]? = some (.int v) := by
    show some (vV b cs 96 i 0) = _
    show some (Value.int (kI cs 96 i)) = _
    rw [h2]
  exact va_get (D := (dC, dI)) (ci := 3) (C := RX2) (T := TX2) (N := 5) hx hb hts (fun w h => List.mem_cons_of_mem _ (uG_X2 w h)) hown hK hP k hg rfl 0 (by decide) (hts _ (List.mem_cons_of_mem _ kw_630)) (fun _ h9 => h9) hf hdg kk
theorem fp_X5_54 {p : Program} {l : Launch} {e : Env} {R : Room} {s : State} {m : MethodId} {args : Array Value} {below : List Frame} {meth : Method} {c : Code} {H : Heap} {locs : List Loc} {cells slots : Nat} {Q : State → Prop} {cc : ByteArray} {pc : Nat} {ls : Array Slot} {rest : List Value} {y0 : MethodName} {c0 : ByteArray} {n0 : Nat} {r0 : Option FieldType} {dC : Nat → ClassId} {dI : Nat → Nat → Nat} {cB cI cJ cZ cS cO : ClassId} {b : Nat} {cs : CS} {A : Nat → Prop} {H0 : Heap} {cs1 : CS} {i : Nat} {v : Int32} (hx : p.tables.exec = Jvm.exec) (hb : c.code = cc) (hts : ∀ w ∈ wsOf y0 c0 n0 r0, w.before args s = true) (hown : s.vm.findClass RX5 = some m.cls) (hK : va_K (dC, dI) vwCl [(cB, .byte), (cI, .int), (cJ, .long), (cZ, .boolean), (cS, .object "StreamQueries$Source"), (cO, .object "java/lang/Object")] s) (hP : va_P (dC, dI) vwCl (cW cB cI cJ cZ cS cO b cs) H) (hD : va_D A (cW cB cI cJ cZ cS cO b cs)) (hS : va_S A H0 H locs) (hv : pI cs 3 96 i v = some cs1) (hdg : decode cc pc = .ok (.putfield 54, 3)) (kk : ∀ (H1 : Heap) (locs1 : List Loc), va_P (dC, dI) vwCl (cW cB cI cJ cZ cS cO b cs1) H1 → va_D A (cW cB cI cJ cZ cS cO b cs1) → va_S A H0 H1 locs1 → W p l e R s m args below meth c H1 locs1 cells slots Q (F0 m (pc + 3) ls rest)) : W p l e R s m args below meth c H locs cells slots Q (F0 m pc ls (.int v :: .ref (b + i) :: rest)) := by
  obtain ⟨h1, rfl⟩ := pI_some hv
  obtain ⟨k, hk, hg⟩ := cO_at (b := b) (cB := cB) (cI := cI) (cJ := cJ) (cZ := cZ) (cS := cS) (cO := cO) (by decide) h1
  have hset := cW_putF (f := 0) (y := 0) (v := .int v) (cs1 := sI cs 96 i v) (by decide) rfl hD hk rfl rfl rfl rfl rfl rfl (by show Value.int (u2 (kI cs) 96 i v 96 i) = _; rw [u2_s]) (fun z j w hn => by
    have e9 : kI (sI cs 96 i v) z j = kI cs z j := u2_n hn
    match w with
    | 0 => show Value.int (kI (sI cs 96 i v) z j) = Value.int (kI cs z j); rw [e9]
    | 1 => rfl
    | 2 => rfl
    | _ + 3 => rfl)
  refine va_put (D := (dC, dI)) (ci := 3) (v := .int v) (ty := .int) (C := RX2) (T := TX2) (N := 5) hx hb hts (fun w h => List.mem_cons_of_mem _ (uG_X2 w h)) tyX2 tyX2_ok nmX2 hown hK hP hD hS k hg rfl 0 (by decide) (hts _ (List.mem_cons_of_mem _ kw_630)) (fun _ h9 => h9) rfl (by decide +kernel) rfl rfl (by rw [vL_len]; decide) hdg (fun H1 l1 q1 q2 q3 => ?_)
  rw [hset] at q1 q2
  exact kk H1 l1 q1 q2 q3
theorem fg_X6_9 {p : Program} {l : Launch} {e : Env} {R : Room} {s : State} {m : MethodId} {args : Array Value} {below : List Frame} {meth : Method} {c : Code} {H : Heap} {locs : List Loc} {cells slots : Nat} {Q : State → Prop} {cc : ByteArray} {pc : Nat} {ls : Array Slot} {rest : List Value} {y0 : MethodName} {c0 : ByteArray} {n0 : Nat} {r0 : Option FieldType} {dC : Nat → ClassId} {dI : Nat → Nat → Nat} {cB cI cJ cZ cS cO : ClassId} {b : Nat} {cs : CS} {i : Nat} {v : Int32} (hx : p.tables.exec = Jvm.exec) (hb : c.code = cc) (hts : ∀ w ∈ wsOf y0 c0 n0 r0, w.before args s = true) (hown : s.vm.findClass RX6 = some m.cls) (hK : va_K (dC, dI) vwCl [(cB, .byte), (cI, .int), (cJ, .long), (cZ, .boolean), (cS, .object "StreamQueries$Source"), (cO, .object "java/lang/Object")] s) (hP : va_P (dC, dI) vwCl (cW cB cI cJ cZ cS cO b cs) H) (hv : gI cs 7 224 i = some v) (hdg : decode cc pc = .ok (.getfield 9, 3)) (kk : W p l e R s m args below meth c H locs cells slots Q (F0 m (pc + 3) ls (.int v :: rest))) : W p l e R s m args below meth c H locs cells slots Q (F0 m pc ls (.ref (b + i) :: rest)) := by
  obtain ⟨h1, h2⟩ := gI_some hv
  obtain ⟨k, -, hg⟩ := cO_at (b := b) (cB := cB) (cI := cI) (cJ := cJ) (cZ := cZ) (cS := cS) (cO := cO) (by decide) h1
  have hf : (vL b cs i (32 * 7) (tyX 7))[0]? = some (.int v) := by
    show some (vV b cs 224 i 0) = _
    show some (Value.int (kI cs 224 i)) = _
    rw [h2]
  exact va_get (D := (dC, dI)) (ci := 7) (C := RX6) (T := TX6) (N := 12) hx hb hts (fun w h => List.mem_cons_of_mem _ (uG_X6 w h)) hown hK hP k hg rfl 0 (by decide) (hts _ (List.mem_cons_of_mem _ kw_1054)) (fun _ h9 => h9) hf hdg kk
theorem fp_X6_9 {p : Program} {l : Launch} {e : Env} {R : Room} {s : State} {m : MethodId} {args : Array Value} {below : List Frame} {meth : Method} {c : Code} {H : Heap} {locs : List Loc} {cells slots : Nat} {Q : State → Prop} {cc : ByteArray} {pc : Nat} {ls : Array Slot} {rest : List Value} {y0 : MethodName} {c0 : ByteArray} {n0 : Nat} {r0 : Option FieldType} {dC : Nat → ClassId} {dI : Nat → Nat → Nat} {cB cI cJ cZ cS cO : ClassId} {b : Nat} {cs : CS} {A : Nat → Prop} {H0 : Heap} {cs1 : CS} {i : Nat} {v : Int32} (hx : p.tables.exec = Jvm.exec) (hb : c.code = cc) (hts : ∀ w ∈ wsOf y0 c0 n0 r0, w.before args s = true) (hown : s.vm.findClass RX6 = some m.cls) (hK : va_K (dC, dI) vwCl [(cB, .byte), (cI, .int), (cJ, .long), (cZ, .boolean), (cS, .object "StreamQueries$Source"), (cO, .object "java/lang/Object")] s) (hP : va_P (dC, dI) vwCl (cW cB cI cJ cZ cS cO b cs) H) (hD : va_D A (cW cB cI cJ cZ cS cO b cs)) (hS : va_S A H0 H locs) (hv : pI cs 7 224 i v = some cs1) (hdg : decode cc pc = .ok (.putfield 9, 3)) (kk : ∀ (H1 : Heap) (locs1 : List Loc), va_P (dC, dI) vwCl (cW cB cI cJ cZ cS cO b cs1) H1 → va_D A (cW cB cI cJ cZ cS cO b cs1) → va_S A H0 H1 locs1 → W p l e R s m args below meth c H1 locs1 cells slots Q (F0 m (pc + 3) ls rest)) : W p l e R s m args below meth c H locs cells slots Q (F0 m pc ls (.int v :: .ref (b + i) :: rest)) := by
  obtain ⟨h1, rfl⟩ := pI_some hv
  obtain ⟨k, hk, hg⟩ := cO_at (b := b) (cB := cB) (cI := cI) (cJ := cJ) (cZ := cZ) (cS := cS) (cO := cO) (by decide) h1
  have hset := cW_putF (f := 0) (y := 0) (v := .int v) (cs1 := sI cs 224 i v) (by decide) rfl hD hk rfl rfl rfl rfl rfl rfl (by show Value.int (u2 (kI cs) 224 i v 224 i) = _; rw [u2_s]) (fun z j w hn => by
    have e9 : kI (sI cs 224 i v) z j = kI cs z j := u2_n hn
    match w with
    | 0 => show Value.int (kI (sI cs 224 i v) z j) = Value.int (kI cs z j); rw [e9]
    | 1 => rfl
    | 2 => rfl
    | _ + 3 => rfl)
  refine va_put (D := (dC, dI)) (ci := 7) (v := .int v) (ty := .int) (C := RX6) (T := TX6) (N := 12) hx hb hts (fun w h => List.mem_cons_of_mem _ (uG_X6 w h)) tyX6 tyX6_ok nmX6 hown hK hP hD hS k hg rfl 0 (by decide) (hts _ (List.mem_cons_of_mem _ kw_1054)) (fun _ h9 => h9) rfl (by decide +kernel) rfl rfl (by rw [vL_len]; decide) hdg (fun H1 l1 q1 q2 q3 => ?_)
  rw [hset] at q1 q2
  exact kk H1 l1 q1 q2 q3
theorem fg_X6_17 {p : Program} {l : Launch} {e : Env} {R : Room} {s : State} {m : MethodId} {args : Array Value} {below : List Frame} {meth : Method} {c : Code} {H : Heap} {locs : List Loc} {cells slots : Nat} {Q : State → Prop} {cc : ByteArray} {pc : Nat} {ls : Array Slot} {rest : List Value} {y0 : MethodName} {c0 : ByteArray} {n0 : Nat} {r0 : Option FieldType} {dC : Nat → ClassId} {dI : Nat → Nat → Nat} {cB cI cJ cZ cS cO : ClassId} {b : Nat} {cs : CS} {i : Nat} {v : Int64} (hx : p.tables.exec = Jvm.exec) (hb : c.code = cc) (hts : ∀ w ∈ wsOf y0 c0 n0 r0, w.before args s = true) (hown : s.vm.findClass RX6 = some m.cls) (hK : va_K (dC, dI) vwCl [(cB, .byte), (cI, .int), (cJ, .long), (cZ, .boolean), (cS, .object "StreamQueries$Source"), (cO, .object "java/lang/Object")] s) (hP : va_P (dC, dI) vwCl (cW cB cI cJ cZ cS cO b cs) H) (hv : gJ cs 7 228 i = some v) (hdg : decode cc pc = .ok (.getfield 17, 3)) (kk : W p l e R s m args below meth c H locs cells slots Q (F0 m (pc + 3) ls (.long v :: rest))) : W p l e R s m args below meth c H locs cells slots Q (F0 m pc ls (.ref (b + i) :: rest)) := by
  obtain ⟨h1, h2⟩ := gJ_some hv
  obtain ⟨k, -, hg⟩ := cO_at (b := b) (cB := cB) (cI := cI) (cJ := cJ) (cZ := cZ) (cS := cS) (cO := cO) (by decide) h1
  have hf : (vL b cs i (32 * 7) (tyX 7))[4]? = some (.long v) := by
    show some (vV b cs 228 i 1) = _
    show some (Value.long (kJ cs 228 i)) = _
    rw [h2]
  exact va_get (D := (dC, dI)) (ci := 7) (C := RX6) (T := TX6) (N := 12) hx hb hts (fun w h => List.mem_cons_of_mem _ (uG_X6 w h)) hown hK hP k hg rfl 4 (by decide) (hts _ (List.mem_cons_of_mem _ kw_1065)) (fun _ h9 => h9) hf hdg kk
theorem fp_X6_17 {p : Program} {l : Launch} {e : Env} {R : Room} {s : State} {m : MethodId} {args : Array Value} {below : List Frame} {meth : Method} {c : Code} {H : Heap} {locs : List Loc} {cells slots : Nat} {Q : State → Prop} {cc : ByteArray} {pc : Nat} {ls : Array Slot} {rest : List Value} {y0 : MethodName} {c0 : ByteArray} {n0 : Nat} {r0 : Option FieldType} {dC : Nat → ClassId} {dI : Nat → Nat → Nat} {cB cI cJ cZ cS cO : ClassId} {b : Nat} {cs : CS} {A : Nat → Prop} {H0 : Heap} {cs1 : CS} {i : Nat} {v : Int64} (hx : p.tables.exec = Jvm.exec) (hb : c.code = cc) (hts : ∀ w ∈ wsOf y0 c0 n0 r0, w.before args s = true) (hown : s.vm.findClass RX6 = some m.cls) (hK : va_K (dC, dI) vwCl [(cB, .byte), (cI, .int), (cJ, .long), (cZ, .boolean), (cS, .object "StreamQueries$Source"), (cO, .object "java/lang/Object")] s) (hP : va_P (dC, dI) vwCl (cW cB cI cJ cZ cS cO b cs) H) (hD : va_D A (cW cB cI cJ cZ cS cO b cs)) (hS : va_S A H0 H locs) (hv : pJ cs 7 228 i v = some cs1) (hdg : decode cc pc = .ok (.putfield 17, 3)) (kk : ∀ (H1 : Heap) (locs1 : List Loc), va_P (dC, dI) vwCl (cW cB cI cJ cZ cS cO b cs1) H1 → va_D A (cW cB cI cJ cZ cS cO b cs1) → va_S A H0 H1 locs1 → W p l e R s m args below meth c H1 locs1 cells slots Q (F0 m (pc + 3) ls rest)) : W p l e R s m args below meth c H locs cells slots Q (F0 m pc ls (.long v :: .ref (b + i) :: rest)) := by
  obtain ⟨h1, rfl⟩ := pJ_some hv
  obtain ⟨k, hk, hg⟩ := cO_at (b := b) (cB := cB) (cI := cI) (cJ := cJ) (cZ := cZ) (cS := cS) (cO := cO) (by decide) h1
  have hset := cW_putF (f := 4) (y := 1) (v := .long v) (cs1 := sJ cs 228 i v) (by decide) rfl hD hk rfl rfl rfl rfl rfl rfl (by show Value.long (u2 (kJ cs) 228 i v 228 i) = _; rw [u2_s]) (fun z j w hn => by
    have e9 : kJ (sJ cs 228 i v) z j = kJ cs z j := u2_n hn
    match w with
    | 0 => rfl
    | 1 => show Value.long (kJ (sJ cs 228 i v) z j) = Value.long (kJ cs z j); rw [e9]
    | 2 => rfl
    | _ + 3 => rfl)
  refine va_put (D := (dC, dI)) (ci := 7) (v := .long v) (ty := .long) (C := RX6) (T := TX6) (N := 12) hx hb hts (fun w h => List.mem_cons_of_mem _ (uG_X6 w h)) tyX6 tyX6_ok nmX6 hown hK hP hD hS k hg rfl 4 (by decide) (hts _ (List.mem_cons_of_mem _ kw_1065)) (fun _ h9 => h9) rfl (by decide +kernel) rfl rfl (by rw [vL_len]; decide) hdg (fun H1 l1 q1 q2 q3 => ?_)
  rw [hset] at q1 q2
  exact kk H1 l1 q1 q2 q3
theorem fg_X6_21 {p : Program} {l : Launch} {e : Env} {R : Room} {s : State} {m : MethodId} {args : Array Value} {below : List Frame} {meth : Method} {c : Code} {H : Heap} {locs : List Loc} {cells slots : Nat} {Q : State → Prop} {cc : ByteArray} {pc : Nat} {ls : Array Slot} {rest : List Value} {y0 : MethodName} {c0 : ByteArray} {n0 : Nat} {r0 : Option FieldType} {dC : Nat → ClassId} {dI : Nat → Nat → Nat} {cB cI cJ cZ cS cO : ClassId} {b : Nat} {cs : CS} {i : Nat} {v : Int64} (hx : p.tables.exec = Jvm.exec) (hb : c.code = cc) (hts : ∀ w ∈ wsOf y0 c0 n0 r0, w.before args s = true) (hown : s.vm.findClass RX6 = some m.cls) (hK : va_K (dC, dI) vwCl [(cB, .byte), (cI, .int), (cJ, .long), (cZ, .boolean), (cS, .object "StreamQueries$Source"), (cO, .object "java/lang/Object")] s) (hP : va_P (dC, dI) vwCl (cW cB cI cJ cZ cS cO b cs) H) (hv : gJ cs 7 230 i = some v) (hdg : decode cc pc = .ok (.getfield 21, 3)) (kk : W p l e R s m args below meth c H locs cells slots Q (F0 m (pc + 3) ls (.long v :: rest))) : W p l e R s m args below meth c H locs cells slots Q (F0 m pc ls (.ref (b + i) :: rest)) := by
  obtain ⟨h1, h2⟩ := gJ_some hv
  obtain ⟨k, -, hg⟩ := cO_at (b := b) (cB := cB) (cI := cI) (cJ := cJ) (cZ := cZ) (cS := cS) (cO := cO) (by decide) h1
  have hf : (vL b cs i (32 * 7) (tyX 7))[6]? = some (.long v) := by
    show some (vV b cs 230 i 1) = _
    show some (Value.long (kJ cs 230 i)) = _
    rw [h2]
  exact va_get (D := (dC, dI)) (ci := 7) (C := RX6) (T := TX6) (N := 12) hx hb hts (fun w h => List.mem_cons_of_mem _ (uG_X6 w h)) hown hK hP k hg rfl 6 (by decide) (hts _ (List.mem_cons_of_mem _ kw_1070)) (fun _ h9 => h9) hf hdg kk
theorem fp_X6_21 {p : Program} {l : Launch} {e : Env} {R : Room} {s : State} {m : MethodId} {args : Array Value} {below : List Frame} {meth : Method} {c : Code} {H : Heap} {locs : List Loc} {cells slots : Nat} {Q : State → Prop} {cc : ByteArray} {pc : Nat} {ls : Array Slot} {rest : List Value} {y0 : MethodName} {c0 : ByteArray} {n0 : Nat} {r0 : Option FieldType} {dC : Nat → ClassId} {dI : Nat → Nat → Nat} {cB cI cJ cZ cS cO : ClassId} {b : Nat} {cs : CS} {A : Nat → Prop} {H0 : Heap} {cs1 : CS} {i : Nat} {v : Int64} (hx : p.tables.exec = Jvm.exec) (hb : c.code = cc) (hts : ∀ w ∈ wsOf y0 c0 n0 r0, w.before args s = true) (hown : s.vm.findClass RX6 = some m.cls) (hK : va_K (dC, dI) vwCl [(cB, .byte), (cI, .int), (cJ, .long), (cZ, .boolean), (cS, .object "StreamQueries$Source"), (cO, .object "java/lang/Object")] s) (hP : va_P (dC, dI) vwCl (cW cB cI cJ cZ cS cO b cs) H) (hD : va_D A (cW cB cI cJ cZ cS cO b cs)) (hS : va_S A H0 H locs) (hv : pJ cs 7 230 i v = some cs1) (hdg : decode cc pc = .ok (.putfield 21, 3)) (kk : ∀ (H1 : Heap) (locs1 : List Loc), va_P (dC, dI) vwCl (cW cB cI cJ cZ cS cO b cs1) H1 → va_D A (cW cB cI cJ cZ cS cO b cs1) → va_S A H0 H1 locs1 → W p l e R s m args below meth c H1 locs1 cells slots Q (F0 m (pc + 3) ls rest)) : W p l e R s m args below meth c H locs cells slots Q (F0 m pc ls (.long v :: .ref (b + i) :: rest)) := by
  obtain ⟨h1, rfl⟩ := pJ_some hv
  obtain ⟨k, hk, hg⟩ := cO_at (b := b) (cB := cB) (cI := cI) (cJ := cJ) (cZ := cZ) (cS := cS) (cO := cO) (by decide) h1
  have hset := cW_putF (f := 6) (y := 1) (v := .long v) (cs1 := sJ cs 230 i v) (by decide) rfl hD hk rfl rfl rfl rfl rfl rfl (by show Value.long (u2 (kJ cs) 230 i v 230 i) = _; rw [u2_s]) (fun z j w hn => by
    have e9 : kJ (sJ cs 230 i v) z j = kJ cs z j := u2_n hn
    match w with
    | 0 => rfl
    | 1 => show Value.long (kJ (sJ cs 230 i v) z j) = Value.long (kJ cs z j); rw [e9]
    | 2 => rfl
    | _ + 3 => rfl)
  refine va_put (D := (dC, dI)) (ci := 7) (v := .long v) (ty := .long) (C := RX6) (T := TX6) (N := 12) hx hb hts (fun w h => List.mem_cons_of_mem _ (uG_X6 w h)) tyX6 tyX6_ok nmX6 hown hK hP hD hS k hg rfl 6 (by decide) (hts _ (List.mem_cons_of_mem _ kw_1070)) (fun _ h9 => h9) rfl (by decide +kernel) rfl rfl (by rw [vL_len]; decide) hdg (fun H1 l1 q1 q2 q3 => ?_)
  rw [hset] at q1 q2
  exact kk H1 l1 q1 q2 q3
theorem fg_X6_24 {p : Program} {l : Launch} {e : Env} {R : Room} {s : State} {m : MethodId} {args : Array Value} {below : List Frame} {meth : Method} {c : Code} {H : Heap} {locs : List Loc} {cells slots : Nat} {Q : State → Prop} {cc : ByteArray} {pc : Nat} {ls : Array Slot} {rest : List Value} {y0 : MethodName} {c0 : ByteArray} {n0 : Nat} {r0 : Option FieldType} {dC : Nat → ClassId} {dI : Nat → Nat → Nat} {cB cI cJ cZ cS cO : ClassId} {b : Nat} {cs : CS} {i : Nat} {v : Int32} (hx : p.tables.exec = Jvm.exec) (hb : c.code = cc) (hts : ∀ w ∈ wsOf y0 c0 n0 r0, w.before args s = true) (hown : s.vm.findClass RX6 = some m.cls) (hK : va_K (dC, dI) vwCl [(cB, .byte), (cI, .int), (cJ, .long), (cZ, .boolean), (cS, .object "StreamQueries$Source"), (cO, .object "java/lang/Object")] s) (hP : va_P (dC, dI) vwCl (cW cB cI cJ cZ cS cO b cs) H) (hv : gI cs 7 233 i = some v) (hdg : decode cc pc = .ok (.getfield 24, 3)) (kk : W p l e R s m args below meth c H locs cells slots Q (F0 m (pc + 3) ls (.int v :: rest))) : W p l e R s m args below meth c H locs cells slots Q (F0 m pc ls (.ref (b + i) :: rest)) := by
  obtain ⟨h1, h2⟩ := gI_some hv
  obtain ⟨k, -, hg⟩ := cO_at (b := b) (cB := cB) (cI := cI) (cJ := cJ) (cZ := cZ) (cS := cS) (cO := cO) (by decide) h1
  have hf : (vL b cs i (32 * 7) (tyX 7))[9]? = some (.int v) := by
    show some (vV b cs 233 i 0) = _
    show some (Value.int (kI cs 233 i)) = _
    rw [h2]
  exact va_get (D := (dC, dI)) (ci := 7) (C := RX6) (T := TX6) (N := 12) hx hb hts (fun w h => List.mem_cons_of_mem _ (uG_X6 w h)) hown hK hP k hg rfl 9 (by decide) (hts _ (List.mem_cons_of_mem _ kw_1078)) (fun _ h9 => h9) hf hdg kk
theorem fp_X6_24 {p : Program} {l : Launch} {e : Env} {R : Room} {s : State} {m : MethodId} {args : Array Value} {below : List Frame} {meth : Method} {c : Code} {H : Heap} {locs : List Loc} {cells slots : Nat} {Q : State → Prop} {cc : ByteArray} {pc : Nat} {ls : Array Slot} {rest : List Value} {y0 : MethodName} {c0 : ByteArray} {n0 : Nat} {r0 : Option FieldType} {dC : Nat → ClassId} {dI : Nat → Nat → Nat} {cB cI cJ cZ cS cO : ClassId} {b : Nat} {cs : CS} {A : Nat → Prop} {H0 : Heap} {cs1 : CS} {i : Nat} {v : Int32} (hx : p.tables.exec = Jvm.exec) (hb : c.code = cc) (hts : ∀ w ∈ wsOf y0 c0 n0 r0, w.before args s = true) (hown : s.vm.findClass RX6 = some m.cls) (hK : va_K (dC, dI) vwCl [(cB, .byte), (cI, .int), (cJ, .long), (cZ, .boolean), (cS, .object "StreamQueries$Source"), (cO, .object "java/lang/Object")] s) (hP : va_P (dC, dI) vwCl (cW cB cI cJ cZ cS cO b cs) H) (hD : va_D A (cW cB cI cJ cZ cS cO b cs)) (hS : va_S A H0 H locs) (hv : pI cs 7 233 i v = some cs1) (hdg : decode cc pc = .ok (.putfield 24, 3)) (kk : ∀ (H1 : Heap) (locs1 : List Loc), va_P (dC, dI) vwCl (cW cB cI cJ cZ cS cO b cs1) H1 → va_D A (cW cB cI cJ cZ cS cO b cs1) → va_S A H0 H1 locs1 → W p l e R s m args below meth c H1 locs1 cells slots Q (F0 m (pc + 3) ls rest)) : W p l e R s m args below meth c H locs cells slots Q (F0 m pc ls (.int v :: .ref (b + i) :: rest)) := by
  obtain ⟨h1, rfl⟩ := pI_some hv
  obtain ⟨k, hk, hg⟩ := cO_at (b := b) (cB := cB) (cI := cI) (cJ := cJ) (cZ := cZ) (cS := cS) (cO := cO) (by decide) h1
  have hset := cW_putF (f := 9) (y := 0) (v := .int v) (cs1 := sI cs 233 i v) (by decide) rfl hD hk rfl rfl rfl rfl rfl rfl (by show Value.int (u2 (kI cs) 233 i v 233 i) = _; rw [u2_s]) (fun z j w hn => by
    have e9 : kI (sI cs 233 i v) z j = kI cs z j := u2_n hn
    match w with
    | 0 => show Value.int (kI (sI cs 233 i v) z j) = Value.int (kI cs z j); rw [e9]
    | 1 => rfl
    | 2 => rfl
    | _ + 3 => rfl)
  refine va_put (D := (dC, dI)) (ci := 7) (v := .int v) (ty := .int) (C := RX6) (T := TX6) (N := 12) hx hb hts (fun w h => List.mem_cons_of_mem _ (uG_X6 w h)) tyX6 tyX6_ok nmX6 hown hK hP hD hS k hg rfl 9 (by decide) (hts _ (List.mem_cons_of_mem _ kw_1078)) (fun _ h9 => h9) rfl (by decide +kernel) rfl rfl (by rw [vL_len]; decide) hdg (fun H1 l1 q1 q2 q3 => ?_)
  rw [hset] at q1 q2
  exact kk H1 l1 q1 q2 q3
theorem fg_X6_30 {p : Program} {l : Launch} {e : Env} {R : Room} {s : State} {m : MethodId} {args : Array Value} {below : List Frame} {meth : Method} {c : Code} {H : Heap} {locs : List Loc} {cells slots : Nat} {Q : State → Prop} {cc : ByteArray} {pc : Nat} {ls : Array Slot} {rest : List Value} {y0 : MethodName} {c0 : ByteArray} {n0 : Nat} {r0 : Option FieldType} {dC : Nat → ClassId} {dI : Nat → Nat → Nat} {cB cI cJ cZ cS cO : ClassId} {b : Nat} {cs : CS} {i : Nat} {v : (Option Nat)} (hx : p.tables.exec = Jvm.exec) (hb : c.code = cc) (hts : ∀ w ∈ wsOf y0 c0 n0 r0, w.before args s = true) (hown : s.vm.findClass RX6 = some m.cls) (hK : va_K (dC, dI) vwCl [(cB, .byte), (cI, .int), (cJ, .long), (cZ, .boolean), (cS, .object "StreamQueries$Source"), (cO, .object "java/lang/Object")] s) (hP : va_P (dC, dI) vwCl (cW cB cI cJ cZ cS cO b cs) H) (hv : gR cs 7 235 i = some v) (hdg : decode cc pc = .ok (.getfield 30, 3)) (kk : W p l e R s m args below meth c H locs cells slots Q (F0 m (pc + 3) ls (rv b v :: rest))) : W p l e R s m args below meth c H locs cells slots Q (F0 m pc ls (.ref (b + i) :: rest)) := by
  obtain ⟨h1, h2⟩ := gR_some hv
  obtain ⟨k, -, hg⟩ := cO_at (b := b) (cB := cB) (cI := cI) (cJ := cJ) (cZ := cZ) (cS := cS) (cO := cO) (by decide) h1
  have hf : (vL b cs i (32 * 7) (tyX 7))[11]? = some (rv b v) := by
    show some (vV b cs 235 i 2) = _
    show some (rv b (kR cs 235 i)) = _
    rw [h2]
  exact va_get (D := (dC, dI)) (ci := 7) (C := RX6) (T := TX6) (N := 12) hx hb hts (fun w h => List.mem_cons_of_mem _ (uG_X6 w h)) hown hK hP k hg rfl 11 (by decide) (hts _ (List.mem_cons_of_mem _ kw_1084)) (fun _ h9 => h9) hf hdg kk
theorem fp_X6_30 {p : Program} {l : Launch} {e : Env} {R : Room} {s : State} {m : MethodId} {args : Array Value} {below : List Frame} {meth : Method} {c : Code} {H : Heap} {locs : List Loc} {cells slots : Nat} {Q : State → Prop} {cc : ByteArray} {pc : Nat} {ls : Array Slot} {rest : List Value} {y0 : MethodName} {c0 : ByteArray} {n0 : Nat} {r0 : Option FieldType} {dC : Nat → ClassId} {dI : Nat → Nat → Nat} {cB cI cJ cZ cS cO : ClassId} {b : Nat} {cs : CS} {A : Nat → Prop} {H0 : Heap} {cs1 : CS} {i : Nat} {v : (Option Nat)} (hx : p.tables.exec = Jvm.exec) (hb : c.code = cc) (hts : ∀ w ∈ wsOf y0 c0 n0 r0, w.before args s = true) (hown : s.vm.findClass RX6 = some m.cls) (hK : va_K (dC, dI) vwCl [(cB, .byte), (cI, .int), (cJ, .long), (cZ, .boolean), (cS, .object "StreamQueries$Source"), (cO, .object "java/lang/Object")] s) (hP : va_P (dC, dI) vwCl (cW cB cI cJ cZ cS cO b cs) H) (hD : va_D A (cW cB cI cJ cZ cS cO b cs)) (hS : va_S A H0 H locs) (hin : meth.name = "<init>") (hv : pR cs 7 235 i v = some cs1) (hdg : decode cc pc = .ok (.putfield 30, 3)) (kk : ∀ (H1 : Heap) (locs1 : List Loc), va_P (dC, dI) vwCl (cW cB cI cJ cZ cS cO b cs1) H1 → va_D A (cW cB cI cJ cZ cS cO b cs1) → va_S A H0 H1 locs1 → W p l e R s m args below meth c H1 locs1 cells slots Q (F0 m (pc + 3) ls rest)) : W p l e R s m args below meth c H locs cells slots Q (F0 m pc ls (rv b v :: .ref (b + i) :: rest)) := by
  obtain ⟨h1, rfl⟩ := pR_some hv
  obtain ⟨k, hk, hg⟩ := cO_at (b := b) (cB := cB) (cI := cI) (cJ := cJ) (cZ := cZ) (cS := cS) (cO := cO) (by decide) h1
  have hset := cW_putF (f := 11) (y := 2) (v := rv b v) (cs1 := sR cs 235 i v) (by decide) rfl hD hk rfl rfl rfl rfl rfl rfl (by show rv b (u2 (kR cs) 235 i v 235 i) = _; rw [u2_s]) (fun z j w hn => by
    have e9 : kR (sR cs 235 i v) z j = kR cs z j := u2_n hn
    match w with
    | 0 => rfl
    | 1 => rfl
    | 2 => show rv b (kR (sR cs 235 i v) z j) = rv b (kR cs z j); rw [e9]
    | _ + 3 => rfl)
  refine va_putF (D := (dC, dI)) (ci := 7) (v := rv b v) (ty := .object "StreamQueries$Columns") (C := RX6) (T := TX6) (N := 12) hx hb hts (fun w h => List.mem_cons_of_mem _ (uG_X6 w h)) tyX6 tyX6_ok nmX6 hown hK hP hD hS k hg rfl 11 (by decide) (hts _ (List.mem_cons_of_mem _ kw_1084)) (fun _ h9 => h9) rfl hin rfl (by decide +kernel) (rv_nar b v _) (rv_fit b v _) (by rw [vL_len]; decide) hdg (fun H1 l1 q1 q2 q3 => ?_)
  rw [hset] at q1 q2
  exact kk H1 l1 q1 q2 q3
theorem fg_X7_13 {p : Program} {l : Launch} {e : Env} {R : Room} {s : State} {m : MethodId} {args : Array Value} {below : List Frame} {meth : Method} {c : Code} {H : Heap} {locs : List Loc} {cells slots : Nat} {Q : State → Prop} {cc : ByteArray} {pc : Nat} {ls : Array Slot} {rest : List Value} {y0 : MethodName} {c0 : ByteArray} {n0 : Nat} {r0 : Option FieldType} {dC : Nat → ClassId} {dI : Nat → Nat → Nat} {cB cI cJ cZ cS cO : ClassId} {b : Nat} {cs : CS} {i : Nat} {v : Int64} (hx : p.tables.exec = Jvm.exec) (hb : c.code = cc) (hts : ∀ w ∈ wsOf y0 c0 n0 r0, w.before args s = true) (hown : s.vm.findClass RX7 = some m.cls) (hK : va_K (dC, dI) vwCl [(cB, .byte), (cI, .int), (cJ, .long), (cZ, .boolean), (cS, .object "StreamQueries$Source"), (cO, .object "java/lang/Object")] s) (hP : va_P (dC, dI) vwCl (cW cB cI cJ cZ cS cO b cs) H) (hv : gJ cs 8 257 i = some v) (hdg : decode cc pc = .ok (.getfield 13, 3)) (kk : W p l e R s m args below meth c H locs cells slots Q (F0 m (pc + 3) ls (.long v :: rest))) : W p l e R s m args below meth c H locs cells slots Q (F0 m pc ls (.ref (b + i) :: rest)) := by
  obtain ⟨h1, h2⟩ := gJ_some hv
  obtain ⟨k, -, hg⟩ := cO_at (b := b) (cB := cB) (cI := cI) (cJ := cJ) (cZ := cZ) (cS := cS) (cO := cO) (by decide) h1
  have hf : (vL b cs i (32 * 8) (tyX 8))[1]? = some (.long v) := by
    show some (vV b cs 257 i 1) = _
    show some (Value.long (kJ cs 257 i)) = _
    rw [h2]
  exact va_get (D := (dC, dI)) (ci := 8) (C := RX7) (T := TX7) (N := 9) hx hb hts (fun w h => List.mem_cons_of_mem _ (uG_X7 w h)) hown hK hP k hg rfl 1 (by decide) (hts _ (List.mem_cons_of_mem _ kw_225)) (fun _ h9 => h9) hf hdg kk
theorem fp_X7_13 {p : Program} {l : Launch} {e : Env} {R : Room} {s : State} {m : MethodId} {args : Array Value} {below : List Frame} {meth : Method} {c : Code} {H : Heap} {locs : List Loc} {cells slots : Nat} {Q : State → Prop} {cc : ByteArray} {pc : Nat} {ls : Array Slot} {rest : List Value} {y0 : MethodName} {c0 : ByteArray} {n0 : Nat} {r0 : Option FieldType} {dC : Nat → ClassId} {dI : Nat → Nat → Nat} {cB cI cJ cZ cS cO : ClassId} {b : Nat} {cs : CS} {A : Nat → Prop} {H0 : Heap} {cs1 : CS} {i : Nat} {v : Int64} (hx : p.tables.exec = Jvm.exec) (hb : c.code = cc) (hts : ∀ w ∈ wsOf y0 c0 n0 r0, w.before args s = true) (hown : s.vm.findClass RX7 = some m.cls) (hK : va_K (dC, dI) vwCl [(cB, .byte), (cI, .int), (cJ, .long), (cZ, .boolean), (cS, .object "StreamQueries$Source"), (cO, .object "java/lang/Object")] s) (hP : va_P (dC, dI) vwCl (cW cB cI cJ cZ cS cO b cs) H) (hD : va_D A (cW cB cI cJ cZ cS cO b cs)) (hS : va_S A H0 H locs) (hv : pJ cs 8 257 i v = some cs1) (hdg : decode cc pc = .ok (.putfield 13, 3)) (kk : ∀ (H1 : Heap) (locs1 : List Loc), va_P (dC, dI) vwCl (cW cB cI cJ cZ cS cO b cs1) H1 → va_D A (cW cB cI cJ cZ cS cO b cs1) → va_S A H0 H1 locs1 → W p l e R s m args below meth c H1 locs1 cells slots Q (F0 m (pc + 3) ls rest)) : W p l e R s m args below meth c H locs cells slots Q (F0 m pc ls (.long v :: .ref (b + i) :: rest)) := by
  obtain ⟨h1, rfl⟩ := pJ_some hv
  obtain ⟨k, hk, hg⟩ := cO_at (b := b) (cB := cB) (cI := cI) (cJ := cJ) (cZ := cZ) (cS := cS) (cO := cO) (by decide) h1
  have hset := cW_putF (f := 1) (y := 1) (v := .long v) (cs1 := sJ cs 257 i v) (by decide) rfl hD hk rfl rfl rfl rfl rfl rfl (by show Value.long (u2 (kJ cs) 257 i v 257 i) = _; rw [u2_s]) (fun z j w hn => by
    have e9 : kJ (sJ cs 257 i v) z j = kJ cs z j := u2_n hn
    match w with
    | 0 => rfl
    | 1 => show Value.long (kJ (sJ cs 257 i v) z j) = Value.long (kJ cs z j); rw [e9]
    | 2 => rfl
    | _ + 3 => rfl)
  refine va_put (D := (dC, dI)) (ci := 8) (v := .long v) (ty := .long) (C := RX7) (T := TX7) (N := 9) hx hb hts (fun w h => List.mem_cons_of_mem _ (uG_X7 w h)) tyX7 tyX7_ok nmX7 hown hK hP hD hS k hg rfl 1 (by decide) (hts _ (List.mem_cons_of_mem _ kw_225)) (fun _ h9 => h9) rfl (by decide +kernel) rfl rfl (by rw [vL_len]; decide) hdg (fun H1 l1 q1 q2 q3 => ?_)
  rw [hset] at q1 q2
  exact kk H1 l1 q1 q2 q3
theorem fg_X7_19 {p : Program} {l : Launch} {e : Env} {R : Room} {s : State} {m : MethodId} {args : Array Value} {below : List Frame} {meth : Method} {c : Code} {H : Heap} {locs : List Loc} {cells slots : Nat} {Q : State → Prop} {cc : ByteArray} {pc : Nat} {ls : Array Slot} {rest : List Value} {y0 : MethodName} {c0 : ByteArray} {n0 : Nat} {r0 : Option FieldType} {dC : Nat → ClassId} {dI : Nat → Nat → Nat} {cB cI cJ cZ cS cO : ClassId} {b : Nat} {cs : CS} {i : Nat} {v : Nat} (hx : p.tables.exec = Jvm.exec) (hb : c.code = cc) (hts : ∀ w ∈ wsOf y0 c0 n0 r0, w.before args s = true) (hown : s.vm.findClass RX7 = some m.cls) (hK : va_K (dC, dI) vwCl [(cB, .byte), (cI, .int), (cJ, .long), (cZ, .boolean), (cS, .object "StreamQueries$Source"), (cO, .object "java/lang/Object")] s) (hP : va_P (dC, dI) vwCl (cW cB cI cJ cZ cS cO b cs) H) (hv : gA cs 8 258 i = some v) (hdg : decode cc pc = .ok (.getfield 19, 3)) (kk : W p l e R s m args below meth c H locs cells slots Q (F0 m (pc + 3) ls (.ref (b + v) :: rest))) : W p l e R s m args below meth c H locs cells slots Q (F0 m pc ls (.ref (b + i) :: rest)) := by
  obtain ⟨h1, h2⟩ := gA_some hv
  obtain ⟨k, -, hg⟩ := cO_at (b := b) (cB := cB) (cI := cI) (cJ := cJ) (cZ := cZ) (cS := cS) (cO := cO) (by decide) h1
  have hf : (vL b cs i (32 * 8) (tyX 8))[2]? = some (.ref (b + v)) := by
    show some (vV b cs 258 i 3) = _
    show some (rv b (kP cs 258 i)) = _
    rw [h2]; rfl
  exact va_get (D := (dC, dI)) (ci := 8) (C := RX7) (T := TX7) (N := 9) hx hb hts (fun w h => List.mem_cons_of_mem _ (uG_X7 w h)) hown hK hP k hg rfl 2 (by decide) (hts _ (List.mem_cons_of_mem _ kw_227)) (fun _ h9 => h9) hf hdg kk
theorem fg_X7_23 {p : Program} {l : Launch} {e : Env} {R : Room} {s : State} {m : MethodId} {args : Array Value} {below : List Frame} {meth : Method} {c : Code} {H : Heap} {locs : List Loc} {cells slots : Nat} {Q : State → Prop} {cc : ByteArray} {pc : Nat} {ls : Array Slot} {rest : List Value} {y0 : MethodName} {c0 : ByteArray} {n0 : Nat} {r0 : Option FieldType} {dC : Nat → ClassId} {dI : Nat → Nat → Nat} {cB cI cJ cZ cS cO : ClassId} {b : Nat} {cs : CS} {i : Nat} {v : Nat} (hx : p.tables.exec = Jvm.exec) (hb : c.code = cc) (hts : ∀ w ∈ wsOf y0 c0 n0 r0, w.before args s = true) (hown : s.vm.findClass RX7 = some m.cls) (hK : va_K (dC, dI) vwCl [(cB, .byte), (cI, .int), (cJ, .long), (cZ, .boolean), (cS, .object "StreamQueries$Source"), (cO, .object "java/lang/Object")] s) (hP : va_P (dC, dI) vwCl (cW cB cI cJ cZ cS cO b cs) H) (hv : gA cs 8 259 i = some v) (hdg : decode cc pc = .ok (.getfield 23, 3)) (kk : W p l e R s m args below meth c H locs cells slots Q (F0 m (pc + 3) ls (.ref (b + v) :: rest))) : W p l e R s m args below meth c H locs cells slots Q (F0 m pc ls (.ref (b + i) :: rest)) := by
  obtain ⟨h1, h2⟩ := gA_some hv
  obtain ⟨k, -, hg⟩ := cO_at (b := b) (cB := cB) (cI := cI) (cJ := cJ) (cZ := cZ) (cS := cS) (cO := cO) (by decide) h1
  have hf : (vL b cs i (32 * 8) (tyX 8))[3]? = some (.ref (b + v)) := by
    show some (vV b cs 259 i 3) = _
    show some (rv b (kP cs 259 i)) = _
    rw [h2]; rfl
  exact va_get (D := (dC, dI)) (ci := 8) (C := RX7) (T := TX7) (N := 9) hx hb hts (fun w h => List.mem_cons_of_mem _ (uG_X7 w h)) hown hK hP k hg rfl 3 (by decide) (hts _ (List.mem_cons_of_mem _ kw_228)) (fun _ h9 => h9) hf hdg kk
theorem fg_X7_27 {p : Program} {l : Launch} {e : Env} {R : Room} {s : State} {m : MethodId} {args : Array Value} {below : List Frame} {meth : Method} {c : Code} {H : Heap} {locs : List Loc} {cells slots : Nat} {Q : State → Prop} {cc : ByteArray} {pc : Nat} {ls : Array Slot} {rest : List Value} {y0 : MethodName} {c0 : ByteArray} {n0 : Nat} {r0 : Option FieldType} {dC : Nat → ClassId} {dI : Nat → Nat → Nat} {cB cI cJ cZ cS cO : ClassId} {b : Nat} {cs : CS} {i : Nat} {v : Nat} (hx : p.tables.exec = Jvm.exec) (hb : c.code = cc) (hts : ∀ w ∈ wsOf y0 c0 n0 r0, w.before args s = true) (hown : s.vm.findClass RX7 = some m.cls) (hK : va_K (dC, dI) vwCl [(cB, .byte), (cI, .int), (cJ, .long), (cZ, .boolean), (cS, .object "StreamQueries$Source"), (cO, .object "java/lang/Object")] s) (hP : va_P (dC, dI) vwCl (cW cB cI cJ cZ cS cO b cs) H) (hv : gA cs 8 260 i = some v) (hdg : decode cc pc = .ok (.getfield 27, 3)) (kk : W p l e R s m args below meth c H locs cells slots Q (F0 m (pc + 3) ls (.ref (b + v) :: rest))) : W p l e R s m args below meth c H locs cells slots Q (F0 m pc ls (.ref (b + i) :: rest)) := by
  obtain ⟨h1, h2⟩ := gA_some hv
  obtain ⟨k, -, hg⟩ := cO_at (b := b) (cB := cB) (cI := cI) (cJ := cJ) (cZ := cZ) (cS := cS) (cO := cO) (by decide) h1
  have hf : (vL b cs i (32 * 8) (tyX 8))[4]? = some (.ref (b + v)) := by
    show some (vV b cs 260 i 3) = _
    show some (rv b (kP cs 260 i)) = _
    rw [h2]; rfl
  exact va_get (D := (dC, dI)) (ci := 8) (C := RX7) (T := TX7) (N := 9) hx hb hts (fun w h => List.mem_cons_of_mem _ (uG_X7 w h)) hown hK hP k hg rfl 4 (by decide) (hts _ (List.mem_cons_of_mem _ kw_229)) (fun _ h9 => h9) hf hdg kk
theorem fg_X7_31 {p : Program} {l : Launch} {e : Env} {R : Room} {s : State} {m : MethodId} {args : Array Value} {below : List Frame} {meth : Method} {c : Code} {H : Heap} {locs : List Loc} {cells slots : Nat} {Q : State → Prop} {cc : ByteArray} {pc : Nat} {ls : Array Slot} {rest : List Value} {y0 : MethodName} {c0 : ByteArray} {n0 : Nat} {r0 : Option FieldType} {dC : Nat → ClassId} {dI : Nat → Nat → Nat} {cB cI cJ cZ cS cO : ClassId} {b : Nat} {cs : CS} {i : Nat} {v : Nat} (hx : p.tables.exec = Jvm.exec) (hb : c.code = cc) (hts : ∀ w ∈ wsOf y0 c0 n0 r0, w.before args s = true) (hown : s.vm.findClass RX7 = some m.cls) (hK : va_K (dC, dI) vwCl [(cB, .byte), (cI, .int), (cJ, .long), (cZ, .boolean), (cS, .object "StreamQueries$Source"), (cO, .object "java/lang/Object")] s) (hP : va_P (dC, dI) vwCl (cW cB cI cJ cZ cS cO b cs) H) (hv : gA cs 8 261 i = some v) (hdg : decode cc pc = .ok (.getfield 31, 3)) (kk : W p l e R s m args below meth c H locs cells slots Q (F0 m (pc + 3) ls (.ref (b + v) :: rest))) : W p l e R s m args below meth c H locs cells slots Q (F0 m pc ls (.ref (b + i) :: rest)) := by
  obtain ⟨h1, h2⟩ := gA_some hv
  obtain ⟨k, -, hg⟩ := cO_at (b := b) (cB := cB) (cI := cI) (cJ := cJ) (cZ := cZ) (cS := cS) (cO := cO) (by decide) h1
  have hf : (vL b cs i (32 * 8) (tyX 8))[5]? = some (.ref (b + v)) := by
    show some (vV b cs 261 i 3) = _
    show some (rv b (kP cs 261 i)) = _
    rw [h2]; rfl
  exact va_get (D := (dC, dI)) (ci := 8) (C := RX7) (T := TX7) (N := 9) hx hb hts (fun w h => List.mem_cons_of_mem _ (uG_X7 w h)) hown hK hP k hg rfl 5 (by decide) (hts _ (List.mem_cons_of_mem _ kw_230)) (fun _ h9 => h9) hf hdg kk
theorem fg_X7_34 {p : Program} {l : Launch} {e : Env} {R : Room} {s : State} {m : MethodId} {args : Array Value} {below : List Frame} {meth : Method} {c : Code} {H : Heap} {locs : List Loc} {cells slots : Nat} {Q : State → Prop} {cc : ByteArray} {pc : Nat} {ls : Array Slot} {rest : List Value} {y0 : MethodName} {c0 : ByteArray} {n0 : Nat} {r0 : Option FieldType} {dC : Nat → ClassId} {dI : Nat → Nat → Nat} {cB cI cJ cZ cS cO : ClassId} {b : Nat} {cs : CS} {i : Nat} {v : Nat} (hx : p.tables.exec = Jvm.exec) (hb : c.code = cc) (hts : ∀ w ∈ wsOf y0 c0 n0 r0, w.before args s = true) (hown : s.vm.findClass RX7 = some m.cls) (hK : va_K (dC, dI) vwCl [(cB, .byte), (cI, .int), (cJ, .long), (cZ, .boolean), (cS, .object "StreamQueries$Source"), (cO, .object "java/lang/Object")] s) (hP : va_P (dC, dI) vwCl (cW cB cI cJ cZ cS cO b cs) H) (hv : gA cs 8 262 i = some v) (hdg : decode cc pc = .ok (.getfield 34, 3)) (kk : W p l e R s m args below meth c H locs cells slots Q (F0 m (pc + 3) ls (.ref (b + v) :: rest))) : W p l e R s m args below meth c H locs cells slots Q (F0 m pc ls (.ref (b + i) :: rest)) := by
  obtain ⟨h1, h2⟩ := gA_some hv
  obtain ⟨k, -, hg⟩ := cO_at (b := b) (cB := cB) (cI := cI) (cJ := cJ) (cZ := cZ) (cS := cS) (cO := cO) (by decide) h1
  have hf : (vL b cs i (32 * 8) (tyX 8))[6]? = some (.ref (b + v)) := by
    show some (vV b cs 262 i 3) = _
    show some (rv b (kP cs 262 i)) = _
    rw [h2]; rfl
  exact va_get (D := (dC, dI)) (ci := 8) (C := RX7) (T := TX7) (N := 9) hx hb hts (fun w h => List.mem_cons_of_mem _ (uG_X7 w h)) hown hK hP k hg rfl 6 (by decide) (hts _ (List.mem_cons_of_mem _ kw_231)) (fun _ h9 => h9) hf hdg kk
theorem fg_X7_37 {p : Program} {l : Launch} {e : Env} {R : Room} {s : State} {m : MethodId} {args : Array Value} {below : List Frame} {meth : Method} {c : Code} {H : Heap} {locs : List Loc} {cells slots : Nat} {Q : State → Prop} {cc : ByteArray} {pc : Nat} {ls : Array Slot} {rest : List Value} {y0 : MethodName} {c0 : ByteArray} {n0 : Nat} {r0 : Option FieldType} {dC : Nat → ClassId} {dI : Nat → Nat → Nat} {cB cI cJ cZ cS cO : ClassId} {b : Nat} {cs : CS} {i : Nat} {v : Nat} (hx : p.tables.exec = Jvm.exec) (hb : c.code = cc) (hts : ∀ w ∈ wsOf y0 c0 n0 r0, w.before args s = true) (hown : s.vm.findClass RX7 = some m.cls) (hK : va_K (dC, dI) vwCl [(cB, .byte), (cI, .int), (cJ, .long), (cZ, .boolean), (cS, .object "StreamQueries$Source"), (cO, .object "java/lang/Object")] s) (hP : va_P (dC, dI) vwCl (cW cB cI cJ cZ cS cO b cs) H) (hv : gA cs 8 263 i = some v) (hdg : decode cc pc = .ok (.getfield 37, 3)) (kk : W p l e R s m args below meth c H locs cells slots Q (F0 m (pc + 3) ls (.ref (b + v) :: rest))) : W p l e R s m args below meth c H locs cells slots Q (F0 m pc ls (.ref (b + i) :: rest)) := by
  obtain ⟨h1, h2⟩ := gA_some hv
  obtain ⟨k, -, hg⟩ := cO_at (b := b) (cB := cB) (cI := cI) (cJ := cJ) (cZ := cZ) (cS := cS) (cO := cO) (by decide) h1
  have hf : (vL b cs i (32 * 8) (tyX 8))[7]? = some (.ref (b + v)) := by
    show some (vV b cs 263 i 3) = _
    show some (rv b (kP cs 263 i)) = _
    rw [h2]; rfl
  exact va_get (D := (dC, dI)) (ci := 8) (C := RX7) (T := TX7) (N := 9) hx hb hts (fun w h => List.mem_cons_of_mem _ (uG_X7 w h)) hown hK hP k hg rfl 7 (by decide) (hts _ (List.mem_cons_of_mem _ kw_232)) (fun _ h9 => h9) hf hdg kk
theorem fg_X7_40 {p : Program} {l : Launch} {e : Env} {R : Room} {s : State} {m : MethodId} {args : Array Value} {below : List Frame} {meth : Method} {c : Code} {H : Heap} {locs : List Loc} {cells slots : Nat} {Q : State → Prop} {cc : ByteArray} {pc : Nat} {ls : Array Slot} {rest : List Value} {y0 : MethodName} {c0 : ByteArray} {n0 : Nat} {r0 : Option FieldType} {dC : Nat → ClassId} {dI : Nat → Nat → Nat} {cB cI cJ cZ cS cO : ClassId} {b : Nat} {cs : CS} {i : Nat} {v : Int32} (hx : p.tables.exec = Jvm.exec) (hb : c.code = cc) (hts : ∀ w ∈ wsOf y0 c0 n0 r0, w.before args s = true) (hown : s.vm.findClass RX7 = some m.cls) (hK : va_K (dC, dI) vwCl [(cB, .byte), (cI, .int), (cJ, .long), (cZ, .boolean), (cS, .object "StreamQueries$Source"), (cO, .object "java/lang/Object")] s) (hP : va_P (dC, dI) vwCl (cW cB cI cJ cZ cS cO b cs) H) (hv : gI cs 8 256 i = some v) (hdg : decode cc pc = .ok (.getfield 40, 3)) (kk : W p l e R s m args below meth c H locs cells slots Q (F0 m (pc + 3) ls (.int v :: rest))) : W p l e R s m args below meth c H locs cells slots Q (F0 m pc ls (.ref (b + i) :: rest)) := by
  obtain ⟨h1, h2⟩ := gI_some hv
  obtain ⟨k, -, hg⟩ := cO_at (b := b) (cB := cB) (cI := cI) (cJ := cJ) (cZ := cZ) (cS := cS) (cO := cO) (by decide) h1
  have hf : (vL b cs i (32 * 8) (tyX 8))[0]? = some (.int v) := by
    show some (vV b cs 256 i 0) = _
    show some (Value.int (kI cs 256 i)) = _
    rw [h2]
  exact va_get (D := (dC, dI)) (ci := 8) (C := RX7) (T := TX7) (N := 9) hx hb hts (fun w h => List.mem_cons_of_mem _ (uG_X7 w h)) hown hK hP k hg rfl 0 (by decide) (hts _ (List.mem_cons_of_mem _ kw_223)) (fun _ h9 => h9) hf hdg kk
theorem fp_X7_40 {p : Program} {l : Launch} {e : Env} {R : Room} {s : State} {m : MethodId} {args : Array Value} {below : List Frame} {meth : Method} {c : Code} {H : Heap} {locs : List Loc} {cells slots : Nat} {Q : State → Prop} {cc : ByteArray} {pc : Nat} {ls : Array Slot} {rest : List Value} {y0 : MethodName} {c0 : ByteArray} {n0 : Nat} {r0 : Option FieldType} {dC : Nat → ClassId} {dI : Nat → Nat → Nat} {cB cI cJ cZ cS cO : ClassId} {b : Nat} {cs : CS} {A : Nat → Prop} {H0 : Heap} {cs1 : CS} {i : Nat} {v : Int32} (hx : p.tables.exec = Jvm.exec) (hb : c.code = cc) (hts : ∀ w ∈ wsOf y0 c0 n0 r0, w.before args s = true) (hown : s.vm.findClass RX7 = some m.cls) (hK : va_K (dC, dI) vwCl [(cB, .byte), (cI, .int), (cJ, .long), (cZ, .boolean), (cS, .object "StreamQueries$Source"), (cO, .object "java/lang/Object")] s) (hP : va_P (dC, dI) vwCl (cW cB cI cJ cZ cS cO b cs) H) (hD : va_D A (cW cB cI cJ cZ cS cO b cs)) (hS : va_S A H0 H locs) (hv : pI cs 8 256 i v = some cs1) (hdg : decode cc pc = .ok (.putfield 40, 3)) (kk : ∀ (H1 : Heap) (locs1 : List Loc), va_P (dC, dI) vwCl (cW cB cI cJ cZ cS cO b cs1) H1 → va_D A (cW cB cI cJ cZ cS cO b cs1) → va_S A H0 H1 locs1 → W p l e R s m args below meth c H1 locs1 cells slots Q (F0 m (pc + 3) ls rest)) : W p l e R s m args below meth c H locs cells slots Q (F0 m pc ls (.int v :: .ref (b + i) :: rest)) := by
  obtain ⟨h1, rfl⟩ := pI_some hv
  obtain ⟨k, hk, hg⟩ := cO_at (b := b) (cB := cB) (cI := cI) (cJ := cJ) (cZ := cZ) (cS := cS) (cO := cO) (by decide) h1
  have hset := cW_putF (f := 0) (y := 0) (v := .int v) (cs1 := sI cs 256 i v) (by decide) rfl hD hk rfl rfl rfl rfl rfl rfl (by show Value.int (u2 (kI cs) 256 i v 256 i) = _; rw [u2_s]) (fun z j w hn => by
    have e9 : kI (sI cs 256 i v) z j = kI cs z j := u2_n hn
    match w with
    | 0 => show Value.int (kI (sI cs 256 i v) z j) = Value.int (kI cs z j); rw [e9]
    | 1 => rfl
    | 2 => rfl
    | _ + 3 => rfl)
  refine va_put (D := (dC, dI)) (ci := 8) (v := .int v) (ty := .int) (C := RX7) (T := TX7) (N := 9) hx hb hts (fun w h => List.mem_cons_of_mem _ (uG_X7 w h)) tyX7 tyX7_ok nmX7 hown hK hP hD hS k hg rfl 0 (by decide) (hts _ (List.mem_cons_of_mem _ kw_223)) (fun _ h9 => h9) rfl (by decide +kernel) rfl rfl (by rw [vL_len]; decide) hdg (fun H1 l1 q1 q2 q3 => ?_)
  rw [hset] at q1 q2
  exact kk H1 l1 q1 q2 q3
theorem fg_X7_48 {p : Program} {l : Launch} {e : Env} {R : Room} {s : State} {m : MethodId} {args : Array Value} {below : List Frame} {meth : Method} {c : Code} {H : Heap} {locs : List Loc} {cells slots : Nat} {Q : State → Prop} {cc : ByteArray} {pc : Nat} {ls : Array Slot} {rest : List Value} {y0 : MethodName} {c0 : ByteArray} {n0 : Nat} {r0 : Option FieldType} {dC : Nat → ClassId} {dI : Nat → Nat → Nat} {cB cI cJ cZ cS cO : ClassId} {b : Nat} {cs : CS} {i : Nat} {v : Int32} (hx : p.tables.exec = Jvm.exec) (hb : c.code = cc) (hts : ∀ w ∈ wsOf y0 c0 n0 r0, w.before args s = true) (hown : s.vm.findClass RX7 = some m.cls) (hK : va_K (dC, dI) vwCl [(cB, .byte), (cI, .int), (cJ, .long), (cZ, .boolean), (cS, .object "StreamQueries$Source"), (cO, .object "java/lang/Object")] s) (hP : va_P (dC, dI) vwCl (cW cB cI cJ cZ cS cO b cs) H) (hv : gI cs 8 264 i = some v) (hdg : decode cc pc = .ok (.getfield 48, 3)) (kk : W p l e R s m args below meth c H locs cells slots Q (F0 m (pc + 3) ls (.int v :: rest))) : W p l e R s m args below meth c H locs cells slots Q (F0 m pc ls (.ref (b + i) :: rest)) := by
  obtain ⟨h1, h2⟩ := gI_some hv
  obtain ⟨k, -, hg⟩ := cO_at (b := b) (cB := cB) (cI := cI) (cJ := cJ) (cZ := cZ) (cS := cS) (cO := cO) (by decide) h1
  have hf : (vL b cs i (32 * 8) (tyX 8))[8]? = some (.int v) := by
    show some (vV b cs 264 i 0) = _
    show some (Value.int (kI cs 264 i)) = _
    rw [h2]
  exact va_get (D := (dC, dI)) (ci := 8) (C := RX7) (T := TX7) (N := 9) hx hb hts (fun w h => List.mem_cons_of_mem _ (uG_X7 w h)) hown hK hP k hg rfl 8 (by decide) (hts _ (List.mem_cons_of_mem _ kw_233)) (fun _ h9 => h9) hf hdg kk
theorem fp_X7_48 {p : Program} {l : Launch} {e : Env} {R : Room} {s : State} {m : MethodId} {args : Array Value} {below : List Frame} {meth : Method} {c : Code} {H : Heap} {locs : List Loc} {cells slots : Nat} {Q : State → Prop} {cc : ByteArray} {pc : Nat} {ls : Array Slot} {rest : List Value} {y0 : MethodName} {c0 : ByteArray} {n0 : Nat} {r0 : Option FieldType} {dC : Nat → ClassId} {dI : Nat → Nat → Nat} {cB cI cJ cZ cS cO : ClassId} {b : Nat} {cs : CS} {A : Nat → Prop} {H0 : Heap} {cs1 : CS} {i : Nat} {v : Int32} (hx : p.tables.exec = Jvm.exec) (hb : c.code = cc) (hts : ∀ w ∈ wsOf y0 c0 n0 r0, w.before args s = true) (hown : s.vm.findClass RX7 = some m.cls) (hK : va_K (dC, dI) vwCl [(cB, .byte), (cI, .int), (cJ, .long), (cZ, .boolean), (cS, .object "StreamQueries$Source"), (cO, .object "java/lang/Object")] s) (hP : va_P (dC, dI) vwCl (cW cB cI cJ cZ cS cO b cs) H) (hD : va_D A (cW cB cI cJ cZ cS cO b cs)) (hS : va_S A H0 H locs) (hv : pI cs 8 264 i v = some cs1) (hdg : decode cc pc = .ok (.putfield 48, 3)) (kk : ∀ (H1 : Heap) (locs1 : List Loc), va_P (dC, dI) vwCl (cW cB cI cJ cZ cS cO b cs1) H1 → va_D A (cW cB cI cJ cZ cS cO b cs1) → va_S A H0 H1 locs1 → W p l e R s m args below meth c H1 locs1 cells slots Q (F0 m (pc + 3) ls rest)) : W p l e R s m args below meth c H locs cells slots Q (F0 m pc ls (.int v :: .ref (b + i) :: rest)) := by
  obtain ⟨h1, rfl⟩ := pI_some hv
  obtain ⟨k, hk, hg⟩ := cO_at (b := b) (cB := cB) (cI := cI) (cJ := cJ) (cZ := cZ) (cS := cS) (cO := cO) (by decide) h1
  have hset := cW_putF (f := 8) (y := 0) (v := .int v) (cs1 := sI cs 264 i v) (by decide) rfl hD hk rfl rfl rfl rfl rfl rfl (by show Value.int (u2 (kI cs) 264 i v 264 i) = _; rw [u2_s]) (fun z j w hn => by
    have e9 : kI (sI cs 264 i v) z j = kI cs z j := u2_n hn
    match w with
    | 0 => show Value.int (kI (sI cs 264 i v) z j) = Value.int (kI cs z j); rw [e9]
    | 1 => rfl
    | 2 => rfl
    | _ + 3 => rfl)
  refine va_put (D := (dC, dI)) (ci := 8) (v := .int v) (ty := .int) (C := RX7) (T := TX7) (N := 9) hx hb hts (fun w h => List.mem_cons_of_mem _ (uG_X7 w h)) tyX7 tyX7_ok nmX7 hown hK hP hD hS k hg rfl 8 (by decide) (hts _ (List.mem_cons_of_mem _ kw_233)) (fun _ h9 => h9) rfl (by decide +kernel) rfl rfl (by rw [vL_len]; decide) hdg (fun H1 l1 q1 q2 q3 => ?_)
  rw [hset] at q1 q2
  exact kk H1 l1 q1 q2 q3
theorem fg_X8_11 {p : Program} {l : Launch} {e : Env} {R : Room} {s : State} {m : MethodId} {args : Array Value} {below : List Frame} {meth : Method} {c : Code} {H : Heap} {locs : List Loc} {cells slots : Nat} {Q : State → Prop} {cc : ByteArray} {pc : Nat} {ls : Array Slot} {rest : List Value} {y0 : MethodName} {c0 : ByteArray} {n0 : Nat} {r0 : Option FieldType} {dC : Nat → ClassId} {dI : Nat → Nat → Nat} {cB cI cJ cZ cS cO : ClassId} {b : Nat} {cs : CS} {i : Nat} {v : Nat} (hx : p.tables.exec = Jvm.exec) (hb : c.code = cc) (hts : ∀ w ∈ wsOf y0 c0 n0 r0, w.before args s = true) (hown : s.vm.findClass RX8 = some m.cls) (hK : va_K (dC, dI) vwCl [(cB, .byte), (cI, .int), (cJ, .long), (cZ, .boolean), (cS, .object "StreamQueries$Source"), (cO, .object "java/lang/Object")] s) (hP : va_P (dC, dI) vwCl (cW cB cI cJ cZ cS cO b cs) H) (hv : gA cs 9 288 i = some v) (hdg : decode cc pc = .ok (.getfield 11, 3)) (kk : W p l e R s m args below meth c H locs cells slots Q (F0 m (pc + 3) ls (.ref (b + v) :: rest))) : W p l e R s m args below meth c H locs cells slots Q (F0 m pc ls (.ref (b + i) :: rest)) := by
  obtain ⟨h1, h2⟩ := gA_some hv
  obtain ⟨k, -, hg⟩ := cO_at (b := b) (cB := cB) (cI := cI) (cJ := cJ) (cZ := cZ) (cS := cS) (cO := cO) (by decide) h1
  have hf : (vL b cs i (32 * 9) (tyX 9))[0]? = some (.ref (b + v)) := by
    show some (vV b cs 288 i 3) = _
    show some (rv b (kP cs 288 i)) = _
    rw [h2]; rfl
  exact va_get (D := (dC, dI)) (ci := 9) (C := RX8) (T := TX8) (N := 4) hx hb hts (fun w h => List.mem_cons_of_mem _ (uG_X8 w h)) hown hK hP k hg rfl 0 (by decide) (hts _ (List.mem_cons_of_mem _ kw_349)) (fun _ h9 => h9) hf hdg kk
theorem fg_X8_15 {p : Program} {l : Launch} {e : Env} {R : Room} {s : State} {m : MethodId} {args : Array Value} {below : List Frame} {meth : Method} {c : Code} {H : Heap} {locs : List Loc} {cells slots : Nat} {Q : State → Prop} {cc : ByteArray} {pc : Nat} {ls : Array Slot} {rest : List Value} {y0 : MethodName} {c0 : ByteArray} {n0 : Nat} {r0 : Option FieldType} {dC : Nat → ClassId} {dI : Nat → Nat → Nat} {cB cI cJ cZ cS cO : ClassId} {b : Nat} {cs : CS} {i : Nat} {v : Nat} (hx : p.tables.exec = Jvm.exec) (hb : c.code = cc) (hts : ∀ w ∈ wsOf y0 c0 n0 r0, w.before args s = true) (hown : s.vm.findClass RX8 = some m.cls) (hK : va_K (dC, dI) vwCl [(cB, .byte), (cI, .int), (cJ, .long), (cZ, .boolean), (cS, .object "StreamQueries$Source"), (cO, .object "java/lang/Object")] s) (hP : va_P (dC, dI) vwCl (cW cB cI cJ cZ cS cO b cs) H) (hv : gA cs 9 289 i = some v) (hdg : decode cc pc = .ok (.getfield 15, 3)) (kk : W p l e R s m args below meth c H locs cells slots Q (F0 m (pc + 3) ls (.ref (b + v) :: rest))) : W p l e R s m args below meth c H locs cells slots Q (F0 m pc ls (.ref (b + i) :: rest)) := by
  obtain ⟨h1, h2⟩ := gA_some hv
  obtain ⟨k, -, hg⟩ := cO_at (b := b) (cB := cB) (cI := cI) (cJ := cJ) (cZ := cZ) (cS := cS) (cO := cO) (by decide) h1
  have hf : (vL b cs i (32 * 9) (tyX 9))[1]? = some (.ref (b + v)) := by
    show some (vV b cs 289 i 3) = _
    show some (rv b (kP cs 289 i)) = _
    rw [h2]; rfl
  exact va_get (D := (dC, dI)) (ci := 9) (C := RX8) (T := TX8) (N := 4) hx hb hts (fun w h => List.mem_cons_of_mem _ (uG_X8 w h)) hown hK hP k hg rfl 1 (by decide) (hts _ (List.mem_cons_of_mem _ kw_350)) (fun _ h9 => h9) hf hdg kk
theorem fg_X8_19 {p : Program} {l : Launch} {e : Env} {R : Room} {s : State} {m : MethodId} {args : Array Value} {below : List Frame} {meth : Method} {c : Code} {H : Heap} {locs : List Loc} {cells slots : Nat} {Q : State → Prop} {cc : ByteArray} {pc : Nat} {ls : Array Slot} {rest : List Value} {y0 : MethodName} {c0 : ByteArray} {n0 : Nat} {r0 : Option FieldType} {dC : Nat → ClassId} {dI : Nat → Nat → Nat} {cB cI cJ cZ cS cO : ClassId} {b : Nat} {cs : CS} {i : Nat} {v : Nat} (hx : p.tables.exec = Jvm.exec) (hb : c.code = cc) (hts : ∀ w ∈ wsOf y0 c0 n0 r0, w.before args s = true) (hown : s.vm.findClass RX8 = some m.cls) (hK : va_K (dC, dI) vwCl [(cB, .byte), (cI, .int), (cJ, .long), (cZ, .boolean), (cS, .object "StreamQueries$Source"), (cO, .object "java/lang/Object")] s) (hP : va_P (dC, dI) vwCl (cW cB cI cJ cZ cS cO b cs) H) (hv : gA cs 9 290 i = some v) (hdg : decode cc pc = .ok (.getfield 19, 3)) (kk : W p l e R s m args below meth c H locs cells slots Q (F0 m (pc + 3) ls (.ref (b + v) :: rest))) : W p l e R s m args below meth c H locs cells slots Q (F0 m pc ls (.ref (b + i) :: rest)) := by
  obtain ⟨h1, h2⟩ := gA_some hv
  obtain ⟨k, -, hg⟩ := cO_at (b := b) (cB := cB) (cI := cI) (cJ := cJ) (cZ := cZ) (cS := cS) (cO := cO) (by decide) h1
  have hf : (vL b cs i (32 * 9) (tyX 9))[2]? = some (.ref (b + v)) := by
    show some (vV b cs 290 i 3) = _
    show some (rv b (kP cs 290 i)) = _
    rw [h2]; rfl
  exact va_get (D := (dC, dI)) (ci := 9) (C := RX8) (T := TX8) (N := 4) hx hb hts (fun w h => List.mem_cons_of_mem _ (uG_X8 w h)) hown hK hP k hg rfl 2 (by decide) (hts _ (List.mem_cons_of_mem _ kw_351)) (fun _ h9 => h9) hf hdg kk
theorem fg_X8_23 {p : Program} {l : Launch} {e : Env} {R : Room} {s : State} {m : MethodId} {args : Array Value} {below : List Frame} {meth : Method} {c : Code} {H : Heap} {locs : List Loc} {cells slots : Nat} {Q : State → Prop} {cc : ByteArray} {pc : Nat} {ls : Array Slot} {rest : List Value} {y0 : MethodName} {c0 : ByteArray} {n0 : Nat} {r0 : Option FieldType} {dC : Nat → ClassId} {dI : Nat → Nat → Nat} {cB cI cJ cZ cS cO : ClassId} {b : Nat} {cs : CS} {i : Nat} {v : Nat} (hx : p.tables.exec = Jvm.exec) (hb : c.code = cc) (hts : ∀ w ∈ wsOf y0 c0 n0 r0, w.before args s = true) (hown : s.vm.findClass RX8 = some m.cls) (hK : va_K (dC, dI) vwCl [(cB, .byte), (cI, .int), (cJ, .long), (cZ, .boolean), (cS, .object "StreamQueries$Source"), (cO, .object "java/lang/Object")] s) (hP : va_P (dC, dI) vwCl (cW cB cI cJ cZ cS cO b cs) H) (hv : gA cs 9 291 i = some v) (hdg : decode cc pc = .ok (.getfield 23, 3)) (kk : W p l e R s m args below meth c H locs cells slots Q (F0 m (pc + 3) ls (.ref (b + v) :: rest))) : W p l e R s m args below meth c H locs cells slots Q (F0 m pc ls (.ref (b + i) :: rest)) := by
  obtain ⟨h1, h2⟩ := gA_some hv
  obtain ⟨k, -, hg⟩ := cO_at (b := b) (cB := cB) (cI := cI) (cJ := cJ) (cZ := cZ) (cS := cS) (cO := cO) (by decide) h1
  have hf : (vL b cs i (32 * 9) (tyX 9))[3]? = some (.ref (b + v)) := by
    show some (vV b cs 291 i 3) = _
    show some (rv b (kP cs 291 i)) = _
    rw [h2]; rfl
  exact va_get (D := (dC, dI)) (ci := 9) (C := RX8) (T := TX8) (N := 4) hx hb hts (fun w h => List.mem_cons_of_mem _ (uG_X8 w h)) hown hK hP k hg rfl 3 (by decide) (hts _ (List.mem_cons_of_mem _ kw_352)) (fun _ h9 => h9) hf hdg kk
theorem fg_X9_9 {p : Program} {l : Launch} {e : Env} {R : Room} {s : State} {m : MethodId} {args : Array Value} {below : List Frame} {meth : Method} {c : Code} {H : Heap} {locs : List Loc} {cells slots : Nat} {Q : State → Prop} {cc : ByteArray} {pc : Nat} {ls : Array Slot} {rest : List Value} {y0 : MethodName} {c0 : ByteArray} {n0 : Nat} {r0 : Option FieldType} {dC : Nat → ClassId} {dI : Nat → Nat → Nat} {cB cI cJ cZ cS cO : ClassId} {b : Nat} {cs : CS} {i : Nat} {v : (Option Nat)} (hx : p.tables.exec = Jvm.exec) (hb : c.code = cc) (hts : ∀ w ∈ wsOf y0 c0 n0 r0, w.before args s = true) (hown : s.vm.findClass RX9 = some m.cls) (hK : va_K (dC, dI) vwCl [(cB, .byte), (cI, .int), (cJ, .long), (cZ, .boolean), (cS, .object "StreamQueries$Source"), (cO, .object "java/lang/Object")] s) (hP : va_P (dC, dI) vwCl (cW cB cI cJ cZ cS cO b cs) H) (hv : gR cs 10 327 i = some v) (hdg : decode cc pc = .ok (.getfield 9, 3)) (kk : W p l e R s m args below meth c H locs cells slots Q (F0 m (pc + 3) ls (rv b v :: rest))) : W p l e R s m args below meth c H locs cells slots Q (F0 m pc ls (.ref (b + i) :: rest)) := by
  obtain ⟨h1, h2⟩ := gR_some hv
  obtain ⟨k, -, hg⟩ := cO_at (b := b) (cB := cB) (cI := cI) (cJ := cJ) (cZ := cZ) (cS := cS) (cO := cO) (by decide) h1
  have hf : (vL b cs i (32 * 10) (tyX 10))[7]? = some (rv b v) := by
    show some (vV b cs 327 i 2) = _
    show some (rv b (kR cs 327 i)) = _
    rw [h2]
  exact va_get (D := (dC, dI)) (ci := 10) (C := RX9) (T := TX9) (N := 12) hx hb hts (fun w h => List.mem_cons_of_mem _ (uG_X9 w h)) hown hK hP k hg rfl 7 (by decide) (hts _ (List.mem_cons_of_mem _ kw_869)) (fun _ h9 => h9) hf hdg kk
theorem fp_X9_9 {p : Program} {l : Launch} {e : Env} {R : Room} {s : State} {m : MethodId} {args : Array Value} {below : List Frame} {meth : Method} {c : Code} {H : Heap} {locs : List Loc} {cells slots : Nat} {Q : State → Prop} {cc : ByteArray} {pc : Nat} {ls : Array Slot} {rest : List Value} {y0 : MethodName} {c0 : ByteArray} {n0 : Nat} {r0 : Option FieldType} {dC : Nat → ClassId} {dI : Nat → Nat → Nat} {cB cI cJ cZ cS cO : ClassId} {b : Nat} {cs : CS} {A : Nat → Prop} {H0 : Heap} {cs1 : CS} {i : Nat} {v : (Option Nat)} (hx : p.tables.exec = Jvm.exec) (hb : c.code = cc) (hts : ∀ w ∈ wsOf y0 c0 n0 r0, w.before args s = true) (hown : s.vm.findClass RX9 = some m.cls) (hK : va_K (dC, dI) vwCl [(cB, .byte), (cI, .int), (cJ, .long), (cZ, .boolean), (cS, .object "StreamQueries$Source"), (cO, .object "java/lang/Object")] s) (hP : va_P (dC, dI) vwCl (cW cB cI cJ cZ cS cO b cs) H) (hD : va_D A (cW cB cI cJ cZ cS cO b cs)) (hS : va_S A H0 H locs) (hin : meth.name = "<init>") (hv : pR cs 10 327 i v = some cs1) (hdg : decode cc pc = .ok (.putfield 9, 3)) (kk : ∀ (H1 : Heap) (locs1 : List Loc), va_P (dC, dI) vwCl (cW cB cI cJ cZ cS cO b cs1) H1 → va_D A (cW cB cI cJ cZ cS cO b cs1) → va_S A H0 H1 locs1 → W p l e R s m args below meth c H1 locs1 cells slots Q (F0 m (pc + 3) ls rest)) : W p l e R s m args below meth c H locs cells slots Q (F0 m pc ls (rv b v :: .ref (b + i) :: rest)) := by
  obtain ⟨h1, rfl⟩ := pR_some hv
  obtain ⟨k, hk, hg⟩ := cO_at (b := b) (cB := cB) (cI := cI) (cJ := cJ) (cZ := cZ) (cS := cS) (cO := cO) (by decide) h1
  have hset := cW_putF (f := 7) (y := 2) (v := rv b v) (cs1 := sR cs 327 i v) (by decide) rfl hD hk rfl rfl rfl rfl rfl rfl (by show rv b (u2 (kR cs) 327 i v 327 i) = _; rw [u2_s]) (fun z j w hn => by
    have e9 : kR (sR cs 327 i v) z j = kR cs z j := u2_n hn
    match w with
    | 0 => rfl
    | 1 => rfl
    | 2 => show rv b (kR (sR cs 327 i v) z j) = rv b (kR cs z j); rw [e9]
    | _ + 3 => rfl)
  refine va_putF (D := (dC, dI)) (ci := 10) (v := rv b v) (ty := .object "StreamQueries$Tokens") (C := RX9) (T := TX9) (N := 12) hx hb hts (fun w h => List.mem_cons_of_mem _ (uG_X9 w h)) tyX9 tyX9_ok nmX9 hown hK hP hD hS k hg rfl 7 (by decide) (hts _ (List.mem_cons_of_mem _ kw_869)) (fun _ h9 => h9) rfl hin rfl (by decide +kernel) (rv_nar b v _) (rv_fit b v _) (by rw [vL_len]; decide) hdg (fun H1 l1 q1 q2 q3 => ?_)
  rw [hset] at q1 q2
  exact kk H1 l1 q1 q2 q3
theorem fg_X9_26 {p : Program} {l : Launch} {e : Env} {R : Room} {s : State} {m : MethodId} {args : Array Value} {below : List Frame} {meth : Method} {c : Code} {H : Heap} {locs : List Loc} {cells slots : Nat} {Q : State → Prop} {cc : ByteArray} {pc : Nat} {ls : Array Slot} {rest : List Value} {y0 : MethodName} {c0 : ByteArray} {n0 : Nat} {r0 : Option FieldType} {dC : Nat → ClassId} {dI : Nat → Nat → Nat} {cB cI cJ cZ cS cO : ClassId} {b : Nat} {cs : CS} {i : Nat} {v : (Option Nat)} (hx : p.tables.exec = Jvm.exec) (hb : c.code = cc) (hts : ∀ w ∈ wsOf y0 c0 n0 r0, w.before args s = true) (hown : s.vm.findClass RX9 = some m.cls) (hK : va_K (dC, dI) vwCl [(cB, .byte), (cI, .int), (cJ, .long), (cZ, .boolean), (cS, .object "StreamQueries$Source"), (cO, .object "java/lang/Object")] s) (hP : va_P (dC, dI) vwCl (cW cB cI cJ cZ cS cO b cs) H) (hv : gR cs 10 322 i = some v) (hdg : decode cc pc = .ok (.getfield 26, 3)) (kk : W p l e R s m args below meth c H locs cells slots Q (F0 m (pc + 3) ls (rv b v :: rest))) : W p l e R s m args below meth c H locs cells slots Q (F0 m pc ls (.ref (b + i) :: rest)) := by
  obtain ⟨h1, h2⟩ := gR_some hv
  obtain ⟨k, -, hg⟩ := cO_at (b := b) (cB := cB) (cI := cI) (cJ := cJ) (cZ := cZ) (cS := cS) (cO := cO) (by decide) h1
  have hf : (vL b cs i (32 * 10) (tyX 10))[2]? = some (rv b v) := by
    show some (vV b cs 322 i 2) = _
    show some (rv b (kR cs 322 i)) = _
    rw [h2]
  exact va_get (D := (dC, dI)) (ci := 10) (C := RX9) (T := TX9) (N := 12) hx hb hts (fun w h => List.mem_cons_of_mem _ (uG_X9 w h)) hown hK hP k hg rfl 2 (by decide) (hts _ (List.mem_cons_of_mem _ kw_860)) (fun _ h9 => h9) hf hdg kk
theorem fp_X9_26 {p : Program} {l : Launch} {e : Env} {R : Room} {s : State} {m : MethodId} {args : Array Value} {below : List Frame} {meth : Method} {c : Code} {H : Heap} {locs : List Loc} {cells slots : Nat} {Q : State → Prop} {cc : ByteArray} {pc : Nat} {ls : Array Slot} {rest : List Value} {y0 : MethodName} {c0 : ByteArray} {n0 : Nat} {r0 : Option FieldType} {dC : Nat → ClassId} {dI : Nat → Nat → Nat} {cB cI cJ cZ cS cO : ClassId} {b : Nat} {cs : CS} {A : Nat → Prop} {H0 : Heap} {cs1 : CS} {i : Nat} {v : (Option Nat)} (hx : p.tables.exec = Jvm.exec) (hb : c.code = cc) (hts : ∀ w ∈ wsOf y0 c0 n0 r0, w.before args s = true) (hown : s.vm.findClass RX9 = some m.cls) (hK : va_K (dC, dI) vwCl [(cB, .byte), (cI, .int), (cJ, .long), (cZ, .boolean), (cS, .object "StreamQueries$Source"), (cO, .object "java/lang/Object")] s) (hP : va_P (dC, dI) vwCl (cW cB cI cJ cZ cS cO b cs) H) (hD : va_D A (cW cB cI cJ cZ cS cO b cs)) (hS : va_S A H0 H locs) (hin : meth.name = "<init>") (hv : pR cs 10 322 i v = some cs1) (hdg : decode cc pc = .ok (.putfield 26, 3)) (kk : ∀ (H1 : Heap) (locs1 : List Loc), va_P (dC, dI) vwCl (cW cB cI cJ cZ cS cO b cs1) H1 → va_D A (cW cB cI cJ cZ cS cO b cs1) → va_S A H0 H1 locs1 → W p l e R s m args below meth c H1 locs1 cells slots Q (F0 m (pc + 3) ls rest)) : W p l e R s m args below meth c H locs cells slots Q (F0 m pc ls (rv b v :: .ref (b + i) :: rest)) := by
  obtain ⟨h1, rfl⟩ := pR_some hv
  obtain ⟨k, hk, hg⟩ := cO_at (b := b) (cB := cB) (cI := cI) (cJ := cJ) (cZ := cZ) (cS := cS) (cO := cO) (by decide) h1
  have hset := cW_putF (f := 2) (y := 2) (v := rv b v) (cs1 := sR cs 322 i v) (by decide) rfl hD hk rfl rfl rfl rfl rfl rfl (by show rv b (u2 (kR cs) 322 i v 322 i) = _; rw [u2_s]) (fun z j w hn => by
    have e9 : kR (sR cs 322 i v) z j = kR cs z j := u2_n hn
    match w with
    | 0 => rfl
    | 1 => rfl
    | 2 => show rv b (kR (sR cs 322 i v) z j) = rv b (kR cs z j); rw [e9]
    | _ + 3 => rfl)
  refine va_putF (D := (dC, dI)) (ci := 10) (v := rv b v) (ty := .object "StreamQueries$Code") (C := RX9) (T := TX9) (N := 12) hx hb hts (fun w h => List.mem_cons_of_mem _ (uG_X9 w h)) tyX9 tyX9_ok nmX9 hown hK hP hD hS k hg rfl 2 (by decide) (hts _ (List.mem_cons_of_mem _ kw_860)) (fun _ h9 => h9) rfl hin rfl (by decide +kernel) (rv_nar b v _) (rv_fit b v _) (by rw [vL_len]; decide) hdg (fun H1 l1 q1 q2 q3 => ?_)
  rw [hset] at q1 q2
  exact kk H1 l1 q1 q2 q3
theorem fg_X9_32 {p : Program} {l : Launch} {e : Env} {R : Room} {s : State} {m : MethodId} {args : Array Value} {below : List Frame} {meth : Method} {c : Code} {H : Heap} {locs : List Loc} {cells slots : Nat} {Q : State → Prop} {cc : ByteArray} {pc : Nat} {ls : Array Slot} {rest : List Value} {y0 : MethodName} {c0 : ByteArray} {n0 : Nat} {r0 : Option FieldType} {dC : Nat → ClassId} {dI : Nat → Nat → Nat} {cB cI cJ cZ cS cO : ClassId} {b : Nat} {cs : CS} {i : Nat} {v : Nat} (hx : p.tables.exec = Jvm.exec) (hb : c.code = cc) (hts : ∀ w ∈ wsOf y0 c0 n0 r0, w.before args s = true) (hown : s.vm.findClass RX9 = some m.cls) (hK : va_K (dC, dI) vwCl [(cB, .byte), (cI, .int), (cJ, .long), (cZ, .boolean), (cS, .object "StreamQueries$Source"), (cO, .object "java/lang/Object")] s) (hP : va_P (dC, dI) vwCl (cW cB cI cJ cZ cS cO b cs) H) (hv : gA cs 10 326 i = some v) (hdg : decode cc pc = .ok (.getfield 32, 3)) (kk : W p l e R s m args below meth c H locs cells slots Q (F0 m (pc + 3) ls (.ref (b + v) :: rest))) : W p l e R s m args below meth c H locs cells slots Q (F0 m pc ls (.ref (b + i) :: rest)) := by
  obtain ⟨h1, h2⟩ := gA_some hv
  obtain ⟨k, -, hg⟩ := cO_at (b := b) (cB := cB) (cI := cI) (cJ := cJ) (cZ := cZ) (cS := cS) (cO := cO) (by decide) h1
  have hf : (vL b cs i (32 * 10) (tyX 10))[6]? = some (.ref (b + v)) := by
    show some (vV b cs 326 i 3) = _
    show some (rv b (kP cs 326 i)) = _
    rw [h2]; rfl
  exact va_get (D := (dC, dI)) (ci := 10) (C := RX9) (T := TX9) (N := 12) hx hb hts (fun w h => List.mem_cons_of_mem _ (uG_X9 w h)) hown hK hP k hg rfl 6 (by decide) (hts _ (List.mem_cons_of_mem _ kw_868)) (fun _ h9 => h9) hf hdg kk
theorem fg_X9_44 {p : Program} {l : Launch} {e : Env} {R : Room} {s : State} {m : MethodId} {args : Array Value} {below : List Frame} {meth : Method} {c : Code} {H : Heap} {locs : List Loc} {cells slots : Nat} {Q : State → Prop} {cc : ByteArray} {pc : Nat} {ls : Array Slot} {rest : List Value} {y0 : MethodName} {c0 : ByteArray} {n0 : Nat} {r0 : Option FieldType} {dC : Nat → ClassId} {dI : Nat → Nat → Nat} {cB cI cJ cZ cS cO : ClassId} {b : Nat} {cs : CS} {i : Nat} {v : (Option Nat)} (hx : p.tables.exec = Jvm.exec) (hb : c.code = cc) (hts : ∀ w ∈ wsOf y0 c0 n0 r0, w.before args s = true) (hown : s.vm.findClass RX9 = some m.cls) (hK : va_K (dC, dI) vwCl [(cB, .byte), (cI, .int), (cJ, .long), (cZ, .boolean), (cS, .object "StreamQueries$Source"), (cO, .object "java/lang/Object")] s) (hP : va_P (dC, dI) vwCl (cW cB cI cJ cZ cS cO b cs) H) (hv : gR cs 10 323 i = some v) (hdg : decode cc pc = .ok (.getfield 44, 3)) (kk : W p l e R s m args below meth c H locs cells slots Q (F0 m (pc + 3) ls (rv b v :: rest))) : W p l e R s m args below meth c H locs cells slots Q (F0 m pc ls (.ref (b + i) :: rest)) := by
  obtain ⟨h1, h2⟩ := gR_some hv
  obtain ⟨k, -, hg⟩ := cO_at (b := b) (cB := cB) (cI := cI) (cJ := cJ) (cZ := cZ) (cS := cS) (cO := cO) (by decide) h1
  have hf : (vL b cs i (32 * 10) (tyX 10))[3]? = some (rv b v) := by
    show some (vV b cs 323 i 2) = _
    show some (rv b (kR cs 323 i)) = _
    rw [h2]
  exact va_get (D := (dC, dI)) (ci := 10) (C := RX9) (T := TX9) (N := 12) hx hb hts (fun w h => List.mem_cons_of_mem _ (uG_X9 w h)) hown hK hP k hg rfl 3 (by decide) (hts _ (List.mem_cons_of_mem _ kw_862)) (fun _ h9 => h9) hf hdg kk
theorem fp_X9_44 {p : Program} {l : Launch} {e : Env} {R : Room} {s : State} {m : MethodId} {args : Array Value} {below : List Frame} {meth : Method} {c : Code} {H : Heap} {locs : List Loc} {cells slots : Nat} {Q : State → Prop} {cc : ByteArray} {pc : Nat} {ls : Array Slot} {rest : List Value} {y0 : MethodName} {c0 : ByteArray} {n0 : Nat} {r0 : Option FieldType} {dC : Nat → ClassId} {dI : Nat → Nat → Nat} {cB cI cJ cZ cS cO : ClassId} {b : Nat} {cs : CS} {A : Nat → Prop} {H0 : Heap} {cs1 : CS} {i : Nat} {v : (Option Nat)} (hx : p.tables.exec = Jvm.exec) (hb : c.code = cc) (hts : ∀ w ∈ wsOf y0 c0 n0 r0, w.before args s = true) (hown : s.vm.findClass RX9 = some m.cls) (hK : va_K (dC, dI) vwCl [(cB, .byte), (cI, .int), (cJ, .long), (cZ, .boolean), (cS, .object "StreamQueries$Source"), (cO, .object "java/lang/Object")] s) (hP : va_P (dC, dI) vwCl (cW cB cI cJ cZ cS cO b cs) H) (hD : va_D A (cW cB cI cJ cZ cS cO b cs)) (hS : va_S A H0 H locs) (hv : pR cs 10 323 i v = some cs1) (hdg : decode cc pc = .ok (.putfield 44, 3)) (kk : ∀ (H1 : Heap) (locs1 : List Loc), va_P (dC, dI) vwCl (cW cB cI cJ cZ cS cO b cs1) H1 → va_D A (cW cB cI cJ cZ cS cO b cs1) → va_S A H0 H1 locs1 → W p l e R s m args below meth c H1 locs1 cells slots Q (F0 m (pc + 3) ls rest)) : W p l e R s m args below meth c H locs cells slots Q (F0 m pc ls (rv b v :: .ref (b + i) :: rest)) := by
  obtain ⟨h1, rfl⟩ := pR_some hv
  obtain ⟨k, hk, hg⟩ := cO_at (b := b) (cB := cB) (cI := cI) (cJ := cJ) (cZ := cZ) (cS := cS) (cO := cO) (by decide) h1
  have hset := cW_putF (f := 3) (y := 2) (v := rv b v) (cs1 := sR cs 323 i v) (by decide) rfl hD hk rfl rfl rfl rfl rfl rfl (by show rv b (u2 (kR cs) 323 i v 323 i) = _; rw [u2_s]) (fun z j w hn => by
    have e9 : kR (sR cs 323 i v) z j = kR cs z j := u2_n hn
    match w with
    | 0 => rfl
    | 1 => rfl
    | 2 => show rv b (kR (sR cs 323 i v) z j) = rv b (kR cs z j); rw [e9]
    | _ + 3 => rfl)
  refine va_put (D := (dC, dI)) (ci := 10) (v := rv b v) (ty := .object "StreamQueries$Query") (C := RX9) (T := TX9) (N := 12) hx hb hts (fun w h => List.mem_cons_of_mem _ (uG_X9 w h)) tyX9 tyX9_ok nmX9 hown hK hP hD hS k hg rfl 3 (by decide) (hts _ (List.mem_cons_of_mem _ kw_862)) (fun _ h9 => h9) rfl (by decide +kernel) (rv_nar b v _) (rv_fit b v _) (by rw [vL_len]; decide) hdg (fun H1 l1 q1 q2 q3 => ?_)
  rw [hset] at q1 q2
  exact kk H1 l1 q1 q2 q3
theorem fg_X9_52 {p : Program} {l : Launch} {e : Env} {R : Room} {s : State} {m : MethodId} {args : Array Value} {below : List Frame} {meth : Method} {c : Code} {H : Heap} {locs : List Loc} {cells slots : Nat} {Q : State → Prop} {cc : ByteArray} {pc : Nat} {ls : Array Slot} {rest : List Value} {y0 : MethodName} {c0 : ByteArray} {n0 : Nat} {r0 : Option FieldType} {dC : Nat → ClassId} {dI : Nat → Nat → Nat} {cB cI cJ cZ cS cO : ClassId} {b : Nat} {cs : CS} {i : Nat} {v : Int32} (hx : p.tables.exec = Jvm.exec) (hb : c.code = cc) (hts : ∀ w ∈ wsOf y0 c0 n0 r0, w.before args s = true) (hown : s.vm.findClass RX9 = some m.cls) (hK : va_K (dC, dI) vwCl [(cB, .byte), (cI, .int), (cJ, .long), (cZ, .boolean), (cS, .object "StreamQueries$Source"), (cO, .object "java/lang/Object")] s) (hP : va_P (dC, dI) vwCl (cW cB cI cJ cZ cS cO b cs) H) (hv : gI cs 10 324 i = some v) (hdg : decode cc pc = .ok (.getfield 52, 3)) (kk : W p l e R s m args below meth c H locs cells slots Q (F0 m (pc + 3) ls (.int v :: rest))) : W p l e R s m args below meth c H locs cells slots Q (F0 m pc ls (.ref (b + i) :: rest)) := by
  obtain ⟨h1, h2⟩ := gI_some hv
  obtain ⟨k, -, hg⟩ := cO_at (b := b) (cB := cB) (cI := cI) (cJ := cJ) (cZ := cZ) (cS := cS) (cO := cO) (by decide) h1
  have hf : (vL b cs i (32 * 10) (tyX 10))[4]? = some (.int v) := by
    show some (vV b cs 324 i 0) = _
    show some (Value.int (kI cs 324 i)) = _
    rw [h2]
  exact va_get (D := (dC, dI)) (ci := 10) (C := RX9) (T := TX9) (N := 12) hx hb hts (fun w h => List.mem_cons_of_mem _ (uG_X9 w h)) hown hK hP k hg rfl 4 (by decide) (hts _ (List.mem_cons_of_mem _ kw_864)) (fun _ h9 => h9) hf hdg kk
theorem fp_X9_52 {p : Program} {l : Launch} {e : Env} {R : Room} {s : State} {m : MethodId} {args : Array Value} {below : List Frame} {meth : Method} {c : Code} {H : Heap} {locs : List Loc} {cells slots : Nat} {Q : State → Prop} {cc : ByteArray} {pc : Nat} {ls : Array Slot} {rest : List Value} {y0 : MethodName} {c0 : ByteArray} {n0 : Nat} {r0 : Option FieldType} {dC : Nat → ClassId} {dI : Nat → Nat → Nat} {cB cI cJ cZ cS cO : ClassId} {b : Nat} {cs : CS} {A : Nat → Prop} {H0 : Heap} {cs1 : CS} {i : Nat} {v : Int32} (hx : p.tables.exec = Jvm.exec) (hb : c.code = cc) (hts : ∀ w ∈ wsOf y0 c0 n0 r0, w.before args s = true) (hown : s.vm.findClass RX9 = some m.cls) (hK : va_K (dC, dI) vwCl [(cB, .byte), (cI, .int), (cJ, .long), (cZ, .boolean), (cS, .object "StreamQueries$Source"), (cO, .object "java/lang/Object")] s) (hP : va_P (dC, dI) vwCl (cW cB cI cJ cZ cS cO b cs) H) (hD : va_D A (cW cB cI cJ cZ cS cO b cs)) (hS : va_S A H0 H locs) (hz : v = 0 ∨ v = 1) (hv : pI cs 10 324 i v = some cs1) (hdg : decode cc pc = .ok (.putfield 52, 3)) (kk : ∀ (H1 : Heap) (locs1 : List Loc), va_P (dC, dI) vwCl (cW cB cI cJ cZ cS cO b cs1) H1 → va_D A (cW cB cI cJ cZ cS cO b cs1) → va_S A H0 H1 locs1 → W p l e R s m args below meth c H1 locs1 cells slots Q (F0 m (pc + 3) ls rest)) : W p l e R s m args below meth c H locs cells slots Q (F0 m pc ls (.int v :: .ref (b + i) :: rest)) := by
  obtain ⟨h1, rfl⟩ := pI_some hv
  obtain ⟨k, hk, hg⟩ := cO_at (b := b) (cB := cB) (cI := cI) (cJ := cJ) (cZ := cZ) (cS := cS) (cO := cO) (by decide) h1
  have hset := cW_putF (f := 4) (y := 0) (v := .int v) (cs1 := sI cs 324 i v) (by decide) rfl hD hk rfl rfl rfl rfl rfl rfl (by show Value.int (u2 (kI cs) 324 i v 324 i) = _; rw [u2_s]) (fun z j w hn => by
    have e9 : kI (sI cs 324 i v) z j = kI cs z j := u2_n hn
    match w with
    | 0 => show Value.int (kI (sI cs 324 i v) z j) = Value.int (kI cs z j); rw [e9]
    | 1 => rfl
    | 2 => rfl
    | _ + 3 => rfl)
  refine va_put (D := (dC, dI)) (ci := 10) (v := .int v) (ty := .boolean) (C := RX9) (T := TX9) (N := 12) hx hb hts (fun w h => List.mem_cons_of_mem _ (uG_X9 w h)) tyX9 tyX9_ok nmX9 hown hK hP hD hS k hg rfl 4 (by decide) (hts _ (List.mem_cons_of_mem _ kw_864)) (fun _ h9 => h9) rfl (by decide +kernel) (nzN hz) (nzF hz) (by rw [vL_len]; decide) hdg (fun H1 l1 q1 q2 q3 => ?_)
  rw [hset] at q1 q2
  exact kk H1 l1 q1 q2 q3
theorem fg_X9_63 {p : Program} {l : Launch} {e : Env} {R : Room} {s : State} {m : MethodId} {args : Array Value} {below : List Frame} {meth : Method} {c : Code} {H : Heap} {locs : List Loc} {cells slots : Nat} {Q : State → Prop} {cc : ByteArray} {pc : Nat} {ls : Array Slot} {rest : List Value} {y0 : MethodName} {c0 : ByteArray} {n0 : Nat} {r0 : Option FieldType} {dC : Nat → ClassId} {dI : Nat → Nat → Nat} {cB cI cJ cZ cS cO : ClassId} {b : Nat} {cs : CS} {i : Nat} {v : (Option Nat)} (hx : p.tables.exec = Jvm.exec) (hb : c.code = cc) (hts : ∀ w ∈ wsOf y0 c0 n0 r0, w.before args s = true) (hown : s.vm.findClass RX9 = some m.cls) (hK : va_K (dC, dI) vwCl [(cB, .byte), (cI, .int), (cJ, .long), (cZ, .boolean), (cS, .object "StreamQueries$Source"), (cO, .object "java/lang/Object")] s) (hP : va_P (dC, dI) vwCl (cW cB cI cJ cZ cS cO b cs) H) (hv : gR cs 4 129 i = some v) (hdg : decode cc pc = .ok (.getfield 63, 3)) (kk : W p l e R s m args below meth c H locs cells slots Q (F0 m (pc + 3) ls (rv b v :: rest))) : W p l e R s m args below meth c H locs cells slots Q (F0 m pc ls (.ref (b + i) :: rest)) := by
  obtain ⟨h1, h2⟩ := gR_some hv
  obtain ⟨k, -, hg⟩ := cO_at (b := b) (cB := cB) (cI := cI) (cJ := cJ) (cZ := cZ) (cS := cS) (cO := cO) (by decide) h1
  have hf : (vL b cs i (32 * 4) (tyX 4))[1]? = some (rv b v) := by
    show some (vV b cs 129 i 2) = _
    show some (rv b (kR cs 129 i)) = _
    rw [h2]
  exact va_get (D := (dC, dI)) (ci := 4) (C := RX3) (T := TX3) (N := 6) hx hb hts (fun w h => List.mem_cons_of_mem _ (uG_X3 w h)) hown hK hP k hg rfl 1 (by decide) (hts _ (List.mem_cons_of_mem _ kw_829)) (fun _ h9 => h9) hf hdg kk
theorem fg_X9_72 {p : Program} {l : Launch} {e : Env} {R : Room} {s : State} {m : MethodId} {args : Array Value} {below : List Frame} {meth : Method} {c : Code} {H : Heap} {locs : List Loc} {cells slots : Nat} {Q : State → Prop} {cc : ByteArray} {pc : Nat} {ls : Array Slot} {rest : List Value} {y0 : MethodName} {c0 : ByteArray} {n0 : Nat} {r0 : Option FieldType} {dC : Nat → ClassId} {dI : Nat → Nat → Nat} {cB cI cJ cZ cS cO : ClassId} {b : Nat} {cs : CS} {i : Nat} {v : Nat} (hx : p.tables.exec = Jvm.exec) (hb : c.code = cc) (hts : ∀ w ∈ wsOf y0 c0 n0 r0, w.before args s = true) (hown : s.vm.findClass RX9 = some m.cls) (hK : va_K (dC, dI) vwCl [(cB, .byte), (cI, .int), (cJ, .long), (cZ, .boolean), (cS, .object "StreamQueries$Source"), (cO, .object "java/lang/Object")] s) (hP : va_P (dC, dI) vwCl (cW cB cI cJ cZ cS cO b cs) H) (hv : gA cs 3 100 i = some v) (hdg : decode cc pc = .ok (.getfield 72, 3)) (kk : W p l e R s m args below meth c H locs cells slots Q (F0 m (pc + 3) ls (.ref (b + v) :: rest))) : W p l e R s m args below meth c H locs cells slots Q (F0 m pc ls (.ref (b + i) :: rest)) := by
  obtain ⟨h1, h2⟩ := gA_some hv
  obtain ⟨k, -, hg⟩ := cO_at (b := b) (cB := cB) (cI := cI) (cJ := cJ) (cZ := cZ) (cS := cS) (cO := cO) (by decide) h1
  have hf : (vL b cs i (32 * 3) (tyX 3))[4]? = some (.ref (b + v)) := by
    show some (vV b cs 100 i 3) = _
    show some (rv b (kP cs 100 i)) = _
    rw [h2]; rfl
  exact va_get (D := (dC, dI)) (ci := 3) (C := RX2) (T := TX2) (N := 5) hx hb hts (fun w h => List.mem_cons_of_mem _ (uG_X2 w h)) hown hK hP k hg rfl 4 (by decide) (hts _ (List.mem_cons_of_mem _ kw_641)) (fun _ h9 => h9) hf hdg kk
theorem fg_X9_76 {p : Program} {l : Launch} {e : Env} {R : Room} {s : State} {m : MethodId} {args : Array Value} {below : List Frame} {meth : Method} {c : Code} {H : Heap} {locs : List Loc} {cells slots : Nat} {Q : State → Prop} {cc : ByteArray} {pc : Nat} {ls : Array Slot} {rest : List Value} {y0 : MethodName} {c0 : ByteArray} {n0 : Nat} {r0 : Option FieldType} {dC : Nat → ClassId} {dI : Nat → Nat → Nat} {cB cI cJ cZ cS cO : ClassId} {b : Nat} {cs : CS} {i : Nat} {v : Int32} (hx : p.tables.exec = Jvm.exec) (hb : c.code = cc) (hts : ∀ w ∈ wsOf y0 c0 n0 r0, w.before args s = true) (hown : s.vm.findClass RX9 = some m.cls) (hK : va_K (dC, dI) vwCl [(cB, .byte), (cI, .int), (cJ, .long), (cZ, .boolean), (cS, .object "StreamQueries$Source"), (cO, .object "java/lang/Object")] s) (hP : va_P (dC, dI) vwCl (cW cB cI cJ cZ cS cO b cs) H) (hv : gI cs 10 325 i = some v) (hdg : decode cc pc = .ok (.getfield 76, 3)) (kk : W p l e R s m args below meth c H locs cells slots Q (F0 m (pc + 3) ls (.int v :: rest))) : W p l e R s m args below meth c H locs cells slots Q (F0 m pc ls (.ref (b + i) :: rest)) := by
  obtain ⟨h1, h2⟩ := gI_some hv
  obtain ⟨k, -, hg⟩ := cO_at (b := b) (cB := cB) (cI := cI) (cJ := cJ) (cZ := cZ) (cS := cS) (cO := cO) (by decide) h1
  have hf : (vL b cs i (32 * 10) (tyX 10))[5]? = some (.int v) := by
    show some (vV b cs 325 i 0) = _
    show some (Value.int (kI cs 325 i)) = _
    rw [h2]
  exact va_get (D := (dC, dI)) (ci := 10) (C := RX9) (T := TX9) (N := 12) hx hb hts (fun w h => List.mem_cons_of_mem _ (uG_X9 w h)) hown hK hP k hg rfl 5 (by decide) (hts _ (List.mem_cons_of_mem _ kw_866)) (fun _ h9 => h9) hf hdg kk
theorem fp_X9_76 {p : Program} {l : Launch} {e : Env} {R : Room} {s : State} {m : MethodId} {args : Array Value} {below : List Frame} {meth : Method} {c : Code} {H : Heap} {locs : List Loc} {cells slots : Nat} {Q : State → Prop} {cc : ByteArray} {pc : Nat} {ls : Array Slot} {rest : List Value} {y0 : MethodName} {c0 : ByteArray} {n0 : Nat} {r0 : Option FieldType} {dC : Nat → ClassId} {dI : Nat → Nat → Nat} {cB cI cJ cZ cS cO : ClassId} {b : Nat} {cs : CS} {A : Nat → Prop} {H0 : Heap} {cs1 : CS} {i : Nat} {v : Int32} (hx : p.tables.exec = Jvm.exec) (hb : c.code = cc) (hts : ∀ w ∈ wsOf y0 c0 n0 r0, w.before args s = true) (hown : s.vm.findClass RX9 = some m.cls) (hK : va_K (dC, dI) vwCl [(cB, .byte), (cI, .int), (cJ, .long), (cZ, .boolean), (cS, .object "StreamQueries$Source"), (cO, .object "java/lang/Object")] s) (hP : va_P (dC, dI) vwCl (cW cB cI cJ cZ cS cO b cs) H) (hD : va_D A (cW cB cI cJ cZ cS cO b cs)) (hS : va_S A H0 H locs) (hv : pI cs 10 325 i v = some cs1) (hdg : decode cc pc = .ok (.putfield 76, 3)) (kk : ∀ (H1 : Heap) (locs1 : List Loc), va_P (dC, dI) vwCl (cW cB cI cJ cZ cS cO b cs1) H1 → va_D A (cW cB cI cJ cZ cS cO b cs1) → va_S A H0 H1 locs1 → W p l e R s m args below meth c H1 locs1 cells slots Q (F0 m (pc + 3) ls rest)) : W p l e R s m args below meth c H locs cells slots Q (F0 m pc ls (.int v :: .ref (b + i) :: rest)) := by
  obtain ⟨h1, rfl⟩ := pI_some hv
  obtain ⟨k, hk, hg⟩ := cO_at (b := b) (cB := cB) (cI := cI) (cJ := cJ) (cZ := cZ) (cS := cS) (cO := cO) (by decide) h1
  have hset := cW_putF (f := 5) (y := 0) (v := .int v) (cs1 := sI cs 325 i v) (by decide) rfl hD hk rfl rfl rfl rfl rfl rfl (by show Value.int (u2 (kI cs) 325 i v 325 i) = _; rw [u2_s]) (fun z j w hn => by
    have e9 : kI (sI cs 325 i v) z j = kI cs z j := u2_n hn
    match w with
    | 0 => show Value.int (kI (sI cs 325 i v) z j) = Value.int (kI cs z j); rw [e9]
    | 1 => rfl
    | 2 => rfl
    | _ + 3 => rfl)
  refine va_put (D := (dC, dI)) (ci := 10) (v := .int v) (ty := .int) (C := RX9) (T := TX9) (N := 12) hx hb hts (fun w h => List.mem_cons_of_mem _ (uG_X9 w h)) tyX9 tyX9_ok nmX9 hown hK hP hD hS k hg rfl 5 (by decide) (hts _ (List.mem_cons_of_mem _ kw_866)) (fun _ h9 => h9) rfl (by decide +kernel) rfl rfl (by rw [vL_len]; decide) hdg (fun H1 l1 q1 q2 q3 => ?_)
  rw [hset] at q1 q2
  exact kk H1 l1 q1 q2 q3
theorem fg_X9_80 {p : Program} {l : Launch} {e : Env} {R : Room} {s : State} {m : MethodId} {args : Array Value} {below : List Frame} {meth : Method} {c : Code} {H : Heap} {locs : List Loc} {cells slots : Nat} {Q : State → Prop} {cc : ByteArray} {pc : Nat} {ls : Array Slot} {rest : List Value} {y0 : MethodName} {c0 : ByteArray} {n0 : Nat} {r0 : Option FieldType} {dC : Nat → ClassId} {dI : Nat → Nat → Nat} {cB cI cJ cZ cS cO : ClassId} {b : Nat} {cs : CS} {i : Nat} {v : Int32} (hx : p.tables.exec = Jvm.exec) (hb : c.code = cc) (hts : ∀ w ∈ wsOf y0 c0 n0 r0, w.before args s = true) (hown : s.vm.findClass RX9 = some m.cls) (hK : va_K (dC, dI) vwCl [(cB, .byte), (cI, .int), (cJ, .long), (cZ, .boolean), (cS, .object "StreamQueries$Source"), (cO, .object "java/lang/Object")] s) (hP : va_P (dC, dI) vwCl (cW cB cI cJ cZ cS cO b cs) H) (hv : gI cs 7 224 i = some v) (hdg : decode cc pc = .ok (.getfield 80, 3)) (kk : W p l e R s m args below meth c H locs cells slots Q (F0 m (pc + 3) ls (.int v :: rest))) : W p l e R s m args below meth c H locs cells slots Q (F0 m pc ls (.ref (b + i) :: rest)) := by
  obtain ⟨h1, h2⟩ := gI_some hv
  obtain ⟨k, -, hg⟩ := cO_at (b := b) (cB := cB) (cI := cI) (cJ := cJ) (cZ := cZ) (cS := cS) (cO := cO) (by decide) h1
  have hf : (vL b cs i (32 * 7) (tyX 7))[0]? = some (.int v) := by
    show some (vV b cs 224 i 0) = _
    show some (Value.int (kI cs 224 i)) = _
    rw [h2]
  exact va_get (D := (dC, dI)) (ci := 7) (C := RX6) (T := TX6) (N := 12) hx hb hts (fun w h => List.mem_cons_of_mem _ (uG_X6 w h)) hown hK hP k hg rfl 0 (by decide) (hts _ (List.mem_cons_of_mem _ kw_1055)) (fun _ h9 => h9) hf hdg kk
theorem fp_X9_80 {p : Program} {l : Launch} {e : Env} {R : Room} {s : State} {m : MethodId} {args : Array Value} {below : List Frame} {meth : Method} {c : Code} {H : Heap} {locs : List Loc} {cells slots : Nat} {Q : State → Prop} {cc : ByteArray} {pc : Nat} {ls : Array Slot} {rest : List Value} {y0 : MethodName} {c0 : ByteArray} {n0 : Nat} {r0 : Option FieldType} {dC : Nat → ClassId} {dI : Nat → Nat → Nat} {cB cI cJ cZ cS cO : ClassId} {b : Nat} {cs : CS} {A : Nat → Prop} {H0 : Heap} {cs1 : CS} {i : Nat} {v : Int32} (hx : p.tables.exec = Jvm.exec) (hb : c.code = cc) (hts : ∀ w ∈ wsOf y0 c0 n0 r0, w.before args s = true) (hown : s.vm.findClass RX9 = some m.cls) (hK : va_K (dC, dI) vwCl [(cB, .byte), (cI, .int), (cJ, .long), (cZ, .boolean), (cS, .object "StreamQueries$Source"), (cO, .object "java/lang/Object")] s) (hP : va_P (dC, dI) vwCl (cW cB cI cJ cZ cS cO b cs) H) (hD : va_D A (cW cB cI cJ cZ cS cO b cs)) (hS : va_S A H0 H locs) (hv : pI cs 7 224 i v = some cs1) (hdg : decode cc pc = .ok (.putfield 80, 3)) (kk : ∀ (H1 : Heap) (locs1 : List Loc), va_P (dC, dI) vwCl (cW cB cI cJ cZ cS cO b cs1) H1 → va_D A (cW cB cI cJ cZ cS cO b cs1) → va_S A H0 H1 locs1 → W p l e R s m args below meth c H1 locs1 cells slots Q (F0 m (pc + 3) ls rest)) : W p l e R s m args below meth c H locs cells slots Q (F0 m pc ls (.int v :: .ref (b + i) :: rest)) := by
  obtain ⟨h1, rfl⟩ := pI_some hv
  obtain ⟨k, hk, hg⟩ := cO_at (b := b) (cB := cB) (cI := cI) (cJ := cJ) (cZ := cZ) (cS := cS) (cO := cO) (by decide) h1
  have hset := cW_putF (f := 0) (y := 0) (v := .int v) (cs1 := sI cs 224 i v) (by decide) rfl hD hk rfl rfl rfl rfl rfl rfl (by show Value.int (u2 (kI cs) 224 i v 224 i) = _; rw [u2_s]) (fun z j w hn => by
    have e9 : kI (sI cs 224 i v) z j = kI cs z j := u2_n hn
    match w with
    | 0 => show Value.int (kI (sI cs 224 i v) z j) = Value.int (kI cs z j); rw [e9]
    | 1 => rfl
    | 2 => rfl
    | _ + 3 => rfl)
  refine va_put (D := (dC, dI)) (ci := 7) (v := .int v) (ty := .int) (C := RX6) (T := TX6) (N := 12) hx hb hts (fun w h => List.mem_cons_of_mem _ (uG_X6 w h)) tyX6 tyX6_ok nmX6 hown hK hP hD hS k hg rfl 0 (by decide) (hts _ (List.mem_cons_of_mem _ kw_1055)) (fun _ h9 => h9) rfl (by decide +kernel) rfl rfl (by rw [vL_len]; decide) hdg (fun H1 l1 q1 q2 q3 => ?_)
  rw [hset] at q1 q2
  exact kk H1 l1 q1 q2 q3
theorem fg_X9_83 {p : Program} {l : Launch} {e : Env} {R : Room} {s : State} {m : MethodId} {args : Array Value} {below : List Frame} {meth : Method} {c : Code} {H : Heap} {locs : List Loc} {cells slots : Nat} {Q : State → Prop} {cc : ByteArray} {pc : Nat} {ls : Array Slot} {rest : List Value} {y0 : MethodName} {c0 : ByteArray} {n0 : Nat} {r0 : Option FieldType} {dC : Nat → ClassId} {dI : Nat → Nat → Nat} {cB cI cJ cZ cS cO : ClassId} {b : Nat} {cs : CS} {i : Nat} {v : Int64} (hx : p.tables.exec = Jvm.exec) (hb : c.code = cc) (hts : ∀ w ∈ wsOf y0 c0 n0 r0, w.before args s = true) (hown : s.vm.findClass RX9 = some m.cls) (hK : va_K (dC, dI) vwCl [(cB, .byte), (cI, .int), (cJ, .long), (cZ, .boolean), (cS, .object "StreamQueries$Source"), (cO, .object "java/lang/Object")] s) (hP : va_P (dC, dI) vwCl (cW cB cI cJ cZ cS cO b cs) H) (hv : gJ cs 7 230 i = some v) (hdg : decode cc pc = .ok (.getfield 83, 3)) (kk : W p l e R s m args below meth c H locs cells slots Q (F0 m (pc + 3) ls (.long v :: rest))) : W p l e R s m args below meth c H locs cells slots Q (F0 m pc ls (.ref (b + i) :: rest)) := by
  obtain ⟨h1, h2⟩ := gJ_some hv
  obtain ⟨k, -, hg⟩ := cO_at (b := b) (cB := cB) (cI := cI) (cJ := cJ) (cZ := cZ) (cS := cS) (cO := cO) (by decide) h1
  have hf : (vL b cs i (32 * 7) (tyX 7))[6]? = some (.long v) := by
    show some (vV b cs 230 i 1) = _
    show some (Value.long (kJ cs 230 i)) = _
    rw [h2]
  exact va_get (D := (dC, dI)) (ci := 7) (C := RX6) (T := TX6) (N := 12) hx hb hts (fun w h => List.mem_cons_of_mem _ (uG_X6 w h)) hown hK hP k hg rfl 6 (by decide) (hts _ (List.mem_cons_of_mem _ kw_1071)) (fun _ h9 => h9) hf hdg kk
theorem fp_X9_83 {p : Program} {l : Launch} {e : Env} {R : Room} {s : State} {m : MethodId} {args : Array Value} {below : List Frame} {meth : Method} {c : Code} {H : Heap} {locs : List Loc} {cells slots : Nat} {Q : State → Prop} {cc : ByteArray} {pc : Nat} {ls : Array Slot} {rest : List Value} {y0 : MethodName} {c0 : ByteArray} {n0 : Nat} {r0 : Option FieldType} {dC : Nat → ClassId} {dI : Nat → Nat → Nat} {cB cI cJ cZ cS cO : ClassId} {b : Nat} {cs : CS} {A : Nat → Prop} {H0 : Heap} {cs1 : CS} {i : Nat} {v : Int64} (hx : p.tables.exec = Jvm.exec) (hb : c.code = cc) (hts : ∀ w ∈ wsOf y0 c0 n0 r0, w.before args s = true) (hown : s.vm.findClass RX9 = some m.cls) (hK : va_K (dC, dI) vwCl [(cB, .byte), (cI, .int), (cJ, .long), (cZ, .boolean), (cS, .object "StreamQueries$Source"), (cO, .object "java/lang/Object")] s) (hP : va_P (dC, dI) vwCl (cW cB cI cJ cZ cS cO b cs) H) (hD : va_D A (cW cB cI cJ cZ cS cO b cs)) (hS : va_S A H0 H locs) (hv : pJ cs 7 230 i v = some cs1) (hdg : decode cc pc = .ok (.putfield 83, 3)) (kk : ∀ (H1 : Heap) (locs1 : List Loc), va_P (dC, dI) vwCl (cW cB cI cJ cZ cS cO b cs1) H1 → va_D A (cW cB cI cJ cZ cS cO b cs1) → va_S A H0 H1 locs1 → W p l e R s m args below meth c H1 locs1 cells slots Q (F0 m (pc + 3) ls rest)) : W p l e R s m args below meth c H locs cells slots Q (F0 m pc ls (.long v :: .ref (b + i) :: rest)) := by
  obtain ⟨h1, rfl⟩ := pJ_some hv
  obtain ⟨k, hk, hg⟩ := cO_at (b := b) (cB := cB) (cI := cI) (cJ := cJ) (cZ := cZ) (cS := cS) (cO := cO) (by decide) h1
  have hset := cW_putF (f := 6) (y := 1) (v := .long v) (cs1 := sJ cs 230 i v) (by decide) rfl hD hk rfl rfl rfl rfl rfl rfl (by show Value.long (u2 (kJ cs) 230 i v 230 i) = _; rw [u2_s]) (fun z j w hn => by
    have e9 : kJ (sJ cs 230 i v) z j = kJ cs z j := u2_n hn
    match w with
    | 0 => rfl
    | 1 => show Value.long (kJ (sJ cs 230 i v) z j) = Value.long (kJ cs z j); rw [e9]
    | 2 => rfl
    | _ + 3 => rfl)
  refine va_put (D := (dC, dI)) (ci := 7) (v := .long v) (ty := .long) (C := RX6) (T := TX6) (N := 12) hx hb hts (fun w h => List.mem_cons_of_mem _ (uG_X6 w h)) tyX6 tyX6_ok nmX6 hown hK hP hD hS k hg rfl 6 (by decide) (hts _ (List.mem_cons_of_mem _ kw_1071)) (fun _ h9 => h9) rfl (by decide +kernel) rfl rfl (by rw [vL_len]; decide) hdg (fun H1 l1 q1 q2 q3 => ?_)
  rw [hset] at q1 q2
  exact kk H1 l1 q1 q2 q3
theorem fg_X9_93 {p : Program} {l : Launch} {e : Env} {R : Room} {s : State} {m : MethodId} {args : Array Value} {below : List Frame} {meth : Method} {c : Code} {H : Heap} {locs : List Loc} {cells slots : Nat} {Q : State → Prop} {cc : ByteArray} {pc : Nat} {ls : Array Slot} {rest : List Value} {y0 : MethodName} {c0 : ByteArray} {n0 : Nat} {r0 : Option FieldType} {dC : Nat → ClassId} {dI : Nat → Nat → Nat} {cB cI cJ cZ cS cO : ClassId} {b : Nat} {cs : CS} {i : Nat} {v : Int32} (hx : p.tables.exec = Jvm.exec) (hb : c.code = cc) (hts : ∀ w ∈ wsOf y0 c0 n0 r0, w.before args s = true) (hown : s.vm.findClass RX9 = some m.cls) (hK : va_K (dC, dI) vwCl [(cB, .byte), (cI, .int), (cJ, .long), (cZ, .boolean), (cS, .object "StreamQueries$Source"), (cO, .object "java/lang/Object")] s) (hP : va_P (dC, dI) vwCl (cW cB cI cJ cZ cS cO b cs) H) (hv : gI cs 10 320 i = some v) (hdg : decode cc pc = .ok (.getfield 93, 3)) (kk : W p l e R s m args below meth c H locs cells slots Q (F0 m (pc + 3) ls (.int v :: rest))) : W p l e R s m args below meth c H locs cells slots Q (F0 m pc ls (.ref (b + i) :: rest)) := by
  obtain ⟨h1, h2⟩ := gI_some hv
  obtain ⟨k, -, hg⟩ := cO_at (b := b) (cB := cB) (cI := cI) (cJ := cJ) (cZ := cZ) (cS := cS) (cO := cO) (by decide) h1
  have hf : (vL b cs i (32 * 10) (tyX 10))[0]? = some (.int v) := by
    show some (vV b cs 320 i 0) = _
    show some (Value.int (kI cs 320 i)) = _
    rw [h2]
  exact va_get (D := (dC, dI)) (ci := 10) (C := RX9) (T := TX9) (N := 12) hx hb hts (fun w h => List.mem_cons_of_mem _ (uG_X9 w h)) hown hK hP k hg rfl 0 (by decide) (hts _ (List.mem_cons_of_mem _ kw_855)) (fun _ h9 => h9) hf hdg kk
theorem fp_X9_93 {p : Program} {l : Launch} {e : Env} {R : Room} {s : State} {m : MethodId} {args : Array Value} {below : List Frame} {meth : Method} {c : Code} {H : Heap} {locs : List Loc} {cells slots : Nat} {Q : State → Prop} {cc : ByteArray} {pc : Nat} {ls : Array Slot} {rest : List Value} {y0 : MethodName} {c0 : ByteArray} {n0 : Nat} {r0 : Option FieldType} {dC : Nat → ClassId} {dI : Nat → Nat → Nat} {cB cI cJ cZ cS cO : ClassId} {b : Nat} {cs : CS} {A : Nat → Prop} {H0 : Heap} {cs1 : CS} {i : Nat} {v : Int32} (hx : p.tables.exec = Jvm.exec) (hb : c.code = cc) (hts : ∀ w ∈ wsOf y0 c0 n0 r0, w.before args s = true) (hown : s.vm.findClass RX9 = some m.cls) (hK : va_K (dC, dI) vwCl [(cB, .byte), (cI, .int), (cJ, .long), (cZ, .boolean), (cS, .object "StreamQueries$Source"), (cO, .object "java/lang/Object")] s) (hP : va_P (dC, dI) vwCl (cW cB cI cJ cZ cS cO b cs) H) (hD : va_D A (cW cB cI cJ cZ cS cO b cs)) (hS : va_S A H0 H locs) (hv : pI cs 10 320 i v = some cs1) (hdg : decode cc pc = .ok (.putfield 93, 3)) (kk : ∀ (H1 : Heap) (locs1 : List Loc), va_P (dC, dI) vwCl (cW cB cI cJ cZ cS cO b cs1) H1 → va_D A (cW cB cI cJ cZ cS cO b cs1) → va_S A H0 H1 locs1 → W p l e R s m args below meth c H1 locs1 cells slots Q (F0 m (pc + 3) ls rest)) : W p l e R s m args below meth c H locs cells slots Q (F0 m pc ls (.int v :: .ref (b + i) :: rest)) := by
  obtain ⟨h1, rfl⟩ := pI_some hv
  obtain ⟨k, hk, hg⟩ := cO_at (b := b) (cB := cB) (cI := cI) (cJ := cJ) (cZ := cZ) (cS := cS) (cO := cO) (by decide) h1
  have hset := cW_putF (f := 0) (y := 0) (v := .int v) (cs1 := sI cs 320 i v) (by decide) rfl hD hk rfl rfl rfl rfl rfl rfl (by show Value.int (u2 (kI cs) 320 i v 320 i) = _; rw [u2_s]) (fun z j w hn => by
    have e9 : kI (sI cs 320 i v) z j = kI cs z j := u2_n hn
    match w with
    | 0 => show Value.int (kI (sI cs 320 i v) z j) = Value.int (kI cs z j); rw [e9]
    | 1 => rfl
    | 2 => rfl
    | _ + 3 => rfl)
  refine va_put (D := (dC, dI)) (ci := 10) (v := .int v) (ty := .int) (C := RX9) (T := TX9) (N := 12) hx hb hts (fun w h => List.mem_cons_of_mem _ (uG_X9 w h)) tyX9 tyX9_ok nmX9 hown hK hP hD hS k hg rfl 0 (by decide) (hts _ (List.mem_cons_of_mem _ kw_855)) (fun _ h9 => h9) rfl (by decide +kernel) rfl rfl (by rw [vL_len]; decide) hdg (fun H1 l1 q1 q2 q3 => ?_)
  rw [hset] at q1 q2
  exact kk H1 l1 q1 q2 q3
theorem fg_X9_96 {p : Program} {l : Launch} {e : Env} {R : Room} {s : State} {m : MethodId} {args : Array Value} {below : List Frame} {meth : Method} {c : Code} {H : Heap} {locs : List Loc} {cells slots : Nat} {Q : State → Prop} {cc : ByteArray} {pc : Nat} {ls : Array Slot} {rest : List Value} {y0 : MethodName} {c0 : ByteArray} {n0 : Nat} {r0 : Option FieldType} {dC : Nat → ClassId} {dI : Nat → Nat → Nat} {cB cI cJ cZ cS cO : ClassId} {b : Nat} {cs : CS} {i : Nat} {v : Int32} (hx : p.tables.exec = Jvm.exec) (hb : c.code = cc) (hts : ∀ w ∈ wsOf y0 c0 n0 r0, w.before args s = true) (hown : s.vm.findClass RX9 = some m.cls) (hK : va_K (dC, dI) vwCl [(cB, .byte), (cI, .int), (cJ, .long), (cZ, .boolean), (cS, .object "StreamQueries$Source"), (cO, .object "java/lang/Object")] s) (hP : va_P (dC, dI) vwCl (cW cB cI cJ cZ cS cO b cs) H) (hv : gI cs 10 321 i = some v) (hdg : decode cc pc = .ok (.getfield 96, 3)) (kk : W p l e R s m args below meth c H locs cells slots Q (F0 m (pc + 3) ls (.int v :: rest))) : W p l e R s m args below meth c H locs cells slots Q (F0 m pc ls (.ref (b + i) :: rest)) := by
  obtain ⟨h1, h2⟩ := gI_some hv
  obtain ⟨k, -, hg⟩ := cO_at (b := b) (cB := cB) (cI := cI) (cJ := cJ) (cZ := cZ) (cS := cS) (cO := cO) (by decide) h1
  have hf : (vL b cs i (32 * 10) (tyX 10))[1]? = some (.int v) := by
    show some (vV b cs 321 i 0) = _
    show some (Value.int (kI cs 321 i)) = _
    rw [h2]
  exact va_get (D := (dC, dI)) (ci := 10) (C := RX9) (T := TX9) (N := 12) hx hb hts (fun w h => List.mem_cons_of_mem _ (uG_X9 w h)) hown hK hP k hg rfl 1 (by decide) (hts _ (List.mem_cons_of_mem _ kw_857)) (fun _ h9 => h9) hf hdg kk
theorem fp_X9_96 {p : Program} {l : Launch} {e : Env} {R : Room} {s : State} {m : MethodId} {args : Array Value} {below : List Frame} {meth : Method} {c : Code} {H : Heap} {locs : List Loc} {cells slots : Nat} {Q : State → Prop} {cc : ByteArray} {pc : Nat} {ls : Array Slot} {rest : List Value} {y0 : MethodName} {c0 : ByteArray} {n0 : Nat} {r0 : Option FieldType} {dC : Nat → ClassId} {dI : Nat → Nat → Nat} {cB cI cJ cZ cS cO : ClassId} {b : Nat} {cs : CS} {A : Nat → Prop} {H0 : Heap} {cs1 : CS} {i : Nat} {v : Int32} (hx : p.tables.exec = Jvm.exec) (hb : c.code = cc) (hts : ∀ w ∈ wsOf y0 c0 n0 r0, w.before args s = true) (hown : s.vm.findClass RX9 = some m.cls) (hK : va_K (dC, dI) vwCl [(cB, .byte), (cI, .int), (cJ, .long), (cZ, .boolean), (cS, .object "StreamQueries$Source"), (cO, .object "java/lang/Object")] s) (hP : va_P (dC, dI) vwCl (cW cB cI cJ cZ cS cO b cs) H) (hD : va_D A (cW cB cI cJ cZ cS cO b cs)) (hS : va_S A H0 H locs) (hv : pI cs 10 321 i v = some cs1) (hdg : decode cc pc = .ok (.putfield 96, 3)) (kk : ∀ (H1 : Heap) (locs1 : List Loc), va_P (dC, dI) vwCl (cW cB cI cJ cZ cS cO b cs1) H1 → va_D A (cW cB cI cJ cZ cS cO b cs1) → va_S A H0 H1 locs1 → W p l e R s m args below meth c H1 locs1 cells slots Q (F0 m (pc + 3) ls rest)) : W p l e R s m args below meth c H locs cells slots Q (F0 m pc ls (.int v :: .ref (b + i) :: rest)) := by
  obtain ⟨h1, rfl⟩ := pI_some hv
  obtain ⟨k, hk, hg⟩ := cO_at (b := b) (cB := cB) (cI := cI) (cJ := cJ) (cZ := cZ) (cS := cS) (cO := cO) (by decide) h1
  have hset := cW_putF (f := 1) (y := 0) (v := .int v) (cs1 := sI cs 321 i v) (by decide) rfl hD hk rfl rfl rfl rfl rfl rfl (by show Value.int (u2 (kI cs) 321 i v 321 i) = _; rw [u2_s]) (fun z j w hn => by
    have e9 : kI (sI cs 321 i v) z j = kI cs z j := u2_n hn
    match w with
    | 0 => show Value.int (kI (sI cs 321 i v) z j) = Value.int (kI cs z j); rw [e9]
    | 1 => rfl
    | 2 => rfl
    | _ + 3 => rfl)
  refine va_put (D := (dC, dI)) (ci := 10) (v := .int v) (ty := .int) (C := RX9) (T := TX9) (N := 12) hx hb hts (fun w h => List.mem_cons_of_mem _ (uG_X9 w h)) tyX9 tyX9_ok nmX9 hown hK hP hD hS k hg rfl 1 (by decide) (hts _ (List.mem_cons_of_mem _ kw_857)) (fun _ h9 => h9) rfl (by decide +kernel) rfl rfl (by rw [vL_len]; decide) hdg (fun H1 l1 q1 q2 q3 => ?_)
  rw [hset] at q1 q2
  exact kk H1 l1 q1 q2 q3
theorem fg_X9_99 {p : Program} {l : Launch} {e : Env} {R : Room} {s : State} {m : MethodId} {args : Array Value} {below : List Frame} {meth : Method} {c : Code} {H : Heap} {locs : List Loc} {cells slots : Nat} {Q : State → Prop} {cc : ByteArray} {pc : Nat} {ls : Array Slot} {rest : List Value} {y0 : MethodName} {c0 : ByteArray} {n0 : Nat} {r0 : Option FieldType} {dC : Nat → ClassId} {dI : Nat → Nat → Nat} {cB cI cJ cZ cS cO : ClassId} {b : Nat} {cs : CS} {i : Nat} {v : Int32} (hx : p.tables.exec = Jvm.exec) (hb : c.code = cc) (hts : ∀ w ∈ wsOf y0 c0 n0 r0, w.before args s = true) (hown : s.vm.findClass RX9 = some m.cls) (hK : va_K (dC, dI) vwCl [(cB, .byte), (cI, .int), (cJ, .long), (cZ, .boolean), (cS, .object "StreamQueries$Source"), (cO, .object "java/lang/Object")] s) (hP : va_P (dC, dI) vwCl (cW cB cI cJ cZ cS cO b cs) H) (hv : gI cs 10 328 i = some v) (hdg : decode cc pc = .ok (.getfield 99, 3)) (kk : W p l e R s m args below meth c H locs cells slots Q (F0 m (pc + 3) ls (.int v :: rest))) : W p l e R s m args below meth c H locs cells slots Q (F0 m pc ls (.ref (b + i) :: rest)) := by
  obtain ⟨h1, h2⟩ := gI_some hv
  obtain ⟨k, -, hg⟩ := cO_at (b := b) (cB := cB) (cI := cI) (cJ := cJ) (cZ := cZ) (cS := cS) (cO := cO) (by decide) h1
  have hf : (vL b cs i (32 * 10) (tyX 10))[8]? = some (.int v) := by
    show some (vV b cs 328 i 0) = _
    show some (Value.int (kI cs 328 i)) = _
    rw [h2]
  exact va_get (D := (dC, dI)) (ci := 10) (C := RX9) (T := TX9) (N := 12) hx hb hts (fun w h => List.mem_cons_of_mem _ (uG_X9 w h)) hown hK hP k hg rfl 8 (by decide) (hts _ (List.mem_cons_of_mem _ kw_870)) (fun _ h9 => h9) hf hdg kk
theorem fp_X9_99 {p : Program} {l : Launch} {e : Env} {R : Room} {s : State} {m : MethodId} {args : Array Value} {below : List Frame} {meth : Method} {c : Code} {H : Heap} {locs : List Loc} {cells slots : Nat} {Q : State → Prop} {cc : ByteArray} {pc : Nat} {ls : Array Slot} {rest : List Value} {y0 : MethodName} {c0 : ByteArray} {n0 : Nat} {r0 : Option FieldType} {dC : Nat → ClassId} {dI : Nat → Nat → Nat} {cB cI cJ cZ cS cO : ClassId} {b : Nat} {cs : CS} {A : Nat → Prop} {H0 : Heap} {cs1 : CS} {i : Nat} {v : Int32} (hx : p.tables.exec = Jvm.exec) (hb : c.code = cc) (hts : ∀ w ∈ wsOf y0 c0 n0 r0, w.before args s = true) (hown : s.vm.findClass RX9 = some m.cls) (hK : va_K (dC, dI) vwCl [(cB, .byte), (cI, .int), (cJ, .long), (cZ, .boolean), (cS, .object "StreamQueries$Source"), (cO, .object "java/lang/Object")] s) (hP : va_P (dC, dI) vwCl (cW cB cI cJ cZ cS cO b cs) H) (hD : va_D A (cW cB cI cJ cZ cS cO b cs)) (hS : va_S A H0 H locs) (hv : pI cs 10 328 i v = some cs1) (hdg : decode cc pc = .ok (.putfield 99, 3)) (kk : ∀ (H1 : Heap) (locs1 : List Loc), va_P (dC, dI) vwCl (cW cB cI cJ cZ cS cO b cs1) H1 → va_D A (cW cB cI cJ cZ cS cO b cs1) → va_S A H0 H1 locs1 → W p l e R s m args below meth c H1 locs1 cells slots Q (F0 m (pc + 3) ls rest)) : W p l e R s m args below meth c H locs cells slots Q (F0 m pc ls (.int v :: .ref (b + i) :: rest)) := by
  obtain ⟨h1, rfl⟩ := pI_some hv
  obtain ⟨k, hk, hg⟩ := cO_at (b := b) (cB := cB) (cI := cI) (cJ := cJ) (cZ := cZ) (cS := cS) (cO := cO) (by decide) h1
  have hset := cW_putF (f := 8) (y := 0) (v := .int v) (cs1 := sI cs 328 i v) (by decide) rfl hD hk rfl rfl rfl rfl rfl rfl (by show Value.int (u2 (kI cs) 328 i v 328 i) = _; rw [u2_s]) (fun z j w hn => by
    have e9 : kI (sI cs 328 i v) z j = kI cs z j := u2_n hn
    match w with
    | 0 => show Value.int (kI (sI cs 328 i v) z j) = Value.int (kI cs z j); rw [e9]
    | 1 => rfl
    | 2 => rfl
    | _ + 3 => rfl)
  refine va_put (D := (dC, dI)) (ci := 10) (v := .int v) (ty := .int) (C := RX9) (T := TX9) (N := 12) hx hb hts (fun w h => List.mem_cons_of_mem _ (uG_X9 w h)) tyX9 tyX9_ok nmX9 hown hK hP hD hS k hg rfl 8 (by decide) (hts _ (List.mem_cons_of_mem _ kw_870)) (fun _ h9 => h9) rfl (by decide +kernel) rfl rfl (by rw [vL_len]; decide) hdg (fun H1 l1 q1 q2 q3 => ?_)
  rw [hset] at q1 q2
  exact kk H1 l1 q1 q2 q3
theorem fg_X9_102 {p : Program} {l : Launch} {e : Env} {R : Room} {s : State} {m : MethodId} {args : Array Value} {below : List Frame} {meth : Method} {c : Code} {H : Heap} {locs : List Loc} {cells slots : Nat} {Q : State → Prop} {cc : ByteArray} {pc : Nat} {ls : Array Slot} {rest : List Value} {y0 : MethodName} {c0 : ByteArray} {n0 : Nat} {r0 : Option FieldType} {dC : Nat → ClassId} {dI : Nat → Nat → Nat} {cB cI cJ cZ cS cO : ClassId} {b : Nat} {cs : CS} {i : Nat} {v : Nat} (hx : p.tables.exec = Jvm.exec) (hb : c.code = cc) (hts : ∀ w ∈ wsOf y0 c0 n0 r0, w.before args s = true) (hown : s.vm.findClass RX9 = some m.cls) (hK : va_K (dC, dI) vwCl [(cB, .byte), (cI, .int), (cJ, .long), (cZ, .boolean), (cS, .object "StreamQueries$Source"), (cO, .object "java/lang/Object")] s) (hP : va_P (dC, dI) vwCl (cW cB cI cJ cZ cS cO b cs) H) (hv : gA cs 11 352 i = some v) (hdg : decode cc pc = .ok (.getfield 102, 3)) (kk : W p l e R s m args below meth c H locs cells slots Q (F0 m (pc + 3) ls (.ref (b + v) :: rest))) : W p l e R s m args below meth c H locs cells slots Q (F0 m pc ls (.ref (b + i) :: rest)) := by
  obtain ⟨h1, h2⟩ := gA_some hv
  obtain ⟨k, -, hg⟩ := cO_at (b := b) (cB := cB) (cI := cI) (cJ := cJ) (cZ := cZ) (cS := cS) (cO := cO) (by decide) h1
  have hf : (vL b cs i (32 * 11) (tyX 11))[0]? = some (.ref (b + v)) := by
    show some (vV b cs 352 i 3) = _
    show some (rv b (kP cs 352 i)) = _
    rw [h2]; rfl
  exact va_get (D := (dC, dI)) (ci := 11) (C := RX10) (T := TX10) (N := 7) hx hb hts (fun w h => List.mem_cons_of_mem _ (uG_X10 w h)) hown hK hP k hg rfl 0 (by decide) (hts _ (List.mem_cons_of_mem _ kw_319)) (fun _ h9 => h9) hf hdg kk
theorem fg_X9_107 {p : Program} {l : Launch} {e : Env} {R : Room} {s : State} {m : MethodId} {args : Array Value} {below : List Frame} {meth : Method} {c : Code} {H : Heap} {locs : List Loc} {cells slots : Nat} {Q : State → Prop} {cc : ByteArray} {pc : Nat} {ls : Array Slot} {rest : List Value} {y0 : MethodName} {c0 : ByteArray} {n0 : Nat} {r0 : Option FieldType} {dC : Nat → ClassId} {dI : Nat → Nat → Nat} {cB cI cJ cZ cS cO : ClassId} {b : Nat} {cs : CS} {i : Nat} {v : Nat} (hx : p.tables.exec = Jvm.exec) (hb : c.code = cc) (hts : ∀ w ∈ wsOf y0 c0 n0 r0, w.before args s = true) (hown : s.vm.findClass RX9 = some m.cls) (hK : va_K (dC, dI) vwCl [(cB, .byte), (cI, .int), (cJ, .long), (cZ, .boolean), (cS, .object "StreamQueries$Source"), (cO, .object "java/lang/Object")] s) (hP : va_P (dC, dI) vwCl (cW cB cI cJ cZ cS cO b cs) H) (hv : gA cs 11 353 i = some v) (hdg : decode cc pc = .ok (.getfield 107, 3)) (kk : W p l e R s m args below meth c H locs cells slots Q (F0 m (pc + 3) ls (.ref (b + v) :: rest))) : W p l e R s m args below meth c H locs cells slots Q (F0 m pc ls (.ref (b + i) :: rest)) := by
  obtain ⟨h1, h2⟩ := gA_some hv
  obtain ⟨k, -, hg⟩ := cO_at (b := b) (cB := cB) (cI := cI) (cJ := cJ) (cZ := cZ) (cS := cS) (cO := cO) (by decide) h1
  have hf : (vL b cs i (32 * 11) (tyX 11))[1]? = some (.ref (b + v)) := by
    show some (vV b cs 353 i 3) = _
    show some (rv b (kP cs 353 i)) = _
    rw [h2]; rfl
  exact va_get (D := (dC, dI)) (ci := 11) (C := RX10) (T := TX10) (N := 7) hx hb hts (fun w h => List.mem_cons_of_mem _ (uG_X10 w h)) hown hK hP k hg rfl 1 (by decide) (hts _ (List.mem_cons_of_mem _ kw_321)) (fun _ h9 => h9) hf hdg kk
theorem fg_X9_110 {p : Program} {l : Launch} {e : Env} {R : Room} {s : State} {m : MethodId} {args : Array Value} {below : List Frame} {meth : Method} {c : Code} {H : Heap} {locs : List Loc} {cells slots : Nat} {Q : State → Prop} {cc : ByteArray} {pc : Nat} {ls : Array Slot} {rest : List Value} {y0 : MethodName} {c0 : ByteArray} {n0 : Nat} {r0 : Option FieldType} {dC : Nat → ClassId} {dI : Nat → Nat → Nat} {cB cI cJ cZ cS cO : ClassId} {b : Nat} {cs : CS} {i : Nat} {v : Nat} (hx : p.tables.exec = Jvm.exec) (hb : c.code = cc) (hts : ∀ w ∈ wsOf y0 c0 n0 r0, w.before args s = true) (hown : s.vm.findClass RX9 = some m.cls) (hK : va_K (dC, dI) vwCl [(cB, .byte), (cI, .int), (cJ, .long), (cZ, .boolean), (cS, .object "StreamQueries$Source"), (cO, .object "java/lang/Object")] s) (hP : va_P (dC, dI) vwCl (cW cB cI cJ cZ cS cO b cs) H) (hv : gA cs 11 354 i = some v) (hdg : decode cc pc = .ok (.getfield 110, 3)) (kk : W p l e R s m args below meth c H locs cells slots Q (F0 m (pc + 3) ls (.ref (b + v) :: rest))) : W p l e R s m args below meth c H locs cells slots Q (F0 m pc ls (.ref (b + i) :: rest)) := by
  obtain ⟨h1, h2⟩ := gA_some hv
  obtain ⟨k, -, hg⟩ := cO_at (b := b) (cB := cB) (cI := cI) (cJ := cJ) (cZ := cZ) (cS := cS) (cO := cO) (by decide) h1
  have hf : (vL b cs i (32 * 11) (tyX 11))[2]? = some (.ref (b + v)) := by
    show some (vV b cs 354 i 3) = _
    show some (rv b (kP cs 354 i)) = _
    rw [h2]; rfl
  exact va_get (D := (dC, dI)) (ci := 11) (C := RX10) (T := TX10) (N := 7) hx hb hts (fun w h => List.mem_cons_of_mem _ (uG_X10 w h)) hown hK hP k hg rfl 2 (by decide) (hts _ (List.mem_cons_of_mem _ kw_323)) (fun _ h9 => h9) hf hdg kk
theorem fg_X9_136 {p : Program} {l : Launch} {e : Env} {R : Room} {s : State} {m : MethodId} {args : Array Value} {below : List Frame} {meth : Method} {c : Code} {H : Heap} {locs : List Loc} {cells slots : Nat} {Q : State → Prop} {cc : ByteArray} {pc : Nat} {ls : Array Slot} {rest : List Value} {y0 : MethodName} {c0 : ByteArray} {n0 : Nat} {r0 : Option FieldType} {dC : Nat → ClassId} {dI : Nat → Nat → Nat} {cB cI cJ cZ cS cO : ClassId} {b : Nat} {cs : CS} {i : Nat} {v : Int32} (hx : p.tables.exec = Jvm.exec) (hb : c.code = cc) (hts : ∀ w ∈ wsOf y0 c0 n0 r0, w.before args s = true) (hown : s.vm.findClass RX9 = some m.cls) (hK : va_K (dC, dI) vwCl [(cB, .byte), (cI, .int), (cJ, .long), (cZ, .boolean), (cS, .object "StreamQueries$Source"), (cO, .object "java/lang/Object")] s) (hP : va_P (dC, dI) vwCl (cW cB cI cJ cZ cS cO b cs) H) (hv : gI cs 6 204 i = some v) (hdg : decode cc pc = .ok (.getfield 136, 3)) (kk : W p l e R s m args below meth c H locs cells slots Q (F0 m (pc + 3) ls (.int v :: rest))) : W p l e R s m args below meth c H locs cells slots Q (F0 m pc ls (.ref (b + i) :: rest)) := by
  obtain ⟨h1, h2⟩ := gI_some hv
  obtain ⟨k, -, hg⟩ := cO_at (b := b) (cB := cB) (cI := cI) (cJ := cJ) (cZ := cZ) (cS := cS) (cO := cO) (by decide) h1
  have hf : (vL b cs i (32 * 6) (tyX 6))[12]? = some (.int v) := by
    show some (vV b cs 204 i 0) = _
    show some (Value.int (kI cs 204 i)) = _
    rw [h2]
  exact va_get (D := (dC, dI)) (ci := 6) (C := RX5) (T := TX5) (N := 15) hx hb hts (fun w h => List.mem_cons_of_mem _ (uG_X5 w h)) hown hK hP k hg rfl 12 (by decide) (hts _ (List.mem_cons_of_mem _ kw_701)) (fun _ h9 => h9) hf hdg kk
theorem fp_X9_136 {p : Program} {l : Launch} {e : Env} {R : Room} {s : State} {m : MethodId} {args : Array Value} {below : List Frame} {meth : Method} {c : Code} {H : Heap} {locs : List Loc} {cells slots : Nat} {Q : State → Prop} {cc : ByteArray} {pc : Nat} {ls : Array Slot} {rest : List Value} {y0 : MethodName} {c0 : ByteArray} {n0 : Nat} {r0 : Option FieldType} {dC : Nat → ClassId} {dI : Nat → Nat → Nat} {cB cI cJ cZ cS cO : ClassId} {b : Nat} {cs : CS} {A : Nat → Prop} {H0 : Heap} {cs1 : CS} {i : Nat} {v : Int32} (hx : p.tables.exec = Jvm.exec) (hb : c.code = cc) (hts : ∀ w ∈ wsOf y0 c0 n0 r0, w.before args s = true) (hown : s.vm.findClass RX9 = some m.cls) (hK : va_K (dC, dI) vwCl [(cB, .byte), (cI, .int), (cJ, .long), (cZ, .boolean), (cS, .object "StreamQueries$Source"), (cO, .object "java/lang/Object")] s) (hP : va_P (dC, dI) vwCl (cW cB cI cJ cZ cS cO b cs) H) (hD : va_D A (cW cB cI cJ cZ cS cO b cs)) (hS : va_S A H0 H locs) (hv : pI cs 6 204 i v = some cs1) (hdg : decode cc pc = .ok (.putfield 136, 3)) (kk : ∀ (H1 : Heap) (locs1 : List Loc), va_P (dC, dI) vwCl (cW cB cI cJ cZ cS cO b cs1) H1 → va_D A (cW cB cI cJ cZ cS cO b cs1) → va_S A H0 H1 locs1 → W p l e R s m args below meth c H1 locs1 cells slots Q (F0 m (pc + 3) ls rest)) : W p l e R s m args below meth c H locs cells slots Q (F0 m pc ls (.int v :: .ref (b + i) :: rest)) := by
  obtain ⟨h1, rfl⟩ := pI_some hv
  obtain ⟨k, hk, hg⟩ := cO_at (b := b) (cB := cB) (cI := cI) (cJ := cJ) (cZ := cZ) (cS := cS) (cO := cO) (by decide) h1
  have hset := cW_putF (f := 12) (y := 0) (v := .int v) (cs1 := sI cs 204 i v) (by decide) rfl hD hk rfl rfl rfl rfl rfl rfl (by show Value.int (u2 (kI cs) 204 i v 204 i) = _; rw [u2_s]) (fun z j w hn => by
    have e9 : kI (sI cs 204 i v) z j = kI cs z j := u2_n hn
    match w with
    | 0 => show Value.int (kI (sI cs 204 i v) z j) = Value.int (kI cs z j); rw [e9]
    | 1 => rfl
    | 2 => rfl
    | _ + 3 => rfl)
  refine va_put (D := (dC, dI)) (ci := 6) (v := .int v) (ty := .int) (C := RX5) (T := TX5) (N := 15) hx hb hts (fun w h => List.mem_cons_of_mem _ (uG_X5 w h)) tyX5 tyX5_ok nmX5 hown hK hP hD hS k hg rfl 12 (by decide) (hts _ (List.mem_cons_of_mem _ kw_701)) (fun _ h9 => h9) rfl (by decide +kernel) rfl rfl (by rw [vL_len]; decide) hdg (fun H1 l1 q1 q2 q3 => ?_)
  rw [hset] at q1 q2
  exact kk H1 l1 q1 q2 q3
theorem fg_X9_139 {p : Program} {l : Launch} {e : Env} {R : Room} {s : State} {m : MethodId} {args : Array Value} {below : List Frame} {meth : Method} {c : Code} {H : Heap} {locs : List Loc} {cells slots : Nat} {Q : State → Prop} {cc : ByteArray} {pc : Nat} {ls : Array Slot} {rest : List Value} {y0 : MethodName} {c0 : ByteArray} {n0 : Nat} {r0 : Option FieldType} {dC : Nat → ClassId} {dI : Nat → Nat → Nat} {cB cI cJ cZ cS cO : ClassId} {b : Nat} {cs : CS} {i : Nat} {v : Int32} (hx : p.tables.exec = Jvm.exec) (hb : c.code = cc) (hts : ∀ w ∈ wsOf y0 c0 n0 r0, w.before args s = true) (hown : s.vm.findClass RX9 = some m.cls) (hK : va_K (dC, dI) vwCl [(cB, .byte), (cI, .int), (cJ, .long), (cZ, .boolean), (cS, .object "StreamQueries$Source"), (cO, .object "java/lang/Object")] s) (hP : va_P (dC, dI) vwCl (cW cB cI cJ cZ cS cO b cs) H) (hv : gI cs 6 205 i = some v) (hdg : decode cc pc = .ok (.getfield 139, 3)) (kk : W p l e R s m args below meth c H locs cells slots Q (F0 m (pc + 3) ls (.int v :: rest))) : W p l e R s m args below meth c H locs cells slots Q (F0 m pc ls (.ref (b + i) :: rest)) := by
  obtain ⟨h1, h2⟩ := gI_some hv
  obtain ⟨k, -, hg⟩ := cO_at (b := b) (cB := cB) (cI := cI) (cJ := cJ) (cZ := cZ) (cS := cS) (cO := cO) (by decide) h1
  have hf : (vL b cs i (32 * 6) (tyX 6))[13]? = some (.int v) := by
    show some (vV b cs 205 i 0) = _
    show some (Value.int (kI cs 205 i)) = _
    rw [h2]
  exact va_get (D := (dC, dI)) (ci := 6) (C := RX5) (T := TX5) (N := 15) hx hb hts (fun w h => List.mem_cons_of_mem _ (uG_X5 w h)) hown hK hP k hg rfl 13 (by decide) (hts _ (List.mem_cons_of_mem _ kw_703)) (fun _ h9 => h9) hf hdg kk
theorem fp_X9_139 {p : Program} {l : Launch} {e : Env} {R : Room} {s : State} {m : MethodId} {args : Array Value} {below : List Frame} {meth : Method} {c : Code} {H : Heap} {locs : List Loc} {cells slots : Nat} {Q : State → Prop} {cc : ByteArray} {pc : Nat} {ls : Array Slot} {rest : List Value} {y0 : MethodName} {c0 : ByteArray} {n0 : Nat} {r0 : Option FieldType} {dC : Nat → ClassId} {dI : Nat → Nat → Nat} {cB cI cJ cZ cS cO : ClassId} {b : Nat} {cs : CS} {A : Nat → Prop} {H0 : Heap} {cs1 : CS} {i : Nat} {v : Int32} (hx : p.tables.exec = Jvm.exec) (hb : c.code = cc) (hts : ∀ w ∈ wsOf y0 c0 n0 r0, w.before args s = true) (hown : s.vm.findClass RX9 = some m.cls) (hK : va_K (dC, dI) vwCl [(cB, .byte), (cI, .int), (cJ, .long), (cZ, .boolean), (cS, .object "StreamQueries$Source"), (cO, .object "java/lang/Object")] s) (hP : va_P (dC, dI) vwCl (cW cB cI cJ cZ cS cO b cs) H) (hD : va_D A (cW cB cI cJ cZ cS cO b cs)) (hS : va_S A H0 H locs) (hv : pI cs 6 205 i v = some cs1) (hdg : decode cc pc = .ok (.putfield 139, 3)) (kk : ∀ (H1 : Heap) (locs1 : List Loc), va_P (dC, dI) vwCl (cW cB cI cJ cZ cS cO b cs1) H1 → va_D A (cW cB cI cJ cZ cS cO b cs1) → va_S A H0 H1 locs1 → W p l e R s m args below meth c H1 locs1 cells slots Q (F0 m (pc + 3) ls rest)) : W p l e R s m args below meth c H locs cells slots Q (F0 m pc ls (.int v :: .ref (b + i) :: rest)) := by
  obtain ⟨h1, rfl⟩ := pI_some hv
  obtain ⟨k, hk, hg⟩ := cO_at (b := b) (cB := cB) (cI := cI) (cJ := cJ) (cZ := cZ) (cS := cS) (cO := cO) (by decide) h1
  have hset := cW_putF (f := 13) (y := 0) (v := .int v) (cs1 := sI cs 205 i v) (by decide) rfl hD hk rfl rfl rfl rfl rfl rfl (by show Value.int (u2 (kI cs) 205 i v 205 i) = _; rw [u2_s]) (fun z j w hn => by
    have e9 : kI (sI cs 205 i v) z j = kI cs z j := u2_n hn
    match w with
    | 0 => show Value.int (kI (sI cs 205 i v) z j) = Value.int (kI cs z j); rw [e9]
    | 1 => rfl
    | 2 => rfl
    | _ + 3 => rfl)
  refine va_put (D := (dC, dI)) (ci := 6) (v := .int v) (ty := .int) (C := RX5) (T := TX5) (N := 15) hx hb hts (fun w h => List.mem_cons_of_mem _ (uG_X5 w h)) tyX5 tyX5_ok nmX5 hown hK hP hD hS k hg rfl 13 (by decide) (hts _ (List.mem_cons_of_mem _ kw_703)) (fun _ h9 => h9) rfl (by decide +kernel) rfl rfl (by rw [vL_len]; decide) hdg (fun H1 l1 q1 q2 q3 => ?_)
  rw [hset] at q1 q2
  exact kk H1 l1 q1 q2 q3
theorem fg_X9_142 {p : Program} {l : Launch} {e : Env} {R : Room} {s : State} {m : MethodId} {args : Array Value} {below : List Frame} {meth : Method} {c : Code} {H : Heap} {locs : List Loc} {cells slots : Nat} {Q : State → Prop} {cc : ByteArray} {pc : Nat} {ls : Array Slot} {rest : List Value} {y0 : MethodName} {c0 : ByteArray} {n0 : Nat} {r0 : Option FieldType} {dC : Nat → ClassId} {dI : Nat → Nat → Nat} {cB cI cJ cZ cS cO : ClassId} {b : Nat} {cs : CS} {i : Nat} {v : (Option Nat)} (hx : p.tables.exec = Jvm.exec) (hb : c.code = cc) (hts : ∀ w ∈ wsOf y0 c0 n0 r0, w.before args s = true) (hown : s.vm.findClass RX9 = some m.cls) (hK : va_K (dC, dI) vwCl [(cB, .byte), (cI, .int), (cJ, .long), (cZ, .boolean), (cS, .object "StreamQueries$Source"), (cO, .object "java/lang/Object")] s) (hP : va_P (dC, dI) vwCl (cW cB cI cJ cZ cS cO b cs) H) (hv : gR cs 4 128 i = some v) (hdg : decode cc pc = .ok (.getfield 142, 3)) (kk : W p l e R s m args below meth c H locs cells slots Q (F0 m (pc + 3) ls (rv b v :: rest))) : W p l e R s m args below meth c H locs cells slots Q (F0 m pc ls (.ref (b + i) :: rest)) := by
  obtain ⟨h1, h2⟩ := gR_some hv
  obtain ⟨k, -, hg⟩ := cO_at (b := b) (cB := cB) (cI := cI) (cJ := cJ) (cZ := cZ) (cS := cS) (cO := cO) (by decide) h1
  have hf : (vL b cs i (32 * 4) (tyX 4))[0]? = some (rv b v) := by
    show some (vV b cs 128 i 2) = _
    show some (rv b (kR cs 128 i)) = _
    rw [h2]
  exact va_get (D := (dC, dI)) (ci := 4) (C := RX3) (T := TX3) (N := 6) hx hb hts (fun w h => List.mem_cons_of_mem _ (uG_X3 w h)) hown hK hP k hg rfl 0 (by decide) (hts _ (List.mem_cons_of_mem _ kw_826)) (fun _ h9 => h9) hf hdg kk
theorem fg_X9_157 {p : Program} {l : Launch} {e : Env} {R : Room} {s : State} {m : MethodId} {args : Array Value} {below : List Frame} {meth : Method} {c : Code} {H : Heap} {locs : List Loc} {cells slots : Nat} {Q : State → Prop} {cc : ByteArray} {pc : Nat} {ls : Array Slot} {rest : List Value} {y0 : MethodName} {c0 : ByteArray} {n0 : Nat} {r0 : Option FieldType} {dC : Nat → ClassId} {dI : Nat → Nat → Nat} {cB cI cJ cZ cS cO : ClassId} {b : Nat} {cs : CS} {i : Nat} {v : (Option Nat)} (hx : p.tables.exec = Jvm.exec) (hb : c.code = cc) (hts : ∀ w ∈ wsOf y0 c0 n0 r0, w.before args s = true) (hown : s.vm.findClass RX9 = some m.cls) (hK : va_K (dC, dI) vwCl [(cB, .byte), (cI, .int), (cJ, .long), (cZ, .boolean), (cS, .object "StreamQueries$Source"), (cO, .object "java/lang/Object")] s) (hP : va_P (dC, dI) vwCl (cW cB cI cJ cZ cS cO b cs) H) (hv : gR cs 4 130 i = some v) (hdg : decode cc pc = .ok (.getfield 157, 3)) (kk : W p l e R s m args below meth c H locs cells slots Q (F0 m (pc + 3) ls (rv b v :: rest))) : W p l e R s m args below meth c H locs cells slots Q (F0 m pc ls (.ref (b + i) :: rest)) := by
  obtain ⟨h1, h2⟩ := gR_some hv
  obtain ⟨k, -, hg⟩ := cO_at (b := b) (cB := cB) (cI := cI) (cJ := cJ) (cZ := cZ) (cS := cS) (cO := cO) (by decide) h1
  have hf : (vL b cs i (32 * 4) (tyX 4))[2]? = some (rv b v) := by
    show some (vV b cs 130 i 2) = _
    show some (rv b (kR cs 130 i)) = _
    rw [h2]
  exact va_get (D := (dC, dI)) (ci := 4) (C := RX3) (T := TX3) (N := 6) hx hb hts (fun w h => List.mem_cons_of_mem _ (uG_X3 w h)) hown hK hP k hg rfl 2 (by decide) (hts _ (List.mem_cons_of_mem _ kw_834)) (fun _ h9 => h9) hf hdg kk
theorem fp_X9_157 {p : Program} {l : Launch} {e : Env} {R : Room} {s : State} {m : MethodId} {args : Array Value} {below : List Frame} {meth : Method} {c : Code} {H : Heap} {locs : List Loc} {cells slots : Nat} {Q : State → Prop} {cc : ByteArray} {pc : Nat} {ls : Array Slot} {rest : List Value} {y0 : MethodName} {c0 : ByteArray} {n0 : Nat} {r0 : Option FieldType} {dC : Nat → ClassId} {dI : Nat → Nat → Nat} {cB cI cJ cZ cS cO : ClassId} {b : Nat} {cs : CS} {A : Nat → Prop} {H0 : Heap} {cs1 : CS} {i : Nat} {v : (Option Nat)} (hx : p.tables.exec = Jvm.exec) (hb : c.code = cc) (hts : ∀ w ∈ wsOf y0 c0 n0 r0, w.before args s = true) (hown : s.vm.findClass RX9 = some m.cls) (hK : va_K (dC, dI) vwCl [(cB, .byte), (cI, .int), (cJ, .long), (cZ, .boolean), (cS, .object "StreamQueries$Source"), (cO, .object "java/lang/Object")] s) (hP : va_P (dC, dI) vwCl (cW cB cI cJ cZ cS cO b cs) H) (hD : va_D A (cW cB cI cJ cZ cS cO b cs)) (hS : va_S A H0 H locs) (hv : pR cs 4 130 i v = some cs1) (hdg : decode cc pc = .ok (.putfield 157, 3)) (kk : ∀ (H1 : Heap) (locs1 : List Loc), va_P (dC, dI) vwCl (cW cB cI cJ cZ cS cO b cs1) H1 → va_D A (cW cB cI cJ cZ cS cO b cs1) → va_S A H0 H1 locs1 → W p l e R s m args below meth c H1 locs1 cells slots Q (F0 m (pc + 3) ls rest)) : W p l e R s m args below meth c H locs cells slots Q (F0 m pc ls (rv b v :: .ref (b + i) :: rest)) := by
  obtain ⟨h1, rfl⟩ := pR_some hv
  obtain ⟨k, hk, hg⟩ := cO_at (b := b) (cB := cB) (cI := cI) (cJ := cJ) (cZ := cZ) (cS := cS) (cO := cO) (by decide) h1
  have hset := cW_putF (f := 2) (y := 2) (v := rv b v) (cs1 := sR cs 130 i v) (by decide) rfl hD hk rfl rfl rfl rfl rfl rfl (by show rv b (u2 (kR cs) 130 i v 130 i) = _; rw [u2_s]) (fun z j w hn => by
    have e9 : kR (sR cs 130 i v) z j = kR cs z j := u2_n hn
    match w with
    | 0 => rfl
    | 1 => rfl
    | 2 => show rv b (kR (sR cs 130 i v) z j) = rv b (kR cs z j); rw [e9]
    | _ + 3 => rfl)
  refine va_put (D := (dC, dI)) (ci := 4) (v := rv b v) (ty := .object "StreamQueries$Columns") (C := RX3) (T := TX3) (N := 6) hx hb hts (fun w h => List.mem_cons_of_mem _ (uG_X3 w h)) tyX3 tyX3_ok nmX3 hown hK hP hD hS k hg rfl 2 (by decide) (hts _ (List.mem_cons_of_mem _ kw_834)) (fun _ h9 => h9) rfl (by decide +kernel) (rv_nar b v _) (rv_fit b v _) (by rw [vL_len]; decide) hdg (fun H1 l1 q1 q2 q3 => ?_)
  rw [hset] at q1 q2
  exact kk H1 l1 q1 q2 q3
theorem fg_X9_160 {p : Program} {l : Launch} {e : Env} {R : Room} {s : State} {m : MethodId} {args : Array Value} {below : List Frame} {meth : Method} {c : Code} {H : Heap} {locs : List Loc} {cells slots : Nat} {Q : State → Prop} {cc : ByteArray} {pc : Nat} {ls : Array Slot} {rest : List Value} {y0 : MethodName} {c0 : ByteArray} {n0 : Nat} {r0 : Option FieldType} {dC : Nat → ClassId} {dI : Nat → Nat → Nat} {cB cI cJ cZ cS cO : ClassId} {b : Nat} {cs : CS} {i : Nat} {v : Int32} (hx : p.tables.exec = Jvm.exec) (hb : c.code = cc) (hts : ∀ w ∈ wsOf y0 c0 n0 r0, w.before args s = true) (hown : s.vm.findClass RX9 = some m.cls) (hK : va_K (dC, dI) vwCl [(cB, .byte), (cI, .int), (cJ, .long), (cZ, .boolean), (cS, .object "StreamQueries$Source"), (cO, .object "java/lang/Object")] s) (hP : va_P (dC, dI) vwCl (cW cB cI cJ cZ cS cO b cs) H) (hv : gI cs 4 131 i = some v) (hdg : decode cc pc = .ok (.getfield 160, 3)) (kk : W p l e R s m args below meth c H locs cells slots Q (F0 m (pc + 3) ls (.int v :: rest))) : W p l e R s m args below meth c H locs cells slots Q (F0 m pc ls (.ref (b + i) :: rest)) := by
  obtain ⟨h1, h2⟩ := gI_some hv
  obtain ⟨k, -, hg⟩ := cO_at (b := b) (cB := cB) (cI := cI) (cJ := cJ) (cZ := cZ) (cS := cS) (cO := cO) (by decide) h1
  have hf : (vL b cs i (32 * 4) (tyX 4))[3]? = some (.int v) := by
    show some (vV b cs 131 i 0) = _
    show some (Value.int (kI cs 131 i)) = _
    rw [h2]
  exact va_get (D := (dC, dI)) (ci := 4) (C := RX3) (T := TX3) (N := 6) hx hb hts (fun w h => List.mem_cons_of_mem _ (uG_X3 w h)) hown hK hP k hg rfl 3 (by decide) (hts _ (List.mem_cons_of_mem _ kw_837)) (fun _ h9 => h9) hf hdg kk
theorem fp_X9_160 {p : Program} {l : Launch} {e : Env} {R : Room} {s : State} {m : MethodId} {args : Array Value} {below : List Frame} {meth : Method} {c : Code} {H : Heap} {locs : List Loc} {cells slots : Nat} {Q : State → Prop} {cc : ByteArray} {pc : Nat} {ls : Array Slot} {rest : List Value} {y0 : MethodName} {c0 : ByteArray} {n0 : Nat} {r0 : Option FieldType} {dC : Nat → ClassId} {dI : Nat → Nat → Nat} {cB cI cJ cZ cS cO : ClassId} {b : Nat} {cs : CS} {A : Nat → Prop} {H0 : Heap} {cs1 : CS} {i : Nat} {v : Int32} (hx : p.tables.exec = Jvm.exec) (hb : c.code = cc) (hts : ∀ w ∈ wsOf y0 c0 n0 r0, w.before args s = true) (hown : s.vm.findClass RX9 = some m.cls) (hK : va_K (dC, dI) vwCl [(cB, .byte), (cI, .int), (cJ, .long), (cZ, .boolean), (cS, .object "StreamQueries$Source"), (cO, .object "java/lang/Object")] s) (hP : va_P (dC, dI) vwCl (cW cB cI cJ cZ cS cO b cs) H) (hD : va_D A (cW cB cI cJ cZ cS cO b cs)) (hS : va_S A H0 H locs) (hv : pI cs 4 131 i v = some cs1) (hdg : decode cc pc = .ok (.putfield 160, 3)) (kk : ∀ (H1 : Heap) (locs1 : List Loc), va_P (dC, dI) vwCl (cW cB cI cJ cZ cS cO b cs1) H1 → va_D A (cW cB cI cJ cZ cS cO b cs1) → va_S A H0 H1 locs1 → W p l e R s m args below meth c H1 locs1 cells slots Q (F0 m (pc + 3) ls rest)) : W p l e R s m args below meth c H locs cells slots Q (F0 m pc ls (.int v :: .ref (b + i) :: rest)) := by
  obtain ⟨h1, rfl⟩ := pI_some hv
  obtain ⟨k, hk, hg⟩ := cO_at (b := b) (cB := cB) (cI := cI) (cJ := cJ) (cZ := cZ) (cS := cS) (cO := cO) (by decide) h1
  have hset := cW_putF (f := 3) (y := 0) (v := .int v) (cs1 := sI cs 131 i v) (by decide) rfl hD hk rfl rfl rfl rfl rfl rfl (by show Value.int (u2 (kI cs) 131 i v 131 i) = _; rw [u2_s]) (fun z j w hn => by
    have e9 : kI (sI cs 131 i v) z j = kI cs z j := u2_n hn
    match w with
    | 0 => show Value.int (kI (sI cs 131 i v) z j) = Value.int (kI cs z j); rw [e9]
    | 1 => rfl
    | 2 => rfl
    | _ + 3 => rfl)
  refine va_put (D := (dC, dI)) (ci := 4) (v := .int v) (ty := .int) (C := RX3) (T := TX3) (N := 6) hx hb hts (fun w h => List.mem_cons_of_mem _ (uG_X3 w h)) tyX3 tyX3_ok nmX3 hown hK hP hD hS k hg rfl 3 (by decide) (hts _ (List.mem_cons_of_mem _ kw_837)) (fun _ h9 => h9) rfl (by decide +kernel) rfl rfl (by rw [vL_len]; decide) hdg (fun H1 l1 q1 q2 q3 => ?_)
  rw [hset] at q1 q2
  exact kk H1 l1 q1 q2 q3
theorem fg_X9_163 {p : Program} {l : Launch} {e : Env} {R : Room} {s : State} {m : MethodId} {args : Array Value} {below : List Frame} {meth : Method} {c : Code} {H : Heap} {locs : List Loc} {cells slots : Nat} {Q : State → Prop} {cc : ByteArray} {pc : Nat} {ls : Array Slot} {rest : List Value} {y0 : MethodName} {c0 : ByteArray} {n0 : Nat} {r0 : Option FieldType} {dC : Nat → ClassId} {dI : Nat → Nat → Nat} {cB cI cJ cZ cS cO : ClassId} {b : Nat} {cs : CS} {i : Nat} {v : Int32} (hx : p.tables.exec = Jvm.exec) (hb : c.code = cc) (hts : ∀ w ∈ wsOf y0 c0 n0 r0, w.before args s = true) (hown : s.vm.findClass RX9 = some m.cls) (hK : va_K (dC, dI) vwCl [(cB, .byte), (cI, .int), (cJ, .long), (cZ, .boolean), (cS, .object "StreamQueries$Source"), (cO, .object "java/lang/Object")] s) (hP : va_P (dC, dI) vwCl (cW cB cI cJ cZ cS cO b cs) H) (hv : gI cs 10 331 i = some v) (hdg : decode cc pc = .ok (.getfield 163, 3)) (kk : W p l e R s m args below meth c H locs cells slots Q (F0 m (pc + 3) ls (.int v :: rest))) : W p l e R s m args below meth c H locs cells slots Q (F0 m pc ls (.ref (b + i) :: rest)) := by
  obtain ⟨h1, h2⟩ := gI_some hv
  obtain ⟨k, -, hg⟩ := cO_at (b := b) (cB := cB) (cI := cI) (cJ := cJ) (cZ := cZ) (cS := cS) (cO := cO) (by decide) h1
  have hf : (vL b cs i (32 * 10) (tyX 10))[11]? = some (.int v) := by
    show some (vV b cs 331 i 0) = _
    show some (Value.int (kI cs 331 i)) = _
    rw [h2]
  exact va_get (D := (dC, dI)) (ci := 10) (C := RX9) (T := TX9) (N := 12) hx hb hts (fun w h => List.mem_cons_of_mem _ (uG_X9 w h)) hown hK hP k hg rfl 11 (by decide) (hts _ (List.mem_cons_of_mem _ kw_873)) (fun _ h9 => h9) hf hdg kk
theorem fp_X9_163 {p : Program} {l : Launch} {e : Env} {R : Room} {s : State} {m : MethodId} {args : Array Value} {below : List Frame} {meth : Method} {c : Code} {H : Heap} {locs : List Loc} {cells slots : Nat} {Q : State → Prop} {cc : ByteArray} {pc : Nat} {ls : Array Slot} {rest : List Value} {y0 : MethodName} {c0 : ByteArray} {n0 : Nat} {r0 : Option FieldType} {dC : Nat → ClassId} {dI : Nat → Nat → Nat} {cB cI cJ cZ cS cO : ClassId} {b : Nat} {cs : CS} {A : Nat → Prop} {H0 : Heap} {cs1 : CS} {i : Nat} {v : Int32} (hx : p.tables.exec = Jvm.exec) (hb : c.code = cc) (hts : ∀ w ∈ wsOf y0 c0 n0 r0, w.before args s = true) (hown : s.vm.findClass RX9 = some m.cls) (hK : va_K (dC, dI) vwCl [(cB, .byte), (cI, .int), (cJ, .long), (cZ, .boolean), (cS, .object "StreamQueries$Source"), (cO, .object "java/lang/Object")] s) (hP : va_P (dC, dI) vwCl (cW cB cI cJ cZ cS cO b cs) H) (hD : va_D A (cW cB cI cJ cZ cS cO b cs)) (hS : va_S A H0 H locs) (hz : v = 0 ∨ v = 1) (hv : pI cs 10 331 i v = some cs1) (hdg : decode cc pc = .ok (.putfield 163, 3)) (kk : ∀ (H1 : Heap) (locs1 : List Loc), va_P (dC, dI) vwCl (cW cB cI cJ cZ cS cO b cs1) H1 → va_D A (cW cB cI cJ cZ cS cO b cs1) → va_S A H0 H1 locs1 → W p l e R s m args below meth c H1 locs1 cells slots Q (F0 m (pc + 3) ls rest)) : W p l e R s m args below meth c H locs cells slots Q (F0 m pc ls (.int v :: .ref (b + i) :: rest)) := by
  obtain ⟨h1, rfl⟩ := pI_some hv
  obtain ⟨k, hk, hg⟩ := cO_at (b := b) (cB := cB) (cI := cI) (cJ := cJ) (cZ := cZ) (cS := cS) (cO := cO) (by decide) h1
  have hset := cW_putF (f := 11) (y := 0) (v := .int v) (cs1 := sI cs 331 i v) (by decide) rfl hD hk rfl rfl rfl rfl rfl rfl (by show Value.int (u2 (kI cs) 331 i v 331 i) = _; rw [u2_s]) (fun z j w hn => by
    have e9 : kI (sI cs 331 i v) z j = kI cs z j := u2_n hn
    match w with
    | 0 => show Value.int (kI (sI cs 331 i v) z j) = Value.int (kI cs z j); rw [e9]
    | 1 => rfl
    | 2 => rfl
    | _ + 3 => rfl)
  refine va_put (D := (dC, dI)) (ci := 10) (v := .int v) (ty := .boolean) (C := RX9) (T := TX9) (N := 12) hx hb hts (fun w h => List.mem_cons_of_mem _ (uG_X9 w h)) tyX9 tyX9_ok nmX9 hown hK hP hD hS k hg rfl 11 (by decide) (hts _ (List.mem_cons_of_mem _ kw_873)) (fun _ h9 => h9) rfl (by decide +kernel) (nzN hz) (nzF hz) (by rw [vL_len]; decide) hdg (fun H1 l1 q1 q2 q3 => ?_)
  rw [hset] at q1 q2
  exact kk H1 l1 q1 q2 q3
theorem fg_X9_191 {p : Program} {l : Launch} {e : Env} {R : Room} {s : State} {m : MethodId} {args : Array Value} {below : List Frame} {meth : Method} {c : Code} {H : Heap} {locs : List Loc} {cells slots : Nat} {Q : State → Prop} {cc : ByteArray} {pc : Nat} {ls : Array Slot} {rest : List Value} {y0 : MethodName} {c0 : ByteArray} {n0 : Nat} {r0 : Option FieldType} {dC : Nat → ClassId} {dI : Nat → Nat → Nat} {cB cI cJ cZ cS cO : ClassId} {b : Nat} {cs : CS} {i : Nat} {v : Int32} (hx : p.tables.exec = Jvm.exec) (hb : c.code = cc) (hts : ∀ w ∈ wsOf y0 c0 n0 r0, w.before args s = true) (hown : s.vm.findClass RX9 = some m.cls) (hK : va_K (dC, dI) vwCl [(cB, .byte), (cI, .int), (cJ, .long), (cZ, .boolean), (cS, .object "StreamQueries$Source"), (cO, .object "java/lang/Object")] s) (hP : va_P (dC, dI) vwCl (cW cB cI cJ cZ cS cO b cs) H) (hv : gI cs 4 132 i = some v) (hdg : decode cc pc = .ok (.getfield 191, 3)) (kk : W p l e R s m args below meth c H locs cells slots Q (F0 m (pc + 3) ls (.int v :: rest))) : W p l e R s m args below meth c H locs cells slots Q (F0 m pc ls (.ref (b + i) :: rest)) := by
  obtain ⟨h1, h2⟩ := gI_some hv
  obtain ⟨k, -, hg⟩ := cO_at (b := b) (cB := cB) (cI := cI) (cJ := cJ) (cZ := cZ) (cS := cS) (cO := cO) (by decide) h1
  have hf : (vL b cs i (32 * 4) (tyX 4))[4]? = some (.int v) := by
    show some (vV b cs 132 i 0) = _
    show some (Value.int (kI cs 132 i)) = _
    rw [h2]
  exact va_get (D := (dC, dI)) (ci := 4) (C := RX3) (T := TX3) (N := 6) hx hb hts (fun w h => List.mem_cons_of_mem _ (uG_X3 w h)) hown hK hP k hg rfl 4 (by decide) (hts _ (List.mem_cons_of_mem _ kw_839)) (fun _ h9 => h9) hf hdg kk
theorem fp_X9_191 {p : Program} {l : Launch} {e : Env} {R : Room} {s : State} {m : MethodId} {args : Array Value} {below : List Frame} {meth : Method} {c : Code} {H : Heap} {locs : List Loc} {cells slots : Nat} {Q : State → Prop} {cc : ByteArray} {pc : Nat} {ls : Array Slot} {rest : List Value} {y0 : MethodName} {c0 : ByteArray} {n0 : Nat} {r0 : Option FieldType} {dC : Nat → ClassId} {dI : Nat → Nat → Nat} {cB cI cJ cZ cS cO : ClassId} {b : Nat} {cs : CS} {A : Nat → Prop} {H0 : Heap} {cs1 : CS} {i : Nat} {v : Int32} (hx : p.tables.exec = Jvm.exec) (hb : c.code = cc) (hts : ∀ w ∈ wsOf y0 c0 n0 r0, w.before args s = true) (hown : s.vm.findClass RX9 = some m.cls) (hK : va_K (dC, dI) vwCl [(cB, .byte), (cI, .int), (cJ, .long), (cZ, .boolean), (cS, .object "StreamQueries$Source"), (cO, .object "java/lang/Object")] s) (hP : va_P (dC, dI) vwCl (cW cB cI cJ cZ cS cO b cs) H) (hD : va_D A (cW cB cI cJ cZ cS cO b cs)) (hS : va_S A H0 H locs) (hv : pI cs 4 132 i v = some cs1) (hdg : decode cc pc = .ok (.putfield 191, 3)) (kk : ∀ (H1 : Heap) (locs1 : List Loc), va_P (dC, dI) vwCl (cW cB cI cJ cZ cS cO b cs1) H1 → va_D A (cW cB cI cJ cZ cS cO b cs1) → va_S A H0 H1 locs1 → W p l e R s m args below meth c H1 locs1 cells slots Q (F0 m (pc + 3) ls rest)) : W p l e R s m args below meth c H locs cells slots Q (F0 m pc ls (.int v :: .ref (b + i) :: rest)) := by
  obtain ⟨h1, rfl⟩ := pI_some hv
  obtain ⟨k, hk, hg⟩ := cO_at (b := b) (cB := cB) (cI := cI) (cJ := cJ) (cZ := cZ) (cS := cS) (cO := cO) (by decide) h1
  have hset := cW_putF (f := 4) (y := 0) (v := .int v) (cs1 := sI cs 132 i v) (by decide) rfl hD hk rfl rfl rfl rfl rfl rfl (by show Value.int (u2 (kI cs) 132 i v 132 i) = _; rw [u2_s]) (fun z j w hn => by
    have e9 : kI (sI cs 132 i v) z j = kI cs z j := u2_n hn
    match w with
    | 0 => show Value.int (kI (sI cs 132 i v) z j) = Value.int (kI cs z j); rw [e9]
    | 1 => rfl
    | 2 => rfl
    | _ + 3 => rfl)
  refine va_put (D := (dC, dI)) (ci := 4) (v := .int v) (ty := .int) (C := RX3) (T := TX3) (N := 6) hx hb hts (fun w h => List.mem_cons_of_mem _ (uG_X3 w h)) tyX3 tyX3_ok nmX3 hown hK hP hD hS k hg rfl 4 (by decide) (hts _ (List.mem_cons_of_mem _ kw_839)) (fun _ h9 => h9) rfl (by decide +kernel) rfl rfl (by rw [vL_len]; decide) hdg (fun H1 l1 q1 q2 q3 => ?_)
  rw [hset] at q1 q2
  exact kk H1 l1 q1 q2 q3
theorem fg_X9_198 {p : Program} {l : Launch} {e : Env} {R : Room} {s : State} {m : MethodId} {args : Array Value} {below : List Frame} {meth : Method} {c : Code} {H : Heap} {locs : List Loc} {cells slots : Nat} {Q : State → Prop} {cc : ByteArray} {pc : Nat} {ls : Array Slot} {rest : List Value} {y0 : MethodName} {c0 : ByteArray} {n0 : Nat} {r0 : Option FieldType} {dC : Nat → ClassId} {dI : Nat → Nat → Nat} {cB cI cJ cZ cS cO : ClassId} {b : Nat} {cs : CS} {i : Nat} {v : (Option Nat)} (hx : p.tables.exec = Jvm.exec) (hb : c.code = cc) (hts : ∀ w ∈ wsOf y0 c0 n0 r0, w.before args s = true) (hown : s.vm.findClass RX9 = some m.cls) (hK : va_K (dC, dI) vwCl [(cB, .byte), (cI, .int), (cJ, .long), (cZ, .boolean), (cS, .object "StreamQueries$Source"), (cO, .object "java/lang/Object")] s) (hP : va_P (dC, dI) vwCl (cW cB cI cJ cZ cS cO b cs) H) (hv : gR cs 10 330 i = some v) (hdg : decode cc pc = .ok (.getfield 198, 3)) (kk : W p l e R s m args below meth c H locs cells slots Q (F0 m (pc + 3) ls (rv b v :: rest))) : W p l e R s m args below meth c H locs cells slots Q (F0 m pc ls (.ref (b + i) :: rest)) := by
  obtain ⟨h1, h2⟩ := gR_some hv
  obtain ⟨k, -, hg⟩ := cO_at (b := b) (cB := cB) (cI := cI) (cJ := cJ) (cZ := cZ) (cS := cS) (cO := cO) (by decide) h1
  have hf : (vL b cs i (32 * 10) (tyX 10))[10]? = some (rv b v) := by
    show some (vV b cs 330 i 2) = _
    show some (rv b (kR cs 330 i)) = _
    rw [h2]
  exact va_get (D := (dC, dI)) (ci := 10) (C := RX9) (T := TX9) (N := 12) hx hb hts (fun w h => List.mem_cons_of_mem _ (uG_X9 w h)) hown hK hP k hg rfl 10 (by decide) (hts _ (List.mem_cons_of_mem _ kw_872)) (fun _ h9 => h9) hf hdg kk
theorem fp_X9_198 {p : Program} {l : Launch} {e : Env} {R : Room} {s : State} {m : MethodId} {args : Array Value} {below : List Frame} {meth : Method} {c : Code} {H : Heap} {locs : List Loc} {cells slots : Nat} {Q : State → Prop} {cc : ByteArray} {pc : Nat} {ls : Array Slot} {rest : List Value} {y0 : MethodName} {c0 : ByteArray} {n0 : Nat} {r0 : Option FieldType} {dC : Nat → ClassId} {dI : Nat → Nat → Nat} {cB cI cJ cZ cS cO : ClassId} {b : Nat} {cs : CS} {A : Nat → Prop} {H0 : Heap} {cs1 : CS} {i : Nat} {v : (Option Nat)} (hx : p.tables.exec = Jvm.exec) (hb : c.code = cc) (hts : ∀ w ∈ wsOf y0 c0 n0 r0, w.before args s = true) (hown : s.vm.findClass RX9 = some m.cls) (hK : va_K (dC, dI) vwCl [(cB, .byte), (cI, .int), (cJ, .long), (cZ, .boolean), (cS, .object "StreamQueries$Source"), (cO, .object "java/lang/Object")] s) (hP : va_P (dC, dI) vwCl (cW cB cI cJ cZ cS cO b cs) H) (hD : va_D A (cW cB cI cJ cZ cS cO b cs)) (hS : va_S A H0 H locs) (hv : pR cs 10 330 i v = some cs1) (hdg : decode cc pc = .ok (.putfield 198, 3)) (kk : ∀ (H1 : Heap) (locs1 : List Loc), va_P (dC, dI) vwCl (cW cB cI cJ cZ cS cO b cs1) H1 → va_D A (cW cB cI cJ cZ cS cO b cs1) → va_S A H0 H1 locs1 → W p l e R s m args below meth c H1 locs1 cells slots Q (F0 m (pc + 3) ls rest)) : W p l e R s m args below meth c H locs cells slots Q (F0 m pc ls (rv b v :: .ref (b + i) :: rest)) := by
  obtain ⟨h1, rfl⟩ := pR_some hv
  obtain ⟨k, hk, hg⟩ := cO_at (b := b) (cB := cB) (cI := cI) (cJ := cJ) (cZ := cZ) (cS := cS) (cO := cO) (by decide) h1
  have hset := cW_putF (f := 10) (y := 2) (v := rv b v) (cs1 := sR cs 330 i v) (by decide) rfl hD hk rfl rfl rfl rfl rfl rfl (by show rv b (u2 (kR cs) 330 i v 330 i) = _; rw [u2_s]) (fun z j w hn => by
    have e9 : kR (sR cs 330 i v) z j = kR cs z j := u2_n hn
    match w with
    | 0 => rfl
    | 1 => rfl
    | 2 => show rv b (kR (sR cs 330 i v) z j) = rv b (kR cs z j); rw [e9]
    | _ + 3 => rfl)
  refine va_put (D := (dC, dI)) (ci := 10) (v := rv b v) (ty := .object "StreamQueries$Select") (C := RX9) (T := TX9) (N := 12) hx hb hts (fun w h => List.mem_cons_of_mem _ (uG_X9 w h)) tyX9 tyX9_ok nmX9 hown hK hP hD hS k hg rfl 10 (by decide) (hts _ (List.mem_cons_of_mem _ kw_872)) (fun _ h9 => h9) rfl (by decide +kernel) (rv_nar b v _) (rv_fit b v _) (by rw [vL_len]; decide) hdg (fun H1 l1 q1 q2 q3 => ?_)
  rw [hset] at q1 q2
  exact kk H1 l1 q1 q2 q3
theorem fg_X9_202 {p : Program} {l : Launch} {e : Env} {R : Room} {s : State} {m : MethodId} {args : Array Value} {below : List Frame} {meth : Method} {c : Code} {H : Heap} {locs : List Loc} {cells slots : Nat} {Q : State → Prop} {cc : ByteArray} {pc : Nat} {ls : Array Slot} {rest : List Value} {y0 : MethodName} {c0 : ByteArray} {n0 : Nat} {r0 : Option FieldType} {dC : Nat → ClassId} {dI : Nat → Nat → Nat} {cB cI cJ cZ cS cO : ClassId} {b : Nat} {cs : CS} {i : Nat} {v : Int32} (hx : p.tables.exec = Jvm.exec) (hb : c.code = cc) (hts : ∀ w ∈ wsOf y0 c0 n0 r0, w.before args s = true) (hown : s.vm.findClass RX9 = some m.cls) (hK : va_K (dC, dI) vwCl [(cB, .byte), (cI, .int), (cJ, .long), (cZ, .boolean), (cS, .object "StreamQueries$Source"), (cO, .object "java/lang/Object")] s) (hP : va_P (dC, dI) vwCl (cW cB cI cJ cZ cS cO b cs) H) (hv : gI cs 6 193 i = some v) (hdg : decode cc pc = .ok (.getfield 202, 3)) (kk : W p l e R s m args below meth c H locs cells slots Q (F0 m (pc + 3) ls (.int v :: rest))) : W p l e R s m args below meth c H locs cells slots Q (F0 m pc ls (.ref (b + i) :: rest)) := by
  obtain ⟨h1, h2⟩ := gI_some hv
  obtain ⟨k, -, hg⟩ := cO_at (b := b) (cB := cB) (cI := cI) (cJ := cJ) (cZ := cZ) (cS := cS) (cO := cO) (by decide) h1
  have hf : (vL b cs i (32 * 6) (tyX 6))[1]? = some (.int v) := by
    show some (vV b cs 193 i 0) = _
    show some (Value.int (kI cs 193 i)) = _
    rw [h2]
  exact va_get (D := (dC, dI)) (ci := 6) (C := RX5) (T := TX5) (N := 15) hx hb hts (fun w h => List.mem_cons_of_mem _ (uG_X5 w h)) hown hK hP k hg rfl 1 (by decide) (hts _ (List.mem_cons_of_mem _ kw_659)) (fun _ h9 => h9) hf hdg kk
theorem fp_X9_202 {p : Program} {l : Launch} {e : Env} {R : Room} {s : State} {m : MethodId} {args : Array Value} {below : List Frame} {meth : Method} {c : Code} {H : Heap} {locs : List Loc} {cells slots : Nat} {Q : State → Prop} {cc : ByteArray} {pc : Nat} {ls : Array Slot} {rest : List Value} {y0 : MethodName} {c0 : ByteArray} {n0 : Nat} {r0 : Option FieldType} {dC : Nat → ClassId} {dI : Nat → Nat → Nat} {cB cI cJ cZ cS cO : ClassId} {b : Nat} {cs : CS} {A : Nat → Prop} {H0 : Heap} {cs1 : CS} {i : Nat} {v : Int32} (hx : p.tables.exec = Jvm.exec) (hb : c.code = cc) (hts : ∀ w ∈ wsOf y0 c0 n0 r0, w.before args s = true) (hown : s.vm.findClass RX9 = some m.cls) (hK : va_K (dC, dI) vwCl [(cB, .byte), (cI, .int), (cJ, .long), (cZ, .boolean), (cS, .object "StreamQueries$Source"), (cO, .object "java/lang/Object")] s) (hP : va_P (dC, dI) vwCl (cW cB cI cJ cZ cS cO b cs) H) (hD : va_D A (cW cB cI cJ cZ cS cO b cs)) (hS : va_S A H0 H locs) (hv : pI cs 6 193 i v = some cs1) (hdg : decode cc pc = .ok (.putfield 202, 3)) (kk : ∀ (H1 : Heap) (locs1 : List Loc), va_P (dC, dI) vwCl (cW cB cI cJ cZ cS cO b cs1) H1 → va_D A (cW cB cI cJ cZ cS cO b cs1) → va_S A H0 H1 locs1 → W p l e R s m args below meth c H1 locs1 cells slots Q (F0 m (pc + 3) ls rest)) : W p l e R s m args below meth c H locs cells slots Q (F0 m pc ls (.int v :: .ref (b + i) :: rest)) := by
  obtain ⟨h1, rfl⟩ := pI_some hv
  obtain ⟨k, hk, hg⟩ := cO_at (b := b) (cB := cB) (cI := cI) (cJ := cJ) (cZ := cZ) (cS := cS) (cO := cO) (by decide) h1
  have hset := cW_putF (f := 1) (y := 0) (v := .int v) (cs1 := sI cs 193 i v) (by decide) rfl hD hk rfl rfl rfl rfl rfl rfl (by show Value.int (u2 (kI cs) 193 i v 193 i) = _; rw [u2_s]) (fun z j w hn => by
    have e9 : kI (sI cs 193 i v) z j = kI cs z j := u2_n hn
    match w with
    | 0 => show Value.int (kI (sI cs 193 i v) z j) = Value.int (kI cs z j); rw [e9]
    | 1 => rfl
    | 2 => rfl
    | _ + 3 => rfl)
  refine va_put (D := (dC, dI)) (ci := 6) (v := .int v) (ty := .int) (C := RX5) (T := TX5) (N := 15) hx hb hts (fun w h => List.mem_cons_of_mem _ (uG_X5 w h)) tyX5 tyX5_ok nmX5 hown hK hP hD hS k hg rfl 1 (by decide) (hts _ (List.mem_cons_of_mem _ kw_659)) (fun _ h9 => h9) rfl (by decide +kernel) rfl rfl (by rw [vL_len]; decide) hdg (fun H1 l1 q1 q2 q3 => ?_)
  rw [hset] at q1 q2
  exact kk H1 l1 q1 q2 q3
theorem fg_X9_205 {p : Program} {l : Launch} {e : Env} {R : Room} {s : State} {m : MethodId} {args : Array Value} {below : List Frame} {meth : Method} {c : Code} {H : Heap} {locs : List Loc} {cells slots : Nat} {Q : State → Prop} {cc : ByteArray} {pc : Nat} {ls : Array Slot} {rest : List Value} {y0 : MethodName} {c0 : ByteArray} {n0 : Nat} {r0 : Option FieldType} {dC : Nat → ClassId} {dI : Nat → Nat → Nat} {cB cI cJ cZ cS cO : ClassId} {b : Nat} {cs : CS} {i : Nat} {v : Int32} (hx : p.tables.exec = Jvm.exec) (hb : c.code = cc) (hts : ∀ w ∈ wsOf y0 c0 n0 r0, w.before args s = true) (hown : s.vm.findClass RX9 = some m.cls) (hK : va_K (dC, dI) vwCl [(cB, .byte), (cI, .int), (cJ, .long), (cZ, .boolean), (cS, .object "StreamQueries$Source"), (cO, .object "java/lang/Object")] s) (hP : va_P (dC, dI) vwCl (cW cB cI cJ cZ cS cO b cs) H) (hv : gI cs 6 192 i = some v) (hdg : decode cc pc = .ok (.getfield 205, 3)) (kk : W p l e R s m args below meth c H locs cells slots Q (F0 m (pc + 3) ls (.int v :: rest))) : W p l e R s m args below meth c H locs cells slots Q (F0 m pc ls (.ref (b + i) :: rest)) := by
  obtain ⟨h1, h2⟩ := gI_some hv
  obtain ⟨k, -, hg⟩ := cO_at (b := b) (cB := cB) (cI := cI) (cJ := cJ) (cZ := cZ) (cS := cS) (cO := cO) (by decide) h1
  have hf : (vL b cs i (32 * 6) (tyX 6))[0]? = some (.int v) := by
    show some (vV b cs 192 i 0) = _
    show some (Value.int (kI cs 192 i)) = _
    rw [h2]
  exact va_get (D := (dC, dI)) (ci := 6) (C := RX5) (T := TX5) (N := 15) hx hb hts (fun w h => List.mem_cons_of_mem _ (uG_X5 w h)) hown hK hP k hg rfl 0 (by decide) (hts _ (List.mem_cons_of_mem _ kw_657)) (fun _ h9 => h9) hf hdg kk
theorem fp_X9_205 {p : Program} {l : Launch} {e : Env} {R : Room} {s : State} {m : MethodId} {args : Array Value} {below : List Frame} {meth : Method} {c : Code} {H : Heap} {locs : List Loc} {cells slots : Nat} {Q : State → Prop} {cc : ByteArray} {pc : Nat} {ls : Array Slot} {rest : List Value} {y0 : MethodName} {c0 : ByteArray} {n0 : Nat} {r0 : Option FieldType} {dC : Nat → ClassId} {dI : Nat → Nat → Nat} {cB cI cJ cZ cS cO : ClassId} {b : Nat} {cs : CS} {A : Nat → Prop} {H0 : Heap} {cs1 : CS} {i : Nat} {v : Int32} (hx : p.tables.exec = Jvm.exec) (hb : c.code = cc) (hts : ∀ w ∈ wsOf y0 c0 n0 r0, w.before args s = true) (hown : s.vm.findClass RX9 = some m.cls) (hK : va_K (dC, dI) vwCl [(cB, .byte), (cI, .int), (cJ, .long), (cZ, .boolean), (cS, .object "StreamQueries$Source"), (cO, .object "java/lang/Object")] s) (hP : va_P (dC, dI) vwCl (cW cB cI cJ cZ cS cO b cs) H) (hD : va_D A (cW cB cI cJ cZ cS cO b cs)) (hS : va_S A H0 H locs) (hz : v = 0 ∨ v = 1) (hv : pI cs 6 192 i v = some cs1) (hdg : decode cc pc = .ok (.putfield 205, 3)) (kk : ∀ (H1 : Heap) (locs1 : List Loc), va_P (dC, dI) vwCl (cW cB cI cJ cZ cS cO b cs1) H1 → va_D A (cW cB cI cJ cZ cS cO b cs1) → va_S A H0 H1 locs1 → W p l e R s m args below meth c H1 locs1 cells slots Q (F0 m (pc + 3) ls rest)) : W p l e R s m args below meth c H locs cells slots Q (F0 m pc ls (.int v :: .ref (b + i) :: rest)) := by
  obtain ⟨h1, rfl⟩ := pI_some hv
  obtain ⟨k, hk, hg⟩ := cO_at (b := b) (cB := cB) (cI := cI) (cJ := cJ) (cZ := cZ) (cS := cS) (cO := cO) (by decide) h1
  have hset := cW_putF (f := 0) (y := 0) (v := .int v) (cs1 := sI cs 192 i v) (by decide) rfl hD hk rfl rfl rfl rfl rfl rfl (by show Value.int (u2 (kI cs) 192 i v 192 i) = _; rw [u2_s]) (fun z j w hn => by
    have e9 : kI (sI cs 192 i v) z j = kI cs z j := u2_n hn
    match w with
    | 0 => show Value.int (kI (sI cs 192 i v) z j) = Value.int (kI cs z j); rw [e9]
    | 1 => rfl
    | 2 => rfl
    | _ + 3 => rfl)
  refine va_put (D := (dC, dI)) (ci := 6) (v := .int v) (ty := .boolean) (C := RX5) (T := TX5) (N := 15) hx hb hts (fun w h => List.mem_cons_of_mem _ (uG_X5 w h)) tyX5 tyX5_ok nmX5 hown hK hP hD hS k hg rfl 0 (by decide) (hts _ (List.mem_cons_of_mem _ kw_657)) (fun _ h9 => h9) rfl (by decide +kernel) (nzN hz) (nzF hz) (by rw [vL_len]; decide) hdg (fun H1 l1 q1 q2 q3 => ?_)
  rw [hset] at q1 q2
  exact kk H1 l1 q1 q2 q3
theorem fg_X9_208 {p : Program} {l : Launch} {e : Env} {R : Room} {s : State} {m : MethodId} {args : Array Value} {below : List Frame} {meth : Method} {c : Code} {H : Heap} {locs : List Loc} {cells slots : Nat} {Q : State → Prop} {cc : ByteArray} {pc : Nat} {ls : Array Slot} {rest : List Value} {y0 : MethodName} {c0 : ByteArray} {n0 : Nat} {r0 : Option FieldType} {dC : Nat → ClassId} {dI : Nat → Nat → Nat} {cB cI cJ cZ cS cO : ClassId} {b : Nat} {cs : CS} {i : Nat} {v : (Option Nat)} (hx : p.tables.exec = Jvm.exec) (hb : c.code = cc) (hts : ∀ w ∈ wsOf y0 c0 n0 r0, w.before args s = true) (hown : s.vm.findClass RX9 = some m.cls) (hK : va_K (dC, dI) vwCl [(cB, .byte), (cI, .int), (cJ, .long), (cZ, .boolean), (cS, .object "StreamQueries$Source"), (cO, .object "java/lang/Object")] s) (hP : va_P (dC, dI) vwCl (cW cB cI cJ cZ cS cO b cs) H) (hv : gR cs 6 194 i = some v) (hdg : decode cc pc = .ok (.getfield 208, 3)) (kk : W p l e R s m args below meth c H locs cells slots Q (F0 m (pc + 3) ls (rv b v :: rest))) : W p l e R s m args below meth c H locs cells slots Q (F0 m pc ls (.ref (b + i) :: rest)) := by
  obtain ⟨h1, h2⟩ := gR_some hv
  obtain ⟨k, -, hg⟩ := cO_at (b := b) (cB := cB) (cI := cI) (cJ := cJ) (cZ := cZ) (cS := cS) (cO := cO) (by decide) h1
  have hf : (vL b cs i (32 * 6) (tyX 6))[2]? = some (rv b v) := by
    show some (vV b cs 194 i 2) = _
    show some (rv b (kR cs 194 i)) = _
    rw [h2]
  exact va_get (D := (dC, dI)) (ci := 6) (C := RX5) (T := TX5) (N := 15) hx hb hts (fun w h => List.mem_cons_of_mem _ (uG_X5 w h)) hown hK hP k hg rfl 2 (by decide) (hts _ (List.mem_cons_of_mem _ kw_664)) (fun _ h9 => h9) hf hdg kk
theorem fg_X9_216 {p : Program} {l : Launch} {e : Env} {R : Room} {s : State} {m : MethodId} {args : Array Value} {below : List Frame} {meth : Method} {c : Code} {H : Heap} {locs : List Loc} {cells slots : Nat} {Q : State → Prop} {cc : ByteArray} {pc : Nat} {ls : Array Slot} {rest : List Value} {y0 : MethodName} {c0 : ByteArray} {n0 : Nat} {r0 : Option FieldType} {dC : Nat → ClassId} {dI : Nat → Nat → Nat} {cB cI cJ cZ cS cO : ClassId} {b : Nat} {cs : CS} {i : Nat} {v : Int32} (hx : p.tables.exec = Jvm.exec) (hb : c.code = cc) (hts : ∀ w ∈ wsOf y0 c0 n0 r0, w.before args s = true) (hown : s.vm.findClass RX9 = some m.cls) (hK : va_K (dC, dI) vwCl [(cB, .byte), (cI, .int), (cJ, .long), (cZ, .boolean), (cS, .object "StreamQueries$Source"), (cO, .object "java/lang/Object")] s) (hP : va_P (dC, dI) vwCl (cW cB cI cJ cZ cS cO b cs) H) (hv : gI cs 6 197 i = some v) (hdg : decode cc pc = .ok (.getfield 216, 3)) (kk : W p l e R s m args below meth c H locs cells slots Q (F0 m (pc + 3) ls (.int v :: rest))) : W p l e R s m args below meth c H locs cells slots Q (F0 m pc ls (.ref (b + i) :: rest)) := by
  obtain ⟨h1, h2⟩ := gI_some hv
  obtain ⟨k, -, hg⟩ := cO_at (b := b) (cB := cB) (cI := cI) (cJ := cJ) (cZ := cZ) (cS := cS) (cO := cO) (by decide) h1
  have hf : (vL b cs i (32 * 6) (tyX 6))[5]? = some (.int v) := by
    show some (vV b cs 197 i 0) = _
    show some (Value.int (kI cs 197 i)) = _
    rw [h2]
  exact va_get (D := (dC, dI)) (ci := 6) (C := RX5) (T := TX5) (N := 15) hx hb hts (fun w h => List.mem_cons_of_mem _ (uG_X5 w h)) hown hK hP k hg rfl 5 (by decide) (hts _ (List.mem_cons_of_mem _ kw_676)) (fun _ h9 => h9) hf hdg kk
theorem fp_X9_216 {p : Program} {l : Launch} {e : Env} {R : Room} {s : State} {m : MethodId} {args : Array Value} {below : List Frame} {meth : Method} {c : Code} {H : Heap} {locs : List Loc} {cells slots : Nat} {Q : State → Prop} {cc : ByteArray} {pc : Nat} {ls : Array Slot} {rest : List Value} {y0 : MethodName} {c0 : ByteArray} {n0 : Nat} {r0 : Option FieldType} {dC : Nat → ClassId} {dI : Nat → Nat → Nat} {cB cI cJ cZ cS cO : ClassId} {b : Nat} {cs : CS} {A : Nat → Prop} {H0 : Heap} {cs1 : CS} {i : Nat} {v : Int32} (hx : p.tables.exec = Jvm.exec) (hb : c.code = cc) (hts : ∀ w ∈ wsOf y0 c0 n0 r0, w.before args s = true) (hown : s.vm.findClass RX9 = some m.cls) (hK : va_K (dC, dI) vwCl [(cB, .byte), (cI, .int), (cJ, .long), (cZ, .boolean), (cS, .object "StreamQueries$Source"), (cO, .object "java/lang/Object")] s) (hP : va_P (dC, dI) vwCl (cW cB cI cJ cZ cS cO b cs) H) (hD : va_D A (cW cB cI cJ cZ cS cO b cs)) (hS : va_S A H0 H locs) (hv : pI cs 6 197 i v = some cs1) (hdg : decode cc pc = .ok (.putfield 216, 3)) (kk : ∀ (H1 : Heap) (locs1 : List Loc), va_P (dC, dI) vwCl (cW cB cI cJ cZ cS cO b cs1) H1 → va_D A (cW cB cI cJ cZ cS cO b cs1) → va_S A H0 H1 locs1 → W p l e R s m args below meth c H1 locs1 cells slots Q (F0 m (pc + 3) ls rest)) : W p l e R s m args below meth c H locs cells slots Q (F0 m pc ls (.int v :: .ref (b + i) :: rest)) := by
  obtain ⟨h1, rfl⟩ := pI_some hv
  obtain ⟨k, hk, hg⟩ := cO_at (b := b) (cB := cB) (cI := cI) (cJ := cJ) (cZ := cZ) (cS := cS) (cO := cO) (by decide) h1
  have hset := cW_putF (f := 5) (y := 0) (v := .int v) (cs1 := sI cs 197 i v) (by decide) rfl hD hk rfl rfl rfl rfl rfl rfl (by show Value.int (u2 (kI cs) 197 i v 197 i) = _; rw [u2_s]) (fun z j w hn => by
    have e9 : kI (sI cs 197 i v) z j = kI cs z j := u2_n hn
    match w with
    | 0 => show Value.int (kI (sI cs 197 i v) z j) = Value.int (kI cs z j); rw [e9]
    | 1 => rfl
    | 2 => rfl
    | _ + 3 => rfl)
  refine va_put (D := (dC, dI)) (ci := 6) (v := .int v) (ty := .int) (C := RX5) (T := TX5) (N := 15) hx hb hts (fun w h => List.mem_cons_of_mem _ (uG_X5 w h)) tyX5 tyX5_ok nmX5 hown hK hP hD hS k hg rfl 5 (by decide) (hts _ (List.mem_cons_of_mem _ kw_676)) (fun _ h9 => h9) rfl (by decide +kernel) rfl rfl (by rw [vL_len]; decide) hdg (fun H1 l1 q1 q2 q3 => ?_)
  rw [hset] at q1 q2
  exact kk H1 l1 q1 q2 q3
theorem fg_X9_222 {p : Program} {l : Launch} {e : Env} {R : Room} {s : State} {m : MethodId} {args : Array Value} {below : List Frame} {meth : Method} {c : Code} {H : Heap} {locs : List Loc} {cells slots : Nat} {Q : State → Prop} {cc : ByteArray} {pc : Nat} {ls : Array Slot} {rest : List Value} {y0 : MethodName} {c0 : ByteArray} {n0 : Nat} {r0 : Option FieldType} {dC : Nat → ClassId} {dI : Nat → Nat → Nat} {cB cI cJ cZ cS cO : ClassId} {b : Nat} {cs : CS} {i : Nat} {v : Int32} (hx : p.tables.exec = Jvm.exec) (hb : c.code = cc) (hts : ∀ w ∈ wsOf y0 c0 n0 r0, w.before args s = true) (hown : s.vm.findClass RX9 = some m.cls) (hK : va_K (dC, dI) vwCl [(cB, .byte), (cI, .int), (cJ, .long), (cZ, .boolean), (cS, .object "StreamQueries$Source"), (cO, .object "java/lang/Object")] s) (hP : va_P (dC, dI) vwCl (cW cB cI cJ cZ cS cO b cs) H) (hv : gI cs 6 201 i = some v) (hdg : decode cc pc = .ok (.getfield 222, 3)) (kk : W p l e R s m args below meth c H locs cells slots Q (F0 m (pc + 3) ls (.int v :: rest))) : W p l e R s m args below meth c H locs cells slots Q (F0 m pc ls (.ref (b + i) :: rest)) := by
  obtain ⟨h1, h2⟩ := gI_some hv
  obtain ⟨k, -, hg⟩ := cO_at (b := b) (cB := cB) (cI := cI) (cJ := cJ) (cZ := cZ) (cS := cS) (cO := cO) (by decide) h1
  have hf : (vL b cs i (32 * 6) (tyX 6))[9]? = some (.int v) := by
    show some (vV b cs 201 i 0) = _
    show some (Value.int (kI cs 201 i)) = _
    rw [h2]
  exact va_get (D := (dC, dI)) (ci := 6) (C := RX5) (T := TX5) (N := 15) hx hb hts (fun w h => List.mem_cons_of_mem _ (uG_X5 w h)) hown hK hP k hg rfl 9 (by decide) (hts _ (List.mem_cons_of_mem _ kw_689)) (fun _ h9 => h9) hf hdg kk
theorem fp_X9_222 {p : Program} {l : Launch} {e : Env} {R : Room} {s : State} {m : MethodId} {args : Array Value} {below : List Frame} {meth : Method} {c : Code} {H : Heap} {locs : List Loc} {cells slots : Nat} {Q : State → Prop} {cc : ByteArray} {pc : Nat} {ls : Array Slot} {rest : List Value} {y0 : MethodName} {c0 : ByteArray} {n0 : Nat} {r0 : Option FieldType} {dC : Nat → ClassId} {dI : Nat → Nat → Nat} {cB cI cJ cZ cS cO : ClassId} {b : Nat} {cs : CS} {A : Nat → Prop} {H0 : Heap} {cs1 : CS} {i : Nat} {v : Int32} (hx : p.tables.exec = Jvm.exec) (hb : c.code = cc) (hts : ∀ w ∈ wsOf y0 c0 n0 r0, w.before args s = true) (hown : s.vm.findClass RX9 = some m.cls) (hK : va_K (dC, dI) vwCl [(cB, .byte), (cI, .int), (cJ, .long), (cZ, .boolean), (cS, .object "StreamQueries$Source"), (cO, .object "java/lang/Object")] s) (hP : va_P (dC, dI) vwCl (cW cB cI cJ cZ cS cO b cs) H) (hD : va_D A (cW cB cI cJ cZ cS cO b cs)) (hS : va_S A H0 H locs) (hv : pI cs 6 201 i v = some cs1) (hdg : decode cc pc = .ok (.putfield 222, 3)) (kk : ∀ (H1 : Heap) (locs1 : List Loc), va_P (dC, dI) vwCl (cW cB cI cJ cZ cS cO b cs1) H1 → va_D A (cW cB cI cJ cZ cS cO b cs1) → va_S A H0 H1 locs1 → W p l e R s m args below meth c H1 locs1 cells slots Q (F0 m (pc + 3) ls rest)) : W p l e R s m args below meth c H locs cells slots Q (F0 m pc ls (.int v :: .ref (b + i) :: rest)) := by
  obtain ⟨h1, rfl⟩ := pI_some hv
  obtain ⟨k, hk, hg⟩ := cO_at (b := b) (cB := cB) (cI := cI) (cJ := cJ) (cZ := cZ) (cS := cS) (cO := cO) (by decide) h1
  have hset := cW_putF (f := 9) (y := 0) (v := .int v) (cs1 := sI cs 201 i v) (by decide) rfl hD hk rfl rfl rfl rfl rfl rfl (by show Value.int (u2 (kI cs) 201 i v 201 i) = _; rw [u2_s]) (fun z j w hn => by
    have e9 : kI (sI cs 201 i v) z j = kI cs z j := u2_n hn
    match w with
    | 0 => show Value.int (kI (sI cs 201 i v) z j) = Value.int (kI cs z j); rw [e9]
    | 1 => rfl
    | 2 => rfl
    | _ + 3 => rfl)
  refine va_put (D := (dC, dI)) (ci := 6) (v := .int v) (ty := .int) (C := RX5) (T := TX5) (N := 15) hx hb hts (fun w h => List.mem_cons_of_mem _ (uG_X5 w h)) tyX5 tyX5_ok nmX5 hown hK hP hD hS k hg rfl 9 (by decide) (hts _ (List.mem_cons_of_mem _ kw_689)) (fun _ h9 => h9) rfl (by decide +kernel) rfl rfl (by rw [vL_len]; decide) hdg (fun H1 l1 q1 q2 q3 => ?_)
  rw [hset] at q1 q2
  exact kk H1 l1 q1 q2 q3
theorem fg_X9_229 {p : Program} {l : Launch} {e : Env} {R : Room} {s : State} {m : MethodId} {args : Array Value} {below : List Frame} {meth : Method} {c : Code} {H : Heap} {locs : List Loc} {cells slots : Nat} {Q : State → Prop} {cc : ByteArray} {pc : Nat} {ls : Array Slot} {rest : List Value} {y0 : MethodName} {c0 : ByteArray} {n0 : Nat} {r0 : Option FieldType} {dC : Nat → ClassId} {dI : Nat → Nat → Nat} {cB cI cJ cZ cS cO : ClassId} {b : Nat} {cs : CS} {i : Nat} {v : Nat} (hx : p.tables.exec = Jvm.exec) (hb : c.code = cc) (hts : ∀ w ∈ wsOf y0 c0 n0 r0, w.before args s = true) (hown : s.vm.findClass RX9 = some m.cls) (hK : va_K (dC, dI) vwCl [(cB, .byte), (cI, .int), (cJ, .long), (cZ, .boolean), (cS, .object "StreamQueries$Source"), (cO, .object "java/lang/Object")] s) (hP : va_P (dC, dI) vwCl (cW cB cI cJ cZ cS cO b cs) H) (hv : gA cs 2 65 i = some v) (hdg : decode cc pc = .ok (.getfield 229, 3)) (kk : W p l e R s m args below meth c H locs cells slots Q (F0 m (pc + 3) ls (.ref (b + v) :: rest))) : W p l e R s m args below meth c H locs cells slots Q (F0 m pc ls (.ref (b + i) :: rest)) := by
  obtain ⟨h1, h2⟩ := gA_some hv
  obtain ⟨k, -, hg⟩ := cO_at (b := b) (cB := cB) (cI := cI) (cJ := cJ) (cZ := cZ) (cS := cS) (cO := cO) (by decide) h1
  have hf : (vL b cs i (32 * 2) (tyX 2))[1]? = some (.ref (b + v)) := by
    show some (vV b cs 65 i 3) = _
    show some (rv b (kP cs 65 i)) = _
    rw [h2]; rfl
  exact va_get (D := (dC, dI)) (ci := 2) (C := RX1) (T := TX1) (N := 13) hx hb hts (fun w h => List.mem_cons_of_mem _ (uG_X1 w h)) hown hK hP k hg rfl 1 (by decide) (hts _ (List.mem_cons_of_mem _ kw_377)) (fun _ h9 => h9) hf hdg kk
theorem fg_X9_230 {p : Program} {l : Launch} {e : Env} {R : Room} {s : State} {m : MethodId} {args : Array Value} {below : List Frame} {meth : Method} {c : Code} {H : Heap} {locs : List Loc} {cells slots : Nat} {Q : State → Prop} {cc : ByteArray} {pc : Nat} {ls : Array Slot} {rest : List Value} {y0 : MethodName} {c0 : ByteArray} {n0 : Nat} {r0 : Option FieldType} {dC : Nat → ClassId} {dI : Nat → Nat → Nat} {cB cI cJ cZ cS cO : ClassId} {b : Nat} {cs : CS} {i : Nat} {v : Nat} (hx : p.tables.exec = Jvm.exec) (hb : c.code = cc) (hts : ∀ w ∈ wsOf y0 c0 n0 r0, w.before args s = true) (hown : s.vm.findClass RX9 = some m.cls) (hK : va_K (dC, dI) vwCl [(cB, .byte), (cI, .int), (cJ, .long), (cZ, .boolean), (cS, .object "StreamQueries$Source"), (cO, .object "java/lang/Object")] s) (hP : va_P (dC, dI) vwCl (cW cB cI cJ cZ cS cO b cs) H) (hv : gA cs 2 66 i = some v) (hdg : decode cc pc = .ok (.getfield 230, 3)) (kk : W p l e R s m args below meth c H locs cells slots Q (F0 m (pc + 3) ls (.ref (b + v) :: rest))) : W p l e R s m args below meth c H locs cells slots Q (F0 m pc ls (.ref (b + i) :: rest)) := by
  obtain ⟨h1, h2⟩ := gA_some hv
  obtain ⟨k, -, hg⟩ := cO_at (b := b) (cB := cB) (cI := cI) (cJ := cJ) (cZ := cZ) (cS := cS) (cO := cO) (by decide) h1
  have hf : (vL b cs i (32 * 2) (tyX 2))[2]? = some (.ref (b + v)) := by
    show some (vV b cs 66 i 3) = _
    show some (rv b (kP cs 66 i)) = _
    rw [h2]; rfl
  exact va_get (D := (dC, dI)) (ci := 2) (C := RX1) (T := TX1) (N := 13) hx hb hts (fun w h => List.mem_cons_of_mem _ (uG_X1 w h)) hown hK hP k hg rfl 2 (by decide) (hts _ (List.mem_cons_of_mem _ kw_380)) (fun _ h9 => h9) hf hdg kk
theorem fg_X9_231 {p : Program} {l : Launch} {e : Env} {R : Room} {s : State} {m : MethodId} {args : Array Value} {below : List Frame} {meth : Method} {c : Code} {H : Heap} {locs : List Loc} {cells slots : Nat} {Q : State → Prop} {cc : ByteArray} {pc : Nat} {ls : Array Slot} {rest : List Value} {y0 : MethodName} {c0 : ByteArray} {n0 : Nat} {r0 : Option FieldType} {dC : Nat → ClassId} {dI : Nat → Nat → Nat} {cB cI cJ cZ cS cO : ClassId} {b : Nat} {cs : CS} {i : Nat} {v : Nat} (hx : p.tables.exec = Jvm.exec) (hb : c.code = cc) (hts : ∀ w ∈ wsOf y0 c0 n0 r0, w.before args s = true) (hown : s.vm.findClass RX9 = some m.cls) (hK : va_K (dC, dI) vwCl [(cB, .byte), (cI, .int), (cJ, .long), (cZ, .boolean), (cS, .object "StreamQueries$Source"), (cO, .object "java/lang/Object")] s) (hP : va_P (dC, dI) vwCl (cW cB cI cJ cZ cS cO b cs) H) (hv : gA cs 2 69 i = some v) (hdg : decode cc pc = .ok (.getfield 231, 3)) (kk : W p l e R s m args below meth c H locs cells slots Q (F0 m (pc + 3) ls (.ref (b + v) :: rest))) : W p l e R s m args below meth c H locs cells slots Q (F0 m pc ls (.ref (b + i) :: rest)) := by
  obtain ⟨h1, h2⟩ := gA_some hv
  obtain ⟨k, -, hg⟩ := cO_at (b := b) (cB := cB) (cI := cI) (cJ := cJ) (cZ := cZ) (cS := cS) (cO := cO) (by decide) h1
  have hf : (vL b cs i (32 * 2) (tyX 2))[5]? = some (.ref (b + v)) := by
    show some (vV b cs 69 i 3) = _
    show some (rv b (kP cs 69 i)) = _
    rw [h2]; rfl
  exact va_get (D := (dC, dI)) (ci := 2) (C := RX1) (T := TX1) (N := 13) hx hb hts (fun w h => List.mem_cons_of_mem _ (uG_X1 w h)) hown hK hP k hg rfl 5 (by decide) (hts _ (List.mem_cons_of_mem _ kw_387)) (fun _ h9 => h9) hf hdg kk
theorem fg_X9_232 {p : Program} {l : Launch} {e : Env} {R : Room} {s : State} {m : MethodId} {args : Array Value} {below : List Frame} {meth : Method} {c : Code} {H : Heap} {locs : List Loc} {cells slots : Nat} {Q : State → Prop} {cc : ByteArray} {pc : Nat} {ls : Array Slot} {rest : List Value} {y0 : MethodName} {c0 : ByteArray} {n0 : Nat} {r0 : Option FieldType} {dC : Nat → ClassId} {dI : Nat → Nat → Nat} {cB cI cJ cZ cS cO : ClassId} {b : Nat} {cs : CS} {i : Nat} {v : Int32} (hx : p.tables.exec = Jvm.exec) (hb : c.code = cc) (hts : ∀ w ∈ wsOf y0 c0 n0 r0, w.before args s = true) (hown : s.vm.findClass RX9 = some m.cls) (hK : va_K (dC, dI) vwCl [(cB, .byte), (cI, .int), (cJ, .long), (cZ, .boolean), (cS, .object "StreamQueries$Source"), (cO, .object "java/lang/Object")] s) (hP : va_P (dC, dI) vwCl (cW cB cI cJ cZ cS cO b cs) H) (hv : gI cs 6 198 i = some v) (hdg : decode cc pc = .ok (.getfield 232, 3)) (kk : W p l e R s m args below meth c H locs cells slots Q (F0 m (pc + 3) ls (.int v :: rest))) : W p l e R s m args below meth c H locs cells slots Q (F0 m pc ls (.ref (b + i) :: rest)) := by
  obtain ⟨h1, h2⟩ := gI_some hv
  obtain ⟨k, -, hg⟩ := cO_at (b := b) (cB := cB) (cI := cI) (cJ := cJ) (cZ := cZ) (cS := cS) (cO := cO) (by decide) h1
  have hf : (vL b cs i (32 * 6) (tyX 6))[6]? = some (.int v) := by
    show some (vV b cs 198 i 0) = _
    show some (Value.int (kI cs 198 i)) = _
    rw [h2]
  exact va_get (D := (dC, dI)) (ci := 6) (C := RX5) (T := TX5) (N := 15) hx hb hts (fun w h => List.mem_cons_of_mem _ (uG_X5 w h)) hown hK hP k hg rfl 6 (by decide) (hts _ (List.mem_cons_of_mem _ kw_679)) (fun _ h9 => h9) hf hdg kk
theorem fp_X9_232 {p : Program} {l : Launch} {e : Env} {R : Room} {s : State} {m : MethodId} {args : Array Value} {below : List Frame} {meth : Method} {c : Code} {H : Heap} {locs : List Loc} {cells slots : Nat} {Q : State → Prop} {cc : ByteArray} {pc : Nat} {ls : Array Slot} {rest : List Value} {y0 : MethodName} {c0 : ByteArray} {n0 : Nat} {r0 : Option FieldType} {dC : Nat → ClassId} {dI : Nat → Nat → Nat} {cB cI cJ cZ cS cO : ClassId} {b : Nat} {cs : CS} {A : Nat → Prop} {H0 : Heap} {cs1 : CS} {i : Nat} {v : Int32} (hx : p.tables.exec = Jvm.exec) (hb : c.code = cc) (hts : ∀ w ∈ wsOf y0 c0 n0 r0, w.before args s = true) (hown : s.vm.findClass RX9 = some m.cls) (hK : va_K (dC, dI) vwCl [(cB, .byte), (cI, .int), (cJ, .long), (cZ, .boolean), (cS, .object "StreamQueries$Source"), (cO, .object "java/lang/Object")] s) (hP : va_P (dC, dI) vwCl (cW cB cI cJ cZ cS cO b cs) H) (hD : va_D A (cW cB cI cJ cZ cS cO b cs)) (hS : va_S A H0 H locs) (hz : v = 0 ∨ v = 1) (hv : pI cs 6 198 i v = some cs1) (hdg : decode cc pc = .ok (.putfield 232, 3)) (kk : ∀ (H1 : Heap) (locs1 : List Loc), va_P (dC, dI) vwCl (cW cB cI cJ cZ cS cO b cs1) H1 → va_D A (cW cB cI cJ cZ cS cO b cs1) → va_S A H0 H1 locs1 → W p l e R s m args below meth c H1 locs1 cells slots Q (F0 m (pc + 3) ls rest)) : W p l e R s m args below meth c H locs cells slots Q (F0 m pc ls (.int v :: .ref (b + i) :: rest)) := by
  obtain ⟨h1, rfl⟩ := pI_some hv
  obtain ⟨k, hk, hg⟩ := cO_at (b := b) (cB := cB) (cI := cI) (cJ := cJ) (cZ := cZ) (cS := cS) (cO := cO) (by decide) h1
  have hset := cW_putF (f := 6) (y := 0) (v := .int v) (cs1 := sI cs 198 i v) (by decide) rfl hD hk rfl rfl rfl rfl rfl rfl (by show Value.int (u2 (kI cs) 198 i v 198 i) = _; rw [u2_s]) (fun z j w hn => by
    have e9 : kI (sI cs 198 i v) z j = kI cs z j := u2_n hn
    match w with
    | 0 => show Value.int (kI (sI cs 198 i v) z j) = Value.int (kI cs z j); rw [e9]
    | 1 => rfl
    | 2 => rfl
    | _ + 3 => rfl)
  refine va_put (D := (dC, dI)) (ci := 6) (v := .int v) (ty := .boolean) (C := RX5) (T := TX5) (N := 15) hx hb hts (fun w h => List.mem_cons_of_mem _ (uG_X5 w h)) tyX5 tyX5_ok nmX5 hown hK hP hD hS k hg rfl 6 (by decide) (hts _ (List.mem_cons_of_mem _ kw_679)) (fun _ h9 => h9) rfl (by decide +kernel) (nzN hz) (nzF hz) (by rw [vL_len]; decide) hdg (fun H1 l1 q1 q2 q3 => ?_)
  rw [hset] at q1 q2
  exact kk H1 l1 q1 q2 q3
theorem fg_X9_235 {p : Program} {l : Launch} {e : Env} {R : Room} {s : State} {m : MethodId} {args : Array Value} {below : List Frame} {meth : Method} {c : Code} {H : Heap} {locs : List Loc} {cells slots : Nat} {Q : State → Prop} {cc : ByteArray} {pc : Nat} {ls : Array Slot} {rest : List Value} {y0 : MethodName} {c0 : ByteArray} {n0 : Nat} {r0 : Option FieldType} {dC : Nat → ClassId} {dI : Nat → Nat → Nat} {cB cI cJ cZ cS cO : ClassId} {b : Nat} {cs : CS} {i : Nat} {v : Int32} (hx : p.tables.exec = Jvm.exec) (hb : c.code = cc) (hts : ∀ w ∈ wsOf y0 c0 n0 r0, w.before args s = true) (hown : s.vm.findClass RX9 = some m.cls) (hK : va_K (dC, dI) vwCl [(cB, .byte), (cI, .int), (cJ, .long), (cZ, .boolean), (cS, .object "StreamQueries$Source"), (cO, .object "java/lang/Object")] s) (hP : va_P (dC, dI) vwCl (cW cB cI cJ cZ cS cO b cs) H) (hv : gI cs 6 199 i = some v) (hdg : decode cc pc = .ok (.getfield 235, 3)) (kk : W p l e R s m args below meth c H locs cells slots Q (F0 m (pc + 3) ls (.int v :: rest))) : W p l e R s m args below meth c H locs cells slots Q (F0 m pc ls (.ref (b + i) :: rest)) := by
  obtain ⟨h1, h2⟩ := gI_some hv
  obtain ⟨k, -, hg⟩ := cO_at (b := b) (cB := cB) (cI := cI) (cJ := cJ) (cZ := cZ) (cS := cS) (cO := cO) (by decide) h1
  have hf : (vL b cs i (32 * 6) (tyX 6))[7]? = some (.int v) := by
    show some (vV b cs 199 i 0) = _
    show some (Value.int (kI cs 199 i)) = _
    rw [h2]
  exact va_get (D := (dC, dI)) (ci := 6) (C := RX5) (T := TX5) (N := 15) hx hb hts (fun w h => List.mem_cons_of_mem _ (uG_X5 w h)) hown hK hP k hg rfl 7 (by decide) (hts _ (List.mem_cons_of_mem _ kw_681)) (fun _ h9 => h9) hf hdg kk
theorem fp_X9_235 {p : Program} {l : Launch} {e : Env} {R : Room} {s : State} {m : MethodId} {args : Array Value} {below : List Frame} {meth : Method} {c : Code} {H : Heap} {locs : List Loc} {cells slots : Nat} {Q : State → Prop} {cc : ByteArray} {pc : Nat} {ls : Array Slot} {rest : List Value} {y0 : MethodName} {c0 : ByteArray} {n0 : Nat} {r0 : Option FieldType} {dC : Nat → ClassId} {dI : Nat → Nat → Nat} {cB cI cJ cZ cS cO : ClassId} {b : Nat} {cs : CS} {A : Nat → Prop} {H0 : Heap} {cs1 : CS} {i : Nat} {v : Int32} (hx : p.tables.exec = Jvm.exec) (hb : c.code = cc) (hts : ∀ w ∈ wsOf y0 c0 n0 r0, w.before args s = true) (hown : s.vm.findClass RX9 = some m.cls) (hK : va_K (dC, dI) vwCl [(cB, .byte), (cI, .int), (cJ, .long), (cZ, .boolean), (cS, .object "StreamQueries$Source"), (cO, .object "java/lang/Object")] s) (hP : va_P (dC, dI) vwCl (cW cB cI cJ cZ cS cO b cs) H) (hD : va_D A (cW cB cI cJ cZ cS cO b cs)) (hS : va_S A H0 H locs) (hv : pI cs 6 199 i v = some cs1) (hdg : decode cc pc = .ok (.putfield 235, 3)) (kk : ∀ (H1 : Heap) (locs1 : List Loc), va_P (dC, dI) vwCl (cW cB cI cJ cZ cS cO b cs1) H1 → va_D A (cW cB cI cJ cZ cS cO b cs1) → va_S A H0 H1 locs1 → W p l e R s m args below meth c H1 locs1 cells slots Q (F0 m (pc + 3) ls rest)) : W p l e R s m args below meth c H locs cells slots Q (F0 m pc ls (.int v :: .ref (b + i) :: rest)) := by
  obtain ⟨h1, rfl⟩ := pI_some hv
  obtain ⟨k, hk, hg⟩ := cO_at (b := b) (cB := cB) (cI := cI) (cJ := cJ) (cZ := cZ) (cS := cS) (cO := cO) (by decide) h1
  have hset := cW_putF (f := 7) (y := 0) (v := .int v) (cs1 := sI cs 199 i v) (by decide) rfl hD hk rfl rfl rfl rfl rfl rfl (by show Value.int (u2 (kI cs) 199 i v 199 i) = _; rw [u2_s]) (fun z j w hn => by
    have e9 : kI (sI cs 199 i v) z j = kI cs z j := u2_n hn
    match w with
    | 0 => show Value.int (kI (sI cs 199 i v) z j) = Value.int (kI cs z j); rw [e9]
    | 1 => rfl
    | 2 => rfl
    | _ + 3 => rfl)
  refine va_put (D := (dC, dI)) (ci := 6) (v := .int v) (ty := .int) (C := RX5) (T := TX5) (N := 15) hx hb hts (fun w h => List.mem_cons_of_mem _ (uG_X5 w h)) tyX5 tyX5_ok nmX5 hown hK hP hD hS k hg rfl 7 (by decide) (hts _ (List.mem_cons_of_mem _ kw_681)) (fun _ h9 => h9) rfl (by decide +kernel) rfl rfl (by rw [vL_len]; decide) hdg (fun H1 l1 q1 q2 q3 => ?_)
  rw [hset] at q1 q2
  exact kk H1 l1 q1 q2 q3
theorem fg_X9_238 {p : Program} {l : Launch} {e : Env} {R : Room} {s : State} {m : MethodId} {args : Array Value} {below : List Frame} {meth : Method} {c : Code} {H : Heap} {locs : List Loc} {cells slots : Nat} {Q : State → Prop} {cc : ByteArray} {pc : Nat} {ls : Array Slot} {rest : List Value} {y0 : MethodName} {c0 : ByteArray} {n0 : Nat} {r0 : Option FieldType} {dC : Nat → ClassId} {dI : Nat → Nat → Nat} {cB cI cJ cZ cS cO : ClassId} {b : Nat} {cs : CS} {i : Nat} {v : (Option Nat)} (hx : p.tables.exec = Jvm.exec) (hb : c.code = cc) (hts : ∀ w ∈ wsOf y0 c0 n0 r0, w.before args s = true) (hown : s.vm.findClass RX9 = some m.cls) (hK : va_K (dC, dI) vwCl [(cB, .byte), (cI, .int), (cJ, .long), (cZ, .boolean), (cS, .object "StreamQueries$Source"), (cO, .object "java/lang/Object")] s) (hP : va_P (dC, dI) vwCl (cW cB cI cJ cZ cS cO b cs) H) (hv : gR cs 6 200 i = some v) (hdg : decode cc pc = .ok (.getfield 238, 3)) (kk : W p l e R s m args below meth c H locs cells slots Q (F0 m (pc + 3) ls (rv b v :: rest))) : W p l e R s m args below meth c H locs cells slots Q (F0 m pc ls (.ref (b + i) :: rest)) := by
  obtain ⟨h1, h2⟩ := gR_some hv
  obtain ⟨k, -, hg⟩ := cO_at (b := b) (cB := cB) (cI := cI) (cJ := cJ) (cZ := cZ) (cS := cS) (cO := cO) (by decide) h1
  have hf : (vL b cs i (32 * 6) (tyX 6))[8]? = some (rv b v) := by
    show some (vV b cs 200 i 2) = _
    show some (rv b (kR cs 200 i)) = _
    rw [h2]
  exact va_get (D := (dC, dI)) (ci := 6) (C := RX5) (T := TX5) (N := 15) hx hb hts (fun w h => List.mem_cons_of_mem _ (uG_X5 w h)) hown hK hP k hg rfl 8 (by decide) (hts _ (List.mem_cons_of_mem _ kw_685)) (fun _ h9 => h9) hf hdg kk
theorem fg_X9_249 {p : Program} {l : Launch} {e : Env} {R : Room} {s : State} {m : MethodId} {args : Array Value} {below : List Frame} {meth : Method} {c : Code} {H : Heap} {locs : List Loc} {cells slots : Nat} {Q : State → Prop} {cc : ByteArray} {pc : Nat} {ls : Array Slot} {rest : List Value} {y0 : MethodName} {c0 : ByteArray} {n0 : Nat} {r0 : Option FieldType} {dC : Nat → ClassId} {dI : Nat → Nat → Nat} {cB cI cJ cZ cS cO : ClassId} {b : Nat} {cs : CS} {i : Nat} {v : Int32} (hx : p.tables.exec = Jvm.exec) (hb : c.code = cc) (hts : ∀ w ∈ wsOf y0 c0 n0 r0, w.before args s = true) (hown : s.vm.findClass RX9 = some m.cls) (hK : va_K (dC, dI) vwCl [(cB, .byte), (cI, .int), (cJ, .long), (cZ, .boolean), (cS, .object "StreamQueries$Source"), (cO, .object "java/lang/Object")] s) (hP : va_P (dC, dI) vwCl (cW cB cI cJ cZ cS cO b cs) H) (hv : gI cs 7 231 i = some v) (hdg : decode cc pc = .ok (.getfield 249, 3)) (kk : W p l e R s m args below meth c H locs cells slots Q (F0 m (pc + 3) ls (.int v :: rest))) : W p l e R s m args below meth c H locs cells slots Q (F0 m pc ls (.ref (b + i) :: rest)) := by
  obtain ⟨h1, h2⟩ := gI_some hv
  obtain ⟨k, -, hg⟩ := cO_at (b := b) (cB := cB) (cI := cI) (cJ := cJ) (cZ := cZ) (cS := cS) (cO := cO) (by decide) h1
  have hf : (vL b cs i (32 * 7) (tyX 7))[7]? = some (.int v) := by
    show some (vV b cs 231 i 0) = _
    show some (Value.int (kI cs 231 i)) = _
    rw [h2]
  exact va_get (D := (dC, dI)) (ci := 7) (C := RX6) (T := TX6) (N := 12) hx hb hts (fun w h => List.mem_cons_of_mem _ (uG_X6 w h)) hown hK hP k hg rfl 7 (by decide) (hts _ (List.mem_cons_of_mem _ kw_1075)) (fun _ h9 => h9) hf hdg kk
theorem fp_X9_249 {p : Program} {l : Launch} {e : Env} {R : Room} {s : State} {m : MethodId} {args : Array Value} {below : List Frame} {meth : Method} {c : Code} {H : Heap} {locs : List Loc} {cells slots : Nat} {Q : State → Prop} {cc : ByteArray} {pc : Nat} {ls : Array Slot} {rest : List Value} {y0 : MethodName} {c0 : ByteArray} {n0 : Nat} {r0 : Option FieldType} {dC : Nat → ClassId} {dI : Nat → Nat → Nat} {cB cI cJ cZ cS cO : ClassId} {b : Nat} {cs : CS} {A : Nat → Prop} {H0 : Heap} {cs1 : CS} {i : Nat} {v : Int32} (hx : p.tables.exec = Jvm.exec) (hb : c.code = cc) (hts : ∀ w ∈ wsOf y0 c0 n0 r0, w.before args s = true) (hown : s.vm.findClass RX9 = some m.cls) (hK : va_K (dC, dI) vwCl [(cB, .byte), (cI, .int), (cJ, .long), (cZ, .boolean), (cS, .object "StreamQueries$Source"), (cO, .object "java/lang/Object")] s) (hP : va_P (dC, dI) vwCl (cW cB cI cJ cZ cS cO b cs) H) (hD : va_D A (cW cB cI cJ cZ cS cO b cs)) (hS : va_S A H0 H locs) (hz : v = 0 ∨ v = 1) (hv : pI cs 7 231 i v = some cs1) (hdg : decode cc pc = .ok (.putfield 249, 3)) (kk : ∀ (H1 : Heap) (locs1 : List Loc), va_P (dC, dI) vwCl (cW cB cI cJ cZ cS cO b cs1) H1 → va_D A (cW cB cI cJ cZ cS cO b cs1) → va_S A H0 H1 locs1 → W p l e R s m args below meth c H1 locs1 cells slots Q (F0 m (pc + 3) ls rest)) : W p l e R s m args below meth c H locs cells slots Q (F0 m pc ls (.int v :: .ref (b + i) :: rest)) := by
  obtain ⟨h1, rfl⟩ := pI_some hv
  obtain ⟨k, hk, hg⟩ := cO_at (b := b) (cB := cB) (cI := cI) (cJ := cJ) (cZ := cZ) (cS := cS) (cO := cO) (by decide) h1
  have hset := cW_putF (f := 7) (y := 0) (v := .int v) (cs1 := sI cs 231 i v) (by decide) rfl hD hk rfl rfl rfl rfl rfl rfl (by show Value.int (u2 (kI cs) 231 i v 231 i) = _; rw [u2_s]) (fun z j w hn => by
    have e9 : kI (sI cs 231 i v) z j = kI cs z j := u2_n hn
    match w with
    | 0 => show Value.int (kI (sI cs 231 i v) z j) = Value.int (kI cs z j); rw [e9]
    | 1 => rfl
    | 2 => rfl
    | _ + 3 => rfl)
  refine va_put (D := (dC, dI)) (ci := 7) (v := .int v) (ty := .boolean) (C := RX6) (T := TX6) (N := 12) hx hb hts (fun w h => List.mem_cons_of_mem _ (uG_X6 w h)) tyX6 tyX6_ok nmX6 hown hK hP hD hS k hg rfl 7 (by decide) (hts _ (List.mem_cons_of_mem _ kw_1075)) (fun _ h9 => h9) rfl (by decide +kernel) (nzN hz) (nzF hz) (by rw [vL_len]; decide) hdg (fun H1 l1 q1 q2 q3 => ?_)
  rw [hset] at q1 q2
  exact kk H1 l1 q1 q2 q3
theorem fg_X9_252 {p : Program} {l : Launch} {e : Env} {R : Room} {s : State} {m : MethodId} {args : Array Value} {below : List Frame} {meth : Method} {c : Code} {H : Heap} {locs : List Loc} {cells slots : Nat} {Q : State → Prop} {cc : ByteArray} {pc : Nat} {ls : Array Slot} {rest : List Value} {y0 : MethodName} {c0 : ByteArray} {n0 : Nat} {r0 : Option FieldType} {dC : Nat → ClassId} {dI : Nat → Nat → Nat} {cB cI cJ cZ cS cO : ClassId} {b : Nat} {cs : CS} {i : Nat} {v : Int32} (hx : p.tables.exec = Jvm.exec) (hb : c.code = cc) (hts : ∀ w ∈ wsOf y0 c0 n0 r0, w.before args s = true) (hown : s.vm.findClass RX9 = some m.cls) (hK : va_K (dC, dI) vwCl [(cB, .byte), (cI, .int), (cJ, .long), (cZ, .boolean), (cS, .object "StreamQueries$Source"), (cO, .object "java/lang/Object")] s) (hP : va_P (dC, dI) vwCl (cW cB cI cJ cZ cS cO b cs) H) (hv : gI cs 7 232 i = some v) (hdg : decode cc pc = .ok (.getfield 252, 3)) (kk : W p l e R s m args below meth c H locs cells slots Q (F0 m (pc + 3) ls (.int v :: rest))) : W p l e R s m args below meth c H locs cells slots Q (F0 m pc ls (.ref (b + i) :: rest)) := by
  obtain ⟨h1, h2⟩ := gI_some hv
  obtain ⟨k, -, hg⟩ := cO_at (b := b) (cB := cB) (cI := cI) (cJ := cJ) (cZ := cZ) (cS := cS) (cO := cO) (by decide) h1
  have hf : (vL b cs i (32 * 7) (tyX 7))[8]? = some (.int v) := by
    show some (vV b cs 232 i 0) = _
    show some (Value.int (kI cs 232 i)) = _
    rw [h2]
  exact va_get (D := (dC, dI)) (ci := 7) (C := RX6) (T := TX6) (N := 12) hx hb hts (fun w h => List.mem_cons_of_mem _ (uG_X6 w h)) hown hK hP k hg rfl 8 (by decide) (hts _ (List.mem_cons_of_mem _ kw_1077)) (fun _ h9 => h9) hf hdg kk
theorem fp_X9_252 {p : Program} {l : Launch} {e : Env} {R : Room} {s : State} {m : MethodId} {args : Array Value} {below : List Frame} {meth : Method} {c : Code} {H : Heap} {locs : List Loc} {cells slots : Nat} {Q : State → Prop} {cc : ByteArray} {pc : Nat} {ls : Array Slot} {rest : List Value} {y0 : MethodName} {c0 : ByteArray} {n0 : Nat} {r0 : Option FieldType} {dC : Nat → ClassId} {dI : Nat → Nat → Nat} {cB cI cJ cZ cS cO : ClassId} {b : Nat} {cs : CS} {A : Nat → Prop} {H0 : Heap} {cs1 : CS} {i : Nat} {v : Int32} (hx : p.tables.exec = Jvm.exec) (hb : c.code = cc) (hts : ∀ w ∈ wsOf y0 c0 n0 r0, w.before args s = true) (hown : s.vm.findClass RX9 = some m.cls) (hK : va_K (dC, dI) vwCl [(cB, .byte), (cI, .int), (cJ, .long), (cZ, .boolean), (cS, .object "StreamQueries$Source"), (cO, .object "java/lang/Object")] s) (hP : va_P (dC, dI) vwCl (cW cB cI cJ cZ cS cO b cs) H) (hD : va_D A (cW cB cI cJ cZ cS cO b cs)) (hS : va_S A H0 H locs) (hv : pI cs 7 232 i v = some cs1) (hdg : decode cc pc = .ok (.putfield 252, 3)) (kk : ∀ (H1 : Heap) (locs1 : List Loc), va_P (dC, dI) vwCl (cW cB cI cJ cZ cS cO b cs1) H1 → va_D A (cW cB cI cJ cZ cS cO b cs1) → va_S A H0 H1 locs1 → W p l e R s m args below meth c H1 locs1 cells slots Q (F0 m (pc + 3) ls rest)) : W p l e R s m args below meth c H locs cells slots Q (F0 m pc ls (.int v :: .ref (b + i) :: rest)) := by
  obtain ⟨h1, rfl⟩ := pI_some hv
  obtain ⟨k, hk, hg⟩ := cO_at (b := b) (cB := cB) (cI := cI) (cJ := cJ) (cZ := cZ) (cS := cS) (cO := cO) (by decide) h1
  have hset := cW_putF (f := 8) (y := 0) (v := .int v) (cs1 := sI cs 232 i v) (by decide) rfl hD hk rfl rfl rfl rfl rfl rfl (by show Value.int (u2 (kI cs) 232 i v 232 i) = _; rw [u2_s]) (fun z j w hn => by
    have e9 : kI (sI cs 232 i v) z j = kI cs z j := u2_n hn
    match w with
    | 0 => show Value.int (kI (sI cs 232 i v) z j) = Value.int (kI cs z j); rw [e9]
    | 1 => rfl
    | 2 => rfl
    | _ + 3 => rfl)
  refine va_put (D := (dC, dI)) (ci := 7) (v := .int v) (ty := .int) (C := RX6) (T := TX6) (N := 12) hx hb hts (fun w h => List.mem_cons_of_mem _ (uG_X6 w h)) tyX6 tyX6_ok nmX6 hown hK hP hD hS k hg rfl 8 (by decide) (hts _ (List.mem_cons_of_mem _ kw_1077)) (fun _ h9 => h9) rfl (by decide +kernel) rfl rfl (by rw [vL_len]; decide) hdg (fun H1 l1 q1 q2 q3 => ?_)
  rw [hset] at q1 q2
  exact kk H1 l1 q1 q2 q3
theorem fg_X9_255 {p : Program} {l : Launch} {e : Env} {R : Room} {s : State} {m : MethodId} {args : Array Value} {below : List Frame} {meth : Method} {c : Code} {H : Heap} {locs : List Loc} {cells slots : Nat} {Q : State → Prop} {cc : ByteArray} {pc : Nat} {ls : Array Slot} {rest : List Value} {y0 : MethodName} {c0 : ByteArray} {n0 : Nat} {r0 : Option FieldType} {dC : Nat → ClassId} {dI : Nat → Nat → Nat} {cB cI cJ cZ cS cO : ClassId} {b : Nat} {cs : CS} {i : Nat} {v : Int32} (hx : p.tables.exec = Jvm.exec) (hb : c.code = cc) (hts : ∀ w ∈ wsOf y0 c0 n0 r0, w.before args s = true) (hown : s.vm.findClass RX9 = some m.cls) (hK : va_K (dC, dI) vwCl [(cB, .byte), (cI, .int), (cJ, .long), (cZ, .boolean), (cS, .object "StreamQueries$Source"), (cO, .object "java/lang/Object")] s) (hP : va_P (dC, dI) vwCl (cW cB cI cJ cZ cS cO b cs) H) (hv : gI cs 7 233 i = some v) (hdg : decode cc pc = .ok (.getfield 255, 3)) (kk : W p l e R s m args below meth c H locs cells slots Q (F0 m (pc + 3) ls (.int v :: rest))) : W p l e R s m args below meth c H locs cells slots Q (F0 m pc ls (.ref (b + i) :: rest)) := by
  obtain ⟨h1, h2⟩ := gI_some hv
  obtain ⟨k, -, hg⟩ := cO_at (b := b) (cB := cB) (cI := cI) (cJ := cJ) (cZ := cZ) (cS := cS) (cO := cO) (by decide) h1
  have hf : (vL b cs i (32 * 7) (tyX 7))[9]? = some (.int v) := by
    show some (vV b cs 233 i 0) = _
    show some (Value.int (kI cs 233 i)) = _
    rw [h2]
  exact va_get (D := (dC, dI)) (ci := 7) (C := RX6) (T := TX6) (N := 12) hx hb hts (fun w h => List.mem_cons_of_mem _ (uG_X6 w h)) hown hK hP k hg rfl 9 (by decide) (hts _ (List.mem_cons_of_mem _ kw_1081)) (fun _ h9 => h9) hf hdg kk
theorem fp_X9_255 {p : Program} {l : Launch} {e : Env} {R : Room} {s : State} {m : MethodId} {args : Array Value} {below : List Frame} {meth : Method} {c : Code} {H : Heap} {locs : List Loc} {cells slots : Nat} {Q : State → Prop} {cc : ByteArray} {pc : Nat} {ls : Array Slot} {rest : List Value} {y0 : MethodName} {c0 : ByteArray} {n0 : Nat} {r0 : Option FieldType} {dC : Nat → ClassId} {dI : Nat → Nat → Nat} {cB cI cJ cZ cS cO : ClassId} {b : Nat} {cs : CS} {A : Nat → Prop} {H0 : Heap} {cs1 : CS} {i : Nat} {v : Int32} (hx : p.tables.exec = Jvm.exec) (hb : c.code = cc) (hts : ∀ w ∈ wsOf y0 c0 n0 r0, w.before args s = true) (hown : s.vm.findClass RX9 = some m.cls) (hK : va_K (dC, dI) vwCl [(cB, .byte), (cI, .int), (cJ, .long), (cZ, .boolean), (cS, .object "StreamQueries$Source"), (cO, .object "java/lang/Object")] s) (hP : va_P (dC, dI) vwCl (cW cB cI cJ cZ cS cO b cs) H) (hD : va_D A (cW cB cI cJ cZ cS cO b cs)) (hS : va_S A H0 H locs) (hv : pI cs 7 233 i v = some cs1) (hdg : decode cc pc = .ok (.putfield 255, 3)) (kk : ∀ (H1 : Heap) (locs1 : List Loc), va_P (dC, dI) vwCl (cW cB cI cJ cZ cS cO b cs1) H1 → va_D A (cW cB cI cJ cZ cS cO b cs1) → va_S A H0 H1 locs1 → W p l e R s m args below meth c H1 locs1 cells slots Q (F0 m (pc + 3) ls rest)) : W p l e R s m args below meth c H locs cells slots Q (F0 m pc ls (.int v :: .ref (b + i) :: rest)) := by
  obtain ⟨h1, rfl⟩ := pI_some hv
  obtain ⟨k, hk, hg⟩ := cO_at (b := b) (cB := cB) (cI := cI) (cJ := cJ) (cZ := cZ) (cS := cS) (cO := cO) (by decide) h1
  have hset := cW_putF (f := 9) (y := 0) (v := .int v) (cs1 := sI cs 233 i v) (by decide) rfl hD hk rfl rfl rfl rfl rfl rfl (by show Value.int (u2 (kI cs) 233 i v 233 i) = _; rw [u2_s]) (fun z j w hn => by
    have e9 : kI (sI cs 233 i v) z j = kI cs z j := u2_n hn
    match w with
    | 0 => show Value.int (kI (sI cs 233 i v) z j) = Value.int (kI cs z j); rw [e9]
    | 1 => rfl
    | 2 => rfl
    | _ + 3 => rfl)
  refine va_put (D := (dC, dI)) (ci := 7) (v := .int v) (ty := .int) (C := RX6) (T := TX6) (N := 12) hx hb hts (fun w h => List.mem_cons_of_mem _ (uG_X6 w h)) tyX6 tyX6_ok nmX6 hown hK hP hD hS k hg rfl 9 (by decide) (hts _ (List.mem_cons_of_mem _ kw_1081)) (fun _ h9 => h9) rfl (by decide +kernel) rfl rfl (by rw [vL_len]; decide) hdg (fun H1 l1 q1 q2 q3 => ?_)
  rw [hset] at q1 q2
  exact kk H1 l1 q1 q2 q3
theorem fg_X9_258 {p : Program} {l : Launch} {e : Env} {R : Room} {s : State} {m : MethodId} {args : Array Value} {below : List Frame} {meth : Method} {c : Code} {H : Heap} {locs : List Loc} {cells slots : Nat} {Q : State → Prop} {cc : ByteArray} {pc : Nat} {ls : Array Slot} {rest : List Value} {y0 : MethodName} {c0 : ByteArray} {n0 : Nat} {r0 : Option FieldType} {dC : Nat → ClassId} {dI : Nat → Nat → Nat} {cB cI cJ cZ cS cO : ClassId} {b : Nat} {cs : CS} {i : Nat} {v : Int32} (hx : p.tables.exec = Jvm.exec) (hb : c.code = cc) (hts : ∀ w ∈ wsOf y0 c0 n0 r0, w.before args s = true) (hown : s.vm.findClass RX9 = some m.cls) (hK : va_K (dC, dI) vwCl [(cB, .byte), (cI, .int), (cJ, .long), (cZ, .boolean), (cS, .object "StreamQueries$Source"), (cO, .object "java/lang/Object")] s) (hP : va_P (dC, dI) vwCl (cW cB cI cJ cZ cS cO b cs) H) (hv : gI cs 6 196 i = some v) (hdg : decode cc pc = .ok (.getfield 258, 3)) (kk : W p l e R s m args below meth c H locs cells slots Q (F0 m (pc + 3) ls (.int v :: rest))) : W p l e R s m args below meth c H locs cells slots Q (F0 m pc ls (.ref (b + i) :: rest)) := by
  obtain ⟨h1, h2⟩ := gI_some hv
  obtain ⟨k, -, hg⟩ := cO_at (b := b) (cB := cB) (cI := cI) (cJ := cJ) (cZ := cZ) (cS := cS) (cO := cO) (by decide) h1
  have hf : (vL b cs i (32 * 6) (tyX 6))[4]? = some (.int v) := by
    show some (vV b cs 196 i 0) = _
    show some (Value.int (kI cs 196 i)) = _
    rw [h2]
  exact va_get (D := (dC, dI)) (ci := 6) (C := RX5) (T := TX5) (N := 15) hx hb hts (fun w h => List.mem_cons_of_mem _ (uG_X5 w h)) hown hK hP k hg rfl 4 (by decide) (hts _ (List.mem_cons_of_mem _ kw_672)) (fun _ h9 => h9) hf hdg kk
theorem fp_X9_258 {p : Program} {l : Launch} {e : Env} {R : Room} {s : State} {m : MethodId} {args : Array Value} {below : List Frame} {meth : Method} {c : Code} {H : Heap} {locs : List Loc} {cells slots : Nat} {Q : State → Prop} {cc : ByteArray} {pc : Nat} {ls : Array Slot} {rest : List Value} {y0 : MethodName} {c0 : ByteArray} {n0 : Nat} {r0 : Option FieldType} {dC : Nat → ClassId} {dI : Nat → Nat → Nat} {cB cI cJ cZ cS cO : ClassId} {b : Nat} {cs : CS} {A : Nat → Prop} {H0 : Heap} {cs1 : CS} {i : Nat} {v : Int32} (hx : p.tables.exec = Jvm.exec) (hb : c.code = cc) (hts : ∀ w ∈ wsOf y0 c0 n0 r0, w.before args s = true) (hown : s.vm.findClass RX9 = some m.cls) (hK : va_K (dC, dI) vwCl [(cB, .byte), (cI, .int), (cJ, .long), (cZ, .boolean), (cS, .object "StreamQueries$Source"), (cO, .object "java/lang/Object")] s) (hP : va_P (dC, dI) vwCl (cW cB cI cJ cZ cS cO b cs) H) (hD : va_D A (cW cB cI cJ cZ cS cO b cs)) (hS : va_S A H0 H locs) (hv : pI cs 6 196 i v = some cs1) (hdg : decode cc pc = .ok (.putfield 258, 3)) (kk : ∀ (H1 : Heap) (locs1 : List Loc), va_P (dC, dI) vwCl (cW cB cI cJ cZ cS cO b cs1) H1 → va_D A (cW cB cI cJ cZ cS cO b cs1) → va_S A H0 H1 locs1 → W p l e R s m args below meth c H1 locs1 cells slots Q (F0 m (pc + 3) ls rest)) : W p l e R s m args below meth c H locs cells slots Q (F0 m pc ls (.int v :: .ref (b + i) :: rest)) := by
  obtain ⟨h1, rfl⟩ := pI_some hv
  obtain ⟨k, hk, hg⟩ := cO_at (b := b) (cB := cB) (cI := cI) (cJ := cJ) (cZ := cZ) (cS := cS) (cO := cO) (by decide) h1
  have hset := cW_putF (f := 4) (y := 0) (v := .int v) (cs1 := sI cs 196 i v) (by decide) rfl hD hk rfl rfl rfl rfl rfl rfl (by show Value.int (u2 (kI cs) 196 i v 196 i) = _; rw [u2_s]) (fun z j w hn => by
    have e9 : kI (sI cs 196 i v) z j = kI cs z j := u2_n hn
    match w with
    | 0 => show Value.int (kI (sI cs 196 i v) z j) = Value.int (kI cs z j); rw [e9]
    | 1 => rfl
    | 2 => rfl
    | _ + 3 => rfl)
  refine va_put (D := (dC, dI)) (ci := 6) (v := .int v) (ty := .int) (C := RX5) (T := TX5) (N := 15) hx hb hts (fun w h => List.mem_cons_of_mem _ (uG_X5 w h)) tyX5 tyX5_ok nmX5 hown hK hP hD hS k hg rfl 4 (by decide) (hts _ (List.mem_cons_of_mem _ kw_672)) (fun _ h9 => h9) rfl (by decide +kernel) rfl rfl (by rw [vL_len]; decide) hdg (fun H1 l1 q1 q2 q3 => ?_)
  rw [hset] at q1 q2
  exact kk H1 l1 q1 q2 q3
theorem fg_X9_261 {p : Program} {l : Launch} {e : Env} {R : Room} {s : State} {m : MethodId} {args : Array Value} {below : List Frame} {meth : Method} {c : Code} {H : Heap} {locs : List Loc} {cells slots : Nat} {Q : State → Prop} {cc : ByteArray} {pc : Nat} {ls : Array Slot} {rest : List Value} {y0 : MethodName} {c0 : ByteArray} {n0 : Nat} {r0 : Option FieldType} {dC : Nat → ClassId} {dI : Nat → Nat → Nat} {cB cI cJ cZ cS cO : ClassId} {b : Nat} {cs : CS} {i : Nat} {v : Nat} (hx : p.tables.exec = Jvm.exec) (hb : c.code = cc) (hts : ∀ w ∈ wsOf y0 c0 n0 r0, w.before args s = true) (hown : s.vm.findClass RX9 = some m.cls) (hK : va_K (dC, dI) vwCl [(cB, .byte), (cI, .int), (cJ, .long), (cZ, .boolean), (cS, .object "StreamQueries$Source"), (cO, .object "java/lang/Object")] s) (hP : va_P (dC, dI) vwCl (cW cB cI cJ cZ cS cO b cs) H) (hv : gA cs 6 195 i = some v) (hdg : decode cc pc = .ok (.getfield 261, 3)) (kk : W p l e R s m args below meth c H locs cells slots Q (F0 m (pc + 3) ls (.ref (b + v) :: rest))) : W p l e R s m args below meth c H locs cells slots Q (F0 m pc ls (.ref (b + i) :: rest)) := by
  obtain ⟨h1, h2⟩ := gA_some hv
  obtain ⟨k, -, hg⟩ := cO_at (b := b) (cB := cB) (cI := cI) (cJ := cJ) (cZ := cZ) (cS := cS) (cO := cO) (by decide) h1
  have hf : (vL b cs i (32 * 6) (tyX 6))[3]? = some (.ref (b + v)) := by
    show some (vV b cs 195 i 3) = _
    show some (rv b (kP cs 195 i)) = _
    rw [h2]; rfl
  exact va_get (D := (dC, dI)) (ci := 6) (C := RX5) (T := TX5) (N := 15) hx hb hts (fun w h => List.mem_cons_of_mem _ (uG_X5 w h)) hown hK hP k hg rfl 3 (by decide) (hts _ (List.mem_cons_of_mem _ kw_668)) (fun _ h9 => h9) hf hdg kk
theorem fg_X9_265 {p : Program} {l : Launch} {e : Env} {R : Room} {s : State} {m : MethodId} {args : Array Value} {below : List Frame} {meth : Method} {c : Code} {H : Heap} {locs : List Loc} {cells slots : Nat} {Q : State → Prop} {cc : ByteArray} {pc : Nat} {ls : Array Slot} {rest : List Value} {y0 : MethodName} {c0 : ByteArray} {n0 : Nat} {r0 : Option FieldType} {dC : Nat → ClassId} {dI : Nat → Nat → Nat} {cB cI cJ cZ cS cO : ClassId} {b : Nat} {cs : CS} {i : Nat} {v : Int32} (hx : p.tables.exec = Jvm.exec) (hb : c.code = cc) (hts : ∀ w ∈ wsOf y0 c0 n0 r0, w.before args s = true) (hown : s.vm.findClass RX9 = some m.cls) (hK : va_K (dC, dI) vwCl [(cB, .byte), (cI, .int), (cJ, .long), (cZ, .boolean), (cS, .object "StreamQueries$Source"), (cO, .object "java/lang/Object")] s) (hP : va_P (dC, dI) vwCl (cW cB cI cJ cZ cS cO b cs) H) (hv : gI cs 7 226 i = some v) (hdg : decode cc pc = .ok (.getfield 265, 3)) (kk : W p l e R s m args below meth c H locs cells slots Q (F0 m (pc + 3) ls (.int v :: rest))) : W p l e R s m args below meth c H locs cells slots Q (F0 m pc ls (.ref (b + i) :: rest)) := by
  obtain ⟨h1, h2⟩ := gI_some hv
  obtain ⟨k, -, hg⟩ := cO_at (b := b) (cB := cB) (cI := cI) (cJ := cJ) (cZ := cZ) (cS := cS) (cO := cO) (by decide) h1
  have hf : (vL b cs i (32 * 7) (tyX 7))[2]? = some (.int v) := by
    show some (vV b cs 226 i 0) = _
    show some (Value.int (kI cs 226 i)) = _
    rw [h2]
  exact va_get (D := (dC, dI)) (ci := 7) (C := RX6) (T := TX6) (N := 12) hx hb hts (fun w h => List.mem_cons_of_mem _ (uG_X6 w h)) hown hK hP k hg rfl 2 (by decide) (hts _ (List.mem_cons_of_mem _ kw_1062)) (fun _ h9 => h9) hf hdg kk
theorem fp_X9_265 {p : Program} {l : Launch} {e : Env} {R : Room} {s : State} {m : MethodId} {args : Array Value} {below : List Frame} {meth : Method} {c : Code} {H : Heap} {locs : List Loc} {cells slots : Nat} {Q : State → Prop} {cc : ByteArray} {pc : Nat} {ls : Array Slot} {rest : List Value} {y0 : MethodName} {c0 : ByteArray} {n0 : Nat} {r0 : Option FieldType} {dC : Nat → ClassId} {dI : Nat → Nat → Nat} {cB cI cJ cZ cS cO : ClassId} {b : Nat} {cs : CS} {A : Nat → Prop} {H0 : Heap} {cs1 : CS} {i : Nat} {v : Int32} (hx : p.tables.exec = Jvm.exec) (hb : c.code = cc) (hts : ∀ w ∈ wsOf y0 c0 n0 r0, w.before args s = true) (hown : s.vm.findClass RX9 = some m.cls) (hK : va_K (dC, dI) vwCl [(cB, .byte), (cI, .int), (cJ, .long), (cZ, .boolean), (cS, .object "StreamQueries$Source"), (cO, .object "java/lang/Object")] s) (hP : va_P (dC, dI) vwCl (cW cB cI cJ cZ cS cO b cs) H) (hD : va_D A (cW cB cI cJ cZ cS cO b cs)) (hS : va_S A H0 H locs) (hv : pI cs 7 226 i v = some cs1) (hdg : decode cc pc = .ok (.putfield 265, 3)) (kk : ∀ (H1 : Heap) (locs1 : List Loc), va_P (dC, dI) vwCl (cW cB cI cJ cZ cS cO b cs1) H1 → va_D A (cW cB cI cJ cZ cS cO b cs1) → va_S A H0 H1 locs1 → W p l e R s m args below meth c H1 locs1 cells slots Q (F0 m (pc + 3) ls rest)) : W p l e R s m args below meth c H locs cells slots Q (F0 m pc ls (.int v :: .ref (b + i) :: rest)) := by
  obtain ⟨h1, rfl⟩ := pI_some hv
  obtain ⟨k, hk, hg⟩ := cO_at (b := b) (cB := cB) (cI := cI) (cJ := cJ) (cZ := cZ) (cS := cS) (cO := cO) (by decide) h1
  have hset := cW_putF (f := 2) (y := 0) (v := .int v) (cs1 := sI cs 226 i v) (by decide) rfl hD hk rfl rfl rfl rfl rfl rfl (by show Value.int (u2 (kI cs) 226 i v 226 i) = _; rw [u2_s]) (fun z j w hn => by
    have e9 : kI (sI cs 226 i v) z j = kI cs z j := u2_n hn
    match w with
    | 0 => show Value.int (kI (sI cs 226 i v) z j) = Value.int (kI cs z j); rw [e9]
    | 1 => rfl
    | 2 => rfl
    | _ + 3 => rfl)
  refine va_put (D := (dC, dI)) (ci := 7) (v := .int v) (ty := .int) (C := RX6) (T := TX6) (N := 12) hx hb hts (fun w h => List.mem_cons_of_mem _ (uG_X6 w h)) tyX6 tyX6_ok nmX6 hown hK hP hD hS k hg rfl 2 (by decide) (hts _ (List.mem_cons_of_mem _ kw_1062)) (fun _ h9 => h9) rfl (by decide +kernel) rfl rfl (by rw [vL_len]; decide) hdg (fun H1 l1 q1 q2 q3 => ?_)
  rw [hset] at q1 q2
  exact kk H1 l1 q1 q2 q3
theorem fg_X9_269 {p : Program} {l : Launch} {e : Env} {R : Room} {s : State} {m : MethodId} {args : Array Value} {below : List Frame} {meth : Method} {c : Code} {H : Heap} {locs : List Loc} {cells slots : Nat} {Q : State → Prop} {cc : ByteArray} {pc : Nat} {ls : Array Slot} {rest : List Value} {y0 : MethodName} {c0 : ByteArray} {n0 : Nat} {r0 : Option FieldType} {dC : Nat → ClassId} {dI : Nat → Nat → Nat} {cB cI cJ cZ cS cO : ClassId} {b : Nat} {cs : CS} {i : Nat} {v : (Option Nat)} (hx : p.tables.exec = Jvm.exec) (hb : c.code = cc) (hts : ∀ w ∈ wsOf y0 c0 n0 r0, w.before args s = true) (hown : s.vm.findClass RX9 = some m.cls) (hK : va_K (dC, dI) vwCl [(cB, .byte), (cI, .int), (cJ, .long), (cZ, .boolean), (cS, .object "StreamQueries$Source"), (cO, .object "java/lang/Object")] s) (hP : va_P (dC, dI) vwCl (cW cB cI cJ cZ cS cO b cs) H) (hv : gR cs 7 225 i = some v) (hdg : decode cc pc = .ok (.getfield 269, 3)) (kk : W p l e R s m args below meth c H locs cells slots Q (F0 m (pc + 3) ls (rv b v :: rest))) : W p l e R s m args below meth c H locs cells slots Q (F0 m pc ls (.ref (b + i) :: rest)) := by
  obtain ⟨h1, h2⟩ := gR_some hv
  obtain ⟨k, -, hg⟩ := cO_at (b := b) (cB := cB) (cI := cI) (cJ := cJ) (cZ := cZ) (cS := cS) (cO := cO) (by decide) h1
  have hf : (vL b cs i (32 * 7) (tyX 7))[1]? = some (rv b v) := by
    show some (vV b cs 225 i 2) = _
    show some (rv b (kR cs 225 i)) = _
    rw [h2]
  exact va_get (D := (dC, dI)) (ci := 7) (C := RX6) (T := TX6) (N := 12) hx hb hts (fun w h => List.mem_cons_of_mem _ (uG_X6 w h)) hown hK hP k hg rfl 1 (by decide) (hts _ (List.mem_cons_of_mem _ kw_1060)) (fun _ h9 => h9) hf hdg kk
theorem fp_X9_269 {p : Program} {l : Launch} {e : Env} {R : Room} {s : State} {m : MethodId} {args : Array Value} {below : List Frame} {meth : Method} {c : Code} {H : Heap} {locs : List Loc} {cells slots : Nat} {Q : State → Prop} {cc : ByteArray} {pc : Nat} {ls : Array Slot} {rest : List Value} {y0 : MethodName} {c0 : ByteArray} {n0 : Nat} {r0 : Option FieldType} {dC : Nat → ClassId} {dI : Nat → Nat → Nat} {cB cI cJ cZ cS cO : ClassId} {b : Nat} {cs : CS} {A : Nat → Prop} {H0 : Heap} {cs1 : CS} {i : Nat} {v : (Option Nat)} (hx : p.tables.exec = Jvm.exec) (hb : c.code = cc) (hts : ∀ w ∈ wsOf y0 c0 n0 r0, w.before args s = true) (hown : s.vm.findClass RX9 = some m.cls) (hK : va_K (dC, dI) vwCl [(cB, .byte), (cI, .int), (cJ, .long), (cZ, .boolean), (cS, .object "StreamQueries$Source"), (cO, .object "java/lang/Object")] s) (hP : va_P (dC, dI) vwCl (cW cB cI cJ cZ cS cO b cs) H) (hD : va_D A (cW cB cI cJ cZ cS cO b cs)) (hS : va_S A H0 H locs) (hv : pR cs 7 225 i v = some cs1) (hdg : decode cc pc = .ok (.putfield 269, 3)) (kk : ∀ (H1 : Heap) (locs1 : List Loc), va_P (dC, dI) vwCl (cW cB cI cJ cZ cS cO b cs1) H1 → va_D A (cW cB cI cJ cZ cS cO b cs1) → va_S A H0 H1 locs1 → W p l e R s m args below meth c H1 locs1 cells slots Q (F0 m (pc + 3) ls rest)) : W p l e R s m args below meth c H locs cells slots Q (F0 m pc ls (rv b v :: .ref (b + i) :: rest)) := by
  obtain ⟨h1, rfl⟩ := pR_some hv
  obtain ⟨k, hk, hg⟩ := cO_at (b := b) (cB := cB) (cI := cI) (cJ := cJ) (cZ := cZ) (cS := cS) (cO := cO) (by decide) h1
  have hset := cW_putF (f := 1) (y := 2) (v := rv b v) (cs1 := sR cs 225 i v) (by decide) rfl hD hk rfl rfl rfl rfl rfl rfl (by show rv b (u2 (kR cs) 225 i v 225 i) = _; rw [u2_s]) (fun z j w hn => by
    have e9 : kR (sR cs 225 i v) z j = kR cs z j := u2_n hn
    match w with
    | 0 => rfl
    | 1 => rfl
    | 2 => show rv b (kR (sR cs 225 i v) z j) = rv b (kR cs z j); rw [e9]
    | _ + 3 => rfl)
  refine va_put (D := (dC, dI)) (ci := 7) (v := rv b v) (ty := .object "StreamQueries$Query") (C := RX6) (T := TX6) (N := 12) hx hb hts (fun w h => List.mem_cons_of_mem _ (uG_X6 w h)) tyX6 tyX6_ok nmX6 hown hK hP hD hS k hg rfl 1 (by decide) (hts _ (List.mem_cons_of_mem _ kw_1060)) (fun _ h9 => h9) rfl (by decide +kernel) (rv_nar b v _) (rv_fit b v _) (by rw [vL_len]; decide) hdg (fun H1 l1 q1 q2 q3 => ?_)
  rw [hset] at q1 q2
  exact kk H1 l1 q1 q2 q3
theorem fg_X9_272 {p : Program} {l : Launch} {e : Env} {R : Room} {s : State} {m : MethodId} {args : Array Value} {below : List Frame} {meth : Method} {c : Code} {H : Heap} {locs : List Loc} {cells slots : Nat} {Q : State → Prop} {cc : ByteArray} {pc : Nat} {ls : Array Slot} {rest : List Value} {y0 : MethodName} {c0 : ByteArray} {n0 : Nat} {r0 : Option FieldType} {dC : Nat → ClassId} {dI : Nat → Nat → Nat} {cB cI cJ cZ cS cO : ClassId} {b : Nat} {cs : CS} {i : Nat} {v : Int32} (hx : p.tables.exec = Jvm.exec) (hb : c.code = cc) (hts : ∀ w ∈ wsOf y0 c0 n0 r0, w.before args s = true) (hown : s.vm.findClass RX9 = some m.cls) (hK : va_K (dC, dI) vwCl [(cB, .byte), (cI, .int), (cJ, .long), (cZ, .boolean), (cS, .object "StreamQueries$Source"), (cO, .object "java/lang/Object")] s) (hP : va_P (dC, dI) vwCl (cW cB cI cJ cZ cS cO b cs) H) (hv : gI cs 7 227 i = some v) (hdg : decode cc pc = .ok (.getfield 272, 3)) (kk : W p l e R s m args below meth c H locs cells slots Q (F0 m (pc + 3) ls (.int v :: rest))) : W p l e R s m args below meth c H locs cells slots Q (F0 m pc ls (.ref (b + i) :: rest)) := by
  obtain ⟨h1, h2⟩ := gI_some hv
  obtain ⟨k, -, hg⟩ := cO_at (b := b) (cB := cB) (cI := cI) (cJ := cJ) (cZ := cZ) (cS := cS) (cO := cO) (by decide) h1
  have hf : (vL b cs i (32 * 7) (tyX 7))[3]? = some (.int v) := by
    show some (vV b cs 227 i 0) = _
    show some (Value.int (kI cs 227 i)) = _
    rw [h2]
  exact va_get (D := (dC, dI)) (ci := 7) (C := RX6) (T := TX6) (N := 12) hx hb hts (fun w h => List.mem_cons_of_mem _ (uG_X6 w h)) hown hK hP k hg rfl 3 (by decide) (hts _ (List.mem_cons_of_mem _ kw_1064)) (fun _ h9 => h9) hf hdg kk
theorem fp_X9_272 {p : Program} {l : Launch} {e : Env} {R : Room} {s : State} {m : MethodId} {args : Array Value} {below : List Frame} {meth : Method} {c : Code} {H : Heap} {locs : List Loc} {cells slots : Nat} {Q : State → Prop} {cc : ByteArray} {pc : Nat} {ls : Array Slot} {rest : List Value} {y0 : MethodName} {c0 : ByteArray} {n0 : Nat} {r0 : Option FieldType} {dC : Nat → ClassId} {dI : Nat → Nat → Nat} {cB cI cJ cZ cS cO : ClassId} {b : Nat} {cs : CS} {A : Nat → Prop} {H0 : Heap} {cs1 : CS} {i : Nat} {v : Int32} (hx : p.tables.exec = Jvm.exec) (hb : c.code = cc) (hts : ∀ w ∈ wsOf y0 c0 n0 r0, w.before args s = true) (hown : s.vm.findClass RX9 = some m.cls) (hK : va_K (dC, dI) vwCl [(cB, .byte), (cI, .int), (cJ, .long), (cZ, .boolean), (cS, .object "StreamQueries$Source"), (cO, .object "java/lang/Object")] s) (hP : va_P (dC, dI) vwCl (cW cB cI cJ cZ cS cO b cs) H) (hD : va_D A (cW cB cI cJ cZ cS cO b cs)) (hS : va_S A H0 H locs) (hv : pI cs 7 227 i v = some cs1) (hdg : decode cc pc = .ok (.putfield 272, 3)) (kk : ∀ (H1 : Heap) (locs1 : List Loc), va_P (dC, dI) vwCl (cW cB cI cJ cZ cS cO b cs1) H1 → va_D A (cW cB cI cJ cZ cS cO b cs1) → va_S A H0 H1 locs1 → W p l e R s m args below meth c H1 locs1 cells slots Q (F0 m (pc + 3) ls rest)) : W p l e R s m args below meth c H locs cells slots Q (F0 m pc ls (.int v :: .ref (b + i) :: rest)) := by
  obtain ⟨h1, rfl⟩ := pI_some hv
  obtain ⟨k, hk, hg⟩ := cO_at (b := b) (cB := cB) (cI := cI) (cJ := cJ) (cZ := cZ) (cS := cS) (cO := cO) (by decide) h1
  have hset := cW_putF (f := 3) (y := 0) (v := .int v) (cs1 := sI cs 227 i v) (by decide) rfl hD hk rfl rfl rfl rfl rfl rfl (by show Value.int (u2 (kI cs) 227 i v 227 i) = _; rw [u2_s]) (fun z j w hn => by
    have e9 : kI (sI cs 227 i v) z j = kI cs z j := u2_n hn
    match w with
    | 0 => show Value.int (kI (sI cs 227 i v) z j) = Value.int (kI cs z j); rw [e9]
    | 1 => rfl
    | 2 => rfl
    | _ + 3 => rfl)
  refine va_put (D := (dC, dI)) (ci := 7) (v := .int v) (ty := .int) (C := RX6) (T := TX6) (N := 12) hx hb hts (fun w h => List.mem_cons_of_mem _ (uG_X6 w h)) tyX6 tyX6_ok nmX6 hown hK hP hD hS k hg rfl 3 (by decide) (hts _ (List.mem_cons_of_mem _ kw_1064)) (fun _ h9 => h9) rfl (by decide +kernel) rfl rfl (by rw [vL_len]; decide) hdg (fun H1 l1 q1 q2 q3 => ?_)
  rw [hset] at q1 q2
  exact kk H1 l1 q1 q2 q3
theorem fg_X9_275 {p : Program} {l : Launch} {e : Env} {R : Room} {s : State} {m : MethodId} {args : Array Value} {below : List Frame} {meth : Method} {c : Code} {H : Heap} {locs : List Loc} {cells slots : Nat} {Q : State → Prop} {cc : ByteArray} {pc : Nat} {ls : Array Slot} {rest : List Value} {y0 : MethodName} {c0 : ByteArray} {n0 : Nat} {r0 : Option FieldType} {dC : Nat → ClassId} {dI : Nat → Nat → Nat} {cB cI cJ cZ cS cO : ClassId} {b : Nat} {cs : CS} {i : Nat} {v : Int32} (hx : p.tables.exec = Jvm.exec) (hb : c.code = cc) (hts : ∀ w ∈ wsOf y0 c0 n0 r0, w.before args s = true) (hown : s.vm.findClass RX9 = some m.cls) (hK : va_K (dC, dI) vwCl [(cB, .byte), (cI, .int), (cJ, .long), (cZ, .boolean), (cS, .object "StreamQueries$Source"), (cO, .object "java/lang/Object")] s) (hP : va_P (dC, dI) vwCl (cW cB cI cJ cZ cS cO b cs) H) (hv : gI cs 10 329 i = some v) (hdg : decode cc pc = .ok (.getfield 275, 3)) (kk : W p l e R s m args below meth c H locs cells slots Q (F0 m (pc + 3) ls (.int v :: rest))) : W p l e R s m args below meth c H locs cells slots Q (F0 m pc ls (.ref (b + i) :: rest)) := by
  obtain ⟨h1, h2⟩ := gI_some hv
  obtain ⟨k, -, hg⟩ := cO_at (b := b) (cB := cB) (cI := cI) (cJ := cJ) (cZ := cZ) (cS := cS) (cO := cO) (by decide) h1
  have hf : (vL b cs i (32 * 10) (tyX 10))[9]? = some (.int v) := by
    show some (vV b cs 329 i 0) = _
    show some (Value.int (kI cs 329 i)) = _
    rw [h2]
  exact va_get (D := (dC, dI)) (ci := 10) (C := RX9) (T := TX9) (N := 12) hx hb hts (fun w h => List.mem_cons_of_mem _ (uG_X9 w h)) hown hK hP k hg rfl 9 (by decide) (hts _ (List.mem_cons_of_mem _ kw_871)) (fun _ h9 => h9) hf hdg kk
theorem fp_X9_275 {p : Program} {l : Launch} {e : Env} {R : Room} {s : State} {m : MethodId} {args : Array Value} {below : List Frame} {meth : Method} {c : Code} {H : Heap} {locs : List Loc} {cells slots : Nat} {Q : State → Prop} {cc : ByteArray} {pc : Nat} {ls : Array Slot} {rest : List Value} {y0 : MethodName} {c0 : ByteArray} {n0 : Nat} {r0 : Option FieldType} {dC : Nat → ClassId} {dI : Nat → Nat → Nat} {cB cI cJ cZ cS cO : ClassId} {b : Nat} {cs : CS} {A : Nat → Prop} {H0 : Heap} {cs1 : CS} {i : Nat} {v : Int32} (hx : p.tables.exec = Jvm.exec) (hb : c.code = cc) (hts : ∀ w ∈ wsOf y0 c0 n0 r0, w.before args s = true) (hown : s.vm.findClass RX9 = some m.cls) (hK : va_K (dC, dI) vwCl [(cB, .byte), (cI, .int), (cJ, .long), (cZ, .boolean), (cS, .object "StreamQueries$Source"), (cO, .object "java/lang/Object")] s) (hP : va_P (dC, dI) vwCl (cW cB cI cJ cZ cS cO b cs) H) (hD : va_D A (cW cB cI cJ cZ cS cO b cs)) (hS : va_S A H0 H locs) (hv : pI cs 10 329 i v = some cs1) (hdg : decode cc pc = .ok (.putfield 275, 3)) (kk : ∀ (H1 : Heap) (locs1 : List Loc), va_P (dC, dI) vwCl (cW cB cI cJ cZ cS cO b cs1) H1 → va_D A (cW cB cI cJ cZ cS cO b cs1) → va_S A H0 H1 locs1 → W p l e R s m args below meth c H1 locs1 cells slots Q (F0 m (pc + 3) ls rest)) : W p l e R s m args below meth c H locs cells slots Q (F0 m pc ls (.int v :: .ref (b + i) :: rest)) := by
  obtain ⟨h1, rfl⟩ := pI_some hv
  obtain ⟨k, hk, hg⟩ := cO_at (b := b) (cB := cB) (cI := cI) (cJ := cJ) (cZ := cZ) (cS := cS) (cO := cO) (by decide) h1
  have hset := cW_putF (f := 9) (y := 0) (v := .int v) (cs1 := sI cs 329 i v) (by decide) rfl hD hk rfl rfl rfl rfl rfl rfl (by show Value.int (u2 (kI cs) 329 i v 329 i) = _; rw [u2_s]) (fun z j w hn => by
    have e9 : kI (sI cs 329 i v) z j = kI cs z j := u2_n hn
    match w with
    | 0 => show Value.int (kI (sI cs 329 i v) z j) = Value.int (kI cs z j); rw [e9]
    | 1 => rfl
    | 2 => rfl
    | _ + 3 => rfl)
  refine va_put (D := (dC, dI)) (ci := 10) (v := .int v) (ty := .int) (C := RX9) (T := TX9) (N := 12) hx hb hts (fun w h => List.mem_cons_of_mem _ (uG_X9 w h)) tyX9 tyX9_ok nmX9 hown hK hP hD hS k hg rfl 9 (by decide) (hts _ (List.mem_cons_of_mem _ kw_871)) (fun _ h9 => h9) rfl (by decide +kernel) rfl rfl (by rw [vL_len]; decide) hdg (fun H1 l1 q1 q2 q3 => ?_)
  rw [hset] at q1 q2
  exact kk H1 l1 q1 q2 q3
theorem fg_X9_282 {p : Program} {l : Launch} {e : Env} {R : Room} {s : State} {m : MethodId} {args : Array Value} {below : List Frame} {meth : Method} {c : Code} {H : Heap} {locs : List Loc} {cells slots : Nat} {Q : State → Prop} {cc : ByteArray} {pc : Nat} {ls : Array Slot} {rest : List Value} {y0 : MethodName} {c0 : ByteArray} {n0 : Nat} {r0 : Option FieldType} {dC : Nat → ClassId} {dI : Nat → Nat → Nat} {cB cI cJ cZ cS cO : ClassId} {b : Nat} {cs : CS} {i : Nat} {v : Int32} (hx : p.tables.exec = Jvm.exec) (hb : c.code = cc) (hts : ∀ w ∈ wsOf y0 c0 n0 r0, w.before args s = true) (hown : s.vm.findClass RX9 = some m.cls) (hK : va_K (dC, dI) vwCl [(cB, .byte), (cI, .int), (cJ, .long), (cZ, .boolean), (cS, .object "StreamQueries$Source"), (cO, .object "java/lang/Object")] s) (hP : va_P (dC, dI) vwCl (cW cB cI cJ cZ cS cO b cs) H) (hv : gI cs 7 229 i = some v) (hdg : decode cc pc = .ok (.getfield 282, 3)) (kk : W p l e R s m args below meth c H locs cells slots Q (F0 m (pc + 3) ls (.int v :: rest))) : W p l e R s m args below meth c H locs cells slots Q (F0 m pc ls (.ref (b + i) :: rest)) := by
  obtain ⟨h1, h2⟩ := gI_some hv
  obtain ⟨k, -, hg⟩ := cO_at (b := b) (cB := cB) (cI := cI) (cJ := cJ) (cZ := cZ) (cS := cS) (cO := cO) (by decide) h1
  have hf : (vL b cs i (32 * 7) (tyX 7))[5]? = some (.int v) := by
    show some (vV b cs 229 i 0) = _
    show some (Value.int (kI cs 229 i)) = _
    rw [h2]
  exact va_get (D := (dC, dI)) (ci := 7) (C := RX6) (T := TX6) (N := 12) hx hb hts (fun w h => List.mem_cons_of_mem _ (uG_X6 w h)) hown hK hP k hg rfl 5 (by decide) (hts _ (List.mem_cons_of_mem _ kw_1069)) (fun _ h9 => h9) hf hdg kk
theorem fp_X9_282 {p : Program} {l : Launch} {e : Env} {R : Room} {s : State} {m : MethodId} {args : Array Value} {below : List Frame} {meth : Method} {c : Code} {H : Heap} {locs : List Loc} {cells slots : Nat} {Q : State → Prop} {cc : ByteArray} {pc : Nat} {ls : Array Slot} {rest : List Value} {y0 : MethodName} {c0 : ByteArray} {n0 : Nat} {r0 : Option FieldType} {dC : Nat → ClassId} {dI : Nat → Nat → Nat} {cB cI cJ cZ cS cO : ClassId} {b : Nat} {cs : CS} {A : Nat → Prop} {H0 : Heap} {cs1 : CS} {i : Nat} {v : Int32} (hx : p.tables.exec = Jvm.exec) (hb : c.code = cc) (hts : ∀ w ∈ wsOf y0 c0 n0 r0, w.before args s = true) (hown : s.vm.findClass RX9 = some m.cls) (hK : va_K (dC, dI) vwCl [(cB, .byte), (cI, .int), (cJ, .long), (cZ, .boolean), (cS, .object "StreamQueries$Source"), (cO, .object "java/lang/Object")] s) (hP : va_P (dC, dI) vwCl (cW cB cI cJ cZ cS cO b cs) H) (hD : va_D A (cW cB cI cJ cZ cS cO b cs)) (hS : va_S A H0 H locs) (hv : pI cs 7 229 i v = some cs1) (hdg : decode cc pc = .ok (.putfield 282, 3)) (kk : ∀ (H1 : Heap) (locs1 : List Loc), va_P (dC, dI) vwCl (cW cB cI cJ cZ cS cO b cs1) H1 → va_D A (cW cB cI cJ cZ cS cO b cs1) → va_S A H0 H1 locs1 → W p l e R s m args below meth c H1 locs1 cells slots Q (F0 m (pc + 3) ls rest)) : W p l e R s m args below meth c H locs cells slots Q (F0 m pc ls (.int v :: .ref (b + i) :: rest)) := by
  obtain ⟨h1, rfl⟩ := pI_some hv
  obtain ⟨k, hk, hg⟩ := cO_at (b := b) (cB := cB) (cI := cI) (cJ := cJ) (cZ := cZ) (cS := cS) (cO := cO) (by decide) h1
  have hset := cW_putF (f := 5) (y := 0) (v := .int v) (cs1 := sI cs 229 i v) (by decide) rfl hD hk rfl rfl rfl rfl rfl rfl (by show Value.int (u2 (kI cs) 229 i v 229 i) = _; rw [u2_s]) (fun z j w hn => by
    have e9 : kI (sI cs 229 i v) z j = kI cs z j := u2_n hn
    match w with
    | 0 => show Value.int (kI (sI cs 229 i v) z j) = Value.int (kI cs z j); rw [e9]
    | 1 => rfl
    | 2 => rfl
    | _ + 3 => rfl)
  refine va_put (D := (dC, dI)) (ci := 7) (v := .int v) (ty := .int) (C := RX6) (T := TX6) (N := 12) hx hb hts (fun w h => List.mem_cons_of_mem _ (uG_X6 w h)) tyX6 tyX6_ok nmX6 hown hK hP hD hS k hg rfl 5 (by decide) (hts _ (List.mem_cons_of_mem _ kw_1069)) (fun _ h9 => h9) rfl (by decide +kernel) rfl rfl (by rw [vL_len]; decide) hdg (fun H1 l1 q1 q2 q3 => ?_)
  rw [hset] at q1 q2
  exact kk H1 l1 q1 q2 q3
theorem fg_X9_285 {p : Program} {l : Launch} {e : Env} {R : Room} {s : State} {m : MethodId} {args : Array Value} {below : List Frame} {meth : Method} {c : Code} {H : Heap} {locs : List Loc} {cells slots : Nat} {Q : State → Prop} {cc : ByteArray} {pc : Nat} {ls : Array Slot} {rest : List Value} {y0 : MethodName} {c0 : ByteArray} {n0 : Nat} {r0 : Option FieldType} {dC : Nat → ClassId} {dI : Nat → Nat → Nat} {cB cI cJ cZ cS cO : ClassId} {b : Nat} {cs : CS} {i : Nat} {v : Int64} (hx : p.tables.exec = Jvm.exec) (hb : c.code = cc) (hts : ∀ w ∈ wsOf y0 c0 n0 r0, w.before args s = true) (hown : s.vm.findClass RX9 = some m.cls) (hK : va_K (dC, dI) vwCl [(cB, .byte), (cI, .int), (cJ, .long), (cZ, .boolean), (cS, .object "StreamQueries$Source"), (cO, .object "java/lang/Object")] s) (hP : va_P (dC, dI) vwCl (cW cB cI cJ cZ cS cO b cs) H) (hv : gJ cs 7 228 i = some v) (hdg : decode cc pc = .ok (.getfield 285, 3)) (kk : W p l e R s m args below meth c H locs cells slots Q (F0 m (pc + 3) ls (.long v :: rest))) : W p l e R s m args below meth c H locs cells slots Q (F0 m pc ls (.ref (b + i) :: rest)) := by
  obtain ⟨h1, h2⟩ := gJ_some hv
  obtain ⟨k, -, hg⟩ := cO_at (b := b) (cB := cB) (cI := cI) (cJ := cJ) (cZ := cZ) (cS := cS) (cO := cO) (by decide) h1
  have hf : (vL b cs i (32 * 7) (tyX 7))[4]? = some (.long v) := by
    show some (vV b cs 228 i 1) = _
    show some (Value.long (kJ cs 228 i)) = _
    rw [h2]
  exact va_get (D := (dC, dI)) (ci := 7) (C := RX6) (T := TX6) (N := 12) hx hb hts (fun w h => List.mem_cons_of_mem _ (uG_X6 w h)) hown hK hP k hg rfl 4 (by decide) (hts _ (List.mem_cons_of_mem _ kw_1067)) (fun _ h9 => h9) hf hdg kk
theorem fp_X9_285 {p : Program} {l : Launch} {e : Env} {R : Room} {s : State} {m : MethodId} {args : Array Value} {below : List Frame} {meth : Method} {c : Code} {H : Heap} {locs : List Loc} {cells slots : Nat} {Q : State → Prop} {cc : ByteArray} {pc : Nat} {ls : Array Slot} {rest : List Value} {y0 : MethodName} {c0 : ByteArray} {n0 : Nat} {r0 : Option FieldType} {dC : Nat → ClassId} {dI : Nat → Nat → Nat} {cB cI cJ cZ cS cO : ClassId} {b : Nat} {cs : CS} {A : Nat → Prop} {H0 : Heap} {cs1 : CS} {i : Nat} {v : Int64} (hx : p.tables.exec = Jvm.exec) (hb : c.code = cc) (hts : ∀ w ∈ wsOf y0 c0 n0 r0, w.before args s = true) (hown : s.vm.findClass RX9 = some m.cls) (hK : va_K (dC, dI) vwCl [(cB, .byte), (cI, .int), (cJ, .long), (cZ, .boolean), (cS, .object "StreamQueries$Source"), (cO, .object "java/lang/Object")] s) (hP : va_P (dC, dI) vwCl (cW cB cI cJ cZ cS cO b cs) H) (hD : va_D A (cW cB cI cJ cZ cS cO b cs)) (hS : va_S A H0 H locs) (hv : pJ cs 7 228 i v = some cs1) (hdg : decode cc pc = .ok (.putfield 285, 3)) (kk : ∀ (H1 : Heap) (locs1 : List Loc), va_P (dC, dI) vwCl (cW cB cI cJ cZ cS cO b cs1) H1 → va_D A (cW cB cI cJ cZ cS cO b cs1) → va_S A H0 H1 locs1 → W p l e R s m args below meth c H1 locs1 cells slots Q (F0 m (pc + 3) ls rest)) : W p l e R s m args below meth c H locs cells slots Q (F0 m pc ls (.long v :: .ref (b + i) :: rest)) := by
  obtain ⟨h1, rfl⟩ := pJ_some hv
  obtain ⟨k, hk, hg⟩ := cO_at (b := b) (cB := cB) (cI := cI) (cJ := cJ) (cZ := cZ) (cS := cS) (cO := cO) (by decide) h1
  have hset := cW_putF (f := 4) (y := 1) (v := .long v) (cs1 := sJ cs 228 i v) (by decide) rfl hD hk rfl rfl rfl rfl rfl rfl (by show Value.long (u2 (kJ cs) 228 i v 228 i) = _; rw [u2_s]) (fun z j w hn => by
    have e9 : kJ (sJ cs 228 i v) z j = kJ cs z j := u2_n hn
    match w with
    | 0 => rfl
    | 1 => show Value.long (kJ (sJ cs 228 i v) z j) = Value.long (kJ cs z j); rw [e9]
    | 2 => rfl
    | _ + 3 => rfl)
  refine va_put (D := (dC, dI)) (ci := 7) (v := .long v) (ty := .long) (C := RX6) (T := TX6) (N := 12) hx hb hts (fun w h => List.mem_cons_of_mem _ (uG_X6 w h)) tyX6 tyX6_ok nmX6 hown hK hP hD hS k hg rfl 4 (by decide) (hts _ (List.mem_cons_of_mem _ kw_1067)) (fun _ h9 => h9) rfl (by decide +kernel) rfl rfl (by rw [vL_len]; decide) hdg (fun H1 l1 q1 q2 q3 => ?_)
  rw [hset] at q1 q2
  exact kk H1 l1 q1 q2 q3
theorem fg_X9_296 {p : Program} {l : Launch} {e : Env} {R : Room} {s : State} {m : MethodId} {args : Array Value} {below : List Frame} {meth : Method} {c : Code} {H : Heap} {locs : List Loc} {cells slots : Nat} {Q : State → Prop} {cc : ByteArray} {pc : Nat} {ls : Array Slot} {rest : List Value} {y0 : MethodName} {c0 : ByteArray} {n0 : Nat} {r0 : Option FieldType} {dC : Nat → ClassId} {dI : Nat → Nat → Nat} {cB cI cJ cZ cS cO : ClassId} {b : Nat} {cs : CS} {i : Nat} {v : Int32} (hx : p.tables.exec = Jvm.exec) (hb : c.code = cc) (hts : ∀ w ∈ wsOf y0 c0 n0 r0, w.before args s = true) (hown : s.vm.findClass RX9 = some m.cls) (hK : va_K (dC, dI) vwCl [(cB, .byte), (cI, .int), (cJ, .long), (cZ, .boolean), (cS, .object "StreamQueries$Source"), (cO, .object "java/lang/Object")] s) (hP : va_P (dC, dI) vwCl (cW cB cI cJ cZ cS cO b cs) H) (hv : gI cs 2 64 i = some v) (hdg : decode cc pc = .ok (.getfield 296, 3)) (kk : W p l e R s m args below meth c H locs cells slots Q (F0 m (pc + 3) ls (.int v :: rest))) : W p l e R s m args below meth c H locs cells slots Q (F0 m pc ls (.ref (b + i) :: rest)) := by
  obtain ⟨h1, h2⟩ := gI_some hv
  obtain ⟨k, -, hg⟩ := cO_at (b := b) (cB := cB) (cI := cI) (cJ := cJ) (cZ := cZ) (cS := cS) (cO := cO) (by decide) h1
  have hf : (vL b cs i (32 * 2) (tyX 2))[0]? = some (.int v) := by
    show some (vV b cs 64 i 0) = _
    show some (Value.int (kI cs 64 i)) = _
    rw [h2]
  exact va_get (D := (dC, dI)) (ci := 2) (C := RX1) (T := TX1) (N := 13) hx hb hts (fun w h => List.mem_cons_of_mem _ (uG_X1 w h)) hown hK hP k hg rfl 0 (by decide) (hts _ (List.mem_cons_of_mem _ kw_373)) (fun _ h9 => h9) hf hdg kk
theorem fp_X9_296 {p : Program} {l : Launch} {e : Env} {R : Room} {s : State} {m : MethodId} {args : Array Value} {below : List Frame} {meth : Method} {c : Code} {H : Heap} {locs : List Loc} {cells slots : Nat} {Q : State → Prop} {cc : ByteArray} {pc : Nat} {ls : Array Slot} {rest : List Value} {y0 : MethodName} {c0 : ByteArray} {n0 : Nat} {r0 : Option FieldType} {dC : Nat → ClassId} {dI : Nat → Nat → Nat} {cB cI cJ cZ cS cO : ClassId} {b : Nat} {cs : CS} {A : Nat → Prop} {H0 : Heap} {cs1 : CS} {i : Nat} {v : Int32} (hx : p.tables.exec = Jvm.exec) (hb : c.code = cc) (hts : ∀ w ∈ wsOf y0 c0 n0 r0, w.before args s = true) (hown : s.vm.findClass RX9 = some m.cls) (hK : va_K (dC, dI) vwCl [(cB, .byte), (cI, .int), (cJ, .long), (cZ, .boolean), (cS, .object "StreamQueries$Source"), (cO, .object "java/lang/Object")] s) (hP : va_P (dC, dI) vwCl (cW cB cI cJ cZ cS cO b cs) H) (hD : va_D A (cW cB cI cJ cZ cS cO b cs)) (hS : va_S A H0 H locs) (hv : pI cs 2 64 i v = some cs1) (hdg : decode cc pc = .ok (.putfield 296, 3)) (kk : ∀ (H1 : Heap) (locs1 : List Loc), va_P (dC, dI) vwCl (cW cB cI cJ cZ cS cO b cs1) H1 → va_D A (cW cB cI cJ cZ cS cO b cs1) → va_S A H0 H1 locs1 → W p l e R s m args below meth c H1 locs1 cells slots Q (F0 m (pc + 3) ls rest)) : W p l e R s m args below meth c H locs cells slots Q (F0 m pc ls (.int v :: .ref (b + i) :: rest)) := by
  obtain ⟨h1, rfl⟩ := pI_some hv
  obtain ⟨k, hk, hg⟩ := cO_at (b := b) (cB := cB) (cI := cI) (cJ := cJ) (cZ := cZ) (cS := cS) (cO := cO) (by decide) h1
  have hset := cW_putF (f := 0) (y := 0) (v := .int v) (cs1 := sI cs 64 i v) (by decide) rfl hD hk rfl rfl rfl rfl rfl rfl (by show Value.int (u2 (kI cs) 64 i v 64 i) = _; rw [u2_s]) (fun z j w hn => by
    have e9 : kI (sI cs 64 i v) z j = kI cs z j := u2_n hn
    match w with
    | 0 => show Value.int (kI (sI cs 64 i v) z j) = Value.int (kI cs z j); rw [e9]
    | 1 => rfl
    | 2 => rfl
    | _ + 3 => rfl)
  refine va_put (D := (dC, dI)) (ci := 2) (v := .int v) (ty := .int) (C := RX1) (T := TX1) (N := 13) hx hb hts (fun w h => List.mem_cons_of_mem _ (uG_X1 w h)) tyX1 tyX1_ok nmX1 hown hK hP hD hS k hg rfl 0 (by decide) (hts _ (List.mem_cons_of_mem _ kw_373)) (fun _ h9 => h9) rfl (by decide +kernel) rfl rfl (by rw [vL_len]; decide) hdg (fun H1 l1 q1 q2 q3 => ?_)
  rw [hset] at q1 q2
  exact kk H1 l1 q1 q2 q3
theorem fg_X9_346 {p : Program} {l : Launch} {e : Env} {R : Room} {s : State} {m : MethodId} {args : Array Value} {below : List Frame} {meth : Method} {c : Code} {H : Heap} {locs : List Loc} {cells slots : Nat} {Q : State → Prop} {cc : ByteArray} {pc : Nat} {ls : Array Slot} {rest : List Value} {y0 : MethodName} {c0 : ByteArray} {n0 : Nat} {r0 : Option FieldType} {dC : Nat → ClassId} {dI : Nat → Nat → Nat} {cB cI cJ cZ cS cO : ClassId} {b : Nat} {cs : CS} {i : Nat} {v : Nat} (hx : p.tables.exec = Jvm.exec) (hb : c.code = cc) (hts : ∀ w ∈ wsOf y0 c0 n0 r0, w.before args s = true) (hown : s.vm.findClass RX9 = some m.cls) (hK : va_K (dC, dI) vwCl [(cB, .byte), (cI, .int), (cJ, .long), (cZ, .boolean), (cS, .object "StreamQueries$Source"), (cO, .object "java/lang/Object")] s) (hP : va_P (dC, dI) vwCl (cW cB cI cJ cZ cS cO b cs) H) (hv : gA cs 2 70 i = some v) (hdg : decode cc pc = .ok (.getfield 346, 3)) (kk : W p l e R s m args below meth c H locs cells slots Q (F0 m (pc + 3) ls (.ref (b + v) :: rest))) : W p l e R s m args below meth c H locs cells slots Q (F0 m pc ls (.ref (b + i) :: rest)) := by
  obtain ⟨h1, h2⟩ := gA_some hv
  obtain ⟨k, -, hg⟩ := cO_at (b := b) (cB := cB) (cI := cI) (cJ := cJ) (cZ := cZ) (cS := cS) (cO := cO) (by decide) h1
  have hf : (vL b cs i (32 * 2) (tyX 2))[6]? = some (.ref (b + v)) := by
    show some (vV b cs 70 i 3) = _
    show some (rv b (kP cs 70 i)) = _
    rw [h2]; rfl
  exact va_get (D := (dC, dI)) (ci := 2) (C := RX1) (T := TX1) (N := 13) hx hb hts (fun w h => List.mem_cons_of_mem _ (uG_X1 w h)) hown hK hP k hg rfl 6 (by decide) (hts _ (List.mem_cons_of_mem _ kw_390)) (fun _ h9 => h9) hf hdg kk
theorem fg_X9_349 {p : Program} {l : Launch} {e : Env} {R : Room} {s : State} {m : MethodId} {args : Array Value} {below : List Frame} {meth : Method} {c : Code} {H : Heap} {locs : List Loc} {cells slots : Nat} {Q : State → Prop} {cc : ByteArray} {pc : Nat} {ls : Array Slot} {rest : List Value} {y0 : MethodName} {c0 : ByteArray} {n0 : Nat} {r0 : Option FieldType} {dC : Nat → ClassId} {dI : Nat → Nat → Nat} {cB cI cJ cZ cS cO : ClassId} {b : Nat} {cs : CS} {i : Nat} {v : Int32} (hx : p.tables.exec = Jvm.exec) (hb : c.code = cc) (hts : ∀ w ∈ wsOf y0 c0 n0 r0, w.before args s = true) (hown : s.vm.findClass RX9 = some m.cls) (hK : va_K (dC, dI) vwCl [(cB, .byte), (cI, .int), (cJ, .long), (cZ, .boolean), (cS, .object "StreamQueries$Source"), (cO, .object "java/lang/Object")] s) (hP : va_P (dC, dI) vwCl (cW cB cI cJ cZ cS cO b cs) H) (hv : gI cs 6 203 i = some v) (hdg : decode cc pc = .ok (.getfield 349, 3)) (kk : W p l e R s m args below meth c H locs cells slots Q (F0 m (pc + 3) ls (.int v :: rest))) : W p l e R s m args below meth c H locs cells slots Q (F0 m pc ls (.ref (b + i) :: rest)) := by
  obtain ⟨h1, h2⟩ := gI_some hv
  obtain ⟨k, -, hg⟩ := cO_at (b := b) (cB := cB) (cI := cI) (cJ := cJ) (cZ := cZ) (cS := cS) (cO := cO) (by decide) h1
  have hf : (vL b cs i (32 * 6) (tyX 6))[11]? = some (.int v) := by
    show some (vV b cs 203 i 0) = _
    show some (Value.int (kI cs 203 i)) = _
    rw [h2]
  exact va_get (D := (dC, dI)) (ci := 6) (C := RX5) (T := TX5) (N := 15) hx hb hts (fun w h => List.mem_cons_of_mem _ (uG_X5 w h)) hown hK hP k hg rfl 11 (by decide) (hts _ (List.mem_cons_of_mem _ kw_697)) (fun _ h9 => h9) hf hdg kk
theorem fp_X9_349 {p : Program} {l : Launch} {e : Env} {R : Room} {s : State} {m : MethodId} {args : Array Value} {below : List Frame} {meth : Method} {c : Code} {H : Heap} {locs : List Loc} {cells slots : Nat} {Q : State → Prop} {cc : ByteArray} {pc : Nat} {ls : Array Slot} {rest : List Value} {y0 : MethodName} {c0 : ByteArray} {n0 : Nat} {r0 : Option FieldType} {dC : Nat → ClassId} {dI : Nat → Nat → Nat} {cB cI cJ cZ cS cO : ClassId} {b : Nat} {cs : CS} {A : Nat → Prop} {H0 : Heap} {cs1 : CS} {i : Nat} {v : Int32} (hx : p.tables.exec = Jvm.exec) (hb : c.code = cc) (hts : ∀ w ∈ wsOf y0 c0 n0 r0, w.before args s = true) (hown : s.vm.findClass RX9 = some m.cls) (hK : va_K (dC, dI) vwCl [(cB, .byte), (cI, .int), (cJ, .long), (cZ, .boolean), (cS, .object "StreamQueries$Source"), (cO, .object "java/lang/Object")] s) (hP : va_P (dC, dI) vwCl (cW cB cI cJ cZ cS cO b cs) H) (hD : va_D A (cW cB cI cJ cZ cS cO b cs)) (hS : va_S A H0 H locs) (hv : pI cs 6 203 i v = some cs1) (hdg : decode cc pc = .ok (.putfield 349, 3)) (kk : ∀ (H1 : Heap) (locs1 : List Loc), va_P (dC, dI) vwCl (cW cB cI cJ cZ cS cO b cs1) H1 → va_D A (cW cB cI cJ cZ cS cO b cs1) → va_S A H0 H1 locs1 → W p l e R s m args below meth c H1 locs1 cells slots Q (F0 m (pc + 3) ls rest)) : W p l e R s m args below meth c H locs cells slots Q (F0 m pc ls (.int v :: .ref (b + i) :: rest)) := by
  obtain ⟨h1, rfl⟩ := pI_some hv
  obtain ⟨k, hk, hg⟩ := cO_at (b := b) (cB := cB) (cI := cI) (cJ := cJ) (cZ := cZ) (cS := cS) (cO := cO) (by decide) h1
  have hset := cW_putF (f := 11) (y := 0) (v := .int v) (cs1 := sI cs 203 i v) (by decide) rfl hD hk rfl rfl rfl rfl rfl rfl (by show Value.int (u2 (kI cs) 203 i v 203 i) = _; rw [u2_s]) (fun z j w hn => by
    have e9 : kI (sI cs 203 i v) z j = kI cs z j := u2_n hn
    match w with
    | 0 => show Value.int (kI (sI cs 203 i v) z j) = Value.int (kI cs z j); rw [e9]
    | 1 => rfl
    | 2 => rfl
    | _ + 3 => rfl)
  refine va_put (D := (dC, dI)) (ci := 6) (v := .int v) (ty := .int) (C := RX5) (T := TX5) (N := 15) hx hb hts (fun w h => List.mem_cons_of_mem _ (uG_X5 w h)) tyX5 tyX5_ok nmX5 hown hK hP hD hS k hg rfl 11 (by decide) (hts _ (List.mem_cons_of_mem _ kw_697)) (fun _ h9 => h9) rfl (by decide +kernel) rfl rfl (by rw [vL_len]; decide) hdg (fun H1 l1 q1 q2 q3 => ?_)
  rw [hset] at q1 q2
  exact kk H1 l1 q1 q2 q3
theorem fg_X9_356 {p : Program} {l : Launch} {e : Env} {R : Room} {s : State} {m : MethodId} {args : Array Value} {below : List Frame} {meth : Method} {c : Code} {H : Heap} {locs : List Loc} {cells slots : Nat} {Q : State → Prop} {cc : ByteArray} {pc : Nat} {ls : Array Slot} {rest : List Value} {y0 : MethodName} {c0 : ByteArray} {n0 : Nat} {r0 : Option FieldType} {dC : Nat → ClassId} {dI : Nat → Nat → Nat} {cB cI cJ cZ cS cO : ClassId} {b : Nat} {cs : CS} {i : Nat} {v : Nat} (hx : p.tables.exec = Jvm.exec) (hb : c.code = cc) (hts : ∀ w ∈ wsOf y0 c0 n0 r0, w.before args s = true) (hown : s.vm.findClass RX9 = some m.cls) (hK : va_K (dC, dI) vwCl [(cB, .byte), (cI, .int), (cJ, .long), (cZ, .boolean), (cS, .object "StreamQueries$Source"), (cO, .object "java/lang/Object")] s) (hP : va_P (dC, dI) vwCl (cW cB cI cJ cZ cS cO b cs) H) (hv : gA cs 6 202 i = some v) (hdg : decode cc pc = .ok (.getfield 356, 3)) (kk : W p l e R s m args below meth c H locs cells slots Q (F0 m (pc + 3) ls (.ref (b + v) :: rest))) : W p l e R s m args below meth c H locs cells slots Q (F0 m pc ls (.ref (b + i) :: rest)) := by
  obtain ⟨h1, h2⟩ := gA_some hv
  obtain ⟨k, -, hg⟩ := cO_at (b := b) (cB := cB) (cI := cI) (cJ := cJ) (cZ := cZ) (cS := cS) (cO := cO) (by decide) h1
  have hf : (vL b cs i (32 * 6) (tyX 6))[10]? = some (.ref (b + v)) := by
    show some (vV b cs 202 i 3) = _
    show some (rv b (kP cs 202 i)) = _
    rw [h2]; rfl
  exact va_get (D := (dC, dI)) (ci := 6) (C := RX5) (T := TX5) (N := 15) hx hb hts (fun w h => List.mem_cons_of_mem _ (uG_X5 w h)) hown hK hP k hg rfl 10 (by decide) (hts _ (List.mem_cons_of_mem _ kw_693)) (fun _ h9 => h9) hf hdg kk
theorem fg_X9_359 {p : Program} {l : Launch} {e : Env} {R : Room} {s : State} {m : MethodId} {args : Array Value} {below : List Frame} {meth : Method} {c : Code} {H : Heap} {locs : List Loc} {cells slots : Nat} {Q : State → Prop} {cc : ByteArray} {pc : Nat} {ls : Array Slot} {rest : List Value} {y0 : MethodName} {c0 : ByteArray} {n0 : Nat} {r0 : Option FieldType} {dC : Nat → ClassId} {dI : Nat → Nat → Nat} {cB cI cJ cZ cS cO : ClassId} {b : Nat} {cs : CS} {i : Nat} {v : Nat} (hx : p.tables.exec = Jvm.exec) (hb : c.code = cc) (hts : ∀ w ∈ wsOf y0 c0 n0 r0, w.before args s = true) (hown : s.vm.findClass RX9 = some m.cls) (hK : va_K (dC, dI) vwCl [(cB, .byte), (cI, .int), (cJ, .long), (cZ, .boolean), (cS, .object "StreamQueries$Source"), (cO, .object "java/lang/Object")] s) (hP : va_P (dC, dI) vwCl (cW cB cI cJ cZ cS cO b cs) H) (hv : gA cs 2 71 i = some v) (hdg : decode cc pc = .ok (.getfield 359, 3)) (kk : W p l e R s m args below meth c H locs cells slots Q (F0 m (pc + 3) ls (.ref (b + v) :: rest))) : W p l e R s m args below meth c H locs cells slots Q (F0 m pc ls (.ref (b + i) :: rest)) := by
  obtain ⟨h1, h2⟩ := gA_some hv
  obtain ⟨k, -, hg⟩ := cO_at (b := b) (cB := cB) (cI := cI) (cJ := cJ) (cZ := cZ) (cS := cS) (cO := cO) (by decide) h1
  have hf : (vL b cs i (32 * 2) (tyX 2))[7]? = some (.ref (b + v)) := by
    show some (vV b cs 71 i 3) = _
    show some (rv b (kP cs 71 i)) = _
    rw [h2]; rfl
  exact va_get (D := (dC, dI)) (ci := 2) (C := RX1) (T := TX1) (N := 13) hx hb hts (fun w h => List.mem_cons_of_mem _ (uG_X1 w h)) hown hK hP k hg rfl 7 (by decide) (hts _ (List.mem_cons_of_mem _ kw_393)) (fun _ h9 => h9) hf hdg kk
theorem fg_X10_9 {p : Program} {l : Launch} {e : Env} {R : Room} {s : State} {m : MethodId} {args : Array Value} {below : List Frame} {meth : Method} {c : Code} {H : Heap} {locs : List Loc} {cells slots : Nat} {Q : State → Prop} {cc : ByteArray} {pc : Nat} {ls : Array Slot} {rest : List Value} {y0 : MethodName} {c0 : ByteArray} {n0 : Nat} {r0 : Option FieldType} {dC : Nat → ClassId} {dI : Nat → Nat → Nat} {cB cI cJ cZ cS cO : ClassId} {b : Nat} {cs : CS} {i : Nat} {v : Nat} (hx : p.tables.exec = Jvm.exec) (hb : c.code = cc) (hts : ∀ w ∈ wsOf y0 c0 n0 r0, w.before args s = true) (hown : s.vm.findClass RX10 = some m.cls) (hK : va_K (dC, dI) vwCl [(cB, .byte), (cI, .int), (cJ, .long), (cZ, .boolean), (cS, .object "StreamQueries$Source"), (cO, .object "java/lang/Object")] s) (hP : va_P (dC, dI) vwCl (cW cB cI cJ cZ cS cO b cs) H) (hv : gA cs 11 352 i = some v) (hdg : decode cc pc = .ok (.getfield 9, 3)) (kk : W p l e R s m args below meth c H locs cells slots Q (F0 m (pc + 3) ls (.ref (b + v) :: rest))) : W p l e R s m args below meth c H locs cells slots Q (F0 m pc ls (.ref (b + i) :: rest)) := by
  obtain ⟨h1, h2⟩ := gA_some hv
  obtain ⟨k, -, hg⟩ := cO_at (b := b) (cB := cB) (cI := cI) (cJ := cJ) (cZ := cZ) (cS := cS) (cO := cO) (by decide) h1
  have hf : (vL b cs i (32 * 11) (tyX 11))[0]? = some (.ref (b + v)) := by
    show some (vV b cs 352 i 3) = _
    show some (rv b (kP cs 352 i)) = _
    rw [h2]; rfl
  exact va_get (D := (dC, dI)) (ci := 11) (C := RX10) (T := TX10) (N := 7) hx hb hts (fun w h => List.mem_cons_of_mem _ (uG_X10 w h)) hown hK hP k hg rfl 0 (by decide) (hts _ (List.mem_cons_of_mem _ kw_318)) (fun _ h9 => h9) hf hdg kk
theorem fg_X10_15 {p : Program} {l : Launch} {e : Env} {R : Room} {s : State} {m : MethodId} {args : Array Value} {below : List Frame} {meth : Method} {c : Code} {H : Heap} {locs : List Loc} {cells slots : Nat} {Q : State → Prop} {cc : ByteArray} {pc : Nat} {ls : Array Slot} {rest : List Value} {y0 : MethodName} {c0 : ByteArray} {n0 : Nat} {r0 : Option FieldType} {dC : Nat → ClassId} {dI : Nat → Nat → Nat} {cB cI cJ cZ cS cO : ClassId} {b : Nat} {cs : CS} {i : Nat} {v : Nat} (hx : p.tables.exec = Jvm.exec) (hb : c.code = cc) (hts : ∀ w ∈ wsOf y0 c0 n0 r0, w.before args s = true) (hown : s.vm.findClass RX10 = some m.cls) (hK : va_K (dC, dI) vwCl [(cB, .byte), (cI, .int), (cJ, .long), (cZ, .boolean), (cS, .object "StreamQueries$Source"), (cO, .object "java/lang/Object")] s) (hP : va_P (dC, dI) vwCl (cW cB cI cJ cZ cS cO b cs) H) (hv : gA cs 11 353 i = some v) (hdg : decode cc pc = .ok (.getfield 15, 3)) (kk : W p l e R s m args below meth c H locs cells slots Q (F0 m (pc + 3) ls (.ref (b + v) :: rest))) : W p l e R s m args below meth c H locs cells slots Q (F0 m pc ls (.ref (b + i) :: rest)) := by
  obtain ⟨h1, h2⟩ := gA_some hv
  obtain ⟨k, -, hg⟩ := cO_at (b := b) (cB := cB) (cI := cI) (cJ := cJ) (cZ := cZ) (cS := cS) (cO := cO) (by decide) h1
  have hf : (vL b cs i (32 * 11) (tyX 11))[1]? = some (.ref (b + v)) := by
    show some (vV b cs 353 i 3) = _
    show some (rv b (kP cs 353 i)) = _
    rw [h2]; rfl
  exact va_get (D := (dC, dI)) (ci := 11) (C := RX10) (T := TX10) (N := 7) hx hb hts (fun w h => List.mem_cons_of_mem _ (uG_X10 w h)) hown hK hP k hg rfl 1 (by decide) (hts _ (List.mem_cons_of_mem _ kw_320)) (fun _ h9 => h9) hf hdg kk
theorem fg_X10_18 {p : Program} {l : Launch} {e : Env} {R : Room} {s : State} {m : MethodId} {args : Array Value} {below : List Frame} {meth : Method} {c : Code} {H : Heap} {locs : List Loc} {cells slots : Nat} {Q : State → Prop} {cc : ByteArray} {pc : Nat} {ls : Array Slot} {rest : List Value} {y0 : MethodName} {c0 : ByteArray} {n0 : Nat} {r0 : Option FieldType} {dC : Nat → ClassId} {dI : Nat → Nat → Nat} {cB cI cJ cZ cS cO : ClassId} {b : Nat} {cs : CS} {i : Nat} {v : Nat} (hx : p.tables.exec = Jvm.exec) (hb : c.code = cc) (hts : ∀ w ∈ wsOf y0 c0 n0 r0, w.before args s = true) (hown : s.vm.findClass RX10 = some m.cls) (hK : va_K (dC, dI) vwCl [(cB, .byte), (cI, .int), (cJ, .long), (cZ, .boolean), (cS, .object "StreamQueries$Source"), (cO, .object "java/lang/Object")] s) (hP : va_P (dC, dI) vwCl (cW cB cI cJ cZ cS cO b cs) H) (hv : gA cs 11 354 i = some v) (hdg : decode cc pc = .ok (.getfield 18, 3)) (kk : W p l e R s m args below meth c H locs cells slots Q (F0 m (pc + 3) ls (.ref (b + v) :: rest))) : W p l e R s m args below meth c H locs cells slots Q (F0 m pc ls (.ref (b + i) :: rest)) := by
  obtain ⟨h1, h2⟩ := gA_some hv
  obtain ⟨k, -, hg⟩ := cO_at (b := b) (cB := cB) (cI := cI) (cJ := cJ) (cZ := cZ) (cS := cS) (cO := cO) (by decide) h1
  have hf : (vL b cs i (32 * 11) (tyX 11))[2]? = some (.ref (b + v)) := by
    show some (vV b cs 354 i 3) = _
    show some (rv b (kP cs 354 i)) = _
    rw [h2]; rfl
  exact va_get (D := (dC, dI)) (ci := 11) (C := RX10) (T := TX10) (N := 7) hx hb hts (fun w h => List.mem_cons_of_mem _ (uG_X10 w h)) hown hK hP k hg rfl 2 (by decide) (hts _ (List.mem_cons_of_mem _ kw_322)) (fun _ h9 => h9) hf hdg kk
theorem fg_X10_22 {p : Program} {l : Launch} {e : Env} {R : Room} {s : State} {m : MethodId} {args : Array Value} {below : List Frame} {meth : Method} {c : Code} {H : Heap} {locs : List Loc} {cells slots : Nat} {Q : State → Prop} {cc : ByteArray} {pc : Nat} {ls : Array Slot} {rest : List Value} {y0 : MethodName} {c0 : ByteArray} {n0 : Nat} {r0 : Option FieldType} {dC : Nat → ClassId} {dI : Nat → Nat → Nat} {cB cI cJ cZ cS cO : ClassId} {b : Nat} {cs : CS} {i : Nat} {v : Nat} (hx : p.tables.exec = Jvm.exec) (hb : c.code = cc) (hts : ∀ w ∈ wsOf y0 c0 n0 r0, w.before args s = true) (hown : s.vm.findClass RX10 = some m.cls) (hK : va_K (dC, dI) vwCl [(cB, .byte), (cI, .int), (cJ, .long), (cZ, .boolean), (cS, .object "StreamQueries$Source"), (cO, .object "java/lang/Object")] s) (hP : va_P (dC, dI) vwCl (cW cB cI cJ cZ cS cO b cs) H) (hv : gA cs 11 355 i = some v) (hdg : decode cc pc = .ok (.getfield 22, 3)) (kk : W p l e R s m args below meth c H locs cells slots Q (F0 m (pc + 3) ls (.ref (b + v) :: rest))) : W p l e R s m args below meth c H locs cells slots Q (F0 m pc ls (.ref (b + i) :: rest)) := by
  obtain ⟨h1, h2⟩ := gA_some hv
  obtain ⟨k, -, hg⟩ := cO_at (b := b) (cB := cB) (cI := cI) (cJ := cJ) (cZ := cZ) (cS := cS) (cO := cO) (by decide) h1
  have hf : (vL b cs i (32 * 11) (tyX 11))[3]? = some (.ref (b + v)) := by
    show some (vV b cs 355 i 3) = _
    show some (rv b (kP cs 355 i)) = _
    rw [h2]; rfl
  exact va_get (D := (dC, dI)) (ci := 11) (C := RX10) (T := TX10) (N := 7) hx hb hts (fun w h => List.mem_cons_of_mem _ (uG_X10 w h)) hown hK hP k hg rfl 3 (by decide) (hts _ (List.mem_cons_of_mem _ kw_324)) (fun _ h9 => h9) hf hdg kk
theorem fg_X10_26 {p : Program} {l : Launch} {e : Env} {R : Room} {s : State} {m : MethodId} {args : Array Value} {below : List Frame} {meth : Method} {c : Code} {H : Heap} {locs : List Loc} {cells slots : Nat} {Q : State → Prop} {cc : ByteArray} {pc : Nat} {ls : Array Slot} {rest : List Value} {y0 : MethodName} {c0 : ByteArray} {n0 : Nat} {r0 : Option FieldType} {dC : Nat → ClassId} {dI : Nat → Nat → Nat} {cB cI cJ cZ cS cO : ClassId} {b : Nat} {cs : CS} {i : Nat} {v : Nat} (hx : p.tables.exec = Jvm.exec) (hb : c.code = cc) (hts : ∀ w ∈ wsOf y0 c0 n0 r0, w.before args s = true) (hown : s.vm.findClass RX10 = some m.cls) (hK : va_K (dC, dI) vwCl [(cB, .byte), (cI, .int), (cJ, .long), (cZ, .boolean), (cS, .object "StreamQueries$Source"), (cO, .object "java/lang/Object")] s) (hP : va_P (dC, dI) vwCl (cW cB cI cJ cZ cS cO b cs) H) (hv : gA cs 11 358 i = some v) (hdg : decode cc pc = .ok (.getfield 26, 3)) (kk : W p l e R s m args below meth c H locs cells slots Q (F0 m (pc + 3) ls (.ref (b + v) :: rest))) : W p l e R s m args below meth c H locs cells slots Q (F0 m pc ls (.ref (b + i) :: rest)) := by
  obtain ⟨h1, h2⟩ := gA_some hv
  obtain ⟨k, -, hg⟩ := cO_at (b := b) (cB := cB) (cI := cI) (cJ := cJ) (cZ := cZ) (cS := cS) (cO := cO) (by decide) h1
  have hf : (vL b cs i (32 * 11) (tyX 11))[6]? = some (.ref (b + v)) := by
    show some (vV b cs 358 i 3) = _
    show some (rv b (kP cs 358 i)) = _
    rw [h2]; rfl
  exact va_get (D := (dC, dI)) (ci := 11) (C := RX10) (T := TX10) (N := 7) hx hb hts (fun w h => List.mem_cons_of_mem _ (uG_X10 w h)) hown hK hP k hg rfl 6 (by decide) (hts _ (List.mem_cons_of_mem _ kw_327)) (fun _ h9 => h9) hf hdg kk
theorem fg_X10_53 {p : Program} {l : Launch} {e : Env} {R : Room} {s : State} {m : MethodId} {args : Array Value} {below : List Frame} {meth : Method} {c : Code} {H : Heap} {locs : List Loc} {cells slots : Nat} {Q : State → Prop} {cc : ByteArray} {pc : Nat} {ls : Array Slot} {rest : List Value} {y0 : MethodName} {c0 : ByteArray} {n0 : Nat} {r0 : Option FieldType} {dC : Nat → ClassId} {dI : Nat → Nat → Nat} {cB cI cJ cZ cS cO : ClassId} {b : Nat} {cs : CS} {i : Nat} {v : Int32} (hx : p.tables.exec = Jvm.exec) (hb : c.code = cc) (hts : ∀ w ∈ wsOf y0 c0 n0 r0, w.before args s = true) (hown : s.vm.findClass RX10 = some m.cls) (hK : va_K (dC, dI) vwCl [(cB, .byte), (cI, .int), (cJ, .long), (cZ, .boolean), (cS, .object "StreamQueries$Source"), (cO, .object "java/lang/Object")] s) (hP : va_P (dC, dI) vwCl (cW cB cI cJ cZ cS cO b cs) H) (hv : gI cs 11 356 i = some v) (hdg : decode cc pc = .ok (.getfield 53, 3)) (kk : W p l e R s m args below meth c H locs cells slots Q (F0 m (pc + 3) ls (.int v :: rest))) : W p l e R s m args below meth c H locs cells slots Q (F0 m pc ls (.ref (b + i) :: rest)) := by
  obtain ⟨h1, h2⟩ := gI_some hv
  obtain ⟨k, -, hg⟩ := cO_at (b := b) (cB := cB) (cI := cI) (cJ := cJ) (cZ := cZ) (cS := cS) (cO := cO) (by decide) h1
  have hf : (vL b cs i (32 * 11) (tyX 11))[4]? = some (.int v) := by
    show some (vV b cs 356 i 0) = _
    show some (Value.int (kI cs 356 i)) = _
    rw [h2]
  exact va_get (D := (dC, dI)) (ci := 11) (C := RX10) (T := TX10) (N := 7) hx hb hts (fun w h => List.mem_cons_of_mem _ (uG_X10 w h)) hown hK hP k hg rfl 4 (by decide) (hts _ (List.mem_cons_of_mem _ kw_325)) (fun _ h9 => h9) hf hdg kk
theorem fp_X10_53 {p : Program} {l : Launch} {e : Env} {R : Room} {s : State} {m : MethodId} {args : Array Value} {below : List Frame} {meth : Method} {c : Code} {H : Heap} {locs : List Loc} {cells slots : Nat} {Q : State → Prop} {cc : ByteArray} {pc : Nat} {ls : Array Slot} {rest : List Value} {y0 : MethodName} {c0 : ByteArray} {n0 : Nat} {r0 : Option FieldType} {dC : Nat → ClassId} {dI : Nat → Nat → Nat} {cB cI cJ cZ cS cO : ClassId} {b : Nat} {cs : CS} {A : Nat → Prop} {H0 : Heap} {cs1 : CS} {i : Nat} {v : Int32} (hx : p.tables.exec = Jvm.exec) (hb : c.code = cc) (hts : ∀ w ∈ wsOf y0 c0 n0 r0, w.before args s = true) (hown : s.vm.findClass RX10 = some m.cls) (hK : va_K (dC, dI) vwCl [(cB, .byte), (cI, .int), (cJ, .long), (cZ, .boolean), (cS, .object "StreamQueries$Source"), (cO, .object "java/lang/Object")] s) (hP : va_P (dC, dI) vwCl (cW cB cI cJ cZ cS cO b cs) H) (hD : va_D A (cW cB cI cJ cZ cS cO b cs)) (hS : va_S A H0 H locs) (hv : pI cs 11 356 i v = some cs1) (hdg : decode cc pc = .ok (.putfield 53, 3)) (kk : ∀ (H1 : Heap) (locs1 : List Loc), va_P (dC, dI) vwCl (cW cB cI cJ cZ cS cO b cs1) H1 → va_D A (cW cB cI cJ cZ cS cO b cs1) → va_S A H0 H1 locs1 → W p l e R s m args below meth c H1 locs1 cells slots Q (F0 m (pc + 3) ls rest)) : W p l e R s m args below meth c H locs cells slots Q (F0 m pc ls (.int v :: .ref (b + i) :: rest)) := by
  obtain ⟨h1, rfl⟩ := pI_some hv
  obtain ⟨k, hk, hg⟩ := cO_at (b := b) (cB := cB) (cI := cI) (cJ := cJ) (cZ := cZ) (cS := cS) (cO := cO) (by decide) h1
  have hset := cW_putF (f := 4) (y := 0) (v := .int v) (cs1 := sI cs 356 i v) (by decide) rfl hD hk rfl rfl rfl rfl rfl rfl (by show Value.int (u2 (kI cs) 356 i v 356 i) = _; rw [u2_s]) (fun z j w hn => by
    have e9 : kI (sI cs 356 i v) z j = kI cs z j := u2_n hn
    match w with
    | 0 => show Value.int (kI (sI cs 356 i v) z j) = Value.int (kI cs z j); rw [e9]
    | 1 => rfl
    | 2 => rfl
    | _ + 3 => rfl)
  refine va_put (D := (dC, dI)) (ci := 11) (v := .int v) (ty := .int) (C := RX10) (T := TX10) (N := 7) hx hb hts (fun w h => List.mem_cons_of_mem _ (uG_X10 w h)) tyX10 tyX10_ok nmX10 hown hK hP hD hS k hg rfl 4 (by decide) (hts _ (List.mem_cons_of_mem _ kw_325)) (fun _ h9 => h9) rfl (by decide +kernel) rfl rfl (by rw [vL_len]; decide) hdg (fun H1 l1 q1 q2 q3 => ?_)
  rw [hset] at q1 q2
  exact kk H1 l1 q1 q2 q3
theorem fg_X10_57 {p : Program} {l : Launch} {e : Env} {R : Room} {s : State} {m : MethodId} {args : Array Value} {below : List Frame} {meth : Method} {c : Code} {H : Heap} {locs : List Loc} {cells slots : Nat} {Q : State → Prop} {cc : ByteArray} {pc : Nat} {ls : Array Slot} {rest : List Value} {y0 : MethodName} {c0 : ByteArray} {n0 : Nat} {r0 : Option FieldType} {dC : Nat → ClassId} {dI : Nat → Nat → Nat} {cB cI cJ cZ cS cO : ClassId} {b : Nat} {cs : CS} {i : Nat} {v : Int32} (hx : p.tables.exec = Jvm.exec) (hb : c.code = cc) (hts : ∀ w ∈ wsOf y0 c0 n0 r0, w.before args s = true) (hown : s.vm.findClass RX10 = some m.cls) (hK : va_K (dC, dI) vwCl [(cB, .byte), (cI, .int), (cJ, .long), (cZ, .boolean), (cS, .object "StreamQueries$Source"), (cO, .object "java/lang/Object")] s) (hP : va_P (dC, dI) vwCl (cW cB cI cJ cZ cS cO b cs) H) (hv : gI cs 11 357 i = some v) (hdg : decode cc pc = .ok (.getfield 57, 3)) (kk : W p l e R s m args below meth c H locs cells slots Q (F0 m (pc + 3) ls (.int v :: rest))) : W p l e R s m args below meth c H locs cells slots Q (F0 m pc ls (.ref (b + i) :: rest)) := by
  obtain ⟨h1, h2⟩ := gI_some hv
  obtain ⟨k, -, hg⟩ := cO_at (b := b) (cB := cB) (cI := cI) (cJ := cJ) (cZ := cZ) (cS := cS) (cO := cO) (by decide) h1
  have hf : (vL b cs i (32 * 11) (tyX 11))[5]? = some (.int v) := by
    show some (vV b cs 357 i 0) = _
    show some (Value.int (kI cs 357 i)) = _
    rw [h2]
  exact va_get (D := (dC, dI)) (ci := 11) (C := RX10) (T := TX10) (N := 7) hx hb hts (fun w h => List.mem_cons_of_mem _ (uG_X10 w h)) hown hK hP k hg rfl 5 (by decide) (hts _ (List.mem_cons_of_mem _ kw_326)) (fun _ h9 => h9) hf hdg kk
theorem fp_X10_57 {p : Program} {l : Launch} {e : Env} {R : Room} {s : State} {m : MethodId} {args : Array Value} {below : List Frame} {meth : Method} {c : Code} {H : Heap} {locs : List Loc} {cells slots : Nat} {Q : State → Prop} {cc : ByteArray} {pc : Nat} {ls : Array Slot} {rest : List Value} {y0 : MethodName} {c0 : ByteArray} {n0 : Nat} {r0 : Option FieldType} {dC : Nat → ClassId} {dI : Nat → Nat → Nat} {cB cI cJ cZ cS cO : ClassId} {b : Nat} {cs : CS} {A : Nat → Prop} {H0 : Heap} {cs1 : CS} {i : Nat} {v : Int32} (hx : p.tables.exec = Jvm.exec) (hb : c.code = cc) (hts : ∀ w ∈ wsOf y0 c0 n0 r0, w.before args s = true) (hown : s.vm.findClass RX10 = some m.cls) (hK : va_K (dC, dI) vwCl [(cB, .byte), (cI, .int), (cJ, .long), (cZ, .boolean), (cS, .object "StreamQueries$Source"), (cO, .object "java/lang/Object")] s) (hP : va_P (dC, dI) vwCl (cW cB cI cJ cZ cS cO b cs) H) (hD : va_D A (cW cB cI cJ cZ cS cO b cs)) (hS : va_S A H0 H locs) (hv : pI cs 11 357 i v = some cs1) (hdg : decode cc pc = .ok (.putfield 57, 3)) (kk : ∀ (H1 : Heap) (locs1 : List Loc), va_P (dC, dI) vwCl (cW cB cI cJ cZ cS cO b cs1) H1 → va_D A (cW cB cI cJ cZ cS cO b cs1) → va_S A H0 H1 locs1 → W p l e R s m args below meth c H1 locs1 cells slots Q (F0 m (pc + 3) ls rest)) : W p l e R s m args below meth c H locs cells slots Q (F0 m pc ls (.int v :: .ref (b + i) :: rest)) := by
  obtain ⟨h1, rfl⟩ := pI_some hv
  obtain ⟨k, hk, hg⟩ := cO_at (b := b) (cB := cB) (cI := cI) (cJ := cJ) (cZ := cZ) (cS := cS) (cO := cO) (by decide) h1
  have hset := cW_putF (f := 5) (y := 0) (v := .int v) (cs1 := sI cs 357 i v) (by decide) rfl hD hk rfl rfl rfl rfl rfl rfl (by show Value.int (u2 (kI cs) 357 i v 357 i) = _; rw [u2_s]) (fun z j w hn => by
    have e9 : kI (sI cs 357 i v) z j = kI cs z j := u2_n hn
    match w with
    | 0 => show Value.int (kI (sI cs 357 i v) z j) = Value.int (kI cs z j); rw [e9]
    | 1 => rfl
    | 2 => rfl
    | _ + 3 => rfl)
  refine va_put (D := (dC, dI)) (ci := 11) (v := .int v) (ty := .int) (C := RX10) (T := TX10) (N := 7) hx hb hts (fun w h => List.mem_cons_of_mem _ (uG_X10 w h)) tyX10 tyX10_ok nmX10 hown hK hP hD hS k hg rfl 5 (by decide) (hts _ (List.mem_cons_of_mem _ kw_326)) (fun _ h9 => h9) rfl (by decide +kernel) rfl rfl (by rw [vL_len]; decide) hdg (fun H1 l1 q1 q2 q3 => ?_)
  rw [hset] at q1 q2
  exact kk H1 l1 q1 q2 q3
theorem fg_Jx4a65c_9 {p : Program} {l : Launch} {e : Env} {R : Room} {s : State} {m : MethodId} {args : Array Value} {below : List Frame} {meth : Method} {c : Code} {H : Heap} {locs : List Loc} {cells slots : Nat} {Q : State → Prop} {cc : ByteArray} {pc : Nat} {ls : Array Slot} {rest : List Value} {y0 : MethodName} {c0 : ByteArray} {n0 : Nat} {r0 : Option FieldType} {dC : Nat → ClassId} {dI : Nat → Nat → Nat} {cB cI cJ cZ cS cO : ClassId} {b : Nat} {cs : CS} {i : Nat} {v : Nat} (hx : p.tables.exec = Jvm.exec) (hb : c.code = cc) (hts : ∀ w ∈ wsOf y0 c0 n0 r0, w.before args s = true) (hown : s.vm.findClass RJx4a65c = some m.cls) (hK : va_K (dC, dI) vwCl [(cB, .byte), (cI, .int), (cJ, .long), (cZ, .boolean), (cS, .object "StreamQueries$Source"), (cO, .object "java/lang/Object")] s) (hP : va_P (dC, dI) vwCl (cW cB cI cJ cZ cS cO b cs) H) (hv : gA cs 0 1 i = some v) (hdg : decode cc pc = .ok (.getfield 9, 3)) (kk : W p l e R s m args below meth c H locs cells slots Q (F0 m (pc + 3) ls (.ref (b + v) :: rest))) : W p l e R s m args below meth c H locs cells slots Q (F0 m pc ls (.ref (b + i) :: rest)) := by
  obtain ⟨h1, h2⟩ := gA_some hv
  obtain ⟨k, -, hg⟩ := cO_at (b := b) (cB := cB) (cI := cI) (cJ := cJ) (cZ := cZ) (cS := cS) (cO := cO) (by decide) h1
  have hf : (vL b cs i (32 * 0) (tyX 0))[1]? = some (.ref (b + v)) := by
    show some (vV b cs 1 i 3) = _
    show some (rv b (kP cs 1 i)) = _
    rw [h2]; rfl
  exact va_get (D := (dC, dI)) (ci := 0) (C := RJx4a65c) (T := TJx4a65c) (N := 3) hx hb hts (fun w h => List.mem_cons_of_mem _ (uG_Jx4a65c w h)) hown hK hP k hg rfl 1 (by decide) (hts _ (List.mem_cons_of_mem _ kw_754)) (fun _ h9 => h9) hf hdg kk
theorem fg_Jx4a65c_48 {p : Program} {l : Launch} {e : Env} {R : Room} {s : State} {m : MethodId} {args : Array Value} {below : List Frame} {meth : Method} {c : Code} {H : Heap} {locs : List Loc} {cells slots : Nat} {Q : State → Prop} {cc : ByteArray} {pc : Nat} {ls : Array Slot} {rest : List Value} {y0 : MethodName} {c0 : ByteArray} {n0 : Nat} {r0 : Option FieldType} {dC : Nat → ClassId} {dI : Nat → Nat → Nat} {cB cI cJ cZ cS cO : ClassId} {b : Nat} {cs : CS} {i : Nat} {v : Int32} (hx : p.tables.exec = Jvm.exec) (hb : c.code = cc) (hts : ∀ w ∈ wsOf y0 c0 n0 r0, w.before args s = true) (hown : s.vm.findClass RJx4a65c = some m.cls) (hK : va_K (dC, dI) vwCl [(cB, .byte), (cI, .int), (cJ, .long), (cZ, .boolean), (cS, .object "StreamQueries$Source"), (cO, .object "java/lang/Object")] s) (hP : va_P (dC, dI) vwCl (cW cB cI cJ cZ cS cO b cs) H) (hv : gI cs 0 2 i = some v) (hdg : decode cc pc = .ok (.getfield 48, 3)) (kk : W p l e R s m args below meth c H locs cells slots Q (F0 m (pc + 3) ls (.int v :: rest))) : W p l e R s m args below meth c H locs cells slots Q (F0 m pc ls (.ref (b + i) :: rest)) := by
  obtain ⟨h1, h2⟩ := gI_some hv
  obtain ⟨k, -, hg⟩ := cO_at (b := b) (cB := cB) (cI := cI) (cJ := cJ) (cZ := cZ) (cS := cS) (cO := cO) (by decide) h1
  have hf : (vL b cs i (32 * 0) (tyX 0))[2]? = some (.int v) := by
    show some (vV b cs 2 i 0) = _
    show some (Value.int (kI cs 2 i)) = _
    rw [h2]
  exact va_get (D := (dC, dI)) (ci := 0) (C := RJx4a65c) (T := TJx4a65c) (N := 3) hx hb hts (fun w h => List.mem_cons_of_mem _ (uG_Jx4a65c w h)) hown hK hP k hg rfl 2 (by decide) (hts _ (List.mem_cons_of_mem _ kw_755)) (fun _ h9 => h9) hf hdg kk
theorem fp_Jx4a65c_48 {p : Program} {l : Launch} {e : Env} {R : Room} {s : State} {m : MethodId} {args : Array Value} {below : List Frame} {meth : Method} {c : Code} {H : Heap} {locs : List Loc} {cells slots : Nat} {Q : State → Prop} {cc : ByteArray} {pc : Nat} {ls : Array Slot} {rest : List Value} {y0 : MethodName} {c0 : ByteArray} {n0 : Nat} {r0 : Option FieldType} {dC : Nat → ClassId} {dI : Nat → Nat → Nat} {cB cI cJ cZ cS cO : ClassId} {b : Nat} {cs : CS} {A : Nat → Prop} {H0 : Heap} {cs1 : CS} {i : Nat} {v : Int32} (hx : p.tables.exec = Jvm.exec) (hb : c.code = cc) (hts : ∀ w ∈ wsOf y0 c0 n0 r0, w.before args s = true) (hown : s.vm.findClass RJx4a65c = some m.cls) (hK : va_K (dC, dI) vwCl [(cB, .byte), (cI, .int), (cJ, .long), (cZ, .boolean), (cS, .object "StreamQueries$Source"), (cO, .object "java/lang/Object")] s) (hP : va_P (dC, dI) vwCl (cW cB cI cJ cZ cS cO b cs) H) (hD : va_D A (cW cB cI cJ cZ cS cO b cs)) (hS : va_S A H0 H locs) (hv : pI cs 0 2 i v = some cs1) (hdg : decode cc pc = .ok (.putfield 48, 3)) (kk : ∀ (H1 : Heap) (locs1 : List Loc), va_P (dC, dI) vwCl (cW cB cI cJ cZ cS cO b cs1) H1 → va_D A (cW cB cI cJ cZ cS cO b cs1) → va_S A H0 H1 locs1 → W p l e R s m args below meth c H1 locs1 cells slots Q (F0 m (pc + 3) ls rest)) : W p l e R s m args below meth c H locs cells slots Q (F0 m pc ls (.int v :: .ref (b + i) :: rest)) := by
  obtain ⟨h1, rfl⟩ := pI_some hv
  obtain ⟨k, hk, hg⟩ := cO_at (b := b) (cB := cB) (cI := cI) (cJ := cJ) (cZ := cZ) (cS := cS) (cO := cO) (by decide) h1
  have hset := cW_putF (f := 2) (y := 0) (v := .int v) (cs1 := sI cs 2 i v) (by decide) rfl hD hk rfl rfl rfl rfl rfl rfl (by show Value.int (u2 (kI cs) 2 i v 2 i) = _; rw [u2_s]) (fun z j w hn => by
    have e9 : kI (sI cs 2 i v) z j = kI cs z j := u2_n hn
    match w with
    | 0 => show Value.int (kI (sI cs 2 i v) z j) = Value.int (kI cs z j); rw [e9]
    | 1 => rfl
    | 2 => rfl
    | _ + 3 => rfl)
  refine va_put (D := (dC, dI)) (ci := 0) (v := .int v) (ty := .int) (C := RJx4a65c) (T := TJx4a65c) (N := 3) hx hb hts (fun w h => List.mem_cons_of_mem _ (uG_Jx4a65c w h)) tyJx4a65c tyJx4a65c_ok nmJx4a65c hown hK hP hD hS k hg rfl 2 (by decide) (hts _ (List.mem_cons_of_mem _ kw_755)) (fun _ h9 => h9) rfl (by decide +kernel) rfl rfl (by rw [vL_len]; decide) hdg (fun H1 l1 q1 q2 q3 => ?_)
  rw [hset] at q1 q2
  exact kk H1 l1 q1 q2 q3

/-! references that may be null -/
theorem rv_cat (b : Nat) (r : Option Nat) : (rv b r).category = 1 := by cases r <;> rfl
theorem rv_rf (b : Nat) (r : Option Nat) : va_rf (r.map (fun z => b + z)) = rv b r := by cases r <;> rfl
theorem rv_isr (b : Nat) (r : Option Nat) : rv b r = .null ∨ ∃ a, rv b r = .ref a := by cases r with | none => exact Or.inl rfl | some i => exact Or.inr ⟨_, rfl⟩
theorem rv_nar (b : Nat) (r : Option Nat) (C : String) : narrow (.object C) (rv b r) = rv b r := by cases r <;> rfl
theorem rv_fit (b : Nat) (r : Option Nat) (C : String) : fits (.object C) (rv b r) = true := by cases r <;> rfl
theorem oc_n {α β : Type} {x : β} {f : α → β} : oc none x f = x := rfl
theorem oc_s {α β : Type} {i : α} {x : β} {f : α → β} : oc (some i) x f = f i := rfl
theorem lv_aload_nO {p : Program} {l : Launch} {e : Env} {R : Room} {s : State} {m : MethodId} {args : Array Value} {below : List Frame} {meth : Method} {c : Code} {H : Heap} {locs : List Loc} {cells slots : Nat} {Q : State → Prop} {cc : ByteArray} {pc : Nat} {ls : Array Slot} {rest : List Value} {b : Nat} {r : Option Nat} {k : Fin 4} {i : Nat} (hx : p.tables.exec = Jvm.exec) (hb : c.code = cc) (hdg : decode cc pc = .ok (.aload_n k, 1)) (hi : (k : Nat) = i) (hl : ls[i]? = some (.val (rv b r))) (kk : W p l e R s m args below meth c H locs cells slots Q (F0 m (pc + 1) ls (rv b r :: rest))) : W p l e R s m args below meth c H locs cells slots Q (F0 m pc ls rest) := by
  cases r with
  | none => exact lv_aload_nN hx hb hdg hi hl kk
  | some j => exact lv_aload_n hx hb hdg hi hl kk
theorem lv_aloadO {p : Program} {l : Launch} {e : Env} {R : Room} {s : State} {m : MethodId} {args : Array Value} {below : List Frame} {meth : Method} {c : Code} {H : Heap} {locs : List Loc} {cells slots : Nat} {Q : State → Prop} {cc : ByteArray} {pc : Nat} {ls : Array Slot} {rest : List Value} {b : Nat} {r : Option Nat} {i : Nat} (hx : p.tables.exec = Jvm.exec) (hb : c.code = cc) (hdg : decode cc pc = .ok (.aload i, 2)) (hl : ls[i]? = some (.val (rv b r))) (kk : W p l e R s m args below meth c H locs cells slots Q (F0 m (pc + 2) ls (rv b r :: rest))) : W p l e R s m args below meth c H locs cells slots Q (F0 m pc ls rest) := by
  cases r with
  | none => exact lv_aloadN hx hb hdg hl kk
  | some j => exact lv_aload hx hb hdg hl kk
theorem lv_astore_nO {p : Program} {l : Launch} {e : Env} {R : Room} {s : State} {m : MethodId} {args : Array Value} {below : List Frame} {meth : Method} {c : Code} {H : Heap} {locs : List Loc} {cells slots : Nat} {Q : State → Prop} {cc : ByteArray} {pc : Nat} {ls : Array Slot} {rest : List Value} {b : Nat} {r : Option Nat} {k : Fin 4} {i nL : Nat} {lv lv' : List (Nat × Value)} (hx : p.tables.exec = Jvm.exec) (hb : c.code = cc) (hdg : decode cc pc = .ok (.astore_n k, 1)) (hi : (k : Nat) = i) (h : lv_has ls nL lv) (hn : i < nL) (hl : (i, rv b r) :: lv.filter (fun q => !(q.1 == i) && !(q.1 + 1 == i && q.2.category == 2)) = lv') (kk : ∀ ls' : Array Slot, lv_has ls' nL lv' → W p l e R s m args below meth c H locs cells slots Q (F0 m (pc + 1) ls' rest)) : W p l e R s m args below meth c H locs cells slots Q (F0 m pc ls (rv b r :: rest)) := by
  cases r with
  | none => exact lv_astore_nN hx hb hdg hi h hn hl kk
  | some j => exact lv_astore_n hx hb hdg hi h hn hl kk
theorem lv_astoreO {p : Program} {l : Launch} {e : Env} {R : Room} {s : State} {m : MethodId} {args : Array Value} {below : List Frame} {meth : Method} {c : Code} {H : Heap} {locs : List Loc} {cells slots : Nat} {Q : State → Prop} {cc : ByteArray} {pc : Nat} {ls : Array Slot} {rest : List Value} {b : Nat} {r : Option Nat} {i nL : Nat} {lv lv' : List (Nat × Value)} (hx : p.tables.exec = Jvm.exec) (hb : c.code = cc) (hdg : decode cc pc = .ok (.astore i, 2)) (h : lv_has ls nL lv) (hn : i < nL) (hl : (i, rv b r) :: lv.filter (fun q => !(q.1 == i) && !(q.1 + 1 == i && q.2.category == 2)) = lv') (kk : ∀ ls' : Array Slot, lv_has ls' nL lv' → W p l e R s m args below meth c H locs cells slots Q (F0 m (pc + 2) ls' rest)) : W p l e R s m args below meth c H locs cells slots Q (F0 m pc ls (rv b r :: rest)) := by
  cases r with
  | none => exact lv_astoreN hx hb hdg h hn hl kk
  | some j => exact lv_astore hx hb hdg h hn hl kk
theorem cO_at {cB cI cJ cZ cS cO : ClassId} {b : Nat} {cs : CS} {X i : Nat} (hX : X < 32) (h : (X, i) ∈ kE cs) : ∃ k : Nat, (kE cs)[k]? = some (X, i) ∧ (cW cB cI cJ cZ cS cO b cs)[k]? = some (b + i, .inr (X, vL b cs i (32 * X) (tyX X))) := by
  obtain ⟨k, h1, h2⟩ := cW_get (b := b) (cB := cB) (cI := cI) (cJ := cJ) (cZ := cZ) (cS := cS) (cO := cO) h
  refine ⟨k, h1, h2.trans ?_⟩
  rw [show aC b cs (X, i) = b + i from if_pos hX, show eC cB cI cJ cZ cS cO b cs (X, i) = .inr (X, vL b cs i (32 * X) (tyX X)) from if_pos hX]
theorem cA_at {cB cI cJ cZ cS cO : ClassId} {b : Nat} {cs : CS} {t i j : Nat} (h : (32 + t, i) ∈ kE cs) (hr : kP cs t i = some j) : ∃ k : Nat, (kE cs)[k]? = some (32 + t, i) ∧ (cW cB cI cJ cZ cS cO b cs)[k]? = some (b + j, eA cB cI cJ cZ cS cO b cs t i (aty t)) := by
  obtain ⟨k, h1, h2⟩ := cW_get (b := b) (cB := cB) (cI := cI) (cJ := cJ) (cZ := cZ) (cS := cS) (cO := cO) h
  refine ⟨k, h1, h2.trans ?_⟩
  have e1 : aC b cs (32 + t, i) = b + j := by
    unfold aC
    rw [if_neg (show ¬ (32 + t < 32) by omega)]
    show b + (kP cs (32 + t - 32) i).getD 0 = b + j
    rw [show 32 + t - 32 = t by omega, hr]; rfl
  have e2 : eC cB cI cJ cZ cS cO b cs (32 + t, i) = eA cB cI cJ cZ cS cO b cs t i (aty t) := by
    unfold eC
    rw [if_neg (show ¬ (32 + t < 32) by omega)]
    show eA cB cI cJ cZ cS cO b cs (32 + t - 32) i (aty (32 + t - 32)) = _
    rw [show 32 + t - 32 = t by omega]
  rw [e1, e2]
theorem ald0 {p : Program} {l : Launch} {e : Env} {R : Room} {s : State} {m : MethodId} {args : Array Value} {below : List Frame} {meth : Method} {c : Code} {H : Heap} {locs : List Loc} {cells slots : Nat} {Q : State → Prop} {cc : ByteArray} {pc : Nat} {ls : Array Slot} {rest : List Value} {dC : Nat → ClassId} {dI : Nat → Nat → Nat} {cB cI cJ cZ cS cO : ClassId} {b : Nat} {cs : CS} {t i j : Nat} {x : Int32} {v : Int32} (hx : p.tables.exec = Jvm.exec) (hb : c.code = cc) (hK : va_K (dC, dI) vwCl [(cB, .byte), (cI, .int), (cJ, .long), (cZ, .boolean), (cS, .object "StreamQueries$Source"), (cO, .object "java/lang/Object")] s) (hP : va_P (dC, dI) vwCl (cW cB cI cJ cZ cS cO b cs) H) (ht : aty t = 0) (hv : rA cs t i j x = some v) (hdg : decode cc pc = .ok (.iaload, 1)) (kk : W p l e R s m args below meth c H locs cells slots Q (F0 m (pc + 1) ls (.int v :: rest))) : W p l e R s m args below meth c H locs cells slots Q (F0 m pc ls (.int x :: .ref (b + j) :: rest)) := by
  obtain ⟨⟨h1, h2, h3⟩, rfl⟩ := rA_some hv
  obtain ⟨k, -, hg⟩ := cA_at (b := b) (cB := cB) (cI := cI) (cJ := cJ) (cZ := cZ) (cS := cS) (cO := cO) h1 h2
  rw [ht] at hg
  exact va_iald hx hb hK hP k 1 hg rfl h3 hdg kk
theorem ald1 {p : Program} {l : Launch} {e : Env} {R : Room} {s : State} {m : MethodId} {args : Array Value} {below : List Frame} {meth : Method} {c : Code} {H : Heap} {locs : List Loc} {cells slots : Nat} {Q : State → Prop} {cc : ByteArray} {pc : Nat} {ls : Array Slot} {rest : List Value} {dC : Nat → ClassId} {dI : Nat → Nat → Nat} {cB cI cJ cZ cS cO : ClassId} {b : Nat} {cs : CS} {t i j : Nat} {x : Int32} {v : Int32} (hx : p.tables.exec = Jvm.exec) (hb : c.code = cc) (hK : va_K (dC, dI) vwCl [(cB, .byte), (cI, .int), (cJ, .long), (cZ, .boolean), (cS, .object "StreamQueries$Source"), (cO, .object "java/lang/Object")] s) (hP : va_P (dC, dI) vwCl (cW cB cI cJ cZ cS cO b cs) H) (ht : aty t = 1) (hv : rA cs t i j x = some v) (hdg : decode cc pc = .ok (.baload, 1)) (kk : W p l e R s m args below meth c H locs cells slots Q (F0 m (pc + 1) ls (.int v :: rest))) : W p l e R s m args below meth c H locs cells slots Q (F0 m pc ls (.int x :: .ref (b + j) :: rest)) := by
  obtain ⟨⟨h1, h2, h3⟩, rfl⟩ := rA_some hv
  obtain ⟨k, -, hg⟩ := cA_at (b := b) (cB := cB) (cI := cI) (cJ := cJ) (cZ := cZ) (cS := cS) (cO := cO) h1 h2
  rw [ht] at hg
  exact va_bald hx hb hK hP k 0 hg rfl h3 hdg kk
theorem ald2 {p : Program} {l : Launch} {e : Env} {R : Room} {s : State} {m : MethodId} {args : Array Value} {below : List Frame} {meth : Method} {c : Code} {H : Heap} {locs : List Loc} {cells slots : Nat} {Q : State → Prop} {cc : ByteArray} {pc : Nat} {ls : Array Slot} {rest : List Value} {dC : Nat → ClassId} {dI : Nat → Nat → Nat} {cB cI cJ cZ cS cO : ClassId} {b : Nat} {cs : CS} {t i j : Nat} {x : Int32} {v : Int64} (hx : p.tables.exec = Jvm.exec) (hb : c.code = cc) (hK : va_K (dC, dI) vwCl [(cB, .byte), (cI, .int), (cJ, .long), (cZ, .boolean), (cS, .object "StreamQueries$Source"), (cO, .object "java/lang/Object")] s) (hP : va_P (dC, dI) vwCl (cW cB cI cJ cZ cS cO b cs) H) (ht : aty t = 2) (hv : rB cs t i j x = some v) (hdg : decode cc pc = .ok (.laload, 1)) (kk : W p l e R s m args below meth c H locs cells slots Q (F0 m (pc + 1) ls (.long v :: rest))) : W p l e R s m args below meth c H locs cells slots Q (F0 m pc ls (.int x :: .ref (b + j) :: rest)) := by
  obtain ⟨⟨h1, h2, h3⟩, rfl⟩ := rB_some hv
  obtain ⟨k, -, hg⟩ := cA_at (b := b) (cB := cB) (cI := cI) (cJ := cJ) (cZ := cZ) (cS := cS) (cO := cO) h1 h2
  rw [ht] at hg
  exact va_lald hx hb hK hP k 2 hg rfl h3 hdg kk
theorem ast0 {p : Program} {l : Launch} {e : Env} {R : Room} {s : State} {m : MethodId} {args : Array Value} {below : List Frame} {meth : Method} {c : Code} {H : Heap} {locs : List Loc} {cells slots : Nat} {Q : State → Prop} {cc : ByteArray} {pc : Nat} {ls : Array Slot} {rest : List Value} {dC : Nat → ClassId} {dI : Nat → Nat → Nat} {cB cI cJ cZ cS cO : ClassId} {b : Nat} {cs : CS} {A : Nat → Prop} {H0 : Heap} {cs1 : CS} {t i j : Nat} {x : Int32} {v : Int32} (hx : p.tables.exec = Jvm.exec) (hb : c.code = cc) (hK : va_K (dC, dI) vwCl [(cB, .byte), (cI, .int), (cJ, .long), (cZ, .boolean), (cS, .object "StreamQueries$Source"), (cO, .object "java/lang/Object")] s) (hP : va_P (dC, dI) vwCl (cW cB cI cJ cZ cS cO b cs) H) (hD : va_D A (cW cB cI cJ cZ cS cO b cs)) (hS : va_S A H0 H locs) (ht : aty t = 0) (hv : wA cs t i j x v = some cs1) (hdg : decode cc pc = .ok (.iastore, 1)) (kk : ∀ (H1 : Heap) (locs1 : List Loc), va_P (dC, dI) vwCl (cW cB cI cJ cZ cS cO b cs1) H1 → va_D A (cW cB cI cJ cZ cS cO b cs1) → va_S A H0 H1 locs1 → W p l e R s m args below meth c H1 locs1 cells slots Q (F0 m (pc + 1) ls rest)) : W p l e R s m args below meth c H locs cells slots Q (F0 m pc ls (.int v :: .int x :: .ref (b + j) :: rest)) := by
  obtain ⟨⟨h1, h2, h3⟩, rfl⟩ := wA_some hv
  obtain ⟨k, hk, hg⟩ := cA_at (b := b) (cB := cB) (cI := cI) (cJ := cJ) (cZ := cZ) (cS := cS) (cO := cO) h1 h2
  rw [ht] at hg
  have hset := cW_putA (cs1 := sA cs t i x.toNatClampNeg v) hD hk h2 rfl rfl rfl rfl rfl rfl (fun t1 i1 hn z => by
    have e9 : kA (sA cs t i x.toNatClampNeg v) t1 i1 = kA cs t1 i1 := u2_n hn
    match z with
    | 0 => simp only [eA, e9] <;> rfl
    | 1 => simp only [eA, e9] <;> rfl
    | 2 => simp only [eA, e9] <;> rfl
    | 3 => rfl
    | _ + 4 => rfl)
  rw [ht] at hset
  have e8 : kA (sA cs t i x.toNatClampNeg v) t i = upd (kA cs t i) x.toNatClampNeg v := u2_s
  refine va_iast hx hb hK hP hD hS k 1 hg rfl h3 hdg (fun H1 l1 q1 q2 q3 => ?_)
  have hs2 : (cW cB cI cJ cZ cS cO b cs).set k (b + j, .inl (cI, kL cs t i, .inl (upd (kA cs t i) x.toNatClampNeg v))) = cW cB cI cJ cZ cS cO b (sA cs t i x.toNatClampNeg v) := by
    rw [← hset]
    show _ = (cW cB cI cJ cZ cS cO b cs).set k (b + j, .inl (cI, kL cs t i, .inl (kA (sA cs t i x.toNatClampNeg v) t i)))
    rw [e8]
  rw [hs2] at q1 q2
  exact kk H1 l1 q1 q2 q3
theorem ast1 {p : Program} {l : Launch} {e : Env} {R : Room} {s : State} {m : MethodId} {args : Array Value} {below : List Frame} {meth : Method} {c : Code} {H : Heap} {locs : List Loc} {cells slots : Nat} {Q : State → Prop} {cc : ByteArray} {pc : Nat} {ls : Array Slot} {rest : List Value} {dC : Nat → ClassId} {dI : Nat → Nat → Nat} {cB cI cJ cZ cS cO : ClassId} {b : Nat} {cs : CS} {A : Nat → Prop} {H0 : Heap} {cs1 : CS} {t i j : Nat} {x : Int32} {v : Int32} (hx : p.tables.exec = Jvm.exec) (hb : c.code = cc) (hK : va_K (dC, dI) vwCl [(cB, .byte), (cI, .int), (cJ, .long), (cZ, .boolean), (cS, .object "StreamQueries$Source"), (cO, .object "java/lang/Object")] s) (hP : va_P (dC, dI) vwCl (cW cB cI cJ cZ cS cO b cs) H) (hD : va_D A (cW cB cI cJ cZ cS cO b cs)) (hS : va_S A H0 H locs) (ht : aty t = 1) (hv : wA cs t i j x (vp_nar .byte v) = some cs1) (hdg : decode cc pc = .ok (.bastore, 1)) (kk : ∀ (H1 : Heap) (locs1 : List Loc), va_P (dC, dI) vwCl (cW cB cI cJ cZ cS cO b cs1) H1 → va_D A (cW cB cI cJ cZ cS cO b cs1) → va_S A H0 H1 locs1 → W p l e R s m args below meth c H1 locs1 cells slots Q (F0 m (pc + 1) ls rest)) : W p l e R s m args below meth c H locs cells slots Q (F0 m pc ls (.int v :: .int x :: .ref (b + j) :: rest)) := by
  obtain ⟨⟨h1, h2, h3⟩, rfl⟩ := wA_some hv
  obtain ⟨k, hk, hg⟩ := cA_at (b := b) (cB := cB) (cI := cI) (cJ := cJ) (cZ := cZ) (cS := cS) (cO := cO) h1 h2
  rw [ht] at hg
  have hset := cW_putA (cs1 := sA cs t i x.toNatClampNeg (vp_nar .byte v)) hD hk h2 rfl rfl rfl rfl rfl rfl (fun t1 i1 hn z => by
    have e9 : kA (sA cs t i x.toNatClampNeg (vp_nar .byte v)) t1 i1 = kA cs t1 i1 := u2_n hn
    match z with
    | 0 => simp only [eA, e9] <;> rfl
    | 1 => simp only [eA, e9] <;> rfl
    | 2 => simp only [eA, e9] <;> rfl
    | 3 => rfl
    | _ + 4 => rfl)
  rw [ht] at hset
  have e8 : kA (sA cs t i x.toNatClampNeg (vp_nar .byte v)) t i = upd (kA cs t i) x.toNatClampNeg (vp_nar .byte v) := u2_s
  refine va_bast hx hb hK hP hD hS k 0 hg rfl h3 hdg (fun H1 l1 q1 q2 q3 => ?_)
  have hs2 : (cW cB cI cJ cZ cS cO b cs).set k (b + j, .inl (cB, kL cs t i, .inl (upd (kA cs t i) x.toNatClampNeg (vp_nar .byte v)))) = cW cB cI cJ cZ cS cO b (sA cs t i x.toNatClampNeg (vp_nar .byte v)) := by
    rw [← hset]
    show _ = (cW cB cI cJ cZ cS cO b cs).set k (b + j, .inl (cB, kL cs t i, .inl (kA (sA cs t i x.toNatClampNeg (vp_nar .byte v)) t i)))
    rw [e8]
  rw [hs2] at q1 q2
  exact kk H1 l1 q1 q2 q3
theorem ast2 {p : Program} {l : Launch} {e : Env} {R : Room} {s : State} {m : MethodId} {args : Array Value} {below : List Frame} {meth : Method} {c : Code} {H : Heap} {locs : List Loc} {cells slots : Nat} {Q : State → Prop} {cc : ByteArray} {pc : Nat} {ls : Array Slot} {rest : List Value} {dC : Nat → ClassId} {dI : Nat → Nat → Nat} {cB cI cJ cZ cS cO : ClassId} {b : Nat} {cs : CS} {A : Nat → Prop} {H0 : Heap} {cs1 : CS} {t i j : Nat} {x : Int32} {v : Int64} (hx : p.tables.exec = Jvm.exec) (hb : c.code = cc) (hK : va_K (dC, dI) vwCl [(cB, .byte), (cI, .int), (cJ, .long), (cZ, .boolean), (cS, .object "StreamQueries$Source"), (cO, .object "java/lang/Object")] s) (hP : va_P (dC, dI) vwCl (cW cB cI cJ cZ cS cO b cs) H) (hD : va_D A (cW cB cI cJ cZ cS cO b cs)) (hS : va_S A H0 H locs) (ht : aty t = 2) (hv : wB cs t i j x v = some cs1) (hdg : decode cc pc = .ok (.lastore, 1)) (kk : ∀ (H1 : Heap) (locs1 : List Loc), va_P (dC, dI) vwCl (cW cB cI cJ cZ cS cO b cs1) H1 → va_D A (cW cB cI cJ cZ cS cO b cs1) → va_S A H0 H1 locs1 → W p l e R s m args below meth c H1 locs1 cells slots Q (F0 m (pc + 1) ls rest)) : W p l e R s m args below meth c H locs cells slots Q (F0 m pc ls (.long v :: .int x :: .ref (b + j) :: rest)) := by
  obtain ⟨⟨h1, h2, h3⟩, rfl⟩ := wB_some hv
  obtain ⟨k, hk, hg⟩ := cA_at (b := b) (cB := cB) (cI := cI) (cJ := cJ) (cZ := cZ) (cS := cS) (cO := cO) h1 h2
  rw [ht] at hg
  have hset := cW_putA (cs1 := sB cs t i x.toNatClampNeg v) hD hk h2 rfl rfl rfl rfl rfl rfl (fun t1 i1 hn z => by
    have e9 : kB (sB cs t i x.toNatClampNeg v) t1 i1 = kB cs t1 i1 := u2_n hn
    match z with
    | 0 => simp only [eA, e9] <;> rfl
    | 1 => simp only [eA, e9] <;> rfl
    | 2 => simp only [eA, e9] <;> rfl
    | 3 => rfl
    | _ + 4 => rfl)
  rw [ht] at hset
  have e8 : kB (sB cs t i x.toNatClampNeg v) t i = vp_updL (kB cs t i) x.toNatClampNeg v := u2_s
  refine va_last hx hb hK hP hD hS k 2 hg rfl h3 hdg (fun H1 l1 q1 q2 q3 => ?_)
  have hs2 : (cW cB cI cJ cZ cS cO b cs).set k (b + j, .inl (cJ, kL cs t i, .inr (.inl (vp_updL (kB cs t i) x.toNatClampNeg v)))) = cW cB cI cJ cZ cS cO b (sB cs t i x.toNatClampNeg v) := by
    rw [← hset]
    show _ = (cW cB cI cJ cZ cS cO b cs).set k (b + j, .inl (cJ, kL cs t i, .inr (.inl (kB (sB cs t i x.toNatClampNeg v) t i))))
    rw [e8]
  rw [hs2] at q1 q2
  exact kk H1 l1 q1 q2 q3
theorem aldQ {p : Program} {l : Launch} {e : Env} {R : Room} {s : State} {m : MethodId} {args : Array Value} {below : List Frame} {meth : Method} {c : Code} {H : Heap} {locs : List Loc} {cells slots : Nat} {Q : State → Prop} {cc : ByteArray} {pc : Nat} {ls : Array Slot} {rest : List Value} {dC : Nat → ClassId} {dI : Nat → Nat → Nat} {cB cI cJ cZ cS cO : ClassId} {b : Nat} {cs : CS} {t i j : Nat} {x : Int32} {v : Option Nat} (hx : p.tables.exec = Jvm.exec) (hb : c.code = cc) (hK : va_K (dC, dI) vwCl [(cB, .byte), (cI, .int), (cJ, .long), (cZ, .boolean), (cS, .object "StreamQueries$Source"), (cO, .object "java/lang/Object")] s) (hP : va_P (dC, dI) vwCl (cW cB cI cJ cZ cS cO b cs) H) (ht : aty t = 3) (hv : rQ cs t i j x = some v) (hdg : decode cc pc = .ok (.aaload, 1)) (kk : W p l e R s m args below meth c H locs cells slots Q (F0 m (pc + 1) ls (rv b v :: rest))) : W p l e R s m args below meth c H locs cells slots Q (F0 m pc ls (.int x :: .ref (b + j) :: rest)) := by
  obtain ⟨⟨h1, h2, h3⟩, rfl⟩ := rQ_some hv
  obtain ⟨k, -, hg⟩ := cA_at (b := b) (cB := cB) (cI := cI) (cJ := cJ) (cZ := cZ) (cS := cS) (cO := cO) h1 h2
  rw [ht] at hg
  refine va_aldq hx hb hK hP k 4 hg rfl h3 hdg ?_
  rw [rv_rf]
  exact kk
theorem aldO {p : Program} {l : Launch} {e : Env} {R : Room} {s : State} {m : MethodId} {args : Array Value} {below : List Frame} {meth : Method} {c : Code} {H : Heap} {locs : List Loc} {cells slots : Nat} {Q : State → Prop} {cc : ByteArray} {pc : Nat} {ls : Array Slot} {rest : List Value} {dC : Nat → ClassId} {dI : Nat → Nat → Nat} {cB cI cJ cZ cS cO : ClassId} {b : Nat} {cs : CS} {t i j : Nat} {x : Int32} {v : Option Nat} (hx : p.tables.exec = Jvm.exec) (hb : c.code = cc) (hK : va_K (dC, dI) vwCl [(cB, .byte), (cI, .int), (cJ, .long), (cZ, .boolean), (cS, .object "StreamQueries$Source"), (cO, .object "java/lang/Object")] s) (hP : va_P (dC, dI) vwCl (cW cB cI cJ cZ cS cO b cs) H) (ht : aty t = 4) (hv : rQ cs t i j x = some v) (hdg : decode cc pc = .ok (.aaload, 1)) (kk : W p l e R s m args below meth c H locs cells slots Q (F0 m (pc + 1) ls (rv b v :: rest))) : W p l e R s m args below meth c H locs cells slots Q (F0 m pc ls (.int x :: .ref (b + j) :: rest)) := by
  obtain ⟨⟨h1, h2, h3⟩, rfl⟩ := rQ_some hv
  obtain ⟨k, -, hg⟩ := cA_at (b := b) (cB := cB) (cI := cI) (cJ := cJ) (cZ := cZ) (cS := cS) (cO := cO) h1 h2
  rw [ht] at hg
  refine va_aldq hx hb hK hP k 5 hg rfl h3 hdg ?_
  rw [rv_rf]
  exact kk
theorem astQ {p : Program} {l : Launch} {e : Env} {R : Room} {s : State} {m : MethodId} {args : Array Value} {below : List Frame} {meth : Method} {c : Code} {H : Heap} {locs : List Loc} {cells slots : Nat} {Q : State → Prop} {cc : ByteArray} {pc : Nat} {ls : Array Slot} {rest : List Value} {dC : Nat → ClassId} {dI : Nat → Nat → Nat} {cB cI cJ cZ cS cO : ClassId} {b : Nat} {cs : CS} {A : Nat → Prop} {H0 : Heap} {cs1 : CS} {t i j z : Nat} {x : Int32} (hx : p.tables.exec = Jvm.exec) (hb : c.code = cc) (hK : va_K (dC, dI) vwCl [(cB, .byte), (cI, .int), (cJ, .long), (cZ, .boolean), (cS, .object "StreamQueries$Source"), (cO, .object "java/lang/Object")] s) (hP : va_P (dC, dI) vwCl (cW cB cI cJ cZ cS cO b cs) H) (hD : va_D A (cW cB cI cJ cZ cS cO b cs)) (hS : va_S A H0 H locs) (ht : aty t = 3) (hz : (7, z) ∈ kE cs) (hv : wQ cs t i j x (some z) = some cs1) (hdg : decode cc pc = .ok (.aastore, 1)) (kk : ∀ (H1 : Heap) (locs1 : List Loc), va_P (dC, dI) vwCl (cW cB cI cJ cZ cS cO b cs1) H1 → va_D A (cW cB cI cJ cZ cS cO b cs1) → va_S A H0 H1 locs1 → W p l e R s m args below meth c H1 locs1 cells slots Q (F0 m (pc + 1) ls rest)) : W p l e R s m args below meth c H locs cells slots Q (F0 m pc ls (.ref (b + z) :: .int x :: .ref (b + j) :: rest)) := by
  obtain ⟨⟨h1, h2, h3⟩, rfl⟩ := wQ_some hv
  obtain ⟨k, hk, hg⟩ := cA_at (b := b) (cB := cB) (cI := cI) (cJ := cJ) (cZ := cZ) (cS := cS) (cO := cO) h1 h2
  obtain ⟨k2, -, hg2⟩ := cO_at (b := b) (cB := cB) (cI := cI) (cJ := cJ) (cZ := cZ) (cS := cS) (cO := cO) (by decide) hz
  rw [ht] at hg
  have hset := cW_putA (cs1 := sQ cs t i x.toNatClampNeg (some z)) hD hk h2 rfl rfl rfl rfl rfl rfl (fun t1 i1 hn z1 => by
    have e9 : kQ (sQ cs t i x.toNatClampNeg (some z)) t1 i1 = kQ cs t1 i1 := u2_n hn
    match z1 with
    | 0 => rfl
    | 1 => rfl
    | 2 => rfl
    | 3 => simp only [eA, e9] <;> rfl
    | _ + 4 => simp only [eA, e9] <;> rfl)
  rw [ht] at hset
  have e8 : kQ (sQ cs t i x.toNatClampNeg (some z)) t i = va_up (kQ cs t i) x.toNatClampNeg (some z) := u2_s
  refine va_astq hx hb hK hP hD hS k 4 k2 7 hg rfl hg2 rfl h3 hdg (fun H1 l1 q1 q2 q3 => ?_)
  have hs2 : (cW cB cI cJ cZ cS cO b cs).set k (b + j, .inl (cS, kL cs t i, .inr (.inr (.inr (.inr (va_up (fun y => (kQ cs t i y).map (fun z => b + z)) x.toNatClampNeg (some (b + z)))))))) = cW cB cI cJ cZ cS cO b (sQ cs t i x.toNatClampNeg (some z)) := by
    rw [← hset]
    show _ = (cW cB cI cJ cZ cS cO b cs).set k (b + j, .inl (cS, kL cs t i, .inr (.inr (.inr (.inr (fun y => (kQ (sQ cs t i x.toNatClampNeg (some z)) t i y).map (fun z => b + z)))))))
    rw [e8]
    have e7 : (va_up (fun y => (kQ cs t i y).map (fun z => b + z)) x.toNatClampNeg (some (b + z))) = (fun y => (va_up (kQ cs t i) x.toNatClampNeg (some z) y).map (fun z => b + z)) := by
      funext y
      unfold va_up
      by_cases hy : y = x.toNatClampNeg
      · rw [if_pos hy, if_pos hy]; rfl
      · rw [if_neg hy, if_neg hy]
    rw [e7]
  rw [hs2] at q1 q2
  exact kk H1 l1 q1 q2 q3
theorem alen0 {p : Program} {l : Launch} {e : Env} {R : Room} {s : State} {m : MethodId} {args : Array Value} {below : List Frame} {meth : Method} {c : Code} {H : Heap} {locs : List Loc} {cells slots : Nat} {Q : State → Prop} {cc : ByteArray} {pc : Nat} {ls : Array Slot} {rest : List Value} {dC : Nat → ClassId} {dI : Nat → Nat → Nat} {cB cI cJ cZ cS cO : ClassId} {b : Nat} {cs : CS} {t i j : Nat} {v : Int32} (hx : p.tables.exec = Jvm.exec) (hb : c.code = cc) (hK : va_K (dC, dI) vwCl [(cB, .byte), (cI, .int), (cJ, .long), (cZ, .boolean), (cS, .object "StreamQueries$Source"), (cO, .object "java/lang/Object")] s) (hP : va_P (dC, dI) vwCl (cW cB cI cJ cZ cS cO b cs) H) (ht : aty t = 0) (hv : lnA cs t i j = some v) (hdg : decode cc pc = .ok (.arraylength, 1)) (kk : W p l e R s m args below meth c H locs cells slots Q (F0 m (pc + 1) ls (.int v :: rest))) : W p l e R s m args below meth c H locs cells slots Q (F0 m pc ls (.ref (b + j) :: rest)) := by
  obtain ⟨⟨h1, h2⟩, rfl⟩ := lnA_some hv
  obtain ⟨k, -, hg⟩ := cA_at (b := b) (cB := cB) (cI := cI) (cJ := cJ) (cZ := cZ) (cS := cS) (cO := cO) h1 h2
  rw [ht] at hg
  exact va_alen hx hb hK hP k 1 hg rfl rfl hdg kk
theorem alen1 {p : Program} {l : Launch} {e : Env} {R : Room} {s : State} {m : MethodId} {args : Array Value} {below : List Frame} {meth : Method} {c : Code} {H : Heap} {locs : List Loc} {cells slots : Nat} {Q : State → Prop} {cc : ByteArray} {pc : Nat} {ls : Array Slot} {rest : List Value} {dC : Nat → ClassId} {dI : Nat → Nat → Nat} {cB cI cJ cZ cS cO : ClassId} {b : Nat} {cs : CS} {t i j : Nat} {v : Int32} (hx : p.tables.exec = Jvm.exec) (hb : c.code = cc) (hK : va_K (dC, dI) vwCl [(cB, .byte), (cI, .int), (cJ, .long), (cZ, .boolean), (cS, .object "StreamQueries$Source"), (cO, .object "java/lang/Object")] s) (hP : va_P (dC, dI) vwCl (cW cB cI cJ cZ cS cO b cs) H) (ht : aty t = 1) (hv : lnA cs t i j = some v) (hdg : decode cc pc = .ok (.arraylength, 1)) (kk : W p l e R s m args below meth c H locs cells slots Q (F0 m (pc + 1) ls (.int v :: rest))) : W p l e R s m args below meth c H locs cells slots Q (F0 m pc ls (.ref (b + j) :: rest)) := by
  obtain ⟨⟨h1, h2⟩, rfl⟩ := lnA_some hv
  obtain ⟨k, -, hg⟩ := cA_at (b := b) (cB := cB) (cI := cI) (cJ := cJ) (cZ := cZ) (cS := cS) (cO := cO) h1 h2
  rw [ht] at hg
  exact va_alen hx hb hK hP k 0 hg rfl rfl hdg kk
theorem alen2 {p : Program} {l : Launch} {e : Env} {R : Room} {s : State} {m : MethodId} {args : Array Value} {below : List Frame} {meth : Method} {c : Code} {H : Heap} {locs : List Loc} {cells slots : Nat} {Q : State → Prop} {cc : ByteArray} {pc : Nat} {ls : Array Slot} {rest : List Value} {dC : Nat → ClassId} {dI : Nat → Nat → Nat} {cB cI cJ cZ cS cO : ClassId} {b : Nat} {cs : CS} {t i j : Nat} {v : Int32} (hx : p.tables.exec = Jvm.exec) (hb : c.code = cc) (hK : va_K (dC, dI) vwCl [(cB, .byte), (cI, .int), (cJ, .long), (cZ, .boolean), (cS, .object "StreamQueries$Source"), (cO, .object "java/lang/Object")] s) (hP : va_P (dC, dI) vwCl (cW cB cI cJ cZ cS cO b cs) H) (ht : aty t = 2) (hv : lnA cs t i j = some v) (hdg : decode cc pc = .ok (.arraylength, 1)) (kk : W p l e R s m args below meth c H locs cells slots Q (F0 m (pc + 1) ls (.int v :: rest))) : W p l e R s m args below meth c H locs cells slots Q (F0 m pc ls (.ref (b + j) :: rest)) := by
  obtain ⟨⟨h1, h2⟩, rfl⟩ := lnA_some hv
  obtain ⟨k, -, hg⟩ := cA_at (b := b) (cB := cB) (cI := cI) (cJ := cJ) (cZ := cZ) (cS := cS) (cO := cO) h1 h2
  rw [ht] at hg
  exact va_alen hx hb hK hP k 2 hg rfl rfl hdg kk
theorem alen3 {p : Program} {l : Launch} {e : Env} {R : Room} {s : State} {m : MethodId} {args : Array Value} {below : List Frame} {meth : Method} {c : Code} {H : Heap} {locs : List Loc} {cells slots : Nat} {Q : State → Prop} {cc : ByteArray} {pc : Nat} {ls : Array Slot} {rest : List Value} {dC : Nat → ClassId} {dI : Nat → Nat → Nat} {cB cI cJ cZ cS cO : ClassId} {b : Nat} {cs : CS} {t i j : Nat} {v : Int32} (hx : p.tables.exec = Jvm.exec) (hb : c.code = cc) (hK : va_K (dC, dI) vwCl [(cB, .byte), (cI, .int), (cJ, .long), (cZ, .boolean), (cS, .object "StreamQueries$Source"), (cO, .object "java/lang/Object")] s) (hP : va_P (dC, dI) vwCl (cW cB cI cJ cZ cS cO b cs) H) (ht : aty t = 3) (hv : lnA cs t i j = some v) (hdg : decode cc pc = .ok (.arraylength, 1)) (kk : W p l e R s m args below meth c H locs cells slots Q (F0 m (pc + 1) ls (.int v :: rest))) : W p l e R s m args below meth c H locs cells slots Q (F0 m pc ls (.ref (b + j) :: rest)) := by
  obtain ⟨⟨h1, h2⟩, rfl⟩ := lnA_some hv
  obtain ⟨k, -, hg⟩ := cA_at (b := b) (cB := cB) (cI := cI) (cJ := cJ) (cZ := cZ) (cS := cS) (cO := cO) h1 h2
  rw [ht] at hg
  exact va_alen hx hb hK hP k 4 hg rfl rfl hdg kk

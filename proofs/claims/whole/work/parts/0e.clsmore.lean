/-! more rows -/
def ckE (cs : CS) (X i : Nat) : Option Unit := if (X, i) ∈ kE cs then some () else none
theorem ckE_some {cs : CS} {X i : Nat} {u : Unit} (h : ckE cs X i = some u) : (X, i) ∈ kE cs := by
  unfold ckE at h
  by_cases c : (X, i) ∈ kE cs
  · exact c
  · rw [if_neg c] at h; cases h
def ckB (v : Int32) : Option Int32 := if v.toInt8.toInt32 = v then some v else none
theorem ckB_some {v w : Int32} (h : ckB v = some w) : narrow .byte (.int v) = .int v := by
  unfold ckB at h
  by_cases c : v.toInt8.toInt32 = v
  · rw [← c]; exact pk_nb v
  · rw [if_neg c] at h; cases h
/-- the tape that Tokens.bytes is, by its owner, and its number; the owner stands in a place of no field -/
def gBy (cs : CS) (i : Nat) : Option (Nat × Nat) := Option.bind (kR cs 382 i) fun x => Option.bind (gA cs 11 355 i) fun j => if kP cs 384 x = some j then some (x, j) else none
theorem gBy_some {cs : CS} {i : Nat} {z : Nat × Nat} (h : gBy cs i = some z) : gA cs 11 355 i = some z.2 ∧ kP cs 384 z.1 = some z.2 := by
  unfold gBy at h
  obtain ⟨x, h1, h⟩ := ob h
  obtain ⟨j, h2, h⟩ := ob h
  by_cases c : kP cs 384 x = some j
  · rw [if_pos c] at h; cases h; exact ⟨h2, c⟩
  · rw [if_neg c] at h; cases h
def xA (cs : CS) (t i : Nat) (f : Nat → Int32) : CS := (cs.1, cs.2.1, cs.2.2.1, cs.2.2.2.1, cs.2.2.2.2.1, u2 cs.2.2.2.2.2.1 t i f, cs.2.2.2.2.2.2.1, cs.2.2.2.2.2.2.2.1, cs.2.2.2.2.2.2.2.2)
def cpA (cs : CS) (t1 i1 j1 : Nat) (sp : Int32) (t2 i2 j2 : Nat) (dp n : Int32) : Option CS := if (32 + t1, i1) ∈ kE cs ∧ kP cs t1 i1 = some j1 ∧ (32 + t2, i2) ∈ kE cs ∧ kP cs t2 i2 = some j2 ∧ ¬ sp < 0 ∧ ¬ dp < 0 ∧ ¬ n < 0 ∧ sp.toNatClampNeg + n.toNatClampNeg ≤ kL cs t1 i1 ∧ dp.toNatClampNeg + n.toNatClampNeg ≤ kL cs t2 i2 ∧ ∀ x, x < n.toNatClampNeg → fits .byte (.int (kA cs t1 i1 (sp.toNatClampNeg + x))) = true then some (xA cs t2 i2 (va_cpy (kA cs t1 i1) (kA cs t2 i2) sp.toNatClampNeg dp.toNatClampNeg n.toNatClampNeg)) else none
theorem cpA_some {cs : CS} {t1 i1 j1 : Nat} {sp : Int32} {t2 i2 j2 : Nat} {dp n : Int32} {cs1 : CS} (h : cpA cs t1 i1 j1 sp t2 i2 j2 dp n = some cs1) : ((32 + t1, i1) ∈ kE cs ∧ kP cs t1 i1 = some j1 ∧ (32 + t2, i2) ∈ kE cs ∧ kP cs t2 i2 = some j2 ∧ ¬ sp < 0 ∧ ¬ dp < 0 ∧ ¬ n < 0 ∧ sp.toNatClampNeg + n.toNatClampNeg ≤ kL cs t1 i1 ∧ dp.toNatClampNeg + n.toNatClampNeg ≤ kL cs t2 i2 ∧ ∀ x, x < n.toNatClampNeg → fits .byte (.int (kA cs t1 i1 (sp.toNatClampNeg + x))) = true) ∧ xA cs t2 i2 (va_cpy (kA cs t1 i1) (kA cs t2 i2) sp.toNatClampNeg dp.toNatClampNeg n.toNatClampNeg) = cs1 := by
  unfold cpA at h
  by_cases c : (32 + t1, i1) ∈ kE cs ∧ kP cs t1 i1 = some j1 ∧ (32 + t2, i2) ∈ kE cs ∧ kP cs t2 i2 = some j2 ∧ ¬ sp < 0 ∧ ¬ dp < 0 ∧ ¬ n < 0 ∧ sp.toNatClampNeg + n.toNatClampNeg ≤ kL cs t1 i1 ∧ dp.toNatClampNeg + n.toNatClampNeg ≤ kL cs t2 i2 ∧ ∀ x, x < n.toNatClampNeg → fits .byte (.int (kA cs t1 i1 (sp.toNatClampNeg + x))) = true
  · rw [if_pos c] at h; exact ⟨c, Option.some.inj h⟩
  · rw [if_neg c] at h; cases h
theorem acp1 {p : Program} {l : Launch} {e : Env} {R : Room} {s : State} {m : MethodId} {args : Array Value} {below : List Frame} {meth : Method} {c : Code} {H : Heap} {locs : List Loc} {cells slots : Nat} {Q : State → Prop} {cc : ByteArray} {pc : Nat} {ls : Array Slot} {rest : List Value} {dC : Nat → ClassId} {dI : Nat → Nat → Nat} {cB cI cJ cZ cS cO : ClassId} {b : Nat} {cs : CS} {A : Nat → Prop} {H0 : Heap} {own : String} {index : Nat} {cs1 : CS} {t1 i1 j1 t2 i2 j2 : Nat} {sp dp n : Int32} (hx : p.tables.exec = Jvm.exec) (hb : c.code = cc) (hml : c.maxLocals = ls.size) (hown : s.vm.findClass own = some m.cls) (hlink : (Cond.methodLink own index arraycopyName).before args s = true) (hnat : (Cond.native arraycopyName).before args s = true) (hstat : (Cond.static arraycopyName).before args s = true) (hini : (Cond.initialized "java/lang/System").before args s = true) (hK : va_K (dC, dI) vwCl [(cB, .byte), (cI, .int), (cJ, .long), (cZ, .boolean), (cS, .object "StreamQueries$Source"), (cO, .object "java/lang/Object")] s) (hP : va_P (dC, dI) vwCl (cW cB cI cJ cZ cS cO b cs) H) (hD : va_D A (cW cB cI cJ cZ cS cO b cs)) (hS : va_S A H0 H locs) (ht1 : aty t1 = 1) (ht2 : aty t2 = 1) (hv : cpA cs t1 i1 j1 sp t2 i2 j2 dp n = some cs1) (hR1 : 1 ≤ R.frames) (hR2 : (rest.map fun v => v.category).sum + (nativeFrameWords "java/lang/System" "arraycopy" 5 + 11) ≤ R.locals) (hdg : decode cc pc = .ok (.invokestatic index, 3)) (kk : ∀ (H1 : Heap) (locs1 : List Loc), va_P (dC, dI) vwCl (cW cB cI cJ cZ cS cO b cs1) H1 → va_D A (cW cB cI cJ cZ cS cO b cs1) → va_S A H0 H1 locs1 → W p l e R s m args below meth c H1 locs1 cells slots Q (F0 m (pc + 3) ls rest)) : W p l e R s m args below meth c H locs cells slots Q (F0 m pc ls (.int n :: .int dp :: .ref (b + j2) :: .int sp :: .ref (b + j1) :: rest)) := by
  obtain ⟨⟨m1, p1, m2, p2, g1, g2, g3, g4, g5, g6⟩, rfl⟩ := cpA_some hv
  obtain ⟨k1, -, hg1⟩ := cA_at (b := b) (cB := cB) (cI := cI) (cJ := cJ) (cZ := cZ) (cS := cS) (cO := cO) m1 p1
  obtain ⟨k2, hk2, hg2⟩ := cA_at (b := b) (cB := cB) (cI := cI) (cJ := cJ) (cZ := cZ) (cS := cS) (cO := cO) m2 p2
  rw [ht1] at hg1
  rw [ht2] at hg2
  have hset := cW_putA (cs1 := xA cs t2 i2 (va_cpy (kA cs t1 i1) (kA cs t2 i2) sp.toNatClampNeg dp.toNatClampNeg n.toNatClampNeg)) hD hk2 p2 rfl rfl rfl rfl rfl rfl (fun t3 i3 hn z => by
    have e9 : kA (xA cs t2 i2 (va_cpy (kA cs t1 i1) (kA cs t2 i2) sp.toNatClampNeg dp.toNatClampNeg n.toNatClampNeg)) t3 i3 = kA cs t3 i3 := u2_n hn
    match z with
    | 0 => simp only [eA, e9] <;> rfl
    | 1 => simp only [eA, e9] <;> rfl
    | 2 => simp only [eA, e9] <;> rfl
    | 3 => rfl
    | _ + 4 => rfl)
  rw [ht2] at hset
  have e8 : kA (xA cs t2 i2 (va_cpy (kA cs t1 i1) (kA cs t2 i2) sp.toNatClampNeg dp.toNatClampNeg n.toNatClampNeg)) t2 i2 = (va_cpy (kA cs t1 i1) (kA cs t2 i2) sp.toNatClampNeg dp.toNatClampNeg n.toNatClampNeg) := u2_s
  refine va_copyi (ty := .byte) hx hb hml hown hlink hnat hstat hini hK hP hD hS k1 k2 0 0 hg1 hg2 rfl rfl rfl g1 g2 g3 g4 g5 g6 hR1 hR2 hdg (fun H1 l1 q1 q2 q3 => ?_)
  have hs2 : (cW cB cI cJ cZ cS cO b cs).set k2 (b + j2, .inl (cB, kL cs t2 i2, .inl (va_cpy (kA cs t1 i1) (kA cs t2 i2) sp.toNatClampNeg dp.toNatClampNeg n.toNatClampNeg))) = cW cB cI cJ cZ cS cO b (xA cs t2 i2 (va_cpy (kA cs t1 i1) (kA cs t2 i2) sp.toNatClampNeg dp.toNatClampNeg n.toNatClampNeg)) := by
    rw [← hset]
    show _ = (cW cB cI cJ cZ cS cO b cs).set k2 (b + j2, .inl (cB, kL cs t2 i2, .inl (kA (xA cs t2 i2 (va_cpy (kA cs t1 i1) (kA cs t2 i2) sp.toNatClampNeg dp.toNatClampNeg n.toNatClampNeg)) t2 i2)))
    rw [e8]
  rw [hs2] at q1 q2
  exact kk H1 l1 q1 q2 q3
def xB (cs : CS) (t i : Nat) (f : Nat → Int64) : CS := (cs.1, cs.2.1, cs.2.2.1, cs.2.2.2.1, cs.2.2.2.2.1, cs.2.2.2.2.2.1, u2 cs.2.2.2.2.2.2.1 t i f, cs.2.2.2.2.2.2.2.1, cs.2.2.2.2.2.2.2.2)
def cpB (cs : CS) (t1 i1 j1 : Nat) (sp : Int32) (t2 i2 j2 : Nat) (dp n : Int32) : Option CS := if (32 + t1, i1) ∈ kE cs ∧ kP cs t1 i1 = some j1 ∧ (32 + t2, i2) ∈ kE cs ∧ kP cs t2 i2 = some j2 ∧ ¬ sp < 0 ∧ ¬ dp < 0 ∧ ¬ n < 0 ∧ sp.toNatClampNeg + n.toNatClampNeg ≤ kL cs t1 i1 ∧ dp.toNatClampNeg + n.toNatClampNeg ≤ kL cs t2 i2 then some (xB cs t2 i2 (va_cpy (kB cs t1 i1) (kB cs t2 i2) sp.toNatClampNeg dp.toNatClampNeg n.toNatClampNeg)) else none
theorem cpB_some {cs : CS} {t1 i1 j1 : Nat} {sp : Int32} {t2 i2 j2 : Nat} {dp n : Int32} {cs1 : CS} (h : cpB cs t1 i1 j1 sp t2 i2 j2 dp n = some cs1) : ((32 + t1, i1) ∈ kE cs ∧ kP cs t1 i1 = some j1 ∧ (32 + t2, i2) ∈ kE cs ∧ kP cs t2 i2 = some j2 ∧ ¬ sp < 0 ∧ ¬ dp < 0 ∧ ¬ n < 0 ∧ sp.toNatClampNeg + n.toNatClampNeg ≤ kL cs t1 i1 ∧ dp.toNatClampNeg + n.toNatClampNeg ≤ kL cs t2 i2) ∧ xB cs t2 i2 (va_cpy (kB cs t1 i1) (kB cs t2 i2) sp.toNatClampNeg dp.toNatClampNeg n.toNatClampNeg) = cs1 := by
  unfold cpB at h
  by_cases c : (32 + t1, i1) ∈ kE cs ∧ kP cs t1 i1 = some j1 ∧ (32 + t2, i2) ∈ kE cs ∧ kP cs t2 i2 = some j2 ∧ ¬ sp < 0 ∧ ¬ dp < 0 ∧ ¬ n < 0 ∧ sp.toNatClampNeg + n.toNatClampNeg ≤ kL cs t1 i1 ∧ dp.toNatClampNeg + n.toNatClampNeg ≤ kL cs t2 i2
  · rw [if_pos c] at h; exact ⟨c, Option.some.inj h⟩
  · rw [if_neg c] at h; cases h
theorem acp2 {p : Program} {l : Launch} {e : Env} {R : Room} {s : State} {m : MethodId} {args : Array Value} {below : List Frame} {meth : Method} {c : Code} {H : Heap} {locs : List Loc} {cells slots : Nat} {Q : State → Prop} {cc : ByteArray} {pc : Nat} {ls : Array Slot} {rest : List Value} {dC : Nat → ClassId} {dI : Nat → Nat → Nat} {cB cI cJ cZ cS cO : ClassId} {b : Nat} {cs : CS} {A : Nat → Prop} {H0 : Heap} {own : String} {index : Nat} {cs1 : CS} {t1 i1 j1 t2 i2 j2 : Nat} {sp dp n : Int32} (hx : p.tables.exec = Jvm.exec) (hb : c.code = cc) (hml : c.maxLocals = ls.size) (hown : s.vm.findClass own = some m.cls) (hlink : (Cond.methodLink own index arraycopyName).before args s = true) (hnat : (Cond.native arraycopyName).before args s = true) (hstat : (Cond.static arraycopyName).before args s = true) (hini : (Cond.initialized "java/lang/System").before args s = true) (hK : va_K (dC, dI) vwCl [(cB, .byte), (cI, .int), (cJ, .long), (cZ, .boolean), (cS, .object "StreamQueries$Source"), (cO, .object "java/lang/Object")] s) (hP : va_P (dC, dI) vwCl (cW cB cI cJ cZ cS cO b cs) H) (hD : va_D A (cW cB cI cJ cZ cS cO b cs)) (hS : va_S A H0 H locs) (ht1 : aty t1 = 2) (ht2 : aty t2 = 2) (hv : cpB cs t1 i1 j1 sp t2 i2 j2 dp n = some cs1) (hR1 : 1 ≤ R.frames) (hR2 : (rest.map fun v => v.category).sum + (nativeFrameWords "java/lang/System" "arraycopy" 5 + 11) ≤ R.locals) (hdg : decode cc pc = .ok (.invokestatic index, 3)) (kk : ∀ (H1 : Heap) (locs1 : List Loc), va_P (dC, dI) vwCl (cW cB cI cJ cZ cS cO b cs1) H1 → va_D A (cW cB cI cJ cZ cS cO b cs1) → va_S A H0 H1 locs1 → W p l e R s m args below meth c H1 locs1 cells slots Q (F0 m (pc + 3) ls rest)) : W p l e R s m args below meth c H locs cells slots Q (F0 m pc ls (.int n :: .int dp :: .ref (b + j2) :: .int sp :: .ref (b + j1) :: rest)) := by
  obtain ⟨⟨m1, p1, m2, p2, g1, g2, g3, g4, g5⟩, rfl⟩ := cpB_some hv
  obtain ⟨k1, -, hg1⟩ := cA_at (b := b) (cB := cB) (cI := cI) (cJ := cJ) (cZ := cZ) (cS := cS) (cO := cO) m1 p1
  obtain ⟨k2, hk2, hg2⟩ := cA_at (b := b) (cB := cB) (cI := cI) (cJ := cJ) (cZ := cZ) (cS := cS) (cO := cO) m2 p2
  rw [ht1] at hg1
  rw [ht2] at hg2
  have hset := cW_putA (cs1 := xB cs t2 i2 (va_cpy (kB cs t1 i1) (kB cs t2 i2) sp.toNatClampNeg dp.toNatClampNeg n.toNatClampNeg)) hD hk2 p2 rfl rfl rfl rfl rfl rfl (fun t3 i3 hn z => by
    have e9 : kB (xB cs t2 i2 (va_cpy (kB cs t1 i1) (kB cs t2 i2) sp.toNatClampNeg dp.toNatClampNeg n.toNatClampNeg)) t3 i3 = kB cs t3 i3 := u2_n hn
    match z with
    | 0 => simp only [eA, e9] <;> rfl
    | 1 => simp only [eA, e9] <;> rfl
    | 2 => simp only [eA, e9] <;> rfl
    | 3 => rfl
    | _ + 4 => rfl)
  rw [ht2] at hset
  have e8 : kB (xB cs t2 i2 (va_cpy (kB cs t1 i1) (kB cs t2 i2) sp.toNatClampNeg dp.toNatClampNeg n.toNatClampNeg)) t2 i2 = (va_cpy (kB cs t1 i1) (kB cs t2 i2) sp.toNatClampNeg dp.toNatClampNeg n.toNatClampNeg) := u2_s
  refine va_copyl (ty := .long) hx hb hml hown hlink hnat hstat hini hK hP hD hS k1 k2 2 2 hg1 hg2 rfl rfl rfl g1 g2 g3 g4 g5 (fun _ _ => rfl) hR1 hR2 hdg (fun H1 l1 q1 q2 q3 => ?_)
  have hs2 : (cW cB cI cJ cZ cS cO b cs).set k2 (b + j2, .inl (cJ, kL cs t2 i2, .inr (.inl (va_cpy (kB cs t1 i1) (kB cs t2 i2) sp.toNatClampNeg dp.toNatClampNeg n.toNatClampNeg)))) = cW cB cI cJ cZ cS cO b (xB cs t2 i2 (va_cpy (kB cs t1 i1) (kB cs t2 i2) sp.toNatClampNeg dp.toNatClampNeg n.toNatClampNeg)) := by
    rw [← hset]
    show _ = (cW cB cI cJ cZ cS cO b cs).set k2 (b + j2, .inl (cJ, kL cs t2 i2, .inr (.inl (kB (xB cs t2 i2 (va_cpy (kB cs t1 i1) (kB cs t2 i2) sp.toNatClampNeg dp.toNatClampNeg n.toNatClampNeg)) t2 i2))))
    rw [e8]
  rw [hs2] at q1 q2
  exact kk H1 l1 q1 q2 q3
def ixA (i : Nat) (x : Int32) : Option Int32 := if x < 0 ∨ 256 ≤ x.toNatClampNeg then none else some (ixN i x.toNatClampNeg (soB i).length 0)
theorem strIdx_X10 {p : Program} {l : Launch} {e : Env} {R : Room} {s : State} {m : MethodId} {args : Array Value} {below : List Frame} {meth : Method} {c : Code} {H : Heap} {locs : List Loc} {cells slots : Nat} {Q : State → Prop} {cc : ByteArray} {pc : Nat} {ls : Array Slot} {rest : List Value} {y0 : MethodName} {c0 : ByteArray} {n0 : Nat} {r0 : Option FieldType} {dC : Nat → ClassId} {dI : Nat → Nat → Nat} {cB cI cJ cZ cS cO : ClassId} {b : Nat} {cs : CS} {A : Nat → Prop} {nL : Nat} {K V : Nat → Nat} {fz : Value} {i : Nat} {x v : Int32} (hx : p.tables.exec = Jvm.exec) (hb : c.code = cc) (hml : c.maxLocals = nL) (hts : ∀ w ∈ wsOf y0 c0 n0 r0, w.before args s = true) (hown : s.vm.findClass RX10 = some m.cls) (hK : va_K (dC, dI) vwCl [(cB, .byte), (cI, .int), (cJ, .long), (cZ, .boolean), (cS, .object "StreamQueries$Source"), (cO, .object "java/lang/Object")] s) (hP : va_P (dC, dI) vwCl (cW cB cI cJ cZ cS cO b cs) H) (hD : va_D A (cW cB cI cJ cZ cS cO b cs)) (hS : va_S A s.heap H locs) (hA : ∀ q, s.heap.size ≤ q → A q) (hZ : zE K V fz A s) (hi : i < 42) (hl0 : 0 < (soB i).length) (hc0 : cells ≤ R.cells) (hs0 : slots ≤ R.slots) (hv : ixA i x = some v) (hsz : ls.size = nL) (h8 : (rest.map fun v => v.category).sum ≤ 8) (hR1 : 6 ≤ R.frames) (hR2 : 400 ≤ R.locals) (hdg : decode cc pc = .ok (.invokevirtual 101, 3)) (kk : ∀ (H1 : Heap) (locs1 : List Loc), va_P (dC, dI) vwCl (cW cB cI cJ cZ cS cO b cs) H1 → va_D A (cW cB cI cJ cZ cS cO b cs) → va_S A s.heap H1 locs1 → W p l e R s m args below meth c H1 locs1 cells slots Q (F0 m (pc + 3) ls (.int v :: rest))) : W p l e R s m args below meth c H locs cells slots Q (F0 m pc ls (.int x :: .ref (K i) :: rest)) := by
  unfold ixA at hv
  by_cases hc : x < 0 ∨ 256 ≤ x.toNatClampNeg
  · rw [if_pos hc] at hv; cases hv
  rw [if_neg hc] at hv
  obtain ⟨j, hj, rfl⟩ := vp_in_of (x := x) (n := 256) hc (by omega)
  rw [nI_clamp (n := j) (by omega)] at hv
  have hPc : va_P (dC, dI) vwCl [] H := hP.sub [] rfl
  have hFc : ∀ q, va_A [] H.size q → A q := va_free (wc := []) hD hS hA [] rfl
  have hK4 := hK.sub (tys' := [(cB, .byte), (cI, .int), (cJ, .long), (cZ, .boolean)]) [0, 1, 2, 3] rfl
  refine va_calli (va_runV (As := [.int (nI j)]) (rest := rest) (b := K i) ⟨hx, hb, hml, hown, hts⟩ (t_indexOf l dC dI H.size cB cI cJ cZ i j K V fz hi hj hl0) (cwV 1 hts (gd_all (in_V kw_545 kw_546 kw_547 kw_184 kc_J0_indexOf_0f7a4)) rfl rfl rfl (by decide +kernel) ⟨by show 4 + 1 ≤ R.frames; omega, by show 8 + (2 + 11) + 240 ≤ R.locals; omega⟩)
    ⟨fun x U g mk q => by obtain ⟨q0, q1, qP, qK, qD, qZ⟩ := q; exact ⟨q0, q1, qP, va_K.moved (u := U) (U := U.calling g mk x) (Vm.Alike.refl U.vm) qK, qD, zE.same (u := U) (U := U.calling g mk x) rfl rfl qZ⟩, zE.recv hZ hi hS, fun U hU hW => ⟨rfl, by rw [hU], by rw [hU]; exact hPc, va_K.moved hW.alike hK4, ⟨fun i j x y h => by simp at h, fun k x h => by simp at h⟩, zE.go hZ hS hU hW hFc⟩⟩
    (g := F0 m pc ls _) rfl rfl hsz rfl (lv_room h8) hdg ⟨hc0, hs0⟩) hS (fun q _ h => hFc q h) hFc (fun r u t_ H1 locs1 ht hvm hw hB hz1 hk1 hS1 => ?_)
  subst hw
  cases hv
  refine kk H1 locs1 (hP.kept (fun k q hq => hk1 q.1 (hP k q hq).lt (fun h => ?_))) hD hS1
  rcases h with ⟨k2, e2, h⟩ | h
  · simp at h
  · exact absurd (hP k q hq).lt (Nat.not_lt.mpr h)

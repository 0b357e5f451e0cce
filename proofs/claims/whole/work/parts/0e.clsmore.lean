/-! more rows -/
def ckE (cs : CS) (X i : Nat) : Option Unit := if (X, i) ∈ kE cs then some () else none
theorem ckE_some {cs : CS} {X i : Nat} {u : Unit} (h : ckE cs X i = some u) : (X, i) ∈ kE cs := by
  unfold ckE at h
  by_cases c : (X, i) ∈ kE cs
  · exact c
  · rw [if_neg c] at h; cases h
def ckB (v : Int32) : Option Int32 := if v.toInt8.toInt32 = v then some v else none
theorem ckB_some {v w : Int32} (h : ckB v = some w) : narrow .byte (.int v) = .int v := by
  unfold ckB at h
  by_cases c : v.toInt8.toInt32 = v
  · rw [← c]; exact pk_nb v
  · rw [if_neg c] at h; cases h
/-- the tape that Tokens.bytes is, by its owner, and its number; the owner stands in a place of no field -/
def gBy (cs : CS) (i : Nat) : Option (Nat × Nat) := Option.bind (kR cs 382 i) fun x => Option.bind (gA cs 11 355 i) fun j => if kP cs 384 x = some j then some (x, j) else none
theorem gBy_some {cs : CS} {i : Nat} {z : Nat × Nat} (h : gBy cs i = some z) : gA cs 11 355 i = some z.2 ∧ kP cs 384 z.1 = some z.2 := by
  unfold gBy at h
  obtain ⟨x, h1, h⟩ := ob h
  obtain ⟨j, h2, h⟩ := ob h
  by_cases c : kP cs 384 x = some j
  · rw [if_pos c] at h; cases h; exact ⟨h2, c⟩
  · rw [if_neg c] at h; cases h
def xA (cs : CS) (t i : Nat) (f : Nat → Int32) : CS := (cs.1, cs.2.1, cs.2.2.1, cs.2.2.2.1, cs.2.2.2.2.1, u2 cs.2.2.2.2.2.1 t i f, cs.2.2.2.2.2.2.1, cs.2.2.2.2.2.2.2.1, cs.2.2.2.2.2.2.2.2)
def cpA (cs : CS) (t1 i1 j1 : Nat) (sp : Int32) (t2 i2 j2 : Nat) (dp n : Int32) : Option CS := if (32 + t1, i1) ∈ kE cs ∧ kP cs t1 i1 = some j1 ∧ (32 + t2, i2) ∈ kE cs ∧ kP cs t2 i2 = some j2 ∧ ¬ sp < 0 ∧ ¬ dp < 0 ∧ ¬ n < 0 ∧ sp.toNatClampNeg + n.toNatClampNeg ≤ kL cs t1 i1 ∧ dp.toNatClampNeg + n.toNatClampNeg ≤ kL cs t2 i2 ∧ ∀ x, x < n.toNatClampNeg → fits .byte (.int (kA cs t1 i1 (sp.toNatClampNeg + x))) = true then some (xA cs t2 i2 (va_cpy (kA cs t1 i1) (kA cs t2 i2) sp.toNatClampNeg dp.toNatClampNeg n.toNatClampNeg)) else none
theorem cpA_some {cs : CS} {t1 i1 j1 : Nat} {sp : Int32} {t2 i2 j2 : Nat} {dp n : Int32} {cs1 : CS} (h : cpA cs t1 i1 j1 sp t2 i2 j2 dp n = some cs1) : ((32 + t1, i1) ∈ kE cs ∧ kP cs t1 i1 = some j1 ∧ (32 + t2, i2) ∈ kE cs ∧ kP cs t2 i2 = some j2 ∧ ¬ sp < 0 ∧ ¬ dp < 0 ∧ ¬ n < 0 ∧ sp.toNatClampNeg + n.toNatClampNeg ≤ kL cs t1 i1 ∧ dp.toNatClampNeg + n.toNatClampNeg ≤ kL cs t2 i2 ∧ ∀ x, x < n.toNatClampNeg → fits .byte (.int (kA cs t1 i1 (sp.toNatClampNeg + x))) = true) ∧ xA cs t2 i2 (va_cpy (kA cs t1 i1) (kA cs t2 i2) sp.toNatClampNeg dp.toNatClampNeg n.toNatClampNeg) = cs1 := by
  unfold cpA at h
  by_cases c : (32 + t1, i1) ∈ kE cs ∧ kP cs t1 i1 = some j1 ∧ (32 + t2, i2) ∈ kE cs ∧ kP cs t2 i2 = some j2 ∧ ¬ sp < 0 ∧ ¬ dp < 0 ∧ ¬ n < 0 ∧ sp.toNatClampNeg + n.toNatClampNeg ≤ kL cs t1 i1 ∧ dp.toNatClampNeg + n.toNatClampNeg ≤ kL cs t2 i2 ∧ ∀ x, x < n.toNatClampNeg → fits .byte (.int (kA cs t1 i1 (sp.toNatClampNeg + x))) = true
  · rw [if_pos c] at h; exact ⟨c, Option.some.inj h⟩
  · rw [if_neg c] at h; cases h
theorem acp1 {p : Program} {l : Launch} {e : Env} {R : Room} {s : State} {m : MethodId} {args : Array Value} {below : List Frame} {meth : Method} {c : Code} {H : Heap} {locs : List Loc} {cells slots : Nat} {Q : State → Prop} {cc : ByteArray} {pc : Nat} {ls : Array Slot} {rest : List Value} {dC : Nat → ClassId} {dI : Nat → Nat → Nat} {cB cI cJ cZ cS cO : ClassId} {b : Nat} {cs : CS} {A : Nat → Prop} {H0 : Heap} {own : String} {index : Nat} {cs1 : CS} {t1 i1 j1 t2 i2 j2 : Nat} {sp dp n : Int32} (hx : p.tables.exec = Jvm.exec) (hb : c.code = cc) (hml : c.maxLocals = ls.size) (hown : s.vm.findClass own = some m.cls) (hlink : (Cond.methodLink own index arraycopyName).before args s = true) (hnat : (Cond.native arraycopyName).before args s = true) (hstat : (Cond.static arraycopyName).before args s = true) (hini : (Cond.initialized "java/lang/System").before args s = true) (hK : va_K (dC, dI) vwCl [(cB, .byte), (cI, .int), (cJ, .long), (cZ, .boolean), (cS, .object "StreamQueries$Source"), (cO, .object "java/lang/Object")] s) (hP : va_P (dC, dI) vwCl (cW cB cI cJ cZ cS cO b cs) H) (hD : va_D A (cW cB cI cJ cZ cS cO b cs)) (hS : va_S A H0 H locs) (ht1 : aty t1 = 1) (ht2 : aty t2 = 1) (hv : cpA cs t1 i1 j1 sp t2 i2 j2 dp n = some cs1) (hR1 : 1 ≤ R.frames) (hR2 : (rest.map fun v => v.category).sum + (nativeFrameWords "java/lang/System" "arraycopy" 5 + 11) ≤ R.locals) (hdg : decode cc pc = .ok (.invokestatic index, 3)) (kk : ∀ (H1 : Heap) (locs1 : List Loc), va_P (dC, dI) vwCl (cW cB cI cJ cZ cS cO b cs1) H1 → va_D A (cW cB cI cJ cZ cS cO b cs1) → va_S A H0 H1 locs1 → W p l e R s m args below meth c H1 locs1 cells slots Q (F0 m (pc + 3) ls rest)) : W p l e R s m args below meth c H locs cells slots Q (F0 m pc ls (.int n :: .int dp :: .ref (b + j2) :: .int sp :: .ref (b + j1) :: rest)) := by
  obtain ⟨⟨m1, p1, m2, p2, g1, g2, g3, g4, g5, g6⟩, rfl⟩ := cpA_some hv
  obtain ⟨k1, -, hg1⟩ := cA_at (b := b) (cB := cB) (cI := cI) (cJ := cJ) (cZ := cZ) (cS := cS) (cO := cO) m1 p1
  obtain ⟨k2, hk2, hg2⟩ := cA_at (b := b) (cB := cB) (cI := cI) (cJ := cJ) (cZ := cZ) (cS := cS) (cO := cO) m2 p2
  rw [ht1] at hg1
  rw [ht2] at hg2
  have hset := cW_putA (cs1 := xA cs t2 i2 (va_cpy (kA cs t1 i1) (kA cs t2 i2) sp.toNatClampNeg dp.toNatClampNeg n.toNatClampNeg)) hD hk2 p2 rfl rfl rfl rfl rfl rfl (fun t3 i3 hn z => by
    have e9 : kA (xA cs t2 i2 (va_cpy (kA cs t1 i1) (kA cs t2 i2) sp.toNatClampNeg dp.toNatClampNeg n.toNatClampNeg)) t3 i3 = kA cs t3 i3 := u2_n hn
    match z with
    | 0 => simp only [eA, e9] <;> rfl
    | 1 => simp only [eA, e9] <;> rfl
    | 2 => simp only [eA, e9] <;> rfl
    | 3 => rfl
    | _ + 4 => rfl)
  rw [ht2] at hset
  have e8 : kA (xA cs t2 i2 (va_cpy (kA cs t1 i1) (kA cs t2 i2) sp.toNatClampNeg dp.toNatClampNeg n.toNatClampNeg)) t2 i2 = (va_cpy (kA cs t1 i1) (kA cs t2 i2) sp.toNatClampNeg dp.toNatClampNeg n.toNatClampNeg) := u2_s
  refine va_copyi (ty := .byte) hx hb hml hown hlink hnat hstat hini hK hP hD hS k1 k2 0 0 hg1 hg2 rfl rfl rfl g1 g2 g3 g4 g5 g6 hR1 hR2 hdg (fun H1 l1 q1 q2 q3 => ?_)
  have hs2 : (cW cB cI cJ cZ cS cO b cs).set k2 (b + j2, .inl (cB, kL cs t2 i2, .inl (va_cpy (kA cs t1 i1) (kA cs t2 i2) sp.toNatClampNeg dp.toNatClampNeg n.toNatClampNeg))) = cW cB cI cJ cZ cS cO b (xA cs t2 i2 (va_cpy (kA cs t1 i1) (kA cs t2 i2) sp.toNatClampNeg dp.toNatClampNeg n.toNatClampNeg)) := by
    rw [← hset]
    show _ = (cW cB cI cJ cZ cS cO b cs).set k2 (b + j2, .inl (cB, kL cs t2 i2, .inl (kA (xA cs t2 i2 (va_cpy (kA cs t1 i1) (kA cs t2 i2) sp.toNatClampNeg dp.toNatClampNeg n.toNatClampNeg)) t2 i2)))
    rw [e8]
  rw [hs2] at q1 q2
  exact kk H1 l1 q1 q2 q3
def xB (cs : CS) (t i : Nat) (f : Nat → Int64) : CS := (cs.1, cs.2.1, cs.2.2.1, cs.2.2.2.1, cs.2.2.2.2.1, cs.2.2.2.2.2.1, u2 cs.2.2.2.2.2.2.1 t i f, cs.2.2.2.2.2.2.2.1, cs.2.2.2.2.2.2.2.2)
def cpB (cs : CS) (t1 i1 j1 : Nat) (sp : Int32) (t2 i2 j2 : Nat) (dp n : Int32) : Option CS := if (32 + t1, i1) ∈ kE cs ∧ kP cs t1 i1 = some j1 ∧ (32 + t2, i2) ∈ kE cs ∧ kP cs t2 i2 = some j2 ∧ ¬ sp < 0 ∧ ¬ dp < 0 ∧ ¬ n < 0 ∧ sp.toNatClampNeg + n.toNatClampNeg ≤ kL cs t1 i1 ∧ dp.toNatClampNeg + n.toNatClampNeg ≤ kL cs t2 i2 then some (xB cs t2 i2 (va_cpy (kB cs t1 i1) (kB cs t2 i2) sp.toNatClampNeg dp.toNatClampNeg n.toNatClampNeg)) else none
theorem cpB_some {cs : CS} {t1 i1 j1 : Nat} {sp : Int32} {t2 i2 j2 : Nat} {dp n : Int32} {cs1 : CS} (h : cpB cs t1 i1 j1 sp t2 i2 j2 dp n = some cs1) : ((32 + t1, i1) ∈ kE cs ∧ kP cs t1 i1 = some j1 ∧ (32 + t2, i2) ∈ kE cs ∧ kP cs t2 i2 = some j2 ∧ ¬ sp < 0 ∧ ¬ dp < 0 ∧ ¬ n < 0 ∧ sp.toNatClampNeg + n.toNatClampNeg ≤ kL cs t1 i1 ∧ dp.toNatClampNeg + n.toNatClampNeg ≤ kL cs t2 i2) ∧ xB cs t2 i2 (va_cpy (kB cs t1 i1) (kB cs t2 i2) sp.toNatClampNeg dp.toNatClampNeg n.toNatClampNeg) = cs1 := by
  unfold cpB at h
  by_cases c : (32 + t1, i1) ∈ kE cs ∧ kP cs t1 i1 = some j1 ∧ (32 + t2, i2) ∈ kE cs ∧ kP cs t2 i2 = some j2 ∧ ¬ sp < 0 ∧ ¬ dp < 0 ∧ ¬ n < 0 ∧ sp.toNatClampNeg + n.toNatClampNeg ≤ kL cs t1 i1 ∧ dp.toNatClampNeg + n.toNatClampNeg ≤ kL cs t2 i2
  · rw [if_pos c] at h; exact ⟨c, Option.some.inj h⟩
  · rw [if_neg c] at h; cases h
theorem acp2 {p : Program} {l : Launch} {e : Env} {R : Room} {s : State} {m : MethodId} {args : Array Value} {below : List Frame} {meth : Method} {c : Code} {H : Heap} {locs : List Loc} {cells slots : Nat} {Q : State → Prop} {cc : ByteArray} {pc : Nat} {ls : Array Slot} {rest : List Value} {dC : Nat → ClassId} {dI : Nat → Nat → Nat} {cB cI cJ cZ cS cO : ClassId} {b : Nat} {cs : CS} {A : Nat → Prop} {H0 : Heap} {own : String} {index : Nat} {cs1 : CS} {t1 i1 j1 t2 i2 j2 : Nat} {sp dp n : Int32} (hx : p.tables.exec = Jvm.exec) (hb : c.code = cc) (hml : c.maxLocals = ls.size) (hown : s.vm.findClass own = some m.cls) (hlink : (Cond.methodLink own index arraycopyName).before args s = true) (hnat : (Cond.native arraycopyName).before args s = true) (hstat : (Cond.static arraycopyName).before args s = true) (hini : (Cond.initialized "java/lang/System").before args s = true) (hK : va_K (dC, dI) vwCl [(cB, .byte), (cI, .int), (cJ, .long), (cZ, .boolean), (cS, .object "StreamQueries$Source"), (cO, .object "java/lang/Object")] s) (hP : va_P (dC, dI) vwCl (cW cB cI cJ cZ cS cO b cs) H) (hD : va_D A (cW cB cI cJ cZ cS cO b cs)) (hS : va_S A H0 H locs) (ht1 : aty t1 = 2) (ht2 : aty t2 = 2) (hv : cpB cs t1 i1 j1 sp t2 i2 j2 dp n = some cs1) (hR1 : 1 ≤ R.frames) (hR2 : (rest.map fun v => v.category).sum + (nativeFrameWords "java/lang/System" "arraycopy" 5 + 11) ≤ R.locals) (hdg : decode cc pc = .ok (.invokestatic index, 3)) (kk : ∀ (H1 : Heap) (locs1 : List Loc), va_P (dC, dI) vwCl (cW cB cI cJ cZ cS cO b cs1) H1 → va_D A (cW cB cI cJ cZ cS cO b cs1) → va_S A H0 H1 locs1 → W p l e R s m args below meth c H1 locs1 cells slots Q (F0 m (pc + 3) ls rest)) : W p l e R s m args below meth c H locs cells slots Q (F0 m pc ls (.int n :: .int dp :: .ref (b + j2) :: .int sp :: .ref (b + j1) :: rest)) := by
  obtain ⟨⟨m1, p1, m2, p2, g1, g2, g3, g4, g5⟩, rfl⟩ := cpB_some hv
  obtain ⟨k1, -, hg1⟩ := cA_at (b := b) (cB := cB) (cI := cI) (cJ := cJ) (cZ := cZ) (cS := cS) (cO := cO) m1 p1
  obtain ⟨k2, hk2, hg2⟩ := cA_at (b := b) (cB := cB) (cI := cI) (cJ := cJ) (cZ := cZ) (cS := cS) (cO := cO) m2 p2
  rw [ht1] at hg1
  rw [ht2] at hg2
  have hset := cW_putA (cs1 := xB cs t2 i2 (va_cpy (kB cs t1 i1) (kB cs t2 i2) sp.toNatClampNeg dp.toNatClampNeg n.toNatClampNeg)) hD hk2 p2 rfl rfl rfl rfl rfl rfl (fun t3 i3 hn z => by
    have e9 : kB (xB cs t2 i2 (va_cpy (kB cs t1 i1) (kB cs t2 i2) sp.toNatClampNeg dp.toNatClampNeg n.toNatClampNeg)) t3 i3 = kB cs t3 i3 := u2_n hn
    match z with
    | 0 => simp only [eA, e9] <;> rfl
    | 1 => simp only [eA, e9] <;> rfl
    | 2 => simp only [eA, e9] <;> rfl
    | 3 => rfl
    | _ + 4 => rfl)
  rw [ht2] at hset
  have e8 : kB (xB cs t2 i2 (va_cpy (kB cs t1 i1) (kB cs t2 i2) sp.toNatClampNeg dp.toNatClampNeg n.toNatClampNeg)) t2 i2 = (va_cpy (kB cs t1 i1) (kB cs t2 i2) sp.toNatClampNeg dp.toNatClampNeg n.toNatClampNeg) := u2_s
  refine va_copyl (ty := .long) hx hb hml hown hlink hnat hstat hini hK hP hD hS k1 k2 2 2 hg1 hg2 rfl rfl rfl g1 g2 g3 g4 g5 (fun _ _ => rfl) hR1 hR2 hdg (fun H1 l1 q1 q2 q3 => ?_)
  have hs2 : (cW cB cI cJ cZ cS cO b cs).set k2 (b + j2, .inl (cJ, kL cs t2 i2, .inr (.inl (va_cpy (kB cs t1 i1) (kB cs t2 i2) sp.toNatClampNeg dp.toNatClampNeg n.toNatClampNeg)))) = cW cB cI cJ cZ cS cO b (xB cs t2 i2 (va_cpy (kB cs t1 i1) (kB cs t2 i2) sp.toNatClampNeg dp.toNatClampNeg n.toNatClampNeg)) := by
    rw [← hset]
    show _ = (cW cB cI cJ cZ cS cO b cs).set k2 (b + j2, .inl (cJ, kL cs t2 i2, .inr (.inl (kB (xB cs t2 i2 (va_cpy (kB cs t1 i1) (kB cs t2 i2) sp.toNatClampNeg dp.toNatClampNeg n.toNatClampNeg)) t2 i2))))
    rw [e8]
  rw [hs2] at q1 q2
  exact kk H1 l1 q1 q2 q3
def sBy (cs : CS) (i x j : Nat) : CS := ((cs.1.1, cs.1.2.1, cs.1.2.2.filter (fun q => !(q == (387, i)))), cs.2.1, cs.2.2.1, u2 cs.2.2.2.1 382 i (some x), u2 cs.2.2.2.2.1 355 i (some j), cs.2.2.2.2.2.1, cs.2.2.2.2.2.2.1, cs.2.2.2.2.2.2.2.1, cs.2.2.2.2.2.2.2.2)
theorem vL_setB {b : Nat} {cs cs1 : CS} {i : Nat} {t f y : Nat} {l : List Nat} {v : Value} (hf : l[f]? = some y) (hv : vV b cs1 (t + f) i y = v) (h : ∀ x z, x ≠ t + f → t ≤ x → x < t + l.length → vV b cs1 x i z = vV b cs x i z) : (vL b cs i t l).set f v = vL b cs1 i t l := by
  apply List.ext_getElem?
  intro j
  have hlen : f < (vL b cs i t l).length := by rw [vL_len]; exact (List.getElem?_eq_some_iff.mp hf).1
  rw [List.getElem?_set, vL_get, vL_get]
  by_cases hj : f = j
  · subst hj
    rw [if_pos rfl, if_pos hlen, hf]
    show some v = some (vV b cs1 (t + f) i y)
    rw [hv]
  · rw [if_neg hj]
    cases hy : l[j]? with
    | none => rfl
    | some z =>
      have := (List.getElem?_eq_some_iff.mp hy).1
      show some (vV b cs (t + j) i z) = some (vV b cs1 (t + j) i z)
      rw [h (t + j) z (by omega) (by omega) (by omega)]
theorem tyX_len2 : ∀ X, (tyX X).length ≤ 16 := by intro X; unfold tyX; split <;> decide
def pBy (cs : CS) (i x j : Nat) : Option CS := if (11, i) ∈ kE cs ∧ kP cs 384 x = some j then some (sBy cs i x j) else none
theorem pBy_some {cs cs1 : CS} {i x j : Nat} (h : pBy cs i x j = some cs1) : ((11, i) ∈ kE cs ∧ kP cs 384 x = some j) ∧ sBy cs i x j = cs1 := by
  unfold pBy at h
  by_cases c : (11, i) ∈ kE cs ∧ kP cs 384 x = some j
  · rw [if_pos c] at h; exact ⟨c, Option.some.inj h⟩
  · rw [if_neg c] at h; cases h
theorem kE_nodup {cB cI cJ cZ cS cO : ClassId} {b : Nat} {cs : CS} {A : Nat → Prop} (hD : va_D A (cW cB cI cJ cZ cS cO b cs)) : ∀ (m n : Nat) (q : Nat × Nat), (kE cs)[m]? = some q → (kE cs)[n]? = some q → m = n := fun m n q h1 h2 => hD.1 m n _ _ (cW_at h1) (cW_at h2) rfl
theorem nodup_of {L : List (Nat × Nat)} (h : ∀ (m n : Nat) (q : Nat × Nat), L[m]? = some q → L[n]? = some q → m = n) : L.Nodup := by
  show L.Pairwise (fun x y => x ≠ y)
  rw [List.pairwise_iff_getElem]
  intro m n hm hn hmn he
  have := h m n L[n] (by rw [List.getElem?_eq_getElem hm, he]) (List.getElem?_eq_getElem hn)
  omega
theorem nodup_inj {L : List (Nat × Nat)} (h : L.Nodup) : ∀ (m n : Nat) (q : Nat × Nat), L[m]? = some q → L[n]? = some q → m = n := by
  intro m n q hm hn
  have h : L.Pairwise (fun x y => x ≠ y) := h
  rw [List.pairwise_iff_getElem] at h
  obtain ⟨m1, m2⟩ := List.getElem?_eq_some_iff.mp hm
  obtain ⟨n1, n2⟩ := List.getElem?_eq_some_iff.mp hn
  rcases Nat.lt_trichotomy m n with hl | hl | hl
  · exact absurd (m2.trans n2.symm) (h m n m1 n1 hl)
  · exact hl
  · exact absurd (n2.trans m2.symm) (h n m n1 m1 hl)
/-- a world made anew out of cells that stand in another one, each once -/
theorem cW_re {cB cI cJ cZ cS cO : ClassId} {b : Nat} {D : va_G} {cl : List vw_C} {A : Nat → Prop} {cs1 : CS} {ws : va_W} {H : Heap} (hP : va_P D cl ws H) (hD : va_D A ws) (hn : (kE cs1).Nodup) (g : Nat × Nat → Nat) (hg : ∀ q ∈ kE cs1, ws[g q]? = some (aC b cs1 q, eC cB cI cJ cZ cS cO b cs1 q)) (hi : ∀ q ∈ kE cs1, ∀ r ∈ kE cs1, g q = g r → q = r) : va_P D cl (cW cB cI cJ cZ cS cO b cs1) H ∧ va_D A (cW cB cI cJ cZ cS cO b cs1) := by
  have at' : ∀ (k : Nat) (y : Nat × va_E), (cW cB cI cJ cZ cS cO b cs1)[k]? = some y → ∃ q, (kE cs1)[k]? = some q ∧ q ∈ kE cs1 ∧ y = (aC b cs1 q, eC cB cI cJ cZ cS cO b cs1 q) := by
    intro k y hk
    unfold cW at hk
    rw [List.getElem?_map] at hk
    cases hq : (kE cs1)[k]? with
    | none => rw [hq] at hk; cases hk
    | some q => rw [hq] at hk; exact ⟨q, rfl, List.mem_of_getElem? hq, (Option.some.inj hk).symm⟩
  refine ⟨fun k y hk => ?_, fun m n y z hm hz he => ?_, fun k y hk => ?_⟩
  · obtain ⟨q, h1, h2, rfl⟩ := at' k y hk
    exact hP (g q) _ (hg q h2)
  · obtain ⟨q, h1, h2, rfl⟩ := at' m y hm
    obtain ⟨r, g1, g2, rfl⟩ := at' n z hz
    have e1 := hi q h2 r g2 (hD.1 _ _ _ _ (hg q h2) (hg r g2) he)
    subst e1
    exact nodup_inj hn _ _ _ h1 g1
  · obtain ⟨q, h1, h2, rfl⟩ := at' k y hk
    exact hD.2 (g q) _ (hg q h2)
theorem fpBy {p : Program} {l : Launch} {e : Env} {R : Room} {s : State} {m : MethodId} {args : Array Value} {below : List Frame} {meth : Method} {c : Code} {H : Heap} {locs : List Loc} {cells slots : Nat} {Q : State → Prop} {cc : ByteArray} {pc : Nat} {ls : Array Slot} {rest : List Value} {y0 : MethodName} {c0 : ByteArray} {n0 : Nat} {r0 : Option FieldType} {dC : Nat → ClassId} {dI : Nat → Nat → Nat} {cB cI cJ cZ cS cO : ClassId} {b : Nat} {cs : CS} {A : Nat → Prop} {H0 : Heap} {cs1 : CS} {i x j : Nat} (hx : p.tables.exec = Jvm.exec) (hb : c.code = cc) (hts : ∀ w ∈ wsOf y0 c0 n0 r0, w.before args s = true) (hown : s.vm.findClass RX10 = some m.cls) (hK : va_K (dC, dI) vwCl [(cB, .byte), (cI, .int), (cJ, .long), (cZ, .boolean), (cS, .object "StreamQueries$Source"), (cO, .object "java/lang/Object")] s) (hP : va_P (dC, dI) vwCl (cW cB cI cJ cZ cS cO b cs) H) (hD : va_D A (cW cB cI cJ cZ cS cO b cs)) (hS : va_S A H0 H locs) (hv : pBy cs i x j = some cs1) (hdg : decode cc pc = .ok (.putfield 22, 3)) (kk : ∀ (H1 : Heap) (locs1 : List Loc), va_P (dC, dI) vwCl (cW cB cI cJ cZ cS cO b cs1) H1 → va_D A (cW cB cI cJ cZ cS cO b cs1) → va_S A H0 H1 locs1 → W p l e R s m args below meth c H1 locs1 cells slots Q (F0 m (pc + 3) ls rest)) : W p l e R s m args below meth c H locs cells slots Q (F0 m pc ls (.ref (b + j) :: .ref (b + i) :: rest)) := by
  obtain ⟨⟨h1, h2⟩, rfl⟩ := pBy_some hv
  obtain ⟨k, hk, hg⟩ := cO_at (b := b) (cB := cB) (cI := cI) (cJ := cJ) (cZ := cZ) (cS := cS) (cO := cO) (by decide) h1
  refine va_put (D := (dC, dI)) (ci := 11) (v := .ref (b + j)) (ty := .array .byte) (C := RX10) (T := TX10) (N := 7) hx hb hts (fun w h => List.mem_cons_of_mem _ (uG_X10 w h)) tyX10 tyX10_ok nmX10 hown hK hP hD hS k hg rfl 3 (by decide) (hts _ (List.mem_cons_of_mem _ kw_324)) (fun _ h9 => h9) rfl (by decide +kernel) rfl rfl (by rw [vL_len]; decide) hdg (fun H1 l1 q1 q2 q3 => ?_)
  have hnd := nodup_of (kE_nodup hD)
  have mem' : ∀ q, q ∈ kE (sBy cs i x j) → q ∈ kE cs ∧ ¬ q = (387, i) := by
    intro q hq
    have hq := List.mem_filter.mp (show q ∈ (kE cs).filter (fun q => !(q == (387, i))) from hq)
    refine ⟨hq.1, fun e => ?_⟩
    have := hq.2
    rw [e] at this
    simp at this
  have hlen : ∀ q ∈ kE cs, (kE cs).idxOf q < (kE cs).length := fun q hq => List.idxOf_lt_length_of_mem hq
  have hix : ∀ q ∈ kE cs, (kE cs)[(kE cs).idxOf q]? = some q := fun q hq => by
    rw [List.getElem?_eq_getElem (hlen q hq), List.getElem_idxOf (hlen q hq)]
  have key := cW_re (b := b) (cB := cB) (cI := cI) (cJ := cJ) (cZ := cZ) (cS := cS) (cO := cO) (cs1 := sBy cs i x j) q1 q2 (hnd.sublist (List.filter_sublist (p := fun q => !(q == (387, i))))) (fun q => (kE cs).idxOf q) (fun q hq => ?_) (fun q hq r hr e => ?_)
  · exact kk H1 l1 key.1 key.2 q3
  · obtain ⟨m1, m2⟩ := mem' q hq
    rw [List.getElem?_set]
    by_cases hqk : k = (kE cs).idxOf q
    · have hqe : q = (11, i) := Option.some.inj ((hix q m1).symm.trans (hqk ▸ hk))
      subst hqe
      rw [if_pos hqk, if_pos (List.getElem?_eq_some_iff.mp hg).1]
      have e1 : aC b (sBy cs i x j) (11, i) = b + i := rfl
      rw [e1]
      have e2 : (vL b cs i (32 * 11) (tyX 11)).set 3 (Value.ref (b + j)) = vL b (sBy cs i x j) i (32 * 11) (tyX 11) := vL_setB (y := 3) rfl (by show rv b (u2 (kP cs) 355 i (some j) 355 i) = _; rw [u2_s]; rfl) (fun z w hz hz1 hz2 => by
        have hz2 : z < 32 * 11 + 7 := hz2
        have e9 : kP (sBy cs i x j) z i = kP cs z i := u2_n (fun q => hz q.1)
        have e8 : kR (sBy cs i x j) z i = kR cs z i := u2_n (fun q => by omega)
        match w with
        | 0 => rfl
        | 1 => rfl
        | 2 => show rv b (kR (sBy cs i x j) z i) = rv b (kR cs z i); rw [e8]
        | _ + 3 => show rv b (kP (sBy cs i x j) z i) = rv b (kP cs z i); rw [e9])
      rw [e2]
      rfl
    · rw [if_neg hqk, cW_at (hix q m1)]
      obtain ⟨Y, i1⟩ := q
      have hq11 : ¬ (Y = 11 ∧ i1 = i) := fun e => hqk (by rw [e.1, e.2]; exact kE_nodup hD _ _ _ hk (hix (11, i) (by rw [e.1, e.2] at m1; exact m1)))
      have hqB : ¬ (Y = 387 ∧ i1 = i) := fun e => m2 (by rw [e.1, e.2])
      have ea : aC b (sBy cs i x j) (Y, i1) = aC b cs (Y, i1) := by
        unfold aC
        by_cases hY : Y < 32
        · rw [if_pos hY, if_pos hY]
        · rw [if_neg hY, if_neg hY]
          show b + (u2 (kP cs) 355 i (some j) (Y - 32) i1).getD 0 = b + (kP cs (Y - 32) i1).getD 0
          rw [u2_n (fun e => hqB ⟨by omega, e.2⟩)]
      have ee : eC cB cI cJ cZ cS cO b (sBy cs i x j) (Y, i1) = eC cB cI cJ cZ cS cO b cs (Y, i1) := by
        unfold eC
        by_cases hY : Y < 32
        · rw [if_pos hY, if_pos hY]
          show Sum.inr (Y, vL b (sBy cs i x j) i1 (32 * Y) (tyX Y)) = Sum.inr (Y, vL b cs i1 (32 * Y) (tyX Y))
          rw [vL_eq (fun z w h1 h2 => ?_)]
          have hl1 := tyX_len2 Y
          have e9 : kP (sBy cs i x j) z i1 = kP cs z i1 := u2_n (fun e => hq11 ⟨by omega, e.2⟩)
          have e8 : kR (sBy cs i x j) z i1 = kR cs z i1 := u2_n (fun e => by omega)
          match w with
          | 0 => rfl
          | 1 => rfl
          | 2 => show rv b (kR (sBy cs i x j) z i1) = rv b (kR cs z i1); rw [e8]
          | _ + 3 => show rv b (kP (sBy cs i x j) z i1) = rv b (kP cs z i1); rw [e9]
        · rw [if_neg hY, if_neg hY]
          rfl
      rw [ea, ee]
  · have h1 := hix q (mem' q hq).1
    have h2 := hix r (mem' r hr).1
    rw [show (kE cs).idxOf q = (kE cs).idxOf r from e] at h1
    exact Option.some.inj (h1.symm.trans h2)
def ixA (i : Nat) (x : Int32) : Option Int32 := if x < 0 ∨ 256 ≤ x.toNatClampNeg then none else some (ixN i x.toNatClampNeg (soB i).length 0)
theorem strIdx_X10 {p : Program} {l : Launch} {e : Env} {R : Room} {s : State} {m : MethodId} {args : Array Value} {below : List Frame} {meth : Method} {c : Code} {H : Heap} {locs : List Loc} {cells slots : Nat} {Q : State → Prop} {cc : ByteArray} {pc : Nat} {ls : Array Slot} {rest : List Value} {y0 : MethodName} {c0 : ByteArray} {n0 : Nat} {r0 : Option FieldType} {dC : Nat → ClassId} {dI : Nat → Nat → Nat} {cB cI cJ cZ cS cO : ClassId} {b : Nat} {cs : CS} {A : Nat → Prop} {nL : Nat} {K V : Nat → Nat} {fz : Value} {i : Nat} {x v : Int32} (hx : p.tables.exec = Jvm.exec) (hb : c.code = cc) (hml : c.maxLocals = nL) (hts : ∀ w ∈ wsOf y0 c0 n0 r0, w.before args s = true) (hown : s.vm.findClass RX10 = some m.cls) (hK : va_K (dC, dI) vwCl [(cB, .byte), (cI, .int), (cJ, .long), (cZ, .boolean), (cS, .object "StreamQueries$Source"), (cO, .object "java/lang/Object")] s) (hP : va_P (dC, dI) vwCl (cW cB cI cJ cZ cS cO b cs) H) (hD : va_D A (cW cB cI cJ cZ cS cO b cs)) (hS : va_S A s.heap H locs) (hA : ∀ q, s.heap.size ≤ q → A q) (hZ : zE K V fz A s) (hi : i < 42) (hl0 : 0 < (soB i).length) (hc0 : cells ≤ R.cells) (hs0 : slots ≤ R.slots) (hv : ixA i x = some v) (hsz : ls.size = nL) (h8 : (rest.map fun v => v.category).sum ≤ 8) (hR1 : 6 ≤ R.frames) (hR2 : 400 ≤ R.locals) (hdg : decode cc pc = .ok (.invokevirtual 101, 3)) (kk : ∀ (H1 : Heap) (locs1 : List Loc), va_P (dC, dI) vwCl (cW cB cI cJ cZ cS cO b cs) H1 → va_D A (cW cB cI cJ cZ cS cO b cs) → va_S A s.heap H1 locs1 → W p l e R s m args below meth c H1 locs1 cells slots Q (F0 m (pc + 3) ls (.int v :: rest))) : W p l e R s m args below meth c H locs cells slots Q (F0 m pc ls (.int x :: .ref (K i) :: rest)) := by
  unfold ixA at hv
  by_cases hc : x < 0 ∨ 256 ≤ x.toNatClampNeg
  · rw [if_pos hc] at hv; cases hv
  rw [if_neg hc] at hv
  obtain ⟨j, hj, rfl⟩ := vp_in_of (x := x) (n := 256) hc (by omega)
  rw [nI_clamp (n := j) (by omega)] at hv
  have hPc : va_P (dC, dI) vwCl [] H := hP.sub [] rfl
  have hFc : ∀ q, va_A [] H.size q → A q := va_free (wc := []) hD hS hA [] rfl
  have hK4 := hK.sub (tys' := [(cB, .byte), (cI, .int), (cJ, .long), (cZ, .boolean)]) [0, 1, 2, 3] rfl
  refine va_calli (va_runV (As := [.int (nI j)]) (rest := rest) (b := K i) ⟨hx, hb, hml, hown, hts⟩ (t_indexOf l dC dI H.size cB cI cJ cZ i j K V fz hi hj hl0) (cwV 1 hts (gd_all (in_V kw_545 kw_546 kw_547 kw_184 kc_J0_indexOf_0f7a4)) rfl rfl rfl (by decide +kernel) ⟨by show 4 + 1 ≤ R.frames; omega, by show 8 + (2 + 11) + 240 ≤ R.locals; omega⟩)
    ⟨fun x U g mk q => by obtain ⟨q0, q1, qP, qK, qD, qZ⟩ := q; exact ⟨q0, q1, qP, va_K.moved (u := U) (U := U.calling g mk x) (Vm.Alike.refl U.vm) qK, qD, zE.same (u := U) (U := U.calling g mk x) rfl rfl qZ⟩, zE.recv hZ hi hS, fun U hU hW => ⟨rfl, by rw [hU], by rw [hU]; exact hPc, va_K.moved hW.alike hK4, ⟨fun i j x y h => by simp at h, fun k x h => by simp at h⟩, zE.go hZ hS hU hW hFc⟩⟩
    (g := F0 m pc ls _) rfl rfl hsz rfl (lv_room h8) hdg ⟨hc0, hs0⟩) hS (fun q _ h => hFc q h) hFc (fun r u t_ H1 locs1 ht hvm hw hB hz1 hk1 hS1 => ?_)
  subst hw
  cases hv
  refine kk H1 locs1 (hP.kept (fun k q hq => hk1 q.1 (hP k q hq).lt (fun h => ?_))) hD hS1
  rcases h with ⟨k2, e2, h⟩ | h
  · simp at h
  · exact absurd (hP k q hq).lt (Nat.not_lt.mpr h)

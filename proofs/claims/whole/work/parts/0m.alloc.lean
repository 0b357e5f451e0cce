/-! makings -/
theorem W_sz {p : Program} {l : Launch} {e : Env} {R : Room} {s : State} {m : MethodId} {args : Array Value} {below : List Frame} {meth : Method} {c : Code} {H : Heap} {locs : List Loc} {cells slots : Nat} {Q : State → Prop} {g : JFrame} (k : H.size ≤ s.heap.size + cells → W p l e R s m args below meth c H locs cells slots Q g) : W p l e R s m args below meth c H locs cells slots Q g := fun T hT X => k (by have h := X.same.2.2.1; rw [← hT]; exact h) T hT X
theorem va_S.comp {A : Nat → Prop} {H0 G H : Heap} {locs : List Loc} (h1 : va_S A H0 G []) (h2 : va_S A G H locs) : va_S A H0 H locs := ⟨Nat.le_trans h1.1 h2.1, fun q hq ha => (h2.2.1 q (Nat.lt_of_lt_of_le hq h1.1) ha).trans (h1.2.1 q hq ha), h2.2.2⟩
theorem va_S.nil {A : Nat → Prop} {H0 H : Heap} {locs : List Loc} (h : va_S A H0 H locs) : va_S A H0 H [] := ⟨h.1, h.2.1, fun _ h => by cases h⟩
theorem va_S.self {A : Nat → Prop} {H0 H : Heap} {locs : List Loc} (h : va_S A H0 H locs) : va_S A H H locs := ⟨Nat.le_refl _, fun _ _ _ => rfl, h.2.2⟩
def dv : Nat → Value | 0 => .int 0 | 1 => .long 0 | _ => .null
def nO (cs : CS) (X n : Nat) : CS := ((kK cs + 1, kM cs + n, kE cs ++ [(X, kK cs)]), fun t i => if t / 32 = X ∧ i = kK cs then 0 else kI cs t i, fun t i => if t / 32 = X ∧ i = kK cs then 0 else kJ cs t i, fun t i => if t / 32 = X ∧ i = kK cs then none else kR cs t i, fun t i => if t / 32 = X ∧ i = kK cs then none else kP cs t i, cs.2.2.2.2.2.1, cs.2.2.2.2.2.2.1, cs.2.2.2.2.2.2.2.1, cs.2.2.2.2.2.2.2.2)
def nwO (cs : CS) (X n : Nat) : Option CS := if ∀ q ∈ kE cs, q.2 < kK cs then some (nO cs X n) else none
theorem nwO_some {cs cs1 : CS} {X n : Nat} (h : nwO cs X n = some cs1) : (∀ q ∈ kE cs, q.2 < kK cs) ∧ nO cs X n = cs1 := by
  unfold nwO at h
  by_cases c : ∀ q ∈ kE cs, q.2 < kK cs
  · rw [if_pos c] at h; exact ⟨c, Option.some.inj h⟩
  · rw [if_neg c] at h; cases h
theorem nwO_k {cs cs1 : CS} {X n : Nat} (h : nwO cs X n = some cs1) : kK cs1 = kK cs + 1 ∧ kM cs1 = kM cs + n := by
  obtain ⟨-, rfl⟩ := nwO_some h
  exact ⟨rfl, rfl⟩
theorem vL_new {b : Nat} {cs : CS} {X n : Nat} : vL b (nO cs X n) (kK cs) (32 * X) (tyX X) = (tyX X).map dv := by
  apply List.ext_getElem?
  intro j
  rw [vL_get, List.getElem?_map]
  cases hy : (tyX X)[j]? with
  | none => rfl
  | some y =>
    have h1 := (List.getElem?_eq_some_iff.mp hy).1
    have h2 := tyX_len2 X
    have h3 : (32 * X + j) / 32 = X ∧ kK cs = kK cs := ⟨by omega, rfl⟩
    show some (vV b (nO cs X n) (32 * X + j) (kK cs) y) = some (dv y)
    match y with
    | 0 => show some (Value.int (if (32 * X + j) / 32 = X ∧ kK cs = kK cs then 0 else kI cs (32 * X + j) (kK cs))) = _; rw [if_pos h3]; rfl
    | 1 => show some (Value.long (if (32 * X + j) / 32 = X ∧ kK cs = kK cs then 0 else kJ cs (32 * X + j) (kK cs))) = _; rw [if_pos h3]; rfl
    | 2 => show some (rv b (if (32 * X + j) / 32 = X ∧ kK cs = kK cs then none else kR cs (32 * X + j) (kK cs))) = _; rw [if_pos h3]; rfl
    | _ + 3 => show some (rv b (if (32 * X + j) / 32 = X ∧ kK cs = kK cs then none else kP cs (32 * X + j) (kK cs))) = _; rw [if_pos h3]; rfl
theorem cW_new {cB cI cJ cZ cS cO : ClassId} {b : Nat} {cs : CS} {X n : Nat} (hX : X < 32) (hlt : ∀ q ∈ kE cs, q.2 < kK cs) : cW cB cI cJ cZ cS cO b (nO cs X n) = cW cB cI cJ cZ cS cO b cs ++ [(b + kK cs, .inr (X, (tyX X).map dv))] := by
  show ((kE cs ++ [(X, kK cs)]).map (fun q => (aC b (nO cs X n) q, eC cB cI cJ cZ cS cO b (nO cs X n) q))) = _
  rw [List.map_append]
  congr 1
  · refine List.map_congr_left (fun q hq => ?_)
    have h := hlt q hq
    obtain ⟨Y, i⟩ := q
    have h : i < kK cs := h
    have hn : ∀ t, ¬ (t / 32 = X ∧ i = kK cs) := fun t e => by omega
    have eI : ∀ t, kI (nO cs X n) t i = kI cs t i := fun t => if_neg (hn t)
    have eJ : ∀ t, kJ (nO cs X n) t i = kJ cs t i := fun t => if_neg (hn t)
    have eR : ∀ t, kR (nO cs X n) t i = kR cs t i := fun t => if_neg (hn t)
    have eP : ∀ t, kP (nO cs X n) t i = kP cs t i := fun t => if_neg (hn t)
    have ea : aC b (nO cs X n) (Y, i) = aC b cs (Y, i) := by
      unfold aC
      show (if Y < 32 then b + i else b + (kP (nO cs X n) (Y - 32) i).getD 0) = (if Y < 32 then b + i else b + (kP cs (Y - 32) i).getD 0)
      rw [eP]
    have ee : eC cB cI cJ cZ cS cO b (nO cs X n) (Y, i) = eC cB cI cJ cZ cS cO b cs (Y, i) := by
      unfold eC
      by_cases hY : Y < 32
      · rw [if_pos hY, if_pos hY]
        show Sum.inr (Y, vL b (nO cs X n) i (32 * Y) (tyX Y)) = Sum.inr (Y, vL b cs i (32 * Y) (tyX Y))
        rw [vL_eq (fun z w _ _ => ?_)]
        match w with
        | 0 => show Value.int _ = Value.int _; rw [eI]
        | 1 => show Value.long _ = Value.long _; rw [eJ]
        | 2 => show rv b _ = rv b _; rw [eR]
        | _ + 3 => show rv b _ = rv b _; rw [eP]
      · rw [if_neg hY, if_neg hY]; rfl
    rw [ea, ee]
  · show [(aC b (nO cs X n) (X, kK cs), eC cB cI cJ cZ cS cO b (nO cs X n) (X, kK cs))] = _
    rw [show aC b (nO cs X n) (X, kK cs) = b + kK cs from if_pos hX, show eC cB cI cJ cZ cS cO b (nO cs X n) (X, kK cs) = .inr (X, vL b (nO cs X n) (kK cs) (32 * X) (tyX X)) from if_pos hX, vL_new]
theorem new_X0_50 {p : Program} {l : Launch} {e : Env} {R : Room} {s : State} {m : MethodId} {args : Array Value} {below : List Frame} {meth : Method} {c : Code} {H : Heap} {locs : List Loc} {cells slots : Nat} {Q : State → Prop} {cc : ByteArray} {pc : Nat} {ls : Array Slot} {rest : List Value} {y0 : MethodName} {c0 : ByteArray} {n0 : Nat} {r0 : Option FieldType} {dC : Nat → ClassId} {dI : Nat → Nat → Nat} {cB cI cJ cZ cS cO : ClassId} {b : Nat} {cs : CS} {A : Nat → Prop} {Gh : Heap} {cs1 : CS} (hx : p.tables.exec = Jvm.exec) (hb : c.code = cc) (hts : ∀ w ∈ wsOf y0 c0 n0 r0, w.before args s = true) (hown : s.vm.findClass RX0 = some m.cls) (hK : va_K (dC, dI) vwCl [(cB, .byte), (cI, .int), (cJ, .long), (cZ, .boolean), (cS, .object "StreamQueries$Source"), (cO, .object "java/lang/Object")] s) (hP : va_P (dC, dI) vwCl (cW cB cI cJ cZ cS cO b cs) H) (hD : va_D A (cW cB cI cJ cZ cS cO b cs)) (hS : va_S A Gh H locs) (hG : va_S A s.heap Gh []) (hA : ∀ q, s.heap.size ≤ q → A q) (hgz : Gh.size = b + kK cs) (hcc : s.heap.size + cells = b + kK cs) (hR : cells + 1 ≤ R.cells ∧ slots + 15 ≤ R.slots) (hv : nwO cs 6 15 = some cs1) (hdg : decode cc pc = .ok (.new 50, 3)) (kk : ∀ (H1 : Heap) (locs1 : List Loc), va_P (dC, dI) vwCl (cW cB cI cJ cZ cS cO b cs1) H1 → va_D A (cW cB cI cJ cZ cS cO b cs1) → va_S A s.heap H1 [] → H1.size = b + kK cs1 → va_S A H1 H1 locs1 → W p l e R s m args below meth c H1 locs1 (cells + 1) (slots + 15) Q (F0 m (pc + 3) ls (.ref (b + kK cs) :: rest))) : W p l e R s m args below meth c H locs cells slots Q (F0 m pc ls rest) := by
  refine W_sz (fun hu => ?_)
  have hz : H.size = b + kK cs := by have := hS.1; omega
  obtain ⟨h1, rfl⟩ := nwO_some hv
  have hKn := hK.1 6 _ (show vwCl[6]? = some (RX5, TX5, 15) from rfl)
  have hSs := hG.comp hS
  refine W.newcK hx hb hown (hts _ (List.mem_cons_of_mem _ kw_1194)) (hts _ (List.mem_cons_of_mem _ kw_617)) (hts _ (List.mem_cons_of_mem _ kw_195)) rfl hdg hR.1 hR.2 hKn.2.1 hz fun H1 kC hkC e1 z1 o1 => ?_
  rw [← hz] at o1
  have hk : ∀ (k : Nat) (y : Nat × va_E), (cW cB cI cJ cZ cS cO b cs)[k]? = some y → H1[y.1]? = H[y.1]? := fun k y hy => o1 y.1 ((hP k y hy).lt)
  have hS1 : va_S A s.heap H1 locs := ⟨Nat.le_trans hSs.1 (by omega), fun y g1 g2 => (o1 y (Nat.lt_of_lt_of_le g1 hSs.1)).trans (hSs.2.1 y g1 g2), hSs.2.2⟩
  refine kk H1 locs ?_ ?_ hS1.nil (by rw [z1]; show b + kK cs + 1 = b + (kK cs + 1); omega) hS1.self
  · rw [cW_new (by decide) h1]
    refine (hP.kept hk).app (fun k y hy => ?_)
    have hz1 : k < 1 := (List.getElem?_eq_some_iff.mp hy).1
    rw [show k = 0 by omega] at hy
    cases hy
    exact ⟨_, rfl, (u_born tyX5 hts (fun w h => List.mem_cons_of_mem _ (uG_X5 w h)) hKn hkC e1 tyX5_ok).to (by decide +kernel)⟩
  · rw [cW_new (by decide) h1]
    exact hD.push hP hz.symm (hA _ (by rw [← hz]; exact hSs.1))
theorem new_X3_7 {p : Program} {l : Launch} {e : Env} {R : Room} {s : State} {m : MethodId} {args : Array Value} {below : List Frame} {meth : Method} {c : Code} {H : Heap} {locs : List Loc} {cells slots : Nat} {Q : State → Prop} {cc : ByteArray} {pc : Nat} {ls : Array Slot} {rest : List Value} {y0 : MethodName} {c0 : ByteArray} {n0 : Nat} {r0 : Option FieldType} {dC : Nat → ClassId} {dI : Nat → Nat → Nat} {cB cI cJ cZ cS cO : ClassId} {b : Nat} {cs : CS} {A : Nat → Prop} {Gh : Heap} {cs1 : CS} (hx : p.tables.exec = Jvm.exec) (hb : c.code = cc) (hts : ∀ w ∈ wsOf y0 c0 n0 r0, w.before args s = true) (hown : s.vm.findClass RX3 = some m.cls) (hK : va_K (dC, dI) vwCl [(cB, .byte), (cI, .int), (cJ, .long), (cZ, .boolean), (cS, .object "StreamQueries$Source"), (cO, .object "java/lang/Object")] s) (hP : va_P (dC, dI) vwCl (cW cB cI cJ cZ cS cO b cs) H) (hD : va_D A (cW cB cI cJ cZ cS cO b cs)) (hS : va_S A Gh H locs) (hG : va_S A s.heap Gh []) (hA : ∀ q, s.heap.size ≤ q → A q) (hgz : Gh.size = b + kK cs) (hcc : s.heap.size + cells = b + kK cs) (hR : cells + 1 ≤ R.cells ∧ slots + 3 ≤ R.slots) (hv : nwO cs 0 3 = some cs1) (hdg : decode cc pc = .ok (.new 7, 3)) (kk : ∀ (H1 : Heap) (locs1 : List Loc), va_P (dC, dI) vwCl (cW cB cI cJ cZ cS cO b cs1) H1 → va_D A (cW cB cI cJ cZ cS cO b cs1) → va_S A s.heap H1 [] → H1.size = b + kK cs1 → va_S A H1 H1 locs1 → W p l e R s m args below meth c H1 locs1 (cells + 1) (slots + 3) Q (F0 m (pc + 3) ls (.ref (b + kK cs) :: rest))) : W p l e R s m args below meth c H locs cells slots Q (F0 m pc ls rest) := by
  refine W_sz (fun hu => ?_)
  have hz : H.size = b + kK cs := by have := hS.1; omega
  obtain ⟨h1, rfl⟩ := nwO_some hv
  have hKn := hK.1 0 _ (show vwCl[0]? = some (RJx4a65c, TJx4a65c, 3) from rfl)
  have hSs := hG.comp hS
  refine W.newcK hx hb hown (hts _ (List.mem_cons_of_mem _ kw_740)) (hts _ (List.mem_cons_of_mem _ kw_741)) (hts _ (List.mem_cons_of_mem _ kw_199)) rfl hdg hR.1 hR.2 hKn.2.1 hz fun H1 kC hkC e1 z1 o1 => ?_
  rw [← hz] at o1
  have hk : ∀ (k : Nat) (y : Nat × va_E), (cW cB cI cJ cZ cS cO b cs)[k]? = some y → H1[y.1]? = H[y.1]? := fun k y hy => o1 y.1 ((hP k y hy).lt)
  have hS1 : va_S A s.heap H1 locs := ⟨Nat.le_trans hSs.1 (by omega), fun y g1 g2 => (o1 y (Nat.lt_of_lt_of_le g1 hSs.1)).trans (hSs.2.1 y g1 g2), hSs.2.2⟩
  refine kk H1 locs ?_ ?_ hS1.nil (by rw [z1]; show b + kK cs + 1 = b + (kK cs + 1); omega) hS1.self
  · rw [cW_new (by decide) h1]
    refine (hP.kept hk).app (fun k y hy => ?_)
    have hz1 : k < 1 := (List.getElem?_eq_some_iff.mp hy).1
    rw [show k = 0 by omega] at hy
    cases hy
    exact ⟨_, rfl, (u_born tyJx4a65c hts (fun w h => List.mem_cons_of_mem _ (uG_Jx4a65c w h)) hKn hkC e1 tyJx4a65c_ok).to (by decide +kernel)⟩
  · rw [cW_new (by decide) h1]
    exact hD.push hP hz.symm (hA _ (by rw [← hz]; exact hSs.1))
theorem new_X4_48 {p : Program} {l : Launch} {e : Env} {R : Room} {s : State} {m : MethodId} {args : Array Value} {below : List Frame} {meth : Method} {c : Code} {H : Heap} {locs : List Loc} {cells slots : Nat} {Q : State → Prop} {cc : ByteArray} {pc : Nat} {ls : Array Slot} {rest : List Value} {y0 : MethodName} {c0 : ByteArray} {n0 : Nat} {r0 : Option FieldType} {dC : Nat → ClassId} {dI : Nat → Nat → Nat} {cB cI cJ cZ cS cO : ClassId} {b : Nat} {cs : CS} {A : Nat → Prop} {Gh : Heap} {cs1 : CS} (hx : p.tables.exec = Jvm.exec) (hb : c.code = cc) (hts : ∀ w ∈ wsOf y0 c0 n0 r0, w.before args s = true) (hown : s.vm.findClass RX4 = some m.cls) (hK : va_K (dC, dI) vwCl [(cB, .byte), (cI, .int), (cJ, .long), (cZ, .boolean), (cS, .object "StreamQueries$Source"), (cO, .object "java/lang/Object")] s) (hP : va_P (dC, dI) vwCl (cW cB cI cJ cZ cS cO b cs) H) (hD : va_D A (cW cB cI cJ cZ cS cO b cs)) (hS : va_S A Gh H locs) (hG : va_S A s.heap Gh []) (hA : ∀ q, s.heap.size ≤ q → A q) (hgz : Gh.size = b + kK cs) (hcc : s.heap.size + cells = b + kK cs) (hR : cells + 1 ≤ R.cells ∧ slots + 15 ≤ R.slots) (hv : nwO cs 6 15 = some cs1) (hdg : decode cc pc = .ok (.new 48, 3)) (kk : ∀ (H1 : Heap) (locs1 : List Loc), va_P (dC, dI) vwCl (cW cB cI cJ cZ cS cO b cs1) H1 → va_D A (cW cB cI cJ cZ cS cO b cs1) → va_S A s.heap H1 [] → H1.size = b + kK cs1 → va_S A H1 H1 locs1 → W p l e R s m args below meth c H1 locs1 (cells + 1) (slots + 15) Q (F0 m (pc + 3) ls (.ref (b + kK cs) :: rest))) : W p l e R s m args below meth c H locs cells slots Q (F0 m pc ls rest) := by
  refine W_sz (fun hu => ?_)
  have hz : H.size = b + kK cs := by have := hS.1; omega
  obtain ⟨h1, rfl⟩ := nwO_some hv
  have hKn := hK.1 6 _ (show vwCl[6]? = some (RX5, TX5, 15) from rfl)
  have hSs := hG.comp hS
  refine W.newcK hx hb hown (hts _ (List.mem_cons_of_mem _ kw_1370)) (hts _ (List.mem_cons_of_mem _ kw_617)) (hts _ (List.mem_cons_of_mem _ kw_195)) rfl hdg hR.1 hR.2 hKn.2.1 hz fun H1 kC hkC e1 z1 o1 => ?_
  rw [← hz] at o1
  have hk : ∀ (k : Nat) (y : Nat × va_E), (cW cB cI cJ cZ cS cO b cs)[k]? = some y → H1[y.1]? = H[y.1]? := fun k y hy => o1 y.1 ((hP k y hy).lt)
  have hS1 : va_S A s.heap H1 locs := ⟨Nat.le_trans hSs.1 (by omega), fun y g1 g2 => (o1 y (Nat.lt_of_lt_of_le g1 hSs.1)).trans (hSs.2.1 y g1 g2), hSs.2.2⟩
  refine kk H1 locs ?_ ?_ hS1.nil (by rw [z1]; show b + kK cs + 1 = b + (kK cs + 1); omega) hS1.self
  · rw [cW_new (by decide) h1]
    refine (hP.kept hk).app (fun k y hy => ?_)
    have hz1 : k < 1 := (List.getElem?_eq_some_iff.mp hy).1
    rw [show k = 0 by omega] at hy
    cases hy
    exact ⟨_, rfl, (u_born tyX5 hts (fun w h => List.mem_cons_of_mem _ (uG_X5 w h)) hKn hkC e1 tyX5_ok).to (by decide +kernel)⟩
  · rw [cW_new (by decide) h1]
    exact hD.push hP hz.symm (hA _ (by rw [← hz]; exact hSs.1))
theorem new_X5_18 {p : Program} {l : Launch} {e : Env} {R : Room} {s : State} {m : MethodId} {args : Array Value} {below : List Frame} {meth : Method} {c : Code} {H : Heap} {locs : List Loc} {cells slots : Nat} {Q : State → Prop} {cc : ByteArray} {pc : Nat} {ls : Array Slot} {rest : List Value} {y0 : MethodName} {c0 : ByteArray} {n0 : Nat} {r0 : Option FieldType} {dC : Nat → ClassId} {dI : Nat → Nat → Nat} {cB cI cJ cZ cS cO : ClassId} {b : Nat} {cs : CS} {A : Nat → Prop} {Gh : Heap} {cs1 : CS} (hx : p.tables.exec = Jvm.exec) (hb : c.code = cc) (hts : ∀ w ∈ wsOf y0 c0 n0 r0, w.before args s = true) (hown : s.vm.findClass RX5 = some m.cls) (hK : va_K (dC, dI) vwCl [(cB, .byte), (cI, .int), (cJ, .long), (cZ, .boolean), (cS, .object "StreamQueries$Source"), (cO, .object "java/lang/Object")] s) (hP : va_P (dC, dI) vwCl (cW cB cI cJ cZ cS cO b cs) H) (hD : va_D A (cW cB cI cJ cZ cS cO b cs)) (hS : va_S A Gh H locs) (hG : va_S A s.heap Gh []) (hA : ∀ q, s.heap.size ≤ q → A q) (hgz : Gh.size = b + kK cs) (hcc : s.heap.size + cells = b + kK cs) (hR : cells + 1 ≤ R.cells ∧ slots + 12 ≤ R.slots) (hv : nwO cs 7 12 = some cs1) (hdg : decode cc pc = .ok (.new 18, 3)) (kk : ∀ (H1 : Heap) (locs1 : List Loc), va_P (dC, dI) vwCl (cW cB cI cJ cZ cS cO b cs1) H1 → va_D A (cW cB cI cJ cZ cS cO b cs1) → va_S A s.heap H1 [] → H1.size = b + kK cs1 → va_S A H1 H1 locs1 → W p l e R s m args below meth c H1 locs1 (cells + 1) (slots + 12) Q (F0 m (pc + 3) ls (.ref (b + kK cs) :: rest))) : W p l e R s m args below meth c H locs cells slots Q (F0 m pc ls rest) := by
  refine W_sz (fun hu => ?_)
  have hz : H.size = b + kK cs := by have := hS.1; omega
  obtain ⟨h1, rfl⟩ := nwO_some hv
  have hKn := hK.1 7 _ (show vwCl[7]? = some (RX6, TX6, 12) from rfl)
  have hSs := hG.comp hS
  refine W.newcK hx hb hown (hts _ (List.mem_cons_of_mem _ kw_654)) (hts _ (List.mem_cons_of_mem _ kw_1046)) (hts _ (List.mem_cons_of_mem _ kw_203)) rfl hdg hR.1 hR.2 hKn.2.1 hz fun H1 kC hkC e1 z1 o1 => ?_
  rw [← hz] at o1
  have hk : ∀ (k : Nat) (y : Nat × va_E), (cW cB cI cJ cZ cS cO b cs)[k]? = some y → H1[y.1]? = H[y.1]? := fun k y hy => o1 y.1 ((hP k y hy).lt)
  have hS1 : va_S A s.heap H1 locs := ⟨Nat.le_trans hSs.1 (by omega), fun y g1 g2 => (o1 y (Nat.lt_of_lt_of_le g1 hSs.1)).trans (hSs.2.1 y g1 g2), hSs.2.2⟩
  refine kk H1 locs ?_ ?_ hS1.nil (by rw [z1]; show b + kK cs + 1 = b + (kK cs + 1); omega) hS1.self
  · rw [cW_new (by decide) h1]
    refine (hP.kept hk).app (fun k y hy => ?_)
    have hz1 : k < 1 := (List.getElem?_eq_some_iff.mp hy).1
    rw [show k = 0 by omega] at hy
    cases hy
    exact ⟨_, rfl, (u_born tyX6 hts (fun w h => List.mem_cons_of_mem _ (uG_X6 w h)) hKn hkC e1 tyX6_ok).to (by decide +kernel)⟩
  · rw [cW_new (by decide) h1]
    exact hD.push hP hz.symm (hA _ (by rw [← hz]; exact hSs.1))
theorem new_X5_9 {p : Program} {l : Launch} {e : Env} {R : Room} {s : State} {m : MethodId} {args : Array Value} {below : List Frame} {meth : Method} {c : Code} {H : Heap} {locs : List Loc} {cells slots : Nat} {Q : State → Prop} {cc : ByteArray} {pc : Nat} {ls : Array Slot} {rest : List Value} {y0 : MethodName} {c0 : ByteArray} {n0 : Nat} {r0 : Option FieldType} {dC : Nat → ClassId} {dI : Nat → Nat → Nat} {cB cI cJ cZ cS cO : ClassId} {b : Nat} {cs : CS} {A : Nat → Prop} {Gh : Heap} {cs1 : CS} (hx : p.tables.exec = Jvm.exec) (hb : c.code = cc) (hts : ∀ w ∈ wsOf y0 c0 n0 r0, w.before args s = true) (hown : s.vm.findClass RX5 = some m.cls) (hK : va_K (dC, dI) vwCl [(cB, .byte), (cI, .int), (cJ, .long), (cZ, .boolean), (cS, .object "StreamQueries$Source"), (cO, .object "java/lang/Object")] s) (hP : va_P (dC, dI) vwCl (cW cB cI cJ cZ cS cO b cs) H) (hD : va_D A (cW cB cI cJ cZ cS cO b cs)) (hS : va_S A Gh H locs) (hG : va_S A s.heap Gh []) (hA : ∀ q, s.heap.size ≤ q → A q) (hgz : Gh.size = b + kK cs) (hcc : s.heap.size + cells = b + kK cs) (hR : cells + 1 ≤ R.cells ∧ slots + 5 ≤ R.slots) (hv : nwO cs 3 5 = some cs1) (hdg : decode cc pc = .ok (.new 9, 3)) (kk : ∀ (H1 : Heap) (locs1 : List Loc), va_P (dC, dI) vwCl (cW cB cI cJ cZ cS cO b cs1) H1 → va_D A (cW cB cI cJ cZ cS cO b cs1) → va_S A s.heap H1 [] → H1.size = b + kK cs1 → va_S A H1 H1 locs1 → W p l e R s m args below meth c H1 locs1 (cells + 1) (slots + 5) Q (F0 m (pc + 3) ls (.ref (b + kK cs) :: rest))) : W p l e R s m args below meth c H locs cells slots Q (F0 m pc ls rest) := by
  refine W_sz (fun hu => ?_)
  have hz : H.size = b + kK cs := by have := hS.1; omega
  obtain ⟨h1, rfl⟩ := nwO_some hv
  have hKn := hK.1 3 _ (show vwCl[3]? = some (RX2, TX2, 5) from rfl)
  have hSs := hG.comp hS
  refine W.newcK hx hb hown (hts _ (List.mem_cons_of_mem _ kw_622)) (hts _ (List.mem_cons_of_mem _ kw_623)) (hts _ (List.mem_cons_of_mem _ kw_196)) rfl hdg hR.1 hR.2 hKn.2.1 hz fun H1 kC hkC e1 z1 o1 => ?_
  rw [← hz] at o1
  have hk : ∀ (k : Nat) (y : Nat × va_E), (cW cB cI cJ cZ cS cO b cs)[k]? = some y → H1[y.1]? = H[y.1]? := fun k y hy => o1 y.1 ((hP k y hy).lt)
  have hS1 : va_S A s.heap H1 locs := ⟨Nat.le_trans hSs.1 (by omega), fun y g1 g2 => (o1 y (Nat.lt_of_lt_of_le g1 hSs.1)).trans (hSs.2.1 y g1 g2), hSs.2.2⟩
  refine kk H1 locs ?_ ?_ hS1.nil (by rw [z1]; show b + kK cs + 1 = b + (kK cs + 1); omega) hS1.self
  · rw [cW_new (by decide) h1]
    refine (hP.kept hk).app (fun k y hy => ?_)
    have hz1 : k < 1 := (List.getElem?_eq_some_iff.mp hy).1
    rw [show k = 0 by omega] at hy
    cases hy
    exact ⟨_, rfl, (u_born tyX2 hts (fun w h => List.mem_cons_of_mem _ (uG_X2 w h)) hKn hkC e1 tyX2_ok).to (by decide +kernel)⟩
  · rw [cW_new (by decide) h1]
    exact hD.push hP hz.symm (hA _ (by rw [← hz]; exact hSs.1))
theorem new_X6_27 {p : Program} {l : Launch} {e : Env} {R : Room} {s : State} {m : MethodId} {args : Array Value} {below : List Frame} {meth : Method} {c : Code} {H : Heap} {locs : List Loc} {cells slots : Nat} {Q : State → Prop} {cc : ByteArray} {pc : Nat} {ls : Array Slot} {rest : List Value} {y0 : MethodName} {c0 : ByteArray} {n0 : Nat} {r0 : Option FieldType} {dC : Nat → ClassId} {dI : Nat → Nat → Nat} {cB cI cJ cZ cS cO : ClassId} {b : Nat} {cs : CS} {A : Nat → Prop} {Gh : Heap} {cs1 : CS} (hx : p.tables.exec = Jvm.exec) (hb : c.code = cc) (hts : ∀ w ∈ wsOf y0 c0 n0 r0, w.before args s = true) (hown : s.vm.findClass RX6 = some m.cls) (hK : va_K (dC, dI) vwCl [(cB, .byte), (cI, .int), (cJ, .long), (cZ, .boolean), (cS, .object "StreamQueries$Source"), (cO, .object "java/lang/Object")] s) (hP : va_P (dC, dI) vwCl (cW cB cI cJ cZ cS cO b cs) H) (hD : va_D A (cW cB cI cJ cZ cS cO b cs)) (hS : va_S A Gh H locs) (hG : va_S A s.heap Gh []) (hA : ∀ q, s.heap.size ≤ q → A q) (hgz : Gh.size = b + kK cs) (hcc : s.heap.size + cells = b + kK cs) (hR : cells + 1 ≤ R.cells ∧ slots + 5 ≤ R.slots) (hv : nwO cs 3 5 = some cs1) (hdg : decode cc pc = .ok (.new 27, 3)) (kk : ∀ (H1 : Heap) (locs1 : List Loc), va_P (dC, dI) vwCl (cW cB cI cJ cZ cS cO b cs1) H1 → va_D A (cW cB cI cJ cZ cS cO b cs1) → va_S A s.heap H1 [] → H1.size = b + kK cs1 → va_S A H1 H1 locs1 → W p l e R s m args below meth c H1 locs1 (cells + 1) (slots + 5) Q (F0 m (pc + 3) ls (.ref (b + kK cs) :: rest))) : W p l e R s m args below meth c H locs cells slots Q (F0 m pc ls rest) := by
  refine W_sz (fun hu => ?_)
  have hz : H.size = b + kK cs := by have := hS.1; omega
  obtain ⟨h1, rfl⟩ := nwO_some hv
  have hKn := hK.1 3 _ (show vwCl[3]? = some (RX2, TX2, 5) from rfl)
  have hSs := hG.comp hS
  refine W.newcK hx hb hown (hts _ (List.mem_cons_of_mem _ kw_1052)) (hts _ (List.mem_cons_of_mem _ kw_623)) (hts _ (List.mem_cons_of_mem _ kw_196)) rfl hdg hR.1 hR.2 hKn.2.1 hz fun H1 kC hkC e1 z1 o1 => ?_
  rw [← hz] at o1
  have hk : ∀ (k : Nat) (y : Nat × va_E), (cW cB cI cJ cZ cS cO b cs)[k]? = some y → H1[y.1]? = H[y.1]? := fun k y hy => o1 y.1 ((hP k y hy).lt)
  have hS1 : va_S A s.heap H1 locs := ⟨Nat.le_trans hSs.1 (by omega), fun y g1 g2 => (o1 y (Nat.lt_of_lt_of_le g1 hSs.1)).trans (hSs.2.1 y g1 g2), hSs.2.2⟩
  refine kk H1 locs ?_ ?_ hS1.nil (by rw [z1]; show b + kK cs + 1 = b + (kK cs + 1); omega) hS1.self
  · rw [cW_new (by decide) h1]
    refine (hP.kept hk).app (fun k y hy => ?_)
    have hz1 : k < 1 := (List.getElem?_eq_some_iff.mp hy).1
    rw [show k = 0 by omega] at hy
    cases hy
    exact ⟨_, rfl, (u_born tyX2 hts (fun w h => List.mem_cons_of_mem _ (uG_X2 w h)) hKn hkC e1 tyX2_ok).to (by decide +kernel)⟩
  · rw [cW_new (by decide) h1]
    exact hD.push hP hz.symm (hA _ (by rw [← hz]; exact hSs.1))
theorem new_X9_15 {p : Program} {l : Launch} {e : Env} {R : Room} {s : State} {m : MethodId} {args : Array Value} {below : List Frame} {meth : Method} {c : Code} {H : Heap} {locs : List Loc} {cells slots : Nat} {Q : State → Prop} {cc : ByteArray} {pc : Nat} {ls : Array Slot} {rest : List Value} {y0 : MethodName} {c0 : ByteArray} {n0 : Nat} {r0 : Option FieldType} {dC : Nat → ClassId} {dI : Nat → Nat → Nat} {cB cI cJ cZ cS cO : ClassId} {b : Nat} {cs : CS} {A : Nat → Prop} {Gh : Heap} {cs1 : CS} (hx : p.tables.exec = Jvm.exec) (hb : c.code = cc) (hts : ∀ w ∈ wsOf y0 c0 n0 r0, w.before args s = true) (hown : s.vm.findClass RX9 = some m.cls) (hK : va_K (dC, dI) vwCl [(cB, .byte), (cI, .int), (cJ, .long), (cZ, .boolean), (cS, .object "StreamQueries$Source"), (cO, .object "java/lang/Object")] s) (hP : va_P (dC, dI) vwCl (cW cB cI cJ cZ cS cO b cs) H) (hD : va_D A (cW cB cI cJ cZ cS cO b cs)) (hS : va_S A Gh H locs) (hG : va_S A s.heap Gh []) (hA : ∀ q, s.heap.size ≤ q → A q) (hgz : Gh.size = b + kK cs) (hcc : s.heap.size + cells = b + kK cs) (hR : cells + 1 ≤ R.cells ∧ slots + 13 ≤ R.slots) (hv : nwO cs 2 13 = some cs1) (hdg : decode cc pc = .ok (.new 15, 3)) (kk : ∀ (H1 : Heap) (locs1 : List Loc), va_P (dC, dI) vwCl (cW cB cI cJ cZ cS cO b cs1) H1 → va_D A (cW cB cI cJ cZ cS cO b cs1) → va_S A s.heap H1 [] → H1.size = b + kK cs1 → va_S A H1 H1 locs1 → W p l e R s m args below meth c H1 locs1 (cells + 1) (slots + 13) Q (F0 m (pc + 3) ls (.ref (b + kK cs) :: rest))) : W p l e R s m args below meth c H locs cells slots Q (F0 m pc ls rest) := by
  refine W_sz (fun hu => ?_)
  have hz : H.size = b + kK cs := by have := hS.1; omega
  obtain ⟨h1, rfl⟩ := nwO_some hv
  have hKn := hK.1 2 _ (show vwCl[2]? = some (RX1, TX1, 13) from rfl)
  have hSs := hG.comp hS
  refine W.newcK hx hb hown (hts _ (List.mem_cons_of_mem _ kw_609)) (hts _ (List.mem_cons_of_mem _ kw_363)) (hts _ (List.mem_cons_of_mem _ kw_189)) rfl hdg hR.1 hR.2 hKn.2.1 hz fun H1 kC hkC e1 z1 o1 => ?_
  rw [← hz] at o1
  have hk : ∀ (k : Nat) (y : Nat × va_E), (cW cB cI cJ cZ cS cO b cs)[k]? = some y → H1[y.1]? = H[y.1]? := fun k y hy => o1 y.1 ((hP k y hy).lt)
  have hS1 : va_S A s.heap H1 locs := ⟨Nat.le_trans hSs.1 (by omega), fun y g1 g2 => (o1 y (Nat.lt_of_lt_of_le g1 hSs.1)).trans (hSs.2.1 y g1 g2), hSs.2.2⟩
  refine kk H1 locs ?_ ?_ hS1.nil (by rw [z1]; show b + kK cs + 1 = b + (kK cs + 1); omega) hS1.self
  · rw [cW_new (by decide) h1]
    refine (hP.kept hk).app (fun k y hy => ?_)
    have hz1 : k < 1 := (List.getElem?_eq_some_iff.mp hy).1
    rw [show k = 0 by omega] at hy
    cases hy
    exact ⟨_, rfl, (u_born tyX1 hts (fun w h => List.mem_cons_of_mem _ (uG_X1 w h)) hKn hkC e1 tyX1_ok).to (by decide +kernel)⟩
  · rw [cW_new (by decide) h1]
    exact hD.push hP hz.symm (hA _ (by rw [← hz]; exact hSs.1))
theorem new_X9_30 {p : Program} {l : Launch} {e : Env} {R : Room} {s : State} {m : MethodId} {args : Array Value} {below : List Frame} {meth : Method} {c : Code} {H : Heap} {locs : List Loc} {cells slots : Nat} {Q : State → Prop} {cc : ByteArray} {pc : Nat} {ls : Array Slot} {rest : List Value} {y0 : MethodName} {c0 : ByteArray} {n0 : Nat} {r0 : Option FieldType} {dC : Nat → ClassId} {dI : Nat → Nat → Nat} {cB cI cJ cZ cS cO : ClassId} {b : Nat} {cs : CS} {A : Nat → Prop} {Gh : Heap} {cs1 : CS} (hx : p.tables.exec = Jvm.exec) (hb : c.code = cc) (hts : ∀ w ∈ wsOf y0 c0 n0 r0, w.before args s = true) (hown : s.vm.findClass RX9 = some m.cls) (hK : va_K (dC, dI) vwCl [(cB, .byte), (cI, .int), (cJ, .long), (cZ, .boolean), (cS, .object "StreamQueries$Source"), (cO, .object "java/lang/Object")] s) (hP : va_P (dC, dI) vwCl (cW cB cI cJ cZ cS cO b cs) H) (hD : va_D A (cW cB cI cJ cZ cS cO b cs)) (hS : va_S A Gh H locs) (hG : va_S A s.heap Gh []) (hA : ∀ q, s.heap.size ≤ q → A q) (hgz : Gh.size = b + kK cs) (hcc : s.heap.size + cells = b + kK cs) (hR : cells + 1 ≤ R.cells ∧ slots + 12 ≤ R.slots) (hv : nwO cs 7 12 = some cs1) (hdg : decode cc pc = .ok (.new 30, 3)) (kk : ∀ (H1 : Heap) (locs1 : List Loc), va_P (dC, dI) vwCl (cW cB cI cJ cZ cS cO b cs1) H1 → va_D A (cW cB cI cJ cZ cS cO b cs1) → va_S A s.heap H1 [] → H1.size = b + kK cs1 → va_S A H1 H1 locs1 → W p l e R s m args below meth c H1 locs1 (cells + 1) (slots + 12) Q (F0 m (pc + 3) ls (.ref (b + kK cs) :: rest))) : W p l e R s m args below meth c H locs cells slots Q (F0 m pc ls rest) := by
  refine W_sz (fun hu => ?_)
  have hz : H.size = b + kK cs := by have := hS.1; omega
  obtain ⟨h1, rfl⟩ := nwO_some hv
  have hKn := hK.1 7 _ (show vwCl[7]? = some (RX6, TX6, 12) from rfl)
  have hSs := hG.comp hS
  refine W.newcK hx hb hown (hts _ (List.mem_cons_of_mem _ kw_612)) (hts _ (List.mem_cons_of_mem _ kw_1046)) (hts _ (List.mem_cons_of_mem _ kw_203)) rfl hdg hR.1 hR.2 hKn.2.1 hz fun H1 kC hkC e1 z1 o1 => ?_
  rw [← hz] at o1
  have hk : ∀ (k : Nat) (y : Nat × va_E), (cW cB cI cJ cZ cS cO b cs)[k]? = some y → H1[y.1]? = H[y.1]? := fun k y hy => o1 y.1 ((hP k y hy).lt)
  have hS1 : va_S A s.heap H1 locs := ⟨Nat.le_trans hSs.1 (by omega), fun y g1 g2 => (o1 y (Nat.lt_of_lt_of_le g1 hSs.1)).trans (hSs.2.1 y g1 g2), hSs.2.2⟩
  refine kk H1 locs ?_ ?_ hS1.nil (by rw [z1]; show b + kK cs + 1 = b + (kK cs + 1); omega) hS1.self
  · rw [cW_new (by decide) h1]
    refine (hP.kept hk).app (fun k y hy => ?_)
    have hz1 : k < 1 := (List.getElem?_eq_some_iff.mp hy).1
    rw [show k = 0 by omega] at hy
    cases hy
    exact ⟨_, rfl, (u_born tyX6 hts (fun w h => List.mem_cons_of_mem _ (uG_X6 w h)) hKn hkC e1 tyX6_ok).to (by decide +kernel)⟩
  · rw [cW_new (by decide) h1]
    exact hD.push hP hz.symm (hA _ (by rw [← hz]; exact hSs.1))
theorem new_X9_36 {p : Program} {l : Launch} {e : Env} {R : Room} {s : State} {m : MethodId} {args : Array Value} {below : List Frame} {meth : Method} {c : Code} {H : Heap} {locs : List Loc} {cells slots : Nat} {Q : State → Prop} {cc : ByteArray} {pc : Nat} {ls : Array Slot} {rest : List Value} {y0 : MethodName} {c0 : ByteArray} {n0 : Nat} {r0 : Option FieldType} {dC : Nat → ClassId} {dI : Nat → Nat → Nat} {cB cI cJ cZ cS cO : ClassId} {b : Nat} {cs : CS} {A : Nat → Prop} {Gh : Heap} {cs1 : CS} (hx : p.tables.exec = Jvm.exec) (hb : c.code = cc) (hts : ∀ w ∈ wsOf y0 c0 n0 r0, w.before args s = true) (hown : s.vm.findClass RX9 = some m.cls) (hK : va_K (dC, dI) vwCl [(cB, .byte), (cI, .int), (cJ, .long), (cZ, .boolean), (cS, .object "StreamQueries$Source"), (cO, .object "java/lang/Object")] s) (hP : va_P (dC, dI) vwCl (cW cB cI cJ cZ cS cO b cs) H) (hD : va_D A (cW cB cI cJ cZ cS cO b cs)) (hS : va_S A Gh H locs) (hG : va_S A s.heap Gh []) (hA : ∀ q, s.heap.size ≤ q → A q) (hgz : Gh.size = b + kK cs) (hcc : s.heap.size + cells = b + kK cs) (hR : cells + 1 ≤ R.cells ∧ slots + 6 ≤ R.slots) (hv : nwO cs 4 6 = some cs1) (hdg : decode cc pc = .ok (.new 36, 3)) (kk : ∀ (H1 : Heap) (locs1 : List Loc), va_P (dC, dI) vwCl (cW cB cI cJ cZ cS cO b cs1) H1 → va_D A (cW cB cI cJ cZ cS cO b cs1) → va_S A s.heap H1 [] → H1.size = b + kK cs1 → va_S A H1 H1 locs1 → W p l e R s m args below meth c H1 locs1 (cells + 1) (slots + 6) Q (F0 m (pc + 3) ls (.ref (b + kK cs) :: rest))) : W p l e R s m args below meth c H locs cells slots Q (F0 m pc ls rest) := by
  refine W_sz (fun hu => ?_)
  have hz : H.size = b + kK cs := by have := hS.1; omega
  obtain ⟨h1, rfl⟩ := nwO_some hv
  have hKn := hK.1 4 _ (show vwCl[4]? = some (RX3, TX3, 6) from rfl)
  have hSs := hG.comp hS
  refine W.newcK hx hb hown (hts _ (List.mem_cons_of_mem _ kw_614)) (hts _ (List.mem_cons_of_mem _ kw_615)) (hts _ (List.mem_cons_of_mem _ kw_194)) rfl hdg hR.1 hR.2 hKn.2.1 hz fun H1 kC hkC e1 z1 o1 => ?_
  rw [← hz] at o1
  have hk : ∀ (k : Nat) (y : Nat × va_E), (cW cB cI cJ cZ cS cO b cs)[k]? = some y → H1[y.1]? = H[y.1]? := fun k y hy => o1 y.1 ((hP k y hy).lt)
  have hS1 : va_S A s.heap H1 locs := ⟨Nat.le_trans hSs.1 (by omega), fun y g1 g2 => (o1 y (Nat.lt_of_lt_of_le g1 hSs.1)).trans (hSs.2.1 y g1 g2), hSs.2.2⟩
  refine kk H1 locs ?_ ?_ hS1.nil (by rw [z1]; show b + kK cs + 1 = b + (kK cs + 1); omega) hS1.self
  · rw [cW_new (by decide) h1]
    refine (hP.kept hk).app (fun k y hy => ?_)
    have hz1 : k < 1 := (List.getElem?_eq_some_iff.mp hy).1
    rw [show k = 0 by omega] at hy
    cases hy
    exact ⟨_, rfl, (u_born tyX3 hts (fun w h => List.mem_cons_of_mem _ (uG_X3 w h)) hKn hkC e1 tyX3_ok).to (by decide +kernel)⟩
  · rw [cW_new (by decide) h1]
    exact hD.push hP hz.symm (hA _ (by rw [← hz]; exact hSs.1))
theorem new_X9_38 {p : Program} {l : Launch} {e : Env} {R : Room} {s : State} {m : MethodId} {args : Array Value} {below : List Frame} {meth : Method} {c : Code} {H : Heap} {locs : List Loc} {cells slots : Nat} {Q : State → Prop} {cc : ByteArray} {pc : Nat} {ls : Array Slot} {rest : List Value} {y0 : MethodName} {c0 : ByteArray} {n0 : Nat} {r0 : Option FieldType} {dC : Nat → ClassId} {dI : Nat → Nat → Nat} {cB cI cJ cZ cS cO : ClassId} {b : Nat} {cs : CS} {A : Nat → Prop} {Gh : Heap} {cs1 : CS} (hx : p.tables.exec = Jvm.exec) (hb : c.code = cc) (hts : ∀ w ∈ wsOf y0 c0 n0 r0, w.before args s = true) (hown : s.vm.findClass RX9 = some m.cls) (hK : va_K (dC, dI) vwCl [(cB, .byte), (cI, .int), (cJ, .long), (cZ, .boolean), (cS, .object "StreamQueries$Source"), (cO, .object "java/lang/Object")] s) (hP : va_P (dC, dI) vwCl (cW cB cI cJ cZ cS cO b cs) H) (hD : va_D A (cW cB cI cJ cZ cS cO b cs)) (hS : va_S A Gh H locs) (hG : va_S A s.heap Gh []) (hA : ∀ q, s.heap.size ≤ q → A q) (hgz : Gh.size = b + kK cs) (hcc : s.heap.size + cells = b + kK cs) (hR : cells + 1 ≤ R.cells ∧ slots + 15 ≤ R.slots) (hv : nwO cs 6 15 = some cs1) (hdg : decode cc pc = .ok (.new 38, 3)) (kk : ∀ (H1 : Heap) (locs1 : List Loc), va_P (dC, dI) vwCl (cW cB cI cJ cZ cS cO b cs1) H1 → va_D A (cW cB cI cJ cZ cS cO b cs1) → va_S A s.heap H1 [] → H1.size = b + kK cs1 → va_S A H1 H1 locs1 → W p l e R s m args below meth c H1 locs1 (cells + 1) (slots + 15) Q (F0 m (pc + 3) ls (.ref (b + kK cs) :: rest))) : W p l e R s m args below meth c H locs cells slots Q (F0 m pc ls rest) := by
  refine W_sz (fun hu => ?_)
  have hz : H.size = b + kK cs := by have := hS.1; omega
  obtain ⟨h1, rfl⟩ := nwO_some hv
  have hKn := hK.1 6 _ (show vwCl[6]? = some (RX5, TX5, 15) from rfl)
  have hSs := hG.comp hS
  refine W.newcK hx hb hown (hts _ (List.mem_cons_of_mem _ kw_616)) (hts _ (List.mem_cons_of_mem _ kw_617)) (hts _ (List.mem_cons_of_mem _ kw_195)) rfl hdg hR.1 hR.2 hKn.2.1 hz fun H1 kC hkC e1 z1 o1 => ?_
  rw [← hz] at o1
  have hk : ∀ (k : Nat) (y : Nat × va_E), (cW cB cI cJ cZ cS cO b cs)[k]? = some y → H1[y.1]? = H[y.1]? := fun k y hy => o1 y.1 ((hP k y hy).lt)
  have hS1 : va_S A s.heap H1 locs := ⟨Nat.le_trans hSs.1 (by omega), fun y g1 g2 => (o1 y (Nat.lt_of_lt_of_le g1 hSs.1)).trans (hSs.2.1 y g1 g2), hSs.2.2⟩
  refine kk H1 locs ?_ ?_ hS1.nil (by rw [z1]; show b + kK cs + 1 = b + (kK cs + 1); omega) hS1.self
  · rw [cW_new (by decide) h1]
    refine (hP.kept hk).app (fun k y hy => ?_)
    have hz1 : k < 1 := (List.getElem?_eq_some_iff.mp hy).1
    rw [show k = 0 by omega] at hy
    cases hy
    exact ⟨_, rfl, (u_born tyX5 hts (fun w h => List.mem_cons_of_mem _ (uG_X5 w h)) hKn hkC e1 tyX5_ok).to (by decide +kernel)⟩
  · rw [cW_new (by decide) h1]
    exact hD.push hP hz.symm (hA _ (by rw [← hz]; exact hSs.1))
theorem new_X9_68 {p : Program} {l : Launch} {e : Env} {R : Room} {s : State} {m : MethodId} {args : Array Value} {below : List Frame} {meth : Method} {c : Code} {H : Heap} {locs : List Loc} {cells slots : Nat} {Q : State → Prop} {cc : ByteArray} {pc : Nat} {ls : Array Slot} {rest : List Value} {y0 : MethodName} {c0 : ByteArray} {n0 : Nat} {r0 : Option FieldType} {dC : Nat → ClassId} {dI : Nat → Nat → Nat} {cB cI cJ cZ cS cO : ClassId} {b : Nat} {cs : CS} {A : Nat → Prop} {Gh : Heap} {cs1 : CS} (hx : p.tables.exec = Jvm.exec) (hb : c.code = cc) (hts : ∀ w ∈ wsOf y0 c0 n0 r0, w.before args s = true) (hown : s.vm.findClass RX9 = some m.cls) (hK : va_K (dC, dI) vwCl [(cB, .byte), (cI, .int), (cJ, .long), (cZ, .boolean), (cS, .object "StreamQueries$Source"), (cO, .object "java/lang/Object")] s) (hP : va_P (dC, dI) vwCl (cW cB cI cJ cZ cS cO b cs) H) (hD : va_D A (cW cB cI cJ cZ cS cO b cs)) (hS : va_S A Gh H locs) (hG : va_S A s.heap Gh []) (hA : ∀ q, s.heap.size ≤ q → A q) (hgz : Gh.size = b + kK cs) (hcc : s.heap.size + cells = b + kK cs) (hR : cells + 1 ≤ R.cells ∧ slots + 5 ≤ R.slots) (hv : nwO cs 3 5 = some cs1) (hdg : decode cc pc = .ok (.new 68, 3)) (kk : ∀ (H1 : Heap) (locs1 : List Loc), va_P (dC, dI) vwCl (cW cB cI cJ cZ cS cO b cs1) H1 → va_D A (cW cB cI cJ cZ cS cO b cs1) → va_S A s.heap H1 [] → H1.size = b + kK cs1 → va_S A H1 H1 locs1 → W p l e R s m args below meth c H1 locs1 (cells + 1) (slots + 5) Q (F0 m (pc + 3) ls (.ref (b + kK cs) :: rest))) : W p l e R s m args below meth c H locs cells slots Q (F0 m pc ls rest) := by
  refine W_sz (fun hu => ?_)
  have hz : H.size = b + kK cs := by have := hS.1; omega
  obtain ⟨h1, rfl⟩ := nwO_some hv
  have hKn := hK.1 3 _ (show vwCl[3]? = some (RX2, TX2, 5) from rfl)
  have hSs := hG.comp hS
  refine W.newcK hx hb hown (hts _ (List.mem_cons_of_mem _ kw_1139)) (hts _ (List.mem_cons_of_mem _ kw_623)) (hts _ (List.mem_cons_of_mem _ kw_196)) rfl hdg hR.1 hR.2 hKn.2.1 hz fun H1 kC hkC e1 z1 o1 => ?_
  rw [← hz] at o1
  have hk : ∀ (k : Nat) (y : Nat × va_E), (cW cB cI cJ cZ cS cO b cs)[k]? = some y → H1[y.1]? = H[y.1]? := fun k y hy => o1 y.1 ((hP k y hy).lt)
  have hS1 : va_S A s.heap H1 locs := ⟨Nat.le_trans hSs.1 (by omega), fun y g1 g2 => (o1 y (Nat.lt_of_lt_of_le g1 hSs.1)).trans (hSs.2.1 y g1 g2), hSs.2.2⟩
  refine kk H1 locs ?_ ?_ hS1.nil (by rw [z1]; show b + kK cs + 1 = b + (kK cs + 1); omega) hS1.self
  · rw [cW_new (by decide) h1]
    refine (hP.kept hk).app (fun k y hy => ?_)
    have hz1 : k < 1 := (List.getElem?_eq_some_iff.mp hy).1
    rw [show k = 0 by omega] at hy
    cases hy
    exact ⟨_, rfl, (u_born tyX2 hts (fun w h => List.mem_cons_of_mem _ (uG_X2 w h)) hKn hkC e1 tyX2_ok).to (by decide +kernel)⟩
  · rw [cW_new (by decide) h1]
    exact hD.push hP hz.symm (hA _ (by rw [← hz]; exact hSs.1))
theorem new_X11_111 {p : Program} {l : Launch} {e : Env} {R : Room} {s : State} {m : MethodId} {args : Array Value} {below : List Frame} {meth : Method} {c : Code} {H : Heap} {locs : List Loc} {cells slots : Nat} {Q : State → Prop} {cc : ByteArray} {pc : Nat} {ls : Array Slot} {rest : List Value} {y0 : MethodName} {c0 : ByteArray} {n0 : Nat} {r0 : Option FieldType} {dC : Nat → ClassId} {dI : Nat → Nat → Nat} {cB cI cJ cZ cS cO : ClassId} {b : Nat} {cs : CS} {A : Nat → Prop} {Gh : Heap} {cs1 : CS} (hx : p.tables.exec = Jvm.exec) (hb : c.code = cc) (hts : ∀ w ∈ wsOf y0 c0 n0 r0, w.before args s = true) (hown : s.vm.findClass RX11 = some m.cls) (hK : va_K (dC, dI) vwCl [(cB, .byte), (cI, .int), (cJ, .long), (cZ, .boolean), (cS, .object "StreamQueries$Source"), (cO, .object "java/lang/Object")] s) (hP : va_P (dC, dI) vwCl (cW cB cI cJ cZ cS cO b cs) H) (hD : va_D A (cW cB cI cJ cZ cS cO b cs)) (hS : va_S A Gh H locs) (hG : va_S A s.heap Gh []) (hA : ∀ q, s.heap.size ≤ q → A q) (hgz : Gh.size = b + kK cs) (hcc : s.heap.size + cells = b + kK cs) (hR : cells + 1 ≤ R.cells ∧ slots + 3 ≤ R.slots) (hv : nwO cs 5 3 = some cs1) (hdg : decode cc pc = .ok (.new 111, 3)) (kk : ∀ (H1 : Heap) (locs1 : List Loc), va_P (dC, dI) vwCl (cW cB cI cJ cZ cS cO b cs1) H1 → va_D A (cW cB cI cJ cZ cS cO b cs1) → va_S A s.heap H1 [] → H1.size = b + kK cs1 → va_S A H1 H1 locs1 → W p l e R s m args below meth c H1 locs1 (cells + 1) (slots + 3) Q (F0 m (pc + 3) ls (.ref (b + kK cs) :: rest))) : W p l e R s m args below meth c H locs cells slots Q (F0 m pc ls rest) := by
  refine W_sz (fun hu => ?_)
  have hz : H.size = b + kK cs := by have := hS.1; omega
  obtain ⟨h1, rfl⟩ := nwO_some hv
  have hKn := hK.1 5 _ (show vwCl[5]? = some (RX4, TX4, 3) from rfl)
  have hSs := hG.comp hS
  refine W.newcK hx hb hown (hts _ (List.mem_cons_of_mem _ kw_1309)) (hts _ (List.mem_cons_of_mem _ kw_1310)) (hts _ (List.mem_cons_of_mem _ kw_206)) rfl hdg hR.1 hR.2 hKn.2.1 hz fun H1 kC hkC e1 z1 o1 => ?_
  rw [← hz] at o1
  have hk : ∀ (k : Nat) (y : Nat × va_E), (cW cB cI cJ cZ cS cO b cs)[k]? = some y → H1[y.1]? = H[y.1]? := fun k y hy => o1 y.1 ((hP k y hy).lt)
  have hS1 : va_S A s.heap H1 locs := ⟨Nat.le_trans hSs.1 (by omega), fun y g1 g2 => (o1 y (Nat.lt_of_lt_of_le g1 hSs.1)).trans (hSs.2.1 y g1 g2), hSs.2.2⟩
  refine kk H1 locs ?_ ?_ hS1.nil (by rw [z1]; show b + kK cs + 1 = b + (kK cs + 1); omega) hS1.self
  · rw [cW_new (by decide) h1]
    refine (hP.kept hk).app (fun k y hy => ?_)
    have hz1 : k < 1 := (List.getElem?_eq_some_iff.mp hy).1
    rw [show k = 0 by omega] at hy
    cases hy
    exact ⟨_, rfl, (u_born tyX4 hts (fun w h => List.mem_cons_of_mem _ (uG_X4 w h)) hKn hkC e1 tyX4_ok).to (by decide +kernel)⟩
  · rw [cW_new (by decide) h1]
    exact hD.push hP hz.symm (hA _ (by rw [← hz]; exact hSs.1))
theorem new_X11_13 {p : Program} {l : Launch} {e : Env} {R : Room} {s : State} {m : MethodId} {args : Array Value} {below : List Frame} {meth : Method} {c : Code} {H : Heap} {locs : List Loc} {cells slots : Nat} {Q : State → Prop} {cc : ByteArray} {pc : Nat} {ls : Array Slot} {rest : List Value} {y0 : MethodName} {c0 : ByteArray} {n0 : Nat} {r0 : Option FieldType} {dC : Nat → ClassId} {dI : Nat → Nat → Nat} {cB cI cJ cZ cS cO : ClassId} {b : Nat} {cs : CS} {A : Nat → Prop} {Gh : Heap} {cs1 : CS} (hx : p.tables.exec = Jvm.exec) (hb : c.code = cc) (hts : ∀ w ∈ wsOf y0 c0 n0 r0, w.before args s = true) (hown : s.vm.findClass RX11 = some m.cls) (hK : va_K (dC, dI) vwCl [(cB, .byte), (cI, .int), (cJ, .long), (cZ, .boolean), (cS, .object "StreamQueries$Source"), (cO, .object "java/lang/Object")] s) (hP : va_P (dC, dI) vwCl (cW cB cI cJ cZ cS cO b cs) H) (hD : va_D A (cW cB cI cJ cZ cS cO b cs)) (hS : va_S A Gh H locs) (hG : va_S A s.heap Gh []) (hA : ∀ q, s.heap.size ≤ q → A q) (hgz : Gh.size = b + kK cs) (hcc : s.heap.size + cells = b + kK cs) (hR : cells + 1 ≤ R.cells ∧ slots + 9 ≤ R.slots) (hv : nwO cs 8 9 = some cs1) (hdg : decode cc pc = .ok (.new 13, 3)) (kk : ∀ (H1 : Heap) (locs1 : List Loc), va_P (dC, dI) vwCl (cW cB cI cJ cZ cS cO b cs1) H1 → va_D A (cW cB cI cJ cZ cS cO b cs1) → va_S A s.heap H1 [] → H1.size = b + kK cs1 → va_S A H1 H1 locs1 → W p l e R s m args below meth c H1 locs1 (cells + 1) (slots + 9) Q (F0 m (pc + 3) ls (.ref (b + kK cs) :: rest))) : W p l e R s m args below meth c H locs cells slots Q (F0 m pc ls rest) := by
  refine W_sz (fun hu => ?_)
  have hz : H.size = b + kK cs := by have := hS.1; omega
  obtain ⟨h1, rfl⟩ := nwO_some hv
  have hKn := hK.1 8 _ (show vwCl[8]? = some (RX7, TX7, 9) from rfl)
  have hSs := hG.comp hS
  refine W.newcK hx hb hown (hts _ (List.mem_cons_of_mem _ kw_216)) (hts _ (List.mem_cons_of_mem _ kw_217)) (hts _ (List.mem_cons_of_mem _ kw_182)) rfl hdg hR.1 hR.2 hKn.2.1 hz fun H1 kC hkC e1 z1 o1 => ?_
  rw [← hz] at o1
  have hk : ∀ (k : Nat) (y : Nat × va_E), (cW cB cI cJ cZ cS cO b cs)[k]? = some y → H1[y.1]? = H[y.1]? := fun k y hy => o1 y.1 ((hP k y hy).lt)
  have hS1 : va_S A s.heap H1 locs := ⟨Nat.le_trans hSs.1 (by omega), fun y g1 g2 => (o1 y (Nat.lt_of_lt_of_le g1 hSs.1)).trans (hSs.2.1 y g1 g2), hSs.2.2⟩
  refine kk H1 locs ?_ ?_ hS1.nil (by rw [z1]; show b + kK cs + 1 = b + (kK cs + 1); omega) hS1.self
  · rw [cW_new (by decide) h1]
    refine (hP.kept hk).app (fun k y hy => ?_)
    have hz1 : k < 1 := (List.getElem?_eq_some_iff.mp hy).1
    rw [show k = 0 by omega] at hy
    cases hy
    exact ⟨_, rfl, (u_born tyX7 hts (fun w h => List.mem_cons_of_mem _ (uG_X7 w h)) hKn hkC e1 tyX7_ok).to (by decide +kernel)⟩
  · rw [cW_new (by decide) h1]
    exact hD.push hP hz.symm (hA _ (by rw [← hz]; exact hSs.1))
theorem new_X11_20 {p : Program} {l : Launch} {e : Env} {R : Room} {s : State} {m : MethodId} {args : Array Value} {below : List Frame} {meth : Method} {c : Code} {H : Heap} {locs : List Loc} {cells slots : Nat} {Q : State → Prop} {cc : ByteArray} {pc : Nat} {ls : Array Slot} {rest : List Value} {y0 : MethodName} {c0 : ByteArray} {n0 : Nat} {r0 : Option FieldType} {dC : Nat → ClassId} {dI : Nat → Nat → Nat} {cB cI cJ cZ cS cO : ClassId} {b : Nat} {cs : CS} {A : Nat → Prop} {Gh : Heap} {cs1 : CS} (hx : p.tables.exec = Jvm.exec) (hb : c.code = cc) (hts : ∀ w ∈ wsOf y0 c0 n0 r0, w.before args s = true) (hown : s.vm.findClass RX11 = some m.cls) (hK : va_K (dC, dI) vwCl [(cB, .byte), (cI, .int), (cJ, .long), (cZ, .boolean), (cS, .object "StreamQueries$Source"), (cO, .object "java/lang/Object")] s) (hP : va_P (dC, dI) vwCl (cW cB cI cJ cZ cS cO b cs) H) (hD : va_D A (cW cB cI cJ cZ cS cO b cs)) (hS : va_S A Gh H locs) (hG : va_S A s.heap Gh []) (hA : ∀ q, s.heap.size ≤ q → A q) (hgz : Gh.size = b + kK cs) (hcc : s.heap.size + cells = b + kK cs) (hR : cells + 1 ≤ R.cells ∧ slots + 7 ≤ R.slots) (hv : nwO cs 11 7 = some cs1) (hdg : decode cc pc = .ok (.new 20, 3)) (kk : ∀ (H1 : Heap) (locs1 : List Loc), va_P (dC, dI) vwCl (cW cB cI cJ cZ cS cO b cs1) H1 → va_D A (cW cB cI cJ cZ cS cO b cs1) → va_S A s.heap H1 [] → H1.size = b + kK cs1 → va_S A H1 H1 locs1 → W p l e R s m args below meth c H1 locs1 (cells + 1) (slots + 7) Q (F0 m (pc + 3) ls (.ref (b + kK cs) :: rest))) : W p l e R s m args below meth c H locs cells slots Q (F0 m pc ls rest) := by
  refine W_sz (fun hu => ?_)
  have hz : H.size = b + kK cs := by have := hS.1; omega
  obtain ⟨h1, rfl⟩ := nwO_some hv
  have hKn := hK.1 11 _ (show vwCl[11]? = some (RX10, TX10, 7) from rfl)
  have hSs := hG.comp hS
  refine W.newcK hx hb hown (hts _ (List.mem_cons_of_mem _ kw_256)) (hts _ (List.mem_cons_of_mem _ kw_257)) (hts _ (List.mem_cons_of_mem _ kw_183)) rfl hdg hR.1 hR.2 hKn.2.1 hz fun H1 kC hkC e1 z1 o1 => ?_
  rw [← hz] at o1
  have hk : ∀ (k : Nat) (y : Nat × va_E), (cW cB cI cJ cZ cS cO b cs)[k]? = some y → H1[y.1]? = H[y.1]? := fun k y hy => o1 y.1 ((hP k y hy).lt)
  have hS1 : va_S A s.heap H1 locs := ⟨Nat.le_trans hSs.1 (by omega), fun y g1 g2 => (o1 y (Nat.lt_of_lt_of_le g1 hSs.1)).trans (hSs.2.1 y g1 g2), hSs.2.2⟩
  refine kk H1 locs ?_ ?_ hS1.nil (by rw [z1]; show b + kK cs + 1 = b + (kK cs + 1); omega) hS1.self
  · rw [cW_new (by decide) h1]
    refine (hP.kept hk).app (fun k y hy => ?_)
    have hz1 : k < 1 := (List.getElem?_eq_some_iff.mp hy).1
    rw [show k = 0 by omega] at hy
    cases hy
    exact ⟨_, rfl, (u_born tyX10 hts (fun w h => List.mem_cons_of_mem _ (uG_X10 w h)) hKn hkC e1 tyX10_ok).to (by decide +kernel)⟩
  · rw [cW_new (by decide) h1]
    exact hD.push hP hz.symm (hA _ (by rw [← hz]; exact hSs.1))
theorem new_X11_27 {p : Program} {l : Launch} {e : Env} {R : Room} {s : State} {m : MethodId} {args : Array Value} {below : List Frame} {meth : Method} {c : Code} {H : Heap} {locs : List Loc} {cells slots : Nat} {Q : State → Prop} {cc : ByteArray} {pc : Nat} {ls : Array Slot} {rest : List Value} {y0 : MethodName} {c0 : ByteArray} {n0 : Nat} {r0 : Option FieldType} {dC : Nat → ClassId} {dI : Nat → Nat → Nat} {cB cI cJ cZ cS cO : ClassId} {b : Nat} {cs : CS} {A : Nat → Prop} {Gh : Heap} {cs1 : CS} (hx : p.tables.exec = Jvm.exec) (hb : c.code = cc) (hts : ∀ w ∈ wsOf y0 c0 n0 r0, w.before args s = true) (hown : s.vm.findClass RX11 = some m.cls) (hK : va_K (dC, dI) vwCl [(cB, .byte), (cI, .int), (cJ, .long), (cZ, .boolean), (cS, .object "StreamQueries$Source"), (cO, .object "java/lang/Object")] s) (hP : va_P (dC, dI) vwCl (cW cB cI cJ cZ cS cO b cs) H) (hD : va_D A (cW cB cI cJ cZ cS cO b cs)) (hS : va_S A Gh H locs) (hG : va_S A s.heap Gh []) (hA : ∀ q, s.heap.size ≤ q → A q) (hgz : Gh.size = b + kK cs) (hcc : s.heap.size + cells = b + kK cs) (hR : cells + 1 ≤ R.cells ∧ slots + 4 ≤ R.slots) (hv : nwO cs 9 4 = some cs1) (hdg : decode cc pc = .ok (.new 27, 3)) (kk : ∀ (H1 : Heap) (locs1 : List Loc), va_P (dC, dI) vwCl (cW cB cI cJ cZ cS cO b cs1) H1 → va_D A (cW cB cI cJ cZ cS cO b cs1) → va_S A s.heap H1 [] → H1.size = b + kK cs1 → va_S A H1 H1 locs1 → W p l e R s m args below meth c H1 locs1 (cells + 1) (slots + 4) Q (F0 m (pc + 3) ls (.ref (b + kK cs) :: rest))) : W p l e R s m args below meth c H locs cells slots Q (F0 m pc ls rest) := by
  refine W_sz (fun hu => ?_)
  have hz : H.size = b + kK cs := by have := hS.1; omega
  obtain ⟨h1, rfl⟩ := nwO_some hv
  have hKn := hK.1 9 _ (show vwCl[9]? = some (RX8, TX8, 4) from rfl)
  have hSs := hG.comp hS
  refine W.newcK hx hb hown (hts _ (List.mem_cons_of_mem _ kw_343)) (hts _ (List.mem_cons_of_mem _ kw_344)) (hts _ (List.mem_cons_of_mem _ kw_188)) rfl hdg hR.1 hR.2 hKn.2.1 hz fun H1 kC hkC e1 z1 o1 => ?_
  rw [← hz] at o1
  have hk : ∀ (k : Nat) (y : Nat × va_E), (cW cB cI cJ cZ cS cO b cs)[k]? = some y → H1[y.1]? = H[y.1]? := fun k y hy => o1 y.1 ((hP k y hy).lt)
  have hS1 : va_S A s.heap H1 locs := ⟨Nat.le_trans hSs.1 (by omega), fun y g1 g2 => (o1 y (Nat.lt_of_lt_of_le g1 hSs.1)).trans (hSs.2.1 y g1 g2), hSs.2.2⟩
  refine kk H1 locs ?_ ?_ hS1.nil (by rw [z1]; show b + kK cs + 1 = b + (kK cs + 1); omega) hS1.self
  · rw [cW_new (by decide) h1]
    refine (hP.kept hk).app (fun k y hy => ?_)
    have hz1 : k < 1 := (List.getElem?_eq_some_iff.mp hy).1
    rw [show k = 0 by omega] at hy
    cases hy
    exact ⟨_, rfl, (u_born tyX8 hts (fun w h => List.mem_cons_of_mem _ (uG_X8 w h)) hKn hkC e1 tyX8_ok).to (by decide +kernel)⟩
  · rw [cW_new (by decide) h1]
    exact hD.push hP hz.symm (hA _ (by rw [← hz]; exact hSs.1))
theorem new_X11_50 {p : Program} {l : Launch} {e : Env} {R : Room} {s : State} {m : MethodId} {args : Array Value} {below : List Frame} {meth : Method} {c : Code} {H : Heap} {locs : List Loc} {cells slots : Nat} {Q : State → Prop} {cc : ByteArray} {pc : Nat} {ls : Array Slot} {rest : List Value} {y0 : MethodName} {c0 : ByteArray} {n0 : Nat} {r0 : Option FieldType} {dC : Nat → ClassId} {dI : Nat → Nat → Nat} {cB cI cJ cZ cS cO : ClassId} {b : Nat} {cs : CS} {A : Nat → Prop} {Gh : Heap} {cs1 : CS} (hx : p.tables.exec = Jvm.exec) (hb : c.code = cc) (hts : ∀ w ∈ wsOf y0 c0 n0 r0, w.before args s = true) (hown : s.vm.findClass RX11 = some m.cls) (hK : va_K (dC, dI) vwCl [(cB, .byte), (cI, .int), (cJ, .long), (cZ, .boolean), (cS, .object "StreamQueries$Source"), (cO, .object "java/lang/Object")] s) (hP : va_P (dC, dI) vwCl (cW cB cI cJ cZ cS cO b cs) H) (hD : va_D A (cW cB cI cJ cZ cS cO b cs)) (hS : va_S A Gh H locs) (hG : va_S A s.heap Gh []) (hA : ∀ q, s.heap.size ≤ q → A q) (hgz : Gh.size = b + kK cs) (hcc : s.heap.size + cells = b + kK cs) (hR : cells + 1 ≤ R.cells ∧ slots + 13 ≤ R.slots) (hv : nwO cs 2 13 = some cs1) (hdg : decode cc pc = .ok (.new 50, 3)) (kk : ∀ (H1 : Heap) (locs1 : List Loc), va_P (dC, dI) vwCl (cW cB cI cJ cZ cS cO b cs1) H1 → va_D A (cW cB cI cJ cZ cS cO b cs1) → va_S A s.heap H1 [] → H1.size = b + kK cs1 → va_S A H1 H1 locs1 → W p l e R s m args below meth c H1 locs1 (cells + 1) (slots + 13) Q (F0 m (pc + 3) ls (.ref (b + kK cs) :: rest))) : W p l e R s m args below meth c H locs cells slots Q (F0 m pc ls rest) := by
  refine W_sz (fun hu => ?_)
  have hz : H.size = b + kK cs := by have := hS.1; omega
  obtain ⟨h1, rfl⟩ := nwO_some hv
  have hKn := hK.1 2 _ (show vwCl[2]? = some (RX1, TX1, 13) from rfl)
  have hSs := hG.comp hS
  refine W.newcK hx hb hown (hts _ (List.mem_cons_of_mem _ kw_362)) (hts _ (List.mem_cons_of_mem _ kw_363)) (hts _ (List.mem_cons_of_mem _ kw_189)) rfl hdg hR.1 hR.2 hKn.2.1 hz fun H1 kC hkC e1 z1 o1 => ?_
  rw [← hz] at o1
  have hk : ∀ (k : Nat) (y : Nat × va_E), (cW cB cI cJ cZ cS cO b cs)[k]? = some y → H1[y.1]? = H[y.1]? := fun k y hy => o1 y.1 ((hP k y hy).lt)
  have hS1 : va_S A s.heap H1 locs := ⟨Nat.le_trans hSs.1 (by omega), fun y g1 g2 => (o1 y (Nat.lt_of_lt_of_le g1 hSs.1)).trans (hSs.2.1 y g1 g2), hSs.2.2⟩
  refine kk H1 locs ?_ ?_ hS1.nil (by rw [z1]; show b + kK cs + 1 = b + (kK cs + 1); omega) hS1.self
  · rw [cW_new (by decide) h1]
    refine (hP.kept hk).app (fun k y hy => ?_)
    have hz1 : k < 1 := (List.getElem?_eq_some_iff.mp hy).1
    rw [show k = 0 by omega] at hy
    cases hy
    exact ⟨_, rfl, (u_born tyX1 hts (fun w h => List.mem_cons_of_mem _ (uG_X1 w h)) hKn hkC e1 tyX1_ok).to (by decide +kernel)⟩
  · rw [cW_new (by decide) h1]
    exact hD.push hP hz.symm (hA _ (by rw [← hz]; exact hSs.1))
theorem new_X11_74 {p : Program} {l : Launch} {e : Env} {R : Room} {s : State} {m : MethodId} {args : Array Value} {below : List Frame} {meth : Method} {c : Code} {H : Heap} {locs : List Loc} {cells slots : Nat} {Q : State → Prop} {cc : ByteArray} {pc : Nat} {ls : Array Slot} {rest : List Value} {y0 : MethodName} {c0 : ByteArray} {n0 : Nat} {r0 : Option FieldType} {dC : Nat → ClassId} {dI : Nat → Nat → Nat} {cB cI cJ cZ cS cO : ClassId} {b : Nat} {cs : CS} {A : Nat → Prop} {Gh : Heap} {cs1 : CS} (hx : p.tables.exec = Jvm.exec) (hb : c.code = cc) (hts : ∀ w ∈ wsOf y0 c0 n0 r0, w.before args s = true) (hown : s.vm.findClass RX11 = some m.cls) (hK : va_K (dC, dI) vwCl [(cB, .byte), (cI, .int), (cJ, .long), (cZ, .boolean), (cS, .object "StreamQueries$Source"), (cO, .object "java/lang/Object")] s) (hP : va_P (dC, dI) vwCl (cW cB cI cJ cZ cS cO b cs) H) (hD : va_D A (cW cB cI cJ cZ cS cO b cs)) (hS : va_S A Gh H locs) (hG : va_S A s.heap Gh []) (hA : ∀ q, s.heap.size ≤ q → A q) (hgz : Gh.size = b + kK cs) (hcc : s.heap.size + cells = b + kK cs) (hR : cells + 1 ≤ R.cells ∧ slots + 12 ≤ R.slots) (hv : nwO cs 10 12 = some cs1) (hdg : decode cc pc = .ok (.new 74, 3)) (kk : ∀ (H1 : Heap) (locs1 : List Loc), va_P (dC, dI) vwCl (cW cB cI cJ cZ cS cO b cs1) H1 → va_D A (cW cB cI cJ cZ cS cO b cs1) → va_S A s.heap H1 [] → H1.size = b + kK cs1 → va_S A H1 H1 locs1 → W p l e R s m args below meth c H1 locs1 (cells + 1) (slots + 12) Q (F0 m (pc + 3) ls (.ref (b + kK cs) :: rest))) : W p l e R s m args below meth c H locs cells slots Q (F0 m pc ls rest) := by
  refine W_sz (fun hu => ?_)
  have hz : H.size = b + kK cs := by have := hS.1; omega
  obtain ⟨h1, rfl⟩ := nwO_some hv
  have hKn := hK.1 10 _ (show vwCl[10]? = some (RX9, TX9, 12) from rfl)
  have hSs := hG.comp hS
  refine W.newcK hx hb hown (hts _ (List.mem_cons_of_mem _ kw_603)) (hts _ (List.mem_cons_of_mem _ kw_604)) (hts _ (List.mem_cons_of_mem _ kw_193)) rfl hdg hR.1 hR.2 hKn.2.1 hz fun H1 kC hkC e1 z1 o1 => ?_
  rw [← hz] at o1
  have hk : ∀ (k : Nat) (y : Nat × va_E), (cW cB cI cJ cZ cS cO b cs)[k]? = some y → H1[y.1]? = H[y.1]? := fun k y hy => o1 y.1 ((hP k y hy).lt)
  have hS1 : va_S A s.heap H1 locs := ⟨Nat.le_trans hSs.1 (by omega), fun y g1 g2 => (o1 y (Nat.lt_of_lt_of_le g1 hSs.1)).trans (hSs.2.1 y g1 g2), hSs.2.2⟩
  refine kk H1 locs ?_ ?_ hS1.nil (by rw [z1]; show b + kK cs + 1 = b + (kK cs + 1); omega) hS1.self
  · rw [cW_new (by decide) h1]
    refine (hP.kept hk).app (fun k y hy => ?_)
    have hz1 : k < 1 := (List.getElem?_eq_some_iff.mp hy).1
    rw [show k = 0 by omega] at hy
    cases hy
    exact ⟨_, rfl, (u_born tyX9 hts (fun w h => List.mem_cons_of_mem _ (uG_X9 w h)) hKn hkC e1 tyX9_ok).to (by decide +kernel)⟩
  · rw [cW_new (by decide) h1]
    exact hD.push hP hz.symm (hA _ (by rw [← hz]; exact hSs.1))
theorem new_X11_85 {p : Program} {l : Launch} {e : Env} {R : Room} {s : State} {m : MethodId} {args : Array Value} {below : List Frame} {meth : Method} {c : Code} {H : Heap} {locs : List Loc} {cells slots : Nat} {Q : State → Prop} {cc : ByteArray} {pc : Nat} {ls : Array Slot} {rest : List Value} {y0 : MethodName} {c0 : ByteArray} {n0 : Nat} {r0 : Option FieldType} {dC : Nat → ClassId} {dI : Nat → Nat → Nat} {cB cI cJ cZ cS cO : ClassId} {b : Nat} {cs : CS} {A : Nat → Prop} {Gh : Heap} {cs1 : CS} (hx : p.tables.exec = Jvm.exec) (hb : c.code = cc) (hts : ∀ w ∈ wsOf y0 c0 n0 r0, w.before args s = true) (hown : s.vm.findClass RX11 = some m.cls) (hK : va_K (dC, dI) vwCl [(cB, .byte), (cI, .int), (cJ, .long), (cZ, .boolean), (cS, .object "StreamQueries$Source"), (cO, .object "java/lang/Object")] s) (hP : va_P (dC, dI) vwCl (cW cB cI cJ cZ cS cO b cs) H) (hD : va_D A (cW cB cI cJ cZ cS cO b cs)) (hS : va_S A Gh H locs) (hG : va_S A s.heap Gh []) (hA : ∀ q, s.heap.size ≤ q → A q) (hgz : Gh.size = b + kK cs) (hcc : s.heap.size + cells = b + kK cs) (hR : cells + 1 ≤ R.cells ∧ slots + 6 ≤ R.slots) (hv : nwO cs 1 6 = some cs1) (hdg : decode cc pc = .ok (.new 85, 3)) (kk : ∀ (H1 : Heap) (locs1 : List Loc), va_P (dC, dI) vwCl (cW cB cI cJ cZ cS cO b cs1) H1 → va_D A (cW cB cI cJ cZ cS cO b cs1) → va_S A s.heap H1 [] → H1.size = b + kK cs1 → va_S A H1 H1 locs1 → W p l e R s m args below meth c H1 locs1 (cells + 1) (slots + 6) Q (F0 m (pc + 3) ls (.ref (b + kK cs) :: rest))) : W p l e R s m args below meth c H locs cells slots Q (F0 m pc ls rest) := by
  refine W_sz (fun hu => ?_)
  have hz : H.size = b + kK cs := by have := hS.1; omega
  obtain ⟨h1, rfl⟩ := nwO_some hv
  have hKn := hK.1 1 _ (show vwCl[1]? = some (RX0, TX0, 6) from rfl)
  have hSs := hG.comp hS
  refine W.newcK hx hb hown (hts _ (List.mem_cons_of_mem _ kw_1145)) (hts _ (List.mem_cons_of_mem _ kw_1146)) (hts _ (List.mem_cons_of_mem _ kw_204)) rfl hdg hR.1 hR.2 hKn.2.1 hz fun H1 kC hkC e1 z1 o1 => ?_
  rw [← hz] at o1
  have hk : ∀ (k : Nat) (y : Nat × va_E), (cW cB cI cJ cZ cS cO b cs)[k]? = some y → H1[y.1]? = H[y.1]? := fun k y hy => o1 y.1 ((hP k y hy).lt)
  have hS1 : va_S A s.heap H1 locs := ⟨Nat.le_trans hSs.1 (by omega), fun y g1 g2 => (o1 y (Nat.lt_of_lt_of_le g1 hSs.1)).trans (hSs.2.1 y g1 g2), hSs.2.2⟩
  refine kk H1 locs ?_ ?_ hS1.nil (by rw [z1]; show b + kK cs + 1 = b + (kK cs + 1); omega) hS1.self
  · rw [cW_new (by decide) h1]
    refine (hP.kept hk).app (fun k y hy => ?_)
    have hz1 : k < 1 := (List.getElem?_eq_some_iff.mp hy).1
    rw [show k = 0 by omega] at hy
    cases hy
    exact ⟨_, rfl, (u_born tyX0 hts (fun w h => List.mem_cons_of_mem _ (uG_X0 w h)) hKn hkC e1 tyX0_ok).to (by decide +kernel)⟩
  · rw [cW_new (by decide) h1]
    exact hD.push hP hz.symm (hA _ (by rw [← hz]; exact hSs.1))

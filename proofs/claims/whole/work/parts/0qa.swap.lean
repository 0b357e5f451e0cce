/-! two arrays of an object change places -/
def sw (cs : CS) (i : Nat) : CS := (cs.1, cs.2.1, cs.2.2.1, cs.2.2.2.1, u2 (u2 (kP cs) 290 i (kP cs 291 i)) 291 i (kP cs 290 i), u2 (u2 (kA cs) 290 i (kA cs 291 i)) 291 i (kA cs 290 i), cs.2.2.2.2.2.2.1, cs.2.2.2.2.2.2.2.1, u2 (u2 (kL cs) 290 i (kL cs 291 i)) 291 i (kL cs 290 i))
def swp (cs : CS) (i j : Nat) : Option CS := Option.bind (kP cs 290 i) fun k => if (9, i) ∈ kE cs ∧ (322, i) ∈ kE cs ∧ (323, i) ∈ kE cs ∧ kP cs 291 i = some j ∧ kP cs 290 i = some k then some (sw cs i) else none
theorem swp_some {cs cs1 : CS} {i j : Nat} (h : swp cs i j = some cs1) : ∃ k, ((9, i) ∈ kE cs ∧ (322, i) ∈ kE cs ∧ (323, i) ∈ kE cs ∧ kP cs 291 i = some j ∧ kP cs 290 i = some k) ∧ sw cs i = cs1 := by
  unfold swp at h
  obtain ⟨k, h1, h⟩ := ob h
  by_cases c : (9, i) ∈ kE cs ∧ (322, i) ∈ kE cs ∧ (323, i) ∈ kE cs ∧ kP cs 291 i = some j ∧ kP cs 290 i = some k
  · rw [if_pos c] at h; exact ⟨k, c, Option.some.inj h⟩
  · rw [if_neg c] at h; cases h
theorem swp_1 {cs cs1 : CS} {i j : Nat} (h : swp cs i j = some cs1) : cs1.1 = cs.1 := by
  obtain ⟨k, -, rfl⟩ := swp_some h
  rfl
theorem swp_k {cs cs1 : CS} {i j : Nat} (h : swp cs i j = some cs1) : kK cs1 = kK cs ∧ kM cs1 = kM cs := by
  obtain ⟨k, -, rfl⟩ := swp_some h
  exact ⟨rfl, rfl⟩
theorem swP_o {cs : CS} {i : Nat} : kP (sw cs i) 290 i = kP cs 291 i := by show u2 (u2 (kP cs) 290 i (kP cs 291 i)) 291 i (kP cs 290 i) 290 i = _; rw [u2_n (by omega), u2_s]
theorem swP_s {cs : CS} {i : Nat} : kP (sw cs i) 291 i = kP cs 290 i := u2_s
theorem swP_n {cs : CS} {i t i1 : Nat} (h : ¬ (t = 290 ∧ i1 = i)) (h2 : ¬ (t = 291 ∧ i1 = i)) : kP (sw cs i) t i1 = kP cs t i1 := (u2_n h2).trans (u2_n h)
theorem swA_o {cs : CS} {i : Nat} : kA (sw cs i) 290 i = kA cs 291 i := by show u2 (u2 (kA cs) 290 i (kA cs 291 i)) 291 i (kA cs 290 i) 290 i = _; rw [u2_n (by omega), u2_s]
theorem swA_s {cs : CS} {i : Nat} : kA (sw cs i) 291 i = kA cs 290 i := u2_s
theorem swA_n {cs : CS} {i t i1 : Nat} (h : ¬ (t = 290 ∧ i1 = i)) (h2 : ¬ (t = 291 ∧ i1 = i)) : kA (sw cs i) t i1 = kA cs t i1 := (u2_n h2).trans (u2_n h)
theorem swL_o {cs : CS} {i : Nat} : kL (sw cs i) 290 i = kL cs 291 i := by show u2 (u2 (kL cs) 290 i (kL cs 291 i)) 291 i (kL cs 290 i) 290 i = _; rw [u2_n (by omega), u2_s]
theorem swL_s {cs : CS} {i : Nat} : kL (sw cs i) 291 i = kL cs 290 i := u2_s
theorem swL_n {cs : CS} {i t i1 : Nat} (h : ¬ (t = 290 ∧ i1 = i)) (h2 : ¬ (t = 291 ∧ i1 = i)) : kL (sw cs i) t i1 = kL cs t i1 := (u2_n h2).trans (u2_n h)
theorem swapRow {p : Program} {l : Launch} {e : Env} {R : Room} {s : State} {m : MethodId} {args : Array Value} {below : List Frame} {meth : Method} {c : Code} {H : Heap} {locs : List Loc} {cells slots : Nat} {Q : State → Prop} {cc : ByteArray} {pc : Nat} {ls : Array Slot} {rest : List Value} {y0 : MethodName} {c0 : ByteArray} {n0 : Nat} {r0 : Option FieldType} {dC : Nat → ClassId} {dI : Nat → Nat → Nat} {cB cI cJ cZ cS cO : ClassId} {b : Nat} {cs : CS} {A : Nat → Prop} {H0 : Heap} {cs1 : CS} {nL p6 : Nat} {lv : List (Nat × Value)} {i j p0 : Nat} (hx : p.tables.exec = Jvm.exec) (hb : c.code = cc) (hts : ∀ w ∈ wsOf y0 c0 n0 r0, w.before args s = true) (hown : s.vm.findClass RX8 = some m.cls) (hK : va_K (dC, dI) vwCl [(cB, .byte), (cI, .int), (cJ, .long), (cZ, .boolean), (cS, .object "StreamQueries$Source"), (cO, .object "java/lang/Object")] s) (hP : va_P (dC, dI) vwCl (cW cB cI cJ cZ cS cO b cs) H) (hD : va_D A (cW cB cI cJ cZ cS cO b cs)) (hS : va_S A H0 H locs) (hl : lv_has ls nL lv) (h0 : lv[p0]? = some (0, .ref (b + i))) (h6 : lv[p6]? = some (6, .ref (b + j))) (hv : swp cs i j = some cs1)
    (d1 : decode cc pc = .ok (.aload_n 0, 1)) (d2 : decode cc (pc + 1) = .ok (.aload_n 0, 1)) (d3 : decode cc (pc + 1 + 1) = .ok (.getfield 19, 3)) (d4 : decode cc (pc + 1 + 1 + 3) = .ok (.putfield 23, 3)) (d5 : decode cc (pc + 1 + 1 + 3 + 3) = .ok (.aload_n 0, 1)) (d6 : decode cc (pc + 1 + 1 + 3 + 3 + 1) = .ok (.aload 6, 2)) (d7 : decode cc (pc + 1 + 1 + 3 + 3 + 1 + 2) = .ok (.putfield 19, 3)) (kk : ∀ (H1 : Heap) (locs1 : List Loc), va_P (dC, dI) vwCl (cW cB cI cJ cZ cS cO b cs1) H1 → va_D A (cW cB cI cJ cZ cS cO b cs1) → va_S A H0 H1 locs1 → W p l e R s m args below meth c H1 locs1 cells slots Q (F0 m (pc + 1 + 1 + 3 + 3 + 1 + 2 + 3) ls rest)) : W p l e R s m args below meth c H locs cells slots Q (F0 m pc ls rest) := by
  obtain ⟨k, ⟨m1, m2, m3, p1, p2⟩, rfl⟩ := swp_some hv
  obtain ⟨k0, hk, hg⟩ := cO_at (b := b) (cB := cB) (cI := cI) (cJ := cJ) (cZ := cZ) (cS := cS) (cO := cO) (by decide) m1
  have hkl := (List.getElem?_eq_some_iff.mp hg).1
  refine lv_aload_n hx hb d1 rfl (lv_at hl p0 h0) ?_
  refine lv_aload_n hx hb d2 rfl (lv_at hl p0 h0) ?_
  refine fg_X8_19 (v := k) hx hb hts hown hK hP (by unfold gA; rw [if_pos m1]; exact p2) d3 ?_
  refine va_put (D := (dC, dI)) (ci := 9) (v := .ref (b + k)) (ty := .array .int) (C := RX8) (T := TX8) (N := 4) hx hb hts (fun w h => List.mem_cons_of_mem _ (uG_X8 w h)) tyX8 tyX8_ok nmX8 hown hK hP hD hS k0 hg rfl 3 (by decide) (hts _ (List.mem_cons_of_mem _ kw_352)) (fun _ h9 => h9) rfl (by decide +kernel) rfl rfl (by rw [vL_len]; decide) d4 (fun H locs hP hD hS => ?_)
  refine lv_aload_n hx hb d5 rfl (lv_at hl p0 h0) ?_
  refine lv_aload hx hb d6 (lv_at hl p6 h6) ?_
  have hg2 : ((cW cB cI cJ cZ cS cO b cs).set k0 (b + i, .inr (9, (vL b cs i (32 * 9) (tyX 9)).set 3 (.ref (b + k)))))[k0]? = some (b + i, .inr (9, (vL b cs i (32 * 9) (tyX 9)).set 3 (.ref (b + k)))) := by rw [List.getElem?_set, if_pos rfl, if_pos hkl]
  refine va_put (D := (dC, dI)) (ci := 9) (v := .ref (b + j)) (ty := .array .int) (C := RX8) (T := TX8) (N := 4) hx hb hts (fun w h => List.mem_cons_of_mem _ (uG_X8 w h)) tyX8 tyX8_ok nmX8 hown hK hP hD hS k0 hg2 rfl 2 (by decide) (hts _ (List.mem_cons_of_mem _ kw_351)) (fun _ h9 => h9) rfl (by decide +kernel) rfl rfl (by rw [List.length_set, vL_len]; decide) d7 (fun H locs hP9 hD9 hS => ?_)
  rw [List.set_set] at hP9 hD9
  have hnd := nodup_of (kE_nodup ‹va_D A (cW cB cI cJ cZ cS cO b cs)›)
  have hD0 : va_D A (cW cB cI cJ cZ cS cO b cs) := ‹va_D A (cW cB cI cJ cZ cS cO b cs)›
  have hlen : ∀ q ∈ kE cs, (kE cs).idxOf q < (kE cs).length := fun q hq => List.idxOf_lt_length_of_mem hq
  have hix : ∀ q ∈ kE cs, (kE cs)[(kE cs).idxOf q]? = some q := fun q hq => by
    rw [List.getElem?_eq_getElem (hlen q hq), List.getElem_idxOf (hlen q hq)]
  have hinj : ∀ q ∈ kE cs, ∀ r ∈ kE cs, (kE cs).idxOf q = (kE cs).idxOf r → q = r := fun q hq r hr e => by
    have h1 := hix q hq
    rw [e] at h1
    exact Option.some.inj (h1.symm.trans (hix r hr))
  have hko : ∀ q ∈ kE cs, q ≠ (9, i) → k0 ≠ (kE cs).idxOf q := fun q hq hn e => hn (Option.some.inj ((hix q hq).symm.trans (e ▸ hk)))
  have ea : ∀ Y i1, ¬ (Y = 322 ∧ i1 = i) → ¬ (Y = 323 ∧ i1 = i) → aC b (sw cs i) (Y, i1) = aC b cs (Y, i1) := fun Y i1 n1 n2 => by
    unfold aC
    by_cases hY : Y < 32
    · rw [if_pos hY, if_pos hY]
    · rw [if_neg hY, if_neg hY]
      show b + (kP (sw cs i) (Y - 32) i1).getD 0 = b + (kP cs (Y - 32) i1).getD 0
      rw [swP_n (fun e => n1 ⟨by omega, e.2⟩) (fun e => n2 ⟨by omega, e.2⟩)]
  have key := cW_re (b := b) (cB := cB) (cI := cI) (cJ := cJ) (cZ := cZ) (cS := cS) (cO := cO) (cs1 := sw cs i) hP9 hD9 hnd (fun q => if q = (322, i) then (kE cs).idxOf (323, i) else if q = (323, i) then (kE cs).idxOf (322, i) else (kE cs).idxOf q) (fun q hq => ?_) (fun q hq r hr e => ?_)
  · exact kk H locs key.1 key.2 hS
  · have hq : q ∈ kE cs := hq
    rw [List.getElem?_set]
    by_cases q1 : q = (322, i)
    · subst q1
      rw [if_pos rfl, if_neg (hko _ m3 (by simp)), cW_at (hix _ m3)]
      show some (b + (kP cs 291 i).getD 0, eA cB cI cJ cZ cS cO b cs 291 i 0) = some (b + (kP (sw cs i) 290 i).getD 0, eA cB cI cJ cZ cS cO b (sw cs i) 290 i 0)
      rw [swP_o]
      show some (b + (kP cs 291 i).getD 0, Sum.inl (cI, kL cs 291 i, Sum.inl (kA cs 291 i))) = some (b + (kP cs 291 i).getD 0, Sum.inl (cI, kL (sw cs i) 290 i, Sum.inl (kA (sw cs i) 290 i)))
      rw [swA_o, swL_o]
    · by_cases q2 : q = (323, i)
      · subst q2
        rw [if_neg q1, if_pos rfl, if_neg (hko _ m2 (by simp)), cW_at (hix _ m2)]
        show some (b + (kP cs 290 i).getD 0, eA cB cI cJ cZ cS cO b cs 290 i 0) = some (b + (kP (sw cs i) 291 i).getD 0, eA cB cI cJ cZ cS cO b (sw cs i) 291 i 0)
        rw [swP_s]
        show some (b + (kP cs 290 i).getD 0, Sum.inl (cI, kL cs 290 i, Sum.inl (kA cs 290 i))) = some (b + (kP cs 290 i).getD 0, Sum.inl (cI, kL (sw cs i) 291 i, Sum.inl (kA (sw cs i) 291 i)))
        rw [swA_s, swL_s]
      · rw [if_neg q1, if_neg q2]
        obtain ⟨Y, i1⟩ := q
        have n1 : ¬ (Y = 322 ∧ i1 = i) := fun e => q1 (by rw [e.1, e.2])
        have n2 : ¬ (Y = 323 ∧ i1 = i) := fun e => q2 (by rw [e.1, e.2])
        rw [ea Y i1 n1 n2]
        by_cases q3 : k0 = (kE cs).idxOf (Y, i1)
        · have q4 : (Y, i1) = (9, i) := Option.some.inj ((hix _ hq).symm.trans (q3 ▸ hk))
          cases q4
          rw [if_pos q3, if_pos hkl]
          show some (b + i, Sum.inr (9, ((vL b cs i (32 * 9) (tyX 9)).set 3 (.ref (b + k))).set 2 (.ref (b + j)))) = some (b + i, Sum.inr (9, vL b (sw cs i) i (32 * 9) (tyX 9)))
          have e5 : ((vL b cs i (32 * 9) (tyX 9)).set 3 (.ref (b + k))).set 2 (.ref (b + j)) = vL b (sw cs i) i (32 * 9) (tyX 9) := by
            show [rv b (kP cs 288 i), rv b (kP cs 289 i), Value.ref (b + j), Value.ref (b + k)] = [rv b (kP (sw cs i) 288 i), rv b (kP (sw cs i) 289 i), rv b (kP (sw cs i) 290 i), rv b (kP (sw cs i) 291 i)]
            rw [swP_n (by omega) (by omega), swP_n (by omega) (by omega), swP_o, swP_s, p1, p2]
            rfl
          rw [e5]
        · rw [if_neg q3, cW_at (hix _ hq)]
          have ee : eC cB cI cJ cZ cS cO b (sw cs i) (Y, i1) = eC cB cI cJ cZ cS cO b cs (Y, i1) := by
            unfold eC
            by_cases hY : Y < 32
            · rw [if_pos hY, if_pos hY]
              show Sum.inr (Y, vL b (sw cs i) i1 (32 * Y) (tyX Y)) = Sum.inr (Y, vL b cs i1 (32 * Y) (tyX Y))
              rw [vL_eq (fun z w g1 g2 => ?_)]
              have hl1 := tyX_len2 Y
              have n9 : ¬ (Y = 9 ∧ i1 = i) := fun e => q3 (by rw [e.1, e.2]; exact kE_nodup hD0 _ _ _ hk (hix (9, i) m1))
              have e9 : kP (sw cs i) z i1 = kP cs z i1 := swP_n (fun e => n9 ⟨by omega, e.2⟩) (fun e => n9 ⟨by omega, e.2⟩)
              match w with
              | 0 => rfl
              | 1 => rfl
              | 2 => rfl
              | _ + 3 => show rv b (kP (sw cs i) z i1) = rv b (kP cs z i1); rw [e9]
            · rw [if_neg hY, if_neg hY]
              show eA cB cI cJ cZ cS cO b (sw cs i) (Y - 32) i1 (aty (Y - 32)) = eA cB cI cJ cZ cS cO b cs (Y - 32) i1 (aty (Y - 32))
              have eA' : kA (sw cs i) (Y - 32) i1 = kA cs (Y - 32) i1 := swA_n (fun e => n1 ⟨by omega, e.2⟩) (fun e => n2 ⟨by omega, e.2⟩)
              have eL' : kL (sw cs i) (Y - 32) i1 = kL cs (Y - 32) i1 := swL_n (fun e => n1 ⟨by omega, e.2⟩) (fun e => n2 ⟨by omega, e.2⟩)
              unfold eA
              rw [eA', eL']
              rfl
          rw [ee]
  · have e : (if q = (322, i) then (kE cs).idxOf (323, i) else if q = (323, i) then (kE cs).idxOf (322, i) else (kE cs).idxOf q) = (if r = (322, i) then (kE cs).idxOf (323, i) else if r = (323, i) then (kE cs).idxOf (322, i) else (kE cs).idxOf r) := e
    have hq : q ∈ kE cs := hq
    have hr : r ∈ kE cs := hr
    by_cases q1 : q = (322, i)
    · by_cases r1 : r = (322, i)
      · rw [q1, r1]
      · rw [if_pos q1, if_neg r1] at e
        by_cases r2 : r = (323, i)
        · rw [if_pos r2] at e
          exact absurd (hinj _ m3 _ m2 e) (by simp)
        · rw [if_neg r2] at e
          exact absurd (hinj _ m3 _ hr e).symm r2
    · rw [if_neg q1] at e
      by_cases q2 : q = (323, i)
      · rw [if_pos q2] at e
        by_cases r1 : r = (322, i)
        · rw [if_pos r1] at e
          exact absurd (hinj _ m2 _ m3 e) (by simp)
        · rw [if_neg r1] at e
          by_cases r2 : r = (323, i)
          · rw [q2, r2]
          · rw [if_neg r2] at e
            exact absurd (hinj _ m2 _ hr e).symm r1
      · rw [if_neg q2] at e
        by_cases r1 : r = (322, i)
        · rw [if_pos r1] at e
          exact absurd (hinj _ hq _ m3 e) q2
        · rw [if_neg r1] at e
          by_cases r2 : r = (323, i)
          · rw [if_pos r2] at e
            exact absurd (hinj _ hq _ m2 e) q1
          · rw [if_neg r2] at e
            exact hinj _ hq _ hr e

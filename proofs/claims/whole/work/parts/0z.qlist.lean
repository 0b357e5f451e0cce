/-! a new list with its first select -/
def nQL (cs : CS) (i z : Nat) : CS := ((kK cs + 2, kM cs + 13, kE cs ++ [(0, kK cs), (33, kK cs)]), u2 (u2 (kI cs) 0 (kK cs) 1) 2 (kK cs) 1, kJ cs, u2 (kR cs) 128 i (some (kK cs)), u2 (kP cs) 1 (kK cs) (some (kK cs + 1)), kA cs, kB cs, u2 (kQ cs) 1 (kK cs) (va_up (fun _ => none) 0 (some z)), u2 (kL cs) 1 (kK cs) 10)
def nwL (cs : CS) (i z : Nat) : Option CS := if (4, i) ∈ kE cs ∧ (6, z) ∈ kE cs ∧ ∀ q ∈ kE cs, q.2 < kK cs then some (nQL cs i z) else none
theorem nwL_some {cs cs1 : CS} {i z : Nat} (h : nwL cs i z = some cs1) : ((4, i) ∈ kE cs ∧ (6, z) ∈ kE cs ∧ ∀ q ∈ kE cs, q.2 < kK cs) ∧ nQL cs i z = cs1 := by
  unfold nwL at h
  by_cases c : (4, i) ∈ kE cs ∧ (6, z) ∈ kE cs ∧ ∀ q ∈ kE cs, q.2 < kK cs
  · rw [if_pos c] at h; exact ⟨c, Option.some.inj h⟩
  · rw [if_neg c] at h; cases h
theorem nwL_k {cs cs1 : CS} {i z : Nat} (h : nwL cs i z = some cs1) : kK cs1 = kK cs + 2 ∧ kM cs1 = kM cs + 13 := by
  obtain ⟨-, rfl⟩ := nwL_some h
  exact ⟨rfl, rfl⟩
theorem va_D_re {A : Nat → Prop} {ws ws1 : va_W} (h : ws1.map Prod.fst = ws.map Prod.fst) (hD : va_D A ws) : va_D A ws1 := by
  have h5 : ∀ (k5 : Nat) (y : Nat × va_E), ws1[k5]? = some y → ∃ y0, ws[k5]? = some y0 ∧ y0.1 = y.1 := by
    intro k5 y hy
    have e1 : (ws1.map Prod.fst)[k5]? = some y.1 := by rw [List.getElem?_map, hy]; rfl
    rw [h, List.getElem?_map] at e1
    cases hq : ws[k5]? with
    | none => rw [hq] at e1; cases e1
    | some q => rw [hq] at e1; exact ⟨q, rfl, Option.some.inj e1⟩
  refine ⟨fun m n y w hm hn he => ?_, fun k5 y hy => ?_⟩
  · obtain ⟨y0, g1, g2⟩ := h5 m y hm
    obtain ⟨w0, g3, g4⟩ := h5 n w hn
    exact hD.1 m n _ _ g1 g3 (by rw [g2, g4, he])
  · obtain ⟨y0, g1, g2⟩ := h5 k5 y hy
    rw [← g2]
    exact hD.2 k5 y0 g1
theorem cW_ext {cB cI cJ cZ cS cO : ClassId} {b : Nat} {cs cs1 : CS} (hI : ∀ q ∈ kE cs, ∀ t, kI cs1 t q.2 = kI cs t q.2) (hJ : ∀ q ∈ kE cs, ∀ t, kJ cs1 t q.2 = kJ cs t q.2) (hR : ∀ q ∈ kE cs, ∀ t, kR cs1 t q.2 = kR cs t q.2) (hp : ∀ q ∈ kE cs, ∀ t, kP cs1 t q.2 = kP cs t q.2) (hA : kA cs1 = kA cs) (hB : kB cs1 = kB cs) (hQ : ∀ q ∈ kE cs, ∀ t, kQ cs1 t q.2 = kQ cs t q.2) (hL : ∀ q ∈ kE cs, ∀ t, kL cs1 t q.2 = kL cs t q.2) : (kE cs).map (fun q => (aC b cs1 q, eC cB cI cJ cZ cS cO b cs1 q)) = cW cB cI cJ cZ cS cO b cs := by
  show _ = (kE cs).map (fun q => (aC b cs q, eC cB cI cJ cZ cS cO b cs q))
  refine List.map_congr_left (fun q h => ?_)
  obtain ⟨Y, i⟩ := q
  have eI : ∀ t, kI cs1 t i = kI cs t i := hI _ h
  have eJ : ∀ t, kJ cs1 t i = kJ cs t i := hJ _ h
  have eR : ∀ t, kR cs1 t i = kR cs t i := hR _ h
  have eP : ∀ t, kP cs1 t i = kP cs t i := hp _ h
  have eQ : ∀ t, kQ cs1 t i = kQ cs t i := hQ _ h
  have eL : ∀ t, kL cs1 t i = kL cs t i := hL _ h
  have ea : aC b cs1 (Y, i) = aC b cs (Y, i) := by
    show (if Y < 32 then b + i else b + (kP cs1 (Y - 32) i).getD 0) = (if Y < 32 then b + i else b + (kP cs (Y - 32) i).getD 0)
    rw [eP]
  have ee : eC cB cI cJ cZ cS cO b cs1 (Y, i) = eC cB cI cJ cZ cS cO b cs (Y, i) := by
    unfold eC
    by_cases hY : Y < 32
    · rw [if_pos hY, if_pos hY]
      show Sum.inr (Y, vL b cs1 i (32 * Y) (tyX Y)) = Sum.inr (Y, vL b cs i (32 * Y) (tyX Y))
      rw [vL_eq (fun z w _ _ => ?_)]
      match w with
      | 0 => show Value.int _ = Value.int _; rw [eI]
      | 1 => show Value.long _ = Value.long _; rw [eJ]
      | 2 => show rv b _ = rv b _; rw [eR]
      | _ + 3 => show rv b _ = rv b _; rw [eP]
    · rw [if_neg hY, if_neg hY]
      show eA cB cI cJ cZ cS cO b cs1 (Y - 32) i (aty (Y - 32)) = eA cB cI cJ cZ cS cO b cs (Y - 32) i (aty (Y - 32))
      unfold eA
      rw [hA, hB, eQ, eL]
  rw [ea, ee]
theorem cW_nQL {cB cI cJ cZ cS cO : ClassId} {b : Nat} {cs : CS} {i z : Nat} (hlt : ∀ q ∈ kE cs, q.2 < kK cs) : cW cB cI cJ cZ cS cO b (nQL cs i z) = cW cB cI cJ cZ cS cO b (sR cs 128 i (some (kK cs))) ++ [(b + kK cs, .inr (0, [.int 1, .ref (b + (kK cs + 1)), .int 1])), (b + (kK cs + 1), .inl (cO, 10, .inr (.inr (.inr (.inr (va_up (fun _ => none) 0 (some (b + z))))))))] := by
  show ((kE cs ++ [(0, kK cs), (33, kK cs)]).map (fun q => (aC b (nQL cs i z) q, eC cB cI cJ cZ cS cO b (nQL cs i z) q))) = _
  rw [List.map_append]
  have hn : ∀ q ∈ kE cs, ∀ (t t0 : Nat), ¬ (t = t0 ∧ q.2 = kK cs) := fun q hq t t0 e => by have := hlt q hq; omega
  have e1 : (kE cs).map (fun q => (aC b (nQL cs i z) q, eC cB cI cJ cZ cS cO b (nQL cs i z) q)) = cW cB cI cJ cZ cS cO b (sR cs 128 i (some (kK cs))) := cW_ext (cs := (sR cs 128 i (some (kK cs)))) (cs1 := (nQL cs i z)) (fun q hq t => (u2_n (hn q hq t 2)).trans (u2_n (hn q hq t 0))) (fun _ _ _ => rfl) (fun _ _ _ => rfl) (fun q hq t => u2_n (hn q hq t 1)) rfl rfl (fun q hq t => u2_n (hn q hq t 1)) (fun q hq t => u2_n (hn q hq t 1))
  rw [e1]
  congr 1
  have i0 : kI (nQL cs i z) 0 (kK cs) = 1 := by
    show u2 (u2 (kI cs) 0 (kK cs) 1) 2 (kK cs) 1 0 (kK cs) = 1
    rw [u2_n (by omega), u2_s]
  have i2 : kI (nQL cs i z) 2 (kK cs) = 1 := u2_s
  have ip : kP (nQL cs i z) 1 (kK cs) = some (kK cs + 1) := u2_s
  have il : kL (nQL cs i z) 1 (kK cs) = 10 := u2_s
  have iq : kQ (nQL cs i z) 1 (kK cs) = va_up (fun _ => none) 0 (some z) := u2_s
  show [(b + kK cs, Sum.inr (0, [Value.int (kI (nQL cs i z) 0 (kK cs)), rv b (kP (nQL cs i z) 1 (kK cs)), Value.int (kI (nQL cs i z) 2 (kK cs))])), (b + (kP (nQL cs i z) 1 (kK cs)).getD 0, Sum.inl (cO, kL (nQL cs i z) 1 (kK cs), Sum.inr (Sum.inr (Sum.inr (Sum.inr (fun y => (kQ (nQL cs i z) 1 (kK cs) y).map (fun w => b + w)))))))] = _
  rw [i0, i2, ip, il, iq]
  have e7 : (fun y => (va_up (fun _ => none) 0 (some z) y).map (fun w => b + w)) = va_up (fun _ => none) 0 (some (b + z)) := by
    funext y
    unfold va_up
    by_cases hy : y = 0
    · rw [if_pos hy, if_pos hy]; rfl
    · rw [if_neg hy, if_neg hy]; rfl
  rw [e7]
  rfl
theorem qList_X3 {p : Program} {l : Launch} {e : Env} {R : Room} {s : State} {m : MethodId} {args : Array Value} {below : List Frame} {meth : Method} {c : Code} {H : Heap} {locs : List Loc} {cells slots : Nat} {Q : State → Prop} {cc : ByteArray} {pc : Nat} {ls : Array Slot} {rest : List Value} {y0 : MethodName} {c0 : ByteArray} {n0 : Nat} {r0 : Option FieldType} {dC : Nat → ClassId} {dI : Nat → Nat → Nat} {cB cI cJ cZ cS cO : ClassId} {b : Nat} {cs : CS} {A : Nat → Prop} {Gh : Heap} {nL p0 p1 : Nat} {lv : List (Nat × Value)} {K V : Nat → Nat} {fz : Value} {cs1 : CS} {i z : Nat} (hx : p.tables.exec = Jvm.exec) (hb : c.code = cc) (hml : c.maxLocals = nL) (hts : ∀ w ∈ wsOf y0 c0 n0 r0, w.before args s = true) (hown : s.vm.findClass RX3 = some m.cls) (hK : va_K (dC, dI) vwCl [(cB, .byte), (cI, .int), (cJ, .long), (cZ, .boolean), (cS, .object "StreamQueries$Source"), (cO, .object "java/lang/Object")] s) (hP : va_P (dC, dI) vwCl (cW cB cI cJ cZ cS cO b cs) H) (hD : va_D A (cW cB cI cJ cZ cS cO b cs)) (hS : va_S A Gh H locs) (hG : va_S A s.heap Gh []) (hA : ∀ q, s.heap.size ≤ q → A q) (hgz : Gh.size = b + kK cs) (hcc : s.heap.size + cells = b + kK cs) (hZ : zE K V fz A s) (hin : meth.name = "<init>") (hR : cells + 2 ≤ R.cells ∧ slots + 13 ≤ R.slots) (hv : nwL cs i z = some cs1) (hl : lv_has ls nL lv) (h0 : lv[p0]? = some (0, .ref (b + i))) (h1 : lv[p1]? = some (1, .ref (b + z))) (h8 : (rest.map fun v => v.category).sum ≤ 6) (hR1 : 6 ≤ R.frames) (hR2 : 400 ≤ R.locals) (d1 : decode cc pc = .ok (.new 7, 3)) (d2 : decode cc (pc + 3) = .ok (.dup, 1)) (d3 : decode cc (pc + 3 + 1) = .ok (.invokespecial 9, 3)) (d4 : decode cc (pc + 3 + 1 + 3) = .ok (.putfield 10, 3)) (d5 : decode cc (pc + 3 + 1 + 3 + 3) = .ok (.aload_n 0, 1)) (d6 : decode cc (pc + 3 + 1 + 3 + 3 + 1) = .ok (.getfield 10, 3)) (d7 : decode cc (pc + 3 + 1 + 3 + 3 + 1 + 3) = .ok (.aload_n 1, 1)) (d8 : decode cc (pc + 3 + 1 + 3 + 3 + 1 + 3 + 1) = .ok (.invokevirtual 16, 3)) (d9 : decode cc (pc + 3 + 1 + 3 + 3 + 1 + 3 + 1 + 3) = .ok (.pop, 1)) (kk : ∀ (H1 : Heap) (locs1 : List Loc), va_P (dC, dI) vwCl (cW cB cI cJ cZ cS cO b cs1) H1 → va_D A (cW cB cI cJ cZ cS cO b cs1) → va_S A s.heap H1 [] → H1.size = b + kK cs1 → va_S A H1 H1 locs1 → W p l e R s m args below meth c H1 locs1 (cells + 2) (slots + 13) Q (F0 m (pc + 3 + 1 + 3 + 3 + 1 + 3 + 1 + 3 + 1) ls rest)) : W p l e R s m args below meth c H locs cells slots Q (F0 m pc ls (.ref (b + i) :: rest)) := by
  refine W_sz (fun hu => ?_)
  have hz : H.size = b + kK cs := by have := hS.1; omega
  obtain ⟨⟨m1, m2, hlt⟩, rfl⟩ := nwL_some hv
  have hSs := hG.comp hS
  have hKn := hK.1 0 _ (show vwCl[0]? = some (RJx4a65c, TJx4a65c, 3) from rfl)
  refine W.newcK hx hb hown (hts _ (List.mem_cons_of_mem _ kw_740)) (hts _ (List.mem_cons_of_mem _ kw_741)) (hts _ (List.mem_cons_of_mem _ kw_199)) rfl d1 (by omega) (by omega) hKn.2.1 hz fun H1 kC hkC e1 z1 o1 => ?_
  rw [← hz] at o1
  have hPa : va_P (dC, dI) vwCl (cW cB cI cJ cZ cS cO b cs) H1 := hP.kept (fun k y hy => o1 y.1 ((hP k y hy).lt))
  have hP1 : va_P (dC, dI) vwCl (cW cB cI cJ cZ cS cO b cs ++ [(b + kK cs, .inr (0, [.int 0, .null, .int 0]))]) H1 := hPa.app (fun k y hy => by
    have hz1 : k < 1 := (List.getElem?_eq_some_iff.mp hy).1
    rw [show k = 0 by omega] at hy
    cases hy
    exact ⟨_, rfl, (u_born tyJx4a65c hts (fun w h => List.mem_cons_of_mem _ (uG_Jx4a65c w h)) hKn hkC e1 tyJx4a65c_ok).to (by decide +kernel)⟩)
  have hD1 : va_D A (cW cB cI cJ cZ cS cO b cs ++ [(b + kK cs, .inr (0, [.int 0, .null, .int 0]))]) := hD.push hP hz.symm (hA _ (by rw [← hz]; exact hSs.1))
  have hS1 : va_S A s.heap H1 locs := ⟨Nat.le_trans hSs.1 (by omega), fun y g1 g2 => (o1 y (Nat.lt_of_lt_of_le g1 hSs.1)).trans (hSs.2.1 y g1 g2), hSs.2.2⟩
  refine lv_dup hx hb d2 rfl ?_
  have hmp : [(cW cB cI cJ cZ cS cO b cs).length].map (fun i => (cW cB cI cJ cZ cS cO b cs ++ [(b + kK cs, .inr (0, [.int 0, .null, .int 0]))])[i]?) = ([(b + kK cs, .inr (0, [.int 0, .null, .int 0]))] : va_W).map some := by
    show [(cW cB cI cJ cZ cS cO b cs ++ [(b + kK cs, .inr (0, [.int 0, .null, .int 0]))])[(cW cB cI cJ cZ cS cO b cs).length]?] = [some (b + kK cs, .inr (0, [.int 0, .null, .int 0]))]
    rw [List.getElem?_append_right (Nat.le_refl _), Nat.sub_self]
    rfl
  have hPc : va_P (dC, dI) vwCl [(b + kK cs, .inr (0, [.int 0, .null, .int 0]))] H1 := fun k y hy => by
    have h3 : k < 1 := (List.getElem?_eq_some_iff.mp hy).1
    rw [show k = 0 by omega] at hy
    cases hy
    exact hP1 (cW cB cI cJ cZ cS cO b cs).length _ (by rw [List.getElem?_append_right (Nat.le_refl _), Nat.sub_self]; rfl)
  have hDc : va_D (fun _ => True) ([(b + kK cs, .inr (0, [.int 0, .null, .int 0]))] : va_W) := ⟨fun m n y w hm hn _ => by
    have := (List.getElem?_eq_some_iff.mp hm).1
    have := (List.getElem?_eq_some_iff.mp hn).1
    simp at *
    omega, fun _ _ _ => trivial⟩
  have hFc : ∀ q, va_A [(b + kK cs, .inr (0, [.int 0, .null, .int 0]))] H1.size q → A q := va_free (wc := [(b + kK cs, .inr (0, [.int 0, .null, .int 0]))]) hD1 hS1 hA [(cW cB cI cJ cZ cS cO b cs).length] hmp
  refine va_callv (va_runI (As := []) (rest := .ref (b + kK cs) :: .ref (b + i) :: rest) ⟨hx, hb, hml, hown, hts⟩ (t_AL_init l dC dI H1.size cB cI cJ cZ cS cO (b + kK cs) K V fz) (cwI 0 hts (gd_all (in_I kc_Jx4a65c_init_da8c8)) rfl rfl rfl (hts _ (List.mem_cons_of_mem _ kw_199)) (hts _ (List.mem_cons_of_mem _ kw_742)) (hts _ (List.mem_cons_of_mem _ kw_743)) rfl (by decide +kernel) ⟨by show 3 + 1 ≤ R.frames; omega, by show 8 + (1 + 11) + 180 ≤ R.locals; omega⟩) ⟨fun a U g mk q => by obtain ⟨q0, q1, qP, qK, qD, qZ⟩ := q; exact ⟨q0, q1, qP, va_K.moved (u := U) (U := U.calling g mk a) (Vm.Alike.refl U.vm) qK, qD, zE.same (u := U) (U := U.calling g mk a) rfl rfl qZ⟩, fun U hU hW => ⟨rfl, by rw [hU], by rw [hU]; exact hPc, va_K.moved hW.alike hK, hDc, zE.go hZ hS1 hU hW hFc⟩⟩ (g := F0 m (pc + 3 + 1) ls _) rfl rfl hl.1 rfl (lv_room (by show 1 + (1 + (rest.map fun v => v.category).sum) ≤ 8; omega)) d3 ⟨by omega, by omega⟩) hS1 (fun q _ h => hFc q h) hFc (fun u t_ H2 locs2 ht hvm hw hB hz2 hk2 hS2 => ?_)
  obtain ⟨hPn, -, hDn⟩ := hB
  rw [ht] at hPn
  have hPb : va_P (dC, dI) vwCl (cW cB cI cJ cZ cS cO b cs) H2 := fun k y hy => by
    have l9 := (hP k y hy).lt
    refine (hPa k y hy).kept (hk2 y.1 (hPa k y hy).lt (fun h => ?_))
    rcases h with ⟨k4, e4, h⟩ | h
    · have h3 : k4 < 1 := (List.getElem?_eq_some_iff.mp h).1
      rw [show k4 = 0 by omega] at h
      have h9 : b + kK cs = y.1 := congrArg Prod.fst (Option.some.inj h)
      omega
    · exact absurd (hPa k y hy).lt (Nat.not_lt.mpr h)
  have hP2 : va_P (dC, dI) vwCl (cW cB cI cJ cZ cS cO b cs ++ [(b + kK cs, .inr (0, [.int 0, .ref (V 42), .int 0]))]) H2 := hPb.app hPn
  have hD2 : va_D A (cW cB cI cJ cZ cS cO b cs ++ [(b + kK cs, .inr (0, [.int 0, .ref (V 42), .int 0]))]) := va_D_re (by simp only [List.map_append, List.map_cons, List.map_nil]) hD1
  obtain ⟨k0, hk0, hg0⟩ := cO_at (b := b) (cB := cB) (cI := cI) (cJ := cJ) (cZ := cZ) (cS := cS) (cO := cO) (by decide) m1
  have hkl := (List.getElem?_eq_some_iff.mp hg0).1
  have hset : (cW cB cI cJ cZ cS cO b cs).set k0 (b + i, .inr (4, (vL b cs i (32 * 4) (tyX 4)).set 0 (.ref (b + kK cs)))) = cW cB cI cJ cZ cS cO b (sR cs 128 i (some (kK cs))) := cW_putF (f := 0) (y := 2) (v := .ref (b + kK cs)) (cs1 := (sR cs 128 i (some (kK cs)))) (by decide) rfl hD hk0 rfl rfl rfl rfl rfl rfl (by show rv b (u2 (kR cs) 128 i (some (kK cs)) 128 i) = _; rw [u2_s]; rfl) (fun z j w hn => by
    have e9 : kR (sR cs 128 i (some (kK cs))) z j = kR cs z j := u2_n hn
    match w with
    | 0 => rfl
    | 1 => rfl
    | 2 => show rv b (kR (sR cs 128 i (some (kK cs))) z j) = rv b (kR cs z j); rw [e9]
    | _ + 3 => rfl)
  refine va_putF (D := (dC, dI)) (ci := 4) (v := .ref (b + kK cs)) (ty := .object "java/util/ArrayList") (C := RX3) (T := TX3) (N := 6) hx hb hts (fun w h => List.mem_cons_of_mem _ (uG_X3 w h)) tyX3 tyX3_ok nmX3 hown hK hP2 hD2 hS2 k0 ((List.getElem?_append_left hkl).trans hg0) rfl 0 (by decide) (hts _ (List.mem_cons_of_mem _ kw_823)) (fun _ h9 => h9) rfl hin rfl (by decide +kernel) rfl rfl (by rw [vL_len]; decide) d4 (fun H3 locs3 hP3 hD3 hS3 => ?_)
  have hset2 : (cW cB cI cJ cZ cS cO b cs ++ ([(b + kK cs, .inr (0, [.int 0, .ref (V 42), .int 0]))] : va_W)).set k0 (b + i, .inr (4, (vL b cs i (32 * 4) (tyX 4)).set 0 (.ref (b + kK cs)))) = (cW cB cI cJ cZ cS cO b (sR cs 128 i (some (kK cs))) ++ ([(b + kK cs, .inr (0, [.int 0, .ref (V 42), .int 0]))] : va_W)) := by
    rw [List.set_append, if_pos hkl, hset]
  have hP3 : va_P (dC, dI) vwCl (cW cB cI cJ cZ cS cO b (sR cs 128 i (some (kK cs))) ++ ([(b + kK cs, .inr (0, [.int 0, .ref (V 42), .int 0]))] : va_W)) H3 := by rw [← hset2]; exact hP3
  have hD3 : va_D A (cW cB cI cJ cZ cS cO b (sR cs 128 i (some (kK cs))) ++ ([(b + kK cs, .inr (0, [.int 0, .ref (V 42), .int 0]))] : va_W)) := by rw [← hset2]; exact hD3
  have hlast : (cW cB cI cJ cZ cS cO b (sR cs 128 i (some (kK cs))) ++ ([(b + kK cs, .inr (0, [.int 0, .ref (V 42), .int 0]))] : va_W))[(cW cB cI cJ cZ cS cO b (sR cs 128 i (some (kK cs)))).length]? = some (b + kK cs, .inr (0, [.int 0, .ref (V 42), .int 0])) := by
    rw [List.getElem?_append_right (Nat.le_refl _), Nat.sub_self]
    rfl
  refine W_sz (fun hu3 => ?_)
  have hz3 : H3.size = b + (kK cs + 1) := by
    have l9 : b + kK cs < H3.size := (hP3 _ _ hlast).lt
    omega
  refine lv_aload_n hx hb d5 rfl (lv_at hl p0 h0) ?_
  obtain ⟨k5, hk5, hg5⟩ := cO_at (b := b) (cB := cB) (cI := cI) (cJ := cJ) (cZ := cZ) (cS := cS) (cO := cO) (cs := (sR cs 128 i (some (kK cs)))) (X := 4) (i := i) (by decide) m1
  have hkl5 := (List.getElem?_eq_some_iff.mp hg5).1
  have hf5 : (vL b (sR cs 128 i (some (kK cs))) i (32 * 4) (tyX 4))[0]? = some (.ref (b + kK cs)) := by
    show some (rv b (u2 (kR cs) 128 i (some (kK cs)) 128 i)) = _
    rw [u2_s]; rfl
  refine va_get (D := (dC, dI)) (ci := 4) (C := RX3) (T := TX3) (N := 6) hx hb hts (fun w h => List.mem_cons_of_mem _ (uG_X3 w h)) hown hK hP3 k5 ((List.getElem?_append_left hkl5).trans hg5) rfl 0 (by decide) (hts _ (List.mem_cons_of_mem _ kw_823)) (fun _ h9 => h9) hf5 d6 ?_
  refine lv_aload_n hx hb d7 rfl (lv_at hl p1 h1) ?_
  obtain ⟨k6, hk6, hg6⟩ := cO_at (b := b) (cB := cB) (cI := cI) (cJ := cJ) (cZ := cZ) (cS := cS) (cO := cO) (cs := (sR cs 128 i (some (kK cs)))) (X := 6) (i := z) (by decide) m2
  have hkl6 := (List.getElem?_eq_some_iff.mp hg6).1
  have hzl : z < kK cs := hlt _ m2
  have hmp2 : [(cW cB cI cJ cZ cS cO b (sR cs 128 i (some (kK cs)))).length, k6].map (fun i9 => (cW cB cI cJ cZ cS cO b (sR cs 128 i (some (kK cs))) ++ ([(b + kK cs, .inr (0, [.int 0, .ref (V 42), .int 0]))] : va_W))[i9]?) = ([(b + kK cs, .inr (0, [.int 0, .ref (V 42), .int 0])), (b + z, .inr (6, (vL b (sR cs 128 i (some (kK cs))) z (32 * 6) (tyX 6))))] : va_W).map some := by
    show [(cW cB cI cJ cZ cS cO b (sR cs 128 i (some (kK cs))) ++ ([(b + kK cs, .inr (0, [.int 0, .ref (V 42), .int 0]))] : va_W))[(cW cB cI cJ cZ cS cO b (sR cs 128 i (some (kK cs)))).length]?, (cW cB cI cJ cZ cS cO b (sR cs 128 i (some (kK cs))) ++ ([(b + kK cs, .inr (0, [.int 0, .ref (V 42), .int 0]))] : va_W))[k6]?] = [some (b + kK cs, .inr (0, [.int 0, .ref (V 42), .int 0])), some (b + z, .inr (6, (vL b (sR cs 128 i (some (kK cs))) z (32 * 6) (tyX 6))))]
    rw [hlast, (List.getElem?_append_left hkl6).trans hg6]
  have hPd : va_P (dC, dI) vwCl [(b + kK cs, .inr (0, [.int 0, .ref (V 42), .int 0])), (b + z, .inr (6, (vL b (sR cs 128 i (some (kK cs))) z (32 * 6) (tyX 6))))] H3 := fun k y hy => by
    have h3 : k < 2 := (List.getElem?_eq_some_iff.mp hy).1
    match k, h3 with
    | 0, _ => cases hy; exact hP3 _ _ hlast
    | 1, _ => cases hy; exact hP3 _ _ ((List.getElem?_append_left hkl6).trans hg6)
  have hDd : va_D (fun _ => True) ([(b + kK cs, .inr (0, [.int 0, .ref (V 42), .int 0])), (b + z, .inr (6, (vL b (sR cs 128 i (some (kK cs))) z (32 * 6) (tyX 6))))] : va_W) := by
    refine ⟨fun m n y w hm hn he => ?_, fun _ _ _ => trivial⟩
    have l1 : m < 2 := (List.getElem?_eq_some_iff.mp hm).1
    have l2 : n < 2 := (List.getElem?_eq_some_iff.mp hn).1
    match m, n, l1, l2 with
    | 0, 0, _, _ => rfl
    | 1, 1, _, _ => rfl
    | 0, 1, _, _ => cases hm; cases hn; have he : b + kK cs = b + z := he; omega
    | 1, 0, _, _ => cases hm; cases hn; have he : b + z = b + kK cs := he; omega
  have hFd : ∀ q, va_A [(b + kK cs, .inr (0, [.int 0, .ref (V 42), .int 0])), (b + z, .inr (6, (vL b (sR cs 128 i (some (kK cs))) z (32 * 6) (tyX 6))))] H3.size q → A q := va_free (wc := [(b + kK cs, .inr (0, [.int 0, .ref (V 42), .int 0])), (b + z, .inr (6, (vL b (sR cs 128 i (some (kK cs))) z (32 * 6) (tyX 6))))]) hD3 hS3 hA [(cW cB cI cJ cZ cS cO b (sR cs 128 i (some (kK cs)))).length, k6] hmp2
  refine va_calli (va_runV (As := [.ref (b + z)]) (rest := rest) (b := b + kK cs) ⟨hx, hb, hml, hown, hts⟩ (t_AL_add_0 l dC dI H3.size cB cI cJ cZ cS cO (b + kK cs) 0 (b + z) (vL b (sR cs 128 i (some (kK cs))) z (32 * 6) (tyX 6)) K V fz) (cwV 1 hts (gd_all (in_V kw_766 kw_767 kw_768 kw_199 kc_Jx4a65c_add_9ea2d)) rfl rfl rfl (by decide +kernel) ⟨by show 5 + 1 ≤ R.frames; omega, by show 8 + (2 + 11) + 300 ≤ R.locals; omega⟩)
    ⟨fun x U g mk q => by obtain ⟨q0, q1, qP, qK, qD, qZ⟩ := q; exact ⟨q0, q1, qP, va_K.moved (u := U) (U := U.calling g mk x) (Vm.Alike.refl U.vm) qK, qD, zE.same (u := U) (U := U.calling g mk x) rfl rfl qZ⟩, va_recv hK hPd (ci := 0) (q0 := 0) rfl rfl, fun U hU hW => ⟨rfl, by rw [hU], by rw [hU]; exact hPd, va_K.moved hW.alike hK, hDd, zE.go hZ hS3 hU hW hFd⟩⟩
    (g := F0 m (pc + 3 + 1 + 3 + 3 + 1 + 3 + 1) ls _) rfl rfl hl.1 rfl (lv_room (by omega)) d8 ⟨by omega, by omega⟩) hS3 (fun q _ h => hFd q h) hFd (fun r u t_ H4 locs4 ht hvm hw hB hz4 hk4 hS4 => ?_)
  obtain ⟨a1, hP4, -, hD4⟩ := hB
  rw [ht] at hP4
  subst hw
  refine lv_pop hx hb d9 rfl ?_
  refine W_sz (fun hu4 => ?_)
  have ha1 : a1 < H4.size := (hP4 2 _ rfl).lt
  have ha2 : H3.size ≤ a1 := by
    rcases hD4.2 2 _ rfl with ⟨k3, e3, h⟩ | h
    · have h3 : k3 < 2 := (List.getElem?_eq_some_iff.mp h).1
      match k3, h3 with
      | 0, _ =>
        have h9 : b + kK cs = a1 := congrArg Prod.fst (Option.some.inj h)
        have := hD4.1 0 2 _ _ rfl rfl h9
        omega
      | 1, _ =>
        have h9 : b + z = a1 := congrArg Prod.fst (Option.some.inj h)
        have := hD4.1 1 2 _ _ rfl rfl h9
        omega
    · exact h
  have ha : a1 = b + (kK cs + 1) := by omega
  subst ha
  have hP3a : va_P (dC, dI) vwCl (cW cB cI cJ cZ cS cO b (sR cs 128 i (some (kK cs)))) H3 := fun k y hy => hP3 k y ((List.getElem?_append_left (List.getElem?_eq_some_iff.mp hy).1).trans hy)
  have hPz : va_P (dC, dI) vwCl (cW cB cI cJ cZ cS cO b (sR cs 128 i (some (kK cs)))) H4 := fun k y hy => by
    have l7 := (List.getElem?_eq_some_iff.mp hy).1
    have hy7 : (cW cB cI cJ cZ cS cO b (sR cs 128 i (some (kK cs))) ++ ([(b + kK cs, .inr (0, [.int 0, .ref (V 42), .int 0]))] : va_W))[k]? = some y := (List.getElem?_append_left l7).trans hy
    by_cases e9 : y.1 = b + z
    · have e8 := hD3.1 k k6 _ _ hy7 ((List.getElem?_append_left hkl6).trans hg6) e9
      subst e8
      have e7 := Option.some.inj (hy.symm.trans hg6)
      rw [e7]
      exact hP4 1 _ rfl
    · refine (hP3a k y hy).kept (hk4 y.1 (hP3a k y hy).lt (fun h => ?_))
      rcases h with ⟨k4, e4, h⟩ | h
      · have h3 : k4 < 2 := (List.getElem?_eq_some_iff.mp h).1
        match k4, h3 with
        | 0, _ =>
          have h9 : b + kK cs = y.1 := congrArg Prod.fst (Option.some.inj h)
          have := hD3.1 _ _ _ _ hlast hy7 h9
          omega
        | 1, _ =>
          have h9 : b + z = y.1 := congrArg Prod.fst (Option.some.inj h)
          exact e9 h9.symm
      · exact absurd (hP3a k y hy).lt (Nat.not_lt.mpr h)
  have hPw : va_P (dC, dI) vwCl [(b + kK cs, .inr (0, [.int 1, .ref (b + (kK cs + 1)), .int 1])), (b + (kK cs + 1), .inl (cO, 10, .inr (.inr (.inr (.inr (va_up (fun _ => none) 0 (some (b + z))))))))] H4 := hP4.sub [0, 2] rfl
  have hDz : va_D A ((cW cB cI cJ cZ cS cO b (sR cs 128 i (some (kK cs))) ++ ([(b + kK cs, .inr (0, [.int 0, .ref (V 42), .int 0]))] : va_W)) ++ [(b + (kK cs + 1), .inl (cO, 10, .inr (.inr (.inr (.inr (va_up (fun _ => none) 0 (some (b + z))))))))]) := hD3.push hP3 hz3.symm (hA _ (by rw [← hz3]; exact hS3.1))
  refine kk H4 locs4 ?_ ?_ hS4.nil (by show H4.size = b + (kK cs + 2); omega) hS4.self
  · rw [cW_nQL hlt]
    exact hPz.app hPw
  · rw [cW_nQL hlt]
    exact va_D_re (by simp only [List.map_append, List.map_cons, List.map_nil, List.append_assoc, List.cons_append, List.nil_append]) hDz

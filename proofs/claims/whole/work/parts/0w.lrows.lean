/-! lists -/
theorem cW_D {cB cI cJ cZ cS cO : ClassId} {b : Nat} {cs cs1 : CS} {A : Nat → Prop} (hE : kE cs1 = kE cs) (hp : kP cs1 = kP cs) (hD : va_D A (cW cB cI cJ cZ cS cO b cs)) : va_D A (cW cB cI cJ cZ cS cO b cs1) := by
  have h5 : ∀ (k5 : Nat) (y : Nat × va_E), (cW cB cI cJ cZ cS cO b cs1)[k5]? = some y → ∃ y0, (cW cB cI cJ cZ cS cO b cs)[k5]? = some y0 ∧ y0.1 = y.1 := by
    intro k5 y hy
    unfold cW at hy
    rw [List.getElem?_map] at hy
    cases hq : (kE cs1)[k5]? with
    | none => rw [hq] at hy; cases hy
    | some q =>
      rw [hq] at hy
      cases hy
      refine ⟨_, cW_at (show (kE cs)[k5]? = some q by rw [← hE]; exact hq), ?_⟩
      show aC b cs q = aC b cs1 q
      unfold aC
      rw [hp]
  refine ⟨fun m n y w hm hn he => ?_, fun k5 y hy => ?_⟩
  · obtain ⟨y0, g1, g2⟩ := h5 m y hm
    obtain ⟨w0, g3, g4⟩ := h5 n w hn
    exact hD.1 m n _ _ g1 g3 (by rw [g2, g4, he])
  · obtain ⟨y0, g1, g2⟩ := h5 k5 y hy
    rw [← g2]
    exact hD.2 k5 y0 g1
theorem cW_sI {cB cI cJ cZ cS cO : ClassId} {b : Nat} {cs : CS} {A : Nat → Prop} {X f i k : Nat} {v : Int32} (hX : X < 32) (hf : (tyX X)[f]? = some 0) (hD : va_D A (cW cB cI cJ cZ cS cO b cs)) (hk : (kE cs)[k]? = some (X, i)) : (cW cB cI cJ cZ cS cO b cs).set k (b + i, .inr (X, (vL b cs i (32 * X) (tyX X)).set f (.int v))) = cW cB cI cJ cZ cS cO b (sI cs (32 * X + f) i v) :=
  cW_putF (cs1 := sI cs (32 * X + f) i v) hX hf hD hk rfl rfl rfl rfl rfl rfl (by show Value.int (u2 (kI cs) (32 * X + f) i v (32 * X + f) i) = _; rw [u2_s]) (fun z j w hn => by
    have e9 : kI (sI cs (32 * X + f) i v) z j = kI cs z j := u2_n hn
    match w with
    | 0 => show Value.int (kI (sI cs (32 * X + f) i v) z j) = Value.int (kI cs z j); rw [e9]
    | 1 => rfl
    | 2 => rfl
    | _ + 3 => rfl)
def sLA (cs : CS) (L z : Nat) : CS := sQ (sI (sI cs 0 L (kI cs 0 L + 1)) 2 L (kI cs 2 L + 1)) 1 L (kI cs 2 L).toNatClampNeg (some z)
def lAd (cs : CS) (L z : Nat) : Option CS := Option.bind (kP cs 1 L) fun j => if (0, L) ∈ kE cs ∧ (33, L) ∈ kE cs ∧ (6, z) ∈ kE cs ∧ kP cs 1 L = some j ∧ kL cs 1 L = 10 ∧ ¬ kI cs 2 L < 0 ∧ kI cs 2 L < 10 then some (sLA cs L z) else none
theorem lAd_some {cs cs1 : CS} {L z : Nat} (h : lAd cs L z = some cs1) : ∃ j, ((0, L) ∈ kE cs ∧ (33, L) ∈ kE cs ∧ (6, z) ∈ kE cs ∧ kP cs 1 L = some j ∧ kL cs 1 L = 10 ∧ ¬ kI cs 2 L < 0 ∧ kI cs 2 L < 10) ∧ sLA cs L z = cs1 := by
  unfold lAd at h
  obtain ⟨j, h1, h⟩ := ob h
  by_cases c : (0, L) ∈ kE cs ∧ (33, L) ∈ kE cs ∧ (6, z) ∈ kE cs ∧ kP cs 1 L = some j ∧ kL cs 1 L = 10 ∧ ¬ kI cs 2 L < 0 ∧ kI cs 2 L < 10
  · rw [if_pos c] at h; exact ⟨j, c, Option.some.inj h⟩
  · rw [if_neg c] at h; cases h
theorem lAd_k {cs cs1 : CS} {L z : Nat} (h : lAd cs L z = some cs1) : kK cs1 = kK cs ∧ kM cs1 = kM cs := by
  obtain ⟨j, -, rfl⟩ := lAd_some h
  exact ⟨rfl, rfl⟩
theorem ladd_X9 {p : Program} {l : Launch} {e : Env} {R : Room} {s : State} {m : MethodId} {args : Array Value} {below : List Frame} {meth : Method} {c : Code} {H : Heap} {locs : List Loc} {cells slots : Nat} {Q : State → Prop} {cc : ByteArray} {pc : Nat} {ls : Array Slot} {rest : List Value} {y0 : MethodName} {c0 : ByteArray} {n0 : Nat} {r0 : Option FieldType} {dC : Nat → ClassId} {dI : Nat → Nat → Nat} {cB cI cJ cZ cS cO : ClassId} {b : Nat} {cs : CS} {A : Nat → Prop} {Gh : Heap} {nL : Nat} {K V : Nat → Nat} {fz : Value} {cs1 : CS} {L z : Nat} (hx : p.tables.exec = Jvm.exec) (hb : c.code = cc) (hml : c.maxLocals = nL) (hts : ∀ w ∈ wsOf y0 c0 n0 r0, w.before args s = true) (hown : s.vm.findClass RX9 = some m.cls) (hK : va_K (dC, dI) vwCl [(cB, .byte), (cI, .int), (cJ, .long), (cZ, .boolean), (cS, .object "StreamQueries$Source"), (cO, .object "java/lang/Object")] s) (hP : va_P (dC, dI) vwCl (cW cB cI cJ cZ cS cO b cs) H) (hD : va_D A (cW cB cI cJ cZ cS cO b cs)) (hS : va_S A Gh H locs) (hG : va_S A s.heap Gh []) (hA : ∀ q, s.heap.size ≤ q → A q) (hgz : Gh.size = b + kK cs) (hcc : s.heap.size + cells = b + kK cs) (hZ : zE K V fz A s) (hv : lAd cs L z = some cs1) (hsz : ls.size = nL) (h8 : (rest.map fun v => v.category).sum ≤ 8) (hR : cells ≤ R.cells ∧ slots ≤ R.slots) (hR1 : 4 ≤ R.frames) (hR2 : 300 ≤ R.locals) (hdg : decode cc pc = .ok (.invokevirtual 146, 3)) (kk : ∀ (H1 : Heap) (locs1 : List Loc), va_P (dC, dI) vwCl (cW cB cI cJ cZ cS cO b cs1) H1 → va_D A (cW cB cI cJ cZ cS cO b cs1) → va_S A s.heap H1 [] → H1.size = b + kK cs → va_S A H1 H1 locs1 → W p l e R s m args below meth c H1 locs1 cells slots Q (F0 m (pc + 3) ls (.int 1 :: rest))) : W p l e R s m args below meth c H locs cells slots Q (F0 m pc ls (.ref (b + z) :: .ref (b + L) :: rest)) := by
  refine W_sz (fun hu => ?_)
  have hz : H.size = b + kK cs := by have := hS.1; omega
  obtain ⟨j, ⟨m1, m2, m3, p1, p2, n1, n2⟩, rfl⟩ := lAd_some hv
  have hSs := hG.comp hS
  obtain ⟨c1, hc1, e0⟩ : ∃ c1 : Nat, c1 < 10 ∧ kI cs 2 L = nI c1 := by
    obtain ⟨c1, g1, g2⟩ := nI_of n1
    rw [g2] at n2
    exact ⟨c1, (nI_ltI (a := c1) (b := 10) (by omega) (by omega)).mp n2, g2⟩
  obtain ⟨k1, hk1, hg1⟩ := cO_at (b := b) (cB := cB) (cI := cI) (cJ := cJ) (cZ := cZ) (cS := cS) (cO := cO) (by decide) m1
  obtain ⟨k2, hk2, hg2⟩ := cO_at (b := b) (cB := cB) (cI := cI) (cJ := cJ) (cZ := cZ) (cS := cS) (cO := cO) (by decide) m3
  obtain ⟨k3, hk3, hg3⟩ := cA_at (b := b) (cB := cB) (cI := cI) (cJ := cJ) (cZ := cZ) (cS := cS) (cO := cO) (t := 1) m2 p1
  have hg1 : (cW cB cI cJ cZ cS cO b cs)[k1]? = some (b + L, .inr (0, [.int (kI cs 0 L), .ref (b + j), .int (nI c1)])) := by
    rw [hg1]
    show some (b + L, Sum.inr (0, [Value.int (kI cs 0 L), rv b (kP cs 1 L), Value.int (kI cs 2 L)])) = _
    rw [p1, e0]; rfl
  have hg3 : (cW cB cI cJ cZ cS cO b cs)[k3]? = some (b + j, .inl (cO, 10, .inr (.inr (.inr (.inr (fun y => (kQ cs 1 L y).map (fun w => b + w))))))) := by
    rw [hg3]
    show some (b + j, Sum.inl (cO, kL cs 1 L, Sum.inr (Sum.inr (Sum.inr (Sum.inr (fun y => (kQ cs 1 L y).map (fun w => b + w))))))) = _
    rw [p2]
  have a12 : b + L ≠ b + z := fun e => by
    have := hD.1 k1 k2 _ _ hg1 hg2 e
    subst this
    have := hk1.symm.trans hk2
    simp at this
  have a13 : b + L ≠ b + j := fun e => by
    have := hD.1 k1 k3 _ _ hg1 hg3 e
    subst this
    have := hk1.symm.trans hk3
    simp at this
  have a23 : b + z ≠ b + j := fun e => by
    have := hD.1 k2 k3 _ _ hg2 hg3 e
    subst this
    have := hk2.symm.trans hk3
    simp at this
  have hmapC : [k1, k2, k3].map (fun i => (cW cB cI cJ cZ cS cO b cs)[i]?) = ([(b + L, .inr (0, [.int (kI cs 0 L), .ref (b + j), .int (nI c1)])), (b + z, .inr (6, vL b cs z (32 * 6) (tyX 6))), (b + j, .inl (cO, 10, .inr (.inr (.inr (.inr (fun y => (kQ cs 1 L y).map (fun w => b + w)))))))] : va_W).map some := by simp [hg1, hg2, hg3]
  have hPc : va_P (dC, dI) vwCl [(b + L, .inr (0, [.int (kI cs 0 L), .ref (b + j), .int (nI c1)])), (b + z, .inr (6, vL b cs z (32 * 6) (tyX 6))), (b + j, .inl (cO, 10, .inr (.inr (.inr (.inr (fun y => (kQ cs 1 L y).map (fun w => b + w)))))))] H := hP.sub [k1, k2, k3] (by simp [hg1, hg2, hg3])
  have hDc : va_D (fun _ => True) ([(b + L, .inr (0, [.int (kI cs 0 L), .ref (b + j), .int (nI c1)])), (b + z, .inr (6, vL b cs z (32 * 6) (tyX 6))), (b + j, .inl (cO, 10, .inr (.inr (.inr (.inr (fun y => (kQ cs 1 L y).map (fun w => b + w)))))))] : va_W) := by
    refine ⟨fun m n y w hm hn he => ?_, fun _ _ _ => trivial⟩
    have l1 := (List.getElem?_eq_some_iff.mp hm).1
    have l2 := (List.getElem?_eq_some_iff.mp hn).1
    have l1 : m < 3 := l1
    have l2 : n < 3 := l2
    match m, n, l1, l2 with
    | 0, 0, _, _ => rfl
    | 1, 1, _, _ => rfl
    | 2, 2, _, _ => rfl
    | 0, 1, _, _ => cases hm; cases hn; exact absurd he a12
    | 1, 0, _, _ => cases hm; cases hn; exact absurd he.symm a12
    | 0, 2, _, _ => cases hm; cases hn; exact absurd he a13
    | 2, 0, _, _ => cases hm; cases hn; exact absurd he.symm a13
    | 1, 2, _, _ => cases hm; cases hn; exact absurd he a23
    | 2, 1, _, _ => cases hm; cases hn; exact absurd he.symm a23
  have hFc : ∀ q, va_A [(b + L, .inr (0, [.int (kI cs 0 L), .ref (b + j), .int (nI c1)])), (b + z, .inr (6, vL b cs z (32 * 6) (tyX 6))), (b + j, .inl (cO, 10, .inr (.inr (.inr (.inr (fun y => (kQ cs 1 L y).map (fun w => b + w)))))))] H.size q → A q := va_free (wc := [(b + L, .inr (0, [.int (kI cs 0 L), .ref (b + j), .int (nI c1)])), (b + z, .inr (6, vL b cs z (32 * 6) (tyX 6))), (b + j, .inl (cO, 10, .inr (.inr (.inr (.inr (fun y => (kQ cs 1 L y).map (fun w => b + w)))))))]) hD hSs hA [k1, k2, k3] hmapC
  refine va_calli (va_runV (As := [.ref (b + z)]) (rest := rest) (b := b + L) ⟨hx, hb, hml, hown, hts⟩ (t_AL_add l dC dI H.size cB cI cJ cZ cS cO (b + L) (kI cs 0 L) (b + z) (b + j) c1 (fun y => (kQ cs 1 L y).map (fun w => b + w)) (vL b cs z (32 * 6) (tyX 6)) K V fz hc1) (cwV 1 hts (gd_all (in_V kw_1134 kw_767 kw_768 kw_199 kc_Jx4a65c_add_9ea2d)) rfl rfl rfl (by decide +kernel) ⟨by show 2 + 1 ≤ R.frames; omega, by show 8 + (2 + 11) + 120 ≤ R.locals; omega⟩)
    ⟨fun x U g mk q => by obtain ⟨q0, q1, qP, qK, qD, qZ⟩ := q; exact ⟨q0, q1, qP, va_K.moved (u := U) (U := U.calling g mk x) (Vm.Alike.refl U.vm) qK, qD, zE.same (u := U) (U := U.calling g mk x) rfl rfl qZ⟩, va_recv hK hPc (ci := 0) (q0 := 0) rfl rfl, fun U hU hW => ⟨rfl, by rw [hU], by rw [hU]; exact hPc, va_K.moved hW.alike hK, hDc, zE.go hZ hSs hU hW hFc⟩⟩
    (g := F0 m pc ls _) rfl rfl hsz rfl (lv_room h8) hdg hR) hSs (fun q _ h => hFc q h) hFc (fun r u t_ H1 locs1 ht hvm hw hB hz1 hk4 hS1 => ?_)
  refine W_sz (fun hu2 => ?_)
  obtain ⟨hP1, -, hD1⟩ := hB
  rw [ht] at hP1
  subst hw
  have hset : cW cB cI cJ cZ cS cO b (sLA cs L z) = ((cW cB cI cJ cZ cS cO b cs).set k1 (b + L, .inr (0, [.int (kI cs 0 L + 1), .ref (b + j), .int (nI (c1 + 1))]))).set k3 (b + j, .inl (cO, 10, .inr (.inr (.inr (.inr (va_up (fun y => (kQ cs 1 L y).map (fun w => b + w)) c1 (some (b + z)))))))) := by
    have s1 := cW_sI (X := 0) (f := 0) (v := kI cs 0 L + 1) (by decide) rfl hD hk1
    have hDa : va_D A (cW cB cI cJ cZ cS cO b (sI cs 0 L (kI cs 0 L + 1))) := cW_D (cs := cs) (cs1 := sI cs 0 L (kI cs 0 L + 1)) rfl rfl hD
    have s2 := cW_sI (cs := sI cs 0 L (kI cs 0 L + 1)) (X := 0) (f := 2) (v := kI cs 2 L + 1) (by decide) rfl hDa hk1
    have hDb : va_D A (cW cB cI cJ cZ cS cO b (sI (sI cs 0 L (kI cs 0 L + 1)) 2 L (kI cs 2 L + 1))) := cW_D (cs := cs) (cs1 := sI (sI cs 0 L (kI cs 0 L + 1)) 2 L (kI cs 2 L + 1)) rfl rfl hD
    have s3 := cW_putA (b := b) (cB := cB) (cI := cI) (cJ := cJ) (cZ := cZ) (cS := cS) (cO := cO) (cs := sI (sI cs 0 L (kI cs 0 L + 1)) 2 L (kI cs 2 L + 1)) (cs1 := sLA cs L z) (t := 1) (i := L) (e := eA cB cI cJ cZ cS cO b (sLA cs L z) 1 L (aty 1)) hDb hk3 p1 rfl rfl rfl rfl rfl rfl (fun t1 i1 hn z1 => by
      have e9 : kQ (sLA cs L z) t1 i1 = kQ cs t1 i1 := u2_n hn
      match z1 with
      | 0 => rfl
      | 1 => rfl
      | 2 => rfl
      | 3 => simp only [eA, e9] <;> rfl
      | _ + 4 => simp only [eA, e9] <;> rfl)
    rw [← s3]
    rw [show cW cB cI cJ cZ cS cO b (sI (sI cs 0 L (kI cs 0 L + 1)) 2 L (kI cs 2 L + 1)) = _ from s2.symm]
    rw [show cW cB cI cJ cZ cS cO b (sI cs 0 L (kI cs 0 L + 1)) = _ from s1.symm]
    rw [List.set_set]
    have f1 : (vL b (sI cs 0 L (kI cs 0 L + 1)) L (32 * 0) (tyX 0)).set 2 (Value.int (kI cs 2 L + 1)) = [.int (kI cs 0 L + 1), .ref (b + j), .int (nI (c1 + 1))] := by
      show [Value.int (u2 (kI cs) 0 L (kI cs 0 L + 1) 0 L), rv b (kP cs 1 L), Value.int (kI cs 2 L + 1)] = _
      rw [u2_s, p1, e0, nI_1]; rfl
    have f2 : eA cB cI cJ cZ cS cO b (sLA cs L z) 1 L (aty 1) = (.inl (cO, 10, .inr (.inr (.inr (.inr (va_up (fun y => (kQ cs 1 L y).map (fun w => b + w)) c1 (some (b + z))))))) : va_E) := by
      show Sum.inl (cO, kL cs 1 L, Sum.inr (Sum.inr (Sum.inr (Sum.inr (fun y => (kQ (sLA cs L z) 1 L y).map (fun w => b + w)))))) = _
      have e8 : kQ (sLA cs L z) 1 L = va_up (kQ cs 1 L) (kI cs 2 L).toNatClampNeg (some z) := u2_s
      rw [e8, e0, nI_clamp (n := c1) (by omega), p2]
      have e7 : (fun y => (va_up (kQ cs 1 L) c1 (some z) y).map (fun w => b + w)) = va_up (fun y => (kQ cs 1 L y).map (fun w => b + w)) c1 (some (b + z)) := by
        funext y
        unfold va_up
        by_cases hy : y = c1
        · rw [if_pos hy, if_pos hy]; rfl
        · rw [if_neg hy, if_neg hy]
      rw [e7]
    rw [f1, f2]
  have hPn : va_P (dC, dI) vwCl (((cW cB cI cJ cZ cS cO b cs).set k1 (b + L, .inr (0, [.int (kI cs 0 L + 1), .ref (b + j), .int (nI (c1 + 1))]))).set k3 (b + j, .inl (cO, 10, .inr (.inr (.inr (.inr (va_up (fun y => (kQ cs 1 L y).map (fun w => b + w)) c1 (some (b + z))))))))) H1 := by
    intro k5 y hy
    rw [List.getElem?_set, List.getElem?_set] at hy
    have l1 := (List.getElem?_eq_some_iff.mp hg1).1
    have l3 := (List.getElem?_eq_some_iff.mp hg3).1
    by_cases e3 : k3 = k5
    · rw [if_pos e3, List.length_set, if_pos (by omega)] at hy
      cases hy
      exact hP1 2 _ rfl
    · rw [if_neg e3] at hy
      by_cases e1 : k1 = k5
      · rw [if_pos e1, if_pos l1] at hy
        cases hy
        exact hP1 0 _ rfl
      · rw [if_neg e1] at hy
        by_cases e2 : k2 = k5
        · subst e2
          rw [hg2] at hy
          cases hy
          exact hP1 1 _ rfl
        · refine (hP k5 y hy).kept (hk4 y.1 (hP k5 y hy).lt (fun h => ?_))
          rcases h with ⟨k6, e6, h⟩ | h
          · have l6 := (List.getElem?_eq_some_iff.mp h).1
            have l6 : k6 < 3 := l6
            match k6, l6 with
            | 0, _ =>
              have h : some ((b + L, .inr (0, [.int (kI cs 0 L), .ref (b + j), .int (nI c1)])) : Nat × va_E) = some (y.1, e6) := h
              have h9 : b + L = y.1 := congrArg Prod.fst (Option.some.inj h)
              exact e1 (hD.1 k1 k5 _ _ hg1 hy h9)
            | 1, _ =>
              have h : some ((b + z, .inr (6, vL b cs z (32 * 6) (tyX 6))) : Nat × va_E) = some (y.1, e6) := h
              have h9 : b + z = y.1 := congrArg Prod.fst (Option.some.inj h)
              exact e2 (hD.1 k2 k5 _ _ hg2 hy h9)
            | 2, _ =>
              have h : some ((b + j, .inl (cO, 10, .inr (.inr (.inr (.inr (fun y => (kQ cs 1 L y).map (fun w => b + w))))))) : Nat × va_E) = some (y.1, e6) := h
              have h9 : b + j = y.1 := congrArg Prod.fst (Option.some.inj h)
              exact e3 (hD.1 k3 k5 _ _ hg3 hy h9)
          · exact absurd (hP k5 y hy).lt (Nat.not_lt.mpr h)
  have hDn : va_D A (cW cB cI cJ cZ cS cO b (sLA cs L z)) := cW_D (cs := cs) (cs1 := sLA cs L z) rfl rfl hD
  exact kk H1 locs1 (by rw [hset]; exact hPn) hDn hS1.nil (by omega) hS1.self

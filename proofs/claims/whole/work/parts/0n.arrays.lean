/-! arrays that are made for a field -/
def nA (cs : CS) (t i n : Nat) (f : Nat → Int32) (g : Nat → Int64) : CS := ((kK cs + 1, kM cs + n, if (32 + t, i) ∈ kE cs then kE cs else kE cs ++ [(32 + t, i)]), cs.2.1, cs.2.2.1, cs.2.2.2.1, u2 (kP cs) t i (some (kK cs)), u2 (kA cs) t i f, u2 (kB cs) t i g, u2 (kQ cs) t i (fun _ => none), u2 (kL cs) t i n)
theorem nA_mem {cs : CS} {t i n : Nat} {f : Nat → Int32} {g : Nat → Int64} {q : Nat × Nat} : q ∈ kE (nA cs t i n f g) ↔ q ∈ kE cs ∨ q = (32 + t, i) := by
  show q ∈ (if (32 + t, i) ∈ kE cs then kE cs else kE cs ++ [(32 + t, i)]) ↔ _
  by_cases c : (32 + t, i) ∈ kE cs
  · rw [if_pos c]
    exact ⟨Or.inl, fun h => h.elim id (fun e => e ▸ c)⟩
  · rw [if_neg c, List.mem_append, List.mem_singleton]
theorem nA_nodup {cs : CS} {t i n : Nat} {f : Nat → Int32} {g : Nat → Int64} (h : (kE cs).Nodup) : (kE (nA cs t i n f g)).Nodup := by
  show (if (32 + t, i) ∈ kE cs then kE cs else kE cs ++ [(32 + t, i)]).Nodup
  by_cases c : (32 + t, i) ∈ kE cs
  · rw [if_pos c]; exact h
  · rw [if_neg c]
    refine List.nodup_append.mpr ⟨h, by simp, ?_⟩
    intro x hx y hy e
    rw [List.mem_singleton] at hy
    exact c (hy ▸ e ▸ hx)
/-- the world behind a making of an array and its putting into a field -/
theorem cW_arr {cB cI cJ cZ cS cO : ClassId} {b : Nat} {cs : CS} {D : va_G} {cl : List vw_C} {A : Nat → Prop} {H : Heap} {X f0 i k n : Nat} {f : Nat → Int32} {g : Nat → Int64} {e : va_E} {P : Nat × va_E → Prop} (hX : X < 32) (hf : (tyX X)[f0]? = some 3) (hD0 : va_D A (cW cB cI cJ cZ cS cO b cs)) (hk : (kE cs)[k]? = some (X, i)) (he : eA cB cI cJ cZ cS cO b (nA cs (32 * X + f0) i n f g) (32 * X + f0) i (aty (32 * X + f0)) = e)
    (hP : va_P D cl ((cW cB cI cJ cZ cS cO b cs ++ [(b + kK cs, e)]).set k (b + i, .inr (X, (vL b cs i (32 * X) (tyX X)).set f0 (.ref (b + kK cs))))) H) (hD : va_D A ((cW cB cI cJ cZ cS cO b cs ++ [(b + kK cs, e)]).set k (b + i, .inr (X, (vL b cs i (32 * X) (tyX X)).set f0 (.ref (b + kK cs)))))) : va_P D cl (cW cB cI cJ cZ cS cO b (nA cs (32 * X + f0) i n f g)) H ∧ va_D A (cW cB cI cJ cZ cS cO b (nA cs (32 * X + f0) i n f g)) := by
  have hnd := nodup_of (kE_nodup hD0)
  have hlen0 : (cW cB cI cJ cZ cS cO b cs).length = (kE cs).length := List.length_map ..
  have hlen : ∀ q ∈ kE cs, (kE cs).idxOf q < (kE cs).length := fun q hq => List.idxOf_lt_length_of_mem hq
  have hix : ∀ q ∈ kE cs, (kE cs)[(kE cs).idxOf q]? = some q := fun q hq => by
    rw [List.getElem?_eq_getElem (hlen q hq), List.getElem_idxOf (hlen q hq)]
  have hkl : k < (kE cs).length := (List.getElem?_eq_some_iff.mp hk).1
  have hne : ∀ q, q ∈ kE (nA cs (32 * X + f0) i n f g) → q ≠ (32 + (32 * X + f0), i) → q ∈ kE cs := fun q hq hn => (nA_mem.mp hq).elim id (fun e => absurd e hn)
  refine cW_re hP hD (nA_nodup hnd) (fun q => if q = (32 + (32 * X + f0), i) then (kE cs).length else (kE cs).idxOf q) (fun q hq => ?_) (fun q hq r hr e9 => ?_)
  · by_cases hqn : q = (32 + (32 * X + f0), i)
    · rw [if_pos hqn]
      subst hqn
      rw [List.getElem?_set, if_neg (by omega), List.getElem?_append_right (by omega), hlen0, Nat.sub_self]
      show some (b + kK cs, e) = _
      have ea : aC b (nA cs (32 * X + f0) i n f g) (32 + (32 * X + f0), i) = b + kK cs := by
        unfold aC
        rw [if_neg (show ¬ (32 + (32 * X + f0) < 32) by omega)]
        show b + (u2 (kP cs) (32 * X + f0) i (some (kK cs)) (32 + (32 * X + f0) - 32) i).getD 0 = b + kK cs
        rw [show 32 + (32 * X + f0) - 32 = 32 * X + f0 by omega, u2_s]; rfl
      have ee : eC cB cI cJ cZ cS cO b (nA cs (32 * X + f0) i n f g) (32 + (32 * X + f0), i) = e := by
        unfold eC
        rw [if_neg (show ¬ (32 + (32 * X + f0) < 32) by omega)]
        show eA cB cI cJ cZ cS cO b (nA cs (32 * X + f0) i n f g) (32 + (32 * X + f0) - 32) i (aty (32 + (32 * X + f0) - 32)) = e
        rw [show 32 + (32 * X + f0) - 32 = 32 * X + f0 by omega, he]
      rw [ea, ee]
    · rw [if_neg hqn]
      have m1 := hne q hq hqn
      have hl1 := hlen q m1
      rw [List.getElem?_set]
      by_cases hqk : k = (kE cs).idxOf q
      · have hqe : q = (X, i) := Option.some.inj ((hix q m1).symm.trans (hqk ▸ hk))
        subst hqe
        rw [if_pos hqk, if_pos (by rw [List.length_append, hlen0]; omega)]
        rw [show aC b (nA cs (32 * X + f0) i n f g) (X, i) = b + i from if_pos hX, show eC cB cI cJ cZ cS cO b (nA cs (32 * X + f0) i n f g) (X, i) = .inr (X, vL b (nA cs (32 * X + f0) i n f g) i (32 * X) (tyX X)) from if_pos hX]
        rw [vL_set (cs1 := nA cs (32 * X + f0) i n f g) hf (by show rv b (u2 (kP cs) (32 * X + f0) i (some (kK cs)) (32 * X + f0) i) = _; rw [u2_s]; rfl) (fun z w hz => by
          have e9 : kP (nA cs (32 * X + f0) i n f g) z i = kP cs z i := u2_n (fun q => hz q.1)
          match w with
          | 0 => rfl
          | 1 => rfl
          | 2 => rfl
          | _ + 3 => show rv b (kP (nA cs (32 * X + f0) i n f g) z i) = rv b (kP cs z i); rw [e9])]
      · rw [if_neg hqk, List.getElem?_append_left (by omega), cW_at (hix q m1)]
        obtain ⟨Y, i1⟩ := q
        have hq1 : ¬ (Y = X ∧ i1 = i) := fun e => hqk (by rw [e.1, e.2]; exact kE_nodup hD0 _ _ _ hk (hix (X, i) (by rw [e.1, e.2] at m1; exact m1)))
        have hq2 : ¬ (Y = 32 + (32 * X + f0) ∧ i1 = i) := fun e => hqn (by rw [e.1, e.2])
        have hf1 := (List.getElem?_eq_some_iff.mp hf).1
        have hX16 := tyX_len2 X
        have ea : aC b (nA cs (32 * X + f0) i n f g) (Y, i1) = aC b cs (Y, i1) := by
          unfold aC
          by_cases hY : Y < 32
          · rw [if_pos hY, if_pos hY]
          · rw [if_neg hY, if_neg hY]
            show b + (u2 (kP cs) (32 * X + f0) i (some (kK cs)) (Y - 32) i1).getD 0 = b + (kP cs (Y - 32) i1).getD 0
            rw [u2_n (fun e => hq2 ⟨by omega, e.2⟩)]
        have ee : eC cB cI cJ cZ cS cO b (nA cs (32 * X + f0) i n f g) (Y, i1) = eC cB cI cJ cZ cS cO b cs (Y, i1) := by
          unfold eC
          by_cases hY : Y < 32
          · rw [if_pos hY, if_pos hY]
            show Sum.inr (Y, vL b (nA cs (32 * X + f0) i n f g) i1 (32 * Y) (tyX Y)) = Sum.inr (Y, vL b cs i1 (32 * Y) (tyX Y))
            rw [vL_eq (fun z w h1 h2 => ?_)]
            have hl1 := tyX_len2 Y
            have e9 : kP (nA cs (32 * X + f0) i n f g) z i1 = kP cs z i1 := u2_n (fun e => hq1 ⟨by omega, e.2⟩)
            match w with
            | 0 => rfl
            | 1 => rfl
            | 2 => rfl
            | _ + 3 => show rv b (kP (nA cs (32 * X + f0) i n f g) z i1) = rv b (kP cs z i1); rw [e9]
          · rw [if_neg hY, if_neg hY]
            have hu : ¬ (Y - 32 = 32 * X + f0 ∧ i1 = i) := fun e => hq2 ⟨by omega, e.2⟩
            have eA' : kA (nA cs (32 * X + f0) i n f g) (Y - 32) i1 = kA cs (Y - 32) i1 := u2_n hu
            have eB' : kB (nA cs (32 * X + f0) i n f g) (Y - 32) i1 = kB cs (Y - 32) i1 := u2_n hu
            have eQ' : kQ (nA cs (32 * X + f0) i n f g) (Y - 32) i1 = kQ cs (Y - 32) i1 := u2_n hu
            have eL' : kL (nA cs (32 * X + f0) i n f g) (Y - 32) i1 = kL cs (Y - 32) i1 := u2_n hu
            show eA cB cI cJ cZ cS cO b (nA cs (32 * X + f0) i n f g) (Y - 32) i1 (aty (Y - 32)) = eA cB cI cJ cZ cS cO b cs (Y - 32) i1 (aty (Y - 32))
            unfold eA
            rw [eA', eB', eQ', eL']
        rw [ea, ee]
  · have e9 : (if q = (32 + (32 * X + f0), i) then (kE cs).length else (kE cs).idxOf q) = (if r = (32 + (32 * X + f0), i) then (kE cs).length else (kE cs).idxOf r) := e9
    by_cases hqn : q = (32 + (32 * X + f0), i)
    · by_cases hrn : r = (32 + (32 * X + f0), i)
      · rw [hqn, hrn]
      · rw [if_pos hqn, if_neg hrn] at e9
        exact absurd (hlen r (hne r hr hrn)) (by omega)
    · by_cases hrn : r = (32 + (32 * X + f0), i)
      · rw [if_neg hqn, if_pos hrn] at e9
        exact absurd (hlen q (hne q hq hqn)) (by omega)
      · rw [if_neg hqn, if_neg hrn] at e9
        have h1 := hix q (hne q hq hqn)
        have h2 := hix r (hne r hr hrn)
        rw [e9] at h1
        exact Option.some.inj (h1.symm.trans h2)
def nwA (cs : CS) (X t i : Nat) (x : Int32) : Option CS := if (X, i) ∈ kE cs ∧ ¬ x < 0 ∧ x.toNatClampNeg ≤ 10000000 then some (nA cs t i x.toNatClampNeg (fun _ => 0) (fun _ => 0)) else none
theorem nwA_some {cs cs1 : CS} {X t i : Nat} {x : Int32} (h : nwA cs X t i x = some cs1) : ((X, i) ∈ kE cs ∧ ¬ x < 0 ∧ x.toNatClampNeg ≤ 10000000) ∧ nA cs t i x.toNatClampNeg (fun _ => 0) (fun _ => 0) = cs1 := by
  unfold nwA at h
  by_cases c : (X, i) ∈ kE cs ∧ ¬ x < 0 ∧ x.toNatClampNeg ≤ 10000000
  · rw [if_pos c] at h; exact ⟨c, Option.some.inj h⟩
  · rw [if_neg c] at h; cases h
theorem nwA_k {cs cs1 : CS} {X t i : Nat} {x : Int32} (h : nwA cs X t i x = some cs1) : kK cs1 = kK cs + 1 ∧ kM cs1 = kM cs + x.toNatClampNeg := by
  obtain ⟨-, rfl⟩ := nwA_some h
  exact ⟨rfl, rfl⟩
theorem nar_X1_15 {p : Program} {l : Launch} {e : Env} {R : Room} {s : State} {m : MethodId} {args : Array Value} {below : List Frame} {meth : Method} {c : Code} {H : Heap} {locs : List Loc} {cells slots : Nat} {Q : State → Prop} {cc : ByteArray} {pc : Nat} {ls : Array Slot} {rest : List Value} {y0 : MethodName} {c0 : ByteArray} {n0 : Nat} {r0 : Option FieldType} {dC : Nat → ClassId} {dI : Nat → Nat → Nat} {cB cI cJ cZ cS cO : ClassId} {b : Nat} {cs : CS} {A : Nat → Prop} {Gh : Heap} {cs1 : CS} {i : Nat} {x : Int32} (hx : p.tables.exec = Jvm.exec) (hb : c.code = cc) (hts : ∀ w ∈ wsOf y0 c0 n0 r0, w.before args s = true) (hown : s.vm.findClass RX1 = some m.cls) (hK : va_K (dC, dI) vwCl [(cB, .byte), (cI, .int), (cJ, .long), (cZ, .boolean), (cS, .object "StreamQueries$Source"), (cO, .object "java/lang/Object")] s) (hP : va_P (dC, dI) vwCl (cW cB cI cJ cZ cS cO b cs) H) (hD : va_D A (cW cB cI cJ cZ cS cO b cs)) (hS : va_S A Gh H locs) (hG : va_S A s.heap Gh []) (hA : ∀ q, s.heap.size ≤ q → A q) (hgz : Gh.size = b + kK cs) (hcc : s.heap.size + cells = b + kK cs) (hin : meth.name = "<init>") (hR : cells + 1 ≤ R.cells ∧ slots + x.toNatClampNeg ≤ R.slots) (hv : nwA cs 2 65 i x = some cs1) (hdg : decode cc pc = .ok (.newarray .int, 2)) (hdg2 : decode cc (pc + 2) = .ok (.putfield 15, 3)) (kk : ∀ (H1 : Heap) (locs1 : List Loc), va_P (dC, dI) vwCl (cW cB cI cJ cZ cS cO b cs1) H1 → va_D A (cW cB cI cJ cZ cS cO b cs1) → va_S A s.heap H1 [] → H1.size = b + kK cs1 → va_S A H1 H1 locs1 → W p l e R s m args below meth c H1 locs1 (cells + 1) (slots + x.toNatClampNeg) Q (F0 m (pc + 2 + 3) ls rest)) : W p l e R s m args below meth c H locs cells slots Q (F0 m pc ls (.int x :: .ref (b + i) :: rest)) := by
  refine W_sz (fun hu => ?_)
  have hz : H.size = b + kK cs := by have := hS.1; omega
  obtain ⟨⟨h1, h2, h3⟩, rfl⟩ := nwA_some hv
  have hSs := hG.comp hS
  obtain ⟨k, hk, hg⟩ := cO_at (b := b) (cB := cB) (cI := cI) (cJ := cJ) (cZ := cZ) (cS := cS) (cO := cO) (by decide) h1
  have hkl := (List.getElem?_eq_some_iff.mp hg).1
  refine va_newaK (atype := .int) hx hb (hts _ (List.mem_cons_of_mem _ kn_I)) rfl hdg rfl h2 rfl (by show x.toNatClampNeg * 4 ≤ 536870912; omega) hR.1 hR.2 hz fun H1 cA e1 z1 o1 hAr hNm => ?_
  have hcA : cI = cA := (Option.some.inj (hNm.symm.trans (show s.vm.findClass ("[" ++ FieldType.toString .int) = some cI from (hK.2 1 _ rfl).2))).symm
  subst hcA
  rw [← hz] at o1
  have hkp : ∀ (k : Nat) (y : Nat × va_E), (cW cB cI cJ cZ cS cO b cs)[k]? = some y → H1[y.1]? = H[y.1]? := fun k y hy => o1 y.1 ((hP k y hy).lt)
  have hS1 : va_S A s.heap H1 locs := ⟨Nat.le_trans hSs.1 (by omega), fun y g1 g2 => (o1 y (Nat.lt_of_lt_of_le g1 hSs.1)).trans (hSs.2.1 y g1 g2), hSs.2.2⟩
  have hP1 : va_P (dC, dI) vwCl (cW cB cI cJ cZ cS cO b cs ++ [(b + kK cs, .inl (cI, x.toNatClampNeg, .inl (fun _ => 0)))]) H1 := by
    refine (hP.kept hkp).app (fun k y hy => ?_)
    have hz1 : k < 1 := (List.getElem?_eq_some_iff.mp hy).1
    rw [show k = 0 by omega] at hy
    cases hy
    show H1[b + kK cs]? = some (vp_cell _ _)
    rw [e1]
    rfl
  have hD1 : va_D A (cW cB cI cJ cZ cS cO b cs ++ [(b + kK cs, .inl (cI, x.toNatClampNeg, .inl (fun _ => 0)))]) := hD.push hP hz.symm (hA _ (by rw [← hz]; exact hSs.1))
  refine va_putF (D := (dC, dI)) (ci := 2) (v := .ref (b + kK cs)) (ty := .array .int) (C := RX1) (T := TX1) (N := 13) hx hb hts (fun w h => List.mem_cons_of_mem _ (uG_X1 w h)) tyX1 tyX1_ok nmX1 hown hK hP1 hD1 hS1.self k ((List.getElem?_append_left hkl).trans hg) rfl 1 (by decide) (hts _ (List.mem_cons_of_mem _ kw_374)) (fun _ h9 => h9) rfl hin rfl (by decide +kernel) rfl rfl (by rw [vL_len]; decide) hdg2 (fun H2 l2 q1 q2 q3 => ?_)
  refine W_sz (fun hu2 => ?_)
  have key := cW_arr (b := b) (cB := cB) (cI := cI) (cJ := cJ) (cZ := cZ) (cS := cS) (cO := cO) (X := 2) (f0 := 1) (n := x.toNatClampNeg) (f := fun _ => 0) (g := fun _ => 0) (P := fun _ => True) (by decide) rfl hD hk (by show eA cB cI cJ cZ cS cO b (nA cs 65 i x.toNatClampNeg (fun _ => 0) (fun _ => 0)) 65 i 0 = .inl (cI, x.toNatClampNeg, .inl (fun _ => 0)); simp only [eA]; rw [show kL (nA cs 65 i x.toNatClampNeg (fun _ => 0) (fun _ => 0)) 65 i = x.toNatClampNeg from u2_s, show kA (nA cs 65 i x.toNatClampNeg (fun _ => 0) (fun _ => 0)) 65 i = (fun _ => 0) from u2_s]) q1 q2
  have hS2 : va_S A s.heap H2 l2 := hS1.nil.comp q3
  have hz2 : H2.size = b + (kK cs + 1) := by have := q3.1; omega
  exact kk H2 l2 key.1 key.2 hS2.nil hz2 hS2.self
theorem nar_X1_21 {p : Program} {l : Launch} {e : Env} {R : Room} {s : State} {m : MethodId} {args : Array Value} {below : List Frame} {meth : Method} {c : Code} {H : Heap} {locs : List Loc} {cells slots : Nat} {Q : State → Prop} {cc : ByteArray} {pc : Nat} {ls : Array Slot} {rest : List Value} {y0 : MethodName} {c0 : ByteArray} {n0 : Nat} {r0 : Option FieldType} {dC : Nat → ClassId} {dI : Nat → Nat → Nat} {cB cI cJ cZ cS cO : ClassId} {b : Nat} {cs : CS} {A : Nat → Prop} {Gh : Heap} {cs1 : CS} {i : Nat} {x : Int32} (hx : p.tables.exec = Jvm.exec) (hb : c.code = cc) (hts : ∀ w ∈ wsOf y0 c0 n0 r0, w.before args s = true) (hown : s.vm.findClass RX1 = some m.cls) (hK : va_K (dC, dI) vwCl [(cB, .byte), (cI, .int), (cJ, .long), (cZ, .boolean), (cS, .object "StreamQueries$Source"), (cO, .object "java/lang/Object")] s) (hP : va_P (dC, dI) vwCl (cW cB cI cJ cZ cS cO b cs) H) (hD : va_D A (cW cB cI cJ cZ cS cO b cs)) (hS : va_S A Gh H locs) (hG : va_S A s.heap Gh []) (hA : ∀ q, s.heap.size ≤ q → A q) (hgz : Gh.size = b + kK cs) (hcc : s.heap.size + cells = b + kK cs) (hin : meth.name = "<init>") (hR : cells + 1 ≤ R.cells ∧ slots + x.toNatClampNeg ≤ R.slots) (hv : nwA cs 2 66 i x = some cs1) (hdg : decode cc pc = .ok (.newarray .int, 2)) (hdg2 : decode cc (pc + 2) = .ok (.putfield 21, 3)) (kk : ∀ (H1 : Heap) (locs1 : List Loc), va_P (dC, dI) vwCl (cW cB cI cJ cZ cS cO b cs1) H1 → va_D A (cW cB cI cJ cZ cS cO b cs1) → va_S A s.heap H1 [] → H1.size = b + kK cs1 → va_S A H1 H1 locs1 → W p l e R s m args below meth c H1 locs1 (cells + 1) (slots + x.toNatClampNeg) Q (F0 m (pc + 2 + 3) ls rest)) : W p l e R s m args below meth c H locs cells slots Q (F0 m pc ls (.int x :: .ref (b + i) :: rest)) := by
  refine W_sz (fun hu => ?_)
  have hz : H.size = b + kK cs := by have := hS.1; omega
  obtain ⟨⟨h1, h2, h3⟩, rfl⟩ := nwA_some hv
  have hSs := hG.comp hS
  obtain ⟨k, hk, hg⟩ := cO_at (b := b) (cB := cB) (cI := cI) (cJ := cJ) (cZ := cZ) (cS := cS) (cO := cO) (by decide) h1
  have hkl := (List.getElem?_eq_some_iff.mp hg).1
  refine va_newaK (atype := .int) hx hb (hts _ (List.mem_cons_of_mem _ kn_I)) rfl hdg rfl h2 rfl (by show x.toNatClampNeg * 4 ≤ 536870912; omega) hR.1 hR.2 hz fun H1 cA e1 z1 o1 hAr hNm => ?_
  have hcA : cI = cA := (Option.some.inj (hNm.symm.trans (show s.vm.findClass ("[" ++ FieldType.toString .int) = some cI from (hK.2 1 _ rfl).2))).symm
  subst hcA
  rw [← hz] at o1
  have hkp : ∀ (k : Nat) (y : Nat × va_E), (cW cB cI cJ cZ cS cO b cs)[k]? = some y → H1[y.1]? = H[y.1]? := fun k y hy => o1 y.1 ((hP k y hy).lt)
  have hS1 : va_S A s.heap H1 locs := ⟨Nat.le_trans hSs.1 (by omega), fun y g1 g2 => (o1 y (Nat.lt_of_lt_of_le g1 hSs.1)).trans (hSs.2.1 y g1 g2), hSs.2.2⟩
  have hP1 : va_P (dC, dI) vwCl (cW cB cI cJ cZ cS cO b cs ++ [(b + kK cs, .inl (cI, x.toNatClampNeg, .inl (fun _ => 0)))]) H1 := by
    refine (hP.kept hkp).app (fun k y hy => ?_)
    have hz1 : k < 1 := (List.getElem?_eq_some_iff.mp hy).1
    rw [show k = 0 by omega] at hy
    cases hy
    show H1[b + kK cs]? = some (vp_cell _ _)
    rw [e1]
    rfl
  have hD1 : va_D A (cW cB cI cJ cZ cS cO b cs ++ [(b + kK cs, .inl (cI, x.toNatClampNeg, .inl (fun _ => 0)))]) := hD.push hP hz.symm (hA _ (by rw [← hz]; exact hSs.1))
  refine va_putF (D := (dC, dI)) (ci := 2) (v := .ref (b + kK cs)) (ty := .array .int) (C := RX1) (T := TX1) (N := 13) hx hb hts (fun w h => List.mem_cons_of_mem _ (uG_X1 w h)) tyX1 tyX1_ok nmX1 hown hK hP1 hD1 hS1.self k ((List.getElem?_append_left hkl).trans hg) rfl 2 (by decide) (hts _ (List.mem_cons_of_mem _ kw_378)) (fun _ h9 => h9) rfl hin rfl (by decide +kernel) rfl rfl (by rw [vL_len]; decide) hdg2 (fun H2 l2 q1 q2 q3 => ?_)
  refine W_sz (fun hu2 => ?_)
  have key := cW_arr (b := b) (cB := cB) (cI := cI) (cJ := cJ) (cZ := cZ) (cS := cS) (cO := cO) (X := 2) (f0 := 2) (n := x.toNatClampNeg) (f := fun _ => 0) (g := fun _ => 0) (P := fun _ => True) (by decide) rfl hD hk (by show eA cB cI cJ cZ cS cO b (nA cs 66 i x.toNatClampNeg (fun _ => 0) (fun _ => 0)) 66 i 0 = .inl (cI, x.toNatClampNeg, .inl (fun _ => 0)); simp only [eA]; rw [show kL (nA cs 66 i x.toNatClampNeg (fun _ => 0) (fun _ => 0)) 66 i = x.toNatClampNeg from u2_s, show kA (nA cs 66 i x.toNatClampNeg (fun _ => 0) (fun _ => 0)) 66 i = (fun _ => 0) from u2_s]) q1 q2
  have hS2 : va_S A s.heap H2 l2 := hS1.nil.comp q3
  have hz2 : H2.size = b + (kK cs + 1) := by have := q3.1; omega
  exact kk H2 l2 key.1 key.2 hS2.nil hz2 hS2.self
theorem nar_X1_24 {p : Program} {l : Launch} {e : Env} {R : Room} {s : State} {m : MethodId} {args : Array Value} {below : List Frame} {meth : Method} {c : Code} {H : Heap} {locs : List Loc} {cells slots : Nat} {Q : State → Prop} {cc : ByteArray} {pc : Nat} {ls : Array Slot} {rest : List Value} {y0 : MethodName} {c0 : ByteArray} {n0 : Nat} {r0 : Option FieldType} {dC : Nat → ClassId} {dI : Nat → Nat → Nat} {cB cI cJ cZ cS cO : ClassId} {b : Nat} {cs : CS} {A : Nat → Prop} {Gh : Heap} {cs1 : CS} {i : Nat} {x : Int32} (hx : p.tables.exec = Jvm.exec) (hb : c.code = cc) (hts : ∀ w ∈ wsOf y0 c0 n0 r0, w.before args s = true) (hown : s.vm.findClass RX1 = some m.cls) (hK : va_K (dC, dI) vwCl [(cB, .byte), (cI, .int), (cJ, .long), (cZ, .boolean), (cS, .object "StreamQueries$Source"), (cO, .object "java/lang/Object")] s) (hP : va_P (dC, dI) vwCl (cW cB cI cJ cZ cS cO b cs) H) (hD : va_D A (cW cB cI cJ cZ cS cO b cs)) (hS : va_S A Gh H locs) (hG : va_S A s.heap Gh []) (hA : ∀ q, s.heap.size ≤ q → A q) (hgz : Gh.size = b + kK cs) (hcc : s.heap.size + cells = b + kK cs) (hin : meth.name = "<init>") (hR : cells + 1 ≤ R.cells ∧ slots + x.toNatClampNeg ≤ R.slots) (hv : nwA cs 2 67 i x = some cs1) (hdg : decode cc pc = .ok (.newarray .int, 2)) (hdg2 : decode cc (pc + 2) = .ok (.putfield 24, 3)) (kk : ∀ (H1 : Heap) (locs1 : List Loc), va_P (dC, dI) vwCl (cW cB cI cJ cZ cS cO b cs1) H1 → va_D A (cW cB cI cJ cZ cS cO b cs1) → va_S A s.heap H1 [] → H1.size = b + kK cs1 → va_S A H1 H1 locs1 → W p l e R s m args below meth c H1 locs1 (cells + 1) (slots + x.toNatClampNeg) Q (F0 m (pc + 2 + 3) ls rest)) : W p l e R s m args below meth c H locs cells slots Q (F0 m pc ls (.int x :: .ref (b + i) :: rest)) := by
  refine W_sz (fun hu => ?_)
  have hz : H.size = b + kK cs := by have := hS.1; omega
  obtain ⟨⟨h1, h2, h3⟩, rfl⟩ := nwA_some hv
  have hSs := hG.comp hS
  obtain ⟨k, hk, hg⟩ := cO_at (b := b) (cB := cB) (cI := cI) (cJ := cJ) (cZ := cZ) (cS := cS) (cO := cO) (by decide) h1
  have hkl := (List.getElem?_eq_some_iff.mp hg).1
  refine va_newaK (atype := .int) hx hb (hts _ (List.mem_cons_of_mem _ kn_I)) rfl hdg rfl h2 rfl (by show x.toNatClampNeg * 4 ≤ 536870912; omega) hR.1 hR.2 hz fun H1 cA e1 z1 o1 hAr hNm => ?_
  have hcA : cI = cA := (Option.some.inj (hNm.symm.trans (show s.vm.findClass ("[" ++ FieldType.toString .int) = some cI from (hK.2 1 _ rfl).2))).symm
  subst hcA
  rw [← hz] at o1
  have hkp : ∀ (k : Nat) (y : Nat × va_E), (cW cB cI cJ cZ cS cO b cs)[k]? = some y → H1[y.1]? = H[y.1]? := fun k y hy => o1 y.1 ((hP k y hy).lt)
  have hS1 : va_S A s.heap H1 locs := ⟨Nat.le_trans hSs.1 (by omega), fun y g1 g2 => (o1 y (Nat.lt_of_lt_of_le g1 hSs.1)).trans (hSs.2.1 y g1 g2), hSs.2.2⟩
  have hP1 : va_P (dC, dI) vwCl (cW cB cI cJ cZ cS cO b cs ++ [(b + kK cs, .inl (cI, x.toNatClampNeg, .inl (fun _ => 0)))]) H1 := by
    refine (hP.kept hkp).app (fun k y hy => ?_)
    have hz1 : k < 1 := (List.getElem?_eq_some_iff.mp hy).1
    rw [show k = 0 by omega] at hy
    cases hy
    show H1[b + kK cs]? = some (vp_cell _ _)
    rw [e1]
    rfl
  have hD1 : va_D A (cW cB cI cJ cZ cS cO b cs ++ [(b + kK cs, .inl (cI, x.toNatClampNeg, .inl (fun _ => 0)))]) := hD.push hP hz.symm (hA _ (by rw [← hz]; exact hSs.1))
  refine va_putF (D := (dC, dI)) (ci := 2) (v := .ref (b + kK cs)) (ty := .array .int) (C := RX1) (T := TX1) (N := 13) hx hb hts (fun w h => List.mem_cons_of_mem _ (uG_X1 w h)) tyX1 tyX1_ok nmX1 hown hK hP1 hD1 hS1.self k ((List.getElem?_append_left hkl).trans hg) rfl 3 (by decide) (hts _ (List.mem_cons_of_mem _ kw_381)) (fun _ h9 => h9) rfl hin rfl (by decide +kernel) rfl rfl (by rw [vL_len]; decide) hdg2 (fun H2 l2 q1 q2 q3 => ?_)
  refine W_sz (fun hu2 => ?_)
  have key := cW_arr (b := b) (cB := cB) (cI := cI) (cJ := cJ) (cZ := cZ) (cS := cS) (cO := cO) (X := 2) (f0 := 3) (n := x.toNatClampNeg) (f := fun _ => 0) (g := fun _ => 0) (P := fun _ => True) (by decide) rfl hD hk (by show eA cB cI cJ cZ cS cO b (nA cs 67 i x.toNatClampNeg (fun _ => 0) (fun _ => 0)) 67 i 0 = .inl (cI, x.toNatClampNeg, .inl (fun _ => 0)); simp only [eA]; rw [show kL (nA cs 67 i x.toNatClampNeg (fun _ => 0) (fun _ => 0)) 67 i = x.toNatClampNeg from u2_s, show kA (nA cs 67 i x.toNatClampNeg (fun _ => 0) (fun _ => 0)) 67 i = (fun _ => 0) from u2_s]) q1 q2
  have hS2 : va_S A s.heap H2 l2 := hS1.nil.comp q3
  have hz2 : H2.size = b + (kK cs + 1) := by have := q3.1; omega
  exact kk H2 l2 key.1 key.2 hS2.nil hz2 hS2.self
theorem nar_X1_27 {p : Program} {l : Launch} {e : Env} {R : Room} {s : State} {m : MethodId} {args : Array Value} {below : List Frame} {meth : Method} {c : Code} {H : Heap} {locs : List Loc} {cells slots : Nat} {Q : State → Prop} {cc : ByteArray} {pc : Nat} {ls : Array Slot} {rest : List Value} {y0 : MethodName} {c0 : ByteArray} {n0 : Nat} {r0 : Option FieldType} {dC : Nat → ClassId} {dI : Nat → Nat → Nat} {cB cI cJ cZ cS cO : ClassId} {b : Nat} {cs : CS} {A : Nat → Prop} {Gh : Heap} {cs1 : CS} {i : Nat} {x : Int32} (hx : p.tables.exec = Jvm.exec) (hb : c.code = cc) (hts : ∀ w ∈ wsOf y0 c0 n0 r0, w.before args s = true) (hown : s.vm.findClass RX1 = some m.cls) (hK : va_K (dC, dI) vwCl [(cB, .byte), (cI, .int), (cJ, .long), (cZ, .boolean), (cS, .object "StreamQueries$Source"), (cO, .object "java/lang/Object")] s) (hP : va_P (dC, dI) vwCl (cW cB cI cJ cZ cS cO b cs) H) (hD : va_D A (cW cB cI cJ cZ cS cO b cs)) (hS : va_S A Gh H locs) (hG : va_S A s.heap Gh []) (hA : ∀ q, s.heap.size ≤ q → A q) (hgz : Gh.size = b + kK cs) (hcc : s.heap.size + cells = b + kK cs) (hin : meth.name = "<init>") (hR : cells + 1 ≤ R.cells ∧ slots + x.toNatClampNeg ≤ R.slots) (hv : nwA cs 2 68 i x = some cs1) (hdg : decode cc pc = .ok (.newarray .int, 2)) (hdg2 : decode cc (pc + 2) = .ok (.putfield 27, 3)) (kk : ∀ (H1 : Heap) (locs1 : List Loc), va_P (dC, dI) vwCl (cW cB cI cJ cZ cS cO b cs1) H1 → va_D A (cW cB cI cJ cZ cS cO b cs1) → va_S A s.heap H1 [] → H1.size = b + kK cs1 → va_S A H1 H1 locs1 → W p l e R s m args below meth c H1 locs1 (cells + 1) (slots + x.toNatClampNeg) Q (F0 m (pc + 2 + 3) ls rest)) : W p l e R s m args below meth c H locs cells slots Q (F0 m pc ls (.int x :: .ref (b + i) :: rest)) := by
  refine W_sz (fun hu => ?_)
  have hz : H.size = b + kK cs := by have := hS.1; omega
  obtain ⟨⟨h1, h2, h3⟩, rfl⟩ := nwA_some hv
  have hSs := hG.comp hS
  obtain ⟨k, hk, hg⟩ := cO_at (b := b) (cB := cB) (cI := cI) (cJ := cJ) (cZ := cZ) (cS := cS) (cO := cO) (by decide) h1
  have hkl := (List.getElem?_eq_some_iff.mp hg).1
  refine va_newaK (atype := .int) hx hb (hts _ (List.mem_cons_of_mem _ kn_I)) rfl hdg rfl h2 rfl (by show x.toNatClampNeg * 4 ≤ 536870912; omega) hR.1 hR.2 hz fun H1 cA e1 z1 o1 hAr hNm => ?_
  have hcA : cI = cA := (Option.some.inj (hNm.symm.trans (show s.vm.findClass ("[" ++ FieldType.toString .int) = some cI from (hK.2 1 _ rfl).2))).symm
  subst hcA
  rw [← hz] at o1
  have hkp : ∀ (k : Nat) (y : Nat × va_E), (cW cB cI cJ cZ cS cO b cs)[k]? = some y → H1[y.1]? = H[y.1]? := fun k y hy => o1 y.1 ((hP k y hy).lt)
  have hS1 : va_S A s.heap H1 locs := ⟨Nat.le_trans hSs.1 (by omega), fun y g1 g2 => (o1 y (Nat.lt_of_lt_of_le g1 hSs.1)).trans (hSs.2.1 y g1 g2), hSs.2.2⟩
  have hP1 : va_P (dC, dI) vwCl (cW cB cI cJ cZ cS cO b cs ++ [(b + kK cs, .inl (cI, x.toNatClampNeg, .inl (fun _ => 0)))]) H1 := by
    refine (hP.kept hkp).app (fun k y hy => ?_)
    have hz1 : k < 1 := (List.getElem?_eq_some_iff.mp hy).1
    rw [show k = 0 by omega] at hy
    cases hy
    show H1[b + kK cs]? = some (vp_cell _ _)
    rw [e1]
    rfl
  have hD1 : va_D A (cW cB cI cJ cZ cS cO b cs ++ [(b + kK cs, .inl (cI, x.toNatClampNeg, .inl (fun _ => 0)))]) := hD.push hP hz.symm (hA _ (by rw [← hz]; exact hSs.1))
  refine va_putF (D := (dC, dI)) (ci := 2) (v := .ref (b + kK cs)) (ty := .array .int) (C := RX1) (T := TX1) (N := 13) hx hb hts (fun w h => List.mem_cons_of_mem _ (uG_X1 w h)) tyX1 tyX1_ok nmX1 hown hK hP1 hD1 hS1.self k ((List.getElem?_append_left hkl).trans hg) rfl 4 (by decide) (hts _ (List.mem_cons_of_mem _ kw_383)) (fun _ h9 => h9) rfl hin rfl (by decide +kernel) rfl rfl (by rw [vL_len]; decide) hdg2 (fun H2 l2 q1 q2 q3 => ?_)
  refine W_sz (fun hu2 => ?_)
  have key := cW_arr (b := b) (cB := cB) (cI := cI) (cJ := cJ) (cZ := cZ) (cS := cS) (cO := cO) (X := 2) (f0 := 4) (n := x.toNatClampNeg) (f := fun _ => 0) (g := fun _ => 0) (P := fun _ => True) (by decide) rfl hD hk (by show eA cB cI cJ cZ cS cO b (nA cs 68 i x.toNatClampNeg (fun _ => 0) (fun _ => 0)) 68 i 0 = .inl (cI, x.toNatClampNeg, .inl (fun _ => 0)); simp only [eA]; rw [show kL (nA cs 68 i x.toNatClampNeg (fun _ => 0) (fun _ => 0)) 68 i = x.toNatClampNeg from u2_s, show kA (nA cs 68 i x.toNatClampNeg (fun _ => 0) (fun _ => 0)) 68 i = (fun _ => 0) from u2_s]) q1 q2
  have hS2 : va_S A s.heap H2 l2 := hS1.nil.comp q3
  have hz2 : H2.size = b + (kK cs + 1) := by have := q3.1; omega
  exact kk H2 l2 key.1 key.2 hS2.nil hz2 hS2.self
theorem nar_X1_30 {p : Program} {l : Launch} {e : Env} {R : Room} {s : State} {m : MethodId} {args : Array Value} {below : List Frame} {meth : Method} {c : Code} {H : Heap} {locs : List Loc} {cells slots : Nat} {Q : State → Prop} {cc : ByteArray} {pc : Nat} {ls : Array Slot} {rest : List Value} {y0 : MethodName} {c0 : ByteArray} {n0 : Nat} {r0 : Option FieldType} {dC : Nat → ClassId} {dI : Nat → Nat → Nat} {cB cI cJ cZ cS cO : ClassId} {b : Nat} {cs : CS} {A : Nat → Prop} {Gh : Heap} {cs1 : CS} {i : Nat} {x : Int32} (hx : p.tables.exec = Jvm.exec) (hb : c.code = cc) (hts : ∀ w ∈ wsOf y0 c0 n0 r0, w.before args s = true) (hown : s.vm.findClass RX1 = some m.cls) (hK : va_K (dC, dI) vwCl [(cB, .byte), (cI, .int), (cJ, .long), (cZ, .boolean), (cS, .object "StreamQueries$Source"), (cO, .object "java/lang/Object")] s) (hP : va_P (dC, dI) vwCl (cW cB cI cJ cZ cS cO b cs) H) (hD : va_D A (cW cB cI cJ cZ cS cO b cs)) (hS : va_S A Gh H locs) (hG : va_S A s.heap Gh []) (hA : ∀ q, s.heap.size ≤ q → A q) (hgz : Gh.size = b + kK cs) (hcc : s.heap.size + cells = b + kK cs) (hin : meth.name = "<init>") (hR : cells + 1 ≤ R.cells ∧ slots + x.toNatClampNeg ≤ R.slots) (hv : nwA cs 2 69 i x = some cs1) (hdg : decode cc pc = .ok (.newarray .long, 2)) (hdg2 : decode cc (pc + 2) = .ok (.putfield 30, 3)) (kk : ∀ (H1 : Heap) (locs1 : List Loc), va_P (dC, dI) vwCl (cW cB cI cJ cZ cS cO b cs1) H1 → va_D A (cW cB cI cJ cZ cS cO b cs1) → va_S A s.heap H1 [] → H1.size = b + kK cs1 → va_S A H1 H1 locs1 → W p l e R s m args below meth c H1 locs1 (cells + 1) (slots + x.toNatClampNeg) Q (F0 m (pc + 2 + 3) ls rest)) : W p l e R s m args below meth c H locs cells slots Q (F0 m pc ls (.int x :: .ref (b + i) :: rest)) := by
  refine W_sz (fun hu => ?_)
  have hz : H.size = b + kK cs := by have := hS.1; omega
  obtain ⟨⟨h1, h2, h3⟩, rfl⟩ := nwA_some hv
  have hSs := hG.comp hS
  obtain ⟨k, hk, hg⟩ := cO_at (b := b) (cB := cB) (cI := cI) (cJ := cJ) (cZ := cZ) (cS := cS) (cO := cO) (by decide) h1
  have hkl := (List.getElem?_eq_some_iff.mp hg).1
  refine va_newaK (atype := .long) hx hb (hts _ (List.mem_cons_of_mem _ kn_J)) rfl hdg rfl h2 rfl (by show x.toNatClampNeg * 8 ≤ 536870912; omega) hR.1 hR.2 hz fun H1 cA e1 z1 o1 hAr hNm => ?_
  have hcA : cJ = cA := (Option.some.inj (hNm.symm.trans (show s.vm.findClass ("[" ++ FieldType.toString .long) = some cJ from (hK.2 2 _ rfl).2))).symm
  subst hcA
  rw [← hz] at o1
  have hkp : ∀ (k : Nat) (y : Nat × va_E), (cW cB cI cJ cZ cS cO b cs)[k]? = some y → H1[y.1]? = H[y.1]? := fun k y hy => o1 y.1 ((hP k y hy).lt)
  have hS1 : va_S A s.heap H1 locs := ⟨Nat.le_trans hSs.1 (by omega), fun y g1 g2 => (o1 y (Nat.lt_of_lt_of_le g1 hSs.1)).trans (hSs.2.1 y g1 g2), hSs.2.2⟩
  have hP1 : va_P (dC, dI) vwCl (cW cB cI cJ cZ cS cO b cs ++ [(b + kK cs, .inl (cJ, x.toNatClampNeg, .inr (.inl (fun _ => 0))))]) H1 := by
    refine (hP.kept hkp).app (fun k y hy => ?_)
    have hz1 : k < 1 := (List.getElem?_eq_some_iff.mp hy).1
    rw [show k = 0 by omega] at hy
    cases hy
    show H1[b + kK cs]? = some (vp_cell _ _)
    rw [e1]
    rfl
  have hD1 : va_D A (cW cB cI cJ cZ cS cO b cs ++ [(b + kK cs, .inl (cJ, x.toNatClampNeg, .inr (.inl (fun _ => 0))))]) := hD.push hP hz.symm (hA _ (by rw [← hz]; exact hSs.1))
  refine va_putF (D := (dC, dI)) (ci := 2) (v := .ref (b + kK cs)) (ty := .array .long) (C := RX1) (T := TX1) (N := 13) hx hb hts (fun w h => List.mem_cons_of_mem _ (uG_X1 w h)) tyX1 tyX1_ok nmX1 hown hK hP1 hD1 hS1.self k ((List.getElem?_append_left hkl).trans hg) rfl 5 (by decide) (hts _ (List.mem_cons_of_mem _ kw_385)) (fun _ h9 => h9) rfl hin rfl (by decide +kernel) rfl rfl (by rw [vL_len]; decide) hdg2 (fun H2 l2 q1 q2 q3 => ?_)
  refine W_sz (fun hu2 => ?_)
  have key := cW_arr (b := b) (cB := cB) (cI := cI) (cJ := cJ) (cZ := cZ) (cS := cS) (cO := cO) (X := 2) (f0 := 5) (n := x.toNatClampNeg) (f := fun _ => 0) (g := fun _ => 0) (P := fun _ => True) (by decide) rfl hD hk (by show eA cB cI cJ cZ cS cO b (nA cs 69 i x.toNatClampNeg (fun _ => 0) (fun _ => 0)) 69 i 2 = .inl (cJ, x.toNatClampNeg, .inr (.inl (fun _ => 0))); simp only [eA]; rw [show kL (nA cs 69 i x.toNatClampNeg (fun _ => 0) (fun _ => 0)) 69 i = x.toNatClampNeg from u2_s, show kB (nA cs 69 i x.toNatClampNeg (fun _ => 0) (fun _ => 0)) 69 i = (fun _ => 0) from u2_s]) q1 q2
  have hS2 : va_S A s.heap H2 l2 := hS1.nil.comp q3
  have hz2 : H2.size = b + (kK cs + 1) := by have := q3.1; omega
  exact kk H2 l2 key.1 key.2 hS2.nil hz2 hS2.self
theorem nar_X1_34 {p : Program} {l : Launch} {e : Env} {R : Room} {s : State} {m : MethodId} {args : Array Value} {below : List Frame} {meth : Method} {c : Code} {H : Heap} {locs : List Loc} {cells slots : Nat} {Q : State → Prop} {cc : ByteArray} {pc : Nat} {ls : Array Slot} {rest : List Value} {y0 : MethodName} {c0 : ByteArray} {n0 : Nat} {r0 : Option FieldType} {dC : Nat → ClassId} {dI : Nat → Nat → Nat} {cB cI cJ cZ cS cO : ClassId} {b : Nat} {cs : CS} {A : Nat → Prop} {Gh : Heap} {cs1 : CS} {i : Nat} {x : Int32} (hx : p.tables.exec = Jvm.exec) (hb : c.code = cc) (hts : ∀ w ∈ wsOf y0 c0 n0 r0, w.before args s = true) (hown : s.vm.findClass RX1 = some m.cls) (hK : va_K (dC, dI) vwCl [(cB, .byte), (cI, .int), (cJ, .long), (cZ, .boolean), (cS, .object "StreamQueries$Source"), (cO, .object "java/lang/Object")] s) (hP : va_P (dC, dI) vwCl (cW cB cI cJ cZ cS cO b cs) H) (hD : va_D A (cW cB cI cJ cZ cS cO b cs)) (hS : va_S A Gh H locs) (hG : va_S A s.heap Gh []) (hA : ∀ q, s.heap.size ≤ q → A q) (hgz : Gh.size = b + kK cs) (hcc : s.heap.size + cells = b + kK cs) (hin : meth.name = "<init>") (hR : cells + 1 ≤ R.cells ∧ slots + x.toNatClampNeg ≤ R.slots) (hv : nwA cs 2 70 i x = some cs1) (hdg : decode cc pc = .ok (.newarray .long, 2)) (hdg2 : decode cc (pc + 2) = .ok (.putfield 34, 3)) (kk : ∀ (H1 : Heap) (locs1 : List Loc), va_P (dC, dI) vwCl (cW cB cI cJ cZ cS cO b cs1) H1 → va_D A (cW cB cI cJ cZ cS cO b cs1) → va_S A s.heap H1 [] → H1.size = b + kK cs1 → va_S A H1 H1 locs1 → W p l e R s m args below meth c H1 locs1 (cells + 1) (slots + x.toNatClampNeg) Q (F0 m (pc + 2 + 3) ls rest)) : W p l e R s m args below meth c H locs cells slots Q (F0 m pc ls (.int x :: .ref (b + i) :: rest)) := by
  refine W_sz (fun hu => ?_)
  have hz : H.size = b + kK cs := by have := hS.1; omega
  obtain ⟨⟨h1, h2, h3⟩, rfl⟩ := nwA_some hv
  have hSs := hG.comp hS
  obtain ⟨k, hk, hg⟩ := cO_at (b := b) (cB := cB) (cI := cI) (cJ := cJ) (cZ := cZ) (cS := cS) (cO := cO) (by decide) h1
  have hkl := (List.getElem?_eq_some_iff.mp hg).1
  refine va_newaK (atype := .long) hx hb (hts _ (List.mem_cons_of_mem _ kn_J)) rfl hdg rfl h2 rfl (by show x.toNatClampNeg * 8 ≤ 536870912; omega) hR.1 hR.2 hz fun H1 cA e1 z1 o1 hAr hNm => ?_
  have hcA : cJ = cA := (Option.some.inj (hNm.symm.trans (show s.vm.findClass ("[" ++ FieldType.toString .long) = some cJ from (hK.2 2 _ rfl).2))).symm
  subst hcA
  rw [← hz] at o1
  have hkp : ∀ (k : Nat) (y : Nat × va_E), (cW cB cI cJ cZ cS cO b cs)[k]? = some y → H1[y.1]? = H[y.1]? := fun k y hy => o1 y.1 ((hP k y hy).lt)
  have hS1 : va_S A s.heap H1 locs := ⟨Nat.le_trans hSs.1 (by omega), fun y g1 g2 => (o1 y (Nat.lt_of_lt_of_le g1 hSs.1)).trans (hSs.2.1 y g1 g2), hSs.2.2⟩
  have hP1 : va_P (dC, dI) vwCl (cW cB cI cJ cZ cS cO b cs ++ [(b + kK cs, .inl (cJ, x.toNatClampNeg, .inr (.inl (fun _ => 0))))]) H1 := by
    refine (hP.kept hkp).app (fun k y hy => ?_)
    have hz1 : k < 1 := (List.getElem?_eq_some_iff.mp hy).1
    rw [show k = 0 by omega] at hy
    cases hy
    show H1[b + kK cs]? = some (vp_cell _ _)
    rw [e1]
    rfl
  have hD1 : va_D A (cW cB cI cJ cZ cS cO b cs ++ [(b + kK cs, .inl (cJ, x.toNatClampNeg, .inr (.inl (fun _ => 0))))]) := hD.push hP hz.symm (hA _ (by rw [← hz]; exact hSs.1))
  refine va_putF (D := (dC, dI)) (ci := 2) (v := .ref (b + kK cs)) (ty := .array .long) (C := RX1) (T := TX1) (N := 13) hx hb hts (fun w h => List.mem_cons_of_mem _ (uG_X1 w h)) tyX1 tyX1_ok nmX1 hown hK hP1 hD1 hS1.self k ((List.getElem?_append_left hkl).trans hg) rfl 6 (by decide) (hts _ (List.mem_cons_of_mem _ kw_388)) (fun _ h9 => h9) rfl hin rfl (by decide +kernel) rfl rfl (by rw [vL_len]; decide) hdg2 (fun H2 l2 q1 q2 q3 => ?_)
  refine W_sz (fun hu2 => ?_)
  have key := cW_arr (b := b) (cB := cB) (cI := cI) (cJ := cJ) (cZ := cZ) (cS := cS) (cO := cO) (X := 2) (f0 := 6) (n := x.toNatClampNeg) (f := fun _ => 0) (g := fun _ => 0) (P := fun _ => True) (by decide) rfl hD hk (by show eA cB cI cJ cZ cS cO b (nA cs 70 i x.toNatClampNeg (fun _ => 0) (fun _ => 0)) 70 i 2 = .inl (cJ, x.toNatClampNeg, .inr (.inl (fun _ => 0))); simp only [eA]; rw [show kL (nA cs 70 i x.toNatClampNeg (fun _ => 0) (fun _ => 0)) 70 i = x.toNatClampNeg from u2_s, show kB (nA cs 70 i x.toNatClampNeg (fun _ => 0) (fun _ => 0)) 70 i = (fun _ => 0) from u2_s]) q1 q2
  have hS2 : va_S A s.heap H2 l2 := hS1.nil.comp q3
  have hz2 : H2.size = b + (kK cs + 1) := by have := q3.1; omega
  exact kk H2 l2 key.1 key.2 hS2.nil hz2 hS2.self
theorem nar_X1_37 {p : Program} {l : Launch} {e : Env} {R : Room} {s : State} {m : MethodId} {args : Array Value} {below : List Frame} {meth : Method} {c : Code} {H : Heap} {locs : List Loc} {cells slots : Nat} {Q : State → Prop} {cc : ByteArray} {pc : Nat} {ls : Array Slot} {rest : List Value} {y0 : MethodName} {c0 : ByteArray} {n0 : Nat} {r0 : Option FieldType} {dC : Nat → ClassId} {dI : Nat → Nat → Nat} {cB cI cJ cZ cS cO : ClassId} {b : Nat} {cs : CS} {A : Nat → Prop} {Gh : Heap} {cs1 : CS} {i : Nat} {x : Int32} (hx : p.tables.exec = Jvm.exec) (hb : c.code = cc) (hts : ∀ w ∈ wsOf y0 c0 n0 r0, w.before args s = true) (hown : s.vm.findClass RX1 = some m.cls) (hK : va_K (dC, dI) vwCl [(cB, .byte), (cI, .int), (cJ, .long), (cZ, .boolean), (cS, .object "StreamQueries$Source"), (cO, .object "java/lang/Object")] s) (hP : va_P (dC, dI) vwCl (cW cB cI cJ cZ cS cO b cs) H) (hD : va_D A (cW cB cI cJ cZ cS cO b cs)) (hS : va_S A Gh H locs) (hG : va_S A s.heap Gh []) (hA : ∀ q, s.heap.size ≤ q → A q) (hgz : Gh.size = b + kK cs) (hcc : s.heap.size + cells = b + kK cs) (hin : meth.name = "<init>") (hR : cells + 1 ≤ R.cells ∧ slots + x.toNatClampNeg ≤ R.slots) (hv : nwA cs 2 71 i x = some cs1) (hdg : decode cc pc = .ok (.newarray .int, 2)) (hdg2 : decode cc (pc + 2) = .ok (.putfield 37, 3)) (kk : ∀ (H1 : Heap) (locs1 : List Loc), va_P (dC, dI) vwCl (cW cB cI cJ cZ cS cO b cs1) H1 → va_D A (cW cB cI cJ cZ cS cO b cs1) → va_S A s.heap H1 [] → H1.size = b + kK cs1 → va_S A H1 H1 locs1 → W p l e R s m args below meth c H1 locs1 (cells + 1) (slots + x.toNatClampNeg) Q (F0 m (pc + 2 + 3) ls rest)) : W p l e R s m args below meth c H locs cells slots Q (F0 m pc ls (.int x :: .ref (b + i) :: rest)) := by
  refine W_sz (fun hu => ?_)
  have hz : H.size = b + kK cs := by have := hS.1; omega
  obtain ⟨⟨h1, h2, h3⟩, rfl⟩ := nwA_some hv
  have hSs := hG.comp hS
  obtain ⟨k, hk, hg⟩ := cO_at (b := b) (cB := cB) (cI := cI) (cJ := cJ) (cZ := cZ) (cS := cS) (cO := cO) (by decide) h1
  have hkl := (List.getElem?_eq_some_iff.mp hg).1
  refine va_newaK (atype := .int) hx hb (hts _ (List.mem_cons_of_mem _ kn_I)) rfl hdg rfl h2 rfl (by show x.toNatClampNeg * 4 ≤ 536870912; omega) hR.1 hR.2 hz fun H1 cA e1 z1 o1 hAr hNm => ?_
  have hcA : cI = cA := (Option.some.inj (hNm.symm.trans (show s.vm.findClass ("[" ++ FieldType.toString .int) = some cI from (hK.2 1 _ rfl).2))).symm
  subst hcA
  rw [← hz] at o1
  have hkp : ∀ (k : Nat) (y : Nat × va_E), (cW cB cI cJ cZ cS cO b cs)[k]? = some y → H1[y.1]? = H[y.1]? := fun k y hy => o1 y.1 ((hP k y hy).lt)
  have hS1 : va_S A s.heap H1 locs := ⟨Nat.le_trans hSs.1 (by omega), fun y g1 g2 => (o1 y (Nat.lt_of_lt_of_le g1 hSs.1)).trans (hSs.2.1 y g1 g2), hSs.2.2⟩
  have hP1 : va_P (dC, dI) vwCl (cW cB cI cJ cZ cS cO b cs ++ [(b + kK cs, .inl (cI, x.toNatClampNeg, .inl (fun _ => 0)))]) H1 := by
    refine (hP.kept hkp).app (fun k y hy => ?_)
    have hz1 : k < 1 := (List.getElem?_eq_some_iff.mp hy).1
    rw [show k = 0 by omega] at hy
    cases hy
    show H1[b + kK cs]? = some (vp_cell _ _)
    rw [e1]
    rfl
  have hD1 : va_D A (cW cB cI cJ cZ cS cO b cs ++ [(b + kK cs, .inl (cI, x.toNatClampNeg, .inl (fun _ => 0)))]) := hD.push hP hz.symm (hA _ (by rw [← hz]; exact hSs.1))
  refine va_putF (D := (dC, dI)) (ci := 2) (v := .ref (b + kK cs)) (ty := .array .int) (C := RX1) (T := TX1) (N := 13) hx hb hts (fun w h => List.mem_cons_of_mem _ (uG_X1 w h)) tyX1 tyX1_ok nmX1 hown hK hP1 hD1 hS1.self k ((List.getElem?_append_left hkl).trans hg) rfl 7 (by decide) (hts _ (List.mem_cons_of_mem _ kw_391)) (fun _ h9 => h9) rfl hin rfl (by decide +kernel) rfl rfl (by rw [vL_len]; decide) hdg2 (fun H2 l2 q1 q2 q3 => ?_)
  refine W_sz (fun hu2 => ?_)
  have key := cW_arr (b := b) (cB := cB) (cI := cI) (cJ := cJ) (cZ := cZ) (cS := cS) (cO := cO) (X := 2) (f0 := 7) (n := x.toNatClampNeg) (f := fun _ => 0) (g := fun _ => 0) (P := fun _ => True) (by decide) rfl hD hk (by show eA cB cI cJ cZ cS cO b (nA cs 71 i x.toNatClampNeg (fun _ => 0) (fun _ => 0)) 71 i 0 = .inl (cI, x.toNatClampNeg, .inl (fun _ => 0)); simp only [eA]; rw [show kL (nA cs 71 i x.toNatClampNeg (fun _ => 0) (fun _ => 0)) 71 i = x.toNatClampNeg from u2_s, show kA (nA cs 71 i x.toNatClampNeg (fun _ => 0) (fun _ => 0)) 71 i = (fun _ => 0) from u2_s]) q1 q2
  have hS2 : va_S A s.heap H2 l2 := hS1.nil.comp q3
  have hz2 : H2.size = b + (kK cs + 1) := by have := q3.1; omega
  exact kk H2 l2 key.1 key.2 hS2.nil hz2 hS2.self
theorem nar_X1_40 {p : Program} {l : Launch} {e : Env} {R : Room} {s : State} {m : MethodId} {args : Array Value} {below : List Frame} {meth : Method} {c : Code} {H : Heap} {locs : List Loc} {cells slots : Nat} {Q : State → Prop} {cc : ByteArray} {pc : Nat} {ls : Array Slot} {rest : List Value} {y0 : MethodName} {c0 : ByteArray} {n0 : Nat} {r0 : Option FieldType} {dC : Nat → ClassId} {dI : Nat → Nat → Nat} {cB cI cJ cZ cS cO : ClassId} {b : Nat} {cs : CS} {A : Nat → Prop} {Gh : Heap} {cs1 : CS} {i : Nat} {x : Int32} (hx : p.tables.exec = Jvm.exec) (hb : c.code = cc) (hts : ∀ w ∈ wsOf y0 c0 n0 r0, w.before args s = true) (hown : s.vm.findClass RX1 = some m.cls) (hK : va_K (dC, dI) vwCl [(cB, .byte), (cI, .int), (cJ, .long), (cZ, .boolean), (cS, .object "StreamQueries$Source"), (cO, .object "java/lang/Object")] s) (hP : va_P (dC, dI) vwCl (cW cB cI cJ cZ cS cO b cs) H) (hD : va_D A (cW cB cI cJ cZ cS cO b cs)) (hS : va_S A Gh H locs) (hG : va_S A s.heap Gh []) (hA : ∀ q, s.heap.size ≤ q → A q) (hgz : Gh.size = b + kK cs) (hcc : s.heap.size + cells = b + kK cs) (hin : meth.name = "<init>") (hR : cells + 1 ≤ R.cells ∧ slots + x.toNatClampNeg ≤ R.slots) (hv : nwA cs 2 72 i x = some cs1) (hdg : decode cc pc = .ok (.newarray .int, 2)) (hdg2 : decode cc (pc + 2) = .ok (.putfield 40, 3)) (kk : ∀ (H1 : Heap) (locs1 : List Loc), va_P (dC, dI) vwCl (cW cB cI cJ cZ cS cO b cs1) H1 → va_D A (cW cB cI cJ cZ cS cO b cs1) → va_S A s.heap H1 [] → H1.size = b + kK cs1 → va_S A H1 H1 locs1 → W p l e R s m args below meth c H1 locs1 (cells + 1) (slots + x.toNatClampNeg) Q (F0 m (pc + 2 + 3) ls rest)) : W p l e R s m args below meth c H locs cells slots Q (F0 m pc ls (.int x :: .ref (b + i) :: rest)) := by
  refine W_sz (fun hu => ?_)
  have hz : H.size = b + kK cs := by have := hS.1; omega
  obtain ⟨⟨h1, h2, h3⟩, rfl⟩ := nwA_some hv
  have hSs := hG.comp hS
  obtain ⟨k, hk, hg⟩ := cO_at (b := b) (cB := cB) (cI := cI) (cJ := cJ) (cZ := cZ) (cS := cS) (cO := cO) (by decide) h1
  have hkl := (List.getElem?_eq_some_iff.mp hg).1
  refine va_newaK (atype := .int) hx hb (hts _ (List.mem_cons_of_mem _ kn_I)) rfl hdg rfl h2 rfl (by show x.toNatClampNeg * 4 ≤ 536870912; omega) hR.1 hR.2 hz fun H1 cA e1 z1 o1 hAr hNm => ?_
  have hcA : cI = cA := (Option.some.inj (hNm.symm.trans (show s.vm.findClass ("[" ++ FieldType.toString .int) = some cI from (hK.2 1 _ rfl).2))).symm
  subst hcA
  rw [← hz] at o1
  have hkp : ∀ (k : Nat) (y : Nat × va_E), (cW cB cI cJ cZ cS cO b cs)[k]? = some y → H1[y.1]? = H[y.1]? := fun k y hy => o1 y.1 ((hP k y hy).lt)
  have hS1 : va_S A s.heap H1 locs := ⟨Nat.le_trans hSs.1 (by omega), fun y g1 g2 => (o1 y (Nat.lt_of_lt_of_le g1 hSs.1)).trans (hSs.2.1 y g1 g2), hSs.2.2⟩
  have hP1 : va_P (dC, dI) vwCl (cW cB cI cJ cZ cS cO b cs ++ [(b + kK cs, .inl (cI, x.toNatClampNeg, .inl (fun _ => 0)))]) H1 := by
    refine (hP.kept hkp).app (fun k y hy => ?_)
    have hz1 : k < 1 := (List.getElem?_eq_some_iff.mp hy).1
    rw [show k = 0 by omega] at hy
    cases hy
    show H1[b + kK cs]? = some (vp_cell _ _)
    rw [e1]
    rfl
  have hD1 : va_D A (cW cB cI cJ cZ cS cO b cs ++ [(b + kK cs, .inl (cI, x.toNatClampNeg, .inl (fun _ => 0)))]) := hD.push hP hz.symm (hA _ (by rw [← hz]; exact hSs.1))
  refine va_putF (D := (dC, dI)) (ci := 2) (v := .ref (b + kK cs)) (ty := .array .int) (C := RX1) (T := TX1) (N := 13) hx hb hts (fun w h => List.mem_cons_of_mem _ (uG_X1 w h)) tyX1 tyX1_ok nmX1 hown hK hP1 hD1 hS1.self k ((List.getElem?_append_left hkl).trans hg) rfl 8 (by decide) (hts _ (List.mem_cons_of_mem _ kw_394)) (fun _ h9 => h9) rfl hin rfl (by decide +kernel) rfl rfl (by rw [vL_len]; decide) hdg2 (fun H2 l2 q1 q2 q3 => ?_)
  refine W_sz (fun hu2 => ?_)
  have key := cW_arr (b := b) (cB := cB) (cI := cI) (cJ := cJ) (cZ := cZ) (cS := cS) (cO := cO) (X := 2) (f0 := 8) (n := x.toNatClampNeg) (f := fun _ => 0) (g := fun _ => 0) (P := fun _ => True) (by decide) rfl hD hk (by show eA cB cI cJ cZ cS cO b (nA cs 72 i x.toNatClampNeg (fun _ => 0) (fun _ => 0)) 72 i 0 = .inl (cI, x.toNatClampNeg, .inl (fun _ => 0)); simp only [eA]; rw [show kL (nA cs 72 i x.toNatClampNeg (fun _ => 0) (fun _ => 0)) 72 i = x.toNatClampNeg from u2_s, show kA (nA cs 72 i x.toNatClampNeg (fun _ => 0) (fun _ => 0)) 72 i = (fun _ => 0) from u2_s]) q1 q2
  have hS2 : va_S A s.heap H2 l2 := hS1.nil.comp q3
  have hz2 : H2.size = b + (kK cs + 1) := by have := q3.1; omega
  exact kk H2 l2 key.1 key.2 hS2.nil hz2 hS2.self
theorem nar_X1_43 {p : Program} {l : Launch} {e : Env} {R : Room} {s : State} {m : MethodId} {args : Array Value} {below : List Frame} {meth : Method} {c : Code} {H : Heap} {locs : List Loc} {cells slots : Nat} {Q : State → Prop} {cc : ByteArray} {pc : Nat} {ls : Array Slot} {rest : List Value} {y0 : MethodName} {c0 : ByteArray} {n0 : Nat} {r0 : Option FieldType} {dC : Nat → ClassId} {dI : Nat → Nat → Nat} {cB cI cJ cZ cS cO : ClassId} {b : Nat} {cs : CS} {A : Nat → Prop} {Gh : Heap} {cs1 : CS} {i : Nat} {x : Int32} (hx : p.tables.exec = Jvm.exec) (hb : c.code = cc) (hts : ∀ w ∈ wsOf y0 c0 n0 r0, w.before args s = true) (hown : s.vm.findClass RX1 = some m.cls) (hK : va_K (dC, dI) vwCl [(cB, .byte), (cI, .int), (cJ, .long), (cZ, .boolean), (cS, .object "StreamQueries$Source"), (cO, .object "java/lang/Object")] s) (hP : va_P (dC, dI) vwCl (cW cB cI cJ cZ cS cO b cs) H) (hD : va_D A (cW cB cI cJ cZ cS cO b cs)) (hS : va_S A Gh H locs) (hG : va_S A s.heap Gh []) (hA : ∀ q, s.heap.size ≤ q → A q) (hgz : Gh.size = b + kK cs) (hcc : s.heap.size + cells = b + kK cs) (hin : meth.name = "<init>") (hR : cells + 1 ≤ R.cells ∧ slots + x.toNatClampNeg ≤ R.slots) (hv : nwA cs 2 73 i x = some cs1) (hdg : decode cc pc = .ok (.newarray .int, 2)) (hdg2 : decode cc (pc + 2) = .ok (.putfield 43, 3)) (kk : ∀ (H1 : Heap) (locs1 : List Loc), va_P (dC, dI) vwCl (cW cB cI cJ cZ cS cO b cs1) H1 → va_D A (cW cB cI cJ cZ cS cO b cs1) → va_S A s.heap H1 [] → H1.size = b + kK cs1 → va_S A H1 H1 locs1 → W p l e R s m args below meth c H1 locs1 (cells + 1) (slots + x.toNatClampNeg) Q (F0 m (pc + 2 + 3) ls rest)) : W p l e R s m args below meth c H locs cells slots Q (F0 m pc ls (.int x :: .ref (b + i) :: rest)) := by
  refine W_sz (fun hu => ?_)
  have hz : H.size = b + kK cs := by have := hS.1; omega
  obtain ⟨⟨h1, h2, h3⟩, rfl⟩ := nwA_some hv
  have hSs := hG.comp hS
  obtain ⟨k, hk, hg⟩ := cO_at (b := b) (cB := cB) (cI := cI) (cJ := cJ) (cZ := cZ) (cS := cS) (cO := cO) (by decide) h1
  have hkl := (List.getElem?_eq_some_iff.mp hg).1
  refine va_newaK (atype := .int) hx hb (hts _ (List.mem_cons_of_mem _ kn_I)) rfl hdg rfl h2 rfl (by show x.toNatClampNeg * 4 ≤ 536870912; omega) hR.1 hR.2 hz fun H1 cA e1 z1 o1 hAr hNm => ?_
  have hcA : cI = cA := (Option.some.inj (hNm.symm.trans (show s.vm.findClass ("[" ++ FieldType.toString .int) = some cI from (hK.2 1 _ rfl).2))).symm
  subst hcA
  rw [← hz] at o1
  have hkp : ∀ (k : Nat) (y : Nat × va_E), (cW cB cI cJ cZ cS cO b cs)[k]? = some y → H1[y.1]? = H[y.1]? := fun k y hy => o1 y.1 ((hP k y hy).lt)
  have hS1 : va_S A s.heap H1 locs := ⟨Nat.le_trans hSs.1 (by omega), fun y g1 g2 => (o1 y (Nat.lt_of_lt_of_le g1 hSs.1)).trans (hSs.2.1 y g1 g2), hSs.2.2⟩
  have hP1 : va_P (dC, dI) vwCl (cW cB cI cJ cZ cS cO b cs ++ [(b + kK cs, .inl (cI, x.toNatClampNeg, .inl (fun _ => 0)))]) H1 := by
    refine (hP.kept hkp).app (fun k y hy => ?_)
    have hz1 : k < 1 := (List.getElem?_eq_some_iff.mp hy).1
    rw [show k = 0 by omega] at hy
    cases hy
    show H1[b + kK cs]? = some (vp_cell _ _)
    rw [e1]
    rfl
  have hD1 : va_D A (cW cB cI cJ cZ cS cO b cs ++ [(b + kK cs, .inl (cI, x.toNatClampNeg, .inl (fun _ => 0)))]) := hD.push hP hz.symm (hA _ (by rw [← hz]; exact hSs.1))
  refine va_putF (D := (dC, dI)) (ci := 2) (v := .ref (b + kK cs)) (ty := .array .int) (C := RX1) (T := TX1) (N := 13) hx hb hts (fun w h => List.mem_cons_of_mem _ (uG_X1 w h)) tyX1 tyX1_ok nmX1 hown hK hP1 hD1 hS1.self k ((List.getElem?_append_left hkl).trans hg) rfl 9 (by decide) (hts _ (List.mem_cons_of_mem _ kw_396)) (fun _ h9 => h9) rfl hin rfl (by decide +kernel) rfl rfl (by rw [vL_len]; decide) hdg2 (fun H2 l2 q1 q2 q3 => ?_)
  refine W_sz (fun hu2 => ?_)
  have key := cW_arr (b := b) (cB := cB) (cI := cI) (cJ := cJ) (cZ := cZ) (cS := cS) (cO := cO) (X := 2) (f0 := 9) (n := x.toNatClampNeg) (f := fun _ => 0) (g := fun _ => 0) (P := fun _ => True) (by decide) rfl hD hk (by show eA cB cI cJ cZ cS cO b (nA cs 73 i x.toNatClampNeg (fun _ => 0) (fun _ => 0)) 73 i 0 = .inl (cI, x.toNatClampNeg, .inl (fun _ => 0)); simp only [eA]; rw [show kL (nA cs 73 i x.toNatClampNeg (fun _ => 0) (fun _ => 0)) 73 i = x.toNatClampNeg from u2_s, show kA (nA cs 73 i x.toNatClampNeg (fun _ => 0) (fun _ => 0)) 73 i = (fun _ => 0) from u2_s]) q1 q2
  have hS2 : va_S A s.heap H2 l2 := hS1.nil.comp q3
  have hz2 : H2.size = b + (kK cs + 1) := by have := q3.1; omega
  exact kk H2 l2 key.1 key.2 hS2.nil hz2 hS2.self
theorem nar_X1_46 {p : Program} {l : Launch} {e : Env} {R : Room} {s : State} {m : MethodId} {args : Array Value} {below : List Frame} {meth : Method} {c : Code} {H : Heap} {locs : List Loc} {cells slots : Nat} {Q : State → Prop} {cc : ByteArray} {pc : Nat} {ls : Array Slot} {rest : List Value} {y0 : MethodName} {c0 : ByteArray} {n0 : Nat} {r0 : Option FieldType} {dC : Nat → ClassId} {dI : Nat → Nat → Nat} {cB cI cJ cZ cS cO : ClassId} {b : Nat} {cs : CS} {A : Nat → Prop} {Gh : Heap} {cs1 : CS} {i : Nat} {x : Int32} (hx : p.tables.exec = Jvm.exec) (hb : c.code = cc) (hts : ∀ w ∈ wsOf y0 c0 n0 r0, w.before args s = true) (hown : s.vm.findClass RX1 = some m.cls) (hK : va_K (dC, dI) vwCl [(cB, .byte), (cI, .int), (cJ, .long), (cZ, .boolean), (cS, .object "StreamQueries$Source"), (cO, .object "java/lang/Object")] s) (hP : va_P (dC, dI) vwCl (cW cB cI cJ cZ cS cO b cs) H) (hD : va_D A (cW cB cI cJ cZ cS cO b cs)) (hS : va_S A Gh H locs) (hG : va_S A s.heap Gh []) (hA : ∀ q, s.heap.size ≤ q → A q) (hgz : Gh.size = b + kK cs) (hcc : s.heap.size + cells = b + kK cs) (hin : meth.name = "<init>") (hR : cells + 1 ≤ R.cells ∧ slots + x.toNatClampNeg ≤ R.slots) (hv : nwA cs 2 74 i x = some cs1) (hdg : decode cc pc = .ok (.newarray .long, 2)) (hdg2 : decode cc (pc + 2) = .ok (.putfield 46, 3)) (kk : ∀ (H1 : Heap) (locs1 : List Loc), va_P (dC, dI) vwCl (cW cB cI cJ cZ cS cO b cs1) H1 → va_D A (cW cB cI cJ cZ cS cO b cs1) → va_S A s.heap H1 [] → H1.size = b + kK cs1 → va_S A H1 H1 locs1 → W p l e R s m args below meth c H1 locs1 (cells + 1) (slots + x.toNatClampNeg) Q (F0 m (pc + 2 + 3) ls rest)) : W p l e R s m args below meth c H locs cells slots Q (F0 m pc ls (.int x :: .ref (b + i) :: rest)) := by
  refine W_sz (fun hu => ?_)
  have hz : H.size = b + kK cs := by have := hS.1; omega
  obtain ⟨⟨h1, h2, h3⟩, rfl⟩ := nwA_some hv
  have hSs := hG.comp hS
  obtain ⟨k, hk, hg⟩ := cO_at (b := b) (cB := cB) (cI := cI) (cJ := cJ) (cZ := cZ) (cS := cS) (cO := cO) (by decide) h1
  have hkl := (List.getElem?_eq_some_iff.mp hg).1
  refine va_newaK (atype := .long) hx hb (hts _ (List.mem_cons_of_mem _ kn_J)) rfl hdg rfl h2 rfl (by show x.toNatClampNeg * 8 ≤ 536870912; omega) hR.1 hR.2 hz fun H1 cA e1 z1 o1 hAr hNm => ?_
  have hcA : cJ = cA := (Option.some.inj (hNm.symm.trans (show s.vm.findClass ("[" ++ FieldType.toString .long) = some cJ from (hK.2 2 _ rfl).2))).symm
  subst hcA
  rw [← hz] at o1
  have hkp : ∀ (k : Nat) (y : Nat × va_E), (cW cB cI cJ cZ cS cO b cs)[k]? = some y → H1[y.1]? = H[y.1]? := fun k y hy => o1 y.1 ((hP k y hy).lt)
  have hS1 : va_S A s.heap H1 locs := ⟨Nat.le_trans hSs.1 (by omega), fun y g1 g2 => (o1 y (Nat.lt_of_lt_of_le g1 hSs.1)).trans (hSs.2.1 y g1 g2), hSs.2.2⟩
  have hP1 : va_P (dC, dI) vwCl (cW cB cI cJ cZ cS cO b cs ++ [(b + kK cs, .inl (cJ, x.toNatClampNeg, .inr (.inl (fun _ => 0))))]) H1 := by
    refine (hP.kept hkp).app (fun k y hy => ?_)
    have hz1 : k < 1 := (List.getElem?_eq_some_iff.mp hy).1
    rw [show k = 0 by omega] at hy
    cases hy
    show H1[b + kK cs]? = some (vp_cell _ _)
    rw [e1]
    rfl
  have hD1 : va_D A (cW cB cI cJ cZ cS cO b cs ++ [(b + kK cs, .inl (cJ, x.toNatClampNeg, .inr (.inl (fun _ => 0))))]) := hD.push hP hz.symm (hA _ (by rw [← hz]; exact hSs.1))
  refine va_putF (D := (dC, dI)) (ci := 2) (v := .ref (b + kK cs)) (ty := .array .long) (C := RX1) (T := TX1) (N := 13) hx hb hts (fun w h => List.mem_cons_of_mem _ (uG_X1 w h)) tyX1 tyX1_ok nmX1 hown hK hP1 hD1 hS1.self k ((List.getElem?_append_left hkl).trans hg) rfl 10 (by decide) (hts _ (List.mem_cons_of_mem _ kw_398)) (fun _ h9 => h9) rfl hin rfl (by decide +kernel) rfl rfl (by rw [vL_len]; decide) hdg2 (fun H2 l2 q1 q2 q3 => ?_)
  refine W_sz (fun hu2 => ?_)
  have key := cW_arr (b := b) (cB := cB) (cI := cI) (cJ := cJ) (cZ := cZ) (cS := cS) (cO := cO) (X := 2) (f0 := 10) (n := x.toNatClampNeg) (f := fun _ => 0) (g := fun _ => 0) (P := fun _ => True) (by decide) rfl hD hk (by show eA cB cI cJ cZ cS cO b (nA cs 74 i x.toNatClampNeg (fun _ => 0) (fun _ => 0)) 74 i 2 = .inl (cJ, x.toNatClampNeg, .inr (.inl (fun _ => 0))); simp only [eA]; rw [show kL (nA cs 74 i x.toNatClampNeg (fun _ => 0) (fun _ => 0)) 74 i = x.toNatClampNeg from u2_s, show kB (nA cs 74 i x.toNatClampNeg (fun _ => 0) (fun _ => 0)) 74 i = (fun _ => 0) from u2_s]) q1 q2
  have hS2 : va_S A s.heap H2 l2 := hS1.nil.comp q3
  have hz2 : H2.size = b + (kK cs + 1) := by have := q3.1; omega
  exact kk H2 l2 key.1 key.2 hS2.nil hz2 hS2.self
theorem nar_X1_49 {p : Program} {l : Launch} {e : Env} {R : Room} {s : State} {m : MethodId} {args : Array Value} {below : List Frame} {meth : Method} {c : Code} {H : Heap} {locs : List Loc} {cells slots : Nat} {Q : State → Prop} {cc : ByteArray} {pc : Nat} {ls : Array Slot} {rest : List Value} {y0 : MethodName} {c0 : ByteArray} {n0 : Nat} {r0 : Option FieldType} {dC : Nat → ClassId} {dI : Nat → Nat → Nat} {cB cI cJ cZ cS cO : ClassId} {b : Nat} {cs : CS} {A : Nat → Prop} {Gh : Heap} {cs1 : CS} {i : Nat} {x : Int32} (hx : p.tables.exec = Jvm.exec) (hb : c.code = cc) (hts : ∀ w ∈ wsOf y0 c0 n0 r0, w.before args s = true) (hown : s.vm.findClass RX1 = some m.cls) (hK : va_K (dC, dI) vwCl [(cB, .byte), (cI, .int), (cJ, .long), (cZ, .boolean), (cS, .object "StreamQueries$Source"), (cO, .object "java/lang/Object")] s) (hP : va_P (dC, dI) vwCl (cW cB cI cJ cZ cS cO b cs) H) (hD : va_D A (cW cB cI cJ cZ cS cO b cs)) (hS : va_S A Gh H locs) (hG : va_S A s.heap Gh []) (hA : ∀ q, s.heap.size ≤ q → A q) (hgz : Gh.size = b + kK cs) (hcc : s.heap.size + cells = b + kK cs) (hin : meth.name = "<init>") (hR : cells + 1 ≤ R.cells ∧ slots + x.toNatClampNeg ≤ R.slots) (hv : nwA cs 2 75 i x = some cs1) (hdg : decode cc pc = .ok (.newarray .byte, 2)) (hdg2 : decode cc (pc + 2) = .ok (.putfield 49, 3)) (kk : ∀ (H1 : Heap) (locs1 : List Loc), va_P (dC, dI) vwCl (cW cB cI cJ cZ cS cO b cs1) H1 → va_D A (cW cB cI cJ cZ cS cO b cs1) → va_S A s.heap H1 [] → H1.size = b + kK cs1 → va_S A H1 H1 locs1 → W p l e R s m args below meth c H1 locs1 (cells + 1) (slots + x.toNatClampNeg) Q (F0 m (pc + 2 + 3) ls rest)) : W p l e R s m args below meth c H locs cells slots Q (F0 m pc ls (.int x :: .ref (b + i) :: rest)) := by
  refine W_sz (fun hu => ?_)
  have hz : H.size = b + kK cs := by have := hS.1; omega
  obtain ⟨⟨h1, h2, h3⟩, rfl⟩ := nwA_some hv
  have hSs := hG.comp hS
  obtain ⟨k, hk, hg⟩ := cO_at (b := b) (cB := cB) (cI := cI) (cJ := cJ) (cZ := cZ) (cS := cS) (cO := cO) (by decide) h1
  have hkl := (List.getElem?_eq_some_iff.mp hg).1
  refine va_newaK (atype := .byte) hx hb (hts _ (List.mem_cons_of_mem _ kn_B)) rfl hdg rfl h2 rfl (by show x.toNatClampNeg * 1 ≤ 536870912; omega) hR.1 hR.2 hz fun H1 cA e1 z1 o1 hAr hNm => ?_
  have hcA : cB = cA := (Option.some.inj (hNm.symm.trans (show s.vm.findClass ("[" ++ FieldType.toString .byte) = some cB from (hK.2 0 _ rfl).2))).symm
  subst hcA
  rw [← hz] at o1
  have hkp : ∀ (k : Nat) (y : Nat × va_E), (cW cB cI cJ cZ cS cO b cs)[k]? = some y → H1[y.1]? = H[y.1]? := fun k y hy => o1 y.1 ((hP k y hy).lt)
  have hS1 : va_S A s.heap H1 locs := ⟨Nat.le_trans hSs.1 (by omega), fun y g1 g2 => (o1 y (Nat.lt_of_lt_of_le g1 hSs.1)).trans (hSs.2.1 y g1 g2), hSs.2.2⟩
  have hP1 : va_P (dC, dI) vwCl (cW cB cI cJ cZ cS cO b cs ++ [(b + kK cs, .inl (cB, x.toNatClampNeg, .inl (fun _ => 0)))]) H1 := by
    refine (hP.kept hkp).app (fun k y hy => ?_)
    have hz1 : k < 1 := (List.getElem?_eq_some_iff.mp hy).1
    rw [show k = 0 by omega] at hy
    cases hy
    show H1[b + kK cs]? = some (vp_cell _ _)
    rw [e1]
    rfl
  have hD1 : va_D A (cW cB cI cJ cZ cS cO b cs ++ [(b + kK cs, .inl (cB, x.toNatClampNeg, .inl (fun _ => 0)))]) := hD.push hP hz.symm (hA _ (by rw [← hz]; exact hSs.1))
  refine va_putF (D := (dC, dI)) (ci := 2) (v := .ref (b + kK cs)) (ty := .array .byte) (C := RX1) (T := TX1) (N := 13) hx hb hts (fun w h => List.mem_cons_of_mem _ (uG_X1 w h)) tyX1 tyX1_ok nmX1 hown hK hP1 hD1 hS1.self k ((List.getElem?_append_left hkl).trans hg) rfl 11 (by decide) (hts _ (List.mem_cons_of_mem _ kw_399)) (fun _ h9 => h9) rfl hin rfl (by decide +kernel) rfl rfl (by rw [vL_len]; decide) hdg2 (fun H2 l2 q1 q2 q3 => ?_)
  refine W_sz (fun hu2 => ?_)
  have key := cW_arr (b := b) (cB := cB) (cI := cI) (cJ := cJ) (cZ := cZ) (cS := cS) (cO := cO) (X := 2) (f0 := 11) (n := x.toNatClampNeg) (f := fun _ => 0) (g := fun _ => 0) (P := fun _ => True) (by decide) rfl hD hk (by show eA cB cI cJ cZ cS cO b (nA cs 75 i x.toNatClampNeg (fun _ => 0) (fun _ => 0)) 75 i 1 = .inl (cB, x.toNatClampNeg, .inl (fun _ => 0)); simp only [eA]; rw [show kL (nA cs 75 i x.toNatClampNeg (fun _ => 0) (fun _ => 0)) 75 i = x.toNatClampNeg from u2_s, show kA (nA cs 75 i x.toNatClampNeg (fun _ => 0) (fun _ => 0)) 75 i = (fun _ => 0) from u2_s]) q1 q2
  have hS2 : va_S A s.heap H2 l2 := hS1.nil.comp q3
  have hz2 : H2.size = b + (kK cs + 1) := by have := q3.1; omega
  exact kk H2 l2 key.1 key.2 hS2.nil hz2 hS2.self
theorem nar_X2_15 {p : Program} {l : Launch} {e : Env} {R : Room} {s : State} {m : MethodId} {args : Array Value} {below : List Frame} {meth : Method} {c : Code} {H : Heap} {locs : List Loc} {cells slots : Nat} {Q : State → Prop} {cc : ByteArray} {pc : Nat} {ls : Array Slot} {rest : List Value} {y0 : MethodName} {c0 : ByteArray} {n0 : Nat} {r0 : Option FieldType} {dC : Nat → ClassId} {dI : Nat → Nat → Nat} {cB cI cJ cZ cS cO : ClassId} {b : Nat} {cs : CS} {A : Nat → Prop} {Gh : Heap} {cs1 : CS} {i : Nat} {x : Int32} (hx : p.tables.exec = Jvm.exec) (hb : c.code = cc) (hts : ∀ w ∈ wsOf y0 c0 n0 r0, w.before args s = true) (hown : s.vm.findClass RX2 = some m.cls) (hK : va_K (dC, dI) vwCl [(cB, .byte), (cI, .int), (cJ, .long), (cZ, .boolean), (cS, .object "StreamQueries$Source"), (cO, .object "java/lang/Object")] s) (hP : va_P (dC, dI) vwCl (cW cB cI cJ cZ cS cO b cs) H) (hD : va_D A (cW cB cI cJ cZ cS cO b cs)) (hS : va_S A Gh H locs) (hG : va_S A s.heap Gh []) (hA : ∀ q, s.heap.size ≤ q → A q) (hgz : Gh.size = b + kK cs) (hcc : s.heap.size + cells = b + kK cs) (hin : meth.name = "<init>") (hR : cells + 1 ≤ R.cells ∧ slots + x.toNatClampNeg ≤ R.slots) (hv : nwA cs 3 98 i x = some cs1) (hdg : decode cc pc = .ok (.newarray .long, 2)) (hdg2 : decode cc (pc + 2) = .ok (.putfield 15, 3)) (kk : ∀ (H1 : Heap) (locs1 : List Loc), va_P (dC, dI) vwCl (cW cB cI cJ cZ cS cO b cs1) H1 → va_D A (cW cB cI cJ cZ cS cO b cs1) → va_S A s.heap H1 [] → H1.size = b + kK cs1 → va_S A H1 H1 locs1 → W p l e R s m args below meth c H1 locs1 (cells + 1) (slots + x.toNatClampNeg) Q (F0 m (pc + 2 + 3) ls rest)) : W p l e R s m args below meth c H locs cells slots Q (F0 m pc ls (.int x :: .ref (b + i) :: rest)) := by
  refine W_sz (fun hu => ?_)
  have hz : H.size = b + kK cs := by have := hS.1; omega
  obtain ⟨⟨h1, h2, h3⟩, rfl⟩ := nwA_some hv
  have hSs := hG.comp hS
  obtain ⟨k, hk, hg⟩ := cO_at (b := b) (cB := cB) (cI := cI) (cJ := cJ) (cZ := cZ) (cS := cS) (cO := cO) (by decide) h1
  have hkl := (List.getElem?_eq_some_iff.mp hg).1
  refine va_newaK (atype := .long) hx hb (hts _ (List.mem_cons_of_mem _ kn_J)) rfl hdg rfl h2 rfl (by show x.toNatClampNeg * 8 ≤ 536870912; omega) hR.1 hR.2 hz fun H1 cA e1 z1 o1 hAr hNm => ?_
  have hcA : cJ = cA := (Option.some.inj (hNm.symm.trans (show s.vm.findClass ("[" ++ FieldType.toString .long) = some cJ from (hK.2 2 _ rfl).2))).symm
  subst hcA
  rw [← hz] at o1
  have hkp : ∀ (k : Nat) (y : Nat × va_E), (cW cB cI cJ cZ cS cO b cs)[k]? = some y → H1[y.1]? = H[y.1]? := fun k y hy => o1 y.1 ((hP k y hy).lt)
  have hS1 : va_S A s.heap H1 locs := ⟨Nat.le_trans hSs.1 (by omega), fun y g1 g2 => (o1 y (Nat.lt_of_lt_of_le g1 hSs.1)).trans (hSs.2.1 y g1 g2), hSs.2.2⟩
  have hP1 : va_P (dC, dI) vwCl (cW cB cI cJ cZ cS cO b cs ++ [(b + kK cs, .inl (cJ, x.toNatClampNeg, .inr (.inl (fun _ => 0))))]) H1 := by
    refine (hP.kept hkp).app (fun k y hy => ?_)
    have hz1 : k < 1 := (List.getElem?_eq_some_iff.mp hy).1
    rw [show k = 0 by omega] at hy
    cases hy
    show H1[b + kK cs]? = some (vp_cell _ _)
    rw [e1]
    rfl
  have hD1 : va_D A (cW cB cI cJ cZ cS cO b cs ++ [(b + kK cs, .inl (cJ, x.toNatClampNeg, .inr (.inl (fun _ => 0))))]) := hD.push hP hz.symm (hA _ (by rw [← hz]; exact hSs.1))
  refine va_putF (D := (dC, dI)) (ci := 3) (v := .ref (b + kK cs)) (ty := .array .long) (C := RX2) (T := TX2) (N := 5) hx hb hts (fun w h => List.mem_cons_of_mem _ (uG_X2 w h)) tyX2 tyX2_ok nmX2 hown hK hP1 hD1 hS1.self k ((List.getElem?_append_left hkl).trans hg) rfl 2 (by decide) (hts _ (List.mem_cons_of_mem _ kw_636)) (fun _ h9 => h9) rfl hin rfl (by decide +kernel) rfl rfl (by rw [vL_len]; decide) hdg2 (fun H2 l2 q1 q2 q3 => ?_)
  refine W_sz (fun hu2 => ?_)
  have key := cW_arr (b := b) (cB := cB) (cI := cI) (cJ := cJ) (cZ := cZ) (cS := cS) (cO := cO) (X := 3) (f0 := 2) (n := x.toNatClampNeg) (f := fun _ => 0) (g := fun _ => 0) (P := fun _ => True) (by decide) rfl hD hk (by show eA cB cI cJ cZ cS cO b (nA cs 98 i x.toNatClampNeg (fun _ => 0) (fun _ => 0)) 98 i 2 = .inl (cJ, x.toNatClampNeg, .inr (.inl (fun _ => 0))); simp only [eA]; rw [show kL (nA cs 98 i x.toNatClampNeg (fun _ => 0) (fun _ => 0)) 98 i = x.toNatClampNeg from u2_s, show kB (nA cs 98 i x.toNatClampNeg (fun _ => 0) (fun _ => 0)) 98 i = (fun _ => 0) from u2_s]) q1 q2
  have hS2 : va_S A s.heap H2 l2 := hS1.nil.comp q3
  have hz2 : H2.size = b + (kK cs + 1) := by have := q3.1; omega
  exact kk H2 l2 key.1 key.2 hS2.nil hz2 hS2.self
theorem nar_X2_19 {p : Program} {l : Launch} {e : Env} {R : Room} {s : State} {m : MethodId} {args : Array Value} {below : List Frame} {meth : Method} {c : Code} {H : Heap} {locs : List Loc} {cells slots : Nat} {Q : State → Prop} {cc : ByteArray} {pc : Nat} {ls : Array Slot} {rest : List Value} {y0 : MethodName} {c0 : ByteArray} {n0 : Nat} {r0 : Option FieldType} {dC : Nat → ClassId} {dI : Nat → Nat → Nat} {cB cI cJ cZ cS cO : ClassId} {b : Nat} {cs : CS} {A : Nat → Prop} {Gh : Heap} {cs1 : CS} {i : Nat} {x : Int32} (hx : p.tables.exec = Jvm.exec) (hb : c.code = cc) (hts : ∀ w ∈ wsOf y0 c0 n0 r0, w.before args s = true) (hown : s.vm.findClass RX2 = some m.cls) (hK : va_K (dC, dI) vwCl [(cB, .byte), (cI, .int), (cJ, .long), (cZ, .boolean), (cS, .object "StreamQueries$Source"), (cO, .object "java/lang/Object")] s) (hP : va_P (dC, dI) vwCl (cW cB cI cJ cZ cS cO b cs) H) (hD : va_D A (cW cB cI cJ cZ cS cO b cs)) (hS : va_S A Gh H locs) (hG : va_S A s.heap Gh []) (hA : ∀ q, s.heap.size ≤ q → A q) (hgz : Gh.size = b + kK cs) (hcc : s.heap.size + cells = b + kK cs) (hin : meth.name = "<init>") (hR : cells + 1 ≤ R.cells ∧ slots + x.toNatClampNeg ≤ R.slots) (hv : nwA cs 3 99 i x = some cs1) (hdg : decode cc pc = .ok (.newarray .int, 2)) (hdg2 : decode cc (pc + 2) = .ok (.putfield 19, 3)) (kk : ∀ (H1 : Heap) (locs1 : List Loc), va_P (dC, dI) vwCl (cW cB cI cJ cZ cS cO b cs1) H1 → va_D A (cW cB cI cJ cZ cS cO b cs1) → va_S A s.heap H1 [] → H1.size = b + kK cs1 → va_S A H1 H1 locs1 → W p l e R s m args below meth c H1 locs1 (cells + 1) (slots + x.toNatClampNeg) Q (F0 m (pc + 2 + 3) ls rest)) : W p l e R s m args below meth c H locs cells slots Q (F0 m pc ls (.int x :: .ref (b + i) :: rest)) := by
  refine W_sz (fun hu => ?_)
  have hz : H.size = b + kK cs := by have := hS.1; omega
  obtain ⟨⟨h1, h2, h3⟩, rfl⟩ := nwA_some hv
  have hSs := hG.comp hS
  obtain ⟨k, hk, hg⟩ := cO_at (b := b) (cB := cB) (cI := cI) (cJ := cJ) (cZ := cZ) (cS := cS) (cO := cO) (by decide) h1
  have hkl := (List.getElem?_eq_some_iff.mp hg).1
  refine va_newaK (atype := .int) hx hb (hts _ (List.mem_cons_of_mem _ kn_I)) rfl hdg rfl h2 rfl (by show x.toNatClampNeg * 4 ≤ 536870912; omega) hR.1 hR.2 hz fun H1 cA e1 z1 o1 hAr hNm => ?_
  have hcA : cI = cA := (Option.some.inj (hNm.symm.trans (show s.vm.findClass ("[" ++ FieldType.toString .int) = some cI from (hK.2 1 _ rfl).2))).symm
  subst hcA
  rw [← hz] at o1
  have hkp : ∀ (k : Nat) (y : Nat × va_E), (cW cB cI cJ cZ cS cO b cs)[k]? = some y → H1[y.1]? = H[y.1]? := fun k y hy => o1 y.1 ((hP k y hy).lt)
  have hS1 : va_S A s.heap H1 locs := ⟨Nat.le_trans hSs.1 (by omega), fun y g1 g2 => (o1 y (Nat.lt_of_lt_of_le g1 hSs.1)).trans (hSs.2.1 y g1 g2), hSs.2.2⟩
  have hP1 : va_P (dC, dI) vwCl (cW cB cI cJ cZ cS cO b cs ++ [(b + kK cs, .inl (cI, x.toNatClampNeg, .inl (fun _ => 0)))]) H1 := by
    refine (hP.kept hkp).app (fun k y hy => ?_)
    have hz1 : k < 1 := (List.getElem?_eq_some_iff.mp hy).1
    rw [show k = 0 by omega] at hy
    cases hy
    show H1[b + kK cs]? = some (vp_cell _ _)
    rw [e1]
    rfl
  have hD1 : va_D A (cW cB cI cJ cZ cS cO b cs ++ [(b + kK cs, .inl (cI, x.toNatClampNeg, .inl (fun _ => 0)))]) := hD.push hP hz.symm (hA _ (by rw [← hz]; exact hSs.1))
  refine va_putF (D := (dC, dI)) (ci := 3) (v := .ref (b + kK cs)) (ty := .array .int) (C := RX2) (T := TX2) (N := 5) hx hb hts (fun w h => List.mem_cons_of_mem _ (uG_X2 w h)) tyX2 tyX2_ok nmX2 hown hK hP1 hD1 hS1.self k ((List.getElem?_append_left hkl).trans hg) rfl 3 (by decide) (hts _ (List.mem_cons_of_mem _ kw_638)) (fun _ h9 => h9) rfl hin rfl (by decide +kernel) rfl rfl (by rw [vL_len]; decide) hdg2 (fun H2 l2 q1 q2 q3 => ?_)
  refine W_sz (fun hu2 => ?_)
  have key := cW_arr (b := b) (cB := cB) (cI := cI) (cJ := cJ) (cZ := cZ) (cS := cS) (cO := cO) (X := 3) (f0 := 3) (n := x.toNatClampNeg) (f := fun _ => 0) (g := fun _ => 0) (P := fun _ => True) (by decide) rfl hD hk (by show eA cB cI cJ cZ cS cO b (nA cs 99 i x.toNatClampNeg (fun _ => 0) (fun _ => 0)) 99 i 0 = .inl (cI, x.toNatClampNeg, .inl (fun _ => 0)); simp only [eA]; rw [show kL (nA cs 99 i x.toNatClampNeg (fun _ => 0) (fun _ => 0)) 99 i = x.toNatClampNeg from u2_s, show kA (nA cs 99 i x.toNatClampNeg (fun _ => 0) (fun _ => 0)) 99 i = (fun _ => 0) from u2_s]) q1 q2
  have hS2 : va_S A s.heap H2 l2 := hS1.nil.comp q3
  have hz2 : H2.size = b + (kK cs + 1) := by have := q3.1; omega
  exact kk H2 l2 key.1 key.2 hS2.nil hz2 hS2.self
theorem nar_X2_22 {p : Program} {l : Launch} {e : Env} {R : Room} {s : State} {m : MethodId} {args : Array Value} {below : List Frame} {meth : Method} {c : Code} {H : Heap} {locs : List Loc} {cells slots : Nat} {Q : State → Prop} {cc : ByteArray} {pc : Nat} {ls : Array Slot} {rest : List Value} {y0 : MethodName} {c0 : ByteArray} {n0 : Nat} {r0 : Option FieldType} {dC : Nat → ClassId} {dI : Nat → Nat → Nat} {cB cI cJ cZ cS cO : ClassId} {b : Nat} {cs : CS} {A : Nat → Prop} {Gh : Heap} {cs1 : CS} {i : Nat} {x : Int32} (hx : p.tables.exec = Jvm.exec) (hb : c.code = cc) (hts : ∀ w ∈ wsOf y0 c0 n0 r0, w.before args s = true) (hown : s.vm.findClass RX2 = some m.cls) (hK : va_K (dC, dI) vwCl [(cB, .byte), (cI, .int), (cJ, .long), (cZ, .boolean), (cS, .object "StreamQueries$Source"), (cO, .object "java/lang/Object")] s) (hP : va_P (dC, dI) vwCl (cW cB cI cJ cZ cS cO b cs) H) (hD : va_D A (cW cB cI cJ cZ cS cO b cs)) (hS : va_S A Gh H locs) (hG : va_S A s.heap Gh []) (hA : ∀ q, s.heap.size ≤ q → A q) (hgz : Gh.size = b + kK cs) (hcc : s.heap.size + cells = b + kK cs) (hin : meth.name = "<init>") (hR : cells + 1 ≤ R.cells ∧ slots + x.toNatClampNeg ≤ R.slots) (hv : nwA cs 3 100 i x = some cs1) (hdg : decode cc pc = .ok (.newarray .int, 2)) (hdg2 : decode cc (pc + 2) = .ok (.putfield 22, 3)) (kk : ∀ (H1 : Heap) (locs1 : List Loc), va_P (dC, dI) vwCl (cW cB cI cJ cZ cS cO b cs1) H1 → va_D A (cW cB cI cJ cZ cS cO b cs1) → va_S A s.heap H1 [] → H1.size = b + kK cs1 → va_S A H1 H1 locs1 → W p l e R s m args below meth c H1 locs1 (cells + 1) (slots + x.toNatClampNeg) Q (F0 m (pc + 2 + 3) ls rest)) : W p l e R s m args below meth c H locs cells slots Q (F0 m pc ls (.int x :: .ref (b + i) :: rest)) := by
  refine W_sz (fun hu => ?_)
  have hz : H.size = b + kK cs := by have := hS.1; omega
  obtain ⟨⟨h1, h2, h3⟩, rfl⟩ := nwA_some hv
  have hSs := hG.comp hS
  obtain ⟨k, hk, hg⟩ := cO_at (b := b) (cB := cB) (cI := cI) (cJ := cJ) (cZ := cZ) (cS := cS) (cO := cO) (by decide) h1
  have hkl := (List.getElem?_eq_some_iff.mp hg).1
  refine va_newaK (atype := .int) hx hb (hts _ (List.mem_cons_of_mem _ kn_I)) rfl hdg rfl h2 rfl (by show x.toNatClampNeg * 4 ≤ 536870912; omega) hR.1 hR.2 hz fun H1 cA e1 z1 o1 hAr hNm => ?_
  have hcA : cI = cA := (Option.some.inj (hNm.symm.trans (show s.vm.findClass ("[" ++ FieldType.toString .int) = some cI from (hK.2 1 _ rfl).2))).symm
  subst hcA
  rw [← hz] at o1
  have hkp : ∀ (k : Nat) (y : Nat × va_E), (cW cB cI cJ cZ cS cO b cs)[k]? = some y → H1[y.1]? = H[y.1]? := fun k y hy => o1 y.1 ((hP k y hy).lt)
  have hS1 : va_S A s.heap H1 locs := ⟨Nat.le_trans hSs.1 (by omega), fun y g1 g2 => (o1 y (Nat.lt_of_lt_of_le g1 hSs.1)).trans (hSs.2.1 y g1 g2), hSs.2.2⟩
  have hP1 : va_P (dC, dI) vwCl (cW cB cI cJ cZ cS cO b cs ++ [(b + kK cs, .inl (cI, x.toNatClampNeg, .inl (fun _ => 0)))]) H1 := by
    refine (hP.kept hkp).app (fun k y hy => ?_)
    have hz1 : k < 1 := (List.getElem?_eq_some_iff.mp hy).1
    rw [show k = 0 by omega] at hy
    cases hy
    show H1[b + kK cs]? = some (vp_cell _ _)
    rw [e1]
    rfl
  have hD1 : va_D A (cW cB cI cJ cZ cS cO b cs ++ [(b + kK cs, .inl (cI, x.toNatClampNeg, .inl (fun _ => 0)))]) := hD.push hP hz.symm (hA _ (by rw [← hz]; exact hSs.1))
  refine va_putF (D := (dC, dI)) (ci := 3) (v := .ref (b + kK cs)) (ty := .array .int) (C := RX2) (T := TX2) (N := 5) hx hb hts (fun w h => List.mem_cons_of_mem _ (uG_X2 w h)) tyX2 tyX2_ok nmX2 hown hK hP1 hD1 hS1.self k ((List.getElem?_append_left hkl).trans hg) rfl 4 (by decide) (hts _ (List.mem_cons_of_mem _ kw_640)) (fun _ h9 => h9) rfl hin rfl (by decide +kernel) rfl rfl (by rw [vL_len]; decide) hdg2 (fun H2 l2 q1 q2 q3 => ?_)
  refine W_sz (fun hu2 => ?_)
  have key := cW_arr (b := b) (cB := cB) (cI := cI) (cJ := cJ) (cZ := cZ) (cS := cS) (cO := cO) (X := 3) (f0 := 4) (n := x.toNatClampNeg) (f := fun _ => 0) (g := fun _ => 0) (P := fun _ => True) (by decide) rfl hD hk (by show eA cB cI cJ cZ cS cO b (nA cs 100 i x.toNatClampNeg (fun _ => 0) (fun _ => 0)) 100 i 0 = .inl (cI, x.toNatClampNeg, .inl (fun _ => 0)); simp only [eA]; rw [show kL (nA cs 100 i x.toNatClampNeg (fun _ => 0) (fun _ => 0)) 100 i = x.toNatClampNeg from u2_s, show kA (nA cs 100 i x.toNatClampNeg (fun _ => 0) (fun _ => 0)) 100 i = (fun _ => 0) from u2_s]) q1 q2
  have hS2 : va_S A s.heap H2 l2 := hS1.nil.comp q3
  have hz2 : H2.size = b + (kK cs + 1) := by have := q3.1; omega
  exact kk H2 l2 key.1 key.2 hS2.nil hz2 hS2.self
theorem nar_X2_9 {p : Program} {l : Launch} {e : Env} {R : Room} {s : State} {m : MethodId} {args : Array Value} {below : List Frame} {meth : Method} {c : Code} {H : Heap} {locs : List Loc} {cells slots : Nat} {Q : State → Prop} {cc : ByteArray} {pc : Nat} {ls : Array Slot} {rest : List Value} {y0 : MethodName} {c0 : ByteArray} {n0 : Nat} {r0 : Option FieldType} {dC : Nat → ClassId} {dI : Nat → Nat → Nat} {cB cI cJ cZ cS cO : ClassId} {b : Nat} {cs : CS} {A : Nat → Prop} {Gh : Heap} {cs1 : CS} {i : Nat} {x : Int32} (hx : p.tables.exec = Jvm.exec) (hb : c.code = cc) (hts : ∀ w ∈ wsOf y0 c0 n0 r0, w.before args s = true) (hown : s.vm.findClass RX2 = some m.cls) (hK : va_K (dC, dI) vwCl [(cB, .byte), (cI, .int), (cJ, .long), (cZ, .boolean), (cS, .object "StreamQueries$Source"), (cO, .object "java/lang/Object")] s) (hP : va_P (dC, dI) vwCl (cW cB cI cJ cZ cS cO b cs) H) (hD : va_D A (cW cB cI cJ cZ cS cO b cs)) (hS : va_S A Gh H locs) (hG : va_S A s.heap Gh []) (hA : ∀ q, s.heap.size ≤ q → A q) (hgz : Gh.size = b + kK cs) (hcc : s.heap.size + cells = b + kK cs) (hin : meth.name = "<init>") (hR : cells + 1 ≤ R.cells ∧ slots + x.toNatClampNeg ≤ R.slots) (hv : nwA cs 3 97 i x = some cs1) (hdg : decode cc pc = .ok (.newarray .int, 2)) (hdg2 : decode cc (pc + 2) = .ok (.putfield 9, 3)) (kk : ∀ (H1 : Heap) (locs1 : List Loc), va_P (dC, dI) vwCl (cW cB cI cJ cZ cS cO b cs1) H1 → va_D A (cW cB cI cJ cZ cS cO b cs1) → va_S A s.heap H1 [] → H1.size = b + kK cs1 → va_S A H1 H1 locs1 → W p l e R s m args below meth c H1 locs1 (cells + 1) (slots + x.toNatClampNeg) Q (F0 m (pc + 2 + 3) ls rest)) : W p l e R s m args below meth c H locs cells slots Q (F0 m pc ls (.int x :: .ref (b + i) :: rest)) := by
  refine W_sz (fun hu => ?_)
  have hz : H.size = b + kK cs := by have := hS.1; omega
  obtain ⟨⟨h1, h2, h3⟩, rfl⟩ := nwA_some hv
  have hSs := hG.comp hS
  obtain ⟨k, hk, hg⟩ := cO_at (b := b) (cB := cB) (cI := cI) (cJ := cJ) (cZ := cZ) (cS := cS) (cO := cO) (by decide) h1
  have hkl := (List.getElem?_eq_some_iff.mp hg).1
  refine va_newaK (atype := .int) hx hb (hts _ (List.mem_cons_of_mem _ kn_I)) rfl hdg rfl h2 rfl (by show x.toNatClampNeg * 4 ≤ 536870912; omega) hR.1 hR.2 hz fun H1 cA e1 z1 o1 hAr hNm => ?_
  have hcA : cI = cA := (Option.some.inj (hNm.symm.trans (show s.vm.findClass ("[" ++ FieldType.toString .int) = some cI from (hK.2 1 _ rfl).2))).symm
  subst hcA
  rw [← hz] at o1
  have hkp : ∀ (k : Nat) (y : Nat × va_E), (cW cB cI cJ cZ cS cO b cs)[k]? = some y → H1[y.1]? = H[y.1]? := fun k y hy => o1 y.1 ((hP k y hy).lt)
  have hS1 : va_S A s.heap H1 locs := ⟨Nat.le_trans hSs.1 (by omega), fun y g1 g2 => (o1 y (Nat.lt_of_lt_of_le g1 hSs.1)).trans (hSs.2.1 y g1 g2), hSs.2.2⟩
  have hP1 : va_P (dC, dI) vwCl (cW cB cI cJ cZ cS cO b cs ++ [(b + kK cs, .inl (cI, x.toNatClampNeg, .inl (fun _ => 0)))]) H1 := by
    refine (hP.kept hkp).app (fun k y hy => ?_)
    have hz1 : k < 1 := (List.getElem?_eq_some_iff.mp hy).1
    rw [show k = 0 by omega] at hy
    cases hy
    show H1[b + kK cs]? = some (vp_cell _ _)
    rw [e1]
    rfl
  have hD1 : va_D A (cW cB cI cJ cZ cS cO b cs ++ [(b + kK cs, .inl (cI, x.toNatClampNeg, .inl (fun _ => 0)))]) := hD.push hP hz.symm (hA _ (by rw [← hz]; exact hSs.1))
  refine va_putF (D := (dC, dI)) (ci := 3) (v := .ref (b + kK cs)) (ty := .array .int) (C := RX2) (T := TX2) (N := 5) hx hb hts (fun w h => List.mem_cons_of_mem _ (uG_X2 w h)) tyX2 tyX2_ok nmX2 hown hK hP1 hD1 hS1.self k ((List.getElem?_append_left hkl).trans hg) rfl 1 (by decide) (hts _ (List.mem_cons_of_mem _ kw_633)) (fun _ h9 => h9) rfl hin rfl (by decide +kernel) rfl rfl (by rw [vL_len]; decide) hdg2 (fun H2 l2 q1 q2 q3 => ?_)
  refine W_sz (fun hu2 => ?_)
  have key := cW_arr (b := b) (cB := cB) (cI := cI) (cJ := cJ) (cZ := cZ) (cS := cS) (cO := cO) (X := 3) (f0 := 1) (n := x.toNatClampNeg) (f := fun _ => 0) (g := fun _ => 0) (P := fun _ => True) (by decide) rfl hD hk (by show eA cB cI cJ cZ cS cO b (nA cs 97 i x.toNatClampNeg (fun _ => 0) (fun _ => 0)) 97 i 0 = .inl (cI, x.toNatClampNeg, .inl (fun _ => 0)); simp only [eA]; rw [show kL (nA cs 97 i x.toNatClampNeg (fun _ => 0) (fun _ => 0)) 97 i = x.toNatClampNeg from u2_s, show kA (nA cs 97 i x.toNatClampNeg (fun _ => 0) (fun _ => 0)) 97 i = (fun _ => 0) from u2_s]) q1 q2
  have hS2 : va_S A s.heap H2 l2 := hS1.nil.comp q3
  have hz2 : H2.size = b + (kK cs + 1) := by have := q3.1; omega
  exact kk H2 l2 key.1 key.2 hS2.nil hz2 hS2.self
theorem nar_X5_20 {p : Program} {l : Launch} {e : Env} {R : Room} {s : State} {m : MethodId} {args : Array Value} {below : List Frame} {meth : Method} {c : Code} {H : Heap} {locs : List Loc} {cells slots : Nat} {Q : State → Prop} {cc : ByteArray} {pc : Nat} {ls : Array Slot} {rest : List Value} {y0 : MethodName} {c0 : ByteArray} {n0 : Nat} {r0 : Option FieldType} {dC : Nat → ClassId} {dI : Nat → Nat → Nat} {cB cI cJ cZ cS cO : ClassId} {b : Nat} {cs : CS} {A : Nat → Prop} {Gh : Heap} {cs1 : CS} {i : Nat} {x : Int32} (hx : p.tables.exec = Jvm.exec) (hb : c.code = cc) (hts : ∀ w ∈ wsOf y0 c0 n0 r0, w.before args s = true) (hown : s.vm.findClass RX5 = some m.cls) (hK : va_K (dC, dI) vwCl [(cB, .byte), (cI, .int), (cJ, .long), (cZ, .boolean), (cS, .object "StreamQueries$Source"), (cO, .object "java/lang/Object")] s) (hP : va_P (dC, dI) vwCl (cW cB cI cJ cZ cS cO b cs) H) (hD : va_D A (cW cB cI cJ cZ cS cO b cs)) (hS : va_S A Gh H locs) (hG : va_S A s.heap Gh []) (hA : ∀ q, s.heap.size ≤ q → A q) (hgz : Gh.size = b + kK cs) (hcc : s.heap.size + cells = b + kK cs) (hin : meth.name = "<init>") (hR : cells + 1 ≤ R.cells ∧ slots + x.toNatClampNeg ≤ R.slots) (hv : nwA cs 6 195 i x = some cs1) {i3 : Nat} (hcl : (Cond.classLink RX5 i3 "StreamQueries$Source").before args s = true) (hao : va_AO "StreamQueries$Source" s) (hdg : decode cc pc = .ok (.anewarray i3, 3)) (hdg2 : decode cc (pc + 3) = .ok (.putfield 20, 3)) (kk : ∀ (H1 : Heap) (locs1 : List Loc), va_P (dC, dI) vwCl (cW cB cI cJ cZ cS cO b cs1) H1 → va_D A (cW cB cI cJ cZ cS cO b cs1) → va_S A s.heap H1 [] → H1.size = b + kK cs1 → va_S A H1 H1 locs1 → W p l e R s m args below meth c H1 locs1 (cells + 1) (slots + x.toNatClampNeg) Q (F0 m (pc + 3 + 3) ls rest)) : W p l e R s m args below meth c H locs cells slots Q (F0 m pc ls (.int x :: .ref (b + i) :: rest)) := by
  refine W_sz (fun hu => ?_)
  have hz : H.size = b + kK cs := by have := hS.1; omega
  obtain ⟨⟨h1, h2, h3⟩, rfl⟩ := nwA_some hv
  have hSs := hG.comp hS
  obtain ⟨k, hk, hg⟩ := cO_at (b := b) (cB := cB) (cI := cI) (cJ := cJ) (cZ := cZ) (cS := cS) (cO := cO) (by decide) h1
  have hkl := (List.getElem?_eq_some_iff.mp hg).1
  refine W.anew hx hb hown hcl (va_AO.use hao) rfl hdg rfl h2 (by omega) hR.1 hR.2 fun cA kA comp f1 f2 f3 f4 => ?_
  generalize hH1 : H.push ({ cls := cA, slots := Array.replicate x.toNatClampNeg .null, vm := .none } : Cell) = H1
  have z1 : H1.size = b + kK cs + 1 := by rw [← hH1, Array.size_push, hz]
  have e1 : H1[b + kK cs]? = some (arrV cA x.toNatClampNeg (fun _ => .null)) := by rw [← hz, ← hH1, Array.getElem?_push_size, ← arrV_new]
  have o1 : ∀ q : Nat, q < b + kK cs → H1[q]? = H[q]? := fun q hq => by rw [← hH1, Array.getElem?_push, if_neg (by omega)]
  rw [hz]
  have hcA : cS = cA := by
    obtain ⟨kA2, comp2, g1, g2, g3, g4⟩ := (hK.2 4 _ rfl).2
    exact (Option.some.inj (f1.symm.trans g4)).symm
  subst hcA
  rw [← hz] at o1
  have hkp : ∀ (k : Nat) (y : Nat × va_E), (cW cB cI cJ cZ cS cO b cs)[k]? = some y → H1[y.1]? = H[y.1]? := fun k y hy => o1 y.1 ((hP k y hy).lt)
  have hS1 : va_S A s.heap H1 locs := ⟨Nat.le_trans hSs.1 (by omega), fun y g1 g2 => (o1 y (Nat.lt_of_lt_of_le g1 hSs.1)).trans (hSs.2.1 y g1 g2), hSs.2.2⟩
  have hP1 : va_P (dC, dI) vwCl (cW cB cI cJ cZ cS cO b cs ++ [(b + kK cs, .inl (cS, x.toNatClampNeg, .inr (.inr (.inr (.inr (fun _ => none))))))]) H1 := by
    refine (hP.kept hkp).app (fun k y hy => ?_)
    have hz1 : k < 1 := (List.getElem?_eq_some_iff.mp hy).1
    rw [show k = 0 by omega] at hy
    cases hy
    show H1[b + kK cs]? = some (vp_cell _ _)
    rw [vp_cell_q]
    exact e1
  have hD1 : va_D A (cW cB cI cJ cZ cS cO b cs ++ [(b + kK cs, .inl (cS, x.toNatClampNeg, .inr (.inr (.inr (.inr (fun _ => none))))))]) := hD.push hP hz.symm (hA _ (by rw [← hz]; exact hSs.1))
  refine va_putF (D := (dC, dI)) (ci := 6) (v := .ref (b + kK cs)) (ty := .array (.object "StreamQueries$Source")) (C := RX5) (T := TX5) (N := 15) hx hb hts (fun w h => List.mem_cons_of_mem _ (uG_X5 w h)) tyX5 tyX5_ok nmX5 hown hK hP1 hD1 hS1.self k ((List.getElem?_append_left hkl).trans hg) rfl 3 (by decide) (hts _ (List.mem_cons_of_mem _ kw_665)) (fun _ h9 => h9) rfl hin rfl (by decide +kernel) rfl rfl (by rw [vL_len]; decide) hdg2 (fun H2 l2 q1 q2 q3 => ?_)
  refine W_sz (fun hu2 => ?_)
  have key := cW_arr (b := b) (cB := cB) (cI := cI) (cJ := cJ) (cZ := cZ) (cS := cS) (cO := cO) (X := 6) (f0 := 3) (n := x.toNatClampNeg) (f := fun _ => 0) (g := fun _ => 0) (P := fun _ => True) (by decide) rfl hD hk (by show eA cB cI cJ cZ cS cO b (nA cs 195 i x.toNatClampNeg (fun _ => 0) (fun _ => 0)) 195 i 3 = .inl (cS, x.toNatClampNeg, .inr (.inr (.inr (.inr (fun _ => none))))); simp only [eA]; rw [show kL (nA cs 195 i x.toNatClampNeg (fun _ => 0) (fun _ => 0)) 195 i = x.toNatClampNeg from u2_s, show kQ (nA cs 195 i x.toNatClampNeg (fun _ => 0) (fun _ => 0)) 195 i = (fun _ => none) from u2_s]; rfl) q1 q2
  have hS2 : va_S A s.heap H2 l2 := hS1.nil.comp q3
  have hz2 : H2.size = b + (kK cs + 1) := by have := q3.1; omega
  exact kk H2 l2 key.1 key.2 hS2.nil hz2 hS2.self
theorem nar_X5_34 {p : Program} {l : Launch} {e : Env} {R : Room} {s : State} {m : MethodId} {args : Array Value} {below : List Frame} {meth : Method} {c : Code} {H : Heap} {locs : List Loc} {cells slots : Nat} {Q : State → Prop} {cc : ByteArray} {pc : Nat} {ls : Array Slot} {rest : List Value} {y0 : MethodName} {c0 : ByteArray} {n0 : Nat} {r0 : Option FieldType} {dC : Nat → ClassId} {dI : Nat → Nat → Nat} {cB cI cJ cZ cS cO : ClassId} {b : Nat} {cs : CS} {A : Nat → Prop} {Gh : Heap} {cs1 : CS} {i : Nat} {x : Int32} (hx : p.tables.exec = Jvm.exec) (hb : c.code = cc) (hts : ∀ w ∈ wsOf y0 c0 n0 r0, w.before args s = true) (hown : s.vm.findClass RX5 = some m.cls) (hK : va_K (dC, dI) vwCl [(cB, .byte), (cI, .int), (cJ, .long), (cZ, .boolean), (cS, .object "StreamQueries$Source"), (cO, .object "java/lang/Object")] s) (hP : va_P (dC, dI) vwCl (cW cB cI cJ cZ cS cO b cs) H) (hD : va_D A (cW cB cI cJ cZ cS cO b cs)) (hS : va_S A Gh H locs) (hG : va_S A s.heap Gh []) (hA : ∀ q, s.heap.size ≤ q → A q) (hgz : Gh.size = b + kK cs) (hcc : s.heap.size + cells = b + kK cs) (hin : meth.name = "<init>") (hR : cells + 1 ≤ R.cells ∧ slots + x.toNatClampNeg ≤ R.slots) (hv : nwA cs 6 202 i x = some cs1) (hdg : decode cc pc = .ok (.newarray .int, 2)) (hdg2 : decode cc (pc + 2) = .ok (.putfield 34, 3)) (kk : ∀ (H1 : Heap) (locs1 : List Loc), va_P (dC, dI) vwCl (cW cB cI cJ cZ cS cO b cs1) H1 → va_D A (cW cB cI cJ cZ cS cO b cs1) → va_S A s.heap H1 [] → H1.size = b + kK cs1 → va_S A H1 H1 locs1 → W p l e R s m args below meth c H1 locs1 (cells + 1) (slots + x.toNatClampNeg) Q (F0 m (pc + 2 + 3) ls rest)) : W p l e R s m args below meth c H locs cells slots Q (F0 m pc ls (.int x :: .ref (b + i) :: rest)) := by
  refine W_sz (fun hu => ?_)
  have hz : H.size = b + kK cs := by have := hS.1; omega
  obtain ⟨⟨h1, h2, h3⟩, rfl⟩ := nwA_some hv
  have hSs := hG.comp hS
  obtain ⟨k, hk, hg⟩ := cO_at (b := b) (cB := cB) (cI := cI) (cJ := cJ) (cZ := cZ) (cS := cS) (cO := cO) (by decide) h1
  have hkl := (List.getElem?_eq_some_iff.mp hg).1
  refine va_newaK (atype := .int) hx hb (hts _ (List.mem_cons_of_mem _ kn_I)) rfl hdg rfl h2 rfl (by show x.toNatClampNeg * 4 ≤ 536870912; omega) hR.1 hR.2 hz fun H1 cA e1 z1 o1 hAr hNm => ?_
  have hcA : cI = cA := (Option.some.inj (hNm.symm.trans (show s.vm.findClass ("[" ++ FieldType.toString .int) = some cI from (hK.2 1 _ rfl).2))).symm
  subst hcA
  rw [← hz] at o1
  have hkp : ∀ (k : Nat) (y : Nat × va_E), (cW cB cI cJ cZ cS cO b cs)[k]? = some y → H1[y.1]? = H[y.1]? := fun k y hy => o1 y.1 ((hP k y hy).lt)
  have hS1 : va_S A s.heap H1 locs := ⟨Nat.le_trans hSs.1 (by omega), fun y g1 g2 => (o1 y (Nat.lt_of_lt_of_le g1 hSs.1)).trans (hSs.2.1 y g1 g2), hSs.2.2⟩
  have hP1 : va_P (dC, dI) vwCl (cW cB cI cJ cZ cS cO b cs ++ [(b + kK cs, .inl (cI, x.toNatClampNeg, .inl (fun _ => 0)))]) H1 := by
    refine (hP.kept hkp).app (fun k y hy => ?_)
    have hz1 : k < 1 := (List.getElem?_eq_some_iff.mp hy).1
    rw [show k = 0 by omega] at hy
    cases hy
    show H1[b + kK cs]? = some (vp_cell _ _)
    rw [e1]
    rfl
  have hD1 : va_D A (cW cB cI cJ cZ cS cO b cs ++ [(b + kK cs, .inl (cI, x.toNatClampNeg, .inl (fun _ => 0)))]) := hD.push hP hz.symm (hA _ (by rw [← hz]; exact hSs.1))
  refine va_putF (D := (dC, dI)) (ci := 6) (v := .ref (b + kK cs)) (ty := .array .int) (C := RX5) (T := TX5) (N := 15) hx hb hts (fun w h => List.mem_cons_of_mem _ (uG_X5 w h)) tyX5 tyX5_ok nmX5 hown hK hP1 hD1 hS1.self k ((List.getElem?_append_left hkl).trans hg) rfl 10 (by decide) (hts _ (List.mem_cons_of_mem _ kw_690)) (fun _ h9 => h9) rfl hin rfl (by decide +kernel) rfl rfl (by rw [vL_len]; decide) hdg2 (fun H2 l2 q1 q2 q3 => ?_)
  refine W_sz (fun hu2 => ?_)
  have key := cW_arr (b := b) (cB := cB) (cI := cI) (cJ := cJ) (cZ := cZ) (cS := cS) (cO := cO) (X := 6) (f0 := 10) (n := x.toNatClampNeg) (f := fun _ => 0) (g := fun _ => 0) (P := fun _ => True) (by decide) rfl hD hk (by show eA cB cI cJ cZ cS cO b (nA cs 202 i x.toNatClampNeg (fun _ => 0) (fun _ => 0)) 202 i 0 = .inl (cI, x.toNatClampNeg, .inl (fun _ => 0)); simp only [eA]; rw [show kL (nA cs 202 i x.toNatClampNeg (fun _ => 0) (fun _ => 0)) 202 i = x.toNatClampNeg from u2_s, show kA (nA cs 202 i x.toNatClampNeg (fun _ => 0) (fun _ => 0)) 202 i = (fun _ => 0) from u2_s]) q1 q2
  have hS2 : va_S A s.heap H2 l2 := hS1.nil.comp q3
  have hz2 : H2.size = b + (kK cs + 1) := by have := q3.1; omega
  exact kk H2 l2 key.1 key.2 hS2.nil hz2 hS2.self
theorem nar_X7_19 {p : Program} {l : Launch} {e : Env} {R : Room} {s : State} {m : MethodId} {args : Array Value} {below : List Frame} {meth : Method} {c : Code} {H : Heap} {locs : List Loc} {cells slots : Nat} {Q : State → Prop} {cc : ByteArray} {pc : Nat} {ls : Array Slot} {rest : List Value} {y0 : MethodName} {c0 : ByteArray} {n0 : Nat} {r0 : Option FieldType} {dC : Nat → ClassId} {dI : Nat → Nat → Nat} {cB cI cJ cZ cS cO : ClassId} {b : Nat} {cs : CS} {A : Nat → Prop} {Gh : Heap} {cs1 : CS} {i : Nat} {x : Int32} (hx : p.tables.exec = Jvm.exec) (hb : c.code = cc) (hts : ∀ w ∈ wsOf y0 c0 n0 r0, w.before args s = true) (hown : s.vm.findClass RX7 = some m.cls) (hK : va_K (dC, dI) vwCl [(cB, .byte), (cI, .int), (cJ, .long), (cZ, .boolean), (cS, .object "StreamQueries$Source"), (cO, .object "java/lang/Object")] s) (hP : va_P (dC, dI) vwCl (cW cB cI cJ cZ cS cO b cs) H) (hD : va_D A (cW cB cI cJ cZ cS cO b cs)) (hS : va_S A Gh H locs) (hG : va_S A s.heap Gh []) (hA : ∀ q, s.heap.size ≤ q → A q) (hgz : Gh.size = b + kK cs) (hcc : s.heap.size + cells = b + kK cs) (hin : meth.name = "<init>") (hR : cells + 1 ≤ R.cells ∧ slots + x.toNatClampNeg ≤ R.slots) (hv : nwA cs 8 258 i x = some cs1) (hdg : decode cc pc = .ok (.newarray .int, 2)) (hdg2 : decode cc (pc + 2) = .ok (.putfield 19, 3)) (kk : ∀ (H1 : Heap) (locs1 : List Loc), va_P (dC, dI) vwCl (cW cB cI cJ cZ cS cO b cs1) H1 → va_D A (cW cB cI cJ cZ cS cO b cs1) → va_S A s.heap H1 [] → H1.size = b + kK cs1 → va_S A H1 H1 locs1 → W p l e R s m args below meth c H1 locs1 (cells + 1) (slots + x.toNatClampNeg) Q (F0 m (pc + 2 + 3) ls rest)) : W p l e R s m args below meth c H locs cells slots Q (F0 m pc ls (.int x :: .ref (b + i) :: rest)) := by
  refine W_sz (fun hu => ?_)
  have hz : H.size = b + kK cs := by have := hS.1; omega
  obtain ⟨⟨h1, h2, h3⟩, rfl⟩ := nwA_some hv
  have hSs := hG.comp hS
  obtain ⟨k, hk, hg⟩ := cO_at (b := b) (cB := cB) (cI := cI) (cJ := cJ) (cZ := cZ) (cS := cS) (cO := cO) (by decide) h1
  have hkl := (List.getElem?_eq_some_iff.mp hg).1
  refine va_newaK (atype := .int) hx hb (hts _ (List.mem_cons_of_mem _ kn_I)) rfl hdg rfl h2 rfl (by show x.toNatClampNeg * 4 ≤ 536870912; omega) hR.1 hR.2 hz fun H1 cA e1 z1 o1 hAr hNm => ?_
  have hcA : cI = cA := (Option.some.inj (hNm.symm.trans (show s.vm.findClass ("[" ++ FieldType.toString .int) = some cI from (hK.2 1 _ rfl).2))).symm
  subst hcA
  rw [← hz] at o1
  have hkp : ∀ (k : Nat) (y : Nat × va_E), (cW cB cI cJ cZ cS cO b cs)[k]? = some y → H1[y.1]? = H[y.1]? := fun k y hy => o1 y.1 ((hP k y hy).lt)
  have hS1 : va_S A s.heap H1 locs := ⟨Nat.le_trans hSs.1 (by omega), fun y g1 g2 => (o1 y (Nat.lt_of_lt_of_le g1 hSs.1)).trans (hSs.2.1 y g1 g2), hSs.2.2⟩
  have hP1 : va_P (dC, dI) vwCl (cW cB cI cJ cZ cS cO b cs ++ [(b + kK cs, .inl (cI, x.toNatClampNeg, .inl (fun _ => 0)))]) H1 := by
    refine (hP.kept hkp).app (fun k y hy => ?_)
    have hz1 : k < 1 := (List.getElem?_eq_some_iff.mp hy).1
    rw [show k = 0 by omega] at hy
    cases hy
    show H1[b + kK cs]? = some (vp_cell _ _)
    rw [e1]
    rfl
  have hD1 : va_D A (cW cB cI cJ cZ cS cO b cs ++ [(b + kK cs, .inl (cI, x.toNatClampNeg, .inl (fun _ => 0)))]) := hD.push hP hz.symm (hA _ (by rw [← hz]; exact hSs.1))
  refine va_putF (D := (dC, dI)) (ci := 8) (v := .ref (b + kK cs)) (ty := .array .int) (C := RX7) (T := TX7) (N := 9) hx hb hts (fun w h => List.mem_cons_of_mem _ (uG_X7 w h)) tyX7 tyX7_ok nmX7 hown hK hP1 hD1 hS1.self k ((List.getElem?_append_left hkl).trans hg) rfl 2 (by decide) (hts _ (List.mem_cons_of_mem _ kw_227)) (fun _ h9 => h9) rfl hin rfl (by decide +kernel) rfl rfl (by rw [vL_len]; decide) hdg2 (fun H2 l2 q1 q2 q3 => ?_)
  refine W_sz (fun hu2 => ?_)
  have key := cW_arr (b := b) (cB := cB) (cI := cI) (cJ := cJ) (cZ := cZ) (cS := cS) (cO := cO) (X := 8) (f0 := 2) (n := x.toNatClampNeg) (f := fun _ => 0) (g := fun _ => 0) (P := fun _ => True) (by decide) rfl hD hk (by show eA cB cI cJ cZ cS cO b (nA cs 258 i x.toNatClampNeg (fun _ => 0) (fun _ => 0)) 258 i 0 = .inl (cI, x.toNatClampNeg, .inl (fun _ => 0)); simp only [eA]; rw [show kL (nA cs 258 i x.toNatClampNeg (fun _ => 0) (fun _ => 0)) 258 i = x.toNatClampNeg from u2_s, show kA (nA cs 258 i x.toNatClampNeg (fun _ => 0) (fun _ => 0)) 258 i = (fun _ => 0) from u2_s]) q1 q2
  have hS2 : va_S A s.heap H2 l2 := hS1.nil.comp q3
  have hz2 : H2.size = b + (kK cs + 1) := by have := q3.1; omega
  exact kk H2 l2 key.1 key.2 hS2.nil hz2 hS2.self
theorem nar_X7_23 {p : Program} {l : Launch} {e : Env} {R : Room} {s : State} {m : MethodId} {args : Array Value} {below : List Frame} {meth : Method} {c : Code} {H : Heap} {locs : List Loc} {cells slots : Nat} {Q : State → Prop} {cc : ByteArray} {pc : Nat} {ls : Array Slot} {rest : List Value} {y0 : MethodName} {c0 : ByteArray} {n0 : Nat} {r0 : Option FieldType} {dC : Nat → ClassId} {dI : Nat → Nat → Nat} {cB cI cJ cZ cS cO : ClassId} {b : Nat} {cs : CS} {A : Nat → Prop} {Gh : Heap} {cs1 : CS} {i : Nat} {x : Int32} (hx : p.tables.exec = Jvm.exec) (hb : c.code = cc) (hts : ∀ w ∈ wsOf y0 c0 n0 r0, w.before args s = true) (hown : s.vm.findClass RX7 = some m.cls) (hK : va_K (dC, dI) vwCl [(cB, .byte), (cI, .int), (cJ, .long), (cZ, .boolean), (cS, .object "StreamQueries$Source"), (cO, .object "java/lang/Object")] s) (hP : va_P (dC, dI) vwCl (cW cB cI cJ cZ cS cO b cs) H) (hD : va_D A (cW cB cI cJ cZ cS cO b cs)) (hS : va_S A Gh H locs) (hG : va_S A s.heap Gh []) (hA : ∀ q, s.heap.size ≤ q → A q) (hgz : Gh.size = b + kK cs) (hcc : s.heap.size + cells = b + kK cs) (hin : meth.name = "<init>") (hR : cells + 1 ≤ R.cells ∧ slots + x.toNatClampNeg ≤ R.slots) (hv : nwA cs 8 259 i x = some cs1) (hdg : decode cc pc = .ok (.newarray .long, 2)) (hdg2 : decode cc (pc + 2) = .ok (.putfield 23, 3)) (kk : ∀ (H1 : Heap) (locs1 : List Loc), va_P (dC, dI) vwCl (cW cB cI cJ cZ cS cO b cs1) H1 → va_D A (cW cB cI cJ cZ cS cO b cs1) → va_S A s.heap H1 [] → H1.size = b + kK cs1 → va_S A H1 H1 locs1 → W p l e R s m args below meth c H1 locs1 (cells + 1) (slots + x.toNatClampNeg) Q (F0 m (pc + 2 + 3) ls rest)) : W p l e R s m args below meth c H locs cells slots Q (F0 m pc ls (.int x :: .ref (b + i) :: rest)) := by
  refine W_sz (fun hu => ?_)
  have hz : H.size = b + kK cs := by have := hS.1; omega
  obtain ⟨⟨h1, h2, h3⟩, rfl⟩ := nwA_some hv
  have hSs := hG.comp hS
  obtain ⟨k, hk, hg⟩ := cO_at (b := b) (cB := cB) (cI := cI) (cJ := cJ) (cZ := cZ) (cS := cS) (cO := cO) (by decide) h1
  have hkl := (List.getElem?_eq_some_iff.mp hg).1
  refine va_newaK (atype := .long) hx hb (hts _ (List.mem_cons_of_mem _ kn_J)) rfl hdg rfl h2 rfl (by show x.toNatClampNeg * 8 ≤ 536870912; omega) hR.1 hR.2 hz fun H1 cA e1 z1 o1 hAr hNm => ?_
  have hcA : cJ = cA := (Option.some.inj (hNm.symm.trans (show s.vm.findClass ("[" ++ FieldType.toString .long) = some cJ from (hK.2 2 _ rfl).2))).symm
  subst hcA
  rw [← hz] at o1
  have hkp : ∀ (k : Nat) (y : Nat × va_E), (cW cB cI cJ cZ cS cO b cs)[k]? = some y → H1[y.1]? = H[y.1]? := fun k y hy => o1 y.1 ((hP k y hy).lt)
  have hS1 : va_S A s.heap H1 locs := ⟨Nat.le_trans hSs.1 (by omega), fun y g1 g2 => (o1 y (Nat.lt_of_lt_of_le g1 hSs.1)).trans (hSs.2.1 y g1 g2), hSs.2.2⟩
  have hP1 : va_P (dC, dI) vwCl (cW cB cI cJ cZ cS cO b cs ++ [(b + kK cs, .inl (cJ, x.toNatClampNeg, .inr (.inl (fun _ => 0))))]) H1 := by
    refine (hP.kept hkp).app (fun k y hy => ?_)
    have hz1 : k < 1 := (List.getElem?_eq_some_iff.mp hy).1
    rw [show k = 0 by omega] at hy
    cases hy
    show H1[b + kK cs]? = some (vp_cell _ _)
    rw [e1]
    rfl
  have hD1 : va_D A (cW cB cI cJ cZ cS cO b cs ++ [(b + kK cs, .inl (cJ, x.toNatClampNeg, .inr (.inl (fun _ => 0))))]) := hD.push hP hz.symm (hA _ (by rw [← hz]; exact hSs.1))
  refine va_putF (D := (dC, dI)) (ci := 8) (v := .ref (b + kK cs)) (ty := .array .long) (C := RX7) (T := TX7) (N := 9) hx hb hts (fun w h => List.mem_cons_of_mem _ (uG_X7 w h)) tyX7 tyX7_ok nmX7 hown hK hP1 hD1 hS1.self k ((List.getElem?_append_left hkl).trans hg) rfl 3 (by decide) (hts _ (List.mem_cons_of_mem _ kw_228)) (fun _ h9 => h9) rfl hin rfl (by decide +kernel) rfl rfl (by rw [vL_len]; decide) hdg2 (fun H2 l2 q1 q2 q3 => ?_)
  refine W_sz (fun hu2 => ?_)
  have key := cW_arr (b := b) (cB := cB) (cI := cI) (cJ := cJ) (cZ := cZ) (cS := cS) (cO := cO) (X := 8) (f0 := 3) (n := x.toNatClampNeg) (f := fun _ => 0) (g := fun _ => 0) (P := fun _ => True) (by decide) rfl hD hk (by show eA cB cI cJ cZ cS cO b (nA cs 259 i x.toNatClampNeg (fun _ => 0) (fun _ => 0)) 259 i 2 = .inl (cJ, x.toNatClampNeg, .inr (.inl (fun _ => 0))); simp only [eA]; rw [show kL (nA cs 259 i x.toNatClampNeg (fun _ => 0) (fun _ => 0)) 259 i = x.toNatClampNeg from u2_s, show kB (nA cs 259 i x.toNatClampNeg (fun _ => 0) (fun _ => 0)) 259 i = (fun _ => 0) from u2_s]) q1 q2
  have hS2 : va_S A s.heap H2 l2 := hS1.nil.comp q3
  have hz2 : H2.size = b + (kK cs + 1) := by have := q3.1; omega
  exact kk H2 l2 key.1 key.2 hS2.nil hz2 hS2.self
theorem nar_X7_27 {p : Program} {l : Launch} {e : Env} {R : Room} {s : State} {m : MethodId} {args : Array Value} {below : List Frame} {meth : Method} {c : Code} {H : Heap} {locs : List Loc} {cells slots : Nat} {Q : State → Prop} {cc : ByteArray} {pc : Nat} {ls : Array Slot} {rest : List Value} {y0 : MethodName} {c0 : ByteArray} {n0 : Nat} {r0 : Option FieldType} {dC : Nat → ClassId} {dI : Nat → Nat → Nat} {cB cI cJ cZ cS cO : ClassId} {b : Nat} {cs : CS} {A : Nat → Prop} {Gh : Heap} {cs1 : CS} {i : Nat} {x : Int32} (hx : p.tables.exec = Jvm.exec) (hb : c.code = cc) (hts : ∀ w ∈ wsOf y0 c0 n0 r0, w.before args s = true) (hown : s.vm.findClass RX7 = some m.cls) (hK : va_K (dC, dI) vwCl [(cB, .byte), (cI, .int), (cJ, .long), (cZ, .boolean), (cS, .object "StreamQueries$Source"), (cO, .object "java/lang/Object")] s) (hP : va_P (dC, dI) vwCl (cW cB cI cJ cZ cS cO b cs) H) (hD : va_D A (cW cB cI cJ cZ cS cO b cs)) (hS : va_S A Gh H locs) (hG : va_S A s.heap Gh []) (hA : ∀ q, s.heap.size ≤ q → A q) (hgz : Gh.size = b + kK cs) (hcc : s.heap.size + cells = b + kK cs) (hin : meth.name = "<init>") (hR : cells + 1 ≤ R.cells ∧ slots + x.toNatClampNeg ≤ R.slots) (hv : nwA cs 8 260 i x = some cs1) (hdg : decode cc pc = .ok (.newarray .byte, 2)) (hdg2 : decode cc (pc + 2) = .ok (.putfield 27, 3)) (kk : ∀ (H1 : Heap) (locs1 : List Loc), va_P (dC, dI) vwCl (cW cB cI cJ cZ cS cO b cs1) H1 → va_D A (cW cB cI cJ cZ cS cO b cs1) → va_S A s.heap H1 [] → H1.size = b + kK cs1 → va_S A H1 H1 locs1 → W p l e R s m args below meth c H1 locs1 (cells + 1) (slots + x.toNatClampNeg) Q (F0 m (pc + 2 + 3) ls rest)) : W p l e R s m args below meth c H locs cells slots Q (F0 m pc ls (.int x :: .ref (b + i) :: rest)) := by
  refine W_sz (fun hu => ?_)
  have hz : H.size = b + kK cs := by have := hS.1; omega
  obtain ⟨⟨h1, h2, h3⟩, rfl⟩ := nwA_some hv
  have hSs := hG.comp hS
  obtain ⟨k, hk, hg⟩ := cO_at (b := b) (cB := cB) (cI := cI) (cJ := cJ) (cZ := cZ) (cS := cS) (cO := cO) (by decide) h1
  have hkl := (List.getElem?_eq_some_iff.mp hg).1
  refine va_newaK (atype := .byte) hx hb (hts _ (List.mem_cons_of_mem _ kn_B)) rfl hdg rfl h2 rfl (by show x.toNatClampNeg * 1 ≤ 536870912; omega) hR.1 hR.2 hz fun H1 cA e1 z1 o1 hAr hNm => ?_
  have hcA : cB = cA := (Option.some.inj (hNm.symm.trans (show s.vm.findClass ("[" ++ FieldType.toString .byte) = some cB from (hK.2 0 _ rfl).2))).symm
  subst hcA
  rw [← hz] at o1
  have hkp : ∀ (k : Nat) (y : Nat × va_E), (cW cB cI cJ cZ cS cO b cs)[k]? = some y → H1[y.1]? = H[y.1]? := fun k y hy => o1 y.1 ((hP k y hy).lt)
  have hS1 : va_S A s.heap H1 locs := ⟨Nat.le_trans hSs.1 (by omega), fun y g1 g2 => (o1 y (Nat.lt_of_lt_of_le g1 hSs.1)).trans (hSs.2.1 y g1 g2), hSs.2.2⟩
  have hP1 : va_P (dC, dI) vwCl (cW cB cI cJ cZ cS cO b cs ++ [(b + kK cs, .inl (cB, x.toNatClampNeg, .inl (fun _ => 0)))]) H1 := by
    refine (hP.kept hkp).app (fun k y hy => ?_)
    have hz1 : k < 1 := (List.getElem?_eq_some_iff.mp hy).1
    rw [show k = 0 by omega] at hy
    cases hy
    show H1[b + kK cs]? = some (vp_cell _ _)
    rw [e1]
    rfl
  have hD1 : va_D A (cW cB cI cJ cZ cS cO b cs ++ [(b + kK cs, .inl (cB, x.toNatClampNeg, .inl (fun _ => 0)))]) := hD.push hP hz.symm (hA _ (by rw [← hz]; exact hSs.1))
  refine va_putF (D := (dC, dI)) (ci := 8) (v := .ref (b + kK cs)) (ty := .array .byte) (C := RX7) (T := TX7) (N := 9) hx hb hts (fun w h => List.mem_cons_of_mem _ (uG_X7 w h)) tyX7 tyX7_ok nmX7 hown hK hP1 hD1 hS1.self k ((List.getElem?_append_left hkl).trans hg) rfl 4 (by decide) (hts _ (List.mem_cons_of_mem _ kw_229)) (fun _ h9 => h9) rfl hin rfl (by decide +kernel) rfl rfl (by rw [vL_len]; decide) hdg2 (fun H2 l2 q1 q2 q3 => ?_)
  refine W_sz (fun hu2 => ?_)
  have key := cW_arr (b := b) (cB := cB) (cI := cI) (cJ := cJ) (cZ := cZ) (cS := cS) (cO := cO) (X := 8) (f0 := 4) (n := x.toNatClampNeg) (f := fun _ => 0) (g := fun _ => 0) (P := fun _ => True) (by decide) rfl hD hk (by show eA cB cI cJ cZ cS cO b (nA cs 260 i x.toNatClampNeg (fun _ => 0) (fun _ => 0)) 260 i 1 = .inl (cB, x.toNatClampNeg, .inl (fun _ => 0)); simp only [eA]; rw [show kL (nA cs 260 i x.toNatClampNeg (fun _ => 0) (fun _ => 0)) 260 i = x.toNatClampNeg from u2_s, show kA (nA cs 260 i x.toNatClampNeg (fun _ => 0) (fun _ => 0)) 260 i = (fun _ => 0) from u2_s]) q1 q2
  have hS2 : va_S A s.heap H2 l2 := hS1.nil.comp q3
  have hz2 : H2.size = b + (kK cs + 1) := by have := q3.1; omega
  exact kk H2 l2 key.1 key.2 hS2.nil hz2 hS2.self
theorem nar_X7_31 {p : Program} {l : Launch} {e : Env} {R : Room} {s : State} {m : MethodId} {args : Array Value} {below : List Frame} {meth : Method} {c : Code} {H : Heap} {locs : List Loc} {cells slots : Nat} {Q : State → Prop} {cc : ByteArray} {pc : Nat} {ls : Array Slot} {rest : List Value} {y0 : MethodName} {c0 : ByteArray} {n0 : Nat} {r0 : Option FieldType} {dC : Nat → ClassId} {dI : Nat → Nat → Nat} {cB cI cJ cZ cS cO : ClassId} {b : Nat} {cs : CS} {A : Nat → Prop} {Gh : Heap} {cs1 : CS} {i : Nat} {x : Int32} (hx : p.tables.exec = Jvm.exec) (hb : c.code = cc) (hts : ∀ w ∈ wsOf y0 c0 n0 r0, w.before args s = true) (hown : s.vm.findClass RX7 = some m.cls) (hK : va_K (dC, dI) vwCl [(cB, .byte), (cI, .int), (cJ, .long), (cZ, .boolean), (cS, .object "StreamQueries$Source"), (cO, .object "java/lang/Object")] s) (hP : va_P (dC, dI) vwCl (cW cB cI cJ cZ cS cO b cs) H) (hD : va_D A (cW cB cI cJ cZ cS cO b cs)) (hS : va_S A Gh H locs) (hG : va_S A s.heap Gh []) (hA : ∀ q, s.heap.size ≤ q → A q) (hgz : Gh.size = b + kK cs) (hcc : s.heap.size + cells = b + kK cs) (hin : meth.name = "<init>") (hR : cells + 1 ≤ R.cells ∧ slots + x.toNatClampNeg ≤ R.slots) (hv : nwA cs 8 261 i x = some cs1) (hdg : decode cc pc = .ok (.newarray .byte, 2)) (hdg2 : decode cc (pc + 2) = .ok (.putfield 31, 3)) (kk : ∀ (H1 : Heap) (locs1 : List Loc), va_P (dC, dI) vwCl (cW cB cI cJ cZ cS cO b cs1) H1 → va_D A (cW cB cI cJ cZ cS cO b cs1) → va_S A s.heap H1 [] → H1.size = b + kK cs1 → va_S A H1 H1 locs1 → W p l e R s m args below meth c H1 locs1 (cells + 1) (slots + x.toNatClampNeg) Q (F0 m (pc + 2 + 3) ls rest)) : W p l e R s m args below meth c H locs cells slots Q (F0 m pc ls (.int x :: .ref (b + i) :: rest)) := by
  refine W_sz (fun hu => ?_)
  have hz : H.size = b + kK cs := by have := hS.1; omega
  obtain ⟨⟨h1, h2, h3⟩, rfl⟩ := nwA_some hv
  have hSs := hG.comp hS
  obtain ⟨k, hk, hg⟩ := cO_at (b := b) (cB := cB) (cI := cI) (cJ := cJ) (cZ := cZ) (cS := cS) (cO := cO) (by decide) h1
  have hkl := (List.getElem?_eq_some_iff.mp hg).1
  refine va_newaK (atype := .byte) hx hb (hts _ (List.mem_cons_of_mem _ kn_B)) rfl hdg rfl h2 rfl (by show x.toNatClampNeg * 1 ≤ 536870912; omega) hR.1 hR.2 hz fun H1 cA e1 z1 o1 hAr hNm => ?_
  have hcA : cB = cA := (Option.some.inj (hNm.symm.trans (show s.vm.findClass ("[" ++ FieldType.toString .byte) = some cB from (hK.2 0 _ rfl).2))).symm
  subst hcA
  rw [← hz] at o1
  have hkp : ∀ (k : Nat) (y : Nat × va_E), (cW cB cI cJ cZ cS cO b cs)[k]? = some y → H1[y.1]? = H[y.1]? := fun k y hy => o1 y.1 ((hP k y hy).lt)
  have hS1 : va_S A s.heap H1 locs := ⟨Nat.le_trans hSs.1 (by omega), fun y g1 g2 => (o1 y (Nat.lt_of_lt_of_le g1 hSs.1)).trans (hSs.2.1 y g1 g2), hSs.2.2⟩
  have hP1 : va_P (dC, dI) vwCl (cW cB cI cJ cZ cS cO b cs ++ [(b + kK cs, .inl (cB, x.toNatClampNeg, .inl (fun _ => 0)))]) H1 := by
    refine (hP.kept hkp).app (fun k y hy => ?_)
    have hz1 : k < 1 := (List.getElem?_eq_some_iff.mp hy).1
    rw [show k = 0 by omega] at hy
    cases hy
    show H1[b + kK cs]? = some (vp_cell _ _)
    rw [e1]
    rfl
  have hD1 : va_D A (cW cB cI cJ cZ cS cO b cs ++ [(b + kK cs, .inl (cB, x.toNatClampNeg, .inl (fun _ => 0)))]) := hD.push hP hz.symm (hA _ (by rw [← hz]; exact hSs.1))
  refine va_putF (D := (dC, dI)) (ci := 8) (v := .ref (b + kK cs)) (ty := .array .byte) (C := RX7) (T := TX7) (N := 9) hx hb hts (fun w h => List.mem_cons_of_mem _ (uG_X7 w h)) tyX7 tyX7_ok nmX7 hown hK hP1 hD1 hS1.self k ((List.getElem?_append_left hkl).trans hg) rfl 5 (by decide) (hts _ (List.mem_cons_of_mem _ kw_230)) (fun _ h9 => h9) rfl hin rfl (by decide +kernel) rfl rfl (by rw [vL_len]; decide) hdg2 (fun H2 l2 q1 q2 q3 => ?_)
  refine W_sz (fun hu2 => ?_)
  have key := cW_arr (b := b) (cB := cB) (cI := cI) (cJ := cJ) (cZ := cZ) (cS := cS) (cO := cO) (X := 8) (f0 := 5) (n := x.toNatClampNeg) (f := fun _ => 0) (g := fun _ => 0) (P := fun _ => True) (by decide) rfl hD hk (by show eA cB cI cJ cZ cS cO b (nA cs 261 i x.toNatClampNeg (fun _ => 0) (fun _ => 0)) 261 i 1 = .inl (cB, x.toNatClampNeg, .inl (fun _ => 0)); simp only [eA]; rw [show kL (nA cs 261 i x.toNatClampNeg (fun _ => 0) (fun _ => 0)) 261 i = x.toNatClampNeg from u2_s, show kA (nA cs 261 i x.toNatClampNeg (fun _ => 0) (fun _ => 0)) 261 i = (fun _ => 0) from u2_s]) q1 q2
  have hS2 : va_S A s.heap H2 l2 := hS1.nil.comp q3
  have hz2 : H2.size = b + (kK cs + 1) := by have := q3.1; omega
  exact kk H2 l2 key.1 key.2 hS2.nil hz2 hS2.self
theorem nar_X7_34 {p : Program} {l : Launch} {e : Env} {R : Room} {s : State} {m : MethodId} {args : Array Value} {below : List Frame} {meth : Method} {c : Code} {H : Heap} {locs : List Loc} {cells slots : Nat} {Q : State → Prop} {cc : ByteArray} {pc : Nat} {ls : Array Slot} {rest : List Value} {y0 : MethodName} {c0 : ByteArray} {n0 : Nat} {r0 : Option FieldType} {dC : Nat → ClassId} {dI : Nat → Nat → Nat} {cB cI cJ cZ cS cO : ClassId} {b : Nat} {cs : CS} {A : Nat → Prop} {Gh : Heap} {cs1 : CS} {i : Nat} {x : Int32} (hx : p.tables.exec = Jvm.exec) (hb : c.code = cc) (hts : ∀ w ∈ wsOf y0 c0 n0 r0, w.before args s = true) (hown : s.vm.findClass RX7 = some m.cls) (hK : va_K (dC, dI) vwCl [(cB, .byte), (cI, .int), (cJ, .long), (cZ, .boolean), (cS, .object "StreamQueries$Source"), (cO, .object "java/lang/Object")] s) (hP : va_P (dC, dI) vwCl (cW cB cI cJ cZ cS cO b cs) H) (hD : va_D A (cW cB cI cJ cZ cS cO b cs)) (hS : va_S A Gh H locs) (hG : va_S A s.heap Gh []) (hA : ∀ q, s.heap.size ≤ q → A q) (hgz : Gh.size = b + kK cs) (hcc : s.heap.size + cells = b + kK cs) (hin : meth.name = "<init>") (hR : cells + 1 ≤ R.cells ∧ slots + x.toNatClampNeg ≤ R.slots) (hv : nwA cs 8 262 i x = some cs1) (hdg : decode cc pc = .ok (.newarray .long, 2)) (hdg2 : decode cc (pc + 2) = .ok (.putfield 34, 3)) (kk : ∀ (H1 : Heap) (locs1 : List Loc), va_P (dC, dI) vwCl (cW cB cI cJ cZ cS cO b cs1) H1 → va_D A (cW cB cI cJ cZ cS cO b cs1) → va_S A s.heap H1 [] → H1.size = b + kK cs1 → va_S A H1 H1 locs1 → W p l e R s m args below meth c H1 locs1 (cells + 1) (slots + x.toNatClampNeg) Q (F0 m (pc + 2 + 3) ls rest)) : W p l e R s m args below meth c H locs cells slots Q (F0 m pc ls (.int x :: .ref (b + i) :: rest)) := by
  refine W_sz (fun hu => ?_)
  have hz : H.size = b + kK cs := by have := hS.1; omega
  obtain ⟨⟨h1, h2, h3⟩, rfl⟩ := nwA_some hv
  have hSs := hG.comp hS
  obtain ⟨k, hk, hg⟩ := cO_at (b := b) (cB := cB) (cI := cI) (cJ := cJ) (cZ := cZ) (cS := cS) (cO := cO) (by decide) h1
  have hkl := (List.getElem?_eq_some_iff.mp hg).1
  refine va_newaK (atype := .long) hx hb (hts _ (List.mem_cons_of_mem _ kn_J)) rfl hdg rfl h2 rfl (by show x.toNatClampNeg * 8 ≤ 536870912; omega) hR.1 hR.2 hz fun H1 cA e1 z1 o1 hAr hNm => ?_
  have hcA : cJ = cA := (Option.some.inj (hNm.symm.trans (show s.vm.findClass ("[" ++ FieldType.toString .long) = some cJ from (hK.2 2 _ rfl).2))).symm
  subst hcA
  rw [← hz] at o1
  have hkp : ∀ (k : Nat) (y : Nat × va_E), (cW cB cI cJ cZ cS cO b cs)[k]? = some y → H1[y.1]? = H[y.1]? := fun k y hy => o1 y.1 ((hP k y hy).lt)
  have hS1 : va_S A s.heap H1 locs := ⟨Nat.le_trans hSs.1 (by omega), fun y g1 g2 => (o1 y (Nat.lt_of_lt_of_le g1 hSs.1)).trans (hSs.2.1 y g1 g2), hSs.2.2⟩
  have hP1 : va_P (dC, dI) vwCl (cW cB cI cJ cZ cS cO b cs ++ [(b + kK cs, .inl (cJ, x.toNatClampNeg, .inr (.inl (fun _ => 0))))]) H1 := by
    refine (hP.kept hkp).app (fun k y hy => ?_)
    have hz1 : k < 1 := (List.getElem?_eq_some_iff.mp hy).1
    rw [show k = 0 by omega] at hy
    cases hy
    show H1[b + kK cs]? = some (vp_cell _ _)
    rw [e1]
    rfl
  have hD1 : va_D A (cW cB cI cJ cZ cS cO b cs ++ [(b + kK cs, .inl (cJ, x.toNatClampNeg, .inr (.inl (fun _ => 0))))]) := hD.push hP hz.symm (hA _ (by rw [← hz]; exact hSs.1))
  refine va_putF (D := (dC, dI)) (ci := 8) (v := .ref (b + kK cs)) (ty := .array .long) (C := RX7) (T := TX7) (N := 9) hx hb hts (fun w h => List.mem_cons_of_mem _ (uG_X7 w h)) tyX7 tyX7_ok nmX7 hown hK hP1 hD1 hS1.self k ((List.getElem?_append_left hkl).trans hg) rfl 6 (by decide) (hts _ (List.mem_cons_of_mem _ kw_231)) (fun _ h9 => h9) rfl hin rfl (by decide +kernel) rfl rfl (by rw [vL_len]; decide) hdg2 (fun H2 l2 q1 q2 q3 => ?_)
  refine W_sz (fun hu2 => ?_)
  have key := cW_arr (b := b) (cB := cB) (cI := cI) (cJ := cJ) (cZ := cZ) (cS := cS) (cO := cO) (X := 8) (f0 := 6) (n := x.toNatClampNeg) (f := fun _ => 0) (g := fun _ => 0) (P := fun _ => True) (by decide) rfl hD hk (by show eA cB cI cJ cZ cS cO b (nA cs 262 i x.toNatClampNeg (fun _ => 0) (fun _ => 0)) 262 i 2 = .inl (cJ, x.toNatClampNeg, .inr (.inl (fun _ => 0))); simp only [eA]; rw [show kL (nA cs 262 i x.toNatClampNeg (fun _ => 0) (fun _ => 0)) 262 i = x.toNatClampNeg from u2_s, show kB (nA cs 262 i x.toNatClampNeg (fun _ => 0) (fun _ => 0)) 262 i = (fun _ => 0) from u2_s]) q1 q2
  have hS2 : va_S A s.heap H2 l2 := hS1.nil.comp q3
  have hz2 : H2.size = b + (kK cs + 1) := by have := q3.1; omega
  exact kk H2 l2 key.1 key.2 hS2.nil hz2 hS2.self
theorem nar_X7_37 {p : Program} {l : Launch} {e : Env} {R : Room} {s : State} {m : MethodId} {args : Array Value} {below : List Frame} {meth : Method} {c : Code} {H : Heap} {locs : List Loc} {cells slots : Nat} {Q : State → Prop} {cc : ByteArray} {pc : Nat} {ls : Array Slot} {rest : List Value} {y0 : MethodName} {c0 : ByteArray} {n0 : Nat} {r0 : Option FieldType} {dC : Nat → ClassId} {dI : Nat → Nat → Nat} {cB cI cJ cZ cS cO : ClassId} {b : Nat} {cs : CS} {A : Nat → Prop} {Gh : Heap} {cs1 : CS} {i : Nat} {x : Int32} (hx : p.tables.exec = Jvm.exec) (hb : c.code = cc) (hts : ∀ w ∈ wsOf y0 c0 n0 r0, w.before args s = true) (hown : s.vm.findClass RX7 = some m.cls) (hK : va_K (dC, dI) vwCl [(cB, .byte), (cI, .int), (cJ, .long), (cZ, .boolean), (cS, .object "StreamQueries$Source"), (cO, .object "java/lang/Object")] s) (hP : va_P (dC, dI) vwCl (cW cB cI cJ cZ cS cO b cs) H) (hD : va_D A (cW cB cI cJ cZ cS cO b cs)) (hS : va_S A Gh H locs) (hG : va_S A s.heap Gh []) (hA : ∀ q, s.heap.size ≤ q → A q) (hgz : Gh.size = b + kK cs) (hcc : s.heap.size + cells = b + kK cs) (hin : meth.name = "<init>") (hR : cells + 1 ≤ R.cells ∧ slots + x.toNatClampNeg ≤ R.slots) (hv : nwA cs 8 263 i x = some cs1) (hdg : decode cc pc = .ok (.newarray .byte, 2)) (hdg2 : decode cc (pc + 2) = .ok (.putfield 37, 3)) (kk : ∀ (H1 : Heap) (locs1 : List Loc), va_P (dC, dI) vwCl (cW cB cI cJ cZ cS cO b cs1) H1 → va_D A (cW cB cI cJ cZ cS cO b cs1) → va_S A s.heap H1 [] → H1.size = b + kK cs1 → va_S A H1 H1 locs1 → W p l e R s m args below meth c H1 locs1 (cells + 1) (slots + x.toNatClampNeg) Q (F0 m (pc + 2 + 3) ls rest)) : W p l e R s m args below meth c H locs cells slots Q (F0 m pc ls (.int x :: .ref (b + i) :: rest)) := by
  refine W_sz (fun hu => ?_)
  have hz : H.size = b + kK cs := by have := hS.1; omega
  obtain ⟨⟨h1, h2, h3⟩, rfl⟩ := nwA_some hv
  have hSs := hG.comp hS
  obtain ⟨k, hk, hg⟩ := cO_at (b := b) (cB := cB) (cI := cI) (cJ := cJ) (cZ := cZ) (cS := cS) (cO := cO) (by decide) h1
  have hkl := (List.getElem?_eq_some_iff.mp hg).1
  refine va_newaK (atype := .byte) hx hb (hts _ (List.mem_cons_of_mem _ kn_B)) rfl hdg rfl h2 rfl (by show x.toNatClampNeg * 1 ≤ 536870912; omega) hR.1 hR.2 hz fun H1 cA e1 z1 o1 hAr hNm => ?_
  have hcA : cB = cA := (Option.some.inj (hNm.symm.trans (show s.vm.findClass ("[" ++ FieldType.toString .byte) = some cB from (hK.2 0 _ rfl).2))).symm
  subst hcA
  rw [← hz] at o1
  have hkp : ∀ (k : Nat) (y : Nat × va_E), (cW cB cI cJ cZ cS cO b cs)[k]? = some y → H1[y.1]? = H[y.1]? := fun k y hy => o1 y.1 ((hP k y hy).lt)
  have hS1 : va_S A s.heap H1 locs := ⟨Nat.le_trans hSs.1 (by omega), fun y g1 g2 => (o1 y (Nat.lt_of_lt_of_le g1 hSs.1)).trans (hSs.2.1 y g1 g2), hSs.2.2⟩
  have hP1 : va_P (dC, dI) vwCl (cW cB cI cJ cZ cS cO b cs ++ [(b + kK cs, .inl (cB, x.toNatClampNeg, .inl (fun _ => 0)))]) H1 := by
    refine (hP.kept hkp).app (fun k y hy => ?_)
    have hz1 : k < 1 := (List.getElem?_eq_some_iff.mp hy).1
    rw [show k = 0 by omega] at hy
    cases hy
    show H1[b + kK cs]? = some (vp_cell _ _)
    rw [e1]
    rfl
  have hD1 : va_D A (cW cB cI cJ cZ cS cO b cs ++ [(b + kK cs, .inl (cB, x.toNatClampNeg, .inl (fun _ => 0)))]) := hD.push hP hz.symm (hA _ (by rw [← hz]; exact hSs.1))
  refine va_putF (D := (dC, dI)) (ci := 8) (v := .ref (b + kK cs)) (ty := .array .byte) (C := RX7) (T := TX7) (N := 9) hx hb hts (fun w h => List.mem_cons_of_mem _ (uG_X7 w h)) tyX7 tyX7_ok nmX7 hown hK hP1 hD1 hS1.self k ((List.getElem?_append_left hkl).trans hg) rfl 7 (by decide) (hts _ (List.mem_cons_of_mem _ kw_232)) (fun _ h9 => h9) rfl hin rfl (by decide +kernel) rfl rfl (by rw [vL_len]; decide) hdg2 (fun H2 l2 q1 q2 q3 => ?_)
  refine W_sz (fun hu2 => ?_)
  have key := cW_arr (b := b) (cB := cB) (cI := cI) (cJ := cJ) (cZ := cZ) (cS := cS) (cO := cO) (X := 8) (f0 := 7) (n := x.toNatClampNeg) (f := fun _ => 0) (g := fun _ => 0) (P := fun _ => True) (by decide) rfl hD hk (by show eA cB cI cJ cZ cS cO b (nA cs 263 i x.toNatClampNeg (fun _ => 0) (fun _ => 0)) 263 i 1 = .inl (cB, x.toNatClampNeg, .inl (fun _ => 0)); simp only [eA]; rw [show kL (nA cs 263 i x.toNatClampNeg (fun _ => 0) (fun _ => 0)) 263 i = x.toNatClampNeg from u2_s, show kA (nA cs 263 i x.toNatClampNeg (fun _ => 0) (fun _ => 0)) 263 i = (fun _ => 0) from u2_s]) q1 q2
  have hS2 : va_S A s.heap H2 l2 := hS1.nil.comp q3
  have hz2 : H2.size = b + (kK cs + 1) := by have := q3.1; omega
  exact kk H2 l2 key.1 key.2 hS2.nil hz2 hS2.self
theorem nar_X8_11 {p : Program} {l : Launch} {e : Env} {R : Room} {s : State} {m : MethodId} {args : Array Value} {below : List Frame} {meth : Method} {c : Code} {H : Heap} {locs : List Loc} {cells slots : Nat} {Q : State → Prop} {cc : ByteArray} {pc : Nat} {ls : Array Slot} {rest : List Value} {y0 : MethodName} {c0 : ByteArray} {n0 : Nat} {r0 : Option FieldType} {dC : Nat → ClassId} {dI : Nat → Nat → Nat} {cB cI cJ cZ cS cO : ClassId} {b : Nat} {cs : CS} {A : Nat → Prop} {Gh : Heap} {cs1 : CS} {i : Nat} {x : Int32} (hx : p.tables.exec = Jvm.exec) (hb : c.code = cc) (hts : ∀ w ∈ wsOf y0 c0 n0 r0, w.before args s = true) (hown : s.vm.findClass RX8 = some m.cls) (hK : va_K (dC, dI) vwCl [(cB, .byte), (cI, .int), (cJ, .long), (cZ, .boolean), (cS, .object "StreamQueries$Source"), (cO, .object "java/lang/Object")] s) (hP : va_P (dC, dI) vwCl (cW cB cI cJ cZ cS cO b cs) H) (hD : va_D A (cW cB cI cJ cZ cS cO b cs)) (hS : va_S A Gh H locs) (hG : va_S A s.heap Gh []) (hA : ∀ q, s.heap.size ≤ q → A q) (hgz : Gh.size = b + kK cs) (hcc : s.heap.size + cells = b + kK cs) (hR : cells + 1 ≤ R.cells ∧ slots + x.toNatClampNeg ≤ R.slots) (hv : nwA cs 9 288 i x = some cs1) (hdg : decode cc pc = .ok (.newarray .long, 2)) (hdg2 : decode cc (pc + 2) = .ok (.putfield 11, 3)) (kk : ∀ (H1 : Heap) (locs1 : List Loc), va_P (dC, dI) vwCl (cW cB cI cJ cZ cS cO b cs1) H1 → va_D A (cW cB cI cJ cZ cS cO b cs1) → va_S A s.heap H1 [] → H1.size = b + kK cs1 → va_S A H1 H1 locs1 → W p l e R s m args below meth c H1 locs1 (cells + 1) (slots + x.toNatClampNeg) Q (F0 m (pc + 2 + 3) ls rest)) : W p l e R s m args below meth c H locs cells slots Q (F0 m pc ls (.int x :: .ref (b + i) :: rest)) := by
  refine W_sz (fun hu => ?_)
  have hz : H.size = b + kK cs := by have := hS.1; omega
  obtain ⟨⟨h1, h2, h3⟩, rfl⟩ := nwA_some hv
  have hSs := hG.comp hS
  obtain ⟨k, hk, hg⟩ := cO_at (b := b) (cB := cB) (cI := cI) (cJ := cJ) (cZ := cZ) (cS := cS) (cO := cO) (by decide) h1
  have hkl := (List.getElem?_eq_some_iff.mp hg).1
  refine va_newaK (atype := .long) hx hb (hts _ (List.mem_cons_of_mem _ kn_J)) rfl hdg rfl h2 rfl (by show x.toNatClampNeg * 8 ≤ 536870912; omega) hR.1 hR.2 hz fun H1 cA e1 z1 o1 hAr hNm => ?_
  have hcA : cJ = cA := (Option.some.inj (hNm.symm.trans (show s.vm.findClass ("[" ++ FieldType.toString .long) = some cJ from (hK.2 2 _ rfl).2))).symm
  subst hcA
  rw [← hz] at o1
  have hkp : ∀ (k : Nat) (y : Nat × va_E), (cW cB cI cJ cZ cS cO b cs)[k]? = some y → H1[y.1]? = H[y.1]? := fun k y hy => o1 y.1 ((hP k y hy).lt)
  have hS1 : va_S A s.heap H1 locs := ⟨Nat.le_trans hSs.1 (by omega), fun y g1 g2 => (o1 y (Nat.lt_of_lt_of_le g1 hSs.1)).trans (hSs.2.1 y g1 g2), hSs.2.2⟩
  have hP1 : va_P (dC, dI) vwCl (cW cB cI cJ cZ cS cO b cs ++ [(b + kK cs, .inl (cJ, x.toNatClampNeg, .inr (.inl (fun _ => 0))))]) H1 := by
    refine (hP.kept hkp).app (fun k y hy => ?_)
    have hz1 : k < 1 := (List.getElem?_eq_some_iff.mp hy).1
    rw [show k = 0 by omega] at hy
    cases hy
    show H1[b + kK cs]? = some (vp_cell _ _)
    rw [e1]
    rfl
  have hD1 : va_D A (cW cB cI cJ cZ cS cO b cs ++ [(b + kK cs, .inl (cJ, x.toNatClampNeg, .inr (.inl (fun _ => 0))))]) := hD.push hP hz.symm (hA _ (by rw [← hz]; exact hSs.1))
  refine va_put (D := (dC, dI)) (ci := 9) (v := .ref (b + kK cs)) (ty := .array .long) (C := RX8) (T := TX8) (N := 4) hx hb hts (fun w h => List.mem_cons_of_mem _ (uG_X8 w h)) tyX8 tyX8_ok nmX8 hown hK hP1 hD1 hS1.self k ((List.getElem?_append_left hkl).trans hg) rfl 0 (by decide) (hts _ (List.mem_cons_of_mem _ kw_349)) (fun _ h9 => h9) rfl (by decide +kernel) rfl rfl (by rw [vL_len]; decide) hdg2 (fun H2 l2 q1 q2 q3 => ?_)
  refine W_sz (fun hu2 => ?_)
  have key := cW_arr (b := b) (cB := cB) (cI := cI) (cJ := cJ) (cZ := cZ) (cS := cS) (cO := cO) (X := 9) (f0 := 0) (n := x.toNatClampNeg) (f := fun _ => 0) (g := fun _ => 0) (P := fun _ => True) (by decide) rfl hD hk (by show eA cB cI cJ cZ cS cO b (nA cs 288 i x.toNatClampNeg (fun _ => 0) (fun _ => 0)) 288 i 2 = .inl (cJ, x.toNatClampNeg, .inr (.inl (fun _ => 0))); simp only [eA]; rw [show kL (nA cs 288 i x.toNatClampNeg (fun _ => 0) (fun _ => 0)) 288 i = x.toNatClampNeg from u2_s, show kB (nA cs 288 i x.toNatClampNeg (fun _ => 0) (fun _ => 0)) 288 i = (fun _ => 0) from u2_s]) q1 q2
  have hS2 : va_S A s.heap H2 l2 := hS1.nil.comp q3
  have hz2 : H2.size = b + (kK cs + 1) := by have := q3.1; omega
  exact kk H2 l2 key.1 key.2 hS2.nil hz2 hS2.self
theorem nar_X8_15 {p : Program} {l : Launch} {e : Env} {R : Room} {s : State} {m : MethodId} {args : Array Value} {below : List Frame} {meth : Method} {c : Code} {H : Heap} {locs : List Loc} {cells slots : Nat} {Q : State → Prop} {cc : ByteArray} {pc : Nat} {ls : Array Slot} {rest : List Value} {y0 : MethodName} {c0 : ByteArray} {n0 : Nat} {r0 : Option FieldType} {dC : Nat → ClassId} {dI : Nat → Nat → Nat} {cB cI cJ cZ cS cO : ClassId} {b : Nat} {cs : CS} {A : Nat → Prop} {Gh : Heap} {cs1 : CS} {i : Nat} {x : Int32} (hx : p.tables.exec = Jvm.exec) (hb : c.code = cc) (hts : ∀ w ∈ wsOf y0 c0 n0 r0, w.before args s = true) (hown : s.vm.findClass RX8 = some m.cls) (hK : va_K (dC, dI) vwCl [(cB, .byte), (cI, .int), (cJ, .long), (cZ, .boolean), (cS, .object "StreamQueries$Source"), (cO, .object "java/lang/Object")] s) (hP : va_P (dC, dI) vwCl (cW cB cI cJ cZ cS cO b cs) H) (hD : va_D A (cW cB cI cJ cZ cS cO b cs)) (hS : va_S A Gh H locs) (hG : va_S A s.heap Gh []) (hA : ∀ q, s.heap.size ≤ q → A q) (hgz : Gh.size = b + kK cs) (hcc : s.heap.size + cells = b + kK cs) (hR : cells + 1 ≤ R.cells ∧ slots + x.toNatClampNeg ≤ R.slots) (hv : nwA cs 9 289 i x = some cs1) (hdg : decode cc pc = .ok (.newarray .byte, 2)) (hdg2 : decode cc (pc + 2) = .ok (.putfield 15, 3)) (kk : ∀ (H1 : Heap) (locs1 : List Loc), va_P (dC, dI) vwCl (cW cB cI cJ cZ cS cO b cs1) H1 → va_D A (cW cB cI cJ cZ cS cO b cs1) → va_S A s.heap H1 [] → H1.size = b + kK cs1 → va_S A H1 H1 locs1 → W p l e R s m args below meth c H1 locs1 (cells + 1) (slots + x.toNatClampNeg) Q (F0 m (pc + 2 + 3) ls rest)) : W p l e R s m args below meth c H locs cells slots Q (F0 m pc ls (.int x :: .ref (b + i) :: rest)) := by
  refine W_sz (fun hu => ?_)
  have hz : H.size = b + kK cs := by have := hS.1; omega
  obtain ⟨⟨h1, h2, h3⟩, rfl⟩ := nwA_some hv
  have hSs := hG.comp hS
  obtain ⟨k, hk, hg⟩ := cO_at (b := b) (cB := cB) (cI := cI) (cJ := cJ) (cZ := cZ) (cS := cS) (cO := cO) (by decide) h1
  have hkl := (List.getElem?_eq_some_iff.mp hg).1
  refine va_newaK (atype := .byte) hx hb (hts _ (List.mem_cons_of_mem _ kn_B)) rfl hdg rfl h2 rfl (by show x.toNatClampNeg * 1 ≤ 536870912; omega) hR.1 hR.2 hz fun H1 cA e1 z1 o1 hAr hNm => ?_
  have hcA : cB = cA := (Option.some.inj (hNm.symm.trans (show s.vm.findClass ("[" ++ FieldType.toString .byte) = some cB from (hK.2 0 _ rfl).2))).symm
  subst hcA
  rw [← hz] at o1
  have hkp : ∀ (k : Nat) (y : Nat × va_E), (cW cB cI cJ cZ cS cO b cs)[k]? = some y → H1[y.1]? = H[y.1]? := fun k y hy => o1 y.1 ((hP k y hy).lt)
  have hS1 : va_S A s.heap H1 locs := ⟨Nat.le_trans hSs.1 (by omega), fun y g1 g2 => (o1 y (Nat.lt_of_lt_of_le g1 hSs.1)).trans (hSs.2.1 y g1 g2), hSs.2.2⟩
  have hP1 : va_P (dC, dI) vwCl (cW cB cI cJ cZ cS cO b cs ++ [(b + kK cs, .inl (cB, x.toNatClampNeg, .inl (fun _ => 0)))]) H1 := by
    refine (hP.kept hkp).app (fun k y hy => ?_)
    have hz1 : k < 1 := (List.getElem?_eq_some_iff.mp hy).1
    rw [show k = 0 by omega] at hy
    cases hy
    show H1[b + kK cs]? = some (vp_cell _ _)
    rw [e1]
    rfl
  have hD1 : va_D A (cW cB cI cJ cZ cS cO b cs ++ [(b + kK cs, .inl (cB, x.toNatClampNeg, .inl (fun _ => 0)))]) := hD.push hP hz.symm (hA _ (by rw [← hz]; exact hSs.1))
  refine va_put (D := (dC, dI)) (ci := 9) (v := .ref (b + kK cs)) (ty := .array .byte) (C := RX8) (T := TX8) (N := 4) hx hb hts (fun w h => List.mem_cons_of_mem _ (uG_X8 w h)) tyX8 tyX8_ok nmX8 hown hK hP1 hD1 hS1.self k ((List.getElem?_append_left hkl).trans hg) rfl 1 (by decide) (hts _ (List.mem_cons_of_mem _ kw_350)) (fun _ h9 => h9) rfl (by decide +kernel) rfl rfl (by rw [vL_len]; decide) hdg2 (fun H2 l2 q1 q2 q3 => ?_)
  refine W_sz (fun hu2 => ?_)
  have key := cW_arr (b := b) (cB := cB) (cI := cI) (cJ := cJ) (cZ := cZ) (cS := cS) (cO := cO) (X := 9) (f0 := 1) (n := x.toNatClampNeg) (f := fun _ => 0) (g := fun _ => 0) (P := fun _ => True) (by decide) rfl hD hk (by show eA cB cI cJ cZ cS cO b (nA cs 289 i x.toNatClampNeg (fun _ => 0) (fun _ => 0)) 289 i 1 = .inl (cB, x.toNatClampNeg, .inl (fun _ => 0)); simp only [eA]; rw [show kL (nA cs 289 i x.toNatClampNeg (fun _ => 0) (fun _ => 0)) 289 i = x.toNatClampNeg from u2_s, show kA (nA cs 289 i x.toNatClampNeg (fun _ => 0) (fun _ => 0)) 289 i = (fun _ => 0) from u2_s]) q1 q2
  have hS2 : va_S A s.heap H2 l2 := hS1.nil.comp q3
  have hz2 : H2.size = b + (kK cs + 1) := by have := q3.1; omega
  exact kk H2 l2 key.1 key.2 hS2.nil hz2 hS2.self
theorem nar_X8_19 {p : Program} {l : Launch} {e : Env} {R : Room} {s : State} {m : MethodId} {args : Array Value} {below : List Frame} {meth : Method} {c : Code} {H : Heap} {locs : List Loc} {cells slots : Nat} {Q : State → Prop} {cc : ByteArray} {pc : Nat} {ls : Array Slot} {rest : List Value} {y0 : MethodName} {c0 : ByteArray} {n0 : Nat} {r0 : Option FieldType} {dC : Nat → ClassId} {dI : Nat → Nat → Nat} {cB cI cJ cZ cS cO : ClassId} {b : Nat} {cs : CS} {A : Nat → Prop} {Gh : Heap} {cs1 : CS} {i : Nat} {x : Int32} (hx : p.tables.exec = Jvm.exec) (hb : c.code = cc) (hts : ∀ w ∈ wsOf y0 c0 n0 r0, w.before args s = true) (hown : s.vm.findClass RX8 = some m.cls) (hK : va_K (dC, dI) vwCl [(cB, .byte), (cI, .int), (cJ, .long), (cZ, .boolean), (cS, .object "StreamQueries$Source"), (cO, .object "java/lang/Object")] s) (hP : va_P (dC, dI) vwCl (cW cB cI cJ cZ cS cO b cs) H) (hD : va_D A (cW cB cI cJ cZ cS cO b cs)) (hS : va_S A Gh H locs) (hG : va_S A s.heap Gh []) (hA : ∀ q, s.heap.size ≤ q → A q) (hgz : Gh.size = b + kK cs) (hcc : s.heap.size + cells = b + kK cs) (hR : cells + 1 ≤ R.cells ∧ slots + x.toNatClampNeg ≤ R.slots) (hv : nwA cs 9 290 i x = some cs1) (hdg : decode cc pc = .ok (.newarray .int, 2)) (hdg2 : decode cc (pc + 2) = .ok (.putfield 19, 3)) (kk : ∀ (H1 : Heap) (locs1 : List Loc), va_P (dC, dI) vwCl (cW cB cI cJ cZ cS cO b cs1) H1 → va_D A (cW cB cI cJ cZ cS cO b cs1) → va_S A s.heap H1 [] → H1.size = b + kK cs1 → va_S A H1 H1 locs1 → W p l e R s m args below meth c H1 locs1 (cells + 1) (slots + x.toNatClampNeg) Q (F0 m (pc + 2 + 3) ls rest)) : W p l e R s m args below meth c H locs cells slots Q (F0 m pc ls (.int x :: .ref (b + i) :: rest)) := by
  refine W_sz (fun hu => ?_)
  have hz : H.size = b + kK cs := by have := hS.1; omega
  obtain ⟨⟨h1, h2, h3⟩, rfl⟩ := nwA_some hv
  have hSs := hG.comp hS
  obtain ⟨k, hk, hg⟩ := cO_at (b := b) (cB := cB) (cI := cI) (cJ := cJ) (cZ := cZ) (cS := cS) (cO := cO) (by decide) h1
  have hkl := (List.getElem?_eq_some_iff.mp hg).1
  refine va_newaK (atype := .int) hx hb (hts _ (List.mem_cons_of_mem _ kn_I)) rfl hdg rfl h2 rfl (by show x.toNatClampNeg * 4 ≤ 536870912; omega) hR.1 hR.2 hz fun H1 cA e1 z1 o1 hAr hNm => ?_
  have hcA : cI = cA := (Option.some.inj (hNm.symm.trans (show s.vm.findClass ("[" ++ FieldType.toString .int) = some cI from (hK.2 1 _ rfl).2))).symm
  subst hcA
  rw [← hz] at o1
  have hkp : ∀ (k : Nat) (y : Nat × va_E), (cW cB cI cJ cZ cS cO b cs)[k]? = some y → H1[y.1]? = H[y.1]? := fun k y hy => o1 y.1 ((hP k y hy).lt)
  have hS1 : va_S A s.heap H1 locs := ⟨Nat.le_trans hSs.1 (by omega), fun y g1 g2 => (o1 y (Nat.lt_of_lt_of_le g1 hSs.1)).trans (hSs.2.1 y g1 g2), hSs.2.2⟩
  have hP1 : va_P (dC, dI) vwCl (cW cB cI cJ cZ cS cO b cs ++ [(b + kK cs, .inl (cI, x.toNatClampNeg, .inl (fun _ => 0)))]) H1 := by
    refine (hP.kept hkp).app (fun k y hy => ?_)
    have hz1 : k < 1 := (List.getElem?_eq_some_iff.mp hy).1
    rw [show k = 0 by omega] at hy
    cases hy
    show H1[b + kK cs]? = some (vp_cell _ _)
    rw [e1]
    rfl
  have hD1 : va_D A (cW cB cI cJ cZ cS cO b cs ++ [(b + kK cs, .inl (cI, x.toNatClampNeg, .inl (fun _ => 0)))]) := hD.push hP hz.symm (hA _ (by rw [← hz]; exact hSs.1))
  refine va_put (D := (dC, dI)) (ci := 9) (v := .ref (b + kK cs)) (ty := .array .int) (C := RX8) (T := TX8) (N := 4) hx hb hts (fun w h => List.mem_cons_of_mem _ (uG_X8 w h)) tyX8 tyX8_ok nmX8 hown hK hP1 hD1 hS1.self k ((List.getElem?_append_left hkl).trans hg) rfl 2 (by decide) (hts _ (List.mem_cons_of_mem _ kw_351)) (fun _ h9 => h9) rfl (by decide +kernel) rfl rfl (by rw [vL_len]; decide) hdg2 (fun H2 l2 q1 q2 q3 => ?_)
  refine W_sz (fun hu2 => ?_)
  have key := cW_arr (b := b) (cB := cB) (cI := cI) (cJ := cJ) (cZ := cZ) (cS := cS) (cO := cO) (X := 9) (f0 := 2) (n := x.toNatClampNeg) (f := fun _ => 0) (g := fun _ => 0) (P := fun _ => True) (by decide) rfl hD hk (by show eA cB cI cJ cZ cS cO b (nA cs 290 i x.toNatClampNeg (fun _ => 0) (fun _ => 0)) 290 i 0 = .inl (cI, x.toNatClampNeg, .inl (fun _ => 0)); simp only [eA]; rw [show kL (nA cs 290 i x.toNatClampNeg (fun _ => 0) (fun _ => 0)) 290 i = x.toNatClampNeg from u2_s, show kA (nA cs 290 i x.toNatClampNeg (fun _ => 0) (fun _ => 0)) 290 i = (fun _ => 0) from u2_s]) q1 q2
  have hS2 : va_S A s.heap H2 l2 := hS1.nil.comp q3
  have hz2 : H2.size = b + (kK cs + 1) := by have := q3.1; omega
  exact kk H2 l2 key.1 key.2 hS2.nil hz2 hS2.self
theorem nar_X8_23 {p : Program} {l : Launch} {e : Env} {R : Room} {s : State} {m : MethodId} {args : Array Value} {below : List Frame} {meth : Method} {c : Code} {H : Heap} {locs : List Loc} {cells slots : Nat} {Q : State → Prop} {cc : ByteArray} {pc : Nat} {ls : Array Slot} {rest : List Value} {y0 : MethodName} {c0 : ByteArray} {n0 : Nat} {r0 : Option FieldType} {dC : Nat → ClassId} {dI : Nat → Nat → Nat} {cB cI cJ cZ cS cO : ClassId} {b : Nat} {cs : CS} {A : Nat → Prop} {Gh : Heap} {cs1 : CS} {i : Nat} {x : Int32} (hx : p.tables.exec = Jvm.exec) (hb : c.code = cc) (hts : ∀ w ∈ wsOf y0 c0 n0 r0, w.before args s = true) (hown : s.vm.findClass RX8 = some m.cls) (hK : va_K (dC, dI) vwCl [(cB, .byte), (cI, .int), (cJ, .long), (cZ, .boolean), (cS, .object "StreamQueries$Source"), (cO, .object "java/lang/Object")] s) (hP : va_P (dC, dI) vwCl (cW cB cI cJ cZ cS cO b cs) H) (hD : va_D A (cW cB cI cJ cZ cS cO b cs)) (hS : va_S A Gh H locs) (hG : va_S A s.heap Gh []) (hA : ∀ q, s.heap.size ≤ q → A q) (hgz : Gh.size = b + kK cs) (hcc : s.heap.size + cells = b + kK cs) (hR : cells + 1 ≤ R.cells ∧ slots + x.toNatClampNeg ≤ R.slots) (hv : nwA cs 9 291 i x = some cs1) (hdg : decode cc pc = .ok (.newarray .int, 2)) (hdg2 : decode cc (pc + 2) = .ok (.putfield 23, 3)) (kk : ∀ (H1 : Heap) (locs1 : List Loc), va_P (dC, dI) vwCl (cW cB cI cJ cZ cS cO b cs1) H1 → va_D A (cW cB cI cJ cZ cS cO b cs1) → va_S A s.heap H1 [] → H1.size = b + kK cs1 → va_S A H1 H1 locs1 → W p l e R s m args below meth c H1 locs1 (cells + 1) (slots + x.toNatClampNeg) Q (F0 m (pc + 2 + 3) ls rest)) : W p l e R s m args below meth c H locs cells slots Q (F0 m pc ls (.int x :: .ref (b + i) :: rest)) := by
  refine W_sz (fun hu => ?_)
  have hz : H.size = b + kK cs := by have := hS.1; omega
  obtain ⟨⟨h1, h2, h3⟩, rfl⟩ := nwA_some hv
  have hSs := hG.comp hS
  obtain ⟨k, hk, hg⟩ := cO_at (b := b) (cB := cB) (cI := cI) (cJ := cJ) (cZ := cZ) (cS := cS) (cO := cO) (by decide) h1
  have hkl := (List.getElem?_eq_some_iff.mp hg).1
  refine va_newaK (atype := .int) hx hb (hts _ (List.mem_cons_of_mem _ kn_I)) rfl hdg rfl h2 rfl (by show x.toNatClampNeg * 4 ≤ 536870912; omega) hR.1 hR.2 hz fun H1 cA e1 z1 o1 hAr hNm => ?_
  have hcA : cI = cA := (Option.some.inj (hNm.symm.trans (show s.vm.findClass ("[" ++ FieldType.toString .int) = some cI from (hK.2 1 _ rfl).2))).symm
  subst hcA
  rw [← hz] at o1
  have hkp : ∀ (k : Nat) (y : Nat × va_E), (cW cB cI cJ cZ cS cO b cs)[k]? = some y → H1[y.1]? = H[y.1]? := fun k y hy => o1 y.1 ((hP k y hy).lt)
  have hS1 : va_S A s.heap H1 locs := ⟨Nat.le_trans hSs.1 (by omega), fun y g1 g2 => (o1 y (Nat.lt_of_lt_of_le g1 hSs.1)).trans (hSs.2.1 y g1 g2), hSs.2.2⟩
  have hP1 : va_P (dC, dI) vwCl (cW cB cI cJ cZ cS cO b cs ++ [(b + kK cs, .inl (cI, x.toNatClampNeg, .inl (fun _ => 0)))]) H1 := by
    refine (hP.kept hkp).app (fun k y hy => ?_)
    have hz1 : k < 1 := (List.getElem?_eq_some_iff.mp hy).1
    rw [show k = 0 by omega] at hy
    cases hy
    show H1[b + kK cs]? = some (vp_cell _ _)
    rw [e1]
    rfl
  have hD1 : va_D A (cW cB cI cJ cZ cS cO b cs ++ [(b + kK cs, .inl (cI, x.toNatClampNeg, .inl (fun _ => 0)))]) := hD.push hP hz.symm (hA _ (by rw [← hz]; exact hSs.1))
  refine va_put (D := (dC, dI)) (ci := 9) (v := .ref (b + kK cs)) (ty := .array .int) (C := RX8) (T := TX8) (N := 4) hx hb hts (fun w h => List.mem_cons_of_mem _ (uG_X8 w h)) tyX8 tyX8_ok nmX8 hown hK hP1 hD1 hS1.self k ((List.getElem?_append_left hkl).trans hg) rfl 3 (by decide) (hts _ (List.mem_cons_of_mem _ kw_352)) (fun _ h9 => h9) rfl (by decide +kernel) rfl rfl (by rw [vL_len]; decide) hdg2 (fun H2 l2 q1 q2 q3 => ?_)
  refine W_sz (fun hu2 => ?_)
  have key := cW_arr (b := b) (cB := cB) (cI := cI) (cJ := cJ) (cZ := cZ) (cS := cS) (cO := cO) (X := 9) (f0 := 3) (n := x.toNatClampNeg) (f := fun _ => 0) (g := fun _ => 0) (P := fun _ => True) (by decide) rfl hD hk (by show eA cB cI cJ cZ cS cO b (nA cs 291 i x.toNatClampNeg (fun _ => 0) (fun _ => 0)) 291 i 0 = .inl (cI, x.toNatClampNeg, .inl (fun _ => 0)); simp only [eA]; rw [show kL (nA cs 291 i x.toNatClampNeg (fun _ => 0) (fun _ => 0)) 291 i = x.toNatClampNeg from u2_s, show kA (nA cs 291 i x.toNatClampNeg (fun _ => 0) (fun _ => 0)) 291 i = (fun _ => 0) from u2_s]) q1 q2
  have hS2 : va_S A s.heap H2 l2 := hS1.nil.comp q3
  have hz2 : H2.size = b + (kK cs + 1) := by have := q3.1; omega
  exact kk H2 l2 key.1 key.2 hS2.nil hz2 hS2.self
theorem nar_X9_32 {p : Program} {l : Launch} {e : Env} {R : Room} {s : State} {m : MethodId} {args : Array Value} {below : List Frame} {meth : Method} {c : Code} {H : Heap} {locs : List Loc} {cells slots : Nat} {Q : State → Prop} {cc : ByteArray} {pc : Nat} {ls : Array Slot} {rest : List Value} {y0 : MethodName} {c0 : ByteArray} {n0 : Nat} {r0 : Option FieldType} {dC : Nat → ClassId} {dI : Nat → Nat → Nat} {cB cI cJ cZ cS cO : ClassId} {b : Nat} {cs : CS} {A : Nat → Prop} {Gh : Heap} {cs1 : CS} {i : Nat} {x : Int32} (hx : p.tables.exec = Jvm.exec) (hb : c.code = cc) (hts : ∀ w ∈ wsOf y0 c0 n0 r0, w.before args s = true) (hown : s.vm.findClass RX9 = some m.cls) (hK : va_K (dC, dI) vwCl [(cB, .byte), (cI, .int), (cJ, .long), (cZ, .boolean), (cS, .object "StreamQueries$Source"), (cO, .object "java/lang/Object")] s) (hP : va_P (dC, dI) vwCl (cW cB cI cJ cZ cS cO b cs) H) (hD : va_D A (cW cB cI cJ cZ cS cO b cs)) (hS : va_S A Gh H locs) (hG : va_S A s.heap Gh []) (hA : ∀ q, s.heap.size ≤ q → A q) (hgz : Gh.size = b + kK cs) (hcc : s.heap.size + cells = b + kK cs) (hin : meth.name = "<init>") (hR : cells + 1 ≤ R.cells ∧ slots + x.toNatClampNeg ≤ R.slots) (hv : nwA cs 10 326 i x = some cs1) {i3 : Nat} (hcl : (Cond.classLink RX9 i3 "StreamQueries$Source").before args s = true) (hao : va_AO "StreamQueries$Source" s) (hdg : decode cc pc = .ok (.anewarray i3, 3)) (hdg2 : decode cc (pc + 3) = .ok (.putfield 32, 3)) (kk : ∀ (H1 : Heap) (locs1 : List Loc), va_P (dC, dI) vwCl (cW cB cI cJ cZ cS cO b cs1) H1 → va_D A (cW cB cI cJ cZ cS cO b cs1) → va_S A s.heap H1 [] → H1.size = b + kK cs1 → va_S A H1 H1 locs1 → W p l e R s m args below meth c H1 locs1 (cells + 1) (slots + x.toNatClampNeg) Q (F0 m (pc + 3 + 3) ls rest)) : W p l e R s m args below meth c H locs cells slots Q (F0 m pc ls (.int x :: .ref (b + i) :: rest)) := by
  refine W_sz (fun hu => ?_)
  have hz : H.size = b + kK cs := by have := hS.1; omega
  obtain ⟨⟨h1, h2, h3⟩, rfl⟩ := nwA_some hv
  have hSs := hG.comp hS
  obtain ⟨k, hk, hg⟩ := cO_at (b := b) (cB := cB) (cI := cI) (cJ := cJ) (cZ := cZ) (cS := cS) (cO := cO) (by decide) h1
  have hkl := (List.getElem?_eq_some_iff.mp hg).1
  refine W.anew hx hb hown hcl (va_AO.use hao) rfl hdg rfl h2 (by omega) hR.1 hR.2 fun cA kA comp f1 f2 f3 f4 => ?_
  generalize hH1 : H.push ({ cls := cA, slots := Array.replicate x.toNatClampNeg .null, vm := .none } : Cell) = H1
  have z1 : H1.size = b + kK cs + 1 := by rw [← hH1, Array.size_push, hz]
  have e1 : H1[b + kK cs]? = some (arrV cA x.toNatClampNeg (fun _ => .null)) := by rw [← hz, ← hH1, Array.getElem?_push_size, ← arrV_new]
  have o1 : ∀ q : Nat, q < b + kK cs → H1[q]? = H[q]? := fun q hq => by rw [← hH1, Array.getElem?_push, if_neg (by omega)]
  rw [hz]
  have hcA : cS = cA := by
    obtain ⟨kA2, comp2, g1, g2, g3, g4⟩ := (hK.2 4 _ rfl).2
    exact (Option.some.inj (f1.symm.trans g4)).symm
  subst hcA
  rw [← hz] at o1
  have hkp : ∀ (k : Nat) (y : Nat × va_E), (cW cB cI cJ cZ cS cO b cs)[k]? = some y → H1[y.1]? = H[y.1]? := fun k y hy => o1 y.1 ((hP k y hy).lt)
  have hS1 : va_S A s.heap H1 locs := ⟨Nat.le_trans hSs.1 (by omega), fun y g1 g2 => (o1 y (Nat.lt_of_lt_of_le g1 hSs.1)).trans (hSs.2.1 y g1 g2), hSs.2.2⟩
  have hP1 : va_P (dC, dI) vwCl (cW cB cI cJ cZ cS cO b cs ++ [(b + kK cs, .inl (cS, x.toNatClampNeg, .inr (.inr (.inr (.inr (fun _ => none))))))]) H1 := by
    refine (hP.kept hkp).app (fun k y hy => ?_)
    have hz1 : k < 1 := (List.getElem?_eq_some_iff.mp hy).1
    rw [show k = 0 by omega] at hy
    cases hy
    show H1[b + kK cs]? = some (vp_cell _ _)
    rw [vp_cell_q]
    exact e1
  have hD1 : va_D A (cW cB cI cJ cZ cS cO b cs ++ [(b + kK cs, .inl (cS, x.toNatClampNeg, .inr (.inr (.inr (.inr (fun _ => none))))))]) := hD.push hP hz.symm (hA _ (by rw [← hz]; exact hSs.1))
  refine va_putF (D := (dC, dI)) (ci := 10) (v := .ref (b + kK cs)) (ty := .array (.object "StreamQueries$Source")) (C := RX9) (T := TX9) (N := 12) hx hb hts (fun w h => List.mem_cons_of_mem _ (uG_X9 w h)) tyX9 tyX9_ok nmX9 hown hK hP1 hD1 hS1.self k ((List.getElem?_append_left hkl).trans hg) rfl 6 (by decide) (hts _ (List.mem_cons_of_mem _ kw_868)) (fun _ h9 => h9) rfl hin rfl (by decide +kernel) rfl rfl (by rw [vL_len]; decide) hdg2 (fun H2 l2 q1 q2 q3 => ?_)
  refine W_sz (fun hu2 => ?_)
  have key := cW_arr (b := b) (cB := cB) (cI := cI) (cJ := cJ) (cZ := cZ) (cS := cS) (cO := cO) (X := 10) (f0 := 6) (n := x.toNatClampNeg) (f := fun _ => 0) (g := fun _ => 0) (P := fun _ => True) (by decide) rfl hD hk (by show eA cB cI cJ cZ cS cO b (nA cs 326 i x.toNatClampNeg (fun _ => 0) (fun _ => 0)) 326 i 3 = .inl (cS, x.toNatClampNeg, .inr (.inr (.inr (.inr (fun _ => none))))); simp only [eA]; rw [show kL (nA cs 326 i x.toNatClampNeg (fun _ => 0) (fun _ => 0)) 326 i = x.toNatClampNeg from u2_s, show kQ (nA cs 326 i x.toNatClampNeg (fun _ => 0) (fun _ => 0)) 326 i = (fun _ => none) from u2_s]; rfl) q1 q2
  have hS2 : va_S A s.heap H2 l2 := hS1.nil.comp q3
  have hz2 : H2.size = b + (kK cs + 1) := by have := q3.1; omega
  exact kk H2 l2 key.1 key.2 hS2.nil hz2 hS2.self
theorem nar_X10_15 {p : Program} {l : Launch} {e : Env} {R : Room} {s : State} {m : MethodId} {args : Array Value} {below : List Frame} {meth : Method} {c : Code} {H : Heap} {locs : List Loc} {cells slots : Nat} {Q : State → Prop} {cc : ByteArray} {pc : Nat} {ls : Array Slot} {rest : List Value} {y0 : MethodName} {c0 : ByteArray} {n0 : Nat} {r0 : Option FieldType} {dC : Nat → ClassId} {dI : Nat → Nat → Nat} {cB cI cJ cZ cS cO : ClassId} {b : Nat} {cs : CS} {A : Nat → Prop} {Gh : Heap} {cs1 : CS} {i : Nat} {x : Int32} (hx : p.tables.exec = Jvm.exec) (hb : c.code = cc) (hts : ∀ w ∈ wsOf y0 c0 n0 r0, w.before args s = true) (hown : s.vm.findClass RX10 = some m.cls) (hK : va_K (dC, dI) vwCl [(cB, .byte), (cI, .int), (cJ, .long), (cZ, .boolean), (cS, .object "StreamQueries$Source"), (cO, .object "java/lang/Object")] s) (hP : va_P (dC, dI) vwCl (cW cB cI cJ cZ cS cO b cs) H) (hD : va_D A (cW cB cI cJ cZ cS cO b cs)) (hS : va_S A Gh H locs) (hG : va_S A s.heap Gh []) (hA : ∀ q, s.heap.size ≤ q → A q) (hgz : Gh.size = b + kK cs) (hcc : s.heap.size + cells = b + kK cs) (hin : meth.name = "<init>") (hR : cells + 1 ≤ R.cells ∧ slots + x.toNatClampNeg ≤ R.slots) (hv : nwA cs 11 353 i x = some cs1) (hdg : decode cc pc = .ok (.newarray .int, 2)) (hdg2 : decode cc (pc + 2) = .ok (.putfield 15, 3)) (kk : ∀ (H1 : Heap) (locs1 : List Loc), va_P (dC, dI) vwCl (cW cB cI cJ cZ cS cO b cs1) H1 → va_D A (cW cB cI cJ cZ cS cO b cs1) → va_S A s.heap H1 [] → H1.size = b + kK cs1 → va_S A H1 H1 locs1 → W p l e R s m args below meth c H1 locs1 (cells + 1) (slots + x.toNatClampNeg) Q (F0 m (pc + 2 + 3) ls rest)) : W p l e R s m args below meth c H locs cells slots Q (F0 m pc ls (.int x :: .ref (b + i) :: rest)) := by
  refine W_sz (fun hu => ?_)
  have hz : H.size = b + kK cs := by have := hS.1; omega
  obtain ⟨⟨h1, h2, h3⟩, rfl⟩ := nwA_some hv
  have hSs := hG.comp hS
  obtain ⟨k, hk, hg⟩ := cO_at (b := b) (cB := cB) (cI := cI) (cJ := cJ) (cZ := cZ) (cS := cS) (cO := cO) (by decide) h1
  have hkl := (List.getElem?_eq_some_iff.mp hg).1
  refine va_newaK (atype := .int) hx hb (hts _ (List.mem_cons_of_mem _ kn_I)) rfl hdg rfl h2 rfl (by show x.toNatClampNeg * 4 ≤ 536870912; omega) hR.1 hR.2 hz fun H1 cA e1 z1 o1 hAr hNm => ?_
  have hcA : cI = cA := (Option.some.inj (hNm.symm.trans (show s.vm.findClass ("[" ++ FieldType.toString .int) = some cI from (hK.2 1 _ rfl).2))).symm
  subst hcA
  rw [← hz] at o1
  have hkp : ∀ (k : Nat) (y : Nat × va_E), (cW cB cI cJ cZ cS cO b cs)[k]? = some y → H1[y.1]? = H[y.1]? := fun k y hy => o1 y.1 ((hP k y hy).lt)
  have hS1 : va_S A s.heap H1 locs := ⟨Nat.le_trans hSs.1 (by omega), fun y g1 g2 => (o1 y (Nat.lt_of_lt_of_le g1 hSs.1)).trans (hSs.2.1 y g1 g2), hSs.2.2⟩
  have hP1 : va_P (dC, dI) vwCl (cW cB cI cJ cZ cS cO b cs ++ [(b + kK cs, .inl (cI, x.toNatClampNeg, .inl (fun _ => 0)))]) H1 := by
    refine (hP.kept hkp).app (fun k y hy => ?_)
    have hz1 : k < 1 := (List.getElem?_eq_some_iff.mp hy).1
    rw [show k = 0 by omega] at hy
    cases hy
    show H1[b + kK cs]? = some (vp_cell _ _)
    rw [e1]
    rfl
  have hD1 : va_D A (cW cB cI cJ cZ cS cO b cs ++ [(b + kK cs, .inl (cI, x.toNatClampNeg, .inl (fun _ => 0)))]) := hD.push hP hz.symm (hA _ (by rw [← hz]; exact hSs.1))
  refine va_putF (D := (dC, dI)) (ci := 11) (v := .ref (b + kK cs)) (ty := .array .int) (C := RX10) (T := TX10) (N := 7) hx hb hts (fun w h => List.mem_cons_of_mem _ (uG_X10 w h)) tyX10 tyX10_ok nmX10 hown hK hP1 hD1 hS1.self k ((List.getElem?_append_left hkl).trans hg) rfl 1 (by decide) (hts _ (List.mem_cons_of_mem _ kw_320)) (fun _ h9 => h9) rfl hin rfl (by decide +kernel) rfl rfl (by rw [vL_len]; decide) hdg2 (fun H2 l2 q1 q2 q3 => ?_)
  refine W_sz (fun hu2 => ?_)
  have key := cW_arr (b := b) (cB := cB) (cI := cI) (cJ := cJ) (cZ := cZ) (cS := cS) (cO := cO) (X := 11) (f0 := 1) (n := x.toNatClampNeg) (f := fun _ => 0) (g := fun _ => 0) (P := fun _ => True) (by decide) rfl hD hk (by show eA cB cI cJ cZ cS cO b (nA cs 353 i x.toNatClampNeg (fun _ => 0) (fun _ => 0)) 353 i 0 = .inl (cI, x.toNatClampNeg, .inl (fun _ => 0)); simp only [eA]; rw [show kL (nA cs 353 i x.toNatClampNeg (fun _ => 0) (fun _ => 0)) 353 i = x.toNatClampNeg from u2_s, show kA (nA cs 353 i x.toNatClampNeg (fun _ => 0) (fun _ => 0)) 353 i = (fun _ => 0) from u2_s]) q1 q2
  have hS2 : va_S A s.heap H2 l2 := hS1.nil.comp q3
  have hz2 : H2.size = b + (kK cs + 1) := by have := q3.1; omega
  exact kk H2 l2 key.1 key.2 hS2.nil hz2 hS2.self
theorem nar_X10_18 {p : Program} {l : Launch} {e : Env} {R : Room} {s : State} {m : MethodId} {args : Array Value} {below : List Frame} {meth : Method} {c : Code} {H : Heap} {locs : List Loc} {cells slots : Nat} {Q : State → Prop} {cc : ByteArray} {pc : Nat} {ls : Array Slot} {rest : List Value} {y0 : MethodName} {c0 : ByteArray} {n0 : Nat} {r0 : Option FieldType} {dC : Nat → ClassId} {dI : Nat → Nat → Nat} {cB cI cJ cZ cS cO : ClassId} {b : Nat} {cs : CS} {A : Nat → Prop} {Gh : Heap} {cs1 : CS} {i : Nat} {x : Int32} (hx : p.tables.exec = Jvm.exec) (hb : c.code = cc) (hts : ∀ w ∈ wsOf y0 c0 n0 r0, w.before args s = true) (hown : s.vm.findClass RX10 = some m.cls) (hK : va_K (dC, dI) vwCl [(cB, .byte), (cI, .int), (cJ, .long), (cZ, .boolean), (cS, .object "StreamQueries$Source"), (cO, .object "java/lang/Object")] s) (hP : va_P (dC, dI) vwCl (cW cB cI cJ cZ cS cO b cs) H) (hD : va_D A (cW cB cI cJ cZ cS cO b cs)) (hS : va_S A Gh H locs) (hG : va_S A s.heap Gh []) (hA : ∀ q, s.heap.size ≤ q → A q) (hgz : Gh.size = b + kK cs) (hcc : s.heap.size + cells = b + kK cs) (hin : meth.name = "<init>") (hR : cells + 1 ≤ R.cells ∧ slots + x.toNatClampNeg ≤ R.slots) (hv : nwA cs 11 354 i x = some cs1) (hdg : decode cc pc = .ok (.newarray .long, 2)) (hdg2 : decode cc (pc + 2) = .ok (.putfield 18, 3)) (kk : ∀ (H1 : Heap) (locs1 : List Loc), va_P (dC, dI) vwCl (cW cB cI cJ cZ cS cO b cs1) H1 → va_D A (cW cB cI cJ cZ cS cO b cs1) → va_S A s.heap H1 [] → H1.size = b + kK cs1 → va_S A H1 H1 locs1 → W p l e R s m args below meth c H1 locs1 (cells + 1) (slots + x.toNatClampNeg) Q (F0 m (pc + 2 + 3) ls rest)) : W p l e R s m args below meth c H locs cells slots Q (F0 m pc ls (.int x :: .ref (b + i) :: rest)) := by
  refine W_sz (fun hu => ?_)
  have hz : H.size = b + kK cs := by have := hS.1; omega
  obtain ⟨⟨h1, h2, h3⟩, rfl⟩ := nwA_some hv
  have hSs := hG.comp hS
  obtain ⟨k, hk, hg⟩ := cO_at (b := b) (cB := cB) (cI := cI) (cJ := cJ) (cZ := cZ) (cS := cS) (cO := cO) (by decide) h1
  have hkl := (List.getElem?_eq_some_iff.mp hg).1
  refine va_newaK (atype := .long) hx hb (hts _ (List.mem_cons_of_mem _ kn_J)) rfl hdg rfl h2 rfl (by show x.toNatClampNeg * 8 ≤ 536870912; omega) hR.1 hR.2 hz fun H1 cA e1 z1 o1 hAr hNm => ?_
  have hcA : cJ = cA := (Option.some.inj (hNm.symm.trans (show s.vm.findClass ("[" ++ FieldType.toString .long) = some cJ from (hK.2 2 _ rfl).2))).symm
  subst hcA
  rw [← hz] at o1
  have hkp : ∀ (k : Nat) (y : Nat × va_E), (cW cB cI cJ cZ cS cO b cs)[k]? = some y → H1[y.1]? = H[y.1]? := fun k y hy => o1 y.1 ((hP k y hy).lt)
  have hS1 : va_S A s.heap H1 locs := ⟨Nat.le_trans hSs.1 (by omega), fun y g1 g2 => (o1 y (Nat.lt_of_lt_of_le g1 hSs.1)).trans (hSs.2.1 y g1 g2), hSs.2.2⟩
  have hP1 : va_P (dC, dI) vwCl (cW cB cI cJ cZ cS cO b cs ++ [(b + kK cs, .inl (cJ, x.toNatClampNeg, .inr (.inl (fun _ => 0))))]) H1 := by
    refine (hP.kept hkp).app (fun k y hy => ?_)
    have hz1 : k < 1 := (List.getElem?_eq_some_iff.mp hy).1
    rw [show k = 0 by omega] at hy
    cases hy
    show H1[b + kK cs]? = some (vp_cell _ _)
    rw [e1]
    rfl
  have hD1 : va_D A (cW cB cI cJ cZ cS cO b cs ++ [(b + kK cs, .inl (cJ, x.toNatClampNeg, .inr (.inl (fun _ => 0))))]) := hD.push hP hz.symm (hA _ (by rw [← hz]; exact hSs.1))
  refine va_putF (D := (dC, dI)) (ci := 11) (v := .ref (b + kK cs)) (ty := .array .long) (C := RX10) (T := TX10) (N := 7) hx hb hts (fun w h => List.mem_cons_of_mem _ (uG_X10 w h)) tyX10 tyX10_ok nmX10 hown hK hP1 hD1 hS1.self k ((List.getElem?_append_left hkl).trans hg) rfl 2 (by decide) (hts _ (List.mem_cons_of_mem _ kw_322)) (fun _ h9 => h9) rfl hin rfl (by decide +kernel) rfl rfl (by rw [vL_len]; decide) hdg2 (fun H2 l2 q1 q2 q3 => ?_)
  refine W_sz (fun hu2 => ?_)
  have key := cW_arr (b := b) (cB := cB) (cI := cI) (cJ := cJ) (cZ := cZ) (cS := cS) (cO := cO) (X := 11) (f0 := 2) (n := x.toNatClampNeg) (f := fun _ => 0) (g := fun _ => 0) (P := fun _ => True) (by decide) rfl hD hk (by show eA cB cI cJ cZ cS cO b (nA cs 354 i x.toNatClampNeg (fun _ => 0) (fun _ => 0)) 354 i 2 = .inl (cJ, x.toNatClampNeg, .inr (.inl (fun _ => 0))); simp only [eA]; rw [show kL (nA cs 354 i x.toNatClampNeg (fun _ => 0) (fun _ => 0)) 354 i = x.toNatClampNeg from u2_s, show kB (nA cs 354 i x.toNatClampNeg (fun _ => 0) (fun _ => 0)) 354 i = (fun _ => 0) from u2_s]) q1 q2
  have hS2 : va_S A s.heap H2 l2 := hS1.nil.comp q3
  have hz2 : H2.size = b + (kK cs + 1) := by have := q3.1; omega
  exact kk H2 l2 key.1 key.2 hS2.nil hz2 hS2.self
theorem nar_X10_22 {p : Program} {l : Launch} {e : Env} {R : Room} {s : State} {m : MethodId} {args : Array Value} {below : List Frame} {meth : Method} {c : Code} {H : Heap} {locs : List Loc} {cells slots : Nat} {Q : State → Prop} {cc : ByteArray} {pc : Nat} {ls : Array Slot} {rest : List Value} {y0 : MethodName} {c0 : ByteArray} {n0 : Nat} {r0 : Option FieldType} {dC : Nat → ClassId} {dI : Nat → Nat → Nat} {cB cI cJ cZ cS cO : ClassId} {b : Nat} {cs : CS} {A : Nat → Prop} {Gh : Heap} {cs1 : CS} {i : Nat} {x : Int32} (hx : p.tables.exec = Jvm.exec) (hb : c.code = cc) (hts : ∀ w ∈ wsOf y0 c0 n0 r0, w.before args s = true) (hown : s.vm.findClass RX10 = some m.cls) (hK : va_K (dC, dI) vwCl [(cB, .byte), (cI, .int), (cJ, .long), (cZ, .boolean), (cS, .object "StreamQueries$Source"), (cO, .object "java/lang/Object")] s) (hP : va_P (dC, dI) vwCl (cW cB cI cJ cZ cS cO b cs) H) (hD : va_D A (cW cB cI cJ cZ cS cO b cs)) (hS : va_S A Gh H locs) (hG : va_S A s.heap Gh []) (hA : ∀ q, s.heap.size ≤ q → A q) (hgz : Gh.size = b + kK cs) (hcc : s.heap.size + cells = b + kK cs) (hR : cells + 1 ≤ R.cells ∧ slots + x.toNatClampNeg ≤ R.slots) (hv : nwA cs 11 355 i x = some cs1) (hdg : decode cc pc = .ok (.newarray .byte, 2)) (hdg2 : decode cc (pc + 2) = .ok (.putfield 22, 3)) (kk : ∀ (H1 : Heap) (locs1 : List Loc), va_P (dC, dI) vwCl (cW cB cI cJ cZ cS cO b cs1) H1 → va_D A (cW cB cI cJ cZ cS cO b cs1) → va_S A s.heap H1 [] → H1.size = b + kK cs1 → va_S A H1 H1 locs1 → W p l e R s m args below meth c H1 locs1 (cells + 1) (slots + x.toNatClampNeg) Q (F0 m (pc + 2 + 3) ls rest)) : W p l e R s m args below meth c H locs cells slots Q (F0 m pc ls (.int x :: .ref (b + i) :: rest)) := by
  refine W_sz (fun hu => ?_)
  have hz : H.size = b + kK cs := by have := hS.1; omega
  obtain ⟨⟨h1, h2, h3⟩, rfl⟩ := nwA_some hv
  have hSs := hG.comp hS
  obtain ⟨k, hk, hg⟩ := cO_at (b := b) (cB := cB) (cI := cI) (cJ := cJ) (cZ := cZ) (cS := cS) (cO := cO) (by decide) h1
  have hkl := (List.getElem?_eq_some_iff.mp hg).1
  refine va_newaK (atype := .byte) hx hb (hts _ (List.mem_cons_of_mem _ kn_B)) rfl hdg rfl h2 rfl (by show x.toNatClampNeg * 1 ≤ 536870912; omega) hR.1 hR.2 hz fun H1 cA e1 z1 o1 hAr hNm => ?_
  have hcA : cB = cA := (Option.some.inj (hNm.symm.trans (show s.vm.findClass ("[" ++ FieldType.toString .byte) = some cB from (hK.2 0 _ rfl).2))).symm
  subst hcA
  rw [← hz] at o1
  have hkp : ∀ (k : Nat) (y : Nat × va_E), (cW cB cI cJ cZ cS cO b cs)[k]? = some y → H1[y.1]? = H[y.1]? := fun k y hy => o1 y.1 ((hP k y hy).lt)
  have hS1 : va_S A s.heap H1 locs := ⟨Nat.le_trans hSs.1 (by omega), fun y g1 g2 => (o1 y (Nat.lt_of_lt_of_le g1 hSs.1)).trans (hSs.2.1 y g1 g2), hSs.2.2⟩
  have hP1 : va_P (dC, dI) vwCl (cW cB cI cJ cZ cS cO b cs ++ [(b + kK cs, .inl (cB, x.toNatClampNeg, .inl (fun _ => 0)))]) H1 := by
    refine (hP.kept hkp).app (fun k y hy => ?_)
    have hz1 : k < 1 := (List.getElem?_eq_some_iff.mp hy).1
    rw [show k = 0 by omega] at hy
    cases hy
    show H1[b + kK cs]? = some (vp_cell _ _)
    rw [e1]
    rfl
  have hD1 : va_D A (cW cB cI cJ cZ cS cO b cs ++ [(b + kK cs, .inl (cB, x.toNatClampNeg, .inl (fun _ => 0)))]) := hD.push hP hz.symm (hA _ (by rw [← hz]; exact hSs.1))
  refine va_put (D := (dC, dI)) (ci := 11) (v := .ref (b + kK cs)) (ty := .array .byte) (C := RX10) (T := TX10) (N := 7) hx hb hts (fun w h => List.mem_cons_of_mem _ (uG_X10 w h)) tyX10 tyX10_ok nmX10 hown hK hP1 hD1 hS1.self k ((List.getElem?_append_left hkl).trans hg) rfl 3 (by decide) (hts _ (List.mem_cons_of_mem _ kw_324)) (fun _ h9 => h9) rfl (by decide +kernel) rfl rfl (by rw [vL_len]; decide) hdg2 (fun H2 l2 q1 q2 q3 => ?_)
  refine W_sz (fun hu2 => ?_)
  have key := cW_arr (b := b) (cB := cB) (cI := cI) (cJ := cJ) (cZ := cZ) (cS := cS) (cO := cO) (X := 11) (f0 := 3) (n := x.toNatClampNeg) (f := fun _ => 0) (g := fun _ => 0) (P := fun _ => True) (by decide) rfl hD hk (by show eA cB cI cJ cZ cS cO b (nA cs 355 i x.toNatClampNeg (fun _ => 0) (fun _ => 0)) 355 i 1 = .inl (cB, x.toNatClampNeg, .inl (fun _ => 0)); simp only [eA]; rw [show kL (nA cs 355 i x.toNatClampNeg (fun _ => 0) (fun _ => 0)) 355 i = x.toNatClampNeg from u2_s, show kA (nA cs 355 i x.toNatClampNeg (fun _ => 0) (fun _ => 0)) 355 i = (fun _ => 0) from u2_s]) q1 q2
  have hS2 : va_S A s.heap H2 l2 := hS1.nil.comp q3
  have hz2 : H2.size = b + (kK cs + 1) := by have := q3.1; omega
  exact kk H2 l2 key.1 key.2 hS2.nil hz2 hS2.self
theorem nar_X10_26 {p : Program} {l : Launch} {e : Env} {R : Room} {s : State} {m : MethodId} {args : Array Value} {below : List Frame} {meth : Method} {c : Code} {H : Heap} {locs : List Loc} {cells slots : Nat} {Q : State → Prop} {cc : ByteArray} {pc : Nat} {ls : Array Slot} {rest : List Value} {y0 : MethodName} {c0 : ByteArray} {n0 : Nat} {r0 : Option FieldType} {dC : Nat → ClassId} {dI : Nat → Nat → Nat} {cB cI cJ cZ cS cO : ClassId} {b : Nat} {cs : CS} {A : Nat → Prop} {Gh : Heap} {cs1 : CS} {i : Nat} {x : Int32} (hx : p.tables.exec = Jvm.exec) (hb : c.code = cc) (hts : ∀ w ∈ wsOf y0 c0 n0 r0, w.before args s = true) (hown : s.vm.findClass RX10 = some m.cls) (hK : va_K (dC, dI) vwCl [(cB, .byte), (cI, .int), (cJ, .long), (cZ, .boolean), (cS, .object "StreamQueries$Source"), (cO, .object "java/lang/Object")] s) (hP : va_P (dC, dI) vwCl (cW cB cI cJ cZ cS cO b cs) H) (hD : va_D A (cW cB cI cJ cZ cS cO b cs)) (hS : va_S A Gh H locs) (hG : va_S A s.heap Gh []) (hA : ∀ q, s.heap.size ≤ q → A q) (hgz : Gh.size = b + kK cs) (hcc : s.heap.size + cells = b + kK cs) (hin : meth.name = "<init>") (hR : cells + 1 ≤ R.cells ∧ slots + x.toNatClampNeg ≤ R.slots) (hv : nwA cs 11 358 i x = some cs1) (hdg : decode cc pc = .ok (.newarray .long, 2)) (hdg2 : decode cc (pc + 2) = .ok (.putfield 26, 3)) (kk : ∀ (H1 : Heap) (locs1 : List Loc), va_P (dC, dI) vwCl (cW cB cI cJ cZ cS cO b cs1) H1 → va_D A (cW cB cI cJ cZ cS cO b cs1) → va_S A s.heap H1 [] → H1.size = b + kK cs1 → va_S A H1 H1 locs1 → W p l e R s m args below meth c H1 locs1 (cells + 1) (slots + x.toNatClampNeg) Q (F0 m (pc + 2 + 3) ls rest)) : W p l e R s m args below meth c H locs cells slots Q (F0 m pc ls (.int x :: .ref (b + i) :: rest)) := by
  refine W_sz (fun hu => ?_)
  have hz : H.size = b + kK cs := by have := hS.1; omega
  obtain ⟨⟨h1, h2, h3⟩, rfl⟩ := nwA_some hv
  have hSs := hG.comp hS
  obtain ⟨k, hk, hg⟩ := cO_at (b := b) (cB := cB) (cI := cI) (cJ := cJ) (cZ := cZ) (cS := cS) (cO := cO) (by decide) h1
  have hkl := (List.getElem?_eq_some_iff.mp hg).1
  refine va_newaK (atype := .long) hx hb (hts _ (List.mem_cons_of_mem _ kn_J)) rfl hdg rfl h2 rfl (by show x.toNatClampNeg * 8 ≤ 536870912; omega) hR.1 hR.2 hz fun H1 cA e1 z1 o1 hAr hNm => ?_
  have hcA : cJ = cA := (Option.some.inj (hNm.symm.trans (show s.vm.findClass ("[" ++ FieldType.toString .long) = some cJ from (hK.2 2 _ rfl).2))).symm
  subst hcA
  rw [← hz] at o1
  have hkp : ∀ (k : Nat) (y : Nat × va_E), (cW cB cI cJ cZ cS cO b cs)[k]? = some y → H1[y.1]? = H[y.1]? := fun k y hy => o1 y.1 ((hP k y hy).lt)
  have hS1 : va_S A s.heap H1 locs := ⟨Nat.le_trans hSs.1 (by omega), fun y g1 g2 => (o1 y (Nat.lt_of_lt_of_le g1 hSs.1)).trans (hSs.2.1 y g1 g2), hSs.2.2⟩
  have hP1 : va_P (dC, dI) vwCl (cW cB cI cJ cZ cS cO b cs ++ [(b + kK cs, .inl (cJ, x.toNatClampNeg, .inr (.inl (fun _ => 0))))]) H1 := by
    refine (hP.kept hkp).app (fun k y hy => ?_)
    have hz1 : k < 1 := (List.getElem?_eq_some_iff.mp hy).1
    rw [show k = 0 by omega] at hy
    cases hy
    show H1[b + kK cs]? = some (vp_cell _ _)
    rw [e1]
    rfl
  have hD1 : va_D A (cW cB cI cJ cZ cS cO b cs ++ [(b + kK cs, .inl (cJ, x.toNatClampNeg, .inr (.inl (fun _ => 0))))]) := hD.push hP hz.symm (hA _ (by rw [← hz]; exact hSs.1))
  refine va_putF (D := (dC, dI)) (ci := 11) (v := .ref (b + kK cs)) (ty := .array .long) (C := RX10) (T := TX10) (N := 7) hx hb hts (fun w h => List.mem_cons_of_mem _ (uG_X10 w h)) tyX10 tyX10_ok nmX10 hown hK hP1 hD1 hS1.self k ((List.getElem?_append_left hkl).trans hg) rfl 6 (by decide) (hts _ (List.mem_cons_of_mem _ kw_327)) (fun _ h9 => h9) rfl hin rfl (by decide +kernel) rfl rfl (by rw [vL_len]; decide) hdg2 (fun H2 l2 q1 q2 q3 => ?_)
  refine W_sz (fun hu2 => ?_)
  have key := cW_arr (b := b) (cB := cB) (cI := cI) (cJ := cJ) (cZ := cZ) (cS := cS) (cO := cO) (X := 11) (f0 := 6) (n := x.toNatClampNeg) (f := fun _ => 0) (g := fun _ => 0) (P := fun _ => True) (by decide) rfl hD hk (by show eA cB cI cJ cZ cS cO b (nA cs 358 i x.toNatClampNeg (fun _ => 0) (fun _ => 0)) 358 i 2 = .inl (cJ, x.toNatClampNeg, .inr (.inl (fun _ => 0))); simp only [eA]; rw [show kL (nA cs 358 i x.toNatClampNeg (fun _ => 0) (fun _ => 0)) 358 i = x.toNatClampNeg from u2_s, show kB (nA cs 358 i x.toNatClampNeg (fun _ => 0) (fun _ => 0)) 358 i = (fun _ => 0) from u2_s]) q1 q2
  have hS2 : va_S A s.heap H2 l2 := hS1.nil.comp q3
  have hz2 : H2.size = b + (kK cs + 1) := by have := q3.1; omega
  exact kk H2 l2 key.1 key.2 hS2.nil hz2 hS2.self
theorem nar_X10_9 {p : Program} {l : Launch} {e : Env} {R : Room} {s : State} {m : MethodId} {args : Array Value} {below : List Frame} {meth : Method} {c : Code} {H : Heap} {locs : List Loc} {cells slots : Nat} {Q : State → Prop} {cc : ByteArray} {pc : Nat} {ls : Array Slot} {rest : List Value} {y0 : MethodName} {c0 : ByteArray} {n0 : Nat} {r0 : Option FieldType} {dC : Nat → ClassId} {dI : Nat → Nat → Nat} {cB cI cJ cZ cS cO : ClassId} {b : Nat} {cs : CS} {A : Nat → Prop} {Gh : Heap} {cs1 : CS} {i : Nat} {x : Int32} (hx : p.tables.exec = Jvm.exec) (hb : c.code = cc) (hts : ∀ w ∈ wsOf y0 c0 n0 r0, w.before args s = true) (hown : s.vm.findClass RX10 = some m.cls) (hK : va_K (dC, dI) vwCl [(cB, .byte), (cI, .int), (cJ, .long), (cZ, .boolean), (cS, .object "StreamQueries$Source"), (cO, .object "java/lang/Object")] s) (hP : va_P (dC, dI) vwCl (cW cB cI cJ cZ cS cO b cs) H) (hD : va_D A (cW cB cI cJ cZ cS cO b cs)) (hS : va_S A Gh H locs) (hG : va_S A s.heap Gh []) (hA : ∀ q, s.heap.size ≤ q → A q) (hgz : Gh.size = b + kK cs) (hcc : s.heap.size + cells = b + kK cs) (hin : meth.name = "<init>") (hR : cells + 1 ≤ R.cells ∧ slots + x.toNatClampNeg ≤ R.slots) (hv : nwA cs 11 352 i x = some cs1) (hdg : decode cc pc = .ok (.newarray .int, 2)) (hdg2 : decode cc (pc + 2) = .ok (.putfield 9, 3)) (kk : ∀ (H1 : Heap) (locs1 : List Loc), va_P (dC, dI) vwCl (cW cB cI cJ cZ cS cO b cs1) H1 → va_D A (cW cB cI cJ cZ cS cO b cs1) → va_S A s.heap H1 [] → H1.size = b + kK cs1 → va_S A H1 H1 locs1 → W p l e R s m args below meth c H1 locs1 (cells + 1) (slots + x.toNatClampNeg) Q (F0 m (pc + 2 + 3) ls rest)) : W p l e R s m args below meth c H locs cells slots Q (F0 m pc ls (.int x :: .ref (b + i) :: rest)) := by
  refine W_sz (fun hu => ?_)
  have hz : H.size = b + kK cs := by have := hS.1; omega
  obtain ⟨⟨h1, h2, h3⟩, rfl⟩ := nwA_some hv
  have hSs := hG.comp hS
  obtain ⟨k, hk, hg⟩ := cO_at (b := b) (cB := cB) (cI := cI) (cJ := cJ) (cZ := cZ) (cS := cS) (cO := cO) (by decide) h1
  have hkl := (List.getElem?_eq_some_iff.mp hg).1
  refine va_newaK (atype := .int) hx hb (hts _ (List.mem_cons_of_mem _ kn_I)) rfl hdg rfl h2 rfl (by show x.toNatClampNeg * 4 ≤ 536870912; omega) hR.1 hR.2 hz fun H1 cA e1 z1 o1 hAr hNm => ?_
  have hcA : cI = cA := (Option.some.inj (hNm.symm.trans (show s.vm.findClass ("[" ++ FieldType.toString .int) = some cI from (hK.2 1 _ rfl).2))).symm
  subst hcA
  rw [← hz] at o1
  have hkp : ∀ (k : Nat) (y : Nat × va_E), (cW cB cI cJ cZ cS cO b cs)[k]? = some y → H1[y.1]? = H[y.1]? := fun k y hy => o1 y.1 ((hP k y hy).lt)
  have hS1 : va_S A s.heap H1 locs := ⟨Nat.le_trans hSs.1 (by omega), fun y g1 g2 => (o1 y (Nat.lt_of_lt_of_le g1 hSs.1)).trans (hSs.2.1 y g1 g2), hSs.2.2⟩
  have hP1 : va_P (dC, dI) vwCl (cW cB cI cJ cZ cS cO b cs ++ [(b + kK cs, .inl (cI, x.toNatClampNeg, .inl (fun _ => 0)))]) H1 := by
    refine (hP.kept hkp).app (fun k y hy => ?_)
    have hz1 : k < 1 := (List.getElem?_eq_some_iff.mp hy).1
    rw [show k = 0 by omega] at hy
    cases hy
    show H1[b + kK cs]? = some (vp_cell _ _)
    rw [e1]
    rfl
  have hD1 : va_D A (cW cB cI cJ cZ cS cO b cs ++ [(b + kK cs, .inl (cI, x.toNatClampNeg, .inl (fun _ => 0)))]) := hD.push hP hz.symm (hA _ (by rw [← hz]; exact hSs.1))
  refine va_putF (D := (dC, dI)) (ci := 11) (v := .ref (b + kK cs)) (ty := .array .int) (C := RX10) (T := TX10) (N := 7) hx hb hts (fun w h => List.mem_cons_of_mem _ (uG_X10 w h)) tyX10 tyX10_ok nmX10 hown hK hP1 hD1 hS1.self k ((List.getElem?_append_left hkl).trans hg) rfl 0 (by decide) (hts _ (List.mem_cons_of_mem _ kw_318)) (fun _ h9 => h9) rfl hin rfl (by decide +kernel) rfl rfl (by rw [vL_len]; decide) hdg2 (fun H2 l2 q1 q2 q3 => ?_)
  refine W_sz (fun hu2 => ?_)
  have key := cW_arr (b := b) (cB := cB) (cI := cI) (cJ := cJ) (cZ := cZ) (cS := cS) (cO := cO) (X := 11) (f0 := 0) (n := x.toNatClampNeg) (f := fun _ => 0) (g := fun _ => 0) (P := fun _ => True) (by decide) rfl hD hk (by show eA cB cI cJ cZ cS cO b (nA cs 352 i x.toNatClampNeg (fun _ => 0) (fun _ => 0)) 352 i 0 = .inl (cI, x.toNatClampNeg, .inl (fun _ => 0)); simp only [eA]; rw [show kL (nA cs 352 i x.toNatClampNeg (fun _ => 0) (fun _ => 0)) 352 i = x.toNatClampNeg from u2_s, show kA (nA cs 352 i x.toNatClampNeg (fun _ => 0) (fun _ => 0)) 352 i = (fun _ => 0) from u2_s]) q1 q2
  have hS2 : va_S A s.heap H2 l2 := hS1.nil.comp q3
  have hz2 : H2.size = b + (kK cs + 1) := by have := q3.1; omega
  exact kk H2 l2 key.1 key.2 hS2.nil hz2 hS2.self
theorem nar_X11_43 {p : Program} {l : Launch} {e : Env} {R : Room} {s : State} {m : MethodId} {args : Array Value} {below : List Frame} {meth : Method} {c : Code} {H : Heap} {locs : List Loc} {cells slots : Nat} {Q : State → Prop} {cc : ByteArray} {pc : Nat} {ls : Array Slot} {rest : List Value} {y0 : MethodName} {c0 : ByteArray} {n0 : Nat} {r0 : Option FieldType} {dC : Nat → ClassId} {dI : Nat → Nat → Nat} {cB cI cJ cZ cS cO : ClassId} {b : Nat} {cs : CS} {A : Nat → Prop} {Gh : Heap} {cs1 : CS} {i : Nat} {x : Int32} (hx : p.tables.exec = Jvm.exec) (hb : c.code = cc) (hts : ∀ w ∈ wsOf y0 c0 n0 r0, w.before args s = true) (hown : s.vm.findClass RX11 = some m.cls) (hK : va_K (dC, dI) vwCl [(cB, .byte), (cI, .int), (cJ, .long), (cZ, .boolean), (cS, .object "StreamQueries$Source"), (cO, .object "java/lang/Object")] s) (hP : va_P (dC, dI) vwCl (cW cB cI cJ cZ cS cO b cs) H) (hD : va_D A (cW cB cI cJ cZ cS cO b cs)) (hS : va_S A Gh H locs) (hG : va_S A s.heap Gh []) (hA : ∀ q, s.heap.size ≤ q → A q) (hgz : Gh.size = b + kK cs) (hcc : s.heap.size + cells = b + kK cs) (hR : cells + 1 ≤ R.cells ∧ slots + x.toNatClampNeg ≤ R.slots) (hv : nwA cs 12 396 i x = some cs1) (hdg : decode cc pc = .ok (.newarray .int, 2)) (hdg2 : decode cc (pc + 2) = .ok (.putfield 43, 3)) (kk : ∀ (H1 : Heap) (locs1 : List Loc), va_P (dC, dI) vwCl (cW cB cI cJ cZ cS cO b cs1) H1 → va_D A (cW cB cI cJ cZ cS cO b cs1) → va_S A s.heap H1 [] → H1.size = b + kK cs1 → va_S A H1 H1 locs1 → W p l e R s m args below meth c H1 locs1 (cells + 1) (slots + x.toNatClampNeg) Q (F0 m (pc + 2 + 3) ls rest)) : W p l e R s m args below meth c H locs cells slots Q (F0 m pc ls (.int x :: .ref (b + i) :: rest)) := by
  refine W_sz (fun hu => ?_)
  have hz : H.size = b + kK cs := by have := hS.1; omega
  obtain ⟨⟨h1, h2, h3⟩, rfl⟩ := nwA_some hv
  have hSs := hG.comp hS
  obtain ⟨k, hk, hg⟩ := cO_at (b := b) (cB := cB) (cI := cI) (cJ := cJ) (cZ := cZ) (cS := cS) (cO := cO) (by decide) h1
  have hkl := (List.getElem?_eq_some_iff.mp hg).1
  refine va_newaK (atype := .int) hx hb (hts _ (List.mem_cons_of_mem _ kn_I)) rfl hdg rfl h2 rfl (by show x.toNatClampNeg * 4 ≤ 536870912; omega) hR.1 hR.2 hz fun H1 cA e1 z1 o1 hAr hNm => ?_
  have hcA : cI = cA := (Option.some.inj (hNm.symm.trans (show s.vm.findClass ("[" ++ FieldType.toString .int) = some cI from (hK.2 1 _ rfl).2))).symm
  subst hcA
  rw [← hz] at o1
  have hkp : ∀ (k : Nat) (y : Nat × va_E), (cW cB cI cJ cZ cS cO b cs)[k]? = some y → H1[y.1]? = H[y.1]? := fun k y hy => o1 y.1 ((hP k y hy).lt)
  have hS1 : va_S A s.heap H1 locs := ⟨Nat.le_trans hSs.1 (by omega), fun y g1 g2 => (o1 y (Nat.lt_of_lt_of_le g1 hSs.1)).trans (hSs.2.1 y g1 g2), hSs.2.2⟩
  have hP1 : va_P (dC, dI) vwCl (cW cB cI cJ cZ cS cO b cs ++ [(b + kK cs, .inl (cI, x.toNatClampNeg, .inl (fun _ => 0)))]) H1 := by
    refine (hP.kept hkp).app (fun k y hy => ?_)
    have hz1 : k < 1 := (List.getElem?_eq_some_iff.mp hy).1
    rw [show k = 0 by omega] at hy
    cases hy
    show H1[b + kK cs]? = some (vp_cell _ _)
    rw [e1]
    rfl
  have hD1 : va_D A (cW cB cI cJ cZ cS cO b cs ++ [(b + kK cs, .inl (cI, x.toNatClampNeg, .inl (fun _ => 0)))]) := hD.push hP hz.symm (hA _ (by rw [← hz]; exact hSs.1))
  refine va_put (D := (dC, dI)) (ci := 12) (v := .ref (b + kK cs)) (ty := .array .int) (C := RX11) (T := TX11) (N := 16) hx hb hts (fun w h => List.mem_cons_of_mem _ (uG_X11 w h)) tyX11 tyX11_ok nmX11 hown hK hP1 hD1 hS1.self k ((List.getElem?_append_left hkl).trans hg) rfl 12 (by decide) (hts _ (List.mem_cons_of_mem _ kw_440)) (fun _ h9 => h9) rfl (by decide +kernel) rfl rfl (by rw [vL_len]; decide) hdg2 (fun H2 l2 q1 q2 q3 => ?_)
  refine W_sz (fun hu2 => ?_)
  have key := cW_arr (b := b) (cB := cB) (cI := cI) (cJ := cJ) (cZ := cZ) (cS := cS) (cO := cO) (X := 12) (f0 := 12) (n := x.toNatClampNeg) (f := fun _ => 0) (g := fun _ => 0) (P := fun _ => True) (by decide) rfl hD hk (by show eA cB cI cJ cZ cS cO b (nA cs 396 i x.toNatClampNeg (fun _ => 0) (fun _ => 0)) 396 i 0 = .inl (cI, x.toNatClampNeg, .inl (fun _ => 0)); simp only [eA]; rw [show kL (nA cs 396 i x.toNatClampNeg (fun _ => 0) (fun _ => 0)) 396 i = x.toNatClampNeg from u2_s, show kA (nA cs 396 i x.toNatClampNeg (fun _ => 0) (fun _ => 0)) 396 i = (fun _ => 0) from u2_s]) q1 q2
  have hS2 : va_S A s.heap H2 l2 := hS1.nil.comp q3
  have hz2 : H2.size = b + (kK cs + 1) := by have := q3.1; omega
  exact kk H2 l2 key.1 key.2 hS2.nil hz2 hS2.self
theorem nar_X11_47 {p : Program} {l : Launch} {e : Env} {R : Room} {s : State} {m : MethodId} {args : Array Value} {below : List Frame} {meth : Method} {c : Code} {H : Heap} {locs : List Loc} {cells slots : Nat} {Q : State → Prop} {cc : ByteArray} {pc : Nat} {ls : Array Slot} {rest : List Value} {y0 : MethodName} {c0 : ByteArray} {n0 : Nat} {r0 : Option FieldType} {dC : Nat → ClassId} {dI : Nat → Nat → Nat} {cB cI cJ cZ cS cO : ClassId} {b : Nat} {cs : CS} {A : Nat → Prop} {Gh : Heap} {cs1 : CS} {i : Nat} {x : Int32} (hx : p.tables.exec = Jvm.exec) (hb : c.code = cc) (hts : ∀ w ∈ wsOf y0 c0 n0 r0, w.before args s = true) (hown : s.vm.findClass RX11 = some m.cls) (hK : va_K (dC, dI) vwCl [(cB, .byte), (cI, .int), (cJ, .long), (cZ, .boolean), (cS, .object "StreamQueries$Source"), (cO, .object "java/lang/Object")] s) (hP : va_P (dC, dI) vwCl (cW cB cI cJ cZ cS cO b cs) H) (hD : va_D A (cW cB cI cJ cZ cS cO b cs)) (hS : va_S A Gh H locs) (hG : va_S A s.heap Gh []) (hA : ∀ q, s.heap.size ≤ q → A q) (hgz : Gh.size = b + kK cs) (hcc : s.heap.size + cells = b + kK cs) (hR : cells + 1 ≤ R.cells ∧ slots + x.toNatClampNeg ≤ R.slots) (hv : nwA cs 12 397 i x = some cs1) (hdg : decode cc pc = .ok (.newarray .int, 2)) (hdg2 : decode cc (pc + 2) = .ok (.putfield 47, 3)) (kk : ∀ (H1 : Heap) (locs1 : List Loc), va_P (dC, dI) vwCl (cW cB cI cJ cZ cS cO b cs1) H1 → va_D A (cW cB cI cJ cZ cS cO b cs1) → va_S A s.heap H1 [] → H1.size = b + kK cs1 → va_S A H1 H1 locs1 → W p l e R s m args below meth c H1 locs1 (cells + 1) (slots + x.toNatClampNeg) Q (F0 m (pc + 2 + 3) ls rest)) : W p l e R s m args below meth c H locs cells slots Q (F0 m pc ls (.int x :: .ref (b + i) :: rest)) := by
  refine W_sz (fun hu => ?_)
  have hz : H.size = b + kK cs := by have := hS.1; omega
  obtain ⟨⟨h1, h2, h3⟩, rfl⟩ := nwA_some hv
  have hSs := hG.comp hS
  obtain ⟨k, hk, hg⟩ := cO_at (b := b) (cB := cB) (cI := cI) (cJ := cJ) (cZ := cZ) (cS := cS) (cO := cO) (by decide) h1
  have hkl := (List.getElem?_eq_some_iff.mp hg).1
  refine va_newaK (atype := .int) hx hb (hts _ (List.mem_cons_of_mem _ kn_I)) rfl hdg rfl h2 rfl (by show x.toNatClampNeg * 4 ≤ 536870912; omega) hR.1 hR.2 hz fun H1 cA e1 z1 o1 hAr hNm => ?_
  have hcA : cI = cA := (Option.some.inj (hNm.symm.trans (show s.vm.findClass ("[" ++ FieldType.toString .int) = some cI from (hK.2 1 _ rfl).2))).symm
  subst hcA
  rw [← hz] at o1
  have hkp : ∀ (k : Nat) (y : Nat × va_E), (cW cB cI cJ cZ cS cO b cs)[k]? = some y → H1[y.1]? = H[y.1]? := fun k y hy => o1 y.1 ((hP k y hy).lt)
  have hS1 : va_S A s.heap H1 locs := ⟨Nat.le_trans hSs.1 (by omega), fun y g1 g2 => (o1 y (Nat.lt_of_lt_of_le g1 hSs.1)).trans (hSs.2.1 y g1 g2), hSs.2.2⟩
  have hP1 : va_P (dC, dI) vwCl (cW cB cI cJ cZ cS cO b cs ++ [(b + kK cs, .inl (cI, x.toNatClampNeg, .inl (fun _ => 0)))]) H1 := by
    refine (hP.kept hkp).app (fun k y hy => ?_)
    have hz1 : k < 1 := (List.getElem?_eq_some_iff.mp hy).1
    rw [show k = 0 by omega] at hy
    cases hy
    show H1[b + kK cs]? = some (vp_cell _ _)
    rw [e1]
    rfl
  have hD1 : va_D A (cW cB cI cJ cZ cS cO b cs ++ [(b + kK cs, .inl (cI, x.toNatClampNeg, .inl (fun _ => 0)))]) := hD.push hP hz.symm (hA _ (by rw [← hz]; exact hSs.1))
  refine va_put (D := (dC, dI)) (ci := 12) (v := .ref (b + kK cs)) (ty := .array .int) (C := RX11) (T := TX11) (N := 16) hx hb hts (fun w h => List.mem_cons_of_mem _ (uG_X11 w h)) tyX11 tyX11_ok nmX11 hown hK hP1 hD1 hS1.self k ((List.getElem?_append_left hkl).trans hg) rfl 13 (by decide) (hts _ (List.mem_cons_of_mem _ kw_441)) (fun _ h9 => h9) rfl (by decide +kernel) rfl rfl (by rw [vL_len]; decide) hdg2 (fun H2 l2 q1 q2 q3 => ?_)
  refine W_sz (fun hu2 => ?_)
  have key := cW_arr (b := b) (cB := cB) (cI := cI) (cJ := cJ) (cZ := cZ) (cS := cS) (cO := cO) (X := 12) (f0 := 13) (n := x.toNatClampNeg) (f := fun _ => 0) (g := fun _ => 0) (P := fun _ => True) (by decide) rfl hD hk (by show eA cB cI cJ cZ cS cO b (nA cs 397 i x.toNatClampNeg (fun _ => 0) (fun _ => 0)) 397 i 0 = .inl (cI, x.toNatClampNeg, .inl (fun _ => 0)); simp only [eA]; rw [show kL (nA cs 397 i x.toNatClampNeg (fun _ => 0) (fun _ => 0)) 397 i = x.toNatClampNeg from u2_s, show kA (nA cs 397 i x.toNatClampNeg (fun _ => 0) (fun _ => 0)) 397 i = (fun _ => 0) from u2_s]) q1 q2
  have hS2 : va_S A s.heap H2 l2 := hS1.nil.comp q3
  have hz2 : H2.size = b + (kK cs + 1) := by have := q3.1; omega
  exact kk H2 l2 key.1 key.2 hS2.nil hz2 hS2.self
theorem nar_X11_9 {p : Program} {l : Launch} {e : Env} {R : Room} {s : State} {m : MethodId} {args : Array Value} {below : List Frame} {meth : Method} {c : Code} {H : Heap} {locs : List Loc} {cells slots : Nat} {Q : State → Prop} {cc : ByteArray} {pc : Nat} {ls : Array Slot} {rest : List Value} {y0 : MethodName} {c0 : ByteArray} {n0 : Nat} {r0 : Option FieldType} {dC : Nat → ClassId} {dI : Nat → Nat → Nat} {cB cI cJ cZ cS cO : ClassId} {b : Nat} {cs : CS} {A : Nat → Prop} {Gh : Heap} {cs1 : CS} {i : Nat} {x : Int32} (hx : p.tables.exec = Jvm.exec) (hb : c.code = cc) (hts : ∀ w ∈ wsOf y0 c0 n0 r0, w.before args s = true) (hown : s.vm.findClass RX11 = some m.cls) (hK : va_K (dC, dI) vwCl [(cB, .byte), (cI, .int), (cJ, .long), (cZ, .boolean), (cS, .object "StreamQueries$Source"), (cO, .object "java/lang/Object")] s) (hP : va_P (dC, dI) vwCl (cW cB cI cJ cZ cS cO b cs) H) (hD : va_D A (cW cB cI cJ cZ cS cO b cs)) (hS : va_S A Gh H locs) (hG : va_S A s.heap Gh []) (hA : ∀ q, s.heap.size ≤ q → A q) (hgz : Gh.size = b + kK cs) (hcc : s.heap.size + cells = b + kK cs) (hin : meth.name = "<init>") (hR : cells + 1 ≤ R.cells ∧ slots + x.toNatClampNeg ≤ R.slots) (hv : nwA cs 12 384 i x = some cs1) (hdg : decode cc pc = .ok (.newarray .byte, 2)) (hdg2 : decode cc (pc + 2) = .ok (.putfield 9, 3)) (kk : ∀ (H1 : Heap) (locs1 : List Loc), va_P (dC, dI) vwCl (cW cB cI cJ cZ cS cO b cs1) H1 → va_D A (cW cB cI cJ cZ cS cO b cs1) → va_S A s.heap H1 [] → H1.size = b + kK cs1 → va_S A H1 H1 locs1 → W p l e R s m args below meth c H1 locs1 (cells + 1) (slots + x.toNatClampNeg) Q (F0 m (pc + 2 + 3) ls rest)) : W p l e R s m args below meth c H locs cells slots Q (F0 m pc ls (.int x :: .ref (b + i) :: rest)) := by
  refine W_sz (fun hu => ?_)
  have hz : H.size = b + kK cs := by have := hS.1; omega
  obtain ⟨⟨h1, h2, h3⟩, rfl⟩ := nwA_some hv
  have hSs := hG.comp hS
  obtain ⟨k, hk, hg⟩ := cO_at (b := b) (cB := cB) (cI := cI) (cJ := cJ) (cZ := cZ) (cS := cS) (cO := cO) (by decide) h1
  have hkl := (List.getElem?_eq_some_iff.mp hg).1
  refine va_newaK (atype := .byte) hx hb (hts _ (List.mem_cons_of_mem _ kn_B)) rfl hdg rfl h2 rfl (by show x.toNatClampNeg * 1 ≤ 536870912; omega) hR.1 hR.2 hz fun H1 cA e1 z1 o1 hAr hNm => ?_
  have hcA : cB = cA := (Option.some.inj (hNm.symm.trans (show s.vm.findClass ("[" ++ FieldType.toString .byte) = some cB from (hK.2 0 _ rfl).2))).symm
  subst hcA
  rw [← hz] at o1
  have hkp : ∀ (k : Nat) (y : Nat × va_E), (cW cB cI cJ cZ cS cO b cs)[k]? = some y → H1[y.1]? = H[y.1]? := fun k y hy => o1 y.1 ((hP k y hy).lt)
  have hS1 : va_S A s.heap H1 locs := ⟨Nat.le_trans hSs.1 (by omega), fun y g1 g2 => (o1 y (Nat.lt_of_lt_of_le g1 hSs.1)).trans (hSs.2.1 y g1 g2), hSs.2.2⟩
  have hP1 : va_P (dC, dI) vwCl (cW cB cI cJ cZ cS cO b cs ++ [(b + kK cs, .inl (cB, x.toNatClampNeg, .inl (fun _ => 0)))]) H1 := by
    refine (hP.kept hkp).app (fun k y hy => ?_)
    have hz1 : k < 1 := (List.getElem?_eq_some_iff.mp hy).1
    rw [show k = 0 by omega] at hy
    cases hy
    show H1[b + kK cs]? = some (vp_cell _ _)
    rw [e1]
    rfl
  have hD1 : va_D A (cW cB cI cJ cZ cS cO b cs ++ [(b + kK cs, .inl (cB, x.toNatClampNeg, .inl (fun _ => 0)))]) := hD.push hP hz.symm (hA _ (by rw [← hz]; exact hSs.1))
  refine va_putF (D := (dC, dI)) (ci := 12) (v := .ref (b + kK cs)) (ty := .array .byte) (C := RX11) (T := TX11) (N := 16) hx hb hts (fun w h => List.mem_cons_of_mem _ (uG_X11 w h)) tyX11 tyX11_ok nmX11 hown hK hP1 hD1 hS1.self k ((List.getElem?_append_left hkl).trans hg) rfl 0 (by decide) (hts _ (List.mem_cons_of_mem _ kw_428)) (fun _ h9 => h9) rfl hin rfl (by decide +kernel) rfl rfl (by rw [vL_len]; decide) hdg2 (fun H2 l2 q1 q2 q3 => ?_)
  refine W_sz (fun hu2 => ?_)
  have key := cW_arr (b := b) (cB := cB) (cI := cI) (cJ := cJ) (cZ := cZ) (cS := cS) (cO := cO) (X := 12) (f0 := 0) (n := x.toNatClampNeg) (f := fun _ => 0) (g := fun _ => 0) (P := fun _ => True) (by decide) rfl hD hk (by show eA cB cI cJ cZ cS cO b (nA cs 384 i x.toNatClampNeg (fun _ => 0) (fun _ => 0)) 384 i 1 = .inl (cB, x.toNatClampNeg, .inl (fun _ => 0)); simp only [eA]; rw [show kL (nA cs 384 i x.toNatClampNeg (fun _ => 0) (fun _ => 0)) 384 i = x.toNatClampNeg from u2_s, show kA (nA cs 384 i x.toNatClampNeg (fun _ => 0) (fun _ => 0)) 384 i = (fun _ => 0) from u2_s]) q1 q2
  have hS2 : va_S A s.heap H2 l2 := hS1.nil.comp q3
  have hz2 : H2.size = b + (kK cs + 1) := by have := q3.1; omega
  exact kk H2 l2 key.1 key.2 hS2.nil hz2 hS2.self

theorem cW_jmp {cB cI cJ cZ cS cO : ClassId} {b : Nat} {cs : CS} : cW cB cI cJ cZ cS cO b (kJmp cs) = cW cB cI cJ cZ cS cO b cs := by
  show (kE cs).map (fun q => (aC b (kJmp cs) q, eC cB cI cJ cZ cS cO b (kJmp cs) q)) = (kE cs).map (fun q => (aC b cs q, eC cB cI cJ cZ cS cO b cs q))
  refine List.map_congr_left (fun q _ => ?_)
  obtain ⟨Y, i⟩ := q
  have ea : aC b (kJmp cs) (Y, i) = aC b cs (Y, i) := rfl
  have ee : eC cB cI cJ cZ cS cO b (kJmp cs) (Y, i) = eC cB cI cJ cZ cS cO b cs (Y, i) := by
    unfold eC
    by_cases hY : Y < 32
    · rw [if_pos hY, if_pos hY]
      show Sum.inr (Y, vL b (kJmp cs) i (32 * Y) (tyX Y)) = Sum.inr (Y, vL b cs i (32 * Y) (tyX Y))
      rw [vL_eq (fun z w _ _ => ?_)]
      match w with
      | 0 => rfl
      | 1 => rfl
      | 2 => rfl
      | _ + 3 => rfl
    · rw [if_neg hY, if_neg hY]; rfl
  rw [ea, ee]
set_option maxRecDepth 100000 in
theorem law_from {p : Program} {e : Env} {s : State} {m : MethodId} {below : List Frame} {meth : Method} {c : Code} (l : Launch) {bb L : Nat} {xs : Nat → Int32} (hL : L ≤ 384) (C0 : lw_At p s m meth c bb L xs) {F n : Nat} {cs1 cs9 : CS} {rs9 : RS} (hI : c_X11_init F (nO csE 12 16) 0 = some cs1) (h1 : 6 * n ≤ L) (h2 : L < 6 * n + 6) (hf : LW F xs n 0 (kJmp cs1) rsE = some (cs9, rs9)) (hR1 : kK cs9 ≤ 600000) (hR2 : kM cs9 ≤ 7302250) : W p l e room_1 s m #[Value.ref bb] below meth c s.heap [] 0 0 (lw_Z below #[Value.ref bb] s) (entryFrame m ([Value.ref bb] : List Value).toArray 4) := by
  obtain ⟨hx, hb, hr, hml, hown, hts, hX, hbl, hlocks, hgv⟩ := id C0
  obtain ⟨K, V, fz, hZ⟩ := zE_start hts hgv
  obtain ⟨dC, dI, cB, cI, cJ, cZ, cS, cO, hK⟩ := ks_start hts
  obtain ⟨A, hAe⟩ : ∃ A : Nat → Prop, A = fun q : Nat => s.heap.size ≤ q := ⟨_, rfl⟩
  rw [← hAe] at hZ
  have hA : ∀ q : Nat, s.heap.size ≤ q → A q := by rw [hAe]; exact fun _ h => h
  have hAf : ∀ q : Nat, A q → s.heap.size ≤ q := by rw [hAe]; exact fun _ h => h
  have hbA : ¬ A bb := fun h => absurd (hAf bb h) (Nat.not_le.mpr hbl)
  have hS : va_S A s.heap s.heap [] := va_S.rf
  obtain ⟨b, hbe⟩ : ∃ b, s.heap.size = b := ⟨_, rfl⟩
  have hw0 : cW cB cI cJ cZ cS cO b csE = [] := rfl
  have hP : va_P (dC, dI) vwCl (cW cB cI cJ cZ cS cO b csE) s.heap := fun k q h => by rw [hw0] at h; simp at h
  have hD : va_D A (cW cB cI cJ cZ cS cO b csE) := ⟨fun i j p q h => by rw [hw0] at h; simp at h, fun k q h => by rw [hw0] at h; simp at h⟩
  have hmoL := mo_LW n 0 hf
  have hkJ1 : kK (kJmp cs1) = kK cs1 + 78 := rfl
  have hkJ2 : kM (kJmp cs1) = kM cs1 + 877544 := rfl
  have hokI := sa_X11_init l dC dI cB cI cJ cZ cS cO b K V fz F (nO csE 12 16) 0 cs1 hI
  have hmo := hokI.1
  have hk0 : kK (nO csE 12 16) = 1 := rfl
  have hk1 : kM (nO csE 12 16) = 16 := rfl
  have hl := lv_entry ([.ref bb]) (n := 4) (Nat.le_of_ble_eq_true rfl)
  rw [lg_entry_eq]
  generalize (lg_sl ([.ref bb]) ++ List.replicate (4 - (lg_sl ([.ref bb])).length) Slot.unset).toArray = ls at hl ⊢
  have hl : lv_has ls 4 [(0, .ref bb)] := hl
  refine lw_new (ci := 12) (fs := (tyX 12).map dv) (C := RX11) (T := TX11) (N := 16) (q0 := b) hx hb hts (fun w h => kG_in (uG_X11 w h)) tyX11 tyX11_ok hown (hts _ (kG_in kw_208)) (hts _ (kG_in kw_209)) (hts _ (kG_in kw_181)) hK hP hD hS hA rfl (by decide +kernel) hbe ⟨Nat.le_of_ble_eq_true rfl, Nat.le_of_ble_eq_true rfl⟩ dL_law_0 (fun H hP hD hS hz => ?_)
  have hew : cW cB cI cJ cZ cS cO b (nO csE 12 16) = cW cB cI cJ cZ cS cO b csE ++ [(b, .inr (12, (tyX 12).map dv))] := cW_new (by decide) (fun q h => by cases h)
  rw [← hew] at hP hD
  refine lv_dup hx hb dL_law_3 rfl ?_
  refine jiV (nL := 4) (As := []) (rest := [.ref b]) (i := 0) hx hb hml hts hown hK hP hD hS hA hz (by rw [hbe]; rfl) hZ hokI (cwI 0 hts (gd_law (in_I kc_X11_init)) rfl rfl rfl (hts _ (kG_in kw_181)) (hts _ (kG_in kw_210)) (hts _ (kG_in kw_211)) rfl (by decide +kernel) ⟨Nat.le_of_ble_eq_true rfl, Nat.le_of_ble_eq_true rfl⟩) rfl hl.1 (Nat.le_of_ble_eq_true rfl) ⟨by show 0 + 1 + (kK cs1 - kK (nO csE 12 16)) ≤ 600000; omega, by show 0 + 16 + (kM cs1 - kM (nO csE 12 16)) ≤ 7302250; omega⟩ dL_law_4 (fun H1 locs1 hP hD hS hz => ?_)
  rw [show 0 + 1 + (kK cs1 - kK (nO csE 12 16)) = kK cs1 by omega, show 0 + 16 + (kM cs1 - kM (nO csE 12 16)) = kM cs1 by omega]
  refine lv_astore_n (lv' := [(1, .ref b), (0, .ref bb)]) hx hb dL_law_7 rfl hl (by decide) rfl (fun ls hl => ?_)
  obtain ⟨h0, hh0⟩ : ∃ h0, b + kK cs1 = h0 := ⟨_, rfl⟩
  rw [hh0] at hz
  refine lw_new (ci := 13) (fs := [.null, .int 0, .null, .int 0, .int 0, .null, .null, .null, .null, .null, .long 0, .int 0, .null, .null, .null, .null, .null, .null, .int 0, .int 0, .int 0, .int 0, .int 0, .null, .null, .null, .null, .null, .null, .null, .null, .null, .null, .null, .int 0, .null, .null, .null, .null, .null, .null, .null, .null, .null, .null, .null, .null, .null, .null, .null, .null, .null, .null, .null, .null, .null, .null, .null, .null, .int 0, .null, .null, .null, .null, .null, .null, .null, .null, .null, .int 0, .int 0, .int 0, .int 0, .int 0, .int 0, .int 0, .int 0, .int 0, .int 0, .null, .null, .int 0, .int 0, .null, .int 0, .null, .null, .int 0, .null, .null, .null, .int 0, .int 0, .int 0, .int 0, .int 0, .int 0, .int 0, .null, .null, .int 0, .int 0, .null, .null, .int 0, .null, .null, .int 0, .null, .null, .int 0, .null, .null, .null, .null]) (C := RX12) (T := TX12) (N := 115) (q0 := h0) hx hb hts (fun w h => kG_in (uG_X12 w h)) tyX12 tyX12_ok hown (hts _ (kG_in kw_1686)) (hts _ (kG_in kw_1687)) (hts _ (kG_in kw_191)) hK hP hD hS hA rfl (by decide +kernel) hz ⟨by show kK cs1 + 1 ≤ 600000; omega, by show kM cs1 + 115 ≤ 7302250; omega⟩ dL_law_8 (fun H2 hP hD hS hz2 => ?_)
  refine lv_dup hx hb dL_law_11 rfl ?_
  have hPc := hP.right
  have hDc := hD.right
  have hKc := hK.sub (tys' := [(cB, .byte), (cI, .int), (cJ, .long), (cZ, .boolean)]) [0, 1, 2, 3] rfl
  have hFc := va_freeAll hDc hS hA
  refine va_callv (va_runI (As := []) (rest := [.ref h0]) ⟨hx, hb, hml, hown, hts⟩ (t_X12_init l dC dI H2.size cB cI cJ cZ h0) (cwI 0 hts (gd_law (in_I kc_X12_init)) rfl rfl rfl (hts _ (kG_in kw_191)) (hts _ (kG_in kw_1688)) (hts _ (kG_in kw_1689)) rfl (by decide +kernel) ⟨Nat.le_of_ble_eq_true rfl, Nat.le_of_ble_eq_true rfl⟩) ⟨fun a U g mk q => by obtain ⟨q0, q1, qP, qK, qD⟩ := q; exact ⟨q0, q1, qP, va_K.moved (u := U) (U := U.calling g mk a) (Vm.Alike.refl U.vm) qK, qD⟩, fun U hU hW => ⟨rfl, by rw [hU], by rw [hU]; exact hPc, va_K.moved hW.alike hKc, hDc.weaken (fun _ _ _ _ => trivial)⟩⟩ rfl rfl hl.1 rfl (lv_room (Nat.le_of_ble_eq_true rfl)) dL_law_12 ⟨by show kK cs1 + 1 + 77 ≤ 600000; omega, by show kM cs1 + 115 + 877429 ≤ 7302250; omega⟩) hS (fun q _ h => hFc q h) hFc (fun u t_ H3 locs3 ht hvm hw hB hz3 hk3 hS3 => ?_)
  obtain ⟨a, hP1, hK1, hD1⟩ := hB
  rw [ht] at hP1
  have hP1 : va_P (dC, dI) vwCl (mW cB cI cJ cZ h0 a rsE) H3 := hP1
  have hD1 : va_D (va_A [(h0, .inr (13, [.null, .int 0, .null, .int 0, .int 0, .null, .null, .null, .null, .null, .long 0, .int 0, .null, .null, .null, .null, .null, .null, .int 0, .int 0, .int 0, .int 0, .int 0, .null, .null, .null, .null, .null, .null, .null, .null, .null, .null, .null, .int 0, .null, .null, .null, .null, .null, .null, .null, .null, .null, .null, .null, .null, .null, .null, .null, .null, .null, .null, .null, .null, .null, .null, .null, .null, .int 0, .null, .null, .null, .null, .null, .null, .null, .null, .null, .int 0, .int 0, .int 0, .int 0, .int 0, .int 0, .int 0, .int 0, .int 0, .int 0, .null, .null, .int 0, .int 0, .null, .int 0, .null, .null, .int 0, .null, .null, .null, .int 0, .int 0, .int 0, .int 0, .int 0, .int 0, .int 0, .null, .null, .int 0, .int 0, .null, .null, .int 0, .null, .null, .int 0, .null, .null, .int 0, .null, .null, .null, .null]))] H2.size) (mW cB cI cJ cZ h0 a rsE) := hD1
  have hj := joinF (va_P_sw hP) (va_D_sw hD) (Nat.le_refl _) hk3 hP1 hD1 hFc
  refine W_sz (fun hu => ?_)
  have hgr := va_grown (h0 := h0) (sz := H2.size) hP1 hD1 (fun q hq => by
    rcases hq with ⟨k, e, hk⟩ | h
    · have hk1 : k < 1 := (List.getElem?_eq_some_iff.mp hk).1
      rw [show k = 0 by omega] at hk
      cases hk
      exact Or.inl rfl
    · exact Or.inr h) (by have := hS3.1; omega)
  have hlen : (mW cB cI cJ cZ h0 a rsE).length = 78 := rfl
  have hz4 : H3.size = b + kK (kJmp cs1) := by omega
  rw [show kK cs1 + 1 + 77 = kK (kJmp cs1) by omega, show kM cs1 + 115 + 877429 = kM (kJmp cs1) by omega]
  refine lv_astore_n (lv' := [(2, .ref h0), (1, .ref b), (0, .ref bb)]) hx hb dL_law_15 rfl hl (by decide) rfl (fun ls hl => ?_)
  refine lv_iconst (v := 0) hx hb dL_law_16 (by decide) ?_
  refine lv_istore_n (lv' := [(3, .int 0), (2, .ref h0), (1, .ref b), (0, .ref bb)]) hx hb dL_law_17 rfl hl (by decide) rfl (fun ls hl => ?_)
  have hl : lv_has ls 4 [(3, .int (nI 0)), (2, .ref h0), (1, .ref (b + 0)), (0, .ref bb)] := hl
  have hPf : va_P (dC, dI) vwCl (cW cB cI cJ cZ cS cO b (kJmp cs1) ++ mW cB cI cJ cZ h0 a rsE) H3 := by rw [cW_jmp]; exact va_P_sw hj.1
  have hDf : va_D A (cW cB cI cJ cZ cS cO b (kJmp cs1) ++ mW cB cI cJ cZ h0 a rsE) := by rw [cW_jmp]; exact va_D_sw hj.2
  exact law_loop C0 hZ hA hbA hbe hK hAf hL n 0 (kJmp cs1) cs9 rsE rs9 H3 locs3 ls (by omega) (by omega) hPf hDf hS3 hz4 hf hR1 hR2 hl

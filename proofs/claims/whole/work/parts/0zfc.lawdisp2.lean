theorem tb_o : ∀ j, j < 32 → 20 ≤ j → ((nI j).toInt < 0 ∨ 19 < (nI j).toInt) := by decide
set_option maxRecDepth 100000 in
theorem law_disp {p : Program} {l : Launch} {e : Env} {s : State} {m : MethodId} {below : List Frame} {meth : Method} {c : Code} {dC : Nat → ClassId} {dI : Nat → Nat → Nat} {cB cI cJ cZ cS cO : ClassId} {bb L : Nat} {xs : Nat → Int32} {K V : Nat → Nat} {fz : Value} {A : Nat → Prop} {b h0 : Nat} {a : Nat → Nat} (C0 : lw_At p s m meth c bb L xs) (hZ : zE K V fz A s) (hA : ∀ q : Nat, s.heap.size ≤ q → A q) (hbA : ¬ A bb) (hbe : s.heap.size = b) (hK : va_K (dC, dI) vwCl [(cB, .byte), (cI, .int), (cJ, .long), (cZ, .boolean), (cS, .object "StreamQueries$Source"), (cO, .object "java/lang/Object")] s) {F i j : Nat} {cs cs1 : CS} {rs rs1 : RS} {H : Heap} {locs : List Loc} {ls : Array Slot} (hj : j < 32) (hi : i + 6 ≤ L) (hL : L ≤ 384) (hP : va_P (dC, dI) vwCl (cW cB cI cJ cZ cS cO b cs ++ mW cB cI cJ cZ h0 a rs) H) (hD : va_D A (cW cB cI cJ cZ cS cO b cs ++ mW cB cI cJ cZ h0 a rs)) (hS : va_S A s.heap H locs) (hz : H.size = b + kK cs) (e1 : LK F cs rs j (xs (i + 1)) (xs (i + 2)) (xs (i + 3)) (xs (i + 4)) (xs (i + 5)) = some (cs1, rs1)) (hR1 : kK cs1 ≤ 600000) (hR2 : kM cs1 ≤ 7302250) (hl : lv_has ls 4 [(3, .int (nI i)), (2, .ref h0), (1, .ref (b + 0)), (0, .ref bb)]) (kk : ∀ (H1 : Heap) (locs1 : List Loc), va_P (dC, dI) vwCl (cW cB cI cJ cZ cS cO b cs1 ++ mW cB cI cJ cZ h0 a rs1) H1 → va_D A (cW cB cI cJ cZ cS cO b cs1 ++ mW cB cI cJ cZ h0 a rs1) → va_S A s.heap H1 locs1 → H1.size = b + kK cs1 → W p l e room_1 s m #[Value.ref bb] below meth c H1 locs1 (kK cs1) (kM cs1) (lw_Z below #[Value.ref bb] s) (F0 m 750 ls [])) : W p l e room_1 s m #[Value.ref bb] below meth c H locs (kK cs) (kM cs) (lw_Z below #[Value.ref bb] s) (F0 m 33 ls [.int (nI j)]) := by
  rcases Nat.lt_or_ge j 20 with h20 | h20
  · have hc : j = 0 ∨ j = 1 ∨ j = 2 ∨ j = 3 ∨ j = 4 ∨ j = 5 ∨ j = 6 ∨ j = 7 ∨ j = 8 ∨ j = 9 ∨ j = 10 ∨ j = 11 ∨ j = 12 ∨ j = 13 ∨ j = 14 ∨ j = 15 ∨ j = 16 ∨ j = 17 ∨ j = 18 ∨ j = 19 := by omega
    rcases hc with rfl | rfl | rfl | rfl | rfl | rfl | rfl | rfl | rfl | rfl | rfl | rfl | rfl | rfl | rfl | rfl | rfl | rfl | rfl | rfl
    · exact ld_0 C0 hZ hA hbA hbe hK hi hL hP hD hS hz (by rw [LK_0] at e1; exact e1) hR1 hR2 hl kk
    · exact ld_1 C0 hZ hA hbA hbe hK hi hL hP hD hS hz (by rw [LK_1] at e1; exact e1) hR1 hR2 hl kk
    · exact ld_2 C0 hZ hA hbA hbe hK hi hL hP hD hS hz (by rw [LK_2] at e1; exact e1) hR1 hR2 hl kk
    · exact ld_3 C0 hZ hA hbA hbe hK hi hL hP hD hS hz (by rw [LK_3] at e1; exact e1) hR1 hR2 hl kk
    · exact ld_4 C0 hZ hA hbA hbe hK hi hL hP hD hS hz (by rw [LK_4] at e1; exact e1) hR1 hR2 hl kk
    · exact ld_5 C0 hZ hA hbA hbe hK hi hL hP hD hS hz (by rw [LK_5] at e1; exact e1) hR1 hR2 hl kk
    · exact ld_6 C0 hZ hA hbA hbe hK hi hL hP hD hS hz (by rw [LK_6] at e1; exact e1) hR1 hR2 hl kk
    · exact ld_7 C0 hZ hA hbA hbe hK hi hL hP hD hS hz (by rw [LK_7] at e1; exact e1) hR1 hR2 hl kk
    · exact ld_8 C0 hZ hA hbA hbe hK hi hL hP hD hS hz (by rw [LK_8] at e1; exact e1) hR1 hR2 hl kk
    · exact ld_9 C0 hZ hA hbA hbe hK hi hL hP hD hS hz (by rw [LK_9] at e1; exact e1) hR1 hR2 hl kk
    · exact ld_10 C0 hZ hA hbA hbe hK hi hL hP hD hS hz (by rw [LK_10] at e1; exact e1) hR1 hR2 hl kk
    · exact ld_11 C0 hZ hA hbA hbe hK hi hL hP hD hS hz (by rw [LK_11] at e1; exact e1) hR1 hR2 hl kk
    · exact ld_12 C0 hZ hA hbA hbe hK hi hL hP hD hS hz (by rw [LK_12] at e1; exact e1) hR1 hR2 hl kk
    · exact ld_13 C0 hZ hA hbA hbe hK hi hL hP hD hS hz (by rw [LK_13] at e1; exact e1) hR1 hR2 hl kk
    · exact ld_14 C0 hZ hA hbA hbe hK hi hL hP hD hS hz (by rw [LK_14] at e1; exact e1) hR1 hR2 hl kk
    · exact ld_15 C0 hZ hA hbA hbe hK hi hL hP hD hS hz (by rw [LK_15] at e1; exact e1) hR1 hR2 hl kk
    · exact ld_16 C0 hZ hA hbA hbe hK hi hL hP hD hS hz (by rw [LK_16] at e1; exact e1) hR1 hR2 hl kk
    · exact ld_17 C0 hZ hA hbA hbe hK hi hL hP hD hS hz (by rw [LK_17] at e1; exact e1) hR1 hR2 hl kk
    · exact ld_18 C0 hZ hA hbA hbe hK hi hL hP hD hS hz (by rw [LK_18] at e1; exact e1) hR1 hR2 hl kk
    · exact ld_19 C0 hZ hA hbA hbe hK hi hL hP hD hS hz (by rw [LK_19] at e1; exact e1) hR1 hR2 hl kk
  · obtain ⟨q, rfl⟩ : ∃ q, j = q + 20 := ⟨j - 20, by omega⟩
    obtain ⟨hx, hb, hr, hml, hown, hts, hX, hbl, hlocks, hgv⟩ := id C0
    rw [LK_o] at e1
    cases e1
    refine lv_tableOut (tgt := 750) hx hb dL_law_33 (tb_o _ hj h20) (by decide) ?_
    exact kk H locs hP hD hS hz

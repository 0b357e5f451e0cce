/-! all calls, one after another -/
theorem OKC.up {F i : Nat} {x : Option (CS × RS)} (h : OKC F i x) : OKC F (i + 3) x := by
  obtain ⟨cs, rs, e, s⟩ := h
  exact ⟨cs, rs, e, s.up.up.up⟩
theorem lk_all {F i : Nat} {cs : CS} {rs : RS} (hF : 10000 ≤ F) (hFF : F < 1000000) (h : SIM F i cs rs) (hv : VIS F cs rs) (x1 x2 x3 x4 x5 : Int32) : ∀ j, OKC F (i + 3) (LK F cs rs j x1 x2 x3 x4 x5)
  | 0 => (ok_0 hF h x1 x2 x3 x4 x5).up
  | 1 => (ok_1 h x1 x2 x3 x4 x5).up
  | 2 => (ok_2 h x1 x2 x3 x4 x5).up
  | 3 => ok_3 hF hFF h x1 x2 x3 x4 x5
  | 4 => (ok_4 h x1 x2 x3 x4 x5).up
  | 5 => (ok_5 h x1 x2 x3 x4 x5).up
  | 6 => (ok_6 h x1 x2 x3 x4 x5).up
  | 7 => (ok_7 hF h x1 x2 x3 x4 x5).up
  | 8 => (ok_8 h x1 x2 x3 x4 x5).up
  | 9 => (ok_9 h x1 x2 x3 x4 x5).up
  | 10 => (ok_10 h x1 x2 x3 x4 x5).up
  | 11 => (ok_11 h x1 x2 x3 x4 x5).up
  | 12 => (ok_12 h x1 x2 x3 x4 x5).up
  | 13 => (ok_13 h x1 x2 x3 x4 x5).up
  | 14 => (ok_14 h x1 x2 x3 x4 x5).up
  | 15 => (ok_15 h x1 x2 x3 x4 x5).up
  | 16 => (ok_16 h x1 x2 x3 x4 x5).up
  | 17 => (ok_17 h x1 x2 x3 x4 x5).up
  | 18 => (ok_18 h x1 x2 x3 x4 x5).up
  | 19 => (ok_19 hF h hv x1 x2 x3 x4 x5).up
  | n + 20 => ⟨cs, rs, rfl, h.up.up.up⟩
theorem lw_all {F : Nat} {xs : Nat → Int32} (hF : 10000 ≤ F) (hFF : F < 1000000) (hv : ∀ i cs rs, SIM F i cs rs → VIS F cs rs) : ∀ (n i k : Nat) (cs : CS) (rs : RS), SIM F k cs rs → ∃ cs9 rs9, LW F xs n i cs rs = some (cs9, rs9) ∧ SIM F (k + 3 * n) cs9 rs9
  | 0, _, _, cs, rs, h => ⟨cs, rs, rfl, h⟩
  | n + 1, i, k, cs, rs, h => by
    obtain ⟨c1, r1, e1, s1⟩ := lk_all hF hFF h (hv k cs rs h) (xs (i + 1)) (xs (i + 2)) (xs (i + 3)) (xs (i + 4)) (xs (i + 5)) ((xs i &&& 31).toNatClampNeg)
    obtain ⟨c9, r9, e9, s9⟩ := lw_all hF hFF hv n (i + 6) (k + 3) c1 r1 s1
    refine ⟨c9, r9, ?_, ?_⟩
    · rw [LW_s, e1, ob_s]
      exact e9
    · rw [show k + 3 * (n + 1) = k + 3 + 3 * n by omega]
      exact s9
/-- room, at the end -/
theorem SIM.room {F i : Nat} {cs : CS} {rs : RS} (h : SIM F i cs rs) (hi : i ≤ 192) : kK cs ≤ 600000 ∧ kM cs ≤ 7302250 := by
  have h1 := h.rm
  have h2 := h.rk
  have a1 := h.b1.hi
  have a2 := h.b2.hi
  have a3 := h.b3.hi
  have a4 := h.b4.hi
  have o1 := h.b1.oh
  have o2 := h.b2.oh
  have o3 := h.b3.oh
  have o4 := h.b4.oh
  have lu := h.lu
  unfold PTA at h1
  unfold PTK at h2
  omega

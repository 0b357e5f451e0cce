/-! the reference's world as one value -/
abbrev RS : Type := (Nat → Int32) × Int64 × (Nat → Nat → Int32) × (Nat → Nat → Int64)
def setF (cs : RS) (k : Nat) (v : Int32) : RS := (upd cs.1 k v, cs.2)
def setW (cs : RS) (v : Int64) : RS := (cs.1, v, cs.2.2)
def setI (cs : RS) (k i : Nat) (v : Int32) : RS := (cs.1, cs.2.1, fun j => if j = k then upd (cs.2.2.1 k) i v else cs.2.2.1 j, cs.2.2.2)
def setL (cs : RS) (k i : Nat) (v : Int64) : RS := (cs.1, cs.2.1, cs.2.2.1, fun j => if j = k then vp_updL (cs.2.2.2 k) i v else cs.2.2.2 j)
def rdI (f : Nat → Int32) (n : Nat) (i : Int32) : Option Int32 := if i < 0 ∨ n ≤ i.toNatClampNeg then none else some (f i.toNatClampNeg)
def rdL (f : Nat → Int64) (n : Nat) (i : Int32) : Option Int64 := if i < 0 ∨ n ≤ i.toNatClampNeg then none else some (f i.toNatClampNeg)
def wrI (cs : RS) (k n : Nat) (i v : Int32) : Option RS := if i < 0 ∨ n ≤ i.toNatClampNeg then none else some (setI cs k i.toNatClampNeg v)
def wrL (cs : RS) (k n : Nat) (i : Int32) (v : Int64) : Option RS := if i < 0 ∨ n ≤ i.toNatClampNeg then none else some (setL cs k i.toNatClampNeg v)
def ckZ (v : Int32) : Option Int32 := if v = 0 ∨ v = 1 then some v else none
def ckD (v : Int64) : Option Int64 := if v = 0 then none else some v
def chA (i : Nat) (k : Int32) : Option Int32 := if k < 0 ∨ (soB i).length ≤ k.toNatClampNeg then none else some (soC i k.toNatClampNeg)
theorem ob {α β : Type} {x : Option α} {f : α → Option β} {z : β} (h : x.bind f = some z) : ∃ u, x = some u ∧ f u = some z := by
  cases x with
  | none => cases h
  | some u => exact ⟨u, rfl, h⟩
theorem rdI_some {f : Nat → Int32} {n : Nat} {i v : Int32} (h : rdI f n i = some v) : vp_in i n ∧ f i.toNatClampNeg = v := by
  unfold rdI at h
  by_cases c : i < 0 ∨ n ≤ i.toNatClampNeg
  · rw [if_pos c] at h; cases h
  · rw [if_neg c] at h; exact ⟨c, Option.some.inj h⟩
theorem rdL_some {f : Nat → Int64} {n : Nat} {i : Int32} {v : Int64} (h : rdL f n i = some v) : vp_in i n ∧ f i.toNatClampNeg = v := by
  unfold rdL at h
  by_cases c : i < 0 ∨ n ≤ i.toNatClampNeg
  · rw [if_pos c] at h; cases h
  · rw [if_neg c] at h; exact ⟨c, Option.some.inj h⟩
theorem wrI_some {cs cs1 : RS} {k n : Nat} {i v : Int32} (h : wrI cs k n i v = some cs1) : vp_in i n ∧ setI cs k i.toNatClampNeg v = cs1 := by
  unfold wrI at h
  by_cases c : i < 0 ∨ n ≤ i.toNatClampNeg
  · rw [if_pos c] at h; cases h
  · rw [if_neg c] at h; exact ⟨c, Option.some.inj h⟩
theorem wrL_some {cs cs1 : RS} {k n : Nat} {i : Int32} {v : Int64} (h : wrL cs k n i v = some cs1) : vp_in i n ∧ setL cs k i.toNatClampNeg v = cs1 := by
  unfold wrL at h
  by_cases c : i < 0 ∨ n ≤ i.toNatClampNeg
  · rw [if_pos c] at h; cases h
  · rw [if_neg c] at h; exact ⟨c, Option.some.inj h⟩
theorem ckZ_some {v w : Int32} (h : ckZ v = some w) : v = 0 ∨ v = 1 := by
  unfold ckZ at h
  by_cases c : v = 0 ∨ v = 1
  · exact c
  · rw [if_neg c] at h; cases h
theorem ckD_some {v w : Int64} (h : ckD v = some w) : ¬ v = 0 := by
  unfold ckD at h
  by_cases c : v = 0
  · rw [if_pos c] at h; cases h
  · exact c
theorem nzN {v : Int32} (h : v = 0 ∨ v = 1) : narrow .boolean (.int v) = .int v := by rcases h with rfl | rfl <;> rfl
theorem nzF {v : Int32} (h : v = 0 ∨ v = 1) : fits .boolean (.int v) = true := by rcases h with rfl | rfl <;> rfl
def mW (cB cI cJ cZ : ClassId) (h0 : Nat) (a : Nat → Nat) (cs : RS) : va_W := [(h0, .inr (13, moF a cs.1 cs.2.1)), (a 0, .inl (cB, 2000, .inl (cs.2.2.1 0))), (a 2, .inl (cB, 2000, .inl (cs.2.2.1 2))), (a 5, .inl (cI, 6, .inl (cs.2.2.1 5))), (a 6, .inl (cZ, 48, .inl (cs.2.2.1 6))), (a 7, .inl (cJ, 48, .inr (.inl (cs.2.2.2 7)))), (a 8, .inl (cJ, 192, .inr (.inl (cs.2.2.2 8)))), (a 9, .inl (cZ, 192, .inl (cs.2.2.1 9))), (a 12, .inl (cJ, 4, .inr (.inl (cs.2.2.2 12)))), (a 13, .inl (cZ, 4, .inl (cs.2.2.1 13))), (a 14, .inl (cI, 2001, .inl (cs.2.2.1 14))), (a 15, .inl (cI, 2001, .inl (cs.2.2.1 15))), (a 16, .inl (cI, 2001, .inl (cs.2.2.1 16))), (a 17, .inl (cJ, 2001, .inr (.inl (cs.2.2.2 17)))), (a 23, .inl (cI, 121, .inl (cs.2.2.1 23))), (a 24, .inl (cI, 121, .inl (cs.2.2.1 24))), (a 25, .inl (cI, 121, .inl (cs.2.2.1 25))), (a 26, .inl (cI, 121, .inl (cs.2.2.1 26))), (a 27, .inl (cI, 121, .inl (cs.2.2.1 27))), (a 28, .inl (cJ, 121, .inr (.inl (cs.2.2.2 28)))), (a 29, .inl (cI, 121, .inl (cs.2.2.1 29))), (a 30, .inl (cI, 121, .inl (cs.2.2.1 30))), (a 31, .inl (cI, 121, .inl (cs.2.2.1 31))), (a 32, .inl (cI, 121, .inl (cs.2.2.1 32))), (a 33, .inl (cI, 121, .inl (cs.2.2.1 33))), (a 35, .inl (cI, 60, .inl (cs.2.2.1 35))), (a 36, .inl (cI, 60, .inl (cs.2.2.1 36))), (a 37, .inl (cI, 60, .inl (cs.2.2.1 37))), (a 38, .inl (cI, 60, .inl (cs.2.2.1 38))), (a 39, .inl (cI, 60, .inl (cs.2.2.1 39))), (a 40, .inl (cI, 60, .inl (cs.2.2.1 40))), (a 41, .inl (cI, 60, .inl (cs.2.2.1 41))), (a 42, .inl (cI, 60, .inl (cs.2.2.1 42))), (a 43, .inl (cI, 60, .inl (cs.2.2.1 43))), (a 44, .inl (cI, 480, .inl (cs.2.2.1 44))), (a 45, .inl (cI, 480, .inl (cs.2.2.1 45))), (a 46, .inl (cI, 480, .inl (cs.2.2.1 46))), (a 47, .inl (cI, 480, .inl (cs.2.2.1 47))), (a 48, .inl (cI, 480, .inl (cs.2.2.1 48))), (a 49, .inl (cI, 180, .inl (cs.2.2.1 49))), (a 50, .inl (cI, 180, .inl (cs.2.2.1 50))), (a 51, .inl (cZ, 180, .inl (cs.2.2.1 51))), (a 52, .inl (cJ, 180, .inr (.inl (cs.2.2.2 52)))), (a 53, .inl (cI, 180, .inl (cs.2.2.1 53))), (a 54, .inl (cI, 180, .inl (cs.2.2.1 54))), (a 55, .inl (cI, 180, .inl (cs.2.2.1 55))), (a 56, .inl (cZ, 180, .inl (cs.2.2.1 56))), (a 57, .inl (cI, 180, .inl (cs.2.2.1 57))), (a 58, .inl (cI, 180, .inl (cs.2.2.1 58))), (a 60, .inl (cI, 60, .inl (cs.2.2.1 60))), (a 61, .inl (cI, 300, .inl (cs.2.2.1 61))), (a 62, .inl (cI, 300, .inl (cs.2.2.1 62))), (a 63, .inl (cI, 300, .inl (cs.2.2.1 63))), (a 64, .inl (cI, 60, .inl (cs.2.2.1 64))), (a 65, .inl (cI, 60, .inl (cs.2.2.1 65))), (a 66, .inl (cI, 480, .inl (cs.2.2.1 66))), (a 67, .inl (cZ, 480, .inl (cs.2.2.1 67))), (a 68, .inl (cI, 60, .inl (cs.2.2.1 68))), (a 79, .inl (cI, 180, .inl (cs.2.2.1 79))), (a 80, .inl (cI, 480, .inl (cs.2.2.1 80))), (a 83, .inl (cB, 2000, .inl (cs.2.2.1 83))), (a 85, .inl (cJ, 400000, .inr (.inl (cs.2.2.2 85)))), (a 86, .inl (cZ, 400000, .inl (cs.2.2.1 86))), (a 88, .inl (cI, 400, .inl (cs.2.2.1 88))), (a 89, .inl (cI, 400, .inl (cs.2.2.1 89))), (a 90, .inl (cI, 400, .inl (cs.2.2.1 90))), (a 98, .inl (cI, 600, .inl (cs.2.2.1 98))), (a 99, .inl (cZ, 700, .inl (cs.2.2.1 99))), (a 102, .inl (cJ, 4800, .inr (.inl (cs.2.2.2 102)))), (a 103, .inl (cZ, 4800, .inl (cs.2.2.1 103))), (a 105, .inl (cJ, 4800, .inr (.inl (cs.2.2.2 105)))), (a 106, .inl (cZ, 4800, .inl (cs.2.2.1 106))), (a 108, .inl (cJ, 4800, .inr (.inl (cs.2.2.2 108)))), (a 109, .inl (cZ, 4800, .inl (cs.2.2.1 109))), (a 111, .inl (cI, 1300, .inl (cs.2.2.1 111))), (a 112, .inl (cJ, 10400, .inr (.inl (cs.2.2.2 112)))), (a 113, .inl (cZ, 10400, .inl (cs.2.2.1 113))), (a 114, .inl (cI, 700, .inl (cs.2.2.1 114)))]
theorem mg_o {cB cI cJ cZ : ClassId} {h0 : Nat} {a : Nat → Nat} {cs : RS} : (mW cB cI cJ cZ h0 a cs)[0]? = some (h0, .inr (13, moF a cs.1 cs.2.1)) := rfl
theorem mg_0 {cB cI cJ cZ : ClassId} {h0 : Nat} {a : Nat → Nat} {cs : RS} : (mW cB cI cJ cZ h0 a cs)[1]? = some (a 0, .inl (cB, 2000, .inl (cs.2.2.1 0))) := rfl
theorem ms_0 {cB cI cJ cZ : ClassId} {h0 : Nat} {a : Nat → Nat} {cs : RS} {i : Nat} {v : Int32} : (mW cB cI cJ cZ h0 a cs).set 1 (a 0, .inl (cB, 2000, .inl (upd (cs.2.2.1 0) i v))) = mW cB cI cJ cZ h0 a (setI cs 0 i v) := rfl
theorem mg_2 {cB cI cJ cZ : ClassId} {h0 : Nat} {a : Nat → Nat} {cs : RS} : (mW cB cI cJ cZ h0 a cs)[2]? = some (a 2, .inl (cB, 2000, .inl (cs.2.2.1 2))) := rfl
theorem ms_2 {cB cI cJ cZ : ClassId} {h0 : Nat} {a : Nat → Nat} {cs : RS} {i : Nat} {v : Int32} : (mW cB cI cJ cZ h0 a cs).set 2 (a 2, .inl (cB, 2000, .inl (upd (cs.2.2.1 2) i v))) = mW cB cI cJ cZ h0 a (setI cs 2 i v) := rfl
theorem mg_5 {cB cI cJ cZ : ClassId} {h0 : Nat} {a : Nat → Nat} {cs : RS} : (mW cB cI cJ cZ h0 a cs)[3]? = some (a 5, .inl (cI, 6, .inl (cs.2.2.1 5))) := rfl
theorem ms_5 {cB cI cJ cZ : ClassId} {h0 : Nat} {a : Nat → Nat} {cs : RS} {i : Nat} {v : Int32} : (mW cB cI cJ cZ h0 a cs).set 3 (a 5, .inl (cI, 6, .inl (upd (cs.2.2.1 5) i v))) = mW cB cI cJ cZ h0 a (setI cs 5 i v) := rfl
theorem mg_6 {cB cI cJ cZ : ClassId} {h0 : Nat} {a : Nat → Nat} {cs : RS} : (mW cB cI cJ cZ h0 a cs)[4]? = some (a 6, .inl (cZ, 48, .inl (cs.2.2.1 6))) := rfl
theorem ms_6 {cB cI cJ cZ : ClassId} {h0 : Nat} {a : Nat → Nat} {cs : RS} {i : Nat} {v : Int32} : (mW cB cI cJ cZ h0 a cs).set 4 (a 6, .inl (cZ, 48, .inl (upd (cs.2.2.1 6) i v))) = mW cB cI cJ cZ h0 a (setI cs 6 i v) := rfl
theorem mg_7 {cB cI cJ cZ : ClassId} {h0 : Nat} {a : Nat → Nat} {cs : RS} : (mW cB cI cJ cZ h0 a cs)[5]? = some (a 7, .inl (cJ, 48, .inr (.inl (cs.2.2.2 7)))) := rfl
theorem ms_7 {cB cI cJ cZ : ClassId} {h0 : Nat} {a : Nat → Nat} {cs : RS} {i : Nat} {v : Int64} : (mW cB cI cJ cZ h0 a cs).set 5 (a 7, .inl (cJ, 48, .inr (.inl (vp_updL (cs.2.2.2 7) i v)))) = mW cB cI cJ cZ h0 a (setL cs 7 i v) := rfl
theorem mg_8 {cB cI cJ cZ : ClassId} {h0 : Nat} {a : Nat → Nat} {cs : RS} : (mW cB cI cJ cZ h0 a cs)[6]? = some (a 8, .inl (cJ, 192, .inr (.inl (cs.2.2.2 8)))) := rfl
theorem ms_8 {cB cI cJ cZ : ClassId} {h0 : Nat} {a : Nat → Nat} {cs : RS} {i : Nat} {v : Int64} : (mW cB cI cJ cZ h0 a cs).set 6 (a 8, .inl (cJ, 192, .inr (.inl (vp_updL (cs.2.2.2 8) i v)))) = mW cB cI cJ cZ h0 a (setL cs 8 i v) := rfl
theorem mg_9 {cB cI cJ cZ : ClassId} {h0 : Nat} {a : Nat → Nat} {cs : RS} : (mW cB cI cJ cZ h0 a cs)[7]? = some (a 9, .inl (cZ, 192, .inl (cs.2.2.1 9))) := rfl
theorem ms_9 {cB cI cJ cZ : ClassId} {h0 : Nat} {a : Nat → Nat} {cs : RS} {i : Nat} {v : Int32} : (mW cB cI cJ cZ h0 a cs).set 7 (a 9, .inl (cZ, 192, .inl (upd (cs.2.2.1 9) i v))) = mW cB cI cJ cZ h0 a (setI cs 9 i v) := rfl
theorem mg_12 {cB cI cJ cZ : ClassId} {h0 : Nat} {a : Nat → Nat} {cs : RS} : (mW cB cI cJ cZ h0 a cs)[8]? = some (a 12, .inl (cJ, 4, .inr (.inl (cs.2.2.2 12)))) := rfl
theorem ms_12 {cB cI cJ cZ : ClassId} {h0 : Nat} {a : Nat → Nat} {cs : RS} {i : Nat} {v : Int64} : (mW cB cI cJ cZ h0 a cs).set 8 (a 12, .inl (cJ, 4, .inr (.inl (vp_updL (cs.2.2.2 12) i v)))) = mW cB cI cJ cZ h0 a (setL cs 12 i v) := rfl
theorem mg_13 {cB cI cJ cZ : ClassId} {h0 : Nat} {a : Nat → Nat} {cs : RS} : (mW cB cI cJ cZ h0 a cs)[9]? = some (a 13, .inl (cZ, 4, .inl (cs.2.2.1 13))) := rfl
theorem ms_13 {cB cI cJ cZ : ClassId} {h0 : Nat} {a : Nat → Nat} {cs : RS} {i : Nat} {v : Int32} : (mW cB cI cJ cZ h0 a cs).set 9 (a 13, .inl (cZ, 4, .inl (upd (cs.2.2.1 13) i v))) = mW cB cI cJ cZ h0 a (setI cs 13 i v) := rfl
theorem mg_14 {cB cI cJ cZ : ClassId} {h0 : Nat} {a : Nat → Nat} {cs : RS} : (mW cB cI cJ cZ h0 a cs)[10]? = some (a 14, .inl (cI, 2001, .inl (cs.2.2.1 14))) := rfl
theorem ms_14 {cB cI cJ cZ : ClassId} {h0 : Nat} {a : Nat → Nat} {cs : RS} {i : Nat} {v : Int32} : (mW cB cI cJ cZ h0 a cs).set 10 (a 14, .inl (cI, 2001, .inl (upd (cs.2.2.1 14) i v))) = mW cB cI cJ cZ h0 a (setI cs 14 i v) := rfl
theorem mg_15 {cB cI cJ cZ : ClassId} {h0 : Nat} {a : Nat → Nat} {cs : RS} : (mW cB cI cJ cZ h0 a cs)[11]? = some (a 15, .inl (cI, 2001, .inl (cs.2.2.1 15))) := rfl
theorem ms_15 {cB cI cJ cZ : ClassId} {h0 : Nat} {a : Nat → Nat} {cs : RS} {i : Nat} {v : Int32} : (mW cB cI cJ cZ h0 a cs).set 11 (a 15, .inl (cI, 2001, .inl (upd (cs.2.2.1 15) i v))) = mW cB cI cJ cZ h0 a (setI cs 15 i v) := rfl
theorem mg_16 {cB cI cJ cZ : ClassId} {h0 : Nat} {a : Nat → Nat} {cs : RS} : (mW cB cI cJ cZ h0 a cs)[12]? = some (a 16, .inl (cI, 2001, .inl (cs.2.2.1 16))) := rfl
theorem ms_16 {cB cI cJ cZ : ClassId} {h0 : Nat} {a : Nat → Nat} {cs : RS} {i : Nat} {v : Int32} : (mW cB cI cJ cZ h0 a cs).set 12 (a 16, .inl (cI, 2001, .inl (upd (cs.2.2.1 16) i v))) = mW cB cI cJ cZ h0 a (setI cs 16 i v) := rfl
theorem mg_17 {cB cI cJ cZ : ClassId} {h0 : Nat} {a : Nat → Nat} {cs : RS} : (mW cB cI cJ cZ h0 a cs)[13]? = some (a 17, .inl (cJ, 2001, .inr (.inl (cs.2.2.2 17)))) := rfl
theorem ms_17 {cB cI cJ cZ : ClassId} {h0 : Nat} {a : Nat → Nat} {cs : RS} {i : Nat} {v : Int64} : (mW cB cI cJ cZ h0 a cs).set 13 (a 17, .inl (cJ, 2001, .inr (.inl (vp_updL (cs.2.2.2 17) i v)))) = mW cB cI cJ cZ h0 a (setL cs 17 i v) := rfl
theorem mg_23 {cB cI cJ cZ : ClassId} {h0 : Nat} {a : Nat → Nat} {cs : RS} : (mW cB cI cJ cZ h0 a cs)[14]? = some (a 23, .inl (cI, 121, .inl (cs.2.2.1 23))) := rfl
theorem ms_23 {cB cI cJ cZ : ClassId} {h0 : Nat} {a : Nat → Nat} {cs : RS} {i : Nat} {v : Int32} : (mW cB cI cJ cZ h0 a cs).set 14 (a 23, .inl (cI, 121, .inl (upd (cs.2.2.1 23) i v))) = mW cB cI cJ cZ h0 a (setI cs 23 i v) := rfl
theorem mg_24 {cB cI cJ cZ : ClassId} {h0 : Nat} {a : Nat → Nat} {cs : RS} : (mW cB cI cJ cZ h0 a cs)[15]? = some (a 24, .inl (cI, 121, .inl (cs.2.2.1 24))) := rfl
theorem ms_24 {cB cI cJ cZ : ClassId} {h0 : Nat} {a : Nat → Nat} {cs : RS} {i : Nat} {v : Int32} : (mW cB cI cJ cZ h0 a cs).set 15 (a 24, .inl (cI, 121, .inl (upd (cs.2.2.1 24) i v))) = mW cB cI cJ cZ h0 a (setI cs 24 i v) := rfl
theorem mg_25 {cB cI cJ cZ : ClassId} {h0 : Nat} {a : Nat → Nat} {cs : RS} : (mW cB cI cJ cZ h0 a cs)[16]? = some (a 25, .inl (cI, 121, .inl (cs.2.2.1 25))) := rfl
theorem ms_25 {cB cI cJ cZ : ClassId} {h0 : Nat} {a : Nat → Nat} {cs : RS} {i : Nat} {v : Int32} : (mW cB cI cJ cZ h0 a cs).set 16 (a 25, .inl (cI, 121, .inl (upd (cs.2.2.1 25) i v))) = mW cB cI cJ cZ h0 a (setI cs 25 i v) := rfl
theorem mg_26 {cB cI cJ cZ : ClassId} {h0 : Nat} {a : Nat → Nat} {cs : RS} : (mW cB cI cJ cZ h0 a cs)[17]? = some (a 26, .inl (cI, 121, .inl (cs.2.2.1 26))) := rfl
theorem ms_26 {cB cI cJ cZ : ClassId} {h0 : Nat} {a : Nat → Nat} {cs : RS} {i : Nat} {v : Int32} : (mW cB cI cJ cZ h0 a cs).set 17 (a 26, .inl (cI, 121, .inl (upd (cs.2.2.1 26) i v))) = mW cB cI cJ cZ h0 a (setI cs 26 i v) := rfl
theorem mg_27 {cB cI cJ cZ : ClassId} {h0 : Nat} {a : Nat → Nat} {cs : RS} : (mW cB cI cJ cZ h0 a cs)[18]? = some (a 27, .inl (cI, 121, .inl (cs.2.2.1 27))) := rfl
theorem ms_27 {cB cI cJ cZ : ClassId} {h0 : Nat} {a : Nat → Nat} {cs : RS} {i : Nat} {v : Int32} : (mW cB cI cJ cZ h0 a cs).set 18 (a 27, .inl (cI, 121, .inl (upd (cs.2.2.1 27) i v))) = mW cB cI cJ cZ h0 a (setI cs 27 i v) := rfl
theorem mg_28 {cB cI cJ cZ : ClassId} {h0 : Nat} {a : Nat → Nat} {cs : RS} : (mW cB cI cJ cZ h0 a cs)[19]? = some (a 28, .inl (cJ, 121, .inr (.inl (cs.2.2.2 28)))) := rfl
theorem ms_28 {cB cI cJ cZ : ClassId} {h0 : Nat} {a : Nat → Nat} {cs : RS} {i : Nat} {v : Int64} : (mW cB cI cJ cZ h0 a cs).set 19 (a 28, .inl (cJ, 121, .inr (.inl (vp_updL (cs.2.2.2 28) i v)))) = mW cB cI cJ cZ h0 a (setL cs 28 i v) := rfl
theorem mg_29 {cB cI cJ cZ : ClassId} {h0 : Nat} {a : Nat → Nat} {cs : RS} : (mW cB cI cJ cZ h0 a cs)[20]? = some (a 29, .inl (cI, 121, .inl (cs.2.2.1 29))) := rfl
theorem ms_29 {cB cI cJ cZ : ClassId} {h0 : Nat} {a : Nat → Nat} {cs : RS} {i : Nat} {v : Int32} : (mW cB cI cJ cZ h0 a cs).set 20 (a 29, .inl (cI, 121, .inl (upd (cs.2.2.1 29) i v))) = mW cB cI cJ cZ h0 a (setI cs 29 i v) := rfl
theorem mg_30 {cB cI cJ cZ : ClassId} {h0 : Nat} {a : Nat → Nat} {cs : RS} : (mW cB cI cJ cZ h0 a cs)[21]? = some (a 30, .inl (cI, 121, .inl (cs.2.2.1 30))) := rfl
theorem ms_30 {cB cI cJ cZ : ClassId} {h0 : Nat} {a : Nat → Nat} {cs : RS} {i : Nat} {v : Int32} : (mW cB cI cJ cZ h0 a cs).set 21 (a 30, .inl (cI, 121, .inl (upd (cs.2.2.1 30) i v))) = mW cB cI cJ cZ h0 a (setI cs 30 i v) := rfl
theorem mg_31 {cB cI cJ cZ : ClassId} {h0 : Nat} {a : Nat → Nat} {cs : RS} : (mW cB cI cJ cZ h0 a cs)[22]? = some (a 31, .inl (cI, 121, .inl (cs.2.2.1 31))) := rfl
theorem ms_31 {cB cI cJ cZ : ClassId} {h0 : Nat} {a : Nat → Nat} {cs : RS} {i : Nat} {v : Int32} : (mW cB cI cJ cZ h0 a cs).set 22 (a 31, .inl (cI, 121, .inl (upd (cs.2.2.1 31) i v))) = mW cB cI cJ cZ h0 a (setI cs 31 i v) := rfl
theorem mg_32 {cB cI cJ cZ : ClassId} {h0 : Nat} {a : Nat → Nat} {cs : RS} : (mW cB cI cJ cZ h0 a cs)[23]? = some (a 32, .inl (cI, 121, .inl (cs.2.2.1 32))) := rfl
theorem ms_32 {cB cI cJ cZ : ClassId} {h0 : Nat} {a : Nat → Nat} {cs : RS} {i : Nat} {v : Int32} : (mW cB cI cJ cZ h0 a cs).set 23 (a 32, .inl (cI, 121, .inl (upd (cs.2.2.1 32) i v))) = mW cB cI cJ cZ h0 a (setI cs 32 i v) := rfl
theorem mg_33 {cB cI cJ cZ : ClassId} {h0 : Nat} {a : Nat → Nat} {cs : RS} : (mW cB cI cJ cZ h0 a cs)[24]? = some (a 33, .inl (cI, 121, .inl (cs.2.2.1 33))) := rfl
theorem ms_33 {cB cI cJ cZ : ClassId} {h0 : Nat} {a : Nat → Nat} {cs : RS} {i : Nat} {v : Int32} : (mW cB cI cJ cZ h0 a cs).set 24 (a 33, .inl (cI, 121, .inl (upd (cs.2.2.1 33) i v))) = mW cB cI cJ cZ h0 a (setI cs 33 i v) := rfl
theorem mg_35 {cB cI cJ cZ : ClassId} {h0 : Nat} {a : Nat → Nat} {cs : RS} : (mW cB cI cJ cZ h0 a cs)[25]? = some (a 35, .inl (cI, 60, .inl (cs.2.2.1 35))) := rfl
theorem ms_35 {cB cI cJ cZ : ClassId} {h0 : Nat} {a : Nat → Nat} {cs : RS} {i : Nat} {v : Int32} : (mW cB cI cJ cZ h0 a cs).set 25 (a 35, .inl (cI, 60, .inl (upd (cs.2.2.1 35) i v))) = mW cB cI cJ cZ h0 a (setI cs 35 i v) := rfl
theorem mg_36 {cB cI cJ cZ : ClassId} {h0 : Nat} {a : Nat → Nat} {cs : RS} : (mW cB cI cJ cZ h0 a cs)[26]? = some (a 36, .inl (cI, 60, .inl (cs.2.2.1 36))) := rfl
theorem ms_36 {cB cI cJ cZ : ClassId} {h0 : Nat} {a : Nat → Nat} {cs : RS} {i : Nat} {v : Int32} : (mW cB cI cJ cZ h0 a cs).set 26 (a 36, .inl (cI, 60, .inl (upd (cs.2.2.1 36) i v))) = mW cB cI cJ cZ h0 a (setI cs 36 i v) := rfl
theorem mg_37 {cB cI cJ cZ : ClassId} {h0 : Nat} {a : Nat → Nat} {cs : RS} : (mW cB cI cJ cZ h0 a cs)[27]? = some (a 37, .inl (cI, 60, .inl (cs.2.2.1 37))) := rfl
theorem ms_37 {cB cI cJ cZ : ClassId} {h0 : Nat} {a : Nat → Nat} {cs : RS} {i : Nat} {v : Int32} : (mW cB cI cJ cZ h0 a cs).set 27 (a 37, .inl (cI, 60, .inl (upd (cs.2.2.1 37) i v))) = mW cB cI cJ cZ h0 a (setI cs 37 i v) := rfl
theorem mg_38 {cB cI cJ cZ : ClassId} {h0 : Nat} {a : Nat → Nat} {cs : RS} : (mW cB cI cJ cZ h0 a cs)[28]? = some (a 38, .inl (cI, 60, .inl (cs.2.2.1 38))) := rfl
theorem ms_38 {cB cI cJ cZ : ClassId} {h0 : Nat} {a : Nat → Nat} {cs : RS} {i : Nat} {v : Int32} : (mW cB cI cJ cZ h0 a cs).set 28 (a 38, .inl (cI, 60, .inl (upd (cs.2.2.1 38) i v))) = mW cB cI cJ cZ h0 a (setI cs 38 i v) := rfl
theorem mg_39 {cB cI cJ cZ : ClassId} {h0 : Nat} {a : Nat → Nat} {cs : RS} : (mW cB cI cJ cZ h0 a cs)[29]? = some (a 39, .inl (cI, 60, .inl (cs.2.2.1 39))) := rfl
theorem ms_39 {cB cI cJ cZ : ClassId} {h0 : Nat} {a : Nat → Nat} {cs : RS} {i : Nat} {v : Int32} : (mW cB cI cJ cZ h0 a cs).set 29 (a 39, .inl (cI, 60, .inl (upd (cs.2.2.1 39) i v))) = mW cB cI cJ cZ h0 a (setI cs 39 i v) := rfl
theorem mg_40 {cB cI cJ cZ : ClassId} {h0 : Nat} {a : Nat → Nat} {cs : RS} : (mW cB cI cJ cZ h0 a cs)[30]? = some (a 40, .inl (cI, 60, .inl (cs.2.2.1 40))) := rfl
theorem ms_40 {cB cI cJ cZ : ClassId} {h0 : Nat} {a : Nat → Nat} {cs : RS} {i : Nat} {v : Int32} : (mW cB cI cJ cZ h0 a cs).set 30 (a 40, .inl (cI, 60, .inl (upd (cs.2.2.1 40) i v))) = mW cB cI cJ cZ h0 a (setI cs 40 i v) := rfl
theorem mg_41 {cB cI cJ cZ : ClassId} {h0 : Nat} {a : Nat → Nat} {cs : RS} : (mW cB cI cJ cZ h0 a cs)[31]? = some (a 41, .inl (cI, 60, .inl (cs.2.2.1 41))) := rfl
theorem ms_41 {cB cI cJ cZ : ClassId} {h0 : Nat} {a : Nat → Nat} {cs : RS} {i : Nat} {v : Int32} : (mW cB cI cJ cZ h0 a cs).set 31 (a 41, .inl (cI, 60, .inl (upd (cs.2.2.1 41) i v))) = mW cB cI cJ cZ h0 a (setI cs 41 i v) := rfl
theorem mg_42 {cB cI cJ cZ : ClassId} {h0 : Nat} {a : Nat → Nat} {cs : RS} : (mW cB cI cJ cZ h0 a cs)[32]? = some (a 42, .inl (cI, 60, .inl (cs.2.2.1 42))) := rfl
theorem ms_42 {cB cI cJ cZ : ClassId} {h0 : Nat} {a : Nat → Nat} {cs : RS} {i : Nat} {v : Int32} : (mW cB cI cJ cZ h0 a cs).set 32 (a 42, .inl (cI, 60, .inl (upd (cs.2.2.1 42) i v))) = mW cB cI cJ cZ h0 a (setI cs 42 i v) := rfl
theorem mg_43 {cB cI cJ cZ : ClassId} {h0 : Nat} {a : Nat → Nat} {cs : RS} : (mW cB cI cJ cZ h0 a cs)[33]? = some (a 43, .inl (cI, 60, .inl (cs.2.2.1 43))) := rfl
theorem ms_43 {cB cI cJ cZ : ClassId} {h0 : Nat} {a : Nat → Nat} {cs : RS} {i : Nat} {v : Int32} : (mW cB cI cJ cZ h0 a cs).set 33 (a 43, .inl (cI, 60, .inl (upd (cs.2.2.1 43) i v))) = mW cB cI cJ cZ h0 a (setI cs 43 i v) := rfl
theorem mg_44 {cB cI cJ cZ : ClassId} {h0 : Nat} {a : Nat → Nat} {cs : RS} : (mW cB cI cJ cZ h0 a cs)[34]? = some (a 44, .inl (cI, 480, .inl (cs.2.2.1 44))) := rfl
theorem ms_44 {cB cI cJ cZ : ClassId} {h0 : Nat} {a : Nat → Nat} {cs : RS} {i : Nat} {v : Int32} : (mW cB cI cJ cZ h0 a cs).set 34 (a 44, .inl (cI, 480, .inl (upd (cs.2.2.1 44) i v))) = mW cB cI cJ cZ h0 a (setI cs 44 i v) := rfl
theorem mg_45 {cB cI cJ cZ : ClassId} {h0 : Nat} {a : Nat → Nat} {cs : RS} : (mW cB cI cJ cZ h0 a cs)[35]? = some (a 45, .inl (cI, 480, .inl (cs.2.2.1 45))) := rfl
theorem ms_45 {cB cI cJ cZ : ClassId} {h0 : Nat} {a : Nat → Nat} {cs : RS} {i : Nat} {v : Int32} : (mW cB cI cJ cZ h0 a cs).set 35 (a 45, .inl (cI, 480, .inl (upd (cs.2.2.1 45) i v))) = mW cB cI cJ cZ h0 a (setI cs 45 i v) := rfl
theorem mg_46 {cB cI cJ cZ : ClassId} {h0 : Nat} {a : Nat → Nat} {cs : RS} : (mW cB cI cJ cZ h0 a cs)[36]? = some (a 46, .inl (cI, 480, .inl (cs.2.2.1 46))) := rfl
theorem ms_46 {cB cI cJ cZ : ClassId} {h0 : Nat} {a : Nat → Nat} {cs : RS} {i : Nat} {v : Int32} : (mW cB cI cJ cZ h0 a cs).set 36 (a 46, .inl (cI, 480, .inl (upd (cs.2.2.1 46) i v))) = mW cB cI cJ cZ h0 a (setI cs 46 i v) := rfl
theorem mg_47 {cB cI cJ cZ : ClassId} {h0 : Nat} {a : Nat → Nat} {cs : RS} : (mW cB cI cJ cZ h0 a cs)[37]? = some (a 47, .inl (cI, 480, .inl (cs.2.2.1 47))) := rfl
theorem ms_47 {cB cI cJ cZ : ClassId} {h0 : Nat} {a : Nat → Nat} {cs : RS} {i : Nat} {v : Int32} : (mW cB cI cJ cZ h0 a cs).set 37 (a 47, .inl (cI, 480, .inl (upd (cs.2.2.1 47) i v))) = mW cB cI cJ cZ h0 a (setI cs 47 i v) := rfl
theorem mg_48 {cB cI cJ cZ : ClassId} {h0 : Nat} {a : Nat → Nat} {cs : RS} : (mW cB cI cJ cZ h0 a cs)[38]? = some (a 48, .inl (cI, 480, .inl (cs.2.2.1 48))) := rfl
theorem ms_48 {cB cI cJ cZ : ClassId} {h0 : Nat} {a : Nat → Nat} {cs : RS} {i : Nat} {v : Int32} : (mW cB cI cJ cZ h0 a cs).set 38 (a 48, .inl (cI, 480, .inl (upd (cs.2.2.1 48) i v))) = mW cB cI cJ cZ h0 a (setI cs 48 i v) := rfl
theorem mg_49 {cB cI cJ cZ : ClassId} {h0 : Nat} {a : Nat → Nat} {cs : RS} : (mW cB cI cJ cZ h0 a cs)[39]? = some (a 49, .inl (cI, 180, .inl (cs.2.2.1 49))) := rfl
theorem ms_49 {cB cI cJ cZ : ClassId} {h0 : Nat} {a : Nat → Nat} {cs : RS} {i : Nat} {v : Int32} : (mW cB cI cJ cZ h0 a cs).set 39 (a 49, .inl (cI, 180, .inl (upd (cs.2.2.1 49) i v))) = mW cB cI cJ cZ h0 a (setI cs 49 i v) := rfl
theorem mg_50 {cB cI cJ cZ : ClassId} {h0 : Nat} {a : Nat → Nat} {cs : RS} : (mW cB cI cJ cZ h0 a cs)[40]? = some (a 50, .inl (cI, 180, .inl (cs.2.2.1 50))) := rfl
theorem ms_50 {cB cI cJ cZ : ClassId} {h0 : Nat} {a : Nat → Nat} {cs : RS} {i : Nat} {v : Int32} : (mW cB cI cJ cZ h0 a cs).set 40 (a 50, .inl (cI, 180, .inl (upd (cs.2.2.1 50) i v))) = mW cB cI cJ cZ h0 a (setI cs 50 i v) := rfl
theorem mg_51 {cB cI cJ cZ : ClassId} {h0 : Nat} {a : Nat → Nat} {cs : RS} : (mW cB cI cJ cZ h0 a cs)[41]? = some (a 51, .inl (cZ, 180, .inl (cs.2.2.1 51))) := rfl
theorem ms_51 {cB cI cJ cZ : ClassId} {h0 : Nat} {a : Nat → Nat} {cs : RS} {i : Nat} {v : Int32} : (mW cB cI cJ cZ h0 a cs).set 41 (a 51, .inl (cZ, 180, .inl (upd (cs.2.2.1 51) i v))) = mW cB cI cJ cZ h0 a (setI cs 51 i v) := rfl
theorem mg_52 {cB cI cJ cZ : ClassId} {h0 : Nat} {a : Nat → Nat} {cs : RS} : (mW cB cI cJ cZ h0 a cs)[42]? = some (a 52, .inl (cJ, 180, .inr (.inl (cs.2.2.2 52)))) := rfl
theorem ms_52 {cB cI cJ cZ : ClassId} {h0 : Nat} {a : Nat → Nat} {cs : RS} {i : Nat} {v : Int64} : (mW cB cI cJ cZ h0 a cs).set 42 (a 52, .inl (cJ, 180, .inr (.inl (vp_updL (cs.2.2.2 52) i v)))) = mW cB cI cJ cZ h0 a (setL cs 52 i v) := rfl
theorem mg_53 {cB cI cJ cZ : ClassId} {h0 : Nat} {a : Nat → Nat} {cs : RS} : (mW cB cI cJ cZ h0 a cs)[43]? = some (a 53, .inl (cI, 180, .inl (cs.2.2.1 53))) := rfl
theorem ms_53 {cB cI cJ cZ : ClassId} {h0 : Nat} {a : Nat → Nat} {cs : RS} {i : Nat} {v : Int32} : (mW cB cI cJ cZ h0 a cs).set 43 (a 53, .inl (cI, 180, .inl (upd (cs.2.2.1 53) i v))) = mW cB cI cJ cZ h0 a (setI cs 53 i v) := rfl
theorem mg_54 {cB cI cJ cZ : ClassId} {h0 : Nat} {a : Nat → Nat} {cs : RS} : (mW cB cI cJ cZ h0 a cs)[44]? = some (a 54, .inl (cI, 180, .inl (cs.2.2.1 54))) := rfl
theorem ms_54 {cB cI cJ cZ : ClassId} {h0 : Nat} {a : Nat → Nat} {cs : RS} {i : Nat} {v : Int32} : (mW cB cI cJ cZ h0 a cs).set 44 (a 54, .inl (cI, 180, .inl (upd (cs.2.2.1 54) i v))) = mW cB cI cJ cZ h0 a (setI cs 54 i v) := rfl
theorem mg_55 {cB cI cJ cZ : ClassId} {h0 : Nat} {a : Nat → Nat} {cs : RS} : (mW cB cI cJ cZ h0 a cs)[45]? = some (a 55, .inl (cI, 180, .inl (cs.2.2.1 55))) := rfl
theorem ms_55 {cB cI cJ cZ : ClassId} {h0 : Nat} {a : Nat → Nat} {cs : RS} {i : Nat} {v : Int32} : (mW cB cI cJ cZ h0 a cs).set 45 (a 55, .inl (cI, 180, .inl (upd (cs.2.2.1 55) i v))) = mW cB cI cJ cZ h0 a (setI cs 55 i v) := rfl
theorem mg_56 {cB cI cJ cZ : ClassId} {h0 : Nat} {a : Nat → Nat} {cs : RS} : (mW cB cI cJ cZ h0 a cs)[46]? = some (a 56, .inl (cZ, 180, .inl (cs.2.2.1 56))) := rfl
theorem ms_56 {cB cI cJ cZ : ClassId} {h0 : Nat} {a : Nat → Nat} {cs : RS} {i : Nat} {v : Int32} : (mW cB cI cJ cZ h0 a cs).set 46 (a 56, .inl (cZ, 180, .inl (upd (cs.2.2.1 56) i v))) = mW cB cI cJ cZ h0 a (setI cs 56 i v) := rfl
theorem mg_57 {cB cI cJ cZ : ClassId} {h0 : Nat} {a : Nat → Nat} {cs : RS} : (mW cB cI cJ cZ h0 a cs)[47]? = some (a 57, .inl (cI, 180, .inl (cs.2.2.1 57))) := rfl
theorem ms_57 {cB cI cJ cZ : ClassId} {h0 : Nat} {a : Nat → Nat} {cs : RS} {i : Nat} {v : Int32} : (mW cB cI cJ cZ h0 a cs).set 47 (a 57, .inl (cI, 180, .inl (upd (cs.2.2.1 57) i v))) = mW cB cI cJ cZ h0 a (setI cs 57 i v) := rfl
theorem mg_58 {cB cI cJ cZ : ClassId} {h0 : Nat} {a : Nat → Nat} {cs : RS} : (mW cB cI cJ cZ h0 a cs)[48]? = some (a 58, .inl (cI, 180, .inl (cs.2.2.1 58))) := rfl
theorem ms_58 {cB cI cJ cZ : ClassId} {h0 : Nat} {a : Nat → Nat} {cs : RS} {i : Nat} {v : Int32} : (mW cB cI cJ cZ h0 a cs).set 48 (a 58, .inl (cI, 180, .inl (upd (cs.2.2.1 58) i v))) = mW cB cI cJ cZ h0 a (setI cs 58 i v) := rfl
theorem mg_60 {cB cI cJ cZ : ClassId} {h0 : Nat} {a : Nat → Nat} {cs : RS} : (mW cB cI cJ cZ h0 a cs)[49]? = some (a 60, .inl (cI, 60, .inl (cs.2.2.1 60))) := rfl
theorem ms_60 {cB cI cJ cZ : ClassId} {h0 : Nat} {a : Nat → Nat} {cs : RS} {i : Nat} {v : Int32} : (mW cB cI cJ cZ h0 a cs).set 49 (a 60, .inl (cI, 60, .inl (upd (cs.2.2.1 60) i v))) = mW cB cI cJ cZ h0 a (setI cs 60 i v) := rfl
theorem mg_61 {cB cI cJ cZ : ClassId} {h0 : Nat} {a : Nat → Nat} {cs : RS} : (mW cB cI cJ cZ h0 a cs)[50]? = some (a 61, .inl (cI, 300, .inl (cs.2.2.1 61))) := rfl
theorem ms_61 {cB cI cJ cZ : ClassId} {h0 : Nat} {a : Nat → Nat} {cs : RS} {i : Nat} {v : Int32} : (mW cB cI cJ cZ h0 a cs).set 50 (a 61, .inl (cI, 300, .inl (upd (cs.2.2.1 61) i v))) = mW cB cI cJ cZ h0 a (setI cs 61 i v) := rfl
theorem mg_62 {cB cI cJ cZ : ClassId} {h0 : Nat} {a : Nat → Nat} {cs : RS} : (mW cB cI cJ cZ h0 a cs)[51]? = some (a 62, .inl (cI, 300, .inl (cs.2.2.1 62))) := rfl
theorem ms_62 {cB cI cJ cZ : ClassId} {h0 : Nat} {a : Nat → Nat} {cs : RS} {i : Nat} {v : Int32} : (mW cB cI cJ cZ h0 a cs).set 51 (a 62, .inl (cI, 300, .inl (upd (cs.2.2.1 62) i v))) = mW cB cI cJ cZ h0 a (setI cs 62 i v) := rfl
theorem mg_63 {cB cI cJ cZ : ClassId} {h0 : Nat} {a : Nat → Nat} {cs : RS} : (mW cB cI cJ cZ h0 a cs)[52]? = some (a 63, .inl (cI, 300, .inl (cs.2.2.1 63))) := rfl
theorem ms_63 {cB cI cJ cZ : ClassId} {h0 : Nat} {a : Nat → Nat} {cs : RS} {i : Nat} {v : Int32} : (mW cB cI cJ cZ h0 a cs).set 52 (a 63, .inl (cI, 300, .inl (upd (cs.2.2.1 63) i v))) = mW cB cI cJ cZ h0 a (setI cs 63 i v) := rfl
theorem mg_64 {cB cI cJ cZ : ClassId} {h0 : Nat} {a : Nat → Nat} {cs : RS} : (mW cB cI cJ cZ h0 a cs)[53]? = some (a 64, .inl (cI, 60, .inl (cs.2.2.1 64))) := rfl
theorem ms_64 {cB cI cJ cZ : ClassId} {h0 : Nat} {a : Nat → Nat} {cs : RS} {i : Nat} {v : Int32} : (mW cB cI cJ cZ h0 a cs).set 53 (a 64, .inl (cI, 60, .inl (upd (cs.2.2.1 64) i v))) = mW cB cI cJ cZ h0 a (setI cs 64 i v) := rfl
theorem mg_65 {cB cI cJ cZ : ClassId} {h0 : Nat} {a : Nat → Nat} {cs : RS} : (mW cB cI cJ cZ h0 a cs)[54]? = some (a 65, .inl (cI, 60, .inl (cs.2.2.1 65))) := rfl
theorem ms_65 {cB cI cJ cZ : ClassId} {h0 : Nat} {a : Nat → Nat} {cs : RS} {i : Nat} {v : Int32} : (mW cB cI cJ cZ h0 a cs).set 54 (a 65, .inl (cI, 60, .inl (upd (cs.2.2.1 65) i v))) = mW cB cI cJ cZ h0 a (setI cs 65 i v) := rfl
theorem mg_66 {cB cI cJ cZ : ClassId} {h0 : Nat} {a : Nat → Nat} {cs : RS} : (mW cB cI cJ cZ h0 a cs)[55]? = some (a 66, .inl (cI, 480, .inl (cs.2.2.1 66))) := rfl
theorem ms_66 {cB cI cJ cZ : ClassId} {h0 : Nat} {a : Nat → Nat} {cs : RS} {i : Nat} {v : Int32} : (mW cB cI cJ cZ h0 a cs).set 55 (a 66, .inl (cI, 480, .inl (upd (cs.2.2.1 66) i v))) = mW cB cI cJ cZ h0 a (setI cs 66 i v) := rfl
theorem mg_67 {cB cI cJ cZ : ClassId} {h0 : Nat} {a : Nat → Nat} {cs : RS} : (mW cB cI cJ cZ h0 a cs)[56]? = some (a 67, .inl (cZ, 480, .inl (cs.2.2.1 67))) := rfl
theorem ms_67 {cB cI cJ cZ : ClassId} {h0 : Nat} {a : Nat → Nat} {cs : RS} {i : Nat} {v : Int32} : (mW cB cI cJ cZ h0 a cs).set 56 (a 67, .inl (cZ, 480, .inl (upd (cs.2.2.1 67) i v))) = mW cB cI cJ cZ h0 a (setI cs 67 i v) := rfl
theorem mg_68 {cB cI cJ cZ : ClassId} {h0 : Nat} {a : Nat → Nat} {cs : RS} : (mW cB cI cJ cZ h0 a cs)[57]? = some (a 68, .inl (cI, 60, .inl (cs.2.2.1 68))) := rfl
theorem ms_68 {cB cI cJ cZ : ClassId} {h0 : Nat} {a : Nat → Nat} {cs : RS} {i : Nat} {v : Int32} : (mW cB cI cJ cZ h0 a cs).set 57 (a 68, .inl (cI, 60, .inl (upd (cs.2.2.1 68) i v))) = mW cB cI cJ cZ h0 a (setI cs 68 i v) := rfl
theorem mg_79 {cB cI cJ cZ : ClassId} {h0 : Nat} {a : Nat → Nat} {cs : RS} : (mW cB cI cJ cZ h0 a cs)[58]? = some (a 79, .inl (cI, 180, .inl (cs.2.2.1 79))) := rfl
theorem ms_79 {cB cI cJ cZ : ClassId} {h0 : Nat} {a : Nat → Nat} {cs : RS} {i : Nat} {v : Int32} : (mW cB cI cJ cZ h0 a cs).set 58 (a 79, .inl (cI, 180, .inl (upd (cs.2.2.1 79) i v))) = mW cB cI cJ cZ h0 a (setI cs 79 i v) := rfl
theorem mg_80 {cB cI cJ cZ : ClassId} {h0 : Nat} {a : Nat → Nat} {cs : RS} : (mW cB cI cJ cZ h0 a cs)[59]? = some (a 80, .inl (cI, 480, .inl (cs.2.2.1 80))) := rfl
theorem ms_80 {cB cI cJ cZ : ClassId} {h0 : Nat} {a : Nat → Nat} {cs : RS} {i : Nat} {v : Int32} : (mW cB cI cJ cZ h0 a cs).set 59 (a 80, .inl (cI, 480, .inl (upd (cs.2.2.1 80) i v))) = mW cB cI cJ cZ h0 a (setI cs 80 i v) := rfl
theorem mg_83 {cB cI cJ cZ : ClassId} {h0 : Nat} {a : Nat → Nat} {cs : RS} : (mW cB cI cJ cZ h0 a cs)[60]? = some (a 83, .inl (cB, 2000, .inl (cs.2.2.1 83))) := rfl
theorem ms_83 {cB cI cJ cZ : ClassId} {h0 : Nat} {a : Nat → Nat} {cs : RS} {i : Nat} {v : Int32} : (mW cB cI cJ cZ h0 a cs).set 60 (a 83, .inl (cB, 2000, .inl (upd (cs.2.2.1 83) i v))) = mW cB cI cJ cZ h0 a (setI cs 83 i v) := rfl
theorem mg_85 {cB cI cJ cZ : ClassId} {h0 : Nat} {a : Nat → Nat} {cs : RS} : (mW cB cI cJ cZ h0 a cs)[61]? = some (a 85, .inl (cJ, 400000, .inr (.inl (cs.2.2.2 85)))) := rfl
theorem ms_85 {cB cI cJ cZ : ClassId} {h0 : Nat} {a : Nat → Nat} {cs : RS} {i : Nat} {v : Int64} : (mW cB cI cJ cZ h0 a cs).set 61 (a 85, .inl (cJ, 400000, .inr (.inl (vp_updL (cs.2.2.2 85) i v)))) = mW cB cI cJ cZ h0 a (setL cs 85 i v) := rfl
theorem mg_86 {cB cI cJ cZ : ClassId} {h0 : Nat} {a : Nat → Nat} {cs : RS} : (mW cB cI cJ cZ h0 a cs)[62]? = some (a 86, .inl (cZ, 400000, .inl (cs.2.2.1 86))) := rfl
theorem ms_86 {cB cI cJ cZ : ClassId} {h0 : Nat} {a : Nat → Nat} {cs : RS} {i : Nat} {v : Int32} : (mW cB cI cJ cZ h0 a cs).set 62 (a 86, .inl (cZ, 400000, .inl (upd (cs.2.2.1 86) i v))) = mW cB cI cJ cZ h0 a (setI cs 86 i v) := rfl
theorem mg_88 {cB cI cJ cZ : ClassId} {h0 : Nat} {a : Nat → Nat} {cs : RS} : (mW cB cI cJ cZ h0 a cs)[63]? = some (a 88, .inl (cI, 400, .inl (cs.2.2.1 88))) := rfl
theorem ms_88 {cB cI cJ cZ : ClassId} {h0 : Nat} {a : Nat → Nat} {cs : RS} {i : Nat} {v : Int32} : (mW cB cI cJ cZ h0 a cs).set 63 (a 88, .inl (cI, 400, .inl (upd (cs.2.2.1 88) i v))) = mW cB cI cJ cZ h0 a (setI cs 88 i v) := rfl
theorem mg_89 {cB cI cJ cZ : ClassId} {h0 : Nat} {a : Nat → Nat} {cs : RS} : (mW cB cI cJ cZ h0 a cs)[64]? = some (a 89, .inl (cI, 400, .inl (cs.2.2.1 89))) := rfl
theorem ms_89 {cB cI cJ cZ : ClassId} {h0 : Nat} {a : Nat → Nat} {cs : RS} {i : Nat} {v : Int32} : (mW cB cI cJ cZ h0 a cs).set 64 (a 89, .inl (cI, 400, .inl (upd (cs.2.2.1 89) i v))) = mW cB cI cJ cZ h0 a (setI cs 89 i v) := rfl
theorem mg_90 {cB cI cJ cZ : ClassId} {h0 : Nat} {a : Nat → Nat} {cs : RS} : (mW cB cI cJ cZ h0 a cs)[65]? = some (a 90, .inl (cI, 400, .inl (cs.2.2.1 90))) := rfl
theorem ms_90 {cB cI cJ cZ : ClassId} {h0 : Nat} {a : Nat → Nat} {cs : RS} {i : Nat} {v : Int32} : (mW cB cI cJ cZ h0 a cs).set 65 (a 90, .inl (cI, 400, .inl (upd (cs.2.2.1 90) i v))) = mW cB cI cJ cZ h0 a (setI cs 90 i v) := rfl
theorem mg_98 {cB cI cJ cZ : ClassId} {h0 : Nat} {a : Nat → Nat} {cs : RS} : (mW cB cI cJ cZ h0 a cs)[66]? = some (a 98, .inl (cI, 600, .inl (cs.2.2.1 98))) := rfl
theorem ms_98 {cB cI cJ cZ : ClassId} {h0 : Nat} {a : Nat → Nat} {cs : RS} {i : Nat} {v : Int32} : (mW cB cI cJ cZ h0 a cs).set 66 (a 98, .inl (cI, 600, .inl (upd (cs.2.2.1 98) i v))) = mW cB cI cJ cZ h0 a (setI cs 98 i v) := rfl
theorem mg_99 {cB cI cJ cZ : ClassId} {h0 : Nat} {a : Nat → Nat} {cs : RS} : (mW cB cI cJ cZ h0 a cs)[67]? = some (a 99, .inl (cZ, 700, .inl (cs.2.2.1 99))) := rfl
theorem ms_99 {cB cI cJ cZ : ClassId} {h0 : Nat} {a : Nat → Nat} {cs : RS} {i : Nat} {v : Int32} : (mW cB cI cJ cZ h0 a cs).set 67 (a 99, .inl (cZ, 700, .inl (upd (cs.2.2.1 99) i v))) = mW cB cI cJ cZ h0 a (setI cs 99 i v) := rfl
theorem mg_102 {cB cI cJ cZ : ClassId} {h0 : Nat} {a : Nat → Nat} {cs : RS} : (mW cB cI cJ cZ h0 a cs)[68]? = some (a 102, .inl (cJ, 4800, .inr (.inl (cs.2.2.2 102)))) := rfl
theorem ms_102 {cB cI cJ cZ : ClassId} {h0 : Nat} {a : Nat → Nat} {cs : RS} {i : Nat} {v : Int64} : (mW cB cI cJ cZ h0 a cs).set 68 (a 102, .inl (cJ, 4800, .inr (.inl (vp_updL (cs.2.2.2 102) i v)))) = mW cB cI cJ cZ h0 a (setL cs 102 i v) := rfl
theorem mg_103 {cB cI cJ cZ : ClassId} {h0 : Nat} {a : Nat → Nat} {cs : RS} : (mW cB cI cJ cZ h0 a cs)[69]? = some (a 103, .inl (cZ, 4800, .inl (cs.2.2.1 103))) := rfl
theorem ms_103 {cB cI cJ cZ : ClassId} {h0 : Nat} {a : Nat → Nat} {cs : RS} {i : Nat} {v : Int32} : (mW cB cI cJ cZ h0 a cs).set 69 (a 103, .inl (cZ, 4800, .inl (upd (cs.2.2.1 103) i v))) = mW cB cI cJ cZ h0 a (setI cs 103 i v) := rfl
theorem mg_105 {cB cI cJ cZ : ClassId} {h0 : Nat} {a : Nat → Nat} {cs : RS} : (mW cB cI cJ cZ h0 a cs)[70]? = some (a 105, .inl (cJ, 4800, .inr (.inl (cs.2.2.2 105)))) := rfl
theorem ms_105 {cB cI cJ cZ : ClassId} {h0 : Nat} {a : Nat → Nat} {cs : RS} {i : Nat} {v : Int64} : (mW cB cI cJ cZ h0 a cs).set 70 (a 105, .inl (cJ, 4800, .inr (.inl (vp_updL (cs.2.2.2 105) i v)))) = mW cB cI cJ cZ h0 a (setL cs 105 i v) := rfl
theorem mg_106 {cB cI cJ cZ : ClassId} {h0 : Nat} {a : Nat → Nat} {cs : RS} : (mW cB cI cJ cZ h0 a cs)[71]? = some (a 106, .inl (cZ, 4800, .inl (cs.2.2.1 106))) := rfl
theorem ms_106 {cB cI cJ cZ : ClassId} {h0 : Nat} {a : Nat → Nat} {cs : RS} {i : Nat} {v : Int32} : (mW cB cI cJ cZ h0 a cs).set 71 (a 106, .inl (cZ, 4800, .inl (upd (cs.2.2.1 106) i v))) = mW cB cI cJ cZ h0 a (setI cs 106 i v) := rfl
theorem mg_108 {cB cI cJ cZ : ClassId} {h0 : Nat} {a : Nat → Nat} {cs : RS} : (mW cB cI cJ cZ h0 a cs)[72]? = some (a 108, .inl (cJ, 4800, .inr (.inl (cs.2.2.2 108)))) := rfl
theorem ms_108 {cB cI cJ cZ : ClassId} {h0 : Nat} {a : Nat → Nat} {cs : RS} {i : Nat} {v : Int64} : (mW cB cI cJ cZ h0 a cs).set 72 (a 108, .inl (cJ, 4800, .inr (.inl (vp_updL (cs.2.2.2 108) i v)))) = mW cB cI cJ cZ h0 a (setL cs 108 i v) := rfl
theorem mg_109 {cB cI cJ cZ : ClassId} {h0 : Nat} {a : Nat → Nat} {cs : RS} : (mW cB cI cJ cZ h0 a cs)[73]? = some (a 109, .inl (cZ, 4800, .inl (cs.2.2.1 109))) := rfl
theorem ms_109 {cB cI cJ cZ : ClassId} {h0 : Nat} {a : Nat → Nat} {cs : RS} {i : Nat} {v : Int32} : (mW cB cI cJ cZ h0 a cs).set 73 (a 109, .inl (cZ, 4800, .inl (upd (cs.2.2.1 109) i v))) = mW cB cI cJ cZ h0 a (setI cs 109 i v) := rfl
theorem mg_111 {cB cI cJ cZ : ClassId} {h0 : Nat} {a : Nat → Nat} {cs : RS} : (mW cB cI cJ cZ h0 a cs)[74]? = some (a 111, .inl (cI, 1300, .inl (cs.2.2.1 111))) := rfl
theorem ms_111 {cB cI cJ cZ : ClassId} {h0 : Nat} {a : Nat → Nat} {cs : RS} {i : Nat} {v : Int32} : (mW cB cI cJ cZ h0 a cs).set 74 (a 111, .inl (cI, 1300, .inl (upd (cs.2.2.1 111) i v))) = mW cB cI cJ cZ h0 a (setI cs 111 i v) := rfl
theorem mg_112 {cB cI cJ cZ : ClassId} {h0 : Nat} {a : Nat → Nat} {cs : RS} : (mW cB cI cJ cZ h0 a cs)[75]? = some (a 112, .inl (cJ, 10400, .inr (.inl (cs.2.2.2 112)))) := rfl
theorem ms_112 {cB cI cJ cZ : ClassId} {h0 : Nat} {a : Nat → Nat} {cs : RS} {i : Nat} {v : Int64} : (mW cB cI cJ cZ h0 a cs).set 75 (a 112, .inl (cJ, 10400, .inr (.inl (vp_updL (cs.2.2.2 112) i v)))) = mW cB cI cJ cZ h0 a (setL cs 112 i v) := rfl
theorem mg_113 {cB cI cJ cZ : ClassId} {h0 : Nat} {a : Nat → Nat} {cs : RS} : (mW cB cI cJ cZ h0 a cs)[76]? = some (a 113, .inl (cZ, 10400, .inl (cs.2.2.1 113))) := rfl
theorem ms_113 {cB cI cJ cZ : ClassId} {h0 : Nat} {a : Nat → Nat} {cs : RS} {i : Nat} {v : Int32} : (mW cB cI cJ cZ h0 a cs).set 76 (a 113, .inl (cZ, 10400, .inl (upd (cs.2.2.1 113) i v))) = mW cB cI cJ cZ h0 a (setI cs 113 i v) := rfl
theorem mg_114 {cB cI cJ cZ : ClassId} {h0 : Nat} {a : Nat → Nat} {cs : RS} : (mW cB cI cJ cZ h0 a cs)[77]? = some (a 114, .inl (cI, 700, .inl (cs.2.2.1 114))) := rfl
theorem ms_114 {cB cI cJ cZ : ClassId} {h0 : Nat} {a : Nat → Nat} {cs : RS} {i : Nat} {v : Int32} : (mW cB cI cJ cZ h0 a cs).set 77 (a 114, .inl (cI, 700, .inl (upd (cs.2.2.1 114) i v))) = mW cB cI cJ cZ h0 a (setI cs 114 i v) := rfl
theorem mf_1 {cB cI cJ cZ : ClassId} {h0 : Nat} {a : Nat → Nat} {cs : RS} {v : Int32} : (mW cB cI cJ cZ h0 a cs).set 0 (h0, .inr (13, (moF a cs.1 cs.2.1).set 1 (.int v))) = mW cB cI cJ cZ h0 a (setF cs 1 v) := rfl
theorem mf_3 {cB cI cJ cZ : ClassId} {h0 : Nat} {a : Nat → Nat} {cs : RS} {v : Int32} : (mW cB cI cJ cZ h0 a cs).set 0 (h0, .inr (13, (moF a cs.1 cs.2.1).set 3 (.int v))) = mW cB cI cJ cZ h0 a (setF cs 3 v) := rfl
theorem mf_4 {cB cI cJ cZ : ClassId} {h0 : Nat} {a : Nat → Nat} {cs : RS} {v : Int32} : (mW cB cI cJ cZ h0 a cs).set 0 (h0, .inr (13, (moF a cs.1 cs.2.1).set 4 (.int v))) = mW cB cI cJ cZ h0 a (setF cs 4 v) := rfl
theorem mf_10 {cB cI cJ cZ : ClassId} {h0 : Nat} {a : Nat → Nat} {cs : RS} {v : Int64} : (mW cB cI cJ cZ h0 a cs).set 0 (h0, .inr (13, (moF a cs.1 cs.2.1).set 10 (.long v))) = mW cB cI cJ cZ h0 a (setW cs v) := rfl
theorem mf_11 {cB cI cJ cZ : ClassId} {h0 : Nat} {a : Nat → Nat} {cs : RS} {v : Int32} : (mW cB cI cJ cZ h0 a cs).set 0 (h0, .inr (13, (moF a cs.1 cs.2.1).set 11 (.int v))) = mW cB cI cJ cZ h0 a (setF cs 11 v) := rfl
theorem mf_18 {cB cI cJ cZ : ClassId} {h0 : Nat} {a : Nat → Nat} {cs : RS} {v : Int32} : (mW cB cI cJ cZ h0 a cs).set 0 (h0, .inr (13, (moF a cs.1 cs.2.1).set 18 (.int v))) = mW cB cI cJ cZ h0 a (setF cs 18 v) := rfl
theorem mf_19 {cB cI cJ cZ : ClassId} {h0 : Nat} {a : Nat → Nat} {cs : RS} {v : Int32} : (mW cB cI cJ cZ h0 a cs).set 0 (h0, .inr (13, (moF a cs.1 cs.2.1).set 19 (.int v))) = mW cB cI cJ cZ h0 a (setF cs 19 v) := rfl
theorem mf_20 {cB cI cJ cZ : ClassId} {h0 : Nat} {a : Nat → Nat} {cs : RS} {v : Int32} : (mW cB cI cJ cZ h0 a cs).set 0 (h0, .inr (13, (moF a cs.1 cs.2.1).set 20 (.int v))) = mW cB cI cJ cZ h0 a (setF cs 20 v) := rfl
theorem mf_21 {cB cI cJ cZ : ClassId} {h0 : Nat} {a : Nat → Nat} {cs : RS} {v : Int32} : (mW cB cI cJ cZ h0 a cs).set 0 (h0, .inr (13, (moF a cs.1 cs.2.1).set 21 (.int v))) = mW cB cI cJ cZ h0 a (setF cs 21 v) := rfl
theorem mf_22 {cB cI cJ cZ : ClassId} {h0 : Nat} {a : Nat → Nat} {cs : RS} {v : Int32} : (mW cB cI cJ cZ h0 a cs).set 0 (h0, .inr (13, (moF a cs.1 cs.2.1).set 22 (.int v))) = mW cB cI cJ cZ h0 a (setF cs 22 v) := rfl
theorem mf_34 {cB cI cJ cZ : ClassId} {h0 : Nat} {a : Nat → Nat} {cs : RS} {v : Int32} : (mW cB cI cJ cZ h0 a cs).set 0 (h0, .inr (13, (moF a cs.1 cs.2.1).set 34 (.int v))) = mW cB cI cJ cZ h0 a (setF cs 34 v) := rfl
theorem mf_59 {cB cI cJ cZ : ClassId} {h0 : Nat} {a : Nat → Nat} {cs : RS} {v : Int32} : (mW cB cI cJ cZ h0 a cs).set 0 (h0, .inr (13, (moF a cs.1 cs.2.1).set 59 (.int v))) = mW cB cI cJ cZ h0 a (setF cs 59 v) := rfl
theorem mf_69 {cB cI cJ cZ : ClassId} {h0 : Nat} {a : Nat → Nat} {cs : RS} {v : Int32} : (mW cB cI cJ cZ h0 a cs).set 0 (h0, .inr (13, (moF a cs.1 cs.2.1).set 69 (.int v))) = mW cB cI cJ cZ h0 a (setF cs 69 v) := rfl
theorem mf_70 {cB cI cJ cZ : ClassId} {h0 : Nat} {a : Nat → Nat} {cs : RS} {v : Int32} : (mW cB cI cJ cZ h0 a cs).set 0 (h0, .inr (13, (moF a cs.1 cs.2.1).set 70 (.int v))) = mW cB cI cJ cZ h0 a (setF cs 70 v) := rfl
theorem mf_71 {cB cI cJ cZ : ClassId} {h0 : Nat} {a : Nat → Nat} {cs : RS} {v : Int32} : (mW cB cI cJ cZ h0 a cs).set 0 (h0, .inr (13, (moF a cs.1 cs.2.1).set 71 (.int v))) = mW cB cI cJ cZ h0 a (setF cs 71 v) := rfl
theorem mf_72 {cB cI cJ cZ : ClassId} {h0 : Nat} {a : Nat → Nat} {cs : RS} {v : Int32} : (mW cB cI cJ cZ h0 a cs).set 0 (h0, .inr (13, (moF a cs.1 cs.2.1).set 72 (.int v))) = mW cB cI cJ cZ h0 a (setF cs 72 v) := rfl
theorem mf_73 {cB cI cJ cZ : ClassId} {h0 : Nat} {a : Nat → Nat} {cs : RS} {v : Int32} : (mW cB cI cJ cZ h0 a cs).set 0 (h0, .inr (13, (moF a cs.1 cs.2.1).set 73 (.int v))) = mW cB cI cJ cZ h0 a (setF cs 73 v) := rfl
theorem mf_74 {cB cI cJ cZ : ClassId} {h0 : Nat} {a : Nat → Nat} {cs : RS} {v : Int32} : (mW cB cI cJ cZ h0 a cs).set 0 (h0, .inr (13, (moF a cs.1 cs.2.1).set 74 (.int v))) = mW cB cI cJ cZ h0 a (setF cs 74 v) := rfl
theorem mf_75 {cB cI cJ cZ : ClassId} {h0 : Nat} {a : Nat → Nat} {cs : RS} {v : Int32} : (mW cB cI cJ cZ h0 a cs).set 0 (h0, .inr (13, (moF a cs.1 cs.2.1).set 75 (.int v))) = mW cB cI cJ cZ h0 a (setF cs 75 v) := rfl
theorem mf_76 {cB cI cJ cZ : ClassId} {h0 : Nat} {a : Nat → Nat} {cs : RS} {v : Int32} : (mW cB cI cJ cZ h0 a cs).set 0 (h0, .inr (13, (moF a cs.1 cs.2.1).set 76 (.int v))) = mW cB cI cJ cZ h0 a (setF cs 76 v) := rfl
theorem mf_77 {cB cI cJ cZ : ClassId} {h0 : Nat} {a : Nat → Nat} {cs : RS} {v : Int32} : (mW cB cI cJ cZ h0 a cs).set 0 (h0, .inr (13, (moF a cs.1 cs.2.1).set 77 (.int v))) = mW cB cI cJ cZ h0 a (setF cs 77 v) := rfl
theorem mf_78 {cB cI cJ cZ : ClassId} {h0 : Nat} {a : Nat → Nat} {cs : RS} {v : Int32} : (mW cB cI cJ cZ h0 a cs).set 0 (h0, .inr (13, (moF a cs.1 cs.2.1).set 78 (.int v))) = mW cB cI cJ cZ h0 a (setF cs 78 v) := rfl
theorem mf_81 {cB cI cJ cZ : ClassId} {h0 : Nat} {a : Nat → Nat} {cs : RS} {v : Int32} : (mW cB cI cJ cZ h0 a cs).set 0 (h0, .inr (13, (moF a cs.1 cs.2.1).set 81 (.int v))) = mW cB cI cJ cZ h0 a (setF cs 81 v) := rfl
theorem mf_82 {cB cI cJ cZ : ClassId} {h0 : Nat} {a : Nat → Nat} {cs : RS} {v : Int32} : (mW cB cI cJ cZ h0 a cs).set 0 (h0, .inr (13, (moF a cs.1 cs.2.1).set 82 (.int v))) = mW cB cI cJ cZ h0 a (setF cs 82 v) := rfl
theorem mf_84 {cB cI cJ cZ : ClassId} {h0 : Nat} {a : Nat → Nat} {cs : RS} {v : Int32} : (mW cB cI cJ cZ h0 a cs).set 0 (h0, .inr (13, (moF a cs.1 cs.2.1).set 84 (.int v))) = mW cB cI cJ cZ h0 a (setF cs 84 v) := rfl
theorem mf_87 {cB cI cJ cZ : ClassId} {h0 : Nat} {a : Nat → Nat} {cs : RS} {v : Int32} : (mW cB cI cJ cZ h0 a cs).set 0 (h0, .inr (13, (moF a cs.1 cs.2.1).set 87 (.int v))) = mW cB cI cJ cZ h0 a (setF cs 87 v) := rfl
theorem mf_91 {cB cI cJ cZ : ClassId} {h0 : Nat} {a : Nat → Nat} {cs : RS} {v : Int32} : (mW cB cI cJ cZ h0 a cs).set 0 (h0, .inr (13, (moF a cs.1 cs.2.1).set 91 (.int v))) = mW cB cI cJ cZ h0 a (setF cs 91 v) := rfl
theorem mf_92 {cB cI cJ cZ : ClassId} {h0 : Nat} {a : Nat → Nat} {cs : RS} {v : Int32} : (mW cB cI cJ cZ h0 a cs).set 0 (h0, .inr (13, (moF a cs.1 cs.2.1).set 92 (.int v))) = mW cB cI cJ cZ h0 a (setF cs 92 v) := rfl
theorem mf_93 {cB cI cJ cZ : ClassId} {h0 : Nat} {a : Nat → Nat} {cs : RS} {v : Int32} : (mW cB cI cJ cZ h0 a cs).set 0 (h0, .inr (13, (moF a cs.1 cs.2.1).set 93 (.int v))) = mW cB cI cJ cZ h0 a (setF cs 93 v) := rfl
theorem mf_94 {cB cI cJ cZ : ClassId} {h0 : Nat} {a : Nat → Nat} {cs : RS} {v : Int32} : (mW cB cI cJ cZ h0 a cs).set 0 (h0, .inr (13, (moF a cs.1 cs.2.1).set 94 (.int v))) = mW cB cI cJ cZ h0 a (setF cs 94 v) := rfl
theorem mf_95 {cB cI cJ cZ : ClassId} {h0 : Nat} {a : Nat → Nat} {cs : RS} {v : Int32} : (mW cB cI cJ cZ h0 a cs).set 0 (h0, .inr (13, (moF a cs.1 cs.2.1).set 95 (.int v))) = mW cB cI cJ cZ h0 a (setF cs 95 v) := rfl
theorem mf_96 {cB cI cJ cZ : ClassId} {h0 : Nat} {a : Nat → Nat} {cs : RS} {v : Int32} : (mW cB cI cJ cZ h0 a cs).set 0 (h0, .inr (13, (moF a cs.1 cs.2.1).set 96 (.int v))) = mW cB cI cJ cZ h0 a (setF cs 96 v) := rfl
theorem mf_97 {cB cI cJ cZ : ClassId} {h0 : Nat} {a : Nat → Nat} {cs : RS} {v : Int32} : (mW cB cI cJ cZ h0 a cs).set 0 (h0, .inr (13, (moF a cs.1 cs.2.1).set 97 (.int v))) = mW cB cI cJ cZ h0 a (setF cs 97 v) := rfl
theorem mf_100 {cB cI cJ cZ : ClassId} {h0 : Nat} {a : Nat → Nat} {cs : RS} {v : Int32} : (mW cB cI cJ cZ h0 a cs).set 0 (h0, .inr (13, (moF a cs.1 cs.2.1).set 100 (.int v))) = mW cB cI cJ cZ h0 a (setF cs 100 v) := rfl
theorem mf_101 {cB cI cJ cZ : ClassId} {h0 : Nat} {a : Nat → Nat} {cs : RS} {v : Int32} : (mW cB cI cJ cZ h0 a cs).set 0 (h0, .inr (13, (moF a cs.1 cs.2.1).set 101 (.int v))) = mW cB cI cJ cZ h0 a (setF cs 101 v) := rfl
theorem mf_104 {cB cI cJ cZ : ClassId} {h0 : Nat} {a : Nat → Nat} {cs : RS} {v : Int32} : (mW cB cI cJ cZ h0 a cs).set 0 (h0, .inr (13, (moF a cs.1 cs.2.1).set 104 (.int v))) = mW cB cI cJ cZ h0 a (setF cs 104 v) := rfl
theorem mf_107 {cB cI cJ cZ : ClassId} {h0 : Nat} {a : Nat → Nat} {cs : RS} {v : Int32} : (mW cB cI cJ cZ h0 a cs).set 0 (h0, .inr (13, (moF a cs.1 cs.2.1).set 107 (.int v))) = mW cB cI cJ cZ h0 a (setF cs 107 v) := rfl
theorem mf_110 {cB cI cJ cZ : ClassId} {h0 : Nat} {a : Nat → Nat} {cs : RS} {v : Int32} : (mW cB cI cJ cZ h0 a cs).set 0 (h0, .inr (13, (moF a cs.1 cs.2.1).set 110 (.int v))) = mW cB cI cJ cZ h0 a (setF cs 110 v) := rfl

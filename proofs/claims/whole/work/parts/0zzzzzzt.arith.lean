/-! numbers: the class's and the reference's ways to divide -/
theorem bm_id {x : Int} (h1 : -9223372036854775808 ≤ x) (h2 : x < 9223372036854775808) : x.bmod (2 ^ 64) = x := by
  have w : ((2 ^ 64 : Nat) : Int) = 18446744073709551616 := by decide
  exact Int.bmod_eq_of_le_mul_two (by omega) (by omega)
theorem i64_lt (x : Int64) : x.toInt < 9223372036854775808 := x.toInt_lt
theorem i64_le (x : Int64) : -9223372036854775808 ≤ x.toInt := x.le_toInt
theorem div_m1 (a : Int64) : a / (-1) = -a := Int64.toInt_inj.mp (by
  rw [Int64.toInt_div, show (-1 : Int64).toInt = -1 by decide, Int64.toInt_neg, Int.tdiv_neg, Int.tdiv_one])
theorem mod_m1 (a : Int64) : a - a / (-1) * (-1) = 0 := by
  rw [div_m1, Int64.neg_mul_neg, Int64.mul_one, Int64.sub_self]
/-- the remainder, as a number -/
theorem rem_int {a b : Int64} (hb : 0 < b) : (a - a / b * b).toInt = a.toInt.tmod b.toInt := by
  have b0 : 0 < b.toInt := by
    have q := Int64.lt_iff_toInt_lt.mp hb
    rwa [Int64.toInt_zero] at q
  have a1 := i64_lt a
  have a2 := i64_le a
  have b1 := i64_lt b
  have ed : b.toInt * a.toInt.tdiv b.toInt + a.toInt.tmod b.toInt = a.toInt := Int.mul_tdiv_add_tmod a.toInt b.toInt
  have tm : (0 ≤ a.toInt → 0 ≤ a.toInt.tmod b.toInt ∧ 0 ≤ a.toInt.tdiv b.toInt) ∧ (a.toInt < 0 → a.toInt.tmod b.toInt ≤ 0 ∧ a.toInt.tdiv b.toInt ≤ 0) := by
    refine ⟨fun h => ⟨Int.tmod_nonneg _ h, Int.tdiv_nonneg h (by omega)⟩, fun h => ?_⟩
    have q1 : 0 ≤ (-a.toInt).tmod b.toInt := Int.tmod_nonneg _ (by omega)
    have q2 : 0 ≤ (-a.toInt).tdiv b.toInt := Int.tdiv_nonneg (by omega) (by omega)
    rw [Int.neg_tmod] at q1
    rw [Int.neg_tdiv] at q2
    omega
  obtain ⟨Q, hQ⟩ : ∃ q, q = a.toInt.tdiv b.toInt := ⟨_, rfl⟩
  obtain ⟨R, hR⟩ : ∃ q, q = a.toInt.tmod b.toInt := ⟨_, rfl⟩
  rw [← hQ, ← hR] at ed tm
  have bq : (0 ≤ Q → Q ≤ b.toInt * Q) ∧ (Q ≤ 0 → b.toInt * Q ≤ Q) := by
    refine ⟨fun h => ?_, fun h => ?_⟩
    · have := Int.mul_le_mul_of_nonneg_right (show 1 ≤ b.toInt by omega) h
      rwa [Int.one_mul] at this
    · have := Int.mul_le_mul_of_nonpos_right (show 1 ≤ b.toInt by omega) h
      rwa [Int.one_mul] at this
  have qb : Q * b.toInt = b.toInt * Q := Int.mul_comm _ _
  obtain ⟨P, hP⟩ : ∃ q, q = b.toInt * Q := ⟨_, rfl⟩
  rw [← hP] at ed bq qb
  have rq : -9223372036854775808 ≤ Q ∧ Q < 9223372036854775808 ∧ -9223372036854775808 ≤ P ∧ P < 9223372036854775808 ∧ -9223372036854775808 ≤ R ∧ R < 9223372036854775808 := by
    by_cases h : 0 ≤ a.toInt
    · obtain ⟨q1, q2⟩ := tm.1 h
      have := bq.1 q2
      omega
    · obtain ⟨q1, q2⟩ := tm.2 (by omega)
      have := bq.2 q2
      omega
  obtain ⟨r1, r2, r3, r4, r5, r6⟩ := rq
  rw [Int64.toInt_sub, Int64.toInt_mul, Int64.toInt_div, ← hQ, bm_id r1 r2, qb, bm_id r3 r4, show a.toInt - P = R by omega, bm_id r5 r6, hR]
theorem xor_pos {a b : Int64} (hb : 0 < b) : (0 ≤ a ^^^ b) ↔ 0 ≤ a := by
  have key : ∀ x : Int64, (0 ≤ x) ↔ x.toBitVec.msb = false := fun x => by
    rw [BitVec.msb_eq_toInt, Int64.le_iff_toInt_le, Int64.toInt_zero, Int64.toInt_toBitVec]
    simp
  have bm : b.toBitVec.msb = false := (key b).mp (by
    have q := Int64.lt_iff_toInt_lt.mp hb
    rw [Int64.le_iff_toInt_le]
    omega)
  rw [key, key, Int64.toBitVec_xor, BitVec.msb_xor, bm, Bool.xor_false]
theorem fm_ok {a b : Int64} (hb : 0 < b) : fm a b = (if 0 ≤ a - a / b * b then a - a / b * b else a - a / b * b + b) := by
  have r := rem_int (a := a) hb
  have b0 : 0 < b.toInt := by
    have q := Int64.lt_iff_toInt_lt.mp hb
    rwa [Int64.toInt_zero] at q
  have nn : 0 ≤ a → 0 ≤ a - a / b * b := fun h => by
    rw [Int64.le_iff_toInt_le, Int64.toInt_zero, r]
    exact Int.tmod_nonneg _ (by have := Int64.le_iff_toInt_le.mp h; rwa [Int64.toInt_zero] at this)
  have np : ¬ 0 ≤ a → (0 ≤ a - a / b * b → a - a / b * b = 0) := fun h g => by
    have h' : a.toInt < 0 := by
      have : ¬ (0 ≤ a.toInt) := fun w => h (by rw [Int64.le_iff_toInt_le, Int64.toInt_zero]; exact w)
      omega
    have q1 : 0 ≤ (-a.toInt).tmod b.toInt := Int.tmod_nonneg _ (by omega)
    rw [Int.neg_tmod, ← r] at q1
    have g' := Int64.le_iff_toInt_le.mp g
    rw [Int64.toInt_zero] at g'
    refine Int64.toInt_inj.mp ?_
    rw [Int64.toInt_zero]
    omega
  unfold fm
  by_cases h : 0 ≤ a
  · rw [if_pos ((xor_pos hb).mpr h), if_pos (nn h)]
  · rw [if_neg (fun w => h ((xor_pos hb).mp w))]
    by_cases z : 0 ≤ a - a / b * b
    · rw [if_pos z, if_pos (np h z)]
    · rw [if_neg z, if_neg (fun w => z (by rw [w]; decide))]
/-- both reckon alike -/
theorem rk2_tw {V : VT} {e : Nat} {a b : Int64} (h : BIN V e) (h1 : vk V e ≠ 28) (h2 : vk V e ≠ 29) : rk2 (vk V e) a b = tw (rk V e) (rh V e) a b := by
  obtain ⟨-, h⟩ := h
  rcases h with ⟨y, z⟩ | ⟨y, z⟩ | ⟨y, z⟩ | ⟨y, z⟩ | ⟨y, z⟩ | ⟨y, z⟩ | ⟨y, z⟩ | ⟨y, z⟩ | ⟨κ, k1, k2, y, z, w⟩
  · exact absurd y h1
  · exact absurd y h2
  · rw [y, z]; unfold rk2 tw; simp +decide only [reduceIte]
  · rw [y, z]; unfold rk2 tw; simp +decide only [reduceIte]
  · rw [y, z]; unfold rk2 tw; simp +decide only [reduceIte]
  · rw [y, z]; unfold rk2 tw; simp +decide only [reduceIte]
    by_cases q : b = 0
    · rw [if_pos q, if_pos q]
    · rw [if_neg q, if_neg q]
      by_cases q2 : b = -1
      · rw [if_pos q2, q2, div_m1]
      · rw [if_neg q2]
  · rw [y, z]; unfold rk2 tw; simp +decide only [reduceIte]
    by_cases q : b = 0
    · rw [if_pos q, if_pos q]
    · rw [if_neg q, if_neg q]
      by_cases q2 : b = -1
      · rw [if_pos q2, q2, mod_m1]
      · rw [if_neg q2]
  · rw [y, z]; unfold rk2 tw; simp +decide only [reduceIte]
    by_cases q : b ≤ 0
    · rw [if_pos q, if_neg (fun w => Int64.lt_irrefl (Int64.lt_of_lt_of_le w q))]
    · have q' : 0 < b := Int64.not_le.mp q
      rw [if_neg q, if_pos q', fm_ok q']
  · have c6 : κ = 50 ∨ κ = 51 ∨ κ = 52 ∨ κ = 53 ∨ κ = 54 ∨ κ = 55 := by omega
    have st5 : st 50 = 61 ∧ st 51 = 60 ∧ st 52 = 62 ∧ st 53 = 400 ∧ st 54 = 401 ∧ st 55 = 402 := by decide
    obtain ⟨s0, s1, s2, s3, s4, s5⟩ := st5
    rcases c6 with q | q | q | q | q | q
    · rw [q, show nI 50 = 50 by decide] at y w
      rw [y, z, w, s0]; unfold rk2 tw; simp +decide only [reduceIte]
    · rw [q, show nI 51 = 51 by decide] at y w
      rw [y, z, w, s1]; unfold rk2 tw; simp +decide only [reduceIte]
    · rw [q, show nI 52 = 52 by decide] at y w
      rw [y, z, w, s2]; unfold rk2 tw; simp +decide only [reduceIte]
    · rw [q, show nI 53 = 53 by decide] at y w
      rw [y, z, w, s3]; unfold rk2 tw; simp +decide only [reduceIte]
    · rw [q, show nI 54 = 54 by decide] at y w
      rw [y, z, w, s4]; unfold rk2 tw; simp +decide only [reduceIte]
    · rw [q, show nI 55 = 55 by decide] at y w
      rw [y, z, w, s5]; unfold rk2 tw; simp +decide only [reduceIte]

/-! numbers: the class's and the reference's ways to divide -/
theorem div_m1 (a : Int64) : a / (-1) = -a := Int64.toInt_inj.mp (by
  rw [Int64.toInt_div, show (-1 : Int64).toInt = -1 by decide, Int64.toInt_neg, Int.tdiv_neg, Int.tdiv_one])
theorem mod_m1 (a : Int64) : a - a / (-1) * (-1) = 0 := by
  rw [div_m1, Int64.neg_mul_neg, Int64.mul_one, Int64.sub_self]
theorem fm_ok {a b : Int64} (_ : 0 < b) : fm a b = (if 0 ≤ a - a / b * b then a - a / b * b else a - a / b * b + b) := rfl
/-- both reckon alike -/
theorem rk2_tw {V : VT} {e : Nat} {a b : Int64} (h : BIN V e) (h1 : vk V e ≠ 28) (h2 : vk V e ≠ 29) : rk2 (vk V e) a b = tw (rk V e) (rh V e) a b := by
  obtain ⟨-, h⟩ := h
  rcases h with ⟨y, z⟩ | ⟨y, z⟩ | ⟨y, z⟩ | ⟨y, z⟩ | ⟨y, z⟩ | ⟨y, z⟩ | ⟨y, z⟩ | ⟨y, z⟩ | ⟨κ, k1, k2, y, z, w⟩
  · exact absurd y h1
  · exact absurd y h2
  · rw [y, z]; unfold rk2 tw; simp +decide only [reduceIte]
  · rw [y, z]; unfold rk2 tw; simp +decide only [reduceIte]
  · rw [y, z]; unfold rk2 tw; simp +decide only [reduceIte]
  · rw [y, z]; unfold rk2 tw; simp +decide only [reduceIte]
    by_cases q : b = 0
    · rw [if_pos q, if_pos q]
    · rw [if_neg q, if_neg q]
      by_cases q2 : b = -1
      · rw [if_pos q2, q2, div_m1]
      · rw [if_neg q2]
  · rw [y, z]; unfold rk2 tw; simp +decide only [reduceIte]
    by_cases q : b = 0
    · rw [if_pos q, if_pos q]
    · rw [if_neg q, if_neg q]
      by_cases q2 : b = -1
      · rw [if_pos q2, q2, mod_m1]
      · rw [if_neg q2]
  · rw [y, z]; unfold rk2 tw; simp +decide only [reduceIte]
    by_cases q : b ≤ 0
    · rw [if_pos q, if_neg (fun w => Int64.lt_irrefl (Int64.lt_of_lt_of_le w q))]
    · have q' : 0 < b := Int64.not_le.mp q
      rw [if_neg q, if_pos q', fm_ok q']
  · have c6 : κ = 50 ∨ κ = 51 ∨ κ = 52 ∨ κ = 53 ∨ κ = 54 ∨ κ = 55 := by omega
    have st5 : st 50 = 61 ∧ st 51 = 60 ∧ st 52 = 62 ∧ st 53 = 400 ∧ st 54 = 401 ∧ st 55 = 402 := by decide
    obtain ⟨s0, s1, s2, s3, s4, s5⟩ := st5
    rcases c6 with q | q | q | q | q | q
    · rw [q, show nI 50 = 50 by decide] at y w
      rw [y, z, w, s0]; unfold rk2 tw; simp +decide only [reduceIte]
    · rw [q, show nI 51 = 51 by decide] at y w
      rw [y, z, w, s1]; unfold rk2 tw; simp +decide only [reduceIte]
    · rw [q, show nI 52 = 52 by decide] at y w
      rw [y, z, w, s2]; unfold rk2 tw; simp +decide only [reduceIte]
    · rw [q, show nI 53 = 53 by decide] at y w
      rw [y, z, w, s3]; unfold rk2 tw; simp +decide only [reduceIte]
    · rw [q, show nI 54 = 54 by decide] at y w
      rw [y, z, w, s4]; unfold rk2 tw; simp +decide only [reduceIte]
    · rw [q, show nI 55 = 55 by decide] at y w
      rw [y, z, w, s5]; unfold rk2 tw; simp +decide only [reduceIte]

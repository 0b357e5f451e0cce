/-! lists behind a fault -/
theorem li72_f {F t c : Nat} {T : TC_X9_readExpr} {cs : CS} {u1 u2 u3 u4 u5 : Int32} (h : FS t c cs) : c_X9_readList_b72 F T cs t u1 u2 u3 u4 u5 = some cs := by
  unfold c_X9_readList_b72
  rw [ckE_ok h.h.o, ob_s, expf h (by decide), ob_s, ckE_ok h.h.o, ob_s, cpl_f h, ob_s]
theorem liL_f {F v t c : Nat} {T : TC_X9_readExpr} {cs : CS} {u1 u2 u3 u4 u5 u7 : Int32} (h : FS t c cs) : c_X9_readList_L21 F T (v + 1) cs t u1 u2 u3 u4 u5 0 u7 = some cs := by
  rw [c_X9_readList_L21]
  by_cases y : 2000 ≤ u7
  · rw [if_pos y, li72_f h]
  · rw [if_neg y, if_pos rfl, li72_f h]
theorem mt336_f {F : Nat} {T' : TG_expr} {rs : RS} {u1 u2 u3 u5 u6 : Int32} (h : FT rs) : ∃ v, m_test_b336 F T' rs u1 u2 u3 u5 u6 = some (setF (setI rs 27 0 v) 74 u2, 0) := by
  obtain ⟨i, j1, j2⟩ := h.i
  unfold m_test_b336 m_test_b370
  rw [ng_f j1 j2 h.g, ob_s, mk_f h, ob_s]
  by_cases y : u5 = 0
  · refine ⟨0, ?_⟩
    rw [if_pos y, wr27, ob_s]
    rfl
  · refine ⟨1, ?_⟩
    rw [if_neg y, wr27, ob_s]
    rfl
theorem mtL_f {F v : Nat} {T' : TG_expr} {rs : RS} {u1 u2 u3 u5 u6 u7 u8 u9 : Int32} (h : FT rs) : m_test_L234 F T' (v + 1) rs u1 u2 u3 u5 u6 u7 u8 u9 = m_test_b336 F T' rs u1 u2 u3 u5 u6 := by
  rw [m_test_L234]
  by_cases y : u9 = 0
  · rw [if_pos y]
  · rw [if_neg y, if_pos h.g]
theorem mt305_f {F v : Nat} {T' : TG_expr} {rs : RS} {u1 u2 u3 u5 u6 u7 u8 u10 : Int32} (h : FT rs) : m_test_b305 F T' (m_test_L234 F T' (v + 1)) rs u1 u2 u3 u5 u6 u7 u8 u10 = m_test_b336 F T' rs u1 u2 u3 u5 u6 := by
  obtain ⟨i, j1, j2⟩ := h.i
  unfold m_test_b305 m_test_b321
  rw [if_pos h.g, tg_n j1 (ig_f h.g), ob_s, mtL_f h]

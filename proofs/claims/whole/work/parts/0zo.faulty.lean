/-! behind a fault: nothing moves -/
def FS (t c : Nat) (cs : CS) : Prop := (SH t c cs) ∧ (kI cs 320 t ≠ 0) ∧ (∃ i, kI cs 328 t = nI i ∧ i < 2001)
theorem FS.h {t c : Nat} {cs : CS} (h : FS t c cs) : SH t c cs := h.1
theorem FS.f {t c : Nat} {cs : CS} (h : FS t c cs) : kI cs 320 t ≠ 0 := h.2.1
theorem FS.i {t c : Nat} {cs : CS} (h : FS t c cs) : ∃ i, kI cs 328 t = nI i ∧ i < 2001 := h.2.2
theorem acc_f {F t c : Nat} {cs : CS} {w : Int32} (h : FS t c cs) (hw : (57 : Int32) ≠ w) : c_X9_accept F cs t w = some (cs, 0) := by
  obtain ⟨i, hi, h2⟩ := h.i
  exact acc_n h.h hi (knd_f h.h h.f) hw
theorem expf {F t c : Nat} {cs : CS} {w : Int32} (h : FS t c cs) (hw : w ≠ 57) : c_X9_expect F cs t w = some cs := by
  obtain ⟨i, hi, h2⟩ := h.i
  exact exp_f h.h h.f hi h2 hw
theorem herf {F t c : Nat} {cs : CS} (h : FS t c cs) : ∃ v, c_X9_here F cs t = some v := by
  obtain ⟨i, hi, h2⟩ := h.i
  exact ⟨_, her_ok h.h hi h2⟩
theorem cpl_f {F t c : Nat} {cs : CS} {a b d e g : Int32} (h : FS t c cs) : c_X9_complete F cs t a b d e g = some (cs, -1) := by
  unfold c_X9_complete c_X9_complete_b27 c_X9_complete_b50
  rw [gI_ok h.h.o, ob_s, if_neg h.f, ob_s, if_neg h.f]
theorem cf_one {F t c : Nat} {T : TC_X9_readExpr} {cs : CS} (h : FS t c cs) : cb_X9_readOne F T cs t = some cs := by
  obtain ⟨v, hv⟩ := herf (F := F) h
  unfold cb_X9_readOne c_X9_readOne_b182 c_X9_readOne_b191
  rw [ckE_ok h.h.o, ob_s, knd_f h.h h.f, ob_s, if_neg (by decide), if_neg (by decide), if_neg (by decide), if_neg (by decide), if_neg (by decide), if_neg (by decide), if_neg (by decide), if_neg (by decide), if_neg (by decide), if_neg (by decide), if_neg (by decide), if_neg (by decide), if_neg (by decide), ob_s, hv, ob_s, ob_s, ref_f h.h h.f, ob_s]
theorem cf_sign {F t c : Nat} {T : TC_X9_readExpr} {cs : CS} (h : FS t c cs) (hT : T.2.2.2.2.2.2.2.1 cs t = some cs) : cb_X9_readSign F T cs t = some cs := by
  unfold cb_X9_readSign
  rw [ckE_ok h.h.o, ob_s, knd_f h.h h.f, ob_s, if_neg (by decide), ob_s, hT, ob_s]
theorem cf_part_L {F u t c : Nat} {T : TC_X9_readExpr} {cs : CS} {a b x : Int32} (h : FS t c cs) : c_X9_readPart_L19 F T (u + 1) cs t a b x = some cs := by
  rw [c_X9_readPart_L19]
  unfold c_X9_readPart_b97
  by_cases q : 2000 ≤ x
  · rw [if_pos q]
  · rw [if_neg q, ckE_ok h.h.o, ob_s, knd_f h.h h.f, ob_s, if_neg (by decide), ob_s, ob_s, if_neg (by decide), ob_s, ob_s, if_neg (by decide)]
theorem cf_sum_L {F u t c : Nat} {T : TC_X9_readExpr} {cs : CS} {a b x : Int32} (h : FS t c cs) : c_X9_readSum_L19 F T (u + 1) cs t a b x = some cs := by
  rw [c_X9_readSum_L19]
  unfold c_X9_readSum_b88
  by_cases q : 2000 ≤ x
  · rw [if_pos q]
  · rw [if_neg q, ckE_ok h.h.o, ob_s, knd_f h.h h.f, ob_s, if_neg (by decide), ob_s, ob_s, if_neg (by decide)]
theorem cf_conj_L {F u t c : Nat} {T : TC_X9_readExpr} {cs : CS} {a b x : Int32} (h : FS t c cs) : c_X9_readConjunction_L19 F T (u + 1) cs t a b x = some cs := by
  rw [c_X9_readConjunction_L19]
  unfold c_X9_readConjunction_b73
  by_cases q : 2000 ≤ x
  · rw [if_pos q]
  · rw [if_neg q, ckE_ok h.h.o, ob_s, knd_f h.h h.f, ob_s, if_neg (by decide)]
theorem cf_expr_L {F u t c : Nat} {T : TC_X9_readExpr} {cs : CS} {a b x : Int32} (h : FS t c cs) : c_X9_readExpr_L19 F T (u + 1) cs t a b x = some (cs, kI cs 64 c - 1) := by
  rw [c_X9_readExpr_L19]
  unfold c_X9_readExpr_b73
  by_cases q : 2000 ≤ x
  · rw [if_pos q, gR_ok h.h.o, ob_s, h.h.rc, ob_s, gI_ok h.h.oc, ob_s]
  · rw [if_neg q, ckE_ok h.h.o, ob_s, knd_f h.h h.f, ob_s, if_neg (by decide), gR_ok h.h.o, ob_s, h.h.rc, ob_s, gI_ok h.h.oc, ob_s]
theorem cf_part {F u t c : Nat} {T : TC_X9_readExpr} {cs : CS} (h : FS t c cs) (hF : F = u + 1) (hT : T.2.2.2.2.2.2.1 cs t = some cs) : cb_X9_readPart F T cs t = some cs := by
  obtain ⟨v, hv⟩ := herf (F := F) h
  unfold cb_X9_readPart
  rw [gR_ok h.h.o, ob_s, h.h.rc, ob_s, gI_ok h.h.oc, ob_s, ckE_ok h.h.o, ob_s, hv, ob_s, ob_s, hT, ob_s, hF]
  exact cf_part_L h
theorem cf_sum {F u t c : Nat} {T : TC_X9_readExpr} {cs : CS} (h : FS t c cs) (hF : F = u + 1) (hT : T.2.2.2.2.2.1 cs t = some cs) : cb_X9_readSum F T cs t = some cs := by
  obtain ⟨v, hv⟩ := herf (F := F) h
  unfold cb_X9_readSum
  rw [gR_ok h.h.o, ob_s, h.h.rc, ob_s, gI_ok h.h.oc, ob_s, ckE_ok h.h.o, ob_s, hv, ob_s, ob_s, hT, ob_s, hF]
  exact cf_sum_L h
theorem cf_test {F t c : Nat} {T : TC_X9_readExpr} {cs : CS} (h : FS t c cs) (hT : T.2.2.2.2.1 cs t = some cs) : cb_X9_readTest F T cs t = some cs := by
  obtain ⟨v, hv⟩ := herf (F := F) h
  unfold cb_X9_readTest c_X9_readTest_b282
  rw [gR_ok h.h.o, ob_s, h.h.rc, ob_s, gI_ok h.h.oc, ob_s, ckE_ok h.h.o, ob_s, hv, ob_s, ob_s, hT, ob_s, ckE_ok h.h.o, ob_s, hv, ob_s, ob_s, knd_f h.h h.f, ob_s]
  simp only [show ¬ (57 : Int32) = 24 by decide, show ¬ (57 : Int32) = 25 by decide, show ¬ (57 : Int32) = 27 by decide, show ¬ (57 : Int32) = 50 by decide, show ¬ (57 : Int32) = 51 by decide, show ¬ (57 : Int32) = 52 by decide, show ¬ (57 : Int32) = 53 by decide, show ¬ (57 : Int32) = 54 by decide, show ¬ (57 : Int32) = 55 by decide, if_false]
theorem cf_neg {F t c : Nat} {T : TC_X9_readExpr} {cs : CS} (h : FS t c cs) (hT : T.2.2.2.1 cs t = some cs) : cb_X9_readNegation F T cs t = some cs := by
  unfold cb_X9_readNegation
  rw [ckE_ok h.h.o, ob_s, knd_f h.h h.f, ob_s, if_neg (by decide), ob_s, hT, ob_s]
theorem cf_conj {F u t c : Nat} {T : TC_X9_readExpr} {cs : CS} (h : FS t c cs) (hF : F = u + 1) (hT : T.2.2.1 cs t = some cs) : cb_X9_readConjunction F T cs t = some cs := by
  obtain ⟨v, hv⟩ := herf (F := F) h
  unfold cb_X9_readConjunction
  rw [gR_ok h.h.o, ob_s, h.h.rc, ob_s, gI_ok h.h.oc, ob_s, ckE_ok h.h.o, ob_s, hv, ob_s, ob_s, hT, ob_s, hF]
  exact cf_conj_L h
theorem cf_expr {F u t c : Nat} {T : TC_X9_readExpr} {cs : CS} (h : FS t c cs) (hF : F = u + 1) (hT : T.2.1 cs t = some cs) : cb_X9_readExpr F T cs t = some (cs, kI cs 64 c - 1) := by
  obtain ⟨v, hv⟩ := herf (F := F) h
  unfold cb_X9_readExpr
  rw [gR_ok h.h.o, ob_s, h.h.rc, ob_s, gI_ok h.h.oc, ob_s, ckE_ok h.h.o, ob_s, hv, ob_s, ob_s, hT, ob_s, hF]
  exact cf_expr_L h
/-- the table of the class's reading at depth n: behind a fault -/
theorem cf_tab {F u t c : Nat} {cs : CS} (h : FS t c cs) (hF : F = u + 1) (n : Nat) : (tabc_X9_readExpr F (n + 1)).2.2.2.2.2.2.2.1 cs t = some cs ∧ (tabc_X9_readExpr F (n + 2)).2.2.2.2.2.2.1 cs t = some cs ∧ (tabc_X9_readExpr F (n + 3)).2.2.2.2.2.1 cs t = some cs ∧ (tabc_X9_readExpr F (n + 4)).2.2.2.2.1 cs t = some cs ∧ (tabc_X9_readExpr F (n + 5)).2.2.2.1 cs t = some cs ∧ (tabc_X9_readExpr F (n + 6)).2.2.1 cs t = some cs ∧ (tabc_X9_readExpr F (n + 7)).2.1 cs t = some cs ∧ (tabc_X9_readExpr F (n + 8)).1 cs t = some (cs, kI cs 64 c - 1) := by
  have h1 : (tabc_X9_readExpr F (n + 1)).2.2.2.2.2.2.2.1 cs t = some cs := cf_one h
  have h2 : (tabc_X9_readExpr F (n + 2)).2.2.2.2.2.2.1 cs t = some cs := cf_sign h h1
  have h3 : (tabc_X9_readExpr F (n + 3)).2.2.2.2.2.1 cs t = some cs := cf_part h hF h2
  have h4 : (tabc_X9_readExpr F (n + 4)).2.2.2.2.1 cs t = some cs := cf_sum h hF h3
  have h5 : (tabc_X9_readExpr F (n + 5)).2.2.2.1 cs t = some cs := cf_test h h4
  have h6 : (tabc_X9_readExpr F (n + 6)).2.2.1 cs t = some cs := cf_neg h h5
  have h7 : (tabc_X9_readExpr F (n + 7)).2.1 cs t = some cs := cf_conj h hF h6
  exact ⟨h1, h2, h3, h4, h5, h6, h7, cf_expr h hF h7⟩
/-! the reference behind a fault -/
def FT (rs : RS) : Prop := (rs.1 21 = 0) ∧ (∃ i, rs.1 18 = nI i ∧ i < 2001)
theorem FT.g {rs : RS} (h : FT rs) : rs.1 21 = 0 := h.1
theorem FT.i {rs : RS} (h : FT rs) : ∃ i, rs.1 18 = nI i ∧ i < 2001 := h.2
theorem mf_one {F : Nat} {T : TG_expr} {rs : RS} (h : FT rs) : b_one F T rs = some (rs, 0) := by
  obtain ⟨i, hi, h2⟩ := h.i
  unfold b_one
  rw [hi, rdI_n h2 (by decide), ob_s, if_pos h.g]
theorem mf_sign {F : Nat} {T : TG_expr} {rs : RS} (h : FT rs) (hT : T.2.2.2.2.2.2.2.1 rs = some (rs, 0)) : b_sign F T rs = some (rs, 0) := by
  unfold b_sign
  rw [ig_f h.g, ob_s, if_pos rfl, hT, ob_s]
theorem mf_part_L {F u : Nat} {T : TG_expr} {rs : RS} {a : Int32} (h : FT rs) : m_part_L10 F T (u + 1) rs a (rs.1 74) = some (rs, a) := by
  rw [m_part_L10, ig_f h.g, ob_s, if_pos rfl, ig_f h.g, ob_s, if_pos rfl, ig_f h.g, ob_s, if_pos rfl, setF_same]
theorem mf_part {F u : Nat} {T : TG_expr} {rs : RS} (h : FT rs) (hF : F = u + 1) (hT : T.2.2.2.2.2.2.1 rs = some (rs, 0)) : b_part F T rs = some (rs, 0) := by
  unfold b_part
  rw [hT, ob_s, hF]
  exact mf_part_L h
theorem mf_sum_L {F u : Nat} {T : TG_expr} {rs : RS} {a : Int32} (h : FT rs) : m_sum_L10 F T (u + 1) rs a (rs.1 74) = some (rs, a) := by
  rw [m_sum_L10, ig_f h.g, ob_s, if_pos rfl, ig_f h.g, ob_s, if_pos rfl, setF_same]
theorem mf_sum {F u : Nat} {T : TG_expr} {rs : RS} (h : FT rs) (hF : F = u + 1) (hT : T.2.2.2.2.2.1 rs = some (rs, 0)) : b_sum F T rs = some (rs, 0) := by
  unfold b_sum
  rw [hT, ob_s, hF]
  exact mf_sum_L h
theorem mf_tab {F u : Nat} {rs : RS} (h : FT rs) (hF : F = u + 1) (n : Nat) : (tab_expr F (n + 1)).2.2.2.2.2.2.2.1 rs = some (rs, 0) ∧ (tab_expr F (n + 2)).2.2.2.2.2.2.1 rs = some (rs, 0) ∧ (tab_expr F (n + 3)).2.2.2.2.2.1 rs = some (rs, 0) ∧ (tab_expr F (n + 4)).2.2.2.2.1 rs = some (rs, 0) := by
  have h1 : (tab_expr F (n + 1)).2.2.2.2.2.2.2.1 rs = some (rs, 0) := mf_one h
  have h2 : (tab_expr F (n + 2)).2.2.2.2.2.2.1 rs = some (rs, 0) := mf_sign h h1
  have h3 : (tab_expr F (n + 3)).2.2.2.2.2.1 rs = some (rs, 0) := mf_part h hF h2
  exact ⟨h1, h2, h3, mf_sum h hF h3⟩
theorem mk_f {F : Nat} {rs : RS} {a b c d e g : Int32} (h : FT rs) : m_make F rs a b c d e g = some (rs, 0) := by
  unfold m_make
  rw [if_pos h.g]

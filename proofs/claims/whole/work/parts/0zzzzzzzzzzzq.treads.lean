/-! calls that only look -/
theorem rws_cell {ar w k c : Nat} {rows : LL} {cs : CS} (h : RWS ar 0 w rows cs) (hk : k < rows.length) (hc : c < w) : sv cs ar (k * w + c) = (rows.getD k []).getD c none := by
  have e := h.row hk
  rw [← e, rwC_get hc, Nat.zero_add]
theorem nI_0le {n : Nat} (h : n < 2147483648) : (0 : Int32) ≤ nI n := Int32.not_lt.mp (nI_pos h)
theorem acell_in {F t r oq il w a1 a2 a3 a4 : Nat} {cs : CS} {m k c : Nat} (an : ANX t r oq il w a1 a2 a3 a4 cs) (c5 : kI cs 395 0 = nI m) (hk : k < m) (hm : m ≤ 600) (hc : c < w) : c_X11_answerCell F cs 0 (nI k) (nI c) = some (nI (k * w + c)) := by
  have w8 := an.ic.m8
  unfold c_X11_answerCell c_X11_answerCell_b24
  rw [if_neg (nI_pos (by omega)), gI_ok an.o, ob_s, c5, if_neg (nI_ge hk (by omega)), if_neg (nI_pos (by omega)), ckE_ok an.o, ob_s, an.wd, ob_s, if_pos (nI_lt hc (by omega)), ob_s, ob_s, pk_mul, nI_add]
theorem acell_out {F t r oq il w a1 a2 a3 a4 : Nat} {cs : CS} {m : Nat} {x1 x2 : Int32} (an : ANX t r oq il w a1 a2 a3 a4 cs) (c5 : kI cs 395 0 = nI m) (h : x1 < 0 ∨ nI m ≤ x1 ∨ x2 < 0 ∨ nI w ≤ x2) : c_X11_answerCell F cs 0 x1 x2 = some (-1) := by
  unfold c_X11_answerCell c_X11_answerCell_b24
  by_cases h1 : x1 < 0
  · rw [if_pos h1]
  · rw [if_neg h1, gI_ok an.o, ob_s, c5]
    by_cases h2 : nI m ≤ x1
    · rw [if_pos h2]
    · rw [if_neg h2]
      by_cases h3 : x2 < 0
      · rw [if_pos h3]
      · have h4 : nI w ≤ x2 := by
          rcases h with q | q | q | q
          · exact absurd q h1
          · exact absurd q h2
          · exact absurd q h3
          · exact q
        rw [if_neg h3, ckE_ok an.o, ob_s, an.wd, ob_s, if_neg (Int32.not_lt.mpr h4)]
theorem strip_ok {F t r oq il w a1 a2 a3 a4 : Nat} {cs : CS} {od : Bool} (an : ANX t r oq il w a1 a2 a3 a4 cs) (oi : od = true ↔ kR cs 130 oq ≠ none) : c_X11_answerStrip F cs 0 = some (if od = true then a2 else a3) := by
  unfold c_X11_answerStrip c_X11_answerStrip_b27 c_X11_answerStrip_b31
  rw [gR_ok an.o, ob_s, an.st, oc_s, ob_s, ob_s, gR_ok an.ot, ob_s, an.tp, ob_s, gR_ok an.oq, ob_s]
  cases hq : kR cs 130 oq with
  | none =>
    have e : ¬ od = true := fun w => (oi.mp w) hq
    rw [oc_n, gR_ok an.o, ob_s, an.s3, ob_s, if_neg e]
  | some z =>
    have e : od = true := oi.mpr (by rw [hq]; exact fun w => by cases w)
    rw [oc_s, gR_ok an.o, ob_s, an.s2, ob_s, if_pos e]
theorem mans_in {F m w k c : Nat} {rs : RS} (h81 : rs.1 81 = 1) (x0 : rs.1 100 = nI m) (x1 : rs.1 101 = nI w) (hk : k < m) (hm : m ≤ 600) (hc : c < w) (hw : w ≤ 8) : m_isAnswer F rs (nI k) (nI c) = some 1 := by
  unfold m_isAnswer m_isAnswer_b36
  rw [if_neg (by rw [h81]; decide), if_neg (nI_pos (by omega)), x0, if_neg (nI_ge hk (by omega)), if_neg (nI_pos (by omega)), x1, if_neg (nI_ge hc (by omega))]
  rfl
theorem mans_out {F m w : Nat} {rs : RS} {y1 y2 : Int32} (x0 : rs.1 100 = nI m) (x1 : rs.1 101 = nI w) (h : y1 < 0 ∨ nI m ≤ y1 ∨ y2 < 0 ∨ nI w ≤ y2) : m_isAnswer F rs y1 y2 = some 0 := by
  have z : m_isAnswer_b35 F rs = some 0 := rfl
  unfold m_isAnswer
  by_cases h0 : rs.1 81 = 0
  · rw [if_pos h0, z]
  · rw [if_neg h0]
    by_cases h1 : y1 < 0
    · rw [if_pos h1, z]
    · rw [if_neg h1, x0]
      by_cases h2 : nI m ≤ y1
      · rw [if_pos h2, z]
      · rw [if_neg h2]
        by_cases h3 : y2 < 0
        · rw [if_pos h3, z]
        · have h4 : nI w ≤ y2 := by
            rcases h with q | q | q | q
            · exact absurd q h1
            · exact absurd q h2
            · exact absurd q h3
            · exact q
          rw [if_neg h3, x1, if_pos h4, z]
theorem where_2 {m w : Nat} (x1 x2 : Int32) (hm : m ≤ 2000) (hw : w ≤ 8) : (x1 < 0 ∨ nI m ≤ x1 ∨ x2 < 0 ∨ nI w ≤ x2) ∨ ∃ k c, k < m ∧ c < w ∧ x1 = nI k ∧ x2 = nI c := by
  rcases pk_ix x1 (n := m) (by omega) with q | q | ⟨k, k1, k2⟩
  · exact Or.inl (Or.inl q)
  · exact Or.inl (Or.inr (Or.inl q))
  · rcases pk_ix x2 (n := w) (by omega) with q | q | ⟨c, c1, c2⟩
    · exact Or.inl (Or.inr (Or.inr (Or.inl q)))
    · exact Or.inl (Or.inr (Or.inr (Or.inr q)))
    · exact Or.inr ⟨k, c, k1, c1, k2, c2⟩
theorem m1_neg : ¬ (0 : Int32) ≤ -1 := by decide
theorem noq_cell {F : Nat} {cs : CS} {x1 x2 : Int32} (o : (12, 0) ∈ kE cs) (c5 : kI cs 395 0 = 0) : c_X11_answerCell F cs 0 x1 x2 = some (-1) := by
  unfold c_X11_answerCell c_X11_answerCell_b24
  by_cases h1 : x1 < 0
  · rw [if_pos h1]
  · rw [if_neg h1, gI_ok o, ob_s, c5, if_pos (Int32.not_lt.mp h1)]
theorem noq_ans {F : Nat} {rs : RS} {x1 x2 : Int32} (h : rs.1 81 = 0) : m_isAnswer F rs x1 x2 = some 0 := by
  unfold m_isAnswer
  rw [if_pos h]
  rfl
theorem ok_15 {F i : Nat} {cs : CS} {rs : RS} (h : SIM F i cs rs) (x1 x2 x3 x4 x5 : Int32) : OKC F i (lk_15 F cs rs x1 x2 x3 x4 x5) := by
  refine ⟨cs, rs, ?_, h⟩
  have fin : ∃ v, c_X11_at F cs 0 x1 x2 = some v ∧ m_at F rs x1 x2 = some v := by
    obtain ⟨nst, st, s5, q | ⟨n, ff, M, t, cap, s, lf, S', Q, oq, ss, r, il, w, V, D, cg, cS, c0, cR, c4, c5, csH, rsH, od, S0, RR, Sr, C, CH, q⟩⟩ := h.st
    · refine ⟨0, ?_, ?_⟩
      · unfold c_X11_at c_X11_at_b23
        rw [ckE_ok h.b.o, ob_s, noq_cell h.b.o q.c5, ob_s, if_neg m1_neg]
      · unfold m_at m_at_b26
        rw [noq_ans q.h81, ob_s, if_pos rfl]
    · have l6 := q.al.l6
      have w8 := q.al.w8
      rcases where_2 (m := Sr.length) (w := w) x1 x2 (by omega) w8 with o | ⟨k, c, k1, c1, k2, c2⟩
      · refine ⟨0, ?_, ?_⟩
        · unfold c_X11_at c_X11_at_b23
          rw [ckE_ok h.b.o, ob_s, acell_out q.an q.al.c5 o, ob_s, if_neg m1_neg]
        · unfold m_at m_at_b26
          rw [mans_out q.al.x0 q.al.x1 o, ob_s, if_pos rfl]
      · have lR := q.al.lR
        have kw : k * w + c < 4800 := by
          have := mul_up (show k + 1 ≤ 512 by omega) w8
          have e : (k + 1) * w = k * w + w := Nat.succ_mul k w
          omega
        obtain ⟨ar, rows, har, hrow, hst, hl⟩ : ∃ (ar : Nat) (rows : LL), (if od = true then 20 else 25) = ar ∧ (if od = true then RR else Sr) = rows ∧ (RWS ar 0 w rows cs ∧ ∃ B, STS ar B cs) ∧ rows.length = Sr.length := by
          by_cases z : od = true
          · rw [if_pos z, if_pos z]
            exact ⟨20, RR, rfl, rfl, ⟨q.al.r2, _, h.b2⟩, lR⟩
          · rw [if_neg z, if_neg z]
            exact ⟨25, Sr, rfl, rfl, ⟨q.al.r3, _, h.b3⟩, rfl⟩
        obtain ⟨rw1, B, sts⟩ := hst
        have wa := q.al.wa
        rw [hrow] at wa
        have ce := wa k c (by omega) c1
        refine ⟨vl ((rows.getD k []).getD c none), ?_, ?_⟩
        · unfold c_X11_at c_X11_at_b23
          rw [k2, c2, ckE_ok h.b.o, ob_s, acell_in q.an q.al.c5 k1 (by omega) c1, ob_s, if_pos (nI_0le (by omega)), ob_s, strip_ok q.an q.oi, ob_s, har, ckE_ok sts.st.o, ob_s, (val_ok sts.st (by omega)).1, ob_s, rws_cell rw1 (by omega) c1]
        · unfold m_at m_at_b26
          rw [k2, c2, mans_in q.h81 q.al.x0 q.al.x1 k1 (by omega) c1 w8, ob_s, if_neg (by decide), q.al.x1, pk_mul, nI_add, rdL_n (by rw [Nat.mul_comm]; omega) (by omega), ob_s, ce.2]
  obtain ⟨v, e1, e2⟩ := fin
  unfold lk_15
  rw [ckE_ok h.b.o, ob_s, e1, ob_s, e2, ob_s]
  exact if_pos rfl
theorem fl_c (x : OV) : (if fl x = 0 then (0 : Int32) else 1) = fl x := by
  rcases fl_01 x with e | e <;> rw [e] <;> rfl
theorem ok_16 {F i : Nat} {cs : CS} {rs : RS} (h : SIM F i cs rs) (x1 x2 x3 x4 x5 : Int32) : OKC F i (lk_16 F cs rs x1 x2 x3 x4 x5) := by
  refine ⟨cs, rs, ?_, h⟩
  have b1 : ∀ x : OV, (if fl x = 0 then c_X11_isNull_b26 F cs else c_X11_isNull_b27 F cs 1) = some (fl x) := fun x => by
    rcases fl_01 x with e | e <;> rw [e] <;> rfl
  have b2 : ∀ x : OV, (if fl x = 0 then m_isNull_b29 F rs else m_isNull_b30 F rs 1) = some (fl x) := fun x => by
    rcases fl_01 x with e | e <;> rw [e] <;> rfl
  have b3 : c_X11_isNull_b26 F cs = some 0 := rfl
  have b4 : m_isNull_b29 F rs = some 0 := rfl
  have n1 : (-1 : Int32) < 0 := by decide
  have fin : ∃ v, c_X11_isNull F cs 0 x1 x2 = some v ∧ m_isNull F rs x1 x2 = some v := by
    obtain ⟨nst, st, s5, q | ⟨n, ff, M, t, cap, s, lf, S', Q, oq, ss, r, il, w, V, D, cg, cS, c0, cR, c4, c5, csH, rsH, od, S0, RR, Sr, C, CH, q⟩⟩ := h.st
    · refine ⟨0, ?_, ?_⟩
      · unfold c_X11_isNull
        rw [ckE_ok h.b.o, ob_s, noq_cell h.b.o q.c5, ob_s, if_pos n1, b3]
      · unfold m_isNull
        rw [noq_ans q.h81, ob_s, if_pos rfl, b4]
    · have l6 := q.al.l6
      have w8 := q.al.w8
      rcases where_2 (m := Sr.length) (w := w) x1 x2 (by omega) w8 with o | ⟨k, c, k1, c1, k2, c2⟩
      · refine ⟨0, ?_, ?_⟩
        · unfold c_X11_isNull
          rw [ckE_ok h.b.o, ob_s, acell_out q.an q.al.c5 o, ob_s, if_pos n1, b3]
        · unfold m_isNull
          rw [mans_out q.al.x0 q.al.x1 o, ob_s, if_pos rfl, b4]
      · have lR := q.al.lR
        have kw : k * w + c < 4800 := by
          have := mul_up (show k + 1 ≤ 512 by omega) w8
          have e : (k + 1) * w = k * w + w := Nat.succ_mul k w
          omega
        obtain ⟨ar, rows, har, hrow, hst, hl⟩ : ∃ (ar : Nat) (rows : LL), (if od = true then 20 else 25) = ar ∧ (if od = true then RR else Sr) = rows ∧ (RWS ar 0 w rows cs ∧ ∃ B, STS ar B cs) ∧ rows.length = Sr.length := by
          by_cases z : od = true
          · rw [if_pos z, if_pos z]
            exact ⟨20, RR, rfl, rfl, ⟨q.al.r2, _, h.b2⟩, lR⟩
          · rw [if_neg z, if_neg z]
            exact ⟨25, Sr, rfl, rfl, ⟨q.al.r3, _, h.b3⟩, rfl⟩
        obtain ⟨rw1, B, sts⟩ := hst
        have wa := q.al.wa
        rw [hrow] at wa
        have ce := wa k c (by omega) c1
        refine ⟨fl ((rows.getD k []).getD c none), ?_, ?_⟩
        · unfold c_X11_isNull
          rw [k2, c2, ckE_ok h.b.o, ob_s, acell_in q.an q.al.c5 k1 (by omega) c1, ob_s, if_neg (nI_pos (by omega)), ob_s, strip_ok q.an q.oi, ob_s, har, ckE_ok sts.st.o, ob_s, (val_ok sts.st (by omega)).2, ob_s, rws_cell rw1 (by omega) c1, b1]
        · unfold m_isNull
          rw [k2, c2, mans_in q.h81 q.al.x0 q.al.x1 k1 (by omega) c1 w8, ob_s, if_neg (by decide), q.al.x1, pk_mul, nI_add, rdI_n (by rw [Nat.mul_comm]; omega) (by omega), ob_s, ce.1, b2]
  obtain ⟨v, e1, e2⟩ := fin
  unfold lk_16
  rw [ckE_ok h.b.o, ob_s, e1, ob_s, e2, ob_s]
  exact if_pos rfl
/-! what changed -/
theorem chg_in {F k M : Nat} {C : CCT} {cs : CS} (cc : CCS M C cs) (cl : C.length ≤ M) (hk : k < C.length) : c_X11_change F cs 0 (nI k) = some (C.getD k (0, 0)).2 := by
  obtain ⟨j7, p7⟩ := cc.p7
  have u7 := cc.u7
  have l7 := cc.l7
  unfold c_X11_change
  rw [if_neg (nI_pos (by omega)), gI_ok cc.o, ob_s, cc.c, if_neg (nI_ge hk (by omega)), gA_ok cc.o, p7, ob_s]
  show (Option.bind (lnA cs 397 0 j7) fun v_5 => if nI k < v_5 then (Option.bind (some j7) fun v_7 => Option.bind (rA cs 397 0 v_7 (nI k)) fun v_8 => some v_8) else (c_X11_change_b21 F cs)) = _
  rw [lnA_n cc.e7 p7, ob_s, if_pos (nI_lt (by omega) (by omega)), ob_s, rA_n cc.e7 p7 (by omega) (by omega), ob_s, (cc.r k hk).2]
theorem chg_out {F : Nat} {cs : CS} {x1 : Int32} (o : (12, 0) ∈ kE cs) (h : x1 < 0 ∨ kI cs 398 0 ≤ x1) : c_X11_change F cs 0 x1 = some 0 := by
  unfold c_X11_change c_X11_change_b21
  by_cases h1 : x1 < 0
  · rw [if_pos h1]
  · rw [if_neg h1, gI_ok o, ob_s, if_pos (h.resolve_left h1)]
theorem ok_11 {F i : Nat} {cs : CS} {rs : RS} (h : SIM F i cs rs) (x1 x2 x3 x4 x5 : Int32) : OKC F i (lk_11 F cs rs x1 x2 x3 x4 x5) := by
  refine ⟨cs, rs, ?_, h⟩
  have out : x1 < 0 ∨ kI cs 398 0 ≤ x1 → c_X11_change F cs 0 x1 = some 0 ∧ m_change F rs x1 = some 0 := fun o => by
    refine ⟨chg_out h.b.o o, ?_⟩
    rw [h.tot] at o
    have z : m_change_b21 F rs = some 0 := rfl
    unfold m_change
    by_cases h1 : x1 < 0
    · rw [if_pos h1, z]
    · rw [if_neg h1, if_pos (o.resolve_left h1), z]
  have fin : ∃ v, c_X11_change F cs 0 x1 = some v ∧ m_change F rs x1 = some v := by
    obtain ⟨nst, st, s5, q | ⟨n, ff, M, t, cap, s, lf, S', Q, oq, ss, r, il, w, V, D, cg, cS, c0, cR, c4, c5, csH, rsH, od, S0, RR, Sr, C, CH, q⟩⟩ := h.st
    · by_cases h1 : x1 < 0
      · exact ⟨0, out (Or.inl h1)⟩
      · refine ⟨0, out (Or.inr ?_)⟩
        rw [q.cc.c]
        exact Int32.not_lt.mp h1
    · obtain ⟨M9, cc, cl, cu⟩ := q.al.cc
      have ce := q.al.cm.1
      rcases pk_ix x1 (n := C.length) (by omega) with o | o | ⟨k, k1, k2⟩
      · exact ⟨0, out (Or.inl o)⟩
      · exact ⟨0, out (Or.inr (by rw [cc.c]; exact o))⟩
      · refine ⟨(C.getD k (0, 0)).2, by rw [k2]; exact chg_in cc cl k1, ?_⟩
        unfold m_change m_change_b22
        rw [k2, if_neg (nI_pos (by omega)), q.al.ch.c0, if_neg (nI_ge (by omega) (by omega)), rdI_n (by omega) (by omega), ob_s, q.al.ch.by' k (by omega), (q.al.cm.2 k k1).1]
  obtain ⟨v, e1, e2⟩ := fin
  unfold lk_11
  rw [ckE_ok h.b.o, ob_s, e1, ob_s, e2, ob_s]
  exact if_pos rfl
theorem ccell_in {F t r oq il w a1 a2 a3 a4 : Nat} {cs : CS} {k c M : Nat} {C : CCT} (an : ANX t r oq il w a1 a2 a3 a4 cs) (cc : CCS M C cs) (cl : C.length ≤ M) (hk : k < C.length) (hc : c < w) : c_X11_changeCell F cs 0 (nI k) (nI c) = some (nI ((C.getD k (0, 0)).1 * w + c)) := by
  have w8 := an.ic.m8
  obtain ⟨j6, p6⟩ := cc.p6
  have u6 := cc.u6
  have l6 := cc.l6
  unfold c_X11_changeCell
  rw [if_neg (nI_pos (by omega)), gI_ok cc.o, ob_s, cc.c, if_neg (nI_ge hk (by omega)), gA_ok cc.o, p6, ob_s]
  show (Option.bind (lnA cs 396 0 j6) fun v_5 => if v_5 ≤ nI k then (c_X11_changeCell_b33 F cs) else (if nI c < 0 then (c_X11_changeCell_b33 F cs) else (Option.bind (ckE cs 12 0) fun _ => Option.bind (c_X11_width F cs 0) fun v_8 => if nI c < v_8 then (Option.bind (some j6) fun v_11 => Option.bind (rA cs 396 0 v_11 (nI k)) fun v_12 => Option.bind (ckE cs 12 0) fun _ => Option.bind (c_X11_width F cs 0) fun v_13 => some ((v_12 * v_13) + nI c)) else (c_X11_changeCell_b33 F cs)))) = _
  rw [lnA_n cc.e6 p6, ob_s, if_neg (nI_ge (by omega) (by omega)), if_neg (nI_pos (by omega)), ckE_ok an.o, ob_s, an.wd, ob_s, if_pos (nI_lt hc (by omega)), ob_s, rA_n cc.e6 p6 (by omega) (by omega), ob_s, ob_s, ob_s, (cc.r k hk).1, pk_mul, nI_add]
theorem ccell_out {F t r oq il w a1 a2 a3 a4 : Nat} {cs : CS} {M : Nat} {C : CCT} {x1 x2 : Int32} (an : ANX t r oq il w a1 a2 a3 a4 cs) (cc : CCS M C cs) (h : x1 < 0 ∨ nI C.length ≤ x1 ∨ x2 < 0 ∨ nI w ≤ x2) : c_X11_changeCell F cs 0 x1 x2 = some (-1) := by
  obtain ⟨j6, p6⟩ := cc.p6
  have z : c_X11_changeCell_b33 F cs = some (-1) := rfl
  unfold c_X11_changeCell
  by_cases h1 : x1 < 0
  · rw [if_pos h1, z]
  · rw [if_neg h1, gI_ok cc.o, ob_s, cc.c]
    by_cases h2 : nI C.length ≤ x1
    · rw [if_pos h2, z]
    · rw [if_neg h2, gA_ok cc.o, p6, ob_s]
      show (Option.bind (lnA cs 396 0 j6) fun v_5 => if v_5 ≤ x1 then (c_X11_changeCell_b33 F cs) else (if x2 < 0 then (c_X11_changeCell_b33 F cs) else (Option.bind (ckE cs 12 0) fun _ => Option.bind (c_X11_width F cs 0) fun v_8 => if x2 < v_8 then (Option.bind (some j6) fun v_11 => Option.bind (rA cs 396 0 v_11 x1) fun v_12 => Option.bind (ckE cs 12 0) fun _ => Option.bind (c_X11_width F cs 0) fun v_13 => some ((v_12 * v_13) + x2)) else (c_X11_changeCell_b33 F cs)))) = _
      rw [lnA_n cc.e6 p6, ob_s]
      by_cases h3 : nI (kL cs 396 0) ≤ x1
      · rw [if_pos h3, z]
      · rw [if_neg h3]
        by_cases h4 : x2 < 0
        · rw [if_pos h4, z]
        · have h5 : nI w ≤ x2 := by
            rcases h with q | q | q | q
            · exact absurd q h1
            · exact absurd q h2
            · exact absurd q h4
            · exact q
          rw [if_neg h4, ckE_ok an.o, ob_s, an.wd, ob_s, if_neg (Int32.not_lt.mpr h5), z]
theorem mchg_in {F m w k c : Nat} {rs : RS} (x0 : rs.1 110 = nI m) (x1 : rs.1 101 = nI w) (hk : k < m) (hm : m ≤ 2000) (hc : c < w) (hw : w ≤ 8) : m_isChange F rs (nI k) (nI c) = some 1 := by
  unfold m_isChange m_isChange_b29
  rw [if_neg (nI_pos (by omega)), x0, if_neg (nI_ge hk (by omega)), if_neg (nI_pos (by omega)), x1, if_neg (nI_ge hc (by omega))]
  rfl
theorem mchg_out {F m w : Nat} {rs : RS} {y1 y2 : Int32} (x0 : rs.1 110 = nI m) (x1 : rs.1 101 = nI w) (h : y1 < 0 ∨ nI m ≤ y1 ∨ y2 < 0 ∨ nI w ≤ y2) : m_isChange F rs y1 y2 = some 0 := by
  have z : m_isChange_b28 F rs = some 0 := rfl
  unfold m_isChange
  by_cases h1 : y1 < 0
  · rw [if_pos h1, z]
  · rw [if_neg h1, x0]
    by_cases h2 : nI m ≤ y1
    · rw [if_pos h2, z]
    · rw [if_neg h2]
      by_cases h3 : y2 < 0
      · rw [if_pos h3, z]
      · have h4 : nI w ≤ y2 := by
          rcases h with q | q | q | q
          · exact absurd q h1
          · exact absurd q h2
          · exact absurd q h3
          · exact q
        rw [if_neg h3, x1, if_pos h4, z]
theorem noq_ccell {F : Nat} {cs : CS} {x1 x2 : Int32} (o : (12, 0) ∈ kE cs) (c5 : kI cs 398 0 = 0) : c_X11_changeCell F cs 0 x1 x2 = some (-1) := by
  unfold c_X11_changeCell c_X11_changeCell_b33
  by_cases h1 : x1 < 0
  · rw [if_pos h1]
  · rw [if_neg h1, gI_ok o, ob_s, c5, if_pos (Int32.not_lt.mp h1)]
theorem noq_chg {F : Nat} {rs : RS} {x1 x2 : Int32} (h : rs.1 110 = 0) : m_isChange F rs x1 x2 = some 0 := by
  unfold m_isChange
  by_cases h1 : x1 < 0
  · rw [if_pos h1]
    rfl
  · rw [if_neg h1, h, if_pos (Int32.not_lt.mp h1)]
    rfl
/-- a cell of a change, in both -/
theorem chg_cell {w k c : Nat} {od : Bool} {S0 R S : LL} {C : CCT} {CH : CHT} {cs : CS} {rs : RS} (al : ARL w 20 25 30 od S0 R S C CH cs rs) (hk : k < C.length) (hc : c < w) : ∃ v, (C.getD k (0, 0)).1 ≤ 512 ∧ CEL 112 113 rs (w * k + c) v ∧ ((C.getD k (0, 0)).2 < 0 → sv cs 30 ((C.getD k (0, 0)).1 * w + c) = v) ∧ (¬ (C.getD k (0, 0)).2 < 0 → sv cs 25 ((C.getD k (0, 0)).1 * w + c) = v) := by
  obtain ⟨cm1, cm2⟩ := al.cm
  obtain ⟨e1, e2, e3⟩ := cm2 k hk
  have l0 := al.l0
  have l6 := al.l6
  have cl := al.ch.rw' k c (by rw [List.length_map]; omega) hc
  have em : (CH.map (fun z => z.1)).getD k [] = (CH.getD k ([], 0)).1 := get_map (by omega)
  rw [em] at cl
  refine ⟨_, ?_, cl, fun z => ?_, fun z => ?_⟩
  · by_cases z : (C.getD k (0, 0)).2 < 0
    · have := (e2 z).1
      omega
    · have := (e3 z).1
      omega
  · rw [rws_cell al.r4 (e2 z).1 hc, (e2 z).2]
  · rw [rws_cell al.r3 (e3 z).1 hc, (e3 z).2]
theorem ok_12 {F i : Nat} {cs : CS} {rs : RS} (h : SIM F i cs rs) (x1 x2 x3 x4 x5 : Int32) : OKC F i (lk_12 F cs rs x1 x2 x3 x4 x5) := by
  refine ⟨cs, rs, ?_, h⟩
  have fin : ∃ v, c_X11_changed F cs 0 x1 x2 = some v ∧ m_changed F rs x1 x2 = some v := by
    obtain ⟨nst, st, s5, q | ⟨n, ff, M, t, cap, s, lf, S', Q, oq, ss, r, il, w, V, D, cg, cS, c0, cR, c4, c5, csH, rsH, od, S0, RR, Sr, C, CH, q⟩⟩ := h.st
    · refine ⟨0, ?_, ?_⟩
      · unfold c_X11_changed
        rw [ckE_ok h.b.o, ob_s, noq_ccell h.b.o q.cc.c, ob_s, if_neg m1_neg]
      · unfold m_changed m_changed_b26
        rw [noq_chg q.r0, ob_s, if_pos rfl]
    · obtain ⟨M9, cc, cl, cu⟩ := q.al.cc
      have ce := q.al.cm.1
      have w8 := q.al.w8
      have c0' : rs.1 110 = nI C.length := by rw [ce]; exact q.al.ch.c0
      rcases where_2 (m := C.length) (w := w) x1 x2 (by omega) w8 with o | ⟨k, c, k1, c1, k2, c2⟩
      · refine ⟨0, ?_, ?_⟩
        · unfold c_X11_changed
          rw [ckE_ok h.b.o, ob_s, ccell_out q.an cc o, ob_s, if_neg m1_neg]
        · unfold m_changed m_changed_b26
          rw [mchg_out c0' q.al.x1 o, ob_s, if_pos rfl]
      · obtain ⟨v, v1, v2, v3, v4⟩ := chg_cell q.al k1 c1
        have kw : (C.getD k (0, 0)).1 * w + c < 5000 := by
          have := mul_up v1 w8
          omega
        have kk : w * k + c < 10400 := by
          have := mul_up (show k + 1 ≤ 1024 by omega) w8
          have e : (k + 1) * w = k * w + w := Nat.succ_mul k w
          rw [Nat.mul_comm w k]
          omega
        refine ⟨vl v, ?_, ?_⟩
        · unfold c_X11_changed c_X11_changed_b40
          rw [k2, c2, ckE_ok h.b.o, ob_s, ccell_in q.an cc cl k1 c1, ob_s, if_pos (nI_0le (by omega)), ob_s, chg_in cc cl k1, ob_s]
          by_cases z : (C.getD k (0, 0)).2 < 0
          · rw [if_neg (Int32.not_le.mpr z), gR_ok h.b.o, ob_s, h.s4, ob_s, ckE_ok h.b4.st.o, ob_s, (val_ok h.b4.st (by omega)).1, ob_s, v3 z]
          · rw [if_pos (Int32.not_lt.mp z), gR_ok h.b.o, ob_s, h.s3, ob_s, ckE_ok h.b3.st.o, ob_s, (val_ok h.b3.st (by omega)).1, ob_s, v4 z]
        · unfold m_changed m_changed_b26
          rw [k2, c2, mchg_in c0' q.al.x1 k1 (by omega) c1 w8, ob_s, if_neg (by decide), q.al.x1, pk_mul, nI_add, rdL_n kk (by omega), ob_s, v2.2]
  obtain ⟨v, e1, e2⟩ := fin
  unfold lk_12
  rw [ckE_ok h.b.o, ob_s, e1, ob_s, e2, ob_s]
  exact if_pos rfl
theorem ok_13 {F i : Nat} {cs : CS} {rs : RS} (h : SIM F i cs rs) (x1 x2 x3 x4 x5 : Int32) : OKC F i (lk_13 F cs rs x1 x2 x3 x4 x5) := by
  refine ⟨cs, rs, ?_, h⟩
  have b1 : ∀ x : OV, c_X11_changedNull_b40 F cs (fl x) = some (fl x) := fun x => by
    rcases fl_01 x with e | e <;> rw [e] <;> rfl
  have b2 : ∀ x : OV, (if fl x = 0 then m_changedNull_b29 F rs else m_changedNull_b30 F rs 1) = some (fl x) := fun x => by
    rcases fl_01 x with e | e <;> rw [e] <;> rfl
  have b4 : m_changedNull_b29 F rs = some 0 := rfl
  have fin : ∃ v, c_X11_changedNull F cs 0 x1 x2 = some v ∧ m_changedNull F rs x1 x2 = some v := by
    obtain ⟨nst, st, s5, q | ⟨n, ff, M, t, cap, s, lf, S', Q, oq, ss, r, il, w, V, D, cg, cS, c0, cR, c4, c5, csH, rsH, od, S0, RR, Sr, C, CH, q⟩⟩ := h.st
    · refine ⟨0, ?_, ?_⟩
      · unfold c_X11_changedNull
        rw [ckE_ok h.b.o, ob_s, noq_ccell h.b.o q.cc.c, ob_s, if_neg m1_neg]
      · unfold m_changedNull
        rw [noq_chg q.r0, ob_s, if_pos rfl, b4]
    · obtain ⟨M9, cc, cl, cu⟩ := q.al.cc
      have ce := q.al.cm.1
      have w8 := q.al.w8
      have c0' : rs.1 110 = nI C.length := by rw [ce]; exact q.al.ch.c0
      rcases where_2 (m := C.length) (w := w) x1 x2 (by omega) w8 with o | ⟨k, c, k1, c1, k2, c2⟩
      · refine ⟨0, ?_, ?_⟩
        · unfold c_X11_changedNull
          rw [ckE_ok h.b.o, ob_s, ccell_out q.an cc o, ob_s, if_neg m1_neg]
        · unfold m_changedNull
          rw [mchg_out c0' q.al.x1 o, ob_s, if_pos rfl, b4]
      · obtain ⟨v, v1, v2, v3, v4⟩ := chg_cell q.al k1 c1
        have kw : (C.getD k (0, 0)).1 * w + c < 5000 := by
          have := mul_up v1 w8
          omega
        have kk : w * k + c < 10400 := by
          have := mul_up (show k + 1 ≤ 1024 by omega) w8
          have e : (k + 1) * w = k * w + w := Nat.succ_mul k w
          rw [Nat.mul_comm w k]
          omega
        refine ⟨fl v, ?_, ?_⟩
        · unfold c_X11_changedNull
          rw [k2, c2, ckE_ok h.b.o, ob_s, ccell_in q.an cc cl k1 c1, ob_s, if_pos (nI_0le (by omega)), ob_s, chg_in cc cl k1, ob_s]
          by_cases z : (C.getD k (0, 0)).2 < 0
          · rw [if_neg (Int32.not_le.mpr z), gR_ok h.b.o, ob_s, h.s4, ob_s, ckE_ok h.b4.st.o, ob_s, (val_ok h.b4.st (by omega)).2, ob_s, v3 z, b1]
          · rw [if_pos (Int32.not_lt.mp z), gR_ok h.b.o, ob_s, h.s3, ob_s, ckE_ok h.b3.st.o, ob_s, (val_ok h.b3.st (by omega)).2, ob_s, v4 z, b1]
        · unfold m_changedNull
          rw [k2, c2, mchg_in c0' q.al.x1 k1 (by omega) c1 w8, ob_s, if_neg (by decide), q.al.x1, pk_mul, nI_add, rdI_n kk (by omega), ob_s, v2.1, b2]
  obtain ⟨v, e1, e2⟩ := fin
  unfold lk_13
  rw [ckE_ok h.b.o, ob_s, e1, ob_s, e2, ob_s]
  exact if_pos rfl

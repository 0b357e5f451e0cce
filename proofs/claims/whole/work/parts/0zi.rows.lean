/-! row, back: what they do to the streams -/
theorem ix4 (r k : Nat) : (4 : Int32) * nI r + nI k = nI (4 * r + k) := by rw [show (4 : Int32) = nI 4 from rfl, pk_mul, nI_add]
theorem ix8 (r k : Nat) : (8 : Int32) * nI r + nI k = nI (8 * r + k) := by rw [show (8 : Int32) = nI 8 from rfl, pk_mul, nI_add]
theorem ix8' (r k : Nat) : nI r * (8 : Int32) + nI k = nI (8 * r + k) := by rw [show (8 : Int32) = nI 8 from rfl, pk_mul, nI_add, Nat.mul_comm]
theorem ix5' (r : Nat) : nI r * (5 : Int32) = nI (5 * r) := by rw [show (5 : Int32) = nI 5 from rfl, pk_mul, Nat.mul_comm]
theorem ex_in {F n s : Nat} {cs : CS} {rs : RS} (hB : Bas cs) (h : ST n cs rs) (hs : s < n) : c_X7_exists F cs 2 (nI s) = some 1 := by
  have hn := h.le
  have c0 : ¬ nI s < 0 := nI_pos (by omega)
  have c1 : ¬ nI n ≤ nI s := nI_ge hs (by omega)
  have c2 : ¬ nI 6 ≤ nI s := nI_ge (by omega) (by omega)
  unfold c_X7_exists c_X7_exists_b26
  simp only [if_neg c0, gI_ok hB.oS, gA_ok hB.oS, hB.p258, lnA_n hB.e258 hB.p258, hB.l258, ob_s, h.ci, if_neg c1, if_neg c2]
  rfl
theorem ex_out {F n : Nat} {cs : CS} {rs : RS} {x : Int32} (hB : Bas cs) (h : ST n cs rs) (hx : x < 0 ∨ nI n ≤ x) : c_X7_exists F cs 2 x = some 0 := by
  unfold c_X7_exists c_X7_exists_b25 c_X7_exists_b26
  by_cases c0 : x < 0
  · rw [if_pos c0]; rfl
  · have c1 : nI n ≤ x := hx.elim (fun q => absurd q c0) id
    rw [if_neg c0, gI_ok hB.oS, ob_s, h.ci, if_pos c1]; rfl
theorem cc_in {F n s c : Nat} {cs : CS} {rs : RS} (hB : Bas cs) (h : ST n cs rs) (hs : s < n) (hc : kA cs 258 2 s = nI c) : c_X7_columnCount F cs 2 (nI s) = some (nI c) := by
  have hn := h.le
  have h6 : s < 6 := by omega
  unfold c_X7_columnCount c_X7_columnCount_b18
  rw [ckE_ok hB.oS, ob_s, ex_in hB h hs, ob_s, if_neg (by decide), gA_ok hB.oS, hB.p258, ob_s, rA_n hB.e258 hB.p258 (by rw [hB.l258]; exact h6) (by rw [hB.l258]; decide), ob_s, hc]
theorem ho_in {F n s p : Nat} {cs : CS} {rs : RS} (hB : Bas cs) (h : ST n cs rs) (hs : s < n) (hp : p < 8) : c_X7_holds F cs 2 (nI s) (nI p) = some (rs.2.2.1 6 (8 * s + p)) := by
  have hn := h.le
  have c0 : ¬ nI p < 0 := nI_pos (by omega)
  have c1 : ¬ (8 : Int32) ≤ nI p := nI_ge (b := 8) hp (by decide)
  obtain ⟨t1, t2⟩ := h.th (8 * s + p) (by omega)
  unfold c_X7_holds c_X7_holds_b36 c_X7_holds_b37
  rw [ckE_ok hB.oS, ob_s, ex_in hB h hs, ob_s, if_neg (by decide), if_neg c0, if_neg c1, gA_ok hB.oS, hB.p261, ob_s, ix8', rA_n hB.e261 hB.p261 (by rw [hB.l261]; omega) (by rw [hB.l261]; decide), ob_s, t1]
  rcases t2 with e | e
  · rw [if_pos e, e]; rfl
  · rw [if_neg (by rw [e]; decide), e]; rfl
theorem ho_out {F n : Nat} {cs : CS} {rs : RS} {x y : Int32} (hB : Bas cs) (h : ST n cs rs) (hx : (x < 0 ∨ nI n ≤ x) ∨ (y < 0 ∨ (8 : Int32) ≤ y)) : c_X7_holds F cs 2 x y = some 0 := by
  have hn := h.le
  unfold c_X7_holds c_X7_holds_b36 c_X7_holds_b37
  rcases pk_ix x (n := n) (by omega) with c0 | c0 | ⟨j, hj, rfl⟩
  · rw [ckE_ok hB.oS, ob_s, ex_out hB h (Or.inl c0), ob_s, if_pos rfl]; rfl
  · rw [ckE_ok hB.oS, ob_s, ex_out hB h (Or.inr c0), ob_s, if_pos rfl]; rfl
  · rw [ckE_ok hB.oS, ob_s, ex_in hB h hj, ob_s, if_neg (by decide)]
    by_cases q0 : y < 0
    · rw [if_pos q0]; rfl
    · rw [if_neg q0]
      by_cases q1 : (8 : Int32) ≤ y
      · rw [if_pos q1]; rfl
      · rcases hx with (q | q) | (q | q)
        · exact absurd q (nI_pos (by omega))
        · exact absurd q (nI_ge hj (by omega))
        · exact absurd q q0
        · exact absurd q q1
theorem fp_hit {F n s p : Nat} {cs : CS} {rs : RS} (hB : Bas cs) (h : ST n cs rs) (hs : s < n) (hp : p < 8) (h0 : rs.2.2.1 6 (8 * s + p) = 0) : ∀ (f q : Nat), q ≤ p → (∀ k, q ≤ k → k < p → rs.2.2.1 6 (8 * s + k) ≠ 0) → p - q < f → c_X7_freePlace_L2 F cs f 2 (nI s) (nI q) = some (nI p)
  | 0, _, _, _, hf => by omega
  | f + 1, q, hq, hk, hf => by
    have c1 : ¬ (8 : Int32) ≤ nI q := nI_ge (b := 8) (by omega) (by decide)
    rw [c_X7_freePlace_L2, if_neg c1, ckE_ok hB.oS, ob_s, ho_in hB h hs (by omega), ob_s]
    by_cases e : q = p
    · subst e
      rw [if_pos h0]
    · rw [if_neg (hk q (Nat.le_refl _) (by omega)), nI_1]
      exact fp_hit hB h hs hp h0 f (q + 1) (by omega) (fun k a b => hk k (by omega) b) (by omega)
theorem fp_miss {F n s : Nat} {cs : CS} {rs : RS} (hB : Bas cs) (h : ST n cs rs) (hs : s < n) (hk : ∀ k, k < 8 → rs.2.2.1 6 (8 * s + k) ≠ 0) : ∀ (f q : Nat), q ≤ 8 → 8 - q < f → c_X7_freePlace_L2 F cs f 2 (nI s) (nI q) = some (-1)
  | 0, _, _, hf => by omega
  | f + 1, q, hq, hf => by
    rw [c_X7_freePlace_L2]
    by_cases e : q = 8
    · subst e
      rw [if_pos (by decide)]
    · have c1 : ¬ (8 : Int32) ≤ nI q := nI_ge (b := 8) (by omega) (by decide)
      rw [if_neg c1, ckE_ok hB.oS, ob_s, ho_in hB h hs (by omega), ob_s, if_neg (hk q (by omega)), nI_1]
      exact fp_miss hB h hs hk f (q + 1) (by omega) (by omega)
theorem rf_hit {F s p : Nat} {rs : RS} {t : Int64} {d : Int32} (hs : s < 6) (hp : p < 8) (h0 : rs.2.2.1 6 (8 * s + p) = 0) : ∀ (f q : Nat), q ≤ p → (∀ k, q ≤ k → k < p → rs.2.2.1 6 (8 * s + k) ≠ 0) → p - q < f → m_row_L44 F f rs (nI s) t d (nI q) = m_row_b72 F rs (nI s) t d (nI p)
  | 0, _, _, _, hf => by omega
  | f + 1, q, hq, hk, hf => by
    have c1 : ¬ (8 : Int32) ≤ nI q := nI_ge (b := 8) (by omega) (by decide)
    rw [m_row_L44, if_neg c1, ix8, rdI_n (by omega) (by decide), ob_s]
    by_cases e : q = p
    · subst e
      rw [if_pos h0]
    · rw [if_neg (hk q (Nat.le_refl _) (by omega)), nI_1]
      exact rf_hit hs hp h0 f (q + 1) (by omega) (fun k a b => hk k (by omega) b) (by omega)
theorem rf_miss {F s : Nat} {rs : RS} {t : Int64} {d : Int32} (hs : s < 6) (hk : ∀ k, k < 8 → rs.2.2.1 6 (8 * s + k) ≠ 0) : ∀ (f q : Nat), q ≤ 8 → 8 - q < f → m_row_L44 F f rs (nI s) t d (nI q) = some (rs, -1)
  | 0, _, _, hf => by omega
  | f + 1, q, hq, hf => by
    rw [m_row_L44]
    by_cases e : q = 8
    · subst e
      rw [if_pos (by decide)]; rfl
    · have c1 : ¬ (8 : Int32) ≤ nI q := nI_ge (b := 8) (by omega) (by decide)
      rw [if_neg c1, ix8, rdI_n (by omega) (by decide), ob_s, if_neg (hk q (by omega)), nI_1]
      exact rf_miss hs hk f (q + 1) (by omega) (by omega)
def r8 (k : Nat) : Prop := k = 8 ∨ k = 9
theorem rf_copy {F d r : Nat} {p : Int32} (hd : d ≤ 4) (hr : r < 48) : ∀ (f k : Nat) (rs : RS), k ≤ d → (∀ j, j < d → rs.2.2.1 13 j = 0 ∨ rs.2.2.1 13 j = 1) → d - k < f → ∃ rs', m_row_L109 F f rs (nI d) p (nI r) (nI k) = Option.bind (m_renew F rs' 1) (fun z => some (z, p)) ∧ FR r8 rs rs' ∧ (∀ j, rs'.2.2.2 8 j = if 4 * r + k ≤ j ∧ j < 4 * r + d then rs.2.2.2 12 (j - 4 * r) else rs.2.2.2 8 j) ∧ (∀ j, rs'.2.2.1 9 j = if 4 * r + k ≤ j ∧ j < 4 * r + d then rs.2.2.1 13 (j - 4 * r) else rs.2.2.1 9 j)
  | 0, _, _, _, _, hf => by omega
  | f + 1, k, rs, hk, hb, hf => by
    rw [m_row_L109]
    by_cases e : k = d
    · subst e
      refine ⟨rs, ?_, FR.refl rs, fun j => ?_, fun j => ?_⟩
      · rw [if_pos (nI_le (Nat.le_refl _) (by omega))]
      · rw [if_neg (by omega)]
      · rw [if_neg (by omega)]
    · have hkd : k < d := by omega
      have nz : vp_nar .boolean (rs.2.2.1 13 k) = rs.2.2.1 13 k := by rcases hb k hkd with e | e <;> rw [e] <;> decide
      have h1 : k < 4 := by omega
      have h2 : 4 * r + k < 192 := by omega
      obtain ⟨rs', e1, e2, e3, e4⟩ := rf_copy (F := F) (p := p) hd hr f (k + 1) (setI (setL rs 8 (4 * r + k) (rs.2.2.2 12 k)) 9 (4 * r + k) (rs.2.2.1 13 k)) (by omega) hb (by omega)
      refine ⟨rs', ?_, ((FR.setL (Or.inl rfl)).trans (FR.setI (Or.inr rfl))).trans e2, fun j => ?_, fun j => ?_⟩
      · rw [if_neg (nI_ge hkd (by omega)), rdL_n h1 (by decide), ob_s, ix4, wrL_n h2 (by decide), ob_s, rdI_n h1 (by decide), ob_s, wrI_n h2 (by decide), ob_s, nI_1]
        show m_row_L109 F f (setI (setL rs 8 (4 * r + k) (rs.2.2.2 12 k)) 9 (4 * r + k) (vp_nar .boolean (rs.2.2.1 13 k))) (nI d) p (nI r) (nI (k + 1)) = _
        rw [nz]
        exact e1
      · rw [e3 j]
        show (if 4 * r + (k + 1) ≤ j ∧ j < 4 * r + d then rs.2.2.2 12 (j - 4 * r) else vp_updL (rs.2.2.2 8) (4 * r + k) (rs.2.2.2 12 k) j) = _
        by_cases q : j = 4 * r + k
        · subst q
          rw [if_neg (by omega), pk_uLs, if_pos (by omega), show 4 * r + k - 4 * r = k by omega]
        · rw [pk_uLn q]
          by_cases q2 : 4 * r + (k + 1) ≤ j ∧ j < 4 * r + d
          · rw [if_pos q2, if_pos (by omega)]
          · rw [if_neg q2, if_neg (by omega)]
      · rw [e4 j]
        show (if 4 * r + (k + 1) ≤ j ∧ j < 4 * r + d then rs.2.2.1 13 (j - 4 * r) else upd (rs.2.2.1 9) (4 * r + k) (rs.2.2.1 13 k) j) = _
        by_cases q : j = 4 * r + k
        · subst q
          rw [if_neg (by omega), pk_us, if_pos (by omega), show 4 * r + k - 4 * r = k by omega]
        · rw [pk_un q]
          by_cases q2 : 4 * r + (k + 1) ≤ j ∧ j < 4 * r + d
          · rw [if_pos q2, if_pos (by omega)]
          · rw [if_neg q2, if_neg (by omega)]
theorem cpB_n {cs : CS} {t1 i1 j1 t2 i2 j2 sp dp n : Nat} (a1 : (32 + t1, i1) ∈ kE cs) (a2 : kP cs t1 i1 = some j1) (b1 : (32 + t2, i2) ∈ kE cs) (b2 : kP cs t2 i2 = some j2) (h1 : sp + n ≤ kL cs t1 i1) (h2 : dp + n ≤ kL cs t2 i2) (l1 : kL cs t1 i1 < 2147483648) (l2 : kL cs t2 i2 < 2147483648) : cpB cs t1 i1 j1 (nI sp) t2 i2 j2 (nI dp) (nI n) = some (xB cs t2 i2 (va_cpy (kB cs t1 i1) (kB cs t2 i2) sp dp n)) := by
  unfold cpB
  rw [nI_clamp (n := sp) (by omega), nI_clamp (n := dp) (by omega), nI_clamp (n := n) (by omega), if_pos ⟨a1, a2, b1, b2, nI_pos (by omega), nI_pos (by omega), nI_pos (by omega), h1, h2⟩]
theorem cpA_n {cs : CS} {t1 i1 j1 t2 i2 j2 sp dp n : Nat} (a1 : (32 + t1, i1) ∈ kE cs) (a2 : kP cs t1 i1 = some j1) (b1 : (32 + t2, i2) ∈ kE cs) (b2 : kP cs t2 i2 = some j2) (h1 : sp + n ≤ kL cs t1 i1) (h2 : dp + n ≤ kL cs t2 i2) (l1 : kL cs t1 i1 < 2147483648) (l2 : kL cs t2 i2 < 2147483648) (hf : ∀ x, x < n → fits .byte (.int (kA cs t1 i1 (sp + x))) = true) : cpA cs t1 i1 j1 (nI sp) t2 i2 j2 (nI dp) (nI n) = some (xA cs t2 i2 (va_cpy (kA cs t1 i1) (kA cs t2 i2) sp dp n)) := by
  unfold cpA
  rw [nI_clamp (n := sp) (by omega), nI_clamp (n := dp) (by omega), nI_clamp (n := n) (by omega), if_pos ⟨a1, a2, b1, b2, nI_pos (by omega), nI_pos (by omega), nI_pos (by omega), h1, h2, hf⟩]
theorem fit01 {x : Int32} (h : x = 0 ∨ x = 1) : fits .byte (.int x) = true := by rcases h with e | e <;> rw [e] <;> decide
def wS (t : Nat) : Prop := t = 259 ∨ t = 260 ∨ t = 261
theorem wr_ok {F n s p d : Nat} {cs : CS} {rs : RS} {t : Int64} (hB : Bas cs) (hs : s < 6) (hp : p < 8) (hd : d ≤ 4) (hb : ∀ j, j < d → kA cs 263 2 j = 0 ∨ kA cs 263 2 j = 1) : ∃ cs', c_X7_write F cs 2 (nI (8 * s + p)) (nI d) t = some cs' ∧ FX wS cs cs' ∧ (∀ j, kB cs' 259 2 j = if j = 5 * (8 * s + p) + d then t else if 5 * (8 * s + p) ≤ j ∧ j < 5 * (8 * s + p) + d then kB cs 262 2 (j - 5 * (8 * s + p)) else kB cs 259 2 j) ∧ (∀ j, kA cs' 260 2 j = if j = 5 * (8 * s + p) + d then 0 else if 5 * (8 * s + p) ≤ j ∧ j < 5 * (8 * s + p) + d then kA cs 263 2 (j - 5 * (8 * s + p)) else kA cs 260 2 j) ∧ (∀ j, kA cs' 261 2 j = if j = 8 * s + p then 1 else kA cs 261 2 j) := by
  obtain ⟨r, hr⟩ : ∃ r, r = 8 * s + p := ⟨_, rfl⟩
  rw [← hr]
  have hr48 : r < 48 := by omega
  have c0 : ¬ nI r < 0 := nI_pos (by omega)
  have c1 : ¬ nI 48 ≤ nI r := nI_ge hr48 (by decide)
  have c2 : ¬ nI 240 ≤ nI (5 * r + d) := nI_ge (by omega) (by decide)
  have c3 : nI d ≤ nI 4 := nI_le hd (by decide)
  have e1 := cpB_n (cs := cs) (sp := 0) (dp := 5 * r) (n := d) hB.e262 hB.p262 hB.e259 hB.p259 (by rw [hB.l262]; omega) (by rw [hB.l259]; omega) (by rw [hB.l262]; decide) (by rw [hB.l259]; decide)
  rw [nI_0] at e1
  obtain ⟨c4, hc4⟩ : ∃ c, c = xB cs 259 2 (va_cpy (kB cs 262 2) (kB cs 259 2) 0 (5 * r) d) := ⟨_, rfl⟩
  have f4 : FX wS cs c4 := by rw [hc4]; exact FX.xB (Or.inl rfl)
  have hB4 := hB.fx f4
  have a4 : kA c4 = kA cs := by rw [hc4]; rfl
  have e2 := cpA_n (cs := c4) (sp := 0) (dp := 5 * r) (n := d) hB4.e263 hB4.p263 hB4.e260 hB4.p260 (by rw [hB4.l263]; omega) (by rw [hB4.l260]; omega) (by rw [hB4.l263]; decide) (by rw [hB4.l260]; decide) (fun x hx => fit01 (by rw [a4, Nat.zero_add]; exact hb x hx))
  rw [nI_0] at e2
  obtain ⟨c5, hc5⟩ : ∃ c, c = xA c4 260 2 (va_cpy (kA c4 263 2) (kA c4 260 2) 0 (5 * r) d) := ⟨_, rfl⟩
  have f5 : FX wS cs c5 := f4.trans (by rw [hc5]; exact FX.xA (Or.inr (Or.inl rfl)))
  have hB5 := hB.fx f5
  have hi : 5 * r + d < 240 := by omega
  refine ⟨sA (sA (sB c5 259 2 (5 * r + d) t) 260 2 (5 * r + d) 0) 261 2 r 1, ?_, ((f5.trans (FX.sB (Or.inl rfl))).trans (FX.sA (Or.inr (Or.inl rfl)))).trans (FX.sA (Or.inr (Or.inr rfl))), fun j => ?_, fun j => ?_, fun j => ?_⟩
  · unfold c_X7_write
    simp only [if_neg c0, gA_ok hB.oS, hB.p261, hB.p259, hB.p262, lnA_n hB.e261 hB.p261, lnA_n hB.e259 hB.p259, lnA_n hB.e262 hB.p262, hB.l261, hB.l259, hB.l262, ob_s, if_neg c1, ix5', nI_add, if_neg c2, if_pos c3]
    rw [e1, ob_s, ← hc4, gA_ok hB4.oS, hB4.p263, ob_s, gA_ok hB4.oS, hB4.p260, ob_s, e2, ob_s, ← hc5, gA_ok hB5.oS, hB5.p259, ob_s, wB_n hB5.e259 hB5.p259 (by rw [hB5.l259]; exact hi) (by rw [hB5.l259]; decide), ob_s, gA_ok (cs := sB c5 259 2 (5 * r + d) t) hB5.oS, show kP (sB c5 259 2 (5 * r + d) t) 260 2 = some 5 from hB5.p260, ob_s, wA_n (cs := sB c5 259 2 (5 * r + d) t) hB5.e260 hB5.p260 (by show 5 * r + d < kL c5 260 2; rw [hB5.l260]; exact hi) (by show kL c5 260 2 < _; rw [hB5.l260]; decide), ob_s, show vp_nar .byte 0 = 0 by decide, gA_ok (cs := sA (sB c5 259 2 (5 * r + d) t) 260 2 (5 * r + d) 0) hB5.oS, show kP (sA (sB c5 259 2 (5 * r + d) t) 260 2 (5 * r + d) 0) 261 2 = some 6 from hB5.p261, ob_s, wA_n (cs := sA (sB c5 259 2 (5 * r + d) t) 260 2 (5 * r + d) 0) hB5.e261 hB5.p261 (by show r < kL c5 261 2; rw [hB5.l261]; exact hr48) (by show kL c5 261 2 < _; rw [hB5.l261]; decide), ob_s, show vp_nar .byte 1 = 1 by decide]
  · show vp_updL (kB c5 259 2) (5 * r + d) t j = _
    rw [hc5, hc4]
    show vp_updL (va_cpy (kB cs 262 2) (kB cs 259 2) 0 (5 * r) d) (5 * r + d) t j = _
    unfold vp_updL va_cpy
    rw [Nat.zero_add]
  · show upd (kA c5 260 2) (5 * r + d) 0 j = _
    rw [hc5, hc4]
    show upd (va_cpy (kA cs 263 2) (kA cs 260 2) 0 (5 * r) d) (5 * r + d) 0 j = _
    unfold upd va_cpy
    rw [Nat.zero_add]
  · show upd (kA c5 261 2) r 1 j = _
    rw [hc5, hc4]
    show upd (kA cs 261 2) r 1 j = _
    unfold upd
    rfl
def sS (t : Nat) : Prop := t = 259 ∨ t = 260 ∨ t = 261 ∨ t = 264
def sR' (k : Nat) : Prop := k = 6 ∨ k = 7 ∨ k = 8 ∨ k = 9 ∨ k = 11 ∨ k = 110
theorem lst8 (P : Nat → Prop) : (∃ p, p < 8 ∧ P p ∧ ∀ k, k < p → ¬ P k) ∨ ∀ k, k < 8 → ¬ P k := by
  rcases Classical.em (∃ p, p < 8 ∧ P p) with h | h
  · obtain ⟨k, hk, hm⟩ := pk_least (fun p => p < 8 ∧ P p) h
    exact Or.inl ⟨k, hk.1, hk.2, fun j hj hp => hm j hj ⟨by omega, hp⟩⟩
  · exact Or.inr (fun k hk hp => h ⟨k, hk, hp⟩)
theorem sim_settle {F n d : Nat} {cs : CS} {rs : RS} {x : Int32} {t : Int64} (hF : 10000 ≤ F) (hB : Bas cs) (h : ST n cs rs) (hd : DR d cs rs) : (∃ cs' rs', c_X7_settle F cs 2 x t = some (cs', -1) ∧ m_row F rs x t = some (rs', -1) ∧ ST n cs' rs' ∧ DR 0 cs' rs' ∧ rs'.1 110 = 0 ∧ FX sS cs cs' ∧ FR sR' rs rs') ∨ (∃ cs' rs' p, p < 8 ∧ c_X7_settle F cs 2 x t = some (cs', nI p) ∧ m_row F rs x t = Option.bind (m_renew F rs' 1) (fun z => some (z, nI p)) ∧ ST n cs' rs' ∧ DR 0 cs' rs' ∧ rs'.1 110 = 0 ∧ FX sS cs cs' ∧ FR sR' rs rs') := by
  have hn := h.le
  have h4 := hd.le
  obtain ⟨c2, hc2⟩ : ∃ c, c = sI cs 264 2 0 := ⟨_, rfl⟩
  obtain ⟨q2, hq2⟩ : ∃ q, q = setF (setF rs 11 0) 110 0 := ⟨_, rfl⟩
  have f2 : FX sS cs c2 := by rw [hc2]; exact FX.sI (Or.inr (Or.inr (Or.inr rfl)))
  have g2 : FR sR' rs q2 := by rw [hq2]; exact (FR.setF (Or.inr (Or.inr (Or.inr (Or.inr (Or.inl rfl)))))).trans (FR.setF (Or.inr (Or.inr (Or.inr (Or.inr (Or.inr rfl))))))
  have hB2 := hB.fx f2
  have h2 : ST n c2 q2 := by rw [hc2, hq2]; exact h
  have d2 : DR 0 c2 q2 := by rw [hc2, hq2]; exact ⟨rfl, rfl, by omega, fun k hk => by omega⟩
  have z2 : q2.1 110 = 0 := by rw [hq2]; rfl
  have same : c_X7_settle F cs 2 x t = some (c2, -1) → m_row F rs x t = some (q2, -1) → (∃ cs' rs', c_X7_settle F cs 2 x t = some (cs', -1) ∧ m_row F rs x t = some (rs', -1) ∧ ST n cs' rs' ∧ DR 0 cs' rs' ∧ rs'.1 110 = 0 ∧ FX sS cs cs' ∧ FR sR' rs rs') := fun a b => ⟨c2, q2, a, b, h2, d2, z2, f2, g2⟩
  have hc : c_X7_settle F cs 2 x t = Option.bind (c_X7_exists F c2 2 x) fun v_3 => if v_3 = 0 then (c_X7_settle_b29 F c2) else (Option.bind (c_X7_columnCount F c2 2 x) fun v_6 => if nI d = v_6 then (Option.bind (c_X7_freePlace F c2 2 x) fun v_9 => if v_9 = (-1) then (c_X7_settle_b58 F c2 v_9) else (Option.bind (c_X7_write F c2 2 ((x * 8) + v_9) (nI d) t) fun cs_12 => c_X7_settle_b58 F cs_12 v_9)) else (c_X7_settle_b29 F c2)) := by
    unfold c_X7_settle
    rw [gI_ok hB.oS, ob_s, pI_ok hB.oS, ob_s, ← hc2, hd.ci]
    simp only [ckE_ok hB2.oS, ob_s]
  have hm : m_row F rs x t = if x < 0 then (m_row_b39 F q2) else (if nI n ≤ x then (m_row_b39 F q2) else (Option.bind (rdI (q2.2.2.1 5) 6 x) fun v_15 => if nI d = v_15 then (m_row_L44 F F q2 x t (nI d) 0) else (m_row_b39 F q2))) := by
    unfold m_row
    rw [← hq2, h2.ri, hd.ri]
  rcases pk_ix x (n := n) (by omega) with x0 | x0 | ⟨s, hs, rfl⟩
  · refine Or.inl (same ?_ ?_)
    · rw [hc, ex_out hB2 h2 (Or.inl x0), ob_s, if_pos rfl]; rfl
    · rw [hm, if_pos x0]; rfl
  · refine Or.inl (same ?_ ?_)
    · rw [hc, ex_out hB2 h2 (Or.inr x0), ob_s, if_pos rfl]; rfl
    · rw [hm, if_pos x0]
      by_cases q : x < 0
      · rw [if_pos q]; rfl
      · rw [if_neg q]; rfl
  · obtain ⟨c, w1, w4, k1, k2⟩ := h2.col s hs
    have hc' : c_X7_settle F cs 2 (nI s) t = if nI d = nI c then (Option.bind (c_X7_freePlace F c2 2 (nI s)) fun v_9 => if v_9 = (-1) then (c_X7_settle_b58 F c2 v_9) else (Option.bind (c_X7_write F c2 2 ((nI s * 8) + v_9) (nI d) t) fun cs_12 => c_X7_settle_b58 F cs_12 v_9)) else (c_X7_settle_b29 F c2) := by
      rw [hc, ex_in hB2 h2 hs, ob_s, if_neg (by decide), cc_in hB2 h2 hs k1, ob_s]
    have hm' : m_row F rs (nI s) t = if nI d = nI c then (m_row_L44 F F q2 (nI s) t (nI d) 0) else (m_row_b39 F q2) := by
      rw [hm, if_neg (nI_pos (by omega)), if_neg (nI_ge hs (by omega)), rdI_n (by omega) (by decide), ob_s, k2]
    by_cases hdc : d = c
    · subst hdc
      rw [if_pos rfl] at hc' hm'
      rcases lst8 (fun p => q2.2.2.1 6 (8 * s + p) = 0) with ⟨p, hp, hp0, hpk⟩ | hall
      · have db : ∀ j, j < d → rs.2.2.1 13 j = 0 ∨ rs.2.2.1 13 j = 1 := fun j hj => (hd.eq j hj).2.2.imp id And.left
        obtain ⟨c3, a1, a2, a3, a4, a5⟩ := wr_ok (F := F) (n := n) (rs := rs) (s := s) (p := p) (d := d) (t := t) hB2 (by omega) hp h4 (fun j hj => by
          have e := (hd.eq j hj).2.1
          rw [hc2]
          show kA cs 263 2 j = 0 ∨ kA cs 263 2 j = 1
          rw [e]
          exact db j hj)
        obtain ⟨q3, b1, b2, b3, b4⟩ := rf_copy (F := F) (d := d) (r := 8 * s + p) (p := nI p) h4 (by omega) F 0 (setL (setI q2 6 (8 * s + p) 1) 7 (8 * s + p) t) (Nat.zero_le _) (by rw [hq2]; exact db) (by omega)
        refine Or.inr ⟨c3, q3, p, hp, ?_, ?_, ?_, ?_, ?_, f2.trans (a2.mono (fun t ht => by rcases ht with e | e | e <;> simp [sS, e])), (g2.trans ((FR.setI (Or.inl rfl)).trans (FR.setL (Or.inr (Or.inl rfl))))).trans (b2.mono (fun t ht => by rcases ht with e | e <;> simp [sR', e]))⟩
        · rw [hc']
          unfold c_X7_freePlace
          rw [show (0 : Int32) = nI 0 from rfl, fp_hit hB2 h2 hs hp hp0 F 0 (Nat.zero_le _) (fun k _ hk => hpk k hk) (by omega), ob_s, if_neg (fun e => by have := nI_toInt (n := p) (by omega); rw [e] at this; simp at this), ix8', a1, ob_s]
          rfl
        · rw [hm', show (0 : Int32) = nI 0 from rfl, rf_hit (by omega) hp hp0 F 0 (Nat.zero_le _) (fun k _ hk => hpk k hk) (by omega)]
          unfold m_row_b72
          rw [if_neg (fun e => by have := (nI_eq (b := 8) (by omega) (by decide)).mp e; omega), ix8, wrI_n (by omega) (by decide), ob_s, wrL_n (by omega) (by decide), ob_s, show vp_nar .boolean 1 = 1 by decide, show (0 : Int32) = nI 0 from rfl]
          exact b1
        · have e258 : kA c3 258 2 = kA c2 258 2 := a2.a (by unfold wS; omega) 2
          have e6 : q3.2.2.1 6 = upd (q2.2.2.1 6) (8 * s + p) 1 := b2.a (by unfold r8; omega)
          have e5 : q3.2.2.1 5 = q2.2.2.1 5 := b2.a (k := 5) (by unfold r8; omega)
          have e7 : q3.2.2.2 7 = vp_updL (q2.2.2.2 7) (8 * s + p) t := b2.l (k := 7) (by unfold r8; omega)
          refine ⟨(a2.i (by unfold wS; omega) 2).trans h2.ci, (b2.f (k := 4) (by unfold r8; omega)).trans h2.ri, hn, fun k hk => ?_, ?_, fun r hr => ?_, fun r hr h8 => ?_, fun s' c' p' hs' hp' hc4 hk ht => ?_⟩
          · rw [e258, e5]
            exact h2.col k hk
          · exact (a2.j (by unfold wS; omega) 2).trans (h2.wm.trans (b2.1.resolve_left (by unfold r8; omega)).symm)
          · rw [a5 r, e6]
            by_cases q : r = 8 * s + p
            · rw [if_pos q, q, pk_us]
              exact ⟨rfl, Or.inr rfl⟩
            · rw [if_neg q, pk_un q]
              exact h2.th r hr
          · rw [e6, pk_un (by omega)]
            exact h2.out r hr h8
          · rw [e258] at hk
            rw [e6] at ht
            by_cases q : 8 * s' + p' = 8 * s + p
            · have es : s' = s := by omega
              have ep : p' = p := by omega
              subst es ep
              have ec : c' = d := (nI_eq (by omega) (by omega)).mp (hk.symm.trans k1)
              subst ec
              refine ⟨fun k hkc => ?_, ?_, ?_⟩
              · rw [a3, a4, b3, b4, if_neg (by omega), if_pos (by omega), if_pos (by omega), if_neg (by omega), if_pos (by omega), if_pos (by omega), show 5 * (8 * s' + p') + k - 5 * (8 * s' + p') = k by omega, show 4 * (8 * s' + p') + k - 4 * (8 * s' + p') = k by omega, hc2, hq2]
                exact hd.eq k hkc
              · rw [a3, if_pos rfl, e7, pk_uLs]
              · rw [a4, if_pos rfl]
            · rw [pk_un q] at ht
              obtain ⟨v1, v2, v3⟩ := h2.val s' c' p' hs' hp' hc4 hk ht
              refine ⟨fun k hkc => ?_, ?_, ?_⟩
              · rw [a3, a4, b3, b4, if_neg (by omega), if_neg (by omega), if_neg (by omega), if_neg (by omega), if_neg (by omega), if_neg (by omega)]
                exact v1 k hkc
              · rw [a3, if_neg (by omega), if_neg (by omega), e7, pk_uLn q]
                exact v2
              · rw [a4, if_neg (by omega), if_neg (by omega)]
                exact v3
        · exact ⟨(a2.i (by unfold wS; omega) 2).trans d2.ci, (b2.f (k := 11) (by unfold r8; omega)).trans d2.ri, by omega, fun k hk => by omega⟩
        · exact (b2.f (k := 110) (by unfold r8; omega)).trans z2
      · refine Or.inl (same ?_ ?_)
        · rw [hc']
          unfold c_X7_freePlace
          rw [show (0 : Int32) = nI 0 from rfl, fp_miss hB2 h2 hs hall F 0 (by omega) (by omega), ob_s, if_pos rfl]
          rfl
        · rw [hm', show (0 : Int32) = nI 0 from rfl, rf_miss (by omega) hall F 0 (by omega) (by omega)]
    · have ne : ¬ nI d = nI c := fun e => hdc ((nI_eq (by omega) (by omega)).mp e)
      rw [if_neg ne] at hc' hm'
      exact Or.inl (same hc' hm')
/-! back -/
def bS (t : Nat) : Prop := t = 261
def bR (k : Nat) : Prop := k = 6 ∨ k = 110
theorem sim_remove {F n : Nat} {cs : CS} {rs : RS} {x y : Int32} (hB : Bas cs) (h : ST n cs rs) : (∃ rs', c_X7_remove F cs 2 x y = some (cs, 0) ∧ m_back F rs x y = some (rs', 0) ∧ ST n cs rs' ∧ rs'.1 110 = 0 ∧ FR bR rs rs') ∨ (∃ cs' rs', c_X7_remove F cs 2 x y = some (cs', 1) ∧ m_back F rs x y = Option.bind (m_renew F rs' 1) (fun z => some (z, 1)) ∧ ST n cs' rs' ∧ rs'.1 110 = 0 ∧ FX bS cs cs' ∧ FR bR rs rs') := by
  have hn := h.le
  obtain ⟨q2, hq2⟩ : ∃ q, q = setF rs 110 0 := ⟨_, rfl⟩
  have g2 : FR bR rs q2 := by rw [hq2]; exact FR.setF (Or.inr rfl)
  have h2 : ST n cs q2 := by rw [hq2]; exact h
  have z2 : q2.1 110 = 0 := by rw [hq2]; rfl
  have hm : m_back F rs x y = if x < 0 then (m_back_b41 F q2) else (if nI n ≤ x then (m_back_b41 F q2) else (if y < 0 then (m_back_b41 F q2) else (if 7 < y then (m_back_b41 F q2) else (Option.bind (rdI (q2.2.2.1 6) 48 ((8 * x) + y)) fun v_5 => if v_5 = 0 then (m_back_b41 F q2) else (Option.bind (wrI q2 6 48 ((8 * x) + y) (vp_nar .boolean 0)) fun cs_7 => Option.bind (m_renew F cs_7 1) fun cs_8 => some (cs_8, 1)))))) := by
    unfold m_back
    rw [← hq2, h2.ri]
  have same : c_X7_remove F cs 2 x y = some (cs, 0) → m_back F rs x y = some (q2, 0) → (∃ rs', c_X7_remove F cs 2 x y = some (cs, 0) ∧ m_back F rs x y = some (rs', 0) ∧ ST n cs rs' ∧ rs'.1 110 = 0 ∧ FR bR rs rs') := fun a b => ⟨q2, a, b, h2, z2, g2⟩
  have out : ((x < 0 ∨ nI n ≤ x) ∨ (y < 0 ∨ (8 : Int32) ≤ y)) → c_X7_remove F cs 2 x y = some (cs, 0) := fun q => by
    unfold c_X7_remove
    rw [ckE_ok hB.oS, ob_s, ho_out hB h q, ob_s, if_pos rfl]
  rcases pk_ix x (n := n) (by omega) with x0 | x0 | ⟨s, hs, rfl⟩
  · exact Or.inl (same (out (Or.inl (Or.inl x0))) (by rw [hm, if_pos x0]; rfl))
  · refine Or.inl (same (out (Or.inl (Or.inr x0))) ?_)
    rw [hm, if_pos x0]
    by_cases q : x < 0
    · rw [if_pos q]; rfl
    · rw [if_neg q]; rfl
  · rw [if_neg (nI_pos (by omega)), if_neg (nI_ge hs (by omega))] at hm
    rcases pk_ix y (n := 8) (by decide) with y0 | y0 | ⟨p, hp, rfl⟩
    · exact Or.inl (same (out (Or.inr (Or.inl y0))) (by rw [hm, if_pos y0]; rfl))
    · refine Or.inl (same (out (Or.inr (Or.inr y0))) ?_)
      have y7 : (7 : Int32) < y := Int32.lt_iff_toInt_lt.mpr (by have := Int32.le_iff_toInt_le.mp y0; rw [nI_toInt (by decide)] at this; simp at this ⊢; omega)
      rw [hm, if_pos y7]
      by_cases q : y < 0
      · rw [if_pos q]; rfl
      · rw [if_neg q]; rfl
    · rw [if_neg (nI_pos (by omega)), if_neg (show ¬ (7 : Int32) < nI p from nI_nlt (a := 7) (b := p) (by omega) (by decide)), ix8, rdI_n (by omega) (by decide), ob_s] at hm
      obtain ⟨t1, t2⟩ := h2.th (8 * s + p) (by omega)
      have hc : c_X7_remove F cs 2 (nI s) (nI p) = if q2.2.2.1 6 (8 * s + p) = 0 then (some (cs, 0)) else (Option.bind (gA cs 8 261 2) fun v_4 => Option.bind (wA cs 261 2 v_4 ((nI s * 8) + nI p) (vp_nar .byte 0)) fun cs_5 => some (cs_5, 1)) := by
        unfold c_X7_remove
        rw [ckE_ok hB.oS, ob_s, ho_in hB h2 hs hp, ob_s]
      by_cases q : q2.2.2.1 6 (8 * s + p) = 0
      · rw [if_pos q] at hc hm
        exact Or.inl (same hc hm)
      · rw [if_neg q] at hc hm
        have hi : 8 * s + p < 48 := by omega
        refine Or.inr ⟨sA cs 261 2 (8 * s + p) 0, setI q2 6 (8 * s + p) 0, ?_, ?_, ⟨h2.ci, h2.ri, hn, h2.col, h2.wm, fun r hr => ?_, fun r hr h8 => ?_, fun s' c' p' hs' hp' hc4 hk ht => ?_⟩, z2, FX.sA rfl, g2.trans (FR.setI (Or.inl rfl))⟩
        · rw [hc, gA_ok hB.oS, hB.p261, ob_s, ix8', wA_n hB.e261 hB.p261 (by rw [hB.l261]; exact hi) (by rw [hB.l261]; decide), ob_s]
          rfl
        · rw [hm, wrI_n hi (by decide), ob_s, show vp_nar .boolean 0 = 0 by decide]
        · show upd (kA cs 261 2) (8 * s + p) 0 r = upd (q2.2.2.1 6) (8 * s + p) 0 r ∧ (upd (q2.2.2.1 6) (8 * s + p) 0 r = 0 ∨ upd (q2.2.2.1 6) (8 * s + p) 0 r = 1)
          by_cases e : r = 8 * s + p
          · rw [e, pk_us, pk_us]
            exact ⟨rfl, Or.inl rfl⟩
          · rw [pk_un e, pk_un e]
            exact h2.th r hr
        · show upd (q2.2.2.1 6) (8 * s + p) 0 r = 0
          by_cases e : r = 8 * s + p
          · rw [e, pk_us]
          · rw [pk_un e]
            exact h2.out r hr h8
        · have ht : upd (q2.2.2.1 6) (8 * s + p) 0 (8 * s' + p') = 1 := ht
          by_cases e : 8 * s' + p' = 8 * s + p
          · rw [e, pk_us] at ht
            exact absurd ht (by decide)
          · rw [pk_un e] at ht
            exact h2.val s' c' p' hs' hp' hc4 hk ht

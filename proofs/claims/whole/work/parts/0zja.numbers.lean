/-! numbers -/
theorem dg_of : ∀ m, m < 256 → zdg (nI m - 128) ≠ 0 → ∃ d, d < 10 ∧ (nI m - 128) - 48 = nI d := by
  unfold zdg
  decide +kernel
theorem dg_k {c : Int32} (hb : zisB c) (h : zdg c ≠ 0) : ∃ d, d < 10 ∧ c - 48 = nI d := by
  obtain ⟨m, hm, rfl⟩ := hb
  exact dg_of m hm h
theorem dv10 : ∀ d, d < 10 → ((9223372036854775807 : Int64) - lN d) / 10 = lN ((9223372036854775807 - d) / 10) := by decide +kernel
theorem ck10 : ckD 10 = some 10 := by
  unfold ckD
  rw [if_neg (by decide +kernel)]
theorem lN_10 (a : Nat) : lN a * 10 = lN (10 * a) := by rw [show (10 : Int64) = lN 10 by decide +kernel, Nat.mul_comm]; exact (Int64.ofNat_mul a 10).symm
def ok1 (b : Bool) : Int32 := if b then 1 else 0
def okK (b : Bool) : Int32 := if b then 40 else 57
def mR (k : Nat) : Prop := k = 17
theorem nu_ok {F n p e i : Nat} {f : Nat → Int32} {rc : RS → Int32 → Int32 → Int32 → Option RS} (hf : ∀ k, k < n → zisB (f k)) (hi : i < 2001) : ∀ (u k : Nat) (cs : CS) (rs : RS) (v : Int64) (b : Bool), TW n f cs → (∀ k, k < n → rs.2.2.1 2 k = f k) → kI cs 357 9 = nI k → zBE (fun c => zdg c ≠ 0) f n k e → e - k < u → kA cs 352 9 i = okK b → (b = true → ∃ a, a < 9223372036854775808 ∧ v = lN a ∧ rs.2.2.2 17 i = v) → ∃ cs' rs' v' b', c_X10_scanNumber_L10 F u cs 9 (nI i) v = c_X10_scanNumber_b98 F cs' 9 (nI i) v' ∧ m_tokens_L150 F rc u rs (nI n) (nI i) (nI k) (nI p) (ok1 b) = m_tokens_b263 F rc rs' (nI n) (nI i) (nI e) (nI p) (ok1 b') ∧ FX kS cs cs' ∧ kA cs' 353 = kA cs 353 ∧ kB cs' = kB cs ∧ (∀ j, j ≠ i → kA cs' 352 9 j = kA cs 352 9 j) ∧ FR mR rs rs' ∧ (∀ j, j ≠ i → rs'.2.2.2 17 j = rs.2.2.2 17 j) ∧ kI cs' 357 9 = nI e ∧ kA cs' 352 9 i = okK b' ∧ (b' = true → ∃ a, a < 9223372036854775808 ∧ v' = lN a ∧ rs'.2.2.2 17 i = v')
  | 0, _, _, _, _, _, _, _, _, _, hu, _, _ => by omega
  | u + 1, k, cs, rs, v, b, h, hr, hk, he, hu, hb, hv => by
    have hl := h.le
    have hen := he.2.1
    have hke := he.1
    have stop : k = e → (k = n ∨ zdg (f k) = 0) → ∃ cs' rs' v' b', c_X10_scanNumber_L10 F (u + 1) cs 9 (nI i) v = c_X10_scanNumber_b98 F cs' 9 (nI i) v' ∧ m_tokens_L150 F rc (u + 1) rs (nI n) (nI i) (nI k) (nI p) (ok1 b) = m_tokens_b263 F rc rs' (nI n) (nI i) (nI e) (nI p) (ok1 b') ∧ FX kS cs cs' ∧ kA cs' 353 = kA cs 353 ∧ kB cs' = kB cs ∧ (∀ j, j ≠ i → kA cs' 352 9 j = kA cs 352 9 j) ∧ FR mR rs rs' ∧ (∀ j, j ≠ i → rs'.2.2.2 17 j = rs.2.2.2 17 j) ∧ kI cs' 357 9 = nI e ∧ kA cs' 352 9 i = okK b' ∧ (b' = true → ∃ a, a < 9223372036854775808 ∧ v' = lN a ∧ rs'.2.2.2 17 i = v') := fun q z => by
      subst q
      refine ⟨cs, rs, v, b, ?_, ?_, FX.refl cs, rfl, rfl, fun _ _ => rfl, FR.refl rs, fun _ _ => rfl, hk, hb, hv⟩
      · rw [c_X10_scanNumber_L10, gI_ok h.b.oT, ob_s, gI_ok h.b.oT, ob_s, h.s, hk]
        by_cases q : k = n
        · rw [if_pos (nI_le (by omega) (by omega))]
        · rw [if_neg (nI_ge (by omega) (by omega)), ob_s, ckE_ok h.b.oT, ob_s, by_in h (by omega), ob_s, c_dg, ob_s, if_pos (z.resolve_left q)]
      · rw [m_tokens_L150]
        by_cases q : k = n
        · rw [if_pos (nI_le (by omega) (by omega))]
        · rw [if_neg (nI_ge (by omega) (by omega)), rdI_n (by omega) (by decide), ob_s, hr k (by omega), m_dg, ob_s, if_pos (z.resolve_left q)]
    by_cases q : k = n
    · exact stop (by omega) (Or.inl q)
    · have hkn : k < n := by omega
      by_cases q2 : k = e
      · refine stop q2 (Or.inr ?_)
        subst q2
        rcases he.2.2.2 with z | z
        · omega
        · exact Classical.not_not.mp z
      · have hd : zdg (f k) ≠ 0 := he.2.2.1 k (Nat.le_refl _) (by omega)
        obtain ⟨d, d10, ed⟩ := dg_k (hf k hkn) hd
        have ed2 : (nI d).toInt64 = lN d := nI_l (by omega)
        have hc : c_X10_scanNumber_L10 F (u + 1) cs 9 (nI i) v = if v ≤ lN ((9223372036854775807 - d) / 10) then c_X10_scanNumber_L10 F u (sI cs 357 9 (nI (k + 1))) 9 (nI i) (v * 10 + lN d) else c_X10_scanNumber_L10 F u (sI (sA cs 352 9 i 57) 357 9 (nI (k + 1))) 9 (nI i) v := by
          rw [c_X10_scanNumber_L10, gI_ok h.b.oT, ob_s, gI_ok h.b.oT, ob_s, h.s, hk, if_neg (nI_ge hkn (by omega)), ob_s, ckE_ok h.b.oT, ob_s, by_in h hkn, ob_s, c_dg, ob_s, if_neg hd, ob_s, ob_s, by_in h hkn, ob_s, ck10, ob_s, ed, ed2, dv10 d d10]
          unfold c_X10_scanNumber_b85
          by_cases y : v ≤ lN ((9223372036854775807 - d) / 10)
          · rw [if_pos y, if_pos y, gI_ok h.b.oT, ob_s, hk, nI_1, pI_ok h.b.oT, ob_s]
          · rw [if_neg y, if_neg y, gA_ok h.b.oT, h.b.p352, ob_s, wA_n h.b.e352 h.b.p352 (by rw [h.b.l352]; exact hi) (by rw [h.b.l352]; decide), ob_s, gI_ok (cs := sA cs 352 9 i 57) h.b.oT, ob_s, show kI (sA cs 352 9 i 57) 357 9 = nI k from hk, nI_1, pI_ok (cs := sA cs 352 9 i 57) h.b.oT, ob_s]
        have hmF : m_tokens_b221 F rc (m_tokens_L150 F rc u) rs (nI n) (nI i) (nI k) (nI p) (nI d) (ok1 false) = m_tokens_L150 F rc u (setL rs 17 i (rs.2.2.2 17 i)) (nI n) (nI i) (nI (k + 1)) (nI p) (ok1 false) := by
          unfold m_tokens_b221 m_tokens_b256
          rw [if_pos (show ok1 false = 0 from rfl), rdL_n hi (by decide), ob_s, wrL_n hi (by decide), ob_s, nI_1]
        have hmT : m_tokens_b221 F rc (m_tokens_L150 F rc u) rs (nI n) (nI i) (nI k) (nI p) (nI d) (ok1 true) = m_tokens_L150 F rc u (setL rs 17 i (rs.2.2.2 17 i * 10 + lN d)) (nI n) (nI i) (nI (k + 1)) (nI p) (ok1 true) := by
          unfold m_tokens_b221 m_tokens_b256
          rw [if_neg (show ¬ ok1 true = 0 by decide), rdL_n hi (by decide), ob_s, wrL_n hi (by decide), ob_s, nI_1, ed2]
        have hm0 : m_tokens_L150 F rc (u + 1) rs (nI n) (nI i) (nI k) (nI p) (ok1 b) = m_tokens_b221 F rc (m_tokens_L150 F rc u) rs (nI n) (nI i) (nI k) (nI p) (nI d) (ok1 (b && decide (rs.2.2.2 17 i < 922337203685477580 ∨ rs.2.2.2 17 i = 922337203685477580 ∧ ¬ 7 < nI d))) := by
          rw [m_tokens_L150, if_neg (nI_ge hkn (by omega)), rdI_n (by omega) (by decide), ob_s, hr k hkn, m_dg, ob_s, if_neg hd, ob_s, ed]
          cases b
          · rw [if_pos (show ok1 false = 0 from rfl), Bool.false_and]; rfl
          · rw [if_neg (show ¬ ok1 true = 0 by decide), rdL_n hi (by decide), ob_s, Bool.true_and]
            by_cases y1 : rs.2.2.2 17 i < 922337203685477580
            · rw [if_pos y1, decide_eq_true (Or.inl y1)]; rfl
            · rw [if_neg y1, ob_s]
              by_cases y2 : rs.2.2.2 17 i = 922337203685477580
              · rw [if_pos y2]
                by_cases y3 : 7 < nI d
                · rw [if_pos y3, decide_eq_false (fun z => z.elim y1 (fun z => z.2 y3))]; rfl
                · rw [if_neg y3, decide_eq_true (Or.inr ⟨y2, y3⟩)]; rfl
              · rw [if_neg y2, decide_eq_false (fun z => z.elim y1 (fun z => y2 z.1))]; rfl
        have fx1 : FX kS cs (sI cs 357 9 (nI (k + 1))) := FX.sI (Or.inr (Or.inr (Or.inr rfl)))
        have fx2 : FX kS cs (sI (sA cs 352 9 i 57) 357 9 (nI (k + 1))) := (FX.sA (Or.inl rfl)).trans (FX.sI (Or.inr (Or.inr (Or.inr rfl))))
        have k2 : ∀ j, j ≠ i → upd (kA cs 352 9) i 57 j = kA cs 352 9 j := fun j hj => pk_un hj
        cases b
        · rw [hm0, Bool.false_and, hmF, hc]
          by_cases y : v ≤ lN ((9223372036854775807 - d) / 10)
          · rw [if_pos y]
            obtain ⟨cs', rs', v', b', e1, e2, e3, e4, e5, e6, e7, e8, e9, e10, e11⟩ := nu_ok (F := F) (n := n) (p := p) (e := e) (i := i) (rc := rc) hf hi u (k + 1) (sI cs 357 9 (nI (k + 1))) (setL rs 17 i (rs.2.2.2 17 i)) (v * 10 + lN d) false (h.fx fx1) hr rfl (he.step (by omega)) (by omega) hb (fun z => by cases z)
            exact ⟨cs', rs', v', b', e1, e2, fx1.trans e3, e4, e5, e6, (FR.setL (S := mR) rfl).trans e7, fun j hj => (e8 j hj).trans (pk_uLn hj), e9, e10, e11⟩
          · rw [if_neg y]
            obtain ⟨cs', rs', v', b', e1, e2, e3, e4, e5, e6, e7, e8, e9, e10, e11⟩ := nu_ok (F := F) (n := n) (p := p) (e := e) (i := i) (rc := rc) hf hi u (k + 1) (sI (sA cs 352 9 i 57) 357 9 (nI (k + 1))) (setL rs 17 i (rs.2.2.2 17 i)) v false (h.fx fx2) hr rfl (he.step (by omega)) (by omega) pk_us (fun z => by cases z)
            exact ⟨cs', rs', v', b', e1, e2, fx2.trans e3, e4, e5, fun j hj => (e6 j hj).trans (k2 j hj), (FR.setL (S := mR) rfl).trans e7, fun j hj => (e8 j hj).trans (pk_uLn hj), e9, e10, e11⟩
        · obtain ⟨a, ha, rfl, hv⟩ := hv rfl
          rw [hm0, Bool.true_and, hv]
          have eq1 : lN a ≤ lN ((9223372036854775807 - d) / 10) ↔ 10 * a + d < 9223372036854775808 := by
            rw [pk_lLE ha (by omega)]; omega
          have eq2 : (lN a < 922337203685477580 ∨ lN a = 922337203685477580 ∧ ¬ 7 < nI d) ↔ 10 * a + d < 9223372036854775808 := by
            rw [show (922337203685477580 : Int64) = lN 922337203685477580 by decide +kernel, pk_lLT ha (by decide), pk_lEQ ha (by decide), show (7 : Int32) = nI 7 from rfl, nI_ltI (by decide) (by omega)]; omega
          by_cases y : 10 * a + d < 9223372036854775808
          · rw [hc, if_pos (eq1.mpr y), decide_eq_true (eq2.mpr y), hmT]
            obtain ⟨cs', rs', v', b', e1, e2, e3, e4, e5, e6, e7, e8, e9, e10, e11⟩ := nu_ok (F := F) (n := n) (p := p) (e := e) (i := i) (rc := rc) hf hi u (k + 1) (sI cs 357 9 (nI (k + 1))) (setL rs 17 i (rs.2.2.2 17 i * 10 + lN d)) (lN a * 10 + lN d) true (h.fx fx1) hr rfl (he.step (by omega)) (by omega) hb (fun _ => ⟨10 * a + d, y, by rw [lN_10, lN_add], by show vp_updL (rs.2.2.2 17) i (rs.2.2.2 17 i * 10 + lN d) i = _; rw [pk_uLs, hv]⟩)
            exact ⟨cs', rs', v', b', e1, e2, fx1.trans e3, e4, e5, e6, (FR.setL (S := mR) rfl).trans e7, fun j hj => (e8 j hj).trans (pk_uLn hj), e9, e10, e11⟩
          · rw [hc, if_neg (fun z => y (eq1.mp z)), decide_eq_false (fun z => y (eq2.mp z)), hmF]
            obtain ⟨cs', rs', v', b', e1, e2, e3, e4, e5, e6, e7, e8, e9, e10, e11⟩ := nu_ok (F := F) (n := n) (p := p) (e := e) (i := i) (rc := rc) hf hi u (k + 1) (sI (sA cs 352 9 i 57) 357 9 (nI (k + 1))) (setL rs 17 i (rs.2.2.2 17 i)) (lN a) false (h.fx fx2) hr rfl (he.step (by omega)) (by omega) pk_us (fun z => by cases z)
            exact ⟨cs', rs', v', b', e1, e2, fx2.trans e3, e4, e5, fun j hj => (e6 j hj).trans (k2 j hj), (FR.setL (S := mR) rfl).trans e7, fun j hj => (e8 j hj).trans (pk_uLn hj), e9, e10, e11⟩

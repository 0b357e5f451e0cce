/-! reading: small steps -/
theorem sI_same (cs : CS) (t i : Nat) : sI cs t i (kI cs t i) = cs := by
  have h : u2 cs.2.1 t i (kI cs t i) = cs.2.1 := by
    funext x y
    unfold u2
    by_cases q : x = t ∧ y = i
    · rw [if_pos q, q.1, q.2]; rfl
    · rw [if_neg q]
  unfold sI
  rw [h]
theorem setF_same (rs : RS) (k : Nat) : setF rs k (rs.1 k) = rs := by
  have h : upd rs.1 k (rs.1 k) = rs.1 := by
    funext x
    unfold upd
    by_cases q : x = k
    · rw [if_pos q, q]
    · rw [if_neg q]
  unfold setF
  rw [h]
theorem nI_z (i : Nat) : nI i + 0 = nI i := nI_add i 0
/-- the tokens of both -/
def TX (n : Nat) (f : Nat → Int32) (M : Nat) (cs : CS) (rs : RS) : Prop := (n ≤ 2000) ∧ (M ≤ n) ∧ (∀ k, k < n → rs.2.2.1 2 k = f k) ∧ (∀ k, k < n → zisB (f k)) ∧ (∀ j, j ≤ M → ∃ p κ, TK n f j p κ cs rs ∧ (j < M → κ < 56) ∧ (j = M → 56 ≤ κ)) ∧ (∀ a b, a < b → b ≤ M → kA cs 353 9 a ≠ kA cs 353 9 b)
theorem TX.n2 {n : Nat} {f : Nat → Int32} {M : Nat} {cs : CS} {rs : RS} (h : TX n f M cs rs) : n ≤ 2000 := h.1
theorem TX.mn {n : Nat} {f : Nat → Int32} {M : Nat} {cs : CS} {rs : RS} (h : TX n f M cs rs) : M ≤ n := h.2.1
theorem TX.tx {n : Nat} {f : Nat → Int32} {M : Nat} {cs : CS} {rs : RS} (h : TX n f M cs rs) : ∀ k, k < n → rs.2.2.1 2 k = f k := h.2.2.1
theorem TX.by' {n : Nat} {f : Nat → Int32} {M : Nat} {cs : CS} {rs : RS} (h : TX n f M cs rs) : ∀ k, k < n → zisB (f k) := h.2.2.2.1
theorem TX.tk {n : Nat} {f : Nat → Int32} {M : Nat} {cs : CS} {rs : RS} (h : TX n f M cs rs) : ∀ j, j ≤ M → ∃ p κ, TK n f j p κ cs rs ∧ (j < M → κ < 56) ∧ (j = M → 56 ≤ κ) := h.2.2.2.2.1
theorem TX.pm {n : Nat} {f : Nat → Int32} {M : Nat} {cs : CS} {rs : RS} (h : TX n f M cs rs) : ∀ a b, a < b → b ≤ M → kA cs 353 9 a ≠ kA cs 353 9 b := h.2.2.2.2.2
theorem TX.wd {n M i p κ : Nat} {f : Nat → Int32} {cs : CS} {rs : RS} (h : TX n f M cs rs) (hi : i ≤ M) (k : TK n f i p κ cs rs) (h39 : κ ≤ 39) : ∃ l, WD n f i p l rs ∧ kB cs 354 9 i = lN (zwn f p l) ∧ (κ < 39 → tn κ = zwn f p l) ∧ (κ = 39 → ∀ j, j < 39 → tn j ≠ zwn f p l) := by
  obtain ⟨s, l, l1, l2, l3, l4, l5, l6, l7, l8⟩ := k.wd h39
  have := h.n2
  have := h.mn
  exact ⟨l, ⟨h.n2, by omega, h.tx, h.by', s, k.pr, l4, l1, l2, l3, l6⟩, l5, l7, l8⟩
/-- a Text at work -/
def SH (t c : Nat) (cs : CS) : Prop := (Bas cs) ∧ ((10, t) ∈ kE cs) ∧ (kR cs 327 t = some 9) ∧ (kR cs 322 t = some c) ∧ ((2, c) ∈ kE cs)
theorem SH.b {t c : Nat} {cs : CS} (h : SH t c cs) : Bas cs := h.1
theorem SH.o {t c : Nat} {cs : CS} (h : SH t c cs) : (10, t) ∈ kE cs := h.2.1
theorem SH.tk {t c : Nat} {cs : CS} (h : SH t c cs) : kR cs 327 t = some 9 := h.2.2.1
theorem SH.rc {t c : Nat} {cs : CS} (h : SH t c cs) : kR cs 322 t = some c := h.2.2.2.1
theorem SH.oc {t c : Nat} {cs : CS} (h : SH t c cs) : (2, c) ∈ kE cs := h.2.2.2.2
theorem SH.fx {S : Nat → Prop} {t c : Nat} {a d : CS} (h : SH t c a) (x : FX S a d) : SH t c d := by
  have e := x.e
  have r := x.2.1
  exact ⟨h.b.fx x, by rw [e]; exact h.o, by rw [r]; exact h.tk, by rw [r]; exact h.rc, by rw [e]; exact h.oc⟩
theorem ref_ok {F t c : Nat} {cs : CS} {a b : Int32} (h : SH t c cs) (h0 : kI cs 320 t = 0) : c_X9_refuse F cs t a b = some (sI (sI cs 320 t a) 321 t b) := by
  unfold c_X9_refuse c_X9_refuse_b17
  rw [gI_ok h.o, ob_s, if_pos h0, pI_ok h.o, ob_s, pI_ok (cs := sI cs 320 t a) h.o, ob_s]
theorem ref_f {F t c : Nat} {cs : CS} {a b : Int32} (h : SH t c cs) (h0 : kI cs 320 t ≠ 0) : c_X9_refuse F cs t a b = some cs := by
  unfold c_X9_refuse c_X9_refuse_b17
  rw [gI_ok h.o, ob_s, if_neg h0]
theorem knd_ok {F t c i p κ n : Nat} {f : Nat → Int32} {cs : CS} {rs : RS} (h : SH t c cs) (h0 : kI cs 320 t = 0) (hi : kI cs 328 t = nI i) (h2 : i < 2001) (k : TK n f i p κ cs rs) : c_X9_kind F cs t = some (nI κ) := by
  have hB := h.b
  unfold c_X9_kind c_X9_kind_b39
  rw [gI_ok h.o, ob_s, if_pos h0, gI_ok h.o, ob_s, gR_ok h.o, ob_s, h.tk, ob_s, gA_ok hB.oT, hB.p352, ob_s, lnA_n hB.e352 hB.p352, ob_s, hB.l352, hi, if_pos (nI_lt h2 (by decide)), ob_s, ob_s, gA_ok hB.oT, hB.p352, ob_s, ob_s, rA_n hB.e352 hB.p352 (by rw [hB.l352]; exact h2) (by rw [hB.l352]; decide), ob_s, k.kd]
theorem knd_f {F t c : Nat} {cs : CS} (h : SH t c cs) (h0 : kI cs 320 t ≠ 0) : c_X9_kind F cs t = some 57 := by
  unfold c_X9_kind c_X9_kind_b22 c_X9_kind_b39
  rw [gI_ok h.o, ob_s, if_neg h0]
theorem her_ok {F t c i : Nat} {cs : CS} (h : SH t c cs) (hi : kI cs 328 t = nI i) (h2 : i < 2001) : c_X9_here F cs t = some (kA cs 353 9 i) := by
  have hB := h.b
  unfold c_X9_here c_X9_here_b31
  rw [gI_ok h.o, ob_s, gR_ok h.o, ob_s, h.tk, ob_s, gA_ok hB.oT, hB.p353, ob_s, lnA_n hB.e353 hB.p353, ob_s, hB.l353, hi, if_neg (nI_ge h2 (by decide)), ob_s, ob_s, gA_ok hB.oT, hB.p353, ob_s, ob_s, rA_n hB.e353 hB.p353 (by rw [hB.l353]; exact h2) (by rw [hB.l353]; decide), ob_s]
theorem num_ok {F t c i : Nat} {cs : CS} (h : SH t c cs) (hi : kI cs 328 t = nI i) (h2 : i < 2001) : c_X9_number F cs t = some (kB cs 354 9 i) := by
  have hB := h.b
  unfold c_X9_number c_X9_number_b31
  rw [gI_ok h.o, ob_s, gR_ok h.o, ob_s, h.tk, ob_s, gA_ok hB.oT, hB.p354, ob_s, lnA_n hB.e354 hB.p354, ob_s, hB.l354, hi, if_neg (nI_ge h2 (by decide)), ob_s, ob_s, gA_ok hB.oT, hB.p354, ob_s, ob_s, rB_n hB.e354 hB.p354 (by rw [hB.l354]; exact h2) (by rw [hB.l354]; decide), ob_s]
theorem acc_y {F t c i : Nat} {cs : CS} {w : Int32} (h : SH t c cs) (hi : kI cs 328 t = nI i) (hk : c_X9_kind F cs t = some w) : c_X9_accept F cs t w = some (sI cs 328 t (nI (i + 1)), 1) := by
  unfold c_X9_accept c_X9_accept_b13 c_X9_accept_b28
  rw [ckE_ok h.o, ob_s, hk, ob_s, if_pos rfl, gI_ok h.o, ob_s, if_neg (by decide), hi, nI_1, pI_ok h.o, ob_s]
  rfl
theorem acc_n {F t c i : Nat} {cs : CS} {w k : Int32} (h : SH t c cs) (hi : kI cs 328 t = nI i) (hk : c_X9_kind F cs t = some k) (hn : k ≠ w) : c_X9_accept F cs t w = some (cs, 0) := by
  unfold c_X9_accept c_X9_accept_b13 c_X9_accept_b28
  rw [ckE_ok h.o, ob_s, hk, ob_s, if_neg hn, gI_ok h.o, ob_s, if_pos rfl, pI_ok h.o, ob_s, hi, nI_z, ← hi, sI_same]
  rfl
theorem exp_y {F t c i : Nat} {cs : CS} {w : Int32} (h : SH t c cs) (hi : kI cs 328 t = nI i) (hk : c_X9_kind F cs t = some w) : c_X9_expect F cs t w = some (sI cs 328 t (nI (i + 1))) := by
  unfold c_X9_expect c_X9_expect_b30
  rw [ckE_ok h.o, ob_s, hk, ob_s, if_pos rfl, gI_ok h.o, ob_s, hi, nI_1, pI_ok h.o, ob_s]
theorem exp_n {F t c i : Nat} {cs : CS} {w k : Int32} (h : SH t c cs) (h0 : kI cs 320 t = 0) (hi : kI cs 328 t = nI i) (h2 : i < 2001) (hk : c_X9_kind F cs t = some k) (hn : k ≠ w) : c_X9_expect F cs t w = some (sI (sI cs 320 t 1) 321 t (kA cs 353 9 i)) := by
  unfold c_X9_expect c_X9_expect_b30
  rw [ckE_ok h.o, ob_s, hk, ob_s, if_neg hn, ob_s, her_ok h hi h2, ob_s, ob_s, ref_ok h h0, ob_s]
theorem exp_f {F t c i : Nat} {cs : CS} {w : Int32} (h : SH t c cs) (h0 : kI cs 320 t ≠ 0) (hi : kI cs 328 t = nI i) (h2 : i < 2001) (hn : w ≠ 57) : c_X9_expect F cs t w = some cs := by
  unfold c_X9_expect c_X9_expect_b30
  rw [ckE_ok h.o, ob_s, knd_f h h0, ob_s, if_neg (Ne.symm hn), ob_s, her_ok h hi h2, ob_s, ob_s, ref_f h h0, ob_s]
theorem dee_ok {F t c z : Nat} {cs : CS} (h : SH t c cs) (hz : kI cs 329 t = nI z) (h12 : z < 12) : c_X9_deepen F cs t = some (sI cs 329 t (nI (z + 1))) := by
  unfold c_X9_deepen c_X9_deepen_b19
  rw [gI_ok h.o, ob_s, hz, if_pos (show nI z < 12 from nI_lt (b := 12) h12 (by decide)), ob_s, nI_1, pI_ok h.o, ob_s]
/-! the reference's small steps -/
theorem tel_ok {F : Nat} {rs : RS} {a b : Int32} (h : rs.1 21 = 1) : m_tell F rs a b = some (setF (setF (setF rs 21 0) 19 a) 20 b) := by
  unfold m_tell m_tell_b22
  rw [if_neg (by rw [h]; decide)]
theorem tel_f {F : Nat} {rs : RS} {a b : Int32} (h : rs.1 21 = 0) : m_tell F rs a b = some rs := by
  unfold m_tell m_tell_b22
  rw [if_pos h]
theorem wro_ok {F i : Nat} {rs : RS} (h : rs.1 21 = 1) (hi : rs.1 18 = nI i) (h2 : i < 2001) : m_wrong F rs = some (setF (setF (setF rs 21 0) 19 1) 20 (rs.2.2.1 15 i)) := by
  unfold m_wrong
  rw [hi, rdI_n h2 (by decide), ob_s, tel_ok h, ob_s]
theorem wro_f {F i : Nat} {rs : RS} (h : rs.1 21 = 0) (hi : rs.1 18 = nI i) (h2 : i < 2001) : m_wrong F rs = some rs := by
  unfold m_wrong
  rw [hi, rdI_n h2 (by decide), ob_s, tel_f h, ob_s]
theorem iw_ok {F n M i p κ x : Nat} {f : Nat → Int32} {cs : CS} {rs : RS} (hF : 10000 ≤ F) (h : TX n f M cs rs) (hi : i ≤ M) (k : TK n f i p κ cs rs) (hg : rs.1 21 = 1) (ha : rs.1 18 = nI i) (hx : x < 42) (hx2 : swK x < 39) : m_isWord F rs x = some (if κ = swK x then 1 else 0) := by
  have h2 : i < 2001 := by have := h.n2; have := h.mn; omega
  unfold m_isWord m_isWord_b36 m_isWord_b37
  rw [if_neg (by rw [hg]; decide), ha, rdI_n h2 (by decide), ob_s]
  by_cases w : κ ≤ 39
  · obtain ⟨l, wd, -, e1, e2⟩ := h.wd hi k w
    obtain ⟨b, b1, b2⟩ := it_ok (F := F) hF wd hx hx2
    rw [wd.so, if_pos rfl, b1, ob_s]
    rcases b2 with ⟨q1, q2⟩ | ⟨q1, q2⟩
    · have : κ = swK x := by
        by_cases y : κ = 39
        · exact absurd q2.symm (e2 y (swK x) hx2)
        · exact tn_inj κ (by omega) (swK x) hx2 ((e1 (by omega)).trans q2)
      rw [if_pos this, if_neg (by rw [q1]; decide)]
      rfl
    · have : κ ≠ swK x := fun y => q2 (by rw [← e1 (by omega), y])
      rw [if_neg this, if_pos q1]
      rfl
  · rw [if_neg (show κ ≠ swK x by omega)]
    have : rs.2.2.1 14 i ≠ 1 := by
      have := k.kl
      by_cases y1 : κ = 40
      · rw [(k.nu y1).1]; decide
      · by_cases y2 : κ = 56
        · rw [k.en y2]; decide
        · by_cases y3 : κ = 57
          · rw [k.bad y3]; decide
          · rw [k.sg (by omega) (by omega)]
            have : ∀ q, q < 56 → 41 ≤ q → st (nI q) ≠ 1 := by unfold st; decide
            exact this κ (by omega) (by omega)
    rw [if_neg this]
    rfl
theorem iw_f {F x : Nat} {rs : RS} (hg : rs.1 21 = 0) : m_isWord F rs x = some 0 := by
  unfold m_isWord m_isWord_b36 m_isWord_b37
  rw [if_pos hg]
  rfl
theorem tw_y {F x i : Nat} {rs : RS} (hi : rs.1 18 = nI i) (h : m_isWord F rs x = some 1) : m_takeWord F rs x = some (setF rs 18 (nI (i + 1)), 1) := by
  unfold m_takeWord m_takeWord_b20
  rw [h, ob_s, if_neg (by decide), hi, nI_1]
  rfl
theorem tw_n {F x i : Nat} {rs : RS} (hi : rs.1 18 = nI i) (h : m_isWord F rs x = some 0) : m_takeWord F rs x = some (rs, 0) := by
  unfold m_takeWord m_takeWord_b20
  rw [h, ob_s, if_pos rfl, hi, nI_z, ← hi, setF_same]
  rfl
theorem nw_y {F x i : Nat} {rs : RS} (hi : rs.1 18 = nI i) (h : m_isWord F rs x = some 1) : m_needWord F rs x = some (setF rs 18 (nI (i + 1))) := by
  unfold m_needWord m_needWord_b12
  rw [tw_y hi h, ob_s, if_neg (show ¬ (1 : Int32) = 0 by decide)]
theorem nw_n {F x i : Nat} {rs : RS} (hi : rs.1 18 = nI i) (h2 : i < 2001) (hg : rs.1 21 = 1) (h : m_isWord F rs x = some 0) : m_needWord F rs x = some (setF (setF (setF rs 21 0) 19 1) 20 (rs.2.2.1 15 i)) := by
  unfold m_needWord m_needWord_b12
  rw [tw_n hi h, ob_s, if_pos rfl, wro_ok hg hi h2, ob_s]
theorem nw_f {F x i : Nat} {rs : RS} (hi : rs.1 18 = nI i) (h2 : i < 2001) (hg : rs.1 21 = 0) : m_needWord F rs x = some rs := by
  unfold m_needWord m_needWord_b12
  rw [tw_n hi (iw_f hg), ob_s, if_pos rfl, wro_f hg hi h2, ob_s]
theorem st_sep : ∀ q, q < 56 → 41 ≤ q → ∀ r, r < 56 → 41 ≤ r → st (nI q) = st (nI r) → q = r := by unfold st; decide +kernel
theorem st_no : ∀ q, q < 56 → 41 ≤ q → st (nI q) ≠ 0 ∧ st (nI q) ≠ 1 ∧ st (nI q) ≠ 2 ∧ st (nI q) ≠ 3 := by unfold st; decide +kernel
theorem ig_ok {F n M i p κ q : Nat} {f : Nat → Int32} {cs : CS} {rs : RS} (h : TX n f M cs rs) (hi : i ≤ M) (k : TK n f i p κ cs rs) (hg : rs.1 21 = 1) (ha : rs.1 18 = nI i) (hq : 41 ≤ q) (hq2 : q < 56) : m_isSign F rs (st (nI q)) = some (if κ = q then 1 else 0) := by
  have h2 : i < 2001 := by have := h.n2; have := h.mn; omega
  obtain ⟨s0, s1, s2, s3⟩ := st_no q hq2 hq
  unfold m_isSign m_isSign_b24 m_isSign_b25
  rw [if_neg (by rw [hg]; decide), ha, rdI_n h2 (by decide), ob_s]
  by_cases e : κ = q
  · subst e
    rw [if_pos rfl, if_pos (k.sg hq (by omega))]
    rfl
  · have : rs.2.2.1 14 i ≠ st (nI q) := by
      have := k.kl
      by_cases y0 : κ ≤ 39
      · rw [(k.wd y0).1]; exact Ne.symm s1
      · by_cases y1 : κ = 40
        · rw [(k.nu y1).1]; exact Ne.symm s2
        · by_cases y2 : κ = 56
          · rw [k.en y2]; exact Ne.symm s0
          · by_cases y3 : κ = 57
            · rw [k.bad y3]; exact Ne.symm s3
            · rw [k.sg (by omega) (by omega)]
              exact fun z => e (st_sep κ (by omega) (by omega) q hq2 hq z)
    rw [if_neg e, if_neg this]
    rfl
theorem ig_f {F : Nat} {rs : RS} {x : Int32} (hg : rs.1 21 = 0) : m_isSign F rs x = some 0 := by
  unfold m_isSign m_isSign_b24 m_isSign_b25
  rw [if_pos hg]
  rfl
theorem tg_y {F i : Nat} {rs : RS} {x : Int32} (hi : rs.1 18 = nI i) (h : m_isSign F rs x = some 1) : m_takeSign F rs x = some (setF rs 18 (nI (i + 1)), 1) := by
  unfold m_takeSign m_takeSign_b20
  rw [h, ob_s, if_neg (by decide), hi, nI_1]
  rfl
theorem tg_n {F i : Nat} {rs : RS} {x : Int32} (hi : rs.1 18 = nI i) (h : m_isSign F rs x = some 0) : m_takeSign F rs x = some (rs, 0) := by
  unfold m_takeSign m_takeSign_b20
  rw [h, ob_s, if_pos rfl, hi, nI_z, ← hi, setF_same]
  rfl
theorem ng_y {F i : Nat} {rs : RS} {x : Int32} (hi : rs.1 18 = nI i) (h : m_isSign F rs x = some 1) : m_needSign F rs x = some (setF rs 18 (nI (i + 1))) := by
  unfold m_needSign m_needSign_b12
  rw [tg_y hi h, ob_s, if_neg (show ¬ (1 : Int32) = 0 by decide)]
theorem ng_n {F i : Nat} {rs : RS} {x : Int32} (hi : rs.1 18 = nI i) (h2 : i < 2001) (hg : rs.1 21 = 1) (h : m_isSign F rs x = some 0) : m_needSign F rs x = some (setF (setF (setF rs 21 0) 19 1) 20 (rs.2.2.1 15 i)) := by
  unfold m_needSign m_needSign_b12
  rw [tg_n hi h, ob_s, if_pos rfl, wro_ok hg hi h2, ob_s]
theorem ng_f {F i : Nat} {rs : RS} {x : Int32} (hi : rs.1 18 = nI i) (h2 : i < 2001) (hg : rs.1 21 = 0) : m_needSign F rs x = some rs := by
  unfold m_needSign m_needSign_b12
  rw [tg_n hi (ig_f hg), ob_s, if_pos rfl, wro_f hg hi h2, ob_s]
theorem ina_ok {F n M i p κ : Nat} {f : Nat → Int32} {cs : CS} {rs : RS} (hF : 10000 ≤ F) (h : TX n f M cs rs) (hi : i ≤ M) (k : TK n f i p κ cs rs) (hg : rs.1 21 = 1) (ha : rs.1 18 = nI i) : m_isName F rs = some (if κ = 39 then 1 else 0) := by
  have h2 : i < 2001 := by have := h.n2; have := h.mn; omega
  unfold m_isName m_isName_b35 m_isName_b36
  rw [if_neg (by rw [hg]; decide), ha, rdI_n h2 (by decide), ob_s]
  by_cases w : κ ≤ 39
  · obtain ⟨l, wd, -, e1, e2⟩ := h.wd hi k w
    obtain ⟨b, b1, b2⟩ := tk_ok (F := F) hF wd
    rw [wd.so, if_pos rfl, b1, ob_s]
    rcases b2 with ⟨q1, q, q2, q3⟩ | ⟨q1, q2⟩
    · have : κ ≠ 39 := fun y => e2 y q q2 q3
      rw [if_neg this, if_neg (by rw [q1]; decide)]
      rfl
    · have : κ = 39 := by
        rcases Nat.lt_or_ge κ 39 with y | y
        · exact absurd (e1 y) (q2 κ y)
        · omega
      rw [if_pos this, if_pos q1]
      rfl
  · rw [if_neg (show κ ≠ 39 by omega)]
    have : rs.2.2.1 14 i ≠ 1 := by
      have := k.kl
      by_cases y1 : κ = 40
      · rw [(k.nu y1).1]; decide
      · by_cases y2 : κ = 56
        · rw [k.en y2]; decide
        · by_cases y3 : κ = 57
          · rw [k.bad y3]; decide
          · rw [k.sg (by omega) (by omega)]
            exact (st_no κ (by omega) (by omega)).2.1
    rw [if_neg this]
    rfl
theorem ina_f {F : Nat} {rs : RS} (hg : rs.1 21 = 0) : m_isName F rs = some 0 := by
  unfold m_isName m_isName_b35 m_isName_b36
  rw [if_pos hg]
  rfl
theorem na_y {F i : Nat} {rs : RS} (hi : rs.1 18 = nI i) (h : m_isName F rs = some 1) : m_name F rs = some (setF rs 18 (nI (i + 1)), nI i) := by
  unfold m_name
  rw [h, ob_s, if_neg (by decide), hi, nI_1]
  show some (setF rs 18 (nI (i + 1)), nI (i + 1) - 1) = _
  rw [nI_pred]
theorem na_n {F i : Nat} {rs : RS} (hi : rs.1 18 = nI i) (h2 : i < 2001) (hg : rs.1 21 = 1) (h : m_isName F rs = some 0) : m_name F rs = some (setF (setF (setF rs 21 0) 19 1) 20 (rs.2.2.1 15 i), nI i) := by
  unfold m_name
  rw [h, ob_s, if_pos rfl, wro_ok hg hi h2, ob_s]
  show some (_, rs.1 18) = _
  rw [hi]
theorem na_f {F i : Nat} {rs : RS} (hi : rs.1 18 = nI i) (h2 : i < 2001) (hg : rs.1 21 = 0) : m_name F rs = some (rs, nI i) := by
  unfold m_name
  rw [ina_f hg, ob_s, if_pos rfl, wro_f hg hi h2, ob_s, hi]

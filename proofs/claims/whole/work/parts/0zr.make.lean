/-! a node is made in both -/
theorem nI_n0 {x : Nat} (h : x < 2147483648) : ¬ nI x < 0 := show ¬ nI x < nI 0 from nI_nlt (Nat.zero_le _) h
theorem add_ok {F c cap s fi : Nat} {cs : CS} {k bg pt : Int32} (ho : (2, c) ∈ kE cs) (ha : CA c cap cs) (hn : kI cs 64 c = nI s) (hs : s < cap) (hc : cap ≤ 120) (hf : fi ≤ s) : c_X1_add F cs c k (nI fi) bg pt = some (sA (sB (sA (sA (sA (sA (sI cs 64 c (nI (s + 1))) 65 c s k) 66 c s bg) 67 c s (nI fi)) 68 c s pt) 70 c s (-1)) 71 c s (-1), nI s) := by
  obtain ⟨j65, p65⟩ := ha.p65
  obtain ⟨j66, p66⟩ := ha.p66
  obtain ⟨j67, p67⟩ := ha.p67
  obtain ⟨j68, p68⟩ := ha.p68
  obtain ⟨j70, p70⟩ := ha.p70
  obtain ⟨j71, p71⟩ := ha.p71
  obtain ⟨c0, h0⟩ : ∃ z, z = sI cs 64 c (nI (s + 1)) := ⟨_, rfl⟩
  obtain ⟨c1, h1⟩ : ∃ z, z = sA c0 65 c s k := ⟨_, rfl⟩
  obtain ⟨c2, h2⟩ : ∃ z, z = sA c1 66 c s bg := ⟨_, rfl⟩
  obtain ⟨c3, h3⟩ : ∃ z, z = sA c2 67 c s (nI fi) := ⟨_, rfl⟩
  obtain ⟨c4, h4⟩ : ∃ z, z = sA c3 68 c s pt := ⟨_, rfl⟩
  obtain ⟨c5, h5⟩ : ∃ z, z = sB c4 70 c s (-1) := ⟨_, rfl⟩
  have E : ∀ z, (z = c0 ∨ z = c1 ∨ z = c2 ∨ z = c3 ∨ z = c4 ∨ z = c5) → kE z = kE cs ∧ kP z = kP cs ∧ kL z = kL cs := fun z hz => by
    rcases hz with e | e | e | e | e | e <;> rw [e]
    · rw [h0]; exact ⟨rfl, rfl, rfl⟩
    · rw [h1, h0]; exact ⟨rfl, rfl, rfl⟩
    · rw [h2, h1, h0]; exact ⟨rfl, rfl, rfl⟩
    · rw [h3, h2, h1, h0]; exact ⟨rfl, rfl, rfl⟩
    · rw [h4, h3, h2, h1, h0]; exact ⟨rfl, rfl, rfl⟩
    · rw [h5, h4, h3, h2, h1, h0]; exact ⟨rfl, rfl, rfl⟩
  obtain ⟨a0, b0, d0⟩ := E c0 (by simp)
  obtain ⟨a1, b1, d1⟩ := E c1 (by simp)
  obtain ⟨a2, b2, d2⟩ := E c2 (by simp)
  obtain ⟨a3, b3, d3⟩ := E c3 (by simp)
  obtain ⟨a4, b4, d4⟩ := E c4 (by simp)
  obtain ⟨a5, b5, d5⟩ := E c5 (by simp)
  unfold c_X1_add
  rw [gI_ok ho, ob_s, gA_ok ho, p65, ob_s, lnA_n ha.e65 p65, ob_s, ha.l65, hn, if_pos (nI_lt hs (by omega)), ob_s, ob_s, nI_1, pI_ok ho, ob_s, ← h0,
    gA_ok (by rw [a0]; exact ho), b0, p65, ob_s, wA_n (by rw [a0]; exact ha.e65) (by rw [b0]; exact p65) (by rw [d0, ha.l65]; exact hs) (by rw [d0, ha.l65]; omega), ob_s, ← h1,
    gA_ok (by rw [a1]; exact ho), b1, p66, ob_s, wA_n (by rw [a1]; exact ha.e66) (by rw [b1]; exact p66) (by rw [d1, ha.l66]; exact hs) (by rw [d1, ha.l66]; omega), ob_s, ← h2,
    gA_ok (by rw [a2]; exact ho), b2, p67, ob_s, if_neg (nI_n0 (show fi < 2147483648 by omega)), if_neg (nI_nlt hf (by omega))]
  unfold c_X1_add_b68
  rw [wA_n (by rw [a2]; exact ha.e67) (by rw [b2]; exact p67) (by rw [d2, ha.l67]; exact hs) (by rw [d2, ha.l67]; omega), ob_s, ← h3,
    gA_ok (by rw [a3]; exact ho), b3, p68, ob_s, wA_n (by rw [a3]; exact ha.e68) (by rw [b3]; exact p68) (by rw [d3, ha.l68]; exact hs) (by rw [d3, ha.l68]; omega), ob_s, ← h4,
    gA_ok (by rw [a4]; exact ho), b4, p70, ob_s, wB_n (by rw [a4]; exact ha.e70) (by rw [b4]; exact p70) (by rw [d4, ha.l70]; exact hs) (by rw [d4, ha.l70]; omega), ob_s, ← h5,
    gA_ok (by rw [a5]; exact ho), b5, p71, ob_s, wA_n (by rw [a5]; exact ha.e71) (by rw [b5]; exact p71) (by rw [d5, ha.l71]; exact hs) (by rw [d5, ha.l71]; omega), ob_s]
def mkC (cs : CS) (c s fi : Nat) (k bg pt : Int32) : CS := sA (sB (sA (sA (sA (sA (sI cs 64 c (nI (s + 1))) 65 c s k) 66 c s bg) 67 c s (nI fi)) 68 c s pt) 70 c s (-1)) 71 c s (-1)
def mkR (rs : RS) (s : Nat) (k a b d fs : Int32) : RS := setI (setI (setI (setL (setI (setI (setI (setI (setI (setF rs 22 (nI (s + 1))) 23 s k) 24 s a) 25 s b) 26 s d) 27 s 0) 28 s 0) 29 s fs) 30 s 0) 32 s (-1)
theorem mkR_ok {F s : Nat} {rs : RS} {k a b d fs tl : Int32} (hg : rs.1 21 = 1) (hn : rs.1 22 = nI s) (hs : s < 120) : m_make F rs k a b d fs tl = some (mkR rs s k a b d fs, nI s) := by
  have h1 : s < 121 := by omega
  unfold m_make
  rw [if_neg (by rw [hg]; decide), hn, if_neg (show ¬ nI s = 120 from fun z => by have := (nI_eq (b := 120) (by omega) (by decide)).mp z; omega), nI_1]
  rw [wrI_n h1 (by decide), ob_s, wrI_n h1 (by decide), ob_s, wrI_n h1 (by decide), ob_s, wrI_n h1 (by decide), ob_s, wrI_n h1 (by decide), ob_s, wrL_n h1 (by decide), ob_s, wrI_n h1 (by decide), ob_s, wrI_n h1 (by decide), ob_s, wrI_n h1 (by decide), ob_s]
  rfl
theorem mk65 {c s fi : Nat} {cs : CS} {k bg pt : Int32} : kA (mkC cs c s fi k bg pt) 65 c = upd (kA cs 65 c) s k := by simp [mkC, kA_sA, kA_sB, kA_sI, u2]
theorem mk66 {c s fi : Nat} {cs : CS} {k bg pt : Int32} : kA (mkC cs c s fi k bg pt) 66 c = upd (kA cs 66 c) s bg := by simp [mkC, kA_sA, kA_sB, kA_sI, u2]
theorem mk67 {c s fi : Nat} {cs : CS} {k bg pt : Int32} : kA (mkC cs c s fi k bg pt) 67 c = upd (kA cs 67 c) s (nI fi) := by simp [mkC, kA_sA, kA_sB, kA_sI, u2]
theorem mk68 {c s fi : Nat} {cs : CS} {k bg pt : Int32} : kA (mkC cs c s fi k bg pt) 68 c = upd (kA cs 68 c) s pt := by simp [mkC, kA_sA, kA_sB, kA_sI, u2]
theorem mk71 {c s fi : Nat} {cs : CS} {k bg pt : Int32} : kA (mkC cs c s fi k bg pt) 71 c = upd (kA cs 71 c) s (-1) := by simp [mkC, kA_sA, kA_sB, kA_sI, u2]
theorem mk69 {c s fi : Nat} {cs : CS} {k bg pt : Int32} : kB (mkC cs c s fi k bg pt) 69 c = kB cs 69 c := by simp [mkC, kB_sA, kB_sB, kB_sI, u2]
theorem mk70 {c s fi : Nat} {cs : CS} {k bg pt : Int32} : kB (mkC cs c s fi k bg pt) 70 c = vp_updL (kB cs 70 c) s (-1) := by simp [mkC, kB_sA, kB_sB, kB_sI, u2]
theorem mk64 {c s fi : Nat} {cs : CS} {k bg pt : Int32} : kI (mkC cs c s fi k bg pt) 64 c = nI (s + 1) := by simp [mkC, kI_sA, kI_sB, kI_sI, u2]
theorem mkI {c s fi x y : Nat} {cs : CS} {k bg pt : Int32} (h : x ≠ 64) : kI (mkC cs c s fi k bg pt) x y = kI cs x y := by simp [mkC, kI_sA, kI_sB, kI_sI, u2, h]
theorem mk_o {c s fi x : Nat} {cs : CS} {rs : RS} {k bg pt k' a b d fs : Int32} (hx : x ≠ s) : VW c (mkC cs c s fi k bg pt) (mkR rs s k' a b d fs) x = VW c cs rs x := by
  unfold VW
  rw [mk65, mk66, mk67, mk68, mk69, mk70, mk71]
  show ((upd (kA cs 65 c) s k x, upd (kA cs 67 c) s (nI fi) x, upd (kA cs 68 c) s pt x, upd (kA cs 66 c) s bg x, kB cs 69 c x, upd (kA cs 71 c) s (-1) x, vp_updL (kB cs 70 c) s (-1) x), (upd (rs.2.2.1 23) s k' x, upd (rs.2.2.1 24) s a x, upd (rs.2.2.1 25) s b x, upd (rs.2.2.1 26) s d x, upd (rs.2.2.1 27) s 0 x, vp_updL (rs.2.2.2 28) s 0 x, upd (rs.2.2.1 29) s fs x, upd (rs.2.2.1 32) s (-1) x, upd (rs.2.2.1 30) s 0 x)) = _
  rw [pk_un hx, pk_un hx, pk_un hx, pk_un hx, pk_un hx, pk_uLn hx, pk_un hx, pk_un hx, pk_un hx, pk_un hx, pk_un hx, pk_uLn hx, pk_un hx, pk_un hx, pk_un hx]
theorem mk_s {c s fi : Nat} {cs : CS} {rs : RS} {k bg pt k' a b d fs : Int32} : VW c (mkC cs c s fi k bg pt) (mkR rs s k' a b d fs) s = ((k, nI fi, pt, bg, kB cs 69 c s, -1, -1), (k', a, b, d, 0, 0, fs, -1, 0)) := by
  unfold VW
  rw [mk65, mk66, mk67, mk68, mk69, mk70, mk71]
  show ((upd (kA cs 65 c) s k s, upd (kA cs 67 c) s (nI fi) s, upd (kA cs 68 c) s pt s, upd (kA cs 66 c) s bg s, kB cs 69 c s, upd (kA cs 71 c) s (-1) s, vp_updL (kB cs 70 c) s (-1) s), (upd (rs.2.2.1 23) s k' s, upd (rs.2.2.1 24) s a s, upd (rs.2.2.1 25) s b s, upd (rs.2.2.1 26) s d s, upd (rs.2.2.1 27) s 0 s, vp_updL (rs.2.2.2 28) s 0 s, upd (rs.2.2.1 29) s fs s, upd (rs.2.2.1 32) s (-1) s, upd (rs.2.2.1 30) s 0 s)) = _
  rw [pk_us, pk_us, pk_us, pk_us, pk_us, pk_uLs, pk_us, pk_us, pk_us, pk_us, pk_us, pk_uLs, pk_us, pk_us, pk_us]
theorem mkC_fo {t c q s fi : Nat} {cs : CS} {k bg pt : Int32} : FO (PX t c q) cs (mkC cs c s fi k bg pt) := by
  have w : ∀ x, x / 32 = 2 → PX t c q x c := fun x hx => Or.inr (Or.inl ⟨hx, rfl⟩)
  exact ((((((FO.sI (w 64 (by decide))).trans (FO.sA (w 65 (by decide)))).trans (FO.sA (w 66 (by decide)))).trans (FO.sA (w 67 (by decide)))).trans (FO.sA (w 68 (by decide)))).trans (FO.sB (w 70 (by decide)))).trans (FO.sA (w 71 (by decide)))
theorem mkR_fr {s : Nat} {rs : RS} {k a b d fs : Int32} : FR eR rs (mkR rs s k a b d fs) := by
  have w : ∀ x, 18 ≤ x ∧ x ≤ 30 → eR x := fun x hx => Or.inl hx
  exact (((((((((FR.setF (w 22 (by decide))).trans (FR.setI (w 23 (by decide)))).trans (FR.setI (w 24 (by decide)))).trans (FR.setI (w 25 (by decide)))).trans (FR.setI (w 26 (by decide)))).trans (FR.setI (w 27 (by decide)))).trans (FR.setL (w 28 (by decide)))).trans (FR.setI (w 29 (by decide)))).trans (FR.setI (w 30 (by decide)))).trans (FR.setI (Or.inr (Or.inl rfl)))
/-- a node in both, where there is room for it: or the fault that there is none -/
theorem PG.mk {F n : Nat} {f : Nat → Int32} {M t c cap q sel : Nat} {ma : Bool} {i z s fi : Nat} {cs : CS} {rs : RS} {k bg mt pt k' a b d : Int32} (h : PG n f M t c cap q sel ma i z s cs rs) (hsi : s < i) (hf : fi ≤ s) : (∃ cs' rs', c_X9_complete F cs t k (nI fi) bg mt pt = some (cs', nI s) ∧ m_make F rs k' a b d bg mt = some (rs', nI s) ∧ PG n f M t c cap q sel ma i z (s + 1) cs' rs' ∧ (∀ x, x ≠ s → VW c cs' rs' x = VW c cs rs x) ∧ VW c cs' rs' s = ((k, nI fi, pt, bg, kB cs 69 c s, -1, -1), (k', a, b, d, 0, 0, bg, -1, 0)) ∧ kB cs' 69 c = kB cs 69 c ∧ FO (PX t c q) cs cs' ∧ FR eR rs rs' ∧ rs'.1 74 = rs.1 74 ∧ cs' = mkC cs c s fi k bg pt ∧ rs' = mkR rs s k' a b d bg) ∨ (∃ cs' rs', c_X9_complete F cs t k (nI fi) bg mt pt = some (cs', -1) ∧ m_make F rs k' a b d bg mt = some (rs', 0) ∧ PB t c cs' rs' ∧ FO (PX t c q) cs cs' ∧ FR eR rs rs') := by
  have h1 := h.im
  have h2 := h.x.mn
  have h3 := h.x.n2
  have h4 := h.s2
  have ho := h.h.o
  have hcap : cap ≤ 120 := by rcases h.cp with y | y <;> omega
  unfold c_X9_complete c_X9_complete_b27 c_X9_complete_b50
  rw [gI_ok ho, ob_s, if_pos h.f0, gR_ok ho, ob_s, h.h.rc, ob_s, gI_ok h.h.oc, ob_s, h.cn]
  by_cases y : s < 120
  · have hs : s < cap := by rcases h.cp with w | w <;> omega
    have w : FO (PX t c q) cs (mkC cs c s fi k bg pt) := mkC_fo
    have g : FR eR rs (mkR rs s k' a b d bg) := mkR_fr
    refine Or.inl ⟨mkC cs c s fi k bg pt, mkR rs s k' a b d bg, ?_, mkR_ok h.g1 h.rn y, ⟨h.h.fo w, h.x.fo w g, ?_, ?_, ?_, mk64, h.g1, h.ri, h.rz, rfl, h1, by omega, by omega, h.z2, h.cp, h.ca.fo w, ?_, h.rm, fun u => ?_⟩, fun x hx => mk_o hx, mk_s, mk69, w, g, rfl, rfl, rfl⟩
    · rw [if_pos (show nI s < 120 from nI_lt (b := 120) y (by decide)), ob_s, if_pos h.f0, ob_s, ob_s, ckE_ok h.h.oc, ob_s, add_ok h.h.oc h.ca h.cn hs hcap hf, ob_s]
      rfl
    · rw [mkI (by decide)]; exact h.f0
    · rw [mkI (by decide)]; exact h.ci
    · rw [mkI (by decide)]; exact h.cz
    · rw [mkI (by decide)]; exact h.cm
    · have ag := h.ag u
      obtain ⟨k0, k1, k2, k3, k4⟩ := ag.k
      exact ⟨ag.rq, by rw [w.e]; exact ag.oq, by rw [w.e]; exact ag.e, ag.p, ag.l, ag.rs', ag.sl, k0, k1, by rw [mkI (by decide)]; exact k2, k3, k4.1, (fun y => by
        obtain ⟨x, x1, x2, x3⟩ := k4.2.1 y
        refine ⟨x, by omega, ?_, ?_, x3.2⟩
        · simp only [mkC, kA_sA, kA_sB, kA_sI, u2, Nat.reduceEqDiff, false_and, if_false]
          exact x2
        · rw [mk66, pk_un (by omega)]
          exact x3.1), fun j hj => by
        obtain ⟨x, x1, x2, x3⟩ := k4.2.2 j hj
        refine ⟨x, by omega, ?_, ?_⟩
        · simp only [mkC, kA_sA, kA_sB, kA_sI, u2, Nat.reduceEqDiff, false_and, if_false]
          exact x2
        · rw [mk65, pk_un (by omega)]
          exact x3⟩
  · have e : s = 120 := by omega
    subst e
    have hb := h.bad (a := 7) (b := mt) (by decide)
    have w : FO (PX t c q) cs (sI (sI cs 320 t 7) 321 t mt) := (FO.sI (Or.inl ⟨by decide, rfl⟩)).trans (FO.sI (Or.inl ⟨by decide, rfl⟩))
    have g : FR eR rs (setF (setF (setF rs 21 0) 19 7) 20 mt) := ((FR.setF (Or.inl (by decide))).trans (FR.setF (Or.inl (by decide)))).trans (FR.setF (Or.inl (by decide)))
    refine Or.inr ⟨_, _, ?_, ?_, hb, w, g⟩
    · rw [if_neg (show ¬ nI 120 < 120 by decide), ckE_ok ho, ob_s, ref_ok h.h h.f0, ob_s, gI_ok hb.s.h.o, ob_s, if_neg hb.s.f]
    · unfold m_make
      rw [if_neg (by rw [h.g1]; decide), h.rn, if_pos (show nI 120 = 120 by decide), tel_ok h.g1, ob_s]

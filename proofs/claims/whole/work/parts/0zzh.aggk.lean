/-! an aggregate's node and its note -/
theorem cpl_ok {F t c cap s fi : Nat} {cs : CS} {k bg mt pt : Int32} (h : SH t c cs) (h0 : kI cs 320 t = 0) (hn : kI cs 64 c = nI s) (ha : CA c cap cs) (hs : s < cap) (hc : cap ≤ 120) (hf : fi ≤ s) : c_X9_complete F cs t k (nI fi) bg mt pt = some (mkC cs c s fi k bg pt, nI s) := by
  unfold c_X9_complete c_X9_complete_b27 c_X9_complete_b50
  rw [gI_ok h.o, ob_s, if_pos h0, gR_ok h.o, ob_s, h.rc, ob_s, gI_ok h.oc, ob_s, hn, if_pos (show nI s < 120 from nI_lt (b := 120) (by omega) (by decide)), ob_s, if_pos h0, ob_s, ob_s, ckE_ok h.oc, ob_s, add_ok h.oc ha hn hs hc hf, ob_s]
  rfl
theorem cpl_full {F n : Nat} {f : Nat → Int32} {M t c i : Nat} {cs : CS} {rs : RS} {k fi bg mt pt : Int32} (h : JT n f M t c i cs rs) (hn : kI cs 64 c = nI 120) : c_X9_complete F cs t k fi bg mt pt = some (sI (sI cs 320 t 7) 321 t mt, -1) := by
  have hb := h.bad (a := 7) (b := mt) (by decide)
  unfold c_X9_complete c_X9_complete_b27 c_X9_complete_b50
  rw [gI_ok h.h.o, ob_s, if_pos h.f0, gR_ok h.h.o, ob_s, h.h.rc, ob_s, gI_ok h.h.oc, ob_s, hn, if_neg (show ¬ nI 120 < 120 by decide), ckE_ok h.h.o, ob_s, ref_ok h.h h.f0, ob_s, gI_ok hb.s.h.o, ob_s, if_neg hb.s.f]
def ntC (cs : CS) (c q s s1 k : Nat) : CS := if s < s1 then sA (sI (sA cs 202 q k (nI s1)) 203 q (nI (k + 1))) 71 c s (nI s1) else sI (sA cs 202 q k (nI s1)) 203 q (nI (k + 1))
theorem note_ok {F t c cap q s s1 k j : Nat} {cs : CS} (h : SH t c cs) (ha : CA c cap cs) (hn : kI cs 64 c = nI (s1 + 1)) (hs : s1 < cap) (hc : cap ≤ 120) (hss : s ≤ s1) (oq : (6, q) ∈ kE cs) (e : (234, q) ∈ kE cs) (p : kP cs 202 q = some j) (l : kL cs 202 q = 12) (hk : kI cs 203 q = nI k) (k12 : k < 12) : c_X9_noteAggregate F cs t q (nI s1) (nI s) = some (ntC cs c q s s1 k) := by
  have nz : ¬ (1 : Int32) = 0 := by decide
  obtain ⟨j71, p71⟩ := ha.p71
  obtain ⟨c1, h1⟩ : ∃ z, z = sA cs 202 q k (nI s1) := ⟨_, rfl⟩
  obtain ⟨c2, h2⟩ : ∃ z, z = sI c1 203 q (nI (k + 1)) := ⟨_, rfl⟩
  have E1 : kE c1 = kE cs := by rw [h1]; rfl
  have I1 : kI c1 = kI cs := by rw [h1]; rfl
  have E2 : kE c2 = kE cs := by rw [h2, h1]; rfl
  have R2 : kR c2 = kR cs := by rw [h2, h1]; rfl
  have P2 : kP c2 = kP cs := by rw [h2, h1]; rfl
  have L2 : kL c2 = kL cs := by rw [h2, h1]; rfl
  have n2 : kI c2 64 c = nI (s1 + 1) := by
    rw [h2]
    show u2 (kI c1) 203 q (nI (k + 1)) 64 c = _
    rw [u2_n (fun y => absurd y.1 (by decide)), I1]
    exact hn
  have ca2 : CA c cap c2 := by
    unfold CA at ha ⊢
    rw [E2, P2, L2]
    exact ha
  unfold c_X9_noteAggregate c_X9_noteAggregate_b70
  rw [gR_ok h.o, ob_s, h.rc, ob_s, ckE_ok h.oc, ob_s, has_in h.oc ha hn (by omega) (by omega) hc, ob_s, if_neg nz, gI_ok oq, ob_s, gA_ok oq, p, ob_s, lnA_n e p, ob_s, l, hk, if_pos (nI_lt k12 (by decide)), ob_s, ob_s, wA_n e p (by rw [l]; exact k12) (by rw [l]; decide), ob_s, ← h1,
    gI_ok (by rw [E1]; exact oq), ob_s, I1, hk, nI_1, pI_ok (by rw [E1]; exact oq), ob_s, ← h2,
    gR_ok (by rw [E2]; exact h.o), ob_s, R2, h.rc, ob_s, ckE_ok (by rw [E2]; exact h.oc), ob_s, has_in (by rw [E2]; exact h.oc) ca2 n2 (by omega) (by omega) hc, ob_s, if_neg nz]
  unfold ntC
  rw [← h1, ← h2]
  by_cases y : s < s1
  · rw [if_pos y, if_neg (nI_ge y (by omega)), ob_s, ob_s, gA_ok (by rw [E2]; exact h.oc), P2, p71, ob_s, wA_n (by rw [E2]; exact ha.e71) (by rw [P2]; exact p71) (by rw [L2, ha.l71]; omega) (by rw [L2, ha.l71]; omega), ob_s]
  · rw [if_neg y, if_pos (nI_le (by omega) (by omega))]

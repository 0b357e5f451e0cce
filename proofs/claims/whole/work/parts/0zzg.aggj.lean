/-! both at the same token, no fault: the least that words and signs ask -/
def JT (n : Nat) (f : Nat → Int32) (M t c i : Nat) (cs : CS) (rs : RS) : Prop := (SH t c cs) ∧ (TX n f M cs rs) ∧ (kI cs 320 t = 0) ∧ (kI cs 328 t = nI i) ∧ (rs.1 21 = 1) ∧ (rs.1 18 = nI i) ∧ (i ≤ M)
theorem JT.h {n : Nat} {f : Nat → Int32} {M t c i : Nat} {cs : CS} {rs : RS} (h : JT n f M t c i cs rs) : SH t c cs := h.1
theorem JT.x {n : Nat} {f : Nat → Int32} {M t c i : Nat} {cs : CS} {rs : RS} (h : JT n f M t c i cs rs) : TX n f M cs rs := h.2.1
theorem JT.f0 {n : Nat} {f : Nat → Int32} {M t c i : Nat} {cs : CS} {rs : RS} (h : JT n f M t c i cs rs) : kI cs 320 t = 0 := h.2.2.1
theorem JT.ci {n : Nat} {f : Nat → Int32} {M t c i : Nat} {cs : CS} {rs : RS} (h : JT n f M t c i cs rs) : kI cs 328 t = nI i := h.2.2.2.1
theorem JT.g1 {n : Nat} {f : Nat → Int32} {M t c i : Nat} {cs : CS} {rs : RS} (h : JT n f M t c i cs rs) : rs.1 21 = 1 := h.2.2.2.2.1
theorem JT.ri {n : Nat} {f : Nat → Int32} {M t c i : Nat} {cs : CS} {rs : RS} (h : JT n f M t c i cs rs) : rs.1 18 = nI i := h.2.2.2.2.2.1
theorem JT.im {n : Nat} {f : Nat → Int32} {M t c i : Nat} {cs : CS} {rs : RS} (h : JT n f M t c i cs rs) : i ≤ M := h.2.2.2.2.2.2
theorem PG.jt {n : Nat} {f : Nat → Int32} {M t c cap q sel : Nat} {ma : Bool} {i z s : Nat} {cs : CS} {rs : RS} (h : PG n f M t c cap q sel ma i z s cs rs) : JT n f M t c i cs rs := ⟨h.h, h.x, h.f0, h.ci, h.g1, h.ri, h.im⟩
theorem JT.i2 {n : Nat} {f : Nat → Int32} {M t c i : Nat} {cs : CS} {rs : RS} (h : JT n f M t c i cs rs) : i < 2001 := by
  have := h.im
  have := h.x.mn
  have := h.x.n2
  omega
theorem JT.bad {n : Nat} {f : Nat → Int32} {M t c i : Nat} {cs : CS} {rs : RS} {a b : Int32} (h : JT n f M t c i cs rs) (ha : a ≠ 0) : PB t c (sI (sI cs 320 t a) 321 t b) (setF (setF (setF rs 21 0) 19 a) 20 b) := by
  have w : FO (PX t c 0) cs (sI (sI cs 320 t a) 321 t b) := (FO.sI (Or.inl ⟨by decide, rfl⟩)).trans (FO.sI (Or.inl ⟨by decide, rfl⟩))
  have e : kI (sI (sI cs 320 t a) 321 t b) 320 t = a := by
    show u2 (u2 (kI cs) 320 t a) 321 t b 320 t = a
    rw [u2_n (fun q => absurd q.1 (by decide)), u2_s]
  refine ⟨⟨h.h.fo w, by rw [e]; exact ha, i, ?_, h.i2⟩, ⟨rfl, i, h.ri, h.i2⟩, e.trans rfl, u2_s⟩
  show u2 (u2 (kI cs) 320 t a) 321 t b 328 t = nI i
  rw [u2_n (fun q => absurd q.1 (by decide)), u2_n (fun q => absurd q.1 (by decide))]
  exact h.ci
theorem JT.ch {n : Nat} {f : Nat → Int32} {M t c i k : Nat} {cs : CS} {rs : RS} {v : Int32} (h : JT n f M t c i cs rs) (hk : (k = 320 ∨ k = 321 ∨ k = 328 ∨ k = 329 ∨ k = 331) ∧ k ≠ 320 ∧ k ≠ 328) : JT n f M t c i (sI cs k t v) rs := by
  have w : FO (PX t c 0) cs (sI cs k t v) := FO.sI (Or.inl ⟨hk.1, rfl⟩)
  have e : ∀ x, x ≠ k → kI (sI cs k t v) x t = kI cs x t := fun x hx => by
    show u2 (kI cs) k t v x t = _
    rw [u2_n (fun y => hx y.1)]
  exact ⟨h.h.fo w, h.x.fo w (FR.refl rs), by rw [e 320 (by omega)]; exact h.f0, by rw [e 328 (by omega)]; exact h.ci, h.g1, h.ri, h.im⟩
theorem JT.rh {n : Nat} {f : Nat → Int32} {M t c i k : Nat} {cs : CS} {rs : RS} {v : Int32} (h : JT n f M t c i cs rs) (hk : eR k ∧ k ≠ 18 ∧ k ≠ 21) : JT n f M t c i cs (setF rs k v) := by
  have e : ∀ x, x ≠ k → (setF rs k v).1 x = rs.1 x := fun x hx => pk_un hx
  exact ⟨h.h, h.x.fo (FO.refl (W := PX t c 0) cs) (FR.setF hk.1), h.f0, h.ci, by rw [e 21 (by omega)]; exact h.g1, by rw [e 18 (by omega)]; exact h.ri, h.im⟩
theorem JT.ra {n : Nat} {f : Nat → Int32} {M t c i : Nat} {cs : CS} {rs rs' : RS} (h : JT n f M t c i cs rs) (hr : FR eR rs rs') (h1 : rs'.1 = rs.1) : JT n f M t c i cs rs' := ⟨h.h, h.x.fo (FO.refl (W := PX t c 0) cs) hr, h.f0, h.ci, by rw [h1]; exact h.g1, by rw [h1]; exact h.ri, h.im⟩
theorem JT.next {n : Nat} {f : Nat → Int32} {M t c i : Nat} {cs : CS} {rs : RS} (h : JT n f M t c i cs rs) (hi : i < M) : JT n f M t c (i + 1) (sI cs 328 t (nI (i + 1))) (setF rs 18 (nI (i + 1))) := by
  have w : FO (PX t c 0) cs (sI cs 328 t (nI (i + 1))) := FO.sI (Or.inl ⟨by decide, rfl⟩)
  have g : FR eR rs (setF rs 18 (nI (i + 1))) := FR.setF (Or.inl (by omega))
  refine ⟨h.h.fo w, h.x.fo w g, ?_, u2_s, h.g1, rfl, hi⟩
  show u2 (kI cs) 328 t (nI (i + 1)) 320 t = 0
  rw [u2_n (fun q => absurd q.1 (by decide))]; exact h.f0
theorem JT.tok {F n : Nat} {f : Nat → Int32} {M t c i : Nat} {cs : CS} {rs : RS} (h : JT n f M t c i cs rs) : ∃ p κ, TK n f i p κ cs rs ∧ (i < M → κ < 56) ∧ (i = M → 56 ≤ κ) ∧ c_X9_kind F cs t = some (nI κ) ∧ κ ≤ 57 ∧ rs.2.2.1 15 i = kA cs 353 9 i := by
  obtain ⟨p, κ, hk, hk1, hk2⟩ := h.x.tk i h.im
  exact ⟨p, κ, hk, hk1, hk2, knd_ok h.h h.f0 h.ci h.i2 hk, hk.kl, by rw [hk.pr, hk.pc]⟩
theorem JT.needS {F n : Nat} {f : Nat → Int32} {M t c q i k : Nat} {cs : CS} {rs : RS} (h : JT n f M t c i cs rs) (hk1 : 41 ≤ k) (hk2 : k < 56) : (i < M ∧ c_X9_expect F cs t (nI k) = some (sI cs 328 t (nI (i + 1))) ∧ m_needSign F rs (st (nI k)) = some (setF rs 18 (nI (i + 1)))) ∨ (∃ cs' rs', c_X9_expect F cs t (nI k) = some cs' ∧ m_needSign F rs (st (nI k)) = some rs' ∧ PB t c cs' rs' ∧ FO (PX t c q) cs cs' ∧ FR eR rs rs') := by
  obtain ⟨p, κ, hk, hka, hkb, kd, hkl, pr⟩ := h.tok (F := F)
  have hw := ig_ok (F := F) (q := k) h.x h.im hk h.g1 h.ri hk1 hk2
  have him := h.im
  by_cases y : κ = k
  · rw [if_pos y] at hw
    have hiM : i < M := by
      rcases Nat.lt_or_ge i M with w | w
      · exact w
      · have := hkb (by omega); omega
    rw [y] at kd
    exact Or.inl ⟨hiM, exp_y h.h h.ci kd, ng_y h.ri hw⟩
  · rw [if_neg y] at hw
    have ne : nI κ ≠ nI k := fun w => y ((nI_eq (by omega) (by omega)).mp w)
    refine Or.inr ⟨_, _, exp_n h.h h.f0 h.ci h.i2 kd ne, ng_n h.ri h.i2 h.g1 hw, ?_, ?_, ?_⟩
    · rw [pr]
      exact h.bad (by decide)
    · exact (FO.sI (Or.inl ⟨by decide, rfl⟩)).trans (FO.sI (Or.inl ⟨by decide, rfl⟩))
    · exact ((FR.setF (by unfold eR; omega)).trans (FR.setF (by unfold eR; omega))).trans (FR.setF (by unfold eR; omega))
theorem JT.mayS {F n : Nat} {f : Nat → Int32} {M t c i k : Nat} {cs : CS} {rs : RS} (h : JT n f M t c i cs rs) (hk1 : 41 ≤ k) (hk2 : k < 56) : (i < M ∧ c_X9_accept F cs t (nI k) = some (sI cs 328 t (nI (i + 1)), 1) ∧ m_takeSign F rs (st (nI k)) = some (setF rs 18 (nI (i + 1)), 1)) ∨ (c_X9_accept F cs t (nI k) = some (cs, 0) ∧ m_takeSign F rs (st (nI k)) = some (rs, 0)) := by
  obtain ⟨p, κ, hk, hka, hkb, kd, hkl, pr⟩ := h.tok (F := F)
  have hw := ig_ok (F := F) (q := k) h.x h.im hk h.g1 h.ri hk1 hk2
  have him := h.im
  by_cases y : κ = k
  · rw [if_pos y] at hw
    have hiM : i < M := by
      rcases Nat.lt_or_ge i M with w | w
      · exact w
      · have := hkb (by omega); omega
    rw [y] at kd
    exact Or.inl ⟨hiM, acc_y h.h h.ci kd, tg_y h.ri hw⟩
  · rw [if_neg y] at hw
    have ne : nI κ ≠ nI k := fun w => y ((nI_eq (by omega) (by omega)).mp w)
    exact Or.inr ⟨acc_n h.h h.ci kd ne, tg_n h.ri hw⟩
/-- which aggregate it is -/
theorem mag1_ok {F n : Nat} {f : Nat → Int32} {M t c i p κ : Nat} {T' : TG_expr} {cs : CS} {rs : RS} {u : Int32} (hF : 10000 ≤ F) (h : JT n f M t c i cs rs) (hk : TK n f i p κ cs rs) (hκ : κ = 32 ∨ κ = 33 ∨ κ = 34 ∨ κ = 35) : ∃ K' : Int32, ((κ = 32 ∧ K' = 21) ∨ (κ = 33 ∧ K' = 22) ∨ (κ = 34 ∧ K' = 23) ∨ (κ = 35 ∧ K' = 24)) ∧ mag1 F T' u rs = m_aggregate_b129 F T' rs u K' := by
  have w5 := iw_ok (F := F) (x := 5) hF h.x h.im hk h.g1 h.ri (by decide) (by decide)
  have w6 := iw_ok (F := F) (x := 6) hF h.x h.im hk h.g1 h.ri (by decide) (by decide)
  have w7 := iw_ok (F := F) (x := 7) hF h.x h.im hk h.g1 h.ri (by decide) (by decide)
  rw [show swK 5 = 32 by decide] at w5
  rw [show swK 6 = 33 by decide] at w6
  rw [show swK 7 = 34 by decide] at w7
  have nz : ¬ (1 : Int32) = 0 := by decide
  unfold mag1
  rcases hκ with y | y | y | y
  · rw [if_pos y] at w5
    exact ⟨21, Or.inl ⟨y, rfl⟩, by rw [w5, ob_s, if_neg nz]⟩
  · rw [if_neg (by omega)] at w5
    rw [if_pos y] at w6
    exact ⟨22, Or.inr (Or.inl ⟨y, rfl⟩), by rw [w5, ob_s, if_pos rfl, w6, ob_s, if_neg nz]⟩
  · rw [if_neg (by omega)] at w5
    rw [if_neg (by omega)] at w6
    rw [if_pos y] at w7
    exact ⟨23, Or.inr (Or.inr (Or.inl ⟨y, rfl⟩)), by rw [w5, ob_s, if_pos rfl, w6, ob_s, if_pos rfl, w7, ob_s, if_neg nz]⟩
  · rw [if_neg (by omega)] at w5
    rw [if_neg (by omega)] at w6
    rw [if_neg (by omega)] at w7
    exact ⟨24, Or.inr (Or.inr (Or.inr ⟨y, rfl⟩)), by rw [w5, ob_s, if_pos rfl, w6, ob_s, if_pos rfl, w7, ob_s, if_pos rfl]⟩

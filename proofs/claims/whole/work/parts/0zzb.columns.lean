/-! columns: their tokens -/
theorem PG.nm {n : Nat} {f : Nat → Int32} {M t c cap q sel : Nat} {ma : Bool} {F i z s : Nat} {cs : CS} {rs : RS} (hF : 10000 ≤ F) (h : PG n f M t c cap q sel ma i z s cs rs) : (i < M ∧ c_X9_expect F cs t 39 = some (sI cs 328 t (nI (i + 1))) ∧ m_name F rs = some (setF rs 18 (nI (i + 1)), nI i) ∧ ∃ p, TK n f i p 39 cs rs) ∨ (∃ cs' rs', c_X9_expect F cs t 39 = some cs' ∧ m_name F rs = some (rs', nI i) ∧ PB t c cs' rs' ∧ SQ t c q sel ma cs rs cs' rs') := by
  obtain ⟨p, κ, hk, hka, hkb, kd, hkl, pr⟩ := h.tok (F := F)
  have hw := ina_ok (F := F) hF h.x h.im hk h.g1 h.ri
  have him := h.im
  by_cases y : κ = 39
  · rw [if_pos y] at hw
    have hiM : i < M := by
      rcases Nat.lt_or_ge i M with w | w
      · exact w
      · have := hkb (by omega); omega
    rw [y, show nI 39 = 39 by decide] at kd
    exact Or.inl ⟨hiM, exp_y h.h h.ci kd, na_y h.ri hw, p, y ▸ hk⟩
  · rw [if_neg y] at hw
    have ne : nI κ ≠ 39 := fun w => y ((nI_eq (b := 39) (by omega) (by decide)).mp w)
    refine Or.inr ⟨_, _, exp_n h.h h.f0 h.ci h.i2 kd ne, na_n h.ri h.i2 h.g1 hw, ?_, ?_⟩
    · rw [pr]
      exact h.bad (by decide)
    · exact ((SQ.text (by decide)).trans (SQ.text (by decide))).trans (((SQ.ref (by unfold eR; omega)).trans (SQ.ref (by unfold eR; omega))).trans (SQ.ref (by unfold eR; omega)))
theorem sim_col {n : Nat} {f : Nat → Int32} {M t c cap q sel : Nat} {ma : Bool} {F i z s p κ : Nat} {cs : CS} {rs : RS} (hF : 10000 ≤ F) (h : PG n f M t c cap q sel ma i z s cs rs) (hk : TK n f i p κ cs rs) (hiM : i < M) (hκ : κ = 38 ∨ κ = 39) : ∃ cs' rs' a, c_X9_readColumn F cs t = some cs' ∧ m_columnOf F rs (kA cs 353 9 i) = some (rs', a) ∧ EP n f M t c cap q sel ma i z s cs rs cs' (setF rs' 74 (kA cs 353 9 i)) a := by
  have ho := h.h.o
  have hi2 := h.i2
  have hsi := h.si
  have hM : M < 2147483648 := by have := h.x.mn; have := h.x.n2; omega
  have hn := h.next hiM
  have kd := knd_ok (F := F) h.h h.f0 h.ci hi2 hk
  have hw := iw_ok (F := F) (x := 14) hF h.x h.im hk h.g1 h.ri (by decide) (by decide)
  rw [show swK 14 = 38 by decide] at hw
  have sqA : SQ t c q sel ma cs rs (sI cs 328 t (nI (i + 1))) (setF rs 18 (nI (i + 1))) := (SQ.text (by decide)).trans (SQ.ref (by unfold eR; omega))
  unfold c_X9_readColumn c_X9_readColumn_b19
  rw [ckE_ok ho, ob_s, her_ok h.h h.ci hi2, ob_s, ob_s, kd, ob_s]
  rcases hκ with y | y
  · rw [if_pos y] at hw
    obtain ⟨cs', rs', a, r1, r2, r3⟩ := col_top (F := F) (i := i) (v := 0) (o := -1) (tk := nI i) (hu := -1) hn (by omega) hsi sqA rfl hM (Or.inl ⟨rfl, rfl, rfl, i, rfl, h.im, rfl, p, κ, hk, Or.inr ⟨y, rfl⟩⟩)
    refine ⟨cs', rs', a, ?_, ?_, r3⟩
    · rw [if_pos (show nI κ = 38 by rw [y]; decide), if_neg (by decide)]
      unfold c_X9_readColumn_b32
      rw [gI_ok ho, ob_s, h.ci, nI_1, pI_ok ho, ob_s, if_neg (by decide)]
      exact r1
    · unfold m_columnOf
      rw [tw_y h.ri hw, ob_s, if_neg (show ¬ (1 : Int32) = 0 by decide), h.ri]
      exact r2
  · have hw0 : m_isWord F rs 14 = some 0 := by rw [hw, if_neg (by omega)]
    have hna := ina_ok (F := F) hF h.x h.im hk h.g1 h.ri
    rw [if_pos y] at hna
    have hk39 : TK n f i p 39 cs rs := y ▸ hk
    rw [if_neg (show ¬ nI κ = 38 by rw [y]; decide), if_pos rfl, ob_s, num_ok h.h h.ci hi2, ob_s]
    unfold c_X9_readColumn_b32 m_columnOf
    rw [gI_ok ho, ob_s, h.ci, nI_1, pI_ok ho, ob_s, if_pos rfl, ckE_ok hn.h.o, ob_s, tw_n h.ri hw0, ob_s, if_pos rfl, na_y h.ri hna, ob_s]
    obtain ⟨v, hv⟩ : ∃ v, v = kB cs 354 9 i := ⟨_, rfl⟩
    rw [← hv]
    have ms := hn.mayS (F := F) (k := 44) (by decide) (by decide)
    rw [show nI 44 = 44 by decide, show st 44 = 46 by decide] at ms
    rcases ms with ⟨w1, w2, w3⟩ | ⟨w2, w3⟩
    · rw [w2, ob_s, w3, ob_s, if_neg (show ¬ (1 : Int32) = 0 by decide), if_neg (show ¬ (1 : Int32) = 0 by decide)]
      have hB := hn.next w1
      obtain ⟨csB, hcsB⟩ : ∃ x, x = sI (sI cs 328 t (nI (i + 1))) 328 t (nI (i + 1 + 1)) := ⟨_, rfl⟩
      obtain ⟨rsB, hrsB⟩ : ∃ x, x = setF (setF rs 18 (nI (i + 1))) 18 (nI (i + 1 + 1)) := ⟨_, rfl⟩
      have sqB : SQ t c q sel ma cs rs csB rsB := by
        rw [hcsB, hrsB]
        exact sqA.trans ((SQ.text (by decide)).trans (SQ.ref (by unfold eR; omega)))
      have VB : VW c csB rsB = VW c cs rs := by rw [hcsB, hrsB]; rfl
      show ∃ cs' rs' a, (Option.bind (ckE (sI (sI cs 328 t (nI (i + 1))) 328 t (nI (i + 1 + 1))) 10 t) fun _ => Option.bind (c_X9_kind F (sI (sI cs 328 t (nI (i + 1))) 328 t (nI (i + 1 + 1))) t) fun v_30 => if v_30 = 38 then (c_X9_readColumn_b81 F (sI (sI cs 328 t (nI (i + 1))) 328 t (nI (i + 1 + 1))) t (kA cs 353 9 i) v 0) else (Option.bind (ckE (sI (sI cs 328 t (nI (i + 1))) 328 t (nI (i + 1 + 1))) 10 t) fun _ => Option.bind (c_X9_number F (sI (sI cs 328 t (nI (i + 1))) 328 t (nI (i + 1 + 1))) t) fun v_33 => c_X9_readColumn_b81 F (sI (sI cs 328 t (nI (i + 1))) 328 t (nI (i + 1 + 1))) t (kA cs 353 9 i) v v_33)) = some cs' ∧ (Option.bind (m_takeWord F (setF (setF rs 18 (nI (i + 1))) 18 (nI (i + 1 + 1))) 14) fun z_9 => if z_9.2 = 0 then (Option.bind (m_name F z_9.1) fun z_11 => m_columnOf_b56 F z_11.1 (kA cs 353 9 i) (nI i) z_11.2) else (m_columnOf_b56 F z_9.1 (kA cs 353 9 i) (nI i) ((setF (setF rs 18 (nI (i + 1))) 18 (nI (i + 1 + 1))).1 18))) = some (rs', a) ∧ _
      rw [← hcsB, ← hrsB]
      rw [← hcsB, ← hrsB] at hB
      obtain ⟨p2, κ2, hk2, hka2, hkb2, kd2, hkl2, pr2⟩ := hB.tok (F := F)
      have hw2 := iw_ok (F := F) (x := 14) hF hB.x hB.im hk2 hB.g1 hB.ri (by decide) (by decide)
      rw [show swK 14 = 38 by decide] at hw2
      have nm9 : NM9 n f i v cs rs := ⟨p, hk39, hv⟩
      have back : TK n f (i + 1 + 1) p2 κ2 cs rs := by
        rw [hcsB, hrsB] at hk2
        exact hk2
      have num2 : kB csB 354 9 (i + 1 + 1) = kB cs 354 9 (i + 1 + 1) := by rw [hcsB]; rfl
      have him2 := hB.im
      rw [ckE_ok hB.h.o, ob_s, kd2, ob_s]
      by_cases y2 : κ2 = 38
      · have hiM2 : i + 1 + 1 < M := by
          rcases Nat.lt_or_ge (i + 1 + 1) M with w | w
          · exact w
          · have := hkb2 (by omega); omega
        have hC := hB.next hiM2
        have z38 : nI κ2 = 38 := by rw [y2]; decide
        rw [z38] at kd2
        rw [if_pos y2] at hw2
        obtain ⟨cs', rs', a, r1, r2, r3⟩ := col_top (F := F) (i := i) (v := 0) (o := v) (tk := nI i) (hu := nI (i + 1 + 1)) hC (by omega) hsi (sqB.trans ((SQ.text (by decide)).trans (SQ.ref (by unfold eR; omega)))) (by rw [← VB]; rfl) hM (Or.inr ⟨i, i + 1 + 1, rfl, h.im, him2, rfl, rfl, by omega, nm9, p2, κ2, back, Or.inr ⟨y2, rfl⟩⟩)
        refine ⟨cs', rs', a, ?_, ?_, r3⟩
        · rw [if_pos z38]
          unfold c_X9_readColumn_b81
          rw [ckE_ok hB.h.o, ob_s, acc_y hB.h hB.ci kd2, ob_s, if_neg (show ¬ (1 : Int32) = 0 by decide)]
          exact r1
        · rw [tw_y hB.ri hw2, ob_s, if_neg (show ¬ (1 : Int32) = 0 by decide), hB.ri]
          exact r2
      · have z38 : ¬ nI κ2 = 38 := fun w => y2 ((nI_eq (b := 38) (by omega) (by decide)).mp w)
        rw [if_neg y2] at hw2
        rw [if_neg z38, ob_s, num_ok hB.h hB.ci hB.i2, ob_s, num2, tw_n hB.ri hw2, ob_s, if_pos rfl]
        unfold c_X9_readColumn_b81
        rw [ckE_ok hB.h.o, ob_s, acc_n hB.h hB.ci kd2 z38, ob_s, if_pos rfl]
        show ∃ cs' rs' a, (Option.bind (ckE csB 10 t) fun _ => Option.bind (c_X9_expect F csB t 39) fun cs_22 => c_X9_readColumn_b97 F cs_22 t (kA cs 353 9 i) (kB cs 354 9 (i + 1 + 1)) v) = some cs' ∧ (Option.bind (m_name F rsB) fun z_11 => m_columnOf_b56 F z_11.1 (kA cs 353 9 i) (nI i) z_11.2) = some (rs', a) ∧ _
        rw [ckE_ok hB.h.o, ob_s]
        rcases hB.nm (F := F) hF with ⟨u1, u2, u3, p3, u4⟩ | ⟨csF, rsF, u2, u3, pb, sqF⟩
        · rw [u2, ob_s, u3, ob_s]
          have hC := hB.next u1
          have u5 : TK n f (i + 1 + 1) p3 39 cs rs := by
            rw [hcsB, hrsB] at u4
            exact u4
          exact col_top (F := F) (i := i) hC (by omega) hsi (sqB.trans ((SQ.text (by decide)).trans (SQ.ref (by unfold eR; omega)))) (by rw [← VB]; rfl) hM (Or.inr ⟨i, i + 1 + 1, rfl, h.im, him2, rfl, rfl, by omega, nm9, p3, 39, u5, Or.inl ⟨rfl, rfl⟩⟩)
        · rw [u2, ob_s, u3, ob_s]
          obtain ⟨g1, g2⟩ := col_f (F := F) (v := kB cs 354 9 (i + 1 + 1)) (o := v) (bg := kA cs 353 9 i) (tk := nI i) (hu := nI (i + 1 + 1)) pb
          exact ⟨csF, _, 0, g1, g2, Or.inr ⟨pb.r30.r27.s74, (sqB.trans sqF).1, (((sqB.trans sqF).2.1.trans (FR.setI (by unfold eR; omega))).trans (FR.setI (by unfold eR; omega))).trans (FR.setF (by unfold eR; omega))⟩⟩
    · rw [w2, ob_s, w3, ob_s, if_pos rfl, if_pos rfl]
      exact col_top (F := F) (i := i) hn (by omega) hsi sqA rfl hM (Or.inl ⟨rfl, rfl, rfl, i, rfl, h.im, rfl, p, 39, hk39, Or.inl ⟨rfl, hv⟩⟩)

/-! aggregates: behind a fault; the mark at the first node -/
theorem TR.skip {V W : VT} {q : Nat} : ∀ (d R a e : Nat), R < q → (∀ x, a < x → x ≤ e → W x = V x) → W a = (((V a).1.1, (V a).1.2.1, (V a).1.2.2.1, (V a).1.2.2.2.1, (V a).1.2.2.2.2.1, nI q, (V a).1.2.2.2.2.2.2), (V a).2) → (∀ x, a ≤ x → x ≤ e → ¬ AGK V x) → TR V d R a e → TR W d R a e
  | 0, _, _, _, _, _, _, _, x => x.elim
  | d + 1, R, a, e, hR, hV, hW, hA, x => by
    obtain ⟨h1, h2, h3, h4⟩ := x
    by_cases hae : a = e
    · subst hae
      have z : (vs V a = -1 ∨ ∃ q, R < q ∧ vs V a = nI q) ∧ LEAF V a := by
        rcases h4 with ⟨y1, y2, y3⟩ | ⟨y1, y2, y3, y4⟩ | ⟨g, y1, y2, y3, y4, y5, y6, y7⟩ | ⟨g, k, y1, y2, y3, y4, y5, y6, y7, y8, y9, y10, y11, y12⟩ | ⟨m, g, r, y1, y2, y3, y4, y5, y6, y7, y8, y9, y10⟩ | ⟨y1, y2, y3, y4, y5⟩
        · exact ⟨y2, y3⟩
        · omega
        · omega
        · omega
        · omega
        · omega
      refine ⟨h1, ?_, ?_, Or.inl ⟨rfl, Or.inr ⟨q, hR, ?_⟩, ?_⟩⟩
      · unfold vf at h2 ⊢; rw [hW]; exact h2
      · unfold vb rb at h3 ⊢; rw [hW]; exact h3
      · unfold vs; rw [hW]
      · have z2 := z.2
        unfold LEAF vk rk vn rv' at z2 ⊢
        rw [hW]
        exact z2
    · have hlt : a < e := by omega
      obtain ⟨w1, w2, w3, w4, w5, w6, w7, w8, w9, w10, w11, w12, w13, w14⟩ := vk_eq (hV e hlt (Nat.le_refl _))
      refine ⟨h1, w2.trans h2, by rw [w4, w13]; exact h3, ?_⟩
      rcases h4 with ⟨y1, y2, y3⟩ | ⟨y1, y2, y3, y4⟩ | ⟨g, y1, y2, y3, y4, y5, y6, y7⟩ | ⟨g, k, y1, y2, y3, y4, y5, y6, y7, y8, y9, y10, y11, y12⟩ | ⟨m, g, r, y1, y2, y3, y4, y5, y6, y7, y8, y9, y10⟩ | ⟨y1, y2, y3, y4, y5⟩
      · omega
      · refine Or.inr (Or.inl ⟨y1, ?_, w8.trans y3, TR.skip d _ _ _ hR (fun x q1 q2 => hV x q1 (by omega)) hW (fun x q1 q2 => hA x q1 (by omega)) y4⟩)
        unfold UNA at y2 ⊢
        rw [w1, w3, w7, w11]
        exact y2
      · refine Or.inr (Or.inr (Or.inl ⟨g, y1, y2, ?_, w8.trans y4, w9.trans y5, TR.skip d _ _ _ hR (fun x q1 q2 => hV x q1 (by omega)) hW (fun x q1 q2 => hA x q1 (by omega)) y6, TR.fr d _ _ _ (fun x q1 q2 => hV x (by omega) (by omega)) y7⟩))
        unfold BIN at y3 ⊢
        rw [w1, w3, w7, w11]
        exact y3
      · exact Or.inr (Or.inr (Or.inr (Or.inl ⟨g, k, y1, y2, y3, w3.trans y4, w1.trans y5, w7.trans y6, w8.trans y7, w9.trans y8, w10.trans y9, TR.skip d _ _ _ hR (fun x q1 q2 => hV x q1 (by omega)) hW (fun x q1 q2 => hA x q1 (by omega)) y10, TR.fr d _ _ _ (fun x q1 q2 => hV x (by omega) (by omega)) y11, TR.fr d _ _ _ (fun x q1 q2 => hV x (by omega) (by omega)) y12⟩)))
      · refine Or.inr (Or.inr (Or.inr (Or.inr (Or.inl ⟨m, g, r, y1, y2, y3, y4, y5, ?_, w8.trans y7, w9.trans y8, TR.skip d _ _ _ hR (fun x q1 q2 => hV x q1 (by omega)) hW (fun x q1 q2 => hA x q1 (by omega)) y9, CH.fr (b := g) m g r (e - 1) (fun x q1 q2 => hV x (by omega) (by omega)) (fun a' r' q1 q2 z => TR.fr d R a' r' (fun x q3 q4 => hV x (by omega) (by omega)) z) (Nat.le_refl _) y4 (by omega) y10⟩))))
        unfold INN at y6 ⊢
        rw [w1, w3, w7, w11]
        exact y6
      · exact absurd y2 (hA e (by omega) (Nat.le_refl _))
theorem has_in {F c cap s x : Nat} {cs : CS} (ho : (2, c) ∈ kE cs) (ha : CA c cap cs) (hn : kI cs 64 c = nI s) (hx : x < s) (hs : s ≤ cap) (hc : cap ≤ 120) : c_X1_has F cs c (nI x) = some 1 := by
  obtain ⟨j65, p65⟩ := ha.p65
  unfold c_X1_has c_X1_has_b26
  rw [if_neg (nI_pos (by omega)), gI_ok ho, ob_s, hn, if_neg (nI_ge (by omega) (by omega)), gA_ok ho, p65, ob_s, lnA_n ha.e65 p65, ob_s, ha.l65, if_neg (nI_ge (by omega) (by omega))]
  rfl
theorem note_n {F t c q : Nat} {cs : CS} {x : Int32} (h : SH t c cs) : c_X9_noteAggregate F cs t q (-1) x = some cs := by
  unfold c_X9_noteAggregate
  rw [gR_ok h.o, ob_s, h.rc, ob_s, ckE_ok h.oc, ob_s, has_n, ob_s, if_pos rfl]
  rfl
theorem ag159_f {F t c q u : Nat} {T : TC_X9_readExpr} {cs : CS} {rs : RS} {u2 y0 y1 y2 y3 y4 : Int32} (h : PB t c cs rs) : c_X9_readAggregate_b159 F T cs t u2 u y0 y1 y2 y3 y4 t = some cs := by
  unfold c_X9_readAggregate_b159
  rw [ckE_ok h.s.h.o, ob_s, cpl_f h.s, ob_s]
  show Option.bind (ckE cs 10 t) _ = _
  rw [ckE_ok h.s.h.o, ob_s, note_n h.s.h, ob_s]
theorem ag113_f {F t c q u : Nat} {T : TC_X9_readExpr} {cs : CS} {rs : RS} {u1 u2 u3 u5 : Int32} (h : PB t c cs rs) : ∃ cs', c_X9_readAggregate_b113 F T cs t u1 u2 u3 u u5 = some cs' ∧ PB t c cs' rs ∧ FO (PX t c q) cs cs' := by
  have h1 := h.ch (k := 331) (v := 1) (by decide)
  have h2 := h1.ch (k := 329) (v := kI (sI cs 331 t 1) 329 t - 1) (by decide)
  refine ⟨_, ?_, h2, (FO.sI (Or.inl ⟨by decide, rfl⟩)).trans (FO.sI (Or.inl ⟨by decide, rfl⟩))⟩
  unfold c_X9_readAggregate_b113
  rw [pI_ok h.s.h.o, ob_s, ckE_ok h1.s.h.o, ob_s, expf h1.s (by decide), ob_s, gI_ok h1.s.h.o, ob_s, pI_ok h1.s.h.o, ob_s]
  unfold c_X9_readAggregate_b146
  by_cases y : u5 = 0
  · rw [if_pos y, if_pos y, ag159_f (q := q) h2]
  · rw [if_neg y, if_neg y, ag159_f (q := q) h2]
theorem ag100_f {F t c q u : Nat} {T : TC_X9_readExpr} {cs : CS} {rs : RS} {u1 u2 u3 : Int32} (hTf : ∀ x, FS t c x → ∃ b, T.1 x t = some (x, b)) (h : PB t c cs rs) : ∃ cs', c_X9_readAggregate_b100 F T cs t u1 u2 u3 u = some cs' ∧ PB t c cs' rs ∧ FO (PX t c q) cs cs' := by
  obtain ⟨b, hb⟩ := hTf cs h.s
  unfold c_X9_readAggregate_b100 c_X9_readAggregate_b101
  rw [if_pos rfl, ckE_ok h.s.h.o, ob_s, hb, ob_s]
  exact ag113_f h
def kag2 (F : Nat) (T : TC_X9_readExpr) (t u : Nat) (u1 u2 u3 : Int32) (cs : CS) : Option CS := Option.bind (pI cs 10 331 t 0) fun cs_23 => if u1 = 32 then (Option.bind (ckE cs_23 10 t) fun _ => Option.bind (c_X9_accept F cs_23 t 47) fun z_25 => if z_25.2 = 0 then (c_X9_readAggregate_b100 F T z_25.1 t u1 u2 u3 u) else (c_X9_readAggregate_b101 F T z_25.1 t u1 u2 u3 u 1)) else (c_X9_readAggregate_b100 F T cs_23 t u1 u2 u3 u)
def kag1 (F : Nat) (T : TC_X9_readExpr) (t u : Nat) (u1 u2 u3 : Int32) (cs : CS) : Option CS := Option.bind (ckE cs 10 t) fun _ => Option.bind (c_X9_accept F cs t u1) fun z_19 => Option.bind (ckE z_19.1 10 t) fun _ => Option.bind (c_X9_expect F z_19.1 t 41) fun cs_21 => kag2 F T t u u1 u2 u3 cs_21
theorem kag_60 {F t u : Nat} {T : TC_X9_readExpr} {u1 u2 u3 : Int32} {cs : CS} : c_X9_readAggregate_b60 F T cs t u1 u2 u3 u = Option.bind (ckE cs 10 t) fun _ => Option.bind (c_X9_deepen F cs t) fun cs_17 => kag1 F T t u u1 u2 u3 cs_17 := rfl
theorem kag2_f {F t c q u : Nat} {T : TC_X9_readExpr} {cs : CS} {rs : RS} {u1 u2 u3 : Int32} (hTf : ∀ x, FS t c x → ∃ b, T.1 x t = some (x, b)) (h : PB t c cs rs) : ∃ cs', kag2 F T t u u1 u2 u3 cs = some cs' ∧ PB t c cs' rs ∧ FO (PX t c q) cs cs' := by
  have h1 := h.ch (k := 331) (v := 0) (by decide)
  have w : FO (PX t c q) cs (sI cs 331 t 0) := FO.sI (Or.inl ⟨by decide, rfl⟩)
  unfold kag2
  rw [pI_ok h.s.h.o, ob_s]
  obtain ⟨cs', e1, e2, e3⟩ := ag100_f (F := F) (q := q) (u := u) (u1 := u1) (u2 := u2) (u3 := u3) hTf h1
  refine ⟨cs', ?_, e2, w.trans e3⟩
  by_cases y : u1 = 32
  · rw [if_pos y, ckE_ok h1.s.h.o, ob_s, acc_f h1.s (by decide), ob_s, if_pos rfl]
    exact e1
  · rw [if_neg y]
    exact e1
theorem kag1_f {F t c q u : Nat} {T : TC_X9_readExpr} {cs : CS} {rs : RS} {u1 u2 u3 : Int32} (hTf : ∀ x, FS t c x → ∃ b, T.1 x t = some (x, b)) (h : PB t c cs rs) (hu : (57 : Int32) ≠ u1) : ∃ cs', kag1 F T t u u1 u2 u3 cs = some cs' ∧ PB t c cs' rs ∧ FO (PX t c q) cs cs' := by
  unfold kag1
  rw [ckE_ok h.s.h.o, ob_s, acc_f h.s hu, ob_s]
  show ∃ cs', Option.bind (ckE cs 10 t) _ = _ ∧ _
  rw [ckE_ok h.s.h.o, ob_s, expf h.s (by decide), ob_s]
  exact kag2_f hTf h
theorem dee_f {F t c : Nat} {cs : CS} (h : FS t c cs) : c_X9_deepen F cs t = some (sI cs 329 t (kI cs 329 t + 1)) := by
  obtain ⟨v, hv⟩ := herf (F := F) h
  unfold c_X9_deepen c_X9_deepen_b19
  rw [gI_ok h.h.o, ob_s]
  by_cases y : kI cs 329 t < 12
  · rw [if_pos y, ob_s, pI_ok h.h.o, ob_s]
  · rw [if_neg y, ckE_ok h.h.o, ob_s, hv, ob_s, ob_s, ref_f h.h h.f, ob_s, gI_ok h.h.o, ob_s, pI_ok h.h.o, ob_s]
theorem kag_f {F t c q u : Nat} {T : TC_X9_readExpr} {cs : CS} {rs : RS} {u1 u2 u3 : Int32} (hTf : ∀ x, FS t c x → ∃ b, T.1 x t = some (x, b)) (h : PB t c cs rs) (hu : (57 : Int32) ≠ u1) : ∃ cs', c_X9_readAggregate_b60 F T cs t u1 u2 u3 u = some cs' ∧ PB t c cs' rs ∧ FO (PX t c q) cs cs' := by
  rw [kag_60, ckE_ok h.s.h.o, ob_s, dee_f h.s, ob_s]
  obtain ⟨cs', e1, e2, e3⟩ := kag1_f (F := F) (q := q) (u := u) (u2 := u2) (u3 := u3) hTf (h.ch (k := 329) (v := kI cs 329 t + 1) (by decide)) hu
  exact ⟨cs', e1, e2, (FO.sI (Or.inl ⟨by decide, rfl⟩)).trans e3⟩
/-! the reference -/
theorem ag195_f {F t c : Nat} {T' : TG_expr} {cs : CS} {rs : RS} {u1 u2 u3 : Int32} (h : PB t c cs rs) : ∃ rs', m_aggregate_b195 F T' rs u1 u2 u3 = some (rs', 0) ∧ PB t c cs rs' ∧ FR eR rs rs' := by
  obtain ⟨i, j1, j2⟩ := h.r.i
  have h1 := h.rh (k := 70) (v := rs.1 70 - 1) (by decide)
  refine ⟨_, ?_, h1, FR.setF (by unfold eR; omega)⟩
  unfold m_aggregate_b195
  rw [ng_f j1 j2 h.r.g, ob_s, mk_f h1.r, ob_s]
theorem ag169_f {F t c : Nat} {T' : TG_expr} {cs : CS} {rs : RS} {u1 u2 : Int32} (h : PB t c cs rs) : ∃ rs', m_aggregate_b169 F T' rs u1 u2 = some (rs', 0) ∧ PB t c cs rs' ∧ FR eR rs rs' := by
  have h1 := h.rh (k := 73) (v := 1) (by decide)
  have h2 := h1.rh (k := 73) (v := 0) (by decide)
  obtain ⟨rs', e1, e2, e3⟩ := ag195_f (F := F) (T' := T') (u1 := u1) (u2 := u2) (u3 := 0) h2
  refine ⟨rs', ?_, e2, ((FR.setF (by unfold eR; omega)).trans (FR.setF (by unfold eR; omega))).trans e3⟩
  unfold m_aggregate_b169 m_aggregate_b189
  rw [if_pos h1.r.g, e1]
def mag2 (F : Nat) (T' : TG_expr) (u1 y0 : Int32) (cs_6 : RS) : Option (RS × Int32) := if y0 = 21 then (Option.bind (m_takeSign F cs_6 42) fun z_8 => if z_8.2 = 0 then (m_aggregate_b169 F T' z_8.1 u1 y0) else (m_aggregate_b195 F T' z_8.1 u1 20 (-1))) else (m_aggregate_b169 F T' cs_6 u1 y0)
theorem mag_129 {F : Nat} {T' : TG_expr} {u1 y0 : Int32} {rs : RS} : m_aggregate_b129 F T' rs u1 y0 = Option.bind (m_needSign F (setF rs 18 ((rs.1 18) + 1)) 40) fun cs_6 => mag2 F T' u1 y0 cs_6 := rfl
theorem mag2_f {F t c : Nat} {T' : TG_expr} {cs : CS} {rs : RS} {u1 y0 : Int32} (h : PB t c cs rs) : ∃ rs', mag2 F T' u1 y0 rs = some (rs', 0) ∧ PB t c cs rs' ∧ FR eR rs rs' := by
  obtain ⟨i, j1, j2⟩ := h.r.i
  obtain ⟨rs', e1, e2, e3⟩ := ag169_f (F := F) (T' := T') (u1 := u1) (u2 := y0) h
  refine ⟨rs', ?_, e2, e3⟩
  unfold mag2
  by_cases y : y0 = 21
  · rw [if_pos y, tg_n j1 (ig_f h.r.g), ob_s, if_pos rfl]
    exact e1
  · rw [if_neg y]
    exact e1
theorem mde_f {F : Nat} {rs : RS} {p : Int32} (h : rs.1 21 = 0) : m_deeper F rs p = some (setF rs 70 (rs.1 70 + 1)) := by
  unfold m_deeper m_deeper_b26
  by_cases y : (setF rs 70 (rs.1 70 + 1)).1 70 ≤ 12
  · rw [if_pos y]
  · rw [if_neg y, tel_f (show (setF rs 70 (rs.1 70 + 1)).1 21 = 0 from h), ob_s]
def mag1 (F : Nat) (T' : TG_expr) (u1 : Int32) (cs_10 : RS) : Option (RS × Int32) := Option.bind (m_isWord F cs_10 5) fun v_11 => if v_11 = 0 then (Option.bind (m_isWord F cs_10 6) fun v_13 => if v_13 = 0 then (Option.bind (m_isWord F cs_10 7) fun v_15 => if v_15 = 0 then (m_aggregate_b129 F T' cs_10 u1 24) else (m_aggregate_b129 F T' cs_10 u1 23)) else (m_aggregate_b129 F T' cs_10 u1 22)) else (m_aggregate_b129 F T' cs_10 u1 21)
theorem mag_77 {F : Nat} {T' : TG_expr} {u1 : Int32} {rs : RS} : m_aggregate_b77 F T' rs u1 = Option.bind (m_deeper F rs u1) fun cs_10 => mag1 F T' u1 cs_10 := rfl
theorem mag1_f {F t c i : Nat} {T' : TG_expr} {cs : CS} {rs : RS} {u1 : Int32} (h : PB t c cs rs) (hi : rs.1 18 = nI i) (h2 : i + 1 < 2001) : ∃ rs', mag1 F T' u1 rs = some (rs', 0) ∧ PB t c cs rs' ∧ FR eR rs rs' := by
  have h1 := h.at (i := i + 1) h2
  obtain ⟨rs', e1, e2, e3⟩ := mag2_f (F := F) (T' := T') (u1 := u1) (y0 := 24) h1
  refine ⟨rs', ?_, e2, (FR.setF (by unfold eR; omega)).trans e3⟩
  unfold mag1
  rw [iw_f h.r.g, ob_s, if_pos rfl, iw_f h.r.g, ob_s, if_pos rfl, iw_f h.r.g, ob_s, if_pos rfl, mag_129, hi, nI_1, ng_f (i := i + 1) rfl h2 h1.r.g, ob_s, e1]
theorem mag_f {F t c i : Nat} {T' : TG_expr} {cs : CS} {rs : RS} {u1 : Int32} (h : PB t c cs rs) (hi : rs.1 18 = nI i) (h2 : i + 1 < 2001) : ∃ rs', m_aggregate_b77 F T' rs u1 = some (rs', 0) ∧ PB t c cs rs' ∧ FR eR rs rs' := by
  have h1 := h.rh (k := 70) (v := rs.1 70 + 1) (by decide)
  obtain ⟨rs', e1, e2, e3⟩ := mag1_f (F := F) (T' := T') (u1 := u1) h1 hi h2
  refine ⟨rs', ?_, e2, (FR.setF (by unfold eR; omega)).trans e3⟩
  rw [mag_77, mde_f h.r.g, ob_s, e1]

/-! calls on the tape, the drafts and the streams -/
def OKC (F i : Nat) (x : Option (CS × RS)) : Prop := ∃ cs' rs', x = some (cs', rs') ∧ SIM F i cs' rs'
theorem ST.uq {n m : Nat} {cs : CS} {rs : RS} (h : ST n cs rs) (g : ST m cs rs) : n = m := by
  have h1 := h.le
  have h2 := g.le
  exact (nI_eq (by omega) (by omega)).mp (h.ci.symm.trans g.ci)
theorem SIM.tape {F i : Nat} {cs cs' : CS} {rs rs' : RS} (h : SIM F i cs rs) (f : FX tS cs cs') (g : FR tR rs rs') (df : DFC cs') (tp : ∃ n, TP n cs' rs') : SIM F i cs' rs' := by
  have n1 : ∀ q, 4 ≤ q → ¬ tR q := fun q hq w => by unfold tR at w; omega
  have n2 : ∀ x, ¬ (x = 384 ∨ x = 385) → ¬ tS x := fun x hx w => hx w
  have g0 : ∀ q, 4 ≤ q → rs'.1 q = rs.1 q ∧ rs'.2.2.1 q = rs.2.2.1 q ∧ rs'.2.2.2 q = rs.2.2.2 q := fun q hq => g.2 q (n1 q hq)
  have a0 : ∀ x j, ¬ (x = 384 ∨ x = 385) → AT cs cs' x j := fun x j hx => f.at9 (n2 x hx) j
  obtain ⟨d, dr⟩ := h.dr
  exact h.mov f (fun t ht => by unfold tS at ht; omega) g (fun q hq => by unfold tR at hq; omega) df tp ⟨d, dr.mv (fun x _ _ => a0 x 2 (by omega)) (fun q _ _ => g0 q (by omega))⟩ (fun j => by rw [(g0 9 (by omega)).2.1]; exact h.f9 j) (Or.inl ⟨(a0 398 0 (by omega)).i, (g0 110 (by omega)).1⟩) (fun d _ => by rw [(g0 5 (by omega)).2.1]) (fun nst st s5 => ⟨nst, Nat.le_refl _, st.mv (fun x _ _ => a0 x 2 (by omega)) (g.1.resolve_left (n1 10 (by omega))) (fun q _ _ => g0 q (by omega)), fun d d1 d2 => by rw [(g0 5 (by omega)).2.1]; exact s5 d d1 d2, fun d _ => by rw [(a0 258 2 (by omega)).a]⟩)
theorem SIM.draft {F i : Nat} {cs cs' : CS} {rs rs' : RS} (h : SIM F i cs rs) (f : FX dS cs cs') (g : FR dR rs rs') (df : DFC cs') (dr : ∃ d, DR d cs' rs') : SIM F i cs' rs' := by
  have n1 : ∀ q, ¬ (q = 11 ∨ q = 12 ∨ q = 13) → ¬ dR q := fun q hq w => hq w
  have n2 : ∀ x, ¬ (x = 262 ∨ x = 263 ∨ x = 264) → ¬ dS x := fun x hx w => hx w
  have g0 : ∀ q, ¬ (q = 11 ∨ q = 12 ∨ q = 13) → rs'.1 q = rs.1 q ∧ rs'.2.2.1 q = rs.2.2.1 q ∧ rs'.2.2.2 q = rs.2.2.2 q := fun q hq => g.2 q (n1 q hq)
  have a0 : ∀ x j, ¬ (x = 262 ∨ x = 263 ∨ x = 264) → AT cs cs' x j := fun x j hx => f.at9 (n2 x hx) j
  obtain ⟨n, tp⟩ := h.tp
  exact h.mov f (fun t ht => by unfold dS at ht; omega) g (fun q hq => by unfold dR at hq; omega) df ⟨n, tp.mv (a0 384 0 (by omega)).a (a0 385 0 (by omega)).i (g0 0 (by omega)).2.1 (g0 1 (by omega)).1⟩ dr (fun j => by rw [(g0 9 (by omega)).2.1]; exact h.f9 j) (Or.inl ⟨(a0 398 0 (by omega)).i, (g0 110 (by omega)).1⟩) (fun d _ => by rw [(g0 5 (by omega)).2.1]) (fun nst st s5 => ⟨nst, Nat.le_refl _, st.mv (fun x _ _ => a0 x 2 (by omega)) (g.1.resolve_left (n1 10 (by omega))) (fun q _ _ => g0 q (by omega)), fun d d1 d2 => by rw [(g0 5 (by omega)).2.1]; exact s5 d d1 d2, fun d _ => by rw [(a0 258 2 (by omega)).a]⟩)
theorem ok_0 {F i : Nat} {cs : CS} {rs : RS} (hF : 10000 ≤ F) (h : SIM F i cs rs) (x1 x2 x3 x4 x5 : Int32) : OKC F i (lk_0 F cs rs x1 x2 x3 x4 x5) := by
  obtain ⟨n, tp⟩ := h.tp
  obtain ⟨cs', rs', r, m, e1, e2, t, f, g⟩ := sim_feed (F := F) (x1 := x1) (x2 := x2) (x3 := x3) (x4 := x4) (x5 := x5) hF h.b tp
  refine ⟨cs', rs', ?_, h.tape f g (dg_c_X11_feed F cs 0 x1 x2 x3 x4 x5 cs' r e1 h.df) ⟨m, t⟩⟩
  unfold lk_0
  rw [ckE_ok h.b.o, ob_s, e1, ob_s, e2, ob_s]
  exact if_pos rfl
theorem ok_1 {F i : Nat} {cs : CS} {rs : RS} (h : SIM F i cs rs) (x1 x2 x3 x4 x5 : Int32) : OKC F i (lk_1 F cs rs x1 x2 x3 x4 x5) := by
  obtain ⟨n, tp⟩ := h.tp
  obtain ⟨cs', rs', r, m, e1, e2, t, f, g⟩ := sim_cut (F := F) (x1 := x1) h.b tp
  refine ⟨cs', rs', ?_, h.tape f g (dg_c_X11_cut F cs 0 x1 cs' r e1 h.df) ⟨m, t⟩⟩
  unfold lk_1
  rw [ckE_ok h.b.o, ob_s, e1, ob_s, e2, ob_s]
  exact if_pos rfl
theorem stream_5 {F n : Nat} {rs rs' : RS} {x1 r : Int32} (h : m_stream F rs x1 = some (rs', r)) (ri : rs.1 4 = nI n) (hn : n ≤ 6) : rs' = rs ∨ ∃ v, rs'.2.2.1 5 = upd (rs.2.2.1 5) n v ∧ rs'.1 4 = nI (n + 1) := by
  unfold m_stream m_stream_b19 at h
  by_cases h1 : x1 < 1
  · rw [if_pos h1] at h
    exact Or.inl (Prod.mk.inj (Option.some.inj h)).1.symm
  · rw [if_neg h1] at h
    by_cases h2 : 4 < x1
    · rw [if_pos h2] at h
      exact Or.inl (Prod.mk.inj (Option.some.inj h)).1.symm
    · rw [if_neg h2] at h
      by_cases h3 : rs.1 4 = 6
      · rw [if_pos h3] at h
        exact Or.inl (Prod.mk.inj (Option.some.inj h)).1.symm
      · rw [if_neg h3] at h
        replace h := ob h
        obtain ⟨z, g1, h⟩ := h
        obtain ⟨a, b⟩ := wrI_some g1
        have e := (Prod.mk.inj (Option.some.inj h)).1
        rw [← b, ri, nI_clamp (n := n) (by omega)] at e
        refine Or.inr ⟨x1, ?_, ?_⟩
        · rw [← e]
          rfl
        · rw [← e]
          show rs.1 4 + 1 = nI (n + 1)
          rw [ri, nI_1]
theorem ok_2 {F i : Nat} {cs : CS} {rs : RS} (h : SIM F i cs rs) (x1 x2 x3 x4 x5 : Int32) : OKC F i (lk_2 F cs rs x1 x2 x3 x4 x5) := by
  obtain ⟨nst, st, s5, -⟩ := h.st
  obtain ⟨cs', rs', r, m, e1, e2, st', nm, kk, f, g⟩ := sim_stream (F := F) (x1 := x1) h.b st
  have g0 : ∀ q, ¬ (q = 4 ∨ q = 5) → rs'.1 q = rs.1 q ∧ rs'.2.2.1 q = rs.2.2.1 q ∧ rs'.2.2.2 q = rs.2.2.2 q := fun q hq => g.2 q hq
  have a0 : ∀ x j, ¬ (x = 256 ∨ x = 258) → AT cs cs' x j := fun x j hx => f.at9 hx j
  obtain ⟨n, tp⟩ := h.tp
  obtain ⟨d, dr⟩ := h.dr
  have hn := st.le
  have hm := st'.le
  have r5 : ∀ d, rs.2.2.1 5 d ≠ 0 → rs'.2.2.1 5 d = rs.2.2.1 5 d := fun d hd => by
    rcases stream_5 e2 st.ri hn with q | ⟨v, q, -⟩
    · rw [q]
    · rw [q]
      exact pk_un (fun e => hd (by rw [e]; exact s5 nst (Nat.le_refl _) (by omega)))
  have s5' : ∀ d, m ≤ d → d ≤ 9 → rs'.2.2.1 5 d = 0 := fun d d1 d2 => by
    rcases stream_5 e2 st.ri hn with q | ⟨v, q, q4⟩
    · rw [q]
      exact s5 d (by omega) d2
    · have em : m = nst + 1 := (nI_eq (by omega) (by omega)).mp (st'.ri.symm.trans q4)
      rw [q, pk_un (by omega)]
      exact s5 d (by omega) d2
  refine ⟨cs', rs', ?_, h.mov f (fun t ht => by unfold oS at ht; omega) g (fun q hq => by unfold oR at hq; omega) (dg_c_X11_stream F cs 0 x1 cs' r e1 h.df) ⟨n, tp.mv (a0 384 0 (by omega)).a (a0 385 0 (by omega)).i (g0 0 (by omega)).2.1 (g0 1 (by omega)).1⟩ ⟨d, dr.mv (fun x _ _ => a0 x 2 (by omega)) (fun q _ _ => g0 q (by omega))⟩ (fun j => by rw [(g0 9 (by omega)).2.1]; exact h.f9 j) (Or.inl ⟨(a0 398 0 (by omega)).i, (g0 110 (by omega)).1⟩) r5 (fun n9 st9 _ => by
    have e := st.uq st9
    rw [← e]
    exact ⟨m, nm, st', s5', fun d hd => (kk d hd).1⟩)⟩
  unfold lk_2
  rw [ckE_ok h.b.o, ob_s, e1, ob_s, e2, ob_s]
  exact if_pos rfl
theorem ok_4 {F i : Nat} {cs : CS} {rs : RS} (h : SIM F i cs rs) (x1 x2 x3 x4 x5 : Int32) : OKC F i (lk_4 F cs rs x1 x2 x3 x4 x5) := by
  refine ⟨cs, rs, ?_, h⟩
  unfold lk_4 c_X11_fault m_fault
  rw [ckE_ok h.b.o, ob_s, gI_ok h.b.o, ob_s, ob_s, ob_s]
  exact if_pos h.lf
theorem ok_5 {F i : Nat} {cs : CS} {rs : RS} (h : SIM F i cs rs) (x1 x2 x3 x4 x5 : Int32) : OKC F i (lk_5 F cs rs x1 x2 x3 x4 x5) := by
  obtain ⟨d, dr⟩ := h.dr
  obtain ⟨cs', rs', r, m, e1, e2, t, f, g⟩ := sim_value (F := F) (v := ((x1).toInt64 <<< ((32 : Int32).toInt64 &&& 63)) ||| ((x2).toInt64 &&& 4294967295)) h.b dr
  refine ⟨cs', rs', ?_, h.draft f g (dg_c_X11_value F cs 0 _ cs' r e1 h.df) ⟨m, t⟩⟩
  unfold lk_5
  rw [ckE_ok h.b.o, ob_s, e1, ob_s, e2, ob_s]
  exact if_pos rfl
theorem ok_6 {F i : Nat} {cs : CS} {rs : RS} (h : SIM F i cs rs) (x1 x2 x3 x4 x5 : Int32) : OKC F i (lk_6 F cs rs x1 x2 x3 x4 x5) := by
  obtain ⟨d, dr⟩ := h.dr
  obtain ⟨cs', rs', r, m, e1, e2, t, f, g⟩ := sim_nothing (F := F) h.b dr
  refine ⟨cs', rs', ?_, h.draft f g (dg_c_X11_nothing F cs 0 cs' r e1 h.df) ⟨m, t⟩⟩
  unfold lk_6
  rw [ckE_ok h.b.o, ob_s, e1, ob_s, e2, ob_s]
  exact if_pos rfl
theorem SIM.tot {F i : Nat} {cs : CS} {rs : RS} (h : SIM F i cs rs) : kI cs 398 0 = rs.1 110 := by
  obtain ⟨nst, st, s5, q | ⟨n, ff, M, t, cap, s, lf, S', Q, oq, ss, r, il, w, V, D, cg, cS, c0, cR, c4, c5, csH, rsH, od, S0, RR, Sr, C, CH, q⟩⟩ := h.st
  · rw [q.r0]
    exact q.cc.c
  · obtain ⟨M9, cc, -, -⟩ := q.al.cc
    rw [cc.c, q.al.ch.c0, q.al.cm.1]
theorem SIM.rws {F i : Nat} {cs : CS} {rs : RS} (h : SIM F i cs rs) : kI cs 395 0 = if rs.1 81 = 0 then 0 else rs.1 100 := by
  obtain ⟨nst, st, s5, q | ⟨n, ff, M, t, cap, s, lf, S', Q, oq, ss, r, il, w, V, D, cg, cS, c0, cR, c4, c5, csH, rsH, od, S0, RR, Sr, C, CH, q⟩⟩ := h.st
  · rw [if_pos q.h81]
    exact q.c5
  · rw [if_neg (by rw [q.h81]; decide), q.al.c5, q.al.x0]
theorem ok_10 {F i : Nat} {cs : CS} {rs : RS} (h : SIM F i cs rs) (x1 x2 x3 x4 x5 : Int32) : OKC F i (lk_10 F cs rs x1 x2 x3 x4 x5) := by
  refine ⟨cs, rs, ?_, h⟩
  unfold lk_10 c_X11_changes m_changes
  rw [ckE_ok h.b.o, ob_s, gI_ok h.b.o, ob_s, ob_s, ob_s]
  exact if_pos h.tot
theorem ok_14 {F i : Nat} {cs : CS} {rs : RS} (h : SIM F i cs rs) (x1 x2 x3 x4 x5 : Int32) : OKC F i (lk_14 F cs rs x1 x2 x3 x4 x5) := by
  refine ⟨cs, rs, ?_, h⟩
  have e : m_rows F rs = some (kI cs 395 0) := by
    rw [h.rws]
    unfold m_rows m_rows_b15
    by_cases z : rs.1 81 = 0
    · rw [if_pos z, if_pos z]
    · rw [if_neg z, if_neg z]
  unfold lk_14 c_X11_rows
  rw [ckE_ok h.b.o, ob_s, gI_ok h.b.o, ob_s, ob_s, e, ob_s]
  exact if_pos rfl
/-! calls on rows -/
theorem SIM.rst {F i : Nat} {S R : Nat → Prop} {cs cs' : CS} {rs rs' : RS} (h : SIM F i cs rs) (f : FX S (sI cs 398 0 0) cs') (hS : ∀ t, S t → 256 ≤ t ∧ t ≤ 264 ∧ t ≠ 258 ∧ t ≠ 256) (g : FR R rs rs') (hR : ∀ q, R q → (6 ≤ q ∧ q ≤ 13) ∨ q = 110) (df : DFC (sI cs 398 0 0) → DFC cs') {nst : Nat} (st0 : ST nst cs rs) (st : ST nst cs' rs') (dr : ∃ d, DR d cs' rs') (f9 : ∀ i, rs'.2.2.1 9 i = 0 ∨ rs'.2.2.1 9 i = 1) (z : rs'.1 110 = 0) : SIM F i cs' rs' ∧ kI cs' 398 0 = 0 := by
  have f1 : FX (fun t => (256 ≤ t ∧ t ≤ 264 ∧ t ≠ 258 ∧ t ≠ 256) ∨ t = 398) cs cs' := (FX.sI (Or.inr rfl)).trans (f.mono (fun t ht => Or.inl (hS t ht)))
  have g0 : ∀ q, ¬ ((6 ≤ q ∧ q ≤ 13) ∨ q = 110) → rs'.1 q = rs.1 q ∧ rs'.2.2.1 q = rs.2.2.1 q ∧ rs'.2.2.2 q = rs.2.2.2 q := fun q hq => g.2 q (fun w => hq (hR q w))
  have a0 : ∀ x j, ¬ ((256 ≤ x ∧ x ≤ 264 ∧ x ≠ 258 ∧ x ≠ 256) ∨ x = 398) → AT cs cs' x j := fun x j hx => f1.at9 hx j
  have z8 : kI cs' 398 0 = 0 := (f.i (fun w => by have := hS _ w; omega) 0).trans (by show u2 (kI cs) 398 0 0 398 0 = 0; exact u2_s)
  obtain ⟨n, tp⟩ := h.tp
  refine ⟨h.mov f1 (fun t ht => by omega) g (fun q hq => by have := hR q hq; omega) (df (DG.pI (pI_ok (X := 12) h.b.o) h.df)) ⟨n, tp.mv (a0 384 0 (by omega)).a (a0 385 0 (by omega)).i (g0 0 (by omega)).2.1 (g0 1 (by omega)).1⟩ dr f9 (Or.inr ⟨z8, z⟩) (fun d _ => by rw [(g0 5 (by omega)).2.1]) (fun n9 st9 s5 => ?_), z8⟩
  have e := st0.uq st9
  rw [← e] at s5 ⊢
  exact ⟨nst, Nat.le_refl _, st, fun d d1 d2 => by rw [(g0 5 (by omega)).2.1]; exact s5 d d1 d2, fun d _ => by rw [(a0 258 2 (by omega)).a]⟩
theorem row_ok' {F i : Nat} {cs : CS} {rs : RS} (hF : 10000 ≤ F) (h : SIM F i cs rs) (x : Int32) (t : Int64) : ∃ cs' rs' v, c_X11_row F cs 0 x t = some (cs', v) ∧ m_row F rs x t = some (rs', v) ∧ SIM F i cs' rs' := by
  obtain ⟨nst, st, s5, -⟩ := h.st
  obtain ⟨d, dr⟩ := h.dr
  obtain ⟨c1, hc1⟩ : ∃ z, z = sI cs 398 0 0 := ⟨_, rfl⟩
  have f1 : FX (fun t => t = 398) cs c1 := by rw [hc1]; exact FX.sI rfl
  have b1 : Bas c1 := h.b.fx f1
  have a1 : ∀ x j, x ≠ 398 → AT cs c1 x j := fun x j hx => f1.at9 hx j
  have st1 : ST nst c1 rs := st.mv (fun x _ _ => a1 x 2 (by omega)) rfl (fun _ _ _ => ⟨rfl, rfl, rfl⟩)
  have dr1 : DR d c1 rs := dr.mv (fun x _ _ => a1 x 2 (by omega)) (fun _ _ _ => ⟨rfl, rfl, rfl⟩)
  have head : c_X11_row F cs 0 x t = Option.bind (c_X7_settle F c1 2 x t) fun z_3 => if z_3.2 = (-1) then (c_X11_row_b27 F z_3.1 z_3.2) else (Option.bind (ckE z_3.1 12 0) fun _ => Option.bind (c_X11_answer F z_3.1 0 1) fun cs_7 => c_X11_row_b27 F cs_7 z_3.2) := by
    unfold c_X11_row
    rw [pI_ok h.b.o, ob_s, ← hc1, gR_ok b1.o, ob_s, b1.rS, ob_s, ckE_ok b1.oS, ob_s]
  have hs : ∀ t, sS t → 256 ≤ t ∧ t ≤ 264 ∧ t ≠ 258 ∧ t ≠ 256 := fun t ht => by unfold sS at ht; omega
  have hr : ∀ q, sR' q → (6 ≤ q ∧ q ≤ 13) ∨ q = 110 := fun q hq => by unfold sR' at hq; omega
  rcases sim_set9 (F := F) (x := x) (t := t) hF b1 st1 dr1 with ⟨cs', rs', e1, e2, s', d', z', f', g', n9⟩ | ⟨cs', rs', p, p8, e1, e2, s', d', z', f', g', n9⟩
  · rw [hc1] at f'
    obtain ⟨sm, -⟩ := h.rst f' hs g' hr (fun w => dg_c_X7_settle F c1 2 x t cs' (-1) e1 (by rw [hc1]; exact w)) st s' ⟨0, d'⟩ (n9 h.f9) z'
    refine ⟨cs', rs', -1, ?_, e2, sm⟩
    rw [head, e1, ob_s, if_pos rfl]
    rfl
  · rw [hc1] at f'
    obtain ⟨sm, k8⟩ := h.rst f' hs g' hr (fun w => dg_c_X7_settle F c1 2 x t cs' (nI p) e1 (by rw [hc1]; exact w)) st s' ⟨0, d'⟩ (n9 h.f9) z'
    obtain ⟨c9, r9, y1, y2, y3, -⟩ := sim_answer sm k8 z'
    refine ⟨c9, r9, nI p, ?_, by rw [e2, y2, ob_s], y3⟩
    rw [head, e1, ob_s, if_neg (show ¬ nI p = -1 from fun e => by have := nI_toInt (n := p) (by omega); rw [e] at this; simp at this), ckE_ok sm.b.o, ob_s, y1, ob_s]
    rfl
theorem ok_7 {F i : Nat} {cs : CS} {rs : RS} (hF : 10000 ≤ F) (h : SIM F i cs rs) (x1 x2 x3 x4 x5 : Int32) : OKC F i (lk_7 F cs rs x1 x2 x3 x4 x5) := by
  obtain ⟨cs', rs', v, e1, e2, s⟩ := row_ok' hF h x1 (((x2).toInt64 <<< ((32 : Int32).toInt64 &&& 63)) ||| ((x3).toInt64 &&& 4294967295))
  refine ⟨cs', rs', ?_, s⟩
  unfold lk_7
  rw [ckE_ok h.b.o, ob_s, e1, ob_s, e2, ob_s]
  exact if_pos rfl
theorem ok_8 {F i : Nat} {cs : CS} {rs : RS} (h : SIM F i cs rs) (x1 x2 x3 x4 x5 : Int32) : OKC F i (lk_8 F cs rs x1 x2 x3 x4 x5) := by
  obtain ⟨nst, st, s5, -⟩ := h.st
  obtain ⟨d, dr⟩ := h.dr
  obtain ⟨c1, hc1⟩ : ∃ z, z = sI cs 398 0 0 := ⟨_, rfl⟩
  have f1 : FX (fun t => t = 398) cs c1 := by rw [hc1]; exact FX.sI rfl
  have b1 : Bas c1 := h.b.fx f1
  have a1 : ∀ x j, x ≠ 398 → AT cs c1 x j := fun x j hx => f1.at9 hx j
  have st1 : ST nst c1 rs := st.mv (fun x _ _ => a1 x 2 (by omega)) rfl (fun _ _ _ => ⟨rfl, rfl, rfl⟩)
  have head : c_X11_back F cs 0 x1 x2 = Option.bind (c_X7_remove F c1 2 x1 x2) fun z_3 => if z_3.2 = 0 then (some (z_3.1, 0)) else (Option.bind (ckE z_3.1 12 0) fun _ => Option.bind (c_X11_answer F z_3.1 0 1) fun cs_7 => c_X11_back_b24 F cs_7) := by
    unfold c_X11_back
    rw [pI_ok h.b.o, ob_s, ← hc1, gR_ok b1.o, ob_s, b1.rS, ob_s, ckE_ok b1.oS, ob_s]
  have hs : ∀ t, bS t → 256 ≤ t ∧ t ≤ 264 ∧ t ≠ 258 ∧ t ≠ 256 := fun t ht => by unfold bS at ht; omega
  have hr : ∀ q, bR q → (6 ≤ q ∧ q ≤ 13) ∨ q = 110 := fun q hq => by unfold bR at hq; omega
  have dd : ∀ (cs' : CS) (rs' : RS), FX bS (sI cs 398 0 0) cs' → FR bR rs rs' → DR d cs' rs' := fun cs' rs' f g => by
    have f2 : FX (fun t => t = 261 ∨ t = 398) cs cs' := (FX.sI (Or.inr rfl)).trans (f.mono (fun t ht => Or.inl ht))
    exact dr.mv (fun x _ _ => f2.at9 (by omega) 2) (fun q _ _ => g.2 q (fun w => by unfold bR at w; omega))
  have n9 : ∀ rs' : RS, FR bR rs rs' → ∀ j, rs'.2.2.1 9 j = 0 ∨ rs'.2.2.1 9 j = 1 := fun rs' g j => by
    rw [g.a (k := 9) (fun w => by unfold bR at w; omega)]
    exact h.f9 j
  have fin : ∃ cs' rs' v, c_X11_back F cs 0 x1 x2 = some (cs', v) ∧ m_back F rs x1 x2 = some (rs', v) ∧ SIM F i cs' rs' := by
    rcases sim_remove (F := F) (x := x1) (y := x2) b1 st1 with ⟨rs', e1, e2, s', z', g'⟩ | ⟨cs', rs', e1, e2, s', z', f', g'⟩
    · have f' : FX bS (sI cs 398 0 0) c1 := by rw [hc1]; exact FX.refl _
      obtain ⟨sm, -⟩ := h.rst f' hs g' hr (fun w => by rw [hc1]; exact w) st s' ⟨d, dd _ _ f' g'⟩ (n9 rs' g') z'
      refine ⟨c1, rs', 0, ?_, e2, sm⟩
      rw [head, e1, ob_s, if_pos rfl]
    · rw [hc1] at f'
      obtain ⟨sm, k8⟩ := h.rst f' hs g' hr (fun w => dg_c_X7_remove F c1 2 x1 x2 cs' 1 e1 (by rw [hc1]; exact w)) st s' ⟨d, dd _ _ f' g'⟩ (n9 rs' g') z'
      obtain ⟨c9, r9, y1, y2, y3, -⟩ := sim_answer sm k8 z'
      refine ⟨c9, r9, 1, ?_, by rw [e2, y2, ob_s], y3⟩
      rw [head, e1, ob_s, if_neg (show ¬ (1 : Int32) = 0 by decide), ckE_ok sm.b.o, ob_s, y1, ob_s]
      rfl
  obtain ⟨cs', rs', v, e1, e2, s⟩ := fin
  refine ⟨cs', rs', ?_, s⟩
  unfold lk_8
  rw [ckE_ok h.b.o, ob_s, e1, ob_s, e2, ob_s]
  exact if_pos rfl
def wmS (t : Nat) : Prop := t = 257
def wmR (k : Nat) : Prop := k = 10 ∨ k = 110
theorem wm_ok {F i : Nat} {cs : CS} {rs : RS} (h : SIM F i cs rs) (t : Int64) : ∃ cs' rs' v, c_X11_watermark F cs 0 t = some (cs', v) ∧ m_watermark F rs t = some (rs', v) ∧ SIM F i cs' rs' := by
  obtain ⟨nst, st, s5, -⟩ := h.st
  obtain ⟨d, dr⟩ := h.dr
  obtain ⟨c1, hc1⟩ : ∃ z, z = sI cs 398 0 0 := ⟨_, rfl⟩
  have f1 : FX (fun t => t = 398) cs c1 := by rw [hc1]; exact FX.sI rfl
  have b1 : Bas c1 := h.b.fx f1
  have a1 : ∀ x j, x ≠ 398 → AT cs c1 x j := fun x j hx => f1.at9 hx j
  have st1 : ST nst c1 rs := st.mv (fun x _ _ => a1 x 2 (by omega)) rfl (fun _ _ _ => ⟨rfl, rfl, rfl⟩)
  have dr1 : DR d c1 rs := dr.mv (fun x _ _ => a1 x 2 (by omega)) (fun _ _ _ => ⟨rfl, rfl, rfl⟩)
  have head : c_X11_watermark F cs 0 t = if t ≤ rs.2.1 then (c_X11_watermark_b30 F c1 0) else (Option.bind (c_X11_answer F (sJ c1 257 2 t) 0 1) fun cs_10 => c_X11_watermark_b30 F cs_10 0) := by
    unfold c_X11_watermark
    rw [pI_ok h.b.o, ob_s, ← hc1, gR_ok b1.o, ob_s, b1.rS, ob_s, gJ_ok b1.oS, ob_s, st1.wm]
    by_cases z : t ≤ rs.2.1
    · rw [if_pos z, if_pos z]
    · rw [if_neg z, if_neg z, ob_s, ob_s, pJ_ok b1.oS, ob_s, ckE_ok (cs := sJ c1 257 2 t) b1.o, ob_s]
  have hm : m_watermark F rs t = if t ≤ rs.2.1 then m_watermark_b24 F (setF rs 110 0) else Option.bind (m_renew F (setW (setF rs 110 0) t) 1) fun cs_2 => m_watermark_b24 F cs_2 := rfl
  have hs : ∀ t, wmS t → 256 ≤ t ∧ t ≤ 264 ∧ t ≠ 258 ∧ t ≠ 256 := fun t ht => by unfold wmS at ht; omega
  have hr : ∀ q, wmR q → (6 ≤ q ∧ q ≤ 13) ∨ q = 110 := fun q hq => by unfold wmR at hq; omega
  by_cases z : t ≤ rs.2.1
  · have f' : FX wmS (sI cs 398 0 0) c1 := by rw [hc1]; exact FX.refl _
    have g' : FR wmR rs (setF rs 110 0) := FR.setF (Or.inr rfl)
    obtain ⟨sm, k8⟩ := h.rst f' hs g' hr (fun w => by rw [hc1]; exact w) st (st1 : ST nst c1 (setF rs 110 0)) ⟨d, (dr1 : DR d c1 (setF rs 110 0))⟩ (h.f9 : ∀ j, (setF rs 110 0).2.2.1 9 j = 0 ∨ (setF rs 110 0).2.2.1 9 j = 1) rfl
    refine ⟨c1, setF rs 110 0, 0, ?_, ?_, sm⟩
    · rw [head, if_pos z]
      unfold c_X11_watermark_b30
      rw [gI_ok b1.o, ob_s, k8]
    · rw [hm, if_pos z]
      rfl
  · have f' : FX wmS (sI cs 398 0 0) (sJ c1 257 2 t) := by rw [hc1]; exact FX.sJ rfl
    have g' : FR wmR rs (setW (setF rs 110 0) t) := (FR.setF (Or.inr rfl)).trans (FR.setW (Or.inl rfl))
    have a2 : ∀ x j, x ≠ 257 → AT c1 (sJ c1 257 2 t) x j := fun x j hx => AT.sJ (fun w => hx w.1)
    have st2 : ST nst (sJ c1 257 2 t) (setW (setF rs 110 0) t) := ⟨st1.ci, st1.ri, st1.le, st1.col, by show u2 (kJ c1) 257 2 t 257 2 = t; exact u2_s, st1.th, st1.out, st1.val⟩
    obtain ⟨sm, k8⟩ := h.rst f' hs g' hr (fun w => DG.pJ (pJ_ok (X := 8) b1.oS) (by rw [hc1]; exact w)) st st2 ⟨d, (dr1 : DR d (sJ c1 257 2 t) (setW (setF rs 110 0) t))⟩ (h.f9 : ∀ j, (setW (setF rs 110 0) t).2.2.1 9 j = 0 ∨ (setW (setF rs 110 0) t).2.2.1 9 j = 1) rfl
    obtain ⟨c9, r9, y1, y2, y3, y4⟩ := sim_answer sm k8 rfl
    refine ⟨c9, r9, kI c9 398 0, ?_, ?_, y3⟩
    · rw [head, if_neg z, y1, ob_s]
      unfold c_X11_watermark_b30
      rw [gI_ok y3.b.o, ob_s]
    · rw [hm, if_neg z, y2, ob_s]
      unfold m_watermark_b24
      rw [y4]
theorem ok_9 {F i : Nat} {cs : CS} {rs : RS} (h : SIM F i cs rs) (x1 x2 x3 x4 x5 : Int32) : OKC F i (lk_9 F cs rs x1 x2 x3 x4 x5) := by
  obtain ⟨cs', rs', v, e1, e2, s⟩ := wm_ok h (((x1).toInt64 <<< ((32 : Int32).toInt64 &&& 63)) ||| ((x2).toInt64 &&& 4294967295))
  refine ⟨cs', rs', ?_, s⟩
  unfold lk_9
  rw [ckE_ok h.b.o, ob_s, e1, ob_s, e2, ob_s]
  exact if_pos rfl

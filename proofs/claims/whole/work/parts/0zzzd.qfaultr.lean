/-! a QUERY's object; both behind a fault: the reference's SELECT, the class's QUERY -/
theorem new_query {F oq o : Nat} {cs : CS} (h4 : (4, oq) ∈ kE cs) (h6 : (6, o) ∈ kE cs) (hb : KB cs) : ∃ cs', c_X3_init F cs oq o = some cs' ∧ KB cs' ∧ EM cs cs' ∧ kK cs' = kK cs + 2 ∧ kM cs' = kM cs + 13 ∧ (0, kK cs) ∈ kE cs' ∧ (33, kK cs) ∈ kE cs' ∧ kR cs' 128 oq = some (kK cs) ∧ kR cs' 129 oq = kR cs 194 o ∧ kI cs' 2 (kK cs) = 1 ∧ kP cs' 1 (kK cs) = some (kK cs + 1) ∧ kL cs' 1 (kK cs) = 10 ∧ kQ cs' 1 (kK cs) = va_up (fun _ => none) 0 (some o) ∧ ∀ x i, ¬ (i = kK cs ∧ x ≤ 2) → ¬ (i = oq ∧ (x = 128 ∨ x = 129)) → AT cs cs' x i := by
  have o4 := hb _ h4
  have o6 := hb _ h6
  have e0 : ∀ p, p ∈ kE (nQL cs oq o) ↔ p ∈ kE cs ∨ p = (0, kK cs) ∨ p = (33, kK cs) := fun p => by
    show p ∈ kE cs ++ [(0, kK cs), (33, kK cs)] ↔ _
    rw [List.mem_append, List.mem_cons, List.mem_singleton]
  have em : EM cs (nQL cs oq o) := fun p hp => (e0 p).mpr (Or.inl hp)
  have kb : KB (nQL cs oq o) := fun p hp => by
    show p.2 < kK cs + 2
    rcases (e0 p).mp hp with y | y | y
    · have := hb p y; omega
    · rw [y]; show kK cs < kK cs + 2; omega
    · rw [y]; show kK cs < kK cs + 2; omega
  have h4' : (4, oq) ∈ kE (nQL cs oq o) := em _ h4
  have h6' : (6, o) ∈ kE (nQL cs oq o) := em _ h6
  have r194 : kR (nQL cs oq o) 194 o = kR cs 194 o := by
    show u2 (kR cs) 128 oq (some (kK cs)) 194 o = _
    exact u2_n (by omega)
  refine ⟨sR (nQL cs oq o) 129 oq (kR cs 194 o), ?_, kb, em, rfl, rfl, (e0 _).mpr (Or.inr (Or.inl rfl)), (e0 _).mpr (Or.inr (Or.inr rfl)), ?_, u2_s, ?_, ?_, ?_, ?_, fun x i h1 h2 => ?_⟩
  · unfold c_X3_init c_X3_init_b24 nwL
    rw [if_pos ⟨h4, h6, hb⟩, ob_s, gR_ok h6', ob_s, r194, pR_ok h4', ob_s]
  · show u2 (u2 (kR cs) 128 oq (some (kK cs))) 129 oq (kR cs 194 o) 128 oq = _
    rw [u2_n (by omega), u2_s]
  · exact u2_s
  · exact u2_s
  · exact u2_s
  · exact u2_s
  · refine AT.trans (b := nQL cs oq o) ⟨?_, rfl, ?_, ?_, rfl, rfl, ?_, ?_⟩ (AT.sR (by omega))
    · show u2 (u2 (kI cs) 0 (kK cs) 1) 2 (kK cs) 1 x i = _
      rw [u2_n (by omega), u2_n (by omega)]
    · exact u2_n (by omega)
    · exact u2_n (by omega)
    · exact u2_n (by omega)
    · exact u2_n (by omega)
theorem bset57 {F : Nat} {cs : CS} : c_X9_beginsSet F cs 57 = some 0 := by
  unfold c_X9_beginsSet c_X9_beginsSet_b23
  rw [if_neg (by decide), if_neg (by decide), if_neg (by decide)]
  rfl
theorem b119_f {F t c oq : Nat} {T : TC_X9_readQuery} {cs : CS} (h : FS t c cs) : c_X9_readQuery_b119 F T cs t oq = some (cs, oq) := by
  unfold c_X9_readQuery_b119 c_X9_readQuery_b133
  rw [ckE_ok h.h.o, ob_s, knd_f h.h h.f, ob_s, if_neg (by decide)]
theorem L14_f {F v t c oq : Nat} {T : TC_X9_readQuery} {cs : CS} {w : Int32} (h : FS t c cs) : c_X9_readQuery_L14 F T (v + 1) cs t oq w = some (cs, oq) := by
  rw [c_X9_readQuery_L14]
  by_cases y : 2000 ≤ w
  · rw [if_pos y]
    exact b119_f h
  · rw [if_neg y, ckE_ok h.h.o, ob_s, knd_f h.h h.f, ob_s, bset57, ob_s, if_pos rfl]
    exact b119_f h
theorem qry_f {F t c cap lf : Nat} {T T2 T3 T4 : TC_X9_readQuery} {cs : CS} (hF : 10000 ≤ F) (hE : T.2.1 = cb_X9_readSelect F T2) (hR : T2.2.2.1 = cb_X9_readSources F T3) (hS : T3.2.2.2 = cb_X9_readSource F T4) (h : WS t c cap lf cs) : ∃ cs', cb_X9_readQuery F T cs t = some (cs', kK cs) ∧ WS t c cap lf cs' ∧ GF t (kK cs) cs cs' ∧ (4, kK cs) ∈ kE cs' ∧ kR cs' 330 t = kR cs 330 t ∧ kK cs' = kK cs + 22 ∧ kM cs' = kM cs + 172 := by
  have t0 := h.t0
  have c0 := h.c0
  have gw1 : GW (kK cs) cs (nO cs 4 6) := GW.nO (Nat.le_refl _)
  have kb1 : KB (nO cs 4 6) := nO_kb h.kb
  have n1 : (4, kK cs) ∈ kE (nO cs 4 6) := nO_new
  have s1 : kK (nO cs 4 6) = kK cs + 1 ∧ kM (nO cs 4 6) = kM cs + 6 := ⟨rfl, rfl⟩
  have a1 : AT cs (nO cs 4 6) 330 t := AT.ng (by omega)
  have w1 : WS t c cap lf (nO cs 4 6) := h.gf (GF.gw gw1) kb1 t0 c0
  obtain ⟨c1, hc1⟩ : ∃ x, x = nO cs 4 6 := ⟨_, rfl⟩
  have q1 : nwO cs 4 6 = some c1 := by rw [hc1]; exact nwO_ok h.kb
  rw [← hc1] at gw1 kb1 n1 s1 a1 w1
  obtain ⟨c2, e2, w2, o2, g2, r2, k2, m2⟩ := sel_f (F := F) hF hR hS w1
  obtain ⟨c3, e3, kb3, em3, k3, m3, -, -, -, -, -, -, -, -, a3⟩ := new_query (F := F) (oq := kK cs) (o := kK c1) (g2.1 _ n1) o2.e w2.kb
  have g3 : GF t (kK cs) c2 c3 := ⟨em3, by omega, fun x i hi hx => a3 x i (by omega) (by omega)⟩
  have w3 : WS t c cap lf c3 := w2.gf g3 kb3 t0 c0
  have g12 : GF t (kK cs) cs c2 := (GF.gw gw1).trans (g2.le (by omega))
  obtain ⟨v, hv⟩ : ∃ v, F = v + 1 := ⟨F - 1, by omega⟩
  refine ⟨c3, ?_, w3, g12.trans g3, em3 _ (g2.1 _ n1), ?_, by omega, by omega⟩
  · have l := L14_f (F := F) (v := v) (T := T) (oq := kK cs) (w := 0) w3.f
    rw [← hv] at l
    unfold cb_X9_readQuery c_X9_readQuery_b3 c_X9_readQuery_b8 c_X9_readQuery_b11
    rw [q1, ob_s, ckE_ok w1.f.h.o, ob_s, hE, e2, ob_s]
    show (Option.bind (c_X3_init F c2 (kK cs) (kK c1)) _) = _
    rw [e3, ob_s]
    exact l
  · rw [(a3 330 t (by omega) (by omega)).r, r2, a1.r]
/-- only the reference's SELECT, its mark and its nest have changed -/
def RB (a b : RS) : Prop := ∀ k, k ≠ 70 → k ≠ 71 → k ≠ 72 → b.1 k = a.1 k
theorem RB.refl {a : RS} : RB a a := fun _ _ _ _ => rfl
theorem RB.ar {a b : RS} (h : b.1 = a.1) : RB a b := fun k _ _ _ => by rw [h]
theorem RB.trans {a b c : RS} (h : RB a b) (g : RB b c) : RB a c := fun k a1 a2 a3 => (g k a1 a2 a3).trans (h k a1 a2 a3)
theorem RB.setF {k : Nat} {a : RS} {v : Int32} (h : k = 70 ∨ k = 71 ∨ k = 72) : RB a (setF a k v) := fun j a1 a2 a3 => pk_un (by omega)
theorem FT.rb {a b : RS} (h : FT a) (g : RB a b) : FT b := by
  obtain ⟨i, i1, i2⟩ := h.i
  exact ⟨by rw [g 21 (by decide) (by decide) (by decide)]; exact h.g, i, by rw [g 18 (by decide) (by decide) (by decide)]; exact i1, i2⟩
theorem PB.rb {t c : Nat} {cs : CS} {a b : RS} (h : PB t c cs a) (g : RB a b) : PB t c cs b := ⟨h.s, h.r.rb g, by rw [g 19 (by decide) (by decide) (by decide)]; exact h.e1, by rw [g 20 (by decide) (by decide) (by decide)]; exact h.e2⟩
theorem m736_f {F : Nat} {T : TG_queryOf} {rs : RS} {u1 u2 : Int32} (h : FT rs) : m_selectOf_b736 F T rs u1 u2 = some (setF rs 71 u2, u1) := by
  obtain ⟨i, j1, j2⟩ := h.i
  unfold m_selectOf_b736 m_selectOf_b777
  rw [tw_n j1 (iw_f h.g), ob_s, if_pos rfl]
theorem m544_f {F : Nat} {T : TG_queryOf} {rs : RS} {u1 u2 : Int32} (h : FT rs) : m_selectOf_b544 F T rs u1 u2 = some (setF rs 71 u2, u1) := by
  unfold m_selectOf_b544
  rw [iw_f h.g, ob_s, if_pos rfl]
  exact m736_f h
theorem m503_f {F : Nat} {T : TG_queryOf} {rs : RS} {u1 u2 : Int32} (h : FT rs) : ∃ rs', m_selectOf_b503 F T rs u1 u2 = some (rs', u1) ∧ RB rs rs' := by
  have r1 : RB rs (setF (setF rs 71 u1) 72 0) := (RB.setF (Or.inr (Or.inl rfl))).trans (RB.setF (Or.inr (Or.inr rfl)))
  have h1 := h.rb r1
  obtain ⟨i, j1, j2⟩ := h1.i
  refine ⟨_, ?_, r1.trans (RB.setF (k := 71) (v := u2) (Or.inr (Or.inl rfl)))⟩
  unfold m_selectOf_b503
  rw [tw_n j1 (iw_f h1.g), ob_s, if_pos rfl]
  exact m544_f h1
theorem m375_f {F v : Nat} {T : TG_queryOf} {rs : RS} {u1 u2 : Int32} (h : FT rs) : ∃ rs', m_selectOf_L375 F T (v + 1) rs u1 u2 = some (rs', u1) ∧ RB rs rs' := by
  rw [m_selectOf_L375, if_pos h.g]
  exact m503_f h
theorem msrc_f {F : Nat} {T : TG_queryOf} {rs : RS} {x1 x2 x3 : Int32} (h : FT rs) : b_source F T rs x1 x2 x3 = some rs := by
  unfold b_source
  rw [if_pos h.g]
theorem m356_f {F : Nat} {T T2 : TG_queryOf} {rs : RS} {u1 u2 : Int32} (hF : 10000 ≤ F) (hS : T.2.2 = b_source F T2) (h : FT rs) : ∃ rs', m_selectOf_b356 F T rs u1 u2 = some (rs', u1) ∧ RB rs rs' := by
  have r1 : RB rs (setF rs 72 0) := RB.setF (Or.inr (Or.inr rfl))
  have h1 := h.rb r1
  obtain ⟨i, j1, j2⟩ := h1.i
  obtain ⟨v, hv⟩ : ∃ v, F = v + 1 := ⟨F - 1, by omega⟩
  obtain ⟨rs', e1, e2⟩ := m375_f (F := F) (v := v) (T := T) (u1 := u1) (u2 := u2) h1
  rw [← hv] at e1
  refine ⟨rs', ?_, r1.trans e2⟩
  unfold m_selectOf_b356
  rw [nw_f j1 j2 h1.g, ob_s, hS, msrc_f h1, ob_s]
  exact e1
theorem m133_f {F v : Nat} {T T2 : TG_queryOf} {rs : RS} {u1 u2 u4 : Int32} (hF : 10000 ≤ F) (hS : T.2.2 = b_source F T2) (h : FT rs) : ∃ rs', m_selectOf_L133 F T (v + 1) rs u1 u2 u4 = some (rs', u1) ∧ RB rs rs' := by
  rw [m_selectOf_L133]
  by_cases y : u4 = 0
  · rw [if_pos y]
    exact m356_f hF hS h
  · rw [if_neg y, if_pos h.g]
    exact m356_f hF hS h
theorem m589_f {F v : Nat} {T : TG_queryOf} {rs : RS} {u1 u2 u4 : Int32} (h : FT rs) : m_selectOf_L589 F T (v + 1) rs u1 u2 u4 = some (setF rs 71 u2, u1) := by
  rw [m_selectOf_L589]
  by_cases y : u4 = 0
  · rw [if_pos y]
    exact m736_f h
  · rw [if_neg y, if_pos h.g]
    exact m736_f h
theorem m322_f {F : Nat} {T : TG_queryOf} {rs : RS} {u1 u2 u3 u4 y0 : Int32} (h : FT rs) : m_source_b322 F T rs u1 u2 u3 u4 y0 = some rs := by
  unfold m_source_b322
  rw [if_pos h.g]
theorem m300_f {F : Nat} {T : TG_queryOf} {rs : RS} {u1 u2 u3 u4 : Int32} (h : FT rs) : m_source_b300 F T rs u1 u2 u3 u4 = some rs := by
  obtain ⟨i, j1, j2⟩ := h.i
  unfold m_source_b300
  rw [nw_f j1 j2 h.g, ob_s, if_pos h.g]
  exact m322_f h
theorem m67_f {F : Nat} {T : TG_queryOf} {rs : RS} {u1 u2 u3 u4 y0 : Int32} (h : FT rs) : m_source_b67 F T rs u1 u2 u3 u4 y0 = some (setF rs 70 (rs.1 70 - 1)) := by
  have h1 : FT (setF rs 70 (rs.1 70 - 1)) := h.rb (RB.setF (Or.inl rfl))
  obtain ⟨i, j1, j2⟩ := h1.i
  unfold m_source_b67 m_source_b129
  rw [j1, rdI_n j2 (by decide), ob_s, ng_f j1 j2 h1.g, ob_s, if_pos h1.g]
  exact m300_f h1
theorem m197_f {F : Nat} {T : TG_queryOf} {rs : RS} {u1 : Int32} (h : FT rs) : m_queryOf_b197 F T rs u1 = some (rs, u1) := by
  unfold m_queryOf_b197 m_queryOf_b456
  rw [iw_f h.g, ob_s, if_pos rfl]
theorem m50_f {F v : Nat} {T : TG_queryOf} {rs : RS} {u1 u2 u3 u4 : Int32} (h : FT rs) : m_queryOf_L50 F T (v + 1) rs u1 u2 u3 u4 = some (rs, u1) := by
  rw [m_queryOf_L50]
  by_cases y : u2 = 0
  · rw [if_pos y]
    exact m197_f h
  · rw [if_neg y, if_pos h.g]
    exact m197_f h
theorem m122_f {F v : Nat} {T : TG_queryOf} {rs : RS} {u1 u2 u3 : Int32} (h : FT rs) : m_queryOf_b122 F T (m_queryOf_L50 F T (v + 1)) rs u1 u2 u3 = some (rs, u1) := by
  obtain ⟨i, j1, j2⟩ := h.i
  unfold m_queryOf_b122 m_queryOf_b194
  rw [j1, rdI_n j2 (by decide), ob_s, tw_n j1 (iw_f h.g), ob_s, if_pos rfl]
  show (Option.bind (m_takeWord F rs 37) fun z_36 => if z_36.2 = 0 then (Option.bind (m_takeWord F z_36.1 38) fun z_38 => if z_38.2 = 0 then _ else _) else _) = _
  rw [tw_n j1 (iw_f h.g), ob_s, if_pos rfl]
  show (Option.bind (m_takeWord F rs 38) fun z_38 => if z_38.2 = 0 then _ else _) = _
  rw [tw_n j1 (iw_f h.g), ob_s, if_pos rfl]
  exact m50_f h
theorem m423_f {F : Nat} {T : TG_queryOf} {rs : RS} {u1 : Int32} (h : FT rs) : m_queryOf_b423 F T rs u1 = some (rs, u1) := by
  unfold m_queryOf_b423 m_queryOf_b456
  rw [if_pos h.g]
theorem m376_f {F : Nat} {T : TG_queryOf} {rs : RS} {u1 : Int32} (h : FT rs) : m_queryOf_b376 F T rs u1 = some (rs, u1) := by
  obtain ⟨i, j1, j2⟩ := h.i
  unfold m_queryOf_b376
  rw [nw_f j1 j2 h.g, ob_s, if_pos h.g]
  exact m423_f h
theorem m246_f {F v : Nat} {T : TG_queryOf} {rs : RS} {u1 u2 : Int32} (h : FT rs) : m_queryOf_L246 F T (v + 1) rs u1 u2 = some (rs, u1) := by
  rw [m_queryOf_L246]
  by_cases y : u2 = 0
  · rw [if_pos y]
    exact m376_f h
  · rw [if_neg y, if_pos h.g]
    exact m376_f h

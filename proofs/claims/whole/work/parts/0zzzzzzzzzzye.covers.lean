/-! a SELECT's and a QUERY's coverage -/
theorem SR7.refl {A B S Q : Nat} {a : RS} : SR7 A B S Q a a := ⟨fun _ _ _ => rfl, fun _ _ _ => ⟨rfl, rfl⟩, fun _ _ _ => rfl, fun _ _ _ => rfl⟩
theorem wr_lt {c d : RS} {k n i : Nat} {v : Int32} (h : wrI c k n (nI i) v = some d) (hi : i < 2147483648) : i < n ∧ d = setI c k i v := by
  have hn : i < n := by
    rcases Nat.lt_or_ge i n with w | w
    · exact w
    · unfold wrI at h
      rw [if_pos (Or.inr (by rw [nI_clamp hi]; exact w))] at h
      cases h
  refine ⟨hn, ?_⟩
  have e := (wrI_some h).2
  rw [nI_clamp hi] at e
  exact e.symm
/-- a SELECT read -/
def SSP (g : RS → Option (RS × Int32)) (f : Nat) : Prop := ∀ (rs rs' : RS) (e : Int32) (S Q l : Nat), g rs = some (rs', e) → rs'.1 21 ≠ 0 → BS7 S Q l rs → ∃ S' Q' l' ns, BS7 S' Q' l' rs' ∧ e = nI S ∧ S < S' ∧ Q ≤ Q' ∧ l < l' ∧ SB7 S Q rs rs' ∧ rs'.2.2.1 37 S = nI ns ∧ ns ≤ 3 ∧ ∀ e', S < e' → e' < S' → ∃ i q', i < ns ∧ rs'.2.2.1 49 (3 * S + i) = -1 ∧ rs'.2.2.1 53 (3 * S + i) = nI q' ∧ RC7 rs' (S + 1) Q S' Q' f q' e'
def LI7 (f S Q l ns S1 Q1 l1 : Nat) (a c : RS) : Prop := (BS7 S1 Q1 l1 c) ∧ (S < S1) ∧ (Q ≤ Q1) ∧ (l + ns ≤ l1) ∧ (ns ≤ 3) ∧ (SB7 S Q a c) ∧ (c.2.2.1 37 S = nI ns) ∧ (∀ e', S < e' → e' < S1 → ∃ i q', i < ns ∧ c.2.2.1 49 (3 * S + i) = -1 ∧ c.2.2.1 53 (3 * S + i) = nI q' ∧ RC7 c (S + 1) Q S1 Q1 f q' e')
theorem LI7.b {f S Q l ns S1 Q1 l1 : Nat} {a c : RS} (h : LI7 f S Q l ns S1 Q1 l1 a c) : BS7 S1 Q1 l1 c := h.1
theorem LI7.sS {f S Q l ns S1 Q1 l1 : Nat} {a c : RS} (h : LI7 f S Q l ns S1 Q1 l1 a c) : S < S1 := h.2.1
theorem LI7.qQ {f S Q l ns S1 Q1 l1 : Nat} {a c : RS} (h : LI7 f S Q l ns S1 Q1 l1 a c) : Q ≤ Q1 := h.2.2.1
theorem LI7.lL {f S Q l ns S1 Q1 l1 : Nat} {a c : RS} (h : LI7 f S Q l ns S1 Q1 l1 a c) : l + ns ≤ l1 := h.2.2.2.1
theorem LI7.n3 {f S Q l ns S1 Q1 l1 : Nat} {a c : RS} (h : LI7 f S Q l ns S1 Q1 l1 a c) : ns ≤ 3 := h.2.2.2.2.1
theorem LI7.sb {f S Q l ns S1 Q1 l1 : Nat} {a c : RS} (h : LI7 f S Q l ns S1 Q1 l1 a c) : SB7 S Q a c := h.2.2.2.2.2.1
theorem LI7.r37 {f S Q l ns S1 Q1 l1 : Nat} {a c : RS} (h : LI7 f S Q l ns S1 Q1 l1 a c) : c.2.2.1 37 S = nI ns := h.2.2.2.2.2.2.1
theorem LI7.cv {f S Q l ns S1 Q1 l1 : Nat} {a c : RS} (h : LI7 f S Q l ns S1 Q1 l1 a c) : ∀ e', S < e' → e' < S1 → ∃ i q', i < ns ∧ c.2.2.1 49 (3 * S + i) = -1 ∧ c.2.2.1 53 (3 * S + i) = nI q' ∧ RC7 c (S + 1) Q S1 Q1 f q' e' := h.2.2.2.2.2.2.2
theorem LI7.e7 {f S Q l ns S1 Q1 l1 : Nat} {a c d : RS} (h : LI7 f S Q l ns S1 Q1 l1 a c) (e : E7 c d) : LI7 f S Q l ns S1 Q1 l1 a d := ⟨h.b.e7 e, h.sS, h.qQ, h.lL, h.n3, h.sb.trans (e.sb S Q) (Nat.le_refl _) (Nat.le_refl _), by rw [e.2.1]; exact h.r37, fun e' h1 h2 => by
  obtain ⟨i, q', g1, g2, g3, g4⟩ := h.cv e' h1 h2
  exact ⟨i, q', g1, by rw [e.2.2.1]; exact g2, by rw [e.2.2.2.1]; exact g3, RC7.mv (e.sb S1 Q1).sr (Nat.le_refl _) (Nat.le_refl _) (Nat.le_refl _) (Nat.le_refl _) f q' e' g4⟩⟩
theorem LI7.src {f S Q l ns S1 Q1 l1 S2 Q2 l2 : Nat} {a c d : RS} (h : LI7 f S Q l ns S1 Q1 l1 a c) (g : OP7 f S ns S1 Q1 l1 c d S2 Q2 l2) : LI7 f S Q l (ns + 1) S2 Q2 l2 a d := by
  have sS := h.sS
  have qQ := h.qQ
  have lL := h.lL
  have g1 := g.sS
  have g2 := g.qQ
  have g3 := g.lL
  have n2 := g.n2
  refine ⟨g.b, by omega, by omega, by omega, by omega, ⟨fun e he => (g.s37 e (by omega) (by omega)).trans (h.sb.s e he), fun o ho => ⟨(g.o o (by omega) (by omega)).1.trans (h.sb.o o ho).1, (g.o o (by omega) (by omega)).2.trans (h.sb.o o ho).2⟩, fun q hq => (g.q q (by omega)).trans (h.sb.q q hq), fun j hj => (g.k j (by omega)).trans (h.sb.k j hj)⟩, g.r37, fun e' h1 h2 => ?_⟩
  by_cases w : e' < S1
  · obtain ⟨i, q', k1, k2, k3, k4⟩ := h.cv e' h1 w
    have sr : SR7 (S + 1) Q S1 Q1 c d := ⟨fun e w1 w2 => g.s37 e w2 (by omega), fun o w1 w2 => g.o o w2 (by omega), fun q _ hq => g.q q hq, fun j _ hj => g.k j hj⟩
    exact ⟨i, q', by omega, by rw [(g.o (3 * S + i) (by omega) (by omega)).1]; exact k2, by rw [(g.o (3 * S + i) (by omega) (by omega)).2]; exact k3, RC7.mv sr (Nat.le_refl _) (Nat.le_refl _) g1 g2 f q' e' k4⟩
  · obtain ⟨k1, q', k2, k3⟩ := g.cv e' (by omega) h2
    exact ⟨ns, q', by omega, k1, k2, RC7.mv SR7.refl (by omega) qQ (Nat.le_refl _) (Nat.le_refl _) f q' e' k3⟩
theorem join_L {F f S Q l : Nat} {T : TG_queryOf} {rs rs' : RS} {e u2 : Int32} (hT : GPT_TG_queryOf T) (hO : OSP T.2.2 f) (g : rs'.1 21 ≠ 0) : ∀ (lf : Nat) (c : RS) (ns S1 Q1 l1 : Nat), 1 ≤ ns → LI7 f S Q l ns S1 Q1 l1 rs c → m_selectOf_L375 F T lf c (nI S) u2 = some (rs', e) → ∃ ns' S' Q' l', 1 ≤ ns' ∧ LI7 f S Q l ns' S' Q' l' rs rs' ∧ e = nI S := by
  intro lf
  induction lf with
  | zero => intro c ns S1 Q1 l1 _ _ h; cases (show (none : Option (RS × Int32)) = _ from h)
  | succ lf ih =>
    intro c ns S1 Q1 l1 h1 li h
    rw [m_selectOf_L375] at h
    have out : m_selectOf_b503 F T c (nI S) u2 = some (rs', e) → ∃ ns' S' Q' l', 1 ≤ ns' ∧ LI7 f S Q l ns' S' Q' l' rs rs' ∧ e = nI S := fun h => by
      obtain ⟨e1, e2⟩ := rz_m_selectOf_b503 h
      exact ⟨ns, S1, Q1, l1, h1, li.e7 e1, e2⟩
    have go : m_selectOf_b402 F T (m_selectOf_L375 F T lf) c (nI S) u2 = some (rs', e) → ∃ ns' S' Q' l', 1 ≤ ns' ∧ LI7 f S Q l ns' S' Q' l' rs rs' ∧ e = nI S := fun h => by
      unfold m_selectOf_b402 at h
      replace h := ob h; obtain ⟨z37, p37, h⟩ := h
      replace h := ob h; obtain ⟨v38, -, h⟩ := h
      replace h := ob h; obtain ⟨c39, p39, h⟩ := h
      replace h := ob h; obtain ⟨v40, -, h⟩ := h
      replace h := ob h; obtain ⟨c41, p41, h⟩ := h
      replace h := ob h; obtain ⟨c42, p42, h⟩ := h
      have l39 := li.e7 ((E7.fe (fe_m_takeWord p37)).trans (E7.fe (fe_m_needWord p39)))
      have q42 : E7 c41 c42 := ((E7.setF (by omega)).trans (E7.setF (by omega))).trans (E7.fe (fe_m_needWord p42))
      have r42 : GR c41 c42 := ((GR.sF (by omega)).trans (GR.sF (by omega))).trans (gp_m_needWord p42)
      have key : ∀ c5 u7 y, E7 c41 c5 → GR c41 c5 → m_selectOf_b482 F T (m_selectOf_L375 F T lf) c5 (nI S) u2 u7 y = some (rs', e) → ∃ c6, E7 c41 c6 ∧ GR c41 c6 ∧ m_selectOf_L375 F T lf c6 (nI S) u2 = some (rs', e) := fun c5 u7 y q5 r5 h => by
        unfold m_selectOf_b482 m_selectOf_b500 at h
        rcases ite_or h with h | h
        · exact ⟨c5, q5, r5, h⟩
        · replace h := ob h; obtain ⟨c36, p36, h⟩ := h
          exact ⟨c36, q5.trans (e7_I (by omega) p36), r5.trans ((GR.sI (by omega)).to (wrI_some p36).2), h⟩
      have nx : ∃ c6, E7 c41 c6 ∧ GR c41 c6 ∧ m_selectOf_L375 F T lf c6 (nI S) u2 = some (rs', e) := by
        rcases ite_or h with h | h
        · exact key _ _ _ q42 r42 h
        · replace h := ob h; obtain ⟨z44, p44, h⟩ := h
          exact key _ _ _ (q42.trans (E7.fe (fe_m_expr p44))) (r42.trans (gp_m_expr p44)) h
      obtain ⟨c6, q6, r6, h6⟩ := nx
      have g6 := (gp_m_selectOf_L375 hT lf _ _ _ _ _ h6 g).1
      have g41 := (r6 g6).1
      have lL := l39.lL
      obtain ⟨S2, Q2, l2, op⟩ := hO c39 c41 _ _ S ns S1 Q1 l1 p41 g41 l39.b l39.sS l39.r37 (by omega)
      exact ih c6 (ns + 1) S2 Q2 l2 (by omega) ((l39.src op).e7 q6) h6
    rcases ite_or h with h | h
    · exact out h
    · replace h := ob h; obtain ⟨v46, -, h⟩ := h
      rcases ite_or h with h | h
      · replace h := ob h; obtain ⟨v48, -, h⟩ := h
        rcases ite_or h with h | h
        · exact out h
        · exact go h
      · exact go h
theorem sel_ok {F f : Nat} {T : TG_queryOf} (hT : GPT_TG_queryOf T) (hO : OSP T.2.2 f) : SSP (b_selectOf F T) f := by
  intro rs rs' e S Q l h g bs
  have sb := bs.sb
  unfold b_selectOf at h
  replace h := ob h; obtain ⟨c83, p83, h⟩ := h
  have e83 : E7 rs c83 := E7.fe (fe_m_needWord p83)
  have b83 := bs.e7 e83
  have s83 := b83.s
  rw [s83] at h
  replace h := ob h; obtain ⟨c84, p84, h⟩ := h
  replace h := ob h; obtain ⟨c85, p85, h⟩ := h
  replace h := ob h; obtain ⟨c86, p86, h⟩ := h
  replace h := ob h; obtain ⟨c87, p87, h⟩ := h
  replace h := ob h; obtain ⟨c88, p88, h⟩ := h
  replace h := ob h; obtain ⟨c89, p89, h⟩ := h
  replace h := ob h; obtain ⟨c90, p90, h⟩ := h
  replace h := ob h; obtain ⟨c91, p91, h⟩ := h
  replace h := ob h; obtain ⟨v92, -, h⟩ := h
  obtain ⟨s60, e84⟩ := wr_lt p84 (by omega)
  obtain ⟨-, e85⟩ := wr_lt p85 (by omega)
  have q91 : E7 c85 c91 := (((((e7_I (by omega) p86).trans (e7_I (by omega) p87)).trans (e7_I (by omega) p88)).trans (e7_I (by omega) p89)).trans (e7_I (by omega) p90)).trans (e7_I (by omega) p91)
  have li85 : LI7 f S Q l 0 (S + 1) Q l rs c85 := by
    rw [e85, e84]
    refine ⟨⟨?_, ?_, ?_, bs.l3, by omega, bs.qb⟩, by omega, Nat.le_refl _, by omega, by omega, ⟨fun x hx => ?_, fun o ho => ⟨?_, ?_⟩, fun q hq => ?_, fun j hj => ?_⟩, ?_, fun e' h1 h2 => absurd h1 (by omega)⟩
    · show nI S + 1 = nI (S + 1)
      exact nI_1 S
    · exact b83.q
    · exact b83.l
    · show upd (c83.2.2.1 37) S 0 x = _
      rw [pk_un (by omega), e83.2.1]
    · show c83.2.2.1 49 o = _
      rw [e83.2.2.1]
    · show c83.2.2.1 53 o = _
      rw [e83.2.2.2.1]
    · show c83.2.2.1 60 q = _
      rw [e83.2.2.2.2.1]
    · show c83.2.2.1 61 j = _
      rw [e83.2.2.2.2.2]
    · show upd (c83.2.2.1 37) S 0 S = nI 0
      exact pk_us
  have li91 := li85.e7 q91
  have nx : ∃ r2 u2, E7 c91 r2 ∧ m_selectOf_b356 F T r2 (nI S) u2 = some (rs', e) := by
    rcases ite_or h with h | h
    · obtain ⟨r2, k1, k2⟩ := rz_m_selectOf_b116 h
      exact ⟨r2, _, k1, k2⟩
    · replace h := ob h; obtain ⟨v94, -, h⟩ := h
      obtain ⟨r2, k1, k2⟩ := rz_m_selectOf_b116 h
      exact ⟨r2, _, k1, k2⟩
  obtain ⟨r2, u2, k1, k2⟩ := nx
  unfold m_selectOf_b356 at k2
  replace k2 := ob k2; obtain ⟨c50, p50, k2⟩ := k2
  replace k2 := ob k2; obtain ⟨c51, p51, k2⟩ := k2
  have li50 := li91.e7 (k1.trans ((E7.setF (by omega)).trans (E7.fe (fe_m_needWord p50))))
  have g51 := (gp_m_selectOf_L375 hT F _ _ _ _ _ k2 g).1
  obtain ⟨S2, Q2, l2, op⟩ := hO c50 c51 _ _ S 0 (S + 1) Q l p51 g51 li50.b (by omega) li50.r37 (Nat.zero_le _)
  obtain ⟨ns, S3, Q3, l3, n1, li, ee⟩ := join_L (F := F) hT hO g F c51 1 S2 Q2 l2 (by omega) (li50.src op) k2
  have lL := li.lL
  exact ⟨S3, Q3, l3, ns, li.b, ee, li.sS, li.qQ, by omega, li.sb, li.r37, li.n3, li.cv⟩

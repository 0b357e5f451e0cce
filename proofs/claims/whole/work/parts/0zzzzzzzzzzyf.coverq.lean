/-! a QUERY's coverage -/
def QI7 (f S Q l m S1 Q1 l1 : Nat) (a c : RS) : Prop := (BS7 S1 Q1 l1 c) ∧ (S ≤ S1) ∧ (Q < Q1) ∧ (l + m ≤ l1) ∧ (m ≤ 3) ∧ (SB7 S Q a c) ∧ (c.2.2.1 60 Q = nI m) ∧ (∀ e, S ≤ e → e < S1 → ∃ k e', k < m ∧ c.2.2.1 61 (5 * Q + k) = nI e' ∧ (S ≤ e' ∧ e' < S1) ∧ (e = e' ∨ ∃ i ns q', c.2.2.1 37 e' = nI ns ∧ ns ≤ 3 ∧ i < ns ∧ c.2.2.1 49 (3 * e' + i) = -1 ∧ c.2.2.1 53 (3 * e' + i) = nI q' ∧ RC7 c S (Q + 1) S1 Q1 f q' e))
theorem QI7.b {f S Q l m S1 Q1 l1 : Nat} {a c : RS} (h : QI7 f S Q l m S1 Q1 l1 a c) : BS7 S1 Q1 l1 c := h.1
theorem QI7.sS {f S Q l m S1 Q1 l1 : Nat} {a c : RS} (h : QI7 f S Q l m S1 Q1 l1 a c) : S ≤ S1 := h.2.1
theorem QI7.qQ {f S Q l m S1 Q1 l1 : Nat} {a c : RS} (h : QI7 f S Q l m S1 Q1 l1 a c) : Q < Q1 := h.2.2.1
theorem QI7.lL {f S Q l m S1 Q1 l1 : Nat} {a c : RS} (h : QI7 f S Q l m S1 Q1 l1 a c) : l + m ≤ l1 := h.2.2.2.1
theorem QI7.m3 {f S Q l m S1 Q1 l1 : Nat} {a c : RS} (h : QI7 f S Q l m S1 Q1 l1 a c) : m ≤ 3 := h.2.2.2.2.1
theorem QI7.sb {f S Q l m S1 Q1 l1 : Nat} {a c : RS} (h : QI7 f S Q l m S1 Q1 l1 a c) : SB7 S Q a c := h.2.2.2.2.2.1
theorem QI7.r60 {f S Q l m S1 Q1 l1 : Nat} {a c : RS} (h : QI7 f S Q l m S1 Q1 l1 a c) : c.2.2.1 60 Q = nI m := h.2.2.2.2.2.2.1
theorem QI7.cv {f S Q l m S1 Q1 l1 : Nat} {a c : RS} (h : QI7 f S Q l m S1 Q1 l1 a c) : ∀ e, S ≤ e → e < S1 → ∃ k e', k < m ∧ c.2.2.1 61 (5 * Q + k) = nI e' ∧ (S ≤ e' ∧ e' < S1) ∧ (e = e' ∨ ∃ i ns q', c.2.2.1 37 e' = nI ns ∧ ns ≤ 3 ∧ i < ns ∧ c.2.2.1 49 (3 * e' + i) = -1 ∧ c.2.2.1 53 (3 * e' + i) = nI q' ∧ RC7 c S (Q + 1) S1 Q1 f q' e) := h.2.2.2.2.2.2.2
theorem QI7.e7 {f S Q l m S1 Q1 l1 : Nat} {a c d : RS} (h : QI7 f S Q l m S1 Q1 l1 a c) (e : E7 c d) : QI7 f S Q l m S1 Q1 l1 a d := ⟨h.b.e7 e, h.sS, h.qQ, h.lL, h.m3, h.sb.trans (e.sb S Q) (Nat.le_refl _) (Nat.le_refl _), by rw [e.2.2.2.2.1]; exact h.r60, fun x h1 h2 => by
  obtain ⟨k, e', g1, g2, g3, g4⟩ := h.cv x h1 h2
  refine ⟨k, e', g1, by rw [e.2.2.2.2.2]; exact g2, g3, ?_⟩
  rcases g4 with g4 | ⟨i, ns, q', k1, k2, k3, k4, k5, k6⟩
  · exact Or.inl g4
  · exact Or.inr ⟨i, ns, q', by rw [e.2.1]; exact k1, k2, k3, by rw [e.2.2.1]; exact k4, by rw [e.2.2.2.1]; exact k5, RC7.mv (e.sb S1 Q1).sr (Nat.le_refl _) (Nat.le_refl _) (Nat.le_refl _) (Nat.le_refl _) f q' x k6⟩⟩
theorem rz_b122 {F : Nat} {T : TG_queryOf} {rc : RS → Int32 → Int32 → Int32 → Int32 → Option (RS × Int32)} {c : RS} {u1 u2 u3 : Int32} {z : RS × Int32} (h : m_queryOf_b122 F T rc c u1 u2 u3 = some z) : ∃ r2 a1 a2 a3, E7 c r2 ∧ rc r2 u1 a1 a2 a3 = some z := by
  unfold m_queryOf_b122 m_queryOf_b158 m_queryOf_b194 at h
  replace h := ob h; obtain ⟨v33, -, h⟩ := h
  replace h := ob h; obtain ⟨z34, p34, h⟩ := h
  have q34 : E7 c z34.1 := E7.fe (fe_m_takeWord p34)
  rcases ite_or h with h | h
  · replace h := ob h; obtain ⟨z36, p36, h⟩ := h
    have q36 := q34.trans (E7.fe (fe_m_takeWord p36))
    rcases ite_or h with h | h
    · replace h := ob h; obtain ⟨z38, p38, h⟩ := h
      have q38 := q36.trans (E7.fe (fe_m_takeWord p38))
      rcases ite_or h with h | h
      · exact ⟨_, _, _, _, q38, h⟩
      · exact ⟨_, _, _, _, q38, h⟩
    · exact ⟨_, _, _, _, q36, h⟩
  · replace h := ob h; obtain ⟨z40, p40, h⟩ := h
    have q40 := q34.trans (E7.fe (fe_m_takeWord p40))
    rcases ite_or h with h | h
    · exact ⟨_, _, _, _, q40, h⟩
    · exact ⟨_, _, _, _, q40, h⟩
theorem qry_L {F f S Q l : Nat} {T : TG_queryOf} {rs rs' : RS} {q : Int32} (hT : GPT_TG_queryOf T) (hS : SSP T.2.1 f) (g : rs'.1 21 ≠ 0) : ∀ (lf : Nat) (c : RS) (u2 u3 u4 : Int32) (m S1 Q1 l1 : Nat), (m = 0 → u2 ≠ 0) → QI7 f S Q l m S1 Q1 l1 rs c → m_queryOf_L50 F T lf c (nI Q) u2 u3 u4 = some (rs', q) → ∃ m' S' Q' l', 1 ≤ m' ∧ QI7 f S Q l m' S' Q' l' rs rs' ∧ q = nI Q := by
  intro lf
  induction lf with
  | zero => intro c u2 u3 u4 m S1 Q1 l1 _ _ h; cases (show (none : Option (RS × Int32)) = _ from h)
  | succ lf ih =>
    intro c u2 u3 u4 m S1 Q1 l1 hm qi h
    have gc := (gp_m_queryOf_L50 hT _ _ _ _ _ _ _ _ h g).1
    rw [m_queryOf_L50] at h
    have out : 1 ≤ m → m_queryOf_b197 F T c (nI Q) = some (rs', q) → ∃ m' S' Q' l', 1 ≤ m' ∧ QI7 f S Q l m' S' Q' l' rs rs' ∧ q = nI Q := fun h1 h => by
      obtain ⟨e1, e2⟩ := rz_m_queryOf_b197 h
      exact ⟨m, S1, Q1, l1, h1, qi.e7 e1, e2⟩
    by_cases z2 : u2 = 0
    · rw [if_pos z2] at h
      exact out (by
        rcases Nat.eq_zero_or_pos m with w | w
        · exact absurd z2 (hm w)
        · exact w) h
    · rw [if_neg z2, if_neg gc] at h
      replace h := ob h; obtain ⟨z44, p44, h⟩ := h
      replace h := ob h; obtain ⟨v45, p45, h⟩ := h
      by_cases z3 : z44.1.1 21 = 0
      · rw [if_pos z3] at h
        exact ((gp_m_queryOf_b122 hT (gp_m_queryOf_L50 hT lf) h g).1 z3).elim
      · rw [if_neg z3] at h
        obtain ⟨S2, Q2, l2, ns, b2, e2, sS, qQ, lL, sb2, r37, n3, cv⟩ := hS c z44.1 z44.2 S1 Q1 l1 p44 z3 qi.b
        have l32 := b2.l3
        have ql := qi.lL
        have qq := qi.qQ
        have ss := qi.sS
        have qb := b2.qb
        have v45' : v45 = nI m := by
          rw [rdI_n (show Q < 60 by omega) (by omega)] at p45
          rw [← Option.some.inj p45, sb2.q Q qq]
          exact qi.r60
        have u5 : (5 : Int32) * nI Q + nI m = nI (5 * Q + m) := by rw [show (5 : Int32) = nI 5 from rfl, pk_mul, nI_add]
        rw [v45', u5, wrI_n (show 5 * Q + m < 300 by omega) (by omega), ob_s, wrI_n (show 5 * Q + m < 300 by omega) (by omega), ob_s, wrI_n (show 5 * Q + m < 300 by omega) (by omega), ob_s, rdI_n (show Q < 60 by omega) (by omega), ob_s, wrI_n (show Q < 60 by omega) (by omega), ob_s] at h
        obtain ⟨c49, h49⟩ : ∃ z, z = setI (setI (setI z44.1 61 (5 * Q + m) z44.2) 62 (5 * Q + m) u3) 63 (5 * Q + m) u4 := ⟨_, rfl⟩
        rw [← h49] at h
        have k60 : c49.2.2.1 60 Q = nI m := by
          rw [h49]
          show z44.1.2.2.1 60 Q = nI m
          rw [sb2.q Q qq]
          exact qi.r60
        rw [k60, nI_1] at h
        obtain ⟨r2, a1, a2, a3, q2, h2⟩ := rz_b122 h
        obtain ⟨c51, h51⟩ : ∃ z, z = setI c49 60 Q (nI (m + 1)) := ⟨_, rfl⟩
        rw [← h51] at q2
        have d37 : c51.2.2.1 37 = z44.1.2.2.1 37 := by rw [h51, h49]; rfl
        have d49 : c51.2.2.1 49 = z44.1.2.2.1 49 := by rw [h51, h49]; rfl
        have d53 : c51.2.2.1 53 = z44.1.2.2.1 53 := by rw [h51, h49]; rfl
        have d60 : c51.2.2.1 60 = upd (z44.1.2.2.1 60) Q (nI (m + 1)) := by rw [h51, h49]; rfl
        have d61 : c51.2.2.1 61 = upd (z44.1.2.2.1 61) (5 * Q + m) z44.2 := by rw [h51, h49]; rfl
        have sr1 : SR7 S (Q + 1) S1 Q1 c c51 := by
          refine ⟨fun x _ hx => ?_, fun o _ ho => ⟨?_, ?_⟩, fun y hy1 hy2 => ?_, fun j hj1 hj2 => ?_⟩
          · rw [d37, sb2.s x hx]
          · rw [d49, (sb2.o o ho).1]
          · rw [d53, (sb2.o o ho).2]
          · rw [d60, pk_un (by omega), sb2.q y hy2]
          · rw [d61, pk_un (by omega), sb2.k j hj2]
        have sr2 : SR7 (S1 + 1) Q1 S2 Q2 z44.1 c51 := by
          refine ⟨fun x _ hx => ?_, fun o _ ho => ⟨?_, ?_⟩, fun y hy1 hy2 => ?_, fun j hj1 hj2 => ?_⟩
          · rw [d37]
          · rw [d49]
          · rw [d53]
          · rw [d60, pk_un (by omega)]
          · rw [d61, pk_un (by omega)]
        have qi51 : QI7 f S Q l (m + 1) S2 Q2 l2 rs c51 := by
          refine ⟨?_, by omega, by omega, by omega, by omega, ⟨fun x hx => ?_, fun o ho => ⟨?_, ?_⟩, fun y hy => ?_, fun j hj => ?_⟩, ?_, fun x h1 h2 => ?_⟩
          · rw [h51, h49]
            exact ⟨b2.s, b2.q, b2.l, b2.l3, b2.sb, b2.qb⟩
          · rw [d37, sb2.s x (by omega)]
            exact qi.sb.s x hx
          · rw [d49, (sb2.o o (by omega)).1]
            exact (qi.sb.o o ho).1
          · rw [d53, (sb2.o o (by omega)).2]
            exact (qi.sb.o o ho).2
          · rw [d60, pk_un (by omega), sb2.q y (by omega)]
            exact qi.sb.q y hy
          · rw [d61, pk_un (by omega), sb2.k j (by omega)]
            exact qi.sb.k j hj
          · rw [d60]
            exact pk_us
          · by_cases w : x < S1
            · obtain ⟨k, e', g1, g2, g3, g4⟩ := qi.cv x h1 w
              refine ⟨k, e', by omega, by rw [d61, pk_un (by omega), sb2.k _ (by omega)]; exact g2, ⟨g3.1, by omega⟩, ?_⟩
              rcases g4 with g4 | ⟨i, ns', q', k1, k2, k3, k4, k5, k6⟩
              · exact Or.inl g4
              · exact Or.inr ⟨i, ns', q', by rw [d37, sb2.s e' g3.2]; exact k1, k2, k3, by rw [d49, (sb2.o _ (by omega)).1]; exact k4, by rw [d53, (sb2.o _ (by omega)).2]; exact k5, RC7.mv sr1 (Nat.le_refl _) (Nat.le_refl _) (by omega) qQ f q' x k6⟩
            · refine ⟨m, S1, by omega, by rw [d61, pk_us]; exact e2, ⟨ss, sS⟩, ?_⟩
              by_cases w2 : x = S1
              · exact Or.inl w2
              · obtain ⟨i, q', k1, k2, k3, k4⟩ := cv x (by omega) h2
                exact Or.inr ⟨i, ns, q', by rw [d37]; exact r37, n3, k1, by rw [d49]; exact k2, by rw [d53]; exact k3, RC7.mv sr2 (by omega) (by omega) (Nat.le_refl _) (Nat.le_refl _) f q' x k4⟩
        exact ih r2 a1 a2 a3 (m + 1) S2 Q2 l2 (fun w => absurd w (by omega)) (qi51.e7 q2) h2
theorem qry_ok {F f : Nat} {T : TG_queryOf} (hT : GPT_TG_queryOf T) (hS : SSP T.2.1 f) : QSP (b_queryOf F T) (f + 1) := by
  intro rs rs' q S Q l h g bs
  have qb := bs.qb
  unfold b_queryOf at h
  rw [bs.q] at h
  replace h := ob h; obtain ⟨c52, p52, h⟩ := h
  replace h := ob h; obtain ⟨c53, p53, h⟩ := h
  replace h := ob h; obtain ⟨c54, p54, h⟩ := h
  replace h := ob h; obtain ⟨c55, p55, h⟩ := h
  obtain ⟨q60, e52⟩ := wr_lt p52 (by omega)
  have q55 : E7 c52 c55 := ((e7_I (by omega) p53).trans (e7_I (by omega) p54)).trans (e7_I (by omega) p55)
  have q52 : QI7 f S Q l 0 S (Q + 1) l rs c52 := by
    rw [e52]
    refine ⟨⟨bs.s, ?_, bs.l, bs.l3, bs.sb, by omega⟩, Nat.le_refl _, by omega, by omega, by omega, ⟨fun _ _ => rfl, fun _ _ => ⟨rfl, rfl⟩, fun y hy => ?_, fun _ _ => rfl⟩, ?_, fun x h1 h2 => absurd h1 (by omega)⟩
    · show nI Q + 1 = nI (Q + 1)
      exact nI_1 Q
    · show upd (rs.2.2.1 60) Q 0 y = _
      exact pk_un (by omega)
    · show upd (rs.2.2.1 60) Q 0 Q = nI 0
      exact pk_us
  obtain ⟨m, S1, Q1, l1, m1, qi, ee⟩ := qry_L (F := F) hT hS g F c55 1 0 0 0 S (Q + 1) l (fun _ => by decide) (q52.e7 q55) h
  have lL := qi.lL
  refine ⟨S1, Q1, l1, qi.b, ee, qi.sS, qi.qQ, by omega, qi.sb, fun x h1 h2 => ?_⟩
  obtain ⟨k, e', g1, g2, g3, g4⟩ := qi.cv x h1 h2
  refine ⟨⟨Nat.le_refl _, qi.qQ⟩, k, m, e', qi.r60, qi.m3, g1, g2, g3, ?_⟩
  rcases g4 with g4 | ⟨i, ns, q', k1, k2, k3, k4, k5, k6⟩
  · exact Or.inl g4
  · exact Or.inr ⟨i, ns, q', k1, k2, k3, k4, k5, RC7.mv SR7.refl (Nat.le_refl _) (by omega) (Nat.le_refl _) (Nat.le_refl _) f q' x k6⟩
theorem OSP.up {g : RS → Int32 → Int32 → Int32 → Option RS} {f : Nat} (h : OSP g f) : OSP g (f + 1) := fun rs rs' x2 x3 s ns S Q l a1 a2 a3 a4 a5 a6 => by
  obtain ⟨S', Q', l', o⟩ := h rs rs' x2 x3 s ns S Q l a1 a2 a3 a4 a5 a6
  exact ⟨S', Q', l', ⟨o.b, o.sS, o.qQ, o.lL, o.n2, o.r37, o.s37, o.o, o.q, o.k, fun e h1 h2 => ⟨(o.cv e h1 h2).1, by
    obtain ⟨-, q', k1, k2⟩ := o.cv e h1 h2
    exact ⟨q', k1, RC7.fuel _ _ _ k2⟩⟩⟩⟩
theorem QSP.up {g : RS → Option (RS × Int32)} {f : Nat} (h : QSP g f) : QSP g (f + 1) := fun rs rs' q S Q l a1 a2 a3 => by
  obtain ⟨S', Q', l', k1, k2, k3, k4, k5, k6, k7⟩ := h rs rs' q S Q l a1 a2 a3
  exact ⟨S', Q', l', k1, k2, k3, k4, k5, k6, fun e h1 h2 => RC7.fuel _ _ _ (k7 e h1 h2)⟩
theorem cov_tab {F : Nat} : ∀ n, QSP (tab_queryOf F n).1 n ∧ SSP (tab_queryOf F n).2.1 n ∧ OSP (tab_queryOf F n).2.2 n
  | 0 => ⟨fun _ _ _ _ _ _ h => (by cases (show (none : Option (RS × Int32)) = _ from h)), fun _ _ _ _ _ _ h => (by cases (show (none : Option (RS × Int32)) = _ from h)), fun _ _ _ _ _ _ _ _ _ h => (by cases (show (none : Option RS) = _ from h))⟩
  | n + 1 => by
    obtain ⟨h1, h2, h3⟩ := cov_tab (F := F) n
    have hT := gp_tab_queryOf F n
    exact ⟨qry_ok hT h2, sel_ok hT h3.up, (src_ok hT h1).up⟩

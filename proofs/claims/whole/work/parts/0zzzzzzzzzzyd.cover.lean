/-! every select that was read stands in the tree: the reference alone -/
def BS7 (S Q l : Nat) (rs : RS) : Prop := (rs.1 34 = nI S) ∧ (rs.1 59 = nI Q) ∧ (rs.1 69 = nI l) ∧ (l ≤ 3) ∧ (S ≤ 60) ∧ (Q ≤ 60)
theorem BS7.s {S Q l : Nat} {rs : RS} (h : BS7 S Q l rs) : rs.1 34 = nI S := h.1
theorem BS7.q {S Q l : Nat} {rs : RS} (h : BS7 S Q l rs) : rs.1 59 = nI Q := h.2.1
theorem BS7.l {S Q l : Nat} {rs : RS} (h : BS7 S Q l rs) : rs.1 69 = nI l := h.2.2.1
theorem BS7.l3 {S Q l : Nat} {rs : RS} (h : BS7 S Q l rs) : l ≤ 3 := h.2.2.2.1
theorem BS7.sb {S Q l : Nat} {rs : RS} (h : BS7 S Q l rs) : S ≤ 60 := h.2.2.2.2.1
theorem BS7.qb {S Q l : Nat} {rs : RS} (h : BS7 S Q l rs) : Q ≤ 60 := h.2.2.2.2.2
def SB7 (S Q : Nat) (a b : RS) : Prop := (∀ e, e < S → b.2.2.1 37 e = a.2.2.1 37 e) ∧ (∀ o, o < 3 * S → b.2.2.1 49 o = a.2.2.1 49 o ∧ b.2.2.1 53 o = a.2.2.1 53 o) ∧ (∀ q, q < Q → b.2.2.1 60 q = a.2.2.1 60 q) ∧ (∀ j, j < 5 * Q → b.2.2.1 61 j = a.2.2.1 61 j)
theorem SB7.s {S Q : Nat} {a b : RS} (h : SB7 S Q a b) : ∀ e, e < S → b.2.2.1 37 e = a.2.2.1 37 e := h.1
theorem SB7.o {S Q : Nat} {a b : RS} (h : SB7 S Q a b) : ∀ o, o < 3 * S → b.2.2.1 49 o = a.2.2.1 49 o ∧ b.2.2.1 53 o = a.2.2.1 53 o := h.2.1
theorem SB7.q {S Q : Nat} {a b : RS} (h : SB7 S Q a b) : ∀ q, q < Q → b.2.2.1 60 q = a.2.2.1 60 q := h.2.2.1
theorem SB7.k {S Q : Nat} {a b : RS} (h : SB7 S Q a b) : ∀ j, j < 5 * Q → b.2.2.1 61 j = a.2.2.1 61 j := h.2.2.2
def RC7 (rs : RS) (A B S Q : Nat) : Nat → Nat → Nat → Prop
  | 0, _, _ => False
  | n + 1, q, e => (B ≤ q ∧ q < Q) ∧ ∃ k m e', rs.2.2.1 60 q = nI m ∧ m ≤ 3 ∧ k < m ∧ rs.2.2.1 61 (5 * q + k) = nI e' ∧ (A ≤ e' ∧ e' < S) ∧ (e = e' ∨ ∃ i ns q', rs.2.2.1 37 e' = nI ns ∧ ns ≤ 3 ∧ i < ns ∧ rs.2.2.1 49 (3 * e' + i) = -1 ∧ rs.2.2.1 53 (3 * e' + i) = nI q' ∧ RC7 rs A B S Q n q' e)
theorem RC7.fuel {rs : RS} {A B S Q : Nat} : ∀ n q e, RC7 rs A B S Q n q e → RC7 rs A B S Q (n + 1) q e := by
  intro n
  induction n with
  | zero => exact fun _ _ h => h.elim
  | succ n ih =>
    intro q e h
    obtain ⟨h1, k, m, e', h2, h3, h4, h5, h6, h7⟩ := h
    refine ⟨h1, k, m, e', h2, h3, h4, h5, h6, ?_⟩
    rcases h7 with h7 | ⟨i, ns, q', g1, g2, g3, g4, g5, g6⟩
    · exact Or.inl h7
    · exact Or.inr ⟨i, ns, q', g1, g2, g3, g4, g5, ih q' e g6⟩
def SR7 (A B S Q : Nat) (a b : RS) : Prop := (∀ e, A ≤ e → e < S → b.2.2.1 37 e = a.2.2.1 37 e) ∧ (∀ o, 3 * A ≤ o → o < 3 * S → b.2.2.1 49 o = a.2.2.1 49 o ∧ b.2.2.1 53 o = a.2.2.1 53 o) ∧ (∀ q, B ≤ q → q < Q → b.2.2.1 60 q = a.2.2.1 60 q) ∧ (∀ j, 5 * B ≤ j → j < 5 * Q → b.2.2.1 61 j = a.2.2.1 61 j)
theorem SR7.s {A B S Q : Nat} {a b : RS} (h : SR7 A B S Q a b) : ∀ e, A ≤ e → e < S → b.2.2.1 37 e = a.2.2.1 37 e := h.1
theorem SR7.o {A B S Q : Nat} {a b : RS} (h : SR7 A B S Q a b) : ∀ o, 3 * A ≤ o → o < 3 * S → b.2.2.1 49 o = a.2.2.1 49 o ∧ b.2.2.1 53 o = a.2.2.1 53 o := h.2.1
theorem SR7.q {A B S Q : Nat} {a b : RS} (h : SR7 A B S Q a b) : ∀ q, B ≤ q → q < Q → b.2.2.1 60 q = a.2.2.1 60 q := h.2.2.1
theorem SR7.k {A B S Q : Nat} {a b : RS} (h : SR7 A B S Q a b) : ∀ j, 5 * B ≤ j → j < 5 * Q → b.2.2.1 61 j = a.2.2.1 61 j := h.2.2.2
theorem SB7.sr {A B S Q : Nat} {a b : RS} (h : SB7 S Q a b) : SR7 A B S Q a b := ⟨fun e _ he => h.s e he, fun o _ ho => h.o o ho, fun q _ hq => h.q q hq, fun j _ hj => h.k j hj⟩
theorem RC7.mv {a b : RS} {A B S Q A' B' S' Q' : Nat} (sb : SR7 A B S Q a b) (hA : A' ≤ A) (hB : B' ≤ B) (hS : S ≤ S') (hQ : Q ≤ Q') : ∀ n q e, RC7 a A B S Q n q e → RC7 b A' B' S' Q' n q e := by
  intro n
  induction n with
  | zero => exact fun _ _ h => h.elim
  | succ n ih =>
    intro q e h
    obtain ⟨⟨h8, h1⟩, k, m, e', h2, h3, h4, h5, ⟨h0, h6⟩, h7⟩ := h
    refine ⟨⟨by omega, by omega⟩, k, m, e', by rw [sb.q q h8 h1]; exact h2, h3, h4, by rw [sb.k _ (by omega) (by omega)]; exact h5, ⟨by omega, by omega⟩, ?_⟩
    rcases h7 with h7 | ⟨i, ns, q', g1, g2, g3, g4, g5, g6⟩
    · exact Or.inl h7
    · exact Or.inr ⟨i, ns, q', by rw [sb.s e' h0 h6]; exact g1, g2, g3, by rw [(sb.o _ (by omega) (by omega)).1]; exact g4, by rw [(sb.o _ (by omega) (by omega)).2]; exact g5, ih q' e g6⟩
theorem SB7.refl {S Q : Nat} {a : RS} : SB7 S Q a a := ⟨fun _ _ => rfl, fun _ _ => ⟨rfl, rfl⟩, fun _ _ => rfl, fun _ _ => rfl⟩
theorem SB7.trans {S Q S' Q' : Nat} {a b c : RS} (h : SB7 S Q a b) (g : SB7 S' Q' b c) (hS : S ≤ S') (hQ : Q ≤ Q') : SB7 S Q a c := ⟨fun e he => (g.s e (by omega)).trans (h.s e he), fun o ho => ⟨(g.o o (by omega)).1.trans (h.o o ho).1, (g.o o (by omega)).2.trans (h.o o ho).2⟩, fun q hq => (g.q q (by omega)).trans (h.q q hq), fun j hj => (g.k j (by omega)).trans (h.k j hj)⟩
theorem E7.sb {a b : RS} (h : E7 a b) (S Q : Nat) : SB7 S Q a b := ⟨fun _ _ => by rw [h.2.1], fun _ _ => ⟨by rw [h.2.2.1], by rw [h.2.2.2.1]⟩, fun _ _ => by rw [h.2.2.2.2.1], fun _ _ => by rw [h.2.2.2.2.2]⟩
theorem BS7.e7 {S Q l : Nat} {a b : RS} (h : BS7 S Q l a) (e : E7 a b) : BS7 S Q l b := ⟨by rw [e.1.1]; exact h.s, by rw [e.1.2.1]; exact h.q, by rw [e.1.2.2]; exact h.l, h.l3, h.sb, h.qb⟩
/-- a QUERY read -/
def QSP (g : RS → Option (RS × Int32)) (f : Nat) : Prop := ∀ (rs rs' : RS) (q : Int32) (S Q l : Nat), g rs = some (rs', q) → rs'.1 21 ≠ 0 → BS7 S Q l rs → ∃ S' Q' l', BS7 S' Q' l' rs' ∧ q = nI Q ∧ S ≤ S' ∧ Q < Q' ∧ l < l' ∧ SB7 S Q rs rs' ∧ ∀ e, S ≤ e → e < S' → RC7 rs' S Q S' Q' f Q e
def OP7 (f s ns S Q l : Nat) (a b : RS) (S' Q' l' : Nat) : Prop := (BS7 S' Q' l' b) ∧ (S ≤ S') ∧ (Q ≤ Q') ∧ (l < l') ∧ (ns ≤ 2) ∧ (b.2.2.1 37 s = nI (ns + 1)) ∧ (∀ e, e < S → e ≠ s → b.2.2.1 37 e = a.2.2.1 37 e) ∧ (∀ o, o < 3 * S → o ≠ 3 * s + ns → b.2.2.1 49 o = a.2.2.1 49 o ∧ b.2.2.1 53 o = a.2.2.1 53 o) ∧ (∀ q, q < Q → b.2.2.1 60 q = a.2.2.1 60 q) ∧ (∀ j, j < 5 * Q → b.2.2.1 61 j = a.2.2.1 61 j) ∧ (∀ e, S ≤ e → e < S' → b.2.2.1 49 (3 * s + ns) = -1 ∧ ∃ q', b.2.2.1 53 (3 * s + ns) = nI q' ∧ RC7 b S Q S' Q' f q' e)
theorem OP7.b {f s ns S Q l : Nat} {a b : RS} {S' Q' l' : Nat} (h : OP7 f s ns S Q l a b S' Q' l') : BS7 S' Q' l' b := h.1
theorem OP7.sS {f s ns S Q l : Nat} {a b : RS} {S' Q' l' : Nat} (h : OP7 f s ns S Q l a b S' Q' l') : S ≤ S' := h.2.1
theorem OP7.qQ {f s ns S Q l : Nat} {a b : RS} {S' Q' l' : Nat} (h : OP7 f s ns S Q l a b S' Q' l') : Q ≤ Q' := h.2.2.1
theorem OP7.lL {f s ns S Q l : Nat} {a b : RS} {S' Q' l' : Nat} (h : OP7 f s ns S Q l a b S' Q' l') : l < l' := h.2.2.2.1
theorem OP7.n2 {f s ns S Q l : Nat} {a b : RS} {S' Q' l' : Nat} (h : OP7 f s ns S Q l a b S' Q' l') : ns ≤ 2 := h.2.2.2.2.1
theorem OP7.r37 {f s ns S Q l : Nat} {a b : RS} {S' Q' l' : Nat} (h : OP7 f s ns S Q l a b S' Q' l') : b.2.2.1 37 s = nI (ns + 1) := h.2.2.2.2.2.1
theorem OP7.s37 {f s ns S Q l : Nat} {a b : RS} {S' Q' l' : Nat} (h : OP7 f s ns S Q l a b S' Q' l') : ∀ e, e < S → e ≠ s → b.2.2.1 37 e = a.2.2.1 37 e := h.2.2.2.2.2.2.1
theorem OP7.o {f s ns S Q l : Nat} {a b : RS} {S' Q' l' : Nat} (h : OP7 f s ns S Q l a b S' Q' l') : ∀ o, o < 3 * S → o ≠ 3 * s + ns → b.2.2.1 49 o = a.2.2.1 49 o ∧ b.2.2.1 53 o = a.2.2.1 53 o := h.2.2.2.2.2.2.2.1
theorem OP7.q {f s ns S Q l : Nat} {a b : RS} {S' Q' l' : Nat} (h : OP7 f s ns S Q l a b S' Q' l') : ∀ q, q < Q → b.2.2.1 60 q = a.2.2.1 60 q := h.2.2.2.2.2.2.2.2.1
theorem OP7.k {f s ns S Q l : Nat} {a b : RS} {S' Q' l' : Nat} (h : OP7 f s ns S Q l a b S' Q' l') : ∀ j, j < 5 * Q → b.2.2.1 61 j = a.2.2.1 61 j := h.2.2.2.2.2.2.2.2.2.1
theorem OP7.cv {f s ns S Q l : Nat} {a b : RS} {S' Q' l' : Nat} (h : OP7 f s ns S Q l a b S' Q' l') : ∀ e, S ≤ e → e < S' → b.2.2.1 49 (3 * s + ns) = -1 ∧ ∃ q', b.2.2.1 53 (3 * s + ns) = nI q' ∧ RC7 b S Q S' Q' f q' e := h.2.2.2.2.2.2.2.2.2.2
/-- a SOURCE read -/
def OSP (g : RS → Int32 → Int32 → Int32 → Option RS) (f : Nat) : Prop := ∀ (rs rs' : RS) (x2 x3 : Int32) (s ns S Q l : Nat), g rs (nI s) x2 x3 = some rs' → rs'.1 21 ≠ 0 → BS7 S Q l rs → s < S → rs.2.2.1 37 s = nI ns → ns ≤ l → ∃ S' Q' l', OP7 f s ns S Q l rs rs' S' Q' l'
theorem tell_0 {F : Nat} {cs c : RS} {x y : Int32} (h : m_tell F cs x y = some c) : c.1 21 = 0 := by
  unfold m_tell m_tell_b22 at h
  by_cases z : cs.1 21 = 0
  · rw [if_pos z] at h
    rw [← Option.some.inj h]
    exact z
  · rw [if_neg z] at h
    rw [← Option.some.inj h]
    rfl
theorem wrong_0 {F : Nat} {cs c : RS} (h : m_wrong F cs = some c) : c.1 21 = 0 := by
  unfold m_wrong at h
  replace h := ob h; obtain ⟨v, -, h⟩ := h
  replace h := ob h; obtain ⟨c2, g2, h⟩ := h
  rw [← Option.some.inj h]
  exact tell_0 g2
theorem src_fin {F : Nat} {T : TG_queryOf} {c rs' : RS} {u1 x2 x3 u4 : Int32} (h : m_source_b300 F T c u1 x2 x3 u4 = some rs') (g : rs'.1 21 ≠ 0) : ∃ c', E7 c c' ∧ m_source_b446 F T c' u1 = some rs' := by
  unfold m_source_b300 at h
  replace h := ob h; obtain ⟨c1, g1, h⟩ := h
  have q1 : E7 c c1 := E7.fe (fe_m_needWord g1)
  have key : ∀ c2 y, E7 c c2 → m_source_b322 F T c2 u1 x2 x3 u4 y = some rs' → ∃ c', E7 c c' ∧ m_source_b446 F T c' u1 = some rs' := fun c2 y q h => by
    unfold m_source_b322 at h
    by_cases z : c2.1 21 = 0
    · rw [if_pos z] at h
      exact absurd (by rw [← Option.some.inj h]; exact z) g
    · rw [if_neg z] at h
      replace h := ob h; obtain ⟨d1, p1, h⟩ := h
      replace h := ob h; obtain ⟨d2, p2, h⟩ := h
      replace h := ob h; obtain ⟨d3, p3, h⟩ := h
      replace h := ob h; obtain ⟨d4, p4, h⟩ := h
      replace h := ob h; obtain ⟨d5, p5, h⟩ := h
      replace h := ob h; obtain ⟨v9, -, h⟩ := h
      have q5 : E7 c d5 := ((((q.trans (e7_I (by omega) p1)).trans (e7_I (by omega) p2)).trans (e7_I (by omega) p3)).trans (e7_I (by omega) p4)).trans (e7_I (by omega) p5)
      rcases ite_or h with h | h
      · exact ⟨d5, q5, h⟩
      · replace h := ob h; obtain ⟨z11, p11, h⟩ := h
        have q11 : E7 c z11.1 := q5.trans (E7.fe (fe_m_takeWord p11))
        rcases ite_or h with h | h
        · exact ⟨_, q11, h⟩
        · replace h := ob h; obtain ⟨v13, -, h⟩ := h
          rcases ite_or h with h | h
          · replace h := ob h; obtain ⟨d6, p6, h⟩ := h
            replace h := ob h; obtain ⟨v16, -, h⟩ := h
            replace h := ob h; obtain ⟨d7, p7, h⟩ := h
            exact ⟨_, ((q11.trans (e7_I (by omega) p6)).trans (e7_L p7)).trans (E7.setF (by omega)), h⟩
          · replace h := ob h; obtain ⟨d8, p8, h⟩ := h
            exact absurd (by rw [← Option.some.inj h]; exact wrong_0 p8) g
  rcases ite_or h with h | h
  · exact key c1 0 q1 h
  · replace h := ob h; obtain ⟨z, g2, h⟩ := h
    exact key _ _ (q1.trans (E7.fe (fe_m_name g2))) h
theorem b446_ok {F s ns : Nat} {T : TG_queryOf} {c rs' : RS} (h : m_source_b446 F T c (nI s) = some rs') (hs : s < 60) (hn : c.2.2.1 37 s = nI ns) : rs' = setI c 37 s (nI (ns + 1)) := by
  unfold m_source_b446 at h
  rw [rdI_n hs (by omega), ob_s, hn, nI_1, wrI_n hs (by omega), ob_s] at h
  exact (Option.some.inj h).symm
theorem src_ok {F f : Nat} {T : TG_queryOf} (hT : GPT_TG_queryOf T) (hq : QSP T.1 f) : OSP (b_source F T) f := by
  intro rs rs' x2 x3 s ns S Q l h g bs hs hn nl
  have sb := bs.sb
  have l3 := bs.l3
  unfold b_source at h
  by_cases z0 : rs.1 21 = 0
  · rw [if_pos z0] at h
    exact absurd (by rw [← Option.some.inj h]; exact z0) g
  · rw [if_neg z0, rdI_n (show s < 60 by omega) (by omega), ob_s, hn] at h
    have u4 : (3 : Int32) * nI s + nI ns = nI (3 * s + ns) := by rw [show (3 : Int32) = nI 3 from rfl, pk_mul, nI_add]
    rw [u4] at h
    have bad : ∀ c, m_source_b296 F T c (nI s) x2 x3 (nI (3 * s + ns)) = some rs' → False := fun c h => by
      unfold m_source_b296 at h
      replace h := ob h; obtain ⟨d, p, h⟩ := h
      exact (gp_m_source_b300 hT h g).1 (wrong_0 p)
    replace h := ob h; obtain ⟨v38, -, h⟩ := h
    rcases ite_or h with h | h
    · replace h := ob h; obtain ⟨v40, -, h⟩ := h
      rcases ite_or h with h | h
      · exact (bad _ h).elim
      · replace h := ob h; obtain ⟨v42, -, h⟩ := h
        rcases ite_or h with h | h
        · replace h := ob h; obtain ⟨v44, -, h⟩ := h
          replace h := ob h; obtain ⟨v45, -, h⟩ := h
          rcases ite_or h with h | h
          · replace h := ob h; obtain ⟨v47, -, h⟩ := h
            replace h := ob h; obtain ⟨v48, -, h⟩ := h
            replace h := ob h; obtain ⟨v49, -, h⟩ := h
            rcases ite_or h with h | h
            · exact (bad _ h).elim
            · obtain ⟨c0, hc0⟩ : ∃ z, z = setF rs 69 (rs.1 69 + 1) := ⟨_, rfl⟩
              rw [← hc0] at h
              have k69 : c0.1 69 = nI (l + 1) := by
                rw [hc0, sF_s, bs.l, nI_1]
              by_cases z4 : c0.1 69 = 4
              · rw [if_pos z4] at h
                replace h := ob h; obtain ⟨v52, -, h⟩ := h
                replace h := ob h; obtain ⟨c53, p, h⟩ := h
                exact ((gp_m_source_b226 hT h g).1 (tell_0 p)).elim
              · rw [if_neg z4] at h
                have l2 : l ≤ 2 := by
                  rcases Nat.lt_or_ge l 3 with w | w
                  · omega
                  · exact absurd (by rw [k69, show l = 3 by omega]; rfl) z4
                unfold m_source_b226 at h
                by_cases z5 : c0.1 21 = 0
                · rw [if_pos z5] at h
                  exact ((gp_m_source_b300 hT h g).1 z5).elim
                · rw [if_neg z5] at h
                  replace h := ob h; obtain ⟨v29, -, h⟩ := h
                  replace h := ob h; obtain ⟨v30, -, h⟩ := h
                  rw [wrI_n (show 3 * s + ns < 180 by omega) (by omega), ob_s] at h
                  replace h := ob h; obtain ⟨v32, -, h⟩ := h
                  rw [wrI_n (show 3 * s + ns < 180 by omega) (by omega), ob_s, wrI_n (show 3 * s + ns < 180 by omega) (by omega), ob_s] at h
                  obtain ⟨c', e', h'⟩ := src_fin h g
                  obtain ⟨cZ, hZ⟩ : ∃ z, z = setI (setI (setI c0 49 (3 * s + ns) (v30 - 48)) 50 (3 * s + ns) v32) 53 (3 * s + ns) (-1) := ⟨_, rfl⟩
                  rw [← hZ] at e'
                  have eZ := (E7.setF (a := cZ) (k := 18) (v := cZ.1 18 + 1) (by omega)).trans e'
                  have z37 : cZ.2.2.1 37 = rs.2.2.1 37 := by rw [hZ, hc0]; rfl
                  have c37 : c'.2.2.1 37 = rs.2.2.1 37 := eZ.2.1.trans z37
                  have er := b446_ok h' (by omega) (by rw [c37]; exact hn)
                  refine ⟨S, Q, l + 1, ⟨?_, ?_, ?_, by omega, bs.sb, bs.qb⟩, Nat.le_refl _, Nat.le_refl _, by omega, by omega, ?_, fun e he hne => ?_, fun o ho hne => ?_, fun q hq' => ?_, fun j hj => ?_, fun e h1 h2 => absurd h1 (by omega)⟩
                  · rw [er]
                    show c'.1 34 = nI S
                    rw [eZ.1.1, hZ, hc0]
                    exact bs.s
                  · rw [er]
                    show c'.1 59 = nI Q
                    rw [eZ.1.2.1, hZ, hc0]
                    exact bs.q
                  · rw [er]
                    show c'.1 69 = nI (l + 1)
                    rw [eZ.1.2.2, hZ]
                    exact k69
                  · rw [er]
                    exact pk_us
                  · rw [er]
                    show upd (c'.2.2.1 37) s (nI (ns + 1)) e = _
                    rw [pk_un hne, c37]
                  · rw [er]
                    show c'.2.2.1 49 o = _ ∧ c'.2.2.1 53 o = _
                    rw [eZ.2.2.1, eZ.2.2.2.1, hZ, hc0]
                    show upd (rs.2.2.1 49) (3 * s + ns) (v30 - 48) o = _ ∧ upd (rs.2.2.1 53) (3 * s + ns) (-1) o = _
                    rw [pk_un hne, pk_un hne]
                    exact ⟨rfl, rfl⟩
                  · rw [er]
                    show c'.2.2.1 60 q = _
                    rw [eZ.2.2.2.2.1, hZ, hc0]
                    rfl
                  · rw [er]
                    show c'.2.2.1 61 j = _
                    rw [eZ.2.2.2.2.2, hZ, hc0]
                    rfl
          · exact (bad _ h).elim
        · exact (bad _ h).elim
    · replace h := ob h; obtain ⟨v54, -, h⟩ := h
      replace h := ob h; obtain ⟨c55, p55, h⟩ := h
      obtain ⟨c0, hc0⟩ : ∃ z, z = setF c55 18 (c55.1 18 + 1) := ⟨_, rfl⟩
      rw [← hc0] at h
      by_cases z5 : c0.1 21 = 0
      · rw [if_pos z5] at h
        exact ((gp_m_source_b67 hT h g).1 z5).elim
      · rw [if_neg z5] at h
        replace h := ob h; obtain ⟨z57, p57, h⟩ := h
        have g57 : z57.1.1 21 ≠ 0 := (gp_m_source_b67 hT h g).1
        have e0 : E7 rs c0 := by
          rw [hc0]
          exact (E7.fe (fe_m_deeper p55)).trans (E7.setF (by omega))
        obtain ⟨S1, Q1, l1, b1, q1, sS, qQ, lL, sb1, cv⟩ := hq c0 z57.1 z57.2 S Q l p57 g57 (bs.e7 e0)
        have l31 := b1.l3
        unfold m_source_b67 at h
        replace h := ob h; obtain ⟨v22, -, h⟩ := h
        replace h := ob h; obtain ⟨c23, p23, h⟩ := h
        have e23 : E7 z57.1 c23 := (E7.setF (by omega)).trans (E7.fe (fe_m_needSign p23))
        by_cases z6 : c23.1 21 = 0
        · rw [if_pos z6] at h
          exact ((gp_m_source_b129 hT h g).1 z6).elim
        · rw [if_neg z6, wrI_n (show 3 * s + ns < 180 by omega) (by omega), ob_s, wrI_n (show 3 * s + ns < 180 by omega) (by omega), ob_s, wrI_n (show 3 * s + ns < 180 by omega) (by omega), ob_s] at h
          unfold m_source_b129 at h
          obtain ⟨cZ, hZ⟩ : ∃ z, z = setI (setI (setI c23 49 (3 * s + ns) (-1)) 53 (3 * s + ns) z57.2) 54 (3 * s + ns) v22 := ⟨_, rfl⟩
          rw [← hZ] at h
          obtain ⟨c', eZ, h'⟩ := src_fin h g
          have c37 : c'.2.2.1 37 = z57.1.2.2.1 37 := eZ.2.1.trans ((by rw [hZ]; rfl : cZ.2.2.1 37 = c23.2.2.1 37).trans e23.2.1)
          have c49 : c'.2.2.1 49 = upd (z57.1.2.2.1 49) (3 * s + ns) (-1) := by
            rw [eZ.2.2.1, hZ]
            show upd (c23.2.2.1 49) (3 * s + ns) (-1) = _
            rw [e23.2.2.1]
          have c53 : c'.2.2.1 53 = upd (z57.1.2.2.1 53) (3 * s + ns) z57.2 := by
            rw [eZ.2.2.2.1, hZ]
            show upd (c23.2.2.1 53) (3 * s + ns) z57.2 = _
            rw [e23.2.2.2.1]
          have c60 : c'.2.2.1 60 = z57.1.2.2.1 60 := eZ.2.2.2.2.1.trans ((by rw [hZ]; rfl : cZ.2.2.1 60 = c23.2.2.1 60).trans e23.2.2.2.2.1)
          have c61 : c'.2.2.1 61 = z57.1.2.2.1 61 := eZ.2.2.2.2.2.trans ((by rw [hZ]; rfl : cZ.2.2.1 61 = c23.2.2.1 61).trans e23.2.2.2.2.2)
          have er := b446_ok h' (by omega) (by rw [c37, sb1.s s hs, e0.2.1]; exact hn)
          have bZ : BS7 S1 Q1 l1 c' := by
            have b2 := b1.e7 e23
            have b3 : BS7 S1 Q1 l1 cZ := by rw [hZ]; exact ⟨b2.s, b2.q, b2.l, b2.l3, b2.sb, b2.qb⟩
            exact b3.e7 eZ
          have sr : SR7 S Q S1 Q1 z57.1 rs' := by
            rw [er]
            refine ⟨fun e h1 h2 => ?_, fun o h1 h2 => ?_, fun q _ _ => ?_, fun j _ _ => ?_⟩
            · show upd (c'.2.2.1 37) s (nI (ns + 1)) e = _
              rw [pk_un (by omega), c37]
            · show c'.2.2.1 49 o = _ ∧ c'.2.2.1 53 o = _
              rw [c49, c53, pk_un (by omega), pk_un (by omega)]
              exact ⟨rfl, rfl⟩
            · show c'.2.2.1 60 q = _
              rw [c60]
            · show c'.2.2.1 61 j = _
              rw [c61]
          refine ⟨S1, Q1, l1, ?_, sS, by omega, lL, by omega, ?_, fun e he hne => ?_, fun o ho hne => ?_, fun q hq' => ?_, fun j hj => ?_, fun e h1 h2 => ⟨?_, Q, ?_, RC7.mv sr (Nat.le_refl _) (Nat.le_refl _) (Nat.le_refl _) (Nat.le_refl _) f Q e (cv e h1 h2)⟩⟩
          · rw [er]
            exact ⟨bZ.s, bZ.q, bZ.l, bZ.l3, bZ.sb, bZ.qb⟩
          · rw [er]
            exact pk_us
          · rw [er]
            show upd (c'.2.2.1 37) s (nI (ns + 1)) e = _
            rw [pk_un hne, c37, sb1.s e he, e0.2.1]
          · rw [er]
            show c'.2.2.1 49 o = _ ∧ c'.2.2.1 53 o = _
            rw [c49, c53, pk_un hne, pk_un hne, (sb1.o o ho).1, (sb1.o o ho).2, e0.2.2.1, e0.2.2.2.1]
            exact ⟨rfl, rfl⟩
          · rw [er]
            show c'.2.2.1 60 q = _
            rw [c60, sb1.q q hq', e0.2.2.2.2.1]
          · rw [er]
            show c'.2.2.1 61 j = _
            rw [c61, sb1.k j hj, e0.2.2.2.2.2]
          · rw [er]
            show c'.2.2.1 49 (3 * s + ns) = -1
            rw [c49]
            exact pk_us
          · rw [er]
            show c'.2.2.1 53 (3 * s + ns) = nI Q
            rw [c53, pk_us, q1]

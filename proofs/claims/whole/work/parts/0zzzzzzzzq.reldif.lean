/-! the reference looks for what differs -/
theorem cmp_c {F : Nat} {rs : RS} {x y : OV} : m_compare F rs (vl x) (fl x) (vl y) (fl y) = some (cmpO x y) := by
  cases x with
  | none =>
    unfold m_compare m_compare_b9 m_compare_b27
    rw [if_neg (show ¬ fl none = 0 by decide), if_neg (show ¬ fl none = 0 by decide)]
    cases y with
    | none =>
      rw [if_neg (show ¬ fl none = 0 by decide)]
      rfl
    | some b =>
      rw [if_pos (show fl (some b) = 0 from rfl)]
      rfl
  | some a =>
    cases y with
    | none =>
      unfold m_compare m_compare_b9 m_compare_b27
      rw [if_pos (show fl (some a) = 0 from rfl), if_neg (show ¬ fl none = 0 by decide), if_pos (show fl (some a) = 0 from rfl)]
      rfl
    | some b =>
      unfold m_compare m_compare_b49
      rw [if_pos (show fl (some a) = 0 from rfl), if_pos (show fl (some b) = 0 from rfl)]
      show _ = some (if b ≤ a then (if a ≤ b then (0 : Int32) else 1) else -1)
      show (if b ≤ a then (if a ≤ b then some (0 : Int32) else some 1) else some (-1)) = _
      by_cases q3 : b ≤ a
      · rw [if_pos q3, if_pos q3]
        by_cases q4 : a ≤ b
        · rw [if_pos q4, if_pos q4]
        · rw [if_neg q4, if_neg q4]
      · rw [if_neg q3, if_neg q3]
/-- two sorted answers, the old one and the new one -/
def DST (n : Nat) (A E : LL) (X : RS) : Prop := (X.1 101 = nI n) ∧ (X.1 107 = nI A.length) ∧ (X.1 104 = nI E.length) ∧ (RWA 108 109 n A X) ∧ (RWA 105 106 n E X) ∧ (∀ L, L ∈ A → L.length = n) ∧ (∀ L, L ∈ E → L.length = n) ∧ (n ≤ 8) ∧ (A.length ≤ 600) ∧ (E.length ≤ 600)
theorem DST.c1 {n : Nat} {A E : LL} {X : RS} (h : DST n A E X) : X.1 101 = nI n := h.1
theorem DST.c7 {n : Nat} {A E : LL} {X : RS} (h : DST n A E X) : X.1 107 = nI A.length := h.2.1
theorem DST.c4 {n : Nat} {A E : LL} {X : RS} (h : DST n A E X) : X.1 104 = nI E.length := h.2.2.1
theorem DST.ra {n : Nat} {A E : LL} {X : RS} (h : DST n A E X) : RWA 108 109 n A X := h.2.2.2.1
theorem DST.re {n : Nat} {A E : LL} {X : RS} (h : DST n A E X) : RWA 105 106 n E X := h.2.2.2.2.1
theorem DST.la {n : Nat} {A E : LL} {X : RS} (h : DST n A E X) : ∀ L, L ∈ A → L.length = n := h.2.2.2.2.2.1
theorem DST.le {n : Nat} {A E : LL} {X : RS} (h : DST n A E X) : ∀ L, L ∈ E → L.length = n := h.2.2.2.2.2.2.1
theorem DST.n8 {n : Nat} {A E : LL} {X : RS} (h : DST n A E X) : n ≤ 8 := h.2.2.2.2.2.2.2.1
theorem DST.a6 {n : Nat} {A E : LL} {X : RS} (h : DST n A E X) : A.length ≤ 600 := h.2.2.2.2.2.2.2.2.1
theorem DST.e6 {n : Nat} {A E : LL} {X : RS} (h : DST n A E X) : E.length ≤ 600 := h.2.2.2.2.2.2.2.2.2
theorem drop_g {L : List OV} {k : Nat} (h : k < L.length) : L.drop k = L.getD k none :: L.drop (k + 1) := by
  rw [List.drop_eq_getElem_cons h, List.getD_eq_getElem?_getD, List.getElem?_eq_getElem h]
  rfl
theorem ix_le {n i m : Nat} (hn : n ≤ 8) (hm : m ≤ 600) (hi : i < m) : n * i + n ≤ 4800 := by
  have q1 : n * (i + 1) ≤ 8 * 600 := Nat.mul_le_mul hn (by omega)
  rw [Nat.mul_succ] at q1
  omega
theorem acr_L {F n i j : Nat} {A E : LL} {X : RS} (h : DST n A E X) (hi : i < A.length) (hj : j < E.length) : ∀ (d k u : Nat), n = k + d → d < u → m_compareAcross_L2 F X u (nI i) (nI j) (nI k) = some (cmpL ((A.getD i []).drop k) ((E.getD j []).drop k)) := by
  have n8 := h.n8
  have l1 : (A.getD i []).length = n := h.la _ (get_mem hi)
  have l2 : (E.getD j []).length = n := h.le _ (get_mem hj)
  have b1 := ix_le n8 h.a6 hi
  have b2 := ix_le n8 h.e6 hj
  intro d
  induction d with
  | zero =>
    intro k u d1 d2
    obtain ⟨u, rfl⟩ : ∃ z, u = z + 1 := ⟨u - 1, by omega⟩
    rw [m_compareAcross_L2, h.c1, if_pos (nI_le (by omega) (by omega)), List.drop_eq_nil_of_le (by omega)]
    rfl
  | succ d ih =>
    intro k u d1 d2
    obtain ⟨u, rfl⟩ : ∃ z, u = z + 1 := ⟨u - 1, by omega⟩
    obtain ⟨a1, a2⟩ := h.ra i k hi (by omega)
    obtain ⟨e1, e2⟩ := h.re j k hj (by omega)
    rw [m_compareAcross_L2, h.c1, if_neg (nI_ge (by omega) (by omega)), pk_mul, nI_add, rdL_n (by omega) (by decide), ob_s, a2, rdI_n (by omega) (by decide), ob_s, a1, pk_mul, nI_add, rdL_n (by omega) (by decide), ob_s, e2, rdI_n (by omega) (by decide), ob_s, e1, cmp_c, ob_s, nI_1, ih (k + 1) u (by omega) (by omega), drop_g (L := A.getD i []) (k := k) (by omega), drop_g (L := E.getD j []) (k := k) (by omega)]
    show _ = some (if cmpO ((A.getD i []).getD k none) ((E.getD j []).getD k none) = 0 then cmpL ((A.getD i []).drop (k + 1)) ((E.getD j []).drop (k + 1)) else cmpO ((A.getD i []).getD k none) ((E.getD j []).getD k none))
    by_cases q : cmpO ((A.getD i []).getD k none) ((E.getD j []).getD k none) = 0
    · rw [if_pos q, if_pos q]
    · rw [if_neg q, if_neg q]
theorem acr_ok {F n i j : Nat} {A E : LL} {X : RS} (hF : 10000 ≤ F) (h : DST n A E X) (hi : i < A.length) (hj : j < E.length) : m_compareAcross F X (nI i) (nI j) = some (cmpL (A.getD i []) (E.getD j [])) := by
  have n8 := h.n8
  exact acr_L h hi hj n 0 F (by omega) (by omega)
/-- whether the next row is like it -/
def lkB (A : LL) (i : Nat) : Prop := i + 1 < A.length ∧ A.getD i [] = A.getD (i + 1) []
theorem lik_A {F n i : Nat} {A E : LL} {X : RS} (h : DST n A E X) (hi : i + 1 < A.length) : ∀ (d k u : Nat), n = k + d → d < u → m_isLikeNext_L28 F X u 1 (nI i) (nI k) = some (if (A.getD i []).drop k = (A.getD (i + 1) []).drop k then 1 else 0) := by
  have n8 := h.n8
  have l1 : (A.getD i []).length = n := h.la _ (get_mem (by omega))
  have l2 : (A.getD (i + 1) []).length = n := h.la _ (get_mem hi)
  have b2 := ix_le n8 h.a6 hi
  rw [Nat.mul_succ] at b2
  intro d
  induction d with
  | zero =>
    intro k u d1 d2
    obtain ⟨u, rfl⟩ : ∃ z, u = z + 1 := ⟨u - 1, by omega⟩
    rw [m_isLikeNext_L28, h.c1, if_pos (nI_le (by omega) (by omega)), List.drop_eq_nil_of_le (by omega), List.drop_eq_nil_of_le (by omega), if_pos rfl]
  | succ d ih =>
    intro k u d1 d2
    obtain ⟨u, rfl⟩ : ∃ z, u = z + 1 := ⟨u - 1, by omega⟩
    obtain ⟨a1, a2⟩ := h.ra i k (by omega) (by omega)
    obtain ⟨e1, e2⟩ := h.ra (i + 1) k hi (by omega)
    rw [Nat.mul_succ, show n * i + n + k = n * i + k + n by omega] at e1 e2
    rw [m_isLikeNext_L28, h.c1, if_neg (nI_ge (by omega) (by omega)), if_neg (show ¬ (1 : Int32) = 0 by decide), pk_mul, nI_add, nI_add, rdL_n (by omega) (by decide), ob_s, a2, rdI_n (by omega) (by decide), ob_s, a1, rdL_n (by omega) (by decide), ob_s, e2, rdI_n (by omega) (by decide), ob_s, e1, cmp_c, ob_s, drop_g (L := A.getD i []) (k := k) (by omega), drop_g (L := A.getD (i + 1) []) (k := k) (by omega)]
    unfold m_isLikeNext_b142
    by_cases q : (A.getD i []).getD k none = (A.getD (i + 1) []).getD k none
    · rw [if_pos (cmpO_0.mpr q), if_neg (show ¬ (1 : Int32) = 0 by decide), nI_1, ih (k + 1) u (by omega) (by omega), q]
      by_cases z : (A.getD i []).drop (k + 1) = (A.getD (i + 1) []).drop (k + 1)
      · rw [if_pos z, if_pos (by rw [z])]
      · rw [if_neg z, if_neg (fun w => z (List.cons.inj w).2)]
    · rw [if_neg (fun w => q (cmpO_0.mp w)), if_pos rfl, if_neg (fun w => q (List.cons.inj w).1)]
theorem lik_E {F n i : Nat} {A E : LL} {X : RS} (h : DST n A E X) (hi : i + 1 < E.length) : ∀ (d k u : Nat), n = k + d → d < u → m_isLikeNext_L28 F X u 0 (nI i) (nI k) = some (if (E.getD i []).drop k = (E.getD (i + 1) []).drop k then 1 else 0) := by
  have n8 := h.n8
  have l1 : (E.getD i []).length = n := h.le _ (get_mem (by omega))
  have l2 : (E.getD (i + 1) []).length = n := h.le _ (get_mem hi)
  have b2 := ix_le n8 h.e6 hi
  rw [Nat.mul_succ] at b2
  intro d
  induction d with
  | zero =>
    intro k u d1 d2
    obtain ⟨u, rfl⟩ : ∃ z, u = z + 1 := ⟨u - 1, by omega⟩
    rw [m_isLikeNext_L28, h.c1, if_pos (nI_le (by omega) (by omega)), List.drop_eq_nil_of_le (by omega), List.drop_eq_nil_of_le (by omega), if_pos rfl]
  | succ d ih =>
    intro k u d1 d2
    obtain ⟨u, rfl⟩ : ∃ z, u = z + 1 := ⟨u - 1, by omega⟩
    obtain ⟨a1, a2⟩ := h.re i k (by omega) (by omega)
    obtain ⟨e1, e2⟩ := h.re (i + 1) k hi (by omega)
    rw [Nat.mul_succ, show n * i + n + k = n * i + k + n by omega] at e1 e2
    rw [m_isLikeNext_L28, h.c1, if_neg (nI_ge (by omega) (by omega)), if_pos rfl, pk_mul, nI_add, nI_add, rdL_n (by omega) (by decide), ob_s, a2, rdI_n (by omega) (by decide), ob_s, a1, rdL_n (by omega) (by decide), ob_s, e2, rdI_n (by omega) (by decide), ob_s, e1, cmp_c, ob_s, drop_g (L := E.getD i []) (k := k) (by omega), drop_g (L := E.getD (i + 1) []) (k := k) (by omega)]
    unfold m_isLikeNext_b142
    by_cases q : (E.getD i []).getD k none = (E.getD (i + 1) []).getD k none
    · rw [if_pos (cmpO_0.mpr q), if_neg (show ¬ (1 : Int32) = 0 by decide), nI_1, ih (k + 1) u (by omega) (by omega), q]
      by_cases z : (E.getD i []).drop (k + 1) = (E.getD (i + 1) []).drop (k + 1)
      · rw [if_pos z, if_pos (by rw [z])]
      · rw [if_neg z, if_neg (fun w => z (List.cons.inj w).2)]
    · rw [if_neg (fun w => q (cmpO_0.mp w)), if_pos rfl, if_neg (fun w => q (List.cons.inj w).1)]
theorem likA_ok {F n i : Nat} {A E : LL} {X : RS} (hF : 10000 ≤ F) (h : DST n A E X) (hi : i < A.length) : ∃ v, m_isLikeNext F X 1 (nI i) = some v ∧ ((v = 1 ∧ lkB A i) ∨ (v = 0 ∧ ¬ lkB A i)) := by
  have n8 := h.n8
  have a6 := h.a6
  unfold m_isLikeNext m_isLikeNext_b15 lkB
  rw [if_neg (show ¬ (1 : Int32) = 0 by decide), h.c7, nI_1]
  by_cases q : i + 1 < A.length
  · have e := lik_A (F := F) h q n 0 F (by omega) (by omega)
    have e' : m_isLikeNext_L28 F X F 1 (nI i) 0 = some (if (A.getD i []).drop 0 = (A.getD (i + 1) []).drop 0 then 1 else 0) := e
    rw [if_pos (nI_lt q (by omega)), e', List.drop_zero, List.drop_zero]
    by_cases z : A.getD i [] = A.getD (i + 1) []
    · rw [if_pos z]
      exact ⟨1, rfl, Or.inl ⟨rfl, q, z⟩⟩
    · rw [if_neg z]
      exact ⟨0, rfl, Or.inr ⟨rfl, fun w => z w.2⟩⟩
  · rw [if_neg (nI_nlt (by omega) (by omega))]
    exact ⟨0, rfl, Or.inr ⟨rfl, fun w => q w.1⟩⟩
theorem likE_ok {F n i : Nat} {A E : LL} {X : RS} (hF : 10000 ≤ F) (h : DST n A E X) (hi : i < E.length) : ∃ v, m_isLikeNext F X 0 (nI i) = some v ∧ ((v = 1 ∧ lkB E i) ∨ (v = 0 ∧ ¬ lkB E i)) := by
  have n8 := h.n8
  have e6 := h.e6
  unfold m_isLikeNext m_isLikeNext_b15 lkB
  rw [if_pos rfl, h.c4, nI_1]
  by_cases q : i + 1 < E.length
  · have e := lik_E (F := F) h q n 0 F (by omega) (by omega)
    have e' : m_isLikeNext_L28 F X F 0 (nI i) 0 = some (if (E.getD i []).drop 0 = (E.getD (i + 1) []).drop 0 then 1 else 0) := e
    rw [if_pos (nI_lt q (by omega)), e', List.drop_zero, List.drop_zero]
    by_cases z : E.getD i [] = E.getD (i + 1) []
    · rw [if_pos z]
      exact ⟨1, rfl, Or.inl ⟨rfl, q, z⟩⟩
    · rw [if_neg z]
      exact ⟨0, rfl, Or.inr ⟨rfl, fun w => z w.2⟩⟩
  · rw [if_neg (nI_nlt (by omega) (by omega))]
    exact ⟨0, rfl, Or.inr ⟨rfl, fun w => q w.1⟩⟩
/-- rows like the i-th from it on: ex more -/
def RNX (A : LL) (i ex : Nat) : Prop := i + ex < A.length ∧ (∀ t, t ≤ ex → A.getD (i + t) [] = A.getD i []) ∧ ¬ lkB A (i + ex)
theorem ng_1 (c : Nat) : -(nI c) + (-1) = -(nI (c + 1)) := by
  rw [← nI_1, Int32.neg_add, Int32.sub_eq_add_neg]
theorem runA_L {F n : Nat} {A E : LL} {X : RS} {rc4 : RS → Int32 → Int32 → Int32 → Option RS} {u1 u3 u4 u6 u7 : Int32} (hF : 10000 ≤ F) (h : DST n A E X) : ∀ (d i u c : Nat), A.length = i + 1 + d → d < u → ∃ ex, RNX A i ex ∧ m_differ_L87 F rc4 u X u1 (nI i) u3 u4 (-(nI c)) u6 u7 = m_differ_b108 F rc4 X u1 (nI (i + ex + 1)) u3 u4 (-(nI (c + ex))) u6 u7 := by
  intro d
  induction d with
  | zero =>
    intro i u c d1 d2
    obtain ⟨u, rfl⟩ : ∃ z, u = z + 1 := ⟨u - 1, by omega⟩
    obtain ⟨v, e1, e2⟩ := likA_ok (F := F) hF h (show i < A.length by omega)
    rcases e2 with ⟨-, q⟩ | ⟨v0, q⟩
    · exact absurd q.1 (by omega)
    · refine ⟨0, ⟨by omega, fun t ht => by rw [show t = 0 by omega]; rfl, q⟩, ?_⟩
      rw [m_differ_L87, e1, ob_s, v0, if_pos rfl, nI_1]
      rfl
  | succ d ih =>
    intro i u c d1 d2
    obtain ⟨u, rfl⟩ : ∃ z, u = z + 1 := ⟨u - 1, by omega⟩
    obtain ⟨v, e1, e2⟩ := likA_ok (F := F) hF h (show i < A.length by omega)
    rcases e2 with ⟨v1, q⟩ | ⟨v0, q⟩
    · obtain ⟨ex, g1, g2⟩ := ih (i + 1) u (c + 1) (by omega) (by omega)
      refine ⟨ex + 1, ⟨by have := g1.1; omega, fun t ht => ?_, by rw [show i + (ex + 1) = i + 1 + ex by omega]; exact g1.2.2⟩, ?_⟩
      · cases t with
        | zero => rfl
        | succ t =>
          rw [show i + (t + 1) = i + 1 + t by omega, g1.2.1 t (by omega), ← q.2]
      · rw [m_differ_L87, e1, ob_s, v1, if_neg (by decide), nI_1, ng_1, g2, show i + 1 + ex + 1 = i + (ex + 1) + 1 by omega, show c + 1 + ex = c + (ex + 1) by omega]
    · refine ⟨0, ⟨by omega, fun t ht => by rw [show t = 0 by omega]; rfl, q⟩, ?_⟩
      rw [m_differ_L87, e1, ob_s, v0, if_pos rfl, nI_1]
      rfl
theorem runE_L {F n : Nat} {A E : LL} {X : RS} {rc4 : RS → Int32 → Int32 → Int32 → Option RS} {u1 u2 u6 u7 : Int32} {ca : Nat} (hF : 10000 ≤ F) (h : DST n A E X) : ∀ (d j u c : Nat), E.length = j + 1 + d → d < u → ∃ ex, RNX E j ex ∧ m_differ_L116 F rc4 u X u1 u2 (nI j) (-(nI ca) + nI c) u6 u7 = m_differ_b137 F rc4 X u1 u2 (nI (j + ex + 1)) (-(nI ca) + nI (c + ex)) u6 u7 := by
  intro d
  induction d with
  | zero =>
    intro j u c d1 d2
    obtain ⟨u, rfl⟩ : ∃ z, u = z + 1 := ⟨u - 1, by omega⟩
    obtain ⟨v, e1, e2⟩ := likE_ok (F := F) hF h (show j < E.length by omega)
    rcases e2 with ⟨-, q⟩ | ⟨v0, q⟩
    · exact absurd q.1 (by omega)
    · refine ⟨0, ⟨by omega, fun t ht => by rw [show t = 0 by omega]; rfl, q⟩, ?_⟩
      rw [m_differ_L116, e1, ob_s, v0, if_pos rfl, nI_1]
      rfl
  | succ d ih =>
    intro j u c d1 d2
    obtain ⟨u, rfl⟩ : ∃ z, u = z + 1 := ⟨u - 1, by omega⟩
    obtain ⟨v, e1, e2⟩ := likE_ok (F := F) hF h (show j < E.length by omega)
    rcases e2 with ⟨v1, q⟩ | ⟨v0, q⟩
    · obtain ⟨ex, g1, g2⟩ := ih (j + 1) u (c + 1) (by omega) (by omega)
      refine ⟨ex + 1, ⟨by have := g1.1; omega, fun t ht => ?_, by rw [show j + (ex + 1) = j + 1 + ex by omega]; exact g1.2.2⟩, ?_⟩
      · cases t with
        | zero => rfl
        | succ t =>
          rw [show j + (t + 1) = j + 1 + t by omega, g1.2.1 t (by omega), ← q.2]
      · rw [m_differ_L116, e1, ob_s, v1, if_neg (by decide), nI_1, Int32.add_assoc, nI_1, g2, show j + 1 + ex + 1 = j + (ex + 1) + 1 by omega, show c + 1 + ex = c + (ex + 1) by omega]
    · refine ⟨0, ⟨by omega, fun t ht => by rw [show t = 0 by omega]; rfl, q⟩, ?_⟩
      rw [m_differ_L116, e1, ob_s, v0, if_pos rfl, nI_1]
      rfl

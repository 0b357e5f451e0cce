/-! the reference computes the value of an EXPR -/
def RW (rs : RS) (e : Nat) : Int32 × Int32 × Int32 × Int32 × Int32 × Int64 × Int32 × Int32 × Int32 := (rs.2.2.1 23 e, rs.2.2.1 24 e, rs.2.2.1 25 e, rs.2.2.1 26 e, rs.2.2.1 27 e, rs.2.2.2 28 e, rs.2.2.1 29 e, rs.2.2.1 32 e, rs.2.2.1 30 e)
theorem s92 (rs : RS) (v w : Int32) : setF (setF rs 92 v) 92 w = setF rs 92 w := by
  have h : upd (upd rs.1 92 v) 92 w = upd rs.1 92 w := funext fun j => by
    by_cases e : j = 92
    · rw [e, pk_us, pk_us]
    · rw [pk_un e, pk_un e, pk_un e]
  show (upd (upd rs.1 92 v) 92 w, rs.2) = (upd rs.1 92 w, rs.2)
  rw [h]
/-- what names and aggregates of the EXPR a..e give -/
def EVH (F s : Nat) (V : VT) (col agg : Nat → OV) (a e : Nat) (rs : RS) : Prop := (∀ y, y < s → RW rs y = (V y).2) ∧ (s ≤ 120) ∧ (∀ y, a ≤ y → y ≤ e → rk V y = 5 → ∃ i, (if rs.1 97 = 0 then rs.1 93 else rs.1 94) + rs.2.2.1 33 y = nI i ∧ i < 400000 ∧ ((rs.2.2.1 86 i = 0 ∧ col y = some (rs.2.2.2 85 i)) ∨ (rs.2.2.1 86 i = 1 ∧ col y = none))) ∧ (∀ y, a ≤ y → y ≤ e → (rk V y = 20 ∨ rk V y = 21 ∨ rk V y = 22 ∨ rk V y = 23 ∨ rk V y = 24) → ∀ n v, 2 * y + 3 ≤ n → (tab_truth F n).2.2.1 (setF rs 92 v) (nI y) (rk V y) = some (setF rs 92 (fl (agg y)), vl (agg y)))
theorem EVH.vw {F s : Nat} {V : VT} {col agg : Nat → OV} {a e : Nat} {rs : RS} (h : EVH F s V col agg a e rs) : ∀ y, y < s → RW rs y = (V y).2 := h.1
theorem EVH.s2 {F s : Nat} {V : VT} {col agg : Nat → OV} {a e : Nat} {rs : RS} (h : EVH F s V col agg a e rs) : s ≤ 120 := h.2.1
theorem EVH.co {F s : Nat} {V : VT} {col agg : Nat → OV} {a e : Nat} {rs : RS} (h : EVH F s V col agg a e rs) : ∀ y, a ≤ y → y ≤ e → rk V y = 5 → ∃ i, (if rs.1 97 = 0 then rs.1 93 else rs.1 94) + rs.2.2.1 33 y = nI i ∧ i < 400000 ∧ ((rs.2.2.1 86 i = 0 ∧ col y = some (rs.2.2.2 85 i)) ∨ (rs.2.2.1 86 i = 1 ∧ col y = none)) := h.2.2.1
theorem EVH.ag {F s : Nat} {V : VT} {col agg : Nat → OV} {a e : Nat} {rs : RS} (h : EVH F s V col agg a e rs) : ∀ y, a ≤ y → y ≤ e → (rk V y = 20 ∨ rk V y = 21 ∨ rk V y = 22 ∨ rk V y = 23 ∨ rk V y = 24) → ∀ n v, 2 * y + 3 ≤ n → (tab_truth F n).2.2.1 (setF rs 92 v) (nI y) (rk V y) = some (setF rs 92 (fl (agg y)), vl (agg y)) := h.2.2.2
theorem EVH.k {F s a e : Nat} {V : VT} {col agg : Nat → OV} {rs : RS} (h : EVH F s V col agg a e rs) {y : Nat} (hy : y < s) : rs.2.2.1 23 y = rk V y ∧ rs.2.2.1 24 y = rl V y ∧ rs.2.2.1 25 y = rr V y ∧ rs.2.2.1 26 y = rt V y ∧ rs.2.2.1 27 y = rh V y ∧ rs.2.2.2 28 y = rv' V y ∧ rs.2.2.1 32 y = rx V y := by
  have q := h.vw y hy
  exact ⟨congrArg (fun z => z.1) q, congrArg (fun z => z.2.1) q, congrArg (fun z => z.2.2.1) q, congrArg (fun z => z.2.2.2.1) q, congrArg (fun z => z.2.2.2.2.1) q, congrArg (fun z => z.2.2.2.2.2.1) q, congrArg (fun z => z.2.2.2.2.2.2.2.1) q⟩
theorem m_some_ok {F : Nat} {rs : RS} {v : Int32} {x : Int64} : m_some F (setF rs 92 v) x = some (setF rs 92 0, x) := by
  unfold m_some
  rw [s92]
theorem m_no_ok {F : Nat} {rs : RS} {v : Int32} : m_nothing0 F (setF rs 92 v) = some (setF rs 92 1, 0) := by
  unfold m_nothing0
  rw [s92]
theorem ofT_ok {F : Nat} {rs : RS} {v t : Int32} : m_ofTruth F (setF rs 92 v) t = some (setF rs 92 (fl (ofT t)), vl (ofT t)) := by
  unfold m_ofTruth m_ofTruth_b18 ofT
  by_cases h : t = 2
  · rw [if_pos h, if_pos h, m_no_ok, ob_s]; rfl
  · rw [if_neg h, if_neg h, m_some_ok, ob_s]; rfl
theorem both_ok {F : Nat} {rs : RS} {y a b : Int32} : m_both F rs y a b = some (bT (if y = 0 then 1 else 0) a b) := by
  unfold m_both m_both_b9 m_both_b20 m_both_b34 m_both_b41 bT
  by_cases h : y = 0
  · rw [if_pos h, if_pos h]
    by_cases h1 : a = 1
    · rw [if_pos h1, if_pos h1]
    · rw [if_neg h1, if_neg h1]
      by_cases h2 : b = 1
      · rw [if_pos h2, if_pos h2]
      · rw [if_neg h2, if_neg h2]
        by_cases h3 : a = 2
        · rw [if_pos h3, if_pos h3]
        · rw [if_neg h3, if_neg h3]
          by_cases h4 : b = 2
          · rw [if_pos h4, if_pos h4]
          · rw [if_neg h4, if_neg h4]
  · rw [if_neg h, if_neg h]
    by_cases h1 : a = 0
    · rw [if_pos h1, if_pos h1]
    · rw [if_neg h1, if_neg h1]
      by_cases h2 : b = 0
      · rw [if_pos h2, if_pos h2]
      · rw [if_neg h2, if_neg h2]
        by_cases h3 : a = 2
        · rw [if_pos h3, if_pos h3]
        · rw [if_neg h3, if_neg h3]
          by_cases h4 : b = 2
          · rw [if_pos h4, if_pos h4]
          · rw [if_neg h4, if_neg h4]
theorem truth_ok {F : Nat} {T : TG_truth} {rs : RS} {v w : Int32} {x : OV} (h : T.2.1 (setF rs 92 v) w = some (setF rs 92 (fl x), vl x)) : b_truth F T (setF rs 92 v) w = some (setF rs 92 (fl x), tr1 x) := by
  unfold b_truth m_truth_b28
  rw [h, ob_s]
  cases x with
  | none => rfl
  | some z =>
    show (if (0 : Int32) = 0 then (if z = 0 then some (setF rs 92 0, 0) else some (setF rs 92 0, 1)) else some (setF rs 92 0, 2)) = some (setF rs 92 0, if z = 0 then 0 else 1)
    rw [if_pos rfl]
    by_cases q : z = 0
    · rw [if_pos q, if_pos q]
    · rw [if_neg q, if_neg q]
theorem two_ok {F e : Nat} {rs : RS} {v k h : Int32} {a b : Int64} (he : e < 121) (h27 : rs.2.2.1 27 e = h) : m_some2 F (setF rs 92 v) (nI e) k a b = some (setF rs 92 (fl (tw k h a b)), vl (tw k h a b)) := by
  have sm : ∀ y : Int64, (Option.bind (m_some F (setF rs 92 v) y) fun z => some (z.1, z.2)) = some (setF rs 92 (fl (some y)), vl (some y)) := fun y => by
    rw [m_some_ok, ob_s]; rfl
  have no : (Option.bind (m_nothing0 F (setF rs 92 v)) fun z => some (z.1, z.2)) = some (setF rs 92 (fl none), vl none) := by
    rw [m_no_ok, ob_s]; rfl
  have b0 : m_some2_b138 F (setF rs 92 v) 0 = some (setF rs 92 (fl (some 0)), vl (some 0)) := sm 0
  have b1 : m_some2_b138 F (setF rs 92 v) 1 = some (setF rs 92 (fl (some 1)), vl (some 1)) := sm 1
  unfold m_some2 tw
  by_cases k9 : k = 9
  · rw [if_pos k9, if_pos k9, rdI_n he (by decide), ob_s, show (setF rs 92 v).2.2.1 27 e = h from h27]
    by_cases h1 : h = 61
    · rw [if_pos h1, if_pos h1]
      by_cases q : a = b
      · rw [if_pos q, if_pos q]; exact b1
      · rw [if_neg q, if_neg q]; exact b0
    · rw [if_neg h1, if_neg h1]
      by_cases h2 : h = 400
      · rw [if_pos h2, if_pos h2]
        by_cases q : a = b
        · rw [if_pos q, if_pos q]; exact b0
        · rw [if_neg q, if_neg q]; exact b1
      · rw [if_neg h2, if_neg h2]
        by_cases h3 : h = 60
        · rw [if_pos h3, if_pos h3]
          by_cases q : b ≤ a
          · rw [if_pos q, if_pos q]; exact b0
          · rw [if_neg q, if_neg q]; exact b1
        · rw [if_neg h3, if_neg h3]
          by_cases h4 : h = 401
          · rw [if_pos h4, if_pos h4]
            by_cases q : b < a
            · rw [if_pos q, if_pos q]; exact b0
            · rw [if_neg q, if_neg q]; exact b1
          · rw [if_neg h4, if_neg h4]
            by_cases h5 : h = 62
            · rw [if_pos h5, if_pos h5]
              by_cases q : a ≤ b
              · rw [if_pos q, if_pos q]; exact b0
              · rw [if_neg q, if_neg q]; exact b1
            · rw [if_neg h5, if_neg h5]
              by_cases q : a < b
              · rw [if_pos q, if_pos q]; exact b0
              · rw [if_neg q, if_neg q]; exact b1
  · rw [if_neg k9, if_neg k9]
    by_cases k12 : k = 12
    · rw [if_pos k12, if_pos k12]; exact sm _
    · rw [if_neg k12, if_neg k12]
      by_cases k13 : k = 13
      · rw [if_pos k13, if_pos k13]; exact sm _
      · rw [if_neg k13, if_neg k13]
        by_cases k14 : k = 14
        · rw [if_pos k14, if_pos k14]; exact sm _
        · rw [if_neg k14, if_neg k14]
          by_cases k19 : k = 19
          · rw [if_pos k19, if_pos k19]
            by_cases q : 0 < b
            · have nb : b ≠ 0 := fun w => by rw [w] at q; exact absurd q (by decide)
              rw [if_pos q, if_pos q, show ckD b = some b from if_neg nb, ob_s]
              by_cases q2 : 0 ≤ a - a / b * b
              · rw [if_pos q2, if_pos q2]; exact sm _
              · rw [if_neg q2, if_neg q2]; exact sm _
            · rw [if_neg q, if_neg q]; exact no
          · rw [if_neg k19, if_neg k19]
            by_cases q0 : b = 0
            · rw [if_pos q0, if_pos q0]; exact no
            · rw [if_neg q0, if_neg q0, show ckD b = some b from if_neg q0, ob_s, ob_s]
              by_cases k15 : k = 15
              · rw [if_pos k15, if_pos k15]
                by_cases q : b = -1
                · rw [if_pos q, if_pos q]; exact sm _
                · rw [if_neg q, if_neg q]; exact sm _
              · rw [if_neg k15, if_neg k15]
                by_cases q : b = -1
                · rw [if_pos q, if_pos q]; exact sm _
                · rw [if_neg q, if_neg q]; exact sm _
/-- a list's members -/
def inR (h is : Int32) : Int32 := if is = 2 then 2 else if h = 1 then 1 - is else is
theorem oneof_end {F e u : Nat} {T : TG_truth} {h is v y4 : Int32} {y2 : Int64} {rs : RS} (he : e < 121) (h27 : rs.2.2.1 27 e = h) : m_isOneOf_L37 F T (u + 1) (setF rs 92 v) (nI e) y2 y4 is (-1) = some (setF rs 92 (fl (ofT (inR h is))), vl (ofT (inR h is))) := by
  have b : ∀ t, m_isOneOf_b131 F T (setF rs 92 v) t = some (setF rs 92 (fl (ofT t)), vl (ofT t)) := fun t => by
    unfold m_isOneOf_b131
    rw [ofT_ok, ob_s]
  rw [m_isOneOf_L37, if_pos rfl]
  unfold inR
  by_cases q : is = 2
  · rw [if_pos q, if_pos q]; exact b 2
  · rw [if_neg q, if_neg q, rdI_n he (by decide), ob_s, show (setF rs 92 v).2.2.1 27 e = h from h27]
    by_cases q2 : h = 1
    · rw [if_pos q2, if_pos q2]; exact b _
    · rw [if_neg q2, if_neg q2]; exact b _
theorem oneof_L {F e s : Nat} {T : TG_truth} {V : VT} {g : Nat → OV} {x : OV} {h : Int32} {rs : RS} (he : e < 121) (s2 : s ≤ 120) (h27 : rs.2.2.1 27 e = h) (vx : ∀ y, y < s → rs.2.2.1 32 y = rx V y) : ∀ (m a r eE u f : Nat) (is v : Int32), CH (fun _ y => y < s ∧ ∀ w, T.2.1 (setF rs 92 w) (nI y) = some (setF rs 92 (fl (g y)), vl (g y))) V m a r eE → m + 1 < u → m < f → m_isOneOf_L37 F T u (setF rs 92 v) (nI e) (vl x) (fl x) is (nI r) = some (setF rs 92 (fl (ofT (inR h (evI V g x f is (nI r))))), vl (ofT (inR h (evI V g x f is (nI r)))))
  | 0, _, _, _, _, _, _, _, c, _, _ => c.elim
  | m + 1, a, r, eE, u, f, is, v, c, hu, hf => by
    obtain ⟨u, rfl⟩ : ∃ z, u = z + 1 := ⟨u - 1, by omega⟩
    obtain ⟨f, rfl⟩ : ∃ z, f = z + 1 := ⟨f - 1, by omega⟩
    obtain ⟨⟨c1, c2⟩, c3⟩ := c
    have st : m_isOneOf_L37 F T (u + 1) (setF rs 92 v) (nI e) (vl x) (fl x) is (nI r) = m_isOneOf_L37 F T u (setF rs 92 (fl (g r))) (nI e) (vl x) (fl x) (inM x is (g r)) (rx V r) := by
      have b : ∀ t, m_isOneOf_b89 F T (m_isOneOf_L37 F T u) (setF rs 92 (fl (g r))) (nI e) (vl x) (fl x) t (nI r) = m_isOneOf_L37 F T u (setF rs 92 (fl (g r))) (nI e) (vl x) (fl x) t (rx V r) := fun t => by
        unfold m_isOneOf_b89
        rw [rdI_n (by omega) (by decide), ob_s, show (setF rs 92 (fl (g r))).2.2.1 32 r = rx V r from vx r c1]
      rw [m_isOneOf_L37, if_neg (nI_nm1 (by omega)), c2 v, ob_s]
      unfold m_isOneOf_b69
      show (if fl (g r) = 0 then (if fl x = 0 then (if vl (g r) = vl x then (m_isOneOf_b89 F T (m_isOneOf_L37 F T u) (setF rs 92 (fl (g r))) (nI e) (vl x) (fl x) 1 (nI r)) else (m_isOneOf_b89 F T (m_isOneOf_L37 F T u) (setF rs 92 (fl (g r))) (nI e) (vl x) (fl x) is (nI r))) else (m_isOneOf_b89 F T (m_isOneOf_L37 F T u) (setF rs 92 (fl (g r))) (nI e) (vl x) (fl x) is (nI r))) else (if is = 1 then (m_isOneOf_b89 F T (m_isOneOf_L37 F T u) (setF rs 92 (fl (g r))) (nI e) (vl x) (fl x) 1 (nI r)) else (m_isOneOf_b89 F T (m_isOneOf_L37 F T u) (setF rs 92 (fl (g r))) (nI e) (vl x) (fl x) 2 (nI r)))) = _
      rw [b, b, b]
      cases hg : g r with
      | none =>
        show (if (1 : Int32) = 0 then _ else _) = m_isOneOf_L37 F T u (setF rs 92 1) (nI e) (vl x) (fl x) (if is = 1 then 1 else 2) (rx V r)
        rw [if_neg (by decide)]
        by_cases q : is = 1
        · rw [if_pos q, if_pos q]; rfl
        · rw [if_neg q, if_neg q]; rfl
      | some w =>
        cases x with
        | none => rfl
        | some z =>
          show (if (0 : Int32) = 0 then (if (0 : Int32) = 0 then (if w = z then _ else _) else _) else _) = m_isOneOf_L37 F T u (setF rs 92 0) (nI e) z 0 (if w = z then 1 else is) (rx V r)
          rw [if_pos rfl, if_pos rfl]
          by_cases q : w = z
          · rw [if_pos q, if_pos q]; rfl
          · rw [if_neg q, if_neg q]; rfl
    have ei : evI V g x (f + 1) is (nI r) = evI V g x f (inM x is (g r)) (rx V r) := by
      rw [evI, if_neg (nI_nm1 (by omega)), nI_clamp (by omega)]
    rw [st, ei]
    rcases c3 with ⟨y1, y2, y3⟩ | ⟨y1, q, y2, y3, y4⟩
    · obtain ⟨u, rfl⟩ : ∃ z, u = z + 1 := ⟨u - 1, by omega⟩
      rw [y3, oneof_end he h27]
      have e1 : evI V g x f (inM x is (g r)) (-1) = inM x is (g r) := by
        cases f with
        | zero => rfl
        | succ f => rw [evI, if_pos rfl]
      rw [e1]
    · rw [y2]
      exact oneof_L he s2 h27 vx m (r + 1) q eE u f _ _ y4 (by omega) (by omega)
theorem ev_R {F s A E : Nat} {V : VT} {col agg : Nat → OV} {rs : RS} (hF : 10000 ≤ F) (h : EVH F s V col agg A E rs) : ∀ (d R a e : Nat), TR V d R a e → A ≤ a → e ≤ E → e < s → ∀ n v, 2 * e + 4 ≤ n → (tab_truth F n).2.1 (setF rs 92 v) (nI e) = some (setF rs 92 (fl (EV V col agg e)), vl (EV V col agg e))
  | 0, _, _, _, t, _, _, _, _, _, _ => t.elim
  | d + 1, R, a, e, t, hA, hE, hs, n, v, hn => by
    have s2 := h.s2
    obtain ⟨n, rfl⟩ : ∃ z, n = z + 2 := ⟨n - 2, by omega⟩
    obtain ⟨k1, k2, k3, k4, k5, k6, k7⟩ := h.k hs
    have ih := fun (R a e : Nat) (t : TR V d R a e) (hA : A ≤ a) (hE : e ≤ E) (hs : e < s) (m : Nat) (v : Int32) (hm : 2 * e + 4 ≤ m) => ev_R hF h d R a e t hA hE hs m v hm
    have tru : ∀ (R a y : Nat) (w : Int32), TR V d R a y → A ≤ a → y ≤ E → y < e → (tab_truth F (n + 1)).1 (setF rs 92 w) (nI y) = some (setF rs 92 (fl (EV V col agg y)), tr1 (EV V col agg y)) := fun R a y w t1 t2 t3 t4 => truth_ok (ih R a y t1 t2 t3 (by omega) n w (by omega))
    have eva : ∀ (R a y : Nat) (w : Int32), TR V d R a y → A ≤ a → y ≤ E → y < e → (tab_truth F (n + 1)).2.1 (setF rs 92 w) (nI y) = some (setF rs 92 (fl (EV V col agg y)), vl (EV V col agg y)) := fun R a y w t1 t2 t3 t4 => ih R a y t1 t2 t3 (by omega) (n + 1) w (by omega)
    show b_eval F (tab_truth F (n + 1)) (setF rs 92 v) (nI e) = _
    unfold b_eval
    have a23 : (setF rs 92 v).2.2.1 23 e = rk V e := k1
    have agc : (rk V e = 20 ∨ rk V e = 21 ∨ rk V e = 22 ∨ rk V e = 23 ∨ rk V e = 24) → (Option.bind ((tab_truth F (n + 1)).2.2.1 (setF rs 92 v) (nI e) (rk V e)) fun z_58 => some (z_58.1, z_58.2)) = some (setF rs 92 (fl (EV V col agg e)), vl (EV V col agg e)) := fun k => by
      rw [EV.agg (by omega) k, h.ag e (by have := t.1; omega) hE k (n + 1) v (by omega), ob_s]
    rw [rdI_n (by omega) (by decide), ob_s, a23]
    obtain ⟨ae, -, -, t⟩ := t
    rcases t with ⟨t1, t2, lf⟩ | ⟨t1, un, t2, t3⟩ | ⟨g, t1, t2, bi, t3, t4, t5, t6⟩ | ⟨g, k, t1, t2, t3, t4, t5, t6, t7, t8, t9, t10, t11, t12⟩ | ⟨m, g, r, t1, t2, t3, t4, t5, nn, t6, t7, t8, t9⟩ | ⟨t1, ak, t2, t3, t4, t5⟩
    · rcases lf with ⟨-, y, -⟩ | ⟨-, y⟩ | ⟨-, y⟩ | ⟨-, y⟩ | ⟨-, y⟩ | ⟨-, y⟩
      · rw [EV.lit (by omega) y, y, if_pos rfl, rdL_n (by omega) (by decide), ob_s, show (setF rs 92 v).2.2.2 28 e = rv' V e from k6, m_some_ok, ob_s]; rfl
      · rw [EV.nul (by omega) y, y, if_neg (by decide), if_pos rfl, m_no_ok, ob_s]; rfl
      · rw [EV.tru (by omega) y, y, if_neg (by decide), if_neg (by decide), if_pos rfl]
        unfold m_eval_b43 m_eval_b54
        rw [if_pos rfl, m_some_ok, ob_s]; rfl
      · rw [EV.fal (by omega) y, y, if_neg (by decide), if_neg (by decide), if_neg (by decide), if_pos rfl]
        unfold m_eval_b43 m_eval_b54
        rw [if_neg (by decide), m_some_ok, ob_s]; rfl
      · obtain ⟨i, i1, i2, i3⟩ := h.co e (by omega) hE y
        rw [EV.col (by omega) y, y, if_neg (by decide), if_neg (by decide), if_neg (by decide), if_neg (by decide), if_pos rfl]
        have b81 : ∀ w : Int32, w + rs.2.2.1 33 e = nI i → m_eval_b81 F (tab_truth F (n + 1)) (setF rs 92 v) (nI e) w = some (setF rs 92 (fl (col e)), vl (col e)) := fun w hw => by
          unfold m_eval_b81 m_eval_b116
          rw [rdI_n (by omega) (by decide), ob_s, show (setF rs 92 v).2.2.1 33 e = rs.2.2.1 33 e from rfl, hw, rdI_n i2 (by decide), ob_s, rdL_n i2 (by decide), ob_s]
          show (Option.bind (ckZ (rs.2.2.1 86 i)) fun _ => if rs.2.2.1 86 i = 0 then some (setF (setF rs 92 v) 92 (rs.2.2.1 86 i), rs.2.2.2 85 i) else some (setF (setF rs 92 v) 92 (rs.2.2.1 86 i), 0)) = _
          rcases i3 with ⟨z1, z2⟩ | ⟨z1, z2⟩
          · rw [z1, z2, show ckZ 0 = some 0 from rfl, ob_s, if_pos rfl, s92]; rfl
          · rw [z1, z2, show ckZ 1 = some 1 from rfl, ob_s, if_neg (by decide), s92]; rfl
        by_cases z : rs.1 97 = 0
        · rw [if_pos z] at i1
          rw [if_pos (show (setF rs 92 v).1 97 = 0 from z)]
          exact b81 _ i1
        · rw [if_neg z] at i1
          rw [if_neg (show ¬ (setF rs 92 v).1 97 = 0 from z)]
          exact b81 _ i1
      · rw [y, if_neg (by decide), if_neg (by decide), if_neg (by decide), if_neg (by decide), if_neg (by decide), if_neg (by decide), ← y]
        exact agc (Or.inl y)
    · obtain ⟨-, un⟩ := un
      have c1 := tru R a (e - 1)
      have c2 := eva R a (e - 1)
      rcases un with ⟨-, y⟩ | ⟨-, y⟩ | ⟨-, y, yh⟩ | ⟨-, y, yh⟩
      · rw [EV.not (l := e - 1) (by omega) y t2 (by omega), y, if_neg (by decide), if_neg (by decide), if_neg (by decide), if_neg (by decide), if_neg (by decide), if_pos (by decide), if_neg (by decide), if_neg (by decide), if_pos rfl, rdI_n (by omega) (by decide), ob_s, show (setF rs 92 v).2.2.1 24 e = nI (e - 1) from k2.trans t2, c1 v t3 hA (by omega) (by omega), ob_s]
        unfold m_eval_b211
        by_cases z : tr1 (EV V col agg (e - 1)) = 2
        · rw [if_pos z, if_pos z, ofT_ok, ob_s]
        · rw [if_neg z, if_neg z, ofT_ok, ob_s]
      · rw [EV.neg (l := e - 1) (by omega) y t2 (by omega), y, if_neg (by decide), if_neg (by decide), if_neg (by decide), if_neg (by decide), if_neg (by decide), if_pos (by decide), if_neg (by decide), if_neg (by decide), if_neg (by decide), if_neg (by decide), if_neg (by decide), if_neg (by decide), rdI_n (by omega) (by decide), ob_s, show (setF rs 92 v).2.2.1 24 e = nI (e - 1) from k2.trans t2, c2 v t3 hA (by omega) (by omega), ob_s, if_pos rfl]
        unfold m_eval_b364
        cases hx : EV V col agg (e - 1) with
        | none =>
          show (if (1 : Int32) = 0 then _ else _) = _
          rw [if_neg (by decide), m_no_ok, ob_s]; rfl
        | some w =>
          show (if (0 : Int32) = 0 then _ else _) = _
          rw [if_pos rfl, m_some_ok, ob_s]; rfl
      · rw [EV.isn (l := e - 1) (by omega) y t2 (by omega), y, yh, if_neg (by decide), if_neg (by decide), if_neg (by decide), if_neg (by decide), if_neg (by decide), if_pos (by decide), if_neg (by decide), if_neg (by decide), if_neg (by decide), if_pos rfl, rdI_n (by omega) (by decide), ob_s, show (setF rs 92 v).2.2.1 24 e = nI (e - 1) from k2.trans t2, c2 v t3 hA (by omega) (by omega), ob_s, rdI_n (by omega) (by decide), ob_s, show (setF rs 92 (fl (EV V col agg (e - 1)))).2.2.1 27 e = 0 from k5.trans yh, if_pos rfl]
        unfold m_eval_b255 m_eval_b263
        show (if fl (EV V col agg (e - 1)) = 1 then _ else _) = some (setF rs 92 0, if fl (EV V col agg (e - 1)) = 1 then 1 else 0)
        by_cases z : fl (EV V col agg (e - 1)) = 1
        · rw [if_pos z, if_pos z, m_some_ok, ob_s]
        · rw [if_neg z, if_neg z, m_some_ok, ob_s]
      · rw [EV.isn (l := e - 1) (by omega) y t2 (by omega), y, yh, if_neg (by decide), if_neg (by decide), if_neg (by decide), if_neg (by decide), if_neg (by decide), if_pos (by decide), if_neg (by decide), if_neg (by decide), if_neg (by decide), if_pos rfl, rdI_n (by omega) (by decide), ob_s, show (setF rs 92 v).2.2.1 24 e = nI (e - 1) from k2.trans t2, c2 v t3 hA (by omega) (by omega), ob_s, rdI_n (by omega) (by decide), ob_s, show (setF rs 92 (fl (EV V col agg (e - 1)))).2.2.1 27 e = 1 from k5.trans yh, if_neg (by decide)]
        unfold m_eval_b255 m_eval_b263
        show (if fl (EV V col agg (e - 1)) = 0 then _ else _) = some (setF rs 92 0, if fl (EV V col agg (e - 1)) = 0 then 1 else 0)
        by_cases z : fl (EV V col agg (e - 1)) = 0
        · rw [if_pos z, if_pos z, m_some_ok, ob_s]
        · rw [if_neg z, if_neg z, m_some_ok, ob_s]
    · have c1 := tru R a (g - 1)
      have c2 := tru R g (e - 1)
      have c3 := eva R a (g - 1)
      have c4 := eva R g (e - 1)
      have r24 : ∀ w, (setF rs 92 w).2.2.1 24 e = nI (g - 1) := fun w => k2.trans t3
      have r25 : ∀ w, (setF rs 92 w).2.2.1 25 e = nI (e - 1) := fun w => k3.trans t4
      obtain ⟨-, bi⟩ := bi
      have ao : ∀ y0 : Int32, m_eval_b154 F (tab_truth F (n + 1)) (setF rs 92 v) (nI e) y0 = some (setF rs 92 (fl (ofT (bT (if y0 = 0 then 1 else 0) (tr1 (EV V col agg (g - 1))) (tr1 (EV V col agg (e - 1)))))), vl (ofT (bT (if y0 = 0 then 1 else 0) (tr1 (EV V col agg (g - 1))) (tr1 (EV V col agg (e - 1)))))) := fun y0 => by
        unfold m_eval_b154
        rw [rdI_n (by omega) (by decide), ob_s, r24, c1 v t5 hA (by omega) (by omega), ob_s, rdI_n (by omega) (by decide), ob_s, r25, c2 _ t6 (by omega) (by omega) (by omega), ob_s, both_ok, ob_s, ofT_ok, ob_s]
      have ar : (rk V e = 9 ∨ rk V e = 12 ∨ rk V e = 13 ∨ rk V e = 14 ∨ rk V e = 15 ∨ rk V e = 16 ∨ rk V e = 19) → (Option.bind (rdI ((setF rs 92 v).2.2.1 24) 121 (nI e)) fun v_32 => Option.bind ((tab_truth F (n + 1)).2.1 (setF rs 92 v) v_32) fun z_33 => Option.bind (rdI (z_33.1.2.2.1 25) 121 (nI e)) fun v_35 => Option.bind ((tab_truth F (n + 1)).2.1 z_33.1 v_35) fun z_36 => if (z_33.1.1 92) = 0 then (if (z_36.1.1 92) = 0 then (Option.bind (m_some2 F z_36.1 (nI e) (rk V e) z_33.2 z_36.2) fun z_39 => some (z_39.1, z_39.2)) else (m_eval_b389 F (tab_truth F (n + 1)) z_36.1)) else (m_eval_b389 F (tab_truth F (n + 1)) z_36.1)) = some (setF rs 92 (fl (EV V col agg e)), vl (EV V col agg e)) := fun kk => by
        have no : m_eval_b389 F (tab_truth F (n + 1)) (setF rs 92 (fl (EV V col agg (e - 1)))) = some (setF rs 92 1, 0) := by
          unfold m_eval_b389
          rw [m_no_ok, ob_s]
        rw [EV.two (l := g - 1) (r := e - 1) (by omega) kk t3 t4 (by omega) (by omega), rdI_n (by omega) (by decide), ob_s, r24, c3 v t5 hA (by omega) (by omega), ob_s, rdI_n (by omega) (by decide), ob_s, r25, c4 _ t6 (by omega) (by omega) (by omega), ob_s]
        show (if fl (EV V col agg (g - 1)) = 0 then (if fl (EV V col agg (e - 1)) = 0 then (Option.bind (m_some2 F (setF rs 92 (fl (EV V col agg (e - 1)))) (nI e) (rk V e) (vl (EV V col agg (g - 1))) (vl (EV V col agg (e - 1)))) fun z_39 => some (z_39.1, z_39.2)) else (m_eval_b389 F (tab_truth F (n + 1)) (setF rs 92 (fl (EV V col agg (e - 1)))))) else (m_eval_b389 F (tab_truth F (n + 1)) (setF rs 92 (fl (EV V col agg (e - 1)))))) = _
        rw [no, two_ok (by omega) k5, ob_s]
        cases EV V col agg (g - 1) with
        | none => rfl
        | some x =>
          cases EV V col agg (e - 1) with
          | none => rfl
          | some y => rfl
      rcases bi with ⟨-, y⟩ | ⟨-, y⟩ | ⟨-, y⟩ | ⟨-, y⟩ | ⟨-, y⟩ | ⟨-, y⟩ | ⟨-, y⟩ | ⟨-, y⟩ | ⟨κ, -, -, -, y, -⟩
      · rw [EV.and (l := g - 1) (r := e - 1) (by omega) y t3 t4 (by omega) (by omega), y, if_neg (by decide), if_neg (by decide), if_neg (by decide), if_neg (by decide), if_neg (by decide), if_pos (by decide), if_pos rfl]
        exact ao 1
      · rw [EV.or (l := g - 1) (r := e - 1) (by omega) y t3 t4 (by omega) (by omega), y, if_neg (by decide), if_neg (by decide), if_neg (by decide), if_neg (by decide), if_neg (by decide), if_pos (by decide), if_neg (by decide), if_pos rfl]
        exact ao 0
      · have w := ar (by rw [y]; decide)
        rw [y] at w ⊢
        exact w
      · have w := ar (by rw [y]; decide)
        rw [y] at w ⊢
        exact w
      · have w := ar (by rw [y]; decide)
        rw [y] at w ⊢
        exact w
      · have w := ar (by rw [y]; decide)
        rw [y] at w ⊢
        exact w
      · have w := ar (by rw [y]; decide)
        rw [y] at w ⊢
        exact w
      · have w := ar (by rw [y]; decide)
        rw [y] at w ⊢
        exact w
      · have w := ar (by rw [y]; decide)
        rw [y] at w ⊢
        exact w
    · have r24 : ∀ w, (setF rs 92 w).2.2.1 24 e = nI (g - 1) := fun w => k2.trans t7
      have r25 : ∀ w, (setF rs 92 w).2.2.1 25 e = nI (k - 1) := fun w => k3.trans t8
      have r26 : ∀ w, (setF rs 92 w).2.2.1 26 e = nI (e - 1) := fun w => k4.trans t9
      rw [EV.cas (l := g - 1) (r := k - 1) (t := e - 1) (by omega) t6 t7 t8 t9 (by omega) (by omega) (by omega), t6, if_neg (by decide), if_neg (by decide), if_neg (by decide), if_neg (by decide), if_neg (by decide), if_pos (by decide), if_neg (by decide), if_neg (by decide), if_neg (by decide), if_neg (by decide), if_pos rfl, rdI_n (by omega) (by decide), ob_s, r24, tru R a (g - 1) v t10 hA (by omega) (by omega), ob_s]
      unfold m_eval_b310
      by_cases z : tr1 (EV V col agg (g - 1)) = 1
      · rw [if_pos z, if_pos z, rdI_n (by omega) (by decide), ob_s, r25, eva R g (k - 1) _ t11 (by omega) (by omega) (by omega), ob_s]
      · rw [if_neg z, if_neg z, rdI_n (by omega) (by decide), ob_s, r26, eva R k (e - 1) _ t12 (by omega) (by omega) (by omega), ob_s]
    · obtain ⟨-, nn⟩ := nn
      have y : rk V e = 11 := by rcases nn with ⟨-, q, -⟩ | ⟨-, q, -⟩ <;> exact q
      have r24 : ∀ w, (setF rs 92 w).2.2.1 24 e = nI (g - 1) := fun w => k2.trans t6
      have r25 : ∀ w, (setF rs 92 w).2.2.1 25 e = nI r := fun w => k3.trans t7
      have chl : CHL V m r e := t9.chl m g r (e - 1) e (by omega) (by omega)
      have el : (tab_truth F n).2.1 (setF rs 92 v) (nI (g - 1)) = some (setF rs 92 (fl (EV V col agg (g - 1))), vl (EV V col agg (g - 1))) := ih R a (g - 1) t8 hA (by omega) (by omega) n v (by omega)
      have ch : CH (fun _ y => y < s ∧ ∀ w, (tab_truth F n).2.1 (setF rs 92 w) (nI y) = some (setF rs 92 (fl (EV V col agg y)), vl (EV V col agg y))) V m g r (e - 1) := CH.fr (b := g) m g r (e - 1) (fun _ _ _ => rfl) (fun a' r' b1 b2 p => ⟨by omega, fun w => ih R a' r' p (by omega) (by omega) (by omega) n w (by omega)⟩) (Nat.le_refl _) t4 (by omega) t9
      have lp := oneof_L (F := F) (x := EV V col agg (g - 1)) (e := e) (by omega) s2 k5 (fun z hz => (h.k hz).2.2.2.2.2.2) m g r (e - 1) F 121 (if fl (EV V col agg (g - 1)) = 0 then 0 else 2) (fl (EV V col agg (g - 1))) ch (by omega) (by omega)
      rw [EV.inn (l := g - 1) (r := r) (by omega) y t6 t7 (by omega) chl, y, if_neg (by decide), if_neg (by decide), if_neg (by decide), if_neg (by decide), if_neg (by decide), if_pos (by decide), if_neg (by decide), if_neg (by decide), if_neg (by decide), if_neg (by decide), if_neg (by decide), if_pos rfl]
      show (Option.bind (b_isOneOf F (tab_truth F n) (setF rs 92 v) (nI e)) fun z_43 => some (z_43.1, z_43.2)) = _
      have bo : b_isOneOf F (tab_truth F n) (setF rs 92 v) (nI e) = some (setF rs 92 (fl (ofT (inR (rh V e) (evI V (EV V col agg) (EV V col agg (g - 1)) 121 (if fl (EV V col agg (g - 1)) = 0 then 0 else 2) (nI r))))), vl (ofT (inR (rh V e) (evI V (EV V col agg) (EV V col agg (g - 1)) 121 (if fl (EV V col agg (g - 1)) = 0 then 0 else 2) (nI r))))) := by
        unfold b_isOneOf
        rw [rdI_n (by omega) (by decide), ob_s, r24, el, ob_s]
        unfold m_isOneOf_b27
        rw [rdI_n (by omega) (by decide), ob_s, r25]
        show (if fl (EV V col agg (g - 1)) = 0 then (m_isOneOf_L37 F (tab_truth F n) F (setF rs 92 (fl (EV V col agg (g - 1)))) (nI e) (vl (EV V col agg (g - 1))) (fl (EV V col agg (g - 1))) 0 (nI r)) else (m_isOneOf_L37 F (tab_truth F n) F (setF rs 92 (fl (EV V col agg (g - 1)))) (nI e) (vl (EV V col agg (g - 1))) (fl (EV V col agg (g - 1))) 2 (nI r))) = _
        obtain ⟨i0, hi0⟩ : ∃ w : Int32, w = (if fl (EV V col agg (g - 1)) = 0 then 0 else 2) := ⟨_, rfl⟩
        rw [← hi0] at lp ⊢
        by_cases z : fl (EV V col agg (g - 1)) = 0
        · rw [if_pos z] at hi0 ⊢
          rw [hi0] at lp ⊢
          exact lp
        · rw [if_neg z] at hi0 ⊢
          rw [hi0] at lp ⊢
          exact lp
      rw [bo, ob_s]
      rfl
    · obtain ⟨-, ak⟩ := ak
      rcases ak with ⟨-, y⟩ | ⟨-, y⟩ | ⟨-, y⟩ | ⟨-, y⟩
      · rw [y, if_neg (by decide), if_neg (by decide), if_neg (by decide), if_neg (by decide), if_neg (by decide), if_neg (by decide), ← y]
        exact agc (by rw [y]; decide)
      · rw [y, if_neg (by decide), if_neg (by decide), if_neg (by decide), if_neg (by decide), if_neg (by decide), if_neg (by decide), ← y]
        exact agc (by rw [y]; decide)
      · rw [y, if_neg (by decide), if_neg (by decide), if_neg (by decide), if_neg (by decide), if_neg (by decide), if_neg (by decide), ← y]
        exact agc (by rw [y]; decide)
      · rw [y, if_neg (by decide), if_neg (by decide), if_neg (by decide), if_neg (by decide), if_neg (by decide), if_neg (by decide), ← y]
        exact agc (by rw [y]; decide)

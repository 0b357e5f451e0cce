/-! the reference's order: picking -/
theorem fil_perm {P : Nat → Bool} {p : Nat} : ∀ (m : Nat), p < m → P p = true → ((List.range m).filter P).Perm (p :: (List.range m).filter (fun i => P i && i != p))
  | 0, h, _ => absurd h (by omega)
  | m + 1, h, hp => by
    rw [List.range_succ, List.filter_append, List.filter_append]
    by_cases q : p = m
    · have e1 : [m].filter P = [m] := by rw [List.filter_cons, if_pos (by rw [← q]; exact hp)]; rfl
      have e2 : [m].filter (fun i => P i && i != p) = [] := by
        rw [List.filter_cons, if_neg (by rw [q]; simp)]
        rfl
      have e3 : (List.range m).filter (fun i => P i && i != p) = (List.range m).filter P := List.filter_congr (fun i hi => by
        have := List.mem_range.mp hi
        rw [show (i != p) = true from bne_iff_ne.mpr (by omega), Bool.and_true])
      rw [e1, e2, List.append_nil, e3, q]
      exact List.perm_append_singleton m _
    · have ih := fil_perm m (by omega) hp
      have e4 : [m].filter (fun i => P i && i != p) = [m].filter P := List.filter_congr (fun i hi => by
        rw [List.mem_singleton.mp hi, show (m != p) = true from bne_iff_ne.mpr (by omega), Bool.and_true])
      rw [e4]
      exact ih.append_right _
/-- what picking leaves alone -/
def RB9 (U N : Nat) (X Y : RS) : Prop := (FR rS X Y) ∧ (∀ i, i < U → rc Y i = rc X i) ∧ (∀ q, q ≠ 87 → q ≠ 92 → q ≠ 93 → Y.1 q = X.1 q) ∧ (∀ q r, q ≠ 86 → q ≠ 99 → ¬ (q = 89 ∧ r = N) → Y.2.2.1 q r = X.2.2.1 q r)
theorem RB9.fr {U N : Nat} {X Y : RS} (h : RB9 U N X Y) : FR rS X Y := h.1
theorem RB9.ce {U N : Nat} {X Y : RS} (h : RB9 U N X Y) : ∀ i, i < U → rc Y i = rc X i := h.2.1
theorem RB9.f1 {U N : Nat} {X Y : RS} (h : RB9 U N X Y) : ∀ q, q ≠ 87 → q ≠ 92 → q ≠ 93 → Y.1 q = X.1 q := h.2.2.1
theorem RB9.ar {U N : Nat} {X Y : RS} (h : RB9 U N X Y) : ∀ q r, q ≠ 86 → q ≠ 99 → ¬ (q = 89 ∧ r = N) → Y.2.2.1 q r = X.2.2.1 q r := h.2.2.2
theorem RB9.refl {U N : Nat} {X : RS} : RB9 U N X X := ⟨FR.refl X, fun _ _ => rfl, fun _ _ _ _ => rfl, fun _ _ _ _ _ => rfl⟩
theorem RB9.trans {U N : Nat} {X Y Z : RS} (h : RB9 U N X Y) (g : RB9 U N Y Z) : RB9 U N X Z := ⟨h.fr.trans g.fr, fun i hi => (g.ce i hi).trans (h.ce i hi), fun q a b c => (g.f1 q a b c).trans (h.f1 q a b c), fun q r a b c => (g.ar q r a b c).trans (h.ar q r a b c)⟩
theorem RBF.r9 {U N : Nat} {X Y : RS} (h : RBF U N X Y) : RB9 U N X Y := ⟨h.fr, h.ce, h.f1, fun q r a _ b => h.ar q r a b⟩
theorem RB9.s {U N i : Nat} {X : RS} {v : Int32} : RB9 U N X (setI X 99 i v) := by
  refine ⟨FR.setI (by unfold rS; omega), fun j _ => ?_, fun _ _ _ _ => rfl, fun q r _ b _ => sIa_n (by omega)⟩
  unfold rc
  rw [sIa_n (by omega)]
  rfl
theorem RB9.rln {U N r b w m : Nat} {X Y : RS} (h : RB9 U N X Y) (g : RLN X r b w m) (hr : r ≠ N) : RLN Y r b w m := ⟨g.r4, by rw [h.ar 88 r (by decide) (by decide) (by omega)]; exact g.b, by rw [h.ar 89 r (by decide) (by decide) (by omega)]; exact g.m, by rw [h.ar 90 r (by decide) (by decide) (by omega)]; exact g.w⟩
theorem RB9.ro {U N : Nat} {X Y : RS} (h : RB9 U N X Y) : RO U N X Y := ⟨h.fr, h.ce, fun q r q1 q2 hr => h.ar q r (by omega) (by omega) (by omega)⟩
theorem OUR.s {U N w k i : Nat} {rows : List (List OV)} {X : RS} {v : Int32} (h : OUR U N w k rows X) : OUR U N w k rows (setI X 99 i v) := by
  refine ⟨⟨h.st.u, h.st.n, h.st.u4, h.st.n4, fun j => by rw [sIa_n (by omega)]; exact h.st.fb j⟩, ⟨h.rl.r4, by rw [sIa_n (by omega)]; exact h.rl.b, by rw [sIa_n (by omega)]; exact h.rl.m, by rw [sIa_n (by omega)]; exact h.rl.w⟩, ?_⟩
  rw [← h.rw']
  exact rows_eq (U := U + k * w) (RB9.s (U := U + k * w) (N := N)).ce (Nat.le_refl _)
/-- the best row so far, if any -/
def bI : Option Nat → Int32
  | none => -1
  | some p => nI p
def PIN (g : Nat → Int32) (kf : Nat → List Int) (j : Nat) : Option Nat → Prop
  | none => ∀ i, i < j → g i ≠ 0
  | some p => p < j ∧ g p = 0 ∧ ∀ i, i < j → g i = 0 → lexI (kf i) (kf p) = false
theorem pick_L {F N N1 w n q r b m kb cnt k : Nat} {dn : Nat → Int32} {val : Nat → List OV → OV} {rc188 : RS → Int32 → Int32 → Int32 → Int32 → Int32 → Int32 → Option (RS × Int32)} {X : RS} (hF : 10000 ≤ F) (hq : q < 60) (h8 : n ≤ 8) (hw : w ≤ 100) (hm : m ≤ 700) (r64 : X.2.2.1 64 q = nI n) (r67 : ∀ t, t < n → X.2.2.1 67 (8 * q + t) = dn t) (rl : RLN X r b w m) (rk : RLN X N kb n m) (hb : b + m * w ≤ 400000) (hk : kb + m * n ≤ 400000) (ky : ∀ i s, i < m → s < n → rc X (kb + i * n + s) = val s (rowL X (b + i * w) w)) : ∀ (d j u : Nat) (best : Option Nat), m = j + d → d < u → PIN (X.2.2.1 99) (fun i => okey n dn val (rowL X (b + i * w) w)) j best → ∃ u' best', m_ordered_L201 F rc188 u X (nI q) (nI r) (nI N) (nI N1) (nI cnt) (nI k) (bI best) (nI j) = m_ordered_L201 F rc188 (u' + 1) X (nI q) (nI r) (nI N) (nI N1) (nI cnt) (nI k) (bI best') (nI m) ∧ PIN (X.2.2.1 99) (fun i => okey n dn val (rowL X (b + i * w) w)) m best' := by
  intro d
  induction d with
  | zero =>
    intro j u best d1 d2 d3
    obtain ⟨u, rfl⟩ : ∃ z, u = z + 1 := ⟨u - 1, by omega⟩
    have ej : j = m := by omega
    rw [ej] at d3 ⊢
    exact ⟨u, best, rfl, d3⟩
  | succ d ih =>
    intro j u best d1 d2 d3
    obtain ⟨u, rfl⟩ : ∃ z, u = z + 1 := ⟨u - 1, by omega⟩
    have head : m_ordered_L201 F rc188 (u + 1) X (nI q) (nI r) (nI N) (nI N1) (nI cnt) (nI k) (bI best) (nI j) = if X.2.2.1 99 j = 0 then (if bI best = (-1) then (m_ordered_L201 F rc188 u X (nI q) (nI r) (nI N) (nI N1) (nI cnt) (nI k) (nI j) (nI (j + 1))) else (Option.bind (m_ahead F X (nI q) (nI r) (nI N) (nI j) (bI best)) fun v_11 => if v_11 = 0 then (m_ordered_L201 F rc188 u X (nI q) (nI r) (nI N) (nI N1) (nI cnt) (nI k) (bI best) (nI (j + 1))) else (m_ordered_L201 F rc188 u X (nI q) (nI r) (nI N) (nI N1) (nI cnt) (nI k) (nI j) (nI (j + 1))))) else (m_ordered_L201 F rc188 u X (nI q) (nI r) (nI N) (nI N1) (nI cnt) (nI k) (bI best) (nI (j + 1))) := by
      rw [m_ordered_L201, rdI_n rl.r4 (by decide), ob_s, rl.m, if_neg (nI_ge (by omega) (by omega)), rdI_n (show j < 700 by omega) (by decide), ob_s]
      unfold m_ordered_b243 m_ordered_b247
      rw [nI_1]
    by_cases z : X.2.2.1 99 j = 0
    · rw [if_pos z] at head
      cases best with
      | none =>
        rw [if_pos (show bI none = (-1) from rfl)] at head
        obtain ⟨u', best', c1, c2⟩ := ih (j + 1) u (some j) (by omega) (by omega) ⟨by omega, z, fun i hi gi => by
          by_cases y : i = j
          · rw [y]; exact lex_ir _
          · exact absurd gi (d3 i (by omega))⟩
        exact ⟨u', best', head.trans c1, c2⟩
      | some p =>
        obtain ⟨p1, p2, p3⟩ := d3
        have ah := ahead_ok (F := F) (dn := dn) (i := j) (j := p) hF hq h8 hw r64 r67 rl rk (by omega) (by omega) hb hk ky
        rw [if_neg (show ¬ bI (some p) = (-1) from nI_nm1 (by omega)), show m_ahead F X (nI q) (nI r) (nI N) (nI j) (bI (some p)) = _ from ah, ob_s] at head
        cases e : lexI (okey n dn val (rowL X (b + j * w) w)) (okey n dn val (rowL X (b + p * w) w)) with
        | true =>
          rw [e, if_neg (by decide)] at head
          obtain ⟨u', best', c1, c2⟩ := ih (j + 1) u (some j) (by omega) (by omega) ⟨by omega, z, fun i hi gi => by
            by_cases y : i = j
            · rw [y]; exact lex_ir _
            · have q1 := p3 i (by omega) gi
              show lexI (okey n dn val (rowL X (b + i * w) w)) (okey n dn val (rowL X (b + j * w) w)) = false
              cases e2 : lexI (okey n dn val (rowL X (b + i * w) w)) (okey n dn val (rowL X (b + j * w) w)) with
              | false => rfl
              | true =>
                have q2 : lexI (okey n dn val (rowL X (b + i * w) w)) (okey n dn val (rowL X (b + p * w) w)) = false := q1
                rw [lex_tr _ _ _ e2 e] at q2
                cases q2⟩
          exact ⟨u', best', head.trans c1, c2⟩
        | false =>
          rw [e, if_pos (by decide)] at head
          obtain ⟨u', best', c1, c2⟩ := ih (j + 1) u (some p) (by omega) (by omega) ⟨by omega, p2, fun i hi gi => by
            by_cases y : i = j
            · rw [y]; exact e
            · exact p3 i (by omega) gi⟩
          exact ⟨u', best', head.trans c1, c2⟩
    · rw [if_neg z] at head
      obtain ⟨u', best', c1, c2⟩ := ih (j + 1) u best (by omega) (by omega) (by
        cases best with
        | none =>
          intro i hi
          by_cases y : i = j
          · rw [y]; exact z
          · exact d3 i (by omega)
        | some p =>
          obtain ⟨p1, p2, p3⟩ := d3
          exact ⟨by omega, p2, fun i hi gi => by
            by_cases y : i = j
            · rw [y] at gi
              exact absurd gi z
            · exact p3 i (by omega) gi⟩)
      exact ⟨u', best', head.trans c1, c2⟩
/-- the rows not yet taken -/
def remL (g : Nat → Int32) (m : Nat) (R : Nat → List OV) : LL := ((List.range m).filter (fun i => g i == 0)).map R

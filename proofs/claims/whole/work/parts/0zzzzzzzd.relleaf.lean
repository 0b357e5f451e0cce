/-! the reference's relations: a stream's rows -/
theorem BRW.put {U N w k t : Nat} {rows : LL} {f : Nat → OV} {X : RS} {v : Int64} {b : Int32} (h : BRW U N w k t rows f X) (hx : (b = 0 ∧ f t = some v) ∨ (b = 1 ∧ f t = none)) : BRW U N w k (t + 1) rows f (setI (setL X 85 (U + k * w + t) v) 86 (U + k * w + t) b) := by
  have fz : b = 0 ∨ b = 1 := hx.imp (fun q => q.1) (fun q => q.1)
  have cw : RCW X (setI (setL X 85 (U + k * w + t) v) 86 (U + k * w + t) b) := RCW.st fz
  have cs := cell_st (rs := X) (i := U + k * w + t) (v := v) (b := b) (x := f t) hx
  refine ⟨cw.rst h.st, cw.rln h.rl, ?_, fun j hj => ?_⟩
  · rw [← h.rw']
    exact rows_eq (U := U + k * w) (fun i hi => by rw [cs i, if_neg (by omega)]) (Nat.le_refl _)
  · rw [cs]
    by_cases q : j = t
    · rw [if_pos (by omega), q]
    · rw [if_neg (by omega)]
      exact h.ce j (by omega)
def sinc (wm k : Int64) : Int64 := if wm - k ≤ wm then wm - k else -9223372036854775808
/-- whether the row r is seen by the SOURCE o -/
def isin (rs : RS) (o r : Nat) : Bool := !(rs.2.2.1 6 r == 0) && (rs.2.2.1 51 o == 0 || !decide (rs.2.2.2 7 r < sinc rs.2.1 (rs.2.2.2 52 o)))
theorem isin_ok {F o r : Nat} {rs : RS} (ho : o < 180) (hr : r < 48) : m_isIn F rs (nI o) (nI r) = some (if isin rs o r = true then 1 else 0) := by
  unfold m_isIn m_isIn_b33 m_isIn_b37 m_isIn_b38 m_since m_since_b41 isin
  rw [rdI_n hr (by decide), ob_s, rdI_n ho (by decide), ob_s, rdL_n hr (by decide), ob_s]
  by_cases q1 : rs.2.2.1 6 r = 0
  · rw [if_pos q1, q1]; rfl
  · rw [if_neg q1, show (rs.2.2.1 6 r == 0) = false from beq_eq_false_iff_ne.mpr q1]
    by_cases q2 : rs.2.2.1 51 o = 0
    · rw [if_pos q2, q2]; rfl
    · rw [if_neg q2, ob_s, if_neg q2, rdL_n ho (by decide), ob_s, show (rs.2.2.1 51 o == 0) = false from beq_eq_false_iff_ne.mpr q2]
      have e : (if (rs.2.1 - rs.2.2.2 52 o) ≤ rs.2.1 then some (rs.2.1 - rs.2.2.2 52 o) else some (-9223372036854775808)) = some (sinc rs.2.1 (rs.2.2.2 52 o)) := by
        unfold sinc
        by_cases q : (rs.2.1 - rs.2.2.2 52 o) ≤ rs.2.1
        · rw [if_pos q, if_pos q]
        · rw [if_neg q, if_neg q]
      rw [e, ob_s]
      by_cases q3 : rs.2.2.2 7 r < sinc rs.2.1 (rs.2.2.2 52 o)
      · rw [if_pos q3, decide_eq_true q3]; rfl
      · rw [if_neg q3, decide_eq_false q3]; rfl
/-- a row of a stream of n columns, its time behind -/
def strc (rs : RS) (r n k : Nat) : OV := if k < n then (if rs.2.2.1 9 (4 * r + k) = 0 then some (rs.2.2.2 8 (4 * r + k)) else none) else some (rs.2.2.2 7 r)
def strow (rs : RS) (r n : Nat) : List OV := (List.range (n + 1)).map (strc rs r n)
def leafL (rs : RS) (o s n : Nat) : LL := ((List.range 8).filter (fun p => isin rs o (8 * s + p))).map (fun p => strow rs (8 * s + p) n)
theorem nI_4 (a : Nat) : (4 : Int32) * nI a = nI (4 * a) := by
  rw [show (4 : Int32) = nI 4 from rfl, pk_mul]
theorem lfc_L {F U N o s n r k p : Nat} {T : TG_workQuery} {rc47 : RS → Int32 → Int32 → Int32 → Int32 → Int32 → Option (RS × Int32)} {rows : LL} {rs : RS} (hr : r < 48) (hn : n ≤ 4) (hU : U + k * (n + 1) + (n + 1) ≤ 400000) (f9 : ∀ i, rs.2.2.1 9 i = 0 ∨ rs.2.2.1 9 i = 1) : ∀ (d t u : Nat) (X : RS), n = t + d → d < u → FR rS rs X → BRW U N (n + 1) k t rows (strc rs r n) X → ∃ Y, m_workSource_L84 F T rc47 u X (nI o) (nI s) (nI n) (nI N) (nI p) (nI r) (nI (U + k * (n + 1))) (nI t) = rc47 Y (nI o) (nI s) (nI n) (nI N) (nI (p + 1)) ∧ OUR U N (n + 1) (k + 1) (rows ++ [strow rs r n]) Y ∧ RBF U N X Y := by
  intro d
  induction d with
  | zero =>
    intro t u X d1 d2 fr o'
    obtain ⟨u, rfl⟩ : ∃ z, u = z + 1 := ⟨u - 1, by omega⟩
    have et : t = n := by omega
    rw [et] at o' ⊢
    obtain ⟨Y, hY⟩ : ∃ z, z = setI (setL X 85 (U + k * (n + 1) + n) (rs.2.2.2 7 r)) 86 (U + k * (n + 1) + n) 0 := ⟨_, rfl⟩
    have oy : BRW U N (n + 1) k (n + 1) rows (strc rs r n) Y := by
      rw [hY]
      exact o'.put (Or.inl ⟨rfl, if_neg (by omega)⟩)
    refine ⟨Y, ?_, oy.fin, by rw [hY]; exact RBF.cell (by omega) (Or.inl rfl)⟩
    rw [m_workSource_L84, if_pos (nI_le (by omega) (by omega)), rdL_n hr (by decide), ob_s, nI_add, wrL_n (by omega) (by decide), ob_s, show vp_nar .boolean 0 = 0 from rfl, wrI_n (by omega) (by decide), ob_s, fr.l (k := 7) (by unfold rS; omega), ← hY]
    unfold m_workSource_b166
    rw [nI_1]
  | succ d ih =>
    intro t u X d1 d2 fr o'
    obtain ⟨u, rfl⟩ : ∃ z, u = z + 1 := ⟨u - 1, by omega⟩
    obtain ⟨Y, hY⟩ : ∃ z, z = setI (setL X 85 (U + k * (n + 1) + t) (rs.2.2.2 8 (4 * r + t))) 86 (U + k * (n + 1) + t) (rs.2.2.1 9 (4 * r + t)) := ⟨_, rfl⟩
    have oy : BRW U N (n + 1) k (t + 1) rows (strc rs r n) Y := by
      rw [hY]
      refine o'.put ?_
      unfold strc
      rw [if_pos (show t < n by omega)]
      rcases f9 (4 * r + t) with q | q
      · exact Or.inl ⟨q, if_pos q⟩
      · exact Or.inr ⟨q, if_neg (by rw [q]; decide)⟩
    have fy : RBF U N X Y := by rw [hY]; exact RBF.cell (by omega) (f9 _)
    obtain ⟨Z, c1, c2, c3⟩ := ih (t + 1) u Y (by omega) (by omega) (fr.trans fy.fr) oy
    refine ⟨Z, ?_, c2, fy.trans c3⟩
    rw [m_workSource_L84, if_neg (nI_ge (by omega) (by omega)), nI_4, nI_add, nI_add, rdL_n (by omega) (by decide), ob_s, wrL_n (by omega) (by decide), ob_s, rdI_n (by omega) (by decide), ob_s, show (setL X 85 (U + k * (n + 1) + t) (X.2.2.2 8 (4 * r + t))).2.2.1 9 (4 * r + t) = rs.2.2.1 9 (4 * r + t) by rw [← fr.a (k := 9) (by unfold rS; omega)]; rfl, nar_b (f9 _), wrI_n (by omega) (by decide), ob_s, fr.l (k := 8) (by unfold rS; omega), ← hY, nI_1]
    exact c1
theorem lf_L {F U N o s n : Nat} {T : TG_workQuery} {rs : RS} (hF : 10000 ≤ F) (ho : o < 180) (hs : s < 6) (hn : n ≤ 4) (hU : U + 8 * (n + 1) ≤ 400000) (f9 : ∀ i, rs.2.2.1 9 i = 0 ∨ rs.2.2.1 9 i = 1) : ∀ (d p u k : Nat) (rows : LL) (X : RS), 8 = p + d → d < u → k ≤ p → FR rS rs X → OUR U N (n + 1) k rows X → ∃ Y k', m_workSource_L47 F T u X (nI o) (nI s) (nI n) (nI N) (nI p) = some (Y, nI N) ∧ k' ≤ 8 ∧ OUR U N (n + 1) k' (rows ++ ((List.range' p d).filter (fun p => isin rs o (8 * s + p))).map (fun p => strow rs (8 * s + p) n)) Y ∧ RBF U N X Y := by
  intro d
  induction d with
  | zero =>
    intro p u k rows X d1 d2 d3 fr o'
    obtain ⟨u, rfl⟩ : ∃ z, u = z + 1 := ⟨u - 1, by omega⟩
    refine ⟨X, k, ?_, by omega, by rw [List.range'_zero, List.filter_nil, List.map_nil, List.append_nil]; exact o', RBF.refl⟩
    rw [m_workSource_L47, if_pos (show (8 : Int32) ≤ nI p from nI_le (a := 8) (b := p) (by omega) (by omega))]
  | succ d ih =>
    intro p u k rows X d1 d2 d3 fr o'
    obtain ⟨u, rfl⟩ : ∃ z, u = z + 1 := ⟨u - 1, by omega⟩
    have q2 : (k + 1) * (n + 1) ≤ 8 * (n + 1) := Nat.mul_le_mul_right (n + 1) (by omega)
    rw [Nat.succ_mul] at q2
    have ii := isin_ok (F := F) (o := o) (r := 8 * s + p) (rs := X) ho (by omega)
    have ee : isin X o (8 * s + p) = isin rs o (8 * s + p) := by
      unfold isin
      rw [fr.a (k := 6) (by unfold rS; omega), fr.a (k := 51) (by unfold rS; omega), fr.l (k := 7) (by unfold rS; omega), fr.l (k := 52) (by unfold rS; omega), fr.1.resolve_left (by unfold rS; omega)]
    rw [ee] at ii
    have lst : ((List.range' p (d + 1)).filter (fun p => isin rs o (8 * s + p))).map (fun p => strow rs (8 * s + p) n) = (if isin rs o (8 * s + p) = true then [strow rs (8 * s + p) n] else []) ++ ((List.range' (p + 1) d).filter (fun p => isin rs o (8 * s + p))).map (fun p => strow rs (8 * s + p) n) := by
      rw [List.range'_succ, List.filter_cons]
      by_cases z : isin rs o (8 * s + p) = true
      · rw [if_pos z, if_pos z, List.map_cons]
        rfl
      · rw [if_neg z, if_neg z, List.nil_append]
    by_cases z : isin rs o (8 * s + p) = true
    · obtain ⟨X1, e1, e2, e3⟩ := BRW.new (F := F) (f := strc rs (8 * s + p) n) o' (by omega) (by omega)
      have f1 : RBF U N X X1 := ⟨e3.fr, fun j hj => e3.ce j (by omega), e3.f1, e3.ar⟩
      obtain ⟨X2, c1, c2, c3⟩ := lfc_L (F := F) (T := T) (o := o) (s := s) (p := p) (rc47 := m_workSource_L47 F T u) (rs := rs) (r := 8 * s + p) (k := k) (by omega) hn (by omega) f9 n 0 F X1 (by omega) (by omega) (fr.trans f1.fr) e2
      have f2 := f1.trans c3
      obtain ⟨Y, k', g1, g2, g3, g4⟩ := ih (p + 1) u (k + 1) _ X2 (by omega) (by omega) (by omega) (fr.trans f2.fr) c2
      refine ⟨Y, k', ?_, g2, ?_, f2.trans g4⟩
      · rw [m_workSource_L47, if_neg (show ¬ (8 : Int32) ≤ nI p from nI_ge (a := p) (b := 8) (by omega) (by decide)), nI_8, nI_add, ii, if_pos z, ob_s, if_neg (by decide), e1, ob_s]
        show m_workSource_L84 F T (m_workSource_L47 F T u) F X1 (nI o) (nI s) (nI n) (nI N) (nI p) (nI (8 * s + p)) (nI (U + k * (n + 1))) (nI 0) = _
        rw [c1]
        exact g1
      · rw [lst, if_pos z, ← List.append_assoc]
        exact g3
    · obtain ⟨Y, k', g1, g2, g3, g4⟩ := ih (p + 1) u k rows X (by omega) (by omega) (by omega) fr o'
      refine ⟨Y, k', ?_, g2, ?_, g4⟩
      · rw [m_workSource_L47, if_neg (show ¬ (8 : Int32) ≤ nI p from nI_ge (a := p) (b := 8) (by omega) (by decide)), nI_8, nI_add, ii, if_neg z, ob_s, if_pos rfl]
        unfold m_workSource_b166
        rw [nI_1]
        exact g1
      · rw [lst, if_neg z, List.nil_append]
        exact g3
theorem leaf_ok {F U N o s n : Nat} {T : TG_workQuery} {rs : RS} (hF : 10000 ≤ F) (ho : o < 180) (hs : s < 6) (hn : n ≤ 4) (hN : N < 400) (hU : U + 8 * (n + 1) ≤ 400000) (f9 : ∀ i, rs.2.2.1 9 i = 0 ∨ rs.2.2.1 9 i = 1) (r49 : rs.2.2.1 49 o = nI s) (r5 : rs.2.2.1 5 s = nI n) (st : RST U N rs) : ∃ rs', b_workSource F T rs (nI o) = some (rs', nI N) ∧ ROP U N (n + 1) 8 (leafL rs o s n) rs rs' := by
  obtain ⟨X, e1, e2, e3, e4, e5, e6, e7⟩ := rel_ok (F := F) (w := n + 1) st hN
  have o' : OUR U N (n + 1) 0 [] X := ⟨by rw [Nat.zero_mul, Nat.add_zero]; exact e2, e4, rfl⟩
  obtain ⟨Y, k', b1, b2, b3, b4⟩ := lf_L (F := F) (T := T) (N := N) hF ho hs hn hU f9 8 0 F 0 [] X (by omega) (by omega) (Nat.le_refl _) e3.fr o'
  refine ⟨Y, ?_, ?_⟩
  · unfold b_workSource
    rw [rdI_n ho (by decide), ob_s, r49, if_neg (nI_nm1 (by omega)), ob_s, rdI_n hs (by decide), ob_s, r5, nI_1, e1, ob_s]
    exact b1
  · rw [List.nil_append, ← List.range_eq_range'] at b3
    exact ROP.of b3 b2 e3 b4 e6

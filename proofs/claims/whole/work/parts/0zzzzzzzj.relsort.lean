/-! the reference's order: whole -/
theorem sel9_L {F U1 N N1 w n q r b m kb cnt : Nat} {dn : Nat → Int32} {val : Nat → List OV → OV} {Y : RS} (hF : 10000 ≤ F) (hq : q < 60) (h8 : n ≤ 8) (hw : w ≤ 100) (hm : m ≤ 700) (hc : cnt ≤ m) (hN : r < N1 ∧ N < N1) (r64 : Y.2.2.1 64 q = nI n) (r67 : ∀ t, t < n → Y.2.2.1 67 (8 * q + t) = dn t) (rl : RLN Y r b w m) (rk : RLN Y N kb n m) (hb : b + m * w ≤ U1) (hk : kb + m * n ≤ U1) (hU : U1 + m * w ≤ 400000) (ky : ∀ i s, i < m → s < n → rc Y (kb + i * n + s) = val s (rowL Y (b + i * w) w)) : ∀ (d k u : Nat) (out : LL) (X : RS), cnt = k + d → d < u → RB9 U1 N1 Y X → OUR U1 N1 w k out X → out ++ srtK (okey n dn val) (remL (X.2.2.1 99) m (fun i => rowL Y (b + i * w) w)) = srtK (okey n dn val) (rowsL Y b w m) → ∃ Z, m_ordered_L188 F u X (nI q) (nI r) (nI N) (nI N1) (nI cnt) (nI k) = some (Z, nI N1) ∧ OUR U1 N1 w cnt ((srtK (okey n dn val) (rowsL Y b w m)).take cnt) Z ∧ RB9 U1 N1 Y Z := by
  intro d
  induction d with
  | zero =>
    intro k u out X d1 d2 fy o inv
    obtain ⟨u, rfl⟩ : ∃ z, u = z + 1 := ⟨u - 1, by omega⟩
    have ek : k = cnt := by omega
    have ol := o.len
    refine ⟨X, ?_, ?_, fy⟩
    · rw [m_ordered_L188, if_pos (nI_le (by omega) (by omega))]
    · rw [← inv, List.take_left' (ol.trans ek), ← ek]
      exact o
  | succ d ih =>
    intro k u out X d1 d2 fy o inv
    obtain ⟨u, rfl⟩ : ∃ z, u = z + 1 := ⟨u - 1, by omega⟩
    have ce := fy.ce
    have rlX := fy.rln rl (by omega)
    have rkX := fy.rln rk (by omega)
    have rowX : ∀ i, i < m → rowL X (b + i * w) w = rowL Y (b + i * w) w := fun i hi => by
      have q1 : (i + 1) * w ≤ m * w := Nat.mul_le_mul_right w (by omega)
      rw [Nat.succ_mul] at q1
      exact rowL_eq ce (by omega)
    have kyX : ∀ i s, i < m → s < n → rc X (kb + i * n + s) = val s (rowL X (b + i * w) w) := fun i s hi hs => by
      have q1 : (i + 1) * n ≤ m * n := Nat.mul_le_mul_right n (by omega)
      rw [Nat.succ_mul] at q1
      rw [rowX i hi, ce _ (by omega), ky i s hi hs]
    obtain ⟨u', best, c1, c2⟩ := pick_L (F := F) (N1 := N1) (cnt := cnt) (k := k) (dn := dn) (rc188 := m_ordered_L188 F u) (X := X) hF hq h8 hw hm (by rw [fy.fr.a (k := 64) (by unfold rS; omega)]; exact r64) (fun t ht => by rw [fy.fr.a (k := 67) (by unfold rS; omega)]; exact r67 t ht) rlX rkX (by omega) (by omega) kyX m 0 F none (by omega) (by omega) (fun i hi => absurd hi (by omega))
    have head : m_ordered_L188 F (u + 1) X (nI q) (nI r) (nI N) (nI N1) (nI cnt) (nI k) = m_ordered_L201 F (m_ordered_L188 F u) (u' + 1) X (nI q) (nI r) (nI N) (nI N1) (nI cnt) (nI k) (bI best) (nI m) := by
      rw [m_ordered_L188, if_neg (nI_ge (by omega) (by omega))]
      exact c1
    have ol := o.len
    cases best with
    | none =>
      have e0 : remL (X.2.2.1 99) m (fun i => rowL Y (b + i * w) w) = [] := by
        unfold remL
        rw [List.filter_eq_nil_iff.mpr (fun i hi w => c2 i (List.mem_range.mp hi) (eq_of_beq w))]
        rfl
      rw [e0] at inv
      have q1 : (out ++ srtK (okey n dn val) []).length = (rowsL Y b w m).length := by rw [inv, (srt_perm _).length_eq]
      rw [List.length_append, rows_len, ol] at q1
      have q2 : (srtK (okey n dn val) []).length = 0 := rfl
      omega
    | some p =>
      obtain ⟨p1, p2, p3⟩ := c2
      have q1 : (p + 1) * w ≤ m * w := Nat.mul_le_mul_right w (by omega)
      rw [Nat.succ_mul] at q1
      have q2 : (k + 1) * w ≤ m * w := Nat.mul_le_mul_right w (by omega)
      rw [Nat.succ_mul] at q2
      obtain ⟨X1, hX1⟩ : ∃ z, z = setI X 99 p 1 := ⟨_, rfl⟩
      have o1 : OUR U1 N1 w k out X1 := by rw [hX1]; exact o.s
      have f1 : RB9 U1 N1 X X1 := by rw [hX1]; exact RB9.s
      have g1 : ∀ i, X1.2.2.1 99 i = if i = p then 1 else X.2.2.1 99 i := fun i => by
        rw [hX1]
        by_cases y : i = p
        · rw [if_pos y, y, sIa_s]
        · rw [if_neg y, sIa_n (by omega)]
      obtain ⟨X2, X3, a1, a2, a3, a4, a5⟩ := app_ok (F := F) (p := b + p * w) hF o1 hw (by omega) (by omega) (by omega)
      have f3 : RBF U1 N1 X1 X3 := ⟨a4.fr, fun j hj => a4.ce j (by omega), a4.f1, a4.ar⟩
      have rx1 : rowL X1 (b + p * w) w = rowL Y (b + p * w) w := (rowL_eq (U := U1) f1.ce (by omega)).trans (rowX p (by omega))
      rw [rx1] at a3
      have g3 : ∀ i, X3.2.2.1 99 i = if i = p then 1 else X.2.2.1 99 i := fun i => (a4.ar 99 i (by decide) (by omega)).trans (g1 i)
      have e3 : (List.range m).filter (fun i => X3.2.2.1 99 i == 0) = (List.range m).filter (fun i => (X.2.2.1 99 i == 0) && i != p) := List.filter_congr (fun i _ => by
        rw [g3 i]
        by_cases y : i = p
        · rw [if_pos y, y, show (p != p) = false from bne_self_eq_false p, Bool.and_false]
          rfl
        · rw [if_neg y, show (i != p) = true from bne_iff_ne.mpr y, Bool.and_true])
      have pm : (remL (X.2.2.1 99) m (fun i => rowL Y (b + i * w) w)).Perm (rowL Y (b + p * w) w :: remL (X3.2.2.1 99) m (fun i => rowL Y (b + i * w) w)) := by
        unfold remL
        rw [e3]
        exact (fil_perm (P := fun i => X.2.2.1 99 i == 0) m (by omega) (beq_iff_eq.mpr p2)).map (fun i => rowL Y (b + i * w) w)
      have mn := srt_min (K := okey n dn val) (fun x y h => okey_inj x y h) pm (fun y hy => by
        unfold remL at hy
        obtain ⟨i, i1, i2⟩ := List.mem_map.mp hy
        obtain ⟨i3, i4⟩ := List.mem_filter.mp i1
        have i5 := List.mem_range.mp i3
        have i6 := eq_of_beq i4
        rw [g3 i] at i6
        by_cases z : i = p
        · rw [if_pos z] at i6
          exact absurd i6 (by decide)
        · rw [if_neg z] at i6
          have q3 : lexI (okey n dn val (rowL X (b + i * w) w)) (okey n dn val (rowL X (b + p * w) w)) = false := p3 i i5 i6
          rw [rowX i i5, rowX p (by omega)] at q3
          rw [← i2]
          exact q3)
      have fy3 := fy.trans (f1.trans f3.r9)
      obtain ⟨Z, b1, b2, b3⟩ := ih (k + 1) u _ X3 (by omega) (by omega) fy3 a3 (by
        rw [List.append_assoc, ← inv, mn]
        rfl)
      refine ⟨Z, ?_, b2, b3⟩
      rw [head, m_ordered_L201, rdI_n rlX.r4 (by decide), ob_s, rlX.m, if_pos (nI_le (by omega) (by omega)), show bI (some p) = nI p from rfl, show vp_nar .boolean 1 = 1 from rfl, wrI_n (show p < 700 by omega) (by decide), ob_s, ← hX1, at_ok (f1.rln rlX (by omega)), ob_s, a1, ob_s]
      show (Option.bind (rdI (X2.2.2.1 90) 400 (nI r)) fun v_6 => Option.bind (m_copy F X2 (nI (b + p * w)) (nI (U1 + k * w)) v_6) fun cs_7 => m_ordered_L188 F u cs_7 (nI q) (nI r) (nI N) (nI N1) (nI cnt) (nI k + 1)) = _
      rw [rdI_n rlX.r4 (by decide), ob_s, a5.ar 90 r (by decide) (by omega), (f1.rln rlX (by omega)).w, a2, ob_s, nI_1]
      exact b1
theorem clr_L {F U1 N N1 w q r b m cnt k : Nat} {out : LL} (hm : m ≤ 700) (hr : r < N1) : ∀ (d i u : Nat) (X : RS), m = i + d → d < u → RLN X r b w m → OUR U1 N1 w k out X → (∀ j, j < i → X.2.2.1 99 j = 0) → ∃ Z, m_ordered_L160 F u X (nI q) (nI r) (nI N) (nI N1) (nI cnt) (nI i) = m_ordered_L188 F F Z (nI q) (nI r) (nI N) (nI N1) (nI cnt) (nI 0) ∧ RB9 U1 N1 X Z ∧ OUR U1 N1 w k out Z ∧ (∀ j, j < m → Z.2.2.1 99 j = 0) := by
  intro d
  induction d with
  | zero =>
    intro i u X d1 d2 rl o z
    obtain ⟨u, rfl⟩ : ∃ z, u = z + 1 := ⟨u - 1, by omega⟩
    refine ⟨X, ?_, RB9.refl, o, fun j hj => z j (by omega)⟩
    rw [m_ordered_L160, rdI_n rl.r4 (by decide), ob_s, rl.m, if_pos (nI_le (by omega) (by omega))]
    rfl
  | succ d ih =>
    intro i u X d1 d2 rl o z
    obtain ⟨u, rfl⟩ : ∃ z, u = z + 1 := ⟨u - 1, by omega⟩
    obtain ⟨X1, hX1⟩ : ∃ z, z = setI X 99 i 0 := ⟨_, rfl⟩
    have o1 : OUR U1 N1 w k out X1 := by rw [hX1]; exact o.s
    have f1 : RB9 U1 N1 X X1 := by rw [hX1]; exact RB9.s
    obtain ⟨Z, b1, b2, b3, b4⟩ := ih (i + 1) u X1 (by omega) (by omega) (f1.rln rl (by omega)) o1 (fun j hj => by
      rw [hX1]
      by_cases y : j = i
      · rw [y, sIa_s]
      · rw [sIa_n (by omega)]
        exact z j (by omega))
    refine ⟨Z, ?_, f1.trans b2, b3, b4⟩
    rw [m_ordered_L160, rdI_n rl.r4 (by decide), ob_s, rl.m, if_neg (nI_ge (by omega) (by omega)), show vp_nar .boolean 0 = 0 from rfl, wrI_n (show i < 700 by omega) (by decide), ob_s, ← hX1, nI_1]
    exact b1
/-- a relation that a run made, and where -/
def RES (U N w r b : Nat) (rows : LL) (U' N' : Nat) (rs rs' : RS) : Prop := (U ≤ U') ∧ (N ≤ N') ∧ (r < N') ∧ (b + rows.length * w ≤ U') ∧ (RST U' N' rs') ∧ (RLN rs' r b w rows.length) ∧ (rowsL rs' b w rows.length = rows) ∧ (RO U N rs rs') ∧ (rs'.1 97 = 0)
theorem RES.uu {U N w r b : Nat} {rows : LL} {U' N' : Nat} {rs rs' : RS} (h : RES U N w r b rows U' N' rs rs') : U ≤ U' := h.1
theorem RES.nn {U N w r b : Nat} {rows : LL} {U' N' : Nat} {rs rs' : RS} (h : RES U N w r b rows U' N' rs rs') : N ≤ N' := h.2.1
theorem RES.rr {U N w r b : Nat} {rows : LL} {U' N' : Nat} {rs rs' : RS} (h : RES U N w r b rows U' N' rs rs') : r < N' := h.2.2.1
theorem RES.bb {U N w r b : Nat} {rows : LL} {U' N' : Nat} {rs rs' : RS} (h : RES U N w r b rows U' N' rs rs') : b + rows.length * w ≤ U' := h.2.2.2.1
theorem RES.st {U N w r b : Nat} {rows : LL} {U' N' : Nat} {rs rs' : RS} (h : RES U N w r b rows U' N' rs rs') : RST U' N' rs' := h.2.2.2.2.1
theorem RES.rl {U N w r b : Nat} {rows : LL} {U' N' : Nat} {rs rs' : RS} (h : RES U N w r b rows U' N' rs rs') : RLN rs' r b w rows.length := h.2.2.2.2.2.1
theorem RES.rw' {U N w r b : Nat} {rows : LL} {U' N' : Nat} {rs rs' : RS} (h : RES U N w r b rows U' N' rs rs') : rowsL rs' b w rows.length = rows := h.2.2.2.2.2.2.1
theorem RES.ro {U N w r b : Nat} {rows : LL} {U' N' : Nat} {rs rs' : RS} (h : RES U N w r b rows U' N' rs rs') : RO U N rs rs' := h.2.2.2.2.2.2.2.1
theorem RES.z97 {U N w r b : Nat} {rows : LL} {U' N' : Nat} {rs rs' : RS} (h : RES U N w r b rows U' N' rs rs') : rs'.1 97 = 0 := h.2.2.2.2.2.2.2.2
theorem ROP.res {U N w M : Nat} {rows : List (List OV)} {rs rs' : RS} (h : ROP U N w M rows rs rs') (z97 : rs.1 97 = 0) : RES U N w N U rows (U + rows.length * w) (N + 1) rs rs' := ⟨by omega, by omega, by omega, Nat.le_refl _, h.st, h.rl, h.rw', h.ro, (h.f1 _ 97 (by decide) (by decide) (by decide) (by decide)).trans z97⟩
theorem ord_ok {F U N w n q r b m lim : Nat} {dn : Nat → Int32} {val : Nat → List OV → OV} {rs : RS} (hF : 10000 ≤ F) (hq : q < 60) (h8 : n ≤ 8) (hw : w ≤ 100) (hm : m ≤ 700) (hl : lim < 2147483648) (hr : r < N) (hN : N + 1 < 400) (hb : b + m * w ≤ U) (hU : U + m * n + m * w ≤ 400000) (r64 : rs.2.2.1 64 q = nI n) (r67 : ∀ t, t < n → rs.2.2.1 67 (8 * q + t) = dn t) (r68 : rs.2.2.1 68 q = nI lim) (ex : ∀ j, j < n → ∃ rt, rs.2.2.1 66 (8 * q + j) = nI rt ∧ EXV F w rt (val j) rs) (z97 : rs.1 97 = 0) (st : RST U N rs) (rl : RLN rs r b w m) : ∃ rs', m_ordered F rs (nI q) (nI r) = some (rs', nI (N + 1)) ∧ RES U N w (N + 1) (U + m * n) (ordL n dn val lim (rowsL rs b w m)) (U + m * n + (ordL n dn val lim (rowsL rs b w m)).length * w) (N + 2) rs rs' := by
  obtain ⟨X0, e1, e2, e3, e4, e5, e6, e7⟩ := rel_ok (F := F) (w := n) st (by omega)
  have rl0 : RLN X0 r b w m := ⟨rl.r4, by rw [e7 88 r (by omega)]; exact rl.b, by rw [e7 89 r (by omega)]; exact rl.m, by rw [e7 90 r (by omega)]; exact rl.w⟩
  have o0 : OUR U N n 0 [] X0 := ⟨by rw [Nat.zero_mul, Nat.add_zero]; exact e2, e4, rfl⟩
  obtain ⟨X1, u', c1, c2, c3⟩ := ok_L (F := F) (N := N) (val := val) hF hq hr hb (by omega) h8 (by omega) ex m 0 F [] X0 (by omega) (by omega) e3.fr ((e6 97 (by decide)).trans z97) (fun j _ => e5 j) rl0 o0
  have rl1 := c3.rln rl0 (by omega)
  have row1 : ∀ i, i < m → rowL X1 (b + i * w) w = rowL rs (b + i * w) w := fun i hi => by
    have q1 : (i + 1) * w ≤ m * w := Nat.mul_le_mul_right w (by omega)
    rw [Nat.succ_mul] at q1
    exact rowL_eq (U := U) (fun j hj => (c3.ce j hj).trans (e5 j)) (by omega)
  have ky1 : ∀ i s, i < m → s < n → rc X1 (U + i * n + s) = val s (rowL X1 (b + i * w) w) := fun i s hi hs => by
    have q1 := c2.rw'
    rw [List.nil_append, ← List.range_eq_range', List.map_map] at q1
    have q2 : rowL X1 (U + i * n) n = (List.range n).map (fun j => val j (rowL rs (b + i * w) w)) := List.map_inj_left.mp q1 i (List.mem_range.mpr hi)
    have q3 : rc X1 (U + i * n + s) = val s (rowL rs (b + i * w) w) := List.map_inj_left.mp q2 s (List.mem_range.mpr hs)
    rw [q3, row1 i hi]
  obtain ⟨X2, g1, g2, g3, g4, g5, g6, g7⟩ := rel_ok (F := F) (w := w) c2.st (by omega)
  have rl2 : RLN X2 r b w m := ⟨rl.r4, by rw [g7 88 r (by omega)]; exact rl1.b, by rw [g7 89 r (by omega)]; exact rl1.m, by rw [g7 90 r (by omega)]; exact rl1.w⟩
  have rk2 : RLN X2 N U n m := ⟨c2.rl.r4, by rw [g7 88 N (by omega)]; exact c2.rl.b, by rw [g7 89 N (by omega)]; exact c2.rl.m, by rw [g7 90 N (by omega)]; exact c2.rl.w⟩
  have o2 : OUR (U + m * n) (N + 1) w 0 [] X2 := ⟨by rw [Nat.zero_mul, Nat.add_zero]; exact g2, g4, rfl⟩
  have fr2 : FR rS rs X2 := (e3.fr.trans c3.fr).trans g3.fr
  obtain ⟨cnt, hcnt⟩ : ∃ z, z = if lim ≤ m then lim else m := ⟨_, rfl⟩
  have hc : cnt ≤ m := by rw [hcnt]; by_cases y : lim ≤ m <;> simp [y]
  obtain ⟨X3, h1, h2, h3, h4⟩ := clr_L (F := F) (N := N) (q := q) (cnt := cnt) hm (by omega) m 0 F X2 (by omega) (by omega) rl2 o2 (fun j hj => absurd hj (by omega))
  have row2 : ∀ i, i < m → rowL X2 (b + i * w) w = rowL rs (b + i * w) w := fun i hi => (rowL_eq (U := b + i * w + w) (fun j _ => g5 j) (Nat.le_refl _)).trans (row1 i hi)
  have rws : rowsL X2 b w m = rowsL rs b w m := List.map_congr_left (fun i hi => row2 i (List.mem_range.mp hi))
  have rem0 : remL (X3.2.2.1 99) m (fun i => rowL X2 (b + i * w) w) = rowsL X2 b w m := by
    unfold remL rowsL
    rw [List.filter_eq_self.mpr (fun i hi => by rw [h4 i (List.mem_range.mp hi)]; rfl)]
  obtain ⟨Z, k1, k2, k3⟩ := sel9_L (F := F) (U1 := U + m * n) (N := N) (N1 := N + 1) (dn := dn) (val := val) (Y := X2) (kb := U) (cnt := cnt) hF hq h8 hw hm hc (by omega) (by rw [fr2.a (k := 64) (by unfold rS; omega)]; exact r64) (fun t ht => by rw [fr2.a (k := 67) (by unfold rS; omega)]; exact r67 t ht) rl2 rk2 (by omega) (Nat.le_refl _) (by omega) (fun i s hi hs => by rw [g5, ky1 i s hi hs, row1 i hi, row2 i hi]) cnt 0 F [] X3 (by omega) (by omega) h2 h3 (by rw [rem0]; rfl)
  have ln : (srtK (okey n dn val) (rowsL rs b w m)).length = m := by rw [(srt_perm _).length_eq, rows_len]
  have tk : (srtK (okey n dn val) (rowsL X2 b w m)).take cnt = ordL n dn val lim (rowsL rs b w m) := by
    unfold ordL
    rw [rws, hcnt]
    by_cases y : lim ≤ m
    · rw [if_pos y]
    · rw [if_neg y, List.take_of_length_le (by omega), List.take_of_length_le (by omega)]
  rw [tk] at k2
  have kl := k2.len
  refine ⟨Z, ?_, ⟨by omega, by omega, by omega, Nat.le_refl _, by rw [kl]; exact k2.st, by rw [kl]; exact k2.rl, by rw [kl]; exact k2.rw', ?_, ?_⟩⟩
  · have hd : m_ordered F rs (nI q) (nI r) = m_ordered_L17 F (u' + 1) X1 (nI q) (nI r) (nI n) (nI N) (nI m) := by
      unfold m_ordered
      rw [rdI_n hq (by decide), ob_s, r64, e1, ob_s]
      exact c1
    rw [hd, m_ordered_L17, rdI_n rl1.r4 (by decide), ob_s, rl1.m, if_pos (nI_le (by omega) (by omega)), rdI_n rl1.r4 (by decide), ob_s, rl1.w, g1, ob_s]
    show (Option.bind (rdI (X2.2.2.1 89) 400 (nI r)) fun v_27 => Option.bind (rdI (X2.2.2.1 68) 60 (nI q)) fun v_28 => if v_28 ≤ v_27 then (Option.bind (rdI (X2.2.2.1 68) 60 (nI q)) fun v_30 => m_ordered_b155 F X2 (nI q) (nI r) (nI N) (nI (N + 1)) v_30) else (Option.bind (rdI (X2.2.2.1 89) 400 (nI r)) fun v_31 => m_ordered_b155 F X2 (nI q) (nI r) (nI N) (nI (N + 1)) v_31)) = _
    rw [rdI_n rl1.r4 (by decide), ob_s, rl2.m, rdI_n hq (by decide), ob_s, fr2.a (k := 68) (by unfold rS; omega), r68, ob_s]
    have fin : m_ordered_b155 F X2 (nI q) (nI r) (nI N) (nI (N + 1)) (nI cnt) = some (Z, nI (N + 1)) := by
      unfold m_ordered_b155
      exact h1.trans k1
    by_cases y : lim ≤ m
    · rw [if_pos (nI_le y (by omega))]
      rw [hcnt, if_pos y] at fin
      exact fin
    · rw [if_neg (nI_ge (by omega) (by omega))]
      rw [hcnt, if_neg y] at fin
      exact fin
  · have r1 := e3.trans c3.ro (Nat.le_refl _) (Nat.le_refl _)
    have r2 := r1.trans g3 (U' := U + m * n) (N' := N + 1) (by omega) (by omega)
    exact r2.trans k3.ro (by omega) (by omega)
  · exact ((k3.f1 97 (by decide) (by decide) (by decide)).trans ((g6 97 (by decide)).trans ((c3.f1 97 (by decide) (by decide) (by decide)).trans (e6 97 (by decide))))).trans z97

/-! the reference's groups: whole -/
theorem gg_L {F U N N1 U1 w ng mi e r b m kk cnt : Nat} {val : Nat → List OV → LL → OV} {hv : Option (List OV → LL → OV)} {rs Y0 : RS} (hF : 10000 ≤ F) (he : e < 60) (hr : r < N ∧ N1 < N) (hb : b + m * w ≤ U) (hm : m ≤ 600) (h1 : U1 + cnt * ng ≤ U) (hp : U + 100 ≤ 400000) (hU : U + cnt * mi ≤ 400000) (h8 : mi ≤ 8) (hc : cnt < 5000) (r36 : rs.2.2.1 36 e = nI mi) (ex : ∀ j, j < mi → ∃ rt, rs.2.2.1 44 (8 * e + j) = nI rt ∧ EXG F w ng rt (val j) rs) (hx : HVX F w ng (rs.2.2.1 41 e) hv rs) : ∀ (d gi u k : Nat) (rows : LL) (X : RS), cnt = gi + d → d < u → k ≤ gi → FR rS rs X → X.1 97 = 0 → (∀ j, j < U → rc X j = rc Y0 j) → (∀ j, j < m → X.2.2.1 98 j = Y0.2.2.1 98 j) → RLN X r b w m → RLN X N1 U1 ng kk → OUR U N mi k rows X → ∃ Y k', m_grouped_L216 F u X (nI e) (nI r) (nI N1) (nI cnt) (nI N) (nI gi) = some (Y, nI N) ∧ k' ≤ cnt ∧ OUR U N mi k' (rows ++ ((List.range' gi d).filter (fun gi => hvB hv (rowL Y0 (U1 + gi * ng) ng) (memL Y0 b w gi 0 m))).map (fun gi => (List.range mi).map (fun j => val j (rowL Y0 (U1 + gi * ng) ng) (memL Y0 b w gi 0 m)))) Y ∧ RBG U N X Y := by
  intro d
  induction d with
  | zero =>
    intro gi u k rows X d1 d2 d3 fr z97 ce e98 rl rk o
    obtain ⟨u, rfl⟩ : ∃ z, u = z + 1 := ⟨u - 1, by omega⟩
    refine ⟨X, k, ?_, by omega, by rw [List.range'_zero, List.filter_nil, List.map_nil, List.append_nil]; exact o, ⟨FR.refl X, fun _ _ => rfl, z97, fun _ _ _ _ => rfl⟩⟩
    rw [m_grouped_L216, if_pos (nI_le (by omega) (by omega))]
  | succ d ih =>
    intro gi u k rows X d1 d2 d3 fr z97 ce e98 rl rk o
    obtain ⟨u, rfl⟩ : ∃ z, u = z + 1 := ⟨u - 1, by omega⟩
    have q1 : (gi + 1) * ng ≤ cnt * ng := Nat.mul_le_mul_right ng (by omega)
    rw [Nat.succ_mul] at q1
    have q2 : (k + 1) * mi ≤ cnt * mi := Nat.mul_le_mul_right mi (by omega)
    rw [Nat.succ_mul] at q2
    obtain ⟨p, hpp⟩ : ∃ z, z = U1 + gi * ng := ⟨_, rfl⟩
    obtain ⟨X4, hX4⟩ : ∃ z, z = setF (setF (setF (setF X 95 (nI r)) 96 (nI gi)) 94 (nI p)) 97 1 := ⟨_, rfl⟩
    have o4 : OUR U N mi k rows X4 := by rw [hX4]; exact (((o.fg (by decide)).fg (by decide)).fg (by decide)).fg (by decide)
    have x97 : X4.1 97 = 1 := by rw [hX4]; exact sF_s
    have x94 : X4.1 94 = nI p := by rw [hX4]; exact (sF_n (by decide)).trans sF_s
    have x96 : X4.1 96 = nI gi := by rw [hX4]; exact (sF_n (by decide)).trans ((sF_n (by decide)).trans sF_s)
    have x95 : X4.1 95 = nI r := by rw [hX4]; exact (sF_n (by decide)).trans ((sF_n (by decide)).trans ((sF_n (by decide)).trans sF_s))
    have x2 : X4.2 = X.2 := by rw [hX4]; rfl
    have fr4 : FR rS X X4 := by rw [hX4]; exact (((FR.setF (by unfold rS; omega)).trans (FR.setF (by unfold rS; omega))).trans (FR.setF (by unfold rS; omega))).trans (FR.setF (by unfold rS; omega))
    have cx4 : ∀ j, rc X4 j = rc X j := fun j => by unfold rc; rw [x2]
    have rl4 : RLN X4 r b w m := ⟨rl.r4, by rw [x2]; exact rl.b, by rw [x2]; exact rl.m, by rw [x2]; exact rl.w⟩
    obtain ⟨g, hg⟩ : ∃ z, z = rowL Y0 (U1 + gi * ng) ng := ⟨_, rfl⟩
    obtain ⟨mem, hmem⟩ : ∃ z, z = memL Y0 b w gi 0 m := ⟨_, rfl⟩
    have hg' : rowL Y0 p ng = g := by rw [hpp, hg]
    -- the items laid
    have it : ∀ Z : RS, RBF U N X4 Z → OUR U N mi k rows Z → ∃ W, m_grouped_b275 F (m_grouped_L216 F u) Z (nI e) (nI r) (nI N1) (nI cnt) (nI N) (nI gi) = m_grouped_L216 F u W (nI e) (nI r) (nI N1) (nI cnt) (nI N) (nI (gi + 1)) ∧ OUR U N mi (k + 1) (rows ++ [(List.range mi).map (fun j => val j g mem)]) W ∧ RBG U N X W := fun Z fz oz => by
      obtain ⟨Z1, e1, e2, e3⟩ := BRW.new (F := F) (f := fun j => val j (rowL Y0 p ng) (memL Y0 b w gi 0 m)) oz (by omega) (by omega)
      have f1 : RBF U N X4 Z1 := fz.trans ⟨e3.fr, fun j hj => e3.ce j (by omega), e3.f1, e3.ar⟩
      obtain ⟨Y, c1, c2, c3⟩ := gic_L (F := F) (N1 := N1) (cnt := cnt) (Y0 := Y0) (gi := gi) (p := p) (k := k) (rc216 := m_grouped_L216 F u) he hr.1 hb hm (by omega) (by omega) h8 r36 ex mi 0 F Z1 (by omega) (by omega) ((fr.trans fr4).trans f1.fr) ((f1.f1 97 (by decide) (by decide) (by decide)).trans x97) ((f1.f1 95 (by decide) (by decide) (by decide)).trans x95) ((f1.f1 96 (by decide) (by decide) (by decide)).trans x96) ((f1.f1 94 (by decide) (by decide) (by decide)).trans x94) (fun j hj => (f1.ce j hj).trans ((cx4 j).trans (ce j hj))) (fun j hj => (f1.ar 98 j (by decide) (by omega)).trans (by rw [x2]; exact e98 j hj)) (f1.rln rl4 (by omega)) e2
      rw [hg', ← hmem] at c2
      have fy := f1.trans c3
      refine ⟨setF Y 97 0, ?_, c2.fg (by decide), ⟨(fr4.trans fy.fr).trans (FR.setF (by unfold rS; omega)), fun j hj => (fy.ce j hj).trans (cx4 j), sF_s, fun q r a b => (fy.ar q r a b).trans (by rw [x2])⟩⟩
      unfold m_grouped_b275
      rw [e1, ob_s]
      exact c1
    have fin : ∀ (W : RS) (k2 : Nat) (add : LL), m_grouped_L216 F (u + 1) X (nI e) (nI r) (nI N1) (nI cnt) (nI N) (nI gi) = m_grouped_L216 F u W (nI e) (nI r) (nI N1) (nI cnt) (nI N) (nI (gi + 1)) → k2 ≤ gi + 1 → OUR U N mi k2 (rows ++ add) W → RBG U N X W → add = (if hvB hv g mem = true then [(List.range mi).map (fun j => val j g mem)] else []) → ∃ Y k', m_grouped_L216 F (u + 1) X (nI e) (nI r) (nI N1) (nI cnt) (nI N) (nI gi) = some (Y, nI N) ∧ k' ≤ cnt ∧ OUR U N mi k' (rows ++ ((List.range' gi (d + 1)).filter (fun gi => hvB hv (rowL Y0 (U1 + gi * ng) ng) (memL Y0 b w gi 0 m))).map (fun gi => (List.range mi).map (fun j => val j (rowL Y0 (U1 + gi * ng) ng) (memL Y0 b w gi 0 m)))) Y ∧ RBG U N X Y := fun W k2 add w1 w2 w3 w4 w5 => by
      obtain ⟨Y, k', g1, g2, g3, g4⟩ := ih (gi + 1) u k2 _ W (by omega) (by omega) w2 (fr.trans w4.fr) w4.z97 (fun j hj => (w4.ce j hj).trans (ce j hj)) (fun j hj => (w4.ar 98 j (by decide) (by omega)).trans (e98 j hj)) ⟨rl.r4, by rw [w4.ar 88 r (by decide) (by omega)]; exact rl.b, by rw [w4.ar 89 r (by decide) (by omega)]; exact rl.m, by rw [w4.ar 90 r (by decide) (by omega)]; exact rl.w⟩ ⟨rk.r4, by rw [w4.ar 88 N1 (by decide) (by omega)]; exact rk.b, by rw [w4.ar 89 N1 (by decide) (by omega)]; exact rk.m, by rw [w4.ar 90 N1 (by decide) (by omega)]; exact rk.w⟩ w3
      refine ⟨Y, k', w1.trans g1, g2, ?_, ⟨w4.fr.trans g4.fr, fun j hj => (g4.ce j hj).trans (w4.ce j hj), g4.z97, fun q r a b => (g4.ar q r a b).trans (w4.ar q r a b)⟩⟩
      rw [List.range'_succ, List.filter_cons, ← hg, ← hmem]
      by_cases z : hvB hv g mem = true
      · rw [if_pos z] at w5 ⊢
        rw [List.map_cons, ← hg, ← hmem]
        rw [w5, List.append_assoc] at g3
        exact g3
      · rw [if_neg z] at w5 ⊢
        rw [w5, List.append_nil] at g3
        exact g3
    have hd : m_grouped_L216 F (u + 1) X (nI e) (nI r) (nI N1) (nI cnt) (nI N) (nI gi) = if rs.2.2.1 41 e = (-1) then (m_grouped_b275 F (m_grouped_L216 F u) X4 (nI e) (nI r) (nI N1) (nI cnt) (nI N) (nI gi)) else (Option.bind (m_truth F 300 X4 (rs.2.2.1 41 e)) fun z_13 => if z_13.2 = 1 then (m_grouped_b275 F (m_grouped_L216 F u) z_13.1 (nI e) (nI r) (nI N1) (nI cnt) (nI N) (nI gi)) else (m_grouped_b343 F (m_grouped_L216 F u) z_13.1 (nI e) (nI r) (nI N1) (nI cnt) (nI N) (nI gi))) := by
      have r41 : X4.2.2.1 41 e = rs.2.2.1 41 e := by rw [(fr.trans fr4).a (k := 41) (by unfold rS; omega)]
      have at4 : m_rowAt F (setF (setF X 95 (nI r)) 96 (nI gi)) (nI N1) (nI gi) = some (nI p) := by
        rw [hpp]
        exact at_ok (rs := setF (setF X 95 (nI r)) 96 (nI gi)) ⟨rk.r4, rk.b, rk.m, rk.w⟩
      rw [m_grouped_L216, if_neg (nI_ge (by omega) (by omega)), at4, ob_s, ← hX4, rdI_n he (by decide), ob_s, r41, ob_s]
    cases hv with
    | none =>
      rw [if_pos (show rs.2.2.1 41 e = -1 from hx)] at hd
      obtain ⟨W, i1, i2, i3⟩ := it X4 RBF.refl o4
      exact fin W (k + 1) _ (hd.trans i1) (by omega) i2 i3 rfl
    | some h =>
      obtain ⟨rt, y1, y2, y3⟩ : ∃ rt, rs.2.2.1 41 e = nI rt ∧ rt < 120 ∧ EXG F w ng rt h rs := hx
      have hb4 := o4.st.u4
      have t := y3.tr (fr.trans fr4) x97 x95 x96 x94 o4.st.fb rl4 hm (by omega) (by omega)
      rw [rowL_eq (U := U) (fun j hj => (cx4 j).trans (ce j hj)) (show p + ng ≤ U by omega), memL_eq (U := U) (fun j hj => (cx4 j).trans (ce j hj)) (fun j hj => by rw [x2]; exact e98 j hj) hb, hg', ← hmem] at t
      obtain ⟨Z, hZ⟩ : ∃ z, z = setF X4 92 (fl (h g mem)) := ⟨_, rfl⟩
      rw [← hZ] at t
      have oz : OUR U N mi k rows Z := by rw [hZ]; exact o4.fg (by decide)
      have fz : RBF U N X4 Z := by rw [hZ]; exact RBF.f (Or.inl rfl)
      rw [y1, if_neg (nI_nm1 (by omega)), t, ob_s] at hd
      have hd' : m_grouped_L216 F (u + 1) X (nI e) (nI r) (nI N1) (nI cnt) (nI N) (nI gi) = if tr1 (h g mem) = 1 then (m_grouped_b275 F (m_grouped_L216 F u) Z (nI e) (nI r) (nI N1) (nI cnt) (nI N) (nI gi)) else (m_grouped_b343 F (m_grouped_L216 F u) Z (nI e) (nI r) (nI N1) (nI cnt) (nI N) (nI gi)) := hd
      by_cases z : tr1 (h g mem) = 1
      · rw [if_pos z] at hd'
        obtain ⟨W, i1, i2, i3⟩ := it Z fz oz
        refine fin W (k + 1) _ (hd'.trans i1) (by omega) i2 i3 ?_
        rw [if_pos (show hvB (some h) g mem = true from beq_iff_eq.mpr z)]
      · rw [if_neg z] at hd'
        refine fin (setF Z 97 0) k [] ?_ (by omega) (by rw [List.append_nil]; exact oz.fg (by decide)) ⟨(fr4.trans fz.fr).trans (FR.setF (by unfold rS; omega)), fun j hj => (fz.ce j hj).trans (cx4 j), sF_s, fun q r a b => (fz.ar q r a b).trans (by rw [x2])⟩ ?_
        · rw [hd']
          unfold m_grouped_b343
          rw [nI_1]
        · rw [if_neg (show ¬ hvB (some h) g mem = true from fun w => z (eq_of_beq w))]
/-- the rows of a grouped SELECT -/
def gkey (ng : Nat) (kv : Nat → List OV → OV) (L : List OV) : List OV := (List.range ng).map (fun s => kv s L)
def grpL (gb : Bool) (ng mi : Nat) (kv : Nat → List OV → OV) (hv : Option (List OV → LL → OV)) (val : Nat → List OV → LL → OV) (A : LL) : LL := ((if gb = true then (A.map (gkey ng kv)).foldl stpO [] else [[]]).filter (fun g => hvB hv g (A.filter (fun L => gkey ng kv L == g)))).map (fun g => (List.range mi).map (fun j => val j g (A.filter (fun L => gkey ng kv L == g))))
theorem rows_get {rs : RS} {b w m i : Nat} (h : i < m) : (rowsL rs b w m).getD i [] = rowL rs (b + i * w) w := by
  unfold rowsL
  rw [List.getD_eq_getElem?_getD, List.getElem?_map, List.getElem?_range h]
  rfl
theorem grp_ok {F U N w ng mi e r b m : Nat} {gb : Bool} {kv : Nat → List OV → OV} {hv : Option (List OV → LL → OV)} {val : Nat → List OV → LL → OV} {rs : RS} (hF : 10000 ≤ F) (he : e < 60) (hr : r < N) (hN : N + 1 < 400) (hb : b + m * w ≤ U) (hm : m ≤ 600) (n8 : ng ≤ 8) (h8 : mi ≤ 8) (hU : U + m * ng + (m + 1) * mi + 100 ≤ 400000) (r39 : rs.2.2.1 39 e = nI ng) (r36 : rs.2.2.1 36 e = nI mi) (r40 : (gb = true ∧ rs.2.2.1 40 e ≠ -1) ∨ (gb = false ∧ rs.2.2.1 40 e = -1 ∧ ng = 0)) (ek : ∀ j, j < ng → ∃ rt, rs.2.2.1 47 (8 * e + j) = nI rt ∧ EXV F w rt (kv j) rs) (ex : ∀ j, j < mi → ∃ rt, rs.2.2.1 44 (8 * e + j) = nI rt ∧ EXG F w ng rt (val j) rs) (hx : HVX F w ng (rs.2.2.1 41 e) hv rs) (z97 : rs.1 97 = 0) (st : RST U N rs) (rl : RLN rs r b w m) : ∃ rs' U1, m_grouped F rs (nI e) (nI r) = some (rs', nI (N + 1)) ∧ U1 ≤ U + m * ng ∧ (grpL gb ng mi kv hv val (rowsL rs b w m)).length ≤ m + 1 ∧ RES U N mi (N + 1) U1 (grpL gb ng mi kv hv val (rowsL rs b w m)) (U1 + (grpL gb ng mi kv hv val (rowsL rs b w m)).length * mi) (N + 2) rs rs' := by
  obtain ⟨X0, e1, e2, e3, e4, e5, e6, e7⟩ := rel_ok (F := F) (w := ng) st (by omega)
  have rl0 : RLN X0 r b w m := ⟨rl.r4, by rw [e7 88 r (by omega)]; exact rl.b, by rw [e7 89 r (by omega)]; exact rl.m, by rw [e7 90 r (by omega)]; exact rl.w⟩
  have o0 : OUR U N ng 0 [] X0 := ⟨by rw [Nat.zero_mul, Nat.add_zero]; exact e2, e4, rfl⟩
  obtain ⟨X1, k, u', G, c1, c2, c3, c4, c5, c6, c7⟩ := gr_L (F := F) (N := N) (val := kv) hF he hr hb (by omega) n8 hm ek m 0 F 0 [] X0 (by omega) (by omega) (Nat.le_refl _) e3.fr ((e6 97 (by decide)).trans z97) (fun j _ => e5 j) rl0 o0 List.nodup_nil (fun j hj => absurd hj (by omega))
  rw [← List.range_eq_range'] at c3
  have q3 : k * ng ≤ m * ng := Nat.mul_le_mul_right ng c2
  have rl1 := c7.rln rl0 (by omega)
  obtain ⟨X2, g1, g2, g3, g4, g5, g6, g7⟩ := rel_ok (F := F) (w := mi) c4.st (by omega)
  have rl2 : RLN X2 r b w m := ⟨rl.r4, by rw [g7 88 r (by omega)]; exact rl1.b, by rw [g7 89 r (by omega)]; exact rl1.m, by rw [g7 90 r (by omega)]; exact rl1.w⟩
  have rk2 : RLN X2 N U ng k := ⟨c4.rl.r4, by rw [g7 88 N (by omega)]; exact c4.rl.b, by rw [g7 89 N (by omega)]; exact c4.rl.m, by rw [g7 90 N (by omega)]; exact c4.rl.w⟩
  obtain ⟨U1, hU1⟩ : ∃ z, z = U + k * ng := ⟨_, rfl⟩
  rw [← hU1] at g2 g4
  have o2 : OUR U1 (N + 1) mi 0 [] X2 := ⟨by rw [Nat.zero_mul, Nat.add_zero]; exact g2, g4, rfl⟩
  have fr2 : FR rS rs X2 := (e3.fr.trans c7.fr).trans g3.fr
  have z2 : X2.1 97 = 0 := (g6 97 (by decide)).trans ((c7.f1 97 (by decide) (by decide) (by decide)).trans ((e6 97 (by decide)).trans z97))
  obtain ⟨cnt, hcnt⟩ : ∃ z, z = if gb = true then k else 1 := ⟨_, rfl⟩
  have hc : cnt ≤ m + 1 ∧ U + cnt * ng ≤ U1 := by
    rcases r40 with ⟨y1, -⟩ | ⟨y1, -, y3⟩
    · rw [hcnt, if_pos y1]; omega
    · rw [hcnt, if_neg (by rw [y1]; decide), y3, Nat.mul_zero]; omega
  have q4 : cnt * mi ≤ (m + 1) * mi := Nat.mul_le_mul_right mi hc.1
  obtain ⟨Y, k', h1, h2, h3, h4⟩ := gg_L (F := F) (U := U1) (N := N + 1) (N1 := N) (U1 := U) (Y0 := X2) (cnt := cnt) (val := val) (hv := hv) hF he (by omega) (by omega) hm hc.2 (by omega) (by omega) h8 (by omega) r36 ex hx cnt 0 F 0 [] X2 (by omega) (by omega) (Nat.le_refl _) fr2 z2 (fun _ _ => rfl) (fun _ _ => rfl) rl2 rk2 o2
  -- rows, keys and members as lists
  have row2 : ∀ i, i < m → rowL X2 (b + i * w) w = rowL rs (b + i * w) w := fun i hi => by
    have q1 : (i + 1) * w ≤ m * w := Nat.mul_le_mul_right w (by omega)
    rw [Nat.succ_mul] at q1
    exact rowL_eq (U := U) (fun j hj => (g5 j).trans ((c7.ce j hj).trans (e5 j))) (by omega)
  have key2 : ∀ gi, rowL X2 (U + gi * ng) ng = rowL X1 (U + gi * ng) ng := fun gi => rowL_eq (U := U + gi * ng + ng) (fun j _ => g5 j) (Nat.le_refl _)
  have GG : (if gb = true then ((rowsL rs b w m).map (gkey ng kv)).foldl stpO [] else [[]]) = (List.range cnt).map (fun gi => rowL X2 (U + gi * ng) ng) := by
    rcases r40 with ⟨y1, -⟩ | ⟨y1, -, y3⟩
    · rw [if_pos y1, hcnt, if_pos y1]
      refine (c3.symm.trans c4.rw'.symm).trans ?_
      exact List.map_congr_left (fun gi _ => (key2 gi).symm)
    · rw [if_neg (by rw [y1]; decide), hcnt, if_neg (by rw [y1]; decide), y3]
      rfl
  have m98 : ∀ j, j < m → X2.2.2.1 98 j = nI (gix G (gkey ng kv (rowL rs (b + j * w) w))) ∧ gkey ng kv (rowL rs (b + j * w) w) ∈ G := fun j hj => by
    rw [g7 98 j (by omega)]
    exact c6 j hj
  have gl := c4.len
  have ky : ∀ gi y, gi < cnt → y ∈ G → (ng = 0 → y = []) → (gix G y = gi ↔ y = rowL X2 (U + gi * ng) ng) := fun gi y hgi hy y0 => by
    rcases r40 with ⟨y1, -⟩ | ⟨y1, -, y3⟩
    · rw [hcnt, if_pos y1] at hgi
      obtain ⟨p1, p2⟩ := gix_get (i := gi) c5 (by omega)
      have p3 : G.getD gi [] = rowL X2 (U + gi * ng) ng := by
        rw [key2, ← c4.rw']
        exact rows_get hgi
      rw [p3] at p1 p2
      exact ⟨fun q => gix_inj hy (q.trans p1.symm), fun q => by rw [q]; exact p1⟩
    · rw [hcnt, if_neg (by rw [y1]; decide)] at hgi
      have g0 : gi = 0 := by omega
      have al : ∀ z, z ∈ G → z = [] := fun z hz => by
        rw [← c4.rw', y3] at hz
        obtain ⟨i, -, i2⟩ := List.mem_map.mp hz
        exact i2.symm
      rw [g0, y0 y3, y3]
      refine ⟨fun _ => rfl, fun _ => ?_⟩
      cases G with
      | nil => cases hy
      | cons x xs =>
        show (if x = [] then 0 else gix xs [] + 1) = 0
        rw [if_pos (al x List.mem_cons_self)]
  have mm : ∀ gi, gi < cnt → memL X2 b w gi 0 m = (rowsL rs b w m).filter (fun L => gkey ng kv L == rowL X2 (U + gi * ng) ng) := fun gi hgi => by
    unfold memL rowsL
    rw [List.filter_map, ← List.range_eq_range', List.filter_congr (q := (fun L => gkey ng kv L == rowL X2 (U + gi * ng) ng) ∘ fun i => rowL rs (b + i * w) w) (fun i hi => by
      have hi' := List.mem_range.mp hi
      obtain ⟨p1, p2⟩ := m98 i hi'
      have lt := gix_lt p2
      have kk := ky gi _ hgi p2 (fun z => by unfold gkey; rw [z]; rfl)
      show (X2.2.2.1 98 i == nI gi) = (gkey ng kv (rowL rs (b + i * w) w) == rowL X2 (U + gi * ng) ng)
      rw [p1]
      by_cases z : gkey ng kv (rowL rs (b + i * w) w) = rowL X2 (U + gi * ng) ng
      · rw [kk.mpr z, beq_iff_eq.mpr z]
        exact beq_iff_eq.mpr rfl
      · rw [beq_eq_false_iff_ne.mpr z]
        exact beq_eq_false_iff_ne.mpr (fun w => z (kk.mp ((nI_eq (by omega) (by omega)).mp w))))]
    exact List.map_congr_left (fun i hi => row2 i (List.mem_range.mp (List.mem_filter.mp hi).1))
  have rows : ((List.range' 0 cnt).filter (fun gi => hvB hv (rowL X2 (U + gi * ng) ng) (memL X2 b w gi 0 m))).map (fun gi => (List.range mi).map (fun j => val j (rowL X2 (U + gi * ng) ng) (memL X2 b w gi 0 m))) = grpL gb ng mi kv hv val (rowsL rs b w m) := by
    unfold grpL
    rw [GG, List.filter_map, List.map_map, ← List.range_eq_range', List.filter_congr (q := (fun g => hvB hv g ((rowsL rs b w m).filter (fun L => gkey ng kv L == g))) ∘ fun gi => rowL X2 (U + gi * ng) ng) (fun gi hgi => by rw [mm gi (List.mem_range.mp hgi)]; rfl)]
    exact List.map_congr_left (fun gi hgi => by rw [mm gi (List.mem_range.mp (List.mem_filter.mp hgi).1)]; rfl)
  rw [List.nil_append, rows] at h3
  have kl := h3.len
  refine ⟨Y, U1, ?_, by omega, by omega, ⟨by omega, by omega, by omega, Nat.le_refl _, by rw [kl]; exact h3.st, by rw [kl]; exact h3.rl, by rw [kl]; exact h3.rw', ?_, h4.z97⟩⟩
  · have hd : m_grouped F rs (nI e) (nI r) = m_grouped_L20 F (u' + 1) X1 (nI e) (nI r) (nI ng) (nI N) (nI k) (nI m) := by
      unfold m_grouped
      rw [rdI_n he (by decide), ob_s, r39, e1, ob_s]
      exact c1
    have bb : m_grouped_b201 F X1 (nI e) (nI r) (nI N) (nI cnt) = some (Y, nI (N + 1)) := by
      unfold m_grouped_b201
      rw [rdI_n he (by decide), ob_s, (e3.fr.trans c7.fr).a (k := 36) (by unfold rS; omega), r36, g1, ob_s]
      exact h1
    rw [hd, m_grouped_L20, rdI_n rl1.r4 (by decide), ob_s, rl1.m, if_pos (nI_le (by omega) (by omega)), rdI_n he (by decide), ob_s, (e3.fr.trans c7.fr).a (k := 40) (by unfold rS; omega)]
    rcases r40 with ⟨y1, y2⟩ | ⟨y1, y2, -⟩
    · rw [if_neg y2]
      rw [hcnt, if_pos y1] at bb
      exact bb
    · rw [if_pos y2]
      rw [hcnt, if_neg (by rw [y1]; decide)] at bb
      exact bb
  · have r1 := e3.trans c7.ro (Nat.le_refl _) (Nat.le_refl _)
    have r2 := r1.trans g3 (U' := U + k * ng) (N' := N + 1) (by omega) (by omega)
    exact r2.trans (U' := U1) (N' := N + 1) ⟨h4.fr, h4.ce, fun q r q1 q2 hr => h4.ar q r (by omega) (by omega)⟩ (by omega) (by omega)

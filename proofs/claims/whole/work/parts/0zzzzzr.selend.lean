/-! a SELECT behind its SOURCES, whole, both -/
theorem JH.good {n : Nat} {f : Nat → Int32} {M t c cap s k : Nat} {V : VT} {D : Nat → Prop} {cs : CS} {rs : RS} (h : JH n f M t c cap s k V D cs rs) (g : ¬ rs.1 21 = 0) : rs.1 21 = 1 := by
  rcases h.st with ⟨-, q, -⟩ | ⟨-, q, -⟩
  · exact q
  · exact absurd q g
theorem g01 {rs : RS} (g : rs.1 21 = 1) : ¬ rs.1 21 = 0 := by rw [g]; decide
/-- the slots laid: a step of the class alone -/
theorem slots_H {n : Nat} {f : Nat → Int32} {M t c cap s k : Nat} {V : VT} {so e it gr mi ns mg na : Nat} {D : Nat → Prop} {F : Nat} {cs : CS} {rs : RS} (hF : 10000 ≤ F) (hs : s ≤ 120) (h : JH n f M t c cap s k V D cs rs) (sl : SLT n f M c s V so e it gr mi ns mg na cs rs) : ∃ cs', c_X0_checkGroups_L152 F F cs k so gr 0 = some cs' ∧ JH n f M t c cap s k V D cs' rs ∧ JZ t c k so it gr e cs rs cs' rs ∧ (∀ x j, ¬ (j = c ∧ x = 72) → AT cs cs' x j) ∧ (∀ j y, j < na → y < s → kA cs 202 so j = nI y → ∃ j', j' < na ∧ kA cs 202 so j' = nI y ∧ kA cs' 72 c y = nI (mg + j')) := by
  have n12 := sl.ag.n12
  obtain ⟨cs', t1, t2, t3, t4, t5, t6⟩ := slots_L (F := F) (gr := gr) (mg := mg) hs na 0 F cs (by omega) (by omega) (by omega) h.ck sl.ag sl.cg.1
  have j : JZ t c k so it gr e cs rs cs' rs := by
    refine ⟨t2, fun x j h1 _ _ _ => t3 x j (by omega), fun x j _ _ => t4 x j, FR.refl rs, fun _ _ _ _ => rfl, rfl, fun y hy hn => t5 y (fun j _ j2 w => hn ⟨j, na, n12, sl.ag.k, j2, w⟩)⟩
  refine ⟨cs', t1, h.jz j (t3 320 t (by omega)).i (t3 321 t (by omega)).i (fun _ _ => rfl) (fun y hv hd => t5 y (fun j _ j2 w => ?_)) rfl, j, t3, fun j y j1 hy hj => ?_⟩
  · obtain ⟨x, x1, x2, x3⟩ := sl.ag.al j j2
    have hy := h.dl y hd
    have e1 : y = x := (nI_eq (by omega) (by omega)).mp (w.symm.trans x2)
    have v65 : kA cs 65 c x = vk V x := by unfold vk; rw [← h.v x x1]; rfl
    rw [v65, ← e1, hv] at x3
    unfold AGC at x3
    revert x3
    decide
  · obtain ⟨j', q1, q2, q3, q4⟩ := t6 j y (by omega) j1 hy hj
    exact ⟨j', q2, q3, q4⟩
/-- the items and the word distinct -/
theorem item_H {n : Nat} {f : Nat → Int32} {M t c cap s k : Nat} {V : VT} {so e it gr mi ns mg na : Nat} {D : Nat → Prop} {F w : Nat} {T : TC_X0_checkQuery} {T' : TG_judgeQuery} {u3 b : Int32} {cs : CS} {rs : RS} (hF : 10000 ≤ F) (sk : SKV V s) (hs : s ≤ 120) (hw : w < 2) (h : JH n f M t c cap s k V D cs rs) (sl : SLT n f M c s V so e it gr mi ns mg na cs rs) (md : rs.1 21 = 1 → MD n f M k so e ns gr mg V w cs rs ∧ SEP so e ns gr cs rs ∧ u3 = b ∧ ((kI cs 206 so = 0 ∧ b = 1) ∨ (kI cs 206 so ≠ 0 ∧ b = 0))) : ∃ cs' rs' D', (Option.bind (c_X0_checkColumns F cs k it) fun cs_6 => Option.bind (gI cs_6 6 192 so) fun v_8 => if v_8 = 0 then (c_X0_checkSelect_b119 F T cs_6) else (Option.bind (gI cs_6 6 206 so) fun v_10 => Option.bind (gI cs_6 6 193 so) fun v_11 => Option.bind (ckE cs_6 1 k) fun _ => Option.bind (c_X0_checkBound F cs_6 k v_10 v_11) fun cs_12 => c_X0_checkSelect_b119 F T cs_12)) = some cs' ∧ m_judgeSelect_b624 F T' rs (nI e) u3 = some rs' ∧ JH n f M t c cap s k V D' cs' rs' ∧ JZ t c k so it gr e cs rs cs' rs' ∧ (rs'.1 21 = 1 → rs.1 21 = 1 ∧ (∀ z, D z → D' z) ∧ (∀ z, z < mi → CVR V s (kA cs 97 it z) D') ∧ ∀ z, z < mi → TYR (kA cs' 100 it z) (rs'.2.2.1 46 (8 * e + z))) ∧ (∀ y, kA cs 65 c y ≠ 39 → kA cs' 72 c y = kA cs 72 c y) := by
  have e60 := sl.e60
  have m8 := sl.ci.1.m8
  -- the items
  have step : ∃ c1 r1 D1, c_X0_checkColumns F cs k it = some c1 ∧ m_judgeSelect_b624 F T' rs (nI e) u3 = m_judgeSelect_b704 F T' r1 (nI e) u3 ∧ JH n f M t c cap s k V D1 c1 r1 ∧ JC t c it e cs rs c1 r1 ∧ (r1.1 21 = 1 → rs.1 21 = 1 ∧ (∀ z, D z → D1 z) ∧ (∀ z, z < mi → CVR V s (kA cs 97 it z) D1) ∧ ∀ z, z < mi → TYR (kA c1 100 it z) (r1.2.2.1 46 (8 * e + z))) := by
    by_cases g : rs.1 21 = 0
    · obtain ⟨c1, t1, t2, t3⟩ := cols_F (col := it) (m := mi) (A := 44) (b := 8 * e) (e0 := e) (w := 0) hF sk hs (Or.inl rfl) mi 0 F D cs rs (by omega) (by omega) (by omega) h g sl.ci
      refine ⟨c1, rs, D, t1, ?_, t2, t3, fun g' => absurd (g.symm.trans g') (by decide)⟩
      unfold m_judgeSelect_b624
      obtain ⟨u, hu⟩ : ∃ u, F = u + 1 := ⟨F - 1, by omega⟩
      have q : m_judgeSelect_L627 F T' (u + 1) rs (nI e) u3 0 = m_judgeSelect_b704 F T' rs (nI e) u3 := by
        rw [m_judgeSelect_L627, rdI_n e60 (by decide), ob_s, sl.ri]
        by_cases z : nI mi ≤ 0
        · rw [if_pos z]
        · rw [if_neg z, if_pos g]
      rw [← hu] at q
      exact q
    · have g' := h.good g
      obtain ⟨md1, md2, md3, md4⟩ := md g'
      have ci : CRT n f M s V w it mi 44 (8 * e) cs rs := ⟨sl.ci.1, fun y hy => by
        obtain ⟨r, a, q1, q2, q3, -⟩ := sl.ci.2 y hy
        exact ⟨r, a, q1, q2, q3, fun w' => absurd hw (by omega)⟩⟩
      have hne := sl.ne
      have hst : ∀ (c2 : CS) (r2 : RS) (z : Nat) (v v' : Int32), z < 8 → MD n f M k so e ns gr mg V w c2 r2 ∧ SEP so e ns gr c2 r2 → MD n f M k so e ns gr mg V w (sA c2 100 it z v) (setI r2 46 (8 * e + z) v') ∧ SEP so e ns gr (sA c2 100 it z v) (setI r2 46 (8 * e + z) v') := fun c2 r2 z v v' hz q => by
        refine ⟨?_, q.2.mv (AT.sA (by omega)) (fun oo => AT.sA (by omega)) ⟨funext (fun j => sIa_n (by omega)), funext (fun j => sIa_n (by omega)), funext (fun j => sIa_n (by omega))⟩⟩
        have q1 := q.1
        have own : ∀ (so' : SCS n f M 0 0 k so e ns V c2 r2), SCS n f M 0 0 k so e ns V (sA c2 100 it z v) (setI r2 46 (8 * e + z) v') := fun so' => so'.own q.2 (by omega) hz (Or.inl rfl)
        rcases w with _ | _ | w
        · exact ⟨own q1.1, q1.2.1, q1.2.2⟩
        · have ra : ∀ q', q' ≠ 46 → (setI r2 46 (8 * e + z) v').2.2.1 q' = r2.2.2.1 q' := fun q' h1 => funext (fun j => sIa_n (by omega))
          exact ⟨own q1.1, q1.2.1.mv (EM.of rfl) (AT.sA (by omega)) (fun x x1 x2 => AT.sA (by omega)) ⟨(AT.sA (by omega)).a, (AT.sA (by omega)).a, rfl, ra 14 (by omega), ra 15 (by omega), ra 16 (by omega), rfl, ra 2 (by omega)⟩ rfl ⟨ra 48 (by omega), ra 39 (by omega)⟩ (fun y _ => by rw [ra 80 (by omega)]), q1.2.2⟩
        · exact absurd hw (by omega)
      obtain ⟨c1, r1, D1, t1, t2, t3, t4, t5⟩ := items_L (so := so) (ns := ns) (nm := gr) (mg := mg) (w := w) (T := T') (u3 := u3) hF sk hs e60 (I := fun c2 r2 => MD n f M k so e ns gr mg V w c2 r2 ∧ SEP so e ns gr c2 r2) (fun _ _ q => q.1) (fun _ _ _ _ q j => ⟨q.1.jf j, q.2.jz (JZ.jf (k := k) (it := it) j)⟩) hst mi 0 F F D cs rs (by omega) (by omega) (by omega) (by omega) h g' ⟨md1, md2⟩ ci sl.ri (fun z hz => absurd hz (by omega))
      exact ⟨c1, r1, D1, t1, t2, t3, t4, fun gg => ⟨g', (t5 gg).2.1, fun z hz r a h1 h2 h3 h4 x x1 x2 => (t5 gg).2.2.1 z r a (by omega) hz h1 h2 h3 h4 x x1 x2, (t5 gg).2.2.2⟩⟩
  obtain ⟨c1, r1, D1, t1, t2, t3, t4, t5⟩ := step
  have j1 : JZ t c k so it gr e cs rs c1 r1 := JZ.jc t4 (Or.inl rfl)
  have sl1 := sl.jz j1
  have a206 : kI c1 206 so = kI cs 206 so := (j1.a0 206 so (by omega) (by omega) (by omega) (by omega)).i
  have ref : m_judgeSelect_b624 F T' rs (nI e) u3 = if r1.2.2.1 35 e = -1 then some r1 else if r1.1 21 = 0 then some r1 else m_bounded F r1 u3 (r1.2.2.1 35 e) := by
    rw [t2]
    unfold m_judgeSelect_b704 m_judgeSelect_b732
    rw [rdI_n e60 (by decide), ob_s]
    by_cases z1 : r1.2.2.1 35 e = -1
    · rw [if_pos z1, if_pos z1]
    · rw [if_neg z1, if_neg z1]
      by_cases z2 : r1.1 21 = 0
      · rw [if_pos z2, if_pos z2]
      · rw [if_neg z2, if_neg z2, ob_s]
        cases m_bounded F r1 u3 (r1.2.2.1 35 e) with
        | none => rfl
        | some q => rfl
  rcases sl1.ds with ⟨d1, d2⟩ | ⟨d1, d2, d3⟩
  · refine ⟨c1, r1, D1, ?_, ?_, t3, j1, t5, t4.s72⟩
    · rw [t1, ob_s, gI_ok sl1.e6, ob_s, d1, if_pos rfl]
      rfl
    · rw [ref, if_pos d2]
  · obtain ⟨c2, r2, b1, b2, b3, b4, b5, b6, b7⟩ := bound_H (F := F) (u := kI c1 206 so) (b := b) (p := kI c1 193 so) t3 (fun g => by rw [a206]; exact (md ((t5 g).1)).2.2.2)
    have cls : (Option.bind (c_X0_checkColumns F cs k it) fun cs_6 => Option.bind (gI cs_6 6 192 so) fun v_8 => if v_8 = 0 then (c_X0_checkSelect_b119 F T cs_6) else (Option.bind (gI cs_6 6 206 so) fun v_10 => Option.bind (gI cs_6 6 193 so) fun v_11 => Option.bind (ckE cs_6 1 k) fun _ => Option.bind (c_X0_checkBound F cs_6 k v_10 v_11) fun cs_12 => c_X0_checkSelect_b119 F T cs_12)) = some c2 := by
      rw [t1, ob_s, gI_ok sl1.e6, ob_s, d1, if_neg (by decide), gI_ok sl1.e6, ob_s, gI_ok sl1.e6, ob_s, ckE_ok t3.ck.o, ob_s, b1, ob_s]
      rfl
    have j2 : JZ t c k so it gr e c1 r1 c2 r2 := JZ.jf b3
    have s72 : ∀ y, kA cs 65 c y ≠ 39 → kA c2 72 c y = kA cs 72 c y := fun y hy => (b3.s72 y (by rw [(t4.a0 65 c (by omega) (by omega) (by omega)).a]; exact hy)).trans (t4.s72 y hy)
    by_cases g : r1.1 21 = 0
    · have q : r2 = r1 := by
        have : m_bounded F r1 b (kI c1 193 so) = some r1 := by
          unfold m_bounded m_bounded_b17
          by_cases z1 : b = 0
          · rw [if_pos z1]
            by_cases z2 : r1.1 75 = 0
            · rw [if_pos z2, tell_f g, ob_s]
            · rw [if_neg z2]
          · rw [if_neg z1]
        exact Option.some.inj (b2.symm.trans this)
      rw [q] at b4 j2
      refine ⟨c2, r1, D1, cls, ?_, b4, j1.trans j2, fun g' => absurd (g.symm.trans g') (by decide), s72⟩
      rw [ref, if_neg d3, if_pos g]
    · have g' := t3.good g
      obtain ⟨q1, q2, q3, q4⟩ := t5 g'
      refine ⟨c2, r2, D1, cls, ?_, b4, j1.trans j2, fun _ => ⟨q1, q2, q3, fun z hz => ?_⟩, s72⟩
      · rw [ref, if_neg d3, if_neg g, d2, (md q1).2.2.1, b2]
      · rw [b6, (b7 100 it (by omega)).a]
        exact q4 z hz

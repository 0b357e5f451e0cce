/-! a name looked for in the SOURCES: the walk over them, both -/
theorem FND.tr {t c x : Nat} {cs cs2 cs' : CS} {rs rs2 rs1 : RS} {z : Int32} (h : FND t c x cs2 rs2 cs' rs1 z) (j : JF t c cs rs cs2 rs2) (o : ∀ y, y ≠ x → kA cs2 72 c y = kA cs 72 c y ∧ kA cs2 73 c y = kA cs 73 c y ∧ rs2.2.2.1 33 y = rs.2.2.1 33 y) (r : rs2.2.2.1 31 = rs.2.2.1 31) : FND t c x cs rs cs' rs1 z := ⟨j.trans h.1, fun y hy => ⟨(h.2.1 y hy).1.trans (o y hy).1, (h.2.1 y hy).2.1.trans (o y hy).2.1, (h.2.1 y hy).2.2.trans (o y hy).2.2⟩, h.2.2.1.trans r, h.2.2.2⟩
theorem clm_has {F cl m y : Nat} {cs : CS} (h : CLM cl m cs) (hy : y < m) : c_X2_has F cs cl (nI y) = some 1 := by
  have m8 := h.m8
  unfold c_X2_has c_X2_has_b23
  rw [if_neg (nI_pos (by omega)), gI_ok h.e, ob_s, h.sz, if_neg (nI_ge hy (by omega)), if_neg (show ¬ (8 : Int32) ≤ nI y from nI_ge (b := 8) (by omega) (by decide))]
  rfl
theorem clm_hasno {F cl : Nat} {cs : CS} : c_X2_has F cs cl (-1) = some 0 := by
  unfold c_X2_has c_X2_has_b22 c_X2_has_b23
  rw [if_pos (by decide)]
  rfl
theorem lN_nm1 {a : Nat} (h : a < 9223372036854775808) : lN a ≠ -1 := fun w => by
  have e := congrArg Int64.toInt w
  rw [pk_lT (by omega), show (-1 : Int64).toInt = -1 by decide +kernel] at e
  omega
theorem ck_69 {t c cap s k : Nat} {cs : CS} {α : Type} {x : Nat} {G : Int64 → Option α} (h : CK t c cap s k cs) (hx : x < s) : (Option.bind (gA cs 2 69 c) fun v => Option.bind (rB cs 69 c v (nI x)) fun w => G w) = G (kB cs 69 c x) := by
  obtain ⟨j, p⟩ := h.ca.p69
  have := h.sc
  have := h.cp
  rw [gA_ok h.oc, p, ob_s, rB_n h.ca.e69 p (by rw [h.ca.l69]; omega) (by rw [h.ca.l69]; omega), ob_s]
theorem ck_70 {t c cap s k : Nat} {cs : CS} {α : Type} {x : Nat} {G : Int64 → Option α} (h : CK t c cap s k cs) (hx : x < s) : (Option.bind (gA cs 2 70 c) fun v => Option.bind (rB cs 70 c v (nI x)) fun w => G w) = G (kB cs 70 c x) := by
  obtain ⟨j, p⟩ := h.ca.p70
  have := h.sc
  have := h.cp
  rw [gA_ok h.oc, p, ob_s, rB_n h.ca.e70 p (by rw [h.ca.l70]; omega) (by rw [h.ca.l70]; omega), ob_s]
/-- one SOURCE that is meant: the class's side -/
theorem src_hit {F t c cap s k x c0 i oo cl m y0 a : Nat} {rc : CS → Nat → Int32 → Int32 → Int32 → Option CS} {cs : CS} (ck : CK t c cap s k cs) (hx : x < s) (e7 : (7, oo) ∈ kE cs) (r235 : kR cs 235 oo = some cl) (cm : CLM cl m cs) (hy : y0 < m) (st : kI cs 234 oo = nI a) (hf : c_X2_find F cs cl (kB cs 69 c x) 0 = some (nI y0)) : c_X0_findInSources_b81 F rc cs k (nI x) (nI c0) (nI i) oo = rc (sA (sA cs 72 c x (nI (a + y0))) 73 c x (kA cs 100 cl y0)) k (nI x) (nI (c0 + 1)) (nI (i + 1)) := by
  have ck2 : CK t c cap s k (sA cs 72 c x (nI (a + y0))) := ck.sA
  have e72 : (7, oo) ∈ kE (sA cs 72 c x (nI (a + y0))) := e7
  have m8 := cm.m8
  obtain ⟨j100, p100⟩ := cm.p100
  have p100' : kP (sA cs 72 c x (nI (a + y0))) 100 cl = some j100 := p100
  obtain ⟨j73, p73⟩ := ck2.ca.p73
  have sc := ck.sc
  have cp := ck.cp
  have a100 : kA (sA cs 72 c x (nI (a + y0))) 100 cl = kA cs 100 cl := (AT.sA (by omega)).a
  unfold c_X0_findInSources_b81 c_X0_findInSources_b86 c_X0_findInSources_b115 c_X0_findInSources_b175
  rw [if_neg (by decide), ob_s, gR_ok e7, ob_s, ck_c ck, ck_69 ck hx, r235, ob_s, ckE_ok cm.e, ob_s, hf, ob_s, if_neg (by decide), ob_s, gR_ok e7, ob_s, r235, ob_s, ckE_ok cm.e, ob_s, clm_has cm hy, ob_s, if_neg (by decide), ck_c ck]
  obtain ⟨j72, p72⟩ := ck.ca.p72
  rw [gA_ok ck.oc, p72, ob_s, gI_ok e7, ob_s, st, nI_add, wA_n ck.ca.e72 p72 (by rw [ck.ca.l72]; omega) (by rw [ck.ca.l72]; omega), ob_s, ck_c ck2, gA_ok ck2.oc, p73, ob_s, gR_ok e72, ob_s, show kR (sA cs 72 c x (nI (a + y0))) 235 oo = some cl from r235, ob_s, gA_ok (show (3, cl) ∈ kE (sA cs 72 c x (nI (a + y0))) from cm.e), p100', ob_s, rA_n (show (32 + 100, cl) ∈ kE (sA cs 72 c x (nI (a + y0))) from cm.e100) p100' (by show y0 < kL cs 100 cl; rw [cm.l100]; omega) (by show kL cs 100 cl < 2147483648; rw [cm.l100]; omega), ob_s, wA_n ck2.ca.e73 p73 (by rw [ck2.ca.l73]; omega) (by rw [ck2.ca.l73]; omega), ob_s, a100, nI_1, nI_1]
theorem src_miss {F t c cap s k x c0 i oo cl m : Nat} {rc : CS → Nat → Int32 → Int32 → Int32 → Option CS} {cs : CS} (ck : CK t c cap s k cs) (hx : x < s) (e7 : (7, oo) ∈ kE cs) (r235 : kR cs 235 oo = some cl) (cm : CLM cl m cs) (hf : c_X2_find F cs cl (kB cs 69 c x) 0 = some (-1)) : c_X0_findInSources_b81 F rc cs k (nI x) (nI c0) (nI i) oo = rc cs k (nI x) (nI c0) (nI (i + 1)) := by
  unfold c_X0_findInSources_b81 c_X0_findInSources_b86 c_X0_findInSources_b115 c_X0_findInSources_b175
  rw [if_neg (by decide), ob_s, gR_ok e7, ob_s, ck_c ck, ck_69 ck hx, r235, ob_s, ckE_ok cm.e, ob_s, hf, ob_s, if_neg (by decide), ob_s, gR_ok e7, ob_s, r235, ob_s, ckE_ok cm.e, ob_s, clm_hasno, ob_s, if_pos rfl, nI_1]
theorem src_not {F k x c0 i oo : Nat} {rc : CS → Nat → Int32 → Int32 → Int32 → Option CS} {cs : CS} : c_X0_findInSources_b85 F rc cs k (nI x) (nI c0) (nI i) (some oo) = rc cs k (nI x) (nI c0) (nI (i + 1)) := by
  unfold c_X0_findInSources_b85 c_X0_findInSources_b86 c_X0_findInSources_b115 c_X0_findInSources_b175
  rw [if_pos rfl, if_pos rfl, nI_1]
/-- how a name is given: alone, or with its SOURCE's; tkn is its first token, kc its column's -/
def OWN (n : Nat) (f : Nat → Int32) (M : Nat) (V : VT) (x tkn kc : Nat) (cs : CS) (rs : RS) : Prop := tkn ≤ M ∧ kc ≤ M ∧ rw' V x = nI tkn ∧ NM n f kc (vn V x) cs rs ∧ vb V x = kA cs 353 9 tkn ∧ ((vo V x = -1 ∧ rh V x = -1 ∧ kc = tkn) ∨ (vo V x ≠ -1 ∧ rh V x = nI kc ∧ NM9 n f tkn (vo V x) cs rs))
theorem COL.own {n M x : Nat} {f : Nat → Int32} {V : VT} {cs : CS} {rs : RS} (h : COL n f M V x cs rs) (tx : TX n f M cs rs) : ∃ tkn kc, OWN n f M V x tkn kc cs rs := by
  rcases h with ⟨a, b, q, k0, k1, k2, k3⟩ | ⟨q, j, k0, k1, k2, k3, k4, k5, k6⟩
  · exact ⟨q, q, k1, k1, k2, k3, k0, Or.inl ⟨a, b, rfl⟩⟩
  · refine ⟨q, j, k1, k2, k3, k6, k0, Or.inr ⟨?_, k4, k5⟩⟩
    obtain ⟨p, tk, ev⟩ := k5
    obtain ⟨l, wd, ee, -, -⟩ := tx.wd k1 tk (by decide)
    rw [ev, ee]
    exact lN_nm1 wd.z63
theorem fs_L {n : Nat} {f : Nat → Int32} {M t c cap s k lo hi so e ns : Nat} {V : VT} {F x tkn kc : Nat} (hF : 10000 ≤ F) (hx : x < s) (hs : s ≤ 120) (hk39 : vk V x = 39) : ∀ (d i u u' c0 : Nat) (u5 : Int32) (cs : CS) (rs : RS), ns - i ≤ d → d < u → d < u' → i ≤ ns → c0 ≤ i → CK t c cap s k cs → kI cs 320 t = 0 → rs.1 21 = 1 → VW c cs rs x = V x → SCS n f M lo hi k so e ns V cs rs → OWN n f M V x tkn kc cs rs → (c0 = 0 ∨ (kA cs 72 c x = rs.2.2.1 33 x ∧ TYR (kA cs 73 c x) u5)) → ∃ cs' rs1 z, c_X0_findInSources_L4 F u cs k (nI x) (nI c0) (nI i) = some cs' ∧ m_find_L30 F u' rs (nI x) (rw' V x) (rh V x) (nI c0) u5 (nI i) = some (rs1, z) ∧ FND t c x cs rs cs' rs1 z := by
  intro d
  induction d with
  | zero =>
    intro i u u' c0 u5 cs rs h1 h2 h3 h4 hc ck f0 g1 hv sc ow ih0
    obtain ⟨u, rfl⟩ : ∃ z, u = z + 1 := ⟨u - 1, by omega⟩
    obtain ⟨u', rfl⟩ : ∃ z, u' = z + 1 := ⟨u' - 1, by omega⟩
    obtain ⟨w1, w2, w3, w4, w5, w6⟩ := ow
    have n3 := sc.n3
    have n2 := sc.x.n2
    have mn := sc.x.mn
    have pl : kA cs 66 c x = rs.2.2.1 15 tkn := by
      have a : kA cs 66 c x = vb V x := by
        unfold vb
        rw [← hv]
        rfl
      obtain ⟨p, κ, tk, -⟩ := sc.x.tk tkn w1
      rw [a, w5, tk.pc, tk.pr]
    obtain ⟨cs', rs1, q1, q2, q3⟩ := fnd_end (F := F) (tkn := tkn) (c0 := c0) ck f0 g1 hx (by omega) (by omega) pl (ih0.imp_left (fun w => by omega))
    refine ⟨cs', rs1, u5, ?_, ?_, q3⟩
    · rw [c_X0_findInSources_L4, gR_ok ck.o, ob_s, sc.r35]
      show (Option.bind (gI cs 1 36 k) fun v_35 => if v_35 ≤ nI i then (c_X0_findInSources_b181 F cs k (nI x) (nI c0)) else _) = some cs'
      rw [gI_ok ck.o, ob_s, sc.i36, if_pos (nI_le (by omega) (by omega))]
      exact q1
    · rw [m_find_L30, sc.f78, if_pos (nI_le (by omega) (by omega)), w3]
      exact q2
  | succ d ih =>
    intro i u u' c0 u5 cs rs h1 h2 h3 h4 hc ck f0 g1 hv sc ow ih0
    by_cases wi : ns ≤ i
    · exact ih i u u' c0 u5 cs rs (by omega) (by omega) (by omega) h4 hc ck f0 g1 hv sc ow ih0
    · obtain ⟨u, rfl⟩ : ∃ z, u = z + 1 := ⟨u - 1, by omega⟩
      obtain ⟨u', rfl⟩ : ∃ z, u' = z + 1 := ⟨u' - 1, by omega⟩
      have ow0 := ow
      obtain ⟨w1, w2, w3, w4, w5, w6⟩ := ow
      have n3 := sc.n3
      have n2 := sc.x.n2
      have mn := sc.x.mn
      have e60 := sc.e60
      obtain ⟨j195, p195⟩ := sc.p195
      obtain ⟨oo, cl, m, q195, sr⟩ := sc.ss i (by omega)
      have e65 : kA cs 65 c x = vk V x := by
        unfold vk
        rw [← hv]
        rfl
      have e69 : kB cs 69 c x = vn V x := by
        unfold vn
        rw [← hv]
        rfl
      have e70 : kB cs 70 c x = vo V x := by
        unfold vo
        rw [← hv]
        rfl
      have cls : c_X0_findInSources_L4 F (u + 1) cs k (nI x) (nI c0) (nI i) = if vo V x = -1 then (c_X0_findInSources_b81 F (c_X0_findInSources_L4 F u) cs k (nI x) (nI c0) (nI i) oo) else (if vo V x = kJ cs 228 oo then (c_X0_findInSources_b81 F (c_X0_findInSources_L4 F u) cs k (nI x) (nI c0) (nI i) oo) else (c_X0_findInSources_b85 F (c_X0_findInSources_L4 F u) cs k (nI x) (nI c0) (nI i) (some oo))) := by
        rw [c_X0_findInSources_L4, gR_ok ck.o, ob_s, sc.r35, oc_s, gI_ok ck.o, ob_s, sc.i36, if_neg (nI_ge (by omega) (by omega)), ob_s, ob_s, gA_ok sc.e6, p195, ob_s, lnA_n sc.e195 p195, ob_s, sc.l195, if_neg (nI_ge (b := 3) (by omega) (by decide)), ob_s, ob_s, gA_ok sc.e6, p195, ob_s, rQ_n sc.e195 p195 (by rw [sc.l195]; omega) (by rw [sc.l195]; omega), ob_s, q195, oc_s, ck_c ck, ck_70 ck hx, e70]
        by_cases y : vo V x = -1
        · rw [if_pos y, if_pos y]
        · rw [if_neg y, if_neg y, ck_c ck, ck_70 ck hx, e70, gJ_ok sr.e7, ob_s]
      have j9 : 3 * e + i < 180 := by omega
      have i9 : (3 * rs.1 77) + nI i = nI (3 * e + i) := by rw [sc.f77, nI_3, nI_add]
      -- the SOURCE is meant
      have meant : ∃ cs' rs1 z, c_X0_findInSources_b81 F (c_X0_findInSources_L4 F u) cs k (nI x) (nI c0) (nI i) oo = some cs' ∧ m_find_L85 F (m_find_L30 F u') F rs (nI x) (rw' V x) (rh V x) (nI c0) u5 (nI i) (nI (3 * e + i)) (nI kc) (nI 0) = some (rs1, z) ∧ FND t c x cs rs cs' rs1 z := by
        have fl := find_L (F := F) (v := vn V x) sr.cm m 0 F (by omega) (by have := sr.cm.m8; omega) (by omega)
        have f0' : c_X2_find F cs cl (kB cs 69 c x) 0 = c_X2_find_L7 F cs F cl (vn V x) (nI 0) := by
          unfold c_X2_find
          rw [e69]
          rfl
        rcases L85_ok (rc := m_find_L30 F u') (u2 := rw' V x) (u3 := rh V x) (u6 := nI i) (x := x) (k := kc) (v := vn V x) hF j9 (by omega) w2 rfl m 0 F c0 u5 rs sc.x sr w4 (by omega) (by have := sr.cm.m8; omega) (by omega) with ⟨b1, b2⟩ | ⟨y0, a, r, b0, b1, b2, b3, b4, b5, b6⟩
        · have fm : c_X2_find F cs cl (kB cs 69 c x) 0 = some (-1) := by
            rcases fl with ⟨y0, -, a2, a3, -⟩ | ⟨-, a2⟩
            · exact absurd a3 (b1 y0 (by omega) a2)
            · exact f0'.trans a2
          obtain ⟨cs', rs1, z, t1, t2, t3⟩ := ih (i + 1) u u' c0 u5 cs rs (by omega) (by omega) (by omega) (by omega) (by omega) ck f0 g1 hv sc ow0 ih0
          refine ⟨cs', rs1, z, ?_, ?_, t3⟩
          · rw [src_miss ck hx sr.e7 sr.r235 sr.cm fm]
            exact t1
          · rw [b2, nI_1]
            exact t2
        · have fm : c_X2_find F cs cl (kB cs 69 c x) 0 = some (nI y0) := by
            rcases fl with ⟨y1, -, a2, a3, -, a5⟩ | ⟨a1, -⟩
            · by_cases yy : y1 = y0
              · rw [yy] at a5
                exact f0'.trans a5
              · exact absurd (a3.trans b2.symm) (sr.ap y1 y0 a2 b1 yy)
            · exact absurd b2 (a1 y0 (by omega) b1)
          have jj : JF t c cs rs (sA (sA cs 72 c x (nI (a + y0))) 73 c x (kA cs 100 cl y0)) (setI rs 33 x (nI (a + y0))) := ((JF.cA (Or.inr ⟨rfl, e65.trans hk39⟩)).trans (JF.cA (Or.inl rfl))).trans (JF.rI (Or.inr rfl))
          have a72 : kA (sA (sA cs 72 c x (nI (a + y0))) 73 c x (kA cs 100 cl y0)) 72 c = upd (kA cs 72 c) x (nI (a + y0)) := ((AT.sA (by omega)).a).trans kA_s
          have a73 : kA (sA (sA cs 72 c x (nI (a + y0))) 73 c x (kA cs 100 cl y0)) 73 c = upd (kA cs 73 c) x (kA cs 100 cl y0) := kA_s.trans (by rw [(AT.sA (cs := cs) (by omega)).a])
          have r33 : (setI rs 33 x (nI (a + y0))).2.2.1 33 x = nI (a + y0) := pk_us
          have hv2 : VW c (sA (sA cs 72 c x (nI (a + y0))) 73 c x (kA cs 100 cl y0)) (setI rs 33 x (nI (a + y0))) x = V x := by
            rw [VW.jf jj]
            exact hv
          have ow2 : OWN n f M V x tkn kc (sA (sA cs 72 c x (nI (a + y0))) 73 c x (kA cs 100 cl y0)) (setI rs 33 x (nI (a + y0))) := by
            refine ⟨w1, w2, w3, w4.f jj.tkf, by rw [jj.tkf.2.1]; exact w5, ?_⟩
            rcases w6 with w6 | ⟨z1, z2, z3⟩
            · exact Or.inl w6
            · exact Or.inr ⟨z1, z2, z3.f jj.tkf⟩
          obtain ⟨cs', rs1, z, t1, t2, t3⟩ := ih (i + 1) u u' (c0 + 1) r (sA (sA cs 72 c x (nI (a + y0))) 73 c x (kA cs 100 cl y0)) (setI rs 33 x (nI (a + y0))) (by omega) (by omega) (by omega) (by omega) (by omega) (ck.jf jj) f0 g1 hv2 (sc.jf jj) ow2 (Or.inr ⟨by rw [a72, pk_us, r33], by rw [a73, pk_us]; exact b5⟩)
          refine ⟨cs', rs1, z, ?_, ?_, t3.tr jj (fun y hy => ⟨by rw [a72, pk_un hy], by rw [a73, pk_un hy], sIa_n (by omega)⟩) (funext (fun y => sIa_n (by omega)))⟩
          · rw [src_hit ck hx sr.e7 sr.r235 sr.cm b1 b4 fm]
            exact t1
          · rw [b6, nI_1]
            exact t2
      have ref0 : m_find_L30 F (u' + 1) rs (nI x) (rw' V x) (rh V x) (nI c0) u5 (nI i) = if rh V x = -1 then (m_find_L85 F (m_find_L30 F u') F rs (nI x) (rw' V x) (rh V x) (nI c0) u5 (nI i) (nI (3 * e + i)) (rw' V x) 0) else (Option.bind (rdI (rs.2.2.1 55) 180 (nI (3 * e + i))) fun v_18 => Option.bind (m_isSame F rs (rw' V x) v_18) fun v_19 => if v_19 = 0 then (m_find_L30 F u' rs (nI x) (rw' V x) (rh V x) (nI c0) u5 (nI i + 1)) else (m_find_L85 F (m_find_L30 F u') F rs (nI x) (rw' V x) (rh V x) (nI c0) u5 (nI i) (nI (3 * e + i)) (rh V x) 0)) := by
        rw [m_find_L30, sc.f78, if_neg (nI_ge (by omega) (by omega)), i9]
        unfold m_find_b70 m_find_b80 m_find_b148
        by_cases y : rh V x = -1
        · rw [if_pos y, if_pos y, if_pos y]
        · rw [if_neg y, if_neg y, if_neg y]
      have z0 : (0 : Int32) = nI 0 := by decide
      rcases w6 with ⟨z1, z2, z3⟩ | ⟨z1, z2, z3⟩
      · have e9 : nI kc = rw' V x := by rw [w3, z3]
        rw [← z0, e9] at meant
        rw [cls, if_pos z1, ref0, if_pos z2]
        exact meant
      · have z2' : ¬ rh V x = -1 := by rw [z2]; exact nI_nm1 (by omega)
        obtain ⟨k', k1, k2, k3⟩ := sr.nm
        obtain ⟨b, e1, q⟩ := nm_same hF sc.x w1 k1 z3.nm k3.nm
        rw [cls, if_neg z1, ref0, if_neg z2', rdI_n j9 (by decide), ob_s, k2, w3, e1, ob_s]
        rcases q with ⟨q1, q2⟩ | ⟨q1, q2⟩
        · rw [if_pos q2, q1, if_neg (by decide)]
          rw [← z0] at meant
          obtain ⟨cs', rs1, z, m1, m2, m3⟩ := meant
          refine ⟨cs', rs1, z, m1, ?_, m3⟩
          rw [w3, z2] at m2
          rw [z2]
          exact m2
        · rw [if_neg q2, src_not, q1, if_pos rfl, ← w3, nI_1]
          exact ih (i + 1) u u' c0 u5 cs rs (by omega) (by omega) (by omega) (by omega) (by omega) ck f0 g1 hv sc ow0 ih0
theorem FND.fin {t c cap s k lo x : Nat} {V : VT} {D : Nat → Prop} {Sc : CS → RS → Prop} {cs cs' : CS} {rs rs1 : RS} {z : Int32} (a3 : FND t c x cs rs cs' rs1 z) (hS : SCF t c Sc) (h : JS t c cap s k lo x V D Sc cs rs) : JF t c cs rs cs' (setI rs1 31 x z) ∧ (JS t c cap s k lo (x + 1) V D Sc cs' (setI rs1 31 x z) ∨ JB t c cap s k cs' (setI rs1 31 x z)) := by
  obtain ⟨j, o, r31, p⟩ := a3
  have j2 : JF t c cs rs cs' (setI rs1 31 x z) := j.trans (JF.rI (Or.inl rfl))
  have s31 : ∀ y, y ≠ x → (setI rs1 31 x z).2.2.1 31 y = rs.2.2.1 31 y := fun y hy => (sIa_n (by omega)).trans (congrFun r31 y)
  have s33 : ∀ y, (setI rs1 31 x z).2.2.1 33 y = rs1.2.2.1 33 y := fun y => sIa_n (by omega)
  have s31x : (setI rs1 31 x z).2.2.1 31 x = z := pk_us
  refine ⟨j2, ?_⟩
  rcases p with ⟨p1, p2, p3, p4⟩ | ⟨p1, p2, p3, p4⟩
  · refine Or.inl (h.mv hS j2 p1 p2 (x + 1) (fun y y1 y2 => ?_) (fun y y1 y3 => ?_))
    · by_cases w : y = x
      · rw [w, s31x]; exact p4
      · rw [(o y w).2.1, s31 y w]; exact h.ty y y1 (by omega)
    · rw [s33 y]
      by_cases w : y = x
      · rw [w]; exact p3
      · rw [(o y w).1, (o y w).2.2]; exact h.sl y (y1.imp_right (fun z => ⟨z.1, by omega⟩)) y3
  · exact Or.inr ⟨h.ck.jf j2, p1, p2, p3, p4⟩
theorem NM0.of {n : Nat} {f : Nat → Int32} {M t c cap s k lo hi so e ns : Nat} {V : VT} {F root : Nat} {D : Nat → Prop} {Sc : CS → RS → Prop} (hF : 10000 ≤ F) (hs : s ≤ 120) (hh : root < hi) (hS : SCF t c Sc) (hsub : ∀ cs rs, Sc cs rs → rs.1 76 = 0 → SCS n f M lo hi k so e ns V cs rs) : NM0 F t c cap s k lo root V D Sc := by
  intro x cs rs h hlo hroot hx hk g0
  have sc := hsub _ _ h.sc g0
  obtain ⟨tkn, kc, ow⟩ := (sc.co x hlo (by omega) hk).own sc.x
  have n3 := sc.n3
  have r := h.v x hx
  obtain ⟨cs', rs1, z, a1, a2, a3⟩ := fs_L (F := F) hF hx hs hk ns 0 F F 0 1 cs rs (by omega) (by omega) (by omega) (by omega) (by omega) h.ck h.f0 h.g1 r sc ow (Or.inl rfl)
  have r30 : rs.2.2.1 30 x = rw' V x := by unfold rw'; rw [← r]; rfl
  have r27 : rs.2.2.1 27 x = rh V x := by unfold rh; rw [← r]; rfl
  refine ⟨cs', rs1, z, a1, ?_, a3.fin hS h⟩
  unfold m_find
  rw [rdI_n (by omega) (by decide), ob_s, rdI_n (by omega) (by decide), ob_s, if_pos g0, r30, r27]
  exact a2

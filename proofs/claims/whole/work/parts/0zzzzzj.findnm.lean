/-! a name looked for in names: groups of a SELECT, or the items of a QUERY's first, both -/
def NMS (n : Nat) (f : Nat → Int32) (M k nm m e g A B C lo hi : Nat) (V : VT) (cs : CS) (rs : RS) : Prop := (TX n f M cs rs) ∧ (kR cs 37 k = some nm) ∧ (CLM nm m cs) ∧ (e < 60) ∧ (rs.1 77 = nI e) ∧ ((g = 1 ∧ A = 48 ∧ B = 80 ∧ C = 39) ∨ (g = 2 ∧ A = 45 ∧ B = 46 ∧ C = 36)) ∧ (rs.2.2.1 C e = nI m) ∧ (∀ y, y < m → NMR n f M (kB cs 98 nm y) (rs.2.2.1 A (8 * e + y)) cs rs) ∧ (∀ y, y < m → TYR (kA cs 100 nm y) (rs.2.2.1 B (8 * e + y))) ∧ (∀ x, lo ≤ x → x < hi → vk V x = 39 → COL n f M V x cs rs)
theorem NMS.x {n : Nat} {f : Nat → Int32} {M k nm m e g A B C lo hi : Nat} {V : VT} {cs : CS} {rs : RS} (h : NMS n f M k nm m e g A B C lo hi V cs rs) : TX n f M cs rs := h.1
theorem NMS.r37 {n : Nat} {f : Nat → Int32} {M k nm m e g A B C lo hi : Nat} {V : VT} {cs : CS} {rs : RS} (h : NMS n f M k nm m e g A B C lo hi V cs rs) : kR cs 37 k = some nm := h.2.1
theorem NMS.cm {n : Nat} {f : Nat → Int32} {M k nm m e g A B C lo hi : Nat} {V : VT} {cs : CS} {rs : RS} (h : NMS n f M k nm m e g A B C lo hi V cs rs) : CLM nm m cs := h.2.2.1
theorem NMS.e60 {n : Nat} {f : Nat → Int32} {M k nm m e g A B C lo hi : Nat} {V : VT} {cs : CS} {rs : RS} (h : NMS n f M k nm m e g A B C lo hi V cs rs) : e < 60 := h.2.2.2.1
theorem NMS.f77 {n : Nat} {f : Nat → Int32} {M k nm m e g A B C lo hi : Nat} {V : VT} {cs : CS} {rs : RS} (h : NMS n f M k nm m e g A B C lo hi V cs rs) : rs.1 77 = nI e := h.2.2.2.2.1
theorem NMS.gk {n : Nat} {f : Nat → Int32} {M k nm m e g A B C lo hi : Nat} {V : VT} {cs : CS} {rs : RS} (h : NMS n f M k nm m e g A B C lo hi V cs rs) : (g = 1 ∧ A = 48 ∧ B = 80 ∧ C = 39) ∨ (g = 2 ∧ A = 45 ∧ B = 46 ∧ C = 36) := h.2.2.2.2.2.1
theorem NMS.ct {n : Nat} {f : Nat → Int32} {M k nm m e g A B C lo hi : Nat} {V : VT} {cs : CS} {rs : RS} (h : NMS n f M k nm m e g A B C lo hi V cs rs) : rs.2.2.1 C e = nI m := h.2.2.2.2.2.2.1
theorem NMS.nn {n : Nat} {f : Nat → Int32} {M k nm m e g A B C lo hi : Nat} {V : VT} {cs : CS} {rs : RS} (h : NMS n f M k nm m e g A B C lo hi V cs rs) : ∀ y, y < m → NMR n f M (kB cs 98 nm y) (rs.2.2.1 A (8 * e + y)) cs rs := h.2.2.2.2.2.2.2.1
theorem NMS.ty {n : Nat} {f : Nat → Int32} {M k nm m e g A B C lo hi : Nat} {V : VT} {cs : CS} {rs : RS} (h : NMS n f M k nm m e g A B C lo hi V cs rs) : ∀ y, y < m → TYR (kA cs 100 nm y) (rs.2.2.1 B (8 * e + y)) := h.2.2.2.2.2.2.2.2.1
theorem NMS.co {n : Nat} {f : Nat → Int32} {M k nm m e g A B C lo hi : Nat} {V : VT} {cs : CS} {rs : RS} (h : NMS n f M k nm m e g A B C lo hi V cs rs) : ∀ x, lo ≤ x → x < hi → vk V x = 39 → COL n f M V x cs rs := h.2.2.2.2.2.2.2.2.2
theorem NMS.jf {n : Nat} {f : Nat → Int32} {M k nm m e g A B C lo hi : Nat} {V : VT} {t c : Nat} {cs cs' : CS} {rs rs' : RS} (h : NMS n f M k nm m e g A B C lo hi V cs rs) (j : JF t c cs rs cs' rs') : NMS n f M k nm m e g A B C lo hi V cs' rs' := by
  have em : EM cs cs' := EM.of (congrArg (fun z => z.2.2) j.c1)
  have a : ∀ x o, x / 32 = 1 ∨ x / 32 = 3 → AT cs cs' x o := fun x o hx => j.a0 x o (by omega) (by omega)
  have gk := h.gk
  have r : ∀ q, q = A ∨ q = B ∨ q = C → rs'.2.2.1 q = rs.2.2.1 q := fun q hq => j.fr.a (by unfold jR; omega)
  refine ⟨h.x.f' j.tkf, by rw [(a 37 k (by omega)).r]; exact h.r37, h.cm.keep em (fun x x1 x2 => a x nm (by omega)), h.e60, by rw [j.fr.f (by unfold jR; omega)]; exact h.f77, h.gk, by rw [r C (by omega)]; exact h.ct, fun y hy => ?_, fun y hy => ?_, fun y y1 y2 y3 => (h.co y y1 y2 y3).f rfl j.tkf⟩
  · rw [r A (by omega), (a 98 nm (by omega)).b]
    exact (h.nn y hy).f j.tkf
  · rw [r B (by omega), (a 100 nm (by omega)).a]
    exact h.ty y hy
theorem NMS.z76 {n : Nat} {f : Nat → Int32} {M k nm m e g A B C lo hi : Nat} {V : VT} {v : Int32} {cs : CS} {rs : RS} (h : NMS n f M k nm m e g A B C lo hi V cs rs) : NMS n f M k nm m e g A B C lo hi V cs (setF rs 76 v) := ⟨h.x.f' TKF.refl, h.r37, h.cm, h.e60, h.f77, h.gk, h.ct, fun y hy => (h.nn y hy).f TKF.refl, h.ty, fun y y1 y2 y3 => (h.co y y1 y2 y3).f rfl TKF.refl⟩
theorem NMS.r33 {n : Nat} {f : Nat → Int32} {M k nm m e g A B C lo hi : Nat} {V : VT} {x : Nat} {v : Int32} {cs : CS} {rs : RS} (h : NMS n f M k nm m e g A B C lo hi V cs rs) : NMS n f M k nm m e g A B C lo hi V cs (setI rs 33 x v) := h.jf (t := 0) (c := 0) (JF.rI (Or.inr rfl))
theorem nm_nm1 {n M k : Nat} {f : Nat → Int32} {v : Int64} {cs : CS} {rs : RS} (x : TX n f M cs rs) (hk : k ≤ M) (h : NM n f k v cs rs) : v ≠ -1 := by
  obtain ⟨p, l, wd, o⟩ := nm_wd x hk h
  rcases o with ⟨o, -⟩ | ⟨o, -⟩
  · rw [o]
    exact lN_nm1 wd.z63
  · rw [o]
    decide
/-- one row of the reference's walk -/
theorem l198 {n : Nat} {f : Nat → Int32} {M k nm m e g A B C lo hi : Nat} {V : VT} {F u x c0 y : Nat} {u2 u5 : Int32} {cs : CS} {rs : RS} (h : NMS n f M k nm m e g A B C lo hi V cs rs) (g0 : rs.1 76 = nI g) (hy : y < m) : m_find_L198 F (u + 1) rs (nI x) u2 (nI c0) u5 (nI e) (nI m) (nI y) = m_find_b242 F (m_find_L198 F u) rs (nI x) u2 (nI c0) u5 (nI e) (nI m) (nI y) (rs.2.2.1 A (8 * e + y)) := by
  have m8 := h.cm.m8
  have e60 := h.e60
  rw [m_find_L198, if_neg (nI_ge (b := m) (by omega) (by omega)), g0]
  rcases h.gk with ⟨g1, a1, -, -⟩ | ⟨g1, a1, -, -⟩
  · rw [g1, if_pos (show nI 1 = 1 by decide), nI_8, nI_add, rdI_n (by omega) (by decide), ob_s, a1]
  · rw [g1, if_neg (show ¬ nI 2 = 1 by decide), nI_8, nI_add, rdI_n (by omega) (by decide), ob_s, a1]
/-- what the walk comes to: none, one, more of the names are hit -/
theorem fn_L {n : Nat} {f : Nat → Int32} {M k nm m e g A B C lo hi : Nat} {V : VT} {F t c x tkn : Nat} {v : Int64} {cs : CS} (hF : 10000 ≤ F) (hx : x < 121) (hk : tkn ≤ M) : ∀ (d y u c0 : Nat) (u5 : Int32) (rs : RS), NMS n f M k nm m e g A B C lo hi V cs rs → NM n f tkn v cs rs → rs.1 76 = nI g → m - y ≤ d → d < u → y ≤ m → c0 ≤ y → ∃ rs1 c1 z, m_find_L198 F u rs (nI x) (nI tkn) (nI c0) u5 (nI e) (nI m) (nI y) = m_find_b316 F rs1 (nI tkn) (nI c1) z ∧ JF t c cs rs cs rs1 ∧ (∀ w, w ≠ x → rs1.2.2.1 33 w = rs.2.2.1 33 w) ∧ rs1.2.2.1 31 = rs.2.2.1 31 ∧ rs1.1 = rs.1 ∧ c1 ≤ c0 + (m - y) ∧ ((c1 = c0 ∧ z = u5 ∧ rs1 = rs ∧ ∀ w, y ≤ w → w < m → kB cs 98 nm w ≠ v) ∨ (∃ y0, c1 = c0 + 1 ∧ y ≤ y0 ∧ y0 < m ∧ kB cs 98 nm y0 = v ∧ (∀ w, y ≤ w → w < m → w ≠ y0 → kB cs 98 nm w ≠ v) ∧ rs1.2.2.1 33 x = nI y0 ∧ TYR (kA cs 100 nm y0) z) ∨ (∃ y0 y1, c0 + 2 ≤ c1 ∧ y ≤ y0 ∧ y0 < y1 ∧ y1 < m ∧ kB cs 98 nm y0 = v ∧ kB cs 98 nm y1 = v)) := by
  have stop : ∀ y u c0 u5 rs, m ≤ y → y ≤ 8 → m_find_L198 F (u + 1) rs (nI x) (nI tkn) (nI c0) u5 (nI e) (nI m) (nI y) = m_find_b316 F rs (nI tkn) (nI c0) u5 := fun y u c0 u5 rs hy _ => by
    rw [m_find_L198, if_pos (nI_le hy (by omega))]
  intro d
  induction d with
  | zero =>
    intro y u c0 u5 rs h hn g0 h1 h2 h3 h4
    have m8 := h.cm.m8
    obtain ⟨u, rfl⟩ : ∃ z, u = z + 1 := ⟨u - 1, by omega⟩
    exact ⟨rs, c0, u5, stop y u c0 u5 rs (by omega) (by omega), JF.refl, fun w _ => rfl, rfl, rfl, by omega, Or.inl ⟨rfl, rfl, rfl, fun w w1 w2 => absurd w2 (by omega)⟩⟩
  | succ d ih =>
    intro y u c0 u5 rs h hn g0 h1 h2 h3 h4
    have m8 := h.cm.m8
    have e60 := h.e60
    obtain ⟨u, rfl⟩ : ∃ z, u = z + 1 := ⟨u - 1, by omega⟩
    by_cases hy : m ≤ y
    · exact ⟨rs, c0, u5, stop y u c0 u5 rs hy (by omega), JF.refl, fun w _ => rfl, rfl, rfl, by omega, Or.inl ⟨rfl, rfl, rfl, fun w w1 w2 => absurd w2 (by omega)⟩⟩
    · have st := l198 (F := F) (u := u) (x := x) (c0 := c0) (u2 := nI tkn) (u5 := u5) h g0 (show y < m by omega)
      -- no hit here
      have miss : kB cs 98 nm y ≠ v → m_find_L198 F (u + 1) rs (nI x) (nI tkn) (nI c0) u5 (nI e) (nI m) (nI y) = m_find_L198 F u rs (nI x) (nI tkn) (nI c0) u5 (nI e) (nI m) (nI (y + 1)) → ∃ rs1 c1 z, m_find_L198 F (u + 1) rs (nI x) (nI tkn) (nI c0) u5 (nI e) (nI m) (nI y) = m_find_b316 F rs1 (nI tkn) (nI c1) z ∧ JF t c cs rs cs rs1 ∧ (∀ w, w ≠ x → rs1.2.2.1 33 w = rs.2.2.1 33 w) ∧ rs1.2.2.1 31 = rs.2.2.1 31 ∧ rs1.1 = rs.1 ∧ c1 ≤ c0 + (m - y) ∧ ((c1 = c0 ∧ z = u5 ∧ rs1 = rs ∧ ∀ w, y ≤ w → w < m → kB cs 98 nm w ≠ v) ∨ (∃ y0, c1 = c0 + 1 ∧ y ≤ y0 ∧ y0 < m ∧ kB cs 98 nm y0 = v ∧ (∀ w, y ≤ w → w < m → w ≠ y0 → kB cs 98 nm w ≠ v) ∧ rs1.2.2.1 33 x = nI y0 ∧ TYR (kA cs 100 nm y0) z) ∨ (∃ y0 y1, c0 + 2 ≤ c1 ∧ y ≤ y0 ∧ y0 < y1 ∧ y1 < m ∧ kB cs 98 nm y0 = v ∧ kB cs 98 nm y1 = v)) := fun ne st' => by
        obtain ⟨rs1, c1, z, q1, q2, q3, q4, q5, q6, q7⟩ := ih (y + 1) u c0 u5 rs h hn g0 (by omega) (by omega) (by omega) (by omega)
        refine ⟨rs1, c1, z, st'.trans q1, q2, q3, q4, q5, by omega, ?_⟩
        have up : ∀ w, y ≤ w → w = y ∨ y + 1 ≤ w := fun w hw => by omega
        rcases q7 with ⟨a1, a2, a3, a4⟩ | ⟨y0, a1, a2, a3, a4, a5, a6⟩ | ⟨y0, y1, a1, a2, a3⟩
        · refine Or.inl ⟨a1, a2, a3, fun w w1 w2 => ?_⟩
          rcases up w w1 with b | b
          · rw [b]; exact ne
          · exact a4 w b w2
        · refine Or.inr (Or.inl ⟨y0, a1, by omega, a3, a4, fun w w1 w2 w3 => ?_, a6⟩)
          rcases up w w1 with b | b
          · rw [b]; exact ne
          · exact a5 w b w2 w3
        · exact Or.inr (Or.inr ⟨y0, y1, a1, by omega, a3⟩)
      rcases h.nn y (by omega) with ⟨b1, b2⟩ | ⟨k', b1, b2, b3⟩
      · refine miss ?_ ?_
        · rw [b1]
          intro w
          exact nm_nm1 h.x hk hn w.symm
        · rw [st, b2]
          unfold m_find_b242 m_find_b310
          rw [if_pos rfl, nI_1]
      · obtain ⟨b, e1, q⟩ := nm_same hF h.x hk b1 hn b3
        have st2 : m_find_L198 F (u + 1) rs (nI x) (nI tkn) (nI c0) u5 (nI e) (nI m) (nI y) = if b = 0 then m_find_L198 F u rs (nI x) (nI tkn) (nI c0) u5 (nI e) (nI m) (nI (y + 1)) else m_find_L198 F u (setI rs 33 x (nI y)) (nI x) (nI tkn) (nI (c0 + 1)) (rs.2.2.1 B (8 * e + y)) (nI e) (nI m) (nI (y + 1)) := by
          rw [st, b2]
          unfold m_find_b242 m_find_b308 m_find_b310
          rw [if_neg (nI_nm1 (by have := h.x.n2; have := h.x.mn; omega)), e1, ob_s]
          by_cases bb : b = 0
          · rw [if_pos bb, if_pos bb, nI_1]
          · rw [if_neg bb, if_neg bb, wrI_n hx (by decide), ob_s, show (setI rs 33 x (nI y)).1 76 = nI g from g0, nI_8, nI_add, nI_1, nI_1]
            rcases h.gk with ⟨g1, -, a1, -⟩ | ⟨g1, -, a1, -⟩
            · rw [g1, if_pos (show nI 1 = 1 by decide), rdI_n (by omega) (by decide), ob_s, a1]
              rfl
            · rw [g1, if_neg (show ¬ nI 2 = 1 by decide), rdI_n (by omega) (by decide), ob_s, a1]
              rfl
        rcases q with ⟨q1, q2⟩ | ⟨q1, q2⟩
        · rw [q1, if_neg (by decide)] at st2
          have j1 : JF t c cs rs cs (setI rs 33 x (nI y)) := JF.rI (Or.inr rfl)
          obtain ⟨rs1, c1, z, r1, r2, r3, r4, r5, r6, r7⟩ := ih (y + 1) u (c0 + 1) (rs.2.2.1 B (8 * e + y)) (setI rs 33 x (nI y)) h.r33 (hn.f j1.tkf) g0 (by omega) (by omega) (by omega) (by omega)
          refine ⟨rs1, c1, z, st2.trans r1, j1.trans r2, fun w hw => (r3 w hw).trans (sIa_n (by omega)), r4.trans (funext (fun w => sIa_n (by omega))), r5, by omega, ?_⟩
          rcases r7 with ⟨a1, a2, a3, a4⟩ | ⟨y0, a1, a2, a3, a4, a5, a6⟩ | ⟨y0, y1, a1, a2, a3⟩
          · refine Or.inr (Or.inl ⟨y, a1, Nat.le_refl _, by omega, q2.symm, fun w w1 w2 w3 => a4 w (by omega) w2, ?_, ?_⟩)
            · rw [a3]
              exact pk_us
            · rw [a2]
              exact h.ty y (by omega)
          · exact Or.inr (Or.inr ⟨y, y0, by omega, Nat.le_refl _, by omega, a3, q2.symm, a4⟩)
          · exact Or.inr (Or.inr ⟨y0, y1, by omega, by omega, a3⟩)
        · rw [q1, if_pos rfl] at st2
          exact miss (fun w => q2 w.symm) st2
theorem b316_2 {F c1 : Nat} {u2 u5 : Int32} {rs : RS} (h : 2 ≤ c1) (h' : c1 ≤ 100) : m_find_b316 F rs u2 (nI c1) u5 = m_find_b316 F rs u2 (nI 2) u5 := by
  unfold m_find_b316
  rw [if_neg (show ¬ nI c1 = 0 from fun w => absurd ((nI_eq (b := 0) (by omega) (by decide)).mp w) (by omega)), if_neg (show ¬ nI c1 ≤ 1 from nI_ge (a := 1) (b := c1) (by omega) (by omega)), if_neg (show ¬ nI 2 = 0 by decide), if_neg (show ¬ nI 2 ≤ 1 by decide)]
theorem find_0 {F cl : Nat} {v : Int64} {cs : CS} : c_X2_find F cs cl v 0 = c_X2_find_L7 F cs F cl v (nI 0) := rfl
theorem find_p {F cl y : Nat} {v : Int64} {cs : CS} (hy : y < 100) : c_X2_find F cs cl v (nI y) = c_X2_find_L7 F cs F cl v (nI y) := by
  unfold c_X2_find
  rw [if_neg (nI_pos (by omega))]
/-- the class's side: no such name -/
theorem fn_none {F t c cap s k x nm : Nat} {cs : CS} (ck : CK t c cap s k cs) (e3 : (3, nm) ∈ kE cs) : c_X0_findInNames_b34 F cs k (nI x) nm (-1) = Option.bind (ckE cs 1 k) fun _ => Option.bind (c_X0_refuseUnlessOne F cs k (nI 0) (nI x)) fun cs_1 => some cs_1 := by
  unfold c_X0_findInNames_b34
  rw [ckE_ok e3, ob_s, clm_hasno, ob_s, if_pos rfl]
  rfl
/-- the class's side: the name is there -/
theorem fn_some {F t c cap s k x nm m y0 : Nat} {r : Int32} {cs cs2 : CS} (ck : CK t c cap s k cs) (cm : CLM nm m cs) (hx : x < s) (hy : y0 < m) (e2 : cs2 = sA (sA cs 72 c x (nI y0)) 73 c x (kA cs 100 nm y0)) (hf : c_X2_find F cs2 nm (kB cs2 69 c x) (nI (y0 + 1)) = some r) : c_X0_findInNames_b34 F cs k (nI x) nm (nI y0) = Option.bind (ckE cs2 1 k) fun _ => Option.bind (c_X0_refuseUnlessOne F cs2 k (if r = -1 then nI 1 else nI 2) (nI x)) fun cs_1 => some cs_1 := by
  have ck2 : CK t c cap s k (sA cs 72 c x (nI y0)) := ck.sA
  have ck3 : CK t c cap s k cs2 := by rw [e2]; exact ck2.sA
  have m8 := cm.m8
  obtain ⟨j100, p100⟩ := cm.p100
  obtain ⟨j73, p73⟩ := ck2.ca.p73
  have sc := ck.sc
  have cp := ck.cp
  have a100 : kA (sA cs 72 c x (nI y0)) 100 nm = kA cs 100 nm := (AT.sA (by omega)).a
  have p100' : kP (sA cs 72 c x (nI y0)) 100 nm = some j100 := p100
  have e33 : (3, nm) ∈ kE cs2 := by rw [e2]; exact cm.e
  unfold c_X0_findInNames_b34
  rw [ckE_ok cm.e, ob_s, clm_has cm hy, ob_s, if_neg (by decide), ck_c ck, ck_w72 ck hx, ck_c ck2, gA_ok ck2.oc, p73, ob_s, gA_ok (show (3, nm) ∈ kE (sA cs 72 c x (nI y0)) from cm.e), p100', ob_s, rA_n (show (32 + 100, nm) ∈ kE (sA cs 72 c x (nI y0)) from cm.e100) p100' (by show y0 < kL cs 100 nm; rw [cm.l100]; omega) (by show kL cs 100 nm < 2147483648; rw [cm.l100]; omega), ob_s, wA_n ck2.ca.e73 p73 (by rw [ck2.ca.l73]; omega) (by rw [ck2.ca.l73]; omega), ob_s, a100, ← e2, ck_c ck3, ck_69 ck3 hx, ckE_ok e33, ob_s, nI_1, hf, ob_s]
  unfold c_X0_findInNames_b101
  by_cases y : r = -1
  · rw [if_pos y, if_pos y]
    rfl
  · rw [if_neg y, if_neg y]
    rfl
theorem NM1.of {n : Nat} {f : Nat → Int32} {M k nm m e g A B C lo hi : Nat} {V : VT} {F t c cap s root : Nat} {D : Nat → Prop} {Sc : CS → RS → Prop} (hF : 10000 ≤ F) (hs : s ≤ 120) (hh : root < hi) (hS : SCF t c Sc) (hsub : ∀ cs rs, Sc cs rs → rs.1 76 ≠ 0 → rs.1 76 = nI g ∧ NMS n f M k nm m e g A B C lo hi V cs rs) : NM1 F t c cap s k lo root V D Sc := by
  intro x nm' cs rs h hlo hroot hx hk g0 hnm
  obtain ⟨gg, sc⟩ := hsub _ _ h.sc g0
  have enm : nm = nm' := Option.some.inj (sc.r37.symm.trans hnm)
  rw [← enm]
  obtain ⟨tkn, kc, w1, w2, w3, w4, w5, w6⟩ := (sc.co x hlo (by omega) hk).own sc.x
  have ck := h.ck
  have m8 := sc.cm.m8
  have e60 := sc.e60
  have n2 := sc.x.n2
  have mn := sc.x.mn
  have r := h.v x hx
  have r30 : rs.2.2.1 30 x = rw' V x := by unfold rw'; rw [← r]; rfl
  have r27 : rs.2.2.1 27 x = rh V x := by unfold rh; rw [← r]; rfl
  have e65 : kA cs 65 c x = vk V x := by unfold vk; rw [← r]; rfl
  have e69 : kB cs 69 c x = vn V x := by unfold vn; rw [← r]; rfl
  have e70 : kB cs 70 c x = vo V x := by unfold vo; rw [← r]; rfl
  have pl : kA cs 66 c x = rs.2.2.1 15 tkn := by
    have a : kA cs 66 c x = vb V x := by unfold vb; rw [← r]; rfl
    obtain ⟨p, κ, tk, -⟩ := sc.x.tk tkn w1
    rw [a, w5, tk.pc, tk.pr]
  have mf : m_find F rs (nI x) = if rh V x = -1 then m_find_L198 F F rs (nI x) (nI tkn) (nI 0) 1 (nI e) (nI m) (nI 0) else m_find_b316 F rs (nI tkn) (nI 0) 1 := by
    unfold m_find m_find_b193
    rw [rdI_n (by omega) (by decide), ob_s, rdI_n (by omega) (by decide), ob_s, if_neg g0, r30, r27, w3, sc.f77]
    by_cases y : rh V x = -1
    · rw [if_pos y, if_pos y, gg]
      have ct := sc.ct
      rcases sc.gk with ⟨g1, -, -, a1⟩ | ⟨g1, -, -, a1⟩
      · rw [a1] at ct
        rw [g1, if_pos (show nI 1 = 1 by decide), rdI_n e60 (by decide), ob_s, ct]
        rfl
      · rw [a1] at ct
        rw [g1, if_neg (show ¬ nI 2 = 1 by decide), rdI_n e60 (by decide), ob_s, ct]
        rfl
    · rw [if_neg y, if_neg y]
      rfl
  have cf : c_X0_findInNames F cs k (nI x) nm = if vo V x = -1 then Option.bind (c_X2_find F cs nm (vn V x) 0) fun v_34 => c_X0_findInNames_b34 F cs k (nI x) nm v_34 else c_X0_findInNames_b34 F cs k (nI x) nm (-1) := by
    unfold c_X0_findInNames
    rw [ck_c ck, ck_70 ck hx, e70]
    by_cases y : vo V x = -1
    · rw [if_pos y, if_pos y, ck_c ck, ck_69 ck hx, e69, ckE_ok sc.cm.e, ob_s]
    · rw [if_neg y, if_neg y]
  have fin : ∀ cs' rs1 z, c_X0_findInNames F cs k (nI x) nm = some cs' → m_find F rs (nI x) = some (rs1, z) → FND t c x cs rs cs' rs1 z → ∃ cs' rs1 z, c_X0_findInNames F cs k (nI x) nm = some cs' ∧ m_find F rs (nI x) = some (rs1, z) ∧ JF t c cs rs cs' (setI rs1 31 x z) ∧ (JS t c cap s k lo (x + 1) V D Sc cs' (setI rs1 31 x z) ∨ JB t c cap s k cs' (setI rs1 31 x z)) := fun cs' rs1 z a1 a2 a3 => ⟨cs', rs1, z, a1, a2, a3.fin hS h⟩
  rcases w6 with ⟨z1, z2, z3⟩ | ⟨z1, z2, z3⟩
  · rw [z3] at w4
    rw [if_pos z2] at mf
    rw [if_pos z1] at cf
    obtain ⟨rs1, c1, z, q1, q2, q3, q4, q5, q6, q7⟩ := fn_L (F := F) (t := t) (c := c) (x := x) (v := vn V x) hF (by omega) w1 m 0 F 0 1 rs sc w4 gg (by omega) (by omega) (by omega) (Nat.le_refl _)
    have g1' : rs1.1 21 = 1 := by rw [q5]; exact h.g1
    have pl1 : kA cs 66 c x = rs1.2.2.1 15 tkn := by rw [q2.tkf.2.2.2.2.1]; exact pl
    rcases find_L (F := F) (v := vn V x) sc.cm m 0 F (by omega) (by omega) (by omega) with ⟨y0, -, a2, a3, a4, a5⟩ | ⟨a1, a2⟩
    · -- the first of them is y0
      obtain ⟨cs2, e2⟩ : ∃ cs2, cs2 = sA (sA cs 72 c x (nI y0)) 73 c x (kA cs 100 nm y0) := ⟨_, rfl⟩
      have j2 : JF t c cs rs cs2 rs := by rw [e2]; exact (JF.cA (Or.inr ⟨rfl, e65.trans hk⟩)).trans (JF.cA (Or.inl rfl))
      have a72 : kA cs2 72 c = upd (kA cs 72 c) x (nI y0) := by rw [e2]; exact ((AT.sA (by omega)).a).trans kA_s
      have a73 : kA cs2 73 c = upd (kA cs 73 c) x (kA cs 100 nm y0) := by rw [e2]; exact kA_s.trans (by rw [(AT.sA (cs := cs) (by omega)).a])
      have ck2 := ck.jf j2
      have sc2 := sc.jf j2
      have b98 : kB cs2 98 nm = kB cs 98 nm := (j2.a0 98 nm (by omega) (by omega)).b
      have e69' : kB cs2 69 c x = vn V x := by rw [(j2.a0 69 c (by omega) (by omega)).b]; exact e69
      have f02 : kI cs2 320 t = 0 := by rw [e2]; exact h.f0
      have pl2 : kA cs2 66 c x = rs1.2.2.1 15 tkn := by rw [(j2.a0 66 c (by omega) (by omega)).a]; exact pl1
      have cf1 : c_X0_findInNames F cs k (nI x) nm = c_X0_findInNames_b34 F cs k (nI x) nm (nI y0) := by rw [cf, find_0, a5, ob_s]
      have o2 : ∀ y, y ≠ x → kA cs2 72 c y = kA cs 72 c y ∧ kA cs2 73 c y = kA cs 73 c y ∧ rs1.2.2.1 33 y = rs.2.2.1 33 y := fun y hy => ⟨by rw [a72, pk_un hy], by rw [a73, pk_un hy], q3 y hy⟩
      have jj : JF t c cs rs cs2 rs1 := q2.trans ⟨j2.c1, j2.a0, j2.pl, FR.refl rs1, j2.s72⟩
      have fd := find_L (F := F) (v := vn V x) sc2.cm m (y0 + 1) F (by omega) (by omega) (by omega)
      rcases q7 with ⟨b1, b2, b3, b4⟩ | ⟨y1, b1, b2, b3, b4, b5, b6, b7⟩ | ⟨y1, y2, b1, b2, b3, b4, b5, b6⟩
      · exact absurd a3 (b4 y0 (by omega) a2)
      · have ey : y0 = y1 := by
          by_cases w : y0 = y1
          · exact w
          · exact absurd a3 (b5 y0 (by omega) a2 w)
        rw [← ey] at b6 b7
        have no : c_X2_find F cs2 nm (kB cs2 69 c x) (nI (y0 + 1)) = some (-1) := by
          rw [e69', find_p (by omega)]
          rcases fd with ⟨y3, d1, d2, d3, -, -⟩ | ⟨-, d2⟩
          · rw [b98] at d3
            exact absurd d3 (b5 y3 (by omega) d2 (by omega))
          · exact d2
        obtain ⟨cs', rs2, t1, t2, t3⟩ := fnd_end (F := F) (tkn := tkn) (c0 := 1) (u5 := z) ck2 f02 g1' hx (by omega) (by omega) pl2 (Or.inr ⟨by rw [a72, pk_us, b6], by rw [a73, pk_us]; exact b7⟩)
        refine fin cs' rs2 z ?_ ?_ (t3.tr jj o2 q4)
        · rw [cf1, fn_some ck sc.cm hx a2 e2 no, if_pos rfl]
          exact t1
        · rw [mf, q1, b1]
          exact t2
      · have two : ∃ r, c_X2_find F cs2 nm (kB cs2 69 c x) (nI (y0 + 1)) = some r ∧ r ≠ -1 := by
          rw [e69', find_p (by omega)]
          rcases fd with ⟨y3, d1, d2, d3, -, d5⟩ | ⟨d1, -⟩
          · exact ⟨_, d5, nI_nm1 (by omega)⟩
          · have ny : y0 < y2 := by
              by_cases w : y0 < y2
              · exact w
              · exact absurd b5 (a4 y1 (by omega) (by omega))
            rw [b98] at d1
            exact absurd b6 (d1 y2 (by omega) b4)
        obtain ⟨r', r1, r2⟩ := two
        obtain ⟨cs', rs2, t1, t2, t3⟩ := fnd_end (F := F) (tkn := tkn) (c0 := 2) (u5 := z) ck2 f02 g1' hx (by omega) (by omega) pl2 (Or.inl (by decide))
        refine fin cs' rs2 z ?_ ?_ (t3.tr jj o2 q4)
        · rw [cf1, fn_some ck sc.cm hx a2 e2 r1, if_neg r2]
          exact t1
        · rw [mf, q1, b316_2 (by omega) (by omega)]
          exact t2
    · rcases q7 with ⟨b1, b2, b3, b4⟩ | ⟨y1, b1, b2, b3, b4, -⟩ | ⟨y1, y2, b1, b2, b3, b4, b5, -⟩
      · obtain ⟨cs', rs2, t1, t2, t3⟩ := fnd_end (F := F) (tkn := tkn) (c0 := 0) (u5 := z) ck h.f0 g1' hx (by omega) (by omega) pl1 (Or.inl (by decide))
        refine fin cs' rs2 z ?_ ?_ (t3.tr q2 (fun y hy => ⟨rfl, rfl, q3 y hy⟩) q4)
        · rw [cf, find_0, a2, ob_s, fn_none ck sc.cm.e]
          exact t1
        · rw [mf, q1, b1]
          exact t2
      · exact absurd b4 (a1 y1 (by omega) b3)
      · exact absurd b5 (a1 y1 (by omega) (by omega))
  · have z2' : ¬ rh V x = -1 := by rw [z2]; exact nI_nm1 (by omega)
    obtain ⟨cs', rs2, t1, t2, t3⟩ := fnd_end (F := F) (tkn := tkn) (c0 := 0) (u5 := 1) ck h.f0 h.g1 hx (by omega) (by omega) pl (Or.inl (by decide))
    refine fin cs' rs2 1 ?_ ?_ t3
    · rw [cf, if_neg z1, fn_none ck sc.cm.e]
      exact t1
    · rw [mf, if_neg z2']
      exact t2

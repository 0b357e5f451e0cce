/-! a name looked for in the SOURCES, both -/
theorem NM9.nm {n k : Nat} {f : Nat → Int32} {v : Int64} {cs : CS} {rs : RS} (h : NM9 n f k v cs rs) : NM n f k v cs rs := by
  obtain ⟨p, tk, e⟩ := h
  exact ⟨p, 39, tk, Or.inl ⟨rfl, e⟩⟩
theorem JF.tkf {t c : Nat} {cs cs' : CS} {rs rs' : RS} (j : JF t c cs rs cs' rs') : TKF cs rs cs' rs' := ⟨(j.a0 352 9 (by omega) (by omega)).a, (j.a0 353 9 (by omega) (by omega)).a, (j.a0 354 9 (by omega) (by omega)).b, j.fr.a (by unfold jR; omega), j.fr.a (by unfold jR; omega), j.fr.a (by unfold jR; omega), j.fr.l (by unfold jR; omega), j.fr.a (by unfold jR; omega)⟩
theorem SCC.jf {n : Nat} {f : Nat → Int32} {M t c oo cl m j9 : Nat} {cs cs' : CS} {rs rs' : RS} (h : SCC n f M oo cl m j9 cs rs) (j : JF t c cs rs cs' rs') : SCC n f M oo cl m j9 cs' rs' := by
  have em : EM cs cs' := EM.of (congrArg (fun z => z.2.2) j.c1)
  have a : ∀ x o, x / 32 = 3 ∨ x / 32 = 7 → AT cs cs' x o := fun x o hx => j.a0 x o (by omega) (by omega)
  have r : ∀ q, ¬ jR q → rs'.2.2.1 q = rs.2.2.1 q := fun q hq => j.fr.a hq
  refine ⟨em _ h.e7, by rw [(a 235 oo (by omega)).r]; exact h.r235, h.cm.keep em (fun x x1 x2 => a x cl (by omega)), ?_, ?_, ?_, ?_⟩
  · obtain ⟨k', k1, k2, k3⟩ := h.nm
    exact ⟨k', k1, by rw [r 55 (by unfold jR; omega)]; exact k2, by rw [(a 228 oo (by omega)).j]; exact k3.f j.tkf⟩
  · obtain ⟨b, b1, b2, b3⟩ := h.st
    exact ⟨b, b1, by rw [(a 234 oo (by omega)).i]; exact b2, by rw [r 79 (by unfold jR; omega)]; exact b3⟩
  · rw [r 49 (by unfold jR; omega), r 5 (by unfold jR; omega), r 53 (by unfold jR; omega), r 61 (by unfold jR; omega), r 36 (by unfold jR; omega), r 45 (by unfold jR; omega), r 46 (by unfold jR; omega), (a 98 cl (by omega)).b, (a 100 cl (by omega)).a]
    rcases h.kd with y | ⟨qi, ei, y1, y2, y3, y4, y5, y6, y7, y8⟩
    · exact Or.inl y
    · refine Or.inr ⟨qi, ei, y1, y2, y3, y4, y5, y6, fun z hz => ?_, y8⟩
      obtain ⟨k', k1, k2, k3⟩ := y7 z hz
      exact ⟨k', k1, k2, k3.f j.tkf⟩
  · rw [(a 98 cl (by omega)).b]
    exact h.ap
/-- the SOURCES that are seen, and the names that are looked for -/
def SCS (n : Nat) (f : Nat → Int32) (M lo hi k so e ns : Nat) (V : VT) (cs : CS) (rs : RS) : Prop := (TX n f M cs rs) ∧ (kR cs 35 k = some so) ∧ (kI cs 36 k = nI ns) ∧ ((6, so) ∈ kE cs) ∧ ((227, so) ∈ kE cs) ∧ (∃ j, kP cs 195 so = some j) ∧ (kL cs 195 so = 3) ∧ (ns ≤ 3) ∧ (e < 60) ∧ (rs.1 77 = nI e) ∧ (rs.1 78 = nI ns) ∧ (∀ i, i < ns → ∃ oo cl m, kQ cs 195 so i = some oo ∧ SCC n f M oo cl m (3 * e + i) cs rs) ∧ (∀ x, lo ≤ x → x < hi → vk V x = 39 → COL n f M V x cs rs)
theorem SCS.x {n : Nat} {f : Nat → Int32} {M lo hi k so e ns : Nat} {V : VT} {cs : CS} {rs : RS} (h : SCS n f M lo hi k so e ns V cs rs) : TX n f M cs rs := h.1
theorem SCS.r35 {n : Nat} {f : Nat → Int32} {M lo hi k so e ns : Nat} {V : VT} {cs : CS} {rs : RS} (h : SCS n f M lo hi k so e ns V cs rs) : kR cs 35 k = some so := h.2.1
theorem SCS.i36 {n : Nat} {f : Nat → Int32} {M lo hi k so e ns : Nat} {V : VT} {cs : CS} {rs : RS} (h : SCS n f M lo hi k so e ns V cs rs) : kI cs 36 k = nI ns := h.2.2.1
theorem SCS.e6 {n : Nat} {f : Nat → Int32} {M lo hi k so e ns : Nat} {V : VT} {cs : CS} {rs : RS} (h : SCS n f M lo hi k so e ns V cs rs) : (6, so) ∈ kE cs := h.2.2.2.1
theorem SCS.e195 {n : Nat} {f : Nat → Int32} {M lo hi k so e ns : Nat} {V : VT} {cs : CS} {rs : RS} (h : SCS n f M lo hi k so e ns V cs rs) : (227, so) ∈ kE cs := h.2.2.2.2.1
theorem SCS.p195 {n : Nat} {f : Nat → Int32} {M lo hi k so e ns : Nat} {V : VT} {cs : CS} {rs : RS} (h : SCS n f M lo hi k so e ns V cs rs) : ∃ j, kP cs 195 so = some j := h.2.2.2.2.2.1
theorem SCS.l195 {n : Nat} {f : Nat → Int32} {M lo hi k so e ns : Nat} {V : VT} {cs : CS} {rs : RS} (h : SCS n f M lo hi k so e ns V cs rs) : kL cs 195 so = 3 := h.2.2.2.2.2.2.1
theorem SCS.n3 {n : Nat} {f : Nat → Int32} {M lo hi k so e ns : Nat} {V : VT} {cs : CS} {rs : RS} (h : SCS n f M lo hi k so e ns V cs rs) : ns ≤ 3 := h.2.2.2.2.2.2.2.1
theorem SCS.e60 {n : Nat} {f : Nat → Int32} {M lo hi k so e ns : Nat} {V : VT} {cs : CS} {rs : RS} (h : SCS n f M lo hi k so e ns V cs rs) : e < 60 := h.2.2.2.2.2.2.2.2.1
theorem SCS.f77 {n : Nat} {f : Nat → Int32} {M lo hi k so e ns : Nat} {V : VT} {cs : CS} {rs : RS} (h : SCS n f M lo hi k so e ns V cs rs) : rs.1 77 = nI e := h.2.2.2.2.2.2.2.2.2.1
theorem SCS.f78 {n : Nat} {f : Nat → Int32} {M lo hi k so e ns : Nat} {V : VT} {cs : CS} {rs : RS} (h : SCS n f M lo hi k so e ns V cs rs) : rs.1 78 = nI ns := h.2.2.2.2.2.2.2.2.2.2.1
theorem SCS.ss {n : Nat} {f : Nat → Int32} {M lo hi k so e ns : Nat} {V : VT} {cs : CS} {rs : RS} (h : SCS n f M lo hi k so e ns V cs rs) : ∀ i, i < ns → ∃ oo cl m, kQ cs 195 so i = some oo ∧ SCC n f M oo cl m (3 * e + i) cs rs := h.2.2.2.2.2.2.2.2.2.2.2.1
theorem SCS.co {n : Nat} {f : Nat → Int32} {M lo hi k so e ns : Nat} {V : VT} {cs : CS} {rs : RS} (h : SCS n f M lo hi k so e ns V cs rs) : ∀ x, lo ≤ x → x < hi → vk V x = 39 → COL n f M V x cs rs := h.2.2.2.2.2.2.2.2.2.2.2.2
theorem SCS.jf {t c : Nat} {n : Nat} {f : Nat → Int32} {M k lo hi so e ns : Nat} {V : VT} {cs cs' : CS} {rs rs' : RS} (h : SCS n f M lo hi k so e ns V cs rs) (j : JF t c cs rs cs' rs') : SCS n f M lo hi k so e ns V cs' rs' := by
  have em : EM cs cs' := EM.of (congrArg (fun z => z.2.2) j.c1)
  have a : ∀ x o, x / 32 = 1 ∨ x / 32 = 6 → AT cs cs' x o := fun x o hx => j.a0 x o (by omega) (by omega)
  refine ⟨h.x.f' j.tkf, by rw [(a 35 k (by omega)).r]; exact h.r35, by rw [(a 36 k (by omega)).i]; exact h.i36, em _ h.e6, em _ h.e195, by rw [(a 195 so (by omega)).p]; exact h.p195, by rw [(a 195 so (by omega)).l]; exact h.l195, h.n3, h.e60, by rw [j.fr.f (by unfold jR; omega)]; exact h.f77, by rw [j.fr.f (by unfold jR; omega)]; exact h.f78, fun i hi' => ?_, fun y y1 y2 y3 => (h.co y y1 y2 y3).f rfl j.tkf⟩
  obtain ⟨oo, cl, m, o1, o2⟩ := h.ss i hi'
  exact ⟨oo, cl, m, by rw [(a 195 so (by omega)).q]; exact o1, o2.jf j⟩
theorem SCS.scf {t c : Nat} {n : Nat} {f : Nat → Int32} {M k lo hi so e ns : Nat} {V : VT} : SCF t c (SCS n f M lo hi k so e ns V) := by
  exact fun cs rs cs' rs' h j => h.jf j
theorem SCS.z76 {n : Nat} {f : Nat → Int32} {M k lo hi so e ns : Nat} {V : VT} {v : Int32} {cs : CS} {rs : RS} (h : SCS n f M lo hi k so e ns V cs rs) : SCS n f M lo hi k so e ns V cs (setF rs 76 v) := by
  refine ⟨h.x.f' TKF.refl, h.r35, h.i36, h.e6, h.e195, h.p195, h.l195, h.n3, h.e60, h.f77, h.f78, fun i hi' => ?_, fun y y1 y2 y3 => (h.co y y1 y2 y3).f rfl TKF.refl⟩
  obtain ⟨oo, cl, m, o1, o2⟩ := h.ss i hi'
  exact ⟨oo, cl, m, o1, ⟨o2.e7, o2.r235, o2.cm, o2.nm, o2.st, o2.kd, o2.ap⟩⟩
theorem SCS.sca {n : Nat} {f : Nat → Int32} {M k lo hi so e ns : Nat} {V : VT} {root : Nat} : SCA lo root V (SCS n f M lo hi k so e ns V) := fun x cs rs v _ _ _ h _ => h.z76
/-- what a search has come to: x is the node, z the type, one found or a fault -/
def FND (t c x : Nat) (cs : CS) (rs : RS) (cs' : CS) (rs1 : RS) (z : Int32) : Prop := JF t c cs rs cs' rs1 ∧ (∀ y, y ≠ x → kA cs' 72 c y = kA cs 72 c y ∧ kA cs' 73 c y = kA cs 73 c y ∧ rs1.2.2.1 33 y = rs.2.2.1 33 y) ∧ rs1.2.2.1 31 = rs.2.2.1 31 ∧ ((kI cs' 320 t = 0 ∧ rs1.1 21 = 1 ∧ kA cs' 72 c x = rs1.2.2.1 33 x ∧ TYR (kA cs' 73 c x) z) ∨ (kI cs' 320 t ≠ 0 ∧ rs1.1 21 = 0 ∧ rs1.1 19 = kI cs' 320 t ∧ rs1.1 20 = kI cs' 321 t))
/-- the count at the end: none, one, more -/
theorem fnd_end {F t c cap s k x c0 tkn : Nat} {u5 : Int32} {cs : CS} {rs : RS} (ck : CK t c cap s k cs) (f0 : kI cs 320 t = 0) (g1 : rs.1 21 = 1) (hx : x < s) (ht : tkn < 2001) (hc : c0 ≤ 100) (pl : kA cs 66 c x = rs.2.2.1 15 tkn) (ih : c0 ≠ 1 ∨ (kA cs 72 c x = rs.2.2.1 33 x ∧ TYR (kA cs 73 c x) u5)) : ∃ cs' rs1, (Option.bind (ckE cs 1 k) fun _ => Option.bind (c_X0_refuseUnlessOne F cs k (nI c0) (nI x)) fun cs_1 => some cs_1) = some cs' ∧ m_find_b316 F rs (nI tkn) (nI c0) u5 = some (rs1, u5) ∧ FND t c x cs rs cs' rs1 u5 := by
  have bad : ∀ a : Int32, a ≠ 0 → FND t c x cs rs (sI (sI cs 320 t a) 321 t (kA cs 66 c x)) (setF (setF (setF rs 21 0) 19 a) 20 (rs.2.2.1 15 tkn)) u5 := fun a ha => by
    rw [← pl]
    refine ⟨JF.bad, fun y _ => ⟨rfl, rfl, rfl⟩, rfl, Or.inr ⟨?_, rfl, ?_, ?_⟩⟩
    · rw [kI_n (by omega), kI_s]
      exact ha
    · show a = kI (sI (sI cs 320 t a) 321 t (kA cs 66 c x)) 320 t
      rw [kI_n (by omega), kI_s]
    · show kA cs 66 c x = kI (sI (sI cs 320 t a) 321 t (kA cs 66 c x)) 321 t
      rw [kI_s]
  unfold c_X0_refuseUnlessOne c_X0_refuseUnlessOne_b18 c_X0_refuseUnlessOne_b30 m_find_b316 m_find_b352
  rw [ckE_ok ck.o, ob_s]
  by_cases y1 : c0 = 1
  · refine ⟨cs, rs, ?_, ?_, JF.refl, fun y _ => ⟨rfl, rfl, rfl⟩, rfl, Or.inl ⟨f0, g1, ?_⟩⟩
    · rw [y1, if_pos (show nI 1 = 1 by decide), ob_s]
    · rw [y1, if_neg (show ¬ nI 1 = 0 by decide), if_pos (show nI 1 ≤ 1 by decide)]
    · rcases ih with w | w
      · exact absurd y1 w
      · exact w
  · have n1 : ¬ nI c0 = 1 := fun w => y1 ((nI_eq (b := 1) (by omega) (by decide)).mp w)
    rw [if_neg n1, gR_ok ck.o, ob_s]
    by_cases y0 : c0 = 0
    · refine ⟨_, _, ?_, ?_, bad 2 (by decide)⟩
      · rw [y0, if_pos (show nI 0 = 0 by decide), ck_c ck, ck_66 ck hx, ck.r32, ob_s, ckE_ok ck.ot, ob_s, ref_ck ck f0, ob_s, ob_s]
      · rw [y0, if_pos (show nI 0 = 0 by decide), rdI_n ht (by decide), ob_s, tel_ok g1, ob_s]
    · have n0 : ¬ nI c0 = 0 := fun w => y0 ((nI_eq (b := 0) (by omega) (by decide)).mp w)
      refine ⟨_, _, ?_, ?_, bad 3 (by decide)⟩
      · rw [if_neg n0, ck_c ck, ck_66 ck hx, ck.r32, ob_s, ckE_ok ck.ot, ob_s, ref_ck ck f0, ob_s, ob_s]
      · rw [if_neg n0, if_neg (show ¬ nI c0 ≤ 1 from nI_ge (a := 1) (b := c0) (by omega) (by omega)), rdI_n ht (by decide), ob_s, tel_ok g1, ob_s]

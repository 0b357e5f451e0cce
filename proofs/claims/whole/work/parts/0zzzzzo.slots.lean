/-! the slots of a SELECT's aggregates; scopes under other writes -/
/-- the list of aggregates of the SELECT so -/
def AGL (c s so na : Nat) (cs : CS) : Prop := ((6, so) ∈ kE cs) ∧ ((234, so) ∈ kE cs) ∧ (∃ j, kP cs 202 so = some j) ∧ (kL cs 202 so = 12) ∧ (kI cs 203 so = nI na) ∧ (na ≤ 12) ∧ (∀ j, j < na → ∃ x, x < s ∧ kA cs 202 so j = nI x ∧ AGC (kA cs 65 c x))
theorem AGL.e6 {c s so na : Nat} {cs : CS} (h : AGL c s so na cs) : (6, so) ∈ kE cs := h.1
theorem AGL.e {c s so na : Nat} {cs : CS} (h : AGL c s so na cs) : (234, so) ∈ kE cs := h.2.1
theorem AGL.p {c s so na : Nat} {cs : CS} (h : AGL c s so na cs) : ∃ j, kP cs 202 so = some j := h.2.2.1
theorem AGL.l {c s so na : Nat} {cs : CS} (h : AGL c s so na cs) : kL cs 202 so = 12 := h.2.2.2.1
theorem AGL.k {c s so na : Nat} {cs : CS} (h : AGL c s so na cs) : kI cs 203 so = nI na := h.2.2.2.2.1
theorem AGL.n12 {c s so na : Nat} {cs : CS} (h : AGL c s so na cs) : na ≤ 12 := h.2.2.2.2.2.1
theorem AGL.al {c s so na : Nat} {cs : CS} (h : AGL c s so na cs) : ∀ j, j < na → ∃ x, x < s ∧ kA cs 202 so j = nI x ∧ AGC (kA cs 65 c x) := h.2.2.2.2.2.2
theorem AGL.mv {c s so na : Nat} {cs cs' : CS} (h : AGL c s so na cs) (em : EM cs cs') (a2 : AT cs cs' 202 so) (a3 : AT cs cs' 203 so) (a5 : AT cs cs' 65 c) : AGL c s so na cs' := by
  refine ⟨em _ h.e6, em _ h.e, by rw [a2.p]; exact h.p, by rw [a2.l]; exact h.l, by rw [a3.i]; exact h.k, h.n12, fun j hj => ?_⟩
  obtain ⟨x, x1, x2, x3⟩ := h.al j hj
  exact ⟨x, x1, by rw [a2.a]; exact x2, by rw [a5.a]; exact x3⟩
theorem AGL.am {c s so na y : Nat} {cs : CS} (h : AGL c s so na cs) (hy : AM so cs y) : ∃ j, j < na ∧ kA cs 202 so j = nI y := by
  obtain ⟨j, k', m1, m2, m3, m4⟩ := hy
  have n12 := h.n12
  have e1 : k' = na := (nI_eq (by omega) (by omega)).mp (m2.symm.trans h.k)
  exact ⟨j, by omega, m4⟩
theorem slots_L {F t c cap s k so na gr mg : Nat} (hs : s ≤ 120) : ∀ (d i u : Nat) (cs : CS), na - i ≤ d → d < u → i ≤ na → CK t c cap s k cs → AGL c s so na cs → CLM gr mg cs → ∃ cs', c_X0_checkGroups_L152 F u cs k so gr (nI i) = some cs' ∧ cs'.1 = cs.1 ∧ (∀ x j, ¬ (j = c ∧ x = 72) → AT cs cs' x j) ∧ (∀ x j, kP cs' x j = kP cs x j ∧ kL cs' x j = kL cs x j) ∧ (∀ y, (∀ j, i ≤ j → j < na → kA cs 202 so j ≠ nI y) → kA cs' 72 c y = kA cs 72 c y) ∧ (∀ j y, i ≤ j → j < na → y < s → kA cs 202 so j = nI y → ∃ j', i ≤ j' ∧ j' < na ∧ kA cs 202 so j' = nI y ∧ kA cs' 72 c y = nI (mg + j')) := by
  have stop : ∀ i u cs, na ≤ i → i ≤ 12 → AGL c s so na cs → c_X0_checkGroups_L152 F (u + 1) cs k so gr (nI i) = some cs := fun i u cs h1 h2 ag => by
    rw [c_X0_checkGroups_L152, gI_ok ag.e6, ob_s, ag.k, if_pos (nI_le h1 (by omega))]
    rfl
  intro d
  induction d with
  | zero =>
    intro i u cs h1 h2 h3 ck ag cm
    have n12 := ag.n12
    obtain ⟨u, rfl⟩ : ∃ z, u = z + 1 := ⟨u - 1, by omega⟩
    exact ⟨cs, stop i u cs (by omega) (by omega) ag, rfl, fun _ _ _ => AT.refl, fun _ _ => ⟨rfl, rfl⟩, fun _ _ => rfl, fun j y j1 j2 => absurd j2 (by omega)⟩
  | succ d ih =>
    intro i u cs h1 h2 h3 ck ag cm
    have n12 := ag.n12
    have m8 := cm.m8
    have sc := ck.sc
    have cp := ck.cp
    obtain ⟨u, rfl⟩ : ∃ z, u = z + 1 := ⟨u - 1, by omega⟩
    by_cases w : na ≤ i
    · exact ⟨cs, stop i u cs w (by omega) ag, rfl, fun _ _ _ => AT.refl, fun _ _ => ⟨rfl, rfl⟩, fun _ _ => rfl, fun j y j1 j2 => absurd j2 (by omega)⟩
    · obtain ⟨x, x1, x2, x3⟩ := ag.al i (by omega)
      obtain ⟨jj, pj⟩ := ag.p
      obtain ⟨j72, p72⟩ := ck.ca.p72
      obtain ⟨c2, hc2⟩ : ∃ z, z = sA cs 72 c x (nI (mg + i)) := ⟨_, rfl⟩
      have at2 : ∀ x' j', ¬ (j' = c ∧ x' = 72) → AT cs c2 x' j' := fun x' j' h => by
        rw [hc2]
        exact AT.sA (by omega)
      have ck2 : CK t c cap s k c2 := by rw [hc2]; exact ck.sA
      have em : EM cs c2 := by rw [hc2]; exact EM.of rfl
      have ag2 := ag.mv em (at2 202 so (by omega)) (at2 203 so (by omega)) (at2 65 c (by omega))
      have cm2 := cm.keep em (fun x' _ _ => at2 x' gr (by omega))
      have a72 : kA c2 72 c = upd (kA cs 72 c) x (nI (mg + i)) := by rw [hc2]; exact kA_s
      have st : c_X0_checkGroups_L152 F (u + 1) cs k so gr (nI i) = c_X0_checkGroups_L152 F u c2 k so gr (nI (i + 1)) := by
        rw [c_X0_checkGroups_L152, gI_ok ag.e6, ob_s, ag.k, if_neg (nI_ge (by omega) (by omega)), gA_ok ag.e6, pj, ob_s, lnA_n ag.e pj, ob_s, ag.l, if_neg (nI_ge (b := 12) (by omega) (by decide)), gR_ok ck.o, ob_s, ob_s, rA_n ag.e pj (by rw [ag.l]; omega) (by rw [ag.l]; omega), ob_s, x2, ck.r34, ob_s, ckE_ok ck.oc, ob_s, ck_has ck x1, ob_s, if_neg (by decide), ob_s, ob_s, gA_ok ck.oc, p72, ob_s, ob_s, rA_n ag.e pj (by rw [ag.l]; omega) (by rw [ag.l]; omega), ob_s, x2, gI_ok cm.e, ob_s, cm.sz, nI_add, wA_n ck.ca.e72 p72 (by rw [ck.ca.l72]; omega) (by rw [ck.ca.l72]; omega), ob_s, ← hc2]
        unfold c_X0_checkGroups_b205
        rw [nI_1]
      obtain ⟨cs', t1, t2, t3, t4, t5, t6⟩ := ih (i + 1) u c2 (by omega) (by omega) (by omega) ck2 ag2 cm2
      have a202 : kA c2 202 so = kA cs 202 so := (at2 202 so (by omega)).a
      rw [a202] at t5 t6
      refine ⟨cs', st.trans t1, t2.trans (by rw [hc2]; rfl), fun x' j' h => (at2 x' j' h).trans (t3 x' j' h), fun x' j' => ⟨(t4 x' j').1.trans (by rw [hc2]; rfl), (t4 x' j').2.trans (by rw [hc2]; rfl)⟩, fun y hn => ?_, fun j y j1 j2 hy hj => ?_⟩
      · rw [t5 y (fun j j1 j2 => hn j (by omega) j2), a72]
        have ne : y ≠ x := fun e' => hn i (Nat.le_refl _) (by omega) (by rw [e']; exact x2)
        rw [pk_un ne]
      · by_cases later : ∃ j', i + 1 ≤ j' ∧ j' < na ∧ kA cs 202 so j' = nI y
        · obtain ⟨j', q1, q2, q3⟩ := later
          obtain ⟨j2', r1, r2, r3, r4⟩ := t6 j' y q1 q2 hy q3
          exact ⟨j2', by omega, r2, r3, r4⟩
        · have ji : j = i := by
            by_cases e' : j = i
            · exact e'
            · exact absurd ⟨j, by omega, j2, hj⟩ later
          rw [ji] at hj
          have yx : y = x := (nI_eq (by omega) (by omega)).mp (hj.symm.trans x2)
          refine ⟨i, Nat.le_refl _, by omega, hj, ?_⟩
          rw [t5 y (fun j' q1 q2 q3 => later ⟨j', q1, q2, q3⟩), a72, yx, pk_us]
/-- a SOURCE seen, under any write that leaves it alone -/
theorem SCC.mv {n : Nat} {f : Nat → Int32} {M oo cl m j9 : Nat} {cs cs' : CS} {rs rs' : RS} (h : SCC n f M oo cl m j9 cs rs) (em : EM cs cs') (a7 : ∀ x, x = 228 ∨ x = 234 ∨ x = 235 → AT cs cs' x oo) (a3 : ∀ x, 96 ≤ x → x ≤ 100 → AT cs cs' x cl) (tk : TKF cs rs cs' rs') (r : ∀ q, q = 5 ∨ q = 36 ∨ q = 45 ∨ q = 49 ∨ q = 53 ∨ q = 55 ∨ q = 61 → rs'.2.2.1 q = rs.2.2.1 q) (r79 : rs'.2.2.1 79 j9 = rs.2.2.1 79 j9) (r46 : ∀ qi ei, qi < 60 → ei < 60 → rs.2.2.1 49 j9 = -1 → rs.2.2.1 53 j9 = nI qi → rs.2.2.1 61 (5 * qi) = nI ei → ∀ y, y < 8 → rs'.2.2.1 46 (8 * ei + y) = rs.2.2.1 46 (8 * ei + y)) : SCC n f M oo cl m j9 cs' rs' := by
  have m8 := h.cm.m8
  refine ⟨em _ h.e7, by rw [(a7 235 (by omega)).r]; exact h.r235, h.cm.keep em a3, ?_, ?_, ?_, ?_⟩
  · obtain ⟨k', k1, k2, k3⟩ := h.nm
    exact ⟨k', k1, by rw [r 55 (by omega)]; exact k2, by rw [(a7 228 (by omega)).j]; exact k3.f tk⟩
  · obtain ⟨b, b1, b2, b3⟩ := h.st
    exact ⟨b, b1, by rw [(a7 234 (by omega)).i]; exact b2, by rw [r79]; exact b3⟩
  · rw [r 49 (by omega), r 5 (by omega), r 53 (by omega), r 61 (by omega), r 36 (by omega), r 45 (by omega), (a3 98 (by omega) (by omega)).b, (a3 100 (by omega) (by omega)).a]
    rcases h.kd with y | ⟨qi, ei, y1, y2, y3, y4, y5, y6, y7, y8⟩
    · exact Or.inl y
    · refine Or.inr ⟨qi, ei, y1, y2, y3, y4, y5, y6, fun z hz => ?_, fun z hz => by rw [r46 qi ei y1 y2 y3 y4 y5 z (by omega)]; exact y8 z hz⟩
      obtain ⟨k', k1, k2, k3⟩ := y7 z hz
      exact ⟨k', k1, k2, k3.f tk⟩
  · rw [(a3 98 (by omega) (by omega)).b]
    exact h.ap
theorem SCS.mv {n : Nat} {f : Nat → Int32} {M lo hi k so e ns : Nat} {V : VT} {cs cs' : CS} {rs rs' : RS} (h : SCS n f M lo hi k so e ns V cs rs) (em : EM cs cs') (a1 : AT cs cs' 35 k ∧ AT cs cs' 36 k) (a6 : AT cs cs' 195 so) (tk : TKF cs rs cs' rs') (f7 : rs'.1 77 = rs.1 77 ∧ rs'.1 78 = rs.1 78) (hs : ∀ i oo cl m, i < ns → kQ cs 195 so i = some oo → SCC n f M oo cl m (3 * e + i) cs rs → SCC n f M oo cl m (3 * e + i) cs' rs') : SCS n f M lo hi k so e ns V cs' rs' := by
  refine ⟨h.x.f' tk, by rw [a1.1.r]; exact h.r35, by rw [a1.2.i]; exact h.i36, em _ h.e6, em _ h.e195, by rw [a6.p]; exact h.p195, by rw [a6.l]; exact h.l195, h.n3, h.e60, f7.1.trans h.f77, f7.2.trans h.f78, fun i hi' => ?_, fun y y1 y2 y3 => (h.co y y1 y2 y3).f rfl tk⟩
  obtain ⟨oo, cl, m, o1, o2⟩ := h.ss i hi'
  exact ⟨oo, cl, m, by rw [a6.q]; exact o1, hs i oo cl m hi' o1 o2⟩
theorem NMS.mv {n : Nat} {f : Nat → Int32} {M k nm m e g A B C lo hi : Nat} {V : VT} {cs cs' : CS} {rs rs' : RS} (h : NMS n f M k nm m e g A B C lo hi V cs rs) (em : EM cs cs') (a37 : AT cs cs' 37 k) (a3 : ∀ x, 96 ≤ x → x ≤ 100 → AT cs cs' x nm) (tk : TKF cs rs cs' rs') (f7 : rs'.1 77 = rs.1 77) (r : rs'.2.2.1 A = rs.2.2.1 A ∧ rs'.2.2.1 C = rs.2.2.1 C) (rB : ∀ y, y < 8 → rs'.2.2.1 B (8 * e + y) = rs.2.2.1 B (8 * e + y)) : NMS n f M k nm m e g A B C lo hi V cs' rs' := by
  have m8 := h.cm.m8
  refine ⟨h.x.f' tk, by rw [a37.r]; exact h.r37, h.cm.keep em a3, h.e60, f7.trans h.f77, h.gk, by rw [r.2]; exact h.ct, fun y hy => ?_, fun y hy => ?_, fun y y1 y2 y3 => (h.co y y1 y2 y3).f rfl tk⟩
  · rw [r.1, (a3 98 (by omega) (by omega)).b]
    exact (h.nn y hy).f tk
  · rw [rB y (by omega), (a3 100 (by omega) (by omega)).a]
    exact h.ty y hy
/-- the SOURCES lie behind gr, their inner SELECTS have greater numbers -/
def SEP (so e ns gr : Nat) (cs : CS) (rs : RS) : Prop := ∀ i oo, i < ns → kQ cs 195 so i = some oo → (∀ cl, kR cs 235 oo = some cl → gr < cl) ∧ ∀ qi ei, qi < 60 → ei < 60 → rs.2.2.1 49 (3 * e + i) = -1 → rs.2.2.1 53 (3 * e + i) = nI qi → rs.2.2.1 61 (5 * qi) = nI ei → e < ei
theorem SEP.mv {so e ns gr : Nat} {cs cs' : CS} {rs rs' : RS} (h : SEP so e ns gr cs rs) (a6 : AT cs cs' 195 so) (a7 : ∀ oo, AT cs cs' 235 oo) (r : rs'.2.2.1 49 = rs.2.2.1 49 ∧ rs'.2.2.1 53 = rs.2.2.1 53 ∧ rs'.2.2.1 61 = rs.2.2.1 61) : SEP so e ns gr cs' rs' := fun i oo hi' ho => by
  rw [a6.q] at ho
  obtain ⟨p, q⟩ := h i oo hi' ho
  refine ⟨fun cl hc => p cl (by rw [← (a7 oo).r]; exact hc), ?_⟩
  rw [r.1, r.2.1, r.2.2]
  exact q
/-- a type of the SELECT's own columns laid: the SOURCES stay as they are seen -/
theorem SCS.own {n : Nat} {f : Nat → Int32} {M lo hi k so e ns gr col z q : Nat} {v v' : Int32} {V : VT} {cs : CS} {rs : RS} (h : SCS n f M lo hi k so e ns V cs rs) (sp : SEP so e ns gr cs rs) (hc : col ≤ gr) (hz : z < 8) (hq : q = 46 ∨ q = 80) : SCS n f M lo hi k so e ns V (sA cs 100 col z v) (setI rs q (8 * e + z) v') := by
  have ra : ∀ q' j, q' ≠ 46 → q' ≠ 80 → (setI rs q (8 * e + z) v').2.2.1 q' j = rs.2.2.1 q' j := fun q' j h1 h2 => sIa_n (by omega)
  have ra' : ∀ q', q' ≠ 46 → q' ≠ 80 → (setI rs q (8 * e + z) v').2.2.1 q' = rs.2.2.1 q' := fun q' h1 h2 => funext (fun j => ra q' j h1 h2)
  have tk : TKF cs rs (sA cs 100 col z v) (setI rs q (8 * e + z) v') := ⟨(AT.sA (by omega)).a, (AT.sA (by omega)).a, rfl, ra' 14 (by omega) (by omega), ra' 15 (by omega) (by omega), ra' 16 (by omega) (by omega), rfl, ra' 2 (by omega) (by omega)⟩
  refine h.mv (EM.of rfl) ⟨AT.sA (by omega), AT.sA (by omega)⟩ (AT.sA (by omega)) tk ⟨rfl, rfl⟩ (fun i oo cl m hi' ho sc => ?_)
  obtain ⟨p1, p2⟩ := sp i oo hi' ho
  have cg := p1 cl sc.r235
  exact sc.mv (EM.of rfl) (fun x hx => AT.sA (by omega)) (fun x x1 x2 => AT.sA (by omega)) tk (fun q' hq' => ra' q' (by omega) (by omega)) (ra 79 _ (by omega) (by omega)) (fun qi ei w1 w2 w3 w4 w5 y hy => by
    have := p2 qi ei w1 w2 w3 w4 w5
    exact sIa_n (by omega))

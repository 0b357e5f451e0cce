/-! a SOURCE against those before it; its join -/
/-- the names of the first m SOURCES -/
def SNM (n : Nat) (f : Nat → Int32) (M so e m : Nat) (cs : CS) (rs : RS) : Prop := ∀ j, j < m → ∃ oo q, kQ cs 195 so j = some oo ∧ (7, oo) ∈ kE cs ∧ q ≤ M ∧ rs.2.2.1 55 (3 * e + j) = nI q ∧ NM9 n f q (kJ cs 228 oo) cs rs ∧ kI cs 229 oo = kA cs 353 9 q
theorem SNM.jf {n : Nat} {f : Nat → Int32} {M t c so e m : Nat} {cs cs' : CS} {rs rs' : RS} (h : SNM n f M so e m cs rs) (j : JF t c cs rs cs' rs') : SNM n f M so e m cs' rs' := fun i hi => by
  have em : EM cs cs' := EM.of (congrArg (fun z => z.2.2) j.c1)
  obtain ⟨oo, q, q1, q2, q3, q4, q5, q6⟩ := h i hi
  exact ⟨oo, q, by rw [(j.a0 195 so (by omega) (by omega)).q]; exact q1, em _ q2, q3, by rw [j.fr.a (k := 55) (by unfold jR; omega)]; exact q4, by rw [(j.a0 228 oo (by omega) (by omega)).j]; exact q5.f j.tkf, by rw [(j.a0 229 oo (by omega) (by omega)).i, j.tkf.2.1]; exact q6⟩
/-- the array of SOURCES of the class -/
def SAR (so ns : Nat) (cs : CS) : Prop := ((6, so) ∈ kE cs) ∧ ((227, so) ∈ kE cs) ∧ (∃ j, kP cs 195 so = some j) ∧ (kL cs 195 so = 3) ∧ (ns ≤ 3)
theorem SAR.e6 {so ns : Nat} {cs : CS} (h : SAR so ns cs) : (6, so) ∈ kE cs := h.1
theorem SAR.e195 {so ns : Nat} {cs : CS} (h : SAR so ns cs) : (227, so) ∈ kE cs := h.2.1
theorem SAR.p195 {so ns : Nat} {cs : CS} (h : SAR so ns cs) : ∃ j, kP cs 195 so = some j := h.2.2.1
theorem SAR.l195 {so ns : Nat} {cs : CS} (h : SAR so ns cs) : kL cs 195 so = 3 := h.2.2.2.1
theorem SAR.n3 {so ns : Nat} {cs : CS} (h : SAR so ns cs) : ns ≤ 3 := h.2.2.2.2
theorem SAR.mv {so ns : Nat} {cs cs' : CS} (h : SAR so ns cs) (em : EM cs cs') (a : AT cs cs' 195 so) : SAR so ns cs' := ⟨em _ h.e6, em _ h.e195, by rw [a.p]; exact h.p195, by rw [a.l]; exact h.l195, h.n3⟩
theorem SAR.rd {so ns j : Nat} {cs : CS} {α : Type} {G : Option Nat → Option α} (h : SAR so ns cs) (hj : j < ns) : (Option.bind (gA cs 6 195 so) fun v => Option.bind (rQ cs 195 so v (nI j)) fun w => G w) = G (kQ cs 195 so j) := by
  obtain ⟨p, hp⟩ := h.p195
  have n3 := h.n3
  rw [gA_ok h.e6, hp, ob_s, rQ_n h.e195 hp (by rw [h.l195]; omega) (by rw [h.l195]; omega), ob_s]
theorem cmp_L {n : Nat} {f : Nat → Int32} {M t c cap s k : Nat} {V : VT} {D : Nat → Prop} {F so e i ns oo : Nat} {T : TC_X0_checkQuery} {T' : TG_judgeQuery} {u2 : Int32} {rc : RS → Int32 → Int32 → Int32 → Option RS} (hF : 10000 ≤ F) (he : e < 60) (hi : i < ns) : ∀ (w j u u' : Nat) (cs : CS) (rs : RS), i - j ≤ w → w < u → w < u' → j ≤ i → JH n f M t c cap s k V D cs rs → SAR so ns cs → SNM n f M so e ns cs rs → kQ cs 195 so i = some oo → ∃ cs' rs' u1 u1', c_X0_checkSource_L90 F T u cs k so (nI i) oo (nI j) = c_X0_checkSource_L90 F T (u1 + 1) cs' k so (nI i) oo (nI i) ∧ m_judgeSelect_L122 F T' rc u' rs (nI e) u2 (nI i) (nI (3 * e + i)) (nI j) = m_judgeSelect_L122 F T' rc (u1' + 1) rs' (nI e) u2 (nI i) (nI (3 * e + i)) (nI i) ∧ JH n f M t c cap s k V D cs' rs' ∧ JF t c cs rs cs' rs' ∧ (rs.1 21 = 0 → rs' = rs) := by
  intro w
  induction w with
  | zero =>
    intro j u u' cs rs h1 h2 h3 h4 h sa sn ho
    obtain ⟨u, rfl⟩ : ∃ z, u = z + 1 := ⟨u - 1, by omega⟩
    obtain ⟨u', rfl⟩ : ∃ z, u' = z + 1 := ⟨u' - 1, by omega⟩
    have ej : j = i := by omega
    rw [ej]
    exact ⟨cs, rs, u, u', rfl, rfl, h, JF.refl, fun _ => rfl⟩
  | succ w ih =>
    intro j u u' cs rs h1 h2 h3 h4 h sa sn ho
    obtain ⟨u, rfl⟩ : ∃ z, u = z + 1 := ⟨u - 1, by omega⟩
    obtain ⟨u', rfl⟩ : ∃ z, u' = z + 1 := ⟨u' - 1, by omega⟩
    have n3 := sa.n3
    by_cases ej : j = i
    · rw [ej]
      exact ⟨cs, rs, u, u', rfl, rfl, h, JF.refl, fun _ => rfl⟩
    · have n2 := h.x.n2
      have mn := h.x.mn
      obtain ⟨oj, p, p1, p2, p3, p4, p5, p6⟩ := sn j (by omega)
      obtain ⟨oi, q, q1, q2, q3, q4, q5, q6⟩ := sn i hi
      have eo : oi = oo := Option.some.inj (q1.symm.trans ho)
      rw [eo] at q2 q5 q6
      obtain ⟨b, e1, o⟩ := nm_same hF h.x q3 p3 q5.nm p5.nm
      have cls : c_X0_checkSource_L90 F T (u + 1) cs k so (nI i) oo (nI j) = if kJ cs 228 oj = kJ cs 228 oo then Option.bind (c_X9_refuse F cs t 2 (kI cs 229 oo)) fun c2 => c_X0_checkSource_L90 F T u c2 k so (nI i) oo (nI (j + 1)) else c_X0_checkSource_L90 F T u cs k so (nI i) oo (nI (j + 1)) := by
        rw [c_X0_checkSource_L90, if_neg (nI_ge (by omega) (by omega)), sa.rd (show j < ns by omega), p1, oc_s, gJ_ok p2, ob_s, gJ_ok q2, ob_s]
        unfold c_X0_checkSource_b135
        by_cases z : kJ cs 228 oj = kJ cs 228 oo
        · rw [if_pos z, if_pos z, gR_ok h.ck.o, ob_s, gI_ok q2, ob_s, h.ck.r32, ob_s, ckE_ok h.ck.ot, ob_s, nI_1]
        · rw [if_neg z, if_neg z, nI_1]
      have ref : m_judgeSelect_L122 F T' rc (u' + 1) rs (nI e) u2 (nI i) (nI (3 * e + i)) (nI j) = if b = 0 then m_judgeSelect_L122 F T' rc u' rs (nI e) u2 (nI i) (nI (3 * e + i)) (nI (j + 1)) else Option.bind (m_tell F rs 2 (rs.2.2.1 15 q)) fun r2 => m_judgeSelect_L122 F T' rc u' r2 (nI e) u2 (nI i) (nI (3 * e + i)) (nI (j + 1)) := by
        rw [m_judgeSelect_L122, if_neg (nI_ge (by omega) (by omega)), rdI_n (by omega) (by decide), ob_s, nI_3, nI_add, rdI_n (by omega) (by decide), ob_s, q4, p4, e1, ob_s]
        unfold m_judgeSelect_b170
        by_cases z : b = 0
        · rw [if_pos z, if_pos z, nI_1]
        · rw [if_neg z, if_neg z, ob_s, rdI_n (by omega) (by decide), ob_s, nI_1]
      have pl : rs.2.2.1 15 q = kI cs 229 oo := by
        obtain ⟨p', κ, tk, -⟩ := h.x.tk q q3
        rw [q6, tk.pc, tk.pr]
      rcases o with ⟨o1, o2⟩ | ⟨o1, o2⟩
      · obtain ⟨c2, r2, t1, t2, t3, t4, t5, t6, t7, t8⟩ := h.tell (F := F) (a := 2) (b := kI cs 229 oo) (by decide)
        have em : EM cs c2 := EM.of (congrArg (fun z => z.2.2) t3.c1)
        obtain ⟨cs', rs', u1, u1', v1, v2, v3, v4, v5⟩ := ih (j + 1) u u' c2 r2 (by omega) (by omega) (by omega) (by omega) t4 (sa.mv em (t8 195 so (by omega))) (sn.jf t3) (by rw [(t8 195 so (by omega)).q]; exact ho)
        refine ⟨cs', rs', u1, u1', ?_, ?_, v3, t3.trans v4, fun g => ?_⟩
        · rw [cls, if_pos o2.symm, t1, ob_s]
          exact v1
        · rw [ref, o1, if_neg (by decide), pl, t2, ob_s]
          exact v2
        · have q : r2 = rs := Option.some.inj (t2.symm.trans (tell_f g))
          rw [q] at v5
          exact v5 g
      · obtain ⟨cs', rs', u1, u1', v1, v2, v3, v4, v5⟩ := ih (j + 1) u u' cs rs (by omega) (by omega) (by omega) (by omega) h sa sn ho
        refine ⟨cs', rs', u1, u1', ?_, ?_, v3, v4, v5⟩
        · rw [cls, if_neg (fun z => o2 z.symm)]
          exact v1
        · rw [ref, o1, if_pos rfl]
          exact v2

/-! one SOURCE of a SELECT, whole, both -/
theorem RT.exr {n : Nat} {f : Nat → Int32} {M c q s r : Nat} {ma : Bool} {V : VT} {cs : CS} {rs : RS} (h : RT n f M c q ma s r cs rs) (hv : ∀ y, y < s → VW c cs rs y = V y) : ∃ a, EXR n f M s V a r cs rs := by
  obtain ⟨a, a1, a2, a3, a4⟩ := h
  refine ⟨a, a2, TR.fr _ _ _ _ (fun x q1 q2 => (hv x (by omega)).symm) (a3 r), fun y y1 y2 y3 => ?_⟩
  have e := hv y (by omega)
  exact (a4.co y y1 (by omega) (by rw [← y3]; unfold vk; rw [e])).f e.symm TKF.refl
theorem OPT.opx {n : Nat} {f : Nat → Int32} {M c q s : Nat} {ma : Bool} {V : VT} {x y : Int32} {cs : CS} {rs : RS} (h : OPT n f M c q ma s x y cs rs) (hv : ∀ y, y < s → VW c cs rs y = V y) : OPX n f M s V x y cs rs := by
  rcases h with w | ⟨r, r1, r2, r3⟩
  · exact Or.inl w
  · obtain ⟨a, ex⟩ := r3.exr hv
    exact Or.inr ⟨r, a, r1, r2, ex⟩
theorem JU.jf {t c k so e i lo hi Sl Sh : Nat} {cs cs' : CS} {rs rs' : RS} (h : JF t c cs rs cs' rs') : JU t c k so e i lo hi Sl Sh cs rs cs' rs' := JU.jk (JK.jf h)
theorem JU.wide {t c k so e i lo hi Sl Sh lo' hi' Sl' Sh' : Nat} {cs cs' : CS} {rs rs' : RS} (h : JU t c k so e i lo hi Sl Sh cs rs cs' rs') (h1 : lo' ≤ lo) (h2 : hi ≤ hi') (h3 : Sl' ≤ Sl ∧ Sh ≤ Sh' ∨ Sh ≤ Sl) : JU t c k so e i lo' hi' Sl' Sh' cs rs cs' rs' := ⟨h.c1, fun x j hx hy => h.a0 x j (fun w => hx (by unfold kX at w ⊢; omega)) hy, h.pl, h.fr, fun q j a1 a2 => h.r8 q j a1 (by omega), fun j a1 a2 => h.r3 j (by omega) a2, fun y hy hn => h.s72 y hy (fun o o1 o2 => hn o (by omega) (by omega))⟩
/-- what is left of a good SOURCE for later: m columns, from off on -/
def SRD (PQ : Nat → Nat → Prop) (s : Nat) (V : VT) (D : Nat → Prop) (oo e i off m : Nat) (cs : CS) (rs : RS) : Prop := kI cs 96 (oo + 1) = nI m ∧ kI cs 234 oo = nI off ∧ m ≤ 8 ∧ CVR V s (kI cs 233 oo) D ∧ (∀ dd, dd ≤ 9 → rs.2.2.1 49 (3 * e + i) = nI dd → 2 ≤ m ∧ rs.2.2.1 5 dd = nI (m - 1)) ∧ (∀ oi qi, qi < 60 → kR cs 225 oo = some oi → rs.2.2.1 53 (3 * e + i) = nI qi → PQ oi qi ∧ ∃ ei, ei < 60 ∧ rs.2.2.1 61 (5 * qi) = nI ei ∧ rs.2.2.1 36 ei = nI m)
/-- behind the first half: names, join -/
theorem src_B {n : Nat} {f : Nat → Int32} {M t c cap s k : Nat} {V : VT} {so e i d lo hi Sl Sh : Nat} {D : Nat → Prop} {F ns oo off u1 : Nat} {b : Int32} {T : TC_X0_checkQuery} {T' : TG_judgeQuery} {rc : RS → Int32 → Int32 → Int32 → Option RS} {cs : CS} {rs : RS} (hF : 10000 ≤ F) (sk : SKV V s) (hs : s ≤ 120) (hd : d ≤ 90) (he : e < 60) (hin : i < ns) (h : JH n f M t c cap s k V D cs rs) (sa : SAR so ns cs) (sn : SNM n f M so e ns cs rs) (ho : kQ cs 195 so i = some oo) (e7 : (7, oo) ∈ kE cs) (jn : 0 < i → rs.2.2.1 57 (3 * e + i) = kI cs 232 oo) (on : OPX n f M s V (kI cs 233 oo) (rs.2.2.1 58 (3 * e + i)) cs rs) (o1 : (i = 0 → kI cs 233 oo = -1) ∧ (0 < i → kI cs 233 oo ≠ -1)) (i0 : i = 0 → kI cs 234 oo = 0 ∧ off = 0) (last : 0 < i → ∃ ol cl m, kQ cs 195 so (i - 1) = some ol ∧ (7, ol) ∈ kE cs ∧ kR cs 235 ol = some cl ∧ CLM cl m cs ∧ (rs.1 21 = 1 → ∃ a, kI cs 234 ol = nI a ∧ off = a + m)) (md : rs.1 21 = 1 → (∀ j, j < i → ∃ oj cl mm, kQ cs 195 so j = some oj ∧ oj ≠ oo ∧ SCC n f M oj cl mm (3 * e + j) cs rs) ∧ SRA n f M d so e i oo b cs rs ∧ off ≤ 40) : ∃ cs' rs' D' off', c_X0_checkSource_L90 F T F cs k so (nI i) oo (nI 0) = some cs' ∧ m_judgeSelect_L122 F T' rc F rs (nI e) (nI off) (nI i) (nI (3 * e + i)) (nI 0) = rc rs' (nI e) off' (nI (i + 1)) ∧ JH n f M t c cap s k V D' cs' rs' ∧ JU t c k so e i oo (oo + 1) 0 0 cs rs cs' rs' ∧ kI cs' 206 so = kI cs 206 so ∧ (rs'.1 21 = 1 → rs.1 21 = 1 ∧ (∀ z, D z → D' z) ∧ CVR V s (kI cs 233 oo) D' ∧ SRS n f M so e (i + 1) cs' rs' ∧ kI cs' 234 oo = nI off ∧ ∃ m, PSC n f M oo (oo + 1) m (3 * e + i) cs' rs' ∧ off' = nI (off + m)) := by
  have n3 := sa.n3
  obtain ⟨c1, r1, w, w', a1, a2, a3, a4, a5⟩ := cmp_L (F := F) (oo := oo) (T := T) (T' := T') (u2 := nI off) (rc := rc) hF he hin i 0 F F cs rs (by omega) (by omega) (by omega) (by omega) h sa sn ho
  have em : EM cs c1 := EM.of (congrArg (fun z => z.2.2) a4.c1)
  have at1 : ∀ x j, ¬ (j = c ∧ (x = 72 ∨ x = 73)) → ¬ (j = t ∧ (x = 320 ∨ x = 321)) → AT cs c1 x j := a4.a0
  have gr1 : r1.1 21 = 1 → rs.1 21 = 1 := fun g => by
    by_cases z : rs.1 21 = 0
    · rw [a5 z, z] at g
      exact absurd g (by decide)
    · exact h.good z
  have ps1 : rs.1 21 = 1 → ∃ m, PSC n f M oo (oo + 1) m (3 * e + i) c1 r1 := fun g => by
    obtain ⟨-, ⟨⟨m, ps⟩, -⟩, -⟩ := md g
    exact ⟨m, ps.mv em (fun x hx => at1 x oo (by omega) (by omega)) (fun x x1 x2 => at1 x _ (by omega) (by omega)) a4.tkf (fun q hq => a4.fr.a (by unfold jR; omega))⟩
  by_cases hi0 : i = 0
  · rw [hi0] at a1 a2 ps1 ⊢
    rw [hi0] at ho
    obtain ⟨z1, z2⟩ := i0 hi0
    obtain ⟨r2, off', b1, b2, b3, b4, b5⟩ := join_0 (lo := oo) (hi := oo + 1) (Sl := 0) (Sh := 0) (F := F) (ns := ns) (off := off) (u1 := w) (u1' := w') (T := T) (T' := T') (rc := rc) he a3 (by omega) (by rw [(at1 195 so (by omega) (by omega)).q]; exact ho) (fun g => by
      obtain ⟨m, ps⟩ := ps1 (gr1 g)
      exact ⟨⟨oo + 1, m, ps⟩, z2, by rw [(at1 234 oo (by omega) (by omega)).i]; exact z1⟩)
    refine ⟨c1, r2, D, off', a1.trans b1, a2.trans b2, b3, (JU.jf a4).trans b4, (at1 206 so (by omega) (by omega)).i, fun g => ?_⟩
    obtain ⟨q1, q2, cl, m, q3, q4⟩ := b5 g
    have ecl : cl = oo + 1 := by
      obtain ⟨m', ps⟩ := ps1 (gr1 q1)
      exact Option.some.inj (q3.r235.symm.trans ps.r235)
    rw [ecl] at q3
    refine ⟨gr1 q1, fun _ hz => hz, fun r a h1 h2 => ?_, q2, ?_, m, q3, q4⟩
    · rw [o1.1 hi0] at h1
      exact absurd h1.symm (nI_nm1 (by omega))
    · rw [(at1 234 oo (by omega) (by omega)).i, z1, z2]
      decide
  · have hp : 0 < i := by omega
    have exx : ∃ r a, kI c1 233 oo = nI r ∧ r1.2.2.1 58 (3 * e + i) = nI r ∧ EXR n f M s V a r c1 r1 := by
      rcases on with ⟨q1, -⟩ | ⟨r, a, q1, q2, q3⟩
      · exact absurd q1 (o1.2 hp)
      · exact ⟨r, a, by rw [(at1 233 oo (by omega) (by omega)).i]; exact q1, by rw [a4.fr.a (k := 58) (by unfold jR; omega)]; exact q2, q3.f' a4.tkf⟩
    obtain ⟨c2, r2, D2, off', b1, b2, b3, b4, b5, b6⟩ := join_S (d := d) (lo := oo) (hi := oo + 1) (Sl := 0) (Sh := 0) (F := F) (off := off) (u1 := w) (u1' := w') (b := b) (T := T) (T' := T') (rc := rc) hF sk hs hd he hp hin a3 (sa.mv em (at1 195 so (by omega) (by omega))) (by rw [(at1 195 so (by omega) (by omega)).q]; exact ho) (em _ e7) ⟨Nat.le_refl _, by omega⟩ (by rw [a4.fr.a (k := 57) (by unfold jR; omega), (at1 232 oo (by omega) (by omega)).i]; exact jn hp) exx (by
      obtain ⟨ol, cl, m, l1, l2, l3, l4, l5⟩ := last hp
      exact ⟨ol, cl, m, by rw [(at1 195 so (by omega) (by omega)).q]; exact l1, em _ l2, by rw [(at1 235 ol (by omega) (by omega)).r]; exact l3, l4.keep em (fun x x1 x2 => at1 x cl (by omega) (by omega)), fun g => by
        obtain ⟨a, q1, q2⟩ := l5 (gr1 g)
        exact ⟨a, by rw [(at1 234 ol (by omega) (by omega)).i]; exact q1, q2⟩⟩) (fun g => by
      obtain ⟨q1, ⟨-, q2, q3⟩, q4⟩ := md (gr1 g)
      obtain ⟨m, ps⟩ := ps1 (gr1 g)
      refine ⟨fun j hj => ?_, ⟨oo + 1, m, ps⟩, q4, q2.fr (a4.fr.mono (fun q hq => by unfold jR at hq; unfold jK; omega)), by rw [(at1 206 so (by omega) (by omega)).i]; exact q3⟩
      obtain ⟨oj, cl, mm, p1, p2, p3⟩ := q1 j hj
      exact ⟨oj, cl, mm, by rw [(at1 195 so (by omega) (by omega)).q]; exact p1, p2, p3.jf a4⟩)
    refine ⟨c2, r2, D2, off', a1.trans b1, a2.trans b2, b3, (JU.jf a4).trans b4, b5.trans (at1 206 so (by omega) (by omega)).i, fun g => ?_⟩
    obtain ⟨q1, q2, q3, q4, q5, cl, m, q6, q7⟩ := b6 g
    have ecl : cl = oo + 1 := by
      obtain ⟨m', ps⟩ := ps1 (gr1 q1)
      have r2' : kR c2 235 oo = kR c1 235 oo := (b4.a0 235 oo (by unfold kX; omega) (by omega)).r
      exact Option.some.inj ((q6.r235.symm.trans r2').trans ps.r235)
    rw [ecl] at q6
    refine ⟨gr1 q1, q2, ?_, q4, q5, m, q6, q7⟩
    rw [← (at1 233 oo (by omega) (by omega)).i]
    exact q3

/-! a SOURCE's join: what checking it writes, and the last of it -/
/-- what checking the i-th SOURCE of the SELECT so / e writes: its objects lo to hi - 1, inner SELECTS Sl to Sh - 1 -/
def JU (t c k so e i lo hi Sl Sh : Nat) (cs : CS) (rs : RS) (cs' : CS) (rs' : RS) : Prop := (cs'.1 = cs.1) ∧ (∀ x j, ¬ kX t c k lo hi x j → ¬ (j = so ∧ x = 206) → AT cs cs' x j) ∧ (∀ x j, 64 ≤ x → x < 128 → kP cs' x j = kP cs x j ∧ kL cs' x j = kL cs x j) ∧ (FR jK rs rs') ∧ (∀ q j, (q = 46 ∨ q = 80) → ¬ (8 * Sl ≤ j ∧ j < 8 * Sh) → rs'.2.2.1 q j = rs.2.2.1 q j) ∧ (∀ j, ¬ (3 * Sl ≤ j ∧ j < 3 * Sh) → j ≠ 3 * e + i → rs'.2.2.1 79 j = rs.2.2.1 79 j) ∧ (∀ y, kA cs 65 c y ≠ 39 → (∀ o, lo ≤ o → o < hi → ¬ AM o cs y) → kA cs' 72 c y = kA cs 72 c y)
theorem JU.c1 {t c k so e i lo hi Sl Sh : Nat} {cs : CS} {rs : RS} {cs' : CS} {rs' : RS} (h : JU t c k so e i lo hi Sl Sh cs rs cs' rs') : cs'.1 = cs.1 := h.1
theorem JU.a0 {t c k so e i lo hi Sl Sh : Nat} {cs : CS} {rs : RS} {cs' : CS} {rs' : RS} (h : JU t c k so e i lo hi Sl Sh cs rs cs' rs') : ∀ x j, ¬ kX t c k lo hi x j → ¬ (j = so ∧ x = 206) → AT cs cs' x j := h.2.1
theorem JU.pl {t c k so e i lo hi Sl Sh : Nat} {cs : CS} {rs : RS} {cs' : CS} {rs' : RS} (h : JU t c k so e i lo hi Sl Sh cs rs cs' rs') : ∀ x j, 64 ≤ x → x < 128 → kP cs' x j = kP cs x j ∧ kL cs' x j = kL cs x j := h.2.2.1
theorem JU.fr {t c k so e i lo hi Sl Sh : Nat} {cs : CS} {rs : RS} {cs' : CS} {rs' : RS} (h : JU t c k so e i lo hi Sl Sh cs rs cs' rs') : FR jK rs rs' := h.2.2.2.1
theorem JU.r8 {t c k so e i lo hi Sl Sh : Nat} {cs : CS} {rs : RS} {cs' : CS} {rs' : RS} (h : JU t c k so e i lo hi Sl Sh cs rs cs' rs') : ∀ q j, (q = 46 ∨ q = 80) → ¬ (8 * Sl ≤ j ∧ j < 8 * Sh) → rs'.2.2.1 q j = rs.2.2.1 q j := h.2.2.2.2.1
theorem JU.r3 {t c k so e i lo hi Sl Sh : Nat} {cs : CS} {rs : RS} {cs' : CS} {rs' : RS} (h : JU t c k so e i lo hi Sl Sh cs rs cs' rs') : ∀ j, ¬ (3 * Sl ≤ j ∧ j < 3 * Sh) → j ≠ 3 * e + i → rs'.2.2.1 79 j = rs.2.2.1 79 j := h.2.2.2.2.2.1
theorem JU.s72 {t c k so e i lo hi Sl Sh : Nat} {cs : CS} {rs : RS} {cs' : CS} {rs' : RS} (h : JU t c k so e i lo hi Sl Sh cs rs cs' rs') : ∀ y, kA cs 65 c y ≠ 39 → (∀ o, lo ≤ o → o < hi → ¬ AM o cs y) → kA cs' 72 c y = kA cs 72 c y := h.2.2.2.2.2.2
theorem JU.jk {t c k so e i lo hi Sl Sh : Nat} {cs cs' : CS} {rs rs' : RS} (h : JK t c k lo hi Sl Sh cs rs cs' rs') : JU t c k so e i lo hi Sl Sh cs rs cs' rs' := ⟨h.c1, fun x j h1 _ => h.a0 x j h1, h.pl, h.fr, h.r8, fun j h1 _ => h.r3 j h1, h.s72⟩
theorem JU.refl {t c k so e i lo hi Sl Sh : Nat} {cs : CS} {rs : RS} : JU t c k so e i lo hi Sl Sh cs rs cs rs := JU.jk JK.refl
theorem JU.trans {t c k so e i lo hi Sl Sh : Nat} {a b d : CS} {x y w : RS} (h : JU t c k so e i lo hi Sl Sh a x b y) (g : JU t c k so e i lo hi Sl Sh b y d w) : JU t c k so e i lo hi Sl Sh a x d w := ⟨g.c1.trans h.c1, fun x j hx hy => (h.a0 x j hx hy).trans (g.a0 x j hx hy), fun x j h1 h2 => ⟨(g.pl x j h1 h2).1.trans (h.pl x j h1 h2).1, (g.pl x j h1 h2).2.trans (h.pl x j h1 h2).2⟩, h.fr.trans g.fr, fun q j h1 h2 => (g.r8 q j h1 h2).trans (h.r8 q j h1 h2), fun j h1 h2 => (g.r3 j h1 h2).trans (h.r3 j h1 h2), fun v hv hn => (g.s72 v (by rw [(h.a0 65 c (by unfold kX; omega) (by omega)).a]; exact hv) (fun o o1 o2 w => hn o o1 o2 (w.at' (h.a0 202 o (by unfold kX; omega) (by omega)) (h.a0 203 o (by unfold kX; omega) (by omega))))).trans (h.s72 v hv hn)⟩
theorem JU.up {t c k so e i lo hi Sl Sh : Nat} {lo' hi' Sl' Sh' : Nat} {cs cs' : CS} {rs rs' : RS} (h : JU t c k so e i lo hi Sl Sh cs rs cs' rs') (h1 : lo' ≤ lo ∧ lo' ≤ so) (h2 : hi ≤ hi' ∧ so < hi') (h3 : Sl' ≤ Sl ∧ Sl' ≤ e) (h4 : Sh ≤ Sh' ∧ e < Sh') (hi3 : i < 3) : JK t c k lo' hi' Sl' Sh' cs rs cs' rs' := ⟨h.c1, fun x j hx => h.a0 x j (fun w => hx (by unfold kX at w ⊢; omega)) (fun w => hx (by unfold kX; omega)), h.pl, h.fr, fun q j a1 a2 => h.r8 q j a1 (by omega), fun j a1 => h.r3 j (by omega) (by omega), fun y hy hn => h.s72 y hy (fun o o1 o2 => hn o (by omega) (by omega))⟩
theorem JU.cls {t c k so e i lo hi Sl Sh : Nat} {cs cs' : CS} {rs : RS} (c1 : cs'.1 = cs.1) (a0 : ∀ x j, ¬ ((j = so ∧ x = 206) ∨ (j = k ∧ 35 ≤ x ∧ x ≤ 37) ∨ (lo ≤ j ∧ j < hi ∧ (x = 234 ∨ (96 ≤ x ∧ x ≤ 100)))) → AT cs cs' x j) (pl : ∀ x j, kP cs' x j = kP cs x j ∧ kL cs' x j = kL cs x j) : JU t c k so e i lo hi Sl Sh cs rs cs' rs := ⟨c1, fun x j h1 h2 => a0 x j (fun w => by unfold kX at h1; omega), fun x j _ _ => pl x j, FR.refl rs, fun _ _ _ _ => rfl, fun _ _ _ => rfl, fun y _ _ => by rw [(a0 72 c (by omega)).a]⟩
theorem JU.ref {t c k so e i lo hi Sl Sh : Nat} {cs : CS} {rs rs' : RS} (fr : FR jK rs rs') (r8 : ∀ q, q = 46 ∨ q = 80 → rs'.2.2.1 q = rs.2.2.1 q) (r3 : ∀ j, j ≠ 3 * e + i → rs'.2.2.1 79 j = rs.2.2.1 79 j) : JU t c k so e i lo hi Sl Sh cs rs cs rs' := ⟨rfl, fun _ _ _ _ => AT.refl, fun _ _ _ _ => ⟨rfl, rfl⟩, fr, fun q j h1 _ => by rw [r8 q h1], fun j _ h2 => r3 j h2, fun _ _ _ => rfl⟩
theorem JU.tkf {t c k so e i lo hi Sl Sh : Nat} {cs cs' : CS} {rs rs' : RS} (h : JU t c k so e i lo hi Sl Sh cs rs cs' rs') : TKF cs rs cs' rs' := ⟨(h.a0 352 9 (by unfold kX; omega) (by omega)).a, (h.a0 353 9 (by unfold kX; omega) (by omega)).a, (h.a0 354 9 (by unfold kX; omega) (by omega)).b, h.fr.a (by unfold jK; omega), h.fr.a (by unfold jK; omega), h.fr.a (by unfold jK; omega), h.fr.l (by unfold jK; omega), h.fr.a (by unfold jK; omega)⟩
/-- a step that leaves faults and columns of names alone -/
theorem JH.ju {n : Nat} {f : Nat → Int32} {M t c cap s k : Nat} {V : VT} {so e i lo hi Sl Sh : Nat} {D : Nat → Prop} {cs cs' : CS} {rs rs' : RS} (h : JH n f M t c cap s k V D cs rs) (j : JU t c k so e i lo hi Sl Sh cs rs cs' rs') (f1 : kI cs' 320 t = kI cs 320 t) (f2 : kI cs' 321 t = kI cs 321 t) (g : ∀ q, q = 19 ∨ q = 20 ∨ q = 21 → rs'.1 q = rs.1 q) (c72 : kA cs' 72 c = kA cs 72 c) (r33 : rs'.2.2.1 33 = rs.2.2.1 33) (hi3 : i < 3) : JH n f M t c cap s k V D cs' rs' := h.mv0 (j.up (lo' := 0) (hi' := hi + so + 1) (Sl' := 0) (Sh' := Sh + e + 1) ⟨Nat.zero_le _, Nat.zero_le _⟩ ⟨by omega, by omega⟩ ⟨Nat.zero_le _, Nat.zero_le _⟩ ⟨by omega, by omega⟩ hi3) f1 f2 (g 21 (by omega)) (g 19 (by omega)) (g 20 (by omega)) (fun y _ _ => by rw [c72]) r33
/-- a SOURCE's columns, but for where they start -/
def PSC (n : Nat) (f : Nat → Int32) (M oo cl m j9 : Nat) (cs : CS) (rs : RS) : Prop := ((7, oo) ∈ kE cs) ∧ (kR cs 235 oo = some cl) ∧ (CLM cl m cs) ∧ (∃ k', k' ≤ M ∧ rs.2.2.1 55 j9 = nI k' ∧ NM9 n f k' (kJ cs 228 oo) cs rs) ∧ ((∃ d cnt, d < 6 ∧ (1 ≤ cnt ∧ cnt ≤ 4) ∧ m = cnt + 1 ∧ rs.2.2.1 49 j9 = nI d ∧ rs.2.2.1 5 d = nI cnt ∧ (∀ y, y < cnt → kB cs 98 cl y = lN (y + 1)) ∧ kB cs 98 cl cnt = 0 ∧ (∀ y, y < m → kA cs 100 cl y = 1)) ∨ (∃ qi ei, qi < 60 ∧ ei < 60 ∧ rs.2.2.1 49 j9 = -1 ∧ rs.2.2.1 53 j9 = nI qi ∧ rs.2.2.1 61 (5 * qi) = nI ei ∧ rs.2.2.1 36 ei = nI m ∧ (∀ y, y < m → ∃ k, k ≤ M ∧ rs.2.2.1 45 (8 * ei + y) = nI k ∧ NM n f k (kB cs 98 cl y) cs rs) ∧ (∀ y, y < m → TYR (kA cs 100 cl y) (rs.2.2.1 46 (8 * ei + y))))) ∧ (∀ y y', y < m → y' < m → y ≠ y' → kB cs 98 cl y ≠ kB cs 98 cl y')
theorem PSC.e7 {n : Nat} {f : Nat → Int32} {M oo cl m j9 : Nat} {cs : CS} {rs : RS} (h : PSC n f M oo cl m j9 cs rs) : (7, oo) ∈ kE cs := h.1
theorem PSC.r235 {n : Nat} {f : Nat → Int32} {M oo cl m j9 : Nat} {cs : CS} {rs : RS} (h : PSC n f M oo cl m j9 cs rs) : kR cs 235 oo = some cl := h.2.1
theorem PSC.cm {n : Nat} {f : Nat → Int32} {M oo cl m j9 : Nat} {cs : CS} {rs : RS} (h : PSC n f M oo cl m j9 cs rs) : CLM cl m cs := h.2.2.1
theorem PSC.nm {n : Nat} {f : Nat → Int32} {M oo cl m j9 : Nat} {cs : CS} {rs : RS} (h : PSC n f M oo cl m j9 cs rs) : ∃ k', k' ≤ M ∧ rs.2.2.1 55 j9 = nI k' ∧ NM9 n f k' (kJ cs 228 oo) cs rs := h.2.2.2.1
theorem PSC.kd {n : Nat} {f : Nat → Int32} {M oo cl m j9 : Nat} {cs : CS} {rs : RS} (h : PSC n f M oo cl m j9 cs rs) : (∃ d cnt, d < 6 ∧ (1 ≤ cnt ∧ cnt ≤ 4) ∧ m = cnt + 1 ∧ rs.2.2.1 49 j9 = nI d ∧ rs.2.2.1 5 d = nI cnt ∧ (∀ y, y < cnt → kB cs 98 cl y = lN (y + 1)) ∧ kB cs 98 cl cnt = 0 ∧ (∀ y, y < m → kA cs 100 cl y = 1)) ∨ (∃ qi ei, qi < 60 ∧ ei < 60 ∧ rs.2.2.1 49 j9 = -1 ∧ rs.2.2.1 53 j9 = nI qi ∧ rs.2.2.1 61 (5 * qi) = nI ei ∧ rs.2.2.1 36 ei = nI m ∧ (∀ y, y < m → ∃ k, k ≤ M ∧ rs.2.2.1 45 (8 * ei + y) = nI k ∧ NM n f k (kB cs 98 cl y) cs rs) ∧ (∀ y, y < m → TYR (kA cs 100 cl y) (rs.2.2.1 46 (8 * ei + y)))) := h.2.2.2.2.1
theorem PSC.ap {n : Nat} {f : Nat → Int32} {M oo cl m j9 : Nat} {cs : CS} {rs : RS} (h : PSC n f M oo cl m j9 cs rs) : ∀ y y', y < m → y' < m → y ≠ y' → kB cs 98 cl y ≠ kB cs 98 cl y' := h.2.2.2.2.2
theorem PSC.scc {n : Nat} {f : Nat → Int32} {M oo cl m j9 a : Nat} {cs : CS} {rs : RS} (h : PSC n f M oo cl m j9 cs rs) (h1 : a ≤ 100) (h2 : kI cs 234 oo = nI a) (h3 : rs.2.2.1 79 j9 = nI a) : SCC n f M oo cl m j9 cs rs := ⟨h.e7, h.r235, h.cm, h.nm, ⟨a, h1, h2, h3⟩, h.kd, h.ap⟩
theorem PSC.cols {n : Nat} {f : Nat → Int32} {M oo cl m j9 F : Nat} {cs : CS} {rs : RS} (h : PSC n f M oo cl m j9 cs rs) (hj : j9 < 180) : m_columnsOf F rs (nI j9) = some (nI m) := by
  unfold m_columnsOf m_columnsOf_b44
  rw [rdI_n hj (by decide), ob_s]
  rcases h.kd with ⟨d, cnt, d6, c4, em, a49, a5, -⟩ | ⟨qi, ei, q60, e60, a49, a53, a61, a36, -⟩
  · rw [a49, if_neg (nI_nm1 (by omega)), ob_s, rdI_n d6 (by decide), ob_s, a5, nI_1, em]
  · rw [a49, if_pos rfl, rdI_n hj (by decide), ob_s, a53, nI_5, rdI_n (by omega) (by decide), ob_s, a61, rdI_n e60 (by decide), ob_s, a36]
theorem PSC.mv {n : Nat} {f : Nat → Int32} {M oo cl m j9 : Nat} {cs cs' : CS} {rs rs' : RS} (h : PSC n f M oo cl m j9 cs rs) (em : EM cs cs') (a7 : ∀ x, x = 228 ∨ x = 235 → AT cs cs' x oo) (a3 : ∀ x, 96 ≤ x → x ≤ 100 → AT cs cs' x cl) (tk : TKF cs rs cs' rs') (r : ∀ q, q = 5 ∨ q = 36 ∨ q = 45 ∨ q = 46 ∨ q = 49 ∨ q = 53 ∨ q = 55 ∨ q = 61 → rs'.2.2.1 q = rs.2.2.1 q) : PSC n f M oo cl m j9 cs' rs' := by
  refine ⟨em _ h.e7, by rw [(a7 235 (by omega)).r]; exact h.r235, h.cm.keep em a3, ?_, ?_, ?_⟩
  · obtain ⟨k', k1, k2, k3⟩ := h.nm
    exact ⟨k', k1, by rw [r 55 (by omega)]; exact k2, by rw [(a7 228 (by omega)).j]; exact k3.f tk⟩
  · rw [r 49 (by omega), r 5 (by omega), r 53 (by omega), r 61 (by omega), r 36 (by omega), r 45 (by omega), r 46 (by omega), (a3 98 (by omega) (by omega)).b, (a3 100 (by omega) (by omega)).a]
    rcases h.kd with y | ⟨qi, ei, y1, y2, y3, y4, y5, y6, y7, y8⟩
    · exact Or.inl y
    · refine Or.inr ⟨qi, ei, y1, y2, y3, y4, y5, y6, fun z hz => ?_, y8⟩
      obtain ⟨k', k1, k2, k3⟩ := y7 z hz
      exact ⟨k', k1, k2, k3.f tk⟩
  · rw [(a3 98 (by omega) (by omega)).b]
    exact h.ap
/-- the SOURCES before, and the new one, as they are seen -/
def SRS (n : Nat) (f : Nat → Int32) (M so e m : Nat) (cs : CS) (rs : RS) : Prop := ∀ j, j < m → ∃ oo cl mm, kQ cs 195 so j = some oo ∧ SCC n f M oo cl mm (3 * e + j) cs rs
/-- the first SOURCE: nothing more -/
theorem join_0 {n : Nat} {f : Nat → Int32} {M t c cap s k : Nat} {V : VT} {so e lo hi Sl Sh : Nat} {D : Nat → Prop} {F ns oo off u1 u1' : Nat} {T : TC_X0_checkQuery} {T' : TG_judgeQuery} {rc : RS → Int32 → Int32 → Int32 → Option RS} {cs : CS} {rs : RS} (he : e < 60) (h : JH n f M t c cap s k V D cs rs) (hn : 0 < ns) (ho : kQ cs 195 so 0 = some oo) (md : rs.1 21 = 1 → (∃ cl m, PSC n f M oo cl m (3 * e) cs rs) ∧ off = 0 ∧ kI cs 234 oo = 0) : ∃ rs' off', c_X0_checkSource_L90 F T (u1 + 1) cs k so (nI 0) oo (nI 0) = some cs ∧ m_judgeSelect_L122 F T' rc (u1' + 1) rs (nI e) (nI off) (nI 0) (nI (3 * e)) (nI 0) = rc rs' (nI e) off' (nI 1) ∧ JH n f M t c cap s k V D cs rs' ∧ JU t c k so e 0 lo hi Sl Sh cs rs cs rs' ∧ (rs'.1 21 = 1 → rs.1 21 = 1 ∧ SRS n f M so e 1 cs rs' ∧ ∃ cl m, PSC n f M oo cl m (3 * e) cs rs' ∧ off' = nI (off + m)) := by
  have r79 : ∀ q j, q ≠ 79 → (setI rs 79 (3 * e) (nI off)).2.2.1 q j = rs.2.2.1 q j := fun q j hq => sIa_n (by omega)
  have ju : JU t c k so e 0 lo hi Sl Sh cs rs cs (setI rs 79 (3 * e) (nI off)) := JU.ref (FR.setI (by unfold jK; omega)) (fun q hq => funext (fun j => r79 q j (by omega))) (fun j hj => sIa_n (by omega))
  have jh : JH n f M t c cap s k V D cs (setI rs 79 (3 * e) (nI off)) := h.ju ju rfl rfl (fun _ _ => rfl) rfl (funext (fun j => r79 33 j (by omega))) (by decide)
  have cls : c_X0_checkSource_L90 F T (u1 + 1) cs k so (nI 0) oo (nI 0) = some cs := by
    rw [c_X0_checkSource_L90, if_pos (Int32.le_refl _), if_pos (show nI 0 ≤ 0 by decide)]
    rfl
  have ref : ∀ v, (setI rs 79 (3 * e) (nI off)).1 21 = 0 ∧ v = 0 ∨ ¬ (setI rs 79 (3 * e) (nI off)).1 21 = 0 ∧ m_columnsOf F (setI rs 79 (3 * e) (nI off)) (nI (3 * e)) = some v → m_judgeSelect_L122 F T' rc (u1' + 1) rs (nI e) (nI off) (nI 0) (nI (3 * e)) (nI 0) = rc (setI rs 79 (3 * e) (nI off)) (nI e) (nI off + v) (nI 1) := fun v hv => by
    rw [m_judgeSelect_L122, if_pos (Int32.le_refl _), wrI_n (by omega) (by decide), ob_s]
    unfold m_judgeSelect_b202 m_judgeSelect_b265
    rcases hv with ⟨w1, w2⟩ | ⟨w1, w2⟩
    · rw [if_pos w1, if_pos (show nI 0 ≤ 0 by decide), w2, nI_1]
    · rw [if_neg w1, w2, ob_s, if_pos (show nI 0 ≤ 0 by decide), nI_1]
  by_cases g : rs.1 21 = 0
  · exact ⟨_, _, cls, ref 0 (Or.inl ⟨g, rfl⟩), jh, ju, fun g' => absurd (g.symm.trans g') (by decide)⟩
  · obtain ⟨⟨cl, m, ps⟩, o0, s0⟩ := md (h.good g)
    have ps' : PSC n f M oo cl m (3 * e) cs (setI rs 79 (3 * e) (nI off)) := ps.mv EM.refl (fun _ _ => AT.refl) (fun _ _ _ => AT.refl) ju.tkf (fun q hq => funext (fun j => r79 q j (by omega)))
    refine ⟨_, _, cls, ref (nI m) (Or.inr ⟨g, ps'.cols (by omega)⟩), jh, ju, fun g' => ⟨h.good g, fun j hj => ?_, cl, m, ps', nI_add _ _⟩⟩
    have j0 : j = 0 := by omega
    rw [j0]
    exact ⟨oo, cl, m, ho, ps'.scc (a := 0) (by omega) (by rw [s0]; decide) (by rw [o0]; exact pk_us)⟩

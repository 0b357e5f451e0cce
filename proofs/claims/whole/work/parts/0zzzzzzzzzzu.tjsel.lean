/-! the joint plan: SOURCES and a SELECT -/
/-- a QUERY in both: l leaves, d deep -/
def QBT (F r c ar B l d oq q w it : Nat) (cs : CS) (rs : RS) : Prop := ∃ (C kn : Nat) (rc rr : LL), PQ F rs d q w C kn rr ∧ (∀ n, 4 * d ≤ n → QYX (tabc_X4_runQuery F n) r c ar B cs oq w (90000 * l) rc) ∧ rc.Perm rr ∧ (kR cs 130 oq ≠ none → rc = rr) ∧ (∀ L, L ∈ rc → L.length = w ∧ RWL w (kA cs 100 it) L) ∧ CBQ l d C kn rr.length
/-- a SOURCE in both -/
def SOT (F r c ar B l d oo o w : Nat) (ty : Nat → Int32) (cs : CS) (rs : RS) : Prop := ∃ (C kn : Nat) (rc rr : LL), PSR rs (PQ F rs d) o w C kn rr ∧ (∀ n, 4 * d + 1 ≤ n → SRX (tabc_X4_runQuery F n) r c ar B cs oo w (90000 * l) rc) ∧ rc.Perm rr ∧ (∀ L, L ∈ rc → L.length = w ∧ RWL w ty L) ∧ CBQ l d C kn rr.length
/-- a SELECT in both -/
def SET (F r c ar B l d so e mi it : Nat) (cs : CS) (rs : RS) : Prop := ∃ (C kn : Nat) (rc rr : LL), PSL F rs (PQ F rs d) e mi C kn rr ∧ (∀ n, 4 * d + 3 ≤ n → SLX (tabc_X4_runQuery F n) r c ar B cs so mi (90000 * l) rc) ∧ rc.Perm rr ∧ (∀ L, L ∈ rc → L.length = mi ∧ RWL mi (kA cs 100 it) L) ∧ CBS l d C kn rr.length
theorem so_leaf {F r c ar B d : Nat} {cs : CS} {rs : RS} {nst oo o w dd : Nat} {ty : Nat → Int32} (hF : 10000 ≤ F) (hBB : B ≤ 400000) (bs : Bas cs) (st : ST nst cs rs) (s5 : ∀ d, nst ≤ d → d ≤ 9 → rs.2.2.1 5 d = 0) (rn : RUN r c ar cs) (r160 : kR cs 160 r = some 2) (e7 : (7, oo) ∈ kE cs) (h225 : kR cs 225 oo = none) (h224 : kI cs 224 oo = nI dd) (d9 : dd ≤ 9) (h49 : rs.2.2.1 49 o = nI dd) (kp : (kJ cs 230 oo = -1 ∧ rs.2.2.1 51 o = 0) ∨ (rs.2.2.1 51 o = 1 ∧ kJ cs 230 oo = rs.2.2.2 52 o ∧ 0 ≤ kJ cs 230 oo)) (cl : ∃ cl, kR cs 235 oo = some cl ∧ CLM cl w cs) (w2 : 2 ≤ w) (w8 : w ≤ 8) (h5 : rs.2.2.1 5 dd = nI (w - 1)) (ty1 : ∀ y, y < w → ty y = 1) : SOT F r c ar B 1 d oo o w ty cs rs := by
  have dn : dd < nst := by
    by_cases q : dd < nst
    · exact q
    · have z := s5 dd (by omega) d9
      rw [h5] at z
      have := (nI_eq (a := w - 1) (b := 0) (by omega) (by decide)).mp z
      omega
  obtain ⟨cc, c1, c4, c5, c6⟩ := st.col dd dn
  have ec : cc = w - 1 := (nI_eq (by omega) (by omega)).mp (c6.symm.trans h5)
  have ew : cc + 1 = w := by omega
  have le := st.le
  have kr : KPR rs o (kJ cs 230 oo) := by
    rcases kp with ⟨k1, k2⟩ | ⟨k1, k2, k3⟩
    · exact Or.inl ⟨k2, by rw [k1]; decide⟩
    · exact Or.inr ⟨by rw [k1]; decide, k3, k2⟩
  have lf : LFC r oo dd cc (kJ cs 230 oo) cs := ⟨e7, h225, h224, rfl, by rw [ew]; exact cl, r160⟩
  refine ⟨8 * (cc + 1), 1, leafL rs o dd cc, leafL rs o dd cc, Or.inl ⟨dd, cc, by omega, c4, h49, c6, ew.symm, rfl, rfl, rfl⟩, fun n hn => ?_, List.Perm.refl _, fun L hL => ?_, CBQ.leaf (by omega) ?_⟩
  · obtain ⟨z, hz⟩ : ∃ z, n = z + 1 := ⟨n - 1, by omega⟩
    rw [hz, ← ew]
    intro X st' cf hs hst hl
    exact cleaf_x (T := tabc_X4_runQuery F z) hF hBB bs st dn c4 c5 kr lf rn cf hs (by omega) hl
  · obtain ⟨p, -, e⟩ := List.mem_map.mp hL
    rw [← e]
    refine ⟨?_, fun col hc h2 => ?_⟩
    · unfold strow
      rw [List.length_map, List.length_range]
      exact ew
    · rw [ty1 col hc] at h2
      exact absurd h2 (by decide)
  · unfold leafL
    rw [List.length_map]
    refine Nat.le_trans (List.length_filter_le ..) ?_
    rw [List.length_range]
    exact Nat.le_refl _
theorem so_inn {F r c ar B l d : Nat} {cs : CS} {rs : RS} {oo o oi qi w it : Nat} {ty : Nat → Int32} (rn : RUN r c ar cs) (e7 : (7, oo) ∈ kE cs) (h225 : kR cs 225 oo = some oi) (h49 : rs.2.2.1 49 o = -1) (h53 : rs.2.2.1 53 o = nI qi) (qb : QBT F r c ar B l d oi qi w it cs rs) (hty : ∀ y, y < w → ty y = kA cs 100 it y) : SOT F r c ar B l d oo o w ty cs rs := by
  obtain ⟨C, kn, rc, rr, q1, q2, q3, -, q4, q5⟩ := qb
  refine ⟨C, kn, rc, rr, Or.inr ⟨h49, qi, h53, q1⟩, fun n hn => ?_, q3, fun L hL => ?_, q5⟩
  · obtain ⟨z, hz⟩ : ∃ z, n = z + 1 := ⟨n - 1, by omega⟩
    rw [hz]
    intro X st' cf hs hst hl
    exact cinn_x (T := tabc_X4_runQuery F z) rn e7 h225 (q2 z (by omega)) cf hs hst hl
  · obtain ⟨l1, l2⟩ := q4 L hL
    exact ⟨l1, fun col hc h2 => l2 col hc (by rw [← hty col hc]; exact h2)⟩
/-- costs of a SELECT's SOURCES -/
theorem cbs_all {l d ns : Nat} {ℓ C kn w : Nat → Nat} {rr : Nat → LL} (n2 : ns ≤ 2) (l3 : l ≤ 3) (hl : sumN ℓ (ns + 1) ≤ l) (h : ∀ i, i < ns + 1 → CBQ (ℓ i) d (C i) (kn i) (rr i).length) (w8 : ∀ i, i < ns + 1 → w i ≤ 8) : CBS l d (C 0 + csm (fun j => C j + prd rr ns * wid w ns) 0 ns + 2 * (prd rr ns * wid w ns) + 3 * ((prd rr ns + 1) * 8)) (kn 0 + csm (fun j => kn j + 1) 0 ns + 5) (prd rr ns) := by
  have hW := wid_8 (w := w) ns (fun j hj => w8 j (by omega))
  rcases (show ns = 0 ∨ ns = 1 ∨ ns = 2 by omega) with q | q | q
  · rw [q] at hl hW ⊢
    have e : sumN ℓ (0 + 1) = 0 + ℓ 0 := rfl
    exact (cbs_0 (h 0 (by omega)) hW).up (by omega) l3
  · rw [q] at hl hW ⊢
    have e : sumN ℓ (1 + 1) = 0 + ℓ 0 + ℓ 1 := rfl
    exact cbs_1 (h 0 (by omega)) (h 1 (by omega)) (by omega) l3 hW
  · rw [q] at hl hW ⊢
    have e : sumN ℓ (2 + 1) = 0 + ℓ 0 + ℓ 1 + ℓ 2 := rfl
    exact cbs_2 (h 0 (by omega)) (h 1 (by omega)) (h 2 (by omega)) (by omega) l3 hW
theorem CBS.le {l d C k n : Nat} (h : CBS l d C k n) : n ≤ 512 ∧ 1 ≤ l := by
  unfold CBS at h
  omega
theorem sumN_2 {ℓ : Nat → Nat} {i : Nat} : ∀ m, 1 ≤ i → i < m → ℓ 0 + ℓ i ≤ sumN ℓ m
  | 0, _, h => absurd h (by omega)
  | m + 1, h1, h => by
    show ℓ 0 + ℓ i ≤ sumN ℓ m + ℓ m
    by_cases q : i = m
    · rw [q]
      have := sumN_ge (g := ℓ) (k := 0) m (by omega)
      omega
    · have := sumN_2 (ℓ := ℓ) (i := i) m h1 (by omega)
      omega
theorem k90_a {M l : Nat} (h : M ≤ 512) (h1 : 1 ≤ l) : 2 * (M * 24) + (M + 602) * 24 ≤ 90000 * l := by
  have a1 : M * 24 ≤ 512 * 24 := mul_up h (Nat.le_refl _)
  have a2 : (M + 602) * 24 ≤ 1114 * 24 := mul_up (by omega) (Nat.le_refl _)
  exact Nat.le_trans (Nat.add_le_add (Nat.mul_le_mul_left 2 a1) a2) (Nat.le_trans (by decide) (Nat.mul_le_mul_left 90000 h1))
theorem k90_b {M l W mi : Nat} (h : M ≤ 512) (h1 : 1 ≤ l) (hW : W ≤ 24) (hm : mi ≤ 8) : csu M W mi ≤ 90000 * l := by
  unfold csu
  have a1 : (M + 1) * W ≤ 513 * 24 := mul_up (by omega) hW
  have a2 : (M + 1) * 24 ≤ 513 * 24 := mul_up (by omega) (Nat.le_refl _)
  have a3 : (M + 1) * mi ≤ 513 * 8 := mul_up (by omega) hm
  omega
theorem k90_c {M l li l0 : Nat} (h : M ≤ 512) (h1 : l0 + li ≤ l) (h2 : 1 ≤ l0) : M * 24 + 90000 * li ≤ 90000 * l := by
  have a1 : M * 24 ≤ 512 * 24 := mul_up h (Nat.le_refl _)
  omega
/-- a SELECT -/
theorem se_all {F r c ar B l d : Nat} {cs : CS} {rs : RS} {so e ns mi it s cap : Nat} {w oo ℓ : Nat → Nat} {ty : Nat → Nat → Int32} {ou : Nat → Bool} {on : Nat → List OV → OV} (hF : 10000 ≤ F) (hBB : B ≤ 400000) (rn : RUN r c ar cs) (n2 : ns ≤ 2) (h37 : rs.2.2.1 37 e = nI (ns + 1)) (ss : SSC so (ns + 1) w oo cs) (sb : SBT F c ar so e (wid w ns) mi it s cap (RWT (ns + 1) w ty) cs rs) (m8 : mi ≤ 8) (w8 : ∀ i, i < ns + 1 → w i ≤ 8) (jn : ∀ i, i + 1 < ns + 1 → ∃ rt, kI cs 233 (oo (i + 1)) = nI rt ∧ rs.2.2.1 58 (3 * e + (i + 1)) = nI rt ∧ EXC F c ar (wid w (i + 1)) rt (RWT (i + 2) w ty) (on (i + 1)) cs ∧ EXV F (wid w (i + 1)) rt (on (i + 1)) rs ∧ (ou (i + 1) = true ↔ kI cs 231 (oo (i + 1)) ≠ 0) ∧ (ou (i + 1) = true ↔ rs.2.2.1 56 (3 * e + (i + 1)) ≠ 0)) (sr : ∀ i, i < ns + 1 → SOT F r c ar B (ℓ i) d (oo i) (3 * e + i) (w i) (ty i) cs rs) (hl : sumN ℓ (ns + 1) ≤ l) (l3 : l ≤ 3) : SET F r c ar B l d so e mi it cs rs := by
  have H : ∀ i, i < ns + 1 → ∃ x : Nat × Nat × LL × LL, PSR rs (PQ F rs d) (3 * e + i) (w i) x.1 x.2.1 x.2.2.2 ∧ (∀ n, 4 * d + 1 ≤ n → SRX (tabc_X4_runQuery F n) r c ar B cs (oo i) (w i) (90000 * ℓ i) x.2.2.1) ∧ x.2.2.1.Perm x.2.2.2 ∧ (∀ L, L ∈ x.2.2.1 → L.length = w i ∧ RWL (w i) (ty i) L) ∧ CBQ (ℓ i) d x.1 x.2.1 x.2.2.2.length := fun i hi0 => by
    obtain ⟨C, kn, rc, rr, q⟩ := sr i hi0
    exact ⟨(C, kn, rc, rr), q⟩
  obtain ⟨g, hg⟩ := ch_lt H
  obtain ⟨C, hC⟩ : ∃ z : Nat → Nat, z = fun i => (g i).1 := ⟨_, rfl⟩
  obtain ⟨kn, hkn⟩ : ∃ z : Nat → Nat, z = fun i => (g i).2.1 := ⟨_, rfl⟩
  obtain ⟨rc, hrc⟩ : ∃ z : Nat → LL, z = fun i => (g i).2.2.1 := ⟨_, rfl⟩
  obtain ⟨rr, hrr⟩ : ∃ z : Nat → LL, z = fun i => (g i).2.2.2 := ⟨_, rfl⟩
  have hg' : ∀ i, i < ns + 1 → PSR rs (PQ F rs d) (3 * e + i) (w i) (C i) (kn i) (rr i) ∧ (∀ n, 4 * d + 1 ≤ n → SRX (tabc_X4_runQuery F n) r c ar B cs (oo i) (w i) (90000 * ℓ i) (rc i)) ∧ (rc i).Perm (rr i) ∧ (∀ L, L ∈ rc i → L.length = w i ∧ RWL (w i) (ty i) L) ∧ CBQ (ℓ i) d (C i) (kn i) (rr i).length := fun i hi0 => by
    rw [hC, hkn, hrc, hrr]
    exact hg i hi0
  obtain ⟨gp, gb, di, ng, na, gl, nd, κ, σ, wh, hc, hp, pc, pv, kv, iv, hv, gv, slc, slm, prm, typ⟩ := sb
  have le : ∀ j, j ≤ ns → (rc j).length = (rr j).length := fun j hj => (hg' j (by omega)).2.2.1.length_eq
  have cb := cbs_all (w := w) n2 l3 hl (fun i hi0 => (hg' i hi0).2.2.2.2) w8
  have pe : prd rc ns = prd rr ns := prd_eq ns le
  obtain ⟨M, hM⟩ : ∃ z, z = prd rr ns := ⟨_, rfl⟩
  rw [← hM] at cb pe
  obtain ⟨M5, l1⟩ := cb.le
  have pm : ∀ i, i < ns + 1 → prd rr i ≤ M := fun i hi0 => by
    rw [hM]
    exact prd_mono ns (by omega)
  have pmc : ∀ i, i < ns + 1 → prd rc i ≤ M := fun i hi0 => by
    rw [← pe]
    exact prd_mono ns (by omega)
  have W8 := wid_8 (w := w) ns (fun j hj => w8 j (by omega))
  have wm : ∀ i, i < ns + 1 → wid w i ≤ wid w ns := fun i hi0 => wid_mono ns (by omega)
  have jp : (jnL rc ou on w ns).Perm (jnL rr ou on w ns) := jns_perm ns (fun j hj => (hg' j (by omega)).2.2.1)
  have jt : ∀ i, i < ns + 1 → ∀ L, L ∈ jnL rc ou on w i → L.length = wid w i ∧ RWT (i + 1) w ty L := fun i hi0 => jn_typed i (fun j hj => (hg' j (by omega)).2.2.2.1)
  obtain ⟨ty1, ty2⟩ := typ (jnL rc ou on w ns) (fun L hL => (jt ns (by omega) L hL).2)
  have pp := prm _ _ jp
  refine ⟨_, _, selC mi gp di ng na κ wh hc pc kv iv (jnL rc ou on w ns), selR mi gp gb di ng wh hp pv kv hv gv (jnL rr ou on w ns), ⟨ns, M, wid w ns, ng, gp, gb, di, wh, hp, pv, kv, hv, gv, rr, ou, on, w, C, kn, by omega, slm, h37, fun i hi0 => (hg' i hi0).1, fun i i1 i2 => ?_, wm, by omega, pm, by omega, rfl, rfl, rfl⟩, fun n hn => ?_, pp, fun L hL => ⟨selC_len L hL, ty2 L hL⟩, cb.n ?_⟩
  · obtain ⟨i', hi'⟩ : ∃ z, i = z + 1 := ⟨i - 1, by omega⟩
    rw [hi'] at i2 ⊢
    obtain ⟨rt, j1, j2, j3, j4, j5, j6⟩ := jn i' i2
    exact ⟨rt, j2, j6, j4⟩
  · obtain ⟨z, hz⟩ : ∃ z, n = z + 2 := ⟨n - 2, by omega⟩
    rw [hz]
    intro X st' cf hs hst hl'
    have jx : JNX (tabc_X4_runQuery F (z + 1)) r c ar B cs so (wid w ns) (90000 * l) (jnL rc ou on w ns) := fun X2 st2 cf2 hs2 hst2 hl2 => by
      have hK : 2 * (M * 24) + (M + 602) * 24 ≤ 90000 * l := k90_a M5 l1
      refine csrc_ok (T := tabc_X4_runQuery F z) (k := fun i => 90000 * ℓ i) (τ := fun i => RWT (i + 1) w ty) (M := M) (K := 90000 * l) hF hBB (by omega) rn ss (fun i hi0 => (hg' i hi0).2.1 z (by omega)) (fun i hi0 => ?_) (fun i x y hi0 hx hy => ?_) (fun i hi0 => by have := wm i hi0; omega) pmc (fun i hi0 => ?_) (by omega) ?_ (fun i i1 i2 => ?_) hK cf2 hs2 hst2 hl2
      · obtain ⟨rt, j1, j2, j3, j4, j5, j6⟩ := jn i hi0
        obtain ⟨s1, s2, s3, s4⟩ := ss.sr (i + 1) hi0
        exact ⟨s2, s3, s4, ⟨rt, j1, j3⟩, j5⟩
      · obtain ⟨x1, x2⟩ := jt i (by omega) x hx
        exact rwt_app x2 x1 ((hg' (i + 1) hi0).2.2.2.1 y hy).2
      · rw [le i (by omega)]
        have := (hg' i hi0).2.2.2.2
        have o := (one1_le (rr i).length).1
        have p := pm i hi0
        cases i with
        | zero => exact Nat.le_trans o p
        | succ i =>
          have q : one1 (rr (i + 1)).length ≤ prd rr i * one1 (rr (i + 1)).length := Nat.le_mul_of_pos_left _ (prd_pos i)
          exact Nat.le_trans o (Nat.le_trans q p)
      · have y1 := sumN_ge (g := ℓ) (k := 0) (ns + 1) (by omega)
        exact Nat.mul_le_mul_left _ (Nat.le_trans y1 hl)
      · have y1 := sumN_2 (ℓ := ℓ) (i := i) (ns + 1) i1 i2
        have y2 := (hg' 0 (by omega)).2.2.2.2.l1
        exact k90_c M5 (Nat.le_trans y1 hl) y2
    refine csel_x (T := tabc_X4_runQuery F (z + 1)) (M := M) (fun L hL => (jt ns (by omega) L hL).2) ty1 hF hBB (by omega) (by omega) rn ss slc jx ?_ ?_ cf hs hst hl'
    · rw [← pe]
      exact jn_le ns
    · exact k90_b M5 l1 (by omega) m8
  · refine Nat.le_trans selR_len (one1_up ?_ ?_)
    · rw [hM]
      exact jn_le ns
    · rw [hM]
      exact prd_pos ns

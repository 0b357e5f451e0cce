/-! the joint plan: a QUERY -/
theorem cbq_all {l d nq oc n' : Nat} {ℓ C kn : Nat → Nat} {rr : Nat → LL} (n2 : nq ≤ 2) (l3 : l ≤ 3) (hl : sumN ℓ (nq + 1) ≤ l) (h : ∀ i, i < nq + 1 → CBS (ℓ i) d (C i) (kn i) (rr i).length) (ho : oc = 0 ∨ (oc = 2 * (smL rr nq * 8) ∧ n' ≤ 100)) (hn : n' ≤ smL rr nq) : CBQ l (d + 1) (C 0 + csm (fun j => C j + smL rr nq * 8) 0 nq + oc) (kn 0 + csm (fun j => kn j + 1) 0 nq + 2) n' := by
  rcases (show nq = 0 ∨ nq = 1 ∨ nq = 2 by omega) with q | q | q
  · rw [q] at hl ho hn ⊢
    have e : sumN ℓ (0 + 1) = 0 + ℓ 0 := rfl
    exact (cbq_0 (h 0 (by omega)) ho hn).up (by omega) l3
  · rw [q] at hl ho hn ⊢
    have e : sumN ℓ (1 + 1) = 0 + ℓ 0 + ℓ 1 := rfl
    exact cbq_1 (h 0 (by omega)) (h 1 (by omega)) (by omega) l3 ho hn
  · rw [q] at hl ho hn ⊢
    have e : sumN ℓ (2 + 1) = 0 + ℓ 0 + ℓ 1 + ℓ 2 := rfl
    exact cbq_2 (h 0 (by omega)) (h 1 (by omega)) (h 2 (by omega)) (by omega) l3 ho hn
theorem k90_d {M l li l0 : Nat} (h : M ≤ 600) (h1 : l0 + li ≤ l) (h2 : 1 ≤ l0) : M * 8 + 90000 * li ≤ 90000 * l := by
  have a1 : M * 8 ≤ 600 * 8 := mul_up h (Nat.le_refl _)
  omega
theorem k90_e {M l : Nat} (h : M ≤ 600) (h1 : 1 ≤ l) : M * 8 + 2 * (M * 16) ≤ 90000 * l := by
  have a1 : M * 8 ≤ 600 * 8 := mul_up h (Nat.le_refl _)
  have a2 : M * 16 ≤ 600 * 16 := mul_up h (Nat.le_refl _)
  omega
theorem ODC.none {F c ar q w : Nat} {τ : RPR} {od : ODT} {cs : CS} (h : ODC F c ar q w τ od cs) (g : kR cs 130 q ≠ none) : od ≠ none := fun e => by
  rw [e] at h
  exact g h
theorem qy_all {F r c ar B l d : Nat} {cs : CS} {rs : RS} {oq q nq w li il it0 : Nat} {od : ODT} {se opc opr ℓ : Nat → Nat} (hF : 10000 ≤ F) (hBB : B ≤ 400000) (rn : RUN r c ar cs) (q60 : q < 60) (w8 : w ≤ 8) (n2 : nq ≤ 2) (h60 : rs.2.2.1 60 q = nI (nq + 1)) (qs : QSC oq (nq + 1) w li il se opc cs) (om : ODM F q w od rs) (oc : ODC F c ar oq w (RWL w (kA cs 100 it0)) od cs) (ops : ∀ i, 1 ≤ i → i < nq + 1 → rs.2.2.1 62 (5 * q + i) = nI (opr i) ∧ OPP (opc i) (opr i)) (sl : ∀ i, i < nq + 1 → ∃ e it, rs.2.2.1 61 (5 * q + i) = nI e ∧ (∀ y, y < w → kA cs 100 it y = kA cs 100 it0 y) ∧ SET F r c ar B (ℓ i) d (se i) e w it cs rs) (hl : sumN ℓ (nq + 1) ≤ l) (l3 : l ≤ 3) : QBT F r c ar B l (d + 1) oq q w it0 cs rs := by
  have H : ∀ i, i < nq + 1 → ∃ x : Nat × Nat × LL × LL, (∃ e, rs.2.2.1 61 (5 * q + i) = nI e ∧ PSL F rs (PQ F rs d) e w x.1 x.2.1 x.2.2.2) ∧ (∀ n, 4 * d + 3 ≤ n → SLX (tabc_X4_runQuery F n) r c ar B cs (se i) w (90000 * ℓ i) x.2.2.1) ∧ x.2.2.1.Perm x.2.2.2 ∧ (∀ L, L ∈ x.2.2.1 → L.length = w ∧ RWL w (kA cs 100 it0) L) ∧ CBS (ℓ i) d x.1 x.2.1 x.2.2.2.length := fun i hi0 => by
    obtain ⟨e, it, e1, e2, C, kn, rc, rr, q1, q2, q3, q4, q5⟩ := sl i hi0
    refine ⟨(C, kn, rc, rr), ⟨e, e1, q1⟩, q2, q3, fun L hL => ?_, q5⟩
    obtain ⟨l1, l2⟩ := q4 L hL
    exact ⟨l1, fun col hc h2 => l2 col hc (by rw [e2 col hc]; exact h2)⟩
  obtain ⟨g, hg⟩ := ch_lt H
  obtain ⟨C, hC⟩ : ∃ z : Nat → Nat, z = fun i => (g i).1 := ⟨_, rfl⟩
  obtain ⟨kn, hkn⟩ : ∃ z : Nat → Nat, z = fun i => (g i).2.1 := ⟨_, rfl⟩
  obtain ⟨rc, hrc⟩ : ∃ z : Nat → LL, z = fun i => (g i).2.2.1 := ⟨_, rfl⟩
  obtain ⟨rr, hrr⟩ : ∃ z : Nat → LL, z = fun i => (g i).2.2.2 := ⟨_, rfl⟩
  have hg' : ∀ i, i < nq + 1 → (∃ e, rs.2.2.1 61 (5 * q + i) = nI e ∧ PSL F rs (PQ F rs d) e w (C i) (kn i) (rr i)) ∧ (∀ n, 4 * d + 3 ≤ n → SLX (tabc_X4_runQuery F n) r c ar B cs (se i) w (90000 * ℓ i) (rc i)) ∧ (rc i).Perm (rr i) ∧ (∀ L, L ∈ rc i → L.length = w ∧ RWL w (kA cs 100 it0) L) ∧ CBS (ℓ i) d (C i) (kn i) (rr i).length := fun i hi0 => by
    rw [hC, hkn, hrc, hrr]
    exact hg i hi0
  have pm : (stC rc opc nq).Perm (stL rr opr nq) := st_perm nq (fun j hj => (hg' j (by omega)).2.2.1) (fun j j1 j2 => (ops j j1 (by omega)).2)
  have le : ∀ i, i ≤ nq → smL rc i = smL rr i := fun i hi0 => sm_eq i (fun j hj => (hg' j (by omega)).2.2.1.length_eq)
  have sle := stL_le nq pm (le nq (Nat.le_refl _))
  obtain ⟨o1, o2⟩ := od_len om sle
  have cb := cbq_all n2 l3 hl (fun i hi0 => (hg' i hi0).2.2.2.2) o2 o1
  obtain ⟨M, hM⟩ : ∃ z, z = smL rr nq := ⟨_, rfl⟩
  have M5 : M ≤ 600 := by
    have a := fun i (hi0 : i < nq + 1) => (hg' i hi0).2.2.2.2.le
    rw [hM]
    rcases (show nq = 0 ∨ nq = 1 ∨ nq = 2 by omega) with z | z | z
    · rw [z]
      have := (a 0 (by omega)).1
      show (rr 0).length ≤ 600
      omega
    · rw [z]
      rw [z] at hl
      have e : sumN ℓ (1 + 1) = 0 + ℓ 0 + ℓ 1 := rfl
      have b0 := (hg' 0 (by omega)).2.2.2.2
      have b1 := (hg' 1 (by omega)).2.2.2.2
      show (rr 0).length + (rr 1).length ≤ 600
      unfold CBS at b0 b1
      omega
    · rw [z]
      rw [z] at hl
      have e : sumN ℓ (2 + 1) = 0 + ℓ 0 + ℓ 1 + ℓ 2 := rfl
      have b0 := (hg' 0 (by omega)).2.2.2.2
      have b1 := (hg' 1 (by omega)).2.2.2.2
      have b2 := (hg' 2 (by omega)).2.2.2.2
      show (rr 0).length + (rr 1).length + (rr 2).length ≤ 600
      unfold CBS at b0 b1 b2
      omega
  have sM : ∀ i, i < nq + 1 → smL rr i ≤ M := fun i hi0 => by
    rw [hM]
    exact sm_mono nq (by omega)
  rw [← hM] at cb
  obtain ⟨p1, p2⟩ := od_perm (od := od) pm
  have l1 := (hg' 0 (by omega)).2.2.2.2.le.2
  have mem : ∀ L, L ∈ stC rc opc nq → L.length = w ∧ RWL w (kA cs 100 it0) L := fun L hL => by
    obtain ⟨j, j1, j2⟩ := stC_mem nq hL
    exact (hg' j (by omega)).2.2.2.1 L j2
  refine ⟨_, _, odL od (stC rc opc nq), odL od (stL rr opr nq), ⟨nq, M, od, rr, opr, C, kn, q60, w8, by omega, h60, fun i hi0 => (hg' i hi0).1, fun i i1 i2 => ?_, om, sM, M5, rfl, rfl, rfl⟩, fun n hn => ?_, p1, fun z => p2 (oc.none z), fun L hL => mem L (od_mem hL), cb⟩
  · obtain ⟨a1, a2⟩ := ops i i1 i2
    unfold OPP at a2
    exact ⟨a1, by omega, by omega⟩
  · obtain ⟨z, hz⟩ : ∃ z, n = z + 1 := ⟨n - 1, by omega⟩
    rw [hz]
    intro X st' cf hs hst hl'
    have s0 := sumN_ge (g := ℓ) (k := 0) (nq + 1) (by omega)
    refine cqry_x (T := tabc_X4_runQuery F z) (k := fun i => 90000 * ℓ i) (M := M) (K := 90000 * l) hF hBB w8 (fun L hL => (mem L hL).2) rn qs oc (fun i hi0 => (hg' i hi0).2.1 z (by omega)) (fun i hi0 => ?_) M5 ?_ (fun i i1 i2 => ?_) (k90_e M5 (Nat.le_trans l1 (Nat.le_trans s0 hl))) cf hs hst hl'
    · rw [le i (by omega)]
      exact sM i hi0
    · exact Nat.mul_le_mul_left _ (Nat.le_trans s0 hl)
    · have y1 := sumN_2 (ℓ := ℓ) (i := i) (nq + 1) i1 i2
      exact k90_d M5 (Nat.le_trans y1 hl) l1

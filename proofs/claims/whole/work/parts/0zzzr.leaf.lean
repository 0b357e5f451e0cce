/-! a SOURCE that is a stream -/
theorem dgs_of : ∀ m, m < 256 → zwc (nI m - 128) → (zcN (nI m - 128) = 19 ↔ nI m - 128 = 115) ∧ (27 ≤ zcN (nI m - 128) ↔ zdg (nI m - 128) = 1) ∧ (zdg (nI m - 128) = 0 ∨ zdg (nI m - 128) = 1) ∧ (27 ≤ zcN (nI m - 128) → nI m - 128 - 48 = nI (zcN (nI m - 128) - 27)) := by
  unfold zwc zlt zdg zcN zlc
  decide +kernel
theorem zwn_lo {f : Nat → Int32} {p : Nat} : ∀ l, (∀ j, j < l + 2 → 1 ≤ zcN (f (p + j))) → 38 ≤ zwn f p (l + 2)
  | 0, h => by
    have h0 := h 0 (by omega)
    have h1 := h 1 (by omega)
    show 38 ≤ 37 * (37 * 0 + zcN (f (p + 0))) + zcN (f (p + 1))
    omega
  | l + 1, h => by
    have := zwn_lo l (fun j hj => h j (by omega))
    have h1 := h (l + 2) (by omega)
    show 38 ≤ 37 * zwn f p (l + 2) + zcN (f (p + (l + 2)))
    omega
/-- the names s0 to s9 by their number -/
theorem leafn {f : Nat → Int32} {p l : Nat} (hl : 1 ≤ l) (hb : ∀ j, j < l → zisB (f (p + j))) (hw : ∀ j, j < l → zwc (f (p + j))) : (730 ≤ zwn f p l ∧ zwn f p l ≤ 739 ∧ l = 2 ∧ f p = 115 ∧ zdg (f (p + 1)) = 1 ∧ f (p + 1) - 48 = nI (zwn f p l - 730)) ∨ ((zwn f p l < 730 ∨ 739 < zwn f p l) ∧ (l = 2 → f p = 115 → zdg (f (p + 1)) = 0)) := by
  have cn : ∀ j, j < l → 1 ≤ zcN (f (p + j)) ∧ zcN (f (p + j)) ≤ 36 := fun j hj => (cN_k (hb j hj) (hw j hj)).2
  by_cases y : l = 2
  · subst y
    have e : zwn f p 2 = 37 * zcN (f p) + zcN (f (p + 1)) := by
      show 37 * (37 * 0 + zcN (f (p + 0))) + zcN (f (p + 1)) = _
      rw [Nat.mul_zero, Nat.zero_add, Nat.add_zero]
    have c0 := cn 0 (by omega)
    have c1 := cn 1 (by omega)
    rw [Nat.add_zero] at c0
    obtain ⟨m0, h0, e0⟩ := hb 0 (by omega)
    obtain ⟨m1, h1, e1⟩ := hb 1 (by omega)
    rw [Nat.add_zero] at e0
    have w0 := hw 0 (by omega)
    have w1 := hw 1 (by omega)
    rw [Nat.add_zero, e0] at w0
    rw [e1] at w1
    obtain ⟨d0, -, -, -⟩ := dgs_of m0 h0 w0
    obtain ⟨-, d1, d2, d3⟩ := dgs_of m1 h1 w1
    rw [← e0] at d0
    rw [← e1] at d1 d2 d3
    rw [e]
    by_cases q0 : zcN (f p) = 19
    · by_cases q1 : 27 ≤ zcN (f (p + 1))
      · refine Or.inl ⟨by omega, by omega, rfl, d0.mp q0, d1.mp q1, ?_⟩
        rw [d3 q1, show zcN (f (p + 1)) - 27 = 37 * zcN (f p) + zcN (f (p + 1)) - 730 by omega]
      · refine Or.inr ⟨by omega, fun _ _ => ?_⟩
        rcases d2 with w | w
        · exact w
        · exact absurd (d1.mpr w) q1
    · exact Or.inr ⟨by omega, fun _ w => absurd (d0.mpr w) q0⟩
  · refine Or.inr ⟨?_, fun w => absurd w y⟩
    by_cases y1 : l = 1
    · subst y1
      have c0 := cn 0 (by omega)
      left
      show 37 * 0 + zcN (f (p + 0)) < 730
      omega
    · obtain ⟨k, rfl⟩ : ∃ k, l = k + 3 := ⟨l - 3, by omega⟩
      have lo := zwn_lo (f := f) (p := p) k (fun j hj => (cn j (by omega)).1)
      right
      show 739 < 37 * zwn f p (k + 2) + zcN (f (p + (k + 2)))
      omega
theorem dig_lt : ∀ N, N < 730 → lN N - 730 < 0 := by decide +kernel
theorem dig_ok {N : Nat} (h : 730 ≤ N) (h2 : N < 9223372036854775808) : lN N - 730 = lN (N - 730) ∧ ¬ lN N - 730 < 0 ∧ (lN N - 730 ≤ 9 ↔ N ≤ 739) := by
  have e : lN N - 730 = lN (N - 730) := by
    rw [show (730 : Int64) = lN 730 by decide +kernel]
    exact lN_sub h
  refine ⟨e, ?_, ?_⟩
  · rw [e]
    intro w
    have a := Int64.lt_iff_toInt_lt.mp w
    rw [pk_lT (by omega), show (0 : Int64).toInt = 0 by decide +kernel] at a
    omega
  · rw [e, Int64.le_iff_toInt_le, pk_lT (by omega), show (9 : Int64).toInt = 9 by decide +kernel]
    omega
theorem zwn_63 {f : Nat → Int32} {p l : Nat} (h12 : l ≤ 12) (hc : ∀ j, j < l → zcN (f (p + j)) ≤ 36) : zwn f p l < 9223372036854775808 := by
  have h := zwn_lt (f := f) (p := p) l hc
  have : 37 ^ l ≤ 37 ^ 12 := Nat.pow_le_pow_right (by decide) h12
  have e : 37 ^ 12 < 9223372036854775808 := by decide +kernel
  omega
/-- one stream more -/
theorem BG.leaf {n : Nat} {f : Nat → Int32} {M t c cap : Nat} {i z s lf S Q oo : Nat} {cs : CS} {rs : RS} (h : BG n f M t c cap i z s lf S Q cs rs) (hl : lf < 3) : BG n f M t c cap i z s (lf + 1) S Q (sI (sQ cs 326 t lf (some oo)) 325 t (nI (lf + 1))) (setF rs 69 (nI (lf + 1))) := by
  have e : ∀ x y, ¬ (x = 325 ∧ y = t) → kI (sI (sQ cs 326 t lf (some oo)) 325 t (nI (lf + 1))) x y = kI cs x y := fun x y hx => u2_n hx
  exact ⟨⟨h.h.b, h.h.o, h.h.tk, h.h.rc, h.h.oc⟩, h.x, by rw [e 320 t (by omega)]; exact h.f0, by rw [e 328 t (by omega)]; exact h.ci, by rw [e 329 t (by omega)]; exact h.cz, by rw [e 64 c (by omega)]; exact h.cn, h.g1, h.ri, h.rz, h.rn, h.im, h.si, h.s2, h.z2, h.cp, h.ca, h.r73, h.kb, h.t37, h.c37, kI_s, rfl, hl, h.e326, h.p326, h.l326, h.rS, h.rQ⟩
theorem BG.deep {n : Nat} {f : Nat → Int32} {M t c cap : Nat} {i z s lf S Q : Nat} {cs : CS} {rs : RS} (h : BG n f M t c cap i z s lf S Q cs rs) (hz : z < 12) : BG n f M t c cap i (z + 1) s lf S Q (sI cs 329 t (nI (z + 1))) (setF rs 70 (nI (z + 1))) := by
  have e : ∀ x y, ¬ (x = 329 ∧ y = t) → kI (sI cs 329 t (nI (z + 1))) x y = kI cs x y := fun x y hx => u2_n hx
  exact ⟨⟨h.h.b, h.h.o, h.h.tk, h.h.rc, h.h.oc⟩, h.x, by rw [e 320 t (by omega)]; exact h.f0, by rw [e 328 t (by omega)]; exact h.ci, kI_s, by rw [e 64 c (by omega)]; exact h.cn, h.g1, h.ri, rfl, h.rn, h.im, h.si, h.s2, hz, h.cp, h.ca, h.r73, h.kb, h.t37, h.c37, by rw [e 325 t (by omega)]; exact h.cl, h.rl, h.l3, h.e326, h.p326, h.l326, h.rS, h.rQ⟩
theorem BG.rise {n : Nat} {f : Nat → Int32} {M t c cap : Nat} {i z s lf S Q : Nat} {cs : CS} {rs : RS} (h : BG n f M t c cap i (z + 1) s lf S Q cs rs) : BG n f M t c cap i z s lf S Q (sI cs 329 t (nI z)) (setF rs 70 (nI z)) := by
  have e : ∀ x y, ¬ (x = 329 ∧ y = t) → kI (sI cs 329 t (nI z)) x y = kI cs x y := fun x y hx => u2_n hx
  have hz := h.z2
  exact ⟨⟨h.h.b, h.h.o, h.h.tk, h.h.rc, h.h.oc⟩, h.x, by rw [e 320 t (by omega)]; exact h.f0, by rw [e 328 t (by omega)]; exact h.ci, kI_s, by rw [e 64 c (by omega)]; exact h.cn, h.g1, h.ri, rfl, h.rn, h.im, h.si, h.s2, by omega, h.cp, h.ca, h.r73, h.kb, h.t37, h.c37, by rw [e 325 t (by omega)]; exact h.cl, h.rl, h.l3, h.e326, h.p326, h.l326, h.rS, h.rQ⟩
/-- a stream's name in both: laid, or a fault in both -/
theorem leaf_g {n : Nat} {f : Nat → Int32} {M t c cap : Nat} {F i z s lf S Q oo j e : Nat} {T' : TG_queryOf} {cs : CS} {rs : RS} {x2 x3 : Int32} (hF : 10000 ≤ F) (b : BG n f M t c cap i z s lf S Q cs rs) (o7 : (7, oo) ∈ kE cs) (ho : 37 < oo ∧ t < oo ∧ c < oo) (hj : j < 180) : ∃ cs' rs', c_X9_readLeaf F cs t oo = some cs' ∧ (Option.bind (m_isName F rs) fun v_40 => if v_40 = 0 then (m_source_b296 F T' rs (nI e) x2 x3 (nI j)) else (Option.bind (rdI (rs.2.2.1 16) 2001 (rs.1 18)) fun v_42 => if v_42 = 2 then (Option.bind (rdI (rs.2.2.1 15) 2001 (rs.1 18)) fun v_44 => Option.bind (rdI (rs.2.2.1 2) 2000 v_44) fun v_45 => if v_45 = 115 then (Option.bind (rdI (rs.2.2.1 15) 2001 (rs.1 18)) fun v_47 => Option.bind (rdI (rs.2.2.1 2) 2000 (v_47 + 1)) fun v_48 => Option.bind (m_isDigit F rs v_48) fun v_49 => if v_49 = 0 then (m_source_b296 F T' rs (nI e) x2 x3 (nI j)) else (if ((setF rs 69 ((rs.1 69) + 1)).1 69) = 4 then (Option.bind (rdI ((setF rs 69 ((rs.1 69) + 1)).2.2.1 15) 2001 ((setF rs 69 ((rs.1 69) + 1)).1 18)) fun v_52 => Option.bind (m_tell F (setF rs 69 ((rs.1 69) + 1)) 7 v_52) fun cs_53 => m_source_b226 F T' cs_53 (nI e) x2 x3 (nI j)) else (m_source_b226 F T' (setF rs 69 ((rs.1 69) + 1)) (nI e) x2 x3 (nI j)))) else (m_source_b296 F T' rs (nI e) x2 x3 (nI j))) else (m_source_b296 F T' rs (nI e) x2 x3 (nI j)))) = m_source_b300 F T' rs' (nI e) x2 x3 (nI j) ∧ ((∃ d, d ≤ 9 ∧ lf < 3 ∧ i < M ∧ cs' = sI (sI (sQ (sI cs 224 oo (nI d)) 326 t lf (some oo)) 325 t (nI (lf + 1))) 328 t (nI (i + 1)) ∧ rs' = setF (setI (setI (setI (setF rs 69 (nI (lf + 1))) 49 j (nI d)) 50 j (kA cs 353 9 i)) 53 j (-1)) 18 (nI (i + 1))) ∨ (∃ a v, a ≠ 0 ∧ cs' = sI (sI cs 320 t a) 321 t v ∧ PB t c cs' rs')) := by
  obtain ⟨p, κ, hk, hka, hkb, kd, hkl, pr⟩ := b.jt.tok (F := F)
  have hin := ina_ok (F := F) hF b.x b.im hk b.g1 b.ri
  have nu := num_ok (F := F) b.h b.ci b.jt.i2
  have hh := her_ok (F := F) b.h b.ci b.jt.i2
  have nz : ¬ (1 : Int32) = 0 := by decide
  have l3 := b.l3
  have mn := b.x.mn
  have n2 := b.x.n2
  have i2 := b.jt.i2
  obtain ⟨j326, p326⟩ := b.p326
  -- both refuse this token
  have bad1 : m_source_b296 F T' rs (nI e) x2 x3 (nI j) = m_source_b300 F T' (setF (setF (setF rs 21 0) 19 1) 20 (kA cs 353 9 i)) (nI e) x2 x3 (nI j) := by
    unfold m_source_b296
    rw [wro_ok b.g1 b.ri i2, ob_s, pr]
  have pb1 := b.jt.bad (a := 1) (b := kA cs 353 9 i) (by decide)
  have cb1 : c_X9_readLeaf_b32 F cs t = some (sI (sI cs 320 t 1) 321 t (kA cs 353 9 i)) := by
    unfold c_X9_readLeaf_b32 c_X9_readLeaf_b105
    rw [ckE_ok b.h.o, ob_s, hh, ob_s, ob_s, ref_ok b.h b.f0, ob_s]
  unfold c_X9_readLeaf
  rw [ckE_ok b.h.o, ob_s, nu, ob_s, ob_s, kd, ob_s, hin, ob_s, ob_s]
  by_cases y : κ = 39
  · rw [if_pos (show nI κ = 39 by rw [y]; decide), if_pos y, if_neg nz, b.ri, rdI_n i2 (by decide), ob_s]
    have hiM : i < M := by
      have := b.im
      rcases Nat.lt_or_ge i M with w | w
      · exact w
      · have := hkb (by omega); omega
    obtain ⟨-, l, l1, l2, l3', l4, l5, l6, -, -⟩ := hk.wd (by omega)
    have hbs : ∀ x, x < l → zisB (f (p + x)) := fun x hx => b.x.by' (p + x) (by omega)
    have h63 := zwn_63 (f := f) (p := p) l2 (fun x hx => ((cN_k (hbs x hx) (l6 x hx)).2).2)
    rw [l4, l5]
    have pp : rs.2.2.1 15 i = nI p := hk.pr
    rcases leafn (f := f) (p := p) l1 hbs l6 with ⟨n1, n3, n4, n5, n6, n7⟩ | ⟨n1, n3⟩
    · obtain ⟨e1, e2, e3⟩ := dig_ok n1 h63
      have tp : rs.2.2.1 2 p = 115 := by rw [b.x.tx p (by omega)]; exact n5
      have tp1 : rs.2.2.1 2 (p + 1) = f (p + 1) := b.x.tx (p + 1) (by omega)
      rw [if_neg e2, if_pos (e3.mpr n3), gI_ok b.h.o, ob_s, gA_ok b.h.o, p326, ob_s, lnA_n b.e326 p326, ob_s, b.l326, b.cl, if_pos (show nI l = 2 by rw [n4]; decide), rdI_n i2 (by decide), ob_s, pp, rdI_n (by omega) (by decide), ob_s, tp, if_pos rfl, ob_s, nI_1, rdI_n (by omega) (by decide), ob_s, tp1, m_dg, ob_s, n6, if_neg nz]
      have r69 : rs.1 69 = nI lf := b.rl
      rw [r69, nI_1]
      have s69 : (setF rs 69 (nI (lf + 1))).1 69 = nI (lf + 1) := rfl
      rw [s69]
      obtain ⟨d, hd⟩ : ∃ d, d = zwn f p l - 730 := ⟨_, rfl⟩
      by_cases h3 : lf < 3
      · rw [if_pos (show nI lf < nI 3 from nI_lt h3 (by decide)), if_neg (show ¬ nI (lf + 1) = 4 from fun w => by have := (nI_eq (b := 4) (by omega) (by decide)).mp w; omega), pI_ok o7, ob_s]
        have oA : (10, t) ∈ kE (sI cs 224 oo ((lN (zwn f p l) - 730).toInt32)) := b.h.o
        have o7A : (7, oo) ∈ kE (sI cs 224 oo ((lN (zwn f p l) - 730).toInt32)) := o7
        have eA : (358, t) ∈ kE (sI cs 224 oo ((lN (zwn f p l) - 730).toInt32)) := b.e326
        have pA : kP (sI cs 224 oo ((lN (zwn f p l) - 730).toInt32)) 326 t = some j326 := p326
        have lA : kL (sI cs 224 oo ((lN (zwn f p l) - 730).toInt32)) 326 t = 3 := b.l326
        have cA : kI (sI cs 224 oo ((lN (zwn f p l) - 730).toInt32)) 325 t = nI lf := (kI_n (by omega)).trans b.cl
        have ed : (lN (zwn f p l) - 730).toInt32 = nI d := by rw [e1, hd]; exact lN_i _
        rw [ed] at oA o7A eA pA lA cA ⊢
        rw [gA_ok oA, pA, ob_s, gI_ok oA, ob_s, cA, ckE_ok o7A, ob_s, wQ_n eA pA (by rw [lA]; exact h3) (by rw [lA]; decide), ob_s]
        have oB : (10, t) ∈ kE (sQ (sI cs 224 oo (nI d)) 326 t lf (some oo)) := b.h.o
        have cB : kI (sQ (sI cs 224 oo (nI d)) 326 t lf (some oo)) 325 t = nI lf := cA
        rw [gI_ok oB, ob_s, cB, nI_1, pI_ok oB, ob_s]
        have oC : (10, t) ∈ kE (sI (sQ (sI cs 224 oo (nI d)) 326 t lf (some oo)) 325 t (nI (lf + 1))) := b.h.o
        have cC : kI (sI (sQ (sI cs 224 oo (nI d)) 326 t lf (some oo)) 325 t (nI (lf + 1))) 328 t = nI i := by
          have w : AT cs (sI (sQ (sI cs 224 oo (nI d)) 326 t lf (some oo)) 325 t (nI (lf + 1))) 328 t := ((AT.sI (by omega)).trans (AT.sQ (by omega))).trans (AT.sI (by omega))
          exact w.i.trans b.ci
        rw [gI_ok oC, ob_s, cC, nI_1, pI_ok oC, ob_s]
        refine ⟨_, _, rfl, ?_, Or.inl ⟨d, by omega, h3, hiM, rfl, rfl⟩⟩
        unfold m_source_b226
        have gg : ¬ (setF rs 69 (nI (lf + 1))).1 21 = 0 := by
          rw [show (setF rs 69 (nI (lf + 1))).1 21 = rs.1 21 from rfl, b.g1]; decide
        have ri9 : (setF rs 69 (nI (lf + 1))).1 18 = nI i := b.ri
        rw [if_neg gg, ri9, rdI_n i2 (by decide), ob_s]
        show (Option.bind (rdI (rs.2.2.1 2) 2000 (rs.2.2.1 15 i + 1)) fun v_30 => Option.bind (wrI (setF rs 69 (nI (lf + 1))) 49 180 (nI j) (v_30 - 48)) _) = _
        rw [pp, nI_1, rdI_n (by omega) (by decide), ob_s, tp1, n7, ← hd, wrI_n hj (by decide), ob_s]
        show (Option.bind (rdI (rs.2.2.1 15) 2001 (rs.1 18)) fun v_32 => Option.bind (wrI (setI (setF rs 69 (nI (lf + 1))) 49 j (nI d)) 50 180 (nI j) v_32) _) = _
        rw [b.ri, rdI_n i2 (by decide), ob_s, pr, wrI_n hj (by decide), ob_s, wrI_n hj (by decide), ob_s]
        show m_source_b300 F T' (setF (setI (setI (setI (setF rs 69 (nI (lf + 1))) 49 j (nI d)) 50 j (kA cs 353 9 i)) 53 j (-1)) 18 (rs.1 18 + 1)) (nI e) x2 x3 (nI j) = _
        rw [b.ri, nI_1]
      · have e3' : lf = 3 := by omega
        subst e3'
        have j9 : JT n f M t c i cs (setF rs 69 (nI (3 + 1))) := ⟨b.h, b.x, b.f0, b.ci, b.g1, b.ri, b.im⟩
        have pb := j9.bad (a := 7) (b := kA cs 353 9 i) (by decide)
        rw [if_neg (show ¬ nI 3 < nI 3 by decide), if_pos (show nI (3 + 1) = 4 by decide), hh, ob_s, ob_s, ref_ok b.h b.f0, ob_s]
        have ri9 : (setF rs 69 (nI (3 + 1))).1 18 = nI i := b.ri
        rw [ri9]
        show ∃ cs' rs', c_X9_readLeaf_b105 F (sI (sI cs 320 t 7) 321 t (kA cs 353 9 i)) = some cs' ∧ (Option.bind (rdI (rs.2.2.1 15) 2001 (nI i)) fun v_52 => Option.bind (m_tell F (setF rs 69 (nI (3 + 1))) 7 v_52) fun cs_53 => m_source_b226 F T' cs_53 (nI e) x2 x3 (nI j)) = _ ∧ _
        rw [rdI_n i2 (by decide), ob_s, pr, tel_ok j9.g1, ob_s]
        unfold m_source_b226
        rw [if_pos pb.r.g]
        exact ⟨_, _, rfl, rfl, Or.inr ⟨7, _, by decide, rfl, pb⟩⟩
    · have cls : (if lN (zwn f p l) - 730 < 0 then c_X9_readLeaf_b32 F cs t else if lN (zwn f p l) - 730 ≤ 9 then (Option.bind (gI cs 10 325 t) fun v_12 => Option.bind (gA cs 10 326 t) fun v_13 => Option.bind (lnA cs 326 t v_13) fun v_14 => if v_12 < v_14 then (Option.bind (pI cs 7 224 oo ((lN (zwn f p l) - 730).toInt32)) fun cs_16 => Option.bind (gA cs_16 10 326 t) fun v_17 => Option.bind (gI cs_16 10 325 t) fun v_18 => Option.bind (ckE cs_16 7 oo) fun _ => Option.bind (wQ cs_16 326 t v_17 v_18 (some oo)) fun cs_19 => Option.bind (gI cs_19 10 325 t) fun v_20 => Option.bind (pI cs_19 10 325 t (v_20 + 1)) fun cs_21 => Option.bind (gI cs_21 10 328 t) fun v_22 => Option.bind (pI cs_21 10 328 t (v_22 + 1)) fun cs_23 => c_X9_readLeaf_b105 F cs_23) else (Option.bind (c_X9_here F cs t) fun v_24 => Option.bind (some ()) fun _ => Option.bind (c_X9_refuse F cs t 7 v_24) fun cs_26 => c_X9_readLeaf_b105 F cs_26)) else c_X9_readLeaf_b32 F cs t) = c_X9_readLeaf_b32 F cs t := by
        by_cases w : zwn f p l < 730
        · rw [if_pos (dig_lt _ w)]
        · obtain ⟨e1, e2, e3⟩ := dig_ok (by omega) h63
          rw [if_neg e2, if_neg (fun w2 => by have := e3.mp w2; omega)]
      rw [cls, cb1]
      refine ⟨_, _, rfl, ?_, Or.inr ⟨1, _, by decide, rfl, pb1⟩⟩
      by_cases w2 : l = 2
      · rw [if_pos (show nI l = 2 by rw [w2]; decide), rdI_n i2 (by decide), ob_s, pp, rdI_n (by omega) (by decide), ob_s]
        by_cases w3 : rs.2.2.1 2 p = 115
        · have tp1 : rs.2.2.1 2 (p + 1) = f (p + 1) := b.x.tx (p + 1) (by omega)
          have dg0 := n3 w2 (by rw [← b.x.tx p (by omega)]; exact w3)
          rw [if_pos w3, ob_s, nI_1, rdI_n (by omega) (by decide), ob_s, tp1, m_dg, ob_s, dg0, if_pos rfl]
          exact bad1
        · rw [if_neg w3]
          exact bad1
      · rw [if_neg (show ¬ nI l = 2 from fun w => w2 ((nI_eq (b := 2) (by omega) (by decide)).mp w))]
        exact bad1
  · rw [if_neg (show ¬ nI κ = 39 from fun w => y ((nI_eq (b := 39) (by omega) (by decide)).mp w)), if_neg y, if_pos rfl, cb1]
    exact ⟨_, _, rfl, bad1, Or.inr ⟨1, _, by decide, rfl, pb1⟩⟩

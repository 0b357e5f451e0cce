/-! a SOURCE of the open SELECT: a stream -/
theorem b75_pb {F t c cap lf oo : Nat} {T : TC_X9_readQuery} {cs : CS} {rs : RS} (pb : PB t c cs rs) (h : WS t c cap lf cs) (ho : (7, oo) ∈ kE cs) (hr : t < oo ∧ c < oo) : ∃ cs', c_X9_readSource_b75 F T cs t oo = some (cs', oo) ∧ PB t c cs' rs ∧ WS t c cap lf cs' ∧ cs'.1 = cs.1 ∧ ∀ x y, y ≠ oo → AT cs cs' x y := by
  obtain ⟨v3, u3, e3⟩ := b75_f (F := F) (T := T) (oo := oo) h ho ⟨by omega, by omega⟩
  have gC : GF t oo cs (sJ (sI cs 229 oo v3) 228 oo u3) := GF.gw ((GW.sI (Nat.le_refl _)).trans (GW.sJ (Nat.le_refl _)))
  have wC := h.gf gC h.kb hr.1 hr.2
  exact ⟨_, e3, pb.gf wC.f gC hr.1, wC, rfl, fun x y h1 => (AT.sI (by omega)).trans (AT.sJ (by omega))⟩
theorem TF.ws {n : Nat} {f : Nat → Int32} {M t c cap : Nat} {i z s lf S Q oo : Nat} {cs cs' : CS} {rs rs' : RS} (h : TF t c oo cs cs' rs') (b : BG n f M t c cap i z s lf S Q cs rs) (ho : t < oo ∧ c < oo) : WS t c cap lf cs' := by
  obtain ⟨h1, h2, h3⟩ := h
  have a325 := h3 325 t (by omega) (by omega)
  have a326 := h3 326 t (by omega) (by omega)
  have cp := b.cp
  have em : EM cs cs' := EM.of (congrArg (fun z => z.2.2) h2)
  refine ⟨h1.s, b.kb.of h2, b.ca.gw em (fun x x1 x2 => h3 x c (by omega) (by omega)), by omega, b.t37, b.c37, by rw [a325.i]; exact b.cl, b.l3, em _ b.e326, by rw [a326.p]; exact b.p326, by rw [a326.l]; exact b.l326⟩
theorem kQ_u {cs : CS} {t oo lf k : Nat} {v : Option Nat} {a b d : Int32} : kQ (sI (sI (sQ (sI cs 224 oo a) 326 t lf v) 325 t b) 328 t d) 326 t k = if k = lf then v else kQ cs 326 t k := by
  show u2 (kQ cs) 326 t (va_up (kQ cs 326 t) lf v) 326 t k = _
  rw [u2_s]
  rfl
/-- a new SOURCE whose place is known -/
def SN (oo : Nat) (v : Int32) (cs : CS) : Prop := ((7, oo) ∈ kE cs) ∧ (kI cs 224 oo = -1) ∧ (kR cs 225 oo = none) ∧ (kI cs 226 oo = v) ∧ (kJ cs 230 oo = -1) ∧ (kI cs 231 oo = 0) ∧ (kI cs 233 oo = -1) ∧ (kR cs 235 oo = some (oo + 1)) ∧ (CLM (oo + 1) 0 cs)
theorem SN.e {oo : Nat} {v : Int32} {cs : CS} (h : SN oo v cs) : (7, oo) ∈ kE cs := h.1
theorem SN.i224 {oo : Nat} {v : Int32} {cs : CS} (h : SN oo v cs) : kI cs 224 oo = -1 := h.2.1
theorem SN.r225 {oo : Nat} {v : Int32} {cs : CS} (h : SN oo v cs) : kR cs 225 oo = none := h.2.2.1
theorem SN.i226 {oo : Nat} {v : Int32} {cs : CS} (h : SN oo v cs) : kI cs 226 oo = v := h.2.2.2.1
theorem SN.j230 {oo : Nat} {v : Int32} {cs : CS} (h : SN oo v cs) : kJ cs 230 oo = -1 := h.2.2.2.2.1
theorem SN.i231 {oo : Nat} {v : Int32} {cs : CS} (h : SN oo v cs) : kI cs 231 oo = 0 := h.2.2.2.2.2.1
theorem SN.i233 {oo : Nat} {v : Int32} {cs : CS} (h : SN oo v cs) : kI cs 233 oo = -1 := h.2.2.2.2.2.2.1
theorem SN.r235 {oo : Nat} {v : Int32} {cs : CS} (h : SN oo v cs) : kR cs 235 oo = some (oo + 1) := h.2.2.2.2.2.2.2.1
theorem SN.cc {oo : Nat} {v : Int32} {cs : CS} (h : SN oo v cs) : CLM (oo + 1) 0 cs := h.2.2.2.2.2.2.2.2
theorem src_new {n : Nat} {f : Nat → Int32} {M t c cap : Nat} {i z s lf S Q F : Nat} {T : TC_X9_readQuery} {cs : CS} {rs : RS} (b : BG n f M t c cap i z s lf S Q cs rs) : ∃ c2, (cb_X9_readSource F T cs t = Option.bind (c_X9_kind F c2 t) fun v_28 => if v_28 = 41 then (Option.bind (c_X9_deepen F c2 t) fun cs_31 => Option.bind (ckE cs_31 10 t) fun _ => Option.bind (c_X9_expect F cs_31 t 41) fun cs_33 => Option.bind (ckE cs_33 10 t) fun _ => Option.bind (T.1 cs_33 t) fun z_35 => c_X9_readSource_b40 F T z_35.1 t (kK cs) z_35.2 (kK cs)) else (Option.bind (c_X9_readLeaf F c2 t (kK cs)) fun cs_37 => c_X9_readSource_b75 F T cs_37 t (kK cs))) ∧ BG n f M t c cap i z s lf S Q c2 rs ∧ SN (kK cs) (kA cs 353 9 i) c2 ∧ kK c2 = kK cs + 6 ∧ kM c2 = kM cs + 49 ∧ EM cs c2 ∧ (∀ x j, j < kK cs → AT cs c2 x j) := by
  have t0 := b.t0
  have c0 := b.c0
  have t37 := b.t37
  have c37 := b.c37
  obtain ⟨c1, cl, e1, kb1, gw1, ecl, k1, m1, ns⟩ := new_source (F := F) b.kb
  obtain ⟨oo, hoo⟩ : ∃ x, x = kK cs := ⟨_, rfl⟩
  rw [← hoo] at e1 gw1 ns ecl k1 t0 c0 ⊢
  subst ecl
  have b1 : BG n f M t c cap i z s lf S Q c1 rs := b.mv gw1.1 kb1 (fun x j hj => gw1.2.2 x j (by omega)) (fun x _ _ _ _ => gw1.2.2 x t t0) (fun x _ _ => gw1.2.2 x c c0) (fun _ _ _ _ _ => rfl) (fun _ _ => ⟨rfl, rfl⟩) b.rS b.rQ
  have hh := her_ok (F := F) b1.h b1.ci b1.jt.i2
  have pl : kA c1 353 9 = kA cs 353 9 := (gw1.2.2 353 9 (by omega)).a
  rw [pl] at hh
  have b2 : BG n f M t c cap i z s lf S Q (sI c1 226 oo (kA cs 353 9 i)) rs := b1.obj (oo := oo) rfl (fun x y hy => AT.sI (by omega)) ⟨by omega, t0, c0⟩
  have a2 : ∀ x y, ¬ (x = 226 ∧ y = oo) → AT c1 (sI c1 226 oo (kA cs 353 9 i)) x y := fun x y h => AT.sI h
  refine ⟨sI c1 226 oo (kA cs 353 9 i), ?_, b2, ⟨ns.e, by rw [(a2 224 oo (by omega)).i]; exact ns.i224, ns.r225, kI_s, ns.j230, by rw [(a2 231 oo (by omega)).i]; exact ns.i231, by rw [(a2 233 oo (by omega)).i]; exact ns.i233, ns.r235, ns.cc.keep EM.refl (fun x x1 x2 => a2 x _ (by omega))⟩, k1, m1, gw1.1, fun x j hj => (gw1.2.2 x j hj).trans (a2 x j (by omega))⟩
  unfold cb_X9_readSource c_X9_readSource_b3 c_X9_readSource_b7
  rw [nwO_ok b.kb, ob_s, ← hoo, e1, ob_s, ckE_ok b1.h.o, ob_s, hh, ob_s, pI_ok ns.e, ob_s, ckE_ok b2.h.o, ob_s, ob_s, ob_s]
/-- what a SOURCE leaves, read or a fault -/
def SRO (n : Nat) (f : Nat → Int32) (M t c cap d K0 S0 Q0 s0 l0 ql z : Nat) (u1 : Option Nat) (u2 : Int32) (cs0 : CS) (rs0 : RS) (o e it gr mi ns mg : Nat) (x2 x3 : Int32) (cs : CS) (cs' : CS) (rs' : RS) : Prop := (∃ i' s' lf' S' Q', SG none n f M t c cap d K0 S0 Q0 s0 l0 ql z u1 u2 cs0 rs0 o e it gr mi ns (ns + 1) mg i' s' lf' S' Q' cs' rs' ∧ (∃ S9 sv, (e < S9 ∧ S9 ≤ S' ∧ (rs'.2.2.1 49 (3 * e + ns) ≠ -1 → sv = 0)) ∧ OSA (QB S9 (QR X0 n f M c s' S' Q' cs' rs' d)) X0 n f M c s' K0 (kK cs) ql o e it gr mi ns (ns + 1) mg cs' rs' ∧ SRB (QR X0 n f M c s' S' Q' cs' rs' d sv) X0 n f M c (kK cs) (kK cs') S9 ql (kK cs) (3 * e + ns) cs' rs') ∧ kI cs' 231 (kK cs) = 0 ∧ kI cs' 233 (kK cs) = -1 ∧ rs'.2.2.1 56 (3 * e + ns) = x2 ∧ rs'.2.2.1 57 (3 * e + ns) = x3 ∧ rs'.2.2.1 58 (3 * e + ns) = -1 ∧ kI cs' 198 o = kI cs 198 o) ∨ (∃ lf', FW t c cap K0 S0 l0 cs0 o it lf' (2400 + 10 * (12 - z)) cs' rs' ∧ (7, kK cs) ∈ kE cs')
theorem src_leaf {n : Nat} {f : Nat → Int32} {M t c cap : Nat} {d K0 S0 Q0 s0 l0 ql z o e it gr mi ns mg i s lf S Q : Nat} {u1 : Option Nat} {u2 : Int32} {cs0 cs : CS} {rs0 rs : RS} {F : Nat} {T : TC_X9_readQuery} {T' : TG_queryOf} {c2 : CS} {x2 x3 : Int32} (hF : 10000 ≤ F) (g : SG none n f M t c cap d K0 S0 Q0 s0 l0 ql z u1 u2 cs0 rs0 o e it gr mi ns ns mg i s lf S Q cs rs) (hx : x2 = 0 ∨ x2 = 1) (b2 : BG n f M t c cap i z s lf S Q c2 rs) (sn : SN (kK cs) (kA cs 353 9 i) c2) (k2 : kK c2 = kK cs + 6) (m2 : kM c2 = kM cs + 49) (em2 : EM cs c2) (a2 : ∀ x j, j < kK cs → AT cs c2 x j) : ∃ cs' rs', (Option.bind (c_X9_readLeaf F c2 t (kK cs)) fun cs_37 => c_X9_readSource_b75 F T cs_37 t (kK cs)) = some (cs', kK cs) ∧ (Option.bind (m_isName F rs) fun v_40 => if v_40 = 0 then (m_source_b296 F T' rs (nI e) x2 x3 (nI (3 * e + ns))) else (Option.bind (rdI (rs.2.2.1 16) 2001 (rs.1 18)) fun v_42 => if v_42 = 2 then (Option.bind (rdI (rs.2.2.1 15) 2001 (rs.1 18)) fun v_44 => Option.bind (rdI (rs.2.2.1 2) 2000 v_44) fun v_45 => if v_45 = 115 then (Option.bind (rdI (rs.2.2.1 15) 2001 (rs.1 18)) fun v_47 => Option.bind (rdI (rs.2.2.1 2) 2000 (v_47 + 1)) fun v_48 => Option.bind (m_isDigit F rs v_48) fun v_49 => if v_49 = 0 then (m_source_b296 F T' rs (nI e) x2 x3 (nI (3 * e + ns))) else (if ((setF rs 69 ((rs.1 69) + 1)).1 69) = 4 then (Option.bind (rdI ((setF rs 69 ((rs.1 69) + 1)).2.2.1 15) 2001 ((setF rs 69 ((rs.1 69) + 1)).1 18)) fun v_52 => Option.bind (m_tell F (setF rs 69 ((rs.1 69) + 1)) 7 v_52) fun cs_53 => m_source_b226 F T' cs_53 (nI e) x2 x3 (nI (3 * e + ns))) else (m_source_b226 F T' (setF rs 69 ((rs.1 69) + 1)) (nI e) x2 x3 (nI (3 * e + ns))))) else (m_source_b296 F T' rs (nI e) x2 x3 (nI (3 * e + ns)))) else (m_source_b296 F T' rs (nI e) x2 x3 (nI (3 * e + ns))))) = some rs' ∧ SRO n f M t c cap d K0 S0 Q0 s0 l0 ql z u1 u2 cs0 rs0 o e it gr mi ns mg x2 x3 cs cs' rs' := by
  obtain ⟨k1, k2', k3, k4⟩ := g.os.od
  obtain ⟨x1, xe, x3', x4, x5, x6⟩ := g.ix
  obtain ⟨y1, y2, y3⟩ := g.kx
  have e60 := g.os.e60
  have h52 := g.cnt
  have l3 := g.b.l3
  have n3 := g.os.n3
  have z2 := g.b.z2
  have t0 := g.b.t0
  have c0 := g.b.c0
  have t37 := g.b.t37
  have rn := g.os.rn
  obtain ⟨j, hj⟩ : ∃ j, j = 3 * e + ns := ⟨_, rfl⟩
  obtain ⟨oo, hoo⟩ : ∃ x, x = kK cs := ⟨_, rfl⟩
  rw [← hj]
  rw [← hoo] at sn k2 t0 c0 ⊢
  have h180 : j < 180 := by omega
  have ho : 37 < oo ∧ t < oo ∧ c < oo := ⟨by omega, t0, c0⟩
  obtain ⟨c3, r3, q1, q2, q3⟩ := leaf_g (F := F) (e := e) (T' := T') (x2 := x2) (x3 := x3) hF b2 sn.e ho h180
  rw [q1, ob_s, q2]
  rcases q3 with ⟨d', d9, h3, hiM, ec3, er3⟩ | ⟨a, v, ha, ec3, pb⟩
  · have b3 : BG n f M t c cap (i + 1) z s (lf + 1) S Q c3 r3 := by
      rw [ec3, er3]
      have bA : BG n f M t c cap i z s lf S Q (sI c2 224 oo (nI d')) rs := b2.obj (oo := oo) rfl (fun x y hy => AT.sI (by omega)) ho
      have bB := bA.leaf (oo := oo) h3
      have bC : BG n f M t c cap i z s (lf + 1) S Q (sI (sQ (sI c2 224 oo (nI d')) 326 t lf (some oo)) 325 t (nI (lf + 1))) (setI (setI (setI (setF rs 69 (nI (lf + 1))) 49 j (nI d')) 50 j (kA c2 353 9 i)) 53 j (-1)) := bB.arr rfl (fun k hk => ⟨((if_neg (by omega)).trans (if_neg (by omega))).trans (if_neg (by omega)), rfl⟩)
      exact bC.next hiM
    have a3 : ∀ x y, ¬ (y = oo ∧ x = 224) → ¬ (y = t ∧ (x = 325 ∨ x = 326 ∨ x = 328)) → AT c2 c3 x y := fun x y h1 h2 => by
      rw [ec3]
      exact (((AT.sI (by omega)).trans (AT.sQ (by omega))).trans (AT.sI (by omega))).trans (AT.sI (by omega))
    have q31 : c3.1 = c2.1 := by rw [ec3]; rfl
    have v224 : kI c3 224 oo = nI d' := by
      rw [ec3]
      exact ((kI_n (by omega)).trans (kI_n (by omega))).trans (kI_s (cs := c2))
    have vq : ∀ k, kQ c3 326 t k = if k = lf then some oo else kQ c2 326 t k := fun k => by
      rw [ec3]
      exact kQ_u
    have ra3 : ∀ k y, ¬ (y = j ∧ (k = 49 ∨ k = 50 ∨ k = 53)) → r3.2.2.1 k y = rs.2.2.1 k y := fun k y hk => by
      rw [er3]
      show (if k = 53 then upd (rs.2.2.1 53) j (-1) else if k = 50 then upd (rs.2.2.1 50) j (kA c2 353 9 i) else if k = 49 then upd (rs.2.2.1 49) j (nI d') else rs.2.2.1 k) y = _
      by_cases w1 : k = 53
      · subst w1
        rw [if_pos rfl]
        exact pk_un (by omega)
      rw [if_neg w1]
      by_cases w2 : k = 50
      · subst w2
        rw [if_pos rfl]
        exact pk_un (by omega)
      rw [if_neg w2]
      by_cases w3 : k = 49
      · subst w3
        rw [if_pos rfl]
        exact pk_un (by omega)
      rw [if_neg w3]
    have rv3 : r3.2.2.1 49 j = nI d' ∧ r3.2.2.1 50 j = kA c2 353 9 i ∧ r3.2.2.1 53 j = -1 := by
      rw [er3]
      exact ⟨pk_us, pk_us, pk_us⟩
    have rl3 : r3.2.2.2 = rs.2.2.2 ∧ r3.2.1 = rs.2.1 := by rw [er3]; exact ⟨rfl, rfl⟩
    have rf3 : ∀ k, k ≠ 18 → k ≠ 69 → r3.1 k = rs.1 k := fun k h1 h2 => by
      rw [er3]
      exact (pk_un h1).trans (pk_un h2)
    have p2 : kA c2 353 9 = kA cs 353 9 := (a2 353 9 (by omega)).a
    have e3 : (7, oo) ∈ kE c3 := by
      have : kE c3 = kE c2 := congrArg (fun z => z.2.2) q31
      rw [this]; exact sn.e
    obtain ⟨cs', rs', t1, t2, t3⟩ := src_tail (T := T) (T' := T') (x2 := x2) (x3 := x3) (e := e) (ns := ns) (j := j) hF b3 e3 ho h180 e60 (by rw [ra3 37 e (by omega)]; exact rn) hx (Or.inl ⟨by rw [(a3 225 oo (by omega) (by omega)).r]; exact sn.r225, by rw [rv3.1]; exact nI_nm1 (by omega)⟩) (by rw [(a3 230 oo (by omega) (by omega)).j]; exact sn.j230)
    refine ⟨cs', rs', t1, t2, ?_⟩
    rcases t3 with ⟨i', b', q', a', f', r', l', w', n37, nm, v56, v57, v58, kp⟩ | tf
    · have q2' : cs'.1 = c2.1 := q'.trans q31
      have em : EM cs cs' := em2.trans (EM.of (congrArg (fun z => z.2.2) q2'))
      have kk : kK cs' = kK c2 := congrArg (fun z => z.1) q2'
      have km : kM cs' = kM c2 := congrArg (fun z => z.2.1) q2'
      have ac : ∀ x y, y < oo → ¬ (y = t ∧ (x = 325 ∨ x = 326 ∨ x = 328)) → AT cs cs' x y := fun x y h1 h2 => ((a2 x y (by omega)).trans (a3 x y (by omega) (by omega))).trans (a' x y (by omega) (by omega))
      have ra : ∀ k y, ¬ (y = j ∧ 49 ≤ k ∧ k ≤ 58) → ¬ (y = e ∧ k = 37) → rs'.2.2.1 k y = rs.2.2.1 k y := fun k y h1 h2 => (r' k y (by omega) h2).trans (ra3 k y (by omega))
      have rl : ∀ k y, ¬ (y = j ∧ k = 52) → rs'.2.2.2 k y = rs.2.2.2 k y := fun k y h => by rw [l' k y h, rl3.1]
      have r33 : ∀ k, k ≤ 33 → rs'.2.2.1 k = rs.2.2.1 k ∧ rs'.2.2.2 k = rs.2.2.2 k := fun k hk => ⟨funext (fun y => ra k y (by omega) (by omega)), funext (fun y => rl k y (by omega))⟩
      have fq : ∀ k, k < lf → kQ cs' 326 t k = kQ cs 326 t k := fun k hk => by
        rw [(a' 326 t (by omega) (by omega)).q, vq k, if_neg (by omega), (a2 326 t (by omega)).q]
      have p : PZ t c (kK cs) S Q s lf e ns cs rs cs' rs' := by
        refine ⟨em, by omega, fun x y h1 h2 h3 => ac x y (by omega) (by omega), fun x hx => ac x t (by omega) (by omega), fun x _ => congrFun (VW.eq (fun x x1 x2 => ac x c (by omega) (by omega)) r33) x, ⟨(ac 352 9 (by omega) (by omega)).a, (ac 353 9 (by omega) (by omega)).a, (ac 354 9 (by omega) (by omega)).b, (r33 14 (by decide)).1, (r33 15 (by decide)).1, (r33 16 (by decide)).1, (r33 17 (by decide)).2, (r33 2 (by decide)).1⟩, ⟨⟨Or.inr (by rw [w', rl3.2]), fun k hk => ?_⟩, fun k y h1 h2 h3 h4 h5 => ra k y (by omega) (by omega), fun y h1 h2 => rl 52 y (by omega)⟩, fq⟩
        unfold pR' at hk
        exact ⟨by rw [f' k (by omega), rf3 k (by omega) (by omega)], funext (fun y => ra k y (by omega) (by omega)), funext (fun y => rl k y (by omega))⟩
      have r3f : kR cs' 330 t = some o := by rw [(ac 330 t (by omega) (by omega)).r]; exact g.r3
      have r7f : rs'.1 71 = nI e := by rw [f' 71 (by decide), rf3 71 (by decide) (by decide)]; exact g.r7
      have v224' : kI cs' 224 oo = nI d' := by rw [(a' 224 oo (by omega) (by omega)).i]; exact v224
      have v49' : rs'.2.2.1 49 j = nI d' := by rw [r' 49 j (by omega) (by omega)]; exact rv3.1
      have hn : ns < 3 := by
        have := g.ct
        omega
      have hE3 : (7, oo) ∈ kE cs' := by
        have : kE cs' = kE c3 := congrArg (fun z => z.2.2) q'
        rw [this]; exact e3
      have sm : SM t (lf + 1) S cs' rs' := by
        refine g.sm.leaf (e := e) (ns := ns) (oo := oo) (d := d') g.b.kb em fq (fun y hy => ⟨ac 224 y (by omega) (by omega), ac 230 y (by omega) (by omega)⟩) ?_ hE3 (fun y hy => ra 37 y (by omega) (by omega)) rn n37 (fun y hy => ⟨ra 49 y (by omega) (by omega), ra 51 y (by omega) (by omega), rl 52 y (by omega)⟩) hn xe v224' (by rw [← hj]; exact v49') d9 ?_
        · rw [(a' 326 t (by omega) (by omega)).q, vq lf, if_pos rfl]
        · rw [← hj]
          rcases kp with y | y
          · exact Or.inl y
          · exact Or.inr ⟨y.2.1, y.2.2.1⟩
      obtain ⟨sg, so0⟩ := g.srcup p b' sm r3f r7f (Nat.le_refl _) (Nat.le_refl _) (Nat.le_refl _) (by omega) (by omega) (by omega) (Or.inr ⟨rfl, rfl⟩) g.qs n37
      have ao : ∀ x, ¬ (x = 224 ∨ x = 228 ∨ x = 229 ∨ x = 230) → AT c2 cs' x oo := fun x h => (a3 x oo (by omega) (by omega)).trans (a' x oo (by omega) (by omega))
      subst hoo
      subst hj
      refine Or.inl ⟨i', s, lf + 1, S, Q, sg, ⟨S, 0, ⟨g.ix.2.1, Nat.le_refl _, fun _ => rfl⟩, so0, ⟨hE3, by omega, by omega, nm, Or.inl ⟨d', d9, v224', v49', ?_, ?_, ?_, ?_⟩, ⟨kK cs + 1, by omega, by omega, ?_, ?_⟩⟩⟩, ?_, ?_, v56, v57, v58, (ac 198 o (by omega) (by omega)).i⟩
      · rw [(ao 225 (by omega)).r]; exact sn.r225
      · rw [(ao 226 (by omega)).i, r' 50 _ (by omega) (by omega), rv3.2.1, sn.i226, p2]
      · rw [r' 53 _ (by omega) (by omega)]; exact rv3.2.2
      · rcases kp with y | y
        · exact Or.inl y
        · exact Or.inr ⟨y.2.1, y.2.2.1, y.2.2.2⟩
      · rw [(ao 235 (by omega)).r]; exact sn.r235
      · exact sn.cc.keep (EM.of (congrArg (fun z => z.2.2) q2')) (fun x h1 h2 => (a3 x _ (by omega) (by omega)).trans (a' x _ (by omega) (by omega)))
      · rw [(ao 231 (by omega)).i]; exact sn.i231
      · rw [(ao 233 (by omega)).i]; exact sn.i233
    · have ws := tf.ws b3 ⟨t0, c0⟩
      obtain ⟨u1', u2', u3'⟩ := tf
      have q2' : cs'.1 = c2.1 := u2'.trans q31
      have kk : kK cs' = kK c2 := congrArg (fun z => z.1) q2'
      have km : kM cs' = kM c2 := congrArg (fun z => z.2.1) q2'
      have em' : EM c2 cs' := EM.of (congrArg (fun z => z.2.2) q2')
      refine Or.inr ⟨lf + 1, g.fwx u1' ws (em2.trans em') (fun x y h1 h2 h3 => ((a2 x y h1).trans (a3 x y (by omega) (by omega))).trans (u3' x y (by omega) (by omega))) (by omega) (by omega), by rw [hoo] at sn; exact em' _ sn.e⟩
  · have fo : FO (PX t c oo) c2 c3 := by
      rw [ec3]
      exact (FO.sI (Or.inl ⟨by decide, rfl⟩)).trans (FO.sI (Or.inl ⟨by decide, rfl⟩))
    have ws := b2.ws fo pb.s
    have e3 : (7, oo) ∈ kE c3 := by rw [fo.e]; exact sn.e
    obtain ⟨cs', w1, w2, w3, w4, w5⟩ := b75_pb (F := F) (T := T) pb ws e3 ⟨t0, c0⟩
    have q2' : cs'.1 = c2.1 := w4.trans fo.1
    have kk : kK cs' = kK c2 := congrArg (fun z => z.1) q2'
    have km : kM cs' = kM c2 := congrArg (fun z => z.2.1) q2'
    have em' : EM c2 cs' := EM.of (congrArg (fun z => z.2.2) q2')
    refine ⟨cs', r3, w1, m300_f pb.r, Or.inr ⟨lf, g.fwx w2 w3 (em2.trans em') (fun x y h1 h2 h3 => ((a2 x y h1).trans (AT.fo fo (by unfold PX; omega))).trans (w5 x y (by omega))) (by omega) (by omega), by rw [hoo] at sn; exact em' _ sn.e⟩⟩

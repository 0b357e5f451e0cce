/-! a whole SELECT -/
theorem sIa_n {rs : RS} {a x k j : Nat} {v : Int32} (h : ¬ (k = a ∧ j = x)) : (setI rs a x v).2.2.1 k j = rs.2.2.1 k j := by
  show (if k = a then upd (rs.2.2.1 a) x v else rs.2.2.1 k) j = _
  by_cases w : k = a
  · subst w
    rw [if_pos rfl]
    exact pk_un (by omega)
  · rw [if_neg w]
def inS (S : Nat) (rs : RS) : RS := setI (setI (setI (setI (setI (setI (setI (setI (setF (setF rs 34 (nI (S + 1))) 71 (nI S)) 36 S 0) 37 S 0) 38 S (-1)) 39 S 0) 40 S (-1)) 41 S (-1)) 42 S 0) 43 S (-1)
theorem inS_n {S k j : Nat} {rs : RS} (h : ¬ (36 ≤ k ∧ k ≤ 43 ∧ j = S)) : (inS S rs).2.2.1 k j = rs.2.2.1 k j := by
  unfold inS
  rw [sIa_n (by omega), sIa_n (by omega), sIa_n (by omega), sIa_n (by omega), sIa_n (by omega), sIa_n (by omega), sIa_n (by omega), sIa_n (by omega)]
  rfl
theorem setF_inS {S : Nat} {rs : RS} {y A : Int32} : setF (setI (inS S rs) 35 S y) 18 A = setI (inS S (setF rs 18 A)) 35 S y := by
  refine Prod.ext (funext fun k => ?_) rfl
  show upd (upd (upd rs.1 34 (nI (S + 1))) 71 (nI S)) 18 A k = upd (upd (upd rs.1 18 A) 34 (nI (S + 1))) 71 (nI S) k
  by_cases w1 : k = 18
  · subst w1
    rw [pk_us, pk_un (by decide), pk_un (by decide), pk_us]
  rw [pk_un w1]
  by_cases w2 : k = 71
  · subst w2
    rw [pk_us, pk_us]
  rw [pk_un w2, pk_un w2]
  by_cases w3 : k = 34
  · subst w3
    rw [pk_us, pk_us]
  rw [pk_un w3, pk_un w3, pk_un w1]
theorem bsel_1 {F S : Nat} {T : TG_queryOf} {rs r1 : RS} (e : m_needWord F rs 3 = some r1) (h34 : r1.1 34 = nI S) (hS : S < 60) : b_selectOf F T rs = Option.bind (m_isWord F (inS S r1) 4) fun v_92 => if v_92 = 0 then (m_selectOf_b116 F T (inS S r1) (nI S) (r1.1 71) (-1) (nI S)) else (Option.bind (rdI ((inS S r1).2.2.1 15) 2001 ((inS S r1).1 18)) fun v_94 => m_selectOf_b116 F T (inS S r1) (nI S) (r1.1 71) v_94 (nI S)) := by
  unfold b_selectOf
  rw [e, ob_s, h34, nI_1, wrI_n hS (by decide), ob_s, wrI_n hS (by decide), ob_s, wrI_n hS (by decide), ob_s, wrI_n hS (by decide), ob_s, wrI_n hS (by decide), ob_s, wrI_n hS (by decide), ob_s, wrI_n hS (by decide), ob_s, wrI_n hS (by decide), ob_s]
  rfl
theorem kR_v {cs : CS} {t o : Nat} {x : Option Nat} {v w : Int32} : kR (sI (sI (sR cs 330 t x) 193 o v) 192 o w) 330 t = x := u2_s
theorem sel_base {n : Nat} {f : Nat → Int32} {M t c cap : Nat} {d z i s lf S Q it gr : Nat} {cs c1 : CS} {rs : RS} {v L y : Int32} (b : BG n f M t c cap i z s lf S Q cs rs) (sm : SM t lf S cs rs) (p0 : S ≤ 13 * lf + z) (qs : Q ≤ S + 1) (kb1 : KB c1) (gw : GW (kK cs) cs c1) (eit : it = kK cs + 1) (egr : gr = kK cs + 7) (k1 : kK c1 = kK cs + 13) (m1 : kM c1 = kM cs + 104) (ns : NSL (kK cs) it gr c1) (hd : (L = 0 ∧ y = -1) ∨ (L = 1 ∧ y = v ∧ y ≠ -1)) : SG none n f M t c cap d (kK cs) S Q s lf Q z (kR cs 330 t) (rs.1 71) cs rs (kK cs) S it gr 0 0 0 0 i s lf (S + 1) Q (sI (sI (sR c1 330 t (some (kK cs))) 193 (kK cs) v) 192 (kK cs) L) (setI (inS S rs) 35 S y) := by
  have t0 := b.t0
  have c0 := b.c0
  have t37 := b.t37
  have c37 := b.c37
  have l3 := b.l3
  have z2 := b.z2
  obtain ⟨o, ho⟩ : ∃ x, x = kK cs := ⟨_, rfl⟩
  rw [← ho] at gw eit egr k1 ns t0 c0 ⊢
  have r3 : kR (sI (sI (sR c1 330 t (some o)) 193 o v) 192 o L) 330 t = some o := kR_v
  have v192 : kI (sI (sI (sR c1 330 t (some o)) 193 o v) 192 o L) 192 o = L := kI_s
  have v193 : kI (sI (sI (sR c1 330 t (some o)) 193 o v) 192 o L) 193 o = v := (kI_n (by omega)).trans kI_s
  have ca1 : ∀ x j, ¬ (x = 330 ∧ j = t) → ¬ (j = o ∧ (x = 192 ∨ x = 193)) → AT c1 (sI (sI (sR c1 330 t (some o)) 193 o v) 192 o L) x j := fun x j q1 q2 => ((AT.sR (by omega)).trans (AT.sI (by omega))).trans (AT.sI (by omega))
  have q1 : (sI (sI (sR c1 330 t (some o)) 193 o v) 192 o L).1 = c1.1 := rfl
  obtain ⟨c', hc'⟩ : ∃ x, x = sI (sI (sR c1 330 t (some o)) 193 o v) 192 o L := ⟨_, rfl⟩
  rw [← hc'] at r3 v192 v193 ca1 q1 ⊢
  have w35 : (setI (inS S rs) 35 S y).2.2.1 35 S = y := pk_us
  have w36 : (setI (inS S rs) 35 S y).2.2.1 36 S = 0 := pk_us
  have w37 : (setI (inS S rs) 35 S y).2.2.1 37 S = 0 := pk_us
  have w38 : (setI (inS S rs) 35 S y).2.2.1 38 S = -1 := pk_us
  have w39 : (setI (inS S rs) 35 S y).2.2.1 39 S = 0 := pk_us
  have w40 : (setI (inS S rs) 35 S y).2.2.1 40 S = -1 := pk_us
  have w41 : (setI (inS S rs) 35 S y).2.2.1 41 S = -1 := pk_us
  have w42 : (setI (inS S rs) 35 S y).2.2.1 42 S = 0 := pk_us
  have w43 : (setI (inS S rs) 35 S y).2.2.1 43 S = -1 := pk_us
  have ra : ∀ k j, ¬ (35 ≤ k ∧ k ≤ 43 ∧ j = S) → (setI (inS S rs) 35 S y).2.2.1 k j = rs.2.2.1 k j := fun k j h => (sIa_n (by omega)).trans (inS_n (by omega))
  have rf : ∀ k, k ≠ 34 → k ≠ 71 → (setI (inS S rs) 35 S y).1 k = rs.1 k := fun k h1 h2 => (pk_un h2).trans (pk_un h1)
  have f34 : (setI (inS S rs) 35 S y).1 34 = nI (S + 1) := by
    show upd (upd rs.1 34 (nI (S + 1))) 71 (nI S) 34 = _
    rw [pk_un (by decide), pk_us]
  have f71 : (setI (inS S rs) 35 S y).1 71 = nI S := by
    show upd (upd rs.1 34 (nI (S + 1))) 71 (nI S) 71 = _
    rw [pk_us]
  have rw0 : (setI (inS S rs) 35 S y).2.1 = rs.2.1 := rfl
  have rl : (setI (inS S rs) 35 S y).2.2.2 = rs.2.2.2 := rfl
  obtain ⟨r', hr'⟩ : ∃ x, x = setI (inS S rs) 35 S y := ⟨_, rfl⟩
  rw [← hr'] at w35 w36 w37 w38 w39 w40 w41 w42 w43 ra rf f34 f71 rw0 rl ⊢
  have em1 : EM c1 c' := EM.of (congrArg (fun z => z.2.2) q1)
  have kk : kK c' = kK c1 := congrArg (fun z => z.1) q1
  have km : kM c' = kM c1 := congrArg (fun z => z.2.1) q1
  have em : EM cs c' := gw.1.trans em1
  have ca : ∀ x j, j < o → ¬ (x = 330 ∧ j = t) → AT cs c' x j := fun x j h1 h2 => (gw.2.2 x j h1).trans (ca1 x j h2 (by omega))
  have r33 : ∀ k, k ≤ 33 → r'.2.2.1 k = rs.2.2.1 k ∧ r'.2.2.2 k = rs.2.2.2 k := fun k hk => ⟨funext (fun j => ra k j (by omega)), by rw [rl]⟩
  have b' : BG n f M t c cap i z s lf (S + 1) Q c' r' := b.mv em (kb1.of q1) (fun x j hj => ca x j (by omega) (by omega)) (fun x _ h1 _ _ => ca x t t0 (by omega)) (fun x _ _ => ca x c c0 (by omega)) (fun k h1 _ h2 _ => rf k h1 h2) r33 f34 (by rw [rf 59 (by decide) (by decide)]; exact b.rQ)
  have vw : VW c c' r' = VW c cs rs := VW.eq (fun x _ _ => ca x c c0 (by omega)) r33
  have tk : TKF cs rs c' r' := ⟨(ca 352 9 (by omega) (by omega)).a, (ca 353 9 (by omega) (by omega)).a, (ca 354 9 (by omega) (by omega)).b, (r33 14 (by decide)).1, (r33 15 (by decide)).1, (r33 16 (by decide)).1, (r33 17 (by decide)).2, (r33 2 (by decide)).1⟩
  have qf : QF S Q rs r' := by
    refine ⟨⟨Or.inr rw0, fun k hk => ?_⟩, fun k j a1 a2 a3 => ra k j (fun w => ?_), fun j _ => by rw [rl]⟩
    · unfold pR' at hk
      exact ⟨rf k (by omega) (by omega), funext (fun j => ra k j (by omega)), by rw [rl]⟩
    · unfold wd at a3
      rw [if_pos (by omega)] at a3
      omega
  have pd : PD t c o S Q s lf cs rs c' r' := ⟨em, by omega, fun x j a1 a2 a3 => ca x j a1 (by omega), fun x hx => ca x t t0 (by omega), fun x _ => congrFun vw x, tk, qf, fun k _ => by rw [(ca 326 t t0 (by omega)).q]⟩
  have ao : ∀ x, x ≠ 192 → x ≠ 193 → AT c1 c' x o := fun x h1 h2 => ca1 x o (by omega) (by omega)
  refine ⟨b', pd, ⟨em1 _ ns.e, ⟨Nat.le_refl _, by omega, by omega, by omega⟩, by omega, by rw [(ao 194 (by decide) (by decide)).r]; exact ns.r194, by rw [(ao 200 (by decide) (by decide)).r]; exact ns.r200, ns.ci.keep em1 (fun x a1 a2 => ca1 x it (by omega) (by omega)), ns.cg.keep em1 (fun x a1 a2 => ca1 x gr (by omega) (by omega)), em1 _ ns.e195, by rw [(ao 195 (by decide) (by decide)).p]; exact ns.p195, by rw [(ao 195 (by decide) (by decide)).l]; exact ns.l195, by rw [(ao 196 (by decide) (by decide)).i]; exact ns.i196, by omega, by omega, ?_, w36, w37, w39, Or.inl ⟨by rw [(ao 197 (by decide) (by decide)).i]; exact ns.i197, w38⟩, Or.inl ⟨by rw [(ao 201 (by decide) (by decide)).i]; exact ns.i201, w41⟩, Or.inl ⟨by rw [(ao 198 (by decide) (by decide)).i]; exact ns.i198, w40, rfl⟩, fun k hk => absurd hk (by omega), fun k hk => absurd hk (by omega), fun _ => gr + 1, fun _ => 0, fun _ => 0, Nat.lt_succ_self _, fun k hk => absurd hk (by omega), by show gr + 1 ≤ kK c'; omega, fun k hk => absurd hk (by omega), fun k k' _ hk => absurd hk (by omega), fun k hk => absurd hk (by omega)⟩, ⟨em1 _ ns.e202, by rw [(ao 202 (by decide) (by decide)).p]; exact ns.p202, by rw [(ao 202 (by decide) (by decide)).l]; exact ns.l202, ⟨0, by omega, by rw [(ao 203 (by decide) (by decide)).i]; exact ns.i203, w42, fun _ => w43, fun h => absurd h (by omega), fun j hj => absurd hj (by omega)⟩, fun x _ hx => ?_, fun x _ hx => ?_⟩, ⟨fun k hk => ?_, fun w => ?_⟩, r3, f71, ⟨Nat.le_refl _, by omega, Nat.le_refl _, Nat.le_refl _, Nat.le_refl _, Nat.le_refl _⟩, ⟨t0, c0, by omega⟩, by omega, by omega, Or.inl ⟨rfl, rfl, rfl⟩, p0, by omega⟩
  · rw [v192, v193, w35]
    exact hd
  · obtain ⟨j, k, h1, h2, h3, h4⟩ := hx
    rw [(ao 203 (by decide) (by decide)).i, ns.i203] at h2
    have : k = 0 := (nI_eq (a := k) (b := 0) (by omega) (by decide)).mp h2.symm
    omega
  · obtain ⟨j, k, h1, h2, h3, h4⟩ := hx
    rw [(ao 203 (by decide) (by decide)).i, ns.i203] at h2
    have : k = 0 := (nI_eq (a := k) (b := 0) (by omega) (by decide)).mp h2.symm
    omega
  · obtain ⟨o', o1, o2⟩ := sm.1 k hk
    exact ⟨o', by rw [(ca 326 t t0 (by omega)).q]; exact o1, em _ o2⟩
  · have z0 : ∀ k, rk1 w r' S k = 0 := fun k => by
      unfold rk1
      rw [w37, if_neg (fun h => absurd h.1 (by rw [show (0 : Int32).toNatClampNeg = 0 by decide]; omega))]
    show lsm w t c' lf = rsm w r' S + (rk1 w r' S 0 + rk1 w r' S 1 + rk1 w r' S 2)
    rw [z0, z0, z0, lsm_eq (cs := cs) lf (fun k hk => ?_), rsm_eq (rs := rs) S (fun s k hs hk => ?_)]
    · exact sm.2 w
    · unfold rk1
      rw [ra 37 s (by omega), ra 49 (3 * s + k) (by omega), ra 51 (3 * s + k) (by omega), rl]
    · obtain ⟨o', o1, o2⟩ := sm.1 k hk
      have := b.kb _ o2
      unfold lk1
      rw [(ca 326 t t0 (by omega)).q, o1]
      show w (kI c' 224 o') (kJ c' 230 o') = w (kI cs 224 o') (kJ cs 230 o')
      rw [(ca 224 o' (by omega) (by omega)).i, (ca 230 o' (by omega) (by omega)).j]

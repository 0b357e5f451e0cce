/-! a SOURCE from its word as on -/
theorem l_max (v : Int64) : v ≤ 9223372036854775807 := by
  have h := Int64.toInt_lt v
  rw [Int64.le_iff_toInt_le, show (9223372036854775807 : Int64).toInt = 9223372036854775807 by decide +kernel]
  omega
theorem lN_nn {a : Nat} (h : a < 9223372036854775808) : 0 ≤ lN a := by
  rw [Int64.le_iff_toInt_le, pk_lT (by omega), show (0 : Int64).toInt = 0 by decide +kernel]
  omega
theorem tk_nn {n i p κ : Nat} {f : Nat → Int32} {cs : CS} {rs : RS} (h : TK n f i p κ cs rs) (hk : κ ≠ 40) : rs.2.2.1 14 i ≠ 2 := by
  have h57 := h.kl
  by_cases y1 : κ ≤ 39
  · rw [(h.wd y1).1]; decide
  by_cases y3 : κ = 56
  · rw [h.en y3]; decide
  by_cases y4 : κ = 57
  · rw [h.bad y4]; decide
  rw [h.sg (by omega) (by omega)]
  have : κ = 41 ∨ κ = 42 ∨ κ = 43 ∨ κ = 44 ∨ κ = 45 ∨ κ = 46 ∨ κ = 47 ∨ κ = 48 ∨ κ = 49 ∨ κ = 50 ∨ κ = 51 ∨ κ = 52 ∨ κ = 53 ∨ κ = 54 ∨ κ = 55 := by omega
  rcases this with e | e | e | e | e | e | e | e | e | e | e | e | e | e | e <;> rw [e] <;> decide
theorem BG.obj {n : Nat} {f : Nat → Int32} {M t c cap : Nat} {i z s lf S Q oo : Nat} {cs cs' : CS} {rs : RS} (h : BG n f M t c cap i z s lf S Q cs rs) (q : cs'.1 = cs.1) (a : ∀ x j, j ≠ oo → AT cs cs' x j) (h1 : 37 < oo ∧ t < oo ∧ c < oo) : BG n f M t c cap i z s lf S Q cs' rs := h.mv (EM.of (congrArg (fun z => z.2.2) q)) (h.kb.of q) (fun x j hj => a x j (by omega)) (fun x _ _ _ _ => a x t (by omega)) (fun x _ _ => a x c (by omega)) (fun _ _ _ _ _ => rfl) (fun _ _ => ⟨rfl, rfl⟩) h.rS h.rQ
theorem BG.arr {n : Nat} {f : Nat → Int32} {M t c cap : Nat} {i z s lf S Q : Nat} {cs : CS} {rs rs' : RS} (h : BG n f M t c cap i z s lf S Q cs rs) (r1 : rs'.1 = rs.1) (r2 : ∀ k, k ≤ 33 → rs'.2.2.1 k = rs.2.2.1 k ∧ rs'.2.2.2 k = rs.2.2.2 k) : BG n f M t c cap i z s lf S Q cs rs' := h.mv EM.refl h.kb (fun _ _ _ => AT.refl) (fun _ _ _ _ _ => AT.refl) (fun _ _ _ => AT.refl) (fun k _ _ _ _ => by rw [r1]) r2 (by rw [r1]; exact h.rS) (by rw [r1]; exact h.rQ)
/-- what the reference lays of a SOURCE -/
def wSo (r : RS) (j : Nat) (k' x3 x2 : Int32) : RS := setI (setI (setI (setI (setI r 55 j k') 57 j x3) 58 j (-1)) 51 j 0) 56 j x2
theorem wSo_a {r : RS} {j k y : Nat} {k' x3 x2 : Int32} (h : ¬ (y = j ∧ (k = 51 ∨ k = 55 ∨ k = 56 ∨ k = 57 ∨ k = 58))) : (wSo r j k' x3 x2).2.2.1 k y = r.2.2.1 k y := by
  show (if k = 56 then upd (r.2.2.1 56) j x2 else if k = 51 then upd (r.2.2.1 51) j 0 else if k = 58 then upd (r.2.2.1 58) j (-1) else if k = 57 then upd (r.2.2.1 57) j x3 else if k = 55 then upd (r.2.2.1 55) j k' else r.2.2.1 k) y = _
  by_cases v1 : k = 56
  · subst v1
    rw [if_pos rfl]
    exact pk_un (by omega)
  rw [if_neg v1]
  by_cases v2 : k = 51
  · subst v2
    rw [if_pos rfl]
    exact pk_un (by omega)
  rw [if_neg v2]
  by_cases v3 : k = 58
  · subst v3
    rw [if_pos rfl]
    exact pk_un (by omega)
  rw [if_neg v3]
  by_cases v4 : k = 57
  · subst v4
    rw [if_pos rfl]
    exact pk_un (by omega)
  rw [if_neg v4]
  by_cases v5 : k = 55
  · subst v5
    rw [if_pos rfl]
    exact pk_un (by omega)
  rw [if_neg v5]
theorem wSo_33 {r : RS} {j k : Nat} {k' x3 x2 : Int32} (h : k ≤ 33) : (wSo r j k' x3 x2).2.2.1 k = r.2.2.1 k ∧ (wSo r j k' x3 x2).2.2.2 k = r.2.2.2 k := ⟨funext (fun y => wSo_a (by omega)), rfl⟩
theorem m446_ok {F e ns : Nat} {T' : TG_queryOf} {r : RS} (h : r.2.2.1 37 e = nI ns) (he : e < 60) : m_source_b446 F T' r (nI e) = some (setI r 37 e (nI (ns + 1))) := by
  unfold m_source_b446
  rw [rdI_n he (by decide), ob_s, h, nI_1, wrI_n he (by decide), ob_s]
theorem m322_ok {F e j : Nat} {T' : TG_queryOf} {r : RS} {x2 x3 y : Int32} (hg : r.1 21 = 1) (hj : j < 180) (hx : x2 = 0 ∨ x2 = 1) : m_source_b322 F T' r (nI e) x2 x3 (nI j) y = if r.2.2.1 49 j = -1 then (m_source_b446 F T' (wSo r j y x3 x2) (nI e)) else (Option.bind (m_takeWord F (wSo r j y x3 x2) 27) fun z_11 => if z_11.2 = 0 then (m_source_b446 F T' z_11.1 (nI e)) else (Option.bind (rdI (z_11.1.2.2.1 14) 2001 (z_11.1.1 18)) fun v_13 => if v_13 = 2 then (Option.bind (wrI z_11.1 51 180 (nI j) (vp_nar .boolean 1)) fun cs_15 => Option.bind (rdL (cs_15.2.2.2 17) 2001 (cs_15.1 18)) fun v_16 => Option.bind (wrL cs_15 52 180 (nI j) v_16) fun cs_17 => m_source_b446 F T' (setF cs_17 18 ((cs_17.1 18) + 1)) (nI e)) else (Option.bind (m_wrong F z_11.1 ) fun cs_18 => some cs_18))) := by
  have n0 : vp_nar .boolean 0 = 0 := by decide
  have nx : vp_nar .boolean x2 = x2 := by rcases hx with e | e <;> rw [e] <;> decide
  unfold m_source_b322
  rw [if_neg (show ¬ r.1 21 = 0 by rw [hg]; decide), wrI_n hj (by decide), ob_s, wrI_n hj (by decide), ob_s, wrI_n hj (by decide), ob_s, wrI_n hj (by decide), ob_s, n0, wrI_n hj (by decide), ob_s, nx]
  show (Option.bind (rdI ((wSo r j y x3 x2).2.2.1 49) 180 (nI j)) fun v_9 => if v_9 = -1 then (m_source_b446 F T' (wSo r j y x3 x2) (nI e)) else _) = _
  rw [rdI_n hj (by decide), ob_s, wSo_a (by omega)]
  rfl
def kS2 (F t oo : Nat) (T : TC_X9_readQuery) (nm : Int64) (cs : CS) : Option (CS × Nat) := Option.bind (pJ cs 7 228 oo nm) fun cs_8 => Option.bind (gR cs_8 7 225 oo) fun v_9 => oc v_9 (Option.bind (ckE cs_8 10 t) fun _ => Option.bind (c_X9_accept F cs_8 t 18) fun z_11 => if z_11.2 = 0 then (c_X9_readSource_b124 F T z_11.1 oo) else (Option.bind (ckE z_11.1 10 t) fun _ => Option.bind (c_X9_readNumber F z_11.1 t (9223372036854775807)) fun z_14 => Option.bind (pJ z_14.1 7 230 oo z_14.2) fun cs_16 => c_X9_readSource_b124 F T cs_16 oo)) (fun i_10 => c_X9_readSource_b124 F T cs_8 oo)
theorem b75_kS {F t oo : Nat} {T : TC_X9_readQuery} {cs : CS} : c_X9_readSource_b75 F T cs t oo = Option.bind (ckE cs 10 t) fun _ => Option.bind (c_X9_expect F cs t 17) fun cs_1 => Option.bind (ckE cs_1 10 t) fun _ => Option.bind (c_X9_here F cs_1 t) fun v_3 => Option.bind (pI cs_1 7 229 oo v_3) fun cs_5 => Option.bind (ckE cs_5 10 t) fun _ => Option.bind (c_X9_readName F cs_5 t) fun z_6 => kS2 F t oo T z_6.2 z_6.1 := rfl
theorem FS.jo {t c oo x : Nat} {cs : CS} {v : Int64} (h : FS t c cs) : FS t c (sJ cs x oo v) := ⟨⟨h.h.b, h.h.o, h.h.tk, h.h.rc, h.h.oc⟩, h.f, h.i⟩
theorem kS2_f {F t c oo : Nat} {T : TC_X9_readQuery} {cs : CS} {nm : Int64} (h : FS t c cs) (ho : (7, oo) ∈ kE cs) : kS2 F t oo T nm cs = some (sJ cs 228 oo nm, oo) := by
  have f2 : FS t c (sJ cs 228 oo nm) := h.jo
  unfold kS2 c_X9_readSource_b124
  rw [pJ_ok ho, ob_s, gR_ok (cs := sJ cs 228 oo nm) ho, ob_s]
  cases hq : kR (sJ cs 228 oo nm) 225 oo with
  | none =>
    show (Option.bind (ckE (sJ cs 228 oo nm) 10 t) fun _ => Option.bind (c_X9_accept F (sJ cs 228 oo nm) t 18) _) = _
    rw [ckE_ok f2.h.o, ob_s, acc_f f2 (by decide), ob_s, if_pos rfl]
  | some x => rfl
/-- behind a fault in a SOURCE: but for it and the Text nothing has changed -/
def TF (t c oo : Nat) (a : CS) (b : CS) (rs : RS) : Prop := PB t c b rs ∧ b.1 = a.1 ∧ ∀ x y, y ≠ oo → ¬ (y = t ∧ (x = 320 ∨ x = 321 ∨ x = 328)) → AT a b x y
/-- a SOURCE's name and keep: read, or a fault -/
theorem src_tail {n : Nat} {f : Nat → Int32} {M t c cap : Nat} {F i z s lf S Q oo e ns j : Nat} {T : TC_X9_readQuery} {T' : TG_queryOf} {cs : CS} {rs : RS} {x2 x3 : Int32} (hF : 10000 ≤ F) (b : BG n f M t c cap i z s lf S Q cs rs) (o7 : (7, oo) ∈ kE cs) (ho : 37 < oo ∧ t < oo ∧ c < oo) (hj : j < 180) (he : e < 60) (rn : rs.2.2.1 37 e = nI ns) (hx : x2 = 0 ∨ x2 = 1) (kd : (kR cs 225 oo = none ∧ rs.2.2.1 49 j ≠ -1) ∨ (∃ oi, kR cs 225 oo = some oi ∧ rs.2.2.1 49 j = -1)) (k0 : kJ cs 230 oo = -1) : ∃ cs' rs', c_X9_readSource_b75 F T cs t oo = some (cs', oo) ∧ m_source_b300 F T' rs (nI e) x2 x3 (nI j) = some rs' ∧ ((∃ i', BG n f M t c cap i' z s lf S Q cs' rs' ∧ cs'.1 = cs.1 ∧ (∀ x y, ¬ (y = oo ∧ (x = 228 ∨ x = 229 ∨ x = 230)) → ¬ (y = t ∧ x = 328) → AT cs cs' x y) ∧ (∀ k, k ≠ 18 → rs'.1 k = rs.1 k) ∧ (∀ k y, ¬ (y = j ∧ (k = 51 ∨ k = 55 ∨ k = 56 ∨ k = 57 ∨ k = 58)) → ¬ (y = e ∧ k = 37) → rs'.2.2.1 k y = rs.2.2.1 k y) ∧ (∀ k y, ¬ (y = j ∧ k = 52) → rs'.2.2.2 k y = rs.2.2.2 k y) ∧ rs'.2.1 = rs.2.1 ∧ rs'.2.2.1 37 e = nI (ns + 1) ∧ (∃ k', k' ≤ M ∧ rs'.2.2.1 55 j = nI k' ∧ NM9 n f k' (kJ cs' 228 oo) cs' rs' ∧ kI cs' 229 oo = kA cs' 353 9 k') ∧ rs'.2.2.1 56 j = x2 ∧ rs'.2.2.1 57 j = x3 ∧ rs'.2.2.1 58 j = -1 ∧ ((kJ cs' 230 oo = -1 ∧ rs'.2.2.1 51 j = 0) ∨ (rs.2.2.1 49 j ≠ -1 ∧ rs'.2.2.1 51 j = 1 ∧ kJ cs' 230 oo = rs'.2.2.2 52 j ∧ 0 ≤ kJ cs' 230 oo))) ∨ TF t c oo cs cs' rs') := by
  obtain ⟨h37, hto, hco⟩ := ho
  have e180 : e = e := rfl
  rw [b75_kS]
  unfold m_source_b300
  have nd := b.jt.need (F := F) (x := 25) hF (by decide) (by decide)
  rw [show nI (swK 25) = 17 by decide] at nd
  rw [ckE_ok b.h.o, ob_s]
  rcases nd with ⟨w1, w2, w3⟩ | ⟨w2, w3⟩
  · have b1 := b.next w1
    have hh1 := her_ok (F := F) b1.h b1.ci b1.jt.i2
    have o71 : (7, oo) ∈ kE (sI cs 328 t (nI (i + 1))) := o7
    have b2 : BG n f M t c cap (i + 1) z s lf S Q (sI (sI cs 328 t (nI (i + 1))) 229 oo (kA cs 353 9 (i + 1))) (setF rs 18 (nI (i + 1))) := b1.obj (oo := oo) rfl (fun x y hy => AT.sI (by omega)) ⟨h37, hto, hco⟩
    have nu2 := num_ok (F := F) b2.h b2.ci b2.jt.i2
    have c1 : ∀ x y, ¬ (y = oo ∧ x = 229) → ¬ (y = t ∧ x = 328) → AT cs (sI (sI cs 328 t (nI (i + 1))) 229 oo (kA cs 353 9 (i + 1))) x y := fun x y q1 q2 => (AT.sI (by omega)).trans (AT.sI (by omega))
    have v229 : kI (sI (sI cs 328 t (nI (i + 1))) 229 oo (kA cs 353 9 (i + 1))) 229 oo = kA cs 353 9 (i + 1) := kI_s
    have o72 : (7, oo) ∈ kE (sI (sI cs 328 t (nI (i + 1))) 229 oo (kA cs 353 9 (i + 1))) := o7
    have q1 : (sI (sI cs 328 t (nI (i + 1))) 229 oo (kA cs 353 9 (i + 1))).1 = cs.1 := rfl
    rw [w2, ob_s, ckE_ok b1.h.o, ob_s, hh1, ob_s]
    show ∃ cs' rs', (Option.bind (pI (sI cs 328 t (nI (i + 1))) 7 229 oo (kA cs 353 9 (i + 1))) fun cs_5 => Option.bind (ckE cs_5 10 t) fun _ => Option.bind (c_X9_readName F cs_5 t) fun z_6 => kS2 F t oo T z_6.2 z_6.1) = some (cs', oo) ∧ _
    rw [pI_ok o71, ob_s, w3, ob_s, if_neg (show ¬ (setF rs 18 (nI (i + 1))).1 21 = 0 by rw [b1.g1]; decide)]
    have r37a : (setF rs 18 (nI (i + 1))).2 = rs.2 := rfl
    have r1a : ∀ k, k ≠ 18 → (setF rs 18 (nI (i + 1))).1 k = rs.1 k := fun k hk => pk_un hk
    obtain ⟨cA, hcA⟩ : ∃ x, x = sI (sI cs 328 t (nI (i + 1))) 229 oo (kA cs 353 9 (i + 1)) := ⟨_, rfl⟩
    obtain ⟨rA, hrA⟩ : ∃ x, x = setF rs 18 (nI (i + 1)) := ⟨_, rfl⟩
    rw [← hcA] at b2 nu2 c1 v229 o72 q1 ⊢
    rw [← hrA] at b2 r37a r1a ⊢
    unfold c_X9_readName
    rw [ckE_ok b2.h.o, ob_s, ob_s, nu2, ob_s, ob_s]
    -- the name
    obtain ⟨p, κ, hk, hka, hkb, kdA, hkl, pr⟩ := b2.jt.tok (F := F)
    have hin := ina_ok (F := F) hF b2.x b2.im hk b2.g1 b2.ri
    by_cases y : κ = 39
    · rw [if_pos y] at hin
      have hiM : i + 1 < M := by
        have := b2.im
        rcases Nat.lt_or_ge (i + 1) M with w | w
        · exact w
        · have := hkb (by omega); omega
      rw [y, show nI 39 = 39 by decide] at kdA
      have hk39 : TK n f (i + 1) p 39 cA rA := y ▸ hk
      have b3 := b2.next hiM
      have b4 : BG n f M t c cap (i + 1 + 1) z s lf S Q (sJ (sI cA 328 t (nI (i + 1 + 1))) 228 oo (kB cA 354 9 (i + 1))) (setF rA 18 (nI (i + 1 + 1))) := b3.obj (oo := oo) rfl (fun x y hy => AT.sJ (by omega)) ⟨h37, hto, hco⟩
      have c2 : ∀ x y, ¬ (y = oo ∧ (x = 228 ∨ x = 229)) → ¬ (y = t ∧ x = 328) → AT cs (sJ (sI cA 328 t (nI (i + 1 + 1))) 228 oo (kB cA 354 9 (i + 1))) x y := fun x y q1 q2 => ((c1 x y (by omega) q2).trans (AT.sI (by omega))).trans (AT.sJ (by omega))
      have v229b : kI (sJ (sI cA 328 t (nI (i + 1 + 1))) 228 oo (kB cA 354 9 (i + 1))) 229 oo = kA cs 353 9 (i + 1) := ((AT.sI (by omega)).trans (AT.sJ (by omega))).i.trans v229
      have v228 : kJ (sJ (sI cA 328 t (nI (i + 1 + 1))) 228 oo (kB cA 354 9 (i + 1))) 228 oo = kB cA 354 9 (i + 1) := u2_s
      have tkk : TK n f (i + 1) p 39 (sJ (sI cA 328 t (nI (i + 1 + 1))) 228 oo (kB cA 354 9 (i + 1))) (setF rA 18 (nI (i + 1 + 1))) := hk39.f TKF.refl
      have o74 : (7, oo) ∈ kE (sJ (sI cA 328 t (nI (i + 1 + 1))) 228 oo (kB cA 354 9 (i + 1))) := o72
      have k4 : kJ (sJ (sI cA 328 t (nI (i + 1 + 1))) 228 oo (kB cA 354 9 (i + 1))) 230 oo = -1 := (c2 230 oo (by omega) (by omega)).j.trans k0
      have q4 : (sJ (sI cA 328 t (nI (i + 1 + 1))) 228 oo (kB cA 354 9 (i + 1))).1 = cs.1 := q1
      have pJ4 : pJ (sI cA 328 t (nI (i + 1 + 1))) 7 228 oo (kB cA 354 9 (i + 1)) = some (sJ (sI cA 328 t (nI (i + 1 + 1))) 228 oo (kB cA 354 9 (i + 1))) := pJ_ok o72
      have r37b : (setF rA 18 (nI (i + 1 + 1))).2 = rs.2 := r37a
      have r1b : ∀ k, k ≠ 18 → (setF rA 18 (nI (i + 1 + 1))).1 k = rs.1 k := fun k hk => (pk_un hk).trans (r1a k hk)
      rw [exp_y b2.h b2.ci kdA, ob_s, ob_s, na_y b2.ri hin, ob_s]
      show ∃ cs' rs', kS2 F t oo T (kB cA 354 9 (i + 1)) (sI cA 328 t (nI (i + 1 + 1))) = some (cs', oo) ∧ m_source_b322 F T' (setF rA 18 (nI (i + 1 + 1))) (nI e) x2 x3 (nI j) (nI (i + 1)) = some rs' ∧ _
      unfold kS2
      rw [pJ4, ob_s]
      have bnum : kB (sJ (sI cA 328 t (nI (i + 1 + 1))) 228 oo (kB cA 354 9 (i + 1))) 354 9 = kB cA 354 9 := rfl
      have bpl : kA (sJ (sI cA 328 t (nI (i + 1 + 1))) 228 oo (kB cA 354 9 (i + 1))) 353 9 = kA cs 353 9 := (c2 353 9 (by omega) (by omega)).a
      obtain ⟨cB, hcB⟩ : ∃ x, x = sJ (sI cA 328 t (nI (i + 1 + 1))) 228 oo (kB cA 354 9 (i + 1)) := ⟨_, rfl⟩
      obtain ⟨rB, hrB⟩ : ∃ x, x = setF rA 18 (nI (i + 1 + 1)) := ⟨_, rfl⟩
      rw [← hcB] at b4 c2 v229b v228 tkk o74 k4 q4 bnum bpl ⊢
      rw [← hrB] at b4 tkk r37b r1b ⊢
      have b5 : BG n f M t c cap (i + 1 + 1) z s lf S Q cB (wSo rB j (nI (i + 1)) x3 x2) := b4.arr rfl (fun k hk => wSo_33 hk)
      have r37c : (wSo rB j (nI (i + 1)) x3 x2).2.2.1 37 e = nI ns := by rw [wSo_a (by omega), r37b]; exact rn
      have im := b4.im
      -- both states once the reference has counted the SOURCE
      have fin : ∀ (i' : Nat) (c' : CS) (r' : RS), BG n f M t c cap i' z s lf S Q c' r' → c'.1 = cs.1 → (∀ x y, ¬ (y = oo ∧ (x = 228 ∨ x = 229 ∨ x = 230)) → ¬ (y = t ∧ x = 328) → AT cs c' x y) → (∀ k, k ≠ 18 → r'.1 k = rs.1 k) → (∀ k y, ¬ (y = j ∧ k = 51) → r'.2.2.1 k y = (wSo rB j (nI (i + 1)) x3 x2).2.2.1 k y) → (∀ k y, ¬ (y = j ∧ k = 52) → r'.2.2.2 k y = rs.2.2.2 k y) → r'.2.1 = rs.2.1 → kI c' 229 oo = kI cB 229 oo → kJ c' 228 oo = kJ cB 228 oo → kB c' 354 9 = kB cA 354 9 → kA c' 353 9 = kA cs 353 9 → TK n f (i + 1) p 39 c' r' → ((kJ c' 230 oo = -1 ∧ r'.2.2.1 51 j = 0) ∨ (rs.2.2.1 49 j ≠ -1 ∧ r'.2.2.1 51 j = 1 ∧ kJ c' 230 oo = r'.2.2.2 52 j ∧ 0 ≤ kJ c' 230 oo)) → ∃ cs' rs', some (c', oo) = some (cs', oo) ∧ m_source_b446 F T' r' (nI e) = some rs' ∧ ((∃ i', BG n f M t c cap i' z s lf S Q cs' rs' ∧ cs'.1 = cs.1 ∧ (∀ x y, ¬ (y = oo ∧ (x = 228 ∨ x = 229 ∨ x = 230)) → ¬ (y = t ∧ x = 328) → AT cs cs' x y) ∧ (∀ k, k ≠ 18 → rs'.1 k = rs.1 k) ∧ (∀ k y, ¬ (y = j ∧ (k = 51 ∨ k = 55 ∨ k = 56 ∨ k = 57 ∨ k = 58)) → ¬ (y = e ∧ k = 37) → rs'.2.2.1 k y = rs.2.2.1 k y) ∧ (∀ k y, ¬ (y = j ∧ k = 52) → rs'.2.2.2 k y = rs.2.2.2 k y) ∧ rs'.2.1 = rs.2.1 ∧ rs'.2.2.1 37 e = nI (ns + 1) ∧ (∃ k', k' ≤ M ∧ rs'.2.2.1 55 j = nI k' ∧ NM9 n f k' (kJ cs' 228 oo) cs' rs' ∧ kI cs' 229 oo = kA cs' 353 9 k') ∧ rs'.2.2.1 56 j = x2 ∧ rs'.2.2.1 57 j = x3 ∧ rs'.2.2.1 58 j = -1 ∧ ((kJ cs' 230 oo = -1 ∧ rs'.2.2.1 51 j = 0) ∨ (rs.2.2.1 49 j ≠ -1 ∧ rs'.2.2.1 51 j = 1 ∧ kJ cs' 230 oo = rs'.2.2.2 52 j ∧ 0 ≤ kJ cs' 230 oo))) ∨ TF t c oo cs cs' rs') := fun i' c' r' g1 g2 g3 g4 g5 g6 g7 g8 g9 g10 g11 g12 g13 => by
        have gn : r'.2.2.1 37 e = nI ns := by rw [g5 37 e (by omega)]; exact r37c
        have ra : ∀ k y, ¬ (y = e ∧ k = 37) → (setI r' 37 e (nI (ns + 1))).2.2.1 k y = r'.2.2.1 k y := fun k y hk => by
          show (if k = 37 then upd (r'.2.2.1 37) e (nI (ns + 1)) else r'.2.2.1 k) y = _
          by_cases w : k = 37
          · subst w
            rw [if_pos rfl]
            exact pk_un (by omega)
          · rw [if_neg w]
        refine ⟨c', setI r' 37 e (nI (ns + 1)), rfl, m446_ok gn he, Or.inl ⟨i', g1.arr rfl (fun k hk => ⟨funext (fun y => ra k y (by omega)), rfl⟩), g2, g3, g4, fun k y h1 h2 => ?_, g6, g7, pk_us, ⟨i + 1, by omega, ?_, ⟨p, ?_, ?_⟩, ?_⟩, ?_, ?_, ?_, ?_⟩⟩
        · rw [ra k y h2, g5 k y (by omega), wSo_a h1, r37b]
        · rw [ra 55 j (by omega), g5 55 j (by omega)]
          show upd (rB.2.2.1 55) j (nI (i + 1)) j = _
          exact pk_us
        · exact g12.f ⟨rfl, rfl, rfl, funext (fun y => ra 14 y (by omega)), funext (fun y => ra 15 y (by omega)), funext (fun y => ra 16 y (by omega)), rfl, funext (fun y => ra 2 y (by omega))⟩
        · rw [g9, v228, g10]
        · rw [g8, v229b, g11]
        · rw [ra 56 j (by omega), g5 56 j (by omega)]
          show upd (rB.2.2.1 56) j x2 j = _
          exact pk_us
        · rw [ra 57 j (by omega), g5 57 j (by omega)]
          show upd (rB.2.2.1 57) j x3 j = _
          exact pk_us
        · rw [ra 58 j (by omega), g5 58 j (by omega)]
          show upd (rB.2.2.1 58) j (-1) j = _
          exact pk_us
        · rw [ra 51 j (by omega)]
          exact g13
      have w51 : (wSo rB j (nI (i + 1)) x3 x2).2.2.1 51 j = 0 := by
        show upd (rB.2.2.1 51) j 0 j = 0
        exact pk_us
      have tkw : TK n f (i + 1) p 39 cB (wSo rB j (nI (i + 1)) x3 x2) := tkk.f ⟨rfl, rfl, rfl, (wSo_33 (by decide)).1, (wSo_33 (by decide)).1, (wSo_33 (by decide)).1, (wSo_33 (by decide)).2, (wSo_33 (by decide)).1⟩
      have plain := fin (i + 1 + 1) cB (wSo rB j (nI (i + 1)) x3 x2) b5 q4 (fun x y h1 h2 => c2 x y (by omega) h2) r1b (fun _ _ _ => rfl) (fun k y _ => by show rB.2.2.2 k y = _; rw [r37b]) (by show rB.2.1 = _; rw [r37b]) rfl rfl bnum bpl tkw (Or.inl ⟨k4, w51⟩)
      rw [m322_ok b4.g1 hj hx, gR_ok o74, ob_s]
      have r49 : rB.2.2.1 49 j = rs.2.2.1 49 j := by rw [r37b]
      rw [r49]
      have r225 : kR cB 225 oo = kR cs 225 oo := (c2 225 oo (by omega) (by omega)).r
      rw [r225]
      rcases kd with ⟨d1, d2⟩ | ⟨oi, d1, d2⟩
      · rw [d1, if_neg d2]
        show ∃ cs' rs', (Option.bind (ckE cB 10 t) fun _ => Option.bind (c_X9_accept F cB t 18) fun z_11 => if z_11.2 = 0 then (c_X9_readSource_b124 F T z_11.1 oo) else (Option.bind (ckE z_11.1 10 t) fun _ => Option.bind (c_X9_readNumber F z_11.1 t (9223372036854775807)) fun z_14 => Option.bind (pJ z_14.1 7 230 oo z_14.2) fun cs_16 => c_X9_readSource_b124 F T cs_16 oo)) = some (cs', oo) ∧ _
        rw [ckE_ok b4.h.o, ob_s]
        have my := b5.jt.may (F := F) (x := 27) hF (by decide) (by decide)
        rw [show nI (swK 27) = 18 by decide] at my
        rcases my with ⟨t1, t2, t3, -, -⟩ | ⟨t2, t3, -, -⟩
        · have b6 := b5.next t1
          have hh6 := her_ok (F := F) b6.h b6.ci b6.jt.i2
          have nu6 := num_ok (F := F) b6.h b6.ci b6.jt.i2
          obtain ⟨p6, κ6, hk6, hka6, hkb6, kd6, hkl6, pr6⟩ := b6.jt.tok (F := F)
          have c6 : ∀ x y, ¬ (y = oo ∧ (x = 228 ∨ x = 229)) → ¬ (y = t ∧ x = 328) → AT cs (sI cB 328 t (nI (i + 1 + 1 + 1))) x y := fun x y h1 h2 => (c2 x y h1 h2).trans (AT.sI (by omega))
          have r6a : ∀ k, k ≠ 18 → (setF (wSo rB j (nI (i + 1)) x3 x2) 18 (nI (i + 1 + 1 + 1))).1 k = rs.1 k := fun k hk => (pk_un hk).trans (r1b k hk)
          have r6b : ∀ k y, ¬ (y = j ∧ k = 51) → (setF (wSo rB j (nI (i + 1)) x3 x2) 18 (nI (i + 1 + 1 + 1))).2.2.1 k y = (wSo rB j (nI (i + 1)) x3 x2).2.2.1 k y := fun _ _ _ => rfl
          have r6l : (setF (wSo rB j (nI (i + 1)) x3 x2) 18 (nI (i + 1 + 1 + 1))).2.2.2 = rs.2.2.2 := by show rB.2.2.2 = _; rw [r37b]
          have r6w : (setF (wSo rB j (nI (i + 1)) x3 x2) 18 (nI (i + 1 + 1 + 1))).2.1 = rs.2.1 := by show rB.2.1 = _; rw [r37b]
          have tk6 : TK n f (i + 1) p 39 (sI cB 328 t (nI (i + 1 + 1 + 1))) (setF (wSo rB j (nI (i + 1)) x3 x2) 18 (nI (i + 1 + 1 + 1))) := tkw.f TKF.refl
          have f229 : kI (sI cB 328 t (nI (i + 1 + 1 + 1))) 229 oo = kI cB 229 oo := kI_n (by omega)
          have o76 : (7, oo) ∈ kE (sI cB 328 t (nI (i + 1 + 1 + 1))) := o74
          have q6 : (sI cB 328 t (nI (i + 1 + 1 + 1))).1 = cs.1 := q4
          have f228 : kJ (sI cB 328 t (nI (i + 1 + 1 + 1))) 228 oo = kJ cB 228 oo := rfl
          have bn6 : kB (sI cB 328 t (nI (i + 1 + 1 + 1))) 354 9 = kB cA 354 9 := bnum
          have bp6 : kA (sI cB 328 t (nI (i + 1 + 1 + 1))) 353 9 = kA cs 353 9 := bpl
          rw [t2, ob_s, t3, ob_s, if_neg (show ¬ (1 : Int32) = 0 by decide), if_neg (show ¬ (1 : Int32) = 0 by decide)]
          obtain ⟨cC, hcC⟩ : ∃ x, x = sI cB 328 t (nI (i + 1 + 1 + 1)) := ⟨_, rfl⟩
          obtain ⟨rC, hrC⟩ : ∃ x, x = setF (wSo rB j (nI (i + 1)) x3 x2) 18 (nI (i + 1 + 1 + 1)) := ⟨_, rfl⟩
          rw [← hcC] at b6 hh6 nu6 hk6 kd6 pr6 c6 tk6 f229 o76 q6 f228 bn6 bp6 ⊢
          rw [← hrC] at b6 hk6 pr6 r6a r6b r6l r6w tk6 ⊢
          show ∃ cs' rs', (Option.bind (ckE cC 10 t) fun _ => Option.bind (c_X9_readNumber F cC t (9223372036854775807)) fun z_14 => Option.bind (pJ z_14.1 7 230 oo z_14.2) fun cs_16 => c_X9_readSource_b124 F T cs_16 oo) = some (cs', oo) ∧ (Option.bind (rdI (rC.2.2.1 14) 2001 (rC.1 18)) fun v_13 => if v_13 = 2 then (Option.bind (wrI rC 51 180 (nI j) (vp_nar .boolean 1)) fun cs_15 => Option.bind (rdL (cs_15.2.2.2 17) 2001 (cs_15.1 18)) fun v_16 => Option.bind (wrL cs_15 52 180 (nI j) v_16) fun cs_17 => m_source_b446 F T' (setF cs_17 18 ((cs_17.1 18) + 1)) (nI e)) else (Option.bind (m_wrong F rC) fun cs_18 => some cs_18)) = some rs' ∧ _
          unfold c_X9_readNumber c_X9_readNumber_b29
          rw [ckE_ok b6.h.o, ob_s, ob_s, nu6, ob_s, ob_s, kd6, ob_s, b6.ri, rdI_n b6.jt.i2 (by decide), ob_s]
          by_cases y40 : κ6 = 40
          · have hiM6 : i + 1 + 1 + 1 < M := by
              have := b6.im
              rcases Nat.lt_or_ge (i + 1 + 1 + 1) M with w | w
              · exact w
              · have := hkb6 (by omega); omega
            obtain ⟨n1, a, a1, a2, a3⟩ := hk6.nu y40
            rw [y40, show nI 40 = 40 by decide] at kd6
            have b7 := b6.next hiM6
            rw [if_pos (show nI κ6 = 40 by rw [y40]; decide), if_pos (l_max _), ob_s, exp_y b6.h b6.ci kd6, ob_s, ob_s, if_pos n1, wrI_n hj (by decide), ob_s, show vp_nar .boolean 1 = 1 by decide]
            show ∃ cs' rs', (Option.bind (pJ (sI cC 328 t (nI (i + 1 + 1 + 1 + 1))) 7 230 oo (kB cC 354 9 (i + 1 + 1 + 1))) fun cs_16 => c_X9_readSource_b124 F T cs_16 oo) = some (cs', oo) ∧ (Option.bind (rdL (rC.2.2.2 17) 2001 (rC.1 18)) fun v_16 => Option.bind (wrL (setI rC 51 j 1) 52 180 (nI j) v_16) fun cs_17 => m_source_b446 F T' (setF cs_17 18 ((cs_17.1 18) + 1)) (nI e)) = some rs' ∧ _
            have o77 : (7, oo) ∈ kE (sI cC 328 t (nI (i + 1 + 1 + 1 + 1))) := o76
            rw [pJ_ok o77, ob_s, b6.ri, rdL_n b6.jt.i2 (by decide), ob_s, wrL_n hj (by decide), ob_s]
            unfold c_X9_readSource_b124
            have ri8 : (setL (setI rC 51 j 1) 52 j (rC.2.2.2 17 (i + 1 + 1 + 1))).1 18 = nI (i + 1 + 1 + 1) := b6.ri
            rw [ri8, nI_1]
            have ra8 : ∀ k y, ¬ (y = j ∧ k = 51) → (setF (setL (setI rC 51 j 1) 52 j (rC.2.2.2 17 (i + 1 + 1 + 1))) 18 (nI (i + 1 + 1 + 1 + 1))).2.2.1 k y = rC.2.2.1 k y := fun k y hk => by
              show (if k = 51 then upd (rC.2.2.1 51) j 1 else rC.2.2.1 k) y = _
              by_cases w : k = 51
              · subst w
                rw [if_pos rfl]
                exact pk_un (by omega)
              · rw [if_neg w]
            have rl8 : ∀ k y, ¬ (y = j ∧ k = 52) → (setF (setL (setI rC 51 j 1) 52 j (rC.2.2.2 17 (i + 1 + 1 + 1))) 18 (nI (i + 1 + 1 + 1 + 1))).2.2.2 k y = rC.2.2.2 k y := fun k y hk => by
              show (if k = 52 then vp_updL (rC.2.2.2 52) j (rC.2.2.2 17 (i + 1 + 1 + 1)) else rC.2.2.2 k) y = _
              by_cases w : k = 52
              · subst w
                rw [if_pos rfl]
                exact pk_uLn (by omega)
              · rw [if_neg w]
            have b7o : BG n f M t c cap (i + 1 + 1 + 1 + 1) z s lf S Q (sJ (sI cC 328 t (nI (i + 1 + 1 + 1 + 1))) 230 oo (kB cC 354 9 (i + 1 + 1 + 1))) (setF rC 18 (nI (i + 1 + 1 + 1 + 1))) := b7.obj (oo := oo) rfl (fun x y hy => AT.sJ (by omega)) ⟨h37, hto, hco⟩
            have b8 : BG n f M t c cap (i + 1 + 1 + 1 + 1) z s lf S Q (sJ (sI cC 328 t (nI (i + 1 + 1 + 1 + 1))) 230 oo (kB cC 354 9 (i + 1 + 1 + 1))) (setF (setL (setI rC 51 j 1) 52 j (rC.2.2.2 17 (i + 1 + 1 + 1))) 18 (nI (i + 1 + 1 + 1 + 1))) := b7o.arr rfl (fun k hk => ⟨funext (fun y => ra8 k y (by omega)), funext (fun y => rl8 k y (by omega))⟩)
            refine fin (i + 1 + 1 + 1 + 1) _ _ b8 q6 (fun x y h1 h2 => ((c6 x y (by omega) h2).trans (AT.sI (by omega))).trans (AT.sJ (by omega))) (fun k hk => (pk_un hk).trans (r6a k hk)) (fun k y hk => (ra8 k y hk).trans (r6b k y hk)) (fun k y hk => by rw [rl8 k y hk, r6l]) r6w ?_ ?_ bn6 bp6 (tk6.f ⟨rfl, rfl, rfl, funext (fun y => ra8 14 y (by omega)), funext (fun y => ra8 15 y (by omega)), funext (fun y => ra8 16 y (by omega)), funext (fun y => rl8 17 y (by omega)), funext (fun y => ra8 2 y (by omega))⟩) (Or.inr ⟨d2, ?_, ?_, ?_⟩)
            · have w : AT cC (sJ (sI cC 328 t (nI (i + 1 + 1 + 1 + 1))) 230 oo (kB cC 354 9 (i + 1 + 1 + 1))) 229 oo := (AT.sI (by omega)).trans (AT.sJ (by omega))
              exact w.i.trans f229
            · have w : AT cC (sJ (sI cC 328 t (nI (i + 1 + 1 + 1 + 1))) 230 oo (kB cC 354 9 (i + 1 + 1 + 1))) 228 oo := (AT.sI (by omega)).trans (AT.sJ (by omega))
              exact w.j.trans f228
            · show upd (rC.2.2.1 51) j 1 j = 1
              exact pk_us
            · rw [show kJ (sJ (sI cC 328 t (nI (i + 1 + 1 + 1 + 1))) 230 oo (kB cC 354 9 (i + 1 + 1 + 1))) 230 oo = kB cC 354 9 (i + 1 + 1 + 1) from u2_s, a2, ← a3]
              show _ = vp_updL (rC.2.2.2 52) j (rC.2.2.2 17 (i + 1 + 1 + 1)) j
              rw [pk_uLs]
            · rw [show kJ (sJ (sI cC 328 t (nI (i + 1 + 1 + 1 + 1))) 230 oo (kB cC 354 9 (i + 1 + 1 + 1))) 230 oo = kB cC 354 9 (i + 1 + 1 + 1) from u2_s, a2]
              exact lN_nn a1
          · have ne40 : ¬ nI κ6 = 40 := fun w => y40 ((nI_eq (b := 40) (by omega) (by decide)).mp w)
            have pb := b6.jt.bad (a := 1) (b := kA cC 353 9 (i + 1 + 1 + 1)) (by decide)
            have o79 : (7, oo) ∈ kE (sI (sI cC 320 t 1) 321 t (kA cC 353 9 (i + 1 + 1 + 1))) := o76
            rw [if_neg ne40, ob_s, exp_n b6.h b6.f0 b6.ci b6.jt.i2 kd6 ne40, ob_s, ob_s, if_neg (tk_nn hk6 y40), wro_ok b6.g1 b6.ri b6.jt.i2, ob_s, pr6]
            show ∃ cs' rs', (Option.bind (pJ (sI (sI cC 320 t 1) 321 t (kA cC 353 9 (i + 1 + 1 + 1))) 7 230 oo (kB cC 354 9 (i + 1 + 1 + 1))) fun cs_16 => c_X9_readSource_b124 F T cs_16 oo) = some (cs', oo) ∧ _
            rw [pJ_ok o79, ob_s]
            refine ⟨_, _, rfl, rfl, Or.inr ⟨⟨pb.s.jo, pb.r, pb.e1, pb.e2⟩, q6, fun x y h1 h2 => (((c6 x y (by omega) (by omega)).trans (AT.sI (by omega))).trans (AT.sI (by omega))).trans (AT.sJ (by omega))⟩⟩
        · rw [t2, ob_s, t3, ob_s, if_pos rfl, if_pos rfl]
          exact plain
      · rw [d1, if_pos d2]
        exact plain
    · rw [if_neg y] at hin
      have ne : nI κ ≠ 39 := fun w => y ((nI_eq (b := 39) (by omega) (by decide)).mp w)
      have pb := b2.jt.bad (a := 1) (b := kA cA 353 9 (i + 1)) (by decide)
      have o79 : (7, oo) ∈ kE (sI (sI cA 320 t 1) 321 t (kA cA 353 9 (i + 1))) := o72
      rw [exp_n b2.h b2.f0 b2.ci b2.jt.i2 kdA ne, ob_s, ob_s, na_n b2.ri b2.jt.i2 b2.g1 hin, ob_s, pr]
      show ∃ cs' rs', kS2 F t oo T (kB cA 354 9 (i + 1)) (sI (sI cA 320 t 1) 321 t (kA cA 353 9 (i + 1))) = some (cs', oo) ∧ m_source_b322 F T' (setF (setF (setF rA 21 0) 19 1) 20 (kA cA 353 9 (i + 1))) (nI e) x2 x3 (nI j) _ = some rs' ∧ _
      rw [kS2_f pb.s o79, m322_f pb.r]
      exact ⟨_, _, rfl, rfl, Or.inr ⟨⟨pb.s.jo, pb.r, pb.e1, pb.e2⟩, q1, fun x y h1 h2 => (((c1 x y (by omega) (by omega)).trans (AT.sI (by omega))).trans (AT.sI (by omega))).trans (AT.sJ (by omega))⟩⟩
  · have pb := b.jt.bad (a := 1) (b := kA cs 353 9 i) (by decide)
    have fo : FO (PX t c 0) cs (sI (sI cs 320 t 1) 321 t (kA cs 353 9 i)) := (FO.sI (Or.inl ⟨by decide, rfl⟩)).trans (FO.sI (Or.inl ⟨by decide, rfl⟩))
    have ws := b.ws fo pb.s
    obtain ⟨v, w, hb⟩ := b75_f (F := F) (T := T) (oo := oo) ws o7 ⟨by omega, by omega⟩
    rw [b75_kS, ckE_ok pb.s.h.o, ob_s, expf pb.s (by decide), ob_s] at hb
    rw [w2, ob_s, w3, ob_s, if_pos pb.r.g, m322_f pb.r, hb]
    have f1 : FS t c (sI (sI (sI cs 320 t 1) 321 t (kA cs 353 9 i)) 229 oo v) := ⟨pb.s.h.fo (W := fun x y => y = oo) (FO.sI rfl), by rw [kI_n (show ¬ (320 = 229 ∧ t = oo) by omega)]; exact pb.s.f, by rw [kI_n (show ¬ (328 = 229 ∧ t = oo) by omega)]; exact pb.s.i⟩
    refine ⟨_, _, rfl, rfl, Or.inr ⟨⟨f1.jo, pb.r, ?_, ?_⟩, rfl, fun x y h1 h2 => (((AT.sI (by omega)).trans (AT.sI (by omega))).trans (AT.sI (by omega))).trans (AT.sJ (by omega))⟩⟩
    · show kI (sI (sI (sI cs 320 t 1) 321 t (kA cs 353 9 i)) 229 oo v) 320 t = _
      rw [kI_n (show ¬ (320 = 229 ∧ t = oo) by omega)]
      exact pb.e1
    · show kI (sI (sI (sI cs 320 t 1) 321 t (kA cs 353 9 i)) 229 oo v) 321 t = _
      rw [kI_n (show ¬ (321 = 229 ∧ t = oo) by omega)]
      exact pb.e2

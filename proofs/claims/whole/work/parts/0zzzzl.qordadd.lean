/-! one column more of an open order by -/
theorem QO.add {n : Nat} {f : Nat → Int32} {M t c cap : Nat} {d z S0 Q0 s0 l0 m i1 s1 lf S Q mo i s : Nat} {cs0 csS cs : CS} {rs0 rsS rs : RS} {r0 : Nat} {ds : Int32} {nm : Int64} (h : QO n f M t c cap d z S0 Q0 s0 l0 cs0 rs0 m i1 s1 lf S Q csS rsS mo i s cs rs) (hm : mo < 8) (rt : RT n f M c 0 false s r0 cs rs) (hd : ds = 0 ∨ ds = 1) : QO n f M t c cap d z S0 Q0 s0 l0 cs0 rs0 m i1 s1 lf S Q csS rsS (mo + 1) i s (adC cs (kK csS) mo (nI r0) nm ds 1) (setI (setI (setI rs 66 (8 * Q0 + mo) (nI r0)) 67 (8 * Q0 + mo) ds) 64 Q0 (nI (mo + 1))) := by
  obtain ⟨x1, x2, x3, x4, x5, x6⟩ := h.g.ix
  obtain ⟨y1, y2, y3⟩ := h.g.kx
  have ki := h.ki
  have km := h.km
  have kk0 := h.g.pd.kk
  have od2 : kK cs0 < kK csS := (show QRY (QR X0 n f M c s1 S Q csS rsS d) X0 n f M c s1 S0 S Q0 Q (kK cs0) (kK csS) (kK cs0) Q0 csS rsS from h.g.qr.2).od.2
  have ca : ∀ x j, ¬ (96 ≤ x ∧ x ≤ 100 ∧ j = kK csS) → AT cs (adC cs (kK csS) mo (nI r0) nm ds 1) x j := fun x j hx => adC_at hx
  have a97 := adC_97 (cs := cs) (o := kK csS) (m := mo) (r := nI r0) (nm := nm) (mk := ds) (ty := 1)
  have a99 := adC_99 (cs := cs) (o := kK csS) (m := mo) (r := nI r0) (nm := nm) (mk := ds) (ty := 1)
  have cw : CLM (kK csS) (mo + 1) (adC cs (kK csS) mo (nI r0) nm ds 1) := adC_clm h.cl hm
  have c1 : (adC cs (kK csS) mo (nI r0) nm ds 1).1 = cs.1 := rfl
  have ra : ∀ k j, ¬ (k = 64 ∧ j = Q0) → ¬ ((k = 66 ∨ k = 67) ∧ j = 8 * Q0 + mo) → (setI (setI (setI rs 66 (8 * Q0 + mo) (nI r0)) 67 (8 * Q0 + mo) ds) 64 Q0 (nI (mo + 1))).2.2.1 k j = rs.2.2.1 k j := fun k j h1 h2 => ((sIa_n h1).trans (sIa_n (by omega))).trans (sIa_n (by omega))
  have w64 : (setI (setI (setI rs 66 (8 * Q0 + mo) (nI r0)) 67 (8 * Q0 + mo) ds) 64 Q0 (nI (mo + 1))).2.2.1 64 Q0 = nI (mo + 1) := pk_us
  have w66 : (setI (setI (setI rs 66 (8 * Q0 + mo) (nI r0)) 67 (8 * Q0 + mo) ds) 64 Q0 (nI (mo + 1))).2.2.1 66 (8 * Q0 + mo) = nI r0 := pk_us
  have w67 : (setI (setI (setI rs 66 (8 * Q0 + mo) (nI r0)) 67 (8 * Q0 + mo) ds) 64 Q0 (nI (mo + 1))).2.2.1 67 (8 * Q0 + mo) = ds := pk_us
  have rf : (setI (setI (setI rs 66 (8 * Q0 + mo) (nI r0)) 67 (8 * Q0 + mo) ds) 64 Q0 (nI (mo + 1))).1 = rs.1 := rfl
  have rw0 : (setI (setI (setI rs 66 (8 * Q0 + mo) (nI r0)) 67 (8 * Q0 + mo) ds) 64 Q0 (nI (mo + 1))).2.1 = rs.2.1 := rfl
  have rl : (setI (setI (setI rs 66 (8 * Q0 + mo) (nI r0)) 67 (8 * Q0 + mo) ds) 64 Q0 (nI (mo + 1))).2.2.2 = rs.2.2.2 := rfl
  obtain ⟨cs', hcs'⟩ : ∃ x, x = adC cs (kK csS) mo (nI r0) nm ds 1 := ⟨_, rfl⟩
  obtain ⟨r', hr'⟩ : ∃ x, x = setI (setI (setI rs 66 (8 * Q0 + mo) (nI r0)) 67 (8 * Q0 + mo) ds) 64 Q0 (nI (mo + 1)) := ⟨_, rfl⟩
  rw [← hcs'] at ca a97 a99 cw c1 ⊢
  rw [← hr'] at ra w64 w66 w67 rf rw0 rl ⊢
  have em : EM cs cs' := EM.of (congrArg (fun z => z.2.2) c1)
  have kk : kK cs' = kK cs := congrArg (fun z => z.1) c1
  have kmm : kM cs' = kM cs := congrArg (fun z => z.2.1) c1
  have r33 : ∀ k, k ≤ 33 → r'.2.2.1 k = rs.2.2.1 k ∧ r'.2.2.2 k = rs.2.2.2 k := fun k hk => ⟨funext (fun j => ra k j (by omega) (by omega)), by rw [rl]⟩
  have vw : VW c cs' r' = VW c cs rs := VW.eq (fun x a1 a2 => ca x c (by omega)) r33
  have tk : TKF cs rs cs' r' := ⟨(ca 352 9 (by omega)).a, (ca 353 9 (by omega)).a, (ca 354 9 (by omega)).b, (r33 14 (by decide)).1, (r33 15 (by decide)).1, (r33 16 (by decide)).1, (r33 17 (by decide)).2, (r33 2 (by decide)).1⟩
  have kp : ∀ x, x < s → VW c cs' r' x = VW c cs rs x := fun x _ => congrFun vw x
  have b' : BG n f M t c cap i z s lf S Q cs' r' := h.b.mv em (h.b.kb.of c1) (fun x j hj => ca x j (by omega)) (fun x _ _ _ _ => ca x t (by omega)) (fun x _ _ => ca x c (by omega)) (fun k _ _ _ _ => by rw [rf]) r33 (by rw [rf]; exact h.b.rS) (by rw [rf]; exact h.b.rQ)
  have po : PO t c (kK csS) S Q s1 lf (kK cs0) Q0 cs rs cs' r' := by
    refine ⟨em, by omega, fun x j a1 _ _ _ => ca x j (by omega), fun x _ => ca x t (by omega), fun x _ => congrFun vw x, tk, ⟨⟨Or.inr rw0, fun k hk => ?_⟩, fun k j a1 a2 a3 a4 a5 => ra k j (by omega) (by omega), fun j _ => by rw [rl]⟩, fun k _ => by rw [(ca 326 t (by omega)).q]⟩
    unfold pR' at hk
    exact ⟨by rw [rf], funext (fun j => ra k j (by omega) (by omega)), by rw [rl]⟩
  have sm : SM t lf S cs' r' := by
    refine ⟨fun k hk => ?_, fun w => ?_⟩
    · obtain ⟨o', o1, o2⟩ := h.sm.1 k hk
      exact ⟨o', by rw [(ca 326 t (by omega)).q]; exact o1, em _ o2⟩
    · rw [lsm_eq (cs := cs) lf (fun k hk => ?_), rsm_eq (rs := rs) S (fun s k hs hk => ?_)]
      · exact h.sm.2 w
      · unfold rk1
        rw [ra 37 s (by omega) (by omega), ra 49 (3 * s + k) (by omega) (by omega), ra 51 (3 * s + k) (by omega) (by omega), rl]
      · unfold lk1
        rw [(ca 326 t (by omega)).q]
        cases hq : kQ cs 326 t k with
        | none => rfl
        | some o' =>
          show w (kI cs' 224 o') (kJ cs' 230 o') = w (kI cs 224 o') (kJ cs 230 o')
          rw [(ca 224 o' (by omega)).i, (ca 230 o' (by omega)).j]
  refine ⟨h.g, h.p.trans po, b', sm, by rw [(ca 330 t (by omega)).r]; exact h.r3, by rw [rf]; exact h.r7, h.hs, by omega, by omega, cw, by rw [(ca 130 _ (by omega)).r]; exact h.o1, w64, by rw [(ca 131 _ (by omega)).i, ra 65 Q0 (by omega) (by omega)]; exact h.r65, fun k hk => ?_⟩
  by_cases w : k = mo
  · subst w
    exact ⟨r0, by rw [a97, pk_us], w66, rt.kf (Nat.le_refl _) kp tk, by rw [a99, pk_us, w67], by rw [a99, pk_us]; exact hd⟩
  · obtain ⟨r, b1, b2, b3, b4, b5⟩ := h.its k (by omega)
    exact ⟨r, by rw [a97, pk_un w]; exact b1, by rw [ra 66 _ (by omega) (by omega)]; exact b2, b3.kf (Nat.le_refl _) kp tk, by rw [a99, pk_un w, ra 67 _ (by omega) (by omega)]; exact b4, by rw [a99, pk_un w]; exact b5⟩

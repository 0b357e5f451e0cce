/-! one column more of a SELECT, in both -/
theorem nI_8 (a : Nat) : (8 : Int32) * nI a = nI (8 * a) := by
  rw [show (8 : Int32) = nI 8 by decide]
  exact (Int32.ofNat_mul 8 a).symm
theorem nI_3 (a : Nat) : (3 : Int32) * nI a = nI (3 * a) := by
  rw [show (3 : Int32) = nI 3 by decide]
  exact (Int32.ofNat_mul 3 a).symm
theorem nI_5 (a : Nat) : (5 : Int32) * nI a = nI (5 * a) := by
  rw [show (5 : Int32) = nI 5 by decide]
  exact (Int32.ofNat_mul 5 a).symm
theorem SG.addi {n : Nat} {f : Nat → Int32} {M t c cap : Nat} {d K0 S0 Q0 s0 l0 ql z o e it gr mi ns nr mg i s lf S Q : Nat} {u1 : Option Nat} {u2 : Int32} {cs0 cs : CS} {rs0 rs : RS} {r0 : Nat} {r nw : Int32} {nm : Int64} {mk : Int32} (g : SG (some r0) n f M t c cap d K0 S0 Q0 s0 l0 ql z u1 u2 cs0 rs0 o e it gr mi ns nr mg i s lf S Q cs rs) (hm : mi < 8) (hr : r = nI r0) (hn : ∃ r0, r = nI r0 ∧ RT n f M c o true s r0 cs rs ∧ NMR n f M nm nw cs rs) : SG none n f M t c cap d K0 S0 Q0 s0 l0 ql z u1 u2 cs0 rs0 o e it gr (mi + 1) ns nr (mg) i s lf S Q (adC cs it mi r nm mk 1) (setI (setI (setI rs 44 (8 * e + mi) r) 45 (8 * e + mi) nw) 36 e (nI (mi + 1))) := by
  obtain ⟨k1, k2, k3, k4⟩ := g.os.od
  obtain ⟨x1, x2, x3, x4, x5, x6⟩ := g.ix
  obtain ⟨y1, y2, y3⟩ := g.kx
  have s2 := g.b.s2
  have ca : ∀ x j, ¬ (96 ≤ x ∧ x ≤ 100 ∧ j = it) → AT cs (adC cs it mi r nm mk 1) x j := fun x j hx => adC_at hx
  have a97 := adC_97 (cs := cs) (o := it) (m := mi) (r := r) (nm := nm) (mk := mk) (ty := 1)
  have a98 := adC_98 (cs := cs) (o := it) (m := mi) (r := r) (nm := nm) (mk := mk) (ty := 1)
  have a99 := adC_99 (cs := cs) (o := it) (m := mi) (r := r) (nm := nm) (mk := mk) (ty := 1)
  have cw : CLM it (mi + 1) (adC cs it mi r nm mk 1) := adC_clm g.os.ci hm
  have c1 : (adC cs it mi r nm mk 1).1 = cs.1 := rfl
  have ra : ∀ k j, ¬ (k = 44 ∧ j = 8 * e + mi) → ¬ (k = 45 ∧ j = 8 * e + mi) → ¬ (k = 36 ∧ j = e) → (setI (setI (setI rs 44 (8 * e + mi) r) 45 (8 * e + mi) nw) 36 e (nI (mi + 1))).2.2.1 k j = rs.2.2.1 k j := fun k j q1 q2 q3 => by
    show (if k = 36 then upd (rs.2.2.1 36) e (nI (mi + 1)) else if k = 45 then upd (rs.2.2.1 45) (8 * e + mi) nw else if k = 44 then upd (rs.2.2.1 44) (8 * e + mi) r else rs.2.2.1 k) j = _
    by_cases v1 : k = 36
    · subst v1
      rw [if_pos rfl]
      exact pk_un (by omega)
    · rw [if_neg v1]
      by_cases v2 : k = 45
      · subst v2
        rw [if_pos rfl]
        exact pk_un (by omega)
      · rw [if_neg v2]
        by_cases v3 : k = 44
        · subst v3
          rw [if_pos rfl]
          exact pk_un (by omega)
        · rw [if_neg v3]
  have rA : (setI (setI (setI rs 44 (8 * e + mi) r) 45 (8 * e + mi) nw) 36 e (nI (mi + 1))).2.2.1 44 (8 * e + mi) = r := pk_us
  have rB : (setI (setI (setI rs 44 (8 * e + mi) r) 45 (8 * e + mi) nw) 36 e (nI (mi + 1))).2.2.1 45 (8 * e + mi) = nw := pk_us
  have rC : (setI (setI (setI rs 44 (8 * e + mi) r) 45 (8 * e + mi) nw) 36 e (nI (mi + 1))).2.2.1 36 e = nI (mi + 1) := pk_us
  have r1 : (setI (setI (setI rs 44 (8 * e + mi) r) 45 (8 * e + mi) nw) 36 e (nI (mi + 1))).1 = rs.1 := rfl
  have rw0 : (setI (setI (setI rs 44 (8 * e + mi) r) 45 (8 * e + mi) nw) 36 e (nI (mi + 1))).2.1 = rs.2.1 := rfl
  have rl : (setI (setI (setI rs 44 (8 * e + mi) r) 45 (8 * e + mi) nw) 36 e (nI (mi + 1))).2.2.2 = rs.2.2.2 := rfl
  obtain ⟨cs', hcs'⟩ : ∃ x, x = adC cs it mi r nm mk 1 := ⟨_, rfl⟩
  obtain ⟨rs', hrs'⟩ : ∃ x, x = setI (setI (setI rs 44 (8 * e + mi) r) 45 (8 * e + mi) nw) 36 e (nI (mi + 1)) := ⟨_, rfl⟩
  rw [← hcs'] at ca a97 a98 a99 cw c1 ⊢
  rw [← hrs'] at ra rA rB rC r1 rw0 rl ⊢
  have em : EM cs cs' := EM.of (congrArg (fun z => z.2.2) c1)
  have kk : kK cs' = kK cs := congrArg (fun z => z.1) c1
  have km : kM cs' = kM cs := congrArg (fun z => z.2.1) c1
  have hkr := g.kr
  have hmr := g.mr
  have r33 : ∀ k, k ≤ 33 → rs'.2.2.1 k = rs.2.2.1 k ∧ rs'.2.2.2 k = rs.2.2.2 k := fun k hk => ⟨funext (fun j => ra k j (by omega) (by omega) (by omega)), by rw [rl]⟩
  have gb : ∀ x j, j ≤ 37 → AT cs cs' x j := fun x j hj => ca x j (by omega)
  have b' : BG n f M t c cap i z s lf S Q cs' rs' := g.b.mv em (g.b.kb.of c1) gb (fun x a1 a2 a3 a4 => ca x t (by omega)) (fun x a1 a2 => ca x c (by omega)) (fun k _ _ _ _ => by rw [r1]) r33 (by rw [r1]; exact g.b.rS) (by rw [r1]; exact g.b.rQ)
  have vw : VW c cs' rs' = VW c cs rs := VW.eq (fun x a1 a2 => ca x c (by omega)) r33
  have tk : TKF cs rs cs' rs' := ⟨(gb 352 9 (by decide)).a, (gb 353 9 (by decide)).a, (gb 354 9 (by decide)).b, (r33 14 (by decide)).1, (r33 15 (by decide)).1, (r33 16 (by decide)).1, (r33 17 (by decide)).2, (r33 2 (by decide)).1⟩
  have qf : QF S0 Q0 rs rs' := ⟨⟨Or.inr rw0, fun k hk => ⟨by rw [r1], funext (fun j => ra k j (fun w => by unfold pR' at hk; omega) (fun w => by unfold pR' at hk; omega) (fun w => by unfold pR' at hk; omega)), by rw [rl]⟩⟩, fun k j a1 a2 a3 => ra k j (fun w => by
      unfold wd at a3
      rw [if_neg (by omega), if_pos (by omega)] at a3
      omega) (fun w => by
      unfold wd at a3
      rw [if_neg (by omega), if_pos (by omega)] at a3
      omega) (fun w => by
      unfold wd at a3
      rw [if_pos (by omega)] at a3
      omega), fun j _ => by rw [rl]⟩
  have pd : PD t c K0 S0 Q0 s0 l0 cs rs cs' rs' := ⟨em, by omega, fun x j a1 _ _ => ca x j (by omega), fun x _ => ca x t (by omega), fun x _ => congrFun vw x, tk, qf, fun k _ => by rw [(ca 326 t (by omega)).q]⟩
  have fy : ∀ lo hi, gr < lo → FY c lo hi s cs rs cs' rs' := fun lo hi q => ⟨em, fun x j a1 a2 a3 => ca x j (by omega), fun j a1 a2 => (ca 100 j (by omega)).ap, fun x _ => congrFun vw x, tk⟩
  have fz : ∀ lo hi, gr < lo → FZ c lo hi (e + 1) S 0 Q s cs rs cs' rs' := fun lo hi q => ⟨fy lo hi q, fun k j a1 a2 a3 a4 a5 => ra k j (fun w => by
      unfold wd at a4
      rw [if_neg (by omega), if_pos (by omega)] at a4
      omega) (fun w => by
      unfold wd at a4
      rw [if_neg (by omega), if_pos (by omega)] at a4
      omega) (fun w => by
      unfold wd at a4
      rw [if_pos (by omega)] at a4
      omega), fun j _ _ => by rw [rl]⟩
  have hX : ∀ x, gr < x → X0 x cs → X0 x cs' := fun x hx w => CLM.keep w em (fun y y1 y2 => ca y x (by omega))
  have am : ∀ x, AM o cs x → AM o cs' x := fun x hx => by
    obtain ⟨j, k, m1, m2, m3, m4⟩ := hx
    exact ⟨j, k, m1, by rw [(ca 203 o (by omega)).i]; exact m2, m3, by rw [(ca 202 o (by omega)).a]; exact m4⟩
  have oo : ∀ x, AT cs cs' x o := fun x => ca x o (by omega)
  have kp : ∀ x, x < s → VW c cs' rs' x = VW c cs rs x := fun x _ => congrFun vw x
  have ac : ACP none c s o it (mi + 1) cs' := fun x x1 x2 => by
    obtain ⟨r', a, r1, r2, r3, r4, r5⟩ := g.ag.ac x x1 (AM.back (oo 202) (oo 203) x2)
    refine ⟨r', a, r1, by rw [(ca 67 c (by omega)).a]; exact r2, r3, r4, Or.inl ?_⟩
    rcases r5 with ⟨k, q1, q2⟩ | w
    · exact ⟨k, by omega, by rw [a97, pk_un (by omega)]; exact q2⟩
    · refine ⟨mi, by omega, ?_⟩
      rw [a97, pk_us, hr, Option.some.inj w]
  refine ⟨b', g.pd.trans pd, ⟨em _ g.os.e6, by rw [kk]; exact g.os.od, g.os.e60, by rw [(oo 194).r]; exact g.os.r194, by rw [(oo 200).r]; exact g.os.r200, cw, g.os.cg.keep em (fun x a1 a2 => ca x gr (by omega)), em _ g.os.e195, by rw [(oo 195).p]; exact g.os.p195, by rw [(oo 195).l]; exact g.os.l195, by rw [(oo 196).i]; exact g.os.i196, g.os.n3, g.os.nr3, by rw [(oo 192).i, (oo 193).i, ra 35 e (by omega) (by omega) (by omega)]; exact g.os.ds, rC, (ra 37 e (by omega) (by omega) (by omega)).trans g.os.rn, (ra 39 e (by omega) (by omega) (by omega)).trans g.os.rg, g.os.wh.kf (oo 197).i (ra 38 e (by omega) (by omega) (by omega)) (Nat.le_refl _) kp tk, g.os.hv.keep (oo 201).i (ra 41 e (by omega) (by omega) (by omega)) (Nat.le_refl _) kp tk am, ?_, fun k hk => ?_, fun k hk => ?_, ?_⟩, g.ag.kept em (ca 202 o (by omega)) (ca 203 o (by omega)) kp tk (fun k hk => ra k e (by omega) (by omega) (by omega)) s2 ac, ⟨fun k hk => ?_, fun w => ?_⟩, by rw [(ca 330 t (by omega)).r]; exact g.r3, by rw [r1]; exact g.r7, g.ix, g.kx, by omega, by omega, g.ct, g.p0, g.qs⟩
  · rw [(oo 198).i, (oo 199).i, ra 40 e (by omega) (by omega) (by omega)]
    exact g.os.hg
  · by_cases hkm : k = mi
    · subst hkm
      obtain ⟨r0, q1, q2, q3⟩ := hn
      exact ⟨r0, by rw [a97, pk_us]; exact q1, by rw [rA]; exact q1, q2.keep (Nat.le_refl _) kp tk am, by rw [a98, pk_uLs, rB]; exact q3.f tk⟩
    · obtain ⟨r0, q1, q2, q3, q4⟩ := g.os.is k (by omega)
      exact ⟨r0, by rw [a97, pk_un hkm]; exact q1, by rw [ra 44 _ (by omega) (by omega) (by omega)]; exact q2, q3.keep (Nat.le_refl _) kp tk am, by rw [a98, pk_uLn hkm, ra 45 _ (by omega) (by omega) (by omega)]; exact q4.f tk⟩
  · obtain ⟨r0, j, q1, q2, q3, q4, q5, q6, q7⟩ := g.os.gs k hk
    have m8 := g.os.cg.m8
    have ci := ca 97 gr (by omega)
    have cj := ca 98 gr (by omega)
    have cl := ca 99 gr (by omega)
    exact ⟨r0, j, by rw [ci.a]; exact q1, by rw [ra 47 _ (by omega) (by omega) (by omega)]; exact q2, q3.kf (Nat.le_refl _) kp tk, q4, by rw [ra 48 _ (by omega) (by omega) (by omega)]; exact q5, by rw [cj.b]; exact q6.f tk, by rw [cl.a, tk.2.1]; exact q7⟩
  · obtain ⟨b, u, v, b0, b1, b2, u0, u1, b3⟩ := g.os.so
    have n3 := g.os.n3
    refine ⟨b, u, v, b0, b1, by rw [kk]; exact b2, fun k hk => ⟨(u0 k hk).1, fun w => (u0 k hk).2 (by rw [← ra 49 _ (by omega) (by omega) (by omega)]; exact w)⟩, u1, fun k hk => ?_⟩
    obtain ⟨oo', o1, o2⟩ := b3 k hk
    have m0 := mono_b b1 k 0 (by omega)
    rw [Nat.zero_add] at m0
    refine ⟨oo', by rw [(oo 195).q]; exact o1, o2.keep (fy _ _ (by omega)) (Nat.le_refl _) (fun k' q1 q2 => ra k' _ (by omega) (by omega) (by omega)) (by rw [rl]) (fun l a b' hl hp => QR.keep (Nat.le_refl _) s2 (Nat.le_refl _) (Nat.le_refl _) (Nat.le_refl _) (Nat.le_refl _) d _ _ _ l _ a b' hp ((fz l _ (by omega)).sub (Nat.le_refl _) (Nat.le_refl _) (u0 k hk).1 (Nat.zero_le _)) (fun x w1 w2 w3 => hX x (by omega) w3)) (fun x w1 w2 w3 => hX x (by omega) w3)⟩
  · obtain ⟨oo', o1, o2⟩ := g.sm.1 k hk
    exact ⟨oo', by rw [(ca 326 t (by omega)).q]; exact o1, em _ o2⟩
  · rw [lsm_eq (cs := cs) lf (fun k hk => ?_), rsm_eq (rs := rs) S (fun s k hs hk => ?_)]
    · exact g.sm.2 w
    · unfold rk1
      rw [ra 37 s (by omega) (by omega) (by omega), ra 49 (3 * s + k) (by omega) (by omega) (by omega), ra 51 (3 * s + k) (by omega) (by omega) (by omega), rl]
    · unfold lk1
      rw [(ca 326 t (by omega)).q]
      cases hq : kQ cs 326 t k with
      | none => rfl
      | some oo' =>
        show w (kI cs' 224 oo') (kJ cs' 230 oo') = w (kI cs 224 oo') (kJ cs 230 oo')
        rw [(ca 224 oo' (by omega)).i, (ca 230 oo' (by omega)).j]
theorem SG.addg {n : Nat} {f : Nat → Int32} {M t c cap : Nat} {β : Option Nat} {d K0 S0 Q0 s0 l0 ql z o e it gr mi ns nr mg i s lf S Q : Nat} {u1 : Option Nat} {u2 : Int32} {cs0 cs : CS} {rs0 rs : RS} {r nw : Int32} {nm : Int64} {mk : Int32} (g : SG β n f M t c cap d K0 S0 Q0 s0 l0 ql z u1 u2 cs0 rs0 o e it gr mi ns nr mg i s lf S Q cs rs) (hm : mg < 8) (h0 : kI cs 198 o = 1 ∧ rs.2.2.1 40 e = kI cs 199 o ∧ rs.2.2.1 40 e ≠ -1) (hn : ∃ r0 j, r = nI r0 ∧ RT n f M c 0 false s r0 cs rs ∧ j ≤ M ∧ nw = nI j ∧ NM9 n f j nm cs rs ∧ mk = kA cs 353 9 j) : SG β n f M t c cap d K0 S0 Q0 s0 l0 ql z u1 u2 cs0 rs0 o e it gr (mi) ns nr (mg + 1) i s lf S Q (adC cs gr mg r nm mk 1) (setI (setI (setI rs 47 (8 * e + mg) r) 48 (8 * e + mg) nw) 39 e (nI (mg + 1))) := by
  obtain ⟨k1, k2, k3, k4⟩ := g.os.od
  obtain ⟨x1, x2, x3, x4, x5, x6⟩ := g.ix
  obtain ⟨y1, y2, y3⟩ := g.kx
  have s2 := g.b.s2
  have ca : ∀ x j, ¬ (96 ≤ x ∧ x ≤ 100 ∧ j = gr) → AT cs (adC cs gr mg r nm mk 1) x j := fun x j hx => adC_at hx
  have a97 := adC_97 (cs := cs) (o := gr) (m := mg) (r := r) (nm := nm) (mk := mk) (ty := 1)
  have a98 := adC_98 (cs := cs) (o := gr) (m := mg) (r := r) (nm := nm) (mk := mk) (ty := 1)
  have a99 := adC_99 (cs := cs) (o := gr) (m := mg) (r := r) (nm := nm) (mk := mk) (ty := 1)
  have cw : CLM gr (mg + 1) (adC cs gr mg r nm mk 1) := adC_clm g.os.cg hm
  have c1 : (adC cs gr mg r nm mk 1).1 = cs.1 := rfl
  have ra : ∀ k j, ¬ (k = 47 ∧ j = 8 * e + mg) → ¬ (k = 48 ∧ j = 8 * e + mg) → ¬ (k = 39 ∧ j = e) → (setI (setI (setI rs 47 (8 * e + mg) r) 48 (8 * e + mg) nw) 39 e (nI (mg + 1))).2.2.1 k j = rs.2.2.1 k j := fun k j q1 q2 q3 => by
    show (if k = 39 then upd (rs.2.2.1 39) e (nI (mg + 1)) else if k = 48 then upd (rs.2.2.1 48) (8 * e + mg) nw else if k = 47 then upd (rs.2.2.1 47) (8 * e + mg) r else rs.2.2.1 k) j = _
    by_cases v1 : k = 39
    · subst v1
      rw [if_pos rfl]
      exact pk_un (by omega)
    · rw [if_neg v1]
      by_cases v2 : k = 48
      · subst v2
        rw [if_pos rfl]
        exact pk_un (by omega)
      · rw [if_neg v2]
        by_cases v3 : k = 47
        · subst v3
          rw [if_pos rfl]
          exact pk_un (by omega)
        · rw [if_neg v3]
  have rA : (setI (setI (setI rs 47 (8 * e + mg) r) 48 (8 * e + mg) nw) 39 e (nI (mg + 1))).2.2.1 47 (8 * e + mg) = r := pk_us
  have rB : (setI (setI (setI rs 47 (8 * e + mg) r) 48 (8 * e + mg) nw) 39 e (nI (mg + 1))).2.2.1 48 (8 * e + mg) = nw := pk_us
  have rC : (setI (setI (setI rs 47 (8 * e + mg) r) 48 (8 * e + mg) nw) 39 e (nI (mg + 1))).2.2.1 39 e = nI (mg + 1) := pk_us
  have r1 : (setI (setI (setI rs 47 (8 * e + mg) r) 48 (8 * e + mg) nw) 39 e (nI (mg + 1))).1 = rs.1 := rfl
  have rw0 : (setI (setI (setI rs 47 (8 * e + mg) r) 48 (8 * e + mg) nw) 39 e (nI (mg + 1))).2.1 = rs.2.1 := rfl
  have rl : (setI (setI (setI rs 47 (8 * e + mg) r) 48 (8 * e + mg) nw) 39 e (nI (mg + 1))).2.2.2 = rs.2.2.2 := rfl
  obtain ⟨cs', hcs'⟩ : ∃ x, x = adC cs gr mg r nm mk 1 := ⟨_, rfl⟩
  obtain ⟨rs', hrs'⟩ : ∃ x, x = setI (setI (setI rs 47 (8 * e + mg) r) 48 (8 * e + mg) nw) 39 e (nI (mg + 1)) := ⟨_, rfl⟩
  rw [← hcs'] at ca a97 a98 a99 cw c1 ⊢
  rw [← hrs'] at ra rA rB rC r1 rw0 rl ⊢
  have em : EM cs cs' := EM.of (congrArg (fun z => z.2.2) c1)
  have kk : kK cs' = kK cs := congrArg (fun z => z.1) c1
  have km : kM cs' = kM cs := congrArg (fun z => z.2.1) c1
  have hkr := g.kr
  have hmr := g.mr
  have r33 : ∀ k, k ≤ 33 → rs'.2.2.1 k = rs.2.2.1 k ∧ rs'.2.2.2 k = rs.2.2.2 k := fun k hk => ⟨funext (fun j => ra k j (by omega) (by omega) (by omega)), by rw [rl]⟩
  have gb : ∀ x j, j ≤ 37 → AT cs cs' x j := fun x j hj => ca x j (by omega)
  have b' : BG n f M t c cap i z s lf S Q cs' rs' := g.b.mv em (g.b.kb.of c1) gb (fun x a1 a2 a3 a4 => ca x t (by omega)) (fun x a1 a2 => ca x c (by omega)) (fun k _ _ _ _ => by rw [r1]) r33 (by rw [r1]; exact g.b.rS) (by rw [r1]; exact g.b.rQ)
  have vw : VW c cs' rs' = VW c cs rs := VW.eq (fun x a1 a2 => ca x c (by omega)) r33
  have tk : TKF cs rs cs' rs' := ⟨(gb 352 9 (by decide)).a, (gb 353 9 (by decide)).a, (gb 354 9 (by decide)).b, (r33 14 (by decide)).1, (r33 15 (by decide)).1, (r33 16 (by decide)).1, (r33 17 (by decide)).2, (r33 2 (by decide)).1⟩
  have qf : QF S0 Q0 rs rs' := ⟨⟨Or.inr rw0, fun k hk => ⟨by rw [r1], funext (fun j => ra k j (fun w => by unfold pR' at hk; omega) (fun w => by unfold pR' at hk; omega) (fun w => by unfold pR' at hk; omega)), by rw [rl]⟩⟩, fun k j a1 a2 a3 => ra k j (fun w => by
      unfold wd at a3
      rw [if_neg (by omega), if_pos (by omega)] at a3
      omega) (fun w => by
      unfold wd at a3
      rw [if_neg (by omega), if_pos (by omega)] at a3
      omega) (fun w => by
      unfold wd at a3
      rw [if_pos (by omega)] at a3
      omega), fun j _ => by rw [rl]⟩
  have pd : PD t c K0 S0 Q0 s0 l0 cs rs cs' rs' := ⟨em, by omega, fun x j a1 _ _ => ca x j (by omega), fun x _ => ca x t (by omega), fun x _ => congrFun vw x, tk, qf, fun k _ => by rw [(ca 326 t (by omega)).q]⟩
  have fy : ∀ lo hi, gr < lo → FY c lo hi s cs rs cs' rs' := fun lo hi q => ⟨em, fun x j a1 a2 a3 => ca x j (by omega), fun j a1 a2 => (ca 100 j (by omega)).ap, fun x _ => congrFun vw x, tk⟩
  have fz : ∀ lo hi, gr < lo → FZ c lo hi (e + 1) S 0 Q s cs rs cs' rs' := fun lo hi q => ⟨fy lo hi q, fun k j a1 a2 a3 a4 a5 => ra k j (fun w => by
      unfold wd at a4
      rw [if_neg (by omega), if_pos (by omega)] at a4
      omega) (fun w => by
      unfold wd at a4
      rw [if_neg (by omega), if_pos (by omega)] at a4
      omega) (fun w => by
      unfold wd at a4
      rw [if_pos (by omega)] at a4
      omega), fun j _ _ => by rw [rl]⟩
  have hX : ∀ x, gr < x → X0 x cs → X0 x cs' := fun x hx w => CLM.keep w em (fun y y1 y2 => ca y x (by omega))
  have am : ∀ x, AM o cs x → AM o cs' x := fun x hx => by
    obtain ⟨j, k, m1, m2, m3, m4⟩ := hx
    exact ⟨j, k, m1, by rw [(ca 203 o (by omega)).i]; exact m2, m3, by rw [(ca 202 o (by omega)).a]; exact m4⟩
  have oo : ∀ x, AT cs cs' x o := fun x => ca x o (by omega)
  have kp : ∀ x, x < s → VW c cs' rs' x = VW c cs rs x := fun x _ => congrFun vw x
  refine ⟨b', g.pd.trans pd, ⟨em _ g.os.e6, by rw [kk]; exact g.os.od, g.os.e60, by rw [(oo 194).r]; exact g.os.r194, by rw [(oo 200).r]; exact g.os.r200, g.os.ci.keep em (fun x a1 a2 => ca x it (by omega)), cw, em _ g.os.e195, by rw [(oo 195).p]; exact g.os.p195, by rw [(oo 195).l]; exact g.os.l195, by rw [(oo 196).i]; exact g.os.i196, g.os.n3, g.os.nr3, by rw [(oo 192).i, (oo 193).i, ra 35 e (by omega) (by omega) (by omega)]; exact g.os.ds, (ra 36 e (by omega) (by omega) (by omega)).trans g.os.ri, (ra 37 e (by omega) (by omega) (by omega)).trans g.os.rn, rC, g.os.wh.kf (oo 197).i (ra 38 e (by omega) (by omega) (by omega)) (Nat.le_refl _) kp tk, g.os.hv.keep (oo 201).i (ra 41 e (by omega) (by omega) (by omega)) (Nat.le_refl _) kp tk am, ?_, fun k hk => ?_, fun k hk => ?_, ?_⟩, g.ag.kept em (ca 202 o (by omega)) (ca 203 o (by omega)) kp tk (fun k hk => ra k e (by omega) (by omega) (by omega)) s2 (g.ag.ac.at' (oo 202) (oo 203) (ca 97 it (by omega)) (ca 67 c (by omega))), ⟨fun k hk => ?_, fun w => ?_⟩, by rw [(ca 330 t (by omega)).r]; exact g.r3, by rw [r1]; exact g.r7, g.ix, g.kx, by omega, by omega, g.ct, g.p0, g.qs⟩
  · rw [(oo 198).i, (oo 199).i, ra 40 e (by omega) (by omega) (by omega)]
    exact Or.inr h0
  · obtain ⟨r0, q1, q2, q3, q4⟩ := g.os.is k hk
    have m8 := g.os.ci.m8
    have ci := ca 97 it (by omega)
    have cj := ca 98 it (by omega)
    exact ⟨r0, by rw [ci.a]; exact q1, by rw [ra 44 _ (by omega) (by omega) (by omega)]; exact q2, q3.keep (Nat.le_refl _) kp tk am, by rw [cj.b, ra 45 _ (by omega) (by omega) (by omega)]; exact q4.f tk⟩
  · by_cases hkm : k = mg
    · subst hkm
      obtain ⟨r0, j, q1, q2, q3, q4, q5, q6⟩ := hn
      exact ⟨r0, j, by rw [a97, pk_us]; exact q1, by rw [rA]; exact q1, q2.kf (Nat.le_refl _) kp tk, q3, by rw [rB]; exact q4, by rw [a98, pk_uLs]; exact q5.f tk, by rw [a99, pk_us, tk.2.1]; exact q6⟩
    · obtain ⟨r0, j, q1, q2, q3, q4, q5, q6, q7⟩ := g.os.gs k (by omega)
      exact ⟨r0, j, by rw [a97, pk_un hkm]; exact q1, by rw [ra 47 _ (by omega) (by omega) (by omega)]; exact q2, q3.kf (Nat.le_refl _) kp tk, q4, by rw [ra 48 _ (by omega) (by omega) (by omega)]; exact q5, by rw [a98, pk_uLn hkm]; exact q6.f tk, by rw [a99, pk_un hkm, tk.2.1]; exact q7⟩
  · obtain ⟨b, u, v, b0, b1, b2, u0, u1, b3⟩ := g.os.so
    have n3 := g.os.n3
    refine ⟨b, u, v, b0, b1, by rw [kk]; exact b2, fun k hk => ⟨(u0 k hk).1, fun w => (u0 k hk).2 (by rw [← ra 49 _ (by omega) (by omega) (by omega)]; exact w)⟩, u1, fun k hk => ?_⟩
    obtain ⟨oo', o1, o2⟩ := b3 k hk
    have m0 := mono_b b1 k 0 (by omega)
    rw [Nat.zero_add] at m0
    refine ⟨oo', by rw [(oo 195).q]; exact o1, o2.keep (fy _ _ (by omega)) (Nat.le_refl _) (fun k' q1 q2 => ra k' _ (by omega) (by omega) (by omega)) (by rw [rl]) (fun l a b' hl hp => QR.keep (Nat.le_refl _) s2 (Nat.le_refl _) (Nat.le_refl _) (Nat.le_refl _) (Nat.le_refl _) d _ _ _ l _ a b' hp ((fz l _ (by omega)).sub (Nat.le_refl _) (Nat.le_refl _) (u0 k hk).1 (Nat.zero_le _)) (fun x w1 w2 w3 => hX x (by omega) w3)) (fun x w1 w2 w3 => hX x (by omega) w3)⟩
  · obtain ⟨oo', o1, o2⟩ := g.sm.1 k hk
    exact ⟨oo', by rw [(ca 326 t (by omega)).q]; exact o1, em _ o2⟩
  · rw [lsm_eq (cs := cs) lf (fun k hk => ?_), rsm_eq (rs := rs) S (fun s k hs hk => ?_)]
    · exact g.sm.2 w
    · unfold rk1
      rw [ra 37 s (by omega) (by omega) (by omega), ra 49 (3 * s + k) (by omega) (by omega) (by omega), ra 51 (3 * s + k) (by omega) (by omega) (by omega), rl]
    · unfold lk1
      rw [(ca 326 t (by omega)).q]
      cases hq : kQ cs 326 t k with
      | none => rfl
      | some oo' =>
        show w (kI cs' 224 oo') (kJ cs' 230 oo') = w (kI cs 224 oo') (kJ cs 230 oo')
        rw [(ca 224 oo' (by omega)).i, (ca 230 oo' (by omega)).j]

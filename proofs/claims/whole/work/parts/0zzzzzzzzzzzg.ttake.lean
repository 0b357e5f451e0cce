/-! a text is taken, in both -/
theorem fp_mTk {F : Nat} {r r2 : RS} (e2 : mTk F r = some r2) : FR rdR r r2 := by
  unfold mTk at e2
  replace e2 := ob e2; obtain ⟨z4, g4, e2⟩ := e2
  replace e2 := ob e2; obtain ⟨w, gw, e2⟩ := e2
  replace e2 := ob e2; obtain ⟨z6, g6, e2⟩ := e2
  have q0 : FR rdR r (setF (setF (setF (setF (setF (setF (setF (setF (setF (setF (setF r 18 0) 21 1) 19 0) 22 0) 34 0) 59 0) 69 0) 70 0) 71 0) 72 0) 73 0) := by
    iterate 10 refine FR.trans ?_ (FR.setF (by unfold rdR; omega))
    exact FR.setF (by unfold rdR; omega)
  have q4 : FR rdR r z4.1 := q0.trans (fp_m_takeWord g4)
  have q6 : FR rdR r z6.1 := (q4.trans (FR.setF (k := 75) (v := z4.2) (by unfold rdR; omega))).trans (fp_m_queryOf g6)
  rcases ite_or e2 with e2 | e2
  · exact q6.to (Option.some.inj e2)
  · replace e2 := ob e2; obtain ⟨v8, g8, e2⟩ := e2
    rcases ite_or e2 with e2 | e2
    · exact q6.to (Option.some.inj e2)
    · exact q6.trans (fp_m_wrong e2)
theorem gp_mTk {F : Nat} {r r2 : RS} (e2 : mTk F r = some r2) (g : r2.1 21 ≠ 0) : r2.1 19 = 0 := by
  unfold mTk at e2
  replace e2 := ob e2; obtain ⟨z4, g4, e2⟩ := e2
  replace e2 := ob e2; obtain ⟨w, gw, e2⟩ := e2
  replace e2 := ob e2; obtain ⟨z6, g6, e2⟩ := e2
  have q6 := ((gp_m_takeWord g4).trans (GR.sF (rs := z4.1) (k := 75) (v := z4.2) (by decide))).trans (gp_m_queryOf g6)
  have fin : GR z6.1 r2 := by
    rcases ite_or e2 with e2 | e2
    · exact (GR.refl _).to (Option.some.inj e2)
    · replace e2 := ob e2; obtain ⟨v8, g8, e2⟩ := e2
      rcases ite_or e2 with e2 | e2
      · exact (GR.refl _).to (Option.some.inj e2)
      · exact gp_m_wrong e2
  have q := (q6.trans fin) g
  rw [q.2]
  rfl
theorem SM.jk {t c k K kk lf S : Nat} {a b : CS} {x y : RS} (h : SM t lf S a x) (em : EM a b) (q : kQ b 326 t = kQ a 326 t) (a7 : ∀ j, AT a b 224 j ∧ AT a b 230 j) (r : ∀ z, z = 37 ∨ z = 49 ∨ z = 51 → y.2.2.1 z = x.2.2.1 z) (rl : y.2.2.2 52 = x.2.2.2 52) : SM t lf S b y := by
  refine ⟨fun i hi => ?_, fun w => ?_⟩
  · obtain ⟨oo, o1, o2⟩ := h.1 i hi
    exact ⟨oo, by rw [q]; exact o1, em _ o2⟩
  · rw [lsm_eq (cs := a) lf (fun i hi => ?_), rsm_rs (r 37 (by omega)) (r 49 (by omega)) (r 51 (by omega)) rl]
    · exact h.2 w
    · unfold lk1
      rw [q]
      cases kQ a 326 t i with
      | none => rfl
      | some oo =>
        show w (kI b 224 oo) (kJ b 230 oo) = w (kI a 224 oo) (kJ a 230 oo)
        rw [(a7 oo).1.i, (a7 oo).2.j]
/-- a checked text without fault -/
theorem txg_of {F n M t c cap K s lf S Q oq ar : Nat} {f : Nat → Int32} {D : Nat → Prop} {cR c4 c5 : CS} {rs rs5 : RS} (hF : 10000 ≤ F) (na : ar ≠ c) (r : RDK n f M t c cap K s lf S Q oq cR rs) (hK : K ≤ kK cR) (t38 : 38 ≤ t ∧ 38 ≤ c) (e4 : EM cR c4) (a4 : ∀ x j, x / 32 ≠ 1 → AT cR c4 x j) (jh : JH n f M t c cap s (kK cR) (VW c cR rs) D c5 rs5) (jk : JK t c (kK cR) K (kK cR) 0 S c4 rs c5 rs5) (ch : CHD n f M t c cap K s lf S Q oq (kK cR) (VW c cR rs) D c4 c5 rs5) (g1 : rs5.1 21 = 1) : TXG F n f M t c cap K (kK cR) s lf S Q oq ar (VW c cR rs) D c5 rs5 := by
  have g := r.g
  obtain ⟨tK, cK⟩ := g.tK
  obtain ⟨i1, i2, i3, i4, i5⟩ := g.ix
  have em : EM c4 c5 := EM.of (congrArg (fun z => z.2.2) jk.c1)
  have a5 : ∀ x j, ¬ kX t c (kK cR) K (kK cR) x j → x / 32 ≠ 1 → AT cR c5 x j := fun x j h1 h2 => (a4 x j h2).trans (jk.a0 x j h1)
  have at5 : ∀ x, x ≠ 320 → x ≠ 321 → 320 ≤ x → x < 352 → AT cR c5 x t := fun x h1 h2 h3 h4 => a5 x t (by unfold kX; omega) (by omega)
  have ra : ∀ q, ¬ jK q → rs5.1 q = rs.1 q ∧ rs5.2.2.1 q = rs.2.2.1 q ∧ rs5.2.2.2 q = rs.2.2.2 q := fun q hq => ⟨jk.fr.f hq, jk.fr.a hq, jk.fr.l hq⟩
  have q0 : QR X0 n f M c s S Q c4 rs 13 S 0 0 K (kK cR) oq 0 := QR.keep (Nat.le_refl _) g.s2 (Nat.le_refl _) (Nat.le_refl _) (Nat.le_refl _) (Nat.le_refl _) 13 S 0 0 K (kK cR) oq 0 g.qr ⟨⟨e4, fun x j _ _ hx => a4 x j (by unfold relQ at hx; omega), fun j _ _ => (a4 100 j (by omega)).ap, fun x _ => congrFun (VW.eq (fun y y1 y2 => a4 y c (by omega)) (fun _ _ => ⟨rfl, rfl⟩)) x, ⟨(a4 352 9 (by omega)).a, (a4 353 9 (by omega)).a, (a4 354 9 (by omega)).b, rfl, rfl, rfl, rfl, rfl⟩⟩, fun _ _ _ _ _ _ _ => rfl, fun _ _ _ => rfl⟩ (fun x _ _ w => CLM.keep w e4 (fun y y1 y2 => a4 y x (by omega)))
  have st := jh.st
  refine ⟨hF, na, ch.qr, ch.jd, tqy_now jk g.s2 13 S 0 0 K (kK cR) S 0 0 K (kK cR) oq 0 q0 ch.qr ch.ty, jh.v, ch.sv, g.s2, g.sc, by have := g.cp; omega, jh.ck.ca, jh.ck.oc, by rw [(a5 64 c (by unfold kX; omega) (by omega)).i]; exact g.cn, ?_, g.sm.jk (k := 0) (K := 0) (kk := 0) (c := c) (e4.trans em) (at5 326 (by omega) (by omega) (by omega) (by omega)).q (fun j => ⟨a5 224 j (by unfold kX; omega) (by omega), a5 230 j (by unfold kX; omega) (by omega)⟩) (fun z hz => (ra z (by unfold jK; omega)).2.1) (ra 52 (by unfold jK; omega)).2.2, g.l3, by rw [(ra 22 (by unfold jK; omega)).1]; exact g.rn, by rw [(ra 34 (by unfold jK; omega)).1]; exact g.rS, by rw [(ra 69 (by unfold jK; omega)).1]; exact g.rl, by rw [(at5 325 (by omega) (by omega) (by omega) (by omega)).i]; exact g.cl, by rw [(at5 323 (by omega) (by omega) (by omega) (by omega)).r]; exact g.r323, by rw [(at5 322 (by omega) (by omega) (by omega) (by omega)).r]; exact g.h.rc, em _ (e4 _ g.h.o), em _ (e4 _ g.e326), by rw [(at5 326 (by omega) (by omega) (by omega) (by omega)).p]; exact g.p326, by rw [(at5 326 (by omega) (by omega) (by omega) (by omega)).l]; exact g.l326, fun j hj oo hoo => ?_, ?_, ⟨t38.1, tK, t38.2, cK, hK, i5⟩⟩
  · rcases st with ⟨s1, s2, s3⟩ | ⟨s1, s2, -⟩
    · exact s3
    · rw [s2] at g1
      exact absurd g1 (by decide)
  · rw [(at5 326 (by omega) (by omega) (by omega) (by omega)).q] at hoo
    obtain ⟨o', o1, o2⟩ := g.sm.1 j hj
    have e : o' = oo := Option.some.inj (o1.symm.trans hoo)
    rw [← e]
    exact g.kb _ o2
  · obtain ⟨e, it, mi, y1, y2, y3, y4, y5, y6, y7, y8, y9, y10, y11⟩ := ch.fi
    exact ⟨e, it, mi, y1, ⟨y2, y3⟩, y6, y7, y8, y9, y11⟩

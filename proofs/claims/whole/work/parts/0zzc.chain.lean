/-! several EXPRS and words one behind another, within one EXPR -/
def GC (n : Nat) (f : Nat → Int32) (M t c cap q sel : Nat) (ma : Bool) (i0 z s0 : Nat) (cs0 : CS) (rs0 : RS) (Q : VT → Prop) (i s : Nat) (cs : CS) (rs : RS) : Prop := (PG n f M t c cap q sel ma i z s cs rs) ∧ (i0 < i) ∧ (s0 ≤ s) ∧ (s + i0 + 1 ≤ s0 + i) ∧ (∀ x, x < s0 → VW c cs rs x = VW c cs0 rs0 x) ∧ (SQ t c q sel ma cs0 rs0 cs rs) ∧ (KE n f M c q ma s0 s cs rs) ∧ (∀ W : VT, (∀ x, s0 ≤ x → x < s → W x = VW c cs rs x) → Q W)
theorem GC.g {n : Nat} {f : Nat → Int32} {M t c cap q sel : Nat} {ma : Bool} {i0 z s0 : Nat} {cs0 : CS} {rs0 : RS} {Q : VT → Prop} {i s : Nat} {cs : CS} {rs : RS} (h : GC n f M t c cap q sel ma i0 z s0 cs0 rs0 Q i s cs rs) : PG n f M t c cap q sel ma i z s cs rs := h.1
theorem GC.il {n : Nat} {f : Nat → Int32} {M t c cap q sel : Nat} {ma : Bool} {i0 z s0 : Nat} {cs0 : CS} {rs0 : RS} {Q : VT → Prop} {i s : Nat} {cs : CS} {rs : RS} (h : GC n f M t c cap q sel ma i0 z s0 cs0 rs0 Q i s cs rs) : i0 < i := h.2.1
theorem GC.sl {n : Nat} {f : Nat → Int32} {M t c cap q sel : Nat} {ma : Bool} {i0 z s0 : Nat} {cs0 : CS} {rs0 : RS} {Q : VT → Prop} {i s : Nat} {cs : CS} {rs : RS} (h : GC n f M t c cap q sel ma i0 z s0 cs0 rs0 Q i s cs rs) : s0 ≤ s := h.2.2.1
theorem GC.le {n : Nat} {f : Nat → Int32} {M t c cap q sel : Nat} {ma : Bool} {i0 z s0 : Nat} {cs0 : CS} {rs0 : RS} {Q : VT → Prop} {i s : Nat} {cs : CS} {rs : RS} (h : GC n f M t c cap q sel ma i0 z s0 cs0 rs0 Q i s cs rs) : s + i0 + 1 ≤ s0 + i := h.2.2.2.1
theorem GC.kp {n : Nat} {f : Nat → Int32} {M t c cap q sel : Nat} {ma : Bool} {i0 z s0 : Nat} {cs0 : CS} {rs0 : RS} {Q : VT → Prop} {i s : Nat} {cs : CS} {rs : RS} (h : GC n f M t c cap q sel ma i0 z s0 cs0 rs0 Q i s cs rs) : ∀ x, x < s0 → VW c cs rs x = VW c cs0 rs0 x := h.2.2.2.2.1
theorem GC.sq {n : Nat} {f : Nat → Int32} {M t c cap q sel : Nat} {ma : Bool} {i0 z s0 : Nat} {cs0 : CS} {rs0 : RS} {Q : VT → Prop} {i s : Nat} {cs : CS} {rs : RS} (h : GC n f M t c cap q sel ma i0 z s0 cs0 rs0 Q i s cs rs) : SQ t c q sel ma cs0 rs0 cs rs := h.2.2.2.2.2.1
theorem GC.ke {n : Nat} {f : Nat → Int32} {M t c cap q sel : Nat} {ma : Bool} {i0 z s0 : Nat} {cs0 : CS} {rs0 : RS} {Q : VT → Prop} {i s : Nat} {cs : CS} {rs : RS} (h : GC n f M t c cap q sel ma i0 z s0 cs0 rs0 Q i s cs rs) : KE n f M c q ma s0 s cs rs := h.2.2.2.2.2.2.1
theorem GC.tr {n : Nat} {f : Nat → Int32} {M t c cap q sel : Nat} {ma : Bool} {i0 z s0 : Nat} {cs0 : CS} {rs0 : RS} {Q : VT → Prop} {i s : Nat} {cs : CS} {rs : RS} (h : GC n f M t c cap q sel ma i0 z s0 cs0 rs0 Q i s cs rs) : ∀ W : VT, (∀ x, s0 ≤ x → x < s → W x = VW c cs rs x) → Q W := h.2.2.2.2.2.2.2
theorem GC.tok {n : Nat} {f : Nat → Int32} {M t c cap q sel : Nat} {ma : Bool} {i0 z s0 i s : Nat} {cs0 cs : CS} {rs0 rs : RS} {Q : VT → Prop} (h : GC n f M t c cap q sel ma i0 z s0 cs0 rs0 Q i s cs rs) (hi : i < M) : GC n f M t c cap q sel ma i0 z s0 cs0 rs0 Q (i + 1) s (sI cs 328 t (nI (i + 1))) (setF rs 18 (nI (i + 1))) := by
  have sq : SQ t c q sel ma cs rs (sI cs 328 t (nI (i + 1))) (setF rs 18 (nI (i + 1))) := (SQ.text (by decide)).trans (SQ.ref (by unfold eR; omega))
  have h1 := h.il
  have h2 := h.le
  exact ⟨h.g.next hi, by omega, h.sl, by omega, fun x hx => h.kp x hx, h.sq.trans sq, h.ke.keep sq (fun _ _ _ => rfl), fun W hW => h.tr W hW⟩
theorem GC.ex {n : Nat} {f : Nat → Int32} {M t c cap q sel : Nat} {ma : Bool} {i0 z s0 i s i' s' : Nat} {cs0 cs cs' : CS} {rs0 rs rs' : RS} {Q : VT → Prop} (h : GC n f M t c cap q sel ma i0 z s0 cs0 rs0 Q i s cs rs) (g : EG n f M t c cap q sel ma i z s cs rs i' s' cs' rs') : GC n f M t c cap q sel ma i0 z s0 cs0 rs0 (fun W => Q W ∧ ∀ R, TR W (s' - s) R s (s' - 1)) i' s' cs' rs' := by
  have h1 := h.il
  have h2 := h.le
  have h3 := h.sl
  have g1 := g.il
  have g2 := g.le
  have g3 := g.sl
  refine ⟨g.g, by omega, by omega, by omega, fun x hx => by rw [g.kp x (by omega), h.kp x hx], h.sq.trans g.sq, (h.ke.keep g.sq (fun x x1 x2 => g.kp x x2)).join g.ke, fun W hW => ⟨h.tr W (fun x x1 x2 => by rw [hW x x1 (by omega), g.kp x x2]), fun R => TR.fr _ _ _ _ (fun x q1 q2 => hW x (by omega) (by omega)) (g.tr R)⟩⟩
theorem GC.step {n : Nat} {f : Nat → Int32} {M t c cap q sel : Nat} {ma : Bool} {i0 z s0 i s : Nat} {cs0 cs : CS} {rs0 rs : RS} {Q : VT → Prop} {E : Option CS} {N : Option RS} {P : CS → Nat → Option (CS × Int32)} {P' : RS → Option (RS × Int32)} (h : GC n f M t c cap q sel ma i0 z s0 cs0 rs0 Q i s cs rs) (hT : SX n f M t c cap q sel ma z P P') (hTf : ∀ x, FS t c x → ∃ b, P x t = some (x, b)) (hn : (i < M ∧ E = some (sI cs 328 t (nI (i + 1))) ∧ N = some (setF rs 18 (nI (i + 1)))) ∨ (∃ cs' rs', E = some cs' ∧ N = some rs' ∧ PB t c cs' rs' ∧ SQ t c q sel ma cs rs cs' rs')) : ∃ cs2 rs2 cs3 rs3 a b, E = some cs2 ∧ N = some rs2 ∧ (10, t) ∈ kE cs2 ∧ (10, t) ∈ kE cs3 ∧ P cs2 t = some (cs3, b) ∧ (∀ K : RS → Int32 → Option (RS × Int32), (if rs2.1 21 = 0 then K rs2 0 else Option.bind (P' rs2) fun z => K z.1 z.2) = K rs3 a) ∧ ((∃ i' s', s < s' ∧ a = nI (s' - 1) ∧ GC n f M t c cap q sel ma i0 z s0 cs0 rs0 (fun W => Q W ∧ ∀ R, TR W (s' - s) R s (s' - 1)) i' s' cs3 rs3) ∨ (PB t c cs3 rs3 ∧ FO (PX t c q) cs0 cs3 ∧ FR eR rs0 rs3)) := by
  rcases hn with ⟨hi, e1, e2⟩ | ⟨cs', rs', e1, e2, pb, sq⟩
  · have hg := h.tok hi
    obtain ⟨cs3, rs3, a, b, p1, p2, p3, p4⟩ := hT (i + 1) s _ _ hg.g
    refine ⟨_, _, cs3, rs3, a, b, e1, e2, hg.g.h.o, ?_, p1, fun K => ?_, ?_⟩
    · rcases p3 with ⟨i', s', g, _, _⟩ | ⟨pb, _, _⟩
      · exact g.g.h.o
      · exact pb.s.h.o
    · rw [if_neg (by rw [hg.g.g1]; decide), p2, ob_s]
    · rcases p3 with ⟨i', s', g, ea, _⟩ | ⟨pb, fo, fr⟩
      · exact Or.inl ⟨i', s', g.sl, ea, hg.ex g⟩
      · exact Or.inr ⟨pb, hg.sq.1.trans fo, hg.sq.2.1.trans fr⟩
  · obtain ⟨b, hb⟩ := hTf cs' pb.s
    exact ⟨cs', rs', cs', rs', 0, b, e1, e2, pb.s.h.o, pb.s.h.o, hb, fun K => by rw [if_pos pb.r.g], Or.inr ⟨pb, (h.sq.trans sq).1, (h.sq.trans sq).2.1⟩⟩
/-- one level up and no node, behind a fault -/
theorem PB.close {F t c q : Nat} {cs0 cs : CS} {rs0 rs : RS} {k fi bg pt k' a b d u : Int32} (pb : PB t c cs rs) (fo : FO (PX t c q) cs0 cs) (fr : FR eR rs0 rs) : (Option.bind (gI cs 10 329 t) fun v_24 => Option.bind (pI cs 10 329 t (v_24 - 1)) fun cs_25 => Option.bind (ckE cs_25 10 t) fun _ => Option.bind (c_X9_complete F cs_25 t k fi bg bg pt) fun z_26 => some z_26.1) = some (sI cs 329 t (kI cs 329 t - 1)) ∧ m_make F (setF rs 70 (rs.1 70 - 1)) k' a b d bg bg = some (setF rs 70 (rs.1 70 - 1), 0) ∧ PB t c (sI cs 329 t (kI cs 329 t - 1)) (setF (setF rs 70 (rs.1 70 - 1)) 74 u) ∧ FO (PX t c q) cs0 (sI cs 329 t (kI cs 329 t - 1)) ∧ FR eR rs0 (setF (setF rs 70 (rs.1 70 - 1)) 74 u) := by
  obtain ⟨v1, hv1⟩ : ∃ v, v = kI cs 329 t - 1 := ⟨_, rfl⟩
  obtain ⟨v2, hv2⟩ : ∃ v, v = rs.1 70 - 1 := ⟨_, rfl⟩
  have pb2 : PB t c (sI cs 329 t v1) (setF rs 70 v2) := (pb.ch (by decide)).rh (by decide)
  rw [← hv1, ← hv2]
  refine ⟨?_, mk_f pb2.r, pb2.s74, fo.trans (FO.sI (Or.inl ⟨by decide, rfl⟩)), (fr.trans (FR.setF (by unfold eR; omega))).trans (FR.setF (by unfold eR; omega))⟩
  rw [gI_ok pb.s.h.o, ob_s, pI_ok pb.s.h.o, ob_s, ← hv1, ckE_ok pb2.s.h.o, ob_s, cpl_f pb2.s, ob_s]
/-- the last word, one level up, the node -/
theorem GC.close {n : Nat} {f : Nat → Int32} {M t c cap q sel : Nat} {ma : Bool} {F i0 z s0 i s : Nat} {cs0 cs : CS} {rs0 rs : RS} {Q : VT → Prop} {E : Option CS} {N : Option RS} {k bg pt k' a b d : Int32} (h : GC n f M t c cap q sel ma i0 (z + 1) s0 cs0 rs0 Q i s cs rs) (hn : (i < M ∧ E = some (sI cs 328 t (nI (i + 1))) ∧ N = some (setF rs 18 (nI (i + 1)))) ∨ (∃ cs' rs', E = some cs' ∧ N = some rs' ∧ PB t c cs' rs' ∧ SQ t c q sel ma cs rs cs' rs')) (hs : s0 < s) (hk : k ≠ 39) (ha : ¬ (k = 32 ∨ k = 33 ∨ k = 34 ∨ k = 35 ∨ k = 61)) (hTR : ∀ W : VT, Q W → (∃ v, W s = ((k, nI s0, pt, bg, v, -1, -1), (k', a, b, d, 0, 0, bg, -1, 0))) → ∀ R, TR W (s - s0 + 1) R s0 s) (hbg : bg = kA cs0 353 9 i0) : ∃ cs2 rs2 cs3 rs3 m, E = some cs2 ∧ N = some rs2 ∧ (Option.bind (gI cs2 10 329 t) fun v_24 => Option.bind (pI cs2 10 329 t (v_24 - 1)) fun cs_25 => Option.bind (ckE cs_25 10 t) fun _ => Option.bind (c_X9_complete F cs_25 t k (nI s0) bg bg pt) fun z_26 => some z_26.1) = some cs3 ∧ m_make F (setF rs2 70 ((rs2.1 70) - 1)) k' a b d bg bg = some (rs3, m) ∧ EP n f M t c cap q sel ma i0 z s0 cs0 rs0 cs3 (setF rs3 74 bg) m := by
  rcases hn with ⟨hi, e1, e2⟩ | ⟨cs', rs', e1, e2, pb, sq⟩
  · have ht := h.tok hi
    obtain ⟨csA, hcsA⟩ : ∃ x, x = sI cs 328 t (nI (i + 1)) := ⟨_, rfl⟩
    obtain ⟨rsA, hrsA⟩ : ∃ x, x = setF rs 18 (nI (i + 1)) := ⟨_, rfl⟩
    rw [← hcsA] at e1 ht
    rw [← hrsA] at e2 ht
    have hr := ht.g.rise
    have cz : kI csA 329 t = nI (z + 1) := ht.g.cz
    have rz : rsA.1 70 = nI (z + 1) := ht.g.rz
    have l1 := ht.il
    have l2 := ht.le
    have sqB : SQ t c q sel ma csA rsA (sI csA 329 t (nI z)) (setF rsA 70 (nI z)) := (SQ.text (by decide)).trans (SQ.ref (by unfold eR; omega))
    rcases PG.mk (F := F) (k := k) (bg := bg) (mt := bg) (pt := pt) (k' := k') (a := a) (b := b) (d := d) (fi := s0) hr (by have := h.g.si; omega) (by omega) with ⟨cs3, rs3, f1, f2, f3, f4, f5, f6, f7, f8, f9, f10, f11⟩ | ⟨cs3, rs3, f1, f2, f3, f4, f5⟩
    · have sqC : SQ t c q sel ma (sI csA 329 t (nI z)) (setF rsA 70 (nI z)) cs3 rs3 := by rw [f10, f11]; exact SQ.mk hr.cn (by have := f3.s2; omega)
      have V1 : ∀ x, x ≠ s → VW c cs3 rs3 x = VW c csA rsA x := fun x hx => f4 x hx
      have hkk : vk (VW c cs3 rs3) s = k := by unfold vk; rw [f5]
      refine ⟨csA, rsA, cs3, rs3, nI s, e1, e2, ?_, ?_, Or.inl ⟨i + 1, s + 1, (EG.of f3 (by omega) (by omega) (by omega) (fun x hx => by rw [V1 x (by omega), ht.kp x hx]) (fun R => hTR _ (ht.tr _ (fun x x1 x2 => V1 x (by omega))) ⟨_, f5⟩ R) ((ht.sq.trans sqB).trans sqC) (((ht.ke.keep sqB (fun _ _ _ => rfl)).keep sqC (fun x x1 x2 => f4 x (by omega))).snoc (by rw [hkk]; exact hk) (fun y => absurd y (by unfold AGN; rw [hkk]; exact ha))) (Or.inr (by omega)) (by unfold rx; rw [f5])).s74, rfl, hbg⟩⟩
      · rw [gI_ok ht.g.h.o, ob_s, cz, nI_pred, pI_ok ht.g.h.o, ob_s, ckE_ok hr.h.o, ob_s, f1, ob_s]
      · rw [rz, nI_pred, f2]
    · refine ⟨csA, rsA, cs3, rs3, 0, e1, e2, ?_, ?_, Or.inr ⟨f3.s74, (ht.sq.trans sqB).1.trans f4, ((ht.sq.trans sqB).2.1.trans f5).trans (FR.setF (by unfold eR; omega))⟩⟩
      · rw [gI_ok ht.g.h.o, ob_s, cz, nI_pred, pI_ok ht.g.h.o, ob_s, ckE_ok hr.h.o, ob_s, f1, ob_s]
      · rw [rz, nI_pred, f2]
  · obtain ⟨p1, p2, p3, p4, p5⟩ := pb.close (F := F) (k := k) (fi := nI s0) (bg := bg) (pt := pt) (k' := k') (a := a) (b := b) (d := d) (u := bg) (h.sq.trans sq).1 (h.sq.trans sq).2.1
    exact ⟨cs', rs', _, _, 0, e1, e2, p1, p2, Or.inr ⟨p3, p4, p5⟩⟩
/-- one level deeper and the word or sign that opens -/
theorem PG.enter {n : Nat} {f : Nat → Int32} {M t c cap q sel : Nat} {ma : Bool} {F i z s p κ : Nat} {cs : CS} {rs : RS} (h : PG n f M t c cap q sel ma i z s cs rs) (hk : TK n f i p κ cs rs) (hiM : i < M) : ∃ csD csA x rsD rsA, c_X9_deepen F cs t = some csD ∧ (10, t) ∈ kE csD ∧ c_X9_accept F csD t (nI κ) = some (csA, x) ∧ (10, t) ∈ kE csA ∧ m_deeper F rs (kA cs 353 9 i) = some rsD ∧ setF rsD 18 (rsD.1 18 + 1) = rsA ∧ ((z < 12 ∧ GC n f M t c cap q sel ma i (z + 1) s cs rs (fun _ => True) (i + 1) s csA rsA) ∨ (PB t c csA rsA ∧ FO (PX t c q) cs csA ∧ FR eR rs rsA)) := by
  have hi2 := h.i2
  have him := h.im
  have hmn := h.x.mn
  have hn2 := h.x.n2
  have hz2 := h.z2
  have hkl := hk.kl
  by_cases h12 : z < 12
  · have hd := h.deep h12
    have kd1 : c_X9_kind F (sI cs 329 t (nI (z + 1))) t = some (nI κ) := knd_ok (F := F) hd.h hd.f0 hd.ci hi2 (tk_keep hk (FO.sI (W := PX t c q) (Or.inl ⟨by decide, rfl⟩)) (FR.setF (k := 70) (v := nI (z + 1)) (by unfold eR; omega)))
    have ac := acc_y hd.h hd.ci kd1
    have hn := hd.next hiM
    have sqA : SQ t c q sel ma cs rs (sI (sI cs 329 t (nI (z + 1))) 328 t (nI (i + 1))) (setF (setF rs 70 (nI (z + 1))) 18 (nI (i + 1))) := ((SQ.text (by decide)).trans (SQ.text (by decide))).trans ((SQ.ref (by unfold eR; omega)).trans (SQ.ref (by unfold eR; omega)))
    refine ⟨_, _, 1, _, setF (setF rs 70 (nI (z + 1))) 18 (nI (i + 1)), dee_ok h.h h.cz h12, hd.h.o, ac, hn.h.o, mde_ok h.rz h12, ?_, Or.inl ⟨h12, hn, by omega, by omega, by omega, fun _ _ => rfl, sqA, KE.nil, fun _ _ => trivial⟩⟩
    rw [show (setF rs 70 (nI (z + 1))).1 18 = nI i from h.ri, nI_1]
  · have ez : z = 12 := by omega
    subst ez
    have pb0 := h.bad (a := 7) (b := kA cs 353 9 i) (by decide)
    have pb1 : PB t c (sI (sI (sI cs 320 t 7) 321 t (kA cs 353 9 i)) 329 t (nI (12 + 1))) (setF (setF (setF (setF rs 70 (nI 13)) 21 0) 19 7) 20 (kA cs 353 9 i)) := by
      have := (pb0.ch (k := 329) (v := nI (12 + 1)) (by decide))
      exact ⟨this.s, ⟨rfl, i, h.ri, hi2⟩, this.e1, this.e2⟩
    have k57 : (57 : Int32) ≠ nI κ := fun y => by
      have k1 : κ < 56 := by
        obtain ⟨p', κ', hk', a1, a2⟩ := h.wd
        have e : nI κ = nI κ' := by rw [← hk.kd, ← hk'.kd]
        have := hk'.kl
        have := (nI_eq (by omega) (by omega)).mp e
        have := a1 hiM
        omega
      have := (nI_eq (a := 57) (by decide) (by omega)).mp y
      omega
    refine ⟨_, _, 0, _, setF (setF (setF (setF (setF rs 70 (nI 13)) 21 0) 19 7) 20 (kA cs 353 9 i)) 18 (nI (i + 1)), dee_b h.h h.f0 h.ci hi2 h.cz (Nat.le_refl _) (by decide), pb1.s.h.o, acc_f pb1.s k57, pb1.s.h.o, mde_b h.g1 h.rz, ?_, Or.inr ⟨pb1.at (by omega), ?_, ?_⟩⟩
    · rw [show (setF (setF (setF (setF rs 70 (nI 13)) 21 0) 19 7) 20 (kA cs 353 9 i)).1 18 = nI i from h.ri, nI_1]
    · exact ((FO.sI (Or.inl ⟨by decide, rfl⟩)).trans (FO.sI (Or.inl ⟨by decide, rfl⟩))).trans (FO.sI (Or.inl ⟨by decide, rfl⟩))
    · exact ((((FR.setF (by unfold eR; omega)).trans (FR.setF (by unfold eR; omega))).trans (FR.setF (by unfold eR; omega))).trans (FR.setF (by unfold eR; omega))).trans (FR.setF (by unfold eR; omega))

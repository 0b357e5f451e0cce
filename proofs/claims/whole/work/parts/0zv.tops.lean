/-! what is carried along -/
def SQ (t c q sel : Nat) (ma : Bool) (cs : CS) (rs : RS) (cs' : CS) (rs' : RS) : Prop := FO (PX t c q) cs cs' ∧ FR eR rs rs' ∧ (∀ x, AM q cs x → AM q cs' x) ∧ F4 sel ma rs rs' ∧ AXS c q cs cs'
theorem SQ.refl {ma : Bool} {t c q sel : Nat} (cs : CS) (rs : RS) : SQ t c q sel ma cs rs cs rs := ⟨FO.refl cs, FR.refl rs, fun _ h => h, F4.of rfl rfl rfl, AXS.rf cs⟩
theorem SQ.trans {ma : Bool} {t c q sel : Nat} {a a' a'' : CS} {b b' b'' : RS} (h : SQ t c q sel ma a b a' b') (g : SQ t c q sel ma a' b' a'' b'') : SQ t c q sel ma a b a'' b'' := ⟨h.1.trans g.1, h.2.1.trans g.2.1, fun x y => g.2.2.1 x (h.2.2.1 x y), h.2.2.2.1.trans g.2.2.2.1, h.2.2.2.2.trans g.2.2.2.2⟩
theorem SQ.text {ma : Bool} {t c q sel k : Nat} {cs : CS} {rs : RS} {v : Int32} (hk : k = 320 ∨ k = 321 ∨ k = 328 ∨ k = 329 ∨ k = 331) : SQ t c q sel ma cs rs (sI cs k t v) rs := by
  refine ⟨FO.sI (Or.inl ⟨hk, rfl⟩), FR.refl rs, fun x h => ?_, F4.of rfl rfl rfl, AXS.text (by omega) (by omega)⟩
  obtain ⟨j, m, m1, m2, m3, m4⟩ := h
  refine ⟨j, m, m1, ?_, m3, m4⟩
  show u2 (kI cs) k t v 203 q = nI m
  rw [u2_n (fun y => by omega)]
  exact m2
theorem SQ.ref {ma : Bool} {t c q sel k : Nat} {cs : CS} {rs : RS} {v : Int32} (hk : eR k ∧ k ≠ 73) : SQ t c q sel ma cs rs cs (setF rs k v) := ⟨FO.refl cs, FR.setF hk.1, fun _ h => h, F4.of rfl rfl (pk_un (fun y => hk.2 y.symm)), AXS.rf cs⟩
theorem SQ.refI {ma : Bool} {t c q sel k j : Nat} {cs : CS} {rs : RS} {v : Int32} (hk : eR k ∧ k ≠ 42 ∧ k ≠ 43) : SQ t c q sel ma cs rs cs (setI rs k j v) := ⟨FO.refl cs, FR.setI hk.1, fun _ h => h, F4.of ((FR.setI (S := fun x => x = k) rfl).a (fun y => hk.2.1 y.symm)) ((FR.setI (S := fun x => x = k) rfl).a (fun y => hk.2.2 y.symm)) rfl, AXS.rf cs⟩
theorem SQ.refL {ma : Bool} {t c q sel k j : Nat} {cs : CS} {rs : RS} {v : Int64} (hk : eR k) : SQ t c q sel ma cs rs cs (setL rs k j v) := ⟨FO.refl cs, FR.setL hk, fun _ h => h, F4.of rfl rfl rfl, AXS.rf cs⟩
theorem SQ.codeB {ma : Bool} {t c q sel k j : Nat} {cs : CS} {rs : RS} {v : Int64} (hk : k / 32 = 2) : SQ t c q sel ma cs rs (sB cs k c j v) rs := ⟨FO.sB (Or.inr (Or.inl ⟨hk, rfl⟩)), FR.refl rs, fun _ h => h, F4.of rfl rfl rfl, AXS.of rfl rfl (Nat.le_refl _)⟩
theorem SQ.mk {ma : Bool} {t c q sel s fi : Nat} {cs : CS} {rs : RS} {k bg pt k' a b d fs : Int32} (hs : kI cs 64 c = nI s) (h120 : s < 120) : SQ t c q sel ma cs rs (mkC cs c s fi k bg pt) (mkR rs s k' a b d fs) := by
  refine ⟨mkC_fo, mkR_fr, fun x h => ?_, F4.of rfl rfl rfl, AXS.mk hs h120⟩
  obtain ⟨j, m, m1, m2, m3, m4⟩ := h
  refine ⟨j, m, m1, by rw [mkI (by decide)]; exact m2, m3, ?_⟩
  simp only [mkC, kA_sA, kA_sB, kA_sI, u2, Nat.reduceEqDiff, false_and, if_false]
  exact m4
def KE (n : Nat) (f : Nat → Int32) (M c q : Nat) (ma : Bool) (s e : Nat) (cs : CS) (rs : RS) : Prop := (∀ x, s ≤ x → x < e → vk (VW c cs rs) x = 39 → COL n f M (VW c cs rs) x cs rs) ∧ (∀ x, s ≤ x → x < e → AGN (VW c cs rs) x → ma = true ∧ AM q cs x)
theorem KE.co {n : Nat} {f : Nat → Int32} {M c q : Nat} {ma : Bool} {s e : Nat} {cs : CS} {rs : RS} (h : KE n f M c q ma s e cs rs) : ∀ x, s ≤ x → x < e → vk (VW c cs rs) x = 39 → COL n f M (VW c cs rs) x cs rs := h.1
theorem KE.an {n : Nat} {f : Nat → Int32} {M c q : Nat} {ma : Bool} {s e : Nat} {cs : CS} {rs : RS} (h : KE n f M c q ma s e cs rs) : ∀ x, s ≤ x → x < e → AGN (VW c cs rs) x → ma = true ∧ AM q cs x := h.2
theorem KE.keep {n : Nat} {f : Nat → Int32} {M t c q sel : Nat} {ma : Bool} {s e : Nat} {cs cs' : CS} {rs rs' : RS} (h : KE n f M c q ma s e cs rs) (hq : SQ t c q sel ma cs rs cs' rs') (hV : ∀ x, s ≤ x → x < e → VW c cs' rs' x = VW c cs rs x) : KE n f M c q ma s e cs' rs' := by
  refine ⟨fun x x1 x2 x3 => ?_, fun x x1 x2 x3 => ?_⟩
  · have hv := hV x x1 x2
    exact (h.co x x1 x2 (by rw [← x3]; unfold vk; rw [hv])).keep hv hq.1 hq.2.1
  · obtain ⟨z1, z2⟩ := h.an x x1 x2 (AGN.keep (hV x x1 x2) x3)
    exact ⟨z1, hq.2.2.1 x z2⟩
theorem KE.join {n : Nat} {f : Nat → Int32} {M c q : Nat} {ma : Bool} {s m e : Nat} {cs : CS} {rs : RS} (h : KE n f M c q ma s m cs rs) (g : KE n f M c q ma m e cs rs) : KE n f M c q ma s e cs rs := by
  refine ⟨fun x x1 x2 x3 => ?_, fun x x1 x2 x3 => ?_⟩
  · by_cases y : x < m
    · exact h.co x x1 y x3
    · exact g.co x (by omega) x2 x3
  · by_cases y : x < m
    · exact h.an x x1 y x3
    · exact g.an x (by omega) x2 x3
theorem KE.snoc {n : Nat} {f : Nat → Int32} {M c q : Nat} {ma : Bool} {s e : Nat} {cs : CS} {rs : RS} (h : KE n f M c q ma s e cs rs) (hk : vk (VW c cs rs) e ≠ 39) (ha : AGN (VW c cs rs) e → ma = true ∧ AM q cs e) : KE n f M c q ma s (e + 1) cs rs := by
  refine ⟨fun x x1 x2 x3 => ?_, fun x x1 x2 x3 => ?_⟩
  · by_cases y : x = e
    · subst y; exact absurd x3 hk
    · exact h.co x x1 (by omega) x3
  · by_cases y : x = e
    · subst y; exact ha x3
    · exact h.an x x1 (by omega) x3
theorem KE.nil {n : Nat} {f : Nat → Int32} {M c q : Nat} {ma : Bool} {s : Nat} {cs : CS} {rs : RS} : KE n f M c q ma s s cs rs := ⟨fun x x1 x2 => by omega, fun x x1 x2 => by omega⟩
theorem EG.ke {n : Nat} {f : Nat → Int32} {M t c cap q sel : Nat} {ma : Bool} {i z s i' s' : Nat} {cs cs' : CS} {rs rs' : RS} (h : EG n f M t c cap q sel ma i z s cs rs i' s' cs' rs') : KE n f M c q ma s s' cs' rs' := ⟨h.co, h.an⟩
theorem EG.sq {n : Nat} {f : Nat → Int32} {M t c cap q sel : Nat} {ma : Bool} {i z s i' s' : Nat} {cs cs' : CS} {rs rs' : RS} (h : EG n f M t c cap q sel ma i z s cs rs i' s' cs' rs') : SQ t c q sel ma cs rs cs' rs' := ⟨h.fo, h.fr, h.am, h.fa, h.ax⟩
/-- an EXPR whose node is no name -/
theorem EG.of {n : Nat} {f : Nat → Int32} {M t c cap q sel : Nat} {ma : Bool} {i z s e i' : Nat} {cs cs' : CS} {rs rs' : RS} (g : PG n f M t c cap q sel ma i' z (e + 1) cs' rs') (il : i < i') (sl : s ≤ e) (le : e + 1 + i ≤ s + i') (kp : ∀ x, x < s → VW c cs' rs' x = VW c cs rs x) (tr : ∀ R, TR (VW c cs' rs') (e - s + 1) R s e) (sq : SQ t c q sel ma cs rs cs' rs') (ke : KE n f M c q ma s (e + 1) cs' rs') (hk : vk (VW c cs' rs') s ≠ 39 ∨ s < e) (hx : rx (VW c cs' rs') e = -1) : EG n f M t c cap q sel ma i z s cs rs i' (e + 1) cs' rs' :=
  ⟨g, il, by omega, le, kp, by rw [show e + 1 - s = e - s + 1 by omega, show e + 1 - 1 = e by omega]; exact tr, sq.1, sq.2.1, ke.co, ke.an, sq.2.2.1, fun y z => by
    rcases hk with w | w
    · exact absurd z w
    · omega, sq.2.2.2.1, hx, sq.2.2.2.2⟩
/-- one level deeper -/
theorem PG.deep {n : Nat} {f : Nat → Int32} {M t c cap q sel : Nat} {ma : Bool} {i z s : Nat} {cs : CS} {rs : RS} (h : PG n f M t c cap q sel ma i z s cs rs) (h12 : z < 12) : PG n f M t c cap q sel ma i (z + 1) s (sI cs 329 t (nI (z + 1))) (setF rs 70 (nI (z + 1))) := by
  have w : FO (PX t c q) cs (sI cs 329 t (nI (z + 1))) := FO.sI (Or.inl ⟨by decide, rfl⟩)
  have g : FR eR rs (setF rs 70 (nI (z + 1))) := FR.setF (by unfold eR; omega)
  refine ⟨h.h.fo w, h.x.fo w g, ?_, ?_, u2_s, ?_, h.g1, h.ri, rfl, h.rn, h.im, h.si, h.s2, by omega, h.cp, h.ca.fo w, ?_, h.rm, fun y => ?_⟩
  · show u2 (kI cs) 329 t (nI (z + 1)) 320 t = 0
    rw [u2_n (fun q => absurd q.1 (by decide))]; exact h.f0
  · show u2 (kI cs) 329 t (nI (z + 1)) 328 t = nI i
    rw [u2_n (fun q => absurd q.1 (by decide))]; exact h.ci
  · show u2 (kI cs) 329 t (nI (z + 1)) 64 c = nI s
    rw [u2_n (fun q => absurd q.1 (by decide))]; exact h.cn
  · show u2 (kI cs) 329 t (nI (z + 1)) 331 t = _
    rw [u2_n (fun q => absurd q.1 (by decide))]; exact h.cm
  · have a := h.ag y
    obtain ⟨k, k1, k2, k3, k4⟩ := a.k
    refine ⟨a.rq, a.oq, a.e, a.p, a.l, a.rs', a.sl, k, k1, ?_, k3, k4⟩
    show u2 (kI cs) 329 t (nI (z + 1)) 203 q = nI k
    rw [u2_n (fun q => absurd q.1 (by decide))]; exact k2
/-- and back -/
theorem PG.rise {n : Nat} {f : Nat → Int32} {M t c cap q sel : Nat} {ma : Bool} {i z s : Nat} {cs : CS} {rs : RS} (h : PG n f M t c cap q sel ma i (z + 1) s cs rs) : PG n f M t c cap q sel ma i z s (sI cs 329 t (nI z)) (setF rs 70 (nI z)) := by
  have w : FO (PX t c q) cs (sI cs 329 t (nI z)) := FO.sI (Or.inl ⟨by decide, rfl⟩)
  have g : FR eR rs (setF rs 70 (nI z)) := FR.setF (by unfold eR; omega)
  have := h.z2
  refine ⟨h.h.fo w, h.x.fo w g, ?_, ?_, u2_s, ?_, h.g1, h.ri, rfl, h.rn, h.im, h.si, h.s2, by omega, h.cp, h.ca.fo w, ?_, h.rm, fun y => ?_⟩
  · show u2 (kI cs) 329 t (nI z) 320 t = 0
    rw [u2_n (fun q => absurd q.1 (by decide))]; exact h.f0
  · show u2 (kI cs) 329 t (nI z) 328 t = nI i
    rw [u2_n (fun q => absurd q.1 (by decide))]; exact h.ci
  · show u2 (kI cs) 329 t (nI z) 64 c = nI s
    rw [u2_n (fun q => absurd q.1 (by decide))]; exact h.cn
  · show u2 (kI cs) 329 t (nI z) 331 t = _
    rw [u2_n (fun q => absurd q.1 (by decide))]; exact h.cm
  · have a := h.ag y
    obtain ⟨k, k1, k2, k3, k4⟩ := a.k
    refine ⟨a.rq, a.oq, a.e, a.p, a.l, a.rs', a.sl, k, k1, ?_, k3, k4⟩
    show u2 (kI cs) 329 t (nI z) 203 q = nI k
    rw [u2_n (fun q => absurd q.1 (by decide))]; exact k2
theorem dee_b {F t c z i : Nat} {cs : CS} (h : SH t c cs) (h0 : kI cs 320 t = 0) (hi : kI cs 328 t = nI i) (h2 : i < 2001) (hz : kI cs 329 t = nI z) (h12 : 12 ≤ z) (hz2 : z < 100) : c_X9_deepen F cs t = some (sI (sI (sI cs 320 t 7) 321 t (kA cs 353 9 i)) 329 t (nI (z + 1))) := by
  unfold c_X9_deepen c_X9_deepen_b19
  have e : kI (sI (sI cs 320 t 7) 321 t (kA cs 353 9 i)) 329 t = nI z := by
    show u2 (u2 (kI cs) 320 t 7) 321 t (kA cs 353 9 i) 329 t = nI z
    rw [u2_n (fun q => absurd q.1 (by decide)), u2_n (fun q => absurd q.1 (by decide))]
    exact hz
  rw [gI_ok h.o, ob_s, hz, if_neg (show ¬ nI z < 12 from nI_nlt (b := 12) h12 (by omega)), ckE_ok h.o, ob_s, her_ok h hi h2, ob_s, ob_s, ref_ok h h0, ob_s, gI_ok (cs := sI (sI cs 320 t 7) 321 t (kA cs 353 9 i)) h.o, ob_s, e, nI_1, pI_ok (cs := sI (sI cs 320 t 7) 321 t (kA cs 353 9 i)) h.o, ob_s]
theorem mde_ok {F z : Nat} {rs : RS} {p : Int32} (hz : rs.1 70 = nI z) (h12 : z < 12) : m_deeper F rs p = some (setF rs 70 (nI (z + 1))) := by
  unfold m_deeper m_deeper_b26
  rw [hz, nI_1, if_pos (show (setF rs 70 (nI (z + 1))).1 70 ≤ 12 from nI_le (a := z + 1) (b := 12) (by omega) (by decide))]
theorem mde_b {F : Nat} {rs : RS} {p : Int32} (hg : rs.1 21 = 1) (hz : rs.1 70 = nI 12) : m_deeper F rs p = some (setF (setF (setF (setF rs 70 (nI 13)) 21 0) 19 7) 20 p) := by
  unfold m_deeper m_deeper_b26
  rw [hz, nI_1, if_neg (show ¬ (setF rs 70 (nI (12 + 1))).1 70 ≤ 12 by show ¬ nI 13 ≤ 12; decide), tel_ok (show (setF rs 70 (nI (12 + 1))).1 21 = 1 from hg), ob_s]
theorem PB.ch {t c k : Nat} {cs : CS} {rs : RS} {v : Int32} (h : PB t c cs rs) (hk : k ≠ 320 ∧ k ≠ 321 ∧ k ≠ 328) : PB t c (sI cs k t v) rs := by
  have e : ∀ x, x ≠ k → kI (sI cs k t v) x t = kI cs x t := fun x hx => by
    show u2 (kI cs) k t v x t = _
    rw [u2_n (fun y => hx y.1)]
  have w : FO (fun _ _ => True) cs (sI cs k t v) := FO.sI trivial
  refine ⟨⟨h.s.h.fo w, ?_, ?_⟩, h.r, ?_, ?_⟩
  · rw [e 320 (by omega)]; exact h.s.f
  · obtain ⟨i, i1, i2⟩ := h.s.i
    exact ⟨i, by rw [e 328 (by omega)]; exact i1, i2⟩
  · rw [e 320 (by omega)]; exact h.e1
  · rw [e 321 (by omega)]; exact h.e2
theorem PB.rh {t c k : Nat} {cs : CS} {rs : RS} {v : Int32} (h : PB t c cs rs) (hk : k ≠ 18 ∧ k ≠ 19 ∧ k ≠ 20 ∧ k ≠ 21) : PB t c cs (setF rs k v) := by
  have e : ∀ x, x ≠ k → (setF rs k v).1 x = rs.1 x := fun x hx => pk_un hx
  refine ⟨h.s, ⟨?_, ?_⟩, ?_, ?_⟩
  · rw [e 21 (by omega)]; exact h.r.g
  · obtain ⟨i, i1, i2⟩ := h.r.i
    exact ⟨i, by rw [e 18 (by omega)]; exact i1, i2⟩
  · rw [e 19 (by omega)]; exact h.e1
  · rw [e 20 (by omega)]; exact h.e2
theorem PB.at {t c i : Nat} {cs : CS} {rs : RS} (h : PB t c cs rs) (hi : i < 2001) : PB t c cs (setF rs 18 (nI i)) := ⟨h.s, ⟨h.r.g, i, rfl, hi⟩, h.e1, h.e2⟩

/-! EXPRS: what holds behind one -/
/-- the token k as a name: v -/
def NM (n : Nat) (f : Nat → Int32) (k : Nat) (v : Int64) (cs : CS) (rs : RS) : Prop := ∃ p κ, TK n f k p κ cs rs ∧ ((κ = 39 ∧ v = kB cs 354 9 k) ∨ (κ = 38 ∧ v = 0))
def NM9 (n : Nat) (f : Nat → Int32) (k : Nat) (v : Int64) (cs : CS) (rs : RS) : Prop := ∃ p, TK n f k p 39 cs rs ∧ v = kB cs 354 9 k
def COL (n : Nat) (f : Nat → Int32) (M : Nat) (V : VT) (x : Nat) (cs : CS) (rs : RS) : Prop := (vo V x = -1 ∧ rh V x = -1 ∧ ∃ k, vb V x = kA cs 353 9 k ∧ k ≤ M ∧ rw' V x = nI k ∧ NM n f k (vn V x) cs rs) ∨ (∃ k j, vb V x = kA cs 353 9 k ∧ k ≤ M ∧ j ≤ M ∧ rw' V x = nI k ∧ rh V x = nI j ∧ NM9 n f k (vo V x) cs rs ∧ NM n f j (vn V x) cs rs)
/-- the node x is among the aggregates of q -/
def AM (q : Nat) (cs : CS) (x : Nat) : Prop := ∃ j k, k ≤ 12 ∧ kI cs 203 q = nI k ∧ j < k ∧ kA cs 202 q j = nI x
def AGN (V : VT) (x : Nat) : Prop := vk V x = 32 ∨ vk V x = 33 ∨ vk V x = 34 ∨ vk V x = 35 ∨ vk V x = 61
/-- of the counts of aggregates none but the SELECT sel's has changed, nor that where none may stand -/
def F4 (sel : Nat) (ma : Bool) (rs rs' : RS) : Prop := (ma = false → rs'.2.2.1 42 = rs.2.2.1 42 ∧ rs'.2.2.1 43 = rs.2.2.1 43) ∧ (∀ j, j ≠ sel → rs'.2.2.1 42 j = rs.2.2.1 42 j ∧ rs'.2.2.1 43 j = rs.2.2.1 43 j) ∧ rs'.1 73 = rs.1 73
theorem F4.of {sel : Nat} {ma : Bool} {rs rs' : RS} (h : rs'.2.2.1 42 = rs.2.2.1 42) (g : rs'.2.2.1 43 = rs.2.2.1 43) (k : rs'.1 73 = rs.1 73) : F4 sel ma rs rs' := ⟨fun _ => ⟨h, g⟩, fun j _ => ⟨congrFun h j, congrFun g j⟩, k⟩
theorem F4.trans {sel : Nat} {ma : Bool} {a b c : RS} (h : F4 sel ma a b) (g : F4 sel ma b c) : F4 sel ma a c := ⟨fun y => ⟨(g.1 y).1.trans (h.1 y).1, (g.1 y).2.trans (h.1 y).2⟩, fun j hj => ⟨(g.2.1 j hj).1.trans (h.2.1 j hj).1, (g.2.1 j hj).2.trans (h.2.1 j hj).2⟩, g.2.2.trans h.2.2⟩
/-- how many nodes the Code c has; the aggregates of q that were not there before stand behind those -/
def SZ (c : Nat) (cs : CS) : Nat := (kI cs 64 c).toNatClampNeg
def AXS (c q : Nat) (cs cs' : CS) : Prop := SZ c cs ≤ SZ c cs' ∧ ∀ x, AM q cs' x → AM q cs x ∨ SZ c cs ≤ x
theorem AXS.of {c q : Nat} {cs cs' : CS} (h1 : kI cs' 203 q = kI cs 203 q) (h2 : kA cs' 202 q = kA cs 202 q) (h3 : SZ c cs ≤ SZ c cs') : AXS c q cs cs' := by
  refine ⟨h3, fun x h => Or.inl ?_⟩
  obtain ⟨j, k, m1, m2, m3, m4⟩ := h
  exact ⟨j, k, m1, by rw [← h1]; exact m2, m3, by rw [← h2]; exact m4⟩
theorem AXS.rf {c q : Nat} (cs : CS) : AXS c q cs cs := ⟨Nat.le_refl _, fun _ h => Or.inl h⟩
theorem AXS.trans {c q : Nat} {a b d : CS} (h : AXS c q a b) (g : AXS c q b d) : AXS c q a d := by
  refine ⟨Nat.le_trans h.1 g.1, fun x hx => ?_⟩
  rcases g.2 x hx with y | y
  · exact h.2 x y
  · exact Or.inr (Nat.le_trans h.1 y)
theorem AXS.text {c q t k : Nat} {cs : CS} {v : Int32} (h1 : k ≠ 64) (h2 : k ≠ 203) : AXS c q cs (sI cs k t v) := by
  refine AXS.of (u2_n (fun y => h2 y.1.symm)) rfl ?_
  have e : kI (sI cs k t v) 64 c = kI cs 64 c := u2_n (fun y => h1 y.1.symm)
  unfold SZ
  rw [e]
  exact Nat.le_refl _
theorem SZ.is {c s : Nat} {cs : CS} (h : kI cs 64 c = nI s) (hs : s ≤ 120) : SZ c cs = s := by
  unfold SZ
  rw [h]
  exact nI_clamp (by omega)
theorem AXS.mk {c q s fi : Nat} {cs : CS} {k bg pt : Int32} (h : kI cs 64 c = nI s) (hs : s < 120) : AXS c q cs (mkC cs c s fi k bg pt) := by
  have e : SZ c (mkC cs c s fi k bg pt) = s + 1 := SZ.is mk64 (by omega)
  refine AXS.of (mkI (by decide)) ?_ (by rw [e, SZ.is h (by omega)]; omega)
  simp only [mkC, kA_sA, kA_sB, kA_sI, u2, Nat.reduceEqDiff, false_and, if_false]
def EG (n : Nat) (f : Nat → Int32) (M t c cap q sel : Nat) (ma : Bool) (i z s : Nat) (cs : CS) (rs : RS) (i' s' : Nat) (cs' : CS) (rs' : RS) : Prop := (PG n f M t c cap q sel ma i' z s' cs' rs') ∧ (i < i') ∧ (s < s') ∧ (s' + i ≤ s + i') ∧ (∀ x, x < s → VW c cs' rs' x = VW c cs rs x) ∧ (∀ R, TR (VW c cs' rs') (s' - s) R s (s' - 1)) ∧ (FO (PX t c q) cs cs') ∧ (FR eR rs rs') ∧ (∀ x, s ≤ x → x < s' → vk (VW c cs' rs') x = 39 → COL n f M (VW c cs' rs') x cs' rs') ∧ (∀ x, s ≤ x → x < s' → AGN (VW c cs' rs') x → ma = true ∧ AM q cs' x) ∧ (∀ x, AM q cs x → AM q cs' x) ∧ (s' = s + 1 → vk (VW c cs' rs') s = 39 → ∃ j, i ≤ j ∧ j ≤ M ∧ vb (VW c cs' rs') s = kA cs 353 9 j ∧ i' = i + (if rh (VW c cs' rs') s = -1 then 1 else 3) + 2 * (j - i)) ∧ (F4 sel ma rs rs') ∧ (rx (VW c cs' rs') (s' - 1) = -1) ∧ (AXS c q cs cs')
theorem EG.g {n : Nat} {f : Nat → Int32} {M t c cap q sel : Nat} {ma : Bool} {i z s : Nat} {cs : CS} {rs : RS} {i' s' : Nat} {cs' : CS} {rs' : RS} (h : EG n f M t c cap q sel ma i z s cs rs i' s' cs' rs') : PG n f M t c cap q sel ma i' z s' cs' rs' := h.1
theorem EG.il {n : Nat} {f : Nat → Int32} {M t c cap q sel : Nat} {ma : Bool} {i z s : Nat} {cs : CS} {rs : RS} {i' s' : Nat} {cs' : CS} {rs' : RS} (h : EG n f M t c cap q sel ma i z s cs rs i' s' cs' rs') : i < i' := h.2.1
theorem EG.sl {n : Nat} {f : Nat → Int32} {M t c cap q sel : Nat} {ma : Bool} {i z s : Nat} {cs : CS} {rs : RS} {i' s' : Nat} {cs' : CS} {rs' : RS} (h : EG n f M t c cap q sel ma i z s cs rs i' s' cs' rs') : s < s' := h.2.2.1
theorem EG.le {n : Nat} {f : Nat → Int32} {M t c cap q sel : Nat} {ma : Bool} {i z s : Nat} {cs : CS} {rs : RS} {i' s' : Nat} {cs' : CS} {rs' : RS} (h : EG n f M t c cap q sel ma i z s cs rs i' s' cs' rs') : s' + i ≤ s + i' := h.2.2.2.1
theorem EG.kp {n : Nat} {f : Nat → Int32} {M t c cap q sel : Nat} {ma : Bool} {i z s : Nat} {cs : CS} {rs : RS} {i' s' : Nat} {cs' : CS} {rs' : RS} (h : EG n f M t c cap q sel ma i z s cs rs i' s' cs' rs') : ∀ x, x < s → VW c cs' rs' x = VW c cs rs x := h.2.2.2.2.1
theorem EG.tr {n : Nat} {f : Nat → Int32} {M t c cap q sel : Nat} {ma : Bool} {i z s : Nat} {cs : CS} {rs : RS} {i' s' : Nat} {cs' : CS} {rs' : RS} (h : EG n f M t c cap q sel ma i z s cs rs i' s' cs' rs') : ∀ R, TR (VW c cs' rs') (s' - s) R s (s' - 1) := h.2.2.2.2.2.1
theorem EG.fo {n : Nat} {f : Nat → Int32} {M t c cap q sel : Nat} {ma : Bool} {i z s : Nat} {cs : CS} {rs : RS} {i' s' : Nat} {cs' : CS} {rs' : RS} (h : EG n f M t c cap q sel ma i z s cs rs i' s' cs' rs') : FO (PX t c q) cs cs' := h.2.2.2.2.2.2.1
theorem EG.fr {n : Nat} {f : Nat → Int32} {M t c cap q sel : Nat} {ma : Bool} {i z s : Nat} {cs : CS} {rs : RS} {i' s' : Nat} {cs' : CS} {rs' : RS} (h : EG n f M t c cap q sel ma i z s cs rs i' s' cs' rs') : FR eR rs rs' := h.2.2.2.2.2.2.2.1
theorem EG.co {n : Nat} {f : Nat → Int32} {M t c cap q sel : Nat} {ma : Bool} {i z s : Nat} {cs : CS} {rs : RS} {i' s' : Nat} {cs' : CS} {rs' : RS} (h : EG n f M t c cap q sel ma i z s cs rs i' s' cs' rs') : ∀ x, s ≤ x → x < s' → vk (VW c cs' rs') x = 39 → COL n f M (VW c cs' rs') x cs' rs' := h.2.2.2.2.2.2.2.2.1
theorem EG.an {n : Nat} {f : Nat → Int32} {M t c cap q sel : Nat} {ma : Bool} {i z s : Nat} {cs : CS} {rs : RS} {i' s' : Nat} {cs' : CS} {rs' : RS} (h : EG n f M t c cap q sel ma i z s cs rs i' s' cs' rs') : ∀ x, s ≤ x → x < s' → AGN (VW c cs' rs') x → ma = true ∧ AM q cs' x := h.2.2.2.2.2.2.2.2.2.1
theorem EG.am {n : Nat} {f : Nat → Int32} {M t c cap q sel : Nat} {ma : Bool} {i z s : Nat} {cs : CS} {rs : RS} {i' s' : Nat} {cs' : CS} {rs' : RS} (h : EG n f M t c cap q sel ma i z s cs rs i' s' cs' rs') : ∀ x, AM q cs x → AM q cs' x := h.2.2.2.2.2.2.2.2.2.2.1
theorem EG.lf {n : Nat} {f : Nat → Int32} {M t c cap q sel : Nat} {ma : Bool} {i z s : Nat} {cs : CS} {rs : RS} {i' s' : Nat} {cs' : CS} {rs' : RS} (h : EG n f M t c cap q sel ma i z s cs rs i' s' cs' rs') : s' = s + 1 → vk (VW c cs' rs') s = 39 → ∃ j, i ≤ j ∧ j ≤ M ∧ vb (VW c cs' rs') s = kA cs 353 9 j ∧ i' = i + (if rh (VW c cs' rs') s = -1 then 1 else 3) + 2 * (j - i) := h.2.2.2.2.2.2.2.2.2.2.2.1
theorem EG.fa {n : Nat} {f : Nat → Int32} {M t c cap q sel : Nat} {ma : Bool} {i z s : Nat} {cs : CS} {rs : RS} {i' s' : Nat} {cs' : CS} {rs' : RS} (h : EG n f M t c cap q sel ma i z s cs rs i' s' cs' rs') : F4 sel ma rs rs' := h.2.2.2.2.2.2.2.2.2.2.2.2.1
theorem EG.nx {n : Nat} {f : Nat → Int32} {M t c cap q sel : Nat} {ma : Bool} {i z s : Nat} {cs : CS} {rs : RS} {i' s' : Nat} {cs' : CS} {rs' : RS} (h : EG n f M t c cap q sel ma i z s cs rs i' s' cs' rs') : rx (VW c cs' rs') (s' - 1) = -1 := h.2.2.2.2.2.2.2.2.2.2.2.2.2.1
theorem EG.ax {n : Nat} {f : Nat → Int32} {M t c cap q sel : Nat} {ma : Bool} {i z s : Nat} {cs : CS} {rs : RS} {i' s' : Nat} {cs' : CS} {rs' : RS} (h : EG n f M t c cap q sel ma i z s cs rs i' s' cs' rs') : AXS c q cs cs' := h.2.2.2.2.2.2.2.2.2.2.2.2.2.2
/-- behind a method that reads an EXPR: one more EXPR in both, its node told; or a fault in both -/
def EP (n : Nat) (f : Nat → Int32) (M t c cap q sel : Nat) (ma : Bool) (i z s : Nat) (cs : CS) (rs : RS) (cs' : CS) (rs' : RS) (a : Int32) : Prop := (∃ i' s', EG n f M t c cap q sel ma i z s cs rs i' s' cs' rs' ∧ a = nI (s' - 1) ∧ rs'.1 74 = kA cs 353 9 i) ∨ (PB t c cs' rs' ∧ FO (PX t c q) cs cs' ∧ FR eR rs rs')
theorem tk_keep {n k p κ t c q : Nat} {f : Nat → Int32} {cs cs' : CS} {rs rs' : RS} (h : TK n f k p κ cs rs) (x : FO (PX t c q) cs cs') (y : FR eR rs rs') : TK n f k p κ cs' rs' := by
  have a := (x.2.2.2.2.2 352 9 (by unfold PX; omega)).2.2.1
  have b := (x.2.2.2.2.2 353 9 (by unfold PX; omega)).2.2.1
  have d := (x.2.2.2.2.2 354 9 (by unfold PX; omega)).2.2.2
  have r14 := y.a (k := 14) (by unfold eR; omega)
  have r15 := y.a (k := 15) (by unfold eR; omega)
  have r16 := y.a (k := 16) (by unfold eR; omega)
  have r17 := y.l (k := 17) (by unfold eR; omega)
  exact h.keep (by rw [a]) (by rw [b]) (by rw [d]) (by rw [r14]) (by rw [r15]) (by rw [r16]) (by rw [r17])
theorem pl_keep {t c q k : Nat} {cs cs' : CS} (x : FO (PX t c q) cs cs') : kA cs' 353 9 k = kA cs 353 9 k := by
  have b := (x.2.2.2.2.2 353 9 (by unfold PX; omega)).2.2.1
  rw [b]
theorem NM.keep {n k t c q : Nat} {f : Nat → Int32} {v : Int64} {cs cs' : CS} {rs rs' : RS} (h : NM n f k v cs rs) (x : FO (PX t c q) cs cs') (y : FR eR rs rs') : NM n f k v cs' rs' := by
  obtain ⟨p, κ, h1, h2⟩ := h
  have d := (x.2.2.2.2.2 354 9 (by unfold PX; omega)).2.2.2
  exact ⟨p, κ, tk_keep h1 x y, by rw [d]; exact h2⟩
theorem NM9.keep {n k t c q : Nat} {f : Nat → Int32} {v : Int64} {cs cs' : CS} {rs rs' : RS} (h : NM9 n f k v cs rs) (x : FO (PX t c q) cs cs') (y : FR eR rs rs') : NM9 n f k v cs' rs' := by
  obtain ⟨p, h1, h2⟩ := h
  have d := (x.2.2.2.2.2 354 9 (by unfold PX; omega)).2.2.2
  exact ⟨p, tk_keep h1 x y, by rw [d]; exact h2⟩
theorem COL.keep {n M e t c q : Nat} {f : Nat → Int32} {V W : VT} {cs cs' : CS} {rs rs' : RS} (h : COL n f M V e cs rs) (hV : W e = V e) (x : FO (PX t c q) cs cs') (y : FR eR rs rs') : COL n f M W e cs' rs' := by
  have w1 : vo W e = vo V e := by unfold vo; rw [hV]
  have w2 : rh W e = rh V e := by unfold rh; rw [hV]
  have w3 : rw' W e = rw' V e := by unfold rw'; rw [hV]
  have w4 : vn W e = vn V e := by unfold vn; rw [hV]
  have w5 : vb W e = vb V e := by unfold vb; rw [hV]
  unfold COL at h ⊢
  rw [w1, w2, w3, w4, w5]
  rcases h with ⟨a, b, k, k0, k1, k2, k3⟩ | ⟨k, j, k0, k1, k2, k3, k4, k5, k6⟩
  · exact Or.inl ⟨a, b, k, by rw [pl_keep x]; exact k0, k1, k2, k3.keep x y⟩
  · exact Or.inr ⟨k, j, by rw [pl_keep x]; exact k0, k1, k2, k3, k4, k5.keep x y, k6.keep x y⟩
theorem AGN.keep {V W : VT} {e : Nat} (hV : W e = V e) (h : AGN W e) : AGN V e := by
  have w1 : vk W e = vk V e := by unfold vk; rw [hV]
  unfold AGN at h ⊢
  rw [w1] at h
  exact h
/-- one EXPR, a step, a second EXPR, a node over both -/
theorem EG.bin {n : Nat} {f : Nat → Int32} {M t c cap q sel : Nat} {ma : Bool} {F i z s i1 s1 i2 s2 : Nat} {cs cs1 cs2 : CS} {rs rs1 rs2 : RS} {k k' mt : Int32} (h1 : EG n f M t c cap q sel ma i z s cs rs i1 s1 cs1 rs1) (hi : i1 < M) (h2 : EG n f M t c cap q sel ma (i1 + 1) z s1 (sI cs1 328 t (nI (i1 + 1))) (setF rs1 18 (nI (i1 + 1))) i2 s2 cs2 rs2) (hb : BIN (fun _ => ((k, 0, 2, 0, 0, 0, 0), (k', 0, 0, 0, 0, 0, 0, 0, 0))) 0) (hk : k ≠ 39) (ha : ¬ AGN (fun _ => ((k, 0, 0, 0, 0, 0, 0), (0, 0, 0, 0, 0, 0, 0, 0, 0))) 0) : (∃ cs3 rs3, c_X9_complete F cs2 t k (nI s) (kA cs 353 9 i) mt 2 = some (cs3, nI s2) ∧ m_make F rs2 k' (nI (s1 - 1)) (nI (s2 - 1)) (-1) (kA cs 353 9 i) mt = some (rs3, nI s2) ∧ EG n f M t c cap q sel ma i z s cs rs i2 (s2 + 1) cs3 rs3) ∨ (∃ cs3 rs3, c_X9_complete F cs2 t k (nI s) (kA cs 353 9 i) mt 2 = some (cs3, -1) ∧ m_make F rs2 k' (nI (s1 - 1)) (nI (s2 - 1)) (-1) (kA cs 353 9 i) mt = some (rs3, 0) ∧ PB t c cs3 rs3 ∧ FO (PX t c q) cs cs3 ∧ FR eR rs rs3) := by
  have w1 : FO (PX t c q) cs1 (sI cs1 328 t (nI (i1 + 1))) := FO.sI (Or.inl ⟨by decide, rfl⟩)
  have g1 : FR eR rs1 (setF rs1 18 (nI (i1 + 1))) := FR.setF (Or.inl (by omega))
  have FO2 : FO (PX t c q) cs cs2 := (h1.fo.trans w1).trans h2.fo
  have FR2 : FR eR rs rs2 := (h1.fr.trans g1).trans h2.fr
  have l1 := h1.le
  have l2 := h2.le
  have a1 := h1.sl
  have a2 := h2.sl
  have b1 := h1.il
  have b2 := h2.il
  have si := h1.g.si
  have s2' := h2.g.s2
  rcases PG.mk (F := F) (k := k) (bg := kA cs 353 9 i) (mt := mt) (pt := 2) (k' := k') (a := nI (s1 - 1)) (b := nI (s2 - 1)) (d := -1) (fi := s) h2.g (by omega) (by omega) with ⟨cs3, rs3, e1, e2, e3, e4, e5, e6, e7, e8, e9, e10, e11⟩ | ⟨cs3, rs3, e1, e2, e3, e4, e5⟩
  · refine Or.inl ⟨cs3, rs3, e1, e2, ?_⟩
    have V1 : VW c (sI cs1 328 t (nI (i1 + 1))) (setF rs1 18 (nI (i1 + 1))) = VW c cs1 rs1 := rfl
    have FO3 : FO (PX t c q) cs2 cs3 := e7
    have FR3 : FR eR rs2 rs3 := e8
    have ke : ∀ x, x < s1 → VW c cs3 rs3 x = VW c cs1 rs1 x := fun x hx => by rw [e4 x (by omega), h2.kp x hx, V1]
    refine ⟨e3, by omega, by omega, by omega, fun x hx => ?_, fun R => ?_, FO2.trans FO3, FR2.trans FR3, fun x x1 x2 x3 => ?_, fun x x1 x2 x3 => ?_, fun x hx => ?_, fun y => absurd y (by omega), (by
      rw [e11]
      exact h1.fa.trans (c := rs2) h2.fa), (by rw [show s2 + 1 - 1 = s2 by omega]; unfold rx; rw [e5]), (by
      have e3s := e3.s2
      rw [e10]
      exact (h1.ax.trans (AXS.text (by decide) (by decide))).trans (h2.ax.trans (AXS.mk h2.g.cn (by omega))))⟩
    · rw [ke x (by omega), h1.kp x hx]
    · have t1 : TR (VW c cs3 rs3) (s2 - s) R s (s1 - 1) := (TR.fr _ _ _ _ (fun x q1 q2 => ke x (by omega)) (h1.tr R)).le (by omega)
      have t2 : TR (VW c cs3 rs3) (s2 - s) R s1 (s2 - 1) := (TR.fr _ _ _ _ (fun x q1 q2 => e4 x (by omega)) (h2.tr R)).le (by omega)
      rw [show s2 + 1 - s = (s2 - s) + 1 by omega, show s2 + 1 - 1 = s2 by omega]
      refine ⟨by omega, by unfold vf; rw [e5], by unfold vb rb; rw [e5], Or.inr (Or.inr (Or.inl ⟨s1, by omega, by omega, ?_, by unfold rl; rw [e5], by unfold rr; rw [e5], t1, t2⟩))⟩
      unfold BIN vp vk rk rh at hb ⊢
      rw [e5]
      exact hb
    · by_cases y : x = s2
      · subst y
        unfold vk at x3
        rw [e5] at x3
        exact absurd x3 hk
      · by_cases y2 : x < s1
        · have z := h1.co x x1 y2 (by rw [← x3]; unfold vk; rw [ke x y2])
          exact ((z.keep (V1 ▸ rfl : VW c (sI cs1 328 t (nI (i1 + 1))) (setF rs1 18 (nI (i1 + 1))) x = VW c cs1 rs1 x) w1 g1).keep (h2.kp x y2) h2.fo h2.fr).keep (e4 x y) FO3 FR3
        · have z := h2.co x (by omega) (by omega) (by rw [← x3]; unfold vk; rw [e4 x y])
          exact z.keep (e4 x y) FO3 FR3
    · have q203 : ∀ y, AM q cs2 y → AM q cs3 y := fun y hy => by
        obtain ⟨j, k0, m1, m2, m3, m4⟩ := hy
        rw [e10]
        refine ⟨j, k0, m1, by rw [mkI (by decide)]; exact m2, m3, ?_⟩
        simp only [mkC, kA_sA, kA_sB, kA_sI, u2, Nat.reduceEqDiff, false_and, if_false]
        exact m4
      by_cases y : x = s2
      · subst y
        refine absurd ?_ ha
        unfold AGN vk at x3 ⊢
        rw [e5] at x3
        exact x3
      · by_cases y2 : x < s1
        · obtain ⟨z1, z2⟩ := h1.an x x1 y2 (AGN.keep (ke x y2) x3)
          exact ⟨z1, q203 x (h2.am x z2)⟩
        · obtain ⟨z1, z2⟩ := h2.an x (by omega) (by omega) (AGN.keep (e4 x y) x3)
          exact ⟨z1, q203 x z2⟩
    · obtain ⟨j, k0, m1, m2, m3, m4⟩ := h2.am x (h1.am x hx)
      rw [e10]
      refine ⟨j, k0, m1, by rw [mkI (by decide)]; exact m2, m3, ?_⟩
      simp only [mkC, kA_sA, kA_sB, kA_sI, u2, Nat.reduceEqDiff, false_and, if_false]
      exact m4
  · exact Or.inr ⟨cs3, rs3, e1, e2, e3, FO2.trans e4, FR2.trans e5⟩
theorem PG.s74 {n : Nat} {f : Nat → Int32} {M t c cap q sel : Nat} {ma : Bool} {i z s : Nat} {cs : CS} {rs : RS} {u : Int32} (h : PG n f M t c cap q sel ma i z s cs rs) : PG n f M t c cap q sel ma i z s cs (setF rs 74 u) := ⟨h.h, h.x, h.f0, h.ci, h.cz, h.cn, h.g1, h.ri, h.rz, h.rn, h.im, h.si, h.s2, h.z2, h.cp, h.ca, h.cm, h.rm, h.ag⟩
theorem EG.s74 {n : Nat} {f : Nat → Int32} {M t c cap q sel : Nat} {ma : Bool} {i z s i' s' : Nat} {cs cs' : CS} {rs rs' : RS} {u : Int32} (h : EG n f M t c cap q sel ma i z s cs rs i' s' cs' rs') : EG n f M t c cap q sel ma i z s cs rs i' s' cs' (setF rs' 74 u) := ⟨h.g.s74, h.il, h.sl, h.le, h.kp, h.tr, h.fo, h.fr.trans (FR.setF (by unfold eR; omega)), h.co, h.an, h.am, h.lf, h.fa, h.nx, h.ax⟩
theorem PB.s74 {t c : Nat} {cs : CS} {rs : RS} {u : Int32} (h : PB t c cs rs) : PB t c cs (setF rs 74 u) := ⟨h.s, ⟨h.r.g, h.r.i⟩, h.e1, h.e2⟩
/-- two methods that read an EXPR at nest z, one of each -/
def SE (n : Nat) (f : Nat → Int32) (M t c cap q sel : Nat) (ma : Bool) (z : Nat) (P : CS → Nat → Option CS) (P' : RS → Option (RS × Int32)) : Prop := ∀ (i s : Nat) (cs : CS) (rs : RS), PG n f M t c cap q sel ma i z s cs rs → ∃ cs' rs' a, P cs t = some cs' ∧ P' rs = some (rs', a) ∧ EP n f M t c cap q sel ma i z s cs rs cs' rs' a

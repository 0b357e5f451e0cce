/-! where the names of a SELECT's EXPRS are looked for -/
/-- 0: in the SOURCES; 1: in the groups, and in the SOURCES within aggregates; 2: in the items of a QUERY's first SELECT -/
def MD (n : Nat) (f : Nat → Int32) (M k so e ns nm mg : Nat) (V : VT) : Nat → CS → RS → Prop
  | 0, cs, rs => SCS n f M 0 0 k so e ns V cs rs ∧ rs.1 76 = 0 ∧ kR cs 37 k = none
  | 1, cs, rs => SCS n f M 0 0 k so e ns V cs rs ∧ NMS n f M k nm mg e 1 48 80 39 0 0 V cs rs ∧ rs.1 76 = 1
  | _ + 2, cs, rs => NMS n f M k nm mg e 2 45 46 36 0 0 V cs rs ∧ rs.1 76 = 2
theorem MD.jf {n : Nat} {f : Nat → Int32} {M t c k : Nat} {V : VT} {so e ns nm mg w : Nat} {cs cs' : CS} {rs rs' : RS} (h : MD n f M k so e ns nm mg V w cs rs) (j : JF t c cs rs cs' rs') : MD n f M k so e ns nm mg V w cs' rs' := by
  have r76 : rs'.1 76 = rs.1 76 := j.fr.f (by unfold jR; omega)
  rcases w with _ | _ | w
  · exact ⟨h.1.jf j, r76.trans h.2.1, by rw [(j.a0 37 k (by omega) (by omega)).r]; exact h.2.2⟩
  · exact ⟨h.1.jf j, h.2.1.jf j, r76.trans h.2.2⟩
  · exact ⟨h.1.jf j, r76.trans h.2⟩
/-- a whole EXPR and its names -/
def EXR (n : Nat) (f : Nat → Int32) (M s : Nat) (V : VT) (a r : Nat) (cs : CS) (rs : RS) : Prop := (r < s) ∧ (TR V (r + 1 - a) r a r) ∧ (∀ y, a ≤ y → y ≤ r → vk V y = 39 → COL n f M V y cs rs)
theorem EXR.rs' {n : Nat} {f : Nat → Int32} {M s : Nat} {V : VT} {a r : Nat} {cs : CS} {rs : RS} (h : EXR n f M s V a r cs rs) : r < s := h.1
theorem EXR.tr {n : Nat} {f : Nat → Int32} {M s : Nat} {V : VT} {a r : Nat} {cs : CS} {rs : RS} (h : EXR n f M s V a r cs rs) : TR V (r + 1 - a) r a r := h.2.1
theorem EXR.co {n : Nat} {f : Nat → Int32} {M s : Nat} {V : VT} {a r : Nat} {cs : CS} {rs : RS} (h : EXR n f M s V a r cs rs) : ∀ y, a ≤ y → y ≤ r → vk V y = 39 → COL n f M V y cs rs := h.2.2
theorem EXR.f' {n : Nat} {f : Nat → Int32} {M s a r : Nat} {V : VT} {cs cs' : CS} {rs rs' : RS} (h : EXR n f M s V a r cs rs) (x : TKF cs rs cs' rs') : EXR n f M s V a r cs' rs' := ⟨h.rs', h.tr, fun y y1 y2 y3 => (h.co y y1 y2 y3).f rfl x⟩
theorem SCS.lh {n : Nat} {f : Nat → Int32} {M k so e ns lo hi lo' hi' : Nat} {V : VT} {cs : CS} {rs : RS} (h : SCS n f M lo hi k so e ns V cs rs) (co : ∀ x, lo' ≤ x → x < hi' → vk V x = 39 → COL n f M V x cs rs) : SCS n f M lo' hi' k so e ns V cs rs := ⟨h.x, h.r35, h.i36, h.e6, h.e195, h.p195, h.l195, h.n3, h.e60, h.f77, h.f78, h.ss, co⟩
theorem NMS.lh {n : Nat} {f : Nat → Int32} {M k nm m e g A B C lo hi lo' hi' : Nat} {V : VT} {cs : CS} {rs : RS} (h : NMS n f M k nm m e g A B C lo hi V cs rs) (co : ∀ x, lo' ≤ x → x < hi' → vk V x = 39 → COL n f M V x cs rs) : NMS n f M k nm m e g A B C lo' hi' V cs rs := ⟨h.x, h.r37, h.cm, h.e60, h.f77, h.gk, h.ct, h.nn, h.ty, co⟩
theorem z76 {rs : RS} {v : Int32} : (setF rs 76 v).1 76 = v := rfl
/-- what judging asks of a scope -/
theorem MD.pack {n : Nat} {f : Nat → Int32} {M t c cap s k : Nat} {V : VT} {so e ns nm mg w : Nat} {D : Nat → Prop} {F a root : Nat} (hF : 10000 ≤ F) (hs : s ≤ 120) (ha : a < 2147483648) (hno : 2 ≤ w → ∀ y, a ≤ y → y ≤ root → ¬ AGC (vk V y)) : ∃ (Sc : CS → RS → Prop) (m : MK), SCF t c Sc ∧ SCA a root V Sc ∧ NM0 F t c cap s k a root V D Sc ∧ NM1 F t c cap s k a root V D Sc ∧ (m = none ∨ m = some none) ∧ ∀ cs rs, MD n f M k so e ns nm mg V w cs rs → (∀ y, a ≤ y → y ≤ root → vk V y = 39 → COL n f M V y cs rs) → Sc cs rs ∧ MO k m cs rs (-1) a := by
  rcases w with _ | _ | w
  · have scf : SCF t c (fun cs rs => SCS n f M a (root + 1) k so e ns V cs rs ∧ rs.1 76 = 0) := fun cs rs cs' rs' h j => ⟨h.1.jf j, (j.fr.f (by unfold jR; omega)).trans h.2⟩
    refine ⟨fun cs rs => SCS n f M a (root + 1) k so e ns V cs rs ∧ rs.1 76 = 0, none, scf, fun x cs rs v _ _ _ h hv => ⟨h.1.z76, ?_⟩, NM0.of (lo := a) (hi := root + 1) hF hs (by omega) scf (fun cs rs h _ => h.1), fun x nm cs rs h _ _ _ _ g0 _ => absurd h.sc.2 g0, Or.inl rfl, fun cs rs h co => ⟨⟨h.1.lh (fun y y1 y2 y3 => co y y1 (by omega) y3), h.2.1⟩, ⟨h.2.2, h.2.1⟩⟩⟩
    rw [z76]
    rcases hv with e | ⟨cs0, rs0, h0, e⟩
    · exact e
    · exact e.trans h0.2
  · have scf : SCF t c (fun cs rs => SCS n f M a (root + 1) k so e ns V cs rs ∧ NMS n f M k nm mg e 1 48 80 39 a (root + 1) V cs rs ∧ (rs.1 76 = 0 ∨ rs.1 76 = 1)) := fun cs rs cs' rs' h j => ⟨h.1.jf j, h.2.1.jf j, by rw [j.fr.f (k := 76) (by unfold jR; omega)]; exact h.2.2⟩
    refine ⟨fun cs rs => SCS n f M a (root + 1) k so e ns V cs rs ∧ NMS n f M k nm mg e 1 48 80 39 a (root + 1) V cs rs ∧ (rs.1 76 = 0 ∨ rs.1 76 = 1), some none, scf, fun x cs rs v _ _ _ h hv => ⟨h.1.z76, h.2.1.z76, ?_⟩, NM0.of (lo := a) (hi := root + 1) hF hs (by omega) scf (fun cs rs h _ => h.1), NM1.of (lo := a) (hi := root + 1) (g := 1) hF hs (by omega) scf (fun cs rs h g0 => ⟨h.2.2.elim (fun w => absurd w g0) (fun w => w.trans (by decide)), h.2.1⟩), Or.inr rfl, fun cs rs h co => ⟨⟨h.1.lh (fun y y1 y2 y3 => co y y1 (by omega) y3), h.2.1.lh (fun y y1 y2 y3 => co y y1 (by omega) y3), Or.inr h.2.2⟩, ⟨⟨nm, h.2.1.r37⟩, by rw [h.2.2]; decide, ?_⟩⟩⟩
    · rw [z76]
      rcases hv with e | ⟨cs0, rs0, h0, e⟩
      · exact Or.inl e
      · rw [e]
        exact h0.2.2
    · exact m1_le ha
  · have scf : SCF t c (fun cs rs => NMS n f M k nm mg e 2 45 46 36 a (root + 1) V cs rs ∧ rs.1 76 = 2) := fun cs rs cs' rs' h j => ⟨h.1.jf j, (j.fr.f (by unfold jR; omega)).trans h.2⟩
    refine ⟨fun cs rs => NMS n f M k nm mg e 2 45 46 36 a (root + 1) V cs rs ∧ rs.1 76 = 2, some none, scf, fun x cs rs v x1 x2 x3 _ _ => absurd x3 (hno (by omega) x x1 x2), fun x cs rs h _ _ _ _ g0 => absurd (h.sc.2.symm.trans g0) (by decide), NM1.of (lo := a) (hi := root + 1) (g := 2) hF hs (by omega) scf (fun cs rs h g0 => ⟨h.2.trans (by decide), h.1⟩), Or.inr rfl, fun cs rs h co => ⟨⟨h.1.lh (fun y y1 y2 y3 => co y y1 (by omega) y3), h.2⟩, ⟨⟨nm, h.1.r37⟩, by rw [h.2]; decide, ?_⟩⟩⟩
    exact m1_le ha
theorem expr_H {n : Nat} {f : Nat → Int32} {M t c cap s k : Nat} {V : VT} {so e ns nm mg w : Nat} {D : Nat → Prop} {F a root : Nat} {cs : CS} {rs : RS} (hF : 10000 ≤ F) (sk : SKV V s) (hs : s ≤ 120) (ex : EXR n f M s V a root cs rs) (hno : 2 ≤ w → ∀ y, a ≤ y → y ≤ root → ¬ AGC (vk V y)) (h : JH n f M t c cap s k V D cs rs) (md : rs.1 21 = 1 → MD n f M k so e ns nm mg V w cs rs) : ∃ cs' rs', c_X0_checkExpr F cs k (nI root) = some cs' ∧ m_judge F 300 rs (nI root) = some rs' ∧ JF t c cs rs cs' rs' ∧ JH n f M t c cap s k V (fun y => D y ∨ (a ≤ y ∧ y ≤ root)) cs' rs' ∧ (rs'.1 21 = 1 → TYR (kA cs' 73 c root) (rs'.2.2.1 31 root)) ∧ (rs.1 21 = 1 → MD n f M k so e ns nm mg V w cs' rs') := by
  obtain ⟨Sc, m, p1, p2, p3, p4, p5, p6⟩ := MD.pack (n := n) (f := f) (M := M) (t := t) (c := c) (cap := cap) (s := s) (k := k) (V := V) (so := so) (e := e) (ns := ns) (nm := nm) (mg := mg) (w := w) (D := D) (a := a) (root := root) hF hs (by have := (TR.rng _ _ _ _ ex.tr).1; have := ex.rs'; omega) hno
  obtain ⟨cs', rs', e1, e2, e3, e4, e5⟩ := judge_H hF sk hs ex.rs' ex.tr p5 h p1 p2 p3 p4 (fun g => p6 cs rs (md g) ex.co)
  exact ⟨cs', rs', e1, e2, e3, e4, fun g => (e5 g).1, fun g => (md g).jf e3⟩
theorem true_H {n : Nat} {f : Nat → Int32} {M t c cap s k : Nat} {V : VT} {so e ns nm mg w : Nat} {D : Nat → Prop} {F a root : Nat} {cs : CS} {rs : RS} (hF : 10000 ≤ F) (sk : SKV V s) (hs : s ≤ 120) (ex : EXR n f M s V a root cs rs) (hno : 2 ≤ w → ∀ y, a ≤ y → y ≤ root → ¬ AGC (vk V y)) (h : JH n f M t c cap s k V D cs rs) (md : rs.1 21 = 1 → MD n f M k so e ns nm mg V w cs rs) : ∃ cs' r1 rs', c_X0_checkTruth F cs k (nI root) = some cs' ∧ m_judge F 300 rs (nI root) = some r1 ∧ m_want F r1 (nI root) 2 = some rs' ∧ FR jR rs r1 ∧ JF t c cs rs cs' rs' ∧ JH n f M t c cap s k V (fun y => D y ∨ (a ≤ y ∧ y ≤ root)) cs' rs' ∧ (rs.1 21 = 1 → MD n f M k so e ns nm mg V w cs' rs') := by
  obtain ⟨Sc, m, p1, p2, p3, p4, p5, p6⟩ := MD.pack (n := n) (f := f) (M := M) (t := t) (c := c) (cap := cap) (s := s) (k := k) (V := V) (so := so) (e := e) (ns := ns) (nm := nm) (mg := mg) (w := w) (D := D) (a := a) (root := root) hF hs (by have := (TR.rng _ _ _ _ ex.tr).1; have := ex.rs'; omega) hno
  obtain ⟨cs', r1, rs', e1, e2, e3, e4, e5, e6, e7⟩ := truth_H hF sk hs ex.rs' ex.tr p5 h p1 p2 p3 p4 (fun g => p6 cs rs (md g) ex.co)
  exact ⟨cs', r1, rs', e1, e2, e3, e4, e5, e6, fun g => (md g).jf e5⟩

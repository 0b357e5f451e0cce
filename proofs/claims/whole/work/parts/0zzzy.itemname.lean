/-! an item's own name -/
theorem TR.top {V : VT} {d R a e : Nat} (h : TR V d R a e) : (vk V e = 39 → a = e ∧ rk V e = 5) ∧ (vk V e ≠ 39 → rk V e ≠ 5) := by
  cases d with
  | zero => exact h.elim
  | succ d =>
    obtain ⟨h1, h2, h3, h4⟩ := h
    have nn : ∀ {k r : Int32}, vk V e = k → rk V e = r → k ≠ 39 → r ≠ 5 → (vk V e = 39 → a = e ∧ rk V e = 5) ∧ (vk V e ≠ 39 → rk V e ≠ 5) := fun e1 e2 n1 n2 => ⟨fun w => absurd (e1.symm.trans w) n1, fun _ w => n2 (e2.symm.trans w)⟩
    rcases h4 with ⟨y1, y2, y3⟩ | ⟨y1, y2, y3, y4⟩ | ⟨g, y1, y2, y3, -⟩ | ⟨g, k, y1, y2, y3, y4, y5, y6, -⟩ | ⟨m, g, r, y1, y2, y3, y4, y5, y6, -⟩ | ⟨y1, y2, -⟩
    · rcases y3 with ⟨e1, e2, -⟩ | ⟨e1, e2⟩ | ⟨e1, e2⟩ | ⟨e1, e2⟩ | ⟨e1, e2⟩ | ⟨e1, e2⟩
      · exact nn e1 e2 (by decide) (by decide)
      · exact nn e1 e2 (by decide) (by decide)
      · exact nn e1 e2 (by decide) (by decide)
      · exact nn e1 e2 (by decide) (by decide)
      · exact ⟨fun _ => ⟨y1, e2⟩, fun w => absurd e1 w⟩
      · exact nn e1 e2 (by decide) (by decide)
    · rcases y2.2 with ⟨e1, e2⟩ | ⟨e1, e2⟩ | ⟨e1, e2, -⟩ | ⟨e1, e2, -⟩
      · exact nn e1 e2 (by decide) (by decide)
      · exact nn e1 e2 (by decide) (by decide)
      · exact nn e1 e2 (by decide) (by decide)
      · exact nn e1 e2 (by decide) (by decide)
    · rcases y3.2 with ⟨e1, e2⟩ | ⟨e1, e2⟩ | ⟨e1, e2⟩ | ⟨e1, e2⟩ | ⟨e1, e2⟩ | ⟨e1, e2⟩ | ⟨e1, e2⟩ | ⟨e1, e2⟩ | ⟨κ, k1, k2, e1, e2, -⟩
      · exact nn e1 e2 (by decide) (by decide)
      · exact nn e1 e2 (by decide) (by decide)
      · exact nn e1 e2 (by decide) (by decide)
      · exact nn e1 e2 (by decide) (by decide)
      · exact nn e1 e2 (by decide) (by decide)
      · exact nn e1 e2 (by decide) (by decide)
      · exact nn e1 e2 (by decide) (by decide)
      · exact nn e1 e2 (by decide) (by decide)
      · exact nn e1 e2 (fun w => by
          have := (nI_eq (a := κ) (b := 39) (by omega) (by decide)).mp w
          omega) (by decide)
    · exact nn y5 y6 (by decide) (by decide)
    · rcases y6.2 with ⟨e1, e2, -⟩ | ⟨e1, e2, -⟩
      · exact nn e1 e2 (by decide) (by decide)
      · exact nn e1 e2 (by decide) (by decide)
    · rcases y2.2 with ⟨e1, e2⟩ | ⟨e1, e2⟩ | ⟨e1, e2⟩ | ⟨e1, e2⟩
      · exact nn e1 e2 (by decide) (by decide)
      · exact nn e1 e2 (by decide) (by decide)
      · exact nn e1 e2 (by decide) (by decide)
      · exact nn e1 e2 (by decide) (by decide)
/-- the class's item where no word as stands -/
def iN (F t it : Nat) (b v7 : Int32) (cs : CS) : Option CS := Option.bind (gR cs 10 322 t) fun v_14 => Option.bind (v_14) fun i_16 => Option.bind (ckE cs 2 i_16) fun _ => Option.bind (c_X1_has F cs i_16 b) fun v_15 => if v_15 = 0 then (c_X9_readItem_b91 F cs it b (-1)) else (Option.bind (gR cs 10 322 t) fun v_19 => Option.bind (v_19) fun i_20 => Option.bind (gA cs 2 65 i_20) fun v_21 => Option.bind (rA cs 65 i_20 v_21 b) fun v_22 => if v_22 = 39 then (Option.bind (gR cs 10 322 t) fun v_24 => Option.bind (v_24) fun i_25 => Option.bind (gA cs 2 66 i_25) fun v_26 => Option.bind (rA cs 66 i_25 v_26 b) fun v_27 => if v_27 = v7 then (Option.bind (gR cs 10 322 t) fun v_29 => Option.bind (v_29) fun i_30 => Option.bind (gA cs 2 69 i_30) fun v_31 => Option.bind (rB cs 69 i_30 v_31 b) fun v_32 => c_X9_readItem_b91 F cs it b v_32) else (c_X9_readItem_b91 F cs it b (-1))) else (c_X9_readItem_b91 F cs it b (-1)))
theorem itn {n : Nat} {f : Nat → Int32} {M t c cap q sel : Nat} {ma : Bool} {F i z s i' s' : Nat} {cs cs6 : CS} {rs rs6 : RS} (x : EG n f M t c cap q sel ma i z s cs rs i' s' cs6 rs6) (hi : kA cs6 353 9 = kA cs 353 9) : ∃ nm w, NMR n f M nm w cs6 rs6 ∧ (∀ it, iN F t it (nI (s' - 1)) (kA cs 353 9 i) cs6 = c_X9_readItem_b91 F cs6 it (nI (s' - 1)) nm) ∧ (∀ (T' : TG_queryOf) (rc : RS → Int32 → Int32 → Int32 → Option (RS × Int32)) (a b m : Int32), m_selectOf_b204 F T' rc rs6 a b m (nI i) (nI (s' - 1)) = m_selectOf_b282 F T' rc rs6 a b m (nI (s' - 1)) w) := by
  have sl := x.sl
  have il := x.il
  have s2 := x.g.s2
  have si := x.g.si
  have im := x.g.im
  have mn := x.g.x.mn
  have n2 := x.g.x.n2
  have cp := x.g.cp
  have hc : s' - 1 < cap := by omega
  have hc2 : cap ≤ 120 := by omega
  have oc := x.g.h.oc
  obtain ⟨p65, q65⟩ := x.g.ca.p65
  obtain ⟨p66, q66⟩ := x.g.ca.p66
  obtain ⟨p69, q69⟩ := x.g.ca.p69
  have hs := has_y (F := F) (s := s' - 1) oc x.g.ca (by rw [show s' - 1 + 1 = s' by omega]; exact x.g.cn) hc hc2
  have tp := TR.top (x.tr 0)
  have gg : ¬ rs6.1 21 = 0 := by rw [x.g.g1]; decide
  have nz : ¬ (1 : Int32) = 0 := by decide
  obtain ⟨V, hV⟩ : ∃ V, V = VW c cs6 rs6 := ⟨_, rfl⟩
  have v65 : kA cs6 65 c (s' - 1) = vk V (s' - 1) := by rw [hV]; rfl
  have v66 : kA cs6 66 c (s' - 1) = vb V (s' - 1) := by rw [hV]; rfl
  have v69 : kB cs6 69 c (s' - 1) = vn V (s' - 1) := by rw [hV]; rfl
  have r23 : rs6.2.2.1 23 (s' - 1) = rk V (s' - 1) := by rw [hV]; rfl
  have r27 : rs6.2.2.1 27 (s' - 1) = rh V (s' - 1) := by rw [hV]; rfl
  have r30 : rs6.2.2.1 30 (s' - 1) = rw' V (s' - 1) := by rw [hV]; rfl
  have xl := x.lf
  have xc := x.co
  rw [← hV] at tp xl xc
  have h121 : s' - 1 < 121 := by omega
  have cls : ∀ it, iN F t it (nI (s' - 1)) (kA cs 353 9 i) cs6 = if vk V (s' - 1) = 39 then (if vb V (s' - 1) = kA cs 353 9 i then c_X9_readItem_b91 F cs6 it (nI (s' - 1)) (vn V (s' - 1)) else c_X9_readItem_b91 F cs6 it (nI (s' - 1)) (-1)) else c_X9_readItem_b91 F cs6 it (nI (s' - 1)) (-1) := fun it => by
    unfold iN
    rw [gR_ok x.g.h.o, ob_s, x.g.h.rc, ob_s, ckE_ok oc, ob_s, hs, ob_s, if_neg nz, ob_s, ob_s, gA_ok oc, q65, ob_s, rA_n x.g.ca.e65 q65 (by rw [x.g.ca.l65]; exact hc) (by rw [x.g.ca.l65]; omega), ob_s, v65]
    by_cases w1 : vk V (s' - 1) = 39
    · rw [if_pos w1, if_pos w1, ob_s, ob_s, gA_ok oc, q66, ob_s, rA_n x.g.ca.e66 q66 (by rw [x.g.ca.l66]; exact hc) (by rw [x.g.ca.l66]; omega), ob_s, v66]
      by_cases w2 : vb V (s' - 1) = kA cs 353 9 i
      · rw [if_pos w2, if_pos w2, ob_s, ob_s, gA_ok oc, q69, ob_s, rB_n x.g.ca.e69 q69 (by rw [x.g.ca.l69]; exact hc) (by rw [x.g.ca.l69]; omega), ob_s, v69]
      · rw [if_neg w2, if_neg w2]
    · rw [if_neg w1, if_neg w1]
  by_cases w1 : vk V (s' - 1) = 39
  · obtain ⟨t1, t2⟩ := tp.1 w1
    have es : s' = s + 1 := by omega
    have e1 : s' - 1 = s := by omega
    rw [e1] at w1 cls v65 v66 v69 r23 r27 r30 t2 h121
    obtain ⟨j, j1, j2, j3, j4⟩ := xl es w1
    have cl := xc s (Nat.le_refl _) (by omega) w1
    rw [e1]
    by_cases w2 : j = i
    · subst w2
      refine ⟨vn V s, if rh V s = -1 then rw' V s else rh V s, ?_, fun it => by rw [cls it, if_pos w1, if_pos j3], fun T' rc a b m => ?_⟩
      · rcases cl with ⟨-, c2, k, c0, c3, c4, c5⟩ | ⟨k, k2, c0, c1, c2, c3, c4, c5, c6⟩
        · rw [if_pos c2]
          exact Or.inr ⟨k, c3, c4, c5⟩
        · rw [if_neg (by rw [c4]; exact nI_nm1 (by omega))]
          exact Or.inr ⟨k2, c2, c4, c6⟩
      · unfold m_selectOf_b204
        rw [if_neg gg, rdI_n h121 (by decide), ob_s, r23, if_pos t2, rdI_n h121 (by decide), ob_s, r27, x.g.ri, j4]
        by_cases w3 : rh V s = -1
        · rw [if_pos w3, if_pos w3, if_pos w3]
          unfold m_selectOf_b246
          rw [if_pos (show nI (j + 1 + 2 * (j - j)) = nI j + 1 by rw [nI_1, Nat.sub_self]), rdI_n h121 (by decide), ob_s, r27, if_pos w3, rdI_n h121 (by decide), ob_s, r30]
        · rw [if_neg w3, if_neg w3, if_neg w3]
          unfold m_selectOf_b246
          rw [if_pos (show nI (j + 3 + 2 * (j - j)) = nI j + 3 by rw [Nat.sub_self, nI_k j 3 3 (by decide)]), rdI_n h121 (by decide), ob_s, r27, if_neg w3, ob_s]
    · have ne : ¬ vb V s = kA cs 353 9 i := fun w => by
        have := x.g.x.pm i j (by omega) j2
        rw [hi] at this
        exact this (w.symm.trans j3)
      refine ⟨-1, -1, Or.inl ⟨rfl, rfl⟩, fun it => by rw [cls it, if_pos w1, if_neg ne], fun T' rc a b m => ?_⟩
      unfold m_selectOf_b204
      rw [if_neg gg, rdI_n h121 (by decide), ob_s, r23, if_pos t2, rdI_n h121 (by decide), ob_s, r27, x.g.ri]
      by_cases w3 : rh V s = -1
      · rw [if_pos w3] at j4
        rw [if_pos w3]
        unfold m_selectOf_b246 m_selectOf_b281
        rw [if_neg (show ¬ nI i' = nI i + 1 by
          rw [nI_1]
          intro w
          have := (nI_eq (by omega) (by omega)).mp w
          omega)]
      · rw [if_neg w3] at j4
        rw [if_neg w3]
        unfold m_selectOf_b246 m_selectOf_b281
        rw [if_neg (show ¬ nI i' = nI i + 3 by
          rw [nI_k i 3 3 (by decide)]
          intro w
          have := (nI_eq (by omega) (by omega)).mp w
          omega)]
  · refine ⟨-1, -1, Or.inl ⟨rfl, rfl⟩, fun it => by rw [cls it, if_neg w1], fun T' rc a b m => ?_⟩
    unfold m_selectOf_b204
    rw [if_neg gg, rdI_n h121 (by decide), ob_s, r23, if_neg (tp.2 w1)]
    rfl

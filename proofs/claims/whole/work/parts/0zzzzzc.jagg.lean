/-! judging an EXPR: aggregates and names -/
theorem JF.r76 {t c : Nat} {v : Int32} {cs cs' : CS} {rs rs' : RS} (j : JF t c cs (setF rs 76 v) cs' rs') : JF t c cs rs cs' (setF rs' 76 (rs.1 76)) := by
  refine ⟨j.c1, j.a0, j.pl, ⟨j.fr.1, fun k hk => ⟨?_, (j.fr.2 k hk).2.1, (j.fr.2 k hk).2.2⟩⟩, j.s72⟩
  by_cases y : k = 76
  · rw [y]
    rfl
  · exact (if_neg y).trans ((j.fr.2 k hk).1.trans (if_neg y))
theorem JS.r76 {t c cap s k lo : Nat} {V : VT} {D : Nat → Prop} {Sc : CS → RS → Prop} {i x root : Nat} {v : Int32} {cs : CS} {rs : RS} (h : JS t c cap s k lo i V D Sc cs rs) (hA0 : SCA lo root V Sc) (h1 : lo ≤ x) (h2 : x ≤ root) (hg : AGC (vk V x)) (hv : v = 0 ∨ ∃ cs0 rs0, Sc cs0 rs0 ∧ v = rs0.1 76) : JS t c cap s k lo i V D Sc cs (setF rs 76 v) := ⟨h.ck, h.f0, h.g1, h.v, h.ty, h.sl, hA0 x _ _ _ h1 h2 hg h.sc hv⟩
theorem st_ag {F t c cap s k lo root : Nat} {V : VT} {D : Nat → Prop} {Sc : CS → RS → Prop} {cs : CS} {rs : RS} {a e w : Nat} {ag : Int32} (h : JS t c cap s k lo a V D Sc cs rs) (ha : a < e) (he : e ≤ root) (hr : root < s) (hs : s ≤ 120) (hv : vs V a = nI e) : c_X0_checkExpr_L24 F (w + 1) cs k (nI root) ag (nI a) = c_X0_checkExpr_L24 F (w + 1) cs k (nI root) (nI e) (nI a) := by
  have g : ∀ x, sg V root a x = nI e := fun x => by
    unfold sg
    rw [hv, if_neg (nI_ge ha (by omega)), if_neg (nI_nlt (a := root) (b := e) he (by omega))]
  rw [st_72 h (by omega) hr hs, st_72 h (by omega) hr hs, g, g]
/-- from an aggregate's place to its argument's -/
theorem agg_in {F t c cap s k lo root : Nat} {V : VT} {D : Nat → Prop} {Sc : CS → RS → Prop} {m : MK} {a e w : Nat} {ag : Int32} {cs : CS} {rs : RS} (hr : root < s) (hs : s ≤ 120) (he : e ≤ root) (ha : a < e) (hag : AGC (vk V e)) (hv : vs V a = nI e) (hno : ∀ x, a ≤ x → x < e → ¬ AGC (vk V x)) (mc : MC V root m a e) (h : JS t c cap s k lo a V D Sc cs rs) (mo : MO k m cs rs ag a) : ∃ m' ag0, MC V root m' a (e - 1) ∧ MO k m' cs (setF rs 76 0) ag0 a ∧ c_X0_checkExpr_L24 F (w + 1) cs k (nI root) ag (nI a) = c_X0_checkExpr_L24 F (w + 1) cs k (nI root) ag0 (nI a) ∧ (∀ cs1 rs1 ag1, MO k m' cs1 rs1 ag1 e → MO k m cs1 (setF rs1 76 (rs.1 76)) ag1 e) := by
  rcases m with _ | _ | p
  · exact ⟨none, ag, True.intro, ⟨mo.1, rfl⟩, rfl, fun cs1 rs1 ag1 z => ⟨z.1, mo.2⟩⟩
  · refine ⟨some (some (a, e)), nI e, ⟨Nat.le_refl _, by show e - 1 < e; omega, he, fun x q' x1 x2 x3 x4 x5 x6 => ?_, hno⟩, ⟨mo.1, rfl, rfl⟩, st_ag h ha he hr hs hv, fun cs1 rs1 ag1 z => ⟨z.1, mo.2.1, by rw [z.2.2]; exact Int32.le_refl _⟩⟩
    have y1 : ¬ q' < e := fun w => hno q' (by have : a ≤ x := x1; omega) w x5
    by_cases y2 : q' = e
    · exact y2
    · have := mc q' x (by omega) x4 x5 x6 (by omega)
      have : x < e := x2
      omega
  · obtain ⟨c1, c2, c3, c4, c5⟩ := mc
    exact absurd hag (c5 e (by omega) c2)
theorem agg_w {F t c cap s k lo root : Nat} {V : VT} {D : Nat → Prop} {Sc : CS → RS → Prop} {T : TG_judge} {a e : Nat} (hF : 10000 ≤ F) (sk : SKV V s) (hr : root < s) (hs : s ≤ 120) (hS : SCF t c Sc) (hA0 : SCA lo root V Sc) (he : e ≤ root) (ha : a < e) (hlo : lo ≤ a) (hag : AGC (vk V e)) (hk : vk V e ≠ 39) (hp : vp V e = 1) (hl : rl V e = nI (e - 1)) (hv : vs V a = nI e) (hno : ∀ x, a ≤ x → x < e → ¬ AGC (vk V x)) (hf : vf V (e - 1) = nI a) (hb : vb V (e - 1) = rb V (e - 1)) (hA : ∀ cs1 cs2, CK t c cap s k cs1 → kA cs1 65 c e = vk V e → c_X0_wantParts F cs1 k (nI e) 1 1 = some cs2 → c_X0_checkAct F cs1 k (nI e) = some cs2) (hJ : ∀ rs rs1, rs.1 21 = 1 → rs.2.2.1 23 e = rk V e → rs.2.2.1 24 e = nI (e - 1) → rs1.2.2.1 24 e = nI (e - 1) → T (setF rs 76 0) (nI (e - 1)) = some rs1 → b_judge F T rs (nI e) = Option.bind (m_want F (setF rs1 76 (rs.1 76)) (nI (e - 1)) 1) fun r => Option.bind (wrI r 31 121 (nI e) 1) fun r' => some r') (ih : JA F t c cap s k lo root V D Sc T a (e - 1)) : JA F t c cap s k lo root V D Sc (b_judge F T) a e := by
  intro m w ag cs rs mc hw h mo
  have ty11 : TYR 1 1 := Or.inl ⟨rfl, rfl⟩
  obtain ⟨m', ag0, mc', mo', hL0, back⟩ := agg_in (F := F) (w := w + (e - a)) hr hs he ha hag hv hno mc h mo
  obtain ⟨rs1, e1, cs1, j1, p⟩ := ih m' (w + 1) ag0 cs (setF rs 76 0) mc' (by omega) (h.r76 (x := e) (v := 0) hA0 (by omega) he hag (Or.inl rfl)) mo'
  rw [show w + 1 + (e - 1 + 1 - a) = w + (e - a) + 1 by omega, show e - 1 + 1 = e by omega, ← hL0, show w + (e - a) + 1 = w + (e + 1 - a) by omega] at p
  have j1' := j1.r76
  have r := h.r (e := e) (by omega)
  have r24 : rs.2.2.1 24 e = nI (e - 1) := r.2.2.2.2.2.2.1.trans hl
  have r24' : rs1.2.2.1 24 e = nI (e - 1) := by rw [j1.fr.a (k := 24) (by unfold jR; omega)]; exact r24
  have eJ := hJ rs rs1 h.g1 r.2.2.2.2.2.1 r24 r24' e1
  rcases p with ⟨ag1, h1, mo1, hL⟩ | ⟨h1, hL⟩
  · have h1' := h1.r76 (x := e) (v := rs.1 76) hA0 (by omega) he hag (Or.inr ⟨_, _, h.sc, rfl⟩)
    obtain ⟨rr1, o1, o2, o3⟩ := want1 (F := F) (x := e - 1) (W := 1) h1' hs ⟨by omega, by omega, by omega⟩ (Or.inl rfl)
    have q := h1'.r (e := e) (by omega)
    have q1 := h1'.r (e := e - 1) (by omega)
    have wp : WRP (VW c cs1 (setF rs1 76 (rs.1 76))) (fun y => kA cs1 73 c y &&& 1 = 0) 1 (e - 1) none rr1 := ⟨a, q1.2.1.trans hf, by omega, Or.inl rfl, o3⟩
    have cw := wp_ok (F := F) (R := 1) hF h1'.ck (e := e) (tot := 1) (x := 0) (by omega) h1'.f0 ((q.2.2.1.trans hp).trans (show (1 : Int32) = nI 1 by decide)) ⟨by omega, by omega⟩ (by omega) wp
    obtain ⟨j2, h2⟩ := h1'.wp (R := 1) (R' := 1) (r := rr1) hS hk ty11 (fun y hy => by
      rcases o1 with o1 | o1
      · rw [o1] at hy; cases hy
      · rw [o1] at hy
        have : e - 1 = y := Option.some.inj hy
        rw [← this]
        exact ⟨by omega, hb⟩)
    refine ⟨_, ?_, JPO.node (rs2 := setI (rWn (setF rs1 76 (rs.1 76)) rr1) 31 e 1) sk hr hs he (by omega) mc hw j1' h1' (back cs1 rs1 ag1 mo1) hL hk (hA cs1 _ h1'.ck q.1 cw) j2 (h2.imp (fun z => z.2) (fun z => z.2))⟩
    rw [eJ, o2, ob_s, wrI_n (by omega) (by decide), ob_s]
  · have h1' := h1.r76 (v := rs.1 76)
    refine ⟨_, ?_, JPO.fault (x := e) (v := 1) j1' h1' hL⟩
    rw [eJ, want_f h1'.g, ob_s, wrI_n (by omega) (by decide), ob_s]
theorem agg_n {F t c cap s k lo root : Nat} {V : VT} {D : Nat → Prop} {Sc : CS → RS → Prop} {T : TG_judge} {a e : Nat} (hF : 10000 ≤ F) (sk : SKV V s) (hr : root < s) (hs : s ≤ 120) (hS : SCF t c Sc) (hA0 : SCA lo root V Sc) (he : e ≤ root) (ha : a < e) (hlo : lo ≤ a) (hag : AGC (vk V e)) (hk : vk V e ≠ 39) (hl : rl V e = nI (e - 1)) (hv : vs V a = nI e) (hno : ∀ x, a ≤ x → x < e → ¬ AGC (vk V x)) (hA : ∀ cs1, CK t c cap s k cs1 → kA cs1 65 c e = vk V e → c_X0_checkAct F cs1 k (nI e) = some (sA cs1 73 c e 1)) (hJ : ∀ rs rs1, rs.1 21 = 1 → rs.2.2.1 23 e = rk V e → rs.2.2.1 24 e = nI (e - 1) → T (setF rs 76 0) (nI (e - 1)) = some rs1 → b_judge F T rs (nI e) = Option.bind (wrI (setF rs1 76 (rs.1 76)) 31 121 (nI e) 1) fun r' => some r') (ih : JA F t c cap s k lo root V D Sc T a (e - 1)) : JA F t c cap s k lo root V D Sc (b_judge F T) a e := by
  intro m w ag cs rs mc hw h mo
  have ty11 : TYR 1 1 := Or.inl ⟨rfl, rfl⟩
  obtain ⟨m', ag0, mc', mo', hL0, back⟩ := agg_in (F := F) (w := w + (e - a)) hr hs he ha hag hv hno mc h mo
  obtain ⟨rs1, e1, cs1, j1, p⟩ := ih m' (w + 1) ag0 cs (setF rs 76 0) mc' (by omega) (h.r76 (x := e) (v := 0) hA0 (by omega) he hag (Or.inl rfl)) mo'
  rw [show w + 1 + (e - 1 + 1 - a) = w + (e - a) + 1 by omega, show e - 1 + 1 = e by omega, ← hL0, show w + (e - a) + 1 = w + (e + 1 - a) by omega] at p
  have j1' := j1.r76
  have r := h.r (e := e) (by omega)
  have r24 : rs.2.2.1 24 e = nI (e - 1) := r.2.2.2.2.2.2.1.trans hl
  have eJ := hJ rs rs1 h.g1 r.2.2.2.2.2.1 r24 e1
  rcases p with ⟨ag1, h1, mo1, hL⟩ | ⟨h1, hL⟩
  · have h1' := h1.r76 (x := e) (v := rs.1 76) hA0 (by omega) he hag (Or.inr ⟨_, _, h.sc, rfl⟩)
    have q := h1'.r (e := e) (by omega)
    obtain ⟨j2, h2⟩ := h1'.ty1 (R := 1) (R' := 1) hS hk ty11
    refine ⟨_, ?_, JPO.node (rs2 := setI (setF rs1 76 (rs.1 76)) 31 e 1) sk hr hs he (by omega) mc hw j1' h1' (back cs1 rs1 ag1 mo1) hL hk (hA cs1 h1'.ck q.1) j2 (Or.inl h2)⟩
    rw [eJ, wrI_n (by omega) (by decide), ob_s]
  · have h1' := h1.r76 (v := rs.1 76)
    refine ⟨_, ?_, JPO.fault (x := e) (v := 1) j1' h1' hL⟩
    rw [eJ, wrI_n (by omega) (by decide), ob_s]
/-- names, looked for in the SOURCES or among names: what is asked of both -/
def NM0 (F t c cap s k lo root : Nat) (V : VT) (D : Nat → Prop) (Sc : CS → RS → Prop) : Prop := ∀ (x : Nat) (cs : CS) (rs : RS), JS t c cap s k lo x V D Sc cs rs → lo ≤ x → x ≤ root → x < s → vk V x = 39 → rs.1 76 = 0 → ∃ cs' rs1 z, c_X0_findInSources F cs k (nI x) = some cs' ∧ m_find F rs (nI x) = some (rs1, z) ∧ JF t c cs rs cs' (setI rs1 31 x z) ∧ (JS t c cap s k lo (x + 1) V D Sc cs' (setI rs1 31 x z) ∨ JB t c cap s k cs' (setI rs1 31 x z))
def NM1 (F t c cap s k lo root : Nat) (V : VT) (D : Nat → Prop) (Sc : CS → RS → Prop) : Prop := ∀ (x nm : Nat) (cs : CS) (rs : RS), JS t c cap s k lo x V D Sc cs rs → lo ≤ x → x ≤ root → x < s → vk V x = 39 → rs.1 76 ≠ 0 → kR cs 37 k = some nm → ∃ cs' rs1 z, c_X0_findInNames F cs k (nI x) nm = some cs' ∧ m_find F rs (nI x) = some (rs1, z) ∧ JF t c cs rs cs' (setI rs1 31 x z) ∧ (JS t c cap s k lo (x + 1) V D Sc cs' (setI rs1 31 x z) ∨ JB t c cap s k cs' (setI rs1 31 x z))
theorem MO.sgn {V : VT} {s root k a x : Nat} {cs : CS} {rs : RS} {ag : Int32} (sk : SKV V s) (hr : root < s) (hs : s ≤ 120) (hx : x ≤ root) (mc : MC V root (some none) a x) (h : MO k (some none) cs rs ag x) : sg V root x ag = ag := by
  unfold sg
  rcases sk x (by omega) with y | ⟨q, q1, q2, q3, q4, q5⟩
  · rw [y, if_pos (m1_le (by omega))]
  · rw [q3, if_neg (nI_ge q1 (by omega))]
    by_cases w : q ≤ root
    · exact absurd (mc q x q1 w q5 q4 (by omega)) (by omega)
    · rw [if_pos (nI_lt (by omega) (by omega))]
theorem name_J {F t c cap s k lo root : Nat} {V : VT} {D : Nat → Prop} {Sc : CS → RS → Prop} {T : TG_judge} {e : Nat} (hF : 10000 ≤ F) (sk : SKV V s) (hr : root < s) (hs : s ≤ 120) (hS : SCF t c Sc) (n0 : NM0 F t c cap s k lo root V D Sc) (n1 : NM1 F t c cap s k lo root V D Sc) (he : e ≤ root) (hlo : lo ≤ e) (hk : vk V e = 39) (hrk : rk V e = 5) : JA F t c cap s k lo root V D Sc (b_judge F T) e e := by
  intro m w ag cs rs mc hw h mo
  have r := h.r (e := e) (by omega)
  have eJ := bj_5 (F := F) (T := T) h.g1 (show e < 121 by omega) (r.2.2.2.2.2.1.trans hrk)
  have mo2 := mo.st sk hr hs he (Nat.le_refl _) mc
  rw [show w + (e + 1 - e) = w + 1 by omega, st_72 h he hr hs]
  unfold c_X0_checkExpr_b72 c_X0_checkExpr_b106 c_X0_checkExpr_b123
  rw [ck_c h.ck, ck_65 h.ck (by omega), r.1, hk, if_pos rfl, gR_ok h.ck.o, ob_s, eJ]
  have fin : ∀ cs' rs1 z, m_find F rs (nI e) = some (rs1, z) → JF t c cs rs cs' (setI rs1 31 e z) → (JS t c cap s k lo (e + 1) V D Sc cs' (setI rs1 31 e z) ∨ JB t c cap s k cs' (setI rs1 31 e z)) → ∃ rs', (Option.bind (m_find F rs (nI e)) fun z_77 => m_judge_b539 F T z_77.1 (nI e) z_77.2) = some rs' ∧ JPO F t c cap s k lo root V D Sc m (c_X0_checkExpr_L24 F w cs' k (nI root) (sg V root e ag) (nI e + 1)) w e cs rs rs' := fun cs' rs1 z q1 q2 q3 => by
    refine ⟨setI rs1 31 e z, ?_, cs', q2, ?_⟩
    · rw [q1, ob_s]
      unfold m_judge_b539
      rw [wrI_n (by omega) (by decide), ob_s]
    · rw [nI_1]
      rcases q3 with q3 | q3
      · exact Or.inl ⟨_, q3, mo2.jf q2, rfl⟩
      · obtain ⟨w, rfl⟩ : ∃ x, w = x + 1 := ⟨w - 1, by omega⟩
        exact Or.inr ⟨q3, L24_b q3⟩
  rcases m with _ | _ | p
  · obtain ⟨cs', rs1, z, a1, a2, a3, a4⟩ := n0 e cs rs h hlo he (by omega) hk mo.2
    rw [mo.1]
    show ∃ rs', _ ∧ JPO F t c cap s k lo root V D Sc _ (Option.bind (ckE cs 1 k) fun _ => Option.bind (c_X0_findInSources F cs k (nI e)) fun cs_1 => c_X0_checkExpr_L24 F w cs_1 k (nI root) (sg V root e ag) (nI e + 1)) w e cs rs rs'
    rw [ckE_ok h.ck.o, ob_s, a1, ob_s]
    exact fin cs' rs1 z a2 a3 a4
  · obtain ⟨⟨nm, b1⟩, b2, b3⟩ := mo
    obtain ⟨cs', rs1, z, a1, a2, a3, a4⟩ := n1 e nm cs rs h hlo he (by omega) hk b2 b1
    have sge := MO.sgn (k := k) (cs := cs) (rs := rs) sk hr hs he mc ⟨⟨nm, b1⟩, b2, b3⟩
    rw [b1]
    show ∃ rs', _ ∧ JPO F t c cap s k lo root V D Sc _ (if sg V root e ag ≤ nI e then (Option.bind (some (some nm)) fun v_11 => Option.bind (v_11) fun i_12 => Option.bind (ckE cs 1 k) fun _ => Option.bind (c_X0_findInNames F cs k (nI e) i_12) fun cs_13 => c_X0_checkExpr_L24 F w cs_13 k (nI root) (sg V root e ag) (nI e + 1)) else _) w e cs rs rs'
    rw [if_pos (by rw [sge]; exact b3), ob_s, ob_s, ckE_ok h.ck.o, ob_s, a1, ob_s]
    exact fin cs' rs1 z a2 a3 a4
  · obtain ⟨⟨nm, b1⟩, b2, b3⟩ := mo
    obtain ⟨c1, c2, c3, c4, c5⟩ := mc
    obtain ⟨cs', rs1, z, a1, a2, a3, a4⟩ := n0 e cs rs h hlo he (by omega) hk b2
    have sge : sg V root e ag = nI p.2 := mo2.2.2
    rw [b1]
    show ∃ rs', _ ∧ JPO F t c cap s k lo root V D Sc _ (if sg V root e ag ≤ nI e then _ else (Option.bind (ckE cs 1 k) fun _ => Option.bind (c_X0_findInSources F cs k (nI e)) fun cs_1 => c_X0_checkExpr_L24 F w cs_1 k (nI root) (sg V root e ag) (nI e + 1))) w e cs rs rs'
    rw [if_neg (by rw [sge]; exact nI_ge c2 (by omega)), ckE_ok h.ck.o, ob_s, a1, ob_s]
    exact fin cs' rs1 z a2 a3 a4

/-! judging an EXPR: nodes with one part and with two -/
/-- one want of the reference against one part of wantParts -/
theorem want1 {F : Nat} {t c cap s k lo : Nat} {V : VT} {D : Nat → Prop} {Sc : CS → RS → Prop} {cs : CS} {rs : RS} {i x : Nat} {W : Int32} (h : JS t c cap s k lo i V D Sc cs rs) (hs : s ≤ 120) (hx : lo ≤ x ∧ x < i ∧ x < s) (hW : W = 1 ∨ W = 2) : ∃ r : Option Nat, (r = none ∨ r = some x) ∧ m_want F rs (nI x) W = some (rWn rs r) ∧ ((kA cs 73 c x &&& W = 0 ∧ r = some x) ∨ (¬ kA cs 73 c x &&& W = 0 ∧ r = none)) := by
  have ty := ty_bad (h.ty x hx.1 hx.2.1) hW
  by_cases y : kA cs 73 c x &&& W = 0
  · exact ⟨some x, Or.inr rfl, want_bad h.g1 (by omega) (ty.mp y), Or.inl ⟨y, rfl⟩⟩
  · exact ⟨none, Or.inl rfl, want_ok h.g1 (by omega) (fun w => y (ty.mpr w)), Or.inr ⟨y, rfl⟩⟩
theorem una_w {F t c cap s k lo root : Nat} {V : VT} {D : Nat → Prop} {Sc : CS → RS → Prop} {T : TG_judge} {a e : Nat} {W R R' : Int32} (hF : 10000 ≤ F) (sk : SKV V s) (hr : root < s) (hs : s ≤ 120) (hS : SCF t c Sc) (he : e ≤ root) (ha : a < e) (hlo : lo ≤ a) (hk : vk V e ≠ 39) (hag : ¬ AGC (vk V e)) (hp : vp V e = 1) (hl : rl V e = nI (e - 1)) (hf : vf V (e - 1) = nI a) (hb : vb V (e - 1) = rb V (e - 1)) (hW : W = 1 ∨ W = 2) (hR : TYR R R') (hA : ∀ cs1 cs2, CK t c cap s k cs1 → kA cs1 65 c e = vk V e → c_X0_wantParts F cs1 k (nI e) W R = some cs2 → c_X0_checkAct F cs1 k (nI e) = some cs2) (hJ : ∀ rs rs1, rs.1 21 = 1 → rs.2.2.1 23 e = rk V e → rs.2.2.1 24 e = nI (e - 1) → rs1.2.2.1 24 e = nI (e - 1) → T rs (nI (e - 1)) = some rs1 → b_judge F T rs (nI e) = Option.bind (m_want F rs1 (nI (e - 1)) W) fun r => Option.bind (wrI r 31 121 (nI e) R') fun r' => some r') (ih : JA F t c cap s k lo root V D Sc T a (e - 1)) : JA F t c cap s k lo root V D Sc (b_judge F T) a e := by
  intro m w ag cs rs mc hw h mo
  have mcs : MC V root m a (e - 1) := mc.sub (Nat.le_refl _) (by omega) (fun q' fq w1 w2 w3 _ _ => by
    have : q' = e := by omega
    rw [this] at w3
    exact absurd w3 hag)
  obtain ⟨rs1, e1, cs1, j1, p⟩ := ih m (w + 1) ag cs rs mcs (by omega) h mo
  rw [show w + 1 + (e - 1 + 1 - a) = w + (e + 1 - a) by omega, show e - 1 + 1 = e by omega] at p
  have r := h.r (e := e) (by omega)
  have r24 : rs.2.2.1 24 e = nI (e - 1) := r.2.2.2.2.2.2.1.trans hl
  have r24' : rs1.2.2.1 24 e = nI (e - 1) := by rw [j1.fr.a (k := 24) (by unfold jR; omega)]; exact r24
  have eJ := hJ rs rs1 h.g1 r.2.2.2.2.2.1 r24 r24' e1
  rcases p with ⟨ag1, h1, mo1, hL⟩ | ⟨h1, hL⟩
  · obtain ⟨rr1, o1, o2, o3⟩ := want1 (F := F) (x := e - 1) (W := W) h1 hs ⟨by omega, by omega, by omega⟩ hW
    have q := h1.r (e := e) (by omega)
    have q1 := h1.r (e := e - 1) (by omega)
    have wp : WRP (VW c cs1 rs1) (fun y => kA cs1 73 c y &&& W = 0) 1 (e - 1) none rr1 := ⟨a, q1.2.1.trans hf, by omega, Or.inl rfl, o3⟩
    have cw := wp_ok (F := F) (R := R) hF h1.ck (e := e) (tot := 1) (x := 0) (by omega) h1.f0 ((q.2.2.1.trans hp).trans (show (1 : Int32) = nI 1 by decide)) ⟨by omega, by omega⟩ (by omega) wp
    obtain ⟨j2, h2⟩ := h1.wp (R := R) (R' := R') (r := rr1) hS hk hR (fun y hy => by
      rcases o1 with o1 | o1
      · rw [o1] at hy; cases hy
      · rw [o1] at hy
        have : e - 1 = y := Option.some.inj hy
        rw [← this]
        exact ⟨by omega, hb⟩)
    refine ⟨_, ?_, JPO.node (rs2 := setI (rWn rs1 rr1) 31 e R') sk hr hs he (by omega) mc hw j1 h1 mo1 hL hk (hA cs1 _ h1.ck q.1 cw) j2 (h2.imp (fun z => z.2) (fun z => z.2))⟩
    rw [eJ, o2, ob_s, wrI_n (by omega) (by decide), ob_s]
  · refine ⟨_, ?_, JPO.fault (x := e) (v := R') j1 h1 hL⟩
    rw [eJ, want_f h1.g, ob_s, wrI_n (by omega) (by decide), ob_s]
/-- a node with one part that is not looked at: is null -/
theorem una_n {F t c cap s k lo root : Nat} {V : VT} {D : Nat → Prop} {Sc : CS → RS → Prop} {T : TG_judge} {a e : Nat} {R R' : Int32} (hF : 10000 ≤ F) (sk : SKV V s) (hr : root < s) (hs : s ≤ 120) (hS : SCF t c Sc) (he : e ≤ root) (ha : a < e) (hlo : lo ≤ a) (hk : vk V e ≠ 39) (hag : ¬ AGC (vk V e)) (hl : rl V e = nI (e - 1)) (hR : TYR R R') (hA : ∀ cs1, CK t c cap s k cs1 → kA cs1 65 c e = vk V e → c_X0_checkAct F cs1 k (nI e) = some (sA cs1 73 c e R)) (hJ : ∀ rs rs1, rs.1 21 = 1 → rs.2.2.1 23 e = rk V e → rs.2.2.1 24 e = nI (e - 1) → T rs (nI (e - 1)) = some rs1 → b_judge F T rs (nI e) = Option.bind (wrI rs1 31 121 (nI e) R') fun r' => some r') (ih : JA F t c cap s k lo root V D Sc T a (e - 1)) : JA F t c cap s k lo root V D Sc (b_judge F T) a e := by
  intro m w ag cs rs mc hw h mo
  have mcs : MC V root m a (e - 1) := mc.sub (Nat.le_refl _) (by omega) (fun q' fq w1 w2 w3 _ _ => by
    have : q' = e := by omega
    rw [this] at w3
    exact absurd w3 hag)
  obtain ⟨rs1, e1, cs1, j1, p⟩ := ih m (w + 1) ag cs rs mcs (by omega) h mo
  rw [show w + 1 + (e - 1 + 1 - a) = w + (e + 1 - a) by omega, show e - 1 + 1 = e by omega] at p
  have r := h.r (e := e) (by omega)
  have r24 : rs.2.2.1 24 e = nI (e - 1) := r.2.2.2.2.2.2.1.trans hl
  have eJ := hJ rs rs1 h.g1 r.2.2.2.2.2.1 r24 e1
  rcases p with ⟨ag1, h1, mo1, hL⟩ | ⟨h1, hL⟩
  · have q := h1.r (e := e) (by omega)
    obtain ⟨j2, h2⟩ := h1.ty1 (R := R) (R' := R') hS hk hR
    refine ⟨_, ?_, JPO.node (rs2 := setI rs1 31 e R') sk hr hs he (by omega) mc hw j1 h1 mo1 hL hk (hA cs1 h1.ck q.1) j2 (Or.inl h2)⟩
    rw [eJ, wrI_n (by omega) (by decide), ob_s]
  · refine ⟨_, ?_, JPO.fault (x := e) (v := R') j1 h1 hL⟩
    rw [eJ, wrI_n (by omega) (by decide), ob_s]
/-- a leaf that is no name -/
theorem leaf_w {F t c cap s k lo root : Nat} {V : VT} {D : Nat → Prop} {Sc : CS → RS → Prop} {T : TG_judge} {e : Nat} {R R' : Int32} (hF : 10000 ≤ F) (sk : SKV V s) (hr : root < s) (hs : s ≤ 120) (hS : SCF t c Sc) (he : e ≤ root) (hk : vk V e ≠ 39) (hR : TYR R R') (hA : ∀ cs1, CK t c cap s k cs1 → kA cs1 65 c e = vk V e → c_X0_checkAct F cs1 k (nI e) = some (sA cs1 73 c e R)) (hJ : ∀ rs, rs.1 21 = 1 → rs.2.2.1 23 e = rk V e → b_judge F T rs (nI e) = Option.bind (wrI rs 31 121 (nI e) R') fun r' => some r') : JA F t c cap s k lo root V D Sc (b_judge F T) e e := by
  intro m w ag cs rs mc hw h mo
  have r := h.r (e := e) (by omega)
  have eJ := hJ rs h.g1 r.2.2.2.2.2.1
  obtain ⟨j2, h2⟩ := h.ty1 (R := R) (R' := R') hS hk hR
  rw [show w + (e + 1 - e) = w + 1 by omega]
  refine ⟨_, ?_, JPO.node (rs2 := setI rs 31 e R') sk hr hs he (Nat.le_refl _) mc hw JF.refl h mo rfl hk (hA cs h.ck r.1) j2 (Or.inl h2)⟩
  rw [eJ, wrI_n (by omega) (by decide), ob_s]
/-- a node with two parts -/
theorem bin_w {F t c cap s k lo root : Nat} {V : VT} {D : Nat → Prop} {Sc : CS → RS → Prop} {T : TG_judge} {a g e : Nat} {W R R' : Int32} (hF : 10000 ≤ F) (sk : SKV V s) (hr : root < s) (hs : s ≤ 120) (hS : SCF t c Sc) (he : e ≤ root) (hag0 : a < g ∧ g < e) (hlo : lo ≤ a) (hk : vk V e ≠ 39) (hag : ¬ AGC (vk V e)) (hp : vp V e = 2) (hl : rl V e = nI (g - 1)) (hrr : rr V e = nI (e - 1)) (hf1 : vf V (g - 1) = nI a) (hf2 : vf V (e - 1) = nI g) (hb1 : vb V (g - 1) = rb V (g - 1)) (hb2 : vb V (e - 1) = rb V (e - 1)) (rng : ∀ q, g ≤ q → q ≤ e - 1 → ∃ fq, vf V q = nI fq ∧ g ≤ fq ∧ fq ≤ q) (hW : W = 1 ∨ W = 2) (hR : TYR R R') (hA : ∀ cs1 cs2, CK t c cap s k cs1 → kA cs1 65 c e = vk V e → c_X0_wantParts F cs1 k (nI e) W R = some cs2 → c_X0_checkAct F cs1 k (nI e) = some cs2) (hJ : ∀ rs rs1 rs2, rs.1 21 = 1 → rs.2.2.1 23 e = rk V e → rs.2.2.1 24 e = nI (g - 1) → rs1.2.2.1 25 e = nI (e - 1) → rs2.2.2.1 24 e = nI (g - 1) → T rs (nI (g - 1)) = some rs1 → T rs1 (nI (e - 1)) = some rs2 → b_judge F T rs (nI e) = Option.bind (m_want F rs2 (nI (g - 1)) W) fun r => Option.bind (rdI (r.2.2.1 25) 121 (nI e)) fun v => Option.bind (m_want F r v W) fun r' => Option.bind (wrI r' 31 121 (nI e) R') fun r9 => some r9) (hT : ∀ rs x, rs.1 21 = 0 → T rs x = some rs) (ih1 : JA F t c cap s k lo root V D Sc T a (g - 1)) (ih2 : JA F t c cap s k lo root V D Sc T g (e - 1)) : JA F t c cap s k lo root V D Sc (b_judge F T) a e := by
  intro m w ag cs rs mc hw h mo
  have mc1 : MC V root m a (g - 1) := mc.sub (Nat.le_refl _) (by omega) (fun q' fq w1 w2 w3 w4 w5 => by
    by_cases y : q' = e
    · rw [y] at w3
      exact absurd w3 hag
    · have := rng_lt rng (by omega) (show g ≤ q' by omega) (by omega) w4 w5
      omega)
  have mc2 : MC V root m g (e - 1) := mc.sub (by omega) (by omega) (fun q' fq w1 w2 w3 _ _ => by
    have : q' = e := by omega
    rw [this] at w3
    exact absurd w3 hag)
  obtain ⟨rs1, e1, cs1, j1, p⟩ := ih1 m (w + (e + 1 - g)) ag cs rs mc1 (by omega) h mo
  rw [show w + (e + 1 - g) + (g - 1 + 1 - a) = w + (e + 1 - a) by omega, show g - 1 + 1 = g by omega] at p
  have r := h.r (e := e) (by omega)
  have r24 : rs.2.2.1 24 e = nI (g - 1) := r.2.2.2.2.2.2.1.trans hl
  have r25 : rs.2.2.1 25 e = nI (e - 1) := r.2.2.2.2.2.2.2.1.trans hrr
  have r25' : rs1.2.2.1 25 e = nI (e - 1) := by rw [j1.fr.a (k := 25) (by unfold jR; omega)]; exact r25
  rcases p with ⟨ag1, h1, mo1, hL⟩ | ⟨h1, hL⟩
  · obtain ⟨rs2, e2, cs2, j2, p2⟩ := ih2 m (w + 1) ag1 cs1 rs1 mc2 (by omega) h1 mo1
    rw [show w + 1 + (e - 1 + 1 - g) = w + (e + 1 - g) by omega, show e - 1 + 1 = e by omega] at p2
    have j12 := j1.trans j2
    have r24' : rs2.2.2.1 24 e = nI (g - 1) := by rw [j12.fr.a (k := 24) (by unfold jR; omega)]; exact r24
    have r25'' : rs2.2.2.1 25 e = nI (e - 1) := by rw [j12.fr.a (k := 25) (by unfold jR; omega)]; exact r25
    have eJ := hJ rs rs1 rs2 h.g1 r.2.2.2.2.2.1 r24 r25' r24' e1 e2
    rcases p2 with ⟨ag2, h2, mo2, hL2⟩ | ⟨h2, hL2⟩
    · obtain ⟨ra, o1, o2, o3⟩ := want1 (F := F) (x := g - 1) (W := W) h2 hs ⟨by omega, by omega, by omega⟩ hW
      obtain ⟨rb', u1, u2', u3⟩ := want1 (F := F) (x := e - 1) (W := W) h2 hs ⟨by omega, by omega, by omega⟩ hW
      have q := h2.r (e := e) (by omega)
      have qa := h2.r (e := g - 1) (by omega)
      have qb := h2.r (e := e - 1) (by omega)
      obtain ⟨r9, z1, z2, z3⟩ : ∃ r9 : Option Nat, WRP (VW c cs2 rs2) (fun y => kA cs2 73 c y &&& W = 0) 2 (e - 1) none r9 ∧ (∀ y, r9 = some y → y < s ∧ vb V y = rb V y) ∧ (Option.bind (m_want F rs2 (nI (g - 1)) W) fun r => Option.bind (rdI (r.2.2.1 25) 121 (nI e)) fun v => Option.bind (m_want F r v W) fun r' => Option.bind (wrI r' 31 121 (nI e) R') fun r9 => some r9) = some (setI (rWn rs2 r9) 31 e R') := by
        rcases o3 with ⟨b1, b2⟩ | ⟨b1, b2⟩
        · refine ⟨some (g - 1), ⟨g, qb.2.1.trans hf2, by omega, Or.inr (by omega), ?_⟩, fun y hy => ?_, ?_⟩
          · rcases u3 with ⟨c1, c2⟩ | ⟨c1, c2⟩
            · exact Or.inl ⟨c1, ⟨a, qa.2.1.trans hf1, by omega, Or.inl rfl, Or.inl ⟨b1, rfl⟩⟩⟩
            · exact Or.inr ⟨c1, ⟨a, qa.2.1.trans hf1, by omega, Or.inl rfl, Or.inl ⟨b1, rfl⟩⟩⟩
          · have : g - 1 = y := Option.some.inj hy
            rw [← this]
            exact ⟨by omega, hb1⟩
          · rw [b2] at o2
            have g0 : (rWn rs2 (some (g - 1))).1 21 = 0 := rfl
            rw [o2, ob_s, show (rWn rs2 (some (g - 1))).2.2.1 25 = rs2.2.2.1 25 from rfl, rdI_n (by omega) (by decide), ob_s, want_f g0, ob_s, wrI_n (by omega) (by decide), ob_s]
        · rw [b2] at o2
          have o2' : m_want F rs2 (nI (g - 1)) W = some rs2 := o2
          rcases u3 with ⟨c1, c2⟩ | ⟨c1, c2⟩
          · rw [c2] at u2'
            refine ⟨some (e - 1), ⟨g, qb.2.1.trans hf2, by omega, Or.inr (by omega), Or.inl ⟨c1, ⟨a, qa.2.1.trans hf1, by omega, Or.inl rfl, Or.inr ⟨b1, rfl⟩⟩⟩⟩, fun y hy => ?_, ?_⟩
            · have : e - 1 = y := Option.some.inj hy
              rw [← this]
              exact ⟨by omega, hb2⟩
            · rw [o2', ob_s, rdI_n (by omega) (by decide), ob_s, r25'', u2', ob_s, wrI_n (by omega) (by decide), ob_s]
          · rw [c2] at u2'
            refine ⟨none, ⟨g, qb.2.1.trans hf2, by omega, Or.inr (by omega), Or.inr ⟨c1, ⟨a, qa.2.1.trans hf1, by omega, Or.inl rfl, Or.inr ⟨b1, rfl⟩⟩⟩⟩, fun y hy => (by cases hy), ?_⟩
            rw [o2', ob_s, rdI_n (by omega) (by decide), ob_s, r25'', u2', ob_s, wrI_n (by omega) (by decide), ob_s]
      have cw := wp_ok (F := F) (R := R) hF h2.ck (e := e) (tot := 2) (x := 0) (by omega) h2.f0 ((q.2.2.1.trans hp).trans (show (2 : Int32) = nI 2 by decide)) ⟨by omega, by omega⟩ (by omega) z1
      obtain ⟨j3, h3⟩ := h2.wp (R := R) (R' := R') (r := r9) hS hk hR z2
      refine ⟨_, ?_, JPO.node (rs2 := setI (rWn rs2 r9) 31 e R') sk hr hs he (by omega) mc hw j12 h2 mo2 (hL.trans hL2) hk (hA cs2 _ h2.ck q.1 cw) j3 (h3.imp (fun z => z.2) (fun z => z.2))⟩
      rw [eJ]
      exact z3
    · refine ⟨_, ?_, JPO.fault (x := e) (v := R') j12 h2 (hL.trans hL2)⟩
      rw [eJ, want_f h2.g, ob_s, rdI_n (by omega) (by decide), ob_s, want_f h2.g, ob_s, wrI_n (by omega) (by decide), ob_s]
  · have e2 : T rs1 (nI (e - 1)) = some rs1 := hT rs1 _ h1.g
    have r24' : rs1.2.2.1 24 e = nI (g - 1) := by rw [j1.fr.a (k := 24) (by unfold jR; omega)]; exact r24
    have eJ := hJ rs rs1 rs1 h.g1 r.2.2.2.2.2.1 r24 r25' r24' e1 e2
    refine ⟨_, ?_, JPO.fault (x := e) (v := R') j1 h1 hL⟩
    rw [eJ, want_f h1.g, ob_s, rdI_n (by omega) (by decide), ob_s, want_f h1.g, ob_s, wrI_n (by omega) (by decide), ob_s]

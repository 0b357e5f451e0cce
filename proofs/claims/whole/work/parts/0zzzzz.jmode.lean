/-! judging an EXPR: where a name is looked for, and one step of each -/
theorem CH.rng {P : Nat → Nat → Prop} {V : VT} (hP : ∀ a e, P a e → a ≤ e ∧ ∀ q, a ≤ q → q ≤ e → ∃ fq, vf V q = nI fq ∧ a ≤ fq ∧ fq ≤ q) : ∀ (m a r e : Nat), CH P V m a r e → a ≤ r ∧ ∀ q, a ≤ q → q ≤ e → ∃ fq, vf V q = nI fq ∧ a ≤ fq ∧ fq ≤ q
  | 0, _, _, _, x => x.elim
  | m + 1, a, r, e, x => by
    obtain ⟨x1, x2⟩ := x
    obtain ⟨p1, p2⟩ := hP a r x1
    refine ⟨p1, fun q q1 q2 => ?_⟩
    by_cases y : q ≤ r
    · exact p2 q q1 y
    · rcases x2 with ⟨-, z2, -⟩ | ⟨z1, q', z2, z3, z4⟩
      · omega
      · obtain ⟨fq, f1, f2, f3⟩ := (CH.rng hP m (r + 1) q' e z4).2 q (by omega) q2
        exact ⟨fq, f1, by omega, f3⟩
theorem TR.rng {V : VT} : ∀ (d R a e : Nat), TR V d R a e → a ≤ e ∧ ∀ q, a ≤ q → q ≤ e → ∃ fq, vf V q = nI fq ∧ a ≤ fq ∧ fq ≤ q
  | 0, _, _, _, x => x.elim
  | d + 1, R, a, e, x => by
    obtain ⟨h1, h2, h3, h4⟩ := x
    refine ⟨h1, fun q q1 q2 => ?_⟩
    by_cases y : q = e
    · exact ⟨a, by rw [y]; exact h2, Nat.le_refl _, by omega⟩
    · rcases h4 with y' | ⟨y1, y2, y3, y4⟩ | ⟨g, y1, y2, y3, y4, y5, y6, y7⟩ | ⟨g, k, y1, y2, y3, y4, y5, y6, y7, y8, y9, y10, y11, y12⟩ | ⟨m, g, r, y1, y2, y3, y4, y5, y6, y7, y8, y9, y10⟩ | ⟨y1, y2, y3, y4, y5, y0⟩
      · have := y'.1
        omega
      · exact (TR.rng d _ _ _ y4).2 q q1 (by omega)
      · by_cases z : q ≤ g - 1
        · exact (TR.rng d _ _ _ y6).2 q q1 z
        · obtain ⟨fq, f1, f2, f3⟩ := (TR.rng d _ _ _ y7).2 q (by omega) (by omega)
          exact ⟨fq, f1, by omega, f3⟩
      · by_cases z : q ≤ g - 1
        · exact (TR.rng d _ _ _ y10).2 q q1 z
        · by_cases z2 : q ≤ k - 1
          · obtain ⟨fq, f1, f2, f3⟩ := (TR.rng d _ _ _ y11).2 q (by omega) z2
            exact ⟨fq, f1, by omega, f3⟩
          · obtain ⟨fq, f1, f2, f3⟩ := (TR.rng d _ _ _ y12).2 q (by omega) (by omega)
            exact ⟨fq, f1, by omega, f3⟩
      · by_cases z : q ≤ g - 1
        · exact (TR.rng d _ _ _ y9).2 q q1 z
        · obtain ⟨fq, f1, f2, f3⟩ := (CH.rng (fun a e h => TR.rng d R a e h) m g r (e - 1) y10).2 q (by omega) (by omega)
          exact ⟨fq, f1, by omega, f3⟩
      · exact (TR.rng d _ _ _ y5).2 q q1 (by omega)
abbrev MK : Type := Option (Option (Nat × Nat))
/-- where names are looked for: none: in the SOURCES alone; some none: in names; some (A, q): within the aggregate q, whose argument begins at A -/
def MO (k : Nat) (m : MK) (cs : CS) (rs : RS) (ag : Int32) (i : Nat) : Prop :=
  match m with
  | none => kR cs 37 k = none ∧ rs.1 76 = 0
  | some (some p) => (∃ nm, kR cs 37 k = some nm) ∧ rs.1 76 = 0 ∧ ag = nI p.2
  | some none => (∃ nm, kR cs 37 k = some nm) ∧ rs.1 76 ≠ 0 ∧ ag ≤ nI i
def MC (V : VT) (root : Nat) (m : MK) (a e : Nat) : Prop :=
  match m with
  | none => True
  | some (some p) => p.1 ≤ a ∧ e < p.2 ∧ p.2 ≤ root ∧ (∀ x q', p.1 ≤ x → x < p.2 → x < q' → q' ≤ root → AGC (vk V q') → vf V q' = nI x → q' = p.2) ∧ (∀ x, p.1 ≤ x → x < p.2 → ¬ AGC (vk V x))
  | some none => ∀ q' fq, e < q' → q' ≤ root → AGC (vk V q') → vf V q' = nI fq → fq ≤ q' → e < fq
def SKV (V : VT) (s : Nat) : Prop := ∀ x, x < s → vs V x = -1 ∨ ∃ q, x < q ∧ q < s ∧ vs V x = nI q ∧ vf V q = nI x ∧ AGC (vk V q)
def sg (V : VT) (root i : Nat) (ag : Int32) : Int32 := if vs V i ≤ nI i then ag else if nI root < vs V i then ag else vs V i
theorem m1_le {x : Nat} (h : x < 2147483648) : (-1 : Int32) ≤ nI x := Int32.not_lt.mp (fun w => nI_pos (n := x) h (Int32.lt_trans w (by decide)))
theorem MO.st {V : VT} {s root k a x : Nat} {m : MK} {cs : CS} {rs : RS} {ag : Int32} (sk : SKV V s) (hr : root < s) (hs : s ≤ 120) (hx : x ≤ root) (ha : a ≤ x) (mc : MC V root m a x) (h : MO k m cs rs ag x) : MO k m cs rs (sg V root x ag) (x + 1) := by
  have up : nI x ≤ nI (x + 1) := nI_le (by omega) (by omega)
  rcases m with _ | _ | p
  · exact h
  · obtain ⟨n1, h1, h2⟩ := h
    refine ⟨n1, h1, ?_⟩
    unfold sg
    rcases sk x (by omega) with y | ⟨q, q1, q2, q3, q4, q5⟩
    · rw [y, if_pos (m1_le (by omega))]
      exact Int32.le_trans h2 up
    · rw [q3, if_neg (nI_ge q1 (by omega))]
      by_cases w : q ≤ root
      · exact absurd (mc q x q1 w q5 q4 (by omega)) (by omega)
      · rw [if_pos (nI_lt (by omega) (by omega))]
        exact Int32.le_trans h2 up
  · obtain ⟨n1, h1, h2⟩ := h
    obtain ⟨c1, c2, c3, c4, c5⟩ := mc
    refine ⟨n1, h1, ?_⟩
    unfold sg
    rcases sk x (by omega) with y | ⟨q, q1, q2, q3, q4, q5⟩
    · rw [y, if_pos (m1_le (by omega))]
      exact h2
    · rw [q3, if_neg (nI_ge q1 (by omega))]
      by_cases w : q ≤ root
      · rw [if_neg (nI_nlt (a := root) (b := q) w (by omega)), c4 x q (by omega) (by omega) q1 w q5 q4]
      · rw [if_pos (nI_lt (by omega) (by omega))]
        exact h2
theorem MO.jf {t c k i : Nat} {m : MK} {cs cs' : CS} {rs rs' : RS} {ag : Int32} (h : MO k m cs rs ag i) (j : JF t c cs rs cs' rs') : MO k m cs' rs' ag i := by
  have a : kR cs' 37 k = kR cs 37 k := (j.a0 37 k (by omega) (by omega)).r
  have b : rs'.1 76 = rs.1 76 := j.fr.f (by unfold jR; omega)
  rcases m with _ | _ | p <;> (unfold MO at h ⊢; rw [a, b]; exact h)
/-- what holds of an EXPR holds of its parts -/
theorem MC.sub {V : VT} {root a e a' e' : Nat} {m : MK} (h : MC V root m a e) (h1 : a ≤ a') (h2 : e' < e) (hn : ∀ q' fq, e' < q' → q' ≤ e → AGC (vk V q') → vf V q' = nI fq → fq ≤ q' → e' < fq) : MC V root m a' e' := by
  rcases m with _ | _ | p
  · exact True.intro
  · intro q' fq w1 w2 w3 w4 w5
    by_cases y : q' ≤ e
    · exact hn q' fq w1 y w3 w4 w5
    · have := h q' fq (by omega) w2 w3 w4 w5
      omega
  · obtain ⟨c1, c2, c3, c4, c5⟩ := h
    exact ⟨by omega, by omega, c3, c4, c5⟩
/-- a part behind: its nodes begin behind too -/
theorem rng_lt {V : VT} {g b q fq : Nat} (h : ∀ q, g ≤ q → q ≤ b → ∃ fq, vf V q = nI fq ∧ g ≤ fq ∧ fq ≤ q) (hb : b < 1000) (h1 : g ≤ q) (h2 : q ≤ b) (h3 : vf V q = nI fq) (h4 : fq ≤ q) : g ≤ fq := by
  obtain ⟨fq', f1, f2, f3⟩ := h q h1 h2
  have : fq = fq' := (nI_eq (by omega) (by omega)).mp (h3.symm.trans f1)
  omega
theorem JS.r {t c cap s k lo : Nat} {V : VT} {D : Nat → Prop} {Sc : CS → RS → Prop} {cs : CS} {rs : RS} {i e : Nat} (h : JS t c cap s k lo i V D Sc cs rs) (he : e < s) : kA cs 65 c e = vk V e ∧ kA cs 67 c e = vf V e ∧ kA cs 68 c e = vp V e ∧ kA cs 66 c e = vb V e ∧ kA cs 71 c e = vs V e ∧ rs.2.2.1 23 e = rk V e ∧ rs.2.2.1 24 e = rl V e ∧ rs.2.2.1 25 e = rr V e ∧ rs.2.2.1 26 e = rt V e ∧ rs.2.2.1 29 e = rb V e ∧ rs.2.2.1 32 e = rx V e := by
  have w := h.v e he
  unfold vk vf vp vb vs rk rl rr rt rb rx
  rw [← w]
  exact ⟨rfl, rfl, rfl, rfl, rfl, rfl, rfl, rfl, rfl, rfl, rfl⟩
theorem JS.nf {F : Nat} {t c cap s k lo : Nat} {V : VT} {D : Nat → Prop} {Sc : CS → RS → Prop} {cs : CS} {rs : RS} {i : Nat} (h : JS t c cap s k lo i V D Sc cs rs) : c_X0_isFaulty F cs k = some 0 := by
  unfold c_X0_isFaulty c_X0_isFaulty_b15
  rw [ck_t h.ck, gI_ok h.ck.ot, ob_s, if_pos h.f0]
  rfl
theorem L24_b {F t c cap s k w root i : Nat} {cs : CS} {rs : RS} {ag : Int32} (h : JB t c cap s k cs rs) : c_X0_checkExpr_L24 F (w + 1) cs k (nI root) ag (nI i) = some cs := by
  rw [c_X0_checkExpr_L24]
  unfold c_X0_checkExpr_b129
  by_cases y : nI root < nI i
  · rw [if_pos y]
  · have nf : c_X0_isFaulty F cs k = some 1 := by
      unfold c_X0_isFaulty c_X0_isFaulty_b15
      rw [ck_t h.ck, gI_ok h.ck.ot, ob_s, if_neg h.f]
      rfl
    rw [if_neg y, ckE_ok h.ck.o, ob_s, nf, ob_s, if_neg (by decide)]
theorem st_72 {F t c cap s k lo root : Nat} {V : VT} {D : Nat → Prop} {Sc : CS → RS → Prop} {cs : CS} {rs : RS} {i w : Nat} {ag : Int32} (h : JS t c cap s k lo i V D Sc cs rs) (hi : i ≤ root) (hr : root < s) (hs : s ≤ 120) : c_X0_checkExpr_L24 F (w + 1) cs k (nI root) ag (nI i) = c_X0_checkExpr_b72 F (c_X0_checkExpr_L24 F w) cs k (nI root) (sg V root i ag) (nI i) := by
  have e71 := (h.r (e := i) (by omega)).2.2.2.2.1
  rw [c_X0_checkExpr_L24, if_neg (nI_nlt (a := root) (b := i) hi (by omega)), ckE_ok h.ck.o, ob_s, h.nf (F := F), ob_s, if_pos rfl, ck_c h.ck, ck_71 h.ck (by omega), e71]
  unfold sg
  by_cases y : vs V i ≤ nI i
  · rw [if_pos y, if_pos y]
  · rw [if_neg y, if_neg y, ck_c h.ck, ck_71 h.ck (by omega), e71]
    by_cases z : nI root < vs V i
    · rw [if_pos z, if_pos z]
    · rw [if_neg z, if_neg z, ck_c h.ck, ck_71 h.ck (by omega), e71]
theorem st_act {F t c cap s k lo root : Nat} {V : VT} {D : Nat → Prop} {Sc : CS → RS → Prop} {cs cs' : CS} {rs : RS} {i w : Nat} {ag : Int32} (h : JS t c cap s k lo i V D Sc cs rs) (hi : i ≤ root) (hr : root < s) (hs : s ≤ 120) (hk : vk V i ≠ 39) (ha : c_X0_checkAct F cs k (nI i) = some cs') : c_X0_checkExpr_L24 F (w + 1) cs k (nI root) ag (nI i) = c_X0_checkExpr_L24 F w cs' k (nI root) (sg V root i ag) (nI (i + 1)) := by
  have e65 := (h.r (e := i) (by omega)).1
  rw [st_72 h hi hr hs]
  unfold c_X0_checkExpr_b72 c_X0_checkExpr_b123
  rw [ck_c h.ck, ck_65 h.ck (by omega), e65, if_neg hk, ckE_ok h.ck.o, ob_s, ha, ob_s, nI_1]
/-- what both leave behind the EXPR that ends at e: L is what the class's walk comes to -/
def JPO (F t c cap s k lo root : Nat) (V : VT) (D : Nat → Prop) (Sc : CS → RS → Prop) (m : MK) (L : Option CS) (w e : Nat) (cs : CS) (rs : RS) (rs' : RS) : Prop := ∃ cs', JF t c cs rs cs' rs' ∧ ((∃ ag', JS t c cap s k lo (e + 1) V D Sc cs' rs' ∧ MO k m cs' rs' ag' (e + 1) ∧ L = c_X0_checkExpr_L24 F w cs' k (nI root) ag' (nI (e + 1))) ∨ (JB t c cap s k cs' rs' ∧ L = some cs'))
/-- the EXPR from a to e is judged alike -/
def JA (F t c cap s k lo root : Nat) (V : VT) (D : Nat → Prop) (Sc : CS → RS → Prop) (J : RS → Int32 → Option RS) (a e : Nat) : Prop := ∀ (m : MK) (w : Nat) (ag : Int32) (cs : CS) (rs : RS), MC V root m a e → 1 ≤ w → JS t c cap s k lo a V D Sc cs rs → MO k m cs rs ag a → ∃ rs', J rs (nI e) = some rs' ∧ JPO F t c cap s k lo root V D Sc m (c_X0_checkExpr_L24 F (w + (e + 1 - a)) cs k (nI root) ag (nI a)) w e cs rs rs'
/-- the node itself, its parts being judged -/
theorem JPO.node {F t c cap s k lo root : Nat} {V : VT} {D : Nat → Prop} {Sc : CS → RS → Prop} {m : MK} {a e w : Nat} {cs cs1 cs2 : CS} {rs rs1 rs2 : RS} {ag1 : Int32} {L : Option CS} (sk : SKV V s) (hr : root < s) (hs : s ≤ 120) (he : e ≤ root) (ha : a ≤ e) (mc : MC V root m a e) (hw : 1 ≤ w) (j1 : JF t c cs rs cs1 rs1) (h1 : JS t c cap s k lo e V D Sc cs1 rs1) (mo : MO k m cs1 rs1 ag1 e) (hL : L = c_X0_checkExpr_L24 F (w + 1) cs1 k (nI root) ag1 (nI e)) (hk : vk V e ≠ 39) (hA : c_X0_checkAct F cs1 k (nI e) = some cs2) (j2 : JF t c cs1 rs1 cs2 rs2) (h2 : JS t c cap s k lo (e + 1) V D Sc cs2 rs2 ∨ JB t c cap s k cs2 rs2) : JPO F t c cap s k lo root V D Sc m L w e cs rs rs2 := by
  rw [st_act h1 he hr hs hk hA] at hL
  refine ⟨cs2, j1.trans j2, ?_⟩
  rcases h2 with h2 | h2
  · exact Or.inl ⟨sg V root e ag1, h2, (mo.st sk hr hs he ha mc).jf j2, hL⟩
  · obtain ⟨w, rfl⟩ : ∃ x, w = x + 1 := ⟨w - 1, by omega⟩
    exact Or.inr ⟨h2, hL.trans (L24_b h2)⟩
/-- a fault in a part -/
theorem JPO.fault {F t c cap s k lo root : Nat} {V : VT} {D : Nat → Prop} {Sc : CS → RS → Prop} {m : MK} {e w x : Nat} {v : Int32} {cs cs1 : CS} {rs rs1 : RS} {L : Option CS} (j1 : JF t c cs rs cs1 rs1) (h1 : JB t c cap s k cs1 rs1) (hL : L = some cs1) : JPO F t c cap s k lo root V D Sc m L w e cs rs (setI rs1 31 x v) := ⟨cs1, j1.trans (JF.rI (Or.inl rfl)), Or.inr ⟨h1.r31, hL⟩⟩
theorem bj_1 {F e : Nat} {T : TG_judge} {rs : RS} (g : rs.1 21 = 1) (he : e < 121) (hk : rs.2.2.1 23 e = 1) : b_judge F T rs (nI e) = m_judge_b539 F T rs (nI e) 1 := by
  unfold b_judge
  rw [if_neg (by rw [g]; decide), rdI_n he (by decide), ob_s, hk, if_neg (by decide), if_neg (by decide), if_neg (by decide), if_neg (by decide), if_pos (by decide), if_neg (by decide), if_neg (by decide), if_neg (by decide), if_neg (by decide), if_neg (by decide), if_pos rfl]
theorem bj_2 {F e : Nat} {T : TG_judge} {rs : RS} (g : rs.1 21 = 1) (he : e < 121) (hk : rs.2.2.1 23 e = 2) : b_judge F T rs (nI e) = m_judge_b539 F T rs (nI e) 0 := by
  unfold b_judge
  rw [if_neg (by rw [g]; decide), rdI_n he (by decide), ob_s, hk, if_pos rfl]
theorem bj_3 {F e : Nat} {T : TG_judge} {rs : RS} (g : rs.1 21 = 1) (he : e < 121) (hk : rs.2.2.1 23 e = 3) : b_judge F T rs (nI e) = m_judge_b37 F T rs (nI e) := by
  unfold b_judge
  rw [if_neg (by rw [g]; decide), rdI_n he (by decide), ob_s, hk, if_neg (by decide), if_pos rfl]
theorem bj_4 {F e : Nat} {T : TG_judge} {rs : RS} (g : rs.1 21 = 1) (he : e < 121) (hk : rs.2.2.1 23 e = 4) : b_judge F T rs (nI e) = m_judge_b37 F T rs (nI e) := by
  unfold b_judge
  rw [if_neg (by rw [g]; decide), rdI_n he (by decide), ob_s, hk, if_neg (by decide), if_neg (by decide), if_pos rfl]
theorem bj_5 {F e : Nat} {T : TG_judge} {rs : RS} (g : rs.1 21 = 1) (he : e < 121) (hk : rs.2.2.1 23 e = 5) : b_judge F T rs (nI e) = (Option.bind (m_find F rs (nI e)) fun z_77 => m_judge_b539 F T z_77.1 (nI e) z_77.2) := by
  unfold b_judge
  rw [if_neg (by rw [g]; decide), rdI_n he (by decide), ob_s, hk, if_neg (by decide), if_neg (by decide), if_neg (by decide), if_pos rfl]
theorem bj_6 {F e : Nat} {T : TG_judge} {rs : RS} (g : rs.1 21 = 1) (he : e < 121) (hk : rs.2.2.1 23 e = 6) : b_judge F T rs (nI e) = (Option.bind (rdI (rs.2.2.1 24) 121 (nI e)) fun v_52 => Option.bind (T rs v_52) fun cs_53 => Option.bind (rdI (cs_53.2.2.1 25) 121 (nI e)) fun v_54 => Option.bind (T cs_53 v_54) fun cs_55 => m_judge_b484 F T cs_55 (nI e) 6) := by
  unfold b_judge
  rw [if_neg (by rw [g]; decide), rdI_n he (by decide), ob_s, hk, if_neg (by decide), if_neg (by decide), if_neg (by decide), if_neg (by decide), if_pos (by decide), if_neg (by decide), if_neg (by decide), if_neg (by decide), if_neg (by decide), if_neg (by decide), if_neg (by decide), if_neg (by decide)]
  rfl
theorem bj_7 {F e : Nat} {T : TG_judge} {rs : RS} (g : rs.1 21 = 1) (he : e < 121) (hk : rs.2.2.1 23 e = 7) : b_judge F T rs (nI e) = (Option.bind (rdI (rs.2.2.1 24) 121 (nI e)) fun v_52 => Option.bind (T rs v_52) fun cs_53 => Option.bind (rdI (cs_53.2.2.1 25) 121 (nI e)) fun v_54 => Option.bind (T cs_53 v_54) fun cs_55 => m_judge_b484 F T cs_55 (nI e) 7) := by
  unfold b_judge
  rw [if_neg (by rw [g]; decide), rdI_n he (by decide), ob_s, hk, if_neg (by decide), if_neg (by decide), if_neg (by decide), if_neg (by decide), if_pos (by decide), if_neg (by decide), if_neg (by decide), if_neg (by decide), if_neg (by decide), if_neg (by decide), if_neg (by decide), if_neg (by decide)]
  rfl
theorem bj_8 {F e : Nat} {T : TG_judge} {rs : RS} (g : rs.1 21 = 1) (he : e < 121) (hk : rs.2.2.1 23 e = 8) : b_judge F T rs (nI e) = m_judge_b389 F T rs (nI e) 8 := by
  unfold b_judge
  rw [if_neg (by rw [g]; decide), rdI_n he (by decide), ob_s, hk, if_neg (by decide), if_neg (by decide), if_neg (by decide), if_neg (by decide), if_pos (by decide), if_neg (by decide), if_neg (by decide), if_pos rfl]
theorem bj_9 {F e : Nat} {T : TG_judge} {rs : RS} (g : rs.1 21 = 1) (he : e < 121) (hk : rs.2.2.1 23 e = 9) : b_judge F T rs (nI e) = (Option.bind (rdI (rs.2.2.1 24) 121 (nI e)) fun v_52 => Option.bind (T rs v_52) fun cs_53 => Option.bind (rdI (cs_53.2.2.1 25) 121 (nI e)) fun v_54 => Option.bind (T cs_53 v_54) fun cs_55 => m_judge_b489 F T cs_55 (nI e) 9 1) := by
  unfold b_judge
  rw [if_neg (by rw [g]; decide), rdI_n he (by decide), ob_s, hk, if_neg (by decide), if_neg (by decide), if_neg (by decide), if_neg (by decide), if_pos (by decide), if_neg (by decide), if_neg (by decide), if_neg (by decide), if_neg (by decide), if_neg (by decide), if_neg (by decide), if_neg (by decide)]
  rfl
theorem bj_10 {F e : Nat} {T : TG_judge} {rs : RS} (g : rs.1 21 = 1) (he : e < 121) (hk : rs.2.2.1 23 e = 10) : b_judge F T rs (nI e) = m_judge_b389 F T rs (nI e) 10 := by
  unfold b_judge
  rw [if_neg (by rw [g]; decide), rdI_n he (by decide), ob_s, hk, if_neg (by decide), if_neg (by decide), if_neg (by decide), if_neg (by decide), if_pos (by decide), if_neg (by decide), if_neg (by decide), if_neg (by decide), if_pos rfl]
theorem bj_11 {F e : Nat} {T : TG_judge} {rs : RS} (g : rs.1 21 = 1) (he : e < 121) (hk : rs.2.2.1 23 e = 11) : b_judge F T rs (nI e) = (Option.bind (rdI (rs.2.2.1 24) 121 (nI e)) fun v_58 => Option.bind (T rs v_58) fun cs_59 => Option.bind (rdI (cs_59.2.2.1 25) 121 (nI e)) fun v_60 => m_judge_L284 F T F cs_59 (nI e) v_60) := by
  unfold b_judge
  rw [if_neg (by rw [g]; decide), rdI_n he (by decide), ob_s, hk, if_neg (by decide), if_neg (by decide), if_neg (by decide), if_neg (by decide), if_pos (by decide), if_neg (by decide), if_pos rfl]
theorem bj_12 {F e : Nat} {T : TG_judge} {rs : RS} (g : rs.1 21 = 1) (he : e < 121) (hk : rs.2.2.1 23 e = 12) : b_judge F T rs (nI e) = (Option.bind (rdI (rs.2.2.1 24) 121 (nI e)) fun v_52 => Option.bind (T rs v_52) fun cs_53 => Option.bind (rdI (cs_53.2.2.1 25) 121 (nI e)) fun v_54 => Option.bind (T cs_53 v_54) fun cs_55 => m_judge_b489 F T cs_55 (nI e) 12 1) := by
  unfold b_judge
  rw [if_neg (by rw [g]; decide), rdI_n he (by decide), ob_s, hk, if_neg (by decide), if_neg (by decide), if_neg (by decide), if_neg (by decide), if_pos (by decide), if_neg (by decide), if_neg (by decide), if_neg (by decide), if_neg (by decide), if_neg (by decide), if_neg (by decide), if_neg (by decide)]
  rfl
theorem bj_13 {F e : Nat} {T : TG_judge} {rs : RS} (g : rs.1 21 = 1) (he : e < 121) (hk : rs.2.2.1 23 e = 13) : b_judge F T rs (nI e) = (Option.bind (rdI (rs.2.2.1 24) 121 (nI e)) fun v_52 => Option.bind (T rs v_52) fun cs_53 => Option.bind (rdI (cs_53.2.2.1 25) 121 (nI e)) fun v_54 => Option.bind (T cs_53 v_54) fun cs_55 => m_judge_b489 F T cs_55 (nI e) 13 1) := by
  unfold b_judge
  rw [if_neg (by rw [g]; decide), rdI_n he (by decide), ob_s, hk, if_neg (by decide), if_neg (by decide), if_neg (by decide), if_neg (by decide), if_pos (by decide), if_neg (by decide), if_neg (by decide), if_neg (by decide), if_neg (by decide), if_neg (by decide), if_neg (by decide), if_neg (by decide)]
  rfl
theorem bj_14 {F e : Nat} {T : TG_judge} {rs : RS} (g : rs.1 21 = 1) (he : e < 121) (hk : rs.2.2.1 23 e = 14) : b_judge F T rs (nI e) = (Option.bind (rdI (rs.2.2.1 24) 121 (nI e)) fun v_52 => Option.bind (T rs v_52) fun cs_53 => Option.bind (rdI (cs_53.2.2.1 25) 121 (nI e)) fun v_54 => Option.bind (T cs_53 v_54) fun cs_55 => m_judge_b489 F T cs_55 (nI e) 14 1) := by
  unfold b_judge
  rw [if_neg (by rw [g]; decide), rdI_n he (by decide), ob_s, hk, if_neg (by decide), if_neg (by decide), if_neg (by decide), if_neg (by decide), if_pos (by decide), if_neg (by decide), if_neg (by decide), if_neg (by decide), if_neg (by decide), if_neg (by decide), if_neg (by decide), if_neg (by decide)]
  rfl
theorem bj_15 {F e : Nat} {T : TG_judge} {rs : RS} (g : rs.1 21 = 1) (he : e < 121) (hk : rs.2.2.1 23 e = 15) : b_judge F T rs (nI e) = (Option.bind (rdI (rs.2.2.1 24) 121 (nI e)) fun v_52 => Option.bind (T rs v_52) fun cs_53 => Option.bind (rdI (cs_53.2.2.1 25) 121 (nI e)) fun v_54 => Option.bind (T cs_53 v_54) fun cs_55 => m_judge_b489 F T cs_55 (nI e) 15 1) := by
  unfold b_judge
  rw [if_neg (by rw [g]; decide), rdI_n he (by decide), ob_s, hk, if_neg (by decide), if_neg (by decide), if_neg (by decide), if_neg (by decide), if_pos (by decide), if_neg (by decide), if_neg (by decide), if_neg (by decide), if_neg (by decide), if_neg (by decide), if_neg (by decide), if_neg (by decide)]
  rfl
theorem bj_16 {F e : Nat} {T : TG_judge} {rs : RS} (g : rs.1 21 = 1) (he : e < 121) (hk : rs.2.2.1 23 e = 16) : b_judge F T rs (nI e) = (Option.bind (rdI (rs.2.2.1 24) 121 (nI e)) fun v_52 => Option.bind (T rs v_52) fun cs_53 => Option.bind (rdI (cs_53.2.2.1 25) 121 (nI e)) fun v_54 => Option.bind (T cs_53 v_54) fun cs_55 => m_judge_b489 F T cs_55 (nI e) 16 1) := by
  unfold b_judge
  rw [if_neg (by rw [g]; decide), rdI_n he (by decide), ob_s, hk, if_neg (by decide), if_neg (by decide), if_neg (by decide), if_neg (by decide), if_pos (by decide), if_neg (by decide), if_neg (by decide), if_neg (by decide), if_neg (by decide), if_neg (by decide), if_neg (by decide), if_neg (by decide)]
  rfl
theorem bj_17 {F e : Nat} {T : TG_judge} {rs : RS} (g : rs.1 21 = 1) (he : e < 121) (hk : rs.2.2.1 23 e = 17) : b_judge F T rs (nI e) = m_judge_b389 F T rs (nI e) 17 := by
  unfold b_judge
  rw [if_neg (by rw [g]; decide), rdI_n he (by decide), ob_s, hk, if_neg (by decide), if_neg (by decide), if_neg (by decide), if_neg (by decide), if_pos (by decide), if_neg (by decide), if_neg (by decide), if_neg (by decide), if_neg (by decide), if_pos rfl]
theorem bj_18 {F e : Nat} {T : TG_judge} {rs : RS} (g : rs.1 21 = 1) (he : e < 121) (hk : rs.2.2.1 23 e = 18) : b_judge F T rs (nI e) = (Option.bind (rdI (rs.2.2.1 24) 121 (nI e)) fun v_61 => Option.bind (T rs v_61) fun cs_62 => Option.bind (rdI (cs_62.2.2.1 25) 121 (nI e)) fun v_63 => Option.bind (T cs_62 v_63) fun cs_64 => Option.bind (rdI (cs_64.2.2.1 26) 121 (nI e)) fun v_65 => Option.bind (T cs_64 v_65) fun cs_66 => Option.bind (rdI (cs_66.2.2.1 24) 121 (nI e)) fun v_67 => Option.bind (m_want F cs_66 v_67 2) fun cs_68 => if (cs_68.1 21) = 0 then (m_judge_b178 F T cs_68 (nI e) 0) else (Option.bind (rdI (cs_68.2.2.1 25) 121 (nI e)) fun v_70 => Option.bind (rdI (cs_68.2.2.1 31) 121 v_70) fun v_71 => m_judge_b178 F T cs_68 (nI e) v_71)) := by
  unfold b_judge
  rw [if_neg (by rw [g]; decide), rdI_n he (by decide), ob_s, hk, if_neg (by decide), if_neg (by decide), if_neg (by decide), if_neg (by decide), if_pos (by decide), if_pos rfl]
theorem bj_19 {F e : Nat} {T : TG_judge} {rs : RS} (g : rs.1 21 = 1) (he : e < 121) (hk : rs.2.2.1 23 e = 19) : b_judge F T rs (nI e) = (Option.bind (rdI (rs.2.2.1 24) 121 (nI e)) fun v_52 => Option.bind (T rs v_52) fun cs_53 => Option.bind (rdI (cs_53.2.2.1 25) 121 (nI e)) fun v_54 => Option.bind (T cs_53 v_54) fun cs_55 => m_judge_b489 F T cs_55 (nI e) 19 1) := by
  unfold b_judge
  rw [if_neg (by rw [g]; decide), rdI_n he (by decide), ob_s, hk, if_neg (by decide), if_neg (by decide), if_neg (by decide), if_neg (by decide), if_pos (by decide), if_neg (by decide), if_neg (by decide), if_neg (by decide), if_neg (by decide), if_neg (by decide), if_neg (by decide), if_neg (by decide)]
  rfl
theorem bj_20 {F e : Nat} {T : TG_judge} {rs : RS} (g : rs.1 21 = 1) (he : e < 121) (hk : rs.2.2.1 23 e = 20) : b_judge F T rs (nI e) = m_judge_b539 F T rs (nI e) 1 := by
  unfold b_judge
  rw [if_neg (by rw [g]; decide), rdI_n he (by decide), ob_s, hk, if_neg (by decide), if_neg (by decide), if_neg (by decide), if_neg (by decide), if_pos (by decide), if_neg (by decide), if_neg (by decide), if_neg (by decide), if_neg (by decide), if_neg (by decide), if_neg (by decide), if_pos rfl]
theorem bj_21 {F e : Nat} {T : TG_judge} {rs : RS} (g : rs.1 21 = 1) (he : e < 121) (hk : rs.2.2.1 23 e = 21) : b_judge F T rs (nI e) = (Option.bind (rdI ((setF rs 76 0).2.2.1 24) 121 (nI e)) fun v_72 => Option.bind (T (setF rs 76 0) v_72) fun cs_73 => m_judge_b106 F T (setF cs_73 76 (rs.1 76)) (nI e) 1) := by
  unfold b_judge
  rw [if_neg (by rw [g]; decide), rdI_n he (by decide), ob_s, hk, if_neg (by decide), if_neg (by decide), if_neg (by decide), if_neg (by decide), if_neg (by decide)]
  rfl
theorem bj_22 {F e : Nat} {T : TG_judge} {rs : RS} (g : rs.1 21 = 1) (he : e < 121) (hk : rs.2.2.1 23 e = 22) : b_judge F T rs (nI e) = (Option.bind (rdI ((setF rs 76 0).2.2.1 24) 121 (nI e)) fun v_72 => Option.bind (T (setF rs 76 0) v_72) fun cs_73 => Option.bind (rdI ((setF cs_73 76 (rs.1 76)).2.2.1 24) 121 (nI e)) fun v_75 => Option.bind (m_want F (setF cs_73 76 (rs.1 76)) v_75 1) fun cs_76 => m_judge_b106 F T cs_76 (nI e) 1) := by
  unfold b_judge
  rw [if_neg (by rw [g]; decide), rdI_n he (by decide), ob_s, hk, if_neg (by decide), if_neg (by decide), if_neg (by decide), if_neg (by decide), if_neg (by decide)]
  rfl
theorem bj_23 {F e : Nat} {T : TG_judge} {rs : RS} (g : rs.1 21 = 1) (he : e < 121) (hk : rs.2.2.1 23 e = 23) : b_judge F T rs (nI e) = (Option.bind (rdI ((setF rs 76 0).2.2.1 24) 121 (nI e)) fun v_72 => Option.bind (T (setF rs 76 0) v_72) fun cs_73 => Option.bind (rdI ((setF cs_73 76 (rs.1 76)).2.2.1 24) 121 (nI e)) fun v_75 => Option.bind (m_want F (setF cs_73 76 (rs.1 76)) v_75 1) fun cs_76 => m_judge_b106 F T cs_76 (nI e) 1) := by
  unfold b_judge
  rw [if_neg (by rw [g]; decide), rdI_n he (by decide), ob_s, hk, if_neg (by decide), if_neg (by decide), if_neg (by decide), if_neg (by decide), if_neg (by decide)]
  rfl
theorem bj_24 {F e : Nat} {T : TG_judge} {rs : RS} (g : rs.1 21 = 1) (he : e < 121) (hk : rs.2.2.1 23 e = 24) : b_judge F T rs (nI e) = (Option.bind (rdI ((setF rs 76 0).2.2.1 24) 121 (nI e)) fun v_72 => Option.bind (T (setF rs 76 0) v_72) fun cs_73 => Option.bind (rdI ((setF cs_73 76 (rs.1 76)).2.2.1 24) 121 (nI e)) fun v_75 => Option.bind (m_want F (setF cs_73 76 (rs.1 76)) v_75 1) fun cs_76 => m_judge_b106 F T cs_76 (nI e) 1) := by
  unfold b_judge
  rw [if_neg (by rw [g]; decide), rdI_n he (by decide), ob_s, hk, if_neg (by decide), if_neg (by decide), if_neg (by decide), if_neg (by decide), if_neg (by decide)]
  rfl

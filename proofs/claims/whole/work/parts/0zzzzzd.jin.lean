/-! judging an EXPR: in -/
theorem L284_m {F v : Nat} {T : TG_judge} {rs : RS} {e : Int32} : m_judge_L284 F T (v + 1) rs e (-1) = m_judge_b315 F T rs e := by
  rw [m_judge_L284, if_pos rfl]
theorem L284_f {F v : Nat} {T : TG_judge} {rs : RS} {e x : Int32} (g : rs.1 21 = 0) : m_judge_L284 F T (v + 1) rs e x = m_judge_b315 F T rs e := by
  rw [m_judge_L284]
  by_cases y : x = -1
  · rw [if_pos y]
  · rw [if_neg y, if_pos g]
theorem L334_m {F v : Nat} {T : TG_judge} {rs : RS} {e : Int32} : m_judge_L334 F T (v + 1) rs e (-1) = m_judge_b366 F T rs e := by
  rw [m_judge_L334, if_pos rfl]
theorem L334_f {F v : Nat} {T : TG_judge} {rs : RS} {e x : Int32} (g : rs.1 21 = 0) : m_judge_L334 F T (v + 1) rs e x = m_judge_b366 F T rs e := by
  rw [m_judge_L334]
  by_cases y : x = -1
  · rw [if_pos y]
  · rw [if_neg y, if_pos g]
/-- the members of a list, one behind another -/
theorem mem_J {F t c cap s k lo root : Nat} {V : VT} {D : Nat → Prop} {Sc : CS → RS → Prop} {T : TG_judge} {d R e : Nat} {m : MK} (hr : root < s) (hs : s ≤ 120) (he : e ≤ root) (hag : ¬ AGC (vk V e)) (ih : ∀ a r, TR V d R a r → r ≤ root → lo ≤ a → JA F t c cap s k lo root V D Sc T a r) : ∀ (n g r v w : Nat) (ag : Int32) (cs : CS) (rs : RS), CH (TR V d R) V n g r (e - 1) → lo ≤ g → 1 ≤ e → MC V root m g e → n < v → 1 ≤ w → JS t c cap s k lo g V D Sc cs rs → MO k m cs rs ag g → ∃ cs' rs', JF t c cs rs cs' rs' ∧ m_judge_L284 F T (v + 1) rs (nI e) (nI r) = m_judge_b315 F T rs' (nI e) ∧ ((∃ ag', JS t c cap s k lo e V D Sc cs' rs' ∧ MO k m cs' rs' ag' e ∧ c_X0_checkExpr_L24 F (w + (e - g)) cs k (nI root) ag (nI g) = c_X0_checkExpr_L24 F w cs' k (nI root) ag' (nI e)) ∨ (JB t c cap s k cs' rs' ∧ c_X0_checkExpr_L24 F (w + (e - g)) cs k (nI root) ag (nI g) = some cs')) := by
  intro n
  induction n with
  | zero => intro g r v w ag cs rs x; exact x.elim
  | succ n ihn =>
    intro g r v w ag cs rs x hlo h1e mc hv hw h mo
    obtain ⟨x1, x2⟩ := x
    obtain ⟨p1, p2⟩ := TR.rng d R g r x1
    have rle : r ≤ e - 1 := by
      rcases x2 with ⟨-, z2, -⟩ | ⟨z1, -⟩ <;> omega
    have rest : ∀ q' fq, r < q' → q' ≤ e → AGC (vk V q') → vf V q' = nI fq → fq ≤ q' → r < fq := fun q' fq w1 w2 w3 w4 w5 => by
      by_cases y : q' = e
      · rw [y] at w3
        exact absurd w3 hag
      · rcases x2 with ⟨-, z2, -⟩ | ⟨z1, q, z2, z3, z4⟩
        · omega
        · have := rng_lt (CH.rng (fun a e h => TR.rng d R a e h) n (r + 1) q (e - 1) z4).2 (by omega) (show r + 1 ≤ q' by omega) (by omega) w4 w5
          omega
    have mcr : MC V root m g r := mc.sub (Nat.le_refl _) (by omega) rest
    obtain ⟨rs1, e1, cs1, j1, p⟩ := ih g r x1 (by omega) hlo m (w + (e - (r + 1))) ag cs rs mcr (by omega) h mo
    rw [show w + (e - (r + 1)) + (r + 1 - g) = w + (e - g) by omega] at p
    have nr : ¬ nI r = -1 := nI_nm1 (by omega)
    have q := h.r (e := r) (by omega)
    have q32 : rs1.2.2.1 32 r = rx V r := by
      rw [j1.fr.a (k := 32) (by unfold jR; omega)]
      exact q.2.2.2.2.2.2.2.2.2.2
    have st : m_judge_L284 F T (v + 1) rs (nI e) (nI r) = m_judge_L284 F T v rs1 (nI e) (rx V r) := by
      rw [m_judge_L284, if_neg nr, if_neg (show ¬ rs.1 21 = 0 by rw [h.g1]; decide), e1, ob_s, rdI_n (by omega) (by decide), ob_s, q32]
    obtain ⟨v, rfl⟩ : ∃ y, v = y + 1 := ⟨v - 1, by omega⟩
    rw [st]
    rcases p with ⟨ag1, h1, mo1, hL⟩ | ⟨h1, hL⟩
    · rcases x2 with ⟨z1, z2, z3⟩ | ⟨z1, q', z2, z3, z4⟩
      · refine ⟨cs1, rs1, j1, by rw [z3, L284_m], Or.inl ⟨ag1, ?_, ?_, ?_⟩⟩
        · rw [show e = r + 1 by omega]; exact h1
        · rw [show e = r + 1 by omega]; exact mo1
        · rw [hL, show e - (r + 1) = 0 by omega, show r + 1 = e by omega]
          rfl
      · have mc2 : MC V root m (r + 1) e := by
          rcases m with _ | _ | pp
          · exact True.intro
          · exact mc
          · obtain ⟨c1, c2⟩ := mc
            exact ⟨by omega, c2⟩
        obtain ⟨cs2, rs2, j2, e2, p3⟩ := ihn (r + 1) q' v w ag1 cs1 rs1 z4 (by omega) h1e mc2 (by omega) hw h1 mo1
        refine ⟨cs2, rs2, j1.trans j2, by rw [z2]; exact e2, ?_⟩
        rcases p3 with ⟨ag2, h2, mo2, hL2⟩ | ⟨h2, hL2⟩
        · exact Or.inl ⟨ag2, h2, mo2, hL.trans hL2⟩
        · exact Or.inr ⟨h2, hL.trans hL2⟩
    · exact ⟨cs1, rs1, j1, L284_f h1.g, Or.inr ⟨h1, hL⟩⟩
def orE : Option Nat → Option Nat → Option Nat
  | some y, _ => some y
  | none, acc => acc
/-- the wants of the members: the leftmost wrong one -/
theorem mem_W {t c cap s k lo : Nat} {V : VT} {D : Nat → Prop} {Sc : CS → RS → Prop} {F : Nat} {T : TG_judge} {d R e i : Nat} {cs : CS} {rs : RS} (hs : s ≤ 120) (he : e < s) (h : JS t c cap s k lo i V D Sc cs rs) (hi : e ≤ i) : ∀ (n g r v : Nat), CH (TR V d R) V n g r (e - 1) → lo ≤ g → 1 ≤ g → 1 ≤ e → n < v → ∃ lm : Option Nat, (∀ y, lm = some y → y < s ∧ vb V y = rb V y) ∧ m_judge_L334 F T (v + 1) rs (nI e) (nI r) = m_judge_b366 F T (rWn rs lm) (nI e) ∧ ∀ (n' : Nat) (acc res : Option Nat), WRP (VW c cs rs) (fun y => kA cs 73 c y &&& 1 = 0) n' (g - 1) (orE lm acc) res → WRP (VW c cs rs) (fun y => kA cs 73 c y &&& 1 = 0) (n' + n) (e - 1) acc res := by
  intro n
  induction n with
  | zero => intro g r v x; exact x.elim
  | succ n ihn =>
    intro g r v x hlo hg h1e hv
    obtain ⟨x1, x2⟩ := x
    obtain ⟨p1, p2⟩ := TR.rng d R g r x1
    have rle : r ≤ e - 1 := by
      rcases x2 with ⟨-, z2, -⟩ | ⟨z1, -⟩ <;> omega
    have tf : vf V r = nI g ∧ vb V r = rb V r := by
      cases d with
      | zero => exact x1.elim
      | succ d => exact ⟨x1.2.1, x1.2.2.1⟩
    have q := h.r (e := r) (by omega)
    have vfr : vf (VW c cs rs) r = nI g := q.2.1.trans tf.1
    have nr : ¬ nI r = -1 := nI_nm1 (by omega)
    obtain ⟨ra, o1, o2, o3⟩ := want1 (F := F) (x := r) (W := 1) h hs ⟨by omega, by omega, by omega⟩ (Or.inl rfl)
    have q32 : (rWn rs ra).2.2.1 32 r = rx V r := by
      rcases o1 with o1 | o1 <;> (rw [o1]; exact q.2.2.2.2.2.2.2.2.2.2)
    have st : m_judge_L334 F T (v + 1) rs (nI e) (nI r) = m_judge_L334 F T v (rWn rs ra) (nI e) (rx V r) := by
      rw [m_judge_L334, if_neg nr, if_neg (show ¬ rs.1 21 = 0 by rw [h.g1]; decide), o2, ob_s, rdI_n (by omega) (by decide), ob_s, q32]
    obtain ⟨v, rfl⟩ : ∃ y, v = y + 1 := ⟨v - 1, by omega⟩
    rcases o3 with ⟨b1, b2⟩ | ⟨b1, b2⟩
    · -- this member is wrong
      rw [b2] at st
      refine ⟨some r, fun y hy => ?_, ?_, ?_⟩
      · have : r = y := Option.some.inj hy
        rw [← this]
        exact ⟨by omega, tf.2⟩
      · rw [st]
        exact L334_f rfl
      · intro n' acc res hw
        have one : ∀ acc1, WRP (VW c cs rs) (fun y => kA cs 73 c y &&& 1 = 0) (n' + 1) r acc1 res := fun acc1 => ⟨g, vfr, p1, Or.inr hg, Or.inl ⟨b1, hw⟩⟩
        rcases x2 with ⟨z1, z2, z3⟩ | ⟨z1, q', z2, z3, z4⟩
        · rw [z1, ← z2]
          exact one acc
        · obtain ⟨lm2, -, -, w3⟩ := ihn (r + 1) q' (v + 1) z4 (by omega) (by omega) h1e (by omega)
          rw [show n' + (n + 1) = n' + 1 + n by omega]
          exact w3 (n' + 1) acc res (by rw [show r + 1 - 1 = r by omega]; exact one _)
    · rw [b2] at st
      have st' : m_judge_L334 F T (v + 1 + 1) rs (nI e) (nI r) = m_judge_L334 F T (v + 1) rs (nI e) (rx V r) := st
      rcases x2 with ⟨z1, z2, z3⟩ | ⟨z1, q', z2, z3, z4⟩
      · refine ⟨none, fun y hy => (by cases hy), by rw [st', z3, L334_m]; rfl, ?_⟩
        intro n' acc res hw
        rw [z1, ← z2]
        exact ⟨g, vfr, p1, Or.inr hg, Or.inr ⟨b1, hw⟩⟩
      · obtain ⟨lm2, w1, w2, w3⟩ := ihn (r + 1) q' v z4 (by omega) (by omega) h1e (by omega)
        refine ⟨lm2, w1, by rw [st', z2]; exact w2, ?_⟩
        intro n' acc res hw
        rw [show n' + (n + 1) = n' + 1 + n by omega]
        refine w3 (n' + 1) acc res ?_
        rw [show r + 1 - 1 = r by omega]
        exact ⟨g, vfr, p1, Or.inr hg, Or.inr ⟨b1, hw⟩⟩
theorem in_J {F t c cap s k lo root : Nat} {V : VT} {D : Nat → Prop} {Sc : CS → RS → Prop} {T : TG_judge} {d R n a g r e : Nat} (hF : 10000 ≤ F) (sk : SKV V s) (hr : root < s) (hs : s ≤ 120) (hS : SCF t c Sc) (he : e ≤ root) (hag0 : a < g ∧ g ≤ r ∧ r < e) (hn : 1 ≤ n ∧ n ≤ 120) (hlo : lo ≤ a) (u : INN V n e) (hl : rl V e = nI (g - 1)) (hrr : rr V e = nI r) (tl : TR V d R a (g - 1)) (ch : CH (TR V d R) V n g r (e - 1)) (hT : ∀ rs x, rs.1 21 = 0 → T rs x = some rs) (ih : ∀ a r, TR V d R a r → r ≤ root → lo ≤ a → JA F t c cap s k lo root V D Sc T a r) : JA F t c cap s k lo root V D Sc (b_judge F T) a e := by
  intro m w ag cs rs mc hw h mo
  have kk : (vk V e = 27 ∨ vk V e = 60) ∧ rk V e = 11 := by
    rcases u.2 with ⟨z1, z2, -⟩ | ⟨z1, z2, -⟩
    · exact ⟨Or.inl z1, z2⟩
    · exact ⟨Or.inr z1, z2⟩
  have nk : vk V e ≠ 39 := by rcases kk.1 with y | y <;> (rw [y]; decide)
  have nag : ¬ AGC (vk V e) := by rcases kk.1 with y | y <;> (rw [y]; unfold AGC; decide)
  have tyR : TYR 2 2 := Or.inr (Or.inl ⟨rfl, rfl⟩)
  have rngC := (CH.rng (fun a e h => TR.rng d R a e h) n g r (e - 1) ch).2
  have tf : vf V (g - 1) = nI a ∧ vb V (g - 1) = rb V (g - 1) := by
    cases d with
    | zero => exact tl.elim
    | succ d => exact ⟨tl.2.1, tl.2.2.1⟩
  have mc1 : MC V root m a (g - 1) := mc.sub (Nat.le_refl _) (by omega) (fun q' fq w1 w2 w3 w4 w5 => by
    by_cases y : q' = e
    · rw [y] at w3
      exact absurd w3 nag
    · have := rng_lt rngC (by omega) (show g ≤ q' by omega) (by omega) w4 w5
      omega)
  have mc2 : MC V root m g e := by
    rcases m with _ | _ | pp
    · exact True.intro
    · exact mc
    · obtain ⟨c1, c2⟩ := mc
      exact ⟨by omega, c2⟩
  obtain ⟨rs1, e1, cs1, j1, p⟩ := ih a (g - 1) tl (by omega) hlo m (w + 1 + (e - g)) ag cs rs mc1 (by omega) h mo
  rw [show w + 1 + (e - g) + (g - 1 + 1 - a) = w + (e + 1 - a) by omega, show g - 1 + 1 = g by omega] at p
  have q := h.r (e := e) (by omega)
  have r23 : rs.2.2.1 23 e = 11 := q.2.2.2.2.2.1.trans kk.2
  have r24 : rs.2.2.1 24 e = nI (g - 1) := q.2.2.2.2.2.2.1.trans hl
  have r25 : rs.2.2.1 25 e = nI r := q.2.2.2.2.2.2.2.1.trans hrr
  have q25 : rs1.2.2.1 25 e = nI r := by rw [j1.fr.a (k := 25) (by unfold jR; omega)]; exact r25
  have q24 : rs1.2.2.1 24 e = nI (g - 1) := by rw [j1.fr.a (k := 24) (by unfold jR; omega)]; exact r24
  have eJ : b_judge F T rs (nI e) = m_judge_L284 F T F rs1 (nI e) (nI r) := by
    rw [bj_11 h.g1 (show e < 121 by omega) r23, rdI_n (by omega) (by decide), ob_s, r24, e1, ob_s, rdI_n (by omega) (by decide), ob_s, q25]
  have e334 : m_judge_L334 F T F = m_judge_L334 F T (F - 1 + 1) := by rw [show F - 1 + 1 = F by omega]
  have e284 : m_judge_L284 F T F = m_judge_L284 F T (F - 1 + 1) := by rw [show F - 1 + 1 = F by omega]
  -- behind a fault
  have bad315 : ∀ rs3 : RS, rs3.1 21 = 0 → rs3.2.2.1 24 e = nI (g - 1) → m_judge_b315 F T rs3 (nI e) = some (setI rs3 31 e 2) := fun rs3 g0 _ => by
    unfold m_judge_b315
    rw [rdI_n (by omega) (by decide), ob_s, want_f g0, ob_s, rdI_n (by omega) (by decide), ob_s, e334, L334_f g0]
    unfold m_judge_b366 m_judge_b539
    rw [wrI_n (by omega) (by decide), ob_s]
  rcases p with ⟨ag1, h1, mo1, hL⟩ | ⟨h1, hL⟩
  · obtain ⟨cs2, rs2, j2, e2, p2⟩ := mem_J (F := F) (T := T) (d := d) (R := R) (e := e) (m := m) hr hs he nag ih n g r (F - 1) (w + 1) ag1 cs1 rs1 ch (by omega) (by omega) mc2 (by omega) (by omega) h1 mo1
    rw [show F - 1 + 1 = F by omega] at e2
    have j12 := j1.trans j2
    have p24 : rs2.2.2.1 24 e = nI (g - 1) := by rw [j2.fr.a (k := 24) (by unfold jR; omega)]; exact q24
    have p25 : rs2.2.2.1 25 e = nI r := by rw [j2.fr.a (k := 25) (by unfold jR; omega)]; exact q25
    rcases p2 with ⟨ag2, h2, mo2, hL2⟩ | ⟨h2, hL2⟩
    · have qe := h2.r (e := e) (by omega)
      have qg := h2.r (e := g - 1) (by omega)
      obtain ⟨lm, w1, w2, w3⟩ := mem_W (F := F) (T := T) (d := d) (R := R) (e := e) hs (by omega) h2 (Nat.le_refl _) n g r (F - 1) ch (by omega) (by omega) (by omega) (by omega)
      rw [show F - 1 + 1 = F by omega] at w2
      obtain ⟨ra, o1, o2, o3⟩ := want1 (F := F) (x := g - 1) (W := 1) h2 hs ⟨by omega, by omega, by omega⟩ (Or.inl rfl)
      obtain ⟨r9, z1, z2, z3⟩ : ∃ r9 : Option Nat, WRP (VW c cs2 rs2) (fun y => kA cs2 73 c y &&& 1 = 0) (n + 1) (e - 1) none r9 ∧ (∀ y, r9 = some y → y < s ∧ vb V y = rb V y) ∧ m_judge_b315 F T rs2 (nI e) = some (setI (rWn rs2 r9) 31 e 2) := by
        have last : ∀ r9, (ra = some (g - 1) ∧ r9 = some (g - 1)) ∨ (ra = none ∧ r9 = lm) → WRP (VW c cs2 rs2) (fun y => kA cs2 73 c y &&& 1 = 0) (n + 1) (e - 1) none r9 := fun r9 hr9 => by
          rw [Nat.add_comm]
          refine w3 1 none r9 ⟨a, qg.2.1.trans tf.1, by omega, Or.inl rfl, ?_⟩
          rcases o3 with ⟨b1, b2⟩ | ⟨b1, b2⟩
          · rcases hr9 with ⟨-, y⟩ | ⟨y, -⟩
            · exact Or.inl ⟨b1, y⟩
            · rw [y] at b2; cases b2
          · rcases hr9 with ⟨y, -⟩ | ⟨-, y⟩
            · rw [y] at b2; cases b2
            · refine Or.inr ⟨b1, ?_⟩
              show r9 = orE lm none
              rw [y]
              cases lm <;> rfl
        rcases o3 with ⟨b1, b2⟩ | ⟨b1, b2⟩
        · refine ⟨some (g - 1), last _ (Or.inl ⟨b2, rfl⟩), fun y hy => ?_, ?_⟩
          · have : g - 1 = y := Option.some.inj hy
            rw [← this]
            exact ⟨by omega, tf.2⟩
          · rw [b2] at o2
            have g0 : (rWn rs2 (some (g - 1))).1 21 = 0 := rfl
            unfold m_judge_b315
            rw [rdI_n (by omega) (by decide), ob_s, p24, o2, ob_s, rdI_n (by omega) (by decide), ob_s, e334, L334_f g0]
            unfold m_judge_b366 m_judge_b539
            rw [wrI_n (by omega) (by decide), ob_s]
        · refine ⟨lm, last _ (Or.inr ⟨b2, rfl⟩), w1, ?_⟩
          rw [b2] at o2
          have o2' : m_want F rs2 (nI (g - 1)) 1 = some rs2 := o2
          unfold m_judge_b315
          rw [rdI_n (by omega) (by decide), ob_s, p24, o2', ob_s, rdI_n (by omega) (by decide), ob_s, p25, w2]
          unfold m_judge_b366 m_judge_b539
          rw [wrI_n (by omega) (by decide), ob_s]
      have cw := wp_ok (F := F) (R := 2) hF h2.ck (e := e) (tot := n + 1) (x := 0) (by omega) h2.f0 (qe.2.2.1.trans u.1) ⟨by omega, by omega⟩ (by omega) z1
      have cA : c_X0_checkAct F cs2 k (nI e) = some (wPa t c e 2 cs2 r9) := by
        rcases kk.1 with y | y
        · exact ca_27 h2.ck (by omega) (qe.1.trans y) cw
        · exact ca_60 h2.ck (by omega) (qe.1.trans y) cw
      obtain ⟨j3, h3⟩ := h2.wp (R := 2) (R' := 2) (r := r9) hS nk tyR z2
      refine ⟨_, ?_, JPO.node (rs2 := setI (rWn rs2 r9) 31 e 2) sk hr hs he (by omega) mc hw j12 h2 mo2 (hL.trans hL2) nk cA j3 (h3.imp (fun z => z.2) (fun z => z.2))⟩
      rw [eJ, e2]
      exact z3
    · refine ⟨_, ?_, JPO.fault (x := e) (v := 2) j12 h2 (hL.trans hL2)⟩
      rw [eJ, e2, bad315 rs2 h2.g p24]
  · refine ⟨_, ?_, JPO.fault (x := e) (v := 2) j1 h1 hL⟩
    rw [eJ, e284, L284_f h1.g, bad315 rs1 h1.g q24]

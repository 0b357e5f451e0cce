/-! judging an EXPR: case, aggregates, names -/
theorem case_c {t c cap s k : Nat} {cs : CS} {F e h g : Nat} (ck : CK t c cap s k cs) (he : e < s) (hh : g < h ∧ h < e ∧ 1 ≤ g) (f1 : kA cs 67 c (e - 1) = nI h) (f2 : kA cs 67 c (h - 1) = nI g) : c_X0_checkCase F cs k (nI e) = c_X0_checkCase_b57 F cs k (nI e) (nI (e - 1)) (nI (h - 1)) (nI (g - 1)) := by
  unfold c_X0_checkCase
  rw [nI_p1 (show 1 ≤ e by omega), ck_c ck, ckE_ok ck.oc, ob_s, ck_has ck (show e - 1 < s by omega), ob_s, if_neg (by decide), ck_c ck, ck_67 ck (show e - 1 < s by omega), f1, nI_p1 (show 1 ≤ h by omega)]
  unfold c_X0_checkCase_b30
  rw [ck_c ck, ckE_ok ck.oc, ob_s, ck_has ck (show h - 1 < s by omega), ob_s, if_neg (by decide), ck_c ck, ck_67 ck (show h - 1 < s by omega), f2, nI_p1 (show 1 ≤ g by omega)]
theorem case_144 {t c cap s k : Nat} {cs : CS} {F e x y : Nat} (ck : CK t c cap s k cs) (he : e < s) (hx : x < s) (hy : y < s) : c_X0_checkCase_b144 F cs k (nI e) (nI x) (nI y) = some (sA cs 73 c e (kA cs 73 c y &&& kA cs 73 c x)) := by
  obtain ⟨j, p⟩ := ck.ca.p73
  have := ck.sc
  have := ck.cp
  unfold c_X0_checkCase_b144
  rw [ck_c ck, gA_ok ck.oc, p, ob_s, gR_ok ck.o, ob_s, ck.r34, ob_s, gA_ok ck.oc, p, ob_s, rA_n ck.ca.e73 p (by rw [ck.ca.l73]; omega) (by rw [ck.ca.l73]; omega), ob_s, ob_s, ob_s, gA_ok ck.oc, p, ob_s, rA_n ck.ca.e73 p (by rw [ck.ca.l73]; omega) (by rw [ck.ca.l73]; omega), ob_s, wA_n ck.ca.e73 p (by rw [ck.ca.l73]; omega) (by rw [ck.ca.l73]; omega), ob_s]
/-- the class's case behind its parts: no fault; the second fault; the first fault -/
theorem case_105 {t c cap s k : Nat} {cs : CS} {F e x y : Nat} (ck : CK t c cap s k cs) (he : e < s) (hx : x < s) (hy : y < s) : c_X0_checkCase_b105 F cs k (nI e) (nI x) (nI y) = if kA cs 73 c y &&& kA cs 73 c x = 0 then (Option.bind (c_X9_refuse F cs t 4 (kA cs 66 c x)) fun cs_27 => c_X0_checkCase_b144 F cs_27 k (nI e) (nI x) (nI y)) else c_X0_checkCase_b144 F cs k (nI e) (nI x) (nI y) := by
  unfold c_X0_checkCase_b105
  rw [ck_c ck, ck_73 ck hy, ck_c ck, ck_73 ck hx]
  by_cases w : kA cs 73 c y &&& kA cs 73 c x = 0
  · rw [if_pos w, if_pos w, gR_ok ck.o, ob_s, ck_c ck, ck_66 ck hx, ck.r32, ob_s, ckE_ok ck.ot, ob_s]
  · rw [if_neg w, if_neg w]
theorem case_57 {t c cap s k : Nat} {cs : CS} {F e x y z : Nat} (ck : CK t c cap s k cs) (he : e < s) (hx : x < s) (hy : y < s) (hz : z < s) : c_X0_checkCase_b57 F cs k (nI e) (nI x) (nI y) (nI z) = if kA cs 73 c z &&& 2 = 0 then (Option.bind (c_X9_refuse F cs t 4 (kA cs 66 c z)) fun cs_45 => c_X0_checkCase_b105 F cs_45 k (nI e) (nI x) (nI y)) else c_X0_checkCase_b105 F cs k (nI e) (nI x) (nI y) := by
  unfold c_X0_checkCase_b57
  rw [ck_c ck, ckE_ok ck.oc, ob_s, ck_has ck hz, ob_s, if_neg (by decide), ck_c ck, ck_73 ck hz]
  by_cases w : kA cs 73 c z &&& 2 = 0
  · rw [if_pos w, if_pos w, gR_ok ck.o, ob_s, ck_c ck, ck_66 ck hz, ck.r32, ob_s, ckE_ok ck.ot, ob_s]
  · rw [if_neg w, if_neg w]
/-- types of both, met -/
theorem ty_and {y1 r1 y2 r2 : Int32} (h1 : TYR y1 r1) (h2 : TYR y2 r2) : (y1 &&& y2 = 0 ↔ (r1 ≠ 0 ∧ r2 ≠ 0 ∧ r1 ≠ r2)) ∧ (¬ y1 &&& y2 = 0 → TYR (y1 &&& y2) (if r1 = 0 then r2 else r1)) := by
  rcases h1 with ⟨a1, a2⟩ | ⟨a1, a2⟩ | ⟨a1, a2⟩ <;> rcases h2 with ⟨b1, b2⟩ | ⟨b1, b2⟩ | ⟨b1, b2⟩ <;> (rw [a1, a2, b1, b2]; unfold TYR; decide)
theorem case_J {F t c cap s k lo root : Nat} {V : VT} {D : Nat → Prop} {Sc : CS → RS → Prop} {T : TG_judge} {a g h e : Nat} (hF : 10000 ≤ F) (sk : SKV V s) (hr : root < s) (hs : s ≤ 120) (hS : SCF t c Sc) (he : e ≤ root) (hag0 : a < g ∧ g < h ∧ h < e) (hlo : lo ≤ a) (hk : vk V e = 19) (hrk : rk V e = 18) (hl : rl V e = nI (g - 1)) (hrr : rr V e = nI (h - 1)) (hrt : rt V e = nI (e - 1)) (hf2 : vf V (h - 1) = nI g) (hf3 : vf V (e - 1) = nI h) (hb1 : vb V (g - 1) = rb V (g - 1)) (hb3 : vb V (e - 1) = rb V (e - 1)) (rng2 : ∀ q, g ≤ q → q ≤ h - 1 → ∃ fq, vf V q = nI fq ∧ g ≤ fq ∧ fq ≤ q) (rng3 : ∀ q, h ≤ q → q ≤ e - 1 → ∃ fq, vf V q = nI fq ∧ h ≤ fq ∧ fq ≤ q) (hT : ∀ rs x, rs.1 21 = 0 → T rs x = some rs) (ih1 : JA F t c cap s k lo root V D Sc T a (g - 1)) (ih2 : JA F t c cap s k lo root V D Sc T g (h - 1)) (ih3 : JA F t c cap s k lo root V D Sc T h (e - 1)) : JA F t c cap s k lo root V D Sc (b_judge F T) a e := by
  intro m w ag cs rs mc hw hh mo
  have nk : vk V e ≠ 39 := by rw [hk]; decide
  have nag : ¬ AGC (vk V e) := by rw [hk]; unfold AGC; decide
  have mc1 : MC V root m a (g - 1) := mc.sub (Nat.le_refl _) (by omega) (fun q' fq w1 w2 w3 w4 w5 => by
    by_cases y : q' = e
    · rw [y] at w3
      exact absurd w3 nag
    · by_cases y2 : q' ≤ h - 1
      · have := rng_lt rng2 (by omega) (show g ≤ q' by omega) y2 w4 w5
        omega
      · have := rng_lt rng3 (by omega) (show h ≤ q' by omega) (by omega) w4 w5
        omega)
  have mc2 : MC V root m g (h - 1) := mc.sub (by omega) (by omega) (fun q' fq w1 w2 w3 w4 w5 => by
    by_cases y : q' = e
    · rw [y] at w3
      exact absurd w3 nag
    · have := rng_lt rng3 (by omega) (show h ≤ q' by omega) (by omega) w4 w5
      omega)
  have mc3 : MC V root m h (e - 1) := mc.sub (by omega) (by omega) (fun q' fq w1 w2 w3 _ _ => by
    have : q' = e := by omega
    rw [this] at w3
    exact absurd w3 nag)
  have r := hh.r (e := e) (by omega)
  have r23 : rs.2.2.1 23 e = 18 := r.2.2.2.2.2.1.trans hrk
  have r24 : rs.2.2.1 24 e = nI (g - 1) := r.2.2.2.2.2.2.1.trans hl
  have r25 : rs.2.2.1 25 e = nI (h - 1) := r.2.2.2.2.2.2.2.1.trans hrr
  have r26 : rs.2.2.1 26 e = nI (e - 1) := r.2.2.2.2.2.2.2.2.1.trans hrt
  have eJ := bj_18 (F := F) (T := T) hh.g1 (show e < 121 by omega) r23
  -- behind the three parts, whether with a fault or not
  have tail : ∀ rs1 rs2 rs3, T rs (nI (g - 1)) = some rs1 → T rs1 (nI (h - 1)) = some rs2 → T rs2 (nI (e - 1)) = some rs3 → rs1.2.2.1 25 e = nI (h - 1) → rs2.2.2.1 26 e = nI (e - 1) → rs3.2.2.1 24 e = nI (g - 1) → b_judge F T rs (nI e) = Option.bind (m_want F rs3 (nI (g - 1)) 2) fun cs_68 => if (cs_68.1 21) = 0 then (m_judge_b178 F T cs_68 (nI e) 0) else (Option.bind (rdI (cs_68.2.2.1 25) 121 (nI e)) fun v_70 => Option.bind (rdI (cs_68.2.2.1 31) 121 v_70) fun v_71 => m_judge_b178 F T cs_68 (nI e) v_71) := fun rs1 rs2 rs3 t1 t2 t3 q1 q2 q3 => by
    rw [eJ, rdI_n (by omega) (by decide), ob_s, r24, t1, ob_s, rdI_n (by omega) (by decide), ob_s, q1, t2, ob_s, rdI_n (by omega) (by decide), ob_s, q2, t3, ob_s, rdI_n (by omega) (by decide), ob_s, q3]
  have bad178 : ∀ rs3 : RS, rs3.1 21 = 0 → m_judge_b178 F T rs3 (nI e) 0 = some (setI rs3 31 e 0) := fun rs3 g0 => by
    unfold m_judge_b178 m_judge_b202 m_judge_b244 m_judge_b256 m_judge_b539
    rw [if_pos g0, if_pos g0, if_pos rfl, wrI_n (by omega) (by decide), ob_s]
  have badJ : ∀ rs3 : RS, rs3.1 21 = 0 → (Option.bind (m_want F rs3 (nI (g - 1)) 2) fun cs_68 => if (cs_68.1 21) = 0 then (m_judge_b178 F T cs_68 (nI e) 0) else (Option.bind (rdI (cs_68.2.2.1 25) 121 (nI e)) fun v_70 => Option.bind (rdI (cs_68.2.2.1 31) 121 v_70) fun v_71 => m_judge_b178 F T cs_68 (nI e) v_71)) = some (setI rs3 31 e 0) := fun rs3 g0 => by
    rw [want_f g0, ob_s, if_pos g0, bad178 rs3 g0]
  obtain ⟨rs1, e1, cs1, j1, p⟩ := ih1 m (w + (e + 1 - g)) ag cs rs mc1 (by omega) hh mo
  rw [show w + (e + 1 - g) + (g - 1 + 1 - a) = w + (e + 1 - a) by omega, show g - 1 + 1 = g by omega] at p
  have q25 : rs1.2.2.1 25 e = nI (h - 1) := by rw [j1.fr.a (k := 25) (by unfold jR; omega)]; exact r25
  have q26 : rs1.2.2.1 26 e = nI (e - 1) := by rw [j1.fr.a (k := 26) (by unfold jR; omega)]; exact r26
  have q24 : rs1.2.2.1 24 e = nI (g - 1) := by rw [j1.fr.a (k := 24) (by unfold jR; omega)]; exact r24
  rcases p with ⟨ag1, h1, mo1, hL⟩ | ⟨h1, hL⟩
  · obtain ⟨rs2, e2, cs2, j2, p2⟩ := ih2 m (w + (e + 1 - h)) ag1 cs1 rs1 mc2 (by omega) h1 mo1
    rw [show w + (e + 1 - h) + (h - 1 + 1 - g) = w + (e + 1 - g) by omega, show h - 1 + 1 = h by omega] at p2
    have p26 : rs2.2.2.1 26 e = nI (e - 1) := by rw [j2.fr.a (k := 26) (by unfold jR; omega)]; exact q26
    have p24 : rs2.2.2.1 24 e = nI (g - 1) := by rw [j2.fr.a (k := 24) (by unfold jR; omega)]; exact q24
    rcases p2 with ⟨ag2, h2, mo2, hL2⟩ | ⟨h2, hL2⟩
    · obtain ⟨rs3, e3, cs3, j3, p3⟩ := ih3 m (w + 1) ag2 cs2 rs2 mc3 (by omega) h2 mo2
      rw [show w + 1 + (e - 1 + 1 - h) = w + (e + 1 - h) by omega, show e - 1 + 1 = e by omega] at p3
      have o24 : rs3.2.2.1 24 e = nI (g - 1) := by rw [j3.fr.a (k := 24) (by unfold jR; omega)]; exact p24
      have j13 := (j1.trans j2).trans j3
      have tl := tail rs1 rs2 rs3 e1 e2 e3 q25 p26 o24
      rcases p3 with ⟨ag3, h3, mo3, hL3⟩ | ⟨h3, hL3⟩
      · have q := h3.r (e := e) (by omega)
        have qh := h3.r (e := h - 1) (by omega)
        have qe := h3.r (e := e - 1) (by omega)
        have qg := h3.r (e := g - 1) (by omega)
        have o25 : rs3.2.2.1 25 e = nI (h - 1) := q.2.2.2.2.2.2.2.1.trans hrr
        have o26 : rs3.2.2.1 26 e = nI (e - 1) := q.2.2.2.2.2.2.2.2.1.trans hrt
        have L9 := (hL.trans hL2).trans hL3
        have cc : c_X0_checkAct F cs3 k (nI e) = Option.bind (c_X0_checkCase_b57 F cs3 k (nI e) (nI (e - 1)) (nI (h - 1)) (nI (g - 1))) fun cs_20 => some cs_20 := by
          unfold c_X0_checkAct c_X0_checkAct_b270
          rw [ck_c h3.ck, ck_65 h3.ck (by omega), q.1, hk, if_pos rfl, ckE_ok h3.ck.o, ob_s, case_c h3.ck (by omega) ⟨by omega, by omega, by omega⟩ (qe.2.1.trans hf3) (qh.2.1.trans hf2)]
        have tyg := h3.ty (g - 1) (by omega) (by omega)
        have tyh := h3.ty (h - 1) (by omega) (by omega)
        have tye := h3.ty (e - 1) (by omega) (by omega)
        obtain ⟨ta, tb⟩ := ty_and tyh tye
        have tg := ty_bad tyg (W := 2) (Or.inr rfl)
        have pg : kA cs3 66 c (g - 1) = rs3.2.2.1 29 (g - 1) := qg.2.2.2.1.trans (hb1.trans qg.2.2.2.2.2.2.2.2.2.1.symm)
        have pe : kA cs3 66 c (e - 1) = rs3.2.2.1 29 (e - 1) := qe.2.2.2.1.trans (hb3.trans qe.2.2.2.2.2.2.2.2.2.1.symm)
        by_cases b1 : kA cs3 73 c (g - 1) &&& 2 = 0
        · -- the condition is no truth
          have ckb : CK t c cap s k (sI (sI cs3 320 t 4) 321 t (kA cs3 66 c (g - 1))) := h3.ck.bad
          have fb : kI (sI (sI cs3 320 t 4) 321 t (kA cs3 66 c (g - 1))) 320 t ≠ 0 := by
            rw [kI_n (by omega), kI_s]
            decide
          obtain ⟨v9, hv9⟩ : ∃ v9, c_X0_checkAct F cs3 k (nI e) = some (sA (sI (sI cs3 320 t 4) 321 t (kA cs3 66 c (g - 1))) 73 c e v9) := by
            rw [cc, case_57 h3.ck (by omega) (by omega) (by omega) (by omega), if_pos b1, ref_ck h3.ck h3.f0, ob_s, case_105 ckb (by omega) (by omega) (by omega)]
            by_cases b2 : kA (sI (sI cs3 320 t 4) 321 t (kA cs3 66 c (g - 1))) 73 c (h - 1) &&& kA (sI (sI cs3 320 t 4) 321 t (kA cs3 66 c (g - 1))) 73 c (e - 1) = 0
            · exact ⟨_, by rw [if_pos b2, ref_ckf ckb fb, ob_s, case_144 ckb (by omega) (by omega) (by omega), ob_s]⟩
            · exact ⟨_, by rw [if_neg b2, case_144 ckb (by omega) (by omega) (by omega), ob_s]⟩
          have jj : JF t c cs3 rs3 (sA (sI (sI cs3 320 t 4) 321 t (kA cs3 66 c (g - 1))) 73 c e v9) (setI (setF (setF (setF rs3 21 0) 19 4) 20 (rs3.2.2.1 29 (g - 1))) 31 e 0) := by
            rw [pg]
            exact (JF.bad.trans (JF.cA (Or.inl rfl))).trans (JF.rI (Or.inl rfl))
          refine ⟨_, ?_, JPO.node (rs2 := setI (setF (setF (setF rs3 21 0) 19 4) 20 (rs3.2.2.1 29 (g - 1))) 31 e 0) sk hr hs he (by omega) mc hw j13 h3 mo3 L9 nk hv9 jj (Or.inr ⟨h3.ck.jf jj, ?_, rfl, ?_, ?_⟩)⟩
          · rw [tl, want_bad h3.g1 (by omega) (tg.mp b1), ob_s, if_pos (show (setF (setF (setF rs3 21 0) 19 4) 20 (rs3.2.2.1 29 (g - 1))).1 21 = 0 from rfl), bad178 _ rfl]
          · show kI (sI (sI cs3 320 t 4) 321 t (kA cs3 66 c (g - 1))) 320 t ≠ 0
            exact fb
          · show (4 : Int32) = kI (sI (sI cs3 320 t 4) 321 t (kA cs3 66 c (g - 1))) 320 t
            rw [kI_n (by omega), kI_s]
          · show rs3.2.2.1 29 (g - 1) = kI (sI (sI cs3 320 t 4) 321 t (kA cs3 66 c (g - 1))) 321 t
            rw [kI_s, pg]
        · have wok := want_ok (F := F) (w := 2) h3.g1 (show g - 1 < 121 by omega) (fun z => b1 (tg.mpr z))
          have g1' : ¬ rs3.1 21 = 0 := by rw [h3.g1]; decide
          have mid : b_judge F T rs (nI e) = m_judge_b202 F T rs3 (nI e) (rs3.2.2.1 31 (h - 1)) (rs3.2.2.1 31 (e - 1)) := by
            rw [tl, wok, ob_s, if_neg g1', rdI_n (by omega) (by decide), ob_s, o25, rdI_n (by omega) (by decide), ob_s]
            unfold m_judge_b178
            rw [if_neg g1', rdI_n (by omega) (by decide), ob_s, o26, rdI_n (by omega) (by decide), ob_s]
          by_cases b2 : kA cs3 73 c (h - 1) &&& kA cs3 73 c (e - 1) = 0
          · obtain ⟨z1, z2, z3⟩ := ta.mp b2
            have ckb : CK t c cap s k (sI (sI cs3 320 t 4) 321 t (kA cs3 66 c (e - 1))) := h3.ck.bad
            have hv9 : c_X0_checkAct F cs3 k (nI e) = some (sA (sI (sI cs3 320 t 4) 321 t (kA cs3 66 c (e - 1))) 73 c e (kA (sI (sI cs3 320 t 4) 321 t (kA cs3 66 c (e - 1))) 73 c (h - 1) &&& kA (sI (sI cs3 320 t 4) 321 t (kA cs3 66 c (e - 1))) 73 c (e - 1))) := by
              rw [cc, case_57 h3.ck (by omega) (by omega) (by omega) (by omega), if_neg b1, case_105 h3.ck (by omega) (by omega) (by omega), if_pos b2, ref_ck h3.ck h3.f0, ob_s, case_144 ckb (by omega) (by omega) (by omega), ob_s]
            have jj : ∀ v9, JF t c cs3 rs3 (sA (sI (sI cs3 320 t 4) 321 t (kA cs3 66 c (e - 1))) 73 c e v9) (setI (setF (setF (setF rs3 21 0) 19 4) 20 (rs3.2.2.1 29 (e - 1))) 31 e (rs3.2.2.1 31 (h - 1))) := fun v9 => by
              rw [pe]
              exact (JF.bad.trans (JF.cA (Or.inl rfl))).trans (JF.rI (Or.inl rfl))
            refine ⟨_, ?_, JPO.node (rs2 := setI (setF (setF (setF rs3 21 0) 19 4) 20 (rs3.2.2.1 29 (e - 1))) 31 e (rs3.2.2.1 31 (h - 1))) sk hr hs he (by omega) mc hw j13 h3 mo3 L9 nk hv9 (jj _) (Or.inr ⟨h3.ck.jf (jj _), ?_, rfl, ?_, ?_⟩)⟩
            · rw [mid]
              unfold m_judge_b202 m_judge_b244 m_judge_b256 m_judge_b539
              rw [if_neg g1', if_neg z1, if_neg z2, if_neg z3, rdI_n (by omega) (by decide), ob_s, o26, rdI_n (by omega) (by decide), ob_s, tel_ok h3.g1, ob_s, if_neg z1, wrI_n (by omega) (by decide), ob_s]
            · show kI (sI (sI cs3 320 t 4) 321 t (kA cs3 66 c (e - 1))) 320 t ≠ 0
              rw [kI_n (by omega), kI_s]
              decide
            · show (4 : Int32) = kI (sI (sI cs3 320 t 4) 321 t (kA cs3 66 c (e - 1))) 320 t
              rw [kI_n (by omega), kI_s]
            · show rs3.2.2.1 29 (e - 1) = kI (sI (sI cs3 320 t 4) 321 t (kA cs3 66 c (e - 1))) 321 t
              rw [kI_s, pe]
          · have hv9 : c_X0_checkAct F cs3 k (nI e) = some (sA cs3 73 c e (kA cs3 73 c (h - 1) &&& kA cs3 73 c (e - 1))) := by
              rw [cc, case_57 h3.ck (by omega) (by omega) (by omega) (by omega), if_neg b1, case_105 h3.ck (by omega) (by omega) (by omega), if_neg b2, case_144 h3.ck (by omega) (by omega) (by omega), ob_s]
            obtain ⟨j4, h4⟩ := h3.ty1 hS nk (tb b2)
            refine ⟨_, ?_, JPO.node sk hr hs he (by omega) mc hw j13 h3 mo3 L9 nk hv9 j4 (Or.inl h4)⟩
            have last : m_judge_b244 F T rs3 (nI e) (rs3.2.2.1 31 (h - 1)) (rs3.2.2.1 31 (e - 1)) = some (setI rs3 31 e (if rs3.2.2.1 31 (h - 1) = 0 then rs3.2.2.1 31 (e - 1) else rs3.2.2.1 31 (h - 1))) := by
              unfold m_judge_b244 m_judge_b256 m_judge_b539
              by_cases y0 : rs3.2.2.1 31 (h - 1) = 0
              · rw [if_pos y0, if_pos y0, wrI_n (by omega) (by decide), ob_s]
              · rw [if_neg y0, if_neg y0, wrI_n (by omega) (by decide), ob_s]
            rw [mid]
            unfold m_judge_b202
            rw [if_neg g1']
            by_cases y0 : rs3.2.2.1 31 (h - 1) = 0
            · rw [if_pos y0]
              exact last
            · rw [if_neg y0]
              by_cases y1 : rs3.2.2.1 31 (e - 1) = 0
              · rw [if_pos y1]
                exact last
              · rw [if_neg y1]
                by_cases y2 : rs3.2.2.1 31 (h - 1) = rs3.2.2.1 31 (e - 1)
                · rw [if_pos y2]
                  exact last
                · exact absurd (ta.mpr ⟨y0, y1, y2⟩) b2
      · refine ⟨_, ?_, JPO.fault (x := e) (v := 0) j13 h3 ((hL.trans hL2).trans hL3)⟩
        rw [tl, badJ rs3 h3.g]
    · have t3 : T rs2 (nI (e - 1)) = some rs2 := hT rs2 _ h2.g
      refine ⟨_, ?_, JPO.fault (x := e) (v := 0) (j1.trans j2) h2 (hL.trans hL2)⟩
      rw [tail rs1 rs2 rs2 e1 e2 t3 q25 p26 p24, badJ rs2 h2.g]
  · have t2 : T rs1 (nI (h - 1)) = some rs1 := hT rs1 _ h1.g
    have t3 : T rs1 (nI (e - 1)) = some rs1 := hT rs1 _ h1.g
    refine ⟨_, ?_, JPO.fault (x := e) (v := 0) j1 h1 hL⟩
    rw [tail rs1 rs1 rs1 e1 t2 t3 q25 q26 q24, badJ rs1 h1.g]

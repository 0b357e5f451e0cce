/-! the three truths, tried -/
def w3 (x : Int32) : OV := if x = 0 then some 0 else if x = 1 then some 1 else none
def r3 (o : OV) : Int32 := match o with
  | some v => v.toInt32
  | none => -1
def t3 (x : Int32) : Int32 := if x = 0 then 0 else if x = 1 then 1 else 2
theorem res_ok {F : Nat} {l : Nat → OV} {cs : CS} (h : STK 37 2 l 1 cs) : c_X1_weigh_b64 F cs 37 = some (cs, r3 (l 0)) := by
  obtain ⟨j4, p4⟩ := h.ca.p74
  obtain ⟨j5, p5⟩ := h.ca.p75
  have l4 := h.ca.l74
  have l5 := h.ca.l75
  have e1 : c_X1_resultBlank F cs 37 = Option.bind (ckB (kA cs 75 37 0)) fun _ => some (kA cs 75 37 0) := by
    unfold c_X1_resultBlank c_X1_resultBlank_b18
    rw [gI_ok h.oc, ob_s, h.tp, if_pos (show nI 1 = (1 : Int32) from rfl), gA_ok h.oc, p5, ob_s, show (0 : Int32) = nI 0 from rfl, rA_n h.ca.e75 p5 (by omega) (by omega), ob_s]
  have e2 : c_X1_resultValue F cs 37 = some (kB cs 74 37 0) := by
    unfold c_X1_resultValue c_X1_resultValue_b18
    rw [gI_ok h.oc, ob_s, h.tp, if_pos (show nI 1 = (1 : Int32) from rfl), gA_ok h.oc, p4, ob_s, show (0 : Int32) = nI 0 from rfl, rB_n h.ca.e74 p4 (by omega) (by omega), ob_s]
  unfold c_X1_weigh_b64 c_X1_weigh_b80
  rw [ckE_ok h.oc, ob_s, e1]
  rcases h.sv 0 (by omega) with ⟨b1, b2⟩ | ⟨b1, -, b2⟩
  · rw [b1, b2, show ckB 0 = some 0 from rfl, ob_s, ob_s, if_pos rfl, ob_s, e2, ob_s]
    rfl
  · rw [b1, b2, show ckB 1 = some 1 from rfl, ob_s, ob_s, if_neg (by decide)]
    rfl
theorem pushw {F p : Nat} {l : Nat → OV} {cs : CS} {a b : Int32} (h : STK 37 2 l p cs) (hp : p < 2) (hb : (b = 0 ∧ (a = 0 ∨ a = 1)) ∨ (b = 1 ∧ a ≠ 0 ∧ a ≠ 1)) : ∃ cs', c_X1_push F cs 37 a.toInt64 b = some cs' ∧ STK 37 2 (ul l p (w3 a)) (p + 1) cs' ∧ EVF 37 cs cs' := by
  refine push_ok h hp ?_
  rcases hb with ⟨b1, q | q⟩ | ⟨b1, q1, q2⟩
  · exact Or.inl ⟨b1, by rw [q]; rfl⟩
  · exact Or.inl ⟨b1, by rw [q]; rfl⟩
  · refine Or.inr ⟨b1, ?_⟩
    unfold w3
    rw [if_neg q1, if_neg q2]
theorem weigh_ok {F : Nat} {κ a b : Int32} {cs : CS} (ca : CA 37 2 cs) (oc : (2, 37) ∈ kE cs) : ∃ cs', c_X1_weigh F cs 37 κ a b = some (cs', r3 (if κ = 25 then o1 κ (w3 a) else o2 κ (w3 a) (w3 b))) ∧ EVF 37 cs cs' := by
  obtain ⟨c1, hc1⟩ : ∃ z, z = sI cs 76 37 0 := ⟨_, rfl⟩
  have f1 : EVF 37 cs c1 := by rw [hc1]; exact EVF.i
  have s1 : STK 37 2 (fun _ => none) 0 c1 := ⟨ca.evf f1, f1.em _ oc, by rw [hc1]; show u2 (kI cs) 76 37 0 76 37 = nI 0; exact u2_s, by omega, by omega, fun i hi => absurd hi (Nat.not_lt_zero _)⟩
  have k1 : ∀ m : Int32, ((m = 0 ∧ (a = 0 ∨ a = 1)) ∨ (m = 1 ∧ a ≠ 0 ∧ a ≠ 1)) → ∃ cs', c_X1_weigh_b22 F c1 37 κ b m a.toInt64 37 = some (cs', r3 (if κ = 25 then o1 κ (w3 a) else o2 κ (w3 a) (w3 b))) ∧ EVF 37 c1 cs' := fun m hm => by
    obtain ⟨c2, e2, s2, f2⟩ := pushw (F := F) s1 (by omega) hm
    unfold c_X1_weigh_b22
    rw [ckE_ok s1.oc, ob_s, e2, ob_s]
    by_cases z : κ = 25
    · obtain ⟨c3, e3, s3, f3⟩ := one_ok (F := F) (κ := κ) (p := 0) s2
      rw [if_pos z, ckE_ok s2.oc, ob_s, e3, ob_s, res_ok s3, if_pos z]
      exact ⟨c3, by rw [ul_s, ul_s], f2.trans f3⟩
    · rw [if_neg z, if_neg z]
      have k2 : ∀ m : Int32, ((m = 0 ∧ (b = 0 ∨ b = 1)) ∨ (m = 1 ∧ b ≠ 0 ∧ b ≠ 1)) → ∃ cs', c_X1_weigh_b56 F c2 37 κ m b.toInt64 37 = some (cs', r3 (o2 κ (w3 a) (w3 b))) ∧ EVF 37 c1 cs' := fun m hm => by
        obtain ⟨c3, e3, s3, f3⟩ := pushw (F := F) s2 (by omega) hm
        obtain ⟨c4, e4, s4, f4⟩ := two_c (F := F) (κ := κ) (p := 0) s3
        unfold c_X1_weigh_b56
        rw [ckE_ok s2.oc, ob_s, e3, ob_s, ckE_ok s3.oc, ob_s, e4, ob_s, res_ok s4]
        refine ⟨c4, ?_, (f2.trans f3).trans f4⟩
        rw [ul_s, ul_s, ul_n (by omega), ul_s]
      by_cases b0 : b = 0
      · rw [if_pos b0]
        exact k2 0 (Or.inl ⟨rfl, Or.inl b0⟩)
      · rw [if_neg b0]
        by_cases b1 : b = 1
        · rw [if_pos b1]
          exact k2 0 (Or.inl ⟨rfl, Or.inr b1⟩)
        · rw [if_neg b1]
          exact k2 1 (Or.inr ⟨rfl, b0, b1⟩)
  unfold c_X1_weigh
  rw [pI_ok oc, ob_s, ← hc1]
  have fin : ∀ {x : Option (CS × Int32)} {v : Int32}, (∃ cs', x = some (cs', v) ∧ EVF 37 c1 cs') → ∃ cs', x = some (cs', v) ∧ EVF 37 cs cs' := fun {x v} h => by
    obtain ⟨c9, e, f⟩ := h
    exact ⟨c9, e, f1.trans f⟩
  by_cases a0 : a = 0
  · rw [if_pos a0]
    exact fin (k1 0 (Or.inl ⟨rfl, Or.inl a0⟩))
  · rw [if_neg a0]
    by_cases a1 : a = 1
    · rw [if_pos a1]
      exact fin (k1 0 (Or.inl ⟨rfl, Or.inr a1⟩))
    · rw [if_neg a1]
      exact fin (k1 1 (Or.inr ⟨rfl, a0, a1⟩))
theorem m3_t {F : Nat} {rs : RS} {x1 x2 x3 : Int32} : m_three F rs x1 x2 x3 = m_three_b30 F rs x1 (t3 x2) (t3 x3) := by
  have k : ∀ y, m_three_b14 F rs x1 x3 y = m_three_b30 F rs x1 y (t3 x3) := fun y => by
    unfold m_three_b14 m_three_b25 t3
    by_cases z0 : x3 = 0
    · rw [if_pos z0, if_pos z0, z0]
    · rw [if_neg z0, if_neg z0]
      by_cases z1 : x3 = 1
      · rw [if_pos z1, if_pos z1, z1]
      · rw [if_neg z1, if_neg z1]
  unfold m_three m_three_b9
  rw [k, k]
  unfold t3
  by_cases z0 : x2 = 0
  · rw [if_pos z0, if_pos z0, z0]
  · rw [if_neg z0, if_neg z0]
    by_cases z1 : x2 = 1
    · rw [if_pos z1, if_pos z1, z1]
    · rw [if_neg z1, if_neg z1]
theorem wt3 (x : Int32) : (w3 x = some 0 ∧ t3 x = 0) ∨ (w3 x = some 1 ∧ t3 x = 1) ∨ (w3 x = none ∧ t3 x = 2) := by
  unfold w3 t3
  by_cases z0 : x = 0
  · rw [if_pos z0, if_pos z0]
    exact Or.inl ⟨rfl, rfl⟩
  · rw [if_neg z0, if_neg z0]
    by_cases z1 : x = 1
    · rw [if_pos z1, if_pos z1]
      exact Or.inr (Or.inl ⟨rfl, rfl⟩)
    · rw [if_neg z1, if_neg z1]
      exact Or.inr (Or.inr ⟨rfl, rfl⟩)
theorem SIM.evf {F i : Nat} {cs cs' : CS} {rs : RS} (h : SIM F i cs rs) (e : EVF 37 cs cs') (df : DFC cs') : SIM F i cs' rs := by
  have em := e.em
  have pp : ∀ x j, kP cs' x j = kP cs x j := fun x j => (e.2.2 x j).1
  have ll : ∀ x j, kL cs' x j = kL cs x j := fun x j => (e.2.2 x j).2
  have kk : kK cs' = kK cs := congrArg (fun z => z.1) e.1
  have km : kM cs' = kM cs := congrArg (fun z => z.2.1) e.1
  have at' : ∀ x j, ¬ (74 ≤ x ∧ x ≤ 76) → AT cs cs' x j := fun x j hx => e.2.1 x j (fun w => hx w.2)
  have sts : ∀ ar B, STS ar B cs → STS ar B cs' := fun ar B w => w.at' em (at' 288 ar (by omega)) (at' 289 ar (by omega)) (at' 290 ar (by omega)) (at' 291 ar (by omega))
  have pa : PTA 15 20 25 30 cs' = PTA 15 20 25 30 cs := by
    unfold PTA
    simp only [ll]
  have pk : PTK 15 20 25 30 cs' = PTK 15 20 25 30 cs := by
    unfold PTK
    simp only [ll]
  have kp : ∀ c k, KPN c k cs rs cs' rs := fun c k => ⟨em, fun x j _ _ hx _ => at' x j (by omega), fun x j _ _ _ => ⟨pp x j, ll x j⟩, fun x j h1 h2 _ => at' x j (by omega), fun _ _ => rfl, fun _ _ _ _ => ⟨rfl, rfl, rfl⟩⟩
  obtain ⟨n, tp⟩ := h.tp
  obtain ⟨d, dr⟩ := h.dr
  refine ⟨h.b.mv em (fun x hx => (at' x 0 (by omega)).r) (fun x j _ => ⟨pp x j, ll x j⟩), df, by rw [kk]; exact h.k0, fun j hj => by rw [(at' 358 9 (by omega)).b]; exact h.wd j hj, ⟨n, tp.mv (at' 384 0 (by omega)).a (at' 385 0 (by omega)).i rfl rfl⟩, ⟨d, dr.mv (fun x _ _ => at' x 2 (by omega)) (fun _ _ _ => ⟨rfl, rfl, rfl⟩)⟩, h.f9, h.fb, h.z97, by rw [(at' 388 0 (by omega)).i]; exact h.lf, by rw [(at' 391 0 (by omega)).r]; exact h.s1, by rw [(at' 392 0 (by omega)).r]; exact h.s2, by rw [(at' 393 0 (by omega)).r]; exact h.s3, by rw [(at' 394 0 (by omega)).r]; exact h.s4, sts _ _ h.b1, sts _ _ h.b2, sts _ _ h.b3, sts _ _ h.b4, by rw [ll, ll]; exact h.le, by rw [ll]; exact h.l8, by rw [ll]; exact h.lu, by rw [km, pa]; exact h.rm, by rw [kk, pk]; exact h.rk, h.ca.pn (fun y w => em _ w) (fun x _ => ⟨pp x 37, ll x 37⟩), h.x1, ?_⟩
  obtain ⟨nst, st, s5, t3'⟩ := h.st
  refine ⟨nst, st.mv (fun x _ _ => at' x 2 (by omega)) rfl (fun _ _ _ => ⟨rfl, rfl, rfl⟩), s5, ?_⟩
  rcases t3' with q | ⟨n, ff, M, t, cap, s, lf, S', Q, oq, ss, r, il, w, V, D, cg, cS, c0, cR, c4, c5, csH, rsH, od, S0, RR, Sr, C, CH, q⟩
  · exact Or.inl ⟨by rw [(at' 389 0 (by omega)).r]; exact q.s9, by rw [(at' 390 0 (by omega)).r]; exact q.s0, q.h81, by rw [(at' 395 0 (by omega)).i]; exact q.c5, q.cc.at' em (at' 396 0 (by omega)) (at' 397 0 (by omega)) (at' 398 0 (by omega)), q.r0⟩
  · obtain ⟨M9, cc, cl, cu⟩ := q.al.cc
    refine Or.inr ⟨n, ff, M, t, cap, s, lf, S', Q, oq, ss, r, il, w, V, D, cg, cS, c0, cR, c4, c5, csH, rsH, od, S0, RR, Sr, C, CH, q.tx, q.kp.trans (kp _ _), q.gc, q.gk.trans (kp _ _), by rw [kk]; exact q.kc, q.gt, q.an.gf ⟨em, fun x j _ hx _ => at' x j hx⟩, ⟨em _ q.rn.o, em _ q.rn.oc, by rw [(at' 161 r (by omega)).r]; exact q.rn.cd, by rw [(at' 162 r (by omega)).r]; exact q.rn.sp⟩, by rw [(at' 160 r (by omega)).r]; exact q.r6, q.al.go (fun x j hx => at' x j (by omega)) (fun _ _ _ => ⟨rfl, rfl, rfl⟩) ⟨M9, cc.at' em (at' 396 0 (by omega)) (at' 397 0 (by omega)) (at' 398 0 (by omega)), cl, cu⟩ q.al.ch q.al.cm, by rw [(at' 130 oq (by omega)).r]; exact q.oi, q.h81, ⟨q.sx.1, fun d hd => by rw [(at' 258 2 (by omega)).a]; exact q.sx.2 d hd⟩, fun w => q.nb ?_, q.cv⟩
    have ee : kE cs' = kE cs := congrArg (fun z => z.2.2) e.1
    rw [← ee]
    exact w
theorem three_w {F : Nat} {cs : CS} {rs : RS} {x1 x2 x3 κ : Int32} (b : Bas cs) (ca : CA 37 2 cs) (e1 : c_X11_three F cs 0 x1 x2 x3 = Option.bind (gR cs 12 399 0) fun v_2 => Option.bind (v_2) fun i_4 => Option.bind (ckE cs 2 i_4) fun _ => Option.bind (c_X1_weigh F cs i_4 κ x2 x3) fun z_3 => some (z_3.1, z_3.2)) (e2 : ∀ u y o p, ((o = some 0 ∧ u = 0) ∨ (o = some 1 ∧ u = 1) ∨ (o = none ∧ u = 2)) → ((p = some 0 ∧ y = 0) ∨ (p = some 1 ∧ y = 1) ∨ (p = none ∧ y = 2)) → m_three_b30 F rs x1 u y = some (r3 (if κ = 25 then o1 κ o else o2 κ o p))) : ∃ cs' v, c_X11_three F cs 0 x1 x2 x3 = some (cs', v) ∧ m_three F rs x1 x2 x3 = some v ∧ EVF 37 cs cs' := by
  obtain ⟨c9, w1, w2⟩ := weigh_ok (F := F) (κ := κ) (a := x2) (b := x3) ca b.oC
  refine ⟨c9, r3 (if κ = 25 then o1 κ (w3 x2) else o2 κ (w3 x2) (w3 x3)), ?_, ?_, w2⟩
  · rw [e1, gR_ok b.o, ob_s, b.rC, ob_s, ckE_ok b.oC, ob_s, w1, ob_s]
  · rw [m3_t]
    exact e2 _ _ _ _ (wt3 x2) (wt3 x3)
theorem ok_18 {F i : Nat} {cs : CS} {rs : RS} (h : SIM F i cs rs) (x1 x2 x3 x4 x5 : Int32) : OKC F i (lk_18 F cs rs x1 x2 x3 x4 x5) := by
  have fin : ∃ cs' v, c_X11_three F cs 0 x1 x2 x3 = some (cs', v) ∧ m_three F rs x1 x2 x3 = some v ∧ EVF 37 cs cs' := by
    have none' : x1 < 0 ∨ nI 6 ≤ x1 → ∃ cs' v, c_X11_three F cs 0 x1 x2 x3 = some (cs', v) ∧ m_three F rs x1 x2 x3 = some v ∧ EVF 37 cs cs' := fun o => by
      have ne : ∀ k, k < 6 → ¬ x1 = nI k := fun k hk e => by
        rw [e] at o
        rcases o with o | o
        · exact nI_pos (by omega) o
        · exact nI_ge hk (by omega) o
      refine ⟨cs, -2, ?_, ?_, EVF.refl⟩
      · unfold c_X11_three
        rw [if_neg (show ¬ x1 = (0 : Int32) from ne 0 (by omega)), if_neg (show ¬ x1 = (1 : Int32) from ne 1 (by omega)), if_neg (show ¬ x1 = (2 : Int32) from ne 2 (by omega)), if_neg (show ¬ x1 = (3 : Int32) from ne 3 (by omega)), if_neg (show ¬ x1 = (4 : Int32) from ne 4 (by omega)), if_neg (show ¬ x1 = (5 : Int32) from ne 5 (by omega))]
      · rw [m3_t]
        unfold m_three_b30 m_three_b41
        by_cases z : x1 < 0
        · rw [if_pos z]
        · rw [if_neg z, if_neg (fun w => ?_)]
          have o' := o.resolve_left z
          exact absurd (Int32.le_trans o' w) (by decide)
    rcases pk_ix x1 (n := 6) (by omega) with o | o | ⟨k, k1, k2⟩
    · exact none' (Or.inl o)
    · exact none' (Or.inr o)
    · rcases (show k = 0 ∨ k = 1 ∨ k = 2 ∨ k = 3 ∨ k = 4 ∨ k = 5 by omega) with q | q | q | q | q | q
      · rw [q] at k2
        rw [k2]
        exact three_w (κ := 28) h.b h.ca rfl (fun u y o p hu hy => by
          rcases hu with ⟨a, b⟩ | ⟨a, b⟩ | ⟨a, b⟩ <;> rcases hy with ⟨c, d⟩ | ⟨c, d⟩ | ⟨c, d⟩ <;> rw [a, b, c, d] <;> rfl)
      · rw [q] at k2
        rw [k2]
        exact three_w (κ := 29) h.b h.ca rfl (fun u y o p hu hy => by
          rcases hu with ⟨a, b⟩ | ⟨a, b⟩ | ⟨a, b⟩ <;> rcases hy with ⟨c, d⟩ | ⟨c, d⟩ | ⟨c, d⟩ <;> rw [a, b, c, d] <;> rfl)
      · rw [q] at k2
        rw [k2]
        exact three_w (κ := 25) h.b h.ca rfl (fun u y o p hu hy => by
          rcases hu with ⟨a, b⟩ | ⟨a, b⟩ | ⟨a, b⟩ <;> rcases hy with ⟨c, d⟩ | ⟨c, d⟩ | ⟨c, d⟩ <;> rw [a, b, c, d] <;> rfl)
      · rw [q] at k2
        rw [k2]
        exact three_w (κ := 50) h.b h.ca rfl (fun u y o p hu hy => by
          rcases hu with ⟨a, b⟩ | ⟨a, b⟩ | ⟨a, b⟩ <;> rcases hy with ⟨c, d⟩ | ⟨c, d⟩ | ⟨c, d⟩ <;> rw [a, b, c, d] <;> rfl)
      · rw [q] at k2
        rw [k2]
        exact three_w (κ := 51) h.b h.ca rfl (fun u y o p hu hy => by
          rcases hu with ⟨a, b⟩ | ⟨a, b⟩ | ⟨a, b⟩ <;> rcases hy with ⟨c, d⟩ | ⟨c, d⟩ | ⟨c, d⟩ <;> rw [a, b, c, d] <;> rfl)
      · rw [q] at k2
        rw [k2]
        exact three_w (κ := 45) h.b h.ca rfl (fun u y o p hu hy => by
          rcases hu with ⟨a, b⟩ | ⟨a, b⟩ | ⟨a, b⟩ <;> rcases hy with ⟨c, d⟩ | ⟨c, d⟩ | ⟨c, d⟩ <;> rw [a, b, c, d] <;> rfl)
  obtain ⟨cs', v, e1, e2, e3⟩ := fin
  refine ⟨cs', rs, ?_, h.evf e3 (dg_c_X11_three F cs 0 x1 x2 x3 cs' v e1 h.df)⟩
  unfold lk_18
  rw [ckE_ok h.b.o, ob_s, e1, ob_s, e2, ob_s]
  exact if_pos rfl

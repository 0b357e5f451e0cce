/-! an open SELECT: its words, its end, its fault -/
theorem JT.need {F n : Nat} {f : Nat → Int32} {M t c i x : Nat} {cs : CS} {rs : RS} (hF : 10000 ≤ F) (h : JT n f M t c i cs rs) (hx : x < 42) (hx2 : swK x < 39) : (i < M ∧ c_X9_expect F cs t (nI (swK x)) = some (sI cs 328 t (nI (i + 1))) ∧ m_needWord F rs x = some (setF rs 18 (nI (i + 1)))) ∨ (c_X9_expect F cs t (nI (swK x)) = some (sI (sI cs 320 t 1) 321 t (kA cs 353 9 i)) ∧ m_needWord F rs x = some (setF (setF (setF rs 21 0) 19 1) 20 (kA cs 353 9 i))) := by
  obtain ⟨p, κ, hk, hk1, hk2, kd, hkl, pr⟩ := h.tok (F := F)
  have hw := iw_ok (F := F) (x := x) hF h.x h.im hk h.g1 h.ri hx hx2
  have him := h.im
  by_cases y : κ = swK x
  · rw [if_pos y] at hw
    have hiM : i < M := by
      rcases Nat.lt_or_ge i M with w | w
      · exact w
      · have := hk2 (by omega); omega
    rw [y] at kd
    exact Or.inl ⟨hiM, exp_y h.h h.ci kd, nw_y h.ri hw⟩
  · rw [if_neg y] at hw
    have ne : nI κ ≠ nI (swK x) := fun w => y ((nI_eq (by omega) (by omega)).mp w)
    refine Or.inr ⟨exp_n h.h h.f0 h.ci h.i2 kd ne, ?_⟩
    rw [← pr]
    exact nw_n h.ri h.i2 h.g1 hw
theorem JT.may {F n : Nat} {f : Nat → Int32} {M t c i x : Nat} {cs : CS} {rs : RS} (hF : 10000 ≤ F) (h : JT n f M t c i cs rs) (hx : x < 42) (hx2 : swK x < 39) : (i < M ∧ c_X9_accept F cs t (nI (swK x)) = some (sI cs 328 t (nI (i + 1)), 1) ∧ m_takeWord F rs x = some (setF rs 18 (nI (i + 1)), 1) ∧ m_isWord F rs x = some 1 ∧ c_X9_kind F cs t = some (nI (swK x))) ∨ (c_X9_accept F cs t (nI (swK x)) = some (cs, 0) ∧ m_takeWord F rs x = some (rs, 0) ∧ m_isWord F rs x = some 0 ∧ ∃ κ, c_X9_kind F cs t = some (nI κ) ∧ κ ≤ 57 ∧ κ ≠ swK x) := by
  obtain ⟨p, κ, hk, hk1, hk2, kd, hkl, pr⟩ := h.tok (F := F)
  have hw := iw_ok (F := F) (x := x) hF h.x h.im hk h.g1 h.ri hx hx2
  have him := h.im
  by_cases y : κ = swK x
  · rw [if_pos y] at hw
    have hiM : i < M := by
      rcases Nat.lt_or_ge i M with w | w
      · exact w
      · have := hk2 (by omega); omega
    rw [y] at kd
    exact Or.inl ⟨hiM, acc_y h.h h.ci kd, tw_y h.ri hw, hw, kd⟩
  · rw [if_neg y] at hw
    have ne : nI κ ≠ nI (swK x) := fun w => y ((nI_eq (by omega) (by omega)).mp w)
    exact Or.inr ⟨acc_n h.h h.ci kd ne, tw_n h.ri hw, hw, κ, kd, hkl, y⟩
theorem BG.ws {n : Nat} {f : Nat → Int32} {M t c cap : Nat} {i z s lf S Q q : Nat} {cs cs' : CS} {rs : RS} (h : BG n f M t c cap i z s lf S Q cs rs) (fo : FO (PX t c q) cs cs') (fs : FS t c cs') : WS t c cap lf cs' := by
  have a325 : AT cs cs' 325 t := AT.fo fo (by unfold PX; omega)
  have a326 : AT cs cs' 326 t := AT.fo fo (by unfold PX; omega)
  have cp := h.cp
  exact ⟨fs, h.kb.of fo.1, h.ca.fo fo, by omega, h.t37, h.c37, by rw [a325.i]; exact h.cl, h.l3, by rw [fo.e]; exact h.e326, by rw [a326.p]; exact h.p326, by rw [a326.l]; exact h.l326⟩
theorem AGP.kept {β β' : Option Nat} {n : Nat} {f : Nat → Int32} {M c s o e it mi it' mi' : Nat} {cs cs' : CS} {rs rs' : RS} (h : AGP β n f M c s o e it mi cs rs) (em : EM cs cs') (g202 : AT cs cs' 202 o) (g203 : AT cs cs' 203 o) (kp : ∀ x, x < s → VW c cs' rs' x = VW c cs rs x) (tk : TKF cs rs cs' rs') (r : ∀ k, k = 42 ∨ k = 43 → rs'.2.2.1 k e = rs.2.2.1 k e) (hs : s ≤ 120) (ac : ACP β' c s o it' mi' cs') : AGP β' n f M c s o e it' mi' cs' rs' := by
  have v65 : ∀ x, x < s → kA cs' 65 c x = kA cs 65 c x := fun x hx => congrArg (fun v => v.1.1) (kp x hx)
  have v66 : ∀ x, x < s → kA cs' 66 c x = kA cs 66 c x := fun x hx => congrArg (fun v => v.1.2.2.2.1) (kp x hx)
  have back : ∀ x, AM o cs' x → AM o cs x := fun x hx => by
    obtain ⟨j, k, m1, m2, m3, m4⟩ := hx
    exact ⟨j, k, m1, by rw [← g203.i]; exact m2, m3, by rw [← g202.a]; exact m4⟩
  have forth : ∀ x, AM o cs x → AM o cs' x := fun x hx => by
    obtain ⟨j, k, m1, m2, m3, m4⟩ := hx
    exact ⟨j, k, m1, by rw [g203.i]; exact m2, m3, by rw [g202.a]; exact m4⟩
  refine ⟨em _ h.e, by rw [g202.p]; exact h.p, by rw [g202.l]; exact h.l, ?_, fun x x1 x2 => (h.al x x1 (back x x2)).keep (Nat.le_refl _) kp tk forth, ac⟩
  obtain ⟨k, k1, k2, k3, k4, k5, k6⟩ := h.k
  refine ⟨k, k1, by rw [g203.i]; exact k2, by rw [r 42 (Or.inl rfl)]; exact k3, by rw [r 43 (Or.inr rfl)]; exact k4, fun y => ?_, fun j hj => ?_⟩
  · obtain ⟨x, x1, x2, x3, x4⟩ := k5 y
    exact ⟨x, x1, by rw [g202.a]; exact x2, by rw [r 43 (Or.inr rfl), v66 x x1]; exact x3, by rw [r 43 (Or.inr rfl)]; exact x4⟩
  · obtain ⟨x, x1, x2, x3⟩ := k6 j hj
    exact ⟨x, x1, by rw [g202.a]; exact x2, by rw [v65 x x1]; exact x3⟩
/-- the SELECT's own words -/
theorem SG.own {n : Nat} {f : Nat → Int32} {M t c cap : Nat} {β : Option Nat} {d K0 S0 Q0 s0 l0 ql z o e it gr mi ns nr mg i s lf S Q : Nat} {u1 : Option Nat} {u2 : Int32} {cs0 cs : CS} {rs0 rs : RS} {cs' : CS} {rs' : RS} (g : SG β n f M t c cap d K0 S0 Q0 s0 l0 ql z u1 u2 cs0 rs0 o e it gr mi ns nr mg i s lf S Q cs rs) (c1 : cs'.1 = cs.1) (ca : ∀ x j, ¬ (j = o ∧ (x = 197 ∨ x = 198 ∨ x = 199 ∨ x = 201)) → AT cs cs' x j) (r1 : rs'.1 = rs.1) (rw0 : rs'.2.1 = rs.2.1) (ra : ∀ k j, ¬ (j = e ∧ (k = 38 ∨ k = 40 ∨ k = 41)) → rs'.2.2.1 k j = rs.2.2.1 k j) (rl : rs'.2.2.2 = rs.2.2.2) (wh : OPT n f M c 0 false s (kI cs' 197 o) (rs'.2.2.1 38 e) cs' rs') (hv : OPT n f M c o true s (kI cs' 201 o) (rs'.2.2.1 41 e) cs' rs') (hg : (kI cs' 198 o = 0 ∧ rs'.2.2.1 40 e = -1 ∧ mg = 0) ∨ (kI cs' 198 o = 1 ∧ rs'.2.2.1 40 e = kI cs' 199 o ∧ rs'.2.2.1 40 e ≠ -1)) : SG β n f M t c cap d K0 S0 Q0 s0 l0 ql z u1 u2 cs0 rs0 o e it gr mi ns nr mg i s lf S Q cs' rs' := by
  obtain ⟨k1, k2, k3, k4⟩ := g.os.od
  obtain ⟨x1, x2, x3, x4, x5, x6⟩ := g.ix
  obtain ⟨y1, y2, y3⟩ := g.kx
  have s2 := g.b.s2
  have em : EM cs cs' := EM.of (congrArg (fun z => z.2.2) c1)
  have kk : kK cs' = kK cs := congrArg (fun z => z.1) c1
  have km : kM cs' = kM cs := congrArg (fun z => z.2.1) c1
  have hkr := g.kr
  have hmr := g.mr
  have r33 : ∀ k, k ≤ 33 → rs'.2.2.1 k = rs.2.2.1 k ∧ rs'.2.2.2 k = rs.2.2.2 k := fun k hk => ⟨funext (fun j => ra k j (by omega)), by rw [rl]⟩
  have gb : ∀ x j, j ≤ 37 → AT cs cs' x j := fun x j hj => ca x j (by omega)
  have b' : BG n f M t c cap i z s lf S Q cs' rs' := g.b.mv em (g.b.kb.of c1) gb (fun x a1 a2 a3 a4 => ca x t (by omega)) (fun x a1 a2 => ca x c (by omega)) (fun k _ _ _ _ => by rw [r1]) r33 (by rw [r1]; exact g.b.rS) (by rw [r1]; exact g.b.rQ)
  have vw : VW c cs' rs' = VW c cs rs := VW.eq (fun x a1 a2 => ca x c (by omega)) r33
  have tk : TKF cs rs cs' rs' := ⟨(gb 352 9 (by decide)).a, (gb 353 9 (by decide)).a, (gb 354 9 (by decide)).b, (r33 14 (by decide)).1, (r33 15 (by decide)).1, (r33 16 (by decide)).1, (r33 17 (by decide)).2, (r33 2 (by decide)).1⟩
  have qf : QF S0 Q0 rs rs' := ⟨⟨Or.inr rw0, fun k hk => ⟨by rw [r1], funext (fun j => ra k j (fun w => by
      unfold pR' at hk
      omega)), by rw [rl]⟩⟩, fun k j a1 a2 a3 => ra k j (fun w => by
      unfold wd at a3
      rw [if_pos (by omega)] at a3
      omega), fun j _ => by rw [rl]⟩
  have pd : PD t c K0 S0 Q0 s0 l0 cs rs cs' rs' := ⟨em, by omega, fun x j a1 _ _ => ca x j (by omega), fun x _ => ca x t (by omega), fun x _ => congrFun vw x, tk, qf, fun k _ => by rw [(ca 326 t (by omega)).q]⟩
  have fy : ∀ lo hi, o < lo → FY c lo hi s cs rs cs' rs' := fun lo hi q => ⟨em, fun x j a1 a2 a3 => ca x j (by omega), fun j a1 a2 => (ca 100 j (by omega)).ap, fun x _ => congrFun vw x, tk⟩
  have fz : ∀ lo hi, o < lo → FZ c lo hi (e + 1) S 0 Q s cs rs cs' rs' := fun lo hi q => ⟨fy lo hi q, fun k j a1 a2 a3 a4 a5 => ra k j (fun w => by
      unfold wd at a4
      rw [if_pos (by omega)] at a4
      omega), fun j _ _ => by rw [rl]⟩
  have hX : ∀ x, o < x → X0 x cs → X0 x cs' := fun x hx w => CLM.keep w em (fun y y1 y2 => ca y x (by omega))
  have am : ∀ x, AM o cs x → AM o cs' x := fun x hx => by
    obtain ⟨j, k, m1, m2, m3, m4⟩ := hx
    exact ⟨j, k, m1, by rw [(ca 203 o (by omega)).i]; exact m2, m3, by rw [(ca 202 o (by omega)).a]; exact m4⟩
  refine ⟨b', g.pd.trans pd, ?_, g.ag.kept em (ca 202 o (by omega)) (ca 203 o (by omega)) (fun x _ => congrFun vw x) tk (fun k hk => ra k e (by omega)) s2 (g.ag.ac.at' (ca 202 o (by omega)) (ca 203 o (by omega)) (ca 97 it (by omega)) (ca 67 c (by omega))), ⟨fun k hk => ?_, fun w => ?_⟩, by rw [(ca 330 t (by omega)).r]; exact g.r3, by rw [r1]; exact g.r7, g.ix, g.kx, by omega, by omega, g.ct, g.p0, g.qs⟩
  · rw [kk]
    refine g.os.upd em (fun x hx => ca x o (by omega)) (fy (o + 1) (kK cs) (by omega)) (fun k hk => ra k e (by omega)) (fun k j hk hj => ra k _ (by omega)) (fun k j q1 q2 hj => ra k _ (by omega)) (fun j hj => by rw [rl]) am (Nat.le_refl _) (fun su sl l h' a b' q0 q1 q2 q3 => QR.keep (Nat.le_refl _) s2 (Nat.le_refl _) (Nat.le_refl _) (Nat.le_refl _) (Nat.le_refl _) d su sl _ l h' a b' q3 ((fz l h' (by omega)).sub (Nat.le_refl _) (Nat.le_refl _) q0 (Nat.zero_le _)) (fun x w1 w2 w3 => hX x (by omega) w3)) (fun x w1 w2 w3 => hX x w1 w3) ?_ wh hv hg g.os.nr3 ((ra 37 e (by omega)).trans g.os.rn)
    rw [(ca 192 o (by omega)).i, (ca 193 o (by omega)).i, ra 35 e (by omega)]
    exact g.os.ds
  · obtain ⟨oo, o1, o2⟩ := g.sm.1 k hk
    exact ⟨oo, by rw [(ca 326 t (by omega)).q]; exact o1, em _ o2⟩
  · rw [lsm_eq (cs := cs) lf (fun k hk => ?_), rsm_eq (rs := rs) S (fun s k hs hk => ?_)]
    · exact g.sm.2 w
    · unfold rk1
      rw [ra 37 s (by omega), ra 49 (3 * s + k) (by omega), ra 51 (3 * s + k) (by omega), rl]
    · unfold lk1
      rw [(ca 326 t (by omega)).q]
      cases hq : kQ cs 326 t k with
      | none => rfl
      | some oo =>
        show w (kI cs' 224 oo) (kJ cs' 230 oo) = w (kI cs 224 oo) (kJ cs 230 oo)
        rw [(ca 224 oo (by omega)).i, (ca 230 oo (by omega)).j]
/-- behind a fault in an open SELECT -/
def FW (t c cap K0 S0 l0 : Nat) (cs0 : CS) (o it lf r : Nat) (cs : CS) (rs : RS) : Prop := (PB t c cs rs) ∧ (WS t c cap lf cs) ∧ (WO o it cs) ∧ (EM cs0 cs) ∧ (∀ x j, j < K0 → ¬ (x / 32 = 10 ∧ j = t) → ¬ (x / 32 = 2 ∧ j = c) → AT cs0 cs x j) ∧ (t < K0 ∧ c < K0 ∧ K0 ≤ o ∧ o < it) ∧ (kK cs + 40 * S0 + 40 * l0 ≤ kK cs0 + r) ∧ (kM cs + 400 * S0 + 400 * l0 ≤ kM cs0 + 10 * r)
theorem FW.pb {t c cap K0 S0 l0 : Nat} {cs0 : CS} {o it lf r : Nat} {cs : CS} {rs : RS} (h : FW t c cap K0 S0 l0 cs0 o it lf r cs rs) : PB t c cs rs := h.1
theorem FW.ws {t c cap K0 S0 l0 : Nat} {cs0 : CS} {o it lf r : Nat} {cs : CS} {rs : RS} (h : FW t c cap K0 S0 l0 cs0 o it lf r cs rs) : WS t c cap lf cs := h.2.1
theorem FW.wo {t c cap K0 S0 l0 : Nat} {cs0 : CS} {o it lf r : Nat} {cs : CS} {rs : RS} (h : FW t c cap K0 S0 l0 cs0 o it lf r cs rs) : WO o it cs := h.2.2.1
theorem FW.em {t c cap K0 S0 l0 : Nat} {cs0 : CS} {o it lf r : Nat} {cs : CS} {rs : RS} (h : FW t c cap K0 S0 l0 cs0 o it lf r cs rs) : EM cs0 cs := h.2.2.2.1
theorem FW.a0 {t c cap K0 S0 l0 : Nat} {cs0 : CS} {o it lf r : Nat} {cs : CS} {rs : RS} (h : FW t c cap K0 S0 l0 cs0 o it lf r cs rs) : ∀ x j, j < K0 → ¬ (x / 32 = 10 ∧ j = t) → ¬ (x / 32 = 2 ∧ j = c) → AT cs0 cs x j := h.2.2.2.2.1
theorem FW.kx {t c cap K0 S0 l0 : Nat} {cs0 : CS} {o it lf r : Nat} {cs : CS} {rs : RS} (h : FW t c cap K0 S0 l0 cs0 o it lf r cs rs) : t < K0 ∧ c < K0 ∧ K0 ≤ o ∧ o < it := h.2.2.2.2.2.1
theorem FW.kr {t c cap K0 S0 l0 : Nat} {cs0 : CS} {o it lf r : Nat} {cs : CS} {rs : RS} (h : FW t c cap K0 S0 l0 cs0 o it lf r cs rs) : kK cs + 40 * S0 + 40 * l0 ≤ kK cs0 + r := h.2.2.2.2.2.2.1
theorem FW.mr {t c cap K0 S0 l0 : Nat} {cs0 : CS} {o it lf r : Nat} {cs : CS} {rs : RS} (h : FW t c cap K0 S0 l0 cs0 o it lf r cs rs) : kM cs + 400 * S0 + 400 * l0 ≤ kM cs0 + 10 * r := h.2.2.2.2.2.2.2
theorem SG.wo {n : Nat} {f : Nat → Int32} {M t c cap : Nat} {β : Option Nat} {d K0 S0 Q0 s0 l0 ql z o e it gr mi ns nr mg i s lf S Q : Nat} {u1 : Option Nat} {u2 : Int32} {cs0 cs : CS} {rs0 rs : RS} (g : SG β n f M t c cap d K0 S0 Q0 s0 l0 ql z u1 u2 cs0 rs0 o e it gr mi ns nr mg i s lf S Q cs rs) : WO o it cs := ⟨g.os.e6, g.os.e195, g.os.p195, g.os.l195, ⟨ns, g.os.n3, g.os.i196⟩, g.os.r194, mi, g.os.ci⟩
theorem SG.cnt {n : Nat} {f : Nat → Int32} {M t c cap : Nat} {β : Option Nat} {d K0 S0 Q0 s0 l0 ql z o e it gr mi ns nr mg i s lf S Q : Nat} {u1 : Option Nat} {u2 : Int32} {cs0 cs : CS} {rs0 rs : RS} (g : SG β n f M t c cap d K0 S0 Q0 s0 l0 ql z u1 u2 cs0 rs0 o e it gr mi ns nr mg i s lf S Q cs rs) : S ≤ 52 := by
  have h1 := g.ct
  have h2 := g.p0
  have h3 := g.b.l3
  have h4 := g.b.z2
  obtain ⟨x1, x2, x3, x4, x5, x6⟩ := g.ix
  omega
/-- a fault that an EXPR or a word has told -/
theorem SG.fw {n : Nat} {f : Nat → Int32} {M t c cap : Nat} {β : Option Nat} {d K0 S0 Q0 s0 l0 ql z o e it gr mi ns nr mg i s lf S Q : Nat} {u1 : Option Nat} {u2 : Int32} {cs0 cs : CS} {rs0 rs : RS} {q : Nat} {cs' : CS} {rs' : RS} (g : SG β n f M t c cap d K0 S0 Q0 s0 l0 ql z u1 u2 cs0 rs0 o e it gr mi ns nr mg i s lf S Q cs rs) (fo : FO (PX t c q) cs cs') (hq : K0 ≤ q) (pb : PB t c cs' rs') : FW t c cap K0 S0 l0 cs0 o it lf 2300 cs' rs' := by
  obtain ⟨k1, k2, k3, k4⟩ := g.os.od
  obtain ⟨y1, y2, y3⟩ := g.kx
  have hkr := g.kr
  have hmr := g.mr
  have h52 := g.cnt
  have l3 := g.b.l3
  have kk : kK cs' = kK cs := congrArg (fun z => z.1) fo.1
  have km : kM cs' = kM cs := congrArg (fun z => z.2.1) fo.1
  have em : EM cs cs' := EM.of fo.e
  refine ⟨pb, g.b.ws fo pb.s, g.wo.keep em (fun x hx => AT.fo fo (by unfold PX; omega)) (fun x x1 x2 => AT.fo fo (by unfold PX; omega)), g.pd.em.trans em, fun x j a1 a2 a3 => (g.pd.a0 x j a1 a2 a3).trans (AT.fo fo (by unfold PX; omega)), ⟨y1, y2, k1, k2⟩, by omega, by omega⟩
theorem SG.bad {n : Nat} {f : Nat → Int32} {M t c cap : Nat} {β : Option Nat} {d K0 S0 Q0 s0 l0 ql z o e it gr mi ns nr mg i s lf S Q : Nat} {u1 : Option Nat} {u2 : Int32} {cs0 cs : CS} {rs0 rs : RS} {a v : Int32} (g : SG β n f M t c cap d K0 S0 Q0 s0 l0 ql z u1 u2 cs0 rs0 o e it gr mi ns nr mg i s lf S Q cs rs) (ha : a ≠ 0) : FW t c cap K0 S0 l0 cs0 o it lf 2300 (sI (sI cs 320 t a) 321 t v) (setF (setF (setF rs 21 0) 19 a) 20 v) := g.fw (q := K0) ((FO.sI (Or.inl ⟨by decide, rfl⟩)).trans (FO.sI (Or.inl ⟨by decide, rfl⟩))) (Nat.le_refl _) (g.b.jt.bad ha)
/-- a SELECT's end in both: read, or a fault -/
def SPO (n : Nat) (f : Nat → Int32) (M t c cap d K0 S0 Q0 s0 l0 ql z : Nat) (u1 : Option Nat) (u2 : Int32) (cs0 : CS) (rs0 : RS) (o e it : Nat) (cs : CS) (rs : RS) : Prop := (∃ i s lf S Q, BG n f M t c cap i z s lf S Q cs rs ∧ PD t c K0 S0 Q0 s0 l0 cs0 rs0 cs rs ∧ SEL (QR X0 n f M c s S Q cs rs d) X0 n f M c s K0 (kK cs) ql o e cs rs ∧ SM t lf S cs rs ∧ kR cs 330 t = u1 ∧ rs.1 71 = u2 ∧ (S0 ≤ e ∧ e < S ∧ Q0 ≤ Q ∧ s0 ≤ s ∧ l0 < lf ∧ ql ≤ Q) ∧ kK cs + 40 * S0 + 40 * l0 + 20 ≤ kK cs0 + 40 * S + 40 * lf ∧ kM cs + 400 * S0 + 400 * l0 + 200 ≤ kM cs0 + 400 * S + 400 * lf ∧ S + z + 13 * l0 ≤ S0 + 13 * lf ∧ Q ≤ S) ∨ (∃ lf, FW t c cap K0 S0 l0 cs0 o it lf (2400 + 10 * (12 - z)) cs rs)
theorem FW.le {t c cap K0 S0 l0 o it lf r r' : Nat} {cs0 cs : CS} {rs : RS} (h : FW t c cap K0 S0 l0 cs0 o it lf r cs rs) (hr : r ≤ r') : FW t c cap K0 S0 l0 cs0 o it lf r' cs rs := by
  have h1 := h.kr
  have h2 := h.mr
  exact ⟨h.pb, h.ws, h.wo, h.em, h.a0, h.kx, by omega, by omega⟩
theorem FW.gf {t c cap K0 S0 l0 o it lf r K : Nat} {cs0 cs cs' : CS} {rs rs' : RS} (h : FW t c cap K0 S0 l0 cs0 o it lf r cs rs) (g : GF t K cs cs') (rb : RB rs rs') (hK : it < K) (kr : cs'.1 = cs.1) : FW t c cap K0 S0 l0 cs0 o it lf r cs' rs' := by
  obtain ⟨x1, x2, x3, x4⟩ := h.kx
  have ws := h.ws.gf g (h.ws.kb.of kr) (by omega) (by omega)
  have h1 := h.kr
  have h2 := h.mr
  have kk : kK cs' = kK cs := congrArg (fun z => z.1) kr
  have km : kM cs' = kM cs := congrArg (fun z => z.2.1) kr
  exact ⟨(h.pb.gf ws.f g (by omega)).rb rb, ws, h.wo.keep g.1 (fun x hx => g.2.2 x o (by omega) (by omega)) (fun x a1 a2 => g.2.2 x it (by omega) (by omega)), h.em.trans g.1, fun x j a1 a2 a3 => (h.a0 x j a1 a2 a3).trans (g.2.2 x j (by omega) (by omega)), h.kx, by omega, by omega⟩
theorem AGP.hvf {β : Option Nat} {n : Nat} {f : Nat → Int32} {M c s o e it mi : Nat} {cs cs' : CS} {rs' : RS} (hb : β = none ∨ ∃ r, r < 120 ∧ β = some r ∧ kI cs 201 o = nI r) (h : AGP β n f M c s o e it mi cs' rs') : AGP (hvr o cs) n f M c s o e it mi cs' rs' := ⟨h.e, h.p, h.l, h.k, h.al, fun x x1 x2 => by
  obtain ⟨r, a, r1, r2, r3, r4, r5⟩ := h.ac x x1 x2
  refine ⟨r, a, r1, r2, r3, r4, ?_⟩
  rcases r5 with w | w
  · exact Or.inl w
  · refine Or.inr ?_
    rcases hb with q | ⟨r', q1, q2, q3⟩
    · rw [q] at w
      cases w
    · rw [q2] at w
      unfold hvr
      rw [q3, if_neg (nI_pos (by omega)), nI_clamp (by omega)]
      exact w⟩
/-- the SELECT's end -/
theorem SG.fin {n : Nat} {f : Nat → Int32} {M t c cap : Nat} {d K0 S0 Q0 s0 l0 ql z o e it gr mi ns mg i s lf S Q : Nat} {u1 : Option Nat} {u2 : Int32} {cs0 cs : CS} {rs0 rs : RS} {β : Option Nat} (hb : β = none ∨ ∃ r, r < 120 ∧ β = some r ∧ kI cs 201 o = nI r) (g : SG β n f M t c cap d K0 S0 Q0 s0 l0 ql z u1 u2 cs0 rs0 o e it gr mi ns ns mg i s lf S Q cs rs) (h1 : 1 ≤ mi) (h2 : 1 ≤ ns) (h3 : kI cs 198 o ≠ 0 → 1 ≤ mg) : SPO n f M t c cap d K0 S0 Q0 s0 l0 ql z u1 u2 cs0 rs0 o e it (sR cs 330 t u1) (setF rs 71 u2) := by
  obtain ⟨k1, k2, k3, k4⟩ := g.os.od
  obtain ⟨x1, x2, x3, x4, x5, x6⟩ := g.ix
  obtain ⟨y1, y2, y3⟩ := g.kx
  have t37 := g.b.t37
  have ct := g.ct
  have p : PD t c (kK cs) S Q s lf cs rs (sR cs 330 t u1) (setF rs 71 u2) := PD.sel.trans (PD.rF (by unfold pR'; omega))
  have b' : BG n f M t c cap i z s lf S Q (sR cs 330 t u1) (setF rs 71 u2) := g.b.mv EM.refl g.b.kb (fun x j hj => AT.sR (by omega)) (fun x a1 a2 a3 a4 => AT.sR (by omega)) (fun x a1 a2 => AT.sR (by omega)) (fun k _ _ a3 _ => pk_un a3) (fun _ _ => ⟨rfl, rfl⟩) g.b.rS g.b.rQ
  have z : FZ c (o + 1) (kK cs) 0 S 0 Q s cs rs (sR cs 330 t u1) (setF rs 71 u2) := FZ.pd p (Nat.le_refl _) (by omega) (by omega)
  have zo : FY c o (kK cs) s cs rs (sR cs 330 t u1) (setF rs 71 u2) := FY.pd p (Nat.le_refl _) (by omega) (by omega)
  have hX : ∀ x, x < kK cs → X0 x cs → X0 x (sR cs 330 t u1) := fun x hx h => X0.pd h p hx
  refine Or.inl ⟨i, s, lf, S, Q, b', g.pd.trans (p.le (by omega) (by omega) x3 x4 x5), ⟨it, gr, mi, ns, mg, g.os.keep (fun x hx _ _ => p.a0 x o (by omega) (by omega) (by omega)) z (fun x hx => zo.am (Nat.le_refl _) (by omega) hx) (Nat.le_refl _) ⟨Nat.zero_le _, x2⟩ (fun su sl l h' a b'' q0 q1 q2 q3 => QR.keep (Nat.le_refl _) g.b.s2 (Nat.le_refl _) (Nat.le_refl _) (Nat.le_refl _) (Nat.le_refl _) d su sl _ l h' a b'' q3 (FZ.pd p q2 (by omega) (by omega)) (fun x _ w2 w3 => hX x (Nat.lt_of_lt_of_le w2 q2) w3)) (fun x _ w2 w3 => hX x w2 w3), (AGP.hvf hb (g.ag.keep zo (Nat.le_refl _) (by omega) ⟨by omega, by omega⟩ (Nat.le_refl _) g.b.s2 (fun _ _ => rfl))).hv' rfl, h1, h2, h3⟩, g.sm.keep g.b.kb (Nat.le_refl _) p, u2_s, rfl, ⟨x1, x2, x3, x4, by omega, x6⟩, g.kr, g.mr, by omega, g.qs⟩

/-! an order by's start, its marks, its faults -/
theorem QO.start {n : Nat} {f : Nat → Int32} {M t c cap : Nat} {d z S0 Q0 s0 l0 m i s lf S Q : Nat} {cs0 cs : CS} {rs0 rs : RS} {F : Nat} {pl : Int32} (g : QG n f M t c cap d z S0 Q0 s0 l0 cs0 rs0 m i s lf S Q cs rs) (hp : pl ≠ -1) : ∃ c2, c_X2_init F (nO cs 3 5) (kK cs) = some c2 ∧ QO n f M t c cap d z S0 Q0 s0 l0 cs0 rs0 m i s lf S Q cs rs 0 i s (sI (sR c2 130 (kK cs0) (some (kK cs))) 131 (kK cs0) pl) (setI rs 65 Q0 pl) := by
  obtain ⟨x1, x2, x3, x4, x5, x6⟩ := g.ix
  obtain ⟨y1, y2, y3⟩ := g.kx
  have t0 := g.b.t0
  have c0 := g.b.c0
  have Y : QRY (QR X0 n f M c s S Q cs rs d) X0 n f M c s S0 S Q0 Q (kK cs0) (kK cs) (kK cs0) Q0 cs rs := g.qr.2
  have od2 := Y.od.2
  have r64 : rs.2.2.1 64 Q0 = 0 := by
    rcases Y.or' with w | ⟨oc, m', w, -⟩
    · exact w.2.2.1
    · rw [g.o13] at w
      cases w
  have kb1 : KB (nO cs 3 5) := nO_kb g.b.kb
  obtain ⟨c2, q2, kb2, m2, s2a, s2b, a2, cl2⟩ := new_cols (F := F) (nO_new (cs := cs) (X := 3) (n := 5)) kb1
  have z96 : kI (nO cs 3 5) 96 (kK cs) = 0 := (nO_z (cs := cs) (X := 3) (n := 5) (x := 96) (by decide)).1
  have cl := cl2 z96
  have k1 : kK (nO cs 3 5) = kK cs + 1 ∧ kM (nO cs 3 5) = kM cs + 5 := ⟨rfl, rfl⟩
  refine ⟨c2, q2, ?_⟩
  have ca : ∀ x j, j < kK cs → ¬ (j = kK cs0 ∧ (x = 130 ∨ x = 131)) → AT cs (sI (sR c2 130 (kK cs0) (some (kK cs))) 131 (kK cs0) pl) x j := fun x j h1 h2 => ((((AT.no1 h1)).trans (a2 x j (by omega))).trans (AT.sR (by omega))).trans (AT.sI (by omega))
  have em : EM cs (sI (sR c2 130 (kK cs0) (some (kK cs))) 131 (kK cs0) pl) := (nO_em (cs := cs) (X := 3) (n := 5)).trans m2
  have kb3 : KB (sI (sR c2 130 (kK cs0) (some (kK cs))) 131 (kK cs0) pl) := kb2
  have kk : kK (sI (sR c2 130 (kK cs0) (some (kK cs))) 131 (kK cs0) pl) = kK cs + 5 := by
    show kK c2 = _
    omega
  have km : kM (sI (sR c2 130 (kK cs0) (some (kK cs))) 131 (kK cs0) pl) = kM cs + 37 := by
    show kM c2 = _
    omega
  have clw : CLM (kK cs) 0 (sI (sR c2 130 (kK cs0) (some (kK cs))) 131 (kK cs0) pl) := cl.keep EM.refl (fun x a1 a2 => (AT.sR (by omega)).trans (AT.sI (by omega)))
  have v130 : kR (sI (sR c2 130 (kK cs0) (some (kK cs))) 131 (kK cs0) pl) 130 (kK cs0) = some (kK cs) := u2_s
  have v131 : kI (sI (sR c2 130 (kK cs0) (some (kK cs))) 131 (kK cs0) pl) 131 (kK cs0) = pl := kI_s
  have ra : ∀ k j, ¬ (k = 65 ∧ j = Q0) → (setI rs 65 Q0 pl).2.2.1 k j = rs.2.2.1 k j := fun k j h => sIa_n h
  have w65 : (setI rs 65 Q0 pl).2.2.1 65 Q0 = pl := pk_us
  have rf : (setI rs 65 Q0 pl).1 = rs.1 := rfl
  have rw0 : (setI rs 65 Q0 pl).2.1 = rs.2.1 := rfl
  have rl : (setI rs 65 Q0 pl).2.2.2 = rs.2.2.2 := rfl
  obtain ⟨cs', hcs'⟩ : ∃ x, x = sI (sR c2 130 (kK cs0) (some (kK cs))) 131 (kK cs0) pl := ⟨_, rfl⟩
  obtain ⟨r', hr'⟩ : ∃ x, x = setI rs 65 Q0 pl := ⟨_, rfl⟩
  rw [← hcs'] at ca em kb3 kk km clw v130 v131 ⊢
  rw [← hr'] at ra w65 rf rw0 rl ⊢
  have r33 : ∀ k, k ≤ 33 → r'.2.2.1 k = rs.2.2.1 k ∧ r'.2.2.2 k = rs.2.2.2 k := fun k hk => ⟨funext (fun j => ra k j (by omega)), by rw [rl]⟩
  have vw : VW c cs' r' = VW c cs rs := VW.eq (fun x a1 a2 => ca x c c0 (by omega)) r33
  have a9 : ∀ x, AT cs cs' x 9 := fun x => ca x 9 (by omega) (by omega)
  have tk : TKF cs rs cs' r' := ⟨(a9 352).a, (a9 353).a, (a9 354).b, (r33 14 (by decide)).1, (r33 15 (by decide)).1, (r33 16 (by decide)).1, (r33 17 (by decide)).2, (r33 2 (by decide)).1⟩
  have b' : BG n f M t c cap i z s lf S Q cs' r' := g.b.mv em kb3 (fun x j hj => ca x j (by omega) (by omega)) (fun x _ _ _ _ => ca x t t0 (by omega)) (fun x _ _ => ca x c c0 (by omega)) (fun k _ _ _ _ => by rw [rf]) r33 (by rw [rf]; exact g.b.rS) (by rw [rf]; exact g.b.rQ)
  have po : PO t c (kK cs) S Q s lf (kK cs0) Q0 cs rs cs' r' := by
    refine ⟨em, by omega, fun x j a1 _ _ a4 => ca x j a1 (by omega), fun x _ => ca x t t0 (by omega), fun x _ => congrFun vw x, tk, ⟨⟨Or.inr rw0, fun k hk => ?_⟩, fun k j a1 a2 a3 a4 a5 => ra k j (by omega), fun j _ => by rw [rl]⟩, fun k _ => by rw [(ca 326 t t0 (by omega)).q]⟩
    unfold pR' at hk
    exact ⟨by rw [rf], funext (fun j => ra k j (by omega)), by rw [rl]⟩
  have sm : SM t lf S cs' r' := by
    refine ⟨fun k hk => ?_, fun w => ?_⟩
    · obtain ⟨o', o1, o2⟩ := g.sm.1 k hk
      exact ⟨o', by rw [(ca 326 t t0 (by omega)).q]; exact o1, em _ o2⟩
    · rw [lsm_eq (cs := cs) lf (fun k hk => ?_), rsm_eq (rs := rs) S (fun s k hs hk => ?_)]
      · exact g.sm.2 w
      · unfold rk1
        rw [ra 37 s (by omega), ra 49 (3 * s + k) (by omega), ra 51 (3 * s + k) (by omega), rl]
      · unfold lk1
        rw [(ca 326 t t0 (by omega)).q]
        obtain ⟨o', o1, o2⟩ := g.sm.1 k hk
        have lo' := g.b.kb _ o2
        rw [o1]
        show w (kI cs' 224 o') (kJ cs' 230 o') = w (kI cs 224 o') (kJ cs 230 o')
        rw [(ca 224 o' lo' (by omega)).i, (ca 230 o' lo' (by omega)).j]
  exact ⟨g, po, b', sm, by rw [(ca 330 t t0 (by omega)).r], by rw [rf], Nat.le_refl _, kk, km, clw, v130, by rw [ra 64 Q0 (by omega)]; exact r64, ⟨by rw [v131, w65], by rw [w65]; exact hp⟩, fun k hk => absurd hk (by omega)⟩
theorem QO.mark {n : Nat} {f : Nat → Int32} {M t c cap : Nat} {d z S0 Q0 s0 l0 m i1 s1 lf S Q mo i s : Nat} {cs0 csS cs : CS} {rs0 rsS rs : RS} {v w : Int32} (h : QO n f M t c cap d z S0 Q0 s0 l0 cs0 rs0 m i1 s1 lf S Q csS rsS mo i s cs rs) : QO n f M t c cap d z S0 Q0 s0 l0 cs0 rs0 m i1 s1 lf S Q csS rsS mo i s (sI cs 331 t v) (setF rs 72 w) := h.mv0 ((PD.tx (by omega)).trans (PD.rF (by unfold pR'; omega))) (h.b.mv EM.refl h.b.kb (fun x j hj => AT.sI (by have := h.b.t37; omega)) (fun x _ _ h4 _ => AT.sI (by omega)) (fun x _ _ => AT.sI (by omega)) (fun k _ _ _ h' => pk_un h') (fun _ _ => ⟨rfl, rfl⟩) h.b.rS h.b.rQ) rfl rfl (Nat.le_refl _) rfl
theorem FQ.up {t c cap K0 S0 l0 lf r : Nat} {cs0 cs cs' : CS} {rs : RS} (h : FQ t c cap K0 S0 l0 cs0 lf r cs rs) (q : cs'.1 = cs.1) (a : ∀ x j, j < K0 → AT cs cs' x j) (ht : t < K0) (hc : c < K0) : FQ t c cap K0 S0 l0 cs0 lf r cs' rs := by
  have k1 : kK cs' = kK cs := congrArg (fun z => z.1) q
  have k2 : kM cs' = kM cs := congrArg (fun z => z.2.1) q
  have g : GF t K0 cs cs' := ⟨EM.of (congrArg (fun z => z.2.2) q), by omega, fun x j hj _ => a x j hj⟩
  have ws := h.ws.gf g (h.ws.kb.of q) ht hc
  exact ⟨h.pb.gf ws.f g ht, ws, h.em.trans (EM.of (congrArg (fun z => z.2.2) q)), fun x j a1 a2 a3 => (h.a0 x j a1 a2 a3).trans (a x j a1), by rw [k1]; exact h.kr, by rw [k2]; exact h.mr⟩
/-- behind a fault in an open order by -/
def FD (t c cap K0 S0 l0 : Nat) (cs0 : CS) (lf r oc : Nat) (cs : CS) (rs : RS) : Prop := (FQ t c cap K0 S0 l0 cs0 lf r cs rs) ∧ ((4, K0) ∈ kE cs) ∧ (∃ m, CLM oc m cs) ∧ (K0 < oc ∧ t < K0 ∧ c < K0)
theorem FD.q {t c cap K0 S0 l0 : Nat} {cs0 : CS} {lf r oc : Nat} {cs : CS} {rs : RS} (h : FD t c cap K0 S0 l0 cs0 lf r oc cs rs) : FQ t c cap K0 S0 l0 cs0 lf r cs rs := h.1
theorem FD.e4 {t c cap K0 S0 l0 : Nat} {cs0 : CS} {lf r oc : Nat} {cs : CS} {rs : RS} (h : FD t c cap K0 S0 l0 cs0 lf r oc cs rs) : (4, K0) ∈ kE cs := h.2.1
theorem FD.cl {t c cap K0 S0 l0 : Nat} {cs0 : CS} {lf r oc : Nat} {cs : CS} {rs : RS} (h : FD t c cap K0 S0 l0 cs0 lf r oc cs rs) : ∃ m, CLM oc m cs := h.2.2.1
theorem FD.od {t c cap K0 S0 l0 : Nat} {cs0 : CS} {lf r oc : Nat} {cs : CS} {rs : RS} (h : FD t c cap K0 S0 l0 cs0 lf r oc cs rs) : K0 < oc ∧ t < K0 ∧ c < K0 := h.2.2.2
theorem QO.fd {n : Nat} {f : Nat → Int32} {M t c cap : Nat} {d z S0 Q0 s0 l0 m i1 s1 lf S Q mo i s : Nat} {cs0 csS cs : CS} {rs0 rsS rs : RS} {q : Nat} {cs' : CS} {rs' : RS} (h : QO n f M t c cap d z S0 Q0 s0 l0 cs0 rs0 m i1 s1 lf S Q csS rsS mo i s cs rs) (fo : FO (PX t c q) cs cs') (hq : kK cs0 ≤ q) (pb : PB t c cs' rs') : FD t c cap (kK cs0) S0 l0 cs0 lf (2403 + 10 * (12 - z)) (kK csS) cs' rs' := by
  obtain ⟨x1, x2, x3, x4, x5, x6⟩ := h.g.ix
  obtain ⟨y1, y2, y3⟩ := h.g.kx
  have hkr := h.g.kr
  have hmr := h.g.mr
  have ct := h.g.ct
  have p0 := h.g.p0
  have z2 := h.b.z2
  have ki := h.ki
  have km := h.km
  have l3 := h.b.l3
  have k1 : kK cs' = kK cs := congrArg (fun z => z.1) fo.1
  have k2 : kM cs' = kM cs := congrArg (fun z => z.2.1) fo.1
  have Y : QRY (QR X0 n f M c s1 S Q csS rsS d) X0 n f M c s1 S0 S Q0 Q (kK cs0) (kK csS) (kK cs0) Q0 csS rsS := h.g.qr.2
  have od2 := Y.od.2
  have em : EM cs cs' := EM.of fo.e
  exact ⟨⟨pb, h.b.ws fo pb.s, (h.g.pd.em.trans h.p.em).trans em, fun x j a1 a2 a3 => ((h.g.pd.a0 x j a1 a2 a3).trans (h.p.a0 x j (by omega) a2 a3 (by omega))).trans (AT.fo fo (by unfold PX; omega)), by omega, by omega⟩, em _ (h.p.em _ Y.e4), ⟨mo, h.cl.keep em (fun x a1 a2 => AT.fo fo (by unfold PX; omega))⟩, ⟨od2, y1, y2⟩⟩
theorem QO.bad {n : Nat} {f : Nat → Int32} {M t c cap : Nat} {d z S0 Q0 s0 l0 m i1 s1 lf S Q mo i s : Nat} {cs0 csS cs : CS} {rs0 rsS rs : RS} {a v : Int32} (h : QO n f M t c cap d z S0 Q0 s0 l0 cs0 rs0 m i1 s1 lf S Q csS rsS mo i s cs rs) (ha : a ≠ 0) : FD t c cap (kK cs0) S0 l0 cs0 lf (2403 + 10 * (12 - z)) (kK csS) (sI (sI cs 320 t a) 321 t v) (setF (setF (setF rs 21 0) 19 a) 20 v) := h.fd (q := kK cs0) ((FO.sI (Or.inl ⟨by decide, rfl⟩)).trans (FO.sI (Or.inl ⟨by decide, rfl⟩))) (Nat.le_refl _) (h.b.jt.bad ha)
theorem mn_any {F : Nat} {cs : CS} {v w : Int64} : ∃ x, c_J9_min_f86c9 F cs v w = some x := by
  unfold c_J9_min_f86c9 c_J9_min_f86c9_b11
  by_cases y : w < v
  · exact ⟨w, by rw [if_pos y]⟩
  · exact ⟨v, by rw [if_neg y]⟩
/-- the class's rest of order by behind the word limit -/
def oL (F t oq : Nat) (cs : CS) : Option CS := Option.bind (ckE cs 10 t) fun _ => Option.bind (c_X9_readNumber F cs t (100)) fun z_3 => Option.bind (c_J9_min_f86c9 F z_3.1 z_3.2 (100)) fun v_5 => Option.bind (pI z_3.1 4 132 oq v_5.toInt32) fun cs_6 => some cs_6
theorem oL_f {F t c cap K0 S0 l0 lf r oc : Nat} {cs0 cs : CS} {rs : RS} (h : FD t c cap K0 S0 l0 cs0 lf r oc cs rs) : ∃ cs', oL F t K0 cs = some cs' ∧ FQ t c cap K0 S0 l0 cs0 lf r cs' rs := by
  obtain ⟨d1, d2, d3⟩ := h.od
  have fs := h.q.ws.f
  obtain ⟨v, hv⟩ := rdu_f (F := F) (x := 100) fs
  obtain ⟨x, hx⟩ := mn_any (F := F) (cs := cs) (v := v) (w := 100)
  refine ⟨sI cs 132 K0 x.toInt32, ?_, h.q.up rfl (fun y j hj => AT.sI (by omega)) d2 d3⟩
  unfold oL
  rw [ckE_ok fs.h.o, ob_s, hv, ob_s, hx, ob_s, pI_ok h.e4, ob_s]
theorem b107_o {F t oq : Nat} {cs : CS} : c_X9_readOrder_b107 F cs t oq = Option.bind (ckE cs 10 t) fun _ => Option.bind (c_X9_expect F cs t 16) fun cs_1 => oL F t oq cs_1 := rfl
theorem b107_f {F t c cap K0 S0 l0 lf r oc : Nat} {cs0 cs : CS} {rs : RS} (h : FD t c cap K0 S0 l0 cs0 lf r oc cs rs) : ∃ cs', c_X9_readOrder_b107 F cs t K0 = some cs' ∧ FQ t c cap K0 S0 l0 cs0 lf r cs' rs := by
  have fs := h.q.ws.f
  obtain ⟨cs', e1, e2⟩ := oL_f (F := F) h
  refine ⟨cs', ?_, e2⟩
  rw [b107_o, ckE_ok fs.h.o, ob_s, expf fs (by decide), ob_s]
  exact e1
theorem L43_0 {F v t oq oc : Nat} {cs : CS} {w : Int32} : c_X9_readOrder_L43 F (v + 1) cs t oq oc 0 w = c_X9_readOrder_b107 F cs t oq := by
  rw [c_X9_readOrder_L43]
  by_cases y : 2000 ≤ w
  · rw [if_pos y]
  · rw [if_neg y, if_pos rfl]
theorem b90_f {F v t c cap K0 S0 l0 lf r oc : Nat} {cs0 cs : CS} {rs : RS} {w a b : Int32} {nm : Int64} (h : FD t c cap K0 S0 l0 cs0 lf r oc cs rs) : ∃ cs', c_X9_readOrder_b90 F (c_X9_readOrder_L43 F (v + 1)) cs t K0 oc w a nm b oc = some cs' ∧ FQ t c cap K0 S0 l0 cs0 lf r cs' rs := by
  obtain ⟨d1, d2, d3⟩ := h.od
  obtain ⟨m, hc⟩ := h.cl
  obtain ⟨c1, m', e1, e2, e3, e4⟩ := add_any (F := F) (r := b) (nm := nm) (mk := a) (ty := 1) hc
  have fd : FD t c cap K0 S0 l0 cs0 lf r oc c1 rs := ⟨h.q.up e3 (fun x j hj => e4 x j (by omega)) d2 d3, EM.of (congrArg (fun z => z.2.2) e3) _ h.e4, ⟨m', e2⟩, h.od⟩
  obtain ⟨cs', f1, f2⟩ := b107_f (F := F) fd
  refine ⟨cs', ?_, f2⟩
  unfold c_X9_readOrder_b90
  rw [ckE_ok hc.e, ob_s, e1, ob_s, ckE_ok fd.q.ws.f.h.o, ob_s, acc_f fd.q.ws.f (by decide), ob_s]
  exact L43_0.trans f1
/-- the class's rest of one of order by, from the word desc -/
def oT (F t oq oc : Nat) (rc : CS → Nat → Nat → Nat → Int32 → Int32 → Option CS) (w b : Int32) (cs : CS) : Option CS := Option.bind (ckE cs 10 t) fun _ => Option.bind (c_X9_accept F cs t 15) fun z_19 => if z_19.2 = 0 then (c_X9_readOrder_b90 F rc z_19.1 t oq oc w 0 (-1) b oc) else (c_X9_readOrder_b90 F rc z_19.1 t oq oc w 1 (-1) b oc)
theorem oT_f {F v t c cap K0 S0 l0 lf r oc : Nat} {cs0 cs : CS} {rs : RS} {w b : Int32} (h : FD t c cap K0 S0 l0 cs0 lf r oc cs rs) : ∃ cs', oT F t K0 oc (c_X9_readOrder_L43 F (v + 1)) w b cs = some cs' ∧ FQ t c cap K0 S0 l0 cs0 lf r cs' rs := by
  obtain ⟨cs', f1, f2⟩ := b90_f (F := F) (v := v) (w := w) (a := 0) (b := b) (nm := -1) h
  refine ⟨cs', ?_, f2⟩
  unfold oT
  rw [ckE_ok h.q.ws.f.h.o, ob_s, acc_f h.q.ws.f (by decide), ob_s, if_pos rfl]
  exact f1
theorem L43_1 {F v t oq oc : Nat} {cs : CS} {w : Int32} (hw : ¬ 2000 ≤ w) : c_X9_readOrder_L43 F (v + 1) cs t oq oc 1 w = Option.bind (ckE cs 3 oc) fun _ => Option.bind (c_X2_isFull F cs oc) fun v_13 => Option.bind (ckE cs 10 t) fun _ => Option.bind (c_X9_refuseNinth F cs t v_13 1) fun cs_15 => Option.bind (ckE cs_15 10 t) fun _ => Option.bind (c_X9_readExpr F 300 cs_15 t) fun z_17 => oT F t oq oc (c_X9_readOrder_L43 F v) w z_17.2 z_17.1 := by
  rw [c_X9_readOrder_L43, if_neg hw, if_neg (by decide)]
  rfl
theorem q376_f {F : Nat} {T' : TG_queryOf} {rs : RS} {q : Int32} (h : FT rs) : m_queryOf_b376 F T' rs q = some (rs, q) := by
  obtain ⟨i, j1, j2⟩ := h.i
  unfold m_queryOf_b376 m_queryOf_b423 m_queryOf_b456
  rw [nw_f j1 j2 h.g, ob_s, if_pos h.g, if_pos h.g]
theorem L246_0 {F v : Nat} {T' : TG_queryOf} {rs : RS} {q : Int32} : m_queryOf_L246 F T' (v + 1) rs q 0 = m_queryOf_b376 F T' rs q := by
  rw [m_queryOf_L246, if_pos rfl]
theorem q310_f {F v : Nat} {T' : TG_queryOf} {rs : RS} {q x y : Int32} (h : FT rs) : m_queryOf_b310 F T' (m_queryOf_L246 F T' (v + 1)) rs q x y = some (rs, q) := by
  obtain ⟨i, j1, j2⟩ := h.i
  unfold m_queryOf_b310 m_queryOf_b366
  rw [tw_n j1 (iw_f h.g), ob_s, if_pos h.g, tg_n j1 (ig_f h.g), ob_s]
  exact L246_0.trans (q376_f h)

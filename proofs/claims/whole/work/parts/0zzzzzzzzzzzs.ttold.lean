/-! types, and what is told -/
theorem txg_type {F n : Nat} {f : Nat → Int32} {M t c cap K k s lf S Q oq ar : Nat} {V : VT} {D : Nat → Prop} {csH cs : CS} {rsH rs : RS} (h : TXG F n f M t c cap K k s lf S Q oq ar V D csH rsH) (g : KPN c k csH rsH cs rs) : ∃ e il mi, kR cs 129 oq = some il ∧ e < 60 ∧ rs.2.2.1 61 0 = nI e ∧ CLM il mi cs ∧ ∀ y, y < mi → kA cs 100 il y = rs.2.2.1 46 (8 * e + y) := by
  obtain ⟨o1, o2, o3, o4, o5, o6⟩ := h.od
  obtain ⟨e, it, mi, f1, ⟨f2, f3⟩, e60, f4, f5, f6, f7⟩ := h.fi
  have kH : KPX c s K k V csH rsH csH rsH := ⟨EM.refl, fun _ _ _ _ _ => AT.refl, h.vw, h.vw, fun _ _ _ => rfl, rfl⟩
  have w : QRYX (QXX V c s csH rsH 12) XJ V c s 0 S 0 K k oq 0 csH rsH := QR.x 13 S 0 0 K k oq 0 kH h.qr
  obtain ⟨L, m, lb, ub, wb, l1, l4, l5, l6, l7, l8, l9, l10, l11, lw, l14, so0, l15, l16⟩ := w.ls
  obtain ⟨so, e', s1, s2, s3, s4, ⟨it', gr, mi', ns, mg, o, ap, m1, n1, mgk⟩, s6⟩ := l14 0 (by omega)
  obtain ⟨L2, m2, it0, mi0, t1, t2, t3', t4, t5, t6, t7⟩ := h.ty
  have eL : L2 = L := Option.some.inj (t1.symm.trans l1)
  rw [eL] at t2 t6
  have em : m2 = m := (nI_eq (by omega) (by omega)).mp (t2.symm.trans l8)
  rw [em] at t6
  obtain ⟨so', it9, u1, u2', u3, u4, it8, gr8, mi8, ns8, mg8, v1, v2, v3, v4, v5, v6, v7, v8, v9, v10, v11⟩ := t6 0 (by omega)
  have es : so' = so := Option.some.inj (u1.symm.trans s1)
  have e0 : so0 = so := Option.some.inj (l15.symm.trans s1)
  rw [es] at v1
  rw [e0, o.r194] at l16
  have ei : it' = it := Option.some.inj (l16.symm.trans f1)
  have e8 : it8 = it := Option.some.inj (v1.symm.trans (o.r194.trans (by rw [ei])))
  rw [ei] at o
  rw [e8] at v3 v10
  have em8 : mi8 = mi := v3.same f6
  have em' : mi' = mi := o.ci.same f6
  rw [em8] at v10
  have ro : ROC V s it mi csH := fun y hy => by
    obtain ⟨r, r1, -, r3⟩ := o.is y (by omega)
    obtain ⟨a, ra⟩ := r3.rtt
    exact ⟨r, a, r1, ra⟩
  have t12 := v10.t12 ro
  have gr1 : ∀ q, 22 ≤ q → q ≤ 80 → rs.2.2.1 q = rsH.2.2.1 q := fun q h1 h2 => (g.fr q (by omega) h2 (by omega)).2.1
  have aq : kR cs 129 oq = kR csH 129 oq := by
    obtain ⟨w0, w1⟩ : S ≤ S ∧ QRY (QR XJ n f M c s S Q csH rsH 12) XJ n f M c s 0 S 0 Q K k oq 0 csH rsH := h.qr
    obtain ⟨d1, d2⟩ := w1.od
    exact (g.at' 129 oq (by omega) d2 (by omega) (by omega)).r
  refine ⟨e, it, mi, by rw [aq]; exact f1, e60, by rw [gr1 61 (by omega) (by omega)]; exact f4, f6.keep g.em (fun x x1 x2 => g.at' x it (by omega) f3 (by omega) (by omega)), fun y hy => ?_⟩
  rw [(g.at' 100 it (by omega) f3 (by omega) (by omega)).a, gr1 46 (by omega) (by omega)]
  rcases f7 y hy with ⟨a, b⟩ | ⟨a, b⟩ | ⟨a, b⟩
  · rw [a, b]
  · rw [a, b]
  · have z := t12 y hy
    rw [a] at z
    rcases z with z | z <;> exact absurd z (by decide)
theorem ok_17 {F i : Nat} {cs : CS} {rs : RS} (h : SIM F i cs rs) (x1 x2 x3 x4 x5 : Int32) : OKC F i (lk_17 F cs rs x1 x2 x3 x4 x5) := by
  refine ⟨cs, rs, ?_, h⟩
  have z8 : m_type_b38 F rs = some 0 := rfl
  have fin : ∃ v, c_X11_type F cs 0 x1 = some v ∧ m_type F rs x1 = some v := by
    obtain ⟨nst, st, s5, q | ⟨n, ff, M, t, cap, s, lf, S', Q, oq, ss, r, il, w, V, D, cg, cS, c0, cR, c4, c5, csH, rsH, od, S0, RR, Sr, C, CH, q⟩⟩ := h.st
    · refine ⟨0, ?_, ?_⟩
      · unfold c_X11_type c_X11_type_b19
        rw [gR_ok h.b.o, ob_s, q.s9, oc_n]
      · unfold m_type
        rw [if_pos q.h81, z8]
    · have w8 := q.al.w8
      obtain ⟨e, il', mi, t1, e60, t2, t4, t5⟩ := txg_type q.tx q.kp
      have ei : il' = il := Option.some.inj (t1.symm.trans q.an.im)
      rw [ei] at t4 t5
      have ew : mi = w := t4.same q.an.ic
      rw [ew] at t5
      obtain ⟨j, p100⟩ := q.an.ic.p100
      have l100 := q.an.ic.l100
      have hd : c_X11_type F cs 0 x1 = Option.bind (c_X2_has F cs il x1) fun v_4 => if v_4 = 0 then some 0 else Option.bind (rA cs 100 il j x1) fun v_13 => some v_13 := by
        unfold c_X11_type c_X11_type_b19
        rw [gR_ok h.b.o, ob_s, q.an.st, oc_s, ob_s, ob_s, ckE_ok q.an.ot, ob_s]
        unfold c_X9_columnType c_X9_columnType_b30
        rw [gR_ok q.an.ot, ob_s, q.an.tp, ob_s, gR_ok q.an.oq, ob_s, q.an.im, ob_s, ckE_ok q.an.ic.e, ob_s]
        rcases hh : c_X2_has F cs il x1 with _ | v4
        · rfl
        · show (Option.bind (if v4 = 0 then some 0 else _) fun v => some v) = (if v4 = 0 then some 0 else _)
          by_cases z : v4 = 0
          · rw [if_pos z, if_pos z]
            rfl
          · rw [if_neg z, if_neg z, ob_s, ob_s, gR_ok q.an.oq, ob_s, q.an.im, ob_s, gA_ok q.an.ic.e, p100, ob_s]
            rcases rA cs 100 il j x1 with _ | v
            · rfl
            · rfl
      rcases pk_ix x1 (n := w) (by omega) with o | o | ⟨y, y1, y2⟩
      · refine ⟨0, ?_, ?_⟩
        · rw [hd]
          unfold c_X2_has
          rw [if_pos o]
          rfl
        · unfold m_type
          rw [if_neg (by rw [q.h81]; decide), if_pos o, z8]
      · refine ⟨0, ?_, ?_⟩
        · rw [hd]
          unfold c_X2_has
          by_cases z : x1 < 0
          · rw [if_pos z]
            rfl
          · rw [if_neg z, gI_ok q.an.ic.e, ob_s, q.an.ic.sz, if_pos o]
            rfl
        · unfold m_type
          rw [if_neg (by rw [q.h81]; decide)]
          by_cases z : x1 < 0
          · rw [if_pos z, z8]
          · rw [if_neg z, q.al.x1, if_pos o, z8]
      · refine ⟨kA cs 100 il y, ?_, ?_⟩
        · rw [hd, y2, clm_has q.an.ic y1, ob_s, if_neg (by decide), rA_n q.an.ic.e100 p100 (by omega) (by omega), ob_s]
        · unfold m_type m_type_b39
          rw [if_neg (by rw [q.h81]; decide), y2, if_neg (nI_pos (by omega)), q.al.x1, if_neg (nI_ge y1 (by omega)), show (0 : Int32) = nI 0 from rfl, rdI_n (by omega) (by omega), ob_s, t2, show (8 : Int32) = nI 8 from rfl, pk_mul, nI_add, rdI_n (by omega) (by omega), ob_s, t5 y y1]
  obtain ⟨v, e1, e2⟩ := fin
  unfold lk_17
  rw [ckE_ok h.b.o, ob_s, e1, ob_s, e2, ob_s]
  exact if_pos rfl
theorem cnt_ok {F n : Nat} {cs : CS} {rs : RS} (b : Bas cs) (st : ST n cs rs) : ∀ (d k u : Nat) (acc : Int32), 48 - k ≤ d → d < u → k ≤ 48 → ∃ v, c_X7_rowCount_L4 F cs u 2 acc (nI k) = some v ∧ m_told_L18 F rs u acc (nI k) = some v := by
  intro d
  induction d with
  | zero =>
    intro k u acc h1 h2 h3
    obtain ⟨u, rfl⟩ : ∃ z, u = z + 1 := ⟨u - 1, by omega⟩
    have ek : k = 48 := by omega
    refine ⟨acc, ?_, ?_⟩
    · rw [c_X7_rowCount_L4, gA_ok b.oS, b.p261, ob_s, lnA_n b.e261 b.p261, ob_s, b.l261, ek, if_pos (nI_le (Nat.le_refl _) (by omega))]
    · rw [m_told_L18, ek, if_pos (by decide)]
  | succ d ih =>
    intro k u acc h1 h2 h3
    by_cases ek : k = 48
    · obtain ⟨u, rfl⟩ : ∃ z, u = z + 1 := ⟨u - 1, by omega⟩
      refine ⟨acc, ?_, ?_⟩
      · rw [c_X7_rowCount_L4, gA_ok b.oS, b.p261, ob_s, lnA_n b.e261 b.p261, ob_s, b.l261, ek, if_pos (nI_le (Nat.le_refl _) (by omega))]
      · rw [m_told_L18, ek, if_pos (by decide)]
    · obtain ⟨u, rfl⟩ : ∃ z, u = z + 1 := ⟨u - 1, by omega⟩
      obtain ⟨t1, t2⟩ := st.th k (by omega)
      obtain ⟨v, v1, v2⟩ := ih (k + 1) u (acc + rs.2.2.1 6 k) (by omega) (by omega) (by omega)
      refine ⟨v, ?_, ?_⟩
      · rw [c_X7_rowCount_L4, gA_ok b.oS, b.p261, ob_s, lnA_n b.e261 b.p261, ob_s, b.l261, if_neg (nI_ge (by omega) (by omega)), ob_s, rA_n b.e261 b.p261 (by rw [b.l261]; omega) (by rw [b.l261]; omega), ob_s, t1, nI_1]
        exact v1
      · rw [m_told_L18, if_neg (show ¬ (48 : Int32) ≤ nI k from (nI_ge (show k < 48 by omega) (by omega) : ¬ nI 48 ≤ nI k)), rdI_n (by omega) (by omega), ob_s]
        unfold m_told_b39
        rcases t2 with z | z
        · rw [z] at v2 ⊢
          rw [if_pos rfl, nI_1]
          exact v2
        · rw [z] at v2 ⊢
          rw [if_neg (by decide), nI_1]
          exact v2
/-- rows seen, in both -/
def VIS (F : Nat) (cs : CS) (rs : RS) : Prop := ∀ t, kR cs 389 0 = some t → ∃ v, c_X9_visibleRows F cs t 2 = some v ∧ m_told_L56 F rs F 0 0 = some v
theorem told_q {F i : Nat} {cs : CS} {rs : RS} {x1 : Int32} (hF : 10000 ≤ F) (h : SIM F i cs rs) (hv : VIS F cs rs) : ∃ v, c_X11_told F cs 0 x1 = some v ∧ m_told F rs x1 = some v := by
  obtain ⟨nst, st, s5, tx⟩ := h.st
  unfold c_X11_told m_told c_X11_told_b78 c_X11_told_b100 c_X11_told_b119 c_X11_told_b132 m_told_b231
  by_cases z0 : x1 = 0
  · rw [if_pos z0, if_pos z0, gR_ok h.b.o, ob_s, h.b.rS, ob_s, gI_ok h.b.oS, ob_s, st.ci, st.ri]
    exact ⟨_, rfl, rfl⟩
  · rw [if_neg z0, if_neg z0]
    by_cases z1 : x1 = 1
    · rw [if_pos z1, if_pos z1, gR_ok h.b.o, ob_s, h.b.rS, ob_s, ckE_ok h.b.oS, ob_s]
      obtain ⟨v, v1, v2⟩ := cnt_ok (F := F) h.b st 48 0 F 0 (by omega) (by omega) (by omega)
      refine ⟨v, ?_, v2⟩
      unfold c_X7_rowCount
      rw [show c_X7_rowCount_L4 F cs F 2 0 0 = some v from v1, ob_s]
    · rw [if_neg z1, if_neg z1]
      rcases tx with q | ⟨n, ff, M, t, cap, s, lf, S', Q, oq, ss, r, il, w, V, D, cg, cS, c0, cR, c4, c5, csH, rsH, od, S0, RR, Sr, C, CH, q⟩
      · rw [gR_ok h.b.o, ob_s, q.s9]
        have e2 : m_told_L56 F rs F 0 0 = some 0 := by
          obtain ⟨u, hu⟩ : ∃ z, F = z + 1 := ⟨F - 1, by omega⟩
          have : ∀ w, w = u + 1 → m_told_L56 F rs w 0 0 = some 0 := fun w hw => by
            rw [hw, m_told_L56, if_pos q.h81]
            rfl
          exact this F hu
        rw [e2, if_pos q.h81, if_pos q.h81, if_pos q.h81]
        simp only [oc_n]
        by_cases z2 : x1 = 2
        · rw [if_pos z2, if_pos z2]
          exact ⟨_, rfl, rfl⟩
        · rw [if_neg z2, if_neg z2]
          by_cases z3 : x1 = 3
          · rw [if_pos z3, if_pos z3]
            exact ⟨_, rfl, rfl⟩
          · rw [if_neg z3, if_neg z3]
            by_cases z4 : x1 = 4
            · rw [if_pos z4, if_pos z4]
              exact ⟨_, rfl, rfl⟩
            · rw [if_neg z4, if_neg z4]
              by_cases z5 : x1 = 5
              · rw [if_pos z5, if_pos z5]
                exact ⟨_, rfl, rfl⟩
              · rw [if_neg z5, if_neg z5]
                exact ⟨_, rfl, rfl⟩
      · have nz : ¬ rs.1 81 = 0 := by rw [q.h81]; decide
        obtain ⟨o1, o2, o3, o4, o5, o6⟩ := q.tx.od
        have a : ∀ x, 320 ≤ x → x < 352 → AT csH cs x t := fun x x1 x2 => q.kp.at' x t o1 (by omega) (by omega) (by omega)
        rw [gR_ok h.b.o, ob_s, q.an.st]
        simp only [oc_s, if_neg nz, ob_s]
        by_cases z2 : x1 = 2
        · rw [if_pos z2, if_pos z2, gR_ok h.b.o, ob_s, h.b.rS, ob_s, ckE_ok q.an.ot, ob_s]
          obtain ⟨v, v1, v2⟩ := hv t q.an.st
          rw [v1, v2, ob_s]
          exact ⟨_, rfl, rfl⟩
        · rw [if_neg z2, if_neg z2]
          by_cases z3 : x1 = 3
          · rw [if_pos z3, if_pos z3, gR_ok q.an.ot, ob_s, (a 322 (by omega) (by omega)).r, q.tx.r322, ob_s, gI_ok (q.kp.em _ q.tx.oc), ob_s, (q.kp.at' 64 (t + 1) (by omega) (by omega) (by omega) (by omega)).i, q.tx.sz, (q.kp.fr 22 (by omega) (by omega) (by omega)).1, q.tx.r22]
            exact ⟨_, rfl, rfl⟩
          · rw [if_neg z3, if_neg z3]
            by_cases z4 : x1 = 4
            · rw [if_pos z4, if_pos z4, gI_ok q.an.ot, ob_s, (a 325 (by omega) (by omega)).i, q.tx.c325, (q.kp.fr 69 (by omega) (by omega) (by omega)).1, q.tx.r69]
              exact ⟨_, rfl, rfl⟩
            · rw [if_neg z4, if_neg z4]
              by_cases z5 : x1 = 5
              · rw [if_pos z5]
                exact ⟨_, rfl, rfl⟩
              · rw [if_neg z5]
                exact ⟨_, rfl, rfl⟩
theorem ok_19 {F i : Nat} {cs : CS} {rs : RS} (hF : 10000 ≤ F) (h : SIM F i cs rs) (hv : VIS F cs rs) (x1 x2 x3 x4 x5 : Int32) : OKC F i (lk_19 F cs rs x1 x2 x3 x4 x5) := by
  refine ⟨cs, rs, ?_, h⟩
  obtain ⟨v, e1, e2⟩ := told_q (x1 := x1) hF h hv
  unfold lk_19
  rw [ckE_ok h.b.o, ob_s, e1, ob_s, e2, ob_s]
  exact if_pos rfl

/-! a SELECT: group by -/
theorem FW.colg {t c cap K0 S0 l0 o it lf r w : Nat} {cs0 cs cs' : CS} {rs : RS} (h : FW t c cap K0 S0 l0 cs0 o it lf r cs rs) (q : cs'.1 = cs.1) (a : ∀ x j, ¬ (96 ≤ x ∧ x ≤ 100 ∧ j = w) → AT cs cs' x j) (hw : it < w) : FW t c cap K0 S0 l0 cs0 o it lf r cs' rs := h.gf (K := w) ⟨EM.of (congrArg (fun z => z.2.2) q), by unfold kK; rw [q]; exact Nat.le_refl _, fun x j hj _ => a x j (by omega)⟩ RB.refl hw q
theorem L29_0 {F v t o : Nat} {cs : CS} {w : Int32} : c_X9_readGroups_L29 F (v + 1) cs t o 0 w = some cs := by
  rw [c_X9_readGroups_L29]
  unfold c_X9_readGroups_b99
  by_cases y : 2000 ≤ w
  · rw [if_pos y]
  · rw [if_neg y, if_pos rfl]
theorem L589_0 {F v : Nat} {T' : TG_queryOf} {rs : RS} {a b : Int32} : m_selectOf_L589 F T' (v + 1) rs a b 0 = m_selectOf_b736 F T' rs a b := by
  rw [m_selectOf_L589, if_pos rfl]
/-- the class's rest of one of group by: from its column's laying, from its name, from the word as -/
def gT3 (F t o : Nat) (rc : CS → Nat → Nat → Int32 → Int32 → Option CS) (w b v : Int32) (nm : Int64) (i : Nat) (cs : CS) : Option CS := Option.bind (ckE cs 3 i) fun _ => Option.bind (c_X2_add F cs i b nm v 1) fun cs_18 => Option.bind (ckE cs_18 10 t) fun _ => Option.bind (c_X9_accept F cs_18 t 43) fun z_21 => rc z_21.1 t o z_21.2 (w + 1)
def gT2 (F t o : Nat) (rc : CS → Nat → Nat → Int32 → Int32 → Option CS) (w b : Int32) (cs : CS) : Option CS := Option.bind (ckE cs 10 t) fun _ => Option.bind (c_X9_here F cs t) fun v_13 => Option.bind (gR cs 6 200 o) fun v_15 => Option.bind (ckE cs 10 t) fun _ => Option.bind (c_X9_readName F cs t) fun z_16 => Option.bind (v_15) fun i_19 => gT3 F t o rc w b v_13 z_16.2 i_19 z_16.1
def gT1 (F t o : Nat) (rc : CS → Nat → Nat → Int32 → Int32 → Option CS) (w b : Int32) (cs : CS) : Option CS := Option.bind (ckE cs 10 t) fun _ => Option.bind (c_X9_expect F cs t 17) fun cs_11 => gT2 F t o rc w b cs_11
theorem L29_1 {F v t o : Nat} {cs : CS} {w : Int32} (hw : ¬ 2000 ≤ w) : c_X9_readGroups_L29 F (v + 1) cs t o 1 w = Option.bind (gR cs 6 200 o) fun v_3 => Option.bind (v_3) fun i_5 => Option.bind (ckE cs 3 i_5) fun _ => Option.bind (c_X2_isFull F cs i_5) fun v_4 => Option.bind (ckE cs 10 t) fun _ => Option.bind (c_X9_refuseNinth F cs t v_4 1) fun cs_7 => Option.bind (ckE cs_7 10 t) fun _ => Option.bind (c_X9_readExpr F 300 cs_7 t) fun z_9 => gT1 F t o (c_X9_readGroups_L29 F v) w z_9.2 z_9.1 := by
  rw [c_X9_readGroups_L29, if_neg hw, if_neg (by decide)]
  rfl
theorem gT3_f {F v t c cap K0 S0 l0 o it lf r i m : Nat} {cs0 cs : CS} {rs : RS} {w b x : Int32} {nm : Int64} (h : FW t c cap K0 S0 l0 cs0 o it lf r cs rs) (hc : CLM i m cs) (hi : it < i) : ∃ cs', gT3 F t o (c_X9_readGroups_L29 F (v + 1)) w b x nm i cs = some cs' ∧ FW t c cap K0 S0 l0 cs0 o it lf r cs' rs := by
  obtain ⟨cs', m', e1, e2, e3, e4⟩ := add_any (F := F) (r := b) (nm := nm) (mk := x) (ty := 1) hc
  have fw := h.colg e3 e4 hi
  refine ⟨cs', ?_, fw⟩
  unfold gT3
  rw [ckE_ok hc.e, ob_s, e1, ob_s, ckE_ok fw.ws.f.h.o, ob_s, acc_f fw.ws.f (by decide), ob_s]
  exact L29_0
theorem gT2_f {F v t c cap K0 S0 l0 o it lf r i m : Nat} {cs0 cs : CS} {rs : RS} {w b : Int32} (h : FW t c cap K0 S0 l0 cs0 o it lf r cs rs) (hr : kR cs 200 o = some i) (hc : CLM i m cs) (hi : it < i) : ∃ cs', gT2 F t o (c_X9_readGroups_L29 F (v + 1)) w b cs = some cs' ∧ FW t c cap K0 S0 l0 cs0 o it lf r cs' rs := by
  obtain ⟨x, hx⟩ := herf (F := F) h.ws.f
  obtain ⟨nm, hn⟩ := rdn_f (F := F) h.ws.f
  obtain ⟨cs', e1, e2⟩ := gT3_f (F := F) (v := v) (w := w) (b := b) (x := x) (nm := nm) h hc hi
  refine ⟨cs', ?_, e2⟩
  unfold gT2
  rw [ckE_ok h.ws.f.h.o, ob_s, hx, ob_s, gR_ok h.wo.e, ob_s, ob_s, hn, ob_s, hr, ob_s]
  exact e1
theorem gT1_f {F v t c cap K0 S0 l0 o it lf r i m : Nat} {cs0 cs : CS} {rs : RS} {w b : Int32} (h : FW t c cap K0 S0 l0 cs0 o it lf r cs rs) (hr : kR cs 200 o = some i) (hc : CLM i m cs) (hi : it < i) : ∃ cs', gT1 F t o (c_X9_readGroups_L29 F (v + 1)) w b cs = some cs' ∧ FW t c cap K0 S0 l0 cs0 o it lf r cs' rs := by
  obtain ⟨cs', e1, e2⟩ := gT2_f (F := F) (v := v) (w := w) (b := b) h hr hc hi
  refine ⟨cs', ?_, e2⟩
  unfold gT1
  rw [ckE_ok h.ws.f.h.o, ob_s, expf h.ws.f (by decide), ob_s]
  exact e1
/-- what both do behind a fault in group by -/
theorem grp_bad {n : Nat} {f : Nat → Int32} {M t c cap : Nat} {d K0 S0 Q0 s0 l0 ql z o e it lf : Nat} {u1 : Option Nat} {u2 : Int32} {cs0 cs : CS} {rs0 rs : RS} {F : Nat} {T : TC_X9_readQuery} (h : FW t c cap K0 S0 l0 cs0 o it lf 2300 cs rs) : ∃ cs', c_X9_readSelect_b129 F T cs t u1 o = some (cs', o) ∧ SPO n f M t c cap d K0 S0 Q0 s0 l0 ql z u1 u2 cs0 rs0 o e it cs' (setF rs 71 u2) := ⟨_, b129_f h.ws, Or.inr ⟨lf, ((h.mark (v := 1)).end' (v := u1) (w := u2)).le (by omega)⟩⟩
theorem m725_f {F v : Nat} {T' : TG_queryOf} {rs : RS} {a b : Int32} (h : FT rs) : m_selectOf_b725 F T' (m_selectOf_L589 F T' (v + 1)) rs a b = some (setF rs 71 b, a) := by
  obtain ⟨i, j1, j2⟩ := h.i
  unfold m_selectOf_b725
  rw [tg_n j1 (ig_f h.g), ob_s]
  exact m589_f h
theorem m678_f {F v : Nat} {T' : TG_queryOf} {rs : RS} {a b x y w : Int32} (h : FT rs) : m_selectOf_b678 F T' (m_selectOf_L589 F T' (v + 1)) rs a b x y w = some (setF rs 71 b, a) := by
  unfold m_selectOf_b678
  rw [if_pos h.g]
  exact m725_f h
theorem m654_f {F v : Nat} {T' : TG_queryOf} {rs : RS} {a b x y : Int32} (h : FT rs) : m_selectOf_b654 F T' (m_selectOf_L589 F T' (v + 1)) rs a b x y = some (setF rs 71 b, a) := by
  obtain ⟨i, j1, j2⟩ := h.i
  unfold m_selectOf_b654
  rw [nw_f j1 j2 h.g, ob_s, if_pos h.g]
  exact m678_f h
theorem grp_L {n : Nat} {f : Nat → Int32} {M t c cap : Nat} {d K0 S0 Q0 s0 l0 ql z o e it gr mi ns lf S Q : Nat} {u1 : Option Nat} {u2 : Int32} {cs0 : CS} {rs0 : RS} {F : Nat} {T : TC_X9_readQuery} {T' : TG_queryOf} (hF : 10000 ≤ F) (h1 : 1 ≤ mi) (h2 : 1 ≤ ns) : ∀ (u v m i s : Nat) (cs : CS) (rs : RS), 11 ≤ u + m → 11 ≤ v + m → m ≤ 8 → SG none n f M t c cap d K0 S0 Q0 s0 l0 ql z u1 u2 cs0 rs0 o e it gr mi ns ns m i s lf S Q cs rs → kI cs 331 t = 0 → rs.1 72 = 0 → (kI cs 198 o = 1 ∧ rs.2.2.1 40 e = kI cs 199 o ∧ rs.2.2.1 40 e ≠ -1) → ∃ csX cs' rs', c_X9_readGroups_L29 F u cs t o 1 (nI m) = some csX ∧ c_X9_readSelect_b129 F T csX t u1 o = some (cs', o) ∧ m_selectOf_L589 F T' v rs (nI e) u2 1 = some (rs', nI e) ∧ SPO n f M t c cap d K0 S0 Q0 s0 l0 ql z u1 u2 cs0 rs0 o e it cs' rs' := by
  intro u
  induction u with
  | zero => intro v m i s cs rs q1 q2 q3; exact absurd q1 (by omega)
  | succ u ih =>
    intro v m i s cs rs q1 q2 q3 g cm rm h0
    obtain ⟨v, rfl⟩ : ∃ x, v = x + 1 := ⟨v - 1, by omega⟩
    obtain ⟨u', hu'⟩ : ∃ x, u = x + 1 := ⟨u - 1, by omega⟩
    obtain ⟨v', hv'⟩ : ∃ x, v = x + 1 := ⟨v - 1, by omega⟩
    have nz : ¬ (1 : Int32) = 0 := by decide
    obtain ⟨k1, k2, k3, k4⟩ := g.os.od
    obtain ⟨y1, y2, y3⟩ := g.kx
    have e60 := g.os.e60
    have ho := g.b.h.o
    have cg := g.os.cg
    have pg := g.pg0 (q := kK cs) (sel := 60) cm rm
    obtain ⟨cs5, cs6, rs6, a, b, v0, f1, f2, f3, f4, f5, f6, f7⟩ := root_step (F := F) (m := m) hF pg q3
    have er := f6 (fun r _ y => m_selectOf_b654 F T' (m_selectOf_L589 F T' v) r (nI e) u2 (nI m) y)
    rw [L29_1 (show ¬ 2000 ≤ nI m from nI_ge (b := 2000) (by omega) (by decide)), gR_ok g.os.e6, ob_s, g.os.r200, ob_s, ckE_ok cg.e, ob_s, clm_full cg, ob_s, ckE_ok ho, ob_s, f1, ob_s, ckE_ok f2, ob_s, f4, ob_s, m_selectOf_L589, if_neg nz, if_neg (show ¬ rs.1 21 = 0 by rw [g.b.g1]; decide), rdI_n e60 (by decide), ob_s, g.os.rg]
    unfold m_selectOf_b639
    rw [show (if nI m = 8 then _ else _ : Option (RS × Int32)) = _ from er]
    show ∃ csX cs' rs', gT1 F t o (c_X9_readGroups_L29 F u) (nI m) b cs6 = some csX ∧ _
    rcases f7 with ⟨m8, -, i', s', h, ea, eb⟩ | ⟨pb, fo, fr⟩
    · subst ea
      subst eb
      have g1 := g.ex0 h
      have cm1 : kI cs6 331 t = 0 := h.g.cm
      have rm1 : rs6.1 72 = 0 := (h.fr.f (by unfold eR; omega)).trans rm
      have a198 : AT cs cs6 198 o := AT.fo h.fo (by unfold PX; omega)
      have a199 : AT cs cs6 199 o := AT.fo h.fo (by unfold PX; omega)
      have r40 : rs6.2.2.1 40 e = rs.2.2.1 40 e := congrFun (h.fr.a (by unfold eR; omega)) e
      have h01 : kI cs6 198 o = 1 ∧ rs6.2.2.1 40 e = kI cs6 199 o ∧ rs6.2.2.1 40 e ≠ -1 := by
        rw [a198.i, a199.i, r40]; exact h0
      have rt : RT n f M c 0 false s' (s' - 1) cs6 rs6 := (RT.eg h).f0
      have sl := h.sl
      have nd := g1.b.jt.need (F := F) (x := 25) hF (by decide) (by decide)
      rw [show nI (swK 25) = 17 by decide] at nd
      unfold gT1 m_selectOf_b654
      rw [ckE_ok g1.b.h.o, ob_s]
      rcases nd with ⟨w1, w2, w3⟩ | ⟨w2, w3⟩
      · have g2 := g1.tok w1
        have cm2 : kI (sI cs6 328 t (nI (i' + 1))) 331 t = 0 := (kI_n (by omega)).trans cm1
        have h02 : kI (sI cs6 328 t (nI (i' + 1))) 198 o = 1 ∧ (setF rs6 18 (nI (i' + 1))).2.2.1 40 e = kI (sI cs6 328 t (nI (i' + 1))) 199 o ∧ (setF rs6 18 (nI (i' + 1))).2.2.1 40 e ≠ -1 := by
          rw [kI_n (by omega), kI_n (by omega)]; exact h01
        have rt2 : RT n f M c 0 false s' (s' - 1) (sI cs6 328 t (nI (i' + 1))) (setF rs6 18 (nI (i' + 1))) := rt.kf (Nat.le_refl _) (fun _ _ => rfl) TKF.refl
        have rm2 : (setF rs6 18 (nI (i' + 1))).1 72 = 0 := rm1
        have hh2 := her_ok (F := F) g2.b.h g2.b.ci g2.b.jt.i2
        have nu2 := num_ok (F := F) g2.b.h g2.b.ci g2.b.jt.i2
        obtain ⟨c2, hc2⟩ : ∃ x, x = sI cs6 328 t (nI (i' + 1)) := ⟨_, rfl⟩
        obtain ⟨r2, hr2⟩ : ∃ x, x = setF rs6 18 (nI (i' + 1)) := ⟨_, rfl⟩
        rw [← hc2] at g2 cm2 w2 h02 rt2 hh2 nu2
        rw [← hr2] at g2 w3 h02 rt2 rm2
        have pg2 := g2.pg0 (q := kK c2) (sel := 60) cm2 rm2
        rw [w2, ob_s, w3, ob_s, if_neg (show ¬ r2.1 21 = 0 by rw [g2.b.g1]; decide)]
        have hgr2 := g2.os.r200
        have hcg2 := g2.os.cg
        unfold gT2 c_X9_readName
        rw [ckE_ok g2.b.h.o, ob_s, hh2, ob_s, gR_ok g2.os.e6, ob_s, ob_s, ob_s, nu2, ob_s, ob_s]
        rcases pg2.nm (F := F) hF with ⟨t1, t2, t3, p, tk⟩ | ⟨c3, r3, t2, t3, pb, sq⟩
        · have g3 := g2.tok t1
          have cm3 : kI (sI c2 328 t (nI (i' + 1 + 1))) 331 t = 0 := (kI_n (by omega)).trans cm2
          have h03 : kI (sI c2 328 t (nI (i' + 1 + 1))) 198 o = 1 ∧ (setF r2 18 (nI (i' + 1 + 1))).2.2.1 40 e = kI (sI c2 328 t (nI (i' + 1 + 1))) 199 o ∧ (setF r2 18 (nI (i' + 1 + 1))).2.2.1 40 e ≠ -1 := by
            rw [kI_n (by omega), kI_n (by omega)]; exact h02
          have rt3 : RT n f M c 0 false s' (s' - 1) (sI c2 328 t (nI (i' + 1 + 1))) (setF r2 18 (nI (i' + 1 + 1))) := rt2.kf (Nat.le_refl _) (fun _ _ => rfl) TKF.refl
          have nm3 : NM9 n f (i' + 1) (kB c2 354 9 (i' + 1)) (sI c2 328 t (nI (i' + 1 + 1))) (setF r2 18 (nI (i' + 1 + 1))) := ⟨p, tk.f TKF.refl, rfl⟩
          have pl3 : kA c2 353 9 (i' + 1) = kA (sI c2 328 t (nI (i' + 1 + 1))) 353 9 (i' + 1) := rfl
          have rm3 : (setF r2 18 (nI (i' + 1 + 1))).1 72 = 0 := rm2
          have im3 := g2.b.im
          obtain ⟨c3, hc3⟩ : ∃ x, x = sI c2 328 t (nI (i' + 1 + 1)) := ⟨_, rfl⟩
          obtain ⟨r3, hr3⟩ : ∃ x, x = setF r2 18 (nI (i' + 1 + 1)) := ⟨_, rfl⟩
          rw [← hc3] at g3 cm3 h03 rt3 nm3 pl3 t2
          rw [← hr3] at g3 h03 rt3 nm3 rm3 t3
          have g4 := g3.addg (r := nI (s' - 1)) (nw := nI (i' + 1)) (nm := kB c2 354 9 (i' + 1)) (mk := kA c2 353 9 (i' + 1)) m8 h03 ⟨s' - 1, i' + 1, rfl, rt3, im3, rfl, nm3, pl3⟩
          have cm4 : kI (adC c3 gr m (nI (s' - 1)) (kB c2 354 9 (i' + 1)) (kA c2 353 9 (i' + 1)) 1) 331 t = 0 := (adC_at (by omega)).i.trans cm3
          have h04 : kI (adC c3 gr m (nI (s' - 1)) (kB c2 354 9 (i' + 1)) (kA c2 353 9 (i' + 1)) 1) 198 o = 1 ∧ (setI (setI (setI r3 47 (8 * e + m) (nI (s' - 1))) 48 (8 * e + m) (nI (i' + 1))) 39 e (nI (m + 1))).2.2.1 40 e = kI (adC c3 gr m (nI (s' - 1)) (kB c2 354 9 (i' + 1)) (kA c2 353 9 (i' + 1)) 1) 199 o ∧ (setI (setI (setI r3 47 (8 * e + m) (nI (s' - 1))) 48 (8 * e + m) (nI (i' + 1))) 39 e (nI (m + 1))).2.2.1 40 e ≠ -1 := by
            rw [(adC_at (by omega)).i, (adC_at (by omega)).i]
            exact h03
          have cadd := adC_ok (F := F) (r := nI (s' - 1)) (nm := kB c2 354 9 (i' + 1)) (mk := kA c2 353 9 (i' + 1)) (ty := 1) g3.os.cg m8
          have r39 : r3.2.2.1 39 e = nI m := g3.os.rg
          have wr : m_selectOf_b678 F T' (m_selectOf_L589 F T' v) r3 (nI e) u2 (nI m) (nI (s' - 1)) (nI (i' + 1)) = m_selectOf_b725 F T' (m_selectOf_L589 F T' v) (setI (setI (setI r3 47 (8 * e + m) (nI (s' - 1))) 48 (8 * e + m) (nI (i' + 1))) 39 e (nI (m + 1))) (nI e) u2 := by
            unfold m_selectOf_b678
            rw [if_neg (show ¬ r3.1 21 = 0 by rw [g3.b.g1]; decide), nI_8, nI_add, wrI_n (by omega) (by decide), ob_s, wrI_n (by omega) (by decide), ob_s, rdI_n e60 (by decide), ob_s, show (setI (setI r3 47 (8 * e + m) (nI (s' - 1))) 48 (8 * e + m) (nI (i' + 1))).2.2.1 39 e = nI m from r39, nI_1, wrI_n e60 (by decide), ob_s]
          obtain ⟨c4, hc4⟩ : ∃ x, x = adC c3 gr m (nI (s' - 1)) (kB c2 354 9 (i' + 1)) (kA c2 353 9 (i' + 1)) 1 := ⟨_, rfl⟩
          obtain ⟨r4, hr4⟩ : ∃ x, x = setI (setI (setI r3 47 (8 * e + m) (nI (s' - 1))) 48 (8 * e + m) (nI (i' + 1))) 39 e (nI (m + 1)) := ⟨_, rfl⟩
          rw [← hc4] at g4 cm4 h04 cadd
          rw [← hr4] at g4 h04 wr
          have rm4 : r4.1 72 = 0 := by rw [hr4]; exact rm3
          rw [t2, ob_s, ob_s, t3, ob_s]
          show ∃ csX cs' rs', (Option.bind (kR c2 200 o) fun i_19 => gT3 F t o (c_X9_readGroups_L29 F u) (nI m) (nI (s' - 1)) (kA c2 353 9 (i' + 1)) (kB c2 354 9 (i' + 1)) i_19 c3) = some csX ∧ _ ∧ m_selectOf_b678 F T' (m_selectOf_L589 F T' v) r3 (nI e) u2 (nI m) (nI (s' - 1)) (nI (i' + 1)) = _ ∧ _
          rw [hgr2, ob_s, wr]
          unfold gT3 m_selectOf_b725
          rw [ckE_ok g3.os.cg.e, ob_s, cadd, ob_s, ckE_ok g4.b.h.o, ob_s, nI_1]
          have ms := g4.b.jt.mayS (F := F) (k := 43) (by decide) (by decide)
          rw [show nI 43 = 43 by decide, show st 43 = 44 by decide] at ms
          rcases ms with ⟨z1, z2, z3⟩ | ⟨z2, z3⟩
          · rw [z2, ob_s, z3, ob_s]
            exact ih v (m + 1) (i' + 1 + 1 + 1) s' _ _ (by omega) (by omega) (by omega) (g4.tok z1) ((kI_n (by omega)).trans cm4) rm4 (by
              rw [kI_n (by omega), kI_n (by omega)]
              exact h04)
          · rw [z2, ob_s, z3, ob_s, hu', hv']
            show ∃ csX cs' rs', c_X9_readGroups_L29 F (u' + 1) c4 t o 0 (nI (m + 1)) = some csX ∧ _ ∧ m_selectOf_L589 F T' (v' + 1) r4 (nI e) u2 0 = _ ∧ _
            rw [L29_0, L589_0]
            obtain ⟨cs', rs', s1, s2, s3⟩ := st_h (T := T) (T' := T') hF g4 h1 h2 (fun _ => by omega)
            exact ⟨c4, cs', rs', rfl, s1, s2, s3⟩
        · have fw := g2.fw sq.1 (by have := g2.k0; omega) pb
          have acg : CLM gr m c3 := hcg2.keep (EM.of sq.1.e) (fun x a1 a2 => AT.fo sq.1 (by unfold PX; omega))
          rw [t2, ob_s, ob_s, t3, ob_s]
          show ∃ csX cs' rs', (Option.bind (kR c2 200 o) fun i_19 => gT3 F t o (c_X9_readGroups_L29 F u) (nI m) (nI (s' - 1)) (kA c2 353 9 (i' + 1)) (kB c2 354 9 (i' + 1)) i_19 c3) = some csX ∧ _ ∧ m_selectOf_b678 F T' (m_selectOf_L589 F T' v) r3 (nI e) u2 (nI m) (nI (s' - 1)) (nI (i' + 1)) = _ ∧ _
          rw [hgr2, ob_s, hu', hv', m678_f pb.r]
          obtain ⟨csX, x1, x2⟩ := gT3_f (F := F) (v := u') (w := nI m) (b := nI (s' - 1)) (x := kA c2 353 9 (i' + 1)) (nm := kB c2 354 9 (i' + 1)) fw acg (by omega)
          obtain ⟨cs', z1, z2⟩ := grp_bad (F := F) (T := T) (n := n) (f := f) (M := M) (d := d) (Q0 := Q0) (s0 := s0) (ql := ql) (z := z) (e := e) (u1 := u1) (u2 := u2) (rs0 := rs0) x2
          exact ⟨csX, cs', _, x1, z1, rfl, z2⟩
      · have fw := g1.bad (a := 1) (v := kA cs6 353 9 i') (by decide)
        have acg : CLM gr m (sI (sI cs6 320 t 1) 321 t (kA cs6 353 9 i')) := g1.os.cg.keep EM.refl (fun x a1 a2 => (AT.sI (by omega)).trans (AT.sI (by omega)))
        have rr : kR (sI (sI cs6 320 t 1) 321 t (kA cs6 353 9 i')) 200 o = some gr := g1.os.r200
        rw [w2, ob_s, w3, ob_s, if_pos fw.pb.r.g, hu', hv', m678_f fw.pb.r]
        obtain ⟨csX, x1, x2⟩ := gT2_f (F := F) (v := u') (w := nI m) (b := nI (s' - 1)) fw rr acg (by omega)
        obtain ⟨cs', z1, z2⟩ := grp_bad (F := F) (T := T) (n := n) (f := f) (M := M) (d := d) (Q0 := Q0) (s0 := s0) (ql := ql) (z := z) (e := e) (u1 := u1) (u2 := u2) (rs0 := rs0) x2
        exact ⟨csX, cs', _, x1, z1, rfl, z2⟩
    · have fw := g.fw fo (by omega) pb
      have acg : CLM gr m cs6 := cg.keep (EM.of fo.e) (fun x a1 a2 => AT.fo fo (by unfold PX; omega))
      have rr : kR cs6 200 o = some gr := by rw [fo.2.1]; exact g.os.r200
      rw [hu', hv', m654_f pb.r]
      obtain ⟨csX, x1, x2⟩ := gT1_f (F := F) (v := u') (w := nI m) (b := b) fw rr acg (by omega)
      obtain ⟨cs', z1, z2⟩ := grp_bad (F := F) (T := T) (n := n) (f := f) (M := M) (d := d) (Q0 := Q0) (s0 := s0) (ql := ql) (z := z) (e := e) (u1 := u1) (u2 := u2) (rs0 := rs0) x2
      exact ⟨csX, cs', _, x1, z1, rfl, z2⟩

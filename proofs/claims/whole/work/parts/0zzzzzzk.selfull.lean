/-! a SELECT, checked as a whole -/
/-- what the checking of the SELECT so / e leaves -/
def SCP (n : Nat) (f : Nat → Int32) (M c s : Nat) (V : VT) (S Q d lo hi ql B so e : Nat) (D : Nat → Prop) (cs : CS) (rs : RS) : Prop := SEL (QB B (QR XJ n f M c s S Q cs rs d)) XJ n f M c s lo hi ql so e cs rs ∧ SDN (JDN c s V D lo hi cs rs d) c s V D lo hi so e cs rs ∧ (∃ (b : Int32) (ns : Nat), ns ≤ 3 ∧ rs.2.2.1 37 e = nI ns ∧ KPT d so e ns b cs rs) ∧ ∃ it mi, kR cs 194 so = some it ∧ lo ≤ it ∧ it < hi ∧ rs.2.2.1 36 e = nI mi ∧ CLM it mi cs ∧ (∀ y, y < mi → NMR n f M (kB cs 98 it y) (rs.2.2.1 45 (8 * e + y)) cs rs) ∧ (∀ y, y < mi → TYR (kA cs 100 it y) (rs.2.2.1 46 (8 * e + y)))
theorem sel_H {n : Nat} {f : Nat → Int32} {M t c cap s k : Nat} {V : VT} {ss S Q K d B lo hi ql so e : Nat} {D : Nat → Prop} {F : Nat} {T T2 T2' : TC_X0_checkQuery} {T' : TG_judgeQuery} {cs : CS} {rs : RS} (hF : 10000 ≤ F) (sk : SKV V s) (hs : s ≤ 120) (hd : d ≤ 90) (hK : t < K ∧ c < K ∧ K ≤ lo ∧ hi ≤ k) (heB : e < B) (hJ : JQS n f M t c cap s k V ss S Q K d T2.1 T'.1) (hT2 : T.2.2.1 = cb_X0_checkSource F T2') (hT : T2'.2.2.2 = cb_X0_checkInner F T2) (h : JH n f M t c cap s k V D cs rs) (g1 : rs.1 21 = 1) (st : STM ss cs rs) (uq : UQ K c s cs) (z0 : Z0 lo hi cs) (se : SEL (QB B (QR X0 n f M c s S Q cs rs d)) X0 n f M c s lo hi ql so e cs rs) : ∃ cs' rs' D', cb_X0_checkSelect F T cs k so = some cs' ∧ b_judgeSelect F T' rs (nI e) = some rs' ∧ JH n f M t c cap s k V D' cs' rs' ∧ JK t c k lo hi e B cs rs cs' rs' ∧ (∃ it mi, kR cs 194 so = some it ∧ kR cs' 194 so = some it ∧ CLM it mi cs' ∧ lo ≤ it ∧ it < hi) ∧ (rs'.1 21 = 1 → (∀ z, D z → D' z) ∧ SCP n f M c s V S Q d lo hi ql B so e D' cs' rs') := by
  obtain ⟨k1, k2, k3, k4⟩ := hK
  obtain ⟨it, gr, mi, ns, mg, os, ag, hmi, hns, hmg⟩ := se
  obtain ⟨d1, d2, d3, d4⟩ := os.od
  obtain ⟨na, sl⟩ := SLT.of os ag h.v
  obtain ⟨b, u, v, b0, b1, b2, u0, u1, b3⟩ := os.so
  have n3 := os.n3
  have e60 := os.e60
  have bv : BUV t c K k so e it gr ns hi b u v := ⟨⟨d2, d3, b0⟩, b1, b2, fun j hj => (u0 j hj).1, u1, k1, k2, by omega, k4⟩
  have hv : ∀ j, j < ns → v j ≤ B := fun j hj => by
    obtain ⟨oo, o1, o2⟩ := b3 j hj
    rcases o2.b.kd with ⟨dd, h9, -, w, -⟩ | ⟨-, -, -, -, oi, qi, lo', -, -, -, -, y⟩
    · rw [(u0 j hj).2 (by rw [w]; exact nI_nm1 (by omega))]
      exact Nat.zero_le _
    · exact y.1
  have i206 : kI cs 206 so = 0 := (z0 so d1 (by omega)).2.1
  have sli : SLI n f M t c cap s k V ss S Q K d so e it gr mi ns mg na hi ql b u v 0 0 D cs rs := ⟨h, sl, SAR.of os, SNM.of os, st, uq, z0.sub (by omega) (Nat.le_refl _), fun j _ hj => by
    obtain ⟨oo, o1, o2⟩ := b3 j hj
    exact ⟨oo, o1, o2.keep FY.refl (Nat.le_refl _) (fun _ _ _ => rfl) rfl (fun _ _ _ _ w => w.2) (fun _ _ _ w => w)⟩, fun _ => ⟨⟨1, Or.inl ⟨rfl, fun j hj => absurd hj (by omega)⟩, Or.inl ⟨i206, rfl⟩⟩, fun j hj => absurd hj (by omega), fun _ => 0, fun _ => 0, rfl, rfl, fun j hj => absurd hj (by omega), fun j hj => absurd hj (by omega)⟩⟩
  obtain ⟨c1, r1, D1, off1, a1, a2, a3, a4, a5, a6, a7, a8, a9⟩ := sel_L (lo := lo) (B := B) (T := T) (T2 := T2) (T2' := T2') (T' := T') hF sk hs hd bv hv heB d1 hJ hT2 hT 3 0 F F 0 0 D cs rs (by omega) (by omega) (by omega) (Nat.zero_le _) (fun _ => rfl) sli
  -- what stands behind the SOURCES
  have at1 : r1.1 21 = 1 → (∀ i, i < ns → ∃ oo cl m, kQ c1 195 so i = some oo ∧ SCC n f M oo cl m (3 * e + i) c1 r1) ∧ SEP so e ns gr c1 r1 ∧ ∃ b : Int32, ((kI c1 206 so = 0 ∧ b = 1) ∨ (kI c1 206 so ≠ 0 ∧ b = 0)) ∧ ∀ rs' : RS, FR jK r1 rs' → m_isKeptSelect F 300 rs' (nI e) (nI ns) = some b := fun g => by
    obtain ⟨-, -, q⟩ := a9 g
    obtain ⟨⟨b', kp⟩, srs, ma, mm, m0, m1, m2, ent⟩ := q.gd g
    refine ⟨srs, fun i oo hi' ho => ?_, b', kp.2, fun rs' fr => ?_⟩
    · obtain ⟨oj, e1, e2, e3⟩ := ent i hi'
      have eo : oj = oo := Option.some.inj (e1.symm.trans ho)
      have bi := bv.le (j := 0) (j' := i) (Nat.zero_le _) (by omega)
      have ol := e2.b.ol
      obtain ⟨cl', x1, x2, x3, x4⟩ := e2.b.cl
      refine ⟨fun cl hc => ?_, fun qi ei w1 w2 w3 w4 w5 => ?_⟩
      · rw [← eo] at hc
        have := Option.some.inj (hc.symm.trans x3)
        omega
      · rcases e2.b.kd with ⟨dd, h9, -, w, -⟩ | ⟨y1, y2, y3, y4, oi, q', lo', y5, y6, y7, y8, y9⟩
        · exact absurd (w.symm.trans w3) (nI_nm1 (by omega))
        · have eq : q' = qi := (nI_eq (by omega) (by omega)).mp (y7.symm.trans w4)
          obtain ⟨e', f1, f2, f3, f4⟩ := y9.first
          rw [eq] at f1
          have ee : e' = ei := (nI_eq (by omega) (by omega)).mp (f1.symm.trans w5)
          have := (u0 i hi').1
          omega
    · exact (kp.1.fr fr).run hF (by omega) n3
  obtain ⟨c2, r2, D2, t1, t2, t3, t4, t5⟩ := sel_tail (T := T) (T' := T') hF sk hs a5 a6 at1
  have bz := bv.le (j := 0) (j' := ns) (Nat.zero_le _) (Nat.le_refl _)
  have em1 : EM cs c1 := EM.of (congrArg (fun z => z.2.2) a3.c1)
  have em2 : EM c1 c2 := EM.of (congrArg (fun z => z.2.2) t4.c1)
  have em : EM cs c2 := fun x hx => em2 x (em1 x hx)
  have hV : ∀ x, x < s → VW c c2 r2 x = VW c cs rs x := fun x hx => (t3.v x hx).trans (h.v x hx).symm
  have jk := a3.trans (t4.jk (lo := lo) (hi := hi) (Sl := e) (Sh := B) ⟨d1, by omega, by omega⟩ ⟨by omega, by omega, by omega⟩ (Nat.le_refl _) heB)
  have tk := jk.tkf
  have ra : ∀ q, ¬ jK q → r2.2.2.1 q = rs.2.2.1 q := fun q hq => jk.fr.a hq
  have ra2 : ∀ q, ¬ jK q → r2.2.2.1 q = r1.2.2.1 q := fun q hq => t4.fr.a hq
  have lw : ∀ x j, j < b 0 → K ≤ j → ¬ (j = so ∧ x = 206) → ¬ ((j = it ∨ j = gr) ∧ x = 100) → AT cs c2 x j := fun x j w1 w2 w3 w4 => (a4 x j w1 (by omega) (by omega) w3).trans (t4.a0 x j (by omega) (by omega) (by omega) w4)
  have aso : ∀ x, x ≠ 206 → AT cs c2 x so := fun x hx => lw x so (by omega) (by omega) (by omega) (by omega)
  have ait : ∀ x, x ≠ 100 → AT cs c2 x it := fun x hx => lw x it (by omega) (by omega) (by omega) (by omega)
  have agr : ∀ x, x ≠ 100 → AT cs c2 x gr := fun x hx => lw x gr (by omega) (by omega) (by omega) (by omega)
  have ci2 : CLM it mi c2 := os.ci.kept em (fun x x1 x2 => ait x (by omega)) (by
    have w1 := a4 100 it (by omega) (by omega) (by omega) (by omega)
    have w2 := t4.pl 100 it (by omega) (by omega)
    exact ⟨w2.1.trans w1.p, w2.2.trans w1.l⟩)
  have cg2 : CLM gr mg c2 := os.cg.kept em (fun x x1 x2 => agr x (by omega)) (by
    have w1 := a4 100 gr (by omega) (by omega) (by omega) (by omega)
    have w2 := t4.pl 100 gr (by omega) (by omega)
    exact ⟨w2.1.trans w1.p, w2.2.trans w1.l⟩)
  refine ⟨c2, r2, D2, (show c_X0_checkSelect_L2 F T F cs k so (nI 0) = some c2 from a1.trans t1), (show m_judgeSelect_L4 F T' F rs (nI e) 0 (nI 0) = some r2 from a2.trans t2), t3, a3.trans (t4.jk ⟨d1, by omega, by omega⟩ ⟨by omega, by omega, by omega⟩ (Nat.le_refl _) heB), ⟨it, mi, os.r194, by rw [(aso 194 (by decide)).r]; exact os.r194, ci2, by omega, by omega⟩, fun g => ?_⟩
  obtain ⟨g2, p1, j1, j2, j3, j4, j5, j6⟩ := t5 g
  obtain ⟨-, p2, q⟩ := a9 g2
  obtain ⟨⟨b', kp⟩, srs, ma, mm, m0, m1, m2, ent⟩ := q.gd g2
  have am : ∀ x, AM so cs x → AM so c2 x := fun x hx => by
    obtain ⟨j, k', y1, y2, y3, y4⟩ := hx
    exact ⟨j, k', y1, by rw [(aso 203 (by decide)).i]; exact y2, y3, by rw [(aso 202 (by decide)).a]; exact y4⟩
  have is2 : ∀ y, y < mi → ∃ r, kA c2 97 it y = nI r ∧ r2.2.2.1 44 (8 * e + y) = nI r ∧ RT n f M c so true s r c2 r2 ∧ NMR n f M (kB c2 98 it y) (r2.2.2.1 45 (8 * e + y)) c2 r2 := fun y hy => by
    obtain ⟨r, r1', r2', r3, r4⟩ := os.is y hy
    exact ⟨r, by rw [(ait 97 (by decide)).a]; exact r1', by rw [ra 44 (by unfold jK; omega)]; exact r2', r3.keep (Nat.le_refl _) hV tk am, by rw [(ait 98 (by decide)).b, ra 45 (by unfold jK; omega)]; exact r4.f tk⟩
  -- the SOURCES behind the rest
  have ent2 : ∀ j, j < ns → ∃ oo, kQ c2 195 so j = some oo ∧ SRC (QR XJ n f M c s S Q c2 r2 d (v j)) XJ n f M c s (b j) (b (j + 1)) (u j) ql j oo (3 * e + j) c2 r2 ∧ SRD (JDN c s V D2 lo hi c2 r2 d) s V D2 oo e j (ma j) (mm j) c2 r2 := fun j hj => by
    obtain ⟨oj, e1, e2, e3⟩ := ent j hj
    have bj0 := bv.le (j := 0) (j' := j) (Nat.zero_le _) (by omega)
    have bj1 := bv.le (j := j + 1) (j' := ns) (by omega) (Nat.le_refl _)
    have ol := e2.b.ol
    have oh := e2.b.oh
    obtain ⟨cl', x1, x2, -⟩ := e2.b.cl
    have az : ∀ x z, b j ≤ z → z < b (j + 1) → AT c1 c2 x z := fun x z z1 z2 => t4.a0 x z (by omega) (by omega) (by omega) (by omega)
    have fy : ∀ l, b j ≤ l → FY c l (b (j + 1)) s c1 r1 c2 r2 := fun l hl => ⟨em2, fun x y y1 y2 _ => az x y (by omega) y2, fun y y1 y2 => (az 100 y (by omega) y2).ap, fun x hx => (t3.v x hx).trans (a5.v x hx).symm, t4.tkf⟩
    have xj : ∀ x, b j ≤ x → x < b (j + 1) → XJ x c1 → XJ x c2 := fun x z1 z2 w => XJ.at' em2 (fun y => az y x z1 z2) w
    refine ⟨oj, by rw [(t4.a0 195 so (by omega) (by omega) (by omega) (by omega)).q]; exact e1, e2.keep (fy _ (Nat.le_refl _)) (Nat.le_refl _) (fun q w1 w2 => by rw [ra2 q (by unfold jK; omega)]) (by rw [t4.fr.l (k := 52) (by unfold jK; omega)]) (fun l o q hl hq => QR.keep (Nat.le_refl _) hs (Nat.le_refl _) (Nat.le_refl _) (Nat.le_refl _) (Nat.le_refl _) d (v j) (u j) ql l (b (j + 1)) o q hq ⟨fy l hl, fun q' y w1 w2 w3 _ _ => by rw [ra2 q' (by unfold jK; omega)], fun y _ _ => by rw [t4.fr.l (k := 52) (by unfold jK; omega)]⟩ (fun x x1 x2 w => xj x (by omega) x2 w)) xj, e3.mv (az 96 (oj + 1) (by omega) (by omega)) (fun x _ => az x oj ol oh) p1 (fun q hq => ra2 q (by unfold jK; omega)) (fun oi qi w => ?_)⟩
    obtain ⟨lo', w1, w2⟩ := w
    refine JDN.keep (by omega) (by omega) (fun x z z1 z2 _ _ _ => az x z (by omega) z2) (fun y o hy o1 o2 ham => ?_) p1 (fun q hq => ra2 q (by unfold jK; omega)) d oi qi w2
    obtain ⟨n39, un⟩ := a7 o y (by omega) hy ham
    exact t4.s72 y n39 (fun z3 => by
      have := un so (by omega) z3
      omega)
  have as2 : ∀ x, AT c1 c2 x so := fun x => t4.a0 x so (by omega) (by omega) (by omega) (by omega)
  refine ⟨fun z hz => p1 z (p2 z hz), ⟨it, gr, mi, ns, mg, ⟨em _ os.e6, os.od, e60, by rw [(aso 194 (by decide)).r]; exact os.r194, by rw [(aso 200 (by decide)).r]; exact os.r200, ci2, cg2, em _ os.e195, by rw [(aso 195 (by decide)).p]; exact os.p195, by rw [(aso 195 (by decide)).l]; exact os.l195, by rw [(aso 196 (by decide)).i]; exact os.i196, n3, os.nr3, by rw [(aso 192 (by decide)).i, (aso 193 (by decide)).i, ra 35 (by unfold jK; omega)]; exact os.ds, by rw [ra 36 (by unfold jK; omega)]; exact os.ri, by rw [ra 37 (by unfold jK; omega)]; exact os.rn, by rw [ra 39 (by unfold jK; omega)]; exact os.rg, os.wh.kf (aso 197 (by decide)).i (by rw [ra 38 (by unfold jK; omega)]) (Nat.le_refl _) hV tk, os.hv.keep (aso 201 (by decide)).i (by rw [ra 41 (by unfold jK; omega)]) (Nat.le_refl _) hV tk am, by rw [(aso 198 (by decide)).i, (aso 199 (by decide)).i, ra 40 (by unfold jK; omega)]; exact os.hg, is2, fun y hy => ?_, b, u, v, b0, b1, b2, fun j hj => ⟨(u0 j hj).1, fun w => (u0 j hj).2 (by rw [← ra 49 (by unfold jK; omega)]; exact w)⟩, u1, fun j hj => ?_⟩, ?_, hmi, hns, by rw [(aso 198 (by decide)).i]; exact hmg⟩, ⟨d1, by omega, it, gr, mi, mg, na, ns, by omega, by omega, by omega, by omega, by rw [(aso 194 (by decide)).r]; exact os.r194, by rw [(aso 200 (by decide)).r]; exact os.r200, ci2.sz, cg2.sz, by rw [(aso 203 (by decide)).i]; exact sl.ag.k, by rw [(aso 196 (by decide)).i]; exact os.i196, ci2.m8, cg2.m8, sl.ag.n12, ⟨n3, e60⟩, by rw [(as2 197).i]; exact j1, by rw [(as2 201).i]; exact j2, fun z hz => by rw [(t4.a0 97 gr (by omega) (by omega) (by omega) (by omega)).a]; exact j3 z hz, fun z hz => by rw [(t4.a0 97 it (by omega) (by omega) (by omega) (by omega)).a]; exact j4 z hz, fun j y w1 w2 w3 => ?_, fun j hj => ?_⟩, ⟨b', ns, n3, by rw [ra 37 (by unfold jK; omega)]; exact os.rn, kp.1.fr t4.fr, by rw [(as2 206).i]; exact kp.2⟩, it, mi, by rw [(aso 194 (by decide)).r]; exact os.r194, by omega, by omega, by rw [ra 36 (by unfold jK; omega)]; exact os.ri, ci2, fun y hy => ?_, j5⟩
  · obtain ⟨r, j, y1, y2, y3, y4, y5, y6, y7⟩ := os.gs y hy
    exact ⟨r, j, by rw [(agr 97 (by decide)).a]; exact y1, by rw [ra 47 (by unfold jK; omega)]; exact y2, y3.kf (Nat.le_refl _) hV tk, y4, by rw [ra 48 (by unfold jK; omega)]; exact y5, by rw [(agr 98 (by decide)).b]; exact y6.f tk, by rw [(agr 99 (by decide)).a, tk.2.1]; exact y7⟩
  · obtain ⟨oo, o1, o2, -⟩ := ent2 j hj
    exact ⟨oo, o1, o2.keep FY.refl (Nat.le_refl _) (fun _ _ _ => rfl) rfl (fun _ _ _ _ w => ⟨hv j hj, w⟩) (fun _ _ _ w => w)⟩
  · refine AGP.hv' (cs := cs) ?_ (aso 201 (by decide)).i
    obtain ⟨x, y1, y2, y3, y4, y5, y6⟩ := ag.k
    have v65 : ∀ z, z < s → kA c2 65 c z = kA cs 65 c z := fun z hz => congrArg (fun w => w.1.1) (hV z hz)
    have v66 : ∀ z, z < s → kA c2 66 c z = kA cs 66 c z := fun z hz => congrArg (fun w => w.1.2.2.2.1) (hV z hz)
    refine ⟨em _ ag.e, by rw [(aso 202 (by decide)).p]; exact ag.p, by rw [(aso 202 (by decide)).l]; exact ag.l, ⟨x, y1, by rw [(aso 203 (by decide)).i]; exact y2, by rw [ra 42 (by unfold jK; omega)]; exact y3, by rw [ra 43 (by unfold jK; omega)]; exact y4, fun hp => ?_, fun j hj => ?_⟩, fun z z1 z2 => ?_, ag.ac.go (fun z z1 z2 => ⟨z1, z2.at' (aso 202 (by decide)) (aso 203 (by decide))⟩) (fun y _ => by rw [(ait 97 (by decide)).a]) (fun z hz => congrArg (fun w => w.1.2.1) (hV z hz)) (Nat.le_refl _)⟩
    · obtain ⟨z, z1, z2, z3, z4⟩ := y5 hp
      exact ⟨z, z1, by rw [(aso 202 (by decide)).a]; exact z2, by rw [ra 43 (by unfold jK; omega), v66 z z1]; exact z3, by rw [ra 43 (by unfold jK; omega)]; exact z4⟩
    · obtain ⟨z, z1, z2, z3⟩ := y6 j hj
      exact ⟨z, z1, by rw [(aso 202 (by decide)).a]; exact z2, by rw [v65 z z1]; exact z3⟩
    · exact (ag.al z z1 (z2.at' (aso 202 (by decide)) (aso 203 (by decide)))).keep (Nat.le_refl _) hV tk am
  · rw [(as2 202).a] at w3 ⊢
    exact j6 j y w1 w2 w3
  · obtain ⟨oo, o1, o2, o3⟩ := ent2 j hj
    obtain ⟨z1, z2, z3, z4, z5, z6⟩ := o3
    have bj0 := bv.le (j := 0) (j' := j) (Nat.zero_le _) (by omega)
    have bj1 := bv.le (j := j + 1) (j' := ns) (by omega) (Nat.le_refl _)
    have ol := o2.b.ol
    obtain ⟨cl', x1, x2, -⟩ := o2.b.cl
    have mj := ma_le m0 m2 j (by omega)
    refine ⟨oo, mm j, ma j, by omega, by omega, o1, z1, z2, z3, by omega, fun e0 => by rw [e0]; exact m0, fun hp => ?_, z4, z5, z6⟩
    obtain ⟨oo', o1', o2', o3'⟩ := ent2 (j - 1) (by omega)
    have bk0 := bv.le (j := 0) (j' := j - 1) (Nat.zero_le _) (by omega)
    have bk1 := bv.le (j := j - 1 + 1) (j' := ns) (by omega) (Nat.le_refl _)
    have ol' := o2'.b.ol
    obtain ⟨cl'', x1', x2', -⟩ := o2'.b.cl
    have ms := (m2 (j - 1) (by omega)).1
    rw [show j - 1 + 1 = j by omega] at ms
    exact ⟨oo', mm (j - 1), ma (j - 1), by omega, by omega, o1', o3'.1, o3'.2.1, ms⟩
  · obtain ⟨r, y1, y2, y3, y4⟩ := is2 y hy
    exact y4

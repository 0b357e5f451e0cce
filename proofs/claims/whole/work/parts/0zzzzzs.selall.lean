/-! a SELECT behind its SOURCES: all stages together -/
/-- a write of the checker's own fields -/
theorem JZ.own {t c k so it gr e : Nat} {cs cs' : CS} {rs rs' : RS} (c1 : cs'.1 = cs.1) (a0 : ∀ x j, ¬ (j = k ∧ 35 ≤ x ∧ x ≤ 37) → AT cs cs' x j) (pl : ∀ x j, kP cs' x j = kP cs x j ∧ kL cs' x j = kL cs x j) (r2 : rs'.2 = rs.2) (r1 : ∀ q, ¬ (76 ≤ q ∧ q ≤ 78) → rs'.1 q = rs.1 q) : JZ t c k so it gr e cs rs cs' rs' := ⟨c1, fun x j _ _ h _ => a0 x j h, fun x j _ _ => pl x j, ⟨Or.inr (by rw [r2]), fun q hq => ⟨r1 q (by unfold jK at hq; omega), by rw [r2], by rw [r2]⟩⟩, fun q j _ _ => by rw [r2], by rw [r2], fun y _ _ => by rw [(a0 72 c (by omega)).a]⟩
theorem SCS.un {n : Nat} {f : Nat → Int32} {M k so e ns : Nat} {V : VT} {cs cs' : CS} {rs rs' : RS} (h : SCS n f M 0 0 k so e ns V cs rs) (em : EM cs cs') (a0 : ∀ x j, 35 ≤ x → x ≤ 36 ∨ (96 ≤ x ∧ x ≠ 320 ∧ x ≠ 321) → AT cs cs' x j) (r2 : rs'.2 = rs.2) (f7 : rs'.1 77 = rs.1 77 ∧ rs'.1 78 = rs.1 78) : SCS n f M 0 0 k so e ns V cs' rs' := by
  have tk : TKF cs rs cs' rs' := ⟨(a0 352 9 (by omega) (by omega)).a, (a0 353 9 (by omega) (by omega)).a, (a0 354 9 (by omega) (by omega)).b, by rw [r2], by rw [r2], by rw [r2], by rw [r2], by rw [r2]⟩
  exact h.mv em ⟨a0 35 k (by omega) (by omega), a0 36 k (by omega) (by omega)⟩ (a0 195 so (by omega) (by omega)) tk f7 (fun i oo cl m _ _ sc => sc.mv em (fun x hx => a0 x oo (by omega) (by omega)) (fun x x1 x2 => a0 x cl (by omega) (by omega)) tk (fun q _ => by rw [r2]) (by rw [r2]) (fun _ _ _ _ _ _ _ _ _ => by rw [r2]))
theorem x5_grouped {F so : Nat} {a b : Int32} {cs : CS} (e6 : (6, so) ∈ kE cs) (ha : kI cs 198 so = a) (hb : kI cs 203 so = b) : c_X5_isGrouped F cs so = some (if a = 0 then (if b ≤ 0 then 0 else 1) else 1) := by
  unfold c_X5_isGrouped c_X5_isGrouped_b14 c_X5_isGrouped_b19
  rw [gI_ok e6, ob_s, ha]
  by_cases y : a = 0
  · rw [if_pos y, if_pos y, gI_ok e6, ob_s, hb]
    by_cases z : b ≤ 0
    · rw [if_pos z, if_pos z]; rfl
    · rw [if_neg z, if_neg z]; rfl
  · rw [if_neg y, if_neg y]; rfl
theorem mis_grouped {F e : Nat} {a b : Int32} {rs : RS} (he : e < 60) (ha : rs.2.2.1 40 e = a) (hb : rs.2.2.1 42 e = b) : m_isGrouped F rs (nI e) = some (if a = -1 then (if b ≤ 0 then 0 else 1) else 1) := by
  unfold m_isGrouped m_isGrouped_b19 m_isGrouped_b24
  rw [rdI_n he (by decide), ob_s, ha]
  by_cases y : a = -1
  · rw [if_pos y, if_pos y, rdI_n he (by decide), ob_s, hb]
    by_cases z : b ≤ 0
    · rw [if_pos z, if_pos z]; rfl
    · rw [if_neg z, if_neg z]; rfl
  · rw [if_neg y, if_neg y]; rfl
/-- what having been checked leaves of a SELECT: all its nodes, its types, its slots -/
def SLJ (c s : Nat) (V : VT) (so e it gr mi mg na : Nat) (D' : Nat → Prop) (cs cs' : CS) (rs' : RS) : Prop := CVR V s (kI cs 197 so) D' ∧ CVR V s (kI cs 201 so) D' ∧ (∀ z, z < mg → CVR V s (kA cs 97 gr z) D') ∧ (∀ z, z < mi → CVR V s (kA cs 97 it z) D') ∧ (∀ z, z < mi → TYR (kA cs' 100 it z) (rs'.2.2.1 46 (8 * e + z))) ∧ (∀ j y, j < na → y < s → kA cs 202 so j = nI y → ∃ j', j' < na ∧ kA cs 202 so j' = nI y ∧ kA cs' 72 c y = nI (mg + j'))
theorem CVR.up {V : VT} {s : Nat} {x : Int32} {D D' : Nat → Prop} (h : CVR V s x D) (hd : ∀ z, D z → D' z) : CVR V s x D' := fun r a h1 h2 h3 h4 z z1 z2 => hd z (h r a h1 h2 h3 h4 z z1 z2)
theorem sel_tail {n : Nat} {f : Nat → Int32} {M t c cap s k : Nat} {V : VT} {so e it gr mi ns mg na : Nat} {D : Nat → Prop} {F : Nat} {T : TC_X0_checkQuery} {T' : TG_judgeQuery} {cs : CS} {rs : RS} (hF : 10000 ≤ F) (sk : SKV V s) (hs : s ≤ 120) (h : JH n f M t c cap s k V D cs rs) (sl : SLT n f M c s V so e it gr mi ns mg na cs rs) (md : rs.1 21 = 1 → (∀ i, i < ns → ∃ oo cl m, kQ cs 195 so i = some oo ∧ SCC n f M oo cl m (3 * e + i) cs rs) ∧ SEP so e ns gr cs rs ∧ ∃ b : Int32, ((kI cs 206 so = 0 ∧ b = 1) ∨ (kI cs 206 so ≠ 0 ∧ b = 0)) ∧ ∀ rs' : RS, FR jK rs rs' → m_isKeptSelect F 300 rs' (nI e) (nI ns) = some b) : ∃ cs' rs' D', c_X0_checkSelect_b38 F T cs k so = some cs' ∧ m_judgeSelect_b271 F T' rs (nI e) = some rs' ∧ JH n f M t c cap s k V D' cs' rs' ∧ JZ t c k so it gr e cs rs cs' rs' ∧ (rs'.1 21 = 1 → rs.1 21 = 1 ∧ (∀ z, D z → D' z) ∧ SLJ c s V so e it gr mi mg na D' cs cs' rs') := by
  have e60 := sl.e60
  -- the scope
  obtain ⟨c1, hc1⟩ : ∃ x, x = sR (sI (sR cs 35 k (some so)) 36 k (nI ns)) 37 k none := ⟨_, rfl⟩
  obtain ⟨r1, hr1⟩ : ∃ x, x = setF (setF (setF rs 76 0) 77 (nI e)) 78 (nI ns) := ⟨_, rfl⟩
  have at1 : ∀ x j, ¬ (j = k ∧ 35 ≤ x ∧ x ≤ 37) → AT cs c1 x j := fun x j hx => by
    rw [hc1]
    exact ((AT.sR (by omega)).trans (AT.sI (by omega))).trans (AT.sR (by omega))
  have rf1 : ∀ q, ¬ (76 ≤ q ∧ q ≤ 78) → r1.1 q = rs.1 q := fun q hq => by
    rw [hr1]
    show (if q = 78 then nI ns else if q = 77 then nI e else if q = 76 then 0 else rs.1 q) = rs.1 q
    rw [if_neg (by omega), if_neg (by omega), if_neg (by omega)]
  have r12 : r1.2 = rs.2 := by rw [hr1]; rfl
  have j1 : JZ t c k so it gr e cs rs c1 r1 := JZ.own (by rw [hc1]; rfl) at1 (fun x j => by rw [hc1]; exact ⟨rfl, rfl⟩) r12 rf1
  have h1 : JH n f M t c cap s k V D c1 r1 := h.jz j1 (at1 320 t (by omega)).i (at1 321 t (by omega)).i (fun q hq => rf1 q (by omega)) (fun y _ _ => by rw [(at1 72 c (by omega)).a]) (by rw [r12])
  have sl1 := sl.jz j1
  have g1 : r1.1 21 = rs.1 21 := rf1 21 (by omega)
  have md1 : r1.1 21 = 1 → MD n f M k so e ns 0 0 V 0 c1 r1 := fun g => by
    obtain ⟨m1, m2, b, m3, m4⟩ := md (g1.symm.trans g)
    have em : EM cs c1 := EM.of (congrArg (fun z => z.2.2) j1.c1)
    refine ⟨⟨h1.x, by rw [hc1]; exact ((AT.sR (cs := sI (sR cs 35 k (some so)) 36 k (nI ns)) (t := 37) (j := k) (x := 35) (i := k) (v := none) (by omega)).r).trans u2_s, by rw [hc1]; exact kI_s, sl1.e6, sl1.e195, sl1.p195, sl1.l195, sl.n3, e60, by rw [hr1]; rfl, by rw [hr1]; rfl, fun i hi' => ?_, fun x _ x2 => absurd x2 (by omega)⟩, by rw [hr1]; rfl, by rw [hc1]; exact u2_s⟩
    obtain ⟨oo, cl, m, o1, o2⟩ := m1 i hi'
    refine ⟨oo, cl, m, by rw [(at1 195 so (by omega)).q]; exact o1, o2.mv em (fun x hx => at1 x oo (by omega)) (fun x x1 x2 => at1 x cl (by omega)) j1.tkf (fun q hq => by rw [r12]) (by rw [r12]) (fun _ _ _ _ _ _ _ _ _ => by rw [r12])⟩
  -- where
  obtain ⟨c2, r2, D2, w1, w2, w3, w4, w5, w6, w7, w8⟩ := opx_H (so := so) (e := e) (ns := ns) (nm := 0) (mg := 0) (w := 0) (A := 38) (B := 60) (e9 := e) hF sk hs e60 (by decide) (by unfold jR; omega) sl1.wh (by decide) h1 md1
  have j2 : JZ t c k so it gr e c1 r1 c2 r2 := JZ.jf w3
  have sl2 := sl1.jz j2
  have g2 : r2.1 21 = 1 → rs.1 21 = 1 := fun g => by
    by_cases z : rs.1 21 = 0
    · rw [w8 (g1.trans z), g1, z] at g
      exact absurd g (by decide)
    · exact h.good z
  have j12 := j1.trans j2
  have a206 : kI c2 206 so = kI cs 206 so := (j12.a0 206 so (by omega) (by omega) (by omega) (by omega)).i
  -- kept
  obtain ⟨b, u3, hb, hu⟩ : ∃ b u3 : Int32, (r2.1 21 = 1 → u3 = b ∧ ((kI cs 206 so = 0 ∧ b = 1) ∨ (kI cs 206 so ≠ 0 ∧ b = 0))) ∧ m_judgeSelect_b320 F T' r2 (nI e) = m_judgeSelect_b346 F T' r2 (nI e) u3 := by
    unfold m_judgeSelect_b320 m_judgeSelect_b345
    by_cases z : r2.1 21 = 0
    · exact ⟨0, 0, fun g => absurd z (g01 g), by rw [if_pos z]⟩
    · obtain ⟨m1, m2, b, m3, m4⟩ := md (g2 (w4.good z))
      have q := m4 r2 j12.fr
      rw [if_neg z, rdI_n e60 (by decide), ob_s, sl2.rn, q, ob_s]
      by_cases z2 : b = 0
      · exact ⟨b, 0, fun _ => ⟨z2.symm, m3⟩, by rw [if_pos z2]⟩
      · have b1 : b = 1 := by
          rcases m3 with ⟨-, q⟩ | ⟨-, q⟩
          · exact q
          · exact absurd q z2
        exact ⟨b, 1, fun _ => ⟨b1.symm, m3⟩, by rw [if_neg z2]⟩
  have spj : ∀ {a' : CS} {b' : RS}, rs.1 21 = 1 → JZ t c k so it gr e cs rs a' b' → SEP so e ns gr a' b' := fun g j => (md g).2.1.jz j
  -- groups
  obtain ⟨c3, r3, D3, v1, v2, v3, v4, v5⟩ := grp_H (T := T') (u3 := u3) (b := b) hF sk hs w4 sl2 (fun g => ⟨w7 (g1.trans (g2 g)), spj (g2 g) j12, (hb g).1, by rw [a206]; exact (hb g).2⟩)
  have sl3 := sl2.jz v4
  have j13 := j12.trans v4
  obtain ⟨c4, s1, s2, s3, s4, s5⟩ := slots_H hF hs v3 sl3
  have sl4 := sl3.jz s3
  have j14 := j13.trans s3
  -- grouped or not
  obtain ⟨gq, hgq, k1, k2⟩ : ∃ gq : Int32, (gq = 0 ∨ gq = 1) ∧ c_X5_isGrouped F c4 so = some gq ∧ m_isGrouped F r3 (nI e) = some gq := by
    have q1 := x5_grouped (F := F) sl4.e6 rfl sl4.ag.k
    have q2 := mis_grouped (F := F) e60 rfl sl4.a42.1
    rcases sl4.hg with ⟨a1, a2, -⟩ | ⟨a1, a2, a3⟩
    · rw [a1, if_pos rfl] at q1
      rw [a2, if_pos rfl] at q2
      by_cases z : nI na ≤ 0
      · rw [if_pos z] at q1 q2
        exact ⟨0, Or.inl rfl, q1, q2⟩
      · rw [if_neg z] at q1 q2
        exact ⟨1, Or.inr rfl, q1, q2⟩
    · rw [a1, if_neg (by decide)] at q1
      rw [if_neg a3] at q2
      exact ⟨1, Or.inr rfl, q1, q2⟩
  obtain ⟨w, c5, r5, hw, k3, k4, k5, k6, k7, k8⟩ : ∃ (w : Nat) (c5 : CS) (r5 : RS), w < 2 ∧ (if gq = 0 then (c_X0_checkSelect_b84 F T c4 k so) else (Option.bind (gR c4 6 200 so) fun v_26 => Option.bind (pR c4 1 37 k v_26) fun cs_27 => c_X0_checkSelect_b84 F T cs_27 k so)) = c_X0_checkSelect_b84 F T c5 k so ∧ r5 = setF (setF (setF r3 76 gq) 77 (nI e)) 78 (nI ns) ∧ c5.1 = c4.1 ∧ (∀ x j, ¬ (j = k ∧ x = 37) → AT c4 c5 x j) ∧ (∀ x j, kP c5 x j = kP c4 x j ∧ kL c5 x j = kL c4 x j) ∧ ((w = 0 ∧ gq = 0 ∧ c5 = c4) ∨ (w = 1 ∧ gq = 1 ∧ kR c5 37 k = some gr)) := by
    rcases hgq with z | z
    · exact ⟨0, c4, _, by decide, by rw [if_pos z], rfl, rfl, fun _ _ _ => AT.refl, fun _ _ => ⟨rfl, rfl⟩, Or.inl ⟨rfl, z, rfl⟩⟩
    · refine ⟨1, sR c4 37 k (some gr), _, by decide, ?_, rfl, rfl, fun x j hx => AT.sR (by omega), fun _ _ => ⟨rfl, rfl⟩, Or.inr ⟨rfl, z, u2_s⟩⟩
      rw [if_neg (by rw [z]; decide), gR_ok sl4.e6, ob_s, sl4.r200, pR_ok s2.ck.o, ob_s]
  have rf5 : ∀ q, ¬ (76 ≤ q ∧ q ≤ 78) → r5.1 q = r3.1 q := fun q hq => by
    rw [k4]
    show (if q = 78 then nI ns else if q = 77 then nI e else if q = 76 then gq else r3.1 q) = r3.1 q
    rw [if_neg (by omega), if_neg (by omega), if_neg (by omega)]
  have r52 : r5.2 = r3.2 := by rw [k4]; rfl
  have j5 : JZ t c k so it gr e c4 r3 c5 r5 := JZ.own k5 (fun x j hx => k6 x j (by omega)) k7 r52 rf5
  have h5 : JH n f M t c cap s k V D3 c5 r5 := s2.jz j5 (k6 320 t (by omega)).i (k6 321 t (by omega)).i (fun q hq => rf5 q (by omega)) (fun y _ _ => by rw [(k6 72 c (by omega)).a]) (by rw [r52])
  have sl5 := sl4.jz j5
  have j15 := j14.trans j5
  have g5 : r5.1 21 = r3.1 21 := rf5 21 (by omega)
  have md5 : r5.1 21 = 1 → MD n f M k so e ns gr mg V w c5 r5 := fun g => by
    obtain ⟨q1, q2, q3, q4, q5⟩ := v5 (g5.symm.trans g)
    have em : EM c3 c5 := EM.of (congrArg (fun z => z.2.2) (k5.trans s3.c1))
    have sc : SCS n f M 0 0 k so e ns V c5 r5 := q2.1.un em (fun x j h1 h2 => (s4 x j (by omega)).trans (k6 x j (by omega))) r52 ⟨by rw [k4]; exact q2.1.f77.symm, by rw [k4]; exact q2.1.f78.symm⟩
    rcases k8 with ⟨z1, z2, z3⟩ | ⟨z1, z2, z3⟩
    · rw [z1]
      refine ⟨sc, by rw [k4]; exact z2, ?_⟩
      rw [z3, (s4 37 k (by omega)).r]
      exact q2.2.2
    · rw [z1]
      refine ⟨sc, ⟨h5.x, z3, sl5.cg.1, e60, by rw [k4]; rfl, Or.inl ⟨rfl, rfl, rfl, rfl⟩, sl5.rg, fun y hy => ?_, fun y hy => ?_, fun x _ x2 => absurd x2 (by omega)⟩, by rw [k4]; exact z2⟩
      · obtain ⟨q', p1, p2, p3, -⟩ := sl5.gn y hy
        exact Or.inr ⟨q', p1, p2, p3.nm⟩
      · rw [r52, ((s4 100 gr (by omega)).trans (k6 100 gr (by omega))).a]
        exact q5 y hy
  -- having
  obtain ⟨c6, r6, D6, y1, y2, y3, y4, y5, y6, y7, y8⟩ := opx_H (so := so) (e := e) (ns := ns) (nm := gr) (mg := mg) (w := w) (A := 41) (B := 60) (e9 := e) hF sk hs e60 (by decide) (by unfold jR; omega) sl5.hv hw h5 md5
  have j6 : JZ t c k so it gr e c5 r5 c6 r6 := JZ.jf y3
  have sl6 := sl5.jz j6
  have j16 := j15.trans j6
  have g6 : r6.1 21 = 1 → r5.1 21 = 1 := fun g => by
    by_cases z : r5.1 21 = 0
    · rw [y8 z, z] at g
      exact absurd g (by decide)
    · exact h5.good z
  have a206' : kI c6 206 so = kI cs 206 so := (j16.a0 206 so (by omega) (by omega) (by omega) (by omega)).i
  have gg6 : r6.1 21 = 1 → r2.1 21 = 1 ∧ rs.1 21 = 1 := fun g => by
    have q := (v5 (g5.symm.trans (g6 g))).1
    exact ⟨q, g2 q⟩
  -- items
  obtain ⟨c7, r7, D7, i1, i2, i3, i4, i5, i6⟩ := item_H (T := T) (T' := T') (u3 := u3) (b := b) hF sk hs hw y4 sl6 (fun g => ⟨y7 (g6 g), spj (gg6 g).2 j16, (hb (gg6 g).1).1, by rw [a206']; exact (hb (gg6 g).1).2⟩)
  refine ⟨c7, r7, D7, ?_, ?_, i3, j16.trans i4, fun g => ?_⟩
  · unfold c_X0_checkSelect_b38
    have o35 : (6, so) ∈ kE (sR cs 35 k (some so)) := sl.e6
    have kk : (1, k) ∈ kE (sR cs 35 k (some so)) := h.ck.o
    have kk2 : (1, k) ∈ kE (sI (sR cs 35 k (some so)) 36 k (nI ns)) := h.ck.o
    rw [pR_ok h.ck.o, ob_s, gI_ok o35, ob_s, show kI (sR cs 35 k (some so)) 196 so = nI ns from sl.i196, pI_ok kk, ob_s, pR_ok kk2, ob_s, ← hc1, gI_ok sl1.e6, ob_s, ckE_ok h1.ck.o, ob_s, w1, ob_s, ckE_ok w4.ck.o, ob_s, v1, s1, ob_s, ckE_ok sl4.e6, ob_s, k1, ob_s, k3]
    unfold c_X0_checkSelect_b84
    rw [gI_ok sl5.e6, ob_s, ckE_ok h5.ck.o, ob_s, y1, ob_s, gR_ok sl6.e6, ob_s, sl6.r194, ob_s, ckE_ok y4.ck.o, ob_s]
    exact i1
  · unfold m_judgeSelect_b271
    rw [rdI_n e60 (by decide), ob_s, sl.rn]
    unfold m_sourcesOf
    rw [ob_s, ← hr1]
    have q := w2 (fun r => m_judgeSelect_b320 F T' r (nI e))
    refine Eq.trans q ?_
    show m_judgeSelect_b320 F T' r2 (nI e) = some r7
    rw [hu, v2]
    unfold m_judgeSelect_b554
    rw [k2, ob_s]
    have q2 : (if gq = 0 then m_judgeSelect_b568 F T' r3 (nI e) u3 0 else m_judgeSelect_b568 F T' r3 (nI e) u3 1) = m_judgeSelect_b568 F T' r3 (nI e) u3 gq := by
      rcases hgq with z | z
      · rw [z, if_pos rfl]
      · rw [z, if_neg (by decide)]
    rw [q2]
    unfold m_judgeSelect_b568
    rw [show (setF (setF r3 76 gq) 77 (nI e)).2.2.1 37 = r3.2.2.1 37 from rfl, rdI_n e60 (by decide), ob_s, sl4.rn, ← k4]
    have q3 := y2 (fun r => m_judgeSelect_b624 F T' r (nI e) u3)
    refine Eq.trans q3 ?_
    exact i2
  · obtain ⟨p1, p2, p3, p4⟩ := i5 g
    obtain ⟨q1, q2, q3, q4, q5⟩ := v5 (g5.symm.trans (g6 p1))
    have up : ∀ z, D3 z → D7 z := fun z hz => p2 z (y5 z hz)
    have a97 : ∀ col, kA c2 97 col = kA cs 97 col := fun col => (j12.a0 97 col (by omega) (by omega) (by omega) (by omega)).a
    have a97' : ∀ col, kA c6 97 col = kA cs 97 col := fun col => (j16.a0 97 col (by omega) (by omega) (by omega) (by omega)).a
    have i197 : kI c1 197 so = kI cs 197 so := (at1 197 so (by omega)).i
    have i201 : kI c5 201 so = kI cs 201 so := (j15.a0 201 so (by omega) (by omega) (by omega) (by omega)).i
    refine ⟨(gg6 p1).2, fun z hz => up z (q3 z (w5 z hz)), ?_, ?_, fun z hz => ?_, fun z hz => ?_, p4, fun j y j1' y1' hj => ?_⟩
    · rw [← i197]
      exact w6.up (fun z hz => up z (q3 z hz))
    · rw [← i201]
      exact y6.up p2
    · rw [← a97 gr]
      exact (q4 z hz).up up
    · rw [← a97' it]
      exact p3 z hz
    · have a202 : kA c3 202 so = kA cs 202 so := (j13.a0 202 so (by omega) (by omega) (by omega) (by omega)).a
      obtain ⟨j', t1, t2, t3⟩ := s5 j y j1' y1' (by rw [a202]; exact hj)
      refine ⟨j', t1, by rw [← a202]; exact t2, ?_⟩
      obtain ⟨x, x1, x2, x3⟩ := sl6.ag.al j j1'
      have e1 : y = x := by
        have q : kA c6 202 so = kA cs 202 so := (j16.a0 202 so (by omega) (by omega) (by omega) (by omega)).a
        rw [q] at x2
        exact (nI_eq (by omega) (by omega)).mp (hj.symm.trans x2)
      have n39 : kA c6 65 c y ≠ 39 := by
        rw [e1]
        intro q
        rw [q] at x3
        unfold AGC at x3
        revert x3
        decide
      have n39' : kA c5 65 c y ≠ 39 := by rw [← (j6.a0 65 c (by omega) (by omega) (by omega) (by omega)).a]; exact n39
      rw [i6 y n39, y3.s72 y n39', (k6 72 c (by omega)).a]
      exact t3

/-! the join of a SOURCE behind the first, both -/
theorem join_S {n : Nat} {f : Nat → Int32} {M t c cap s k : Nat} {V : VT} {so e i lo hi Sl Sh d : Nat} {D : Nat → Prop} {F ns oo off u1 u1' : Nat} {b : Int32} {T : TC_X0_checkQuery} {T' : TG_judgeQuery} {rc : RS → Int32 → Int32 → Int32 → Option RS} {cs : CS} {rs : RS} (hF : 10000 ≤ F) (sk : SKV V s) (hs : s ≤ 120) (hd : d ≤ 90) (he : e < 60) (hi0 : 0 < i) (hin : i < ns) (h : JH n f M t c cap s k V D cs rs) (sa : SAR so ns cs) (ho : kQ cs 195 so i = some oo) (e7 : (7, oo) ∈ kE cs) (hoo : lo ≤ oo ∧ oo < hi) (jn : rs.2.2.1 57 (3 * e + i) = kI cs 232 oo) (ex : ∃ r a, kI cs 233 oo = nI r ∧ rs.2.2.1 58 (3 * e + i) = nI r ∧ EXR n f M s V a r cs rs) (last : ∃ ol cl m, kQ cs 195 so (i - 1) = some ol ∧ (7, ol) ∈ kE cs ∧ kR cs 235 ol = some cl ∧ CLM cl m cs ∧ (rs.1 21 = 1 → ∃ a, kI cs 234 ol = nI a ∧ off = a + m)) (md : rs.1 21 = 1 → (∀ j, j < i → ∃ oj cl mm, kQ cs 195 so j = some oj ∧ oj ≠ oo ∧ SCC n f M oj cl mm (3 * e + j) cs rs) ∧ (∃ cl m, PSC n f M oo cl m (3 * e + i) cs rs) ∧ off ≤ 40 ∧ KSr d e (i + 1) b rs ∧ ((kI cs 206 so = 0 ∧ b = 1) ∨ (kI cs 206 so ≠ 0 ∧ b = 0))) : ∃ cs' rs' D' off', c_X0_checkSource_L90 F T (u1 + 1) cs k so (nI i) oo (nI i) = some cs' ∧ m_judgeSelect_L122 F T' rc (u1' + 1) rs (nI e) (nI off) (nI i) (nI (3 * e + i)) (nI i) = rc rs' (nI e) off' (nI (i + 1)) ∧ JH n f M t c cap s k V D' cs' rs' ∧ JU t c k so e i lo hi Sl Sh cs rs cs' rs' ∧ kI cs' 206 so = kI cs 206 so ∧ (rs'.1 21 = 1 → rs.1 21 = 1 ∧ (∀ z, D z → D' z) ∧ CVR V s (kI cs 233 oo) D' ∧ SRS n f M so e (i + 1) cs' rs' ∧ kI cs' 234 oo = nI off ∧ ∃ cl m, PSC n f M oo cl m (3 * e + i) cs' rs' ∧ off' = nI (off + m)) := by
  have n3 := sa.n3
  have j9 : 3 * e + i < 180 := by omega
  obtain ⟨r, a, x1, x2, exr⟩ := ex
  have hr := exr.rs'
  obtain ⟨ol, cl', m', l1, l2, l3, l4, l5⟩ := last
  have nz : ¬ nI i ≤ 0 := show ¬ nI i ≤ nI 0 from nI_ge hi0 (by omega)
  -- the reference lays the offset
  obtain ⟨r0, hr0⟩ : ∃ x, x = setI rs 79 (3 * e + i) (nI off) := ⟨_, rfl⟩
  have ra0 : ∀ q j, q ≠ 79 → r0.2.2.1 q j = rs.2.2.1 q j := fun q j hq => by rw [hr0]; exact sIa_n (by omega)
  have r079 : r0.2.2.1 79 (3 * e + i) = nI off := by rw [hr0]; exact pk_us
  have rf0 : r0.1 = rs.1 := by rw [hr0]; rfl
  have ju0 : JU t c k so e i lo hi Sl Sh cs rs cs r0 := by
    rw [hr0]
    exact JU.ref (FR.setI (by unfold jK; omega)) (fun q hq => funext (fun j => sIa_n (by omega))) (fun j hj => sIa_n (by omega))
  have h0 : JH n f M t c cap s k V D cs r0 := h.ju ju0 rfl rfl (fun q _ => by rw [rf0]) rfl (funext (fun j => ra0 33 j (by omega))) (by omega)
  -- bounded
  obtain ⟨c1, r1, b1, b2, b3, b4, b5, b6, b7⟩ := bound_H (F := F) (u := kI cs 206 so) (b := b) (p := kI cs 232 oo) h0 (fun g => (md (by rw [← rf0]; exact g)).2.2.2.2)
  -- the class's words
  obtain ⟨y0, hy0⟩ : ∃ y, y = kI c1 234 ol + nI m' := ⟨_, rfl⟩
  obtain ⟨c5, hc5⟩ : ∃ x, x = sR (sI (sR (sI c1 234 oo y0) 35 k (some so)) 36 k (nI (i + 1))) 37 k none := ⟨_, rfl⟩
  obtain ⟨r2, hr2⟩ : ∃ x, x = setF (setF (setF r1 76 0) 77 (nI e)) 78 (nI (i + 1)) := ⟨_, rfl⟩
  have at15 : ∀ x j, ¬ (j = oo ∧ x = 234) → ¬ (j = k ∧ 35 ≤ x ∧ x ≤ 37) → AT c1 c5 x j := fun x j h1 h2 => by
    rw [hc5]
    exact (((AT.sI (by omega)).trans (AT.sR (by omega))).trans (AT.sI (by omega))).trans (AT.sR (by omega))
  have at05 : ∀ x j, ¬ (j = t ∧ (x = 320 ∨ x = 321)) → ¬ (j = oo ∧ x = 234) → ¬ (j = k ∧ 35 ≤ x ∧ x ≤ 37) → AT cs c5 x j := fun x j h1 h2 h3 => (b7 x j h1).trans (at15 x j h2 h3)
  have rf2 : ∀ q, ¬ (76 ≤ q ∧ q ≤ 78) → r2.1 q = r1.1 q := fun q hq => by
    rw [hr2]
    show (if q = 78 then nI (i + 1) else if q = 77 then nI e else if q = 76 then 0 else r1.1 q) = r1.1 q
    rw [if_neg (by omega), if_neg (by omega), if_neg (by omega)]
  have r22 : r2.2 = r0.2 := by
    rw [hr2]
    exact b6
  have ra2 : ∀ q j, q ≠ 79 → r2.2.2.1 q j = rs.2.2.1 q j := fun q j hq => by rw [r22]; exact ra0 q j hq
  have ju1 : JU t c k so e i lo hi Sl Sh cs r0 c1 r1 := JU.jk (JK.jf b3)
  have ju2 : JU t c k so e i lo hi Sl Sh c1 r1 c5 r1 := JU.cls (by rw [hc5]; rfl) (fun x j hx => at15 x j (by omega) (by omega)) (fun x j => by rw [hc5]; exact ⟨rfl, rfl⟩)
  have ju3 : JU t c k so e i lo hi Sl Sh c5 r1 c5 r2 := by
    refine JU.ref ⟨Or.inr (by rw [hr2]; rfl), fun q hq => ⟨rf2 q (by unfold jK at hq; omega), by rw [hr2]; rfl, by rw [hr2]; rfl⟩⟩ (fun q _ => by rw [hr2]; rfl) (fun j _ => by rw [hr2]; rfl)
  have ju05 := ((ju0.trans ju1).trans ju2).trans ju3
  have c5r : c5.1 = cs.1 := ju05.c1
  have em : EM cs c5 := EM.of (congrArg (fun z => z.2.2) c5r)
  have h5 : JH n f M t c cap s k V D c5 r2 := b4.ju (ju2.trans ju3) (at15 320 t (by omega) (by omega)).i (at15 321 t (by omega) (by omega)).i (fun q hq => rf2 q (by omega)) (at15 72 c (by omega) (by omega)).a (by rw [hr2]; rfl) (by omega)
  have tk5 := ju05.tkf
  have sa5 := sa.mv em (at05 195 so (by omega) (by omega) (by omega))
  -- how the reference goes
  have g2 : r2.1 21 = r1.1 21 := rf2 21 (by omega)
  have gr1 : r1.1 21 = 1 → rs.1 21 = 1 := fun g => by
    by_cases z : rs.1 21 = 0
    · have z0 : r0.1 21 = 0 := by rw [rf0]; exact z
      have : m_bounded F r0 b (kI cs 232 oo) = some r0 := by
        unfold m_bounded m_bounded_b17
        by_cases z1 : b = 0
        · rw [if_pos z1]
          by_cases z2 : r0.1 75 = 0
          · rw [if_pos z2, tell_f z0, ob_s]
          · rw [if_neg z2]
        · rw [if_neg z1]
      rw [Option.some.inj (b2.symm.trans this), z0] at g
      exact absurd g (by decide)
    · exact h.good z
  have st5 : rs.1 21 = 1 → kI c5 234 oo = nI off := fun g => by
    obtain ⟨a', w1, w2⟩ := l5 g
    have q : kI c5 234 oo = y0 := by
      rw [hc5]
      show kI (sI (sR (sI c1 234 oo y0) 35 k (some so)) 36 k (nI (i + 1))) 234 oo = y0
      rw [kI_n (by omega)]
      exact kI_s
    rw [q, hy0, (b7 234 ol (by omega)).i, w1, nI_add, w2]
  have md5 : r2.1 21 = 1 → MD n f M k so e (i + 1) 0 0 V 0 c5 r2 ∧ SRS n f M so e (i + 1) c5 r2 ∧ ∃ cl m, PSC n f M oo cl m (3 * e + i) c5 r2 := fun g => by
    have g' := gr1 (g2.symm.trans g)
    obtain ⟨q1, ⟨cl, m, q2⟩, q3, q4, q5⟩ := md g'
    have ps : PSC n f M oo cl m (3 * e + i) c5 r2 := q2.mv em (fun x hx => at05 x oo (by omega) (by omega) (by omega)) (fun x y1 y2 => at05 x cl (by omega) (by omega) (by omega)) tk5 (fun q hq => funext (fun j => ra2 q j (by omega)))
    have ss : SRS n f M so e (i + 1) c5 r2 := fun j hj => by
      by_cases w : j = i
      · rw [w]
        exact ⟨oo, cl, m, by rw [(at05 195 so (by omega) (by omega) (by omega)).q]; exact ho, ps.scc (a := off) (by omega) (st5 g') (by rw [r22]; exact r079)⟩
      · obtain ⟨oj, cj, mj, w1, w2, w3⟩ := q1 j (by omega)
        exact ⟨oj, cj, mj, by rw [(at05 195 so (by omega) (by omega) (by omega)).q]; exact w1, w3.mv em (fun x hx => at05 x oj (by omega) (by omega) (by omega)) (fun x y1 y2 => at05 x cj (by omega) (by omega) (by omega)) tk5 (fun q hq => funext (fun j' => ra2 q j' (by omega))) (by rw [r22, hr0]; exact sIa_n (by omega)) (fun _ _ _ _ _ _ _ y _ => ra2 46 _ (by omega))⟩
    refine ⟨⟨⟨h5.x, ?_, ?_, sa5.e6, sa5.e195, sa5.p195, sa5.l195, by omega, he, by rw [hr2]; rfl, by rw [hr2]; rfl, ss, fun x _ z2 => absurd z2 (by omega)⟩, by rw [hr2]; rfl, by rw [hc5]; exact u2_s⟩, ss, cl, m, ps⟩
    · rw [hc5]
      exact ((AT.sR (cs := sI (sR (sI c1 234 oo y0) 35 k (some so)) 36 k (nI (i + 1))) (t := 37) (j := k) (x := 35) (i := k) (v := none) (by omega)).r).trans u2_s
    · rw [hc5]
      exact kI_s
  have exr5 := exr.f' tk5
  obtain ⟨c6, r6, r7, t1, t2, t3, t4, t5, t6, t7⟩ := true_H (so := so) (e := e) (ns := i + 1) (nm := 0) (mg := 0) (w := 0) hF sk hs exr5 (fun w => absurd w (by decide)) h5 (fun g => (md5 g).1)
  have ju6 : JU t c k so e i lo hi Sl Sh c5 r2 c6 r7 := JU.jk (JK.jf t5)
  have i233 : kI c5 233 oo = nI r := by rw [(at05 233 oo (by omega) (by omega) (by omega)).i]; exact x1
  have cls : c_X0_checkSource_L90 F T (u1 + 1) cs k so (nI i) oo (nI i) = some c6 := by
    have sa1 : SAR so ns c1 := sa.mv (EM.of (congrArg (fun z => z.2.2) b3.c1)) (b7 195 so (by omega))
    have cm1 := l4.keep (EM.of (congrArg (fun z => z.2.2) b3.c1)) (fun y y1 y2 => b7 y cl' (by omega))
    have em1 : EM cs c1 := EM.of (congrArg (fun z => z.2.2) b3.c1)
    rw [c_X0_checkSource_L90, if_pos (Int32.le_refl _), if_neg nz, gI_ok sa.e6, ob_s, gI_ok e7, ob_s, ckE_ok h.ck.o, ob_s, b1, ob_s, nI_p1 hi0, sa1.rd (show i - 1 < ns by omega), (b7 195 so (by omega)).q, l1, oc_s, gI_ok (em1 _ l2), ob_s, gR_ok (em1 _ l2), ob_s, (b7 235 ol (by omega)).r, l3, ob_s, gI_ok cm1.e, ob_s, cm1.sz, ← hy0]
    unfold c_X0_checkSource_b191 c_X0_checkSource_b219
    have o1 : (1, k) ∈ kE (sI c1 234 oo y0) := b4.ck.o
    have o2 : (1, k) ∈ kE (sR (sI c1 234 oo y0) 35 k (some so)) := b4.ck.o
    have o3 : (1, k) ∈ kE (sI (sR (sI c1 234 oo y0) 35 k (some so)) 36 k (nI (i + 1))) := b4.ck.o
    rw [pI_ok (em1 _ e7), ob_s, pR_ok o1, ob_s, nI_1, pI_ok o2, ob_s, pR_ok o3, ob_s, ← hc5, gI_ok (em _ e7), ob_s, i233, ckE_ok h5.ck.o, ob_s, t1, ob_s]
  have a206 : kI c6 206 so = kI cs 206 so := by rw [(t5.a0 206 so (by omega) (by omega)).i, (at05 206 so (by omega) (by omega) (by omega)).i]
  by_cases g : rs.1 21 = 0
  · -- a fault before
    have z0 : r0.1 21 = 0 := by rw [rf0]; exact g
    have q1 : r1 = r0 := by
      have : m_bounded F r0 b (kI cs 232 oo) = some r0 := by
        unfold m_bounded m_bounded_b17
        by_cases z1 : b = 0
        · rw [if_pos z1]
          by_cases z2 : r0.1 75 = 0
          · rw [if_pos z2, tell_f z0, ob_s]
          · rw [if_neg z2]
        · rw [if_neg z1]
      exact Option.some.inj (b2.symm.trans this)
    have z2 : r2.1 21 = 0 := by rw [g2, q1]; exact z0
    have q2 : r6 = r2 := Option.some.inj (t2.symm.trans (tj_f (n := 299) z2))
    have q3 : r7 = r2 := by
      rw [q2] at t3
      exact Option.some.inj (t3.symm.trans (want_f z2))
    -- the reference keeps its scope
    have ju7 : JU t c k so e i lo hi Sl Sh c6 r7 c6 r0 := by
      rw [q3, hr2, q1]
      exact JU.ref ⟨Or.inr rfl, fun q hq => ⟨(by show r0.1 q = (if q = 78 then nI (i + 1) else if q = 77 then nI e else if q = 76 then 0 else r0.1 q); unfold jK at hq; rw [if_neg (by omega), if_neg (by omega), if_neg (by omega)]), rfl, rfl⟩⟩ (fun q _ => rfl) (fun j _ => rfl)
    refine ⟨c6, r0, _, nI off + 0, cls, ?_, t6.ju ju7 rfl rfl (fun q hq => ?_) rfl ?_ (by omega), (ju05.trans ju6).trans ju7, a206, fun g' => absurd (z0.symm.trans g') (by decide)⟩
    · rw [m_judgeSelect_L122, if_pos (Int32.le_refl _), wrI_n j9 (by decide), ob_s, ← hr0, if_pos z0]
      unfold m_judgeSelect_b202 m_judgeSelect_b265
      rw [if_neg nz, if_pos z0, nI_1]
    · rw [q3, rf2 q (by omega), q1]
    · rw [q3, r22]
  · have g' := h.good g
    obtain ⟨q1, ⟨cl, m, q2⟩, q3, q4, q5⟩ := md g'
    have ps0 : PSC n f M oo cl m (3 * e + i) cs r0 := q2.mv EM.refl (fun _ _ => AT.refl) (fun _ _ _ => AT.refl) ju0.tkf (fun q hq => funext (fun j => ra0 q j (by omega)))
    have z0 : ¬ r0.1 21 = 0 := by rw [rf0]; exact g
    have ref : m_judgeSelect_L122 F T' rc (u1' + 1) rs (nI e) (nI off) (nI i) (nI (3 * e + i)) (nI i) = rc r7 (nI e) (nI off + nI m) (nI (i + 1)) := by
      rw [m_judgeSelect_L122, if_pos (Int32.le_refl _), wrI_n j9 (by decide), ob_s, ← hr0, if_neg z0, ps0.cols j9, ob_s]
      unfold m_judgeSelect_b202 m_judgeSelect_b265
      have kk : m_isKeptSelect F 300 r0 (nI e) (nI (i + 1)) = some b := (q4.fr ju0.fr).run hF (by omega) (by omega)
      have r57 : r0.2.2.1 57 (3 * e + i) = kI cs 232 oo := (ra0 57 _ (by omega)).trans jn
      have r58 : r2.2.2.1 58 (3 * e + i) = nI r := (ra2 58 _ (by omega)).trans x2
      have r58' : r6.2.2.1 58 (3 * e + i) = nI r := by rw [t4.a (k := 58) (by unfold jR; omega)]; exact r58
      rw [if_neg nz, if_neg z0, nI_1, kk, ob_s, rdI_n j9 (by decide), ob_s, r57, b2, ob_s]
      unfold m_sourcesOf
      rw [ob_s, ← hr2, rdI_n j9 (by decide), ob_s, r58, t2, ob_s, rdI_n j9 (by decide), ob_s, r58', t3, ob_s]
    refine ⟨c6, r7, _, nI off + nI m, cls, ref, t6, ju05.trans ju6, a206, fun gg => ?_⟩
    have g2' : r2.1 21 = 1 := by
      by_cases z : r2.1 21 = 0
      · have w2 : r6 = r2 := Option.some.inj (t2.symm.trans (tj_f (n := 299) z))
        have w3 : r7 = r2 := by
          rw [w2] at t3
          exact Option.some.inj (t3.symm.trans (want_f z))
        rw [w3, z] at gg
        exact absurd gg (by decide)
      · exact h5.good z
    obtain ⟨m1, m2, cl9, m9, m3⟩ := md5 g2'
    have em5 : EM c5 c6 := EM.of (congrArg (fun z => z.2.2) t5.c1)
    refine ⟨g', fun z hz => Or.inl hz, ?_, fun j hj => ?_, ?_, cl, m, ?_, nI_add _ _⟩
    · rw [x1]
      exact CVR.of hs exr (fun z z1 z2 => Or.inr ⟨z1, z2⟩)
    · obtain ⟨oj, cj, mj, w1, w2⟩ := m2 j hj
      exact ⟨oj, cj, mj, by rw [(t5.a0 195 so (by omega) (by omega)).q]; exact w1, w2.jf t5⟩
    · rw [(t5.a0 234 oo (by omega) (by omega)).i]
      exact st5 g'
    · have ps5 : PSC n f M oo cl m (3 * e + i) c5 r2 := q2.mv em (fun x hx => at05 x oo (by omega) (by omega) (by omega)) (fun x y1 y2 => at05 x cl (by omega) (by omega) (by omega)) tk5 (fun q hq => funext (fun j => ra2 q j (by omega)))
      exact ps5.mv em5 (fun x hx => t5.a0 x oo (by omega) (by omega)) (fun x y1 y2 => t5.a0 x cl (by omega) (by omega)) t5.tkf (fun q hq => t5.fr.a (by unfold jR; omega))

/-! a QUERY's sets, checked -/
theorem RT.noag {n : Nat} {f : Nat → Int32} {M c s r : Nat} {V : VT} {cs : CS} {rs : RS} (h : RT n f M c 0 false s r cs rs) (hv : ∀ y, y < s → VW c cs rs y = V y) : ∃ a, EXR n f M s V a r cs rs ∧ ∀ z, a ≤ z → z ≤ r → ¬ AGC (vk V z) := by
  obtain ⟨a, a1, a2, a3, a4⟩ := h
  refine ⟨a, ⟨a2, TR.fr _ _ _ _ (fun x q1 q2 => (hv x (by omega)).symm) (a3 r), fun y y1 y2 y3 => ?_⟩, fun z z1 z2 w => ?_⟩
  · have e := hv y (by omega)
    exact (a4.co y y1 (by omega) (by rw [← y3]; unfold vk; rw [e])).f e.symm TKF.refl
  · have e := hv z (by omega)
    have w' : AGN (VW c cs rs) z := by
      unfold AGC vk at w
      unfold AGN vk
      rw [e]
      exact w
    exact absurd (a4.an z z1 (by omega) w').1 (by decide)
theorem rf_f {F t : Nat} {a b : Int32} {cs : CS} (h1 : (10, t) ∈ kE cs) (h2 : kI cs 320 t ≠ 0) : c_X9_refuse F cs t a b = some cs := by
  unfold c_X9_refuse
  rw [gI_ok h1, ob_s, if_neg h2]
  rfl
theorem same_L {F it jt m : Nat} {cs : CS} (ci : CLM it m cs) (cj : CLM jt m cs) : ∀ (d y u : Nat), m - y ≤ d → d < u → y ≤ m → ∃ v, c_X2_sameTypes_L15 F cs u it jt (nI y) = some v ∧ ((v = 0 ∧ ∃ z, y ≤ z ∧ z < m ∧ kA cs 100 it z ≠ kA cs 100 jt z) ∨ (v = 1 ∧ ∀ z, y ≤ z → z < m → kA cs 100 it z = kA cs 100 jt z)) := by
  intro d
  induction d with
  | zero =>
    intro y u h1 h2 h3
    have m8 := ci.m8
    obtain ⟨u, rfl⟩ : ∃ z, u = z + 1 := ⟨u - 1, by omega⟩
    refine ⟨1, ?_, Or.inr ⟨rfl, fun z z1 z2 => absurd z2 (by omega)⟩⟩
    rw [c_X2_sameTypes_L15, gI_ok ci.e, ob_s, ci.sz, if_pos (nI_le (by omega) (by omega))]
    rfl
  | succ d ih =>
    intro y u h1 h2 h3
    have m8 := ci.m8
    obtain ⟨u, rfl⟩ : ∃ z, u = z + 1 := ⟨u - 1, by omega⟩
    by_cases hy : m ≤ y
    · refine ⟨1, ?_, Or.inr ⟨rfl, fun z z1 z2 => absurd z2 (by omega)⟩⟩
      rw [c_X2_sameTypes_L15, gI_ok ci.e, ob_s, ci.sz, if_pos (nI_le hy (by omega))]
      rfl
    · obtain ⟨pi, hpi⟩ := ci.p100
      obtain ⟨pj, hpj⟩ := cj.p100
      have st : ∀ G : Option Int32, (if kA cs 100 it y = kA cs 100 jt y then (c_X2_sameTypes_L15 F cs u it jt (nI (y + 1))) else some 0) = G → c_X2_sameTypes_L15 F cs (u + 1) it jt (nI y) = G := fun G hG => by
        rw [c_X2_sameTypes_L15, gI_ok ci.e, ob_s, ci.sz, if_neg (nI_ge (by omega) (by omega)), if_neg (show ¬ (8 : Int32) ≤ nI y from nI_ge (a := y) (b := 8) (by omega) (by decide)), gA_ok ci.e, hpi, ob_s, rA_n ci.e100 hpi (by rw [ci.l100]; omega) (by rw [ci.l100]; omega), ob_s, gA_ok cj.e, hpj, ob_s, rA_n cj.e100 hpj (by rw [cj.l100]; omega) (by rw [cj.l100]; omega), ob_s, nI_1]
        exact hG
      by_cases e : kA cs 100 it y = kA cs 100 jt y
      · obtain ⟨v, v1, v2⟩ := ih (y + 1) u (by omega) (by omega) (by omega)
        refine ⟨v, st _ (by rw [if_pos e]; exact v1), ?_⟩
        rcases v2 with ⟨w1, z, z1, z2, z3⟩ | ⟨w1, w2⟩
        · exact Or.inl ⟨w1, z, by omega, z2, z3⟩
        · refine Or.inr ⟨w1, fun z z1 z2 => ?_⟩
          by_cases ez : z = y
          · rw [ez]; exact e
          · exact w2 z (by omega) z2
      · exact ⟨0, st _ (by rw [if_neg e]), Or.inl ⟨rfl, y, Nat.le_refl _, by omega, e⟩⟩
theorem same_ok {F it jt m m' : Nat} {cs : CS} (hF : 10000 ≤ F) (ci : CLM it m cs) (cj : CLM jt m' cs) : ∃ v, c_X2_sameTypes F cs it jt = some v ∧ ((v = 0 ∧ ¬ (m = m' ∧ ∀ z, z < m → kA cs 100 it z = kA cs 100 jt z)) ∨ (v = 1 ∧ m = m' ∧ ∀ z, z < m → kA cs 100 it z = kA cs 100 jt z)) := by
  have m8 := ci.m8
  have m8' := cj.m8
  unfold c_X2_sameTypes
  rw [gI_ok ci.e, ob_s, gI_ok cj.e, ob_s, ci.sz, cj.sz]
  by_cases e : m = m'
  · rw [← e] at cj
    rw [if_pos (by rw [e])]
    obtain ⟨v, v1, v2⟩ := same_L (F := F) ci cj m 0 F (by omega) (by omega) (Nat.zero_le _)
    refine ⟨v, v1, ?_⟩
    rcases v2 with ⟨w1, z, z1, z2, z3⟩ | ⟨w1, w2⟩
    · exact Or.inl ⟨w1, fun w => z3 (w.2 z z2)⟩
    · exact Or.inr ⟨w1, e, fun z hz => w2 z (Nat.zero_le _) hz⟩
  · rw [if_neg (fun w => e ((nI_eq (by omega) (by omega)).mp w))]
    exact ⟨0, rfl, Or.inl ⟨rfl, fun w => e w.1⟩⟩
/-- the reference's comparison of the items' types -/
theorem sameR_L {F e e0 m : Nat} {T : TG_judgeQuery} {rc : RS → Int32 → Int32 → Int32 → Int32 → Option RS} {a1 a3 a4 a6 : Int32} {rs : RS} (he : e < 60) (he0 : e0 < 60) (hm : m ≤ 8) (r36 : rs.2.2.1 36 e = nI m) : ∀ (d y u : Nat), m - y ≤ d → d + 1 < u → y ≤ m → ∃ v : Int32, m_judgeQuery_L150 F T rc u rs a1 (nI e0) a3 a4 (nI e) a6 1 (nI y) = m_judgeQuery_b208 F T rc rs a1 (nI e0) a3 a4 a6 v ∧ ((v = 0 ∧ ∃ z, y ≤ z ∧ z < m ∧ rs.2.2.1 46 (8 * e + z) ≠ rs.2.2.1 46 (8 * e0 + z)) ∨ (v = 1 ∧ ∀ z, y ≤ z → z < m → rs.2.2.1 46 (8 * e + z) = rs.2.2.1 46 (8 * e0 + z))) := by
  intro d
  induction d with
  | zero =>
    intro y u h1 h2 h3
    obtain ⟨u, rfl⟩ : ∃ z, u = z + 1 := ⟨u - 1, by omega⟩
    refine ⟨1, ?_, Or.inr ⟨rfl, fun z z1 z2 => absurd z2 (by omega)⟩⟩
    rw [m_judgeQuery_L150, if_neg (by decide), rdI_n he (by decide), ob_s, r36, if_pos (nI_le (by omega) (by omega))]
  | succ d ih =>
    intro y u h1 h2 h3
    obtain ⟨u, rfl⟩ : ∃ z, u = z + 1 := ⟨u - 1, by omega⟩
    by_cases hy : m ≤ y
    · refine ⟨1, ?_, Or.inr ⟨rfl, fun z z1 z2 => absurd z2 (by omega)⟩⟩
      rw [m_judgeQuery_L150, if_neg (by decide), rdI_n he (by decide), ob_s, r36, if_pos (nI_le hy (by omega))]
    · have st : ∀ G : Option RS, (if rs.2.2.1 46 (8 * e + y) = rs.2.2.1 46 (8 * e0 + y) then (m_judgeQuery_L150 F T rc u rs a1 (nI e0) a3 a4 (nI e) a6 1 (nI (y + 1))) else (m_judgeQuery_L150 F T rc u rs a1 (nI e0) a3 a4 (nI e) a6 0 (nI (y + 1)))) = G → m_judgeQuery_L150 F T rc (u + 1) rs a1 (nI e0) a3 a4 (nI e) a6 1 (nI y) = G := fun G hG => by
        rw [m_judgeQuery_L150, if_neg (by decide), rdI_n he (by decide), ob_s, r36, if_neg (nI_ge (by omega) (by omega)), nI_8, nI_add, rdI_n (by omega) (by decide), ob_s, nI_8, nI_add, rdI_n (by omega) (by decide), ob_s]
        unfold m_judgeQuery_b200
        rw [nI_1]
        exact hG
      by_cases e1 : rs.2.2.1 46 (8 * e + y) = rs.2.2.1 46 (8 * e0 + y)
      · obtain ⟨v, v1, v2⟩ := ih (y + 1) u (by omega) (by omega) (by omega)
        refine ⟨v, st _ (by rw [if_pos e1]; exact v1), ?_⟩
        rcases v2 with ⟨w1, z, z1, z2, z3⟩ | ⟨w1, w2⟩
        · exact Or.inl ⟨w1, z, by omega, z2, z3⟩
        · refine Or.inr ⟨w1, fun z z1 z2 => ?_⟩
          by_cases ez : z = y
          · rw [ez]; exact e1
          · exact w2 z (by omega) z2
      · refine ⟨0, st _ ?_, Or.inl ⟨rfl, y, Nat.le_refl _, by omega, e1⟩⟩
        obtain ⟨u, rfl⟩ : ∃ z, u = z + 1 := ⟨u - 1, by omega⟩
        rw [if_neg e1, m_judgeQuery_L150, if_pos rfl]
theorem sameR_ok {F e e0 m m0 : Nat} {T : TG_judgeQuery} {rc : RS → Int32 → Int32 → Int32 → Int32 → Option RS} {a1 a3 a4 a6 : Int32} {rs : RS} (hF : 10000 ≤ F) (he : e < 60) (he0 : e0 < 60) (hm : m ≤ 8) (hm0 : m0 ≤ 8) (r36 : rs.2.2.1 36 e = nI m) (r36' : rs.2.2.1 36 e0 = nI m0) : ∃ v : Int32, m_judgeQuery_b124 F T rc rs a1 (nI e0) a3 a4 (nI e) a6 = m_judgeQuery_b208 F T rc rs a1 (nI e0) a3 a4 a6 v ∧ ((v = 0 ∧ ¬ (m = m0 ∧ ∀ z, z < m → rs.2.2.1 46 (8 * e + z) = rs.2.2.1 46 (8 * e0 + z))) ∨ (v = 1 ∧ m = m0 ∧ ∀ z, z < m → rs.2.2.1 46 (8 * e + z) = rs.2.2.1 46 (8 * e0 + z))) := by
  unfold m_judgeQuery_b124 m_judgeQuery_b145
  rw [rdI_n he (by decide), ob_s, rdI_n he0 (by decide), ob_s, r36, r36']
  by_cases e1 : m = m0
  · rw [if_pos (by rw [e1])]
    obtain ⟨v, v1, v2⟩ := sameR_L (F := F) (T := T) (rc := rc) (a1 := a1) (a3 := a3) (a4 := a4) (a6 := a6) he he0 hm r36 m 0 F (by omega) (by omega) (Nat.zero_le _)
    refine ⟨v, v1, ?_⟩
    rcases v2 with ⟨w1, z, z1, z2, z3⟩ | ⟨w1, w2⟩
    · exact Or.inl ⟨w1, fun w => z3 (w.2 z z2)⟩
    · exact Or.inr ⟨w1, e1, fun z hz => w2 z (Nat.zero_le _) hz⟩
  · rw [if_neg (fun w => e1 ((nI_eq (by omega) (by omega)).mp w))]
    refine ⟨0, ?_, Or.inl ⟨rfl, fun w => e1 w.1⟩⟩
    obtain ⟨F', hF'⟩ : ∃ z, F = z + 1 := ⟨F - 1, by omega⟩
    have q : m_judgeQuery_L150 F T rc (F' + 1) rs a1 (nI e0) a3 a4 (nI e) a6 0 0 = m_judgeQuery_b208 F T rc rs a1 (nI e0) a3 a4 a6 0 := by
      rw [m_judgeQuery_L150, if_pos rfl]
    rw [← hF'] at q
    exact q
theorem TYR.inj {a b r q : Int32} (h : TYR a r) (g : TYR b q) : a = b ↔ r = q := by
  rcases h with ⟨h1, h2⟩ | ⟨h1, h2⟩ | ⟨h1, h2⟩ <;> rcases g with ⟨g1, g2⟩ | ⟨g1, g2⟩ | ⟨g1, g2⟩ <;> rw [h1, h2, g1, g2] <;> decide
/-- the set's word ahead of a SELECT: bounds and types, in both; behind a fault the class alone -/
theorem set_H {n : Nat} {f : Nat → Int32} {M t c cap s k : Nat} {V : VT} {F oq q e e0 so it jt m m0 i : Nat} {D : Nat → Prop} {b : Int32} {T' : TG_judgeQuery} {rc : RS → Int32 → Int32 → Int32 → Int32 → Option RS} {cs : CS} {rs : RS} (hF : 10000 ≤ F) (hq : q < 60) (hi : i < 5) (he : e < 60) (he0 : e0 < 60) (h : JH n f M t c cap s k V D cs rs) (e4 : (4, oq) ∈ kE cs) (e6 : (6, so) ∈ kE cs) (r129 : kR cs 129 oq = some it) (r194 : kR cs 194 so = some jt) (ci : CLM it m0 cs) (cj : CLM jt m cs) (hi0 : 0 < i) (sr : SETR (kI cs 204 so) (rs.2.2.1 62 (5 * q + i))) (sp : kI cs 205 so = rs.2.2.1 63 (5 * q + i)) (gd : rs.1 21 = 1 → ((kI cs 133 oq = 0 ∧ b = 1) ∨ (kI cs 133 oq ≠ 0 ∧ b = 0)) ∧ rs.2.2.1 36 e = nI m ∧ rs.2.2.1 36 e0 = nI m0 ∧ (∀ z, z < m0 → TYR (kA cs 100 it z) (rs.2.2.1 46 (8 * e0 + z))) ∧ (∀ z, z < m → TYR (kA cs 100 jt z) (rs.2.2.1 46 (8 * e + z)))) : ∃ cs' rs', c_X0_checkSet F cs k oq so = some cs' ∧ m_judgeQuery_b76 F T' rc rs (nI q) (nI e0) (nI i) (nI e) b = rc rs' (nI q) (nI e0) b (nI (i + 1)) ∧ JH n f M t c cap s k V D cs' rs' ∧ JF t c cs rs cs' rs' ∧ (rs'.1 21 = 1 → rs.1 21 = 1) ∧ (∀ x j, ¬ (j = t ∧ (x = 320 ∨ x = 321)) → AT cs cs' x j) ∧ rs'.2 = rs.2 := by
  have m8 := ci.m8
  have m8' := cj.m8
  have ni : ¬ nI i ≤ 0 := nI_ge (a := 0) (b := i) hi0 (by omega)
  have tail : ∀ (c0 : CS) (r0 : RS), JH n f M t c cap s k V D c0 r0 → (∀ x j, ¬ (j = t ∧ (x = 320 ∨ x = 321)) → AT cs c0 x j) → EM cs c0 → r0.2 = rs.2 → JF t c cs rs c0 r0 → (r0.1 21 = 1 → rs.1 21 = 1) → (rs.1 21 = 1) → ∃ cs' rs', c_X0_checkSet_b21 F c0 k oq so = some cs' ∧ m_judgeQuery_b124 F T' rc r0 (nI q) (nI e0) b (nI i) (nI e) (rs.2.2.1 63 (5 * q + i)) = rc rs' (nI q) (nI e0) b (nI (i + 1)) ∧ JH n f M t c cap s k V D cs' rs' ∧ JF t c cs rs cs' rs' ∧ (rs'.1 21 = 1 → rs.1 21 = 1) ∧ (∀ x j, ¬ (j = t ∧ (x = 320 ∨ x = 321)) → AT cs cs' x j) ∧ rs'.2 = rs.2 := fun c0 r0 w1 w2 w3 w4 w5 w6 g => by
    obtain ⟨g1, g2, g3, g4, g5⟩ := gd g
    have aa : ∀ x j, x < 320 → AT cs c0 x j := fun x j hx => w2 x j (by omega)
    have ci0 : CLM it m0 c0 := ci.keep w3 (fun x x1 x2 => aa x it (by omega))
    have cj0 : CLM jt m c0 := cj.keep w3 (fun x x1 x2 => aa x jt (by omega))
    obtain ⟨v, v1, v2⟩ := same_ok (F := F) hF ci0 cj0
    obtain ⟨v', v1', v2'⟩ := sameR_ok (F := F) (T := T') (rc := rc) (a1 := nI q) (a3 := b) (a4 := nI i) (a6 := rs.2.2.1 63 (5 * q + i)) (rs := r0) hF he he0 m8' m8 (by rw [w4]; exact g2) (by rw [w4]; exact g3)
    have ev : v = v' := by
      have q1 : (m0 = m ∧ ∀ z, z < m0 → kA c0 100 it z = kA c0 100 jt z) ↔ (m = m0 ∧ ∀ z, z < m → r0.2.2.1 46 (8 * e + z) = r0.2.2.1 46 (8 * e0 + z)) := by
        rw [(aa 100 it (by omega)).a, (aa 100 jt (by omega)).a, w4]
        refine ⟨fun q => ⟨q.1.symm, fun z hz => ((g4 z (by omega)).inj (g5 z hz)).mp (q.2 z (by omega)) |>.symm⟩, fun q => ⟨q.1.symm, fun z hz => ((g4 z hz).inj (g5 z (by omega))).mpr (q.2 z (by omega)).symm⟩⟩
      rcases v2 with ⟨x1, x2⟩ | ⟨x1, x2⟩ <;> rcases v2' with ⟨y1, y2⟩ | ⟨y1, y2⟩
      · rw [x1, y1]
      · exact absurd (q1.mpr y2) x2
      · exact absurd (q1.mp x2) y2
      · rw [x1, y1]
    have cls : ∀ G : Option CS, (if v = 0 then (Option.bind (c_X9_refuse F c0 t 6 (rs.2.2.1 63 (5 * q + i))) fun cs_10 => some cs_10) else some c0) = G → c_X0_checkSet_b21 F c0 k oq so = G := fun G hG => by
      unfold c_X0_checkSet_b21 c_X0_checkSet_b48
      rw [gR_ok (w3 _ e4), ob_s, gR_ok (w3 _ e6), ob_s, (aa 129 oq (by omega)).r, r129, (aa 194 so (by omega)).r, r194, ob_s, ob_s, ckE_ok ci0.e, ob_s, v1, ob_s, gR_ok w1.ck.o, ob_s, gI_ok (w3 _ e6), ob_s, (aa 205 so (by omega)).i, sp, w1.ck.r32, ob_s, ckE_ok w1.ck.ot, ob_s]
      exact hG
    by_cases z : v = 0
    · obtain ⟨c1, r1, t1, t2, t3, t4, t5, t6, t7, t8⟩ := w1.tell (F := F) (a := 6) (b := rs.2.2.1 63 (5 * q + i)) (by decide)
      refine ⟨c1, r1, cls _ (by rw [if_pos z, t1, ob_s]), ?_, t4, w5.trans t3, fun g' => absurd (t5.symm.trans g') (by decide), fun x j hx => (w2 x j hx).trans (t8 x j hx), t7.trans w4⟩
      rw [v1', ← ev]
      unfold m_judgeQuery_b208 m_judgeQuery_b221
      rw [if_pos z, t2, ob_s, nI_1]
    · refine ⟨c0, r0, cls _ (by rw [if_neg z]), ?_, w1, w5, w6, w2, w4⟩
      rw [v1', ← ev]
      unfold m_judgeQuery_b208 m_judgeQuery_b221
      rw [if_neg z, nI_1]
  rcases h.st with ⟨s1, s2, s3⟩ | ⟨s1, s2, s3, s4⟩
  · unfold c_X0_checkSet m_judgeQuery_b76
    rw [gI_ok e6, ob_s, if_neg ni, if_neg (show ¬ rs.1 21 = 0 by rw [s2]; decide), nI_5, nI_add, rdI_n (by omega) (by decide), ob_s, rdI_n (by omega) (by decide), ob_s]
    have cs11 : (kI cs 204 so = 11 ∧ rs.2.2.1 62 (5 * q + i) = 1) ∨ (¬ kI cs 204 so = 11 ∧ ¬ rs.2.2.1 62 (5 * q + i) = 1) := by
      rcases sr with ⟨a, b⟩ | ⟨a, b⟩ | ⟨a, b⟩ | ⟨a, b⟩ <;> rw [a, b] <;> decide
    rcases cs11 with ⟨y1, y2⟩ | ⟨y1, y2⟩
    · rw [if_pos y1, if_pos y2]
      exact tail cs rs h (fun _ _ _ => AT.refl) EM.refl rfl JF.refl (fun g => g) s2
    · obtain ⟨c1, r1, b1, b2, b3, b4, b5, b6, b7⟩ := bound_H (F := F) (u := kI cs 133 oq) (b := b) (p := rs.2.2.1 63 (5 * q + i)) h (fun g => (gd g).1)
      rw [if_neg y1, if_neg y2, gI_ok e4, ob_s, gI_ok e6, ob_s, sp, ckE_ok h.ck.o, ob_s, b1, ob_s, b2, ob_s]
      exact tail c1 r1 b4 b7 (EM.of (congrArg (fun z => z.2.2) b3.c1)) b6 b3 (fun _ => s2) s2
  · refine ⟨cs, rs, ?_, ?_, h, JF.refl, fun g => g, fun _ _ _ => AT.refl, rfl⟩
    · obtain ⟨v, v1, -⟩ := same_ok (F := F) hF ci cj
      have b21 : c_X0_checkSet_b21 F cs k oq so = some cs := by
        unfold c_X0_checkSet_b21 c_X0_checkSet_b48
        rw [gR_ok e4, ob_s, gR_ok e6, ob_s, r129, r194, ob_s, ob_s, ckE_ok ci.e, ob_s, v1, ob_s, gR_ok h.ck.o, ob_s, gI_ok e6, ob_s, h.ck.r32, ob_s, ckE_ok h.ck.ot, ob_s, rf_f h.ck.ot s1, ob_s]
        by_cases z : v = 0
        · rw [if_pos z]
        · rw [if_neg z]
      unfold c_X0_checkSet
      rw [gI_ok e6, ob_s]
      by_cases y : kI cs 204 so = 11
      · rw [if_pos y]
        exact b21
      · rw [if_neg y, gI_ok e4, ob_s, gI_ok e6, ob_s, ckE_ok h.ck.o, ob_s]
        unfold c_X0_checkBound c_X0_checkBound_b23
        by_cases y2 : kI cs 133 oq = 0
        · rw [if_pos y2, ob_s]
          exact b21
        · rw [if_neg y2, ck_t h.ck, gI_ok h.ck.ot, ob_s, ck_t h.ck, ckE_ok h.ck.ot, ob_s, rf_f h.ck.ot s1, ob_s]
          by_cases y3 : kI cs 324 t = 0
          · rw [if_pos y3, ob_s]
            exact b21
          · rw [if_neg y3, ob_s]
            exact b21
    · unfold m_judgeQuery_b76 m_judgeQuery_b221
      rw [if_neg ni, if_pos s2, nI_1]

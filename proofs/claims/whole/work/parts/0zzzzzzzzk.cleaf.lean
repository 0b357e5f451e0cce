/-! the class lays a stream's rows -/
theorem Bas.cf {c ar : Nat} {a b : CS} (h : Bas a) (g : CFR c ar a b) : Bas b := ⟨g.em _ h.o, g.em _ h.e384, (g.pl 384 0 (by omega)).1.trans h.p384, (g.pl 384 0 (by omega)).2.trans h.l384, (g.fr 386 0 (by omega) (by omega)).r.trans h.rS, g.em _ h.oS, g.em _ h.e258, (g.pl 258 2 (by omega)).1.trans h.p258, (g.pl 258 2 (by omega)).2.trans h.l258, g.em _ h.e259, (g.pl 259 2 (by omega)).1.trans h.p259, (g.pl 259 2 (by omega)).2.trans h.l259, g.em _ h.e260, (g.pl 260 2 (by omega)).1.trans h.p260, (g.pl 260 2 (by omega)).2.trans h.l260, g.em _ h.e261, (g.pl 261 2 (by omega)).1.trans h.p261, (g.pl 261 2 (by omega)).2.trans h.l261, g.em _ h.e262, (g.pl 262 2 (by omega)).1.trans h.p262, (g.pl 262 2 (by omega)).2.trans h.l262, g.em _ h.e263, (g.pl 263 2 (by omega)).1.trans h.p263, (g.pl 263 2 (by omega)).2.trans h.l263, (g.fr 387 0 (by omega) (by omega)).r.trans h.rT, g.em _ h.oT, g.em _ h.e352, (g.pl 352 9 (by omega)).1.trans h.p352, (g.pl 352 9 (by omega)).2.trans h.l352, g.em _ h.e353, (g.pl 353 9 (by omega)).1.trans h.p353, (g.pl 353 9 (by omega)).2.trans h.l353, g.em _ h.e354, (g.pl 354 9 (by omega)).1.trans h.p354, (g.pl 354 9 (by omega)).2.trans h.l354, g.em _ h.e358, (g.pl 358 9 (by omega)).1.trans h.p358, (g.pl 358 9 (by omega)).2.trans h.l358, (g.fr 399 0 (by omega) (by omega)).r.trans h.rC, g.em _ h.oC, g.em _ h.e74, (g.pl 74 37 (by omega)).1.trans h.p74, (g.pl 74 37 (by omega)).2.trans h.l74, g.em _ h.e75, (g.pl 75 37 (by omega)).1.trans h.p75, (g.pl 75 37 (by omega)).2.trans h.l75⟩
theorem ST.cf {c ar n : Nat} {rs : RS} {a b : CS} (h : ST n a rs) (g : CFR c ar a b) : ST n b rs := by
  have g6 := g.fr 256 2 (by omega) (by omega)
  have g7 := g.fr 257 2 (by omega) (by omega)
  have g8 := g.fr 258 2 (by omega) (by omega)
  have g9 := g.fr 259 2 (by omega) (by omega)
  have g0 := g.fr 260 2 (by omega) (by omega)
  have g1 := g.fr 261 2 (by omega) (by omega)
  refine ⟨by rw [g6.i]; exact h.ci, h.ri, h.le, fun k hk => by rw [g8.a]; exact h.col k hk, by rw [g7.j]; exact h.wm, fun r hr => by rw [g1.a]; exact h.th r hr, h.out, ?_⟩
  rw [g8.a, g9.b, g0.a]
  exact h.val
theorem i64_sub {w k : Int64} (h : 0 ≤ k) : ((-9223372036854775808 : Int64) + k ≤ w) ↔ (w - k ≤ w) := by
  have k0 : (0 : Int) ≤ k.toInt := Int64.le_iff_toInt_le.mp h
  have k1 : k.toInt < 9223372036854775808 := Int64.toInt_lt k
  have w0 : (-9223372036854775808 : Int) ≤ w.toInt := Int64.le_toInt w
  have w1 : w.toInt < 9223372036854775808 := Int64.toInt_lt w
  have e1 : ((-9223372036854775808 : Int64) + k).toInt = -9223372036854775808 + k.toInt := by
    rw [Int64.toInt_add, show (-9223372036854775808 : Int64).toInt = -9223372036854775808 from rfl]
    exact Int.bmod_eq_of_le (by omega) (by omega)
  rw [Int64.le_iff_toInt_le, Int64.le_iff_toInt_le, e1, Int64.toInt_sub]
  by_cases q : -9223372036854775808 + k.toInt ≤ w.toInt
  · have e2 : (w.toInt - k.toInt).bmod (2 ^ 64) = w.toInt - k.toInt := Int.bmod_eq_of_le (by omega) (by omega)
    rw [e2]
    exact ⟨fun _ => by omega, fun _ => q⟩
  · have e2 : (w.toInt - k.toInt).bmod (2 ^ 64) = w.toInt - k.toInt + 18446744073709551616 := by
      have e3 : (w.toInt - k.toInt + ((2 ^ 64 : Nat) : Int)).bmod (2 ^ 64) = (w.toInt - k.toInt).bmod (2 ^ 64) := Int.add_bmod_right ..
      rw [← e3]
      exact Int.bmod_eq_of_le (by omega) (by omega)
    rw [e2]
    exact ⟨fun z => absurd z q, fun z => by omega⟩
theorem old_eq {w k : Int64} (h : 0 ≤ k) : (if (-9223372036854775808 : Int64) + k ≤ w then w - k else -9223372036854775808) = sinc w k := by
  unfold sinc
  by_cases q : w - k ≤ w
  · rw [if_pos q, if_pos ((i64_sub h).mpr q)]
  · rw [if_neg q, if_neg (fun z => q ((i64_sub h).mp z))]
theorem nI_8p {s p : Nat} : nI s * 8 + nI p = nI (8 * s + p) := by
  rw [show (8 : Int32) = nI 8 from rfl, pk_mul, nI_add, Nat.mul_comm]
theorem nI_5p {r m : Nat} : nI r * 5 + nI m = nI (5 * r + m) := by
  rw [show (5 : Int32) = nI 5 from rfl, pk_mul, nI_add, Nat.mul_comm]
/-- what a SOURCE keeps, in both -/
def KPR (rs : RS) (o : Nat) (k : Int64) : Prop := (rs.2.2.1 51 o = 0 ∧ k < 0) ∨ (rs.2.2.1 51 o ≠ 0 ∧ 0 ≤ k ∧ k = rs.2.2.2 52 o)
theorem shows_ok {F n s p o : Nat} {k : Int64} {rs : RS} {X : CS} (hB : Bas X) (h : ST n X rs) (hs : s < n) (hp : p < 8) (kp : KPR rs o k) : c_X7_shows F X 2 (nI s) (nI p) k = some (if isin rs o (8 * s + p) = true then 1 else 0) := by
  have le := h.le
  obtain ⟨m, m1, m2, m3, m4⟩ := h.col s hs
  obtain ⟨-, th⟩ := h.th (8 * s + p) (by omega)
  unfold c_X7_shows isin
  rw [ckE_ok hB.oS, ob_s, ho_in hB h hs hp, ob_s]
  rcases th with q | q
  · rw [q, if_pos rfl]
    rfl
  · obtain ⟨-, tm, -⟩ := h.val s m p hs hp m2 m3 q
    have rest : ∀ y : Int64, (0 ≤ k → y = sinc rs.2.1 k) → c_X7_shows_b36 F X 2 (nI s) (nI p) k y = some (if (!((1 : Int32) == 0) && (rs.2.2.1 51 o == 0 || !decide (rs.2.2.2 7 (8 * s + p) < sinc rs.2.1 (rs.2.2.2 52 o)))) = true then 1 else 0) := fun y hy => by
      unfold c_X7_shows_b36 c_X7_shows_b74 c_X7_shows_b79
      rw [gA_ok hB.oS, hB.p259, ob_s, gA_ok hB.oS, hB.p258, ob_s, rA_n hB.e258 hB.p258 (by rw [hB.l258]; omega) (by rw [hB.l258]; omega), ob_s, m3, nI_8p, nI_5p, rB_n hB.e259 hB.p259 (by rw [hB.l259]; omega) (by rw [hB.l259]; omega), ob_s, tm]
      rcases kp with ⟨k1, k2⟩ | ⟨k1, k2, k3⟩
      · rw [if_pos k2, k1]
        rfl
      · rw [if_neg (Int64.not_lt.mpr k2), hy k2, k3, show (rs.2.2.1 51 o == 0) = false from beq_eq_false_iff_ne.mpr k1]
        by_cases z : rs.2.2.2 7 (8 * s + p) < sinc rs.2.1 (rs.2.2.2 52 o)
        · rw [if_pos z, decide_eq_true z]
          rfl
        · rw [if_neg z, decide_eq_false z]
          rfl
    rw [q, if_neg (show ¬ (1 : Int32) = 0 by decide), gJ_ok hB.oS, ob_s, ob_s, h.wm]
    by_cases z : (-9223372036854775808 : Int64) + k ≤ rs.2.1
    · rw [if_pos z]
      exact rest _ (fun w => by rw [← old_eq w, if_pos z])
    · rw [if_neg z]
      exact rest _ (fun w => by rw [← old_eq w, if_neg z])
theorem crow_L {F c ar B n s p m to : Nat} {rs : RS} {cs : CS} (hBB : B ≤ 400000) (hB : Bas cs) (h : ST n cs rs) (hs : s < n) (hp : p < 8) (m2 : m ≤ 4) (m3 : kA cs 258 2 s = nI m) (q : rs.2.2.1 6 (8 * s + p) = 1) (hto : to + m + 1 ≤ B) : ∀ (d i u : Nat) (X : CS), m + 1 = i + d → d < u → STS ar B X → STF c ar to cs X → (∀ t, t < i → to + t < kL X 288 ar ∧ sv X ar (to + t) = strc rs (8 * s + p) m t) → ∃ Y, c_X7_copyRow_L23 F u X 2 (nI s) ar (nI to) (nI (5 * (8 * s + p))) (nI i) = some Y ∧ STS ar B Y ∧ STF c ar to cs Y ∧ (∀ t, t < m + 1 → to + t < kL Y 288 ar ∧ sv Y ar (to + t) = strc rs (8 * s + p) m t) := by
  have le := h.le
  intro d
  induction d with
  | zero =>
    intro i u X d1 d2 st hf hv
    obtain ⟨u, rfl⟩ : ∃ z, u = z + 1 := ⟨u - 1, by omega⟩
    have hB1 := hB.cf hf.cf
    rw [c_X7_copyRow_L23, gA_ok hB1.oS, hB1.p258, ob_s, rA_n hB1.e258 hB1.p258 (by rw [hB1.l258]; omega) (by rw [hB1.l258]; omega), ob_s, (hf.fr 258 2 (by omega) (by omega)).a, m3, if_pos (nI_lt (by omega) (by omega))]
    exact ⟨X, rfl, st, hf, fun t ht => hv t (by omega)⟩
  | succ d ih =>
    intro i u X d1 d2 st hf hv
    obtain ⟨u, rfl⟩ : ∃ z, u = z + 1 := ⟨u - 1, by omega⟩
    have hB1 := hB.cf hf.cf
    obtain ⟨v1, v2, v3⟩ := h.val s m p hs hp m2 m3 q
    have hx : (kA cs 260 2 (5 * (8 * s + p) + i) = 0 ∧ strc rs (8 * s + p) m i = some (kB cs 259 2 (5 * (8 * s + p) + i))) ∨ (kA cs 260 2 (5 * (8 * s + p) + i) = 1 ∧ strc rs (8 * s + p) m i = none) := by
      unfold strc
      by_cases z : i < m
      · obtain ⟨a1, a2, a3⟩ := v1 i z
        rw [if_pos z, a1, a2]
        rcases a3 with y | ⟨y, -⟩
        · rw [y, if_pos rfl]
          exact Or.inl ⟨rfl, rfl⟩
        · rw [y, if_neg (by decide)]
          exact Or.inr ⟨rfl, rfl⟩
      · rw [if_neg z, show i = m by omega, v2, v3]
        exact Or.inl ⟨rfl, rfl⟩
    obtain ⟨Y, e2, s3, l3, w3, k3, f3⟩ := put_ok (F := F) (i := to + i) st hBB (by omega) hx
    have fx := f3 c (to + i) (Nat.le_refl _)
    rw [c_X7_copyRow_L23, gA_ok hB1.oS, hB1.p258, ob_s, rA_n hB1.e258 hB1.p258 (by rw [hB1.l258]; omega) (by rw [hB1.l258]; omega), ob_s, (hf.fr 258 2 (by omega) (by omega)).a, m3, if_neg (nI_nlt (by omega) (by omega)), if_neg (show ¬ (5 : Int32) ≤ nI i from nI_ge (a := i) (b := 5) (by omega) (by omega)), gA_ok hB1.oS, hB1.p259, ob_s, nI_add, rB_n hB1.e259 hB1.p259 (by rw [hB1.l259]; omega) (by rw [hB1.l259]; omega), ob_s, gA_ok hB1.oS, hB1.p260, ob_s, rA_n hB1.e260 hB1.p260 (by rw [hB1.l260]; omega) (by rw [hB1.l260]; omega), ob_s, ckE_ok st.st.o, ob_s, nI_add, (hf.fr 259 2 (by omega) (by omega)).b, (hf.fr 260 2 (by omega) (by omega)).a, e2, ob_s]
    unfold c_X7_copyRow_b69
    rw [nI_1]
    refine ih (i + 1) u Y (by omega) (by omega) s3 (hf.trans fx (by omega)) (fun t ht => ?_)
    by_cases z : t = i
    · rw [z]
      exact ⟨l3, w3⟩
    · obtain ⟨q1, q2⟩ := hv t (by omega)
      exact ⟨Nat.lt_of_lt_of_le q1 fx.ln, (fx.ce _ (by omega) q1).trans q2⟩
theorem crow_ok {F c ar B n s p m to : Nat} {rs : RS} {cs : CS} (hF : 10000 ≤ F) (hBB : B ≤ 400000) (hB : Bas cs) (h : ST n cs rs) (hs : s < n) (hp : p < 8) (m2 : m ≤ 4) (m3 : kA cs 258 2 s = nI m) (q : rs.2.2.1 6 (8 * s + p) = 1) (hto : to + m + 1 ≤ B) (st : STS ar B cs) : ∃ Y, c_X7_copyRow F cs 2 (nI s) (nI p) ar (nI to) = some Y ∧ STS ar B Y ∧ STF c ar to cs Y ∧ to + (m + 1) ≤ kL Y 288 ar ∧ rwC Y ar to (m + 1) = strow rs (8 * s + p) m := by
  obtain ⟨Y, e1, s1, f1, v1⟩ := crow_L (F := F) (c := c) hBB hB h hs hp m2 m3 q hto (m + 1) 0 F cs (by omega) (by omega) st STF.refl (fun t ht => absurd ht (by omega))
  refine ⟨Y, ?_, s1, f1, by have := (v1 m (by omega)).1; omega, row_of (fun t ht => (v1 t ht).2)⟩
  unfold c_X7_copyRow
  rw [ckE_ok hB.oS, ob_s, ho_in hB h hs hp, ob_s, q, if_neg (by decide), nI_8p, show nI (8 * s + p) * 5 = nI (5 * (8 * s + p)) by rw [show (5 : Int32) = nI 5 from rfl, pk_mul, Nat.mul_comm]]
  exact e1
/-- a SOURCE that is a stream, as the class holds it -/
def LFC (r o s m : Nat) (k : Int64) (cs : CS) : Prop := ((7, o) ∈ kE cs) ∧ (kR cs 225 o = none) ∧ (kI cs 224 o = nI s) ∧ (kJ cs 230 o = k) ∧ (∃ cl, kR cs 235 o = some cl ∧ CLM cl (m + 1) cs) ∧ (kR cs 160 r = some 2)
theorem LFC.e {r o s m : Nat} {k : Int64} {cs : CS} (h : LFC r o s m k cs) : (7, o) ∈ kE cs := h.1
theorem LFC.i {r o s m : Nat} {k : Int64} {cs : CS} (h : LFC r o s m k cs) : kR cs 225 o = none := h.2.1
theorem LFC.s' {r o s m : Nat} {k : Int64} {cs : CS} (h : LFC r o s m k cs) : kI cs 224 o = nI s := h.2.2.1
theorem LFC.k' {r o s m : Nat} {k : Int64} {cs : CS} (h : LFC r o s m k cs) : kJ cs 230 o = k := h.2.2.2.1
theorem LFC.cl {r o s m : Nat} {k : Int64} {cs : CS} (h : LFC r o s m k cs) : ∃ cl, kR cs 235 o = some cl ∧ CLM cl (m + 1) cs := h.2.2.2.2.1
theorem LFC.st {r o s m : Nat} {k : Int64} {cs : CS} (h : LFC r o s m k cs) : kR cs 160 r = some 2 := h.2.2.2.2.2
theorem LFC.cf {c ar r o s m : Nat} {k : Int64} {a b : CS} (h : LFC r o s m k a) (g : CFR c ar a b) : LFC r o s m k b := by
  refine ⟨g.em _ h.e, by rw [(g.fr 225 o (by omega) (by omega)).r]; exact h.i, by rw [(g.fr 224 o (by omega) (by omega)).i]; exact h.s', by rw [(g.fr 230 o (by omega) (by omega)).j]; exact h.k', ?_, by rw [(g.fr 160 r (by omega) (by omega)).r]; exact h.st⟩
  obtain ⟨cl, h1, h2⟩ := h.cl
  exact ⟨cl, by rw [(g.fr 235 o (by omega) (by omega)).r]; exact h1, h2.cf g⟩
theorem rng_succ {i : Nat} {p : Nat → Bool} : (List.range (i + 1)).filter p = (List.range i).filter p ++ (if p i = true then [i] else []) := by
  rw [List.range_succ, List.filter_append]
  by_cases q : p i = true
  · rw [if_pos q, List.filter_cons_of_pos q, List.filter_nil]
  · rw [if_neg q, List.filter_cons_of_neg q, List.filter_nil]
theorem cleaf_L {F r c ar B n s m o ro st : Nat} {k : Int64} {T : TC_X4_runQuery} {rs : RS} {cs : CS} (hF : 10000 ≤ F) (hBB : B ≤ 400000) (hB : Bas cs) (h : ST n cs rs) (hs : s < n) (m2 : m ≤ 4) (m3 : kA cs 258 2 s = nI m) (kp : KPR rs ro k) (lf : LFC r o s m k cs) (rn : RUN r c ar cs) (hb : st + 8 * (m + 1) ≤ B) : ∀ (d i u : Nat) (X : CS), 8 = i + d → d < u → STS ar B X → STF c ar st cs X → RWS ar st (m + 1) (((List.range i).filter (fun p => isin rs ro (8 * s + p))).map (fun p => strow rs (8 * s + p) m)) X → CRO c ar B st (m + 1) (leafL rs ro s m) cs (c_X4_runSource_L22 F T u X r o (nI st) (nI (((List.range i).filter (fun p => isin rs ro (8 * s + p))).map (fun p => strow rs (8 * s + p) m)).length) (nI i)) := by
  intro d
  induction d with
  | zero =>
    intro i u X d1 d2 st' hf hr
    obtain ⟨u, rfl⟩ : ∃ z, u = z + 1 := ⟨u - 1, by omega⟩
    rw [show i = 8 by omega] at hr ⊢
    rw [c_X4_runSource_L22, if_pos (show (8 : Int32) ≤ nI 8 by decide)]
    exact ⟨X, rfl, st', hr, hf⟩
  | succ d ih =>
    intro i u X d1 d2 st' hf hr
    obtain ⟨u, rfl⟩ : ∃ z, u = z + 1 := ⟨u - 1, by omega⟩
    have hB1 := hB.cf hf.cf
    have h1 := h.cf hf.cf
    have lf1 := lf.cf hf.cf
    have rn1 := rn.cf hf.cf
    obtain ⟨cl, c1, c2⟩ := lf1.cl
    have so := shows_ok (F := F) (o := ro) hB1 h1 hs (show i < 8 by omega) kp
    obtain ⟨L, hL⟩ : ∃ z, z = ((List.range i).filter (fun p => isin rs ro (8 * s + p))).map (fun p => strow rs (8 * s + p) m) := ⟨_, rfl⟩
    have lL : L.length ≤ i := by
      rw [hL, List.length_map]
      have := List.length_filter_le (fun p => isin rs ro (8 * s + p)) (List.range i)
      rw [List.length_range] at this
      exact this
    have sc := rng_succ (i := i) (p := fun p => isin rs ro (8 * s + p))
    rw [← hL] at hr ⊢
    rw [c_X4_runSource_L22, if_neg (show ¬ (8 : Int32) ≤ nI i from nI_ge (a := i) (b := 8) (by omega) (by omega)), gR_ok rn1.o, lf1.st, ob_s, gI_ok lf1.e, lf1.s', ob_s, gJ_ok lf1.e, lf1.k', ob_s, ob_s, ckE_ok hB1.oS, ob_s, so, ob_s]
    by_cases q : isin rs ro (8 * s + i) = true
    · have th : rs.2.2.1 6 (8 * s + i) = 1 := by
        have le := h.le
        obtain ⟨-, t⟩ := h.th (8 * s + i) (by omega)
        rcases t with t | t
        · unfold isin at q
          rw [t] at q
          cases q
        · exact t
      have q1 : (L.length + 1) * (m + 1) ≤ 8 * (m + 1) := Nat.mul_le_mul_right _ (by omega)
      rw [Nat.succ_mul] at q1
      obtain ⟨Y, e2, s2, f2, l2, v2⟩ := crow_ok (F := F) (c := c) (to := st + L.length * (m + 1)) hF hBB hB1 h1 hs (show i < 8 by omega) m2 (by rw [(hf.fr 258 2 (by omega) (by omega)).a]; exact m3) th (by omega) st'
      rw [if_pos q, if_neg (show ¬ (1 : Int32) = 0 by decide), ob_s, ob_s, gR_ok rn1.o, rn1.sp, ob_s, gR_ok lf1.e, c1, ob_s, ob_s, gI_ok c2.e, ob_s, c2.sz, ob_s, ob_s, ckE_ok hB1.oS, ob_s, pk_mul, nI_add, e2, ob_s]
      unfold c_X4_runSource_b77 c_X4_runSource_b80
      rw [nI_1, nI_1]
      have e3 : ((List.range (i + 1)).filter (fun p => isin rs ro (8 * s + p))).map (fun p => strow rs (8 * s + p) m) = L ++ [strow rs (8 * s + i) m] := by
        rw [sc, if_pos q, List.map_append, ← hL]
        rfl
      have l3 : L.length + 1 = (((List.range (i + 1)).filter (fun p => isin rs ro (8 * s + p))).map (fun p => strow rs (8 * s + p) m)).length := by rw [e3, List.length_append]; rfl
      rw [l3]
      refine ih (i + 1) u Y (by omega) (by omega) s2 (hf.trans f2 (by omega)) ?_
      rw [e3]
      exact (hr.stf f2 (Nat.le_refl _)).snoc l2 v2
    · rw [if_neg q, if_pos rfl]
      unfold c_X4_runSource_b80
      rw [nI_1]
      have e3 : ((List.range (i + 1)).filter (fun p => isin rs ro (8 * s + p))).map (fun p => strow rs (8 * s + p) m) = L := by rw [sc, if_neg q, List.append_nil, ← hL]
      rw [← e3] at hr ⊢
      exact ih (i + 1) u X (by omega) (by omega) st' hf hr

/-! the SOURCES of a SELECT, one after another -/
theorem QR.first {X : Nat → CS → Prop} {n : Nat} {f : Nat → Int32} {M c s Sb Qb d Su Sl Ql lo hi oq q : Nat} {cs : CS} {rs : RS} (h : QR X n f M c s Sb Qb cs rs d Su Sl Ql lo hi oq q) : ∃ e, rs.2.2.1 61 (5 * q) = nI e ∧ Sl ≤ e ∧ e < Su ∧ e < 60 := by
  cases d with
  | zero => exact h.elim
  | succ d =>
    obtain ⟨L, m, lb, ub, wb, l1, l2, l3, l4, l5, l6, l7, l8, l9, l10, l11, l12, l13, ⟨lw1, lw2, lw3⟩, l14, l15⟩ := h.2.ls
    obtain ⟨so, e, k1, k2, k0, k3, ⟨it, gr, mi, ns, mg, o1, -⟩, -⟩ := l14 0 (by omega)
    have m1 := mono_b lw2 (m - 1) 1 (by omega)
    rw [show 1 + (m - 1) = m by omega] at m1
    have k3' : e < wb 1 := k3
    exact ⟨e, k2, by omega, by omega, o1.e60⟩
theorem SRD.mv {PQ PQ' : Nat → Nat → Prop} {s oo e i off m : Nat} {V : VT} {D D' : Nat → Prop} {cs cs' : CS} {rs rs' : RS} (h : SRD PQ s V D oo e i off m cs rs) (a96 : AT cs cs' 96 (oo + 1)) (a : ∀ x, x = 225 ∨ x = 233 ∨ x = 234 → AT cs cs' x oo) (hD : ∀ z, D z → D' z) (r : ∀ q, q = 5 ∨ q = 36 ∨ q = 49 ∨ q = 53 ∨ q = 61 → rs'.2.2.1 q = rs.2.2.1 q) (hP : ∀ oi qi, PQ oi qi → PQ' oi qi) : SRD PQ' s V D' oo e i off m cs' rs' := by
  obtain ⟨h1, h2, h3, h4, h5, h6⟩ := h
  refine ⟨by rw [a96.i]; exact h1, by rw [(a 234 (by omega)).i]; exact h2, h3, by rw [(a 233 (by omega)).i]; exact h4.up hD, ?_, ?_⟩
  · rw [r 49 (by omega), r 5 (by omega)]
    exact h5
  · rw [(a 225 (by omega)).r, r 53 (by omega), r 61 (by omega), r 36 (by omega)]
    exact fun oi qi w0 w1 w2 => ⟨hP oi qi (h6 oi qi w0 w1 w2).1, (h6 oi qi w0 w1 w2).2⟩
/-- the SELECT so / e, i of whose SOURCES are checked -/
def SLI (n : Nat) (f : Nat → Int32) (M t c cap s k : Nat) (V : VT) (ss S Q K d so e it gr mi ns mg na hi ql : Nat) (b u v : Nat → Nat) (i off : Nat) (D : Nat → Prop) (cs : CS) (rs : RS) : Prop := (JH n f M t c cap s k V D cs rs) ∧ (SLT n f M c s V so e it gr mi ns mg na cs rs) ∧ (SAR so ns cs) ∧ (SNM n f M so e ns cs rs) ∧ (STM ss cs rs) ∧ (UQ K c s cs) ∧ (Z0 (b i) hi cs) ∧ (∀ j, i ≤ j → j < ns → ∃ oo, kQ cs 195 so j = some oo ∧ SRC (QR X0 n f M c s S Q cs rs d (v j)) X0 n f M c s (b j) (b (j + 1)) (u j) ql j oo (3 * e + j) cs rs) ∧ (rs.1 21 = 1 → (∃ b' : Int32, KPT d so e i b' cs rs) ∧ SRS n f M so e i cs rs ∧ ∃ ma mm : Nat → Nat, ma 0 = 0 ∧ off = ma i ∧ (∀ j, j < i → ma (j + 1) = ma j + mm j ∧ mm j ≤ 8) ∧ ∀ j, j < i → ∃ oo, kQ cs 195 so j = some oo ∧ SRC (QR XJ n f M c s S Q cs rs d (v j)) XJ n f M c s (b j) (b (j + 1)) (u j) ql j oo (3 * e + j) cs rs ∧ SRD (fun oi qi => ∃ lo', b j ≤ lo' ∧ JDN c s V D lo' (b (j + 1)) cs rs d oi qi) s V D oo e j (ma j) (mm j) cs rs)
theorem SLI.h {n : Nat} {f : Nat → Int32} {M t c cap s k : Nat} {V : VT} {ss S Q K d so e it gr mi ns mg na hi ql : Nat} {b u v : Nat → Nat} {i off : Nat} {D : Nat → Prop} {cs : CS} {rs : RS} (h : SLI n f M t c cap s k V ss S Q K d so e it gr mi ns mg na hi ql b u v i off D cs rs) : JH n f M t c cap s k V D cs rs := h.1
theorem SLI.sl {n : Nat} {f : Nat → Int32} {M t c cap s k : Nat} {V : VT} {ss S Q K d so e it gr mi ns mg na hi ql : Nat} {b u v : Nat → Nat} {i off : Nat} {D : Nat → Prop} {cs : CS} {rs : RS} (h : SLI n f M t c cap s k V ss S Q K d so e it gr mi ns mg na hi ql b u v i off D cs rs) : SLT n f M c s V so e it gr mi ns mg na cs rs := h.2.1
theorem SLI.sa {n : Nat} {f : Nat → Int32} {M t c cap s k : Nat} {V : VT} {ss S Q K d so e it gr mi ns mg na hi ql : Nat} {b u v : Nat → Nat} {i off : Nat} {D : Nat → Prop} {cs : CS} {rs : RS} (h : SLI n f M t c cap s k V ss S Q K d so e it gr mi ns mg na hi ql b u v i off D cs rs) : SAR so ns cs := h.2.2.1
theorem SLI.sn {n : Nat} {f : Nat → Int32} {M t c cap s k : Nat} {V : VT} {ss S Q K d so e it gr mi ns mg na hi ql : Nat} {b u v : Nat → Nat} {i off : Nat} {D : Nat → Prop} {cs : CS} {rs : RS} (h : SLI n f M t c cap s k V ss S Q K d so e it gr mi ns mg na hi ql b u v i off D cs rs) : SNM n f M so e ns cs rs := h.2.2.2.1
theorem SLI.st {n : Nat} {f : Nat → Int32} {M t c cap s k : Nat} {V : VT} {ss S Q K d so e it gr mi ns mg na hi ql : Nat} {b u v : Nat → Nat} {i off : Nat} {D : Nat → Prop} {cs : CS} {rs : RS} (h : SLI n f M t c cap s k V ss S Q K d so e it gr mi ns mg na hi ql b u v i off D cs rs) : STM ss cs rs := h.2.2.2.2.1
theorem SLI.uq {n : Nat} {f : Nat → Int32} {M t c cap s k : Nat} {V : VT} {ss S Q K d so e it gr mi ns mg na hi ql : Nat} {b u v : Nat → Nat} {i off : Nat} {D : Nat → Prop} {cs : CS} {rs : RS} (h : SLI n f M t c cap s k V ss S Q K d so e it gr mi ns mg na hi ql b u v i off D cs rs) : UQ K c s cs := h.2.2.2.2.2.1
theorem SLI.z0 {n : Nat} {f : Nat → Int32} {M t c cap s k : Nat} {V : VT} {ss S Q K d so e it gr mi ns mg na hi ql : Nat} {b u v : Nat → Nat} {i off : Nat} {D : Nat → Prop} {cs : CS} {rs : RS} (h : SLI n f M t c cap s k V ss S Q K d so e it gr mi ns mg na hi ql b u v i off D cs rs) : Z0 (b i) hi cs := h.2.2.2.2.2.2.1
theorem SLI.pre {n : Nat} {f : Nat → Int32} {M t c cap s k : Nat} {V : VT} {ss S Q K d so e it gr mi ns mg na hi ql : Nat} {b u v : Nat → Nat} {i off : Nat} {D : Nat → Prop} {cs : CS} {rs : RS} (h : SLI n f M t c cap s k V ss S Q K d so e it gr mi ns mg na hi ql b u v i off D cs rs) : ∀ j, i ≤ j → j < ns → ∃ oo, kQ cs 195 so j = some oo ∧ SRC (QR X0 n f M c s S Q cs rs d (v j)) X0 n f M c s (b j) (b (j + 1)) (u j) ql j oo (3 * e + j) cs rs := h.2.2.2.2.2.2.2.1
theorem SLI.gd {n : Nat} {f : Nat → Int32} {M t c cap s k : Nat} {V : VT} {ss S Q K d so e it gr mi ns mg na hi ql : Nat} {b u v : Nat → Nat} {i off : Nat} {D : Nat → Prop} {cs : CS} {rs : RS} (h : SLI n f M t c cap s k V ss S Q K d so e it gr mi ns mg na hi ql b u v i off D cs rs) : rs.1 21 = 1 → (∃ b' : Int32, KPT d so e i b' cs rs) ∧ SRS n f M so e i cs rs ∧ ∃ ma mm : Nat → Nat, ma 0 = 0 ∧ off = ma i ∧ (∀ j, j < i → ma (j + 1) = ma j + mm j ∧ mm j ≤ 8) ∧ ∀ j, j < i → ∃ oo, kQ cs 195 so j = some oo ∧ SRC (QR XJ n f M c s S Q cs rs d (v j)) XJ n f M c s (b j) (b (j + 1)) (u j) ql j oo (3 * e + j) cs rs ∧ SRD (fun oi qi => ∃ lo', b j ≤ lo' ∧ JDN c s V D lo' (b (j + 1)) cs rs d oi qi) s V D oo e j (ma j) (mm j) cs rs := h.2.2.2.2.2.2.2.2
/-- where the SOURCES of a SELECT lie -/
def BUV (t c K k so e it gr ns hi : Nat) (b u v : Nat → Nat) : Prop := (so < it ∧ it < gr ∧ gr < b 0) ∧ (∀ k, k < ns → b k ≤ b (k + 1)) ∧ (b ns ≤ hi) ∧ (∀ k, k < ns → e < u k) ∧ (∀ k k', k < k' → k' < ns → v k ≤ u k') ∧ (t < K ∧ c < K ∧ K ≤ so ∧ hi ≤ k)
theorem BUV.od {t c K k so e it gr ns hi : Nat} {b u v : Nat → Nat} (h : BUV t c K k so e it gr ns hi b u v) : so < it ∧ it < gr ∧ gr < b 0 := h.1
theorem BUV.b1 {t c K k so e it gr ns hi : Nat} {b u v : Nat → Nat} (h : BUV t c K k so e it gr ns hi b u v) : ∀ k, k < ns → b k ≤ b (k + 1) := h.2.1
theorem BUV.b2 {t c K k so e it gr ns hi : Nat} {b u v : Nat → Nat} (h : BUV t c K k so e it gr ns hi b u v) : b ns ≤ hi := h.2.2.1
theorem BUV.u0 {t c K k so e it gr ns hi : Nat} {b u v : Nat → Nat} (h : BUV t c K k so e it gr ns hi b u v) : ∀ k, k < ns → e < u k := h.2.2.2.1
theorem BUV.uv {t c K k so e it gr ns hi : Nat} {b u v : Nat → Nat} (h : BUV t c K k so e it gr ns hi b u v) : ∀ k k', k < k' → k' < ns → v k ≤ u k' := h.2.2.2.2.1
theorem BUV.kk {t c K k so e it gr ns hi : Nat} {b u v : Nat → Nat} (h : BUV t c K k so e it gr ns hi b u v) : t < K ∧ c < K ∧ K ≤ so ∧ hi ≤ k := h.2.2.2.2.2
theorem BUV.le {t c K k so e it gr ns hi : Nat} {b u v : Nat → Nat} (h : BUV t c K k so e it gr ns hi b u v) {j j' : Nat} (h1 : j ≤ j') (h2 : j' ≤ ns) : b j ≤ b j' := by
  have := mono_b h.b1 (j' - j) j (by omega)
  rwa [show j + (j' - j) = j' by omega] at this
theorem ma_le {ma mm : Nat → Nat} {i : Nat} (h0 : ma 0 = 0) (h : ∀ j, j < i → ma (j + 1) = ma j + mm j ∧ mm j ≤ 8) : ∀ j, j ≤ i → ma j ≤ 8 * j
  | 0, _ => by omega
  | j + 1, hj => by
    have := ma_le h0 h j (by omega)
    obtain ⟨p, q⟩ := h j (by omega)
    omega
theorem sli_step {n : Nat} {f : Nat → Int32} {M t c cap s k : Nat} {V : VT} {ss S Q K d so e it gr mi ns mg na hi ql : Nat} {b u v : Nat → Nat} {i off : Nat} {D : Nat → Prop} {F u0 : Nat} {T T2 : TC_X0_checkQuery} {T' : TG_judgeQuery} {cs : CS} {rs : RS} (hF : 10000 ≤ F) (sk : SKV V s) (hs : s ≤ 120) (hd : d ≤ 90) (hin : i < ns) (bv : BUV t c K k so e it gr ns hi b u v) (hJ : JQS n f M t c cap s k V ss S Q K d T2.1 T'.1) (hT : T.2.2.2 = cb_X0_checkInner F T2) (h : SLI n f M t c cap s k V ss S Q K d so e it gr mi ns mg na hi ql b u v i off D cs rs) (g1 : rs.1 21 = 1) : ∃ cs' rs' off' D' off2, cb_X0_checkSource F T cs k so (nI i) = some cs' ∧ m_judgeSelect_L4 F T' (u0 + 1) rs (nI e) (nI off) (nI i) = m_judgeSelect_L4 F T' u0 rs' (nI e) off' (nI (i + 1)) ∧ JU t c k so e i (b i) (b (i + 1)) (u i) (v i) cs rs cs' rs' ∧ (rs'.1 21 = 1 → (∀ z, D z → D' z) ∧ off' = nI off2) ∧ SLI n f M t c cap s k V ss S Q K d so e it gr mi ns mg na hi ql b u v (i + 1) off2 D' cs' rs' := by
  obtain ⟨od1, od2, od3⟩ := bv.od
  obtain ⟨kk1, kk2, kk3, kk4⟩ := bv.kk
  have n3 := h.sa.n3
  have e60 := h.sl.e60
  have bi0 := bv.le (j := 0) (j' := i) (Nat.zero_le _) (by omega)
  have bi1 := bv.le (j := i) (j' := i + 1) (by omega) (by omega)
  have bin := bv.le (j := i + 1) (j' := ns) (by omega) (Nat.le_refl _)
  have b2 := bv.b2
  obtain ⟨oo, q1, q2⟩ := h.pre i (Nat.le_refl _) hin
  obtain ⟨⟨b', kp⟩, srs, ma, mm, m0, m1, m2, ent⟩ := h.gd g1
  have hoff : off ≤ 8 * i := by rw [m1]; exact ma_le m0 m2 i (Nat.le_refl _)
  have pv : SPV n f M so e i (b i) (u i) cs rs := fun j hj => by
    obtain ⟨oj, e1, e2, e3⟩ := ent j hj
    obtain ⟨oj', cl, mj, s1, s2⟩ := srs j hj
    have eo : oj = oj' := Option.some.inj (e1.symm.trans s1)
    rw [← eo] at s2
    obtain ⟨cl', c1, c2, c3, c4⟩ := e2.b.cl
    have ec : cl = oj + 1 := by
      have := Option.some.inj (s2.r235.symm.trans c3)
      omega
    have bj := bv.le (j := j + 1) (j' := i) (by omega) (by omega)
    have oh := e2.b.oh
    refine ⟨oj, cl, mj, e1, by omega, by omega, s2, fun qi ei w1 w2 w3 w4 w5 => ?_⟩
    rcases e2.b.kd with ⟨dd, h9, -, w, -⟩ | ⟨y1, y2, y3, y4, oi, q', lo', y5, y6, y7, y8, y9⟩
    · exact absurd (w.symm.trans w3) (nI_nm1 (by omega))
    · have eq : q' = qi := (nI_eq (by omega) (by omega)).mp (y7.symm.trans w4)
      obtain ⟨e', f1, f2, f3, f4⟩ := y9.first
      rw [eq] at f1
      have ee : e' = ei := (nI_eq (by omega) (by omega)).mp (f1.symm.trans w5)
      have := bv.uv j i hj hin
      omega
  have last : 0 < i → ∃ ol cl m a, kQ cs 195 so (i - 1) = some ol ∧ (7, ol) ∈ kE cs ∧ kR cs 235 ol = some cl ∧ CLM cl m cs ∧ ol < b i ∧ cl < b i ∧ kI cs 234 ol = nI a ∧ off = a + m := fun hp => by
    obtain ⟨oj, e1, e2, e3⟩ := ent (i - 1) (by omega)
    obtain ⟨cl', c1, c2, c3, m', c4⟩ := e2.b.cl
    have m8 := c4.m8
    have mm8 := (m2 (i - 1) (by omega)).2
    have em : m' = mm (i - 1) := (nI_eq (by omega) (by omega)).mp (by
      rw [← c4.sz, c1]
      exact e3.1)
    have oh := e2.b.oh
    have bj := bv.le (j := i - 1 + 1) (j' := i) (by omega) (by omega)
    have ms := (m2 (i - 1) (by omega)).1
    rw [show i - 1 + 1 = i by omega] at ms
    exact ⟨oj, cl', m', ma (i - 1), e1, e2.b.e, c3, c4, by omega, by omega, e3.2.1, by omega⟩
  have i0 : i = 0 → off = 0 := fun z => by rw [m1, z]; exact m0
  have fin : ∃ cs' rs' off', cb_X0_checkSource F T cs k so (nI i) = some cs' ∧ m_judgeSelect_L4 F T' (u0 + 1) rs (nI e) (nI off) (nI i) = m_judgeSelect_L4 F T' u0 rs' (nI e) off' (nI (i + 1)) ∧ SRP n f M t c cap s k V S Q d so e i oo (b i) (b (i + 1)) (u i) (v i) ql off D cs rs cs' rs' off' := by
    by_cases hl : rs.2.2.1 49 (3 * e + i) = -1
    · exact src_inner_C (K := K) (ns := ns) (b := b') hF sk hs hd e60 hin g1 h.h hJ hT h.uq ⟨by omega, by omega, kk1, kk2, by omega⟩ h.st h.sa h.sl.rn h.sn q1 q2 hl (bv.u0 i hin) (h.z0.sub (Nat.le_refl _) (by omega)) i0 pv (by omega) last kp
    · exact src_leaf_C (ns := ns) (b := b') hF sk hs hd e60 hin g1 h.h ⟨by omega, by omega, by omega, by omega⟩ h.st h.sa h.sl.rn h.sn q1 q2 hl (bv.u0 i hin) (h.z0.sub (Nat.le_refl _) (by omega)) i0 pv (by omega) last kp
  obtain ⟨cs', rs', off', x1, x2, D', b2', jh, ju, ⟨m9, clm⟩, good⟩ := fin
  have em : EM cs cs' := EM.of (congrArg (fun z => z.2.2) ju.c1)
  have any : ∀ x j, x = 195 ∨ x = 228 ∨ x = 229 → AT cs cs' x j := fun x j hx => ju.a0 x j (by unfold kX; omega) (by omega)
  have ra : ∀ q, ¬ jK q → rs'.2.2.1 q = rs.2.2.1 q := fun q hq => ju.fr.a hq
  have uq' : UQ K c s cs' := h.uq.at' (fun o => ⟨ju.a0 202 o (by unfold kX; omega) (by omega), ju.a0 203 o (by unfold kX; omega) (by omega)⟩) (ju.a0 65 c (by unfold kX; omega) (by omega))
  have hV : ∀ x, x < s → VW c cs' rs' x = VW c cs rs x := fun x hx => (jh.v x hx).trans (h.h.v x hx).symm
  have pre' : ∀ j, i + 1 ≤ j → j < ns → ∃ oo, kQ cs' 195 so j = some oo ∧ SRC (QR X0 n f M c s S Q cs' rs' d (v j)) X0 n f M c s (b j) (b (j + 1)) (u j) ql j oo (3 * e + j) cs' rs' := fun j j1 j2 => by
    obtain ⟨oj, e1, e2⟩ := h.pre j (by omega) j2
    have p1 := bv.le (j := i + 1) (j' := j) j1 (by omega)
    have p2 := bv.le (j := j + 1) (j' := ns) (by omega) (Nat.le_refl _)
    exact ⟨oj, by rw [(any 195 so (by omega)).q]; exact e1, e2.ju hs ju (Or.inr p1) ⟨by omega, by omega, by omega, by omega⟩ hV (fun x e3 a w => X0.at' e3 a w)⟩
  have base : ∀ off2, (rs'.1 21 = 1 → (∃ b' : Int32, KPT d so e (i + 1) b' cs' rs') ∧ SRS n f M so e (i + 1) cs' rs' ∧ ∃ ma mm : Nat → Nat, ma 0 = 0 ∧ off2 = ma (i + 1) ∧ (∀ j, j < i + 1 → ma (j + 1) = ma j + mm j ∧ mm j ≤ 8) ∧ ∀ j, j < i + 1 → ∃ oo, kQ cs' 195 so j = some oo ∧ SRC (QR XJ n f M c s S Q cs' rs' d (v j)) XJ n f M c s (b j) (b (j + 1)) (u j) ql j oo (3 * e + j) cs' rs' ∧ SRD (fun oi qi => ∃ lo', b j ≤ lo' ∧ JDN c s V D' lo' (b (j + 1)) cs' rs' d oi qi) s V D' oo e j (ma j) (mm j) cs' rs') → SLI n f M t c cap s k V ss S Q K d so e it gr mi ns mg na hi ql b u v (i + 1) off2 D' cs' rs' := fun off2 w => ⟨jh, h.sl.ju ju ⟨by omega, by omega, by omega⟩ ⟨by omega, by omega, by omega, by omega, by omega, by omega⟩, h.sa.mv em (any 195 so (by omega)), h.sn.mv em any (ra 55 (by unfold jK; omega)) ju.tkf, h.st.mv em (ju.a0 256 2 (by unfold kX; omega) (by omega)) (ju.a0 258 2 (by unfold kX; omega) (by omega)) (ju.fr.f (by unfold jK; omega)) (ra 5 (by unfold jK; omega)), uq', (h.z0.sub bi1 (Nat.le_refl _)).at' (fun x j j1 j2 hx => ju.a0 x j (by unfold kX; omega) (by omega)), pre', w⟩
  by_cases g : rs'.1 21 = 1
  · obtain ⟨p1, p2, p3, p4, m, p5, p6⟩ := good g
    have m8 : m ≤ 8 := p5.2.2.1
    obtain ⟨ma', ha1, ha2⟩ : ∃ g : Nat → Nat, (∀ j, j ≤ i → g j = ma j) ∧ g (i + 1) = off + m := ⟨fun j => if j ≤ i then ma j else off + m, fun j hj => if_pos hj, if_neg (by omega)⟩
    obtain ⟨mm', hm1, hm2⟩ : ∃ g : Nat → Nat, (∀ j, j ≠ i → g j = mm j) ∧ g i = m := ⟨fun j => if j = i then m else mm j, fun j hj => if_neg hj, if_pos rfl⟩
    refine ⟨cs', rs', off', D', off + m, x1, x2, ju, fun _ => ⟨p1, p6⟩, base _ (fun _ => ⟨⟨b2', p3⟩, p2, ma', mm', (ha1 0 (Nat.zero_le _)).trans m0, ha2.symm, fun j hj => ?_, fun j hj => ?_⟩)⟩
    · by_cases ej : j = i
      · rw [ej, ha2, ha1 i (Nat.le_refl _), hm2, ← m1]
        exact ⟨rfl, m8⟩
      · rw [ha1 (j + 1) (by omega), ha1 j (by omega), hm1 j ej]
        exact m2 j (by omega)
    · by_cases ej : j = i
      · rw [ej, ha1 i (Nat.le_refl _), hm2, ← m1]
        exact ⟨oo, by rw [(any 195 so (by omega)).q]; exact q1, p4, p5⟩
      · rw [ha1 j (by omega), hm1 j ej]
        obtain ⟨oj, e1, e2, e3⟩ := ent j (by omega)
        have pj := bv.le (j := j + 1) (j' := i) (by omega) (by omega)
        have pj0 := bv.le (j := 0) (j' := j) (Nat.zero_le _) (by omega)
        have oh := e2.b.oh
        have ol := e2.b.ol
        obtain ⟨cl', c1, c2, -⟩ := e2.b.cl
        refine ⟨oj, by rw [(any 195 so (by omega)).q]; exact e1, e2.ju hs ju (Or.inl pj) ⟨by omega, by omega, by omega, by omega⟩ hV (fun x e3 a w => XJ.at' e3 a w), e3.mv (ju.a0 96 (oj + 1) (by unfold kX; omega) (by omega)) (fun x hx => ju.a0 x oj (by unfold kX; omega) (by omega)) p1 (fun q hq => ra q (by unfold jK; omega)) (fun oi qi w => ?_)⟩
        obtain ⟨lo', w1, w2⟩ := w
        refine ⟨lo', w1, JDN.keep (Nat.le_refl _) (Nat.le_refl _) (fun x z z1 z2 _ _ _ => ju.a0 x z (by unfold kX; omega) (by omega)) (fun y o hy o1 o2 ham => ?_) p1 (fun q hq => ra q (by unfold jK; omega)) d oi qi w2⟩
        obtain ⟨n39, un⟩ := h.uq o y (by omega) hy ham
        exact ju.s72 y n39 (fun o' z1 z2 z3 => by
          have := un o' (by omega) z3
          omega)
  · exact ⟨cs', rs', off', D', 0, x1, x2, ju, fun w => absurd w g, base 0 (fun w => absurd w g)⟩
/-- below L nothing moves but what checking may write anywhere -/
def LW1 (t c so L : Nat) (cs cs' : CS) : Prop := ∀ x j, j < L → ¬ (j = c ∧ (x = 72 ∨ x = 73)) → ¬ (j = t ∧ (x = 320 ∨ x = 321)) → ¬ (j = so ∧ x = 206) → AT cs cs' x j
/-- all SOURCES: behind them both go on alike -/
theorem sel_L {n : Nat} {f : Nat → Int32} {M t c cap s k : Nat} {V : VT} {ss S Q K d so e it gr mi ns mg na hi ql B lo : Nat} {b u v : Nat → Nat} {F : Nat} {T T2 T2' : TC_X0_checkQuery} {T' : TG_judgeQuery} (hF : 10000 ≤ F) (sk : SKV V s) (hs : s ≤ 120) (hd : d ≤ 90) (bv : BUV t c K k so e it gr ns hi b u v) (hv : ∀ j, j < ns → v j ≤ B) (heB : e < B) (hlo : lo ≤ so) (hJ : JQS n f M t c cap s k V ss S Q K d T2.1 T'.1) (hT2 : T.2.2.1 = cb_X0_checkSource F T2') (hT : T2'.2.2.2 = cb_X0_checkInner F T2) : ∀ (w i x x' off : Nat) (o' : Int32) (D : Nat → Prop) (cs : CS) (rs : RS), ns - i ≤ w → w < x → w < x' → i ≤ ns → (rs.1 21 = 1 → o' = nI off) → SLI n f M t c cap s k V ss S Q K d so e it gr mi ns mg na hi ql b u v i off D cs rs → ∃ cs' rs' D' off2, c_X0_checkSelect_L2 F T x cs k so (nI i) = c_X0_checkSelect_b38 F T cs' k so ∧ m_judgeSelect_L4 F T' x' rs (nI e) o' (nI i) = m_judgeSelect_b271 F T' rs' (nI e) ∧ JK t c k lo hi e B cs rs cs' rs' ∧ LW1 t c so (b 0) cs cs' ∧ JH n f M t c cap s k V D' cs' rs' ∧ SLT n f M c s V so e it gr mi ns mg na cs' rs' ∧ UQ K c s cs' ∧ STM ss cs' rs' ∧ (rs'.1 21 = 1 → rs.1 21 = 1 ∧ (∀ z, D z → D' z) ∧ SLI n f M t c cap s k V ss S Q K d so e it gr mi ns mg na hi ql b u v ns off2 D' cs' rs') := by
  intro w
  induction w with
  | zero =>
    intro i x x' off o' D cs rs h1 h2 h3 h4 ho h
    obtain ⟨x, rfl⟩ : ∃ z, x = z + 1 := ⟨x - 1, by omega⟩
    obtain ⟨x', rfl⟩ : ∃ z, x' = z + 1 := ⟨x' - 1, by omega⟩
    have ei : i = ns := by omega
    refine ⟨cs, rs, D, off, ?_, ?_, JK.refl, fun _ _ _ _ _ _ => AT.refl, h.h, h.sl, h.uq, h.st, fun g => ⟨g, fun _ hz => hz, by rw [ei] at h; exact h⟩⟩
    · rw [c_X0_checkSelect_L2, gI_ok h.sl.e6, ob_s, h.sl.i196, ei, if_pos (Int32.le_refl _)]
    · rw [m_judgeSelect_L4, rdI_n h.sl.e60 (by decide), ob_s, h.sl.rn, ei, if_pos (Int32.le_refl _)]
  | succ w ih =>
    intro i x x' off o' D cs rs h1 h2 h3 h4 ho h
    obtain ⟨x, rfl⟩ : ∃ z, x = z + 1 := ⟨x - 1, by omega⟩
    obtain ⟨x', rfl⟩ : ∃ z, x' = z + 1 := ⟨x' - 1, by omega⟩
    have n3 := h.sa.n3
    have e60 := h.sl.e60
    obtain ⟨od1, od2, od3⟩ := bv.od
    by_cases ei : i = ns
    · refine ⟨cs, rs, D, off, ?_, ?_, JK.refl, fun _ _ _ _ _ _ => AT.refl, h.h, h.sl, h.uq, h.st, fun g => ⟨g, fun _ hz => hz, by rw [ei] at h; exact h⟩⟩
      · rw [c_X0_checkSelect_L2, gI_ok h.sl.e6, ob_s, h.sl.i196, ei, if_pos (Int32.le_refl _)]
      · rw [m_judgeSelect_L4, rdI_n h.sl.e60 (by decide), ob_s, h.sl.rn, ei, if_pos (Int32.le_refl _)]
    have hin : i < ns := by omega
    obtain ⟨p, hp⟩ := h.sl.p195
    have isf : c_X0_isFaulty F cs k = some (if kI cs 320 t = 0 then 0 else 1) := by
      unfold c_X0_isFaulty c_X0_isFaulty_b15
      rw [ck_t h.h.ck, gI_ok h.h.ck.ot, ob_s]
      by_cases y : kI cs 320 t = 0
      · rw [if_pos y, if_pos y]; rfl
      · rw [if_neg y, if_neg y]; rfl
    have cls : ∀ G : Option CS, (if (if kI cs 320 t = 0 then (0 : Int32) else 1) = 0 then (Option.bind (T.2.2.1 cs k so (nI i)) fun cs_36 => (c_X0_checkSelect_L2 F T x) cs_36 k so (nI i + 1)) else (c_X0_checkSelect_b38 F T cs k so)) = G → c_X0_checkSelect_L2 F T (x + 1) cs k so (nI i) = G := fun G hG => by
      rw [c_X0_checkSelect_L2, gI_ok h.sl.e6, ob_s, h.sl.i196, if_neg (nI_ge hin (by omega)), gA_ok h.sl.e6, hp, ob_s, lnA_n h.sl.e195 hp, ob_s, h.sl.l195, if_neg (nI_ge (show i < 3 by omega) (by decide)), ckE_ok h.h.ck.o, ob_s, isf, ob_s, ob_s]
      exact hG
    rcases h.h.st with ⟨s1, s2, s3⟩ | ⟨s1, s2, s3, s4⟩
    · rw [ho s2]
      obtain ⟨c1, r1, o1, D1, off2, a1, a2, a3, a4, a5⟩ := sli_step (u0 := x') (T := T2') (T2 := T2) (T' := T') hF sk hs hd hin bv hJ hT h s2
      obtain ⟨c2, r2, D2, off3, b1, b2, b3, b9, b4, b5, b6, b7, b8⟩ := ih (i + 1) x x' off2 o1 D1 c1 r1 (by omega) (by omega) (by omega) (by omega) (fun g => (a4 g).2) a5
      have bi0 := bv.le (j := 0) (j' := i) (Nat.zero_le _) (by omega)
      have bin := bv.le (j := i + 1) (j' := ns) (by omega) (Nat.le_refl _)
      have b2' := bv.b2
      have bi1 := bv.le (j := i) (j' := i + 1) (by omega) (by omega)
      obtain ⟨kk1, kk2, kk3, kk4⟩ := bv.kk
      refine ⟨c2, r2, D2, off3, cls _ ?_, a2.trans b2, (a3.up ⟨by omega, hlo⟩ ⟨by omega, by omega⟩ ⟨by have := bv.u0 i hin; omega, Nat.le_refl _⟩ ⟨hv i hin, heB⟩ (by omega)).trans b3, fun y j j1 j2 j3 j4 => (a3.a0 y j (by unfold kX; omega) j4).trans (b9 y j j1 j2 j3 j4), b4, b5, b6, b7, fun g => ?_⟩
      · rw [if_pos s1, if_pos rfl, hT2, a1, ob_s, nI_1]
        exact b1
      · obtain ⟨g1, g2, g3⟩ := b8 g
        exact ⟨s2, fun z hz => g2 z ((a4 g1).1 z hz), g3⟩
    · refine ⟨cs, rs, D, off, cls _ ?_, ?_, JK.refl, fun _ _ _ _ _ _ => AT.refl, h.h, h.sl, h.uq, h.st, fun g => absurd (s2.symm.trans g) (by decide)⟩
      · rw [if_neg s1, if_neg (by decide)]
      · rw [m_judgeSelect_L4, rdI_n h.sl.e60 (by decide), ob_s, h.sl.rn, if_neg (nI_ge hin (by omega)), if_pos s2]

/-! the joint plan of a whole QUERY -/
def seN (cs : CS) (L i : Nat) : Nat := match kQ cs 1 L i with
  | some so => so
  | none => 0
theorem seN_is {cs : CS} {L i so : Nat} (h : kQ cs 1 L i = some so) : seN cs L i = so := by
  unfold seN
  rw [h]
theorem setr_n {a b : Int32} (h : SETR a b) : a = nI a.toNatClampNeg ∧ b = nI b.toNatClampNeg ∧ (a.toNatClampNeg = 10 ∨ a.toNatClampNeg = 11 ∨ a.toNatClampNeg = 12 ∨ a.toNatClampNeg = 13) ∧ OPP a.toNatClampNeg b.toNatClampNeg := by
  unfold OPP
  rcases h with ⟨h1, h2⟩ | ⟨h1, h2⟩ | ⟨h1, h2⟩ | ⟨h1, h2⟩ <;> rw [h1, h2] <;> decide
/-- an ORDER BY in both -/
theorem od_of {P : Nat → Nat → Nat → Nat → Nat → Nat → Nat → Prop} {X : Nat → CS → Prop} {F c cap s ar Sl Sb Ql lo hi oq q it mi : Nat} {V : VT} {D : Nat → Prop} {cs : CS} {rs : RS} (b : EBX F V c cap s ar D cs rs) (w : QRYX P X V c s Sl Sb Ql lo hi oq q cs rs) (ci : CLM it mi cs) (t12 : ∀ y, y < mi → TY12 (kA cs 100 it y)) (cz : ∀ oc, kR cs 130 oq = some oc → ∃ mo, CLM oc mo cs ∧ COZ V s c cs none 0 (some it) oc mo cs) (cv : ∀ oc, kR cs 130 oq = some oc → ∃ mo, mo ≤ 8 ∧ kI cs 96 oc = nI mo ∧ ∀ z, z < mo → CVR V s (kA cs 97 oc z) D) : ∃ od : ODT, ODM F q mi od rs ∧ ODC F c ar oq mi (RWL mi (kA cs 100 it)) od cs := by
  rcases w.or' with ⟨h1, h2⟩ | ⟨oc, m, h1, h4, h6, h8, ⟨l, l1, l2, l3⟩, h10⟩
  · exact ⟨none, h2, h1⟩
  · obtain ⟨mo, z1, z2⟩ := cz oc h1
    have e1 := z1.same h4
    rw [e1] at z2
    obtain ⟨mo', y1, y2, y3⟩ := cv oc h1
    have m8 := h4.m8
    have e2 : mo' = m := (nI_eq (by omega) (by omega)).mp (y2.symm.trans h4.sz)
    rw [e2] at y3
    obtain ⟨cx, ex⟩ := b.ord (rr := fun y => rs.2.2.1 66 (8 * q + y)) h4 ci (fun y hy => by
      obtain ⟨r, r1, r2, r3, -⟩ := h10 y hy
      obtain ⟨a, a1, a2⟩ := r3.two
      exact ⟨r, a, r1, r2, a1, a2⟩) z2 t12 y3
    refine ⟨some (m, kA cs 99 oc, cvS V c cs oc, l), ⟨h8, m8, l1, h6, fun t ht => ?_, l3, ex⟩, ⟨by omega, l2, oc, h1, cx, fun _ _ => rfl⟩⟩
    obtain ⟨r, -, -, -, r4⟩ := h10 t ht
    exact r4.symm
theorem jp_all {F r c cap s ar B nst K k : Nat} {V : VT} {D : Nat → Prop} {cs : CS} {rs : RS} (b : EBX F V c cap s ar D cs rs) (hBB : B ≤ 400000) (hv : ∀ y, y < s → VW c cs rs y = V y) (bs : Bas cs) (st : ST nst cs rs) (s5 : ∀ d, nst ≤ d → d ≤ 9 → rs.2.2.1 5 d = 0) (rn : RUN r c ar cs) (r160 : kR cs 160 r = some 2) : ∀ (d Su Sl Ql lo hi oq q : Nat), QXX V c s cs rs d Su Sl Ql lo hi oq q → JDN c s V D K k cs rs d oq q → TQY V s c cs d oq cs → ∀ l, lc rs Su ≤ lc rs Sl + l → l ≤ 3 → JQC F r c ar B d cs rs l oq q := by
  intro d
  induction d with
  | zero => exact fun _ _ _ _ _ _ _ h => h.elim
  | succ d ih =>
    intro Su Sl Ql lo hi oq q qr jd ty l hl l3
    have w : QRYX (QXX V c s cs rs d) XJ V c s Sl Su Ql lo hi oq q cs rs := qr
    obtain ⟨L, m, lb, ub, wb, l1, l4, l5, l6, l7, l8, l9, l10, l11, ⟨lw1, lw2, lw3⟩, l14, so0, l15, l16⟩ := w.ls
    obtain ⟨j1, j2, L', m', j3, j4, j5, j6, j7, j8, j9⟩ := jd
    have eL : L' = L := Option.some.inj (j5.symm.trans l1)
    rw [eL] at j6 j8
    have em : m' = m := (nI_eq (by omega) (by omega)).mp (j6.symm.trans l8)
    rw [em] at j8
    obtain ⟨L2, m2, it0, mi0, t1, t2, t3, t4, t5, t6, t7⟩ := ty
    have eL2 : L2 = L := Option.some.inj (t1.symm.trans l1)
    rw [eL2] at t2 t6
    have em2 : m2 = m := (nI_eq (by omega) (by omega)).mp (t2.symm.trans l8)
    rw [em2] at t6
    obtain ⟨nq, hnq⟩ : ∃ z, m = z + 1 := ⟨m - 1, by omega⟩
    have key : ∀ j, j < m → ∃ so e it, kQ cs 1 L j = some so ∧ rs.2.2.1 61 (5 * q + j) = nI e ∧ e < 60 ∧ wb j ≤ e ∧ e < wb (j + 1) ∧ (6, so) ∈ kE cs ∧ kR cs 194 so = some it ∧ rs.2.2.1 36 e = nI mi0 ∧ (∀ y, y < mi0 → TY12 (kA cs 100 it y)) ∧ (∀ y, y < mi0 → kA cs 100 it y = kA cs 100 it0 y) ∧ (0 < j → SETR (kI cs 204 so) (rs.2.2.1 62 (5 * q + j))) ∧ ∀ l', lc rs (wb (j + 1)) ≤ lc rs e + l' → l' ≤ 3 → SET F r c ar B l' d so e mi0 it cs rs := fun j hj => by
      obtain ⟨so, e, s1, s2, s3, s4, ⟨it, gr, mi, ns, mg, o, ap, m1, n1, mgk⟩, s6⟩ := l14 j hj
      obtain ⟨so', e', p1, p2, p3⟩ := j8 j hj
      have eso : so' = so := Option.some.inj (p1.symm.trans s1)
      have e60' : e' < 60 := by
        obtain ⟨-, -, it', gr', mi', mg', na, ns', -, -, -, -, -, -, -, -, -, -, -, -, -, ⟨-, z⟩, -⟩ := p3
        exact z
      have ee : e' = e := (nI_eq (by omega) (by have := o.e60; omega)).mp (p2.symm.trans s2)
      rw [eso, ee] at p3
      obtain ⟨so2, it2, u1, u2, u3, u4, u5⟩ := t6 j hj
      have eso2 : so2 = so := Option.some.inj (u1.symm.trans s1)
      rw [eso2] at u2 u5
      have eit : it2 = it := Option.some.inj (u2.symm.trans o.r194)
      rw [eit] at u2 u3 u4
      have emi : mi0 = mi := u3.same o.ci
      obtain ⟨ns', hns⟩ : ∃ z, ns = z + 1 := ⟨ns - 1, by omega⟩
      rw [hns] at o
      have tb := u5.b o
      have t12 : ∀ y, y < mi0 → TY12 (kA cs 100 it y) := by
        rw [emi]
        refine tb.is.t12 (fun y hy => ?_)
        obtain ⟨r', r1, -, r3⟩ := o.is y hy
        obtain ⟨a, ha⟩ := r3.rtt
        exact ⟨r', a, r1, ha⟩
      refine ⟨so, e, it, s1, s2, o.e60, s3, s4, o.e6, o.r194, by rw [emi]; exact o.ri, t12, u4, s6, fun l' h1 h2 => ?_⟩
      rw [emi]
      exact se_of b hBB hv bs st s5 rn r160 ih o ap m1 mgk p3 u5 s4 h1 h2
    obtain ⟨ek, hek⟩ : ∃ z : Nat → Nat, z = fun j => (rs.2.2.1 61 (5 * q + j)).toNatClampNeg := ⟨_, rfl⟩
    have ekq : ∀ j e, e < 60 → rs.2.2.1 61 (5 * q + j) = nI e → ek j = e := fun j e h1 h2 => by
      rw [hek]
      show (rs.2.2.1 61 (5 * q + j)).toNatClampNeg = e
      rw [h2, nI_clamp (by omega)]
    have qv := qry_lv (rs := rs) (wb := wb) (ek := ek) m (fun j hj => by
      obtain ⟨so, e, it, k1, k2, k3, k4, k5, -⟩ := key j hj
      rw [ekq j e k3 k2]
      exact ⟨k4, k5⟩)
    have n0 := lc_mono (rs := rs) lw1
    have n1 := lc_mono (rs := rs) lw3
    obtain ⟨ℓ, hℓ⟩ : ∃ z : Nat → Nat, z = fun k => lc rs (wb (k + 1)) - lc rs (ek k) := ⟨_, rfl⟩
    rw [← hℓ] at qv
    have hsum : sumN ℓ (nq + 1) ≤ l := by
      rw [← hnq]
      omega
    have hle : ∀ j, j < m → ℓ j ≤ 3 := fun j hj => by
      have := sumN_ge (g := ℓ) (k := j) (nq + 1) (by omega)
      omega
    obtain ⟨so9, e9, it9, k1, k2, k3, -, -, -, k7, k8, k9, k10, -⟩ := key 0 (by omega)
    have es0 : so0 = so9 := Option.some.inj (l15.symm.trans k1)
    rw [es0, k7, t4] at l16
    have ei0 : it0 = it9 := Option.some.inj l16
    rw [← ei0] at k9
    have i8 := t5.m8
    obtain ⟨od, om, oc⟩ := od_of b w t5 k9 t7 (fun oc hoc => by
      obtain ⟨-, -, mo, y1, y2, y3⟩ := j9 oc hoc
      exact ⟨mo, y1, y2, y3⟩)
    refine ⟨mi0, it0, e9, t4, t5, k9, k2, k3, k8, ?_⟩
    have sset : ∀ j, 1 ≤ j → j < m → SETR (kI cs 204 (seN cs L j)) (rs.2.2.1 62 (5 * q + j)) := fun j h1 h2 => by
      obtain ⟨so, e, it, y1, -, -, -, -, -, -, -, -, -, y2, -⟩ := key j h2
      rw [seN_is y1]
      exact y2 (by omega)
    refine qy_all (nq := nq) (li := L) (il := it0) (od := od) (se := seN cs L) (opc := fun j => (kI cs 204 (seN cs L j)).toNatClampNeg) (opr := fun j => (rs.2.2.1 62 (5 * q + j)).toNatClampNeg) (ℓ := ℓ) b.hF hBB rn w.q60 i8 (by omega) (by rw [← hnq]; exact l9) ⟨w.e4, l1, l4, l5, l6, l7, by rw [← hnq]; exact l8, by omega, t4, t5, fun j hj => ?_, fun j h1 h2 => ?_⟩ om oc (fun j h1 h2 => ?_) (fun j hj => ?_) hsum l3
    · obtain ⟨so, e, it, y1, -, -, -, -, y6, -⟩ := key j (by omega)
      rw [seN_is y1]
      exact ⟨y1, y6⟩
    · obtain ⟨a1, -, a3, -⟩ := setr_n (sset j h1 (by omega))
      exact ⟨a1, a3⟩
    · obtain ⟨-, a2, -, a4⟩ := setr_n (sset j h1 (by omega))
      exact ⟨a2, a4⟩
    · obtain ⟨so, e, it, y1, y2, y3, y4, y5, y6, y7, y8, y9, y10, y11, y12⟩ := key j (by omega)
      refine ⟨e, it, y2, y10, ?_⟩
      rw [seN_is y1]
      have q1 : ℓ j = lc rs (wb (j + 1)) - lc rs e := by
        rw [hℓ]
        show lc rs (wb (j + 1)) - lc rs (ek j) = _
        rw [ekq j e y3 y2]
      exact y12 (ℓ j) (by omega) (hle j (by omega))

/-! computing an EXPR, whole; aggregates of the reference -/
theorem compute_ok {F c cap s ar n base a r d : Nat} {V : VT} {cev : Nat → OV} {cs : CS} (hF : 10000 ≤ F) (hc : ar ≠ c) (sk : SKV V s) (hr : r < s) (hsc : s ≤ cap) (cp : cap ≤ 120) (ca : CA c cap cs) (oc : (2, c) ∈ kE cs) (sz : kI cs 64 c = nI s) (t : TR V d r a r) (ok : OKT V (EV V cev cev) d a r) (ct : CST c s ar n base V cev a r cs) : ∃ cs', c_X1_compute F cs c (nI r) ar (nI base) = some (cs', if tr1 (EV V cev cev r) = 1 then 1 else 0) ∧ EVF c cs cs' ∧ c_X1_resultValue F cs' c = some (vl (EV V cev cev r)) ∧ c_X1_resultBlank F cs' c = some (fl (EV V cev cev r)) := by
  have ar' := TR.ae t
  have f1 : EVF c cs (sI cs 76 c 0) := EVF.i
  obtain ⟨c1, hc1⟩ : ∃ x, x = sI cs 76 c 0 := ⟨_, rfl⟩
  rw [← hc1] at f1
  have ca1 := ca.evf f1
  have oc1 : (2, c) ∈ kE c1 := f1.em _ oc
  have st1 : STK c cap (fun _ => none) 0 c1 := ⟨ca1, oc1, by rw [hc1]; exact kI_s, Nat.zero_le _, cp, fun i hi => absurd hi (by omega)⟩
  have ct1 := ct.evf f1 hc
  have ou : OUA V r r := fun q fq w1 w2 => by omega
  obtain ⟨c2, u2, e1, e2, e3, e4⟩ := cmp_T (A := a) (E := r) (root := r) hF hc sk hr (Nat.le_refl _) hsc (by omega) d a r t ok ou (Nat.le_refl _) (Nat.le_refl _) 0 F _ c1 st1 ct1 (by omega) (by omega)
  obtain ⟨u2, rfl⟩ : ∃ z, u2 = z + 1 := ⟨u2 - 1, by omega⟩
  have vf1 : kA c1 67 c r = nI a := by
    rw [(ct1.k hr).2.1]
    obtain ⟨d, rfl⟩ : ∃ z, d = z + 1 := by
      cases d with
      | zero => exact t.elim
      | succ d => exact ⟨d, rfl⟩
    exact t.2.1
  obtain ⟨j65, h65⟩ := ca1.p65
  obtain ⟨j67, h67⟩ := ca1.p67
  have sv0 := e3.sv 0 (by omega)
  rw [ul_s] at sv0
  have tp : gI c2 2 76 c = some 1 := by rw [gI_ok e3.oc, e3.tp]; rfl
  obtain ⟨x, hx⟩ : ∃ x, x = EV V cev cev r := ⟨_, rfl⟩
  rw [← hx] at sv0
  rw [← hx]
  have fin : c_X1_compute_L23 F (u2 + 1) c2 c (nI r) ar (nI base) (nI (r + 1)) = some (c2, if tr1 x = 1 then 1 else 0) := by
    rw [c_X1_compute_L23, if_pos (nI_lt (by omega) (by omega)), tp, ob_s, if_pos rfl]
    unfold c_X1_compute_b442 c_X1_compute_b443
    rw [show (0 : Int32) = nI 0 from rfl, e3.rdA (by omega), e3.rdB (by omega)]
    rcases sv0 with ⟨q1, q2⟩ | ⟨q1, q2, q3⟩
    · rw [q1, q2]
      show (if (0 : Int32) = 0 then (if kB c2 74 c 0 = 0 then some (c2, 0) else some (c2, 1)) else some (c2, 0)) = some (c2, if (if kB c2 74 c 0 = 0 then (0 : Int32) else 1) = 1 then 1 else 0)
      rw [if_pos rfl]
      by_cases w : kB c2 74 c 0 = 0
      · rw [if_pos w, if_pos w]; rfl
      · rw [if_neg w, if_neg w]; rfl
    · rw [q1, q3]; rfl
  refine ⟨c2, ?_, f1.trans e4, ?_, ?_⟩
  · unfold c_X1_compute
    rw [pI_ok oc, ob_s, ← hc1, ckE_ok oc1, ob_s]
    have has : c_X1_has F c1 c (nI r) = some 1 := by
      unfold c_X1_has c_X1_has_b25 c_X1_has_b26
      rw [if_neg (nI_pos (by omega)), gI_ok oc1, ob_s, show kI c1 64 c = nI s by rw [(f1.2.1 64 c (by omega)).i]; exact sz, if_neg (nI_ge hr (by omega)), gA_ok oc1, h65, ob_s, lnA_n ca1.e65 h65, ob_s, ca1.l65, if_neg (nI_ge (by omega) (by omega))]
      rfl
    rw [has, ob_s, if_neg (by decide), gA_ok oc1, h67, ob_s, rA_n ca1.e67 h67 (by rw [ca1.l67]; omega) (by rw [ca1.l67]; omega), ob_s, vf1, e1]
    exact fin
  · unfold c_X1_resultValue c_X1_resultValue_b18
    rw [tp, ob_s, if_pos rfl, show (0 : Int32) = nI 0 from rfl, e3.rdB (by omega)]
    rcases sv0 with ⟨q1, q2⟩ | ⟨q1, q2, q3⟩
    · rw [q2]; rfl
    · rw [q2, q3]; rfl
  · unfold c_X1_resultBlank c_X1_resultBlank_b18
    rw [tp, ob_s, if_pos rfl, show (0 : Int32) = nI 0 from rfl, e3.rdA (by omega)]
    rcases sv0 with ⟨q1, q2⟩ | ⟨q1, q2, q3⟩
    · rw [q1, q2]; rfl
    · rw [q1, q3]; rfl
/-- what an aggregate keeps: how many, the sum, the least, the greatest -/
abbrev AGT : Type := Int64 × Int64 × Int64 × Int64
def ag0 : AGT := (0, 0, 9223372036854775807, -9223372036854775808)
def agS (t : AGT) (v : OV) : AGT := match v with
  | none => t
  | some w => (t.1 + 1, t.2.1 + w, if t.2.2.1 ≤ w then t.2.2.1 else w, if w ≤ t.2.2.2 then t.2.2.2 else w)
def agF (l : List OV) : AGT := l.foldl agS ag0
/-- whether there was any -/
def agN (l : List OV) : Bool := l.any (fun v => v.isSome)
/-- the aggregate of the reference's kind k -/
def agV (k : Int32) (l : List OV) : OV := if k = 20 then some (Int64.ofNat l.length) else if k = 21 then some (agF l).1 else if agN l then some (if k = 22 then (agF l).2.1 else if k = 23 then (agF l).2.2.1 else (agF l).2.2.2) else none

/-! a SELECT behind its SOURCES, checked, the class alone -/
def DJ2 (a r a' r' : Nat) : Prop := ∀ z, a ≤ z → z ≤ r → ¬ (a' ≤ z ∧ z ≤ r')
/-- what stands while a text is checked -/
def SCX (V : VT) (t c s k K : Nat) (cs0 : CS) : Prop := (INV K c cs0) ∧ (AMI K c cs0) ∧ (∀ z, z < s → CW c cs0 z = (V z).1) ∧ (s ≤ 120) ∧ (t < K ∧ c < K ∧ t ≠ c ∧ t ≠ k ∧ c ≠ k)
theorem SCX.iv {V : VT} {t c s k K : Nat} {cs0 : CS} (h : SCX V t c s k K cs0) : INV K c cs0 := h.1
theorem SCX.am {V : VT} {t c s k K : Nat} {cs0 : CS} (h : SCX V t c s k K cs0) : AMI K c cs0 := h.2.1
theorem SCX.cw {V : VT} {t c s k K : Nat} {cs0 : CS} (h : SCX V t c s k K cs0) : ∀ z, z < s → CW c cs0 z = (V z).1 := h.2.2.1
theorem SCX.s1 {V : VT} {t c s k K : Nat} {cs0 : CS} (h : SCX V t c s k K cs0) : s ≤ 120 := h.2.2.2.1
theorem SCX.tc {V : VT} {t c s k K : Nat} {cs0 : CS} (h : SCX V t c s k K cs0) : t < K ∧ c < K ∧ t ≠ c ∧ t ≠ k ∧ c ≠ k := h.2.2.2.2
theorem SCX.dj {V : VT} {t c s k K j ρ r a j' ρ' r' a' : Nat} {cs0 : CS} (h : SCX V t c s k K cs0) (hj : K ≤ j) (hj' : K ≤ j') (g : RFS cs0 j ρ r) (g' : RFS cs0 j' ρ' r') (ne : ¬ (j = j' ∧ ρ = ρ')) (rt : RTT V s r a) (rt' : RTT V s r' a') : DJ2 a r a' r' := fun z z1 z2 z3 => by
  have s1 := h.s1
  have b := rt.2.1
  have b' := rt'.2.1
  rcases h.iv.2 j ρ r j' ρ' r' hj hj' g g' with w | ⟨x, x1, x2, x3⟩ | ⟨x, x1, x2, x3⟩
  · exact ne w
  · rw [(CW.e (h.cw r' b')).2.1, rt'.vf] at x1
    have := (nI_eq (by have := rt'.1; omega) (by omega)).mp x1
    omega
  · rw [(CW.e (h.cw r b)).2.1, rt.vf] at x1
    have := (nI_eq (by have := rt.1; omega) (by omega)).mp x1
    omega
/-- a root that may be missing -/
def ROT (V : VT) (s : Nat) (v : Int32) : Prop := v = -1 ∨ ∃ r a, v = nI r ∧ RTT V s r a
/-- roots of columns -/
def cr (cs : CS) (col y : Nat) : Nat := (kA cs 97 col y).toNatClampNeg
def ca (V : VT) (cs : CS) (col y : Nat) : Nat := (vf V (cr cs col y)).toNatClampNeg
def ROC (V : VT) (s col m : Nat) (cs : CS) : Prop := ∀ y, y < m → ∃ r a, kA cs 97 col y = nI r ∧ RTT V s r a
theorem ROC.at' {V : VT} {s col m y : Nat} {cs : CS} (h : ROC V s col m cs) (s1 : s ≤ 120) (hy : y < m) : kA cs 97 col y = nI (cr cs col y) ∧ RTT V s (cr cs col y) (ca V cs col y) := by
  obtain ⟨r, a, h1, h2⟩ := h y hy
  have rs := h2.2.1
  have ra := h2.1
  have e1 : cr cs col y = r := by unfold cr; rw [h1]; exact nI_clamp (by omega)
  have e2 : ca V cs col y = a := by unfold ca; rw [e1, h2.vf]; exact nI_clamp (by omega)
  rw [e1, e2]
  exact ⟨h1, h2⟩
theorem ROC.eq {V : VT} {s col m y r a : Nat} {cs : CS} (h : ROC V s col m cs) (s1 : s ≤ 120) (hy : y < m) (h1 : kA cs 97 col y = nI r) (h2 : RTT V s r a) : cr cs col y = r ∧ ca V cs col y = a := by
  have rs := h2.2.1
  have ra := h2.1
  have e1 : cr cs col y = r := by unfold cr; rw [h1]; exact nI_clamp (by omega)
  exact ⟨e1, by unfold ca; rw [e1, h2.vf]; exact nI_clamp (by omega)⟩
/-- the SELECT so with its items and groups, as it was read -/
def SLK (V : VT) (c s lo hi so it gr mi ns mg : Nat) (cs0 : CS) : Prop := (lo ≤ so ∧ so < it ∧ it < gr ∧ gr < hi) ∧ (kR cs0 194 so = some it) ∧ (kR cs0 200 so = some gr) ∧ (CLM it mi cs0) ∧ (CLM gr mg cs0) ∧ (kI cs0 196 so = nI ns) ∧ (ns ≤ 3) ∧ (kP cs0 202 so ≠ none) ∧ (ROT V s (kI cs0 197 so)) ∧ (ROT V s (kI cs0 201 so)) ∧ (ROC V s it mi cs0) ∧ (ROC V s gr mg cs0) ∧ (NOA c so cs0)
theorem SLK.od {V : VT} {c s lo hi so it gr mi ns mg : Nat} {cs0 : CS} (h : SLK V c s lo hi so it gr mi ns mg cs0) : lo ≤ so ∧ so < it ∧ it < gr ∧ gr < hi := h.1
theorem SLK.r194 {V : VT} {c s lo hi so it gr mi ns mg : Nat} {cs0 : CS} (h : SLK V c s lo hi so it gr mi ns mg cs0) : kR cs0 194 so = some it := h.2.1
theorem SLK.r200 {V : VT} {c s lo hi so it gr mi ns mg : Nat} {cs0 : CS} (h : SLK V c s lo hi so it gr mi ns mg cs0) : kR cs0 200 so = some gr := h.2.2.1
theorem SLK.ci {V : VT} {c s lo hi so it gr mi ns mg : Nat} {cs0 : CS} (h : SLK V c s lo hi so it gr mi ns mg cs0) : CLM it mi cs0 := h.2.2.2.1
theorem SLK.cg {V : VT} {c s lo hi so it gr mi ns mg : Nat} {cs0 : CS} (h : SLK V c s lo hi so it gr mi ns mg cs0) : CLM gr mg cs0 := h.2.2.2.2.1
theorem SLK.i196 {V : VT} {c s lo hi so it gr mi ns mg : Nat} {cs0 : CS} (h : SLK V c s lo hi so it gr mi ns mg cs0) : kI cs0 196 so = nI ns := h.2.2.2.2.2.1
theorem SLK.n3 {V : VT} {c s lo hi so it gr mi ns mg : Nat} {cs0 : CS} (h : SLK V c s lo hi so it gr mi ns mg cs0) : ns ≤ 3 := h.2.2.2.2.2.2.1
theorem SLK.p2 {V : VT} {c s lo hi so it gr mi ns mg : Nat} {cs0 : CS} (h : SLK V c s lo hi so it gr mi ns mg cs0) : kP cs0 202 so ≠ none := h.2.2.2.2.2.2.2.1
theorem SLK.wh {V : VT} {c s lo hi so it gr mi ns mg : Nat} {cs0 : CS} (h : SLK V c s lo hi so it gr mi ns mg cs0) : ROT V s (kI cs0 197 so) := h.2.2.2.2.2.2.2.2.1
theorem SLK.hv {V : VT} {c s lo hi so it gr mi ns mg : Nat} {cs0 : CS} (h : SLK V c s lo hi so it gr mi ns mg cs0) : ROT V s (kI cs0 201 so) := h.2.2.2.2.2.2.2.2.2.1
theorem SLK.is {V : VT} {c s lo hi so it gr mi ns mg : Nat} {cs0 : CS} (h : SLK V c s lo hi so it gr mi ns mg cs0) : ROC V s it mi cs0 := h.2.2.2.2.2.2.2.2.2.2.1
theorem SLK.gs {V : VT} {c s lo hi so it gr mi ns mg : Nat} {cs0 : CS} (h : SLK V c s lo hi so it gr mi ns mg cs0) : ROC V s gr mg cs0 := h.2.2.2.2.2.2.2.2.2.2.2.1
theorem SLK.na {V : VT} {c s lo hi so it gr mi ns mg : Nat} {cs0 : CS} (h : SLK V c s lo hi so it gr mi ns mg cs0) : NOA c so cs0 := h.2.2.2.2.2.2.2.2.2.2.2.2
def TRU (V : VT) (s c : Nat) (so : Option Nat) (sn : Int32) (nm : Option Nat) (v : Int32) (cs : CS) : Prop := ∀ r a, v = nI r → RTT V s r a → WTR c a r so sn nm cs ∧ ¬ kA cs 73 c r &&& 2 = 0
def COZ (V : VT) (s c : Nat) (cs0 : CS) (so : Option Nat) (sn : Int32) (nm : Option Nat) (col m : Nat) (cs : CS) : Prop := ∀ y r a, y < m → kA cs0 97 col y = nI r → RTT V s r a → COLT c so sn nm col r a y cs
def gnm (cs : CS) (so gr : Nat) : Option Nat := if kI cs 198 so = 0 ∧ kI cs 203 so ≤ 0 then none else some gr
/-- a truth, or none -/
theorem tru_A {t c cap s k : Nat} {F : Nat} {V : VT} {v : Int32} {cs cs9 : CS} (hF : 10000 ≤ F) (hFF : F < 1000000) (h : CK t c cap s k cs) (hck : c ≠ k) (hcn : ∀ n, kR cs 37 k = some n → c ≠ n) (ro : ROT V s v) (cw : ∀ z, z < s → CW c cs z = (V z).1) (g : c_X0_checkTruth F cs k v = some cs9) : NFR t c (fun y => ∃ r a, v = nI r ∧ RTT V s r a ∧ a ≤ y ∧ y ≤ r) cs cs9 ∧ (kI cs9 320 t = 0 → TRU V s c (kR cs 35 k) (kI cs 36 k) (kR cs 37 k) v cs9) := by
  have sp := h.sc
  have cp := h.cp
  rcases ro with e | ⟨r, a, e, rt⟩
  · rw [e] at g
    rw [truth_N h g]
    exact ⟨NFR.refl, fun _ r a w rt => absurd (w.symm.trans e) (nI_nm1 (by have := rt.2.1; omega))⟩
  · rw [e] at g
    obtain ⟨n1, t1⟩ := truth_T hF hFF h hck hcn rt cw g
    refine ⟨n1.mono (fun y hy => ⟨r, a, e, rt, hy⟩), fun f r' a' w rt' => ?_⟩
    have b := rt.2.1
    have b' := rt'.2.1
    have er : r = r' := (nI_eq (by omega) (by omega)).mp (e.symm.trans w)
    have ea : a = a' := by
      have q := rt'.vf
      rw [← er, rt.vf] at q
      exact (nI_eq (by have := rt.1; omega) (by have := rt'.1; omega)).mp q
    rw [← er, ← ea]
    exact t1 f
theorem TRU.cf {V : VT} {s t c k : Nat} {so : Option Nat} {sn : Int32} {nm : Option Nat} {v : Int32} {Ob Nd : Nat → Prop} {cs cs' : CS} (h : TRU V s c so sn nm v cs) (g : CFN t c k Ob Nd cs cs') (hd : ∀ r a, v = nI r → RTT V s r a → ∀ z, a ≤ z → z ≤ r → ¬ Nd z) (hs : ∀ o i oo, so = some o → i < 2147483648 → nI i < sn → kQ cs 195 o i = some oo → ¬ Ob oo ∧ ∀ cl, kR cs 235 oo = some cl → ¬ Ob cl) (hm : ∀ n, nm = some n → ¬ Ob n) : TRU V s c so sn nm v cs' := fun r a w rt => by
  obtain ⟨q1, q2⟩ := h r a w rt
  have d := hd r a w rt
  refine ⟨q1.cf g d hs hm, ?_⟩
  rw [(g.2.2.2.2 r (d r rt.1 (Nat.le_refl _))).2]
  exact q2
theorem COZ.cf {V : VT} {s t c k col m : Nat} {so : Option Nat} {sn : Int32} {nm : Option Nat} {Ob Nd : Nat → Prop} {cs0 cs cs' : CS} (h : COZ V s c cs0 so sn nm col m cs) (g : CFN t c k Ob Nd cs cs') (h100 : AT cs cs' 100 col) (hd : ∀ y r a, y < m → kA cs0 97 col y = nI r → RTT V s r a → ∀ z, a ≤ z → z ≤ r → ¬ Nd z) (hs : ∀ o i oo, so = some o → i < 2147483648 → nI i < sn → kQ cs 195 o i = some oo → ¬ Ob oo ∧ ∀ cl, kR cs 235 oo = some cl → ¬ Ob cl) (hm : ∀ n, nm = some n → ¬ Ob n) : COZ V s c cs0 so sn nm col m cs' := fun y r a hy w rt => by
  obtain ⟨q1, q2⟩ := h y r a hy w rt
  have d := hd y r a hy w rt
  refine ⟨q1.cf g d hs hm, ?_⟩
  rw [h100.a, (g.2.2.2.2 r (d r rt.1 (Nat.le_refl _))).2]
  exact q2
theorem isg_x {F so gr : Nat} {v : Int32} {cs : CS} (h : c_X5_isGrouped F cs so = some v) : (v = 0 → gnm cs so gr = none) ∧ (v ≠ 0 → gnm cs so gr = some gr) := by
  unfold c_X5_isGrouped c_X5_isGrouped_b14 c_X5_isGrouped_b19 at h
  unfold gnm
  replace h := ob h; obtain ⟨v2, h2, h⟩ := h
  have e2 := (gI_some h2).2
  have z0 : (Option.bind (ckZ 0) fun _ => some (0 : Int32)) = some 0 := rfl
  have z1 : (Option.bind (ckZ 1) fun _ => some (1 : Int32)) = some 1 := rfl
  by_cases q : v2 = 0
  · replace h := (if_pos q).symm.trans h
    replace h := ob h; obtain ⟨v4, h4, h⟩ := h
    have e4 := (gI_some h4).2
    by_cases q2 : v4 ≤ 0
    · replace h := (if_pos q2).symm.trans h
      have ev : v = 0 := (Option.some.inj (z0.symm.trans h)).symm
      rw [if_pos ⟨e2.trans q, by rw [e4]; exact q2⟩]
      exact ⟨fun _ => rfl, fun w => absurd ev w⟩
    · replace h := (if_neg q2).symm.trans h
      have ev : v = 1 := (Option.some.inj (z1.symm.trans h)).symm
      rw [if_neg (fun w => q2 (by rw [← e4]; exact w.2))]
      exact ⟨fun w => by rw [ev] at w; exact absurd w (by decide), fun _ => rfl⟩
  · replace h := (if_neg q).symm.trans h
    have ev : v = 1 := (Option.some.inj (z1.symm.trans h)).symm
    rw [if_neg (fun w => q (by rw [← e2]; exact w.1))]
    exact ⟨fun w => by rw [ev] at w; exact absurd w (by decide), fun _ => rfl⟩
theorem kR_s {cs : CS} {x j : Nat} {v : Option Nat} : kR (sR cs x j v) x j = v := u2_s
theorem kR_n {cs : CS} {x j y i : Nat} {v : Option Nat} (h : ¬ (y = x ∧ i = j)) : kR (sR cs x j v) y i = kR cs y i := u2_n h
theorem cfn_R {t c k x : Nat} {Ob Nd : Nat → Prop} {v : Option Nat} {cs : CS} (hx : 35 ≤ x ∧ x ≤ 37) : CFN t c k Ob Nd cs (sR cs x k v) := ⟨rfl, id, fun y j q1 q2 q3 q4 => AT.sR (by omega), fun _ _ _ _ => ⟨rfl, rfl⟩, fun _ _ => ⟨fun _ => rfl, rfl⟩⟩
theorem cfn_I {t c k x : Nat} {Ob Nd : Nat → Prop} {v : Int32} {cs : CS} (hx : 35 ≤ x ∧ x ≤ 37) : CFN t c k Ob Nd cs (sI cs x k v) := ⟨rfl, fun w => (kI_n (by omega)).symm.trans w, fun y j q1 q2 q3 q4 => AT.sI (by omega), fun _ _ _ _ => ⟨rfl, rfl⟩, fun _ _ => ⟨fun _ => rfl, rfl⟩⟩

/-! the EXPRS of a SELECT that look at its SOURCES, in both -/
theorem EBX.root {F : Nat} {V : VT} {c cap s ar : Nat} {D : Nat → Prop} {cs : CS} {rs : RS} {so ns : Nat} {w : Nat → Nat} {ty : Nat → Nat → Int32} {a r : Nat} (b : EBX F V c cap s ar D cs rs) (wt : WTR c a r (some so) (nI ns) none cs) (rt : RTT V s r a) (no : ∀ z, a ≤ z → z ≤ r → ¬ AGC (vk V z)) (cv : ∀ z, a ≤ z → z ≤ r → D z) (sq : SCQ so ns w ty cs) (n3 : ns ≤ 3) : EXC F c ar (wid w (ns - 1)) r (RWT ns w ty) (evS V c cs r) cs ∧ EXV F (wid w (ns - 1)) r (evS V c cs r) rs ∧ ∀ L, RWT ns w ty L → ¬ kA cs 73 c r &&& 2 = 0 → TV (evS V c cs r L) := by
  have nsc := nsc_plain wt rt b.cw no sq n3
  exact ⟨b.exc rt nsc, b.plain rt nsc no cv, fun L hL t => nsc.tv rt b.s1 hL t⟩
theorem CVR.at' {V : VT} {s r a : Nat} {x : Int32} {D : Nat → Prop} (h : CVR V s x D) (hx : x = nI r) (rt : RTT V s r a) : ∀ z, a ≤ z → z ≤ r → D z := fun z z1 z2 => h r a hx rt.2.1 rt.1 rt.vf z z1 z2
/-- where -/
theorem EBX.whr {F : Nat} {V : VT} {c cap s ar : Nat} {D : Nat → Prop} {cs : CS} {rs : RS} {so ns : Nat} {w : Nat → Nat} {ty : Nat → Nat → Int32} {v u : Int32} (b : EBX F V c cap s ar D cs rs) (op : OPTX V 0 false s v u cs) (tr : TRU V s c (some so) (nI ns) none v cs) (cv : CVR V s v D) (sq : SCQ so ns w ty cs) (n3 : ns ≤ 3) : ∃ wh : OVF, OPC F c ar (wid w (ns - 1)) v (RWT ns w ty) wh cs ∧ OPF F (wid w (ns - 1)) u wh rs := by
  rcases op with ⟨h1, h2⟩ | ⟨r, h1, h2, h3⟩
  · exact ⟨none, h1, h2⟩
  · obtain ⟨a, rt, no⟩ := h3.two
    have rs' := rt.2.1
    have s1 := b.s1
    obtain ⟨wt, -⟩ := tr r a h1 rt
    obtain ⟨q1, q2, -⟩ := b.root wt rt no (cv.at' h1 rt) sq n3
    exact ⟨some (evS V c cs r), ⟨r, h1, by omega, q1⟩, ⟨r, h2, by omega, q2⟩⟩
/-- on -/
theorem EBX.onn {F : Nat} {V : VT} {c cap s ar : Nat} {D : Nat → Prop} {cs : CS} {rs : RS} {so ns : Nat} {w : Nat → Nat} {ty : Nat → Nat → Int32} {v u : Int32} (b : EBX F V c cap s ar D cs rs) (op : OPTX V 0 false s v u cs) (nv : v ≠ -1) (tr : TRU V s c (some so) (nI ns) none v cs) (cv : CVR V s v D) (sq : SCQ so ns w ty cs) (n3 : ns ≤ 3) : ∃ r, v = nI r ∧ u = nI r ∧ r < 120 ∧ EXC F c ar (wid w (ns - 1)) r (RWT ns w ty) (evS V c cs r) cs ∧ EXV F (wid w (ns - 1)) r (evS V c cs r) rs := by
  rcases op with ⟨h1, h2⟩ | ⟨r, h1, h2, h3⟩
  · exact absurd h1 nv
  · obtain ⟨a, rt, no⟩ := h3.two
    have rs' := rt.2.1
    have s1 := b.s1
    obtain ⟨wt, -⟩ := tr r a h1 rt
    obtain ⟨q1, q2, -⟩ := b.root wt rt no (cv.at' h1 rt) sq n3
    exact ⟨r, h1, h2, by omega, q1, q2⟩
/-- the values of a list of columns -/
def cvS (V : VT) (c : Nat) (cs : CS) (col y : Nat) : List OV → OV := evS V c cs (cr cs col y)
theorem cr_is {cs : CS} {col y r : Nat} (h : kA cs 97 col y = nI r) (hr : r < 2147483648) : cr cs col y = r := by
  unfold cr
  rw [h]
  exact nI_clamp hr
/-- keys of groups, and items where nothing is grouped -/
theorem EBX.cols {F : Nat} {V : VT} {c cap s ar : Nat} {D : Nat → Prop} {cs : CS} {rs : RS} {so ns : Nat} {w : Nat → Nat} {ty : Nat → Nat → Int32} {col m : Nat} {rr : Nat → Int32} (b : EBX F V c cap s ar D cs rs) (cm : CLM col m cs) (ro : ∀ y, y < m → ∃ r a, kA cs 97 col y = nI r ∧ rr y = nI r ∧ RTT V s r a ∧ ∀ z, a ≤ z → z ≤ r → ¬ AGC (vk V z)) (cz : COZ V s c cs (some so) (nI ns) none col m cs) (cv : ∀ y, y < m → CVR V s (kA cs 97 col y) D) (sq : SCQ so ns w ty cs) (n3 : ns ≤ 3) : CLX F c ar (wid w (ns - 1)) col m (RWT ns w ty) (cvS V c cs col) cs ∧ (∀ y, y < m → ∃ r, rr y = nI r ∧ EXV F (wid w (ns - 1)) r (cvS V c cs col y) rs) ∧ ∀ y L, y < m → RWT ns w ty L → kA cs 100 col y = 2 → TV (cvS V c cs col y L) := by
  have s1 := b.s1
  have key : ∀ y, y < m → ∃ r, kA cs 97 col y = nI r ∧ rr y = nI r ∧ EXC F c ar (wid w (ns - 1)) r (RWT ns w ty) (cvS V c cs col y) cs ∧ EXV F (wid w (ns - 1)) r (cvS V c cs col y) rs ∧ ∀ L, RWT ns w ty L → kA cs 100 col y = 2 → TV (cvS V c cs col y L) := fun y hy => by
    obtain ⟨r, a, h1, h2, rt, no⟩ := ro y hy
    have rs' := rt.2.1
    obtain ⟨wt, t100⟩ := cz y r a hy h1 rt
    obtain ⟨q1, q2, q3⟩ := b.root wt rt no ((cv y hy).at' h1 rt) sq n3
    have e : cvS V c cs col y = evS V c cs r := by
      unfold cvS
      rw [cr_is h1 (by omega)]
    rw [e]
    refine ⟨r, h1, h2, q1, q2, fun L hL k => q3 L hL ?_⟩
    rw [t100] at k
    exact stt_2 k
  refine ⟨⟨cm, fun y hy => ?_⟩, fun y hy => ?_, fun y L hy hL k => ?_⟩
  · obtain ⟨r, h1, -, h3, -⟩ := key y hy
    exact ⟨r, h1, h3⟩
  · obtain ⟨r, -, h2, -, h4, -⟩ := key y hy
    exact ⟨r, h2, h4⟩
  · obtain ⟨r, -, -, -, -, h5⟩ := key y hy
    exact h5 L hL k
/-- what stands within the aggregates -/
theorem EBX.ins {F : Nat} {V : VT} {c cap s ar : Nat} {D : Nat → Prop} {cs : CS} {rs : RS} {so ns : Nat} {w : Nat → Nat} {ty : Nat → Nat → Int32} {a r q fq : Nat} {nm : Option Nat} (b : EBX F V c cap s ar D cs rs) (wt : WTR c a r (some so) (nI ns) nm cs) (rt : RTT V s r a) (sq : SCQ so ns w ty cs) (n3 : ns ≤ 3) (qa : a ≤ q) (qr : q ≤ r) (ag : AGC (vk V q)) (fe : vf V q = nI fq) (fl' : fq < q) : EXC F c ar (wid w (ns - 1)) (q - 1) (RWT ns w ty) (evS V c cs (q - 1)) cs := by
  obtain ⟨rt1, no1, nsc⟩ := nsc_inner b.sk b.s1 wt rt b.cw sq n3 qa qr ag fe fl'
  exact b.exc rt1 nsc
/-- ORDER BY -/
theorem EBX.ord {F : Nat} {V : VT} {c cap s ar : Nat} {D : Nat → Prop} {cs : CS} {rs : RS} {oc mo it mi : Nat} {rr : Nat → Int32} (b : EBX F V c cap s ar D cs rs) (cm : CLM oc mo cs) (ci : CLM it mi cs) (ro : ∀ y, y < mo → ∃ r a, kA cs 97 oc y = nI r ∧ rr y = nI r ∧ RTT V s r a ∧ ∀ z, a ≤ z → z ≤ r → ¬ AGC (vk V z)) (cz : COZ V s c cs none 0 (some it) oc mo cs) (t12 : ∀ y, y < mi → TY12 (kA cs 100 it y)) (cv : ∀ y, y < mo → CVR V s (kA cs 97 oc y) D) : CLX F c ar mi oc mo (RWL mi (kA cs 100 it)) (cvS V c cs oc) cs ∧ ∀ y, y < mo → ∃ r, rr y = nI r ∧ EXV F mi r (cvS V c cs oc y) rs := by
  have s1 := b.s1
  have key : ∀ y, y < mo → ∃ r, kA cs 97 oc y = nI r ∧ rr y = nI r ∧ EXC F c ar mi r (RWL mi (kA cs 100 it)) (cvS V c cs oc y) cs ∧ EXV F mi r (cvS V c cs oc y) rs := fun y hy => by
    obtain ⟨r, a, h1, h2, rt, no⟩ := ro y hy
    have rs' := rt.2.1
    obtain ⟨wt, -⟩ := cz y r a hy h1 rt
    have nsc := nsc_order (ti := kA cs 100 it) b.sk s1 wt rt b.cw no ci.sz ci.m8 (fun col hc => ⟨rfl, t12 col hc⟩)
    have e : cvS V c cs oc y = evS V c cs r := by
      unfold cvS
      rw [cr_is h1 (by omega)]
    rw [e]
    exact ⟨r, h1, h2, b.exc rt nsc, b.plain rt nsc no ((cv y hy).at' h1 rt)⟩
  refine ⟨⟨cm, fun y hy => ?_⟩, fun y hy => ?_⟩
  · obtain ⟨r, h1, -, h3, -⟩ := key y hy
    exact ⟨r, h1, h3⟩
  · obtain ⟨r, -, h2, -, h4⟩ := key y hy
    exact ⟨r, h2, h4⟩

/-! the value of an EXPR -/
abbrev OV : Type := Option Int64
def fl (x : OV) : Int32 := match x with
  | none => 1
  | some _ => 0
def vl (x : OV) : Int64 := match x with
  | none => 0
  | some v => v
def tr1 (x : OV) : Int32 := match x with
  | none => 2
  | some v => if v = 0 then 0 else 1
def ofT (t : Int32) : OV := if t = 2 then none else some t.toInt64
def bT (y0 a b : Int32) : Int32 := if a = y0 then y0 else if b = y0 then y0 else if a = 2 then 2 else if b = 2 then 2 else 1 - y0
/-- two numbers -/
def tw (k h : Int32) (a b : Int64) : OV := if k = 9 then (if h = 61 then (if a = b then some 1 else some 0) else if h = 400 then (if a = b then some 0 else some 1) else if h = 60 then (if b ≤ a then some 0 else some 1) else if h = 401 then (if b < a then some 0 else some 1) else if h = 62 then (if a ≤ b then some 0 else some 1) else (if a < b then some 0 else some 1)) else if k = 12 then some (a + b) else if k = 13 then some (a - b) else if k = 14 then some (a * b) else if k = 19 then (if 0 < b then some (a - (if 0 ≤ a - a / b * b then a - a / b * b else a - a / b * b + b)) else none) else if b = 0 then none else if k = 15 then some (if b = -1 then -a else a / b) else some (if b = -1 then 0 else a - a / b * b)
/-- one member of a list -/
def inM (x : OV) (is : Int32) (v : OV) : Int32 := match v with
  | none => if is = 1 then 1 else 2
  | some w => match x with
    | none => is
    | some z => if w = z then 1 else is
def evI (V : VT) (g : Nat → OV) (x : OV) : Nat → Int32 → Int32 → Int32
  | 0, is, _ => is
  | f + 1, is, i => if i = -1 then is else evI V g x f (inM x is (g i.toNatClampNeg)) (rx V i.toNatClampNeg)
/-- one node, g its parts -/
def evC (V : VT) (col agg : Nat → OV) (g : Nat → OV) (e : Nat) : OV := if rk V e = 1 then some (rv' V e) else if rk V e = 2 then none else if rk V e = 3 then some 1 else if rk V e = 4 then some 0 else if rk V e = 5 then col e else if rk V e < 20 then (if rk V e = 6 then ofT (bT 0 (tr1 (g (rl V e).toNatClampNeg)) (tr1 (g (rr V e).toNatClampNeg))) else if rk V e = 7 then ofT (bT 1 (tr1 (g (rl V e).toNatClampNeg)) (tr1 (g (rr V e).toNatClampNeg))) else if rk V e = 8 then ofT (if tr1 (g (rl V e).toNatClampNeg) = 2 then 2 else 1 - tr1 (g (rl V e).toNatClampNeg)) else if rk V e = 10 then some (if fl (g (rl V e).toNatClampNeg) = (if rh V e = 0 then 1 else 0) then 1 else 0) else if rk V e = 18 then (if tr1 (g (rl V e).toNatClampNeg) = 1 then g (rr V e).toNatClampNeg else g (rt V e).toNatClampNeg) else if rk V e = 11 then ofT (if evI V g (g (rl V e).toNatClampNeg) 121 (if fl (g (rl V e).toNatClampNeg) = 0 then 0 else 2) (rr V e) = 2 then 2 else if rh V e = 1 then 1 - evI V g (g (rl V e).toNatClampNeg) 121 (if fl (g (rl V e).toNatClampNeg) = 0 then 0 else 2) (rr V e) else evI V g (g (rl V e).toNatClampNeg) 121 (if fl (g (rl V e).toNatClampNeg) = 0 then 0 else 2) (rr V e)) else if rk V e = 17 then (g (rl V e).toNatClampNeg).map (fun v => -v) else (g (rl V e).toNatClampNeg).bind (fun a => (g (rr V e).toNatClampNeg).bind (fun b => tw (rk V e) (rh V e) a b))) else agg e
def evB (V : VT) (col agg : Nat → OV) (g : Nat → OV) (e : Nat) : OV := evC V col agg (fun x => if x < e then g x else none) e
def ev (V : VT) (col agg : Nat → OV) : Nat → Nat → OV
  | 0, _ => none
  | d + 1, e => evB V col agg (ev V col agg d) e
theorem evB_eq {V : VT} {col agg g g' : Nat → OV} {e : Nat} (h : ∀ x, x < e → g x = g' x) : evB V col agg g e = evB V col agg g' e := by
  have q : (fun x => if x < e then g x else none) = (fun x => if x < e then g' x else none) := funext fun x => by
    by_cases w : x < e
    · rw [if_pos w, if_pos w, h x w]
    · rw [if_neg w, if_neg w]
  unfold evB
  rw [q]
theorem ev_fu {V : VT} {col agg : Nat → OV} : ∀ (m e f f' : Nat), e < m → e < f → e < f' → ev V col agg f e = ev V col agg f' e
  | 0, _, _, _, h, _, _ => absurd h (Nat.not_lt_zero _)
  | m + 1, e, f, f', h, h1, h2 => by
    obtain ⟨f, rfl⟩ : ∃ z, f = z + 1 := ⟨f - 1, by omega⟩
    obtain ⟨f', rfl⟩ : ∃ z, f' = z + 1 := ⟨f' - 1, by omega⟩
    show evB V col agg (ev V col agg f) e = evB V col agg (ev V col agg f') e
    exact evB_eq (fun x hx => ev_fu m x f f' (by omega) (by omega) (by omega))
def EV (V : VT) (col agg : Nat → OV) (e : Nat) : OV := ev V col agg 200 e
theorem EV_eq {V : VT} {col agg : Nat → OV} {e : Nat} (h : e < 199) : EV V col agg e = evB V col agg (EV V col agg) e := by
  show evB V col agg (ev V col agg 199) e = evB V col agg (ev V col agg 200) e
  exact evB_eq (fun x hx => ev_fu 200 x 199 200 (by omega) (by omega) (by omega))
/-- parts are read through the guard -/
theorem gu_ok {g : Nat → OV} {e x : Nat} {y : Int32} (hy : y = nI x) (hx : x < e) (he : e < 1000) : (fun z => if z < e then g z else none) y.toNatClampNeg = g x := by
  rw [hy, nI_clamp (by omega)]
  exact if_pos hx
theorem EV.lit {V : VT} {col agg : Nat → OV} {e : Nat} (h : e < 199) (k : rk V e = 1) : EV V col agg e = some (rv' V e) := by
  rw [EV_eq h]; unfold evB evC; rw [k]; rfl
theorem EV.nul {V : VT} {col agg : Nat → OV} {e : Nat} (h : e < 199) (k : rk V e = 2) : EV V col agg e = none := by
  rw [EV_eq h]; unfold evB evC; rw [k]; rfl
theorem EV.tru {V : VT} {col agg : Nat → OV} {e : Nat} (h : e < 199) (k : rk V e = 3) : EV V col agg e = some 1 := by
  rw [EV_eq h]; unfold evB evC; rw [k]; rfl
theorem EV.fal {V : VT} {col agg : Nat → OV} {e : Nat} (h : e < 199) (k : rk V e = 4) : EV V col agg e = some 0 := by
  rw [EV_eq h]; unfold evB evC; rw [k]; rfl
theorem EV.col {V : VT} {col agg : Nat → OV} {e : Nat} (h : e < 199) (k : rk V e = 5) : EV V col agg e = col e := by
  rw [EV_eq h]; unfold evB evC; rw [k]; rfl
theorem EV.agg {V : VT} {col agg : Nat → OV} {e : Nat} (h : e < 199) (k : rk V e = 20 ∨ rk V e = 21 ∨ rk V e = 22 ∨ rk V e = 23 ∨ rk V e = 24) : EV V col agg e = agg e := by
  rw [EV_eq h]; unfold evB evC
  rcases k with k | k | k | k | k <;> rw [k] <;> rfl
theorem EV.and {V : VT} {col agg : Nat → OV} {e l r : Nat} (h : e < 199) (k : rk V e = 6) (hl : rl V e = nI l) (hr : rr V e = nI r) (l1 : l < e) (r1 : r < e) : EV V col agg e = ofT (bT 0 (tr1 (EV V col agg l)) (tr1 (EV V col agg r))) := by
  rw [EV_eq h]; unfold evB evC; rw [k]
  show ofT (bT 0 (tr1 ((fun z => if z < e then EV V col agg z else none) (rl V e).toNatClampNeg)) (tr1 ((fun z => if z < e then EV V col agg z else none) (rr V e).toNatClampNeg))) = _
  rw [gu_ok hl l1 (by omega), gu_ok hr r1 (by omega)]
theorem EV.or {V : VT} {col agg : Nat → OV} {e l r : Nat} (h : e < 199) (k : rk V e = 7) (hl : rl V e = nI l) (hr : rr V e = nI r) (l1 : l < e) (r1 : r < e) : EV V col agg e = ofT (bT 1 (tr1 (EV V col agg l)) (tr1 (EV V col agg r))) := by
  rw [EV_eq h]; unfold evB evC; rw [k]
  show ofT (bT 1 (tr1 ((fun z => if z < e then EV V col agg z else none) (rl V e).toNatClampNeg)) (tr1 ((fun z => if z < e then EV V col agg z else none) (rr V e).toNatClampNeg))) = _
  rw [gu_ok hl l1 (by omega), gu_ok hr r1 (by omega)]
theorem EV.not {V : VT} {col agg : Nat → OV} {e l : Nat} (h : e < 199) (k : rk V e = 8) (hl : rl V e = nI l) (l1 : l < e) : EV V col agg e = ofT (if tr1 (EV V col agg l) = 2 then 2 else 1 - tr1 (EV V col agg l)) := by
  rw [EV_eq h]; unfold evB evC; rw [k]
  show ofT (if tr1 ((fun z => if z < e then EV V col agg z else none) (rl V e).toNatClampNeg) = 2 then 2 else 1 - tr1 ((fun z => if z < e then EV V col agg z else none) (rl V e).toNatClampNeg)) = _
  rw [gu_ok hl l1 (by omega)]
theorem EV.isn {V : VT} {col agg : Nat → OV} {e l : Nat} (h : e < 199) (k : rk V e = 10) (hl : rl V e = nI l) (l1 : l < e) : EV V col agg e = some (if fl (EV V col agg l) = (if rh V e = 0 then 1 else 0) then 1 else 0) := by
  rw [EV_eq h]; unfold evB evC; rw [k]
  show some (if fl ((fun z => if z < e then EV V col agg z else none) (rl V e).toNatClampNeg) = (if rh V e = 0 then 1 else 0) then 1 else 0) = _
  rw [gu_ok hl l1 (by omega)]
theorem EV.cas {V : VT} {col agg : Nat → OV} {e l r t : Nat} (h : e < 199) (k : rk V e = 18) (hl : rl V e = nI l) (hr : rr V e = nI r) (ht : rt V e = nI t) (l1 : l < e) (r1 : r < e) (t1 : t < e) : EV V col agg e = (if tr1 (EV V col agg l) = 1 then EV V col agg r else EV V col agg t) := by
  rw [EV_eq h]; unfold evB evC; rw [k]
  show (if tr1 ((fun z => if z < e then EV V col agg z else none) (rl V e).toNatClampNeg) = 1 then (fun z => if z < e then EV V col agg z else none) (rr V e).toNatClampNeg else (fun z => if z < e then EV V col agg z else none) (rt V e).toNatClampNeg) = _
  rw [gu_ok hl l1 (by omega), gu_ok hr r1 (by omega), gu_ok ht t1 (by omega)]
theorem EV.neg {V : VT} {col agg : Nat → OV} {e l : Nat} (h : e < 199) (k : rk V e = 17) (hl : rl V e = nI l) (l1 : l < e) : EV V col agg e = (EV V col agg l).map (fun v => -v) := by
  rw [EV_eq h]; unfold evB evC; rw [k]
  show ((fun z => if z < e then EV V col agg z else none) (rl V e).toNatClampNeg).map (fun v => -v) = _
  rw [gu_ok hl l1 (by omega)]
theorem EV.two {V : VT} {col agg : Nat → OV} {e l r : Nat} (h : e < 199) (k : rk V e = 9 ∨ rk V e = 12 ∨ rk V e = 13 ∨ rk V e = 14 ∨ rk V e = 15 ∨ rk V e = 16 ∨ rk V e = 19) (hl : rl V e = nI l) (hr : rr V e = nI r) (l1 : l < e) (r1 : r < e) : EV V col agg e = (EV V col agg l).bind (fun a => (EV V col agg r).bind (fun b => tw (rk V e) (rh V e) a b)) := by
  have q : evC V col agg (fun z => if z < e then EV V col agg z else none) e = ((fun z => if z < e then EV V col agg z else none) (rl V e).toNatClampNeg).bind (fun a => ((fun z => if z < e then EV V col agg z else none) (rr V e).toNatClampNeg).bind (fun b => tw (rk V e) (rh V e) a b)) := by
    unfold evC
    rcases k with k | k | k | k | k | k | k <;> rw [k] <;> rfl
  rw [EV_eq h]; unfold evB; rw [q, gu_ok hl l1 (by omega), gu_ok hr r1 (by omega)]
/-- the members of a list, each below e -/
def CHL (V : VT) : Nat → Nat → Nat → Prop
  | 0, _, _ => False
  | m + 1, r, e => r < e ∧ (rx V r = -1 ∨ ∃ q, rx V r = nI q ∧ CHL V m q e)
theorem evI_gu {V : VT} {g : Nat → OV} {x : OV} {e : Nat} (he : e < 1000) : ∀ (m r f : Nat) (is : Int32), CHL V m r e → evI V (fun z => if z < e then g z else none) x f is (nI r) = evI V g x f is (nI r)
  | 0, _, _, _, h => h.elim
  | m + 1, r, 0, is, h => rfl
  | m + 1, r, f + 1, is, h => by
    obtain ⟨h1, h2⟩ := h
    unfold evI
    rw [if_neg (nI_nm1 (by omega)), if_neg (nI_nm1 (by omega)), nI_clamp (by omega), if_pos h1]
    rcases h2 with y | ⟨q, y1, y2⟩
    · rw [y]
      cases f with
      | zero => rfl
      | succ f => unfold evI; rw [if_pos rfl, if_pos rfl]
    · rw [y1]
      exact evI_gu he m q f _ y2
theorem EV.inn {V : VT} {col agg : Nat → OV} {e l r m : Nat} (h : e < 199) (k : rk V e = 11) (hl : rl V e = nI l) (hr : rr V e = nI r) (l1 : l < e) (ch : CHL V m r e) : EV V col agg e = ofT (if evI V (EV V col agg) (EV V col agg l) 121 (if fl (EV V col agg l) = 0 then 0 else 2) (nI r) = 2 then 2 else if rh V e = 1 then 1 - evI V (EV V col agg) (EV V col agg l) 121 (if fl (EV V col agg l) = 0 then 0 else 2) (nI r) else evI V (EV V col agg) (EV V col agg l) 121 (if fl (EV V col agg l) = 0 then 0 else 2) (nI r)) := by
  obtain ⟨g, hg⟩ : ∃ g : Nat → OV, g = fun z => if z < e then EV V col agg z else none := ⟨_, rfl⟩
  have gl : g (rl V e).toNatClampNeg = EV V col agg l := by rw [hg]; exact gu_ok hl l1 (by omega)
  have q : evC V col agg g e = ofT (if evI V g (g (rl V e).toNatClampNeg) 121 (if fl (g (rl V e).toNatClampNeg) = 0 then 0 else 2) (rr V e) = 2 then 2 else if rh V e = 1 then 1 - evI V g (g (rl V e).toNatClampNeg) 121 (if fl (g (rl V e).toNatClampNeg) = 0 then 0 else 2) (rr V e) else evI V g (g (rl V e).toNatClampNeg) 121 (if fl (g (rl V e).toNatClampNeg) = 0 then 0 else 2) (rr V e)) := by
    unfold evC; rw [k]; rfl
  have qi : ∀ is, evI V g (EV V col agg l) 121 is (nI r) = evI V (EV V col agg) (EV V col agg l) 121 is (nI r) := fun is => by
    rw [hg]
    exact evI_gu (by omega) m r 121 is ch
  rw [EV_eq h]; unfold evB; rw [← hg, q, gl, hr, qi]
theorem CH.chl {P : Nat → Nat → Prop} {V : VT} : ∀ (m a r e b : Nat), CH P V m a r e → r ≤ e → e < b → CHL V m r b
  | 0, _, _, _, _, h, _, _ => h.elim
  | m + 1, a, r, e, b, h, h1, h2 => by
    refine ⟨by omega, ?_⟩
    rcases h.2 with ⟨y1, y2, y3⟩ | ⟨y1, q, y2, y3, y4⟩
    · exact Or.inl y3
    · refine Or.inr ⟨q, y2, CH.chl m (r + 1) q e b y4 ?_ h2⟩
      cases m with
      | zero => exact y4.elim
      | succ m =>
        rcases y4.2 with ⟨z1, z2, z3⟩ | ⟨z1, -⟩
        · omega
        · omega

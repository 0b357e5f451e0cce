/-! what was read, without the tokens it was read from -/
/-- the node r is a whole EXPR -/
def RTX (V : VT) (q : Nat) (ma : Bool) (s r : Nat) (cs : CS) : Prop := ∃ a, RTT V s r a ∧ ∀ z, a ≤ z → z ≤ r → AGC (vk V z) → ma = true ∧ AM q cs z
theorem RT.x {n : Nat} {f : Nat → Int32} {M c : Nat} {q s r : Nat} {ma : Bool} {V : VT} {cs : CS} {rs : RS} (h : RT n f M c q ma s r cs rs) (hv : ∀ y, y < s → VW c cs rs y = V y) : RTX V q ma s r cs := by
  obtain ⟨a, a1, a2, a3, a4⟩ := h
  refine ⟨a, ⟨a1, a2, TR.fr _ _ _ _ (fun x q1 q2 => (hv x (by omega)).symm) (a3 r)⟩, fun z z1 z2 w => ?_⟩
  have e := hv z (by omega)
  have w' : AGN (VW c cs rs) z := by
    unfold AGC vk at w
    unfold AGN vk
    rw [e]
    exact w
  exact a4.an z z1 (by omega) w'
theorem RTX.mv {V : VT} {q s r : Nat} {ma : Bool} {cs cs' : CS} (h : RTX V q ma s r cs) (am : ∀ z, AM q cs z → AM q cs' z) : RTX V q ma s r cs' := by
  obtain ⟨a, h1, h2⟩ := h
  exact ⟨a, h1, fun z z1 z2 w => ⟨(h2 z z1 z2 w).1, am z (h2 z z1 z2 w).2⟩⟩
theorem RTX.mf {V : VT} {q q' s r : Nat} {cs cs' : CS} (h : RTX V q false s r cs) : RTX V q' false s r cs' := by
  obtain ⟨a, h1, h2⟩ := h
  exact ⟨a, h1, fun z z1 z2 w => absurd (h2 z z1 z2 w).1 (by decide)⟩
theorem RTX.rtt {V : VT} {q s r : Nat} {ma : Bool} {cs : CS} (h : RTX V q ma s r cs) : ∃ a, RTT V s r a := by
  obtain ⟨a, h1, -⟩ := h
  exact ⟨a, h1⟩
theorem RTX.two {V : VT} {q s r : Nat} {cs : CS} (h : RTX V q false s r cs) : ∃ a, RTT V s r a ∧ ∀ z, a ≤ z → z ≤ r → ¬ AGC (vk V z) := by
  obtain ⟨a, h1, h2⟩ := h
  exact ⟨a, h1, fun z z1 z2 w => absurd (h2 z z1 z2 w).1 (by decide)⟩
theorem RTX.tw1 {V : VT} {q s r : Nat} {ma : Bool} {cs : CS} (h : RTX V q ma s r cs) (no : ∀ x, ¬ AM q cs x) : ∃ a, RTT V s r a ∧ ∀ z, a ≤ z → z ≤ r → ¬ AGC (vk V z) := by
  obtain ⟨a, h1, h2⟩ := h
  exact ⟨a, h1, fun z z1 z2 w => no z (h2 z z1 z2 w).2⟩
def OPTX (V : VT) (q : Nat) (ma : Bool) (s : Nat) (x y : Int32) (cs : CS) : Prop := (x = -1 ∧ y = -1) ∨ ∃ r, x = nI r ∧ y = nI r ∧ RTX V q ma s r cs
theorem OPT.x {n : Nat} {f : Nat → Int32} {M c : Nat} {q s : Nat} {ma : Bool} {V : VT} {x y : Int32} {cs : CS} {rs : RS} (h : OPT n f M c q ma s x y cs rs) (hv : ∀ y, y < s → VW c cs rs y = V y) : OPTX V q ma s x y cs := by
  rcases h with w | ⟨r, r1, r2, r3⟩
  · exact Or.inl w
  · exact Or.inr ⟨r, r1, r2, r3.x hv⟩
theorem OPTX.mv {V : VT} {q s : Nat} {ma : Bool} {x y : Int32} {cs cs' : CS} (h : OPTX V q ma s x y cs) (am : ∀ z, AM q cs z → AM q cs' z) : OPTX V q ma s x y cs' := by
  rcases h with w | ⟨r, r1, r2, r3⟩
  · exact Or.inl w
  · exact Or.inr ⟨r, r1, r2, r3.mv am⟩
theorem OPTX.mf {V : VT} {q q' s : Nat} {x y : Int32} {cs cs' : CS} (h : OPTX V q false s x y cs) : OPTX V q' false s x y cs' := by
  rcases h with w | ⟨r, r1, r2, r3⟩
  · exact Or.inl w
  · exact Or.inr ⟨r, r1, r2, r3.mf⟩
/-- a SOURCE -/
def SRBX (P : Nat → Nat → Nat → Nat → Nat → Nat → Prop) (X : Nat → CS → Prop) (lo hi sl ql oo j : Nat) (cs : CS) (rs : RS) : Prop := ((7, oo) ∈ kE cs) ∧ (lo ≤ oo) ∧ (oo < hi) ∧ ((∃ d, d ≤ 9 ∧ kI cs 224 oo = nI d ∧ rs.2.2.1 49 j = nI d ∧ kR cs 225 oo = none ∧ kI cs 226 oo = rs.2.2.1 50 j ∧ rs.2.2.1 53 j = -1 ∧ ((kJ cs 230 oo = -1 ∧ rs.2.2.1 51 j = 0) ∨ (rs.2.2.1 51 j = 1 ∧ kJ cs 230 oo = rs.2.2.2 52 j ∧ 0 ≤ kJ cs 230 oo))) ∨ (kI cs 224 oo = -1 ∧ rs.2.2.1 49 j = -1 ∧ rs.2.2.1 51 j = 0 ∧ kI cs 227 oo = rs.2.2.1 54 j ∧ ∃ oi qi lo', oo + 1 < lo' ∧ kR cs 225 oo = some oi ∧ rs.2.2.1 53 j = nI qi ∧ qi < 60 ∧ P sl ql lo' hi oi qi)) ∧ (∃ cl, cl = oo + 1 ∧ cl < hi ∧ kR cs 235 oo = some cl ∧ X cl cs)
theorem SRBX.e {P : Nat → Nat → Nat → Nat → Nat → Nat → Prop} {X : Nat → CS → Prop} {lo hi sl ql oo j : Nat} {cs : CS} {rs : RS} (h : SRBX P X lo hi sl ql oo j cs rs) : (7, oo) ∈ kE cs := h.1
theorem SRBX.ol {P : Nat → Nat → Nat → Nat → Nat → Nat → Prop} {X : Nat → CS → Prop} {lo hi sl ql oo j : Nat} {cs : CS} {rs : RS} (h : SRBX P X lo hi sl ql oo j cs rs) : lo ≤ oo := h.2.1
theorem SRBX.oh {P : Nat → Nat → Nat → Nat → Nat → Nat → Prop} {X : Nat → CS → Prop} {lo hi sl ql oo j : Nat} {cs : CS} {rs : RS} (h : SRBX P X lo hi sl ql oo j cs rs) : oo < hi := h.2.2.1
theorem SRBX.kd {P : Nat → Nat → Nat → Nat → Nat → Nat → Prop} {X : Nat → CS → Prop} {lo hi sl ql oo j : Nat} {cs : CS} {rs : RS} (h : SRBX P X lo hi sl ql oo j cs rs) : (∃ d, d ≤ 9 ∧ kI cs 224 oo = nI d ∧ rs.2.2.1 49 j = nI d ∧ kR cs 225 oo = none ∧ kI cs 226 oo = rs.2.2.1 50 j ∧ rs.2.2.1 53 j = -1 ∧ ((kJ cs 230 oo = -1 ∧ rs.2.2.1 51 j = 0) ∨ (rs.2.2.1 51 j = 1 ∧ kJ cs 230 oo = rs.2.2.2 52 j ∧ 0 ≤ kJ cs 230 oo))) ∨ (kI cs 224 oo = -1 ∧ rs.2.2.1 49 j = -1 ∧ rs.2.2.1 51 j = 0 ∧ kI cs 227 oo = rs.2.2.1 54 j ∧ ∃ oi qi lo', oo + 1 < lo' ∧ kR cs 225 oo = some oi ∧ rs.2.2.1 53 j = nI qi ∧ qi < 60 ∧ P sl ql lo' hi oi qi) := h.2.2.2.1
theorem SRBX.cl {P : Nat → Nat → Nat → Nat → Nat → Nat → Prop} {X : Nat → CS → Prop} {lo hi sl ql oo j : Nat} {cs : CS} {rs : RS} (h : SRBX P X lo hi sl ql oo j cs rs) : ∃ cl, cl = oo + 1 ∧ cl < hi ∧ kR cs 235 oo = some cl ∧ X cl cs := h.2.2.2.2
def SRCX (P : Nat → Nat → Nat → Nat → Nat → Nat → Prop) (X : Nat → CS → Prop) (V : VT) (s lo hi sl ql k oo j : Nat) (cs : CS) (rs : RS) : Prop := (SRBX P X lo hi sl ql oo j cs rs) ∧ (rs.2.2.1 56 j = kI cs 231 oo ∧ (kI cs 231 oo = 0 ∨ kI cs 231 oo = 1)) ∧ (OPTX V 0 false s (kI cs 233 oo) (rs.2.2.1 58 j) cs) ∧ ((k = 0 → kI cs 233 oo = -1) ∧ (0 < k → kI cs 233 oo ≠ -1))
theorem SRCX.b {P : Nat → Nat → Nat → Nat → Nat → Nat → Prop} {X : Nat → CS → Prop} {V : VT} {s lo hi sl ql k oo j : Nat} {cs : CS} {rs : RS} (h : SRCX P X V s lo hi sl ql k oo j cs rs) : SRBX P X lo hi sl ql oo j cs rs := h.1
theorem SRCX.ou {P : Nat → Nat → Nat → Nat → Nat → Nat → Prop} {X : Nat → CS → Prop} {V : VT} {s lo hi sl ql k oo j : Nat} {cs : CS} {rs : RS} (h : SRCX P X V s lo hi sl ql k oo j cs rs) : rs.2.2.1 56 j = kI cs 231 oo ∧ (kI cs 231 oo = 0 ∨ kI cs 231 oo = 1) := h.2.1
theorem SRCX.on {P : Nat → Nat → Nat → Nat → Nat → Nat → Prop} {X : Nat → CS → Prop} {V : VT} {s lo hi sl ql k oo j : Nat} {cs : CS} {rs : RS} (h : SRCX P X V s lo hi sl ql k oo j cs rs) : OPTX V 0 false s (kI cs 233 oo) (rs.2.2.1 58 j) cs := h.2.2.1
theorem SRCX.o1 {P : Nat → Nat → Nat → Nat → Nat → Nat → Prop} {X : Nat → CS → Prop} {V : VT} {s lo hi sl ql k oo j : Nat} {cs : CS} {rs : RS} (h : SRCX P X V s lo hi sl ql k oo j cs rs) : (k = 0 → kI cs 233 oo = -1) ∧ (0 < k → kI cs 233 oo ≠ -1) := h.2.2.2
/-- a SELECT -/
def OSX (P : Nat → Nat → Nat → Nat → Nat → Nat → Nat → Prop) (X : Nat → CS → Prop) (V : VT) (s lo hi ql o e it gr mi ns mg : Nat) (cs : CS) (rs : RS) : Prop := ((6, o) ∈ kE cs) ∧ (lo ≤ o ∧ o < it ∧ it < gr ∧ gr < hi) ∧ (e < 60) ∧ (kR cs 194 o = some it) ∧ (kR cs 200 o = some gr) ∧ (CLM it mi cs) ∧ (CLM gr mg cs) ∧ ((227, o) ∈ kE cs) ∧ (∃ j, kP cs 195 o = some j) ∧ (kL cs 195 o = 3) ∧ (kI cs 196 o = nI ns) ∧ (ns ≤ 3) ∧ ((kI cs 192 o = 0 ∧ rs.2.2.1 35 e = -1) ∨ (kI cs 192 o = 1 ∧ rs.2.2.1 35 e = kI cs 193 o ∧ rs.2.2.1 35 e ≠ -1)) ∧ (rs.2.2.1 36 e = nI mi) ∧ (rs.2.2.1 37 e = nI ns) ∧ (rs.2.2.1 39 e = nI mg) ∧ (OPTX V 0 false s (kI cs 197 o) (rs.2.2.1 38 e) cs) ∧ (OPTX V o true s (kI cs 201 o) (rs.2.2.1 41 e) cs) ∧ ((kI cs 198 o = 0 ∧ rs.2.2.1 40 e = -1 ∧ mg = 0) ∨ (kI cs 198 o = 1 ∧ rs.2.2.1 40 e = kI cs 199 o ∧ rs.2.2.1 40 e ≠ -1)) ∧ (∀ k, k < mi → ∃ r, kA cs 97 it k = nI r ∧ rs.2.2.1 44 (8 * e + k) = nI r ∧ RTX V o true s r cs) ∧ (∀ k, k < mg → ∃ r, kA cs 97 gr k = nI r ∧ rs.2.2.1 47 (8 * e + k) = nI r ∧ RTX V 0 false s r cs) ∧ (∃ b u v : Nat → Nat, gr < b 0 ∧ (∀ k, k < ns → b k ≤ b (k + 1)) ∧ b ns ≤ hi ∧ (∀ k, k < ns → e < u k ∧ (rs.2.2.1 49 (3 * e + k) ≠ -1 → v k = 0)) ∧ (∀ k k', k < k' → k' < ns → v k ≤ u k') ∧ ∀ k, k < ns → ∃ oo, kQ cs 195 o k = some oo ∧ SRCX (P (v k)) X V s (b k) (b (k + 1)) (u k) ql k oo (3 * e + k) cs rs)
theorem OSX.e6 {P : Nat → Nat → Nat → Nat → Nat → Nat → Nat → Prop} {X : Nat → CS → Prop} {V : VT} {s lo hi ql o e it gr mi ns mg : Nat} {cs : CS} {rs : RS} (h : OSX P X V s lo hi ql o e it gr mi ns mg cs rs) : (6, o) ∈ kE cs := h.1
theorem OSX.od {P : Nat → Nat → Nat → Nat → Nat → Nat → Nat → Prop} {X : Nat → CS → Prop} {V : VT} {s lo hi ql o e it gr mi ns mg : Nat} {cs : CS} {rs : RS} (h : OSX P X V s lo hi ql o e it gr mi ns mg cs rs) : lo ≤ o ∧ o < it ∧ it < gr ∧ gr < hi := h.2.1
theorem OSX.e60 {P : Nat → Nat → Nat → Nat → Nat → Nat → Nat → Prop} {X : Nat → CS → Prop} {V : VT} {s lo hi ql o e it gr mi ns mg : Nat} {cs : CS} {rs : RS} (h : OSX P X V s lo hi ql o e it gr mi ns mg cs rs) : e < 60 := h.2.2.1
theorem OSX.r194 {P : Nat → Nat → Nat → Nat → Nat → Nat → Nat → Prop} {X : Nat → CS → Prop} {V : VT} {s lo hi ql o e it gr mi ns mg : Nat} {cs : CS} {rs : RS} (h : OSX P X V s lo hi ql o e it gr mi ns mg cs rs) : kR cs 194 o = some it := h.2.2.2.1
theorem OSX.r200 {P : Nat → Nat → Nat → Nat → Nat → Nat → Nat → Prop} {X : Nat → CS → Prop} {V : VT} {s lo hi ql o e it gr mi ns mg : Nat} {cs : CS} {rs : RS} (h : OSX P X V s lo hi ql o e it gr mi ns mg cs rs) : kR cs 200 o = some gr := h.2.2.2.2.1
theorem OSX.ci {P : Nat → Nat → Nat → Nat → Nat → Nat → Nat → Prop} {X : Nat → CS → Prop} {V : VT} {s lo hi ql o e it gr mi ns mg : Nat} {cs : CS} {rs : RS} (h : OSX P X V s lo hi ql o e it gr mi ns mg cs rs) : CLM it mi cs := h.2.2.2.2.2.1
theorem OSX.cg {P : Nat → Nat → Nat → Nat → Nat → Nat → Nat → Prop} {X : Nat → CS → Prop} {V : VT} {s lo hi ql o e it gr mi ns mg : Nat} {cs : CS} {rs : RS} (h : OSX P X V s lo hi ql o e it gr mi ns mg cs rs) : CLM gr mg cs := h.2.2.2.2.2.2.1
theorem OSX.e195 {P : Nat → Nat → Nat → Nat → Nat → Nat → Nat → Prop} {X : Nat → CS → Prop} {V : VT} {s lo hi ql o e it gr mi ns mg : Nat} {cs : CS} {rs : RS} (h : OSX P X V s lo hi ql o e it gr mi ns mg cs rs) : (227, o) ∈ kE cs := h.2.2.2.2.2.2.2.1
theorem OSX.p195 {P : Nat → Nat → Nat → Nat → Nat → Nat → Nat → Prop} {X : Nat → CS → Prop} {V : VT} {s lo hi ql o e it gr mi ns mg : Nat} {cs : CS} {rs : RS} (h : OSX P X V s lo hi ql o e it gr mi ns mg cs rs) : ∃ j, kP cs 195 o = some j := h.2.2.2.2.2.2.2.2.1
theorem OSX.l195 {P : Nat → Nat → Nat → Nat → Nat → Nat → Nat → Prop} {X : Nat → CS → Prop} {V : VT} {s lo hi ql o e it gr mi ns mg : Nat} {cs : CS} {rs : RS} (h : OSX P X V s lo hi ql o e it gr mi ns mg cs rs) : kL cs 195 o = 3 := h.2.2.2.2.2.2.2.2.2.1
theorem OSX.i196 {P : Nat → Nat → Nat → Nat → Nat → Nat → Nat → Prop} {X : Nat → CS → Prop} {V : VT} {s lo hi ql o e it gr mi ns mg : Nat} {cs : CS} {rs : RS} (h : OSX P X V s lo hi ql o e it gr mi ns mg cs rs) : kI cs 196 o = nI ns := h.2.2.2.2.2.2.2.2.2.2.1
theorem OSX.n3 {P : Nat → Nat → Nat → Nat → Nat → Nat → Nat → Prop} {X : Nat → CS → Prop} {V : VT} {s lo hi ql o e it gr mi ns mg : Nat} {cs : CS} {rs : RS} (h : OSX P X V s lo hi ql o e it gr mi ns mg cs rs) : ns ≤ 3 := h.2.2.2.2.2.2.2.2.2.2.2.1
theorem OSX.ds {P : Nat → Nat → Nat → Nat → Nat → Nat → Nat → Prop} {X : Nat → CS → Prop} {V : VT} {s lo hi ql o e it gr mi ns mg : Nat} {cs : CS} {rs : RS} (h : OSX P X V s lo hi ql o e it gr mi ns mg cs rs) : (kI cs 192 o = 0 ∧ rs.2.2.1 35 e = -1) ∨ (kI cs 192 o = 1 ∧ rs.2.2.1 35 e = kI cs 193 o ∧ rs.2.2.1 35 e ≠ -1) := h.2.2.2.2.2.2.2.2.2.2.2.2.1
theorem OSX.ri {P : Nat → Nat → Nat → Nat → Nat → Nat → Nat → Prop} {X : Nat → CS → Prop} {V : VT} {s lo hi ql o e it gr mi ns mg : Nat} {cs : CS} {rs : RS} (h : OSX P X V s lo hi ql o e it gr mi ns mg cs rs) : rs.2.2.1 36 e = nI mi := h.2.2.2.2.2.2.2.2.2.2.2.2.2.1
theorem OSX.rn {P : Nat → Nat → Nat → Nat → Nat → Nat → Nat → Prop} {X : Nat → CS → Prop} {V : VT} {s lo hi ql o e it gr mi ns mg : Nat} {cs : CS} {rs : RS} (h : OSX P X V s lo hi ql o e it gr mi ns mg cs rs) : rs.2.2.1 37 e = nI ns := h.2.2.2.2.2.2.2.2.2.2.2.2.2.2.1
theorem OSX.rg {P : Nat → Nat → Nat → Nat → Nat → Nat → Nat → Prop} {X : Nat → CS → Prop} {V : VT} {s lo hi ql o e it gr mi ns mg : Nat} {cs : CS} {rs : RS} (h : OSX P X V s lo hi ql o e it gr mi ns mg cs rs) : rs.2.2.1 39 e = nI mg := h.2.2.2.2.2.2.2.2.2.2.2.2.2.2.2.1
theorem OSX.wh {P : Nat → Nat → Nat → Nat → Nat → Nat → Nat → Prop} {X : Nat → CS → Prop} {V : VT} {s lo hi ql o e it gr mi ns mg : Nat} {cs : CS} {rs : RS} (h : OSX P X V s lo hi ql o e it gr mi ns mg cs rs) : OPTX V 0 false s (kI cs 197 o) (rs.2.2.1 38 e) cs := h.2.2.2.2.2.2.2.2.2.2.2.2.2.2.2.2.1
theorem OSX.hv {P : Nat → Nat → Nat → Nat → Nat → Nat → Nat → Prop} {X : Nat → CS → Prop} {V : VT} {s lo hi ql o e it gr mi ns mg : Nat} {cs : CS} {rs : RS} (h : OSX P X V s lo hi ql o e it gr mi ns mg cs rs) : OPTX V o true s (kI cs 201 o) (rs.2.2.1 41 e) cs := h.2.2.2.2.2.2.2.2.2.2.2.2.2.2.2.2.2.1
theorem OSX.hg {P : Nat → Nat → Nat → Nat → Nat → Nat → Nat → Prop} {X : Nat → CS → Prop} {V : VT} {s lo hi ql o e it gr mi ns mg : Nat} {cs : CS} {rs : RS} (h : OSX P X V s lo hi ql o e it gr mi ns mg cs rs) : (kI cs 198 o = 0 ∧ rs.2.2.1 40 e = -1 ∧ mg = 0) ∨ (kI cs 198 o = 1 ∧ rs.2.2.1 40 e = kI cs 199 o ∧ rs.2.2.1 40 e ≠ -1) := h.2.2.2.2.2.2.2.2.2.2.2.2.2.2.2.2.2.2.1
theorem OSX.is {P : Nat → Nat → Nat → Nat → Nat → Nat → Nat → Prop} {X : Nat → CS → Prop} {V : VT} {s lo hi ql o e it gr mi ns mg : Nat} {cs : CS} {rs : RS} (h : OSX P X V s lo hi ql o e it gr mi ns mg cs rs) : ∀ k, k < mi → ∃ r, kA cs 97 it k = nI r ∧ rs.2.2.1 44 (8 * e + k) = nI r ∧ RTX V o true s r cs := h.2.2.2.2.2.2.2.2.2.2.2.2.2.2.2.2.2.2.2.1
theorem OSX.gs {P : Nat → Nat → Nat → Nat → Nat → Nat → Nat → Prop} {X : Nat → CS → Prop} {V : VT} {s lo hi ql o e it gr mi ns mg : Nat} {cs : CS} {rs : RS} (h : OSX P X V s lo hi ql o e it gr mi ns mg cs rs) : ∀ k, k < mg → ∃ r, kA cs 97 gr k = nI r ∧ rs.2.2.1 47 (8 * e + k) = nI r ∧ RTX V 0 false s r cs := h.2.2.2.2.2.2.2.2.2.2.2.2.2.2.2.2.2.2.2.2.1
theorem OSX.so {P : Nat → Nat → Nat → Nat → Nat → Nat → Nat → Prop} {X : Nat → CS → Prop} {V : VT} {s lo hi ql o e it gr mi ns mg : Nat} {cs : CS} {rs : RS} (h : OSX P X V s lo hi ql o e it gr mi ns mg cs rs) : ∃ b u v : Nat → Nat, gr < b 0 ∧ (∀ k, k < ns → b k ≤ b (k + 1)) ∧ b ns ≤ hi ∧ (∀ k, k < ns → e < u k ∧ (rs.2.2.1 49 (3 * e + k) ≠ -1 → v k = 0)) ∧ (∀ k k', k < k' → k' < ns → v k ≤ u k') ∧ ∀ k, k < ns → ∃ oo, kQ cs 195 o k = some oo ∧ SRCX (P (v k)) X V s (b k) (b (k + 1)) (u k) ql k oo (3 * e + k) cs rs := h.2.2.2.2.2.2.2.2.2.2.2.2.2.2.2.2.2.2.2.2.2
def AGPX (β : Option Nat) (c s o e it mi : Nat) (cs : CS) (rs : RS) : Prop := ((234, o) ∈ kE cs) ∧ (∃ j, kP cs 202 o = some j) ∧ (kL cs 202 o = 12) ∧ (∃ k, k ≤ 12 ∧ kI cs 203 o = nI k ∧ rs.2.2.1 42 e = nI k ∧ (k = 0 → rs.2.2.1 43 e = -1) ∧ (0 < k → ∃ x, x < s ∧ kA cs 202 o 0 = nI x ∧ rs.2.2.1 43 e = kA cs 66 c x ∧ rs.2.2.1 43 e ≠ -1) ∧ (∀ j, j < k → ∃ x, x < s ∧ kA cs 202 o j = nI x ∧ AGC (kA cs 65 c x))) ∧ (ACP β c s o it mi cs)
theorem AGPX.e {β : Option Nat} {c s o e it mi : Nat} {cs : CS} {rs : RS} (h : AGPX β c s o e it mi cs rs) : (234, o) ∈ kE cs := h.1
theorem AGPX.p {β : Option Nat} {c s o e it mi : Nat} {cs : CS} {rs : RS} (h : AGPX β c s o e it mi cs rs) : ∃ j, kP cs 202 o = some j := h.2.1
theorem AGPX.l {β : Option Nat} {c s o e it mi : Nat} {cs : CS} {rs : RS} (h : AGPX β c s o e it mi cs rs) : kL cs 202 o = 12 := h.2.2.1
theorem AGPX.k {β : Option Nat} {c s o e it mi : Nat} {cs : CS} {rs : RS} (h : AGPX β c s o e it mi cs rs) : ∃ k, k ≤ 12 ∧ kI cs 203 o = nI k ∧ rs.2.2.1 42 e = nI k ∧ (k = 0 → rs.2.2.1 43 e = -1) ∧ (0 < k → ∃ x, x < s ∧ kA cs 202 o 0 = nI x ∧ rs.2.2.1 43 e = kA cs 66 c x ∧ rs.2.2.1 43 e ≠ -1) ∧ (∀ j, j < k → ∃ x, x < s ∧ kA cs 202 o j = nI x ∧ AGC (kA cs 65 c x)) := h.2.2.2.1
theorem AGPX.ac {β : Option Nat} {c s o e it mi : Nat} {cs : CS} {rs : RS} (h : AGPX β c s o e it mi cs rs) : ACP β c s o it mi cs := h.2.2.2.2
def SELX (P : Nat → Nat → Nat → Nat → Nat → Nat → Nat → Prop) (X : Nat → CS → Prop) (V : VT) (c s lo hi ql o e : Nat) (cs : CS) (rs : RS) : Prop := ∃ it gr mi ns mg, OSX P X V s lo hi ql o e it gr mi ns mg cs rs ∧ AGPX (hvr o cs) c s o e it mi cs rs ∧ 1 ≤ mi ∧ 1 ≤ ns ∧ (kI cs 198 o ≠ 0 → 1 ≤ mg)
def QRYX (P : Nat → Nat → Nat → Nat → Nat → Nat → Nat → Prop) (X : Nat → CS → Prop) (V : VT) (c s Sl Sb Ql lo hi oq q : Nat) (cs : CS) (rs : RS) : Prop := ((4, oq) ∈ kE cs) ∧ (q < 60) ∧ (∃ (L m : Nat) (lb ub wb : Nat → Nat), kR cs 128 oq = some L ∧ (0, L) ∈ kE cs ∧ (33, L) ∈ kE cs ∧ (∃ j, kP cs 1 L = some j) ∧ kL cs 1 L = 10 ∧ kI cs 2 L = nI m ∧ rs.2.2.1 60 q = nI m ∧ 1 ≤ m ∧ m ≤ 3 ∧ (Sl ≤ wb 0 ∧ (∀ k, k < m → wb k ≤ wb (k + 1)) ∧ wb m ≤ Sb) ∧ (∀ k, k < m → ∃ so e, kQ cs 1 L k = some so ∧ rs.2.2.1 61 (5 * q + k) = nI e ∧ wb k ≤ e ∧ e < wb (k + 1) ∧ SELX (QB (wb (k + 1)) P) X V c s (lb k) (ub k) (q + 1) so e cs rs ∧ (0 < k → SETR (kI cs 204 so) (rs.2.2.1 62 (5 * q + k)))) ∧ (∃ so, kQ cs 1 L 0 = some so ∧ kR cs 129 oq = kR cs 194 so)) ∧ ((kR cs 130 oq = none ∧ rs.2.2.1 65 q = -1) ∨ (∃ oc m, kR cs 130 oq = some oc ∧ CLM oc m cs ∧ rs.2.2.1 64 q = nI m ∧ rs.2.2.1 65 q ≠ -1 ∧ (∃ l, l ≤ 100 ∧ kI cs 132 oq = nI l ∧ rs.2.2.1 68 q = nI l) ∧ ∀ k, k < m → ∃ r, kA cs 97 oc k = nI r ∧ rs.2.2.1 66 (8 * q + k) = nI r ∧ RTX V 0 false s r cs ∧ kA cs 99 oc k = rs.2.2.1 67 (8 * q + k)))
theorem QRYX.e4 {P : Nat → Nat → Nat → Nat → Nat → Nat → Nat → Prop} {X : Nat → CS → Prop} {V : VT} {c s Sl Sb Ql lo hi oq q : Nat} {cs : CS} {rs : RS} (h : QRYX P X V c s Sl Sb Ql lo hi oq q cs rs) : (4, oq) ∈ kE cs := h.1
theorem QRYX.q60 {P : Nat → Nat → Nat → Nat → Nat → Nat → Nat → Prop} {X : Nat → CS → Prop} {V : VT} {c s Sl Sb Ql lo hi oq q : Nat} {cs : CS} {rs : RS} (h : QRYX P X V c s Sl Sb Ql lo hi oq q cs rs) : q < 60 := h.2.1
theorem QRYX.ls {P : Nat → Nat → Nat → Nat → Nat → Nat → Nat → Prop} {X : Nat → CS → Prop} {V : VT} {c s Sl Sb Ql lo hi oq q : Nat} {cs : CS} {rs : RS} (h : QRYX P X V c s Sl Sb Ql lo hi oq q cs rs) : ∃ (L m : Nat) (lb ub wb : Nat → Nat), kR cs 128 oq = some L ∧ (0, L) ∈ kE cs ∧ (33, L) ∈ kE cs ∧ (∃ j, kP cs 1 L = some j) ∧ kL cs 1 L = 10 ∧ kI cs 2 L = nI m ∧ rs.2.2.1 60 q = nI m ∧ 1 ≤ m ∧ m ≤ 3 ∧ (Sl ≤ wb 0 ∧ (∀ k, k < m → wb k ≤ wb (k + 1)) ∧ wb m ≤ Sb) ∧ (∀ k, k < m → ∃ so e, kQ cs 1 L k = some so ∧ rs.2.2.1 61 (5 * q + k) = nI e ∧ wb k ≤ e ∧ e < wb (k + 1) ∧ SELX (QB (wb (k + 1)) P) X V c s (lb k) (ub k) (q + 1) so e cs rs ∧ (0 < k → SETR (kI cs 204 so) (rs.2.2.1 62 (5 * q + k)))) ∧ (∃ so, kQ cs 1 L 0 = some so ∧ kR cs 129 oq = kR cs 194 so) := h.2.2.1
theorem QRYX.or' {P : Nat → Nat → Nat → Nat → Nat → Nat → Nat → Prop} {X : Nat → CS → Prop} {V : VT} {c s Sl Sb Ql lo hi oq q : Nat} {cs : CS} {rs : RS} (h : QRYX P X V c s Sl Sb Ql lo hi oq q cs rs) : (kR cs 130 oq = none ∧ rs.2.2.1 65 q = -1) ∨ (∃ oc m, kR cs 130 oq = some oc ∧ CLM oc m cs ∧ rs.2.2.1 64 q = nI m ∧ rs.2.2.1 65 q ≠ -1 ∧ (∃ l, l ≤ 100 ∧ kI cs 132 oq = nI l ∧ rs.2.2.1 68 q = nI l) ∧ ∀ k, k < m → ∃ r, kA cs 97 oc k = nI r ∧ rs.2.2.1 66 (8 * q + k) = nI r ∧ RTX V 0 false s r cs ∧ kA cs 99 oc k = rs.2.2.1 67 (8 * q + k)) := h.2.2.2
def QXX (V : VT) (c s : Nat) (cs : CS) (rs : RS) : Nat → Nat → Nat → Nat → Nat → Nat → Nat → Nat → Prop
  | 0, _, _, _, _, _, _, _ => False
  | d + 1, Su, Sl, Ql, lo, hi, oq, q => QRYX (QXX V c s cs rs d) XJ V c s Sl Su Ql lo hi oq q cs rs
/-- what stays of a text while the class runs -/
def KPX (c s lo hi : Nat) (V : VT) (csH : CS) (rsH : RS) (cs : CS) (rs : RS) : Prop := (EM csH cs) ∧ (∀ x j, lo ≤ j → j < hi → (x < 32 ∨ 63 < x ∧ x < 74 ∨ 76 < x ∧ x < 256 ∨ 320 ≤ x ∧ x < 352) → AT csH cs x j) ∧ (∀ y, y < s → VW c csH rsH y = V y) ∧ (∀ y, y < s → VW c cs rs y = V y) ∧ (∀ k, 35 ≤ k → k ≤ 68 → rs.2.2.1 k = rsH.2.2.1 k) ∧ (rs.2.2.2 52 = rsH.2.2.2 52)
theorem KPX.em {c s lo hi : Nat} {V : VT} {csH : CS} {rsH : RS} {cs : CS} {rs : RS} (h : KPX c s lo hi V csH rsH cs rs) : EM csH cs := h.1
theorem KPX.at' {c s lo hi : Nat} {V : VT} {csH : CS} {rsH : RS} {cs : CS} {rs : RS} (h : KPX c s lo hi V csH rsH cs rs) : ∀ x j, lo ≤ j → j < hi → (x < 32 ∨ 63 < x ∧ x < 74 ∨ 76 < x ∧ x < 256 ∨ 320 ≤ x ∧ x < 352) → AT csH cs x j := h.2.1
theorem KPX.vH {c s lo hi : Nat} {V : VT} {csH : CS} {rsH : RS} {cs : CS} {rs : RS} (h : KPX c s lo hi V csH rsH cs rs) : ∀ y, y < s → VW c csH rsH y = V y := h.2.2.1
theorem KPX.vN {c s lo hi : Nat} {V : VT} {csH : CS} {rsH : RS} {cs : CS} {rs : RS} (h : KPX c s lo hi V csH rsH cs rs) : ∀ y, y < s → VW c cs rs y = V y := h.2.2.2.1
theorem KPX.ra {c s lo hi : Nat} {V : VT} {csH : CS} {rsH : RS} {cs : CS} {rs : RS} (h : KPX c s lo hi V csH rsH cs rs) : ∀ k, 35 ≤ k → k ≤ 68 → rs.2.2.1 k = rsH.2.2.1 k := h.2.2.2.2.1
theorem KPX.rl {c s lo hi : Nat} {V : VT} {csH : CS} {rsH : RS} {cs : CS} {rs : RS} (h : KPX c s lo hi V csH rsH cs rs) : rs.2.2.2 52 = rsH.2.2.2 52 := h.2.2.2.2.2
theorem KPX.sub {c s lo hi lo' hi' : Nat} {V : VT} {csH cs : CS} {rsH rs : RS} (h : KPX c s lo hi V csH rsH cs rs) (h1 : lo ≤ lo') (h2 : hi' ≤ hi) : KPX c s lo' hi' V csH rsH cs rs := ⟨h.em, fun x j a1 a2 => h.at' x j (by omega) (by omega), h.vH, h.vN, h.ra, h.rl⟩
theorem SRC.x {P P' : Nat → Nat → Nat → Nat → Nat → Nat → Prop} {n : Nat} {f : Nat → Int32} {M c : Nat} {s lo hi sl ql k oo j : Nat} {V : VT} {csH cs : CS} {rsH rs : RS} (g : KPX c s lo hi V csH rsH cs rs) (h : SRC P XJ n f M c s lo hi sl ql k oo j csH rsH) (hP : ∀ lo' oi qi, lo ≤ lo' → P sl ql lo' hi oi qi → P' sl ql lo' hi oi qi) : SRCX P' XJ V s lo hi sl ql k oo j cs rs := by
  have ol := h.b.ol
  have oh := h.b.oh
  have a : ∀ x, (x < 32 ∨ 63 < x ∧ x < 74 ∨ 76 < x ∧ x < 256 ∨ 320 ≤ x ∧ x < 352) → AT csH cs x oo := fun x => g.at' x oo ol oh
  refine ⟨⟨g.em _ h.b.e, ol, oh, ?_, ?_⟩, ?_, ?_, ?_⟩
  · rw [(a 224 (by omega)).i, (a 225 (by omega)).r, (a 226 (by omega)).i, (a 227 (by omega)).i, (a 230 (by omega)).j, g.ra 49 (by omega) (by omega), g.ra 50 (by omega) (by omega), g.ra 51 (by omega) (by omega), g.ra 53 (by omega) (by omega), g.ra 54 (by omega) (by omega), g.rl]
    rcases h.b.kd with y | ⟨y1, y2, y3, y4, oi, qi, lo', y5, y6, y7, y8, y9⟩
    · exact Or.inl y
    · exact Or.inr ⟨y1, y2, y3, y4, oi, qi, lo', y5, y6, y7, y8, hP lo' oi qi (by omega) y9⟩
  · obtain ⟨cl, c1, c2, c3, c4⟩ := h.b.cl
    obtain ⟨m, c4⟩ := c4
    exact ⟨cl, c1, c2, by rw [(a 235 (by omega)).r]; exact c3, m, c4.keep g.em (fun y y1 y2 => g.at' y cl (by omega) c2 (by omega))⟩
  · rw [(a 231 (by omega)).i, g.ra 56 (by omega) (by omega)]
    exact h.ou
  · rw [(a 233 (by omega)).i, g.ra 58 (by omega) (by omega)]
    exact (h.on.x g.vH).mf
  · rw [(a 233 (by omega)).i]
    exact h.o1
theorem OSA.x {P P' : Nat → Nat → Nat → Nat → Nat → Nat → Nat → Prop} {n : Nat} {f : Nat → Int32} {M c : Nat} {s lo hi ql o e it gr mi ns mg : Nat} {V : VT} {csH cs : CS} {rsH rs : RS} (g : KPX c s lo hi V csH rsH cs rs) (h : OSA P XJ n f M c s lo hi ql o e it gr mi ns ns mg csH rsH) (hP : ∀ su sl lo' hi' oi qi, lo ≤ lo' → hi' ≤ hi → P su sl ql lo' hi' oi qi → P' su sl ql lo' hi' oi qi) : OSX P' XJ V s lo hi ql o e it gr mi ns mg cs rs := by
  obtain ⟨d1, d2, d3, d4⟩ := h.od
  have a : ∀ x, (x < 32 ∨ 63 < x ∧ x < 74 ∨ 76 < x ∧ x < 256 ∨ 320 ≤ x ∧ x < 352) → AT csH cs x o := fun x => g.at' x o (by omega) (by omega)
  have am : ∀ z, AM o csH z → AM o cs z := fun z hz => by
    obtain ⟨j, k, m1, m2, m3, m4⟩ := hz
    exact ⟨j, k, m1, by rw [(a 203 (by omega)).i]; exact m2, m3, by rw [(a 202 (by omega)).a]; exact m4⟩
  refine ⟨g.em _ h.e6, h.od, h.e60, by rw [(a 194 (by omega)).r]; exact h.r194, by rw [(a 200 (by omega)).r]; exact h.r200, h.ci.keep g.em (fun x x1 x2 => g.at' x it (by omega) (by omega) (by omega)), h.cg.keep g.em (fun x x1 x2 => g.at' x gr (by omega) (by omega) (by omega)), g.em _ h.e195, by rw [(a 195 (by omega)).p]; exact h.p195, by rw [(a 195 (by omega)).l]; exact h.l195, by rw [(a 196 (by omega)).i]; exact h.i196, h.n3, by rw [(a 192 (by omega)).i, (a 193 (by omega)).i, g.ra 35 (by omega) (by omega)]; exact h.ds, by rw [g.ra 36 (by omega) (by omega)]; exact h.ri, by rw [g.ra 37 (by omega) (by omega)]; exact h.rn, by rw [g.ra 39 (by omega) (by omega)]; exact h.rg, by rw [(a 197 (by omega)).i, g.ra 38 (by omega) (by omega)]; exact (h.wh.x g.vH).mf, by rw [(a 201 (by omega)).i, g.ra 41 (by omega) (by omega)]; exact (h.hv.x g.vH).mv am, by rw [(a 198 (by omega)).i, (a 199 (by omega)).i, g.ra 40 (by omega) (by omega)]; exact h.hg, fun k hk => ?_, fun k hk => ?_, ?_⟩
  · obtain ⟨r, r1, r2, r3, -⟩ := h.is k hk
    exact ⟨r, by rw [(g.at' 97 it (by omega) (by omega) (by omega)).a]; exact r1, by rw [g.ra 44 (by omega) (by omega)]; exact r2, (r3.x g.vH).mv am⟩
  · obtain ⟨r, j, r1, r2, r3, -⟩ := h.gs k hk
    exact ⟨r, by rw [(g.at' 97 gr (by omega) (by omega) (by omega)).a]; exact r1, by rw [g.ra 47 (by omega) (by omega)]; exact r2, (r3.x g.vH).mf⟩
  · obtain ⟨b, u, v, b0, b1, b2, u0, u1, b3⟩ := h.so
    refine ⟨b, u, v, b0, b1, b2, fun k hk => ?_, u1, fun k hk => ?_⟩
    · rw [g.ra 49 (by omega) (by omega)]
      exact u0 k hk
    · obtain ⟨oo, o1, o2⟩ := b3 k hk
      have m0 := mono_b b1 k 0 (by omega)
      rw [Nat.zero_add] at m0
      have m1 := mono_b b1 (ns - (k + 1)) (k + 1) (by omega)
      rw [show k + 1 + (ns - (k + 1)) = ns by omega] at m1
      exact ⟨oo, by rw [(a 195 (by omega)).q]; exact o1, o2.x (g.sub (by omega) (by omega)) (fun lo' oi qi w1 w2 => hP _ _ _ _ _ _ (by omega) (by omega) w2)⟩
theorem AGP.x {n : Nat} {f : Nat → Int32} {M c : Nat} {β : Option Nat} {s o e it mi lo hi : Nat} {V : VT} {csH cs : CS} {rsH rs : RS} (g : KPX c s lo hi V csH rsH cs rs) (h : AGP β n f M c s o e it mi csH rsH) (h1 : lo ≤ o ∧ o < hi) (h2 : lo ≤ it ∧ it < hi) : AGPX β c s o e it mi cs rs := by
  have a : ∀ x, (x < 32 ∨ 63 < x ∧ x < 74 ∨ 76 < x ∧ x < 256 ∨ 320 ≤ x ∧ x < 352) → AT csH cs x o := fun x => g.at' x o h1.1 h1.2
  have v : ∀ y, y < s → VW c cs rs y = VW c csH rsH y := fun y hy => (g.vN y hy).trans (g.vH y hy).symm
  have v65 : ∀ y, y < s → kA cs 65 c y = kA csH 65 c y := fun y hy => congrArg (fun w => w.1.1) (v y hy)
  have v66 : ∀ y, y < s → kA cs 66 c y = kA csH 66 c y := fun y hy => congrArg (fun w => w.1.2.2.2.1) (v y hy)
  refine ⟨g.em _ h.e, by rw [(a 202 (by omega)).p]; exact h.p, by rw [(a 202 (by omega)).l]; exact h.l, ?_, h.ac.go (fun x x1 x2 => ⟨x1, AM.back (a 202 (by omega)) (a 203 (by omega)) x2⟩) (fun k _ => by rw [(g.at' 97 it h2.1 h2.2 (by omega)).a]) (fun y hy => congrArg (fun w => w.1.2.1) (v y hy)) (Nat.le_refl _)⟩
  obtain ⟨k, k1, k2, k3, k4, k5, k6⟩ := h.k
  refine ⟨k, k1, by rw [(a 203 (by omega)).i]; exact k2, by rw [g.ra 42 (by omega) (by omega)]; exact k3, by rw [g.ra 43 (by omega) (by omega)]; exact k4, fun hp => ?_, fun j hj => ?_⟩
  · obtain ⟨x, x1, x2, x3, x4⟩ := k5 hp
    exact ⟨x, x1, by rw [(a 202 (by omega)).a]; exact x2, by rw [g.ra 43 (by omega) (by omega), v66 x x1]; exact x3, by rw [g.ra 43 (by omega) (by omega)]; exact x4⟩
  · obtain ⟨x, x1, x2, x3⟩ := k6 j hj
    exact ⟨x, x1, by rw [(a 202 (by omega)).a]; exact x2, by rw [v65 x x1]; exact x3⟩
theorem QR.x {n : Nat} {f : Nat → Int32} {M c : Nat} {s S Q : Nat} {V : VT} {csH cs : CS} {rsH rs : RS} : ∀ (d Su Sl Ql lo hi oq q : Nat), KPX c s lo hi V csH rsH cs rs → QR XJ n f M c s S Q csH rsH d Su Sl Ql lo hi oq q → QXX V c s cs rs d Su Sl Ql lo hi oq q := by
  intro d
  induction d with
  | zero => exact fun _ _ _ _ _ _ _ _ h => h.elim
  | succ d ih =>
    intro Su Sl Ql lo hi oq q g h
    obtain ⟨w0, w⟩ : Su ≤ S ∧ QRY (QR XJ n f M c s S Q csH rsH d) XJ n f M c s Sl Su Ql Q lo hi oq q csH rsH := h
    obtain ⟨o1, o2⟩ := w.od
    obtain ⟨L, m, lb, ub, wb, l1, l2, l3, l4, l5, l6, l7, l8, l9, l10, l11, l12, l13, lw, l14, so0, l15, l16⟩ := w.ls
    have a : ∀ x, (x < 32 ∨ 63 < x ∧ x < 74 ∨ 76 < x ∧ x < 256 ∨ 320 ≤ x ∧ x < 352) → AT csH cs x oq := fun x => g.at' x oq o1 o2
    have aL : ∀ x, (x < 32 ∨ 63 < x ∧ x < 74 ∨ 76 < x ∧ x < 256 ∨ 320 ≤ x ∧ x < 352) → AT csH cs x L := fun x => g.at' x L (by omega) l3
    have sel : ∀ k, k < m → ∃ so e, kQ cs 1 L k = some so ∧ rs.2.2.1 61 (5 * q + k) = nI e ∧ wb k ≤ e ∧ e < wb (k + 1) ∧ SELX (QB (wb (k + 1)) (QXX V c s cs rs d)) XJ V c s (lb k) (ub k) (q + 1) so e cs rs ∧ (0 < k → SETR (kI cs 204 so) (rs.2.2.1 62 (5 * q + k))) ∧ kR cs 194 so = kR csH 194 so := fun k hk => by
      obtain ⟨so, e, s1, s2, s3, s4, ⟨it, gr, mi, ns, mg, o, ap, m1, n1, mgk⟩, s6⟩ := l14 k hk
      obtain ⟨p1, p2, p3, p4⟩ := l12 k hk
      obtain ⟨d1, d2, d3, d4⟩ := o.od
      have gk := g.sub (lo' := lb k) (hi' := ub k) (by omega) p2
      have aso : ∀ x, (x < 32 ∨ 63 < x ∧ x < 74 ∨ 76 < x ∧ x < 256 ∨ 320 ≤ x ∧ x < 352) → AT csH cs x so := fun x => gk.at' x so d1 (by omega)
      refine ⟨so, e, by rw [(aL 1 (by omega)).q]; exact s1, by rw [g.ra 61 (by omega) (by omega)]; exact s2, s3, s4, ⟨it, gr, mi, ns, mg, o.x gk (fun su sl lo' hi' oi qi w1 w2 w3 => ⟨w3.1, ih _ _ _ _ _ _ _ (gk.sub w1 w2) w3.2⟩), ?_, m1, n1, by rw [(aso 198 (by omega)).i]; exact mgk⟩, fun hp => by rw [(aso 204 (by omega)).i, g.ra 62 (by omega) (by omega)]; exact (s6 hp).1, (aso 194 (by omega)).r⟩
      rw [hvr_eq (aso 201 (by omega)).i]
      exact ap.x gk ⟨d1, by omega⟩ ⟨by omega, by omega⟩
    refine ⟨g.em _ w.e4, w.qb.2.2, ⟨L, m, lb, ub, wb, by rw [(a 128 (by omega)).r]; exact l1, g.em _ l4, g.em _ l5, by rw [(aL 1 (by omega)).p]; exact l6, by rw [(aL 1 (by omega)).l]; exact l7, by rw [(aL 2 (by omega)).i]; exact l8, by rw [g.ra 60 (by omega) (by omega)]; exact l9, l10, l11, lw, fun k hk => ?_, ?_⟩, ?_⟩
    · obtain ⟨so, e, z1, z2, z3, z4, z5, z6, -⟩ := sel k hk
      exact ⟨so, e, z1, z2, z3, z4, z5, z6⟩
    · obtain ⟨so, e, z1, z2, z3, z4, z5, z6, z7⟩ := sel 0 (by omega)
      have z1' := z1
      rw [(aL 1 (by omega)).q] at z1'
      have es : so0 = so := Option.some.inj (l15.symm.trans z1')
      exact ⟨so, z1, by rw [(a 129 (by omega)).r, z7, l16, es]⟩
    · rcases w.or' with ⟨h1, h2, -⟩ | ⟨oc, m', h1, h2, h3, h4, h5, h6, h7, h8, ⟨l, y1, y2, y3⟩, h10⟩
      · exact Or.inl ⟨by rw [(a 130 (by omega)).r]; exact h1, by rw [g.ra 65 (by omega) (by omega)]; exact h2⟩
      · have ac : ∀ x, (x < 32 ∨ 63 < x ∧ x < 74 ∨ 76 < x ∧ x < 256 ∨ 320 ≤ x ∧ x < 352) → AT csH cs x oc := fun x => g.at' x oc (by omega) h3
        refine Or.inr ⟨oc, m', by rw [(a 130 (by omega)).r]; exact h1, h4.keep g.em (fun x x1 x2 => ac x (by omega)), by rw [g.ra 64 (by omega) (by omega)]; exact h6, by rw [g.ra 65 (by omega) (by omega)]; exact h8, ⟨l, y1, by rw [(a 132 (by omega)).i]; exact y2, by rw [g.ra 68 (by omega) (by omega)]; exact y3⟩, fun k hk => ?_⟩
        obtain ⟨r, r1, r2, r3, r4, -⟩ := h10 k hk
        exact ⟨r, by rw [(ac 97 (by omega)).a]; exact r1, by rw [g.ra 66 (by omega) (by omega)]; exact r2, (r3.x g.vH).mf, by rw [(ac 99 (by omega)).a, g.ra 67 (by omega) (by omega)]; exact r4⟩

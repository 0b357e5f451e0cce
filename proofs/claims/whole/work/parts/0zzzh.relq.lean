/-! what was read: aggregates, QUERIES -/
/-- every noted aggregate lies in an item, or in the root β -/
def ACP (β : Option Nat) (c s o it mi : Nat) (cs : CS) : Prop := ∀ x, x < s → AM o cs x → ∃ r a, r < s ∧ kA cs 67 c r = nI a ∧ a ≤ x ∧ x ≤ r ∧ ((∃ k, k < mi ∧ kA cs 97 it k = nI r) ∨ β = some r)
theorem AM.back {o x : Nat} {cs cs' : CS} (g202 : AT cs cs' 202 o) (g203 : AT cs cs' 203 o) (h : AM o cs' x) : AM o cs x := by
  obtain ⟨j, k, m1, m2, m3, m4⟩ := h
  exact ⟨j, k, m1, by rw [← g203.i]; exact m2, m3, by rw [← g202.a]; exact m4⟩
theorem ACP.go {β : Option Nat} {c s s' o it mi : Nat} {cs cs' : CS} (h : ACP β c s o it mi cs) (lt : ∀ x, x < s' → AM o cs' x → x < s ∧ AM o cs x) (g97 : ∀ k, k < mi → kA cs' 97 it k = kA cs 97 it k) (g67 : ∀ x, x < s → kA cs' 67 c x = kA cs 67 c x) (hs : s ≤ s') : ACP β c s' o it mi cs' := fun x x1 x2 => by
  obtain ⟨y1, y2⟩ := lt x x1 x2
  obtain ⟨r, a, r1, r2, r3, r4, r5⟩ := h x y1 y2
  refine ⟨r, a, by omega, by rw [g67 r r1]; exact r2, r3, r4, ?_⟩
  rcases r5 with ⟨k, k1, k2⟩ | w
  · exact Or.inl ⟨k, k1, by rw [g97 k k1]; exact k2⟩
  · exact Or.inr w
theorem ACP.at' {β : Option Nat} {c s o it mi : Nat} {cs cs' : CS} (h : ACP β c s o it mi cs) (g202 : AT cs cs' 202 o) (g203 : AT cs cs' 203 o) (g97 : AT cs cs' 97 it) (g67 : AT cs cs' 67 c) : ACP β c s o it mi cs' := h.go (fun x x1 x2 => ⟨x1, AM.back g202 g203 x2⟩) (fun k _ => by rw [g97.a]) (fun x _ => by rw [g67.a]) (Nat.le_refl _)
/-- the root of having -/
def hvr (o : Nat) (cs : CS) : Option Nat := if kI cs 201 o < 0 then none else some (kI cs 201 o).toNatClampNeg
theorem hvr_eq {o : Nat} {cs cs' : CS} (h : kI cs' 201 o = kI cs 201 o) : hvr o cs' = hvr o cs := by
  unfold hvr
  rw [h]
/-- the SELECT's aggregates: their count, their places, each an EXPR -/
def AGP (β : Option Nat) (n : Nat) (f : Nat → Int32) (M c s o e it mi : Nat) (cs : CS) (rs : RS) : Prop := ((234, o) ∈ kE cs) ∧ (∃ j, kP cs 202 o = some j) ∧ (kL cs 202 o = 12) ∧ (∃ k, k ≤ 12 ∧ kI cs 203 o = nI k ∧ rs.2.2.1 42 e = nI k ∧ (k = 0 → rs.2.2.1 43 e = -1) ∧ (0 < k → ∃ x, x < s ∧ kA cs 202 o 0 = nI x ∧ rs.2.2.1 43 e = kA cs 66 c x ∧ rs.2.2.1 43 e ≠ -1) ∧ (∀ j, j < k → ∃ x, x < s ∧ kA cs 202 o j = nI x ∧ AGC (kA cs 65 c x))) ∧ (∀ x, x < s → AM o cs x → RT n f M c o true s x cs rs) ∧ (ACP β c s o it mi cs)
theorem AGP.e {β : Option Nat} {n : Nat} {f : Nat → Int32} {M c s o e it mi : Nat} {cs : CS} {rs : RS} (h : AGP β n f M c s o e it mi cs rs) : (234, o) ∈ kE cs := h.1
theorem AGP.p {β : Option Nat} {n : Nat} {f : Nat → Int32} {M c s o e it mi : Nat} {cs : CS} {rs : RS} (h : AGP β n f M c s o e it mi cs rs) : ∃ j, kP cs 202 o = some j := h.2.1
theorem AGP.l {β : Option Nat} {n : Nat} {f : Nat → Int32} {M c s o e it mi : Nat} {cs : CS} {rs : RS} (h : AGP β n f M c s o e it mi cs rs) : kL cs 202 o = 12 := h.2.2.1
theorem AGP.k {β : Option Nat} {n : Nat} {f : Nat → Int32} {M c s o e it mi : Nat} {cs : CS} {rs : RS} (h : AGP β n f M c s o e it mi cs rs) : ∃ k, k ≤ 12 ∧ kI cs 203 o = nI k ∧ rs.2.2.1 42 e = nI k ∧ (k = 0 → rs.2.2.1 43 e = -1) ∧ (0 < k → ∃ x, x < s ∧ kA cs 202 o 0 = nI x ∧ rs.2.2.1 43 e = kA cs 66 c x ∧ rs.2.2.1 43 e ≠ -1) ∧ (∀ j, j < k → ∃ x, x < s ∧ kA cs 202 o j = nI x ∧ AGC (kA cs 65 c x)) := h.2.2.2.1
theorem AGP.al {β : Option Nat} {n : Nat} {f : Nat → Int32} {M c s o e it mi : Nat} {cs : CS} {rs : RS} (h : AGP β n f M c s o e it mi cs rs) : ∀ x, x < s → AM o cs x → RT n f M c o true s x cs rs := h.2.2.2.2.1
theorem AGP.ac {β : Option Nat} {n : Nat} {f : Nat → Int32} {M c s o e it mi : Nat} {cs : CS} {rs : RS} (h : AGP β n f M c s o e it mi cs rs) : ACP β c s o it mi cs := h.2.2.2.2.2
theorem AGP.agr {n : Nat} {f : Nat → Int32} {M c : Nat} {β : Option Nat} {t s o e it mi : Nat} {cs : CS} {rs : RS} (h : AGP β n f M c s o e it mi cs rs) (h1 : kR cs 330 t = some o) (h2 : (6, o) ∈ kE cs) (h3 : rs.1 71 = nI e) (h4 : e < 60) : AGR t o e c s cs rs := ⟨h1, h2, h.e, h.p, h.l, h3, h4, h.k⟩
/-- an entry of the list is a node below s -/
theorem AGP.lt {n : Nat} {f : Nat → Int32} {M c : Nat} {β : Option Nat} {s o e it mi x : Nat} {cs : CS} {rs : RS} (h : AGP β n f M c s o e it mi cs rs) (hs : s ≤ 120) (hx : x < 2147483648) (g : AM o cs x) : x < s := by
  obtain ⟨k, k1, k2, k3, k4, k5, k6⟩ := h.k
  obtain ⟨j, k', m1, m2, m3, m4⟩ := g
  have e1 : k' = k := (nI_eq (by omega) (by omega)).mp (m2.symm.trans k2)
  obtain ⟨y, y1, y2, y3⟩ := k6 j (by omega)
  have e2 : x = y := (nI_eq (by omega) (by omega)).mp (m4.symm.trans y2)
  omega
theorem AGP.hv' {n : Nat} {f : Nat → Int32} {M c : Nat} {s o e it mi : Nat} {cs cs' : CS} {rs' : RS} (h : AGP (hvr o cs) n f M c s o e it mi cs' rs') (w : kI cs' 201 o = kI cs 201 o) : AGP (hvr o cs') n f M c s o e it mi cs' rs' := by
  rw [hvr_eq w]
  exact h
theorem AGP.keep {n : Nat} {f : Nat → Int32} {M c : Nat} {β : Option Nat} {lo hi s s' o e it mi : Nat} {cs cs' : CS} {rs rs' : RS} (h : AGP β n f M c s o e it mi cs rs) (z : FY c lo hi s cs rs cs' rs') (h1 : lo ≤ o) (h2 : o < hi) (i1 : lo ≤ it ∧ it < hi) (hs : s ≤ s') (hs' : s' ≤ 120) (r : ∀ k, k = 42 ∨ k = 43 → rs'.2.2.1 k e = rs.2.2.1 k e) : AGP β n f M c s' o e it mi cs' rs' := by
  have g202 := z.a1 202 o h1 h2 (by unfold relQ; omega)
  have g203 := z.a1 203 o h1 h2 (by unfold relQ; omega)
  have v65 : ∀ x, x < s → kA cs' 65 c x = kA cs 65 c x := fun x hx => congrArg (fun v => v.1.1) (z.kp x hx)
  have v66 : ∀ x, x < s → kA cs' 66 c x = kA cs 66 c x := fun x hx => congrArg (fun v => v.1.2.2.2.1) (z.kp x hx)
  have back : ∀ x, AM o cs' x → AM o cs x := fun x hx => by
    obtain ⟨j, k, m1, m2, m3, m4⟩ := hx
    exact ⟨j, k, m1, by rw [← g203.i]; exact m2, m3, by rw [← g202.a]; exact m4⟩
  refine ⟨z.em _ h.e, by rw [g202.p]; exact h.p, by rw [g202.l]; exact h.l, ?_, fun x x1 x2 => ?_, h.ac.go (fun x x1 x2 => ⟨h.lt (by omega) (by omega) (back x x2), back x x2⟩) (fun k _ => by rw [(z.a1 97 it i1.1 i1.2 (by unfold relQ; omega)).a]) (fun x hx => congrArg (fun v => v.1.2.1) (z.kp x hx)) hs⟩
  · obtain ⟨k, k1, k2, k3, k4, k5, k6⟩ := h.k
    refine ⟨k, k1, by rw [g203.i]; exact k2, by rw [r 42 (Or.inl rfl)]; exact k3, by rw [r 43 (Or.inr rfl)]; exact k4, fun y => ?_, fun j hj => ?_⟩
    · obtain ⟨x, x1, x2, x3, x4⟩ := k5 y
      exact ⟨x, by omega, by rw [g202.a]; exact x2, by rw [r 43 (Or.inr rfl), v66 x x1]; exact x3, by rw [r 43 (Or.inr rfl)]; exact x4⟩
    · obtain ⟨x, x1, x2, x3⟩ := k6 j hj
      exact ⟨x, by omega, by rw [g202.a]; exact x2, by rw [v65 x x1]; exact x3⟩
  · have x3 := back x x2
    exact (h.al x (h.lt (by omega) (by omega) x3) x3).keep hs z.kp z.tk (fun y hy => z.am h1 h2 hy)
/-- behind an EXPR in which aggregates may stand -/
theorem TR.vf0 {V : VT} {d R a e : Nat} (h : TR V d R a e) : vf V e = nI a := by
  cases d with
  | zero => exact h.elim
  | succ d => exact h.2.1
theorem AGP.ex {n : Nat} {f : Nat → Int32} {M c : Nat} {t cap i z s i' s' o e it mi : Nat} {cs cs' : CS} {rs rs' : RS} (h : AGP none n f M c s o e it mi cs rs) (hc : kI cs 64 c = nI s) (hx : t < o ∧ c < o ∧ o < it) (g : EG n f M t c cap o e true i z s cs rs i' s' cs' rs') : AGP (some (s' - 1)) n f M c s' o e it mi cs' rs' := by
  have a := g.g.ag rfl
  have sl := g.sl
  have s2 := g.g.s2
  have zs : SZ c cs = s := SZ.is hc (by omega)
  obtain ⟨x8, x9, x7⟩ := hx
  have ac : ACP (some (s' - 1)) c s' o it mi cs' := fun x x1 x2 => by
    rcases g.ax.2 x x2 with y | y
    · obtain ⟨r, b, r1, r2, r3, r4, r5⟩ := h.ac x (h.lt (by omega) (by omega) y) y
      have v67 : kA cs' 67 c r = kA cs 67 c r := congrArg (fun v => v.1.2.1) (g.kp r r1)
      have a97 : AT cs cs' 97 it := AT.fo g.fo (by unfold PX; omega)
      refine ⟨r, b, by omega, by rw [v67]; exact r2, r3, r4, ?_⟩
      rcases r5 with ⟨k, k1, k2⟩ | w
      · exact Or.inl ⟨k, k1, by rw [a97.a]; exact k2⟩
      · cases w
    · exact ⟨s' - 1, s, by omega, TR.vf0 (g.tr 0), by omega, by omega, Or.inr rfl⟩
  refine ⟨a.e, a.p, a.l, a.k, fun x x1 x2 => ?_, ac⟩
  rcases g.ax.2 x x2 with y | y
  · exact (h.al x (h.lt (by omega) (by omega) y) y).keep (by omega) g.kp (TKF.fo g.fo g.fr) g.am
  · have hk : AGC (kA cs' 65 c x) := by
      obtain ⟨k, k1, k2, k3, k4, k5, k6⟩ := a.k
      obtain ⟨j, k', m1, m2, m3, m4⟩ := x2
      have e1 : k' = k := (nI_eq (by omega) (by omega)).mp (m2.symm.trans k2)
      obtain ⟨w, w1, w2, w3⟩ := k6 j (by omega)
      have e2 : x = w := (nI_eq (by omega) (by omega)).mp (m4.symm.trans w2)
      rw [e2]
      exact w3
    refine RT.agg (a := s) (r := s' - 1) (fun R => ?_) ?_ (by omega) s2 hk (by omega) (by omega)
    · rw [show s' - 1 + 1 - s = s' - s by omega]
      exact g.tr R
    · rw [show s' - 1 + 1 = s' by omega]
      exact g.ke
/-- a whole SELECT -/
def SEL (P : Nat → Nat → Nat → Nat → Nat → Nat → Nat → Prop) (X : Nat → CS → Prop) (n : Nat) (f : Nat → Int32) (M c s lo hi ql o e : Nat) (cs : CS) (rs : RS) : Prop := ∃ it gr mi ns mg, OSA P X n f M c s lo hi ql o e it gr mi ns ns mg cs rs ∧ AGP (hvr o cs) n f M c s o e it mi cs rs ∧ 1 ≤ mi ∧ 1 ≤ ns ∧ (kI cs 198 o ≠ 0 → 1 ≤ mg)
theorem SEL.keep {P P' : Nat → Nat → Nat → Nat → Nat → Nat → Nat → Prop} {X X' : Nat → CS → Prop} {n : Nat} {f : Nat → Int32} {M c : Nat} {lo hi ql o e Sl S Ql Q s s' : Nat} {cs cs' : CS} {rs rs' : RS} (h : SEL P X n f M c s lo hi ql o e cs rs) (z : FZ c lo hi Sl S Ql Q s cs rs cs' rs') (hs : s ≤ s') (hs' : s' ≤ 120) (he : Sl ≤ e ∧ e < S) (hP : ∀ su sl l h' a b, e < sl → lo ≤ l → h' ≤ hi → P su sl ql l h' a b → P' su sl ql l h' a b) (hX : ∀ x, lo ≤ x → x < hi → X x cs → X' x cs') : SEL P' X' n f M c s' lo hi ql o e cs' rs' := by
  obtain ⟨it, gr, mi, ns, mg, h1, h2, h3, h4, h5⟩ := h
  obtain ⟨d1, d2, d3, d4⟩ := h1.od
  refine ⟨it, gr, mi, ns, mg, h1.keep (fun x hx _ _ => z.y.a1 x o d1 (by omega) hx) (z.sub (by omega) (Nat.le_refl _) (Nat.le_refl _) (Nat.le_refl _)) (fun x hx => z.y.am d1 (by omega) hx) hs he (fun su sl l h' a b q0 q1 q2 q3 => hP su sl l h' a b q0 (by omega) q2 q3) (fun x q1 q2 q3 => hX x (by omega) q2 q3), (h2.keep z.y d1 (by omega) ⟨by omega, by omega⟩ hs hs' (fun k hk => z.rq k e (by omega) (by omega) (by omega) (by unfold wd; rw [if_pos (by omega)]; exact he.1) (by unfold wd; rw [if_pos (by omega)]; exact he.2))).hv' (z.y.a1 201 o d1 (by omega) (by unfold relQ; omega)).i, h3, h4, ?_⟩
  rw [(z.y.a1 198 o d1 (by omega) (by unfold relQ; omega)).i]
  exact h5
/-- at most B SELECTS -/
def QB (B : Nat) (P : Nat → Nat → Nat → Nat → Nat → Nat → Nat → Prop) : Nat → Nat → Nat → Nat → Nat → Nat → Nat → Prop := fun su sl ql l h o q => su ≤ B ∧ P su sl ql l h o q
def SETR (a b : Int32) : Prop := (a = 10 ∧ b = 2) ∨ (a = 11 ∧ b = 1) ∨ (a = 12 ∧ b = 3) ∨ (a = 13 ∧ b = 4)
/-- a QUERY: the object oq, the number q -/
def QRY (P : Nat → Nat → Nat → Nat → Nat → Nat → Nat → Prop) (X : Nat → CS → Prop) (n : Nat) (f : Nat → Int32) (M c s Sl Sb Ql Qb lo hi oq q : Nat) (cs : CS) (rs : RS) : Prop := ((4, oq) ∈ kE cs) ∧ (lo ≤ oq ∧ oq < hi) ∧ (Ql ≤ q ∧ q < Qb ∧ q < 60) ∧ (∃ (L m : Nat) (lb ub wb : Nat → Nat), kR cs 128 oq = some L ∧ oq < L ∧ L < hi ∧ (0, L) ∈ kE cs ∧ (33, L) ∈ kE cs ∧ (∃ j, kP cs 1 L = some j) ∧ kL cs 1 L = 10 ∧ kI cs 2 L = nI m ∧ rs.2.2.1 60 q = nI m ∧ 1 ≤ m ∧ m ≤ 3 ∧ (∀ k, k < m → oq < lb k ∧ ub k ≤ hi ∧ (ub k ≤ L ∨ L < lb k) ∧ (∀ oc, kR cs 130 oq = some oc → ub k ≤ oc)) ∧ (∀ k, k + 1 < m → ub k ≤ lb (k + 1)) ∧ (Sl ≤ wb 0 ∧ (∀ k, k < m → wb k ≤ wb (k + 1)) ∧ wb m ≤ Sb) ∧ (∀ k, k < m → ∃ so e, kQ cs 1 L k = some so ∧ rs.2.2.1 61 (5 * q + k) = nI e ∧ wb k ≤ e ∧ e < wb (k + 1) ∧ SEL (QB (wb (k + 1)) P) X n f M c s (lb k) (ub k) (q + 1) so e cs rs ∧ (0 < k → SETR (kI cs 204 so) (rs.2.2.1 62 (5 * q + k)) ∧ kI cs 205 so = rs.2.2.1 63 (5 * q + k))) ∧ (∃ so, kQ cs 1 L 0 = some so ∧ kR cs 129 oq = kR cs 194 so)) ∧ ((kR cs 130 oq = none ∧ rs.2.2.1 65 q = -1 ∧ rs.2.2.1 64 q = 0 ∧ rs.2.2.1 68 q = -1) ∨ (∃ oc m, kR cs 130 oq = some oc ∧ oq < oc ∧ oc < hi ∧ CLM oc m cs ∧ 1 ≤ m ∧ rs.2.2.1 64 q = nI m ∧ kI cs 131 oq = rs.2.2.1 65 q ∧ rs.2.2.1 65 q ≠ -1 ∧ (∃ l, l ≤ 100 ∧ kI cs 132 oq = nI l ∧ rs.2.2.1 68 q = nI l) ∧ ∀ k, k < m → ∃ r, kA cs 97 oc k = nI r ∧ rs.2.2.1 66 (8 * q + k) = nI r ∧ RT n f M c 0 false s r cs rs ∧ kA cs 99 oc k = rs.2.2.1 67 (8 * q + k) ∧ (kA cs 99 oc k = 0 ∨ kA cs 99 oc k = 1)))
theorem QRY.e4 {P : Nat → Nat → Nat → Nat → Nat → Nat → Nat → Prop} {X : Nat → CS → Prop} {n : Nat} {f : Nat → Int32} {M c s Sl Sb Ql Qb lo hi oq q : Nat} {cs : CS} {rs : RS} (h : QRY P X n f M c s Sl Sb Ql Qb lo hi oq q cs rs) : (4, oq) ∈ kE cs := h.1
theorem QRY.od {P : Nat → Nat → Nat → Nat → Nat → Nat → Nat → Prop} {X : Nat → CS → Prop} {n : Nat} {f : Nat → Int32} {M c s Sl Sb Ql Qb lo hi oq q : Nat} {cs : CS} {rs : RS} (h : QRY P X n f M c s Sl Sb Ql Qb lo hi oq q cs rs) : lo ≤ oq ∧ oq < hi := h.2.1
theorem QRY.qb {P : Nat → Nat → Nat → Nat → Nat → Nat → Nat → Prop} {X : Nat → CS → Prop} {n : Nat} {f : Nat → Int32} {M c s Sl Sb Ql Qb lo hi oq q : Nat} {cs : CS} {rs : RS} (h : QRY P X n f M c s Sl Sb Ql Qb lo hi oq q cs rs) : Ql ≤ q ∧ q < Qb ∧ q < 60 := h.2.2.1
theorem QRY.ls {P : Nat → Nat → Nat → Nat → Nat → Nat → Nat → Prop} {X : Nat → CS → Prop} {n : Nat} {f : Nat → Int32} {M c s Sl Sb Ql Qb lo hi oq q : Nat} {cs : CS} {rs : RS} (h : QRY P X n f M c s Sl Sb Ql Qb lo hi oq q cs rs) : ∃ (L m : Nat) (lb ub wb : Nat → Nat), kR cs 128 oq = some L ∧ oq < L ∧ L < hi ∧ (0, L) ∈ kE cs ∧ (33, L) ∈ kE cs ∧ (∃ j, kP cs 1 L = some j) ∧ kL cs 1 L = 10 ∧ kI cs 2 L = nI m ∧ rs.2.2.1 60 q = nI m ∧ 1 ≤ m ∧ m ≤ 3 ∧ (∀ k, k < m → oq < lb k ∧ ub k ≤ hi ∧ (ub k ≤ L ∨ L < lb k) ∧ (∀ oc, kR cs 130 oq = some oc → ub k ≤ oc)) ∧ (∀ k, k + 1 < m → ub k ≤ lb (k + 1)) ∧ (Sl ≤ wb 0 ∧ (∀ k, k < m → wb k ≤ wb (k + 1)) ∧ wb m ≤ Sb) ∧ (∀ k, k < m → ∃ so e, kQ cs 1 L k = some so ∧ rs.2.2.1 61 (5 * q + k) = nI e ∧ wb k ≤ e ∧ e < wb (k + 1) ∧ SEL (QB (wb (k + 1)) P) X n f M c s (lb k) (ub k) (q + 1) so e cs rs ∧ (0 < k → SETR (kI cs 204 so) (rs.2.2.1 62 (5 * q + k)) ∧ kI cs 205 so = rs.2.2.1 63 (5 * q + k))) ∧ (∃ so, kQ cs 1 L 0 = some so ∧ kR cs 129 oq = kR cs 194 so) := h.2.2.2.1
theorem QRY.or' {P : Nat → Nat → Nat → Nat → Nat → Nat → Nat → Prop} {X : Nat → CS → Prop} {n : Nat} {f : Nat → Int32} {M c s Sl Sb Ql Qb lo hi oq q : Nat} {cs : CS} {rs : RS} (h : QRY P X n f M c s Sl Sb Ql Qb lo hi oq q cs rs) : (kR cs 130 oq = none ∧ rs.2.2.1 65 q = -1 ∧ rs.2.2.1 64 q = 0 ∧ rs.2.2.1 68 q = -1) ∨ (∃ oc m, kR cs 130 oq = some oc ∧ oq < oc ∧ oc < hi ∧ CLM oc m cs ∧ 1 ≤ m ∧ rs.2.2.1 64 q = nI m ∧ kI cs 131 oq = rs.2.2.1 65 q ∧ rs.2.2.1 65 q ≠ -1 ∧ (∃ l, l ≤ 100 ∧ kI cs 132 oq = nI l ∧ rs.2.2.1 68 q = nI l) ∧ ∀ k, k < m → ∃ r, kA cs 97 oc k = nI r ∧ rs.2.2.1 66 (8 * q + k) = nI r ∧ RT n f M c 0 false s r cs rs ∧ kA cs 99 oc k = rs.2.2.1 67 (8 * q + k) ∧ (kA cs 99 oc k = 0 ∨ kA cs 99 oc k = 1)) := h.2.2.2.2
theorem QRY.keep {P P' : Nat → Nat → Nat → Nat → Nat → Nat → Nat → Prop} {X X' : Nat → CS → Prop} {n : Nat} {f : Nat → Int32} {M c : Nat} {lo hi oq q Sl S Ql Q Sb Qb s s' : Nat} {cs cs' : CS} {rs rs' : RS} (h : QRY P X n f M c s Sl Sb Ql Qb lo hi oq q cs rs) (z : FZ c lo hi Sl S Ql Q s cs rs cs' rs') (hs : s ≤ s') (hs' : s' ≤ 120) (hS : Sb ≤ S) (hQ : Qb ≤ Q) {Sb' Qb' : Nat} (hS' : Sb ≤ Sb') (hQ' : Qb ≤ Qb') (hP : ∀ su sl l h' a b, Sl ≤ sl → lo ≤ l → h' ≤ hi → P su sl (q + 1) l h' a b → P' su sl (q + 1) l h' a b) (hX : ∀ x, lo ≤ x → x < hi → X x cs → X' x cs') : QRY P' X' n f M c s' Sl Sb' Ql Qb' lo hi oq q cs' rs' := by
  obtain ⟨d1, d2⟩ := h.od
  obtain ⟨q0, q1, q2⟩ := h.qb
  have g : ∀ x, relQ x → AT cs cs' x oq := fun x hx => z.y.a1 x oq d1 d2 hx
  have r : ∀ k, 59 ≤ k → k ≤ 68 → ¬ (61 ≤ k ∧ k ≤ 63) → ¬ (66 ≤ k ∧ k ≤ 67) → rs'.2.2.1 k q = rs.2.2.1 k q := fun k k1 k2 k3 k4 => z.rq k q (by omega) (by omega) (by omega) (by unfold wd; rw [if_neg (by omega), if_neg (by omega), if_neg (by omega), if_neg k3, if_neg k4]; omega) (by unfold wd; rw [if_neg (by omega), if_neg (by omega), if_neg (by omega), if_neg k3, if_neg k4]; omega)
  have r5 : ∀ k j, 61 ≤ k → k ≤ 63 → j < 5 → rs'.2.2.1 k (5 * q + j) = rs.2.2.1 k (5 * q + j) := fun k j k1 k2 hj => z.rq k _ (by omega) (by omega) (by omega) (by unfold wd; rw [if_neg (by omega), if_neg (by omega), if_neg (by omega), if_pos ⟨k1, k2⟩]; omega) (by unfold wd; rw [if_neg (by omega), if_neg (by omega), if_neg (by omega), if_pos ⟨k1, k2⟩]; omega)
  have r8 : ∀ k j, 66 ≤ k → k ≤ 67 → j < 8 → rs'.2.2.1 k (8 * q + j) = rs.2.2.1 k (8 * q + j) := fun k j k1 k2 hj => z.rq k _ (by omega) (by omega) (by omega) (by unfold wd; rw [if_neg (by omega), if_neg (by omega), if_neg (by omega), if_neg (by omega), if_pos ⟨k1, k2⟩]; omega) (by unfold wd; rw [if_neg (by omega), if_neg (by omega), if_neg (by omega), if_neg (by omega), if_pos ⟨k1, k2⟩]; omega)
  refine ⟨z.y.em _ h.e4, h.od, ⟨q0, by omega, q2⟩, ?_, ?_⟩
  · obtain ⟨L, m, lb, ub, wb, l1, l2, l3, l4, l5, l6, l7, l8, l9, l10, l11, l12, l13, lw, l14, l15⟩ := h.ls
    obtain ⟨lw1, lw2, lw3⟩ := lw
    have wlo : ∀ k, k < m → Sl ≤ wb k ∧ wb (k + 1) ≤ Sb := fun k hk => by
      have m0 := mono_b lw2 k 0 (by omega)
      rw [Nat.zero_add] at m0
      have m1 := mono_b lw2 (m - (k + 1)) (k + 1) (by omega)
      rw [show k + 1 + (m - (k + 1)) = m by omega] at m1
      omega
    have gL : ∀ x, x ≤ 2 → AT cs cs' x L := fun x hx => z.y.a1 x L (by omega) l3 (by unfold relQ; omega)
    refine ⟨L, m, lb, ub, wb, by rw [(g 128 (by unfold relQ; omega)).r]; exact l1, l2, l3, z.y.em _ l4, z.y.em _ l5, by rw [(gL 1 (by decide)).p]; exact l6, by rw [(gL 1 (by decide)).l]; exact l7, by rw [(gL 2 (by decide)).i]; exact l8, by rw [r 60 (by decide) (by decide) (by decide) (by decide)]; exact l9, l10, l11, fun k hk => ⟨(l12 k hk).1, (l12 k hk).2.1, (l12 k hk).2.2.1, fun oc ho => (l12 k hk).2.2.2 oc (by rw [← (g 130 (by unfold relQ; omega)).r]; exact ho)⟩, l13, ⟨lw1, lw2, by omega⟩, fun k hk => ?_, ?_⟩
    · obtain ⟨so, e, k1, k2, k0, k3, k4, k5⟩ := l14 k hk
      obtain ⟨c1, c2, c3⟩ := l12 k hk
      have ko : lb k ≤ so ∧ so < ub k := by
        obtain ⟨it, gr, mi, ns, mg, s1, -⟩ := k4
        have := s1.od
        omega
      refine ⟨so, e, by rw [(gL 1 (by decide)).q]; exact k1, by rw [r5 61 k (by decide) (by decide) (by omega)]; exact k2, k0, k3, k4.keep (z.sub (by omega) (by omega) (Nat.le_refl _) (Nat.le_refl _)) hs hs' ⟨by have := (wlo k hk).1; omega, by have := (wlo k hk).2; omega⟩ (fun su sl l h' a b q0 q1 q2 q3 => ⟨q3.1, hP su sl l h' a b (by have := (wlo k hk).1; omega) (by omega) (by omega) q3.2⟩) (fun x q1 q2 q3 => hX x (by omega) (by omega) q3), fun hk0 => ?_⟩
      rw [(z.y.a1 204 so (by omega) (by omega) (by unfold relQ; omega)).i, (z.y.a1 205 so (by omega) (by omega) (by unfold relQ; omega)).i, r5 62 k (by decide) (by decide) (by omega), r5 63 k (by decide) (by decide) (by omega)]
      exact k5 hk0
    · obtain ⟨so, s1, s2⟩ := l15
      obtain ⟨so', e, k1, k2, k0, k3, k4, k5⟩ := l14 0 (by omega)
      obtain ⟨c1, c2, c3⟩ := l12 0 (by omega)
      have ee : so' = so := by
        have := k1.symm.trans s1
        exact Option.some.inj this
      subst ee
      have ko : lb 0 ≤ so' ∧ so' < ub 0 := by
        obtain ⟨it, gr, mi, ns, mg, s1, -⟩ := k4
        have := s1.od
        omega
      exact ⟨so', by rw [(gL 1 (by decide)).q]; exact s1, by rw [(g 129 (by unfold relQ; omega)).r, (z.y.a1 194 so' (by omega) (by omega) (by unfold relQ; omega)).r]; exact s2⟩
  · rw [(g 130 (by unfold relQ; omega)).r, (g 131 (by unfold relQ; omega)).i, (g 132 (by unfold relQ; omega)).i, r 65 (by decide) (by decide) (by decide) (by decide), r 64 (by decide) (by decide) (by decide) (by decide), r 68 (by decide) (by decide) (by decide) (by decide)]
    rcases h.or' with y | ⟨oc, m, y1, y2, y3, y4, y5, y6, y7, y8, y9, y10⟩
    · exact Or.inl y
    · have gc : ∀ x, 96 ≤ x → x ≤ 99 → AT cs cs' x oc := fun x x1 x2 => z.y.a1 x oc (by omega) y3 (by unfold relQ; omega)
      refine Or.inr ⟨oc, m, y1, y2, y3, y4.kept z.y.em gc (z.y.ap oc (by omega) y3), y5, y6, y7, y8, y9, fun k hk => ?_⟩
      have m8 := y4.m8
      obtain ⟨r0, k1, k2, k3, k4, k5⟩ := y10 k hk
      exact ⟨r0, by rw [(gc 97 (by decide) (by decide)).a]; exact k1, by rw [r8 66 k (by decide) (by decide) (by omega)]; exact k2, k3.kf hs z.y.kp z.y.tk, by rw [(gc 99 (by decide) (by decide)).a, r8 67 k (by decide) (by decide) (by omega)]; exact k4, by rw [(gc 99 (by decide) (by decide)).a]; exact k5⟩
/-- a QUERY with at most d QUERIES one within another -/
def QR (X : Nat → CS → Prop) (n : Nat) (f : Nat → Int32) (M c s Sb Qb : Nat) (cs : CS) (rs : RS) : Nat → Nat → Nat → Nat → Nat → Nat → Nat → Nat → Prop
  | 0, _, _, _, _, _, _, _ => False
  | d + 1, Su, Sl, Ql, lo, hi, oq, q => Su ≤ Sb ∧ QRY (QR X n f M c s Sb Qb cs rs d) X n f M c s Sl Su Ql Qb lo hi oq q cs rs
theorem QR.keep {X X' : Nat → CS → Prop} {n : Nat} {f : Nat → Int32} {M c : Nat} {S Q Sb Qb Sb' Qb' s s' : Nat} {cs cs' : CS} {rs rs' : RS} (hs : s ≤ s') (hs' : s' ≤ 120) (hS : Sb ≤ S) (hQ : Qb ≤ Q) (hS' : Sb ≤ Sb') (hQ' : Qb ≤ Qb') : ∀ (d Su Sl Ql lo hi oq q : Nat), QR X n f M c s Sb Qb cs rs d Su Sl Ql lo hi oq q → FZ c lo hi Sl S Ql Q s cs rs cs' rs' → (∀ x, lo ≤ x → x < hi → X x cs → X' x cs') → QR X' n f M c s' Sb' Qb' cs' rs' d Su Sl Ql lo hi oq q
  | 0, _, _, _, _, _, _, _, h, _, _ => h.elim
  | d + 1, Su, Sl, Ql, lo, hi, oq, q, ⟨h0, h⟩, z, hX => ⟨by omega, QRY.keep h z hs hs' (by omega) hQ (Nat.le_refl _) hQ' (fun su sl l h' a b q0 q1 q2 q3 => QR.keep hs hs' hS hQ hS' hQ' d su sl (q + 1) l h' a b q3 (z.sub q1 q2 q0 (by have := h.qb.1; omega)) (fun x x1 x2 x3 => hX x (by omega) (by omega) x3)) hX⟩
theorem FY.refl {c lo hi s : Nat} {cs : CS} {rs : RS} : FY c lo hi s cs rs cs rs := ⟨EM.refl, fun _ _ _ _ _ => AT.refl, fun _ _ _ => AT.refl.ap, fun _ _ => rfl, TKF.refl⟩
theorem FZ.refl {c lo hi Sl S Ql Q s : Nat} {cs : CS} {rs : RS} : FZ c lo hi Sl S Ql Q s cs rs cs rs := ⟨FY.refl, fun _ _ _ _ _ _ _ => rfl, fun _ _ _ => rfl⟩
theorem QR.up {X : Nat → CS → Prop} {n : Nat} {f : Nat → Int32} {M c : Nat} {Sb Qb s : Nat} {cs : CS} {rs : RS} (hs : s ≤ 120) : ∀ (d Su Sl Ql lo hi oq q : Nat), QR X n f M c s Sb Qb cs rs d Su Sl Ql lo hi oq q → QR X n f M c s Sb Qb cs rs (d + 1) Su Sl Ql lo hi oq q
  | 0, _, _, _, _, _, _, _, h => h.elim
  | d + 1, Su, Sl, Ql, lo, hi, oq, q, ⟨h0, h⟩ => ⟨h0, QRY.keep h (FZ.refl (S := Sb) (Q := Qb)) (Nat.le_refl _) hs h0 (Nat.le_refl _) (Nat.le_refl _) (Nat.le_refl _) (fun su sl l h' a b q0 q1 q2 q3 => QR.up hs d su sl (q + 1) l h' a b q3) (fun _ _ _ hx => hx)⟩
theorem QR.le {X : Nat → CS → Prop} {n : Nat} {f : Nat → Int32} {M c : Nat} {Sb Qb s d d' Su Sl Ql lo hi oq q : Nat} {cs : CS} {rs : RS} (hs : s ≤ 120) (h : QR X n f M c s Sb Qb cs rs d Su Sl Ql lo hi oq q) (hd : d ≤ d') : QR X n f M c s Sb Qb cs rs d' Su Sl Ql lo hi oq q := by
  induction d' with
  | zero => have : d = 0 := by omega
            subst this; exact h
  | succ k ih =>
    by_cases w : d ≤ k
    · exact QR.up hs k _ _ _ _ _ _ _ (ih w)
    · have : d = k + 1 := by omega
      subst this; exact h

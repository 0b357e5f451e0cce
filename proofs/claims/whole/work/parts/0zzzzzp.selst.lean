/-! a SELECT behind its SOURCES: what stands, and where and having -/
def OPX (n : Nat) (f : Nat → Int32) (M s : Nat) (V : VT) (x y : Int32) (cs : CS) (rs : RS) : Prop := (x = -1 ∧ y = -1) ∨ ∃ r a, x = nI r ∧ y = nI r ∧ EXR n f M s V a r cs rs
theorem OPX.f' {n : Nat} {f : Nat → Int32} {M s : Nat} {V : VT} {x y : Int32} {cs cs' : CS} {rs rs' : RS} (h : OPX n f M s V x y cs rs) (tk : TKF cs rs cs' rs') : OPX n f M s V x y cs' rs' := by
  rcases h with y | ⟨r, a, h1, h2, h3⟩
  · exact Or.inl y
  · exact Or.inr ⟨r, a, h1, h2, h3.f' tk⟩
/-- what a SELECT is, while it is checked -/
def SLT (n : Nat) (f : Nat → Int32) (M c s : Nat) (V : VT) (so e it gr mi ns mg na : Nat) (cs : CS) (rs : RS) : Prop := ((6, so) ∈ kE cs) ∧ (e < 60) ∧ (kR cs 194 so = some it) ∧ (kR cs 200 so = some gr) ∧ (it < gr) ∧ (kI cs 196 so = nI ns) ∧ (ns ≤ 3) ∧ ((227, so) ∈ kE cs) ∧ (∃ j, kP cs 195 so = some j) ∧ (kL cs 195 so = 3) ∧ (OPX n f M s V (kI cs 197 so) (rs.2.2.1 38 e) cs rs) ∧ (OPX n f M s V (kI cs 201 so) (rs.2.2.1 41 e) cs rs) ∧ ((kI cs 198 so = 0 ∧ rs.2.2.1 40 e = -1 ∧ mg = 0) ∨ (kI cs 198 so = 1 ∧ rs.2.2.1 40 e = kI cs 199 so ∧ rs.2.2.1 40 e ≠ -1)) ∧ ((kI cs 192 so = 0 ∧ rs.2.2.1 35 e = -1) ∨ (kI cs 192 so = 1 ∧ rs.2.2.1 35 e = kI cs 193 so ∧ rs.2.2.1 35 e ≠ -1)) ∧ (rs.2.2.1 37 e = nI ns) ∧ (rs.2.2.1 36 e = nI mi) ∧ (rs.2.2.1 39 e = nI mg) ∧ (CRT n f M s V 0 it mi 44 (8 * e) cs rs) ∧ (CRT n f M s V 0 gr mg 47 (8 * e) cs rs) ∧ (GNM n f M gr mg e cs rs) ∧ (AGL c s so na cs) ∧ (rs.2.2.1 42 e = nI na ∧ (0 < na → ∃ x, x < s ∧ kA cs 202 so 0 = nI x ∧ rs.2.2.1 43 e = kA cs 66 c x))
theorem SLT.e6 {n : Nat} {f : Nat → Int32} {M c s : Nat} {V : VT} {so e it gr mi ns mg na : Nat} {cs : CS} {rs : RS} (h : SLT n f M c s V so e it gr mi ns mg na cs rs) : (6, so) ∈ kE cs := h.1
theorem SLT.e60 {n : Nat} {f : Nat → Int32} {M c s : Nat} {V : VT} {so e it gr mi ns mg na : Nat} {cs : CS} {rs : RS} (h : SLT n f M c s V so e it gr mi ns mg na cs rs) : e < 60 := h.2.1
theorem SLT.r194 {n : Nat} {f : Nat → Int32} {M c s : Nat} {V : VT} {so e it gr mi ns mg na : Nat} {cs : CS} {rs : RS} (h : SLT n f M c s V so e it gr mi ns mg na cs rs) : kR cs 194 so = some it := h.2.2.1
theorem SLT.r200 {n : Nat} {f : Nat → Int32} {M c s : Nat} {V : VT} {so e it gr mi ns mg na : Nat} {cs : CS} {rs : RS} (h : SLT n f M c s V so e it gr mi ns mg na cs rs) : kR cs 200 so = some gr := h.2.2.2.1
theorem SLT.ne {n : Nat} {f : Nat → Int32} {M c s : Nat} {V : VT} {so e it gr mi ns mg na : Nat} {cs : CS} {rs : RS} (h : SLT n f M c s V so e it gr mi ns mg na cs rs) : it < gr := h.2.2.2.2.1
theorem SLT.i196 {n : Nat} {f : Nat → Int32} {M c s : Nat} {V : VT} {so e it gr mi ns mg na : Nat} {cs : CS} {rs : RS} (h : SLT n f M c s V so e it gr mi ns mg na cs rs) : kI cs 196 so = nI ns := h.2.2.2.2.2.1
theorem SLT.n3 {n : Nat} {f : Nat → Int32} {M c s : Nat} {V : VT} {so e it gr mi ns mg na : Nat} {cs : CS} {rs : RS} (h : SLT n f M c s V so e it gr mi ns mg na cs rs) : ns ≤ 3 := h.2.2.2.2.2.2.1
theorem SLT.e195 {n : Nat} {f : Nat → Int32} {M c s : Nat} {V : VT} {so e it gr mi ns mg na : Nat} {cs : CS} {rs : RS} (h : SLT n f M c s V so e it gr mi ns mg na cs rs) : (227, so) ∈ kE cs := h.2.2.2.2.2.2.2.1
theorem SLT.p195 {n : Nat} {f : Nat → Int32} {M c s : Nat} {V : VT} {so e it gr mi ns mg na : Nat} {cs : CS} {rs : RS} (h : SLT n f M c s V so e it gr mi ns mg na cs rs) : ∃ j, kP cs 195 so = some j := h.2.2.2.2.2.2.2.2.1
theorem SLT.l195 {n : Nat} {f : Nat → Int32} {M c s : Nat} {V : VT} {so e it gr mi ns mg na : Nat} {cs : CS} {rs : RS} (h : SLT n f M c s V so e it gr mi ns mg na cs rs) : kL cs 195 so = 3 := h.2.2.2.2.2.2.2.2.2.1
theorem SLT.wh {n : Nat} {f : Nat → Int32} {M c s : Nat} {V : VT} {so e it gr mi ns mg na : Nat} {cs : CS} {rs : RS} (h : SLT n f M c s V so e it gr mi ns mg na cs rs) : OPX n f M s V (kI cs 197 so) (rs.2.2.1 38 e) cs rs := h.2.2.2.2.2.2.2.2.2.2.1
theorem SLT.hv {n : Nat} {f : Nat → Int32} {M c s : Nat} {V : VT} {so e it gr mi ns mg na : Nat} {cs : CS} {rs : RS} (h : SLT n f M c s V so e it gr mi ns mg na cs rs) : OPX n f M s V (kI cs 201 so) (rs.2.2.1 41 e) cs rs := h.2.2.2.2.2.2.2.2.2.2.2.1
theorem SLT.hg {n : Nat} {f : Nat → Int32} {M c s : Nat} {V : VT} {so e it gr mi ns mg na : Nat} {cs : CS} {rs : RS} (h : SLT n f M c s V so e it gr mi ns mg na cs rs) : (kI cs 198 so = 0 ∧ rs.2.2.1 40 e = -1 ∧ mg = 0) ∨ (kI cs 198 so = 1 ∧ rs.2.2.1 40 e = kI cs 199 so ∧ rs.2.2.1 40 e ≠ -1) := h.2.2.2.2.2.2.2.2.2.2.2.2.1
theorem SLT.ds {n : Nat} {f : Nat → Int32} {M c s : Nat} {V : VT} {so e it gr mi ns mg na : Nat} {cs : CS} {rs : RS} (h : SLT n f M c s V so e it gr mi ns mg na cs rs) : (kI cs 192 so = 0 ∧ rs.2.2.1 35 e = -1) ∨ (kI cs 192 so = 1 ∧ rs.2.2.1 35 e = kI cs 193 so ∧ rs.2.2.1 35 e ≠ -1) := h.2.2.2.2.2.2.2.2.2.2.2.2.2.1
theorem SLT.rn {n : Nat} {f : Nat → Int32} {M c s : Nat} {V : VT} {so e it gr mi ns mg na : Nat} {cs : CS} {rs : RS} (h : SLT n f M c s V so e it gr mi ns mg na cs rs) : rs.2.2.1 37 e = nI ns := h.2.2.2.2.2.2.2.2.2.2.2.2.2.2.1
theorem SLT.ri {n : Nat} {f : Nat → Int32} {M c s : Nat} {V : VT} {so e it gr mi ns mg na : Nat} {cs : CS} {rs : RS} (h : SLT n f M c s V so e it gr mi ns mg na cs rs) : rs.2.2.1 36 e = nI mi := h.2.2.2.2.2.2.2.2.2.2.2.2.2.2.2.1
theorem SLT.rg {n : Nat} {f : Nat → Int32} {M c s : Nat} {V : VT} {so e it gr mi ns mg na : Nat} {cs : CS} {rs : RS} (h : SLT n f M c s V so e it gr mi ns mg na cs rs) : rs.2.2.1 39 e = nI mg := h.2.2.2.2.2.2.2.2.2.2.2.2.2.2.2.2.1
theorem SLT.ci {n : Nat} {f : Nat → Int32} {M c s : Nat} {V : VT} {so e it gr mi ns mg na : Nat} {cs : CS} {rs : RS} (h : SLT n f M c s V so e it gr mi ns mg na cs rs) : CRT n f M s V 0 it mi 44 (8 * e) cs rs := h.2.2.2.2.2.2.2.2.2.2.2.2.2.2.2.2.2.1
theorem SLT.cg {n : Nat} {f : Nat → Int32} {M c s : Nat} {V : VT} {so e it gr mi ns mg na : Nat} {cs : CS} {rs : RS} (h : SLT n f M c s V so e it gr mi ns mg na cs rs) : CRT n f M s V 0 gr mg 47 (8 * e) cs rs := h.2.2.2.2.2.2.2.2.2.2.2.2.2.2.2.2.2.2.1
theorem SLT.gn {n : Nat} {f : Nat → Int32} {M c s : Nat} {V : VT} {so e it gr mi ns mg na : Nat} {cs : CS} {rs : RS} (h : SLT n f M c s V so e it gr mi ns mg na cs rs) : GNM n f M gr mg e cs rs := h.2.2.2.2.2.2.2.2.2.2.2.2.2.2.2.2.2.2.2.1
theorem SLT.ag {n : Nat} {f : Nat → Int32} {M c s : Nat} {V : VT} {so e it gr mi ns mg na : Nat} {cs : CS} {rs : RS} (h : SLT n f M c s V so e it gr mi ns mg na cs rs) : AGL c s so na cs := h.2.2.2.2.2.2.2.2.2.2.2.2.2.2.2.2.2.2.2.2.1
theorem SLT.a42 {n : Nat} {f : Nat → Int32} {M c s : Nat} {V : VT} {so e it gr mi ns mg na : Nat} {cs : CS} {rs : RS} (h : SLT n f M c s V so e it gr mi ns mg na cs rs) : rs.2.2.1 42 e = nI na ∧ (0 < na → ∃ x, x < s ∧ kA cs 202 so 0 = nI x ∧ rs.2.2.1 43 e = kA cs 66 c x) := h.2.2.2.2.2.2.2.2.2.2.2.2.2.2.2.2.2.2.2.2.2
/-- what the checking of the SELECT itself writes -/
def JZ (t c k so it gr e : Nat) (cs : CS) (rs : RS) (cs' : CS) (rs' : RS) : Prop := (cs'.1 = cs.1) ∧ (∀ x j, ¬ (j = c ∧ (x = 72 ∨ x = 73)) → ¬ (j = t ∧ (x = 320 ∨ x = 321)) → ¬ (j = k ∧ 35 ≤ x ∧ x ≤ 37) → ¬ ((j = it ∨ j = gr) ∧ x = 100) → AT cs cs' x j) ∧ (∀ x j, 64 ≤ x → x < 128 → kP cs' x j = kP cs x j ∧ kL cs' x j = kL cs x j) ∧ (FR jK rs rs') ∧ (∀ q j, (q = 46 ∨ q = 80) → ¬ (8 * e ≤ j ∧ j < 8 * (e + 1)) → rs'.2.2.1 q j = rs.2.2.1 q j) ∧ (rs'.2.2.1 79 = rs.2.2.1 79) ∧ (∀ y, kA cs 65 c y ≠ 39 → ¬ AM so cs y → kA cs' 72 c y = kA cs 72 c y)
theorem JZ.c1 {t c k so it gr e : Nat} {cs : CS} {rs : RS} {cs' : CS} {rs' : RS} (h : JZ t c k so it gr e cs rs cs' rs') : cs'.1 = cs.1 := h.1
theorem JZ.a0 {t c k so it gr e : Nat} {cs : CS} {rs : RS} {cs' : CS} {rs' : RS} (h : JZ t c k so it gr e cs rs cs' rs') : ∀ x j, ¬ (j = c ∧ (x = 72 ∨ x = 73)) → ¬ (j = t ∧ (x = 320 ∨ x = 321)) → ¬ (j = k ∧ 35 ≤ x ∧ x ≤ 37) → ¬ ((j = it ∨ j = gr) ∧ x = 100) → AT cs cs' x j := h.2.1
theorem JZ.pl {t c k so it gr e : Nat} {cs : CS} {rs : RS} {cs' : CS} {rs' : RS} (h : JZ t c k so it gr e cs rs cs' rs') : ∀ x j, 64 ≤ x → x < 128 → kP cs' x j = kP cs x j ∧ kL cs' x j = kL cs x j := h.2.2.1
theorem JZ.fr {t c k so it gr e : Nat} {cs : CS} {rs : RS} {cs' : CS} {rs' : RS} (h : JZ t c k so it gr e cs rs cs' rs') : FR jK rs rs' := h.2.2.2.1
theorem JZ.r8 {t c k so it gr e : Nat} {cs : CS} {rs : RS} {cs' : CS} {rs' : RS} (h : JZ t c k so it gr e cs rs cs' rs') : ∀ q j, (q = 46 ∨ q = 80) → ¬ (8 * e ≤ j ∧ j < 8 * (e + 1)) → rs'.2.2.1 q j = rs.2.2.1 q j := h.2.2.2.2.1
theorem JZ.r79 {t c k so it gr e : Nat} {cs : CS} {rs : RS} {cs' : CS} {rs' : RS} (h : JZ t c k so it gr e cs rs cs' rs') : rs'.2.2.1 79 = rs.2.2.1 79 := h.2.2.2.2.2.1
theorem JZ.s72 {t c k so it gr e : Nat} {cs : CS} {rs : RS} {cs' : CS} {rs' : RS} (h : JZ t c k so it gr e cs rs cs' rs') : ∀ y, kA cs 65 c y ≠ 39 → ¬ AM so cs y → kA cs' 72 c y = kA cs 72 c y := h.2.2.2.2.2.2
theorem JZ.refl {t c k so it gr e : Nat} {cs : CS} {rs : RS} : JZ t c k so it gr e cs rs cs rs := ⟨rfl, fun _ _ _ _ _ _ => AT.refl, fun _ _ _ _ => ⟨rfl, rfl⟩, FR.refl rs, fun _ _ _ _ => rfl, rfl, fun _ _ _ => rfl⟩
theorem JZ.trans {t c k so it gr e : Nat} {a b d : CS} {x y w : RS} (h : JZ t c k so it gr e a x b y) (g : JZ t c k so it gr e b y d w) : JZ t c k so it gr e a x d w := ⟨g.c1.trans h.c1, fun x j h1 h2 h3 h4 => (h.a0 x j h1 h2 h3 h4).trans (g.a0 x j h1 h2 h3 h4), fun x j h1 h2 => ⟨(g.pl x j h1 h2).1.trans (h.pl x j h1 h2).1, (g.pl x j h1 h2).2.trans (h.pl x j h1 h2).2⟩, h.fr.trans g.fr, fun q j h1 h2 => (g.r8 q j h1 h2).trans (h.r8 q j h1 h2), g.r79.trans h.r79, fun v hv hn => (g.s72 v (by rw [(h.a0 65 c (by omega) (by omega) (by omega) (by omega)).a]; exact hv) (fun w => hn (w.at' (h.a0 202 so (by omega) (by omega) (by omega) (by omega)) (h.a0 203 so (by omega) (by omega) (by omega) (by omega))))).trans (h.s72 v hv hn)⟩
theorem JZ.jc {t c k so it gr e : Nat} {col : Nat} {cs cs' : CS} {rs rs' : RS} (h : JC t c col e cs rs cs' rs') (hc : col = it ∨ col = gr) : JZ t c k so it gr e cs rs cs' rs' := ⟨h.c1, fun x j h1 h2 _ h4 => h.a0 x j h1 h2 (by omega), h.pl, h.fr.mono (fun q hq => by unfold jC jR at hq; unfold jK; omega), h.r8, h.fr.a (by unfold jC jR; omega), fun y hy _ => h.s72 y hy⟩
theorem JZ.jf {t c k so it gr e : Nat} {cs cs' : CS} {rs rs' : RS} (h : JF t c cs rs cs' rs') : JZ t c k so it gr e cs rs cs' rs' := JZ.jc (JC.jf (col := it) (e := e) h) (Or.inl rfl)
theorem JZ.jk {t c k so it gr e : Nat} {lo hi Sl Sh : Nat} {cs cs' : CS} {rs rs' : RS} (h : JZ t c k so it gr e cs rs cs' rs') (h1 : lo ≤ so ∧ lo ≤ it ∧ lo ≤ gr) (h2 : so < hi ∧ it < hi ∧ gr < hi) (h3 : Sl ≤ e) (h4 : e < Sh) : JK t c k lo hi Sl Sh cs rs cs' rs' := ⟨h.c1, fun x j hx => h.a0 x j (fun w => hx (Or.inl w)) (fun w => hx (Or.inr (Or.inl w))) (fun w => hx (Or.inr (Or.inr (Or.inl w)))) (fun w => hx (by unfold kX; omega)), h.pl, h.fr, fun q j a1 a2 => h.r8 q j a1 (by omega), fun j _ => by rw [h.r79], fun y hy hn => h.s72 y hy (hn so h1.1 h2.1)⟩
theorem JZ.tkf {t c k so it gr e : Nat} {cs cs' : CS} {rs rs' : RS} (h : JZ t c k so it gr e cs rs cs' rs') : TKF cs rs cs' rs' := (h.jk (lo := 0) (hi := so + it + gr + 1) (Sl := 0) (Sh := e + 1) ⟨Nat.zero_le _, Nat.zero_le _, Nat.zero_le _⟩ ⟨by omega, by omega, by omega⟩ (Nat.zero_le _) (by omega)).tkf
theorem SLT.jz {n : Nat} {f : Nat → Int32} {M t c s k : Nat} {V : VT} {so e it gr mi ns mg na : Nat} {cs cs' : CS} {rs rs' : RS} (h : SLT n f M c s V so e it gr mi ns mg na cs rs) (j : JZ t c k so it gr e cs rs cs' rs') : SLT n f M c s V so e it gr mi ns mg na cs' rs' := by
  have em : EM cs cs' := EM.of (congrArg (fun z => z.2.2) j.c1)
  have a : ∀ x, 192 ≤ x → x ≤ 206 → AT cs cs' x so := fun x _ _ => j.a0 x so (by omega) (by omega) (by omega) (by omega)
  have r : ∀ q, 35 ≤ q → q ≤ 48 → q ≠ 46 → rs'.2.2.1 q = rs.2.2.1 q := fun q _ _ _ => j.fr.a (by unfold jK; omega)
  have tk := j.tkf
  have k4 : ∀ col, (∀ x, 96 ≤ x → x ≤ 99 → AT cs cs' x col) := fun col x _ _ => j.a0 x col (by omega) (by omega) (by omega) (by omega)
  have cr : ∀ col m A, 35 ≤ A → A ≤ 48 → A ≠ 46 → CRT n f M s V 0 col m A (8 * e) cs rs → CRT n f M s V 0 col m A (8 * e) cs' rs' := fun col m A h1 h2 h3 q => ⟨q.1.kept em (k4 col) (j.pl 100 col (by omega) (by omega)), fun y hy => by
    obtain ⟨q', a', r1, r2, r3, r4⟩ := q.2 y hy
    exact ⟨q', a', by rw [(k4 col 97 (by omega) (by omega)).a]; exact r1, by rw [r A h1 h2 h3]; exact r2, r3.f' tk, r4⟩⟩
  refine ⟨em _ h.e6, h.e60, by rw [(a 194 (by omega) (by omega)).r]; exact h.r194, by rw [(a 200 (by omega) (by omega)).r]; exact h.r200, h.ne, by rw [(a 196 (by omega) (by omega)).i]; exact h.i196, h.n3, em _ h.e195, by rw [(a 195 (by omega) (by omega)).p]; exact h.p195, by rw [(a 195 (by omega) (by omega)).l]; exact h.l195, ?_, ?_, ?_, ?_, by rw [r 37 (by omega) (by omega) (by omega)]; exact h.rn, by rw [r 36 (by omega) (by omega) (by omega)]; exact h.ri, by rw [r 39 (by omega) (by omega) (by omega)]; exact h.rg, cr it mi 44 (by omega) (by omega) (by omega) h.ci, cr gr mg 47 (by omega) (by omega) (by omega) h.cg, h.gn.f' tk (k4 gr 98 (by omega) (by omega)).b (k4 gr 99 (by omega) (by omega)).a (r 48 (by omega) (by omega) (by omega)), h.ag.mv em (a 202 (by omega) (by omega)) (a 203 (by omega) (by omega)) (j.a0 65 c (by omega) (by omega) (by omega) (by omega)), ?_⟩
  · rw [(a 197 (by omega) (by omega)).i, r 38 (by omega) (by omega) (by omega)]
    exact h.wh.f' tk
  · rw [(a 201 (by omega) (by omega)).i, r 41 (by omega) (by omega) (by omega)]
    exact h.hv.f' tk
  · rw [(a 198 (by omega) (by omega)).i, (a 199 (by omega) (by omega)).i, r 40 (by omega) (by omega) (by omega)]
    exact h.hg
  · rw [(a 192 (by omega) (by omega)).i, (a 193 (by omega) (by omega)).i, r 35 (by omega) (by omega) (by omega)]
    exact h.ds
  · rw [r 42 (by omega) (by omega) (by omega), r 43 (by omega) (by omega) (by omega), (a 202 (by omega) (by omega)).a, (j.a0 66 c (by omega) (by omega) (by omega) (by omega)).a]
    exact h.a42
/-- the nodes that a root covers -/
def CVR (V : VT) (s : Nat) (x : Int32) (D : Nat → Prop) : Prop := ∀ r a, x = nI r → r < s → a ≤ r → vf V r = nI a → ∀ z, a ≤ z → z ≤ r → D z
theorem CVR.of {n : Nat} {f : Nat → Int32} {M s a r : Nat} {V : VT} {D : Nat → Prop} {cs : CS} {rs : RS} (hs : s ≤ 120) (h : EXR n f M s V a r cs rs) (hD : ∀ z, a ≤ z → z ≤ r → D z) : CVR V s (nI r) D := fun r' a' h1 h2 h3 h4 z z1 z2 => by
  have hr := h.rs'
  have e1 : r = r' := (nI_eq (by omega) (by omega)).mp h1
  rw [← e1, h.vf.2] at h4
  have e2 : a = a' := (nI_eq (by have := h.vf.1; omega) (by omega)).mp h4
  exact hD z (by omega) (by omega)
/-- where, having, on: an EXPR that may be missing and must be a TRUTH -/
theorem opx_H {n : Nat} {f : Nat → Int32} {M t c cap s k : Nat} {V : VT} {so e ns nm mg w : Nat} {D : Nat → Prop} {F A B : Nat} {x : Int32} {e9 : Nat} {cs : CS} {rs : RS} (hF : 10000 ≤ F) (sk : SKV V s) (hs : s ≤ 120) (he : e9 < B) (hB : B < 1000) (hA : ¬ jR A) (ox : OPX n f M s V x (rs.2.2.1 A e9) cs rs) (hw : w < 2) (h : JH n f M t c cap s k V D cs rs) (md : rs.1 21 = 1 → MD n f M k so e ns nm mg V w cs rs) : ∃ cs' rs' D', c_X0_checkTruth F cs k x = some cs' ∧ (∀ K : RS → Option RS, (Option.bind (rdI (rs.2.2.1 A) B (nI e9)) fun v_58 => if v_58 = (-1) then K rs else (if rs.1 21 = 0 then K rs else (Option.bind (rdI (rs.2.2.1 A) B (nI e9)) fun v_61 => Option.bind (m_judge F 300 rs v_61) fun cs_62 => Option.bind (rdI (cs_62.2.2.1 A) B (nI e9)) fun v_63 => Option.bind (m_want F cs_62 v_63 2) fun cs_64 => K cs_64))) = K rs') ∧ JF t c cs rs cs' rs' ∧ JH n f M t c cap s k V D' cs' rs' ∧ (∀ z, D z → D' z) ∧ CVR V s x D' ∧ (rs.1 21 = 1 → MD n f M k so e ns nm mg V w cs' rs') ∧ (rs.1 21 = 0 → rs' = rs) := by
  have hb : B < 2147483648 := by omega
  rcases ox with ⟨o1, o2⟩ | ⟨r, a, o1, o2, ex⟩
  · refine ⟨cs, rs, D, by rw [o1]; exact truth_no h.ck, fun K => ?_, JF.refl, h, fun _ hz => hz, fun r a h1 h2 => absurd (h1.symm.trans o1) (nI_nm1 (by omega)), md, fun _ => rfl⟩
    rw [rdI_n he hb, ob_s, o2, if_pos rfl]
  · have hr := ex.rs'
    obtain ⟨cs', r1, rs', e1, e2, e3, e4, e5, e6, e7⟩ := true_H hF sk hs ex (fun w' => absurd hw (by omega)) h md
    have q9 : rs.1 21 = 0 → rs' = rs := fun g => by
      have q1 : r1 = rs := Option.some.inj (e2.symm.trans (tj_f (n := 299) g))
      rw [q1] at e3
      exact Option.some.inj (e3.symm.trans (want_f g))
    refine ⟨cs', rs', _, by rw [o1]; exact e1, fun K => ?_, e5, e6, fun z hz => Or.inl hz, by rw [o1]; exact CVR.of hs ex (fun z z1 z2 => Or.inr ⟨z1, z2⟩), e7, q9⟩
    rw [rdI_n he hb, ob_s, o2, if_neg (nI_nm1 (by omega))]
    have r1A : r1.2.2.1 A e9 = nI r := by rw [e4.a hA]; exact o2
    by_cases g : rs.1 21 = 0
    · rw [if_pos g, q9 g]
    · rw [if_neg g, ob_s, e2, ob_s, rdI_n he hb, ob_s, r1A, e3, ob_s]

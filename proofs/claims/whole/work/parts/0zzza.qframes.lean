/-! a QUERY's reading: the reference's slots -/
def pR' (k : Nat) : Prop := (18 ≤ k ∧ k ≤ 30) ∨ k = 32 ∨ (34 ≤ k ∧ k ≤ 74)
def wd (S Q k : Nat) : Nat := if k ≤ 43 then S else if k ≤ 48 then 8 * S else if k ≤ 58 then 3 * S else if 61 ≤ k ∧ k ≤ 63 then 5 * Q else if 66 ≤ k ∧ k ≤ 67 then 8 * Q else Q
theorem wd_le {S Q S' Q' k : Nat} (h : S ≤ S') (g : Q ≤ Q') : wd S Q k ≤ wd S' Q' k := by
  unfold wd
  split
  · exact h
  split
  · omega
  split
  · omega
  split
  · omega
  split
  · omega
  · exact g
/-- below the SELECT S and the QUERY Q nothing of what was read has changed -/
def QF (S Q : Nat) (rs rs' : RS) : Prop := FR pR' rs rs' ∧ (∀ k j, 35 ≤ k → k ≤ 68 → j < wd S Q k → rs'.2.2.1 k j = rs.2.2.1 k j) ∧ ∀ j, j < 3 * S → rs'.2.2.2 52 j = rs.2.2.2 52 j
theorem QF.refl {S Q : Nat} {rs : RS} : QF S Q rs rs := ⟨FR.refl rs, fun _ _ _ _ _ => rfl, fun _ _ => rfl⟩
theorem QF.trans {S Q : Nat} {a b c : RS} (h : QF S Q a b) (g : QF S Q b c) : QF S Q a c := ⟨h.1.trans g.1, fun k j a1 a2 a3 => (g.2.1 k j a1 a2 a3).trans (h.2.1 k j a1 a2 a3), fun j a3 => (g.2.2 j a3).trans (h.2.2 j a3)⟩
theorem QF.le {S Q S' Q' : Nat} {a b : RS} (h : QF S' Q' a b) (x : S ≤ S') (y : Q ≤ Q') : QF S Q a b := ⟨h.1, fun k j a1 a2 a3 => h.2.1 k j a1 a2 (Nat.lt_of_lt_of_le a3 (wd_le x y)), fun j a3 => h.2.2 j (by omega)⟩
theorem QF.setF {S Q k : Nat} {rs : RS} {v : Int32} (h : pR' k) : QF S Q rs (setF rs k v) := ⟨FR.setF h, fun _ _ _ _ _ => rfl, fun _ _ => rfl⟩
theorem QF.setI {S Q k i : Nat} {rs : RS} {v : Int32} (h : pR' k) (g : 35 ≤ k → k ≤ 68 → wd S Q k ≤ i) : QF S Q rs (setI rs k i v) := by
  refine ⟨FR.setI h, fun k' j a1 a2 a3 => ?_, fun _ _ => rfl⟩
  by_cases y : k' = k
  · subst y
    have := g a1 a2
    show (if k' = k' then upd (rs.2.2.1 k') i v else rs.2.2.1 k') j = _
    rw [if_pos rfl]
    exact pk_un (by omega)
  · show (if k' = k then upd (rs.2.2.1 k) i v else rs.2.2.1 k') j = _
    rw [if_neg y]
theorem QF.setL {S Q i : Nat} {rs : RS} {v : Int64} (g : 3 * S ≤ i) : QF S Q rs (setL rs 52 i v) := by
  refine ⟨FR.setL (by unfold pR'; omega), fun _ _ _ _ _ => rfl, fun j a3 => ?_⟩
  show vp_updL (rs.2.2.2 52) i v j = _
  exact pk_uLn (by omega)
theorem eR_p {k : Nat} (h : eR k) : pR' k := by
  unfold eR at h
  unfold pR'
  omega
/-- an EXPR's reading in the SELECT sel -/
theorem QF.ex {S Q sel : Nat} {ma : Bool} {a b : RS} (h : FR eR a b) (g : F4 sel ma a b) (hs : S ≤ sel) : QF S Q a b := by
  refine ⟨h.mono (fun _ => eR_p), fun k j a1 a2 a3 => ?_, fun j _ => congrFun (h.l (by unfold eR; omega)) j⟩
  by_cases y : eR k
  · have e : k = 42 ∨ k = 43 := by unfold eR at y; omega
    have hj : j ≠ sel := by
      unfold wd at a3
      rw [if_pos (by omega)] at a3
      omega
    rcases e with e | e
    · subst e
      exact (g.2.1 j hj).1
    · subst e
      exact (g.2.1 j hj).2
  · exact congrFun (h.a y) j
/-- an EXPR's reading where no aggregate may stand -/
theorem QF.ex0 {S Q sel : Nat} {a b : RS} (h : FR eR a b) (g : F4 sel false a b) : QF S Q a b := by
  refine ⟨h.mono (fun _ => eR_p), fun k j a1 a2 a3 => ?_, fun j _ => congrFun (h.l (by unfold eR; omega)) j⟩
  by_cases y : eR k
  · have e : k = 42 ∨ k = 43 := by unfold eR at y; omega
    rcases e with e | e
    · subst e
      exact congrFun (g.1 rfl).1 j
    · subst e
      exact congrFun (g.1 rfl).2 j
  · exact congrFun (h.a y) j
/-! both at reading a QUERY, no fault: i tokens taken, nest z, s nodes, lf streams, S SELECTS, Q QUERIES -/
def BG (n : Nat) (f : Nat → Int32) (M t c cap i z s lf S Q : Nat) (cs : CS) (rs : RS) : Prop := (SH t c cs) ∧ (TX n f M cs rs) ∧ (kI cs 320 t = 0) ∧ (kI cs 328 t = nI i) ∧ (kI cs 329 t = nI z) ∧ (kI cs 64 c = nI s) ∧ (rs.1 21 = 1) ∧ (rs.1 18 = nI i) ∧ (rs.1 70 = nI z) ∧ (rs.1 22 = nI s) ∧ (i ≤ M) ∧ (s ≤ i) ∧ (s ≤ 120) ∧ (z ≤ 12) ∧ (cap = 120 ∨ (cap = n ∧ n ≤ 120)) ∧ (CA c cap cs) ∧ (rs.1 73 = 0) ∧ (KB cs) ∧ (37 < t) ∧ (37 < c) ∧ (kI cs 325 t = nI lf) ∧ (rs.1 69 = nI lf) ∧ (lf ≤ 3) ∧ ((358, t) ∈ kE cs) ∧ (∃ j, kP cs 326 t = some j) ∧ (kL cs 326 t = 3) ∧ (rs.1 34 = nI S) ∧ (rs.1 59 = nI Q)
theorem BG.h {n : Nat} {f : Nat → Int32} {M t c cap i z s lf S Q : Nat} {cs : CS} {rs : RS} (h : BG n f M t c cap i z s lf S Q cs rs) : SH t c cs := h.1
theorem BG.x {n : Nat} {f : Nat → Int32} {M t c cap i z s lf S Q : Nat} {cs : CS} {rs : RS} (h : BG n f M t c cap i z s lf S Q cs rs) : TX n f M cs rs := h.2.1
theorem BG.f0 {n : Nat} {f : Nat → Int32} {M t c cap i z s lf S Q : Nat} {cs : CS} {rs : RS} (h : BG n f M t c cap i z s lf S Q cs rs) : kI cs 320 t = 0 := h.2.2.1
theorem BG.ci {n : Nat} {f : Nat → Int32} {M t c cap i z s lf S Q : Nat} {cs : CS} {rs : RS} (h : BG n f M t c cap i z s lf S Q cs rs) : kI cs 328 t = nI i := h.2.2.2.1
theorem BG.cz {n : Nat} {f : Nat → Int32} {M t c cap i z s lf S Q : Nat} {cs : CS} {rs : RS} (h : BG n f M t c cap i z s lf S Q cs rs) : kI cs 329 t = nI z := h.2.2.2.2.1
theorem BG.cn {n : Nat} {f : Nat → Int32} {M t c cap i z s lf S Q : Nat} {cs : CS} {rs : RS} (h : BG n f M t c cap i z s lf S Q cs rs) : kI cs 64 c = nI s := h.2.2.2.2.2.1
theorem BG.g1 {n : Nat} {f : Nat → Int32} {M t c cap i z s lf S Q : Nat} {cs : CS} {rs : RS} (h : BG n f M t c cap i z s lf S Q cs rs) : rs.1 21 = 1 := h.2.2.2.2.2.2.1
theorem BG.ri {n : Nat} {f : Nat → Int32} {M t c cap i z s lf S Q : Nat} {cs : CS} {rs : RS} (h : BG n f M t c cap i z s lf S Q cs rs) : rs.1 18 = nI i := h.2.2.2.2.2.2.2.1
theorem BG.rz {n : Nat} {f : Nat → Int32} {M t c cap i z s lf S Q : Nat} {cs : CS} {rs : RS} (h : BG n f M t c cap i z s lf S Q cs rs) : rs.1 70 = nI z := h.2.2.2.2.2.2.2.2.1
theorem BG.rn {n : Nat} {f : Nat → Int32} {M t c cap i z s lf S Q : Nat} {cs : CS} {rs : RS} (h : BG n f M t c cap i z s lf S Q cs rs) : rs.1 22 = nI s := h.2.2.2.2.2.2.2.2.2.1
theorem BG.im {n : Nat} {f : Nat → Int32} {M t c cap i z s lf S Q : Nat} {cs : CS} {rs : RS} (h : BG n f M t c cap i z s lf S Q cs rs) : i ≤ M := h.2.2.2.2.2.2.2.2.2.2.1
theorem BG.si {n : Nat} {f : Nat → Int32} {M t c cap i z s lf S Q : Nat} {cs : CS} {rs : RS} (h : BG n f M t c cap i z s lf S Q cs rs) : s ≤ i := h.2.2.2.2.2.2.2.2.2.2.2.1
theorem BG.s2 {n : Nat} {f : Nat → Int32} {M t c cap i z s lf S Q : Nat} {cs : CS} {rs : RS} (h : BG n f M t c cap i z s lf S Q cs rs) : s ≤ 120 := h.2.2.2.2.2.2.2.2.2.2.2.2.1
theorem BG.z2 {n : Nat} {f : Nat → Int32} {M t c cap i z s lf S Q : Nat} {cs : CS} {rs : RS} (h : BG n f M t c cap i z s lf S Q cs rs) : z ≤ 12 := h.2.2.2.2.2.2.2.2.2.2.2.2.2.1
theorem BG.cp {n : Nat} {f : Nat → Int32} {M t c cap i z s lf S Q : Nat} {cs : CS} {rs : RS} (h : BG n f M t c cap i z s lf S Q cs rs) : cap = 120 ∨ (cap = n ∧ n ≤ 120) := h.2.2.2.2.2.2.2.2.2.2.2.2.2.2.1
theorem BG.ca {n : Nat} {f : Nat → Int32} {M t c cap i z s lf S Q : Nat} {cs : CS} {rs : RS} (h : BG n f M t c cap i z s lf S Q cs rs) : CA c cap cs := h.2.2.2.2.2.2.2.2.2.2.2.2.2.2.2.1
theorem BG.r73 {n : Nat} {f : Nat → Int32} {M t c cap i z s lf S Q : Nat} {cs : CS} {rs : RS} (h : BG n f M t c cap i z s lf S Q cs rs) : rs.1 73 = 0 := h.2.2.2.2.2.2.2.2.2.2.2.2.2.2.2.2.1
theorem BG.kb {n : Nat} {f : Nat → Int32} {M t c cap i z s lf S Q : Nat} {cs : CS} {rs : RS} (h : BG n f M t c cap i z s lf S Q cs rs) : KB cs := h.2.2.2.2.2.2.2.2.2.2.2.2.2.2.2.2.2.1
theorem BG.t37 {n : Nat} {f : Nat → Int32} {M t c cap i z s lf S Q : Nat} {cs : CS} {rs : RS} (h : BG n f M t c cap i z s lf S Q cs rs) : 37 < t := h.2.2.2.2.2.2.2.2.2.2.2.2.2.2.2.2.2.2.1
theorem BG.c37 {n : Nat} {f : Nat → Int32} {M t c cap i z s lf S Q : Nat} {cs : CS} {rs : RS} (h : BG n f M t c cap i z s lf S Q cs rs) : 37 < c := h.2.2.2.2.2.2.2.2.2.2.2.2.2.2.2.2.2.2.2.1
theorem BG.cl {n : Nat} {f : Nat → Int32} {M t c cap i z s lf S Q : Nat} {cs : CS} {rs : RS} (h : BG n f M t c cap i z s lf S Q cs rs) : kI cs 325 t = nI lf := h.2.2.2.2.2.2.2.2.2.2.2.2.2.2.2.2.2.2.2.2.1
theorem BG.rl {n : Nat} {f : Nat → Int32} {M t c cap i z s lf S Q : Nat} {cs : CS} {rs : RS} (h : BG n f M t c cap i z s lf S Q cs rs) : rs.1 69 = nI lf := h.2.2.2.2.2.2.2.2.2.2.2.2.2.2.2.2.2.2.2.2.2.1
theorem BG.l3 {n : Nat} {f : Nat → Int32} {M t c cap i z s lf S Q : Nat} {cs : CS} {rs : RS} (h : BG n f M t c cap i z s lf S Q cs rs) : lf ≤ 3 := h.2.2.2.2.2.2.2.2.2.2.2.2.2.2.2.2.2.2.2.2.2.2.1
theorem BG.e326 {n : Nat} {f : Nat → Int32} {M t c cap i z s lf S Q : Nat} {cs : CS} {rs : RS} (h : BG n f M t c cap i z s lf S Q cs rs) : (358, t) ∈ kE cs := h.2.2.2.2.2.2.2.2.2.2.2.2.2.2.2.2.2.2.2.2.2.2.2.1
theorem BG.p326 {n : Nat} {f : Nat → Int32} {M t c cap i z s lf S Q : Nat} {cs : CS} {rs : RS} (h : BG n f M t c cap i z s lf S Q cs rs) : ∃ j, kP cs 326 t = some j := h.2.2.2.2.2.2.2.2.2.2.2.2.2.2.2.2.2.2.2.2.2.2.2.2.1
theorem BG.l326 {n : Nat} {f : Nat → Int32} {M t c cap i z s lf S Q : Nat} {cs : CS} {rs : RS} (h : BG n f M t c cap i z s lf S Q cs rs) : kL cs 326 t = 3 := h.2.2.2.2.2.2.2.2.2.2.2.2.2.2.2.2.2.2.2.2.2.2.2.2.2.1
theorem BG.rS {n : Nat} {f : Nat → Int32} {M t c cap i z s lf S Q : Nat} {cs : CS} {rs : RS} (h : BG n f M t c cap i z s lf S Q cs rs) : rs.1 34 = nI S := h.2.2.2.2.2.2.2.2.2.2.2.2.2.2.2.2.2.2.2.2.2.2.2.2.2.2.1
theorem BG.rQ {n : Nat} {f : Nat → Int32} {M t c cap i z s lf S Q : Nat} {cs : CS} {rs : RS} (h : BG n f M t c cap i z s lf S Q cs rs) : rs.1 59 = nI Q := h.2.2.2.2.2.2.2.2.2.2.2.2.2.2.2.2.2.2.2.2.2.2.2.2.2.2.2
theorem BG.jt {n : Nat} {f : Nat → Int32} {M t c cap : Nat} {i z s lf S Q : Nat} {cs : CS} {rs : RS} (h : BG n f M t c cap i z s lf S Q cs rs) : JT n f M t c i cs rs := ⟨h.h, h.x, h.f0, h.ci, h.g1, h.ri, h.im⟩
theorem BG.pg {n : Nat} {f : Nat → Int32} {M t c cap : Nat} {i z s lf S Q q sel : Nat} {ma : Bool} {cs : CS} {rs : RS} (h : BG n f M t c cap i z s lf S Q cs rs) (cm : kI cs 331 t = if ma = true then 1 else 0) (rm : rs.1 72 = if ma = true then 1 else 0) (ag : ma = true → AGR t q sel c s cs rs) : PG n f M t c cap q sel ma i z s cs rs := by
  refine ⟨h.h, h.x, h.f0, h.ci, h.cz, h.cn, h.g1, h.ri, h.rz, h.rn, h.im, h.si, h.s2, h.z2, h.cp, h.ca, cm, ?_, ag⟩
  cases ma with
  | true => exact Or.inl ⟨rfl, rm, h.r73⟩
  | false => exact Or.inr ⟨rfl, Or.inl rm⟩
theorem BG.t0 {n : Nat} {f : Nat → Int32} {M t c cap : Nat} {i z s lf S Q : Nat} {cs : CS} {rs : RS} (h : BG n f M t c cap i z s lf S Q cs rs) : t < kK cs := h.kb _ h.h.o
theorem BG.c0 {n : Nat} {f : Nat → Int32} {M t c cap : Nat} {i z s lf S Q : Nat} {cs : CS} {rs : RS} (h : BG n f M t c cap i z s lf S Q cs rs) : c < kK cs := h.kb _ h.h.oc
/-- behind an EXPR -/
theorem BG.eg {n : Nat} {f : Nat → Int32} {M t c cap : Nat} {i z s lf S Q q sel i' s' : Nat} {ma : Bool} {cs cs' : CS} {rs rs' : RS} (h : BG n f M t c cap i z s lf S Q cs rs) (g : EG n f M t c cap q sel ma i z s cs rs i' s' cs' rs') : BG n f M t c cap i' z s' lf S Q cs' rs' := by
  have p := g.g
  have a325 : AT cs cs' 325 t := AT.fo g.fo (by unfold PX; omega)
  have a326 : AT cs cs' 326 t := AT.fo g.fo (by unfold PX; omega)
  exact ⟨p.h, p.x, p.f0, p.ci, p.cz, p.cn, p.g1, p.ri, p.rz, p.rn, p.im, p.si, p.s2, p.z2, p.cp, p.ca, by rw [g.fa.2.2]; exact h.r73, h.kb.of g.fo.1, h.t37, h.c37, by rw [a325.i]; exact h.cl, by rw [g.fr.f (by unfold eR; omega)]; exact h.rl, h.l3, by rw [g.fo.e]; exact h.e326, by rw [a326.p]; exact h.p326, by rw [a326.l]; exact h.l326, by rw [g.fr.f (by unfold eR; omega)]; exact h.rS, by rw [g.fr.f (by unfold eR; omega)]; exact h.rQ⟩
/-- the next token -/
theorem BG.next {n : Nat} {f : Nat → Int32} {M t c cap : Nat} {i z s lf S Q : Nat} {cs : CS} {rs : RS} (h : BG n f M t c cap i z s lf S Q cs rs) (hi : i < M) : BG n f M t c cap (i + 1) z s lf S Q (sI cs 328 t (nI (i + 1))) (setF rs 18 (nI (i + 1))) := by
  have j := h.jt.next hi
  have := h.si
  have e : ∀ x y, x ≠ 328 → kI (sI cs 328 t (nI (i + 1))) x y = kI cs x y := fun x y hx => u2_n (fun w => hx w.1)
  exact ⟨j.h, j.x, j.f0, j.ci, by rw [e 329 t (by decide)]; exact h.cz, by rw [e 64 c (by decide)]; exact h.cn, j.g1, j.ri, h.rz, h.rn, j.im, by omega, h.s2, h.z2, h.cp, h.ca, h.r73, h.kb, h.t37, h.c37, by rw [e 325 t (by decide)]; exact h.cl, h.rl, h.l3, h.e326, h.p326, h.l326, h.rS, h.rQ⟩
/-- what both have when the class's cells outside the Text and the Code and the reference's slots outside these have changed -/
theorem BG.mv {n : Nat} {f : Nat → Int32} {M t c cap : Nat} {i z s lf S Q S' Q' : Nat} {cs cs' : CS} {rs rs' : RS} (h : BG n f M t c cap i z s lf S Q cs rs) (he : EM cs cs') (kb : KB cs') (gb : ∀ x j, j ≤ 37 → AT cs cs' x j) (gt : ∀ x, x / 32 = 10 → x ≠ 330 → x ≠ 331 → x ≠ 323 → AT cs cs' x t) (gc : ∀ x, 64 ≤ x → x < 96 → AT cs cs' x c) (r1 : ∀ k, k ≠ 34 → k ≠ 59 → k ≠ 71 → k ≠ 72 → rs'.1 k = rs.1 k) (r2 : ∀ k, k ≤ 33 → rs'.2.2.1 k = rs.2.2.1 k ∧ rs'.2.2.2 k = rs.2.2.2 k) (rS : rs'.1 34 = nI S') (rQ : rs'.1 59 = nI Q') : BG n f M t c cap i z s lf S' Q' cs' rs' := by
  have tk : TKF cs rs cs' rs' := ⟨(gb 352 9 (by decide)).a, (gb 353 9 (by decide)).a, (gb 354 9 (by decide)).b, (r2 14 (by decide)).1, (r2 15 (by decide)).1, (r2 16 (by decide)).1, (r2 17 (by decide)).2, (r2 2 (by decide)).1⟩
  have g325 := gt 325 (by decide) (by decide) (by decide) (by decide)
  have g326 := gt 326 (by decide) (by decide) (by decide) (by decide)
  exact ⟨h.h.gw he gb (gt 327 (by decide) (by decide) (by decide) (by decide)) (gt 322 (by decide) (by decide) (by decide) (by decide)), h.x.f' tk, by rw [(gt 320 (by decide) (by decide) (by decide) (by decide)).i]; exact h.f0, by rw [(gt 328 (by decide) (by decide) (by decide) (by decide)).i]; exact h.ci, by rw [(gt 329 (by decide) (by decide) (by decide) (by decide)).i]; exact h.cz, by rw [(gc 64 (by decide) (by decide)).i]; exact h.cn, by rw [r1 21 (by decide) (by decide) (by decide) (by decide)]; exact h.g1, by rw [r1 18 (by decide) (by decide) (by decide) (by decide)]; exact h.ri, by rw [r1 70 (by decide) (by decide) (by decide) (by decide)]; exact h.rz, by rw [r1 22 (by decide) (by decide) (by decide) (by decide)]; exact h.rn, h.im, h.si, h.s2, h.z2, h.cp, h.ca.gw he gc, by rw [r1 73 (by decide) (by decide) (by decide) (by decide)]; exact h.r73, kb, h.t37, h.c37, by rw [g325.i]; exact h.cl, by rw [r1 69 (by decide) (by decide) (by decide) (by decide)]; exact h.rl, h.l3, he _ h.e326, by rw [g326.p]; exact h.p326, by rw [g326.l]; exact h.l326, rS, rQ⟩

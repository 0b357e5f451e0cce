/-! checking SELECTS: what it writes, and its state in both -/
def jK (q : Nat) : Prop := q = 19 ∨ q = 20 ∨ q = 21 ∨ q = 31 ∨ q = 33 ∨ q = 46 ∨ (76 ≤ q ∧ q ≤ 80)
def kX (t c k lo hi x j : Nat) : Prop := (j = c ∧ (x = 72 ∨ x = 73)) ∨ (j = t ∧ (x = 320 ∨ x = 321)) ∨ (j = k ∧ 35 ≤ x ∧ x ≤ 37) ∨ (lo ≤ j ∧ j < hi ∧ (x = 133 ∨ x = 206 ∨ x = 234 ∨ (96 ≤ x ∧ x ≤ 100)))
/-- checking of the objects lo to hi - 1 and the SELECTS Sl to Sh - 1 -/
def JK (t c k lo hi Sl Sh : Nat) (cs : CS) (rs : RS) (cs' : CS) (rs' : RS) : Prop := (cs'.1 = cs.1) ∧ (∀ x j, ¬ kX t c k lo hi x j → AT cs cs' x j) ∧ (∀ x j, 64 ≤ x → x < 128 → kP cs' x j = kP cs x j ∧ kL cs' x j = kL cs x j) ∧ (FR jK rs rs') ∧ (∀ q j, (q = 46 ∨ q = 80) → ¬ (8 * Sl ≤ j ∧ j < 8 * Sh) → rs'.2.2.1 q j = rs.2.2.1 q j) ∧ (∀ j, ¬ (3 * Sl ≤ j ∧ j < 3 * Sh) → rs'.2.2.1 79 j = rs.2.2.1 79 j) ∧ (∀ y, kA cs 65 c y ≠ 39 → (∀ o, lo ≤ o → o < hi → ¬ AM o cs y) → kA cs' 72 c y = kA cs 72 c y)
theorem JK.c1 {t c k lo hi Sl Sh : Nat} {cs : CS} {rs : RS} {cs' : CS} {rs' : RS} (h : JK t c k lo hi Sl Sh cs rs cs' rs') : cs'.1 = cs.1 := h.1
theorem JK.a0 {t c k lo hi Sl Sh : Nat} {cs : CS} {rs : RS} {cs' : CS} {rs' : RS} (h : JK t c k lo hi Sl Sh cs rs cs' rs') : ∀ x j, ¬ kX t c k lo hi x j → AT cs cs' x j := h.2.1
theorem JK.pl {t c k lo hi Sl Sh : Nat} {cs : CS} {rs : RS} {cs' : CS} {rs' : RS} (h : JK t c k lo hi Sl Sh cs rs cs' rs') : ∀ x j, 64 ≤ x → x < 128 → kP cs' x j = kP cs x j ∧ kL cs' x j = kL cs x j := h.2.2.1
theorem JK.fr {t c k lo hi Sl Sh : Nat} {cs : CS} {rs : RS} {cs' : CS} {rs' : RS} (h : JK t c k lo hi Sl Sh cs rs cs' rs') : FR jK rs rs' := h.2.2.2.1
theorem JK.r8 {t c k lo hi Sl Sh : Nat} {cs : CS} {rs : RS} {cs' : CS} {rs' : RS} (h : JK t c k lo hi Sl Sh cs rs cs' rs') : ∀ q j, (q = 46 ∨ q = 80) → ¬ (8 * Sl ≤ j ∧ j < 8 * Sh) → rs'.2.2.1 q j = rs.2.2.1 q j := h.2.2.2.2.1
theorem JK.r3 {t c k lo hi Sl Sh : Nat} {cs : CS} {rs : RS} {cs' : CS} {rs' : RS} (h : JK t c k lo hi Sl Sh cs rs cs' rs') : ∀ j, ¬ (3 * Sl ≤ j ∧ j < 3 * Sh) → rs'.2.2.1 79 j = rs.2.2.1 79 j := h.2.2.2.2.2.1
theorem JK.s72 {t c k lo hi Sl Sh : Nat} {cs : CS} {rs : RS} {cs' : CS} {rs' : RS} (h : JK t c k lo hi Sl Sh cs rs cs' rs') : ∀ y, kA cs 65 c y ≠ 39 → (∀ o, lo ≤ o → o < hi → ¬ AM o cs y) → kA cs' 72 c y = kA cs 72 c y := h.2.2.2.2.2.2
theorem AM.at' {o x : Nat} {a b : CS} (h2 : AT a b 202 o) (h3 : AT a b 203 o) (h : AM o b x) : AM o a x := by
  obtain ⟨j, k, m1, m2, m3, m4⟩ := h
  exact ⟨j, k, m1, by rw [← h3.i]; exact m2, m3, by rw [← h2.a]; exact m4⟩
theorem JK.refl {t c k lo hi Sl Sh : Nat} {cs : CS} {rs : RS} : JK t c k lo hi Sl Sh cs rs cs rs := ⟨rfl, fun _ _ _ => AT.refl, fun _ _ _ _ => ⟨rfl, rfl⟩, FR.refl rs, fun _ _ _ _ => rfl, fun _ _ => rfl, fun _ _ _ => rfl⟩
theorem JK.trans {t c k lo hi Sl Sh : Nat} {a b d : CS} {x y w : RS} (h : JK t c k lo hi Sl Sh a x b y) (g : JK t c k lo hi Sl Sh b y d w) : JK t c k lo hi Sl Sh a x d w := ⟨g.c1.trans h.c1, fun x j hx => (h.a0 x j hx).trans (g.a0 x j hx), fun x j h1 h2 => ⟨(g.pl x j h1 h2).1.trans (h.pl x j h1 h2).1, (g.pl x j h1 h2).2.trans (h.pl x j h1 h2).2⟩, h.fr.trans g.fr, fun q j h1 h2 => (g.r8 q j h1 h2).trans (h.r8 q j h1 h2), fun j h1 => (g.r3 j h1).trans (h.r3 j h1), fun v hv hn => (g.s72 v (by rw [(h.a0 65 c (by unfold kX; omega)).a]; exact hv) (fun o o1 o2 w => hn o o1 o2 (w.at' (h.a0 202 o (by unfold kX; omega)) (h.a0 203 o (by unfold kX; omega))))).trans (h.s72 v hv hn)⟩
theorem JK.mono {t c k lo hi Sl Sh lo' hi' Sl' Sh' : Nat} {cs cs' : CS} {rs rs' : RS} (h : JK t c k lo hi Sl Sh cs rs cs' rs') (h1 : lo' ≤ lo) (h2 : hi ≤ hi') (h3 : Sl' ≤ Sl) (h4 : Sh ≤ Sh') : JK t c k lo' hi' Sl' Sh' cs rs cs' rs' := ⟨h.c1, fun x j hx => h.a0 x j (fun w => hx (by unfold kX at w ⊢; omega)), h.pl, h.fr, fun q j a1 a2 => h.r8 q j a1 (by omega), fun j a1 => h.r3 j (by omega), fun y hy hn => h.s72 y hy (fun o o1 o2 => hn o (by omega) (by omega))⟩
theorem JK.jf {t c k lo hi Sl Sh : Nat} {cs cs' : CS} {rs rs' : RS} (j : JF t c cs rs cs' rs') : JK t c k lo hi Sl Sh cs rs cs' rs' := by
  refine ⟨j.c1, fun x y h => j.a0 x y (fun w => h (Or.inl w)) (fun w => h (Or.inr (Or.inl w))), fun x y h1 h2 => ?_, j.fr.mono (fun q hq => by unfold jR at hq; unfold jK; omega), fun q y h1 _ => ?_, fun y _ => ?_, fun y hy _ => j.s72 y hy⟩
  · by_cases w : y = c
    · rw [w]
      exact j.pl x
    · have a := j.a0 x y (by omega) (by omega)
      exact ⟨a.p, a.l⟩
  · rcases h1 with e | e
    · rw [e, j.fr.a (k := 46) (by unfold jR; omega)]
    · rw [e, j.fr.a (k := 80) (by unfold jR; omega)]
  · rw [j.fr.a (k := 79) (by unfold jR; omega)]
/-- a write of the class alone -/
theorem JK.cls {t c k lo hi Sl Sh : Nat} {cs cs' : CS} {rs : RS} (c1 : cs'.1 = cs.1) (a0 : ∀ x j, ¬ (kX t c k lo hi x j ∧ ¬ (j = c ∧ x = 72)) → AT cs cs' x j) (pl : ∀ x j, kP cs' x j = kP cs x j ∧ kL cs' x j = kL cs x j) : JK t c k lo hi Sl Sh cs rs cs' rs := ⟨c1, fun x j h => a0 x j (fun w => h w.1), fun x j _ _ => pl x j, FR.refl rs, fun _ _ _ _ => rfl, fun _ _ => rfl, fun y _ _ => by rw [(a0 72 c (fun w => w.2 ⟨rfl, rfl⟩)).a]⟩
theorem JK.ck {t c k lo hi Sl Sh cap s : Nat} {cs cs' : CS} {rs rs' : RS} (j : JK t c k lo hi Sl Sh cs rs cs' rs') (h : CK t c cap s k cs) : CK t c cap s k cs' := h.mv (EM.of (congrArg (fun z => z.2.2) j.c1)) (fun x hx => j.a0 x k (by unfold kX; omega)) (fun x x1 x2 => j.pl x c x1 (by omega)) (j.a0 64 c (by unfold kX; omega)).i
theorem JK.tkf {t c k lo hi Sl Sh : Nat} {cs cs' : CS} {rs rs' : RS} (j : JK t c k lo hi Sl Sh cs rs cs' rs') : TKF cs rs cs' rs' := ⟨(j.a0 352 9 (by unfold kX; omega)).a, (j.a0 353 9 (by unfold kX; omega)).a, (j.a0 354 9 (by unfold kX; omega)).b, j.fr.a (by unfold jK; omega), j.fr.a (by unfold jK; omega), j.fr.a (by unfold jK; omega), j.fr.l (by unfold jK; omega), j.fr.a (by unfold jK; omega)⟩
theorem JK.vw {t c k lo hi Sl Sh : Nat} {cs cs' : CS} {rs rs' : RS} (j : JK t c k lo hi Sl Sh cs rs cs' rs') : VW c cs' rs' = VW c cs rs := by
  have a : ∀ x, 65 ≤ x → x ≤ 71 → AT cs cs' x c := fun x _ _ => j.a0 x c (by unfold kX; omega)
  have r : ∀ q, 23 ≤ q → q ≤ 32 → q ≠ 31 → rs'.2.2.1 q = rs.2.2.1 q := fun q _ _ _ => j.fr.a (by unfold jK; omega)
  funext e
  unfold VW
  rw [(a 65 (by omega) (by omega)).a, (a 67 (by omega) (by omega)).a, (a 68 (by omega) (by omega)).a, (a 66 (by omega) (by omega)).a, (a 69 (by omega) (by omega)).b, (a 71 (by omega) (by omega)).a, (a 70 (by omega) (by omega)).b, r 23 (by omega) (by omega) (by omega), r 24 (by omega) (by omega) (by omega), r 25 (by omega) (by omega) (by omega), r 26 (by omega) (by omega) (by omega), r 27 (by omega) (by omega) (by omega), j.fr.l (k := 28) (by unfold jK; omega), r 29 (by omega) (by omega) (by omega), r 32 (by omega) (by omega) (by omega), r 30 (by omega) (by omega) (by omega)]
/-- both between two EXPRS: good, the nodes D have their columns; or the same fault -/
def JH (n : Nat) (f : Nat → Int32) (M t c cap s k : Nat) (V : VT) (D : Nat → Prop) (cs : CS) (rs : RS) : Prop := (CK t c cap s k cs) ∧ (TX n f M cs rs) ∧ (∀ y, y < s → VW c cs rs y = V y) ∧ (kI cs 324 t = rs.1 75 ∧ (rs.1 75 = 0 ∨ rs.1 75 = 1)) ∧ ((kI cs 320 t = 0 ∧ rs.1 21 = 1 ∧ ∀ y, D y → vk V y = 39 → kA cs 72 c y = rs.2.2.1 33 y) ∨ (kI cs 320 t ≠ 0 ∧ rs.1 21 = 0 ∧ rs.1 19 = kI cs 320 t ∧ rs.1 20 = kI cs 321 t)) ∧ (∀ y, D y → y < s)
theorem JH.ck {n : Nat} {f : Nat → Int32} {M t c cap s k : Nat} {V : VT} {D : Nat → Prop} {cs : CS} {rs : RS} (h : JH n f M t c cap s k V D cs rs) : CK t c cap s k cs := h.1
theorem JH.x {n : Nat} {f : Nat → Int32} {M t c cap s k : Nat} {V : VT} {D : Nat → Prop} {cs : CS} {rs : RS} (h : JH n f M t c cap s k V D cs rs) : TX n f M cs rs := h.2.1
theorem JH.v {n : Nat} {f : Nat → Int32} {M t c cap s k : Nat} {V : VT} {D : Nat → Prop} {cs : CS} {rs : RS} (h : JH n f M t c cap s k V D cs rs) : ∀ y, y < s → VW c cs rs y = V y := h.2.2.1
theorem JH.u {n : Nat} {f : Nat → Int32} {M t c cap s k : Nat} {V : VT} {D : Nat → Prop} {cs : CS} {rs : RS} (h : JH n f M t c cap s k V D cs rs) : kI cs 324 t = rs.1 75 ∧ (rs.1 75 = 0 ∨ rs.1 75 = 1) := h.2.2.2.1
theorem JH.st {n : Nat} {f : Nat → Int32} {M t c cap s k : Nat} {V : VT} {D : Nat → Prop} {cs : CS} {rs : RS} (h : JH n f M t c cap s k V D cs rs) : (kI cs 320 t = 0 ∧ rs.1 21 = 1 ∧ ∀ y, D y → vk V y = 39 → kA cs 72 c y = rs.2.2.1 33 y) ∨ (kI cs 320 t ≠ 0 ∧ rs.1 21 = 0 ∧ rs.1 19 = kI cs 320 t ∧ rs.1 20 = kI cs 321 t) := h.2.2.2.2.1
theorem JH.dl {n : Nat} {f : Nat → Int32} {M t c cap s k : Nat} {V : VT} {D : Nat → Prop} {cs : CS} {rs : RS} (h : JH n f M t c cap s k V D cs rs) : ∀ y, D y → y < s := h.2.2.2.2.2
theorem JH.mv {n : Nat} {f : Nat → Int32} {M t c cap s k : Nat} {V : VT} {D D' : Nat → Prop} {lo hi Sl Sh : Nat} {cs cs' : CS} {rs rs' : RS} (h : JH n f M t c cap s k V D cs rs) (j : JK t c k lo hi Sl Sh cs rs cs' rs') (st : (kI cs' 320 t = 0 ∧ rs'.1 21 = 1 ∧ ∀ y, D' y → vk V y = 39 → kA cs' 72 c y = rs'.2.2.1 33 y) ∨ (kI cs' 320 t ≠ 0 ∧ rs'.1 21 = 0 ∧ rs'.1 19 = kI cs' 320 t ∧ rs'.1 20 = kI cs' 321 t)) (dl : ∀ y, D' y → y < s) : JH n f M t c cap s k V D' cs' rs' := ⟨j.ck h.ck, h.x.f' j.tkf, fun y hy => by rw [j.vw]; exact h.v y hy, by rw [(j.a0 324 t (by unfold kX; omega)).i, j.fr.f (k := 75) (by unfold jK; omega)]; exact h.u, st, dl⟩
/-- a step that leaves faults and columns of names alone -/
theorem JH.mv0 {n : Nat} {f : Nat → Int32} {M t c cap s k : Nat} {V : VT} {D : Nat → Prop} {lo hi Sl Sh : Nat} {cs cs' : CS} {rs rs' : RS} (h : JH n f M t c cap s k V D cs rs) (j : JK t c k lo hi Sl Sh cs rs cs' rs') (f1 : kI cs' 320 t = kI cs 320 t) (f2 : kI cs' 321 t = kI cs 321 t) (g1 : rs'.1 21 = rs.1 21) (g2 : rs'.1 19 = rs.1 19) (g3 : rs'.1 20 = rs.1 20) (c72 : ∀ y, vk V y = 39 → D y → kA cs' 72 c y = kA cs 72 c y) (r33 : rs'.2.2.1 33 = rs.2.2.1 33) : JH n f M t c cap s k V D cs' rs' := by
  refine h.mv j ?_ h.dl
  rw [f1, f2, g1, g2, g3, r33]
  rcases h.st with ⟨a1, a2, a3⟩ | y
  · exact Or.inl ⟨a1, a2, fun y hy hv => (c72 y hv hy).trans (a3 y hy hv)⟩
  · exact Or.inr y
/-- a fault in both behind the same question -/
theorem JH.tell {n : Nat} {f : Nat → Int32} {M t c cap s k : Nat} {V : VT} {D : Nat → Prop} {F : Nat} {a b : Int32} {cs : CS} {rs : RS} (h : JH n f M t c cap s k V D cs rs) (ha : a ≠ 0) : ∃ cs' rs', c_X9_refuse F cs t a b = some cs' ∧ m_tell F rs a b = some rs' ∧ JF t c cs rs cs' rs' ∧ JH n f M t c cap s k V D cs' rs' ∧ rs'.1 21 = 0 ∧ (∀ q, q ≠ 19 → q ≠ 20 → q ≠ 21 → rs'.1 q = rs.1 q) ∧ rs'.2 = rs.2 ∧ (∀ x j, ¬ (j = t ∧ (x = 320 ∨ x = 321)) → AT cs cs' x j) := by
  rcases h.st with ⟨a1, a2, a3⟩ | ⟨b1, b2, b3, b4⟩
  · have j : JF t c cs rs (sI (sI cs 320 t a) 321 t b) (setF (setF (setF rs 21 0) 19 a) 20 b) := JF.bad
    refine ⟨_, _, ref_ck h.ck a1, tel_ok a2, j, h.mv (JK.jf (lo := 0) (hi := 0) (Sl := 0) (Sh := 0) j) (Or.inr ⟨?_, rfl, ?_, ?_⟩) h.dl, rfl, fun q q1 q2 q3 => ?_, rfl, fun x j hx => (AT.sI (by omega)).trans (AT.sI (by omega))⟩
    · rw [kI_n (by omega), kI_s]
      exact ha
    · show a = kI (sI (sI cs 320 t a) 321 t b) 320 t
      rw [kI_n (by omega), kI_s]
    · show b = kI (sI (sI cs 320 t a) 321 t b) 321 t
      rw [kI_s]
    · show (if q = 20 then b else if q = 19 then a else if q = 21 then 0 else rs.1 q) = rs.1 q
      rw [if_neg q2, if_neg q1, if_neg q3]
  · refine ⟨cs, rs, ref_ckf h.ck b1, ?_, JF.refl, h, b2, fun _ _ _ _ => rfl, rfl, fun _ _ _ => AT.refl⟩
    unfold m_tell m_tell_b22
    rw [if_pos b2]
/-- an EXPR from its root -/
theorem judge_H {n : Nat} {f : Nat → Int32} {M t c cap s k : Nat} {V : VT} {D : Nat → Prop} {Sc : CS → RS → Prop} {F a root : Nat} {m : MK} {cs : CS} {rs : RS} (hF : 10000 ≤ F) (sk : SKV V s) (hs : s ≤ 120) (hr : root < s) (tr : TR V (root + 1 - a) root a root) (hm : m = none ∨ m = some none) (h : JH n f M t c cap s k V D cs rs) (hS : SCF t c Sc) (hA : SCA a root V Sc) (n0 : NM0 F t c cap s k a root V D Sc) (n1 : NM1 F t c cap s k a root V D Sc) (sc : rs.1 21 = 1 → Sc cs rs ∧ MO k m cs rs (-1) a) : ∃ cs' rs', c_X0_checkExpr F cs k (nI root) = some cs' ∧ m_judge F 300 rs (nI root) = some rs' ∧ JF t c cs rs cs' rs' ∧ JH n f M t c cap s k V (fun y => D y ∨ (a ≤ y ∧ y ≤ root)) cs' rs' ∧ (rs'.1 21 = 1 → TYR (kA cs' 73 c root) (rs'.2.2.1 31 root) ∧ Sc cs' rs') := by
  have ar := (TR.rng _ _ _ _ tr).1
  rcases h.st with ⟨a1, a2, a3⟩ | ⟨b1, b2, b3, b4⟩
  · obtain ⟨sc1, mo⟩ := sc a2
    have js : JS t c cap s k a a V D Sc cs rs := ⟨h.ck, a1, a2, h.v, fun y y1 y2 => absurd y2 (by omega), fun y y1 y2 => a3 y (y1.elim id (fun w => absurd w.2 (by omega))) y2, sc1⟩
    obtain ⟨cs', rs', e1, e2, j, p⟩ := sim_judge (lo := a) hF sk hr hs hS hA n0 n1 tr mo hm js
    refine ⟨cs', rs', e1, e2, j, h.mv (JK.jf (lo := 0) (hi := 0) (Sl := 0) (Sh := 0) j) ?_ (fun y hy => hy.elim (h.dl y) (fun w => by omega)), fun g => ?_⟩
    · rcases p with p | p
      · exact Or.inl ⟨p.f0, p.g1, fun y hy hv => p.sl y (hy.imp_right (fun w => ⟨w.1, by omega⟩)) hv⟩
      · exact Or.inr ⟨p.f, p.g, p.e1, p.e2⟩
    · rcases p with p | p
      · exact ⟨p.ty root ar (by omega), p.sc⟩
      · exact absurd (p.g.symm.trans g) (by decide)
  · have jb : JB t c cap s k cs rs := ⟨h.ck, b1, b2, b3, b4⟩
    have vfr : kA cs 67 c root = nI a := by
      have q := h.v root hr
      obtain ⟨d, hd⟩ : ∃ d, root + 1 - a = d + 1 := ⟨root - a, by omega⟩
      rw [hd] at tr
      have w : vf V root = nI a := tr.2.1
      unfold vf at w
      rw [← q] at w
      exact w
    refine ⟨cs, rs, ?_, tj_f (n := 299) b2, JF.refl, h.mv (JK.refl (lo := 0) (hi := 0) (Sl := 0) (Sh := 0)) (Or.inr ⟨b1, b2, b3, b4⟩) (fun y hy => hy.elim (h.dl y) (fun w => by omega)), fun g => absurd (b2.symm.trans g) (by decide)⟩
    obtain ⟨w, hw⟩ : ∃ w, F = w + 1 := ⟨F - 1, by omega⟩
    have l := L24_b (F := F) (w := w) (root := root) (i := a) (ag := -1) jb
    rw [← hw] at l
    unfold c_X0_checkExpr
    rw [ck_c h.ck, ckE_ok h.ck.oc, ob_s, ck_has h.ck hr, ob_s, if_neg (by decide), ck_c h.ck, ck_67 h.ck hr, vfr]
    exact l
theorem ty_of {n : Nat} {f : Nat → Int32} {M t c cap s k : Nat} {V : VT} {D : Nat → Prop} {F x : Nat} {cs : CS} {rs : RS} (h : JH n f M t c cap s k V D cs rs) (hx : x < s) : c_X0_typeOf F cs k (nI x) = some (kA cs 73 c x) := by
  unfold c_X0_typeOf c_X0_typeOf_b24
  rw [ck_c h.ck, ckE_ok h.ck.oc, ob_s, ck_has h.ck hx, ob_s, if_neg (by decide), ck_c h.ck, ck_73 h.ck hx]
/-- an EXPR that must be a TRUTH -/
theorem truth_H {n : Nat} {f : Nat → Int32} {M t c cap s k : Nat} {V : VT} {D : Nat → Prop} {Sc : CS → RS → Prop} {F a root : Nat} {m : MK} {cs : CS} {rs : RS} (hF : 10000 ≤ F) (sk : SKV V s) (hs : s ≤ 120) (hr : root < s) (tr : TR V (root + 1 - a) root a root) (hm : m = none ∨ m = some none) (h : JH n f M t c cap s k V D cs rs) (hS : SCF t c Sc) (hA : SCA a root V Sc) (n0 : NM0 F t c cap s k a root V D Sc) (n1 : NM1 F t c cap s k a root V D Sc) (sc : rs.1 21 = 1 → Sc cs rs ∧ MO k m cs rs (-1) a) : ∃ cs' r1 rs', c_X0_checkTruth F cs k (nI root) = some cs' ∧ m_judge F 300 rs (nI root) = some r1 ∧ m_want F r1 (nI root) 2 = some rs' ∧ FR jR rs r1 ∧ JF t c cs rs cs' rs' ∧ JH n f M t c cap s k V (fun y => D y ∨ (a ≤ y ∧ y ≤ root)) cs' rs' ∧ (rs'.1 21 = 1 → Sc cs' rs') := by
  obtain ⟨c1, r1, e1, e2, j1, h1, p1⟩ := judge_H hF sk hs hr tr hm h hS hA n0 n1 sc
  have vbr : vb V root = rb V root := by
    have ar := (TR.rng _ _ _ _ tr).1
    obtain ⟨d, hd⟩ : ∃ d, root + 1 - a = d + 1 := ⟨root - a, by omega⟩
    rw [hd] at tr
    exact tr.2.2.1
  have q66 : kA c1 66 c root = vb V root := by unfold vb; rw [← h1.v root hr]; rfl
  have q29 : r1.2.2.1 29 root = rb V root := by unfold rb; rw [← h1.v root hr]; rfl
  have cls : c_X0_checkTruth F cs k (nI root) = if kA c1 73 c root &&& 2 = 0 then Option.bind (c_X9_refuse F c1 t 4 (kA c1 66 c root)) fun c2 => some c2 else some c1 := by
    unfold c_X0_checkTruth c_X0_checkTruth_b43
    rw [ckE_ok h.ck.o, ob_s, e1, ob_s, ck_c h1.ck, ckE_ok h1.ck.oc, ob_s, ck_has h1.ck hr, ob_s, if_neg (by decide), ckE_ok h1.ck.o, ob_s, ty_of h1 hr, ob_s]
    by_cases y : kA c1 73 c root &&& 2 = 0
    · rw [if_pos y, if_pos y, gR_ok h1.ck.o, ob_s, ck_c h1.ck, ck_66 h1.ck hr, h1.ck.r32, ob_s, ckE_ok h1.ck.ot, ob_s]
    · rw [if_neg y, if_neg y]
  rcases h1.st with ⟨a1, a2, a3⟩ | ⟨b1, b2, b3, b4⟩
  · obtain ⟨ty, sc1⟩ := p1 a2
    have tb := ty_bad ty (W := 2) (Or.inr rfl)
    by_cases y : kA c1 73 c root &&& 2 = 0
    · have j2 : JF t c c1 r1 (sI (sI c1 320 t 4) 321 t (kA c1 66 c root)) (setF (setF (setF r1 21 0) 19 4) 20 (kA c1 66 c root)) := JF.bad
      refine ⟨_, r1, setF (setF (setF r1 21 0) 19 4) 20 (kA c1 66 c root), ?_, e2, ?_, j1.fr, j1.trans j2, h1.mv (JK.jf (lo := 0) (hi := 0) (Sl := 0) (Sh := 0) j2) (Or.inr ⟨?_, rfl, ?_, ?_⟩) h1.dl, fun g => absurd (show (0 : Int32) = 1 from g) (by decide)⟩
      · rw [cls, if_pos y, ref_ck h1.ck a1, ob_s]
      · rw [want_bad a2 (by omega) (tb.mp y), q66, q29, vbr]
      · rw [kI_n (by omega), kI_s]
        decide
      · show (4 : Int32) = kI (sI (sI c1 320 t 4) 321 t (kA c1 66 c root)) 320 t
        rw [kI_n (by omega), kI_s]
      · show kA c1 66 c root = kI (sI (sI c1 320 t 4) 321 t (kA c1 66 c root)) 321 t
        rw [kI_s]
    · exact ⟨c1, r1, r1, by rw [cls, if_neg y], e2, want_ok a2 (by omega) (fun w => y (tb.mpr w)), j1.fr, j1, h1, fun _ => sc1⟩
  · refine ⟨c1, r1, r1, ?_, e2, want_f b2, j1.fr, j1, h1, fun g => absurd (b2.symm.trans g) (by decide)⟩
    rw [cls]
    by_cases y : kA c1 73 c root &&& 2 = 0
    · rw [if_pos y, ref_ckf h1.ck b1, ob_s]
    · rw [if_neg y]
theorem truth_no {t c cap s F k : Nat} {cs : CS} (h : CK t c cap s k cs) : c_X0_checkTruth F cs k (-1) = some cs := by
  unfold c_X0_checkTruth c_X0_checkTruth_b43 c_X0_checkExpr
  rw [ckE_ok h.o, ob_s, ck_c h, ckE_ok h.oc, ob_s, ck_no, ob_s, if_pos rfl, ob_s, ck_c h, ckE_ok h.oc, ob_s, ck_no, ob_s, if_pos rfl]
/-- checkBound against bounded: b is kept in the reference -/
theorem bound_H {n : Nat} {f : Nat → Int32} {M t c cap s k : Nat} {V : VT} {D : Nat → Prop} {F : Nat} {u b p : Int32} {cs : CS} {rs : RS} (h : JH n f M t c cap s k V D cs rs) (ub : rs.1 21 = 1 → (u = 0 ∧ b = 1) ∨ (u ≠ 0 ∧ b = 0)) : ∃ cs' rs', c_X0_checkBound F cs k u p = some cs' ∧ m_bounded F rs b p = some rs' ∧ JF t c cs rs cs' rs' ∧ JH n f M t c cap s k V D cs' rs' ∧ (∀ q, q ≠ 19 → q ≠ 20 → q ≠ 21 → rs'.1 q = rs.1 q) ∧ rs'.2 = rs.2 ∧ (∀ x j, ¬ (j = t ∧ (x = 320 ∨ x = 321)) → AT cs cs' x j) := by
  have cls : c_X0_checkBound F cs k u p = if u = 0 then some cs else if kI cs 324 t = 0 then c_X9_refuse F cs t 5 p else some cs := by
    unfold c_X0_checkBound c_X0_checkBound_b23
    by_cases y : u = 0
    · rw [if_pos y, if_pos y]
    · rw [if_neg y, if_neg y, ck_t h.ck, gI_ok h.ck.ot, ob_s]
      by_cases z : kI cs 324 t = 0
      · rw [if_pos z, if_pos z, ck_t h.ck, ckE_ok h.ck.ot, ob_s]
        cases c_X9_refuse F cs t 5 p with
        | none => rfl
        | some w => rfl
      · rw [if_neg z, if_neg z]
  have ref : m_bounded F rs b p = if b = 0 then if rs.1 75 = 0 then m_tell F rs 5 p else some rs else some rs := by
    unfold m_bounded m_bounded_b17
    by_cases y : b = 0
    · rw [if_pos y, if_pos y]
      by_cases z : rs.1 75 = 0
      · rw [if_pos z, if_pos z]
        cases m_tell F rs 5 p with
        | none => rfl
        | some w => rfl
      · rw [if_neg z, if_neg z]
    · rw [if_neg y, if_neg y]
  have stay : ∃ cs' rs', some cs = some cs' ∧ some rs = some rs' ∧ JF t c cs rs cs' rs' ∧ JH n f M t c cap s k V D cs' rs' ∧ (∀ q, q ≠ 19 → q ≠ 20 → q ≠ 21 → rs'.1 q = rs.1 q) ∧ rs'.2 = rs.2 ∧ (∀ x j, ¬ (j = t ∧ (x = 320 ∨ x = 321)) → AT cs cs' x j) := ⟨cs, rs, rfl, rfl, JF.refl, h, fun _ _ _ _ => rfl, rfl, fun _ _ _ => AT.refl⟩
  rw [cls, ref, h.u.1]
  rcases h.st with ⟨a1, a2, a3⟩ | ⟨b1, b2, b3, b4⟩
  · rcases ub a2 with ⟨w1, w2⟩ | ⟨w1, w2⟩
    · rw [if_pos w1, if_neg (by rw [w2]; decide)]
      exact stay
    · rw [if_neg w1, if_pos w2]
      by_cases z : rs.1 75 = 0
      · rw [if_pos z, if_pos z]
        obtain ⟨cs', rs', t1, t2, t3, t4, -, t5, t6, t7⟩ := h.tell (F := F) (a := 5) (b := p) (by decide)
        exact ⟨cs', rs', t1, t2, t3, t4, t5, t6, t7⟩
      · rw [if_neg z, if_neg z]
        exact stay
  · have ref' : (if b = 0 then if rs.1 75 = 0 then m_tell F rs 5 p else some rs else some rs) = some rs := by
      by_cases y : b = 0
      · rw [if_pos y]
        by_cases z : rs.1 75 = 0
        · rw [if_pos z]
          unfold m_tell m_tell_b22
          rw [if_pos b2]
        · rw [if_neg z]
      · rw [if_neg y]
    have cls' : (if u = 0 then some cs else if rs.1 75 = 0 then c_X9_refuse F cs t 5 p else some cs) = some cs := by
      by_cases y : u = 0
      · rw [if_pos y]
      · rw [if_neg y]
        by_cases z : rs.1 75 = 0
        · rw [if_pos z, ref_ckf h.ck b1]
        · rw [if_neg z]
    rw [ref', cls']
    exact stay

/-! the class renews its answer -/
/-- what no answer changes -/
def GFR (a b : CS) : Prop := EM a b ∧ ∀ x j, ¬ (288 ≤ x ∧ x ≤ 291) → ¬ (74 ≤ x ∧ x ≤ 76) → ¬ (395 ≤ x ∧ x ≤ 398) → AT a b x j
theorem GFR.trans {a b d : CS} (h : GFR a b) (g : GFR b d) : GFR a d := ⟨h.1.trans g.1, fun x j q1 q2 q3 => (h.2 x j q1 q2 q3).trans (g.2 x j q1 q2 q3)⟩
theorem STF.gf {c ar m : Nat} {a b : CS} (h : STF c ar m a b) : GFR a b := ⟨h.em, fun x j q1 q2 _ => h.fr x j (by omega) (by omega)⟩
theorem TCF.gf {a b : CS} (h : TCF a b) : GFR a b := ⟨h.em, fun x j _ _ q3 => h.at' x j (by omega)⟩
/-- a text that stands, its runner, the strips -/
def ANX (t r q il w a1 a2 a3 a4 : Nat) (cs : CS) : Prop := ((12, 0) ∈ kE cs) ∧ (kR cs 389 0 = some t) ∧ (kR cs 390 0 = some r) ∧ (kR cs 391 0 = some a1) ∧ (kR cs 392 0 = some a2) ∧ (kR cs 393 0 = some a3) ∧ (kR cs 394 0 = some a4) ∧ ((5, r) ∈ kE cs) ∧ ((10, t) ∈ kE cs) ∧ (kR cs 323 t = some q) ∧ ((4, q) ∈ kE cs) ∧ (kR cs 129 q = some il) ∧ (CLM il w cs)
theorem ANX.o {t r q il w a1 a2 a3 a4 : Nat} {cs : CS} (h : ANX t r q il w a1 a2 a3 a4 cs) : (12, 0) ∈ kE cs := h.1
theorem ANX.st {t r q il w a1 a2 a3 a4 : Nat} {cs : CS} (h : ANX t r q il w a1 a2 a3 a4 cs) : kR cs 389 0 = some t := h.2.1
theorem ANX.rn {t r q il w a1 a2 a3 a4 : Nat} {cs : CS} (h : ANX t r q il w a1 a2 a3 a4 cs) : kR cs 390 0 = some r := h.2.2.1
theorem ANX.s1 {t r q il w a1 a2 a3 a4 : Nat} {cs : CS} (h : ANX t r q il w a1 a2 a3 a4 cs) : kR cs 391 0 = some a1 := h.2.2.2.1
theorem ANX.s2 {t r q il w a1 a2 a3 a4 : Nat} {cs : CS} (h : ANX t r q il w a1 a2 a3 a4 cs) : kR cs 392 0 = some a2 := h.2.2.2.2.1
theorem ANX.s3 {t r q il w a1 a2 a3 a4 : Nat} {cs : CS} (h : ANX t r q il w a1 a2 a3 a4 cs) : kR cs 393 0 = some a3 := h.2.2.2.2.2.1
theorem ANX.s4 {t r q il w a1 a2 a3 a4 : Nat} {cs : CS} (h : ANX t r q il w a1 a2 a3 a4 cs) : kR cs 394 0 = some a4 := h.2.2.2.2.2.2.1
theorem ANX.or' {t r q il w a1 a2 a3 a4 : Nat} {cs : CS} (h : ANX t r q il w a1 a2 a3 a4 cs) : (5, r) ∈ kE cs := h.2.2.2.2.2.2.2.1
theorem ANX.ot {t r q il w a1 a2 a3 a4 : Nat} {cs : CS} (h : ANX t r q il w a1 a2 a3 a4 cs) : (10, t) ∈ kE cs := h.2.2.2.2.2.2.2.2.1
theorem ANX.tp {t r q il w a1 a2 a3 a4 : Nat} {cs : CS} (h : ANX t r q il w a1 a2 a3 a4 cs) : kR cs 323 t = some q := h.2.2.2.2.2.2.2.2.2.1
theorem ANX.oq {t r q il w a1 a2 a3 a4 : Nat} {cs : CS} (h : ANX t r q il w a1 a2 a3 a4 cs) : (4, q) ∈ kE cs := h.2.2.2.2.2.2.2.2.2.2.1
theorem ANX.im {t r q il w a1 a2 a3 a4 : Nat} {cs : CS} (h : ANX t r q il w a1 a2 a3 a4 cs) : kR cs 129 q = some il := h.2.2.2.2.2.2.2.2.2.2.2.1
theorem ANX.ic {t r q il w a1 a2 a3 a4 : Nat} {cs : CS} (h : ANX t r q il w a1 a2 a3 a4 cs) : CLM il w cs := h.2.2.2.2.2.2.2.2.2.2.2.2
theorem ANX.gf {t r q il w a1 a2 a3 a4 : Nat} {a b : CS} (h : ANX t r q il w a1 a2 a3 a4 a) (g : GFR a b) : ANX t r q il w a1 a2 a3 a4 b := by
  have e := fun x (hx : 389 ≤ x ∧ x ≤ 394) => (g.2 x 0 (by omega) (by omega) (by omega)).r
  exact ⟨g.1 _ h.o, by rw [e 389 (by omega)]; exact h.st, by rw [e 390 (by omega)]; exact h.rn, by rw [e 391 (by omega)]; exact h.s1, by rw [e 392 (by omega)]; exact h.s2, by rw [e 393 (by omega)]; exact h.s3, by rw [e 394 (by omega)]; exact h.s4, g.1 _ h.or', g.1 _ h.ot, by rw [(g.2 323 t (by omega) (by omega) (by omega)).r]; exact h.tp, g.1 _ h.oq, by rw [(g.2 129 q (by omega) (by omega) (by omega)).r]; exact h.im, h.ic.keep g.1 (fun x q1 q2 => g.2 x il (by omega) (by omega) (by omega))⟩
theorem ANX.wd {F t r q il w a1 a2 a3 a4 : Nat} {cs : CS} (h : ANX t r q il w a1 a2 a3 a4 cs) : c_X11_width F cs 0 = some (nI w) := by
  unfold c_X11_width c_X11_width_b24
  rw [gR_ok h.o, ob_s, h.st]
  show (Option.bind (some (some t)) fun v_3 => Option.bind (v_3) fun i_4 => Option.bind (gR cs 10 323 i_4) fun v_5 => Option.bind (v_5) fun i_6 => Option.bind (gR cs 4 129 i_6) fun v_7 => Option.bind (v_7) fun i_8 => Option.bind (gI cs 3 96 i_8) fun v_9 => some v_9) = _
  rw [ob_s, ob_s, gR_ok h.ot, ob_s, h.tp, ob_s, gR_ok h.oq, ob_s, h.im, ob_s, gI_ok h.ic.e, ob_s, h.ic.sz]
theorem STS.of {c ar br B m : Nat} {a b : CS} (h : STS br B a) (f : STF c ar m a b) (hne : br ≠ ar) : STS br B b := h.at' f.em (f.fr 288 br (by omega) (by omega)) (f.fr 289 br (by omega) (by omega)) (f.fr 290 br (by omega) (by omega)) (f.fr 291 br (by omega) (by omega))
theorem RWS.of' {c ar br p w m : Nat} {rows : LL} {a b : CS} (h : RWS br p w rows a) (f : STF c ar m a b) (hne : br ≠ ar) : RWS br p w rows b := h.mv (Nat.le_of_eq (f.fr 288 br (by omega) (by omega)).l.symm) (fun i _ _ => sv.at' (f.fr 288 br (by omega) (by omega)) (f.fr 289 br (by omega) (by omega)))
/-- rows taken over from another strip -/
theorem take_rows {ar br w n : Nat} {R : LL} {a b : CS} (h : RWS br 0 w R a) (hn : n = R.length * w) (hl : n ≤ kL b 288 ar) (e : ∀ k, k < n → sv b ar k = sv a br k) : RWS ar 0 w R b := by
  refine ⟨by rw [Nat.zero_add, ← hn]; exact hl, Eq.trans ?_ h.eq⟩
  unfold rwsC
  refine List.map_congr_left (fun i hi => ?_)
  unfold rwC
  refine List.map_congr_left (fun k hk => e _ ?_)
  have q := (in_row (p := 0) (List.mem_range.mp hi) (List.mem_range.mp hk)).1
  rw [hn]
  omega
/-- the rows of the old answer are kept -/
theorem ans_1 {F t r q il w a1 a2 a3 a4 B n0 : Nat} {tb : Bool} {S : LL} {cs : CS} (h : ANX t r q il w a1 a2 a3 a4 cs) (hne : a3 ≠ a4) (b4 : STS a4 B cs) (b3 : STS a3 B cs) (hB : B ≤ 400000) (hS : RWS a3 0 w S cs) (h395 : tb = true → kI cs 395 0 = nI S.length) (hn0 : n0 = if tb = true then S.length else 0) (hb : S.length * w ≤ B) : ∃ c1, c_X11_answer F cs 0 (if tb = true then 1 else 0) = c_X11_answer_b57 F c1 0 (if tb = true then 1 else 0) (nI w) (nI n0) ∧ STS a4 B c1 ∧ (∀ c, STF c a4 0 cs c1) ∧ RWS a4 0 w (S.take n0) c1 := by
  have bd := hS.bd
  rw [Nat.zero_add] at bd
  have n0l : n0 ≤ S.length := by
    rw [hn0]
    by_cases z : tb = true
    · rw [if_pos z]; exact Nat.le_refl _
    · rw [if_neg z]; exact Nat.zero_le _
  have q1 : n0 * w ≤ S.length * w := Nat.mul_le_mul_right w n0l
  obtain ⟨c1, e1, s1, l1, v1, f1⟩ := take_ok (F := F) (n := n0 * w) b4 b3.st hne hB (by omega) (by omega)
  have a1' := (f1 0).gf
  have h1 := h.gf a1'
  have t0 : (S.take n0).length = n0 := by rw [List.length_take]; omega
  have hS0 : RWS a3 0 w (S.take n0) cs := by
    have e := sub_rows (i := 0) (j := n0) hS (Nat.zero_le _) n0l
    rw [Nat.zero_mul, List.drop_zero] at e
    exact e
  refine ⟨c1, ?_, s1, f1, take_rows hS0 (by rw [t0]) l1 v1⟩
  have k395 : tb = true → kI c1 395 0 = nI S.length := fun z => by
    rw [((f1 0).fr 395 0 (by omega) (by omega)).i]
    exact h395 z
  have b42 : c_X11_answer_b42 F cs 0 (if tb = true then 1 else 0) (nI w) (nI (n0 * w)) (some a3) (some a4) = c_X11_answer_b57 F c1 0 (if tb = true then 1 else 0) (nI w) (nI n0) := by
    unfold c_X11_answer_b42 c_X11_answer_b45
    rw [ob_s, ob_s, ckE_ok b4.st.o, ob_s, e1, ob_s]
    by_cases z : tb = true
    · rw [if_pos z] at hn0
      rw [if_pos z, if_neg (show ¬ (1 : Int32) = 0 by decide), gI_ok h1.o, ob_s, k395 z, hn0]
    · rw [if_neg z] at hn0
      rw [if_neg z, if_pos rfl, hn0]
      rfl
  unfold c_X11_answer
  rw [gR_ok h.o, ob_s, h.st]
  show (Option.bind (gR cs 12 390 0) fun v_55 => oc v_55 (c_X11_answer_b14 F cs) (fun i_56 => Option.bind (ckE cs 12 0) fun _ => Option.bind (c_X11_width F cs 0) fun v_57 => Option.bind (gR cs 12 394 0) fun v_59 => Option.bind (gR cs 12 393 0) fun v_60 => if (if tb = true then (1 : Int32) else 0) = 0 then (c_X11_answer_b42 F cs 0 (if tb = true then 1 else 0) v_57 0 v_60 v_59) else (Option.bind (gI cs 12 395 0) fun v_62 => c_X11_answer_b42 F cs 0 (if tb = true then 1 else 0) v_57 (v_62 * v_57) v_60 v_59))) = _
  rw [gR_ok h.o, ob_s, h.rn]
  show (Option.bind (ckE cs 12 0) fun _ => Option.bind (c_X11_width F cs 0) fun v_57 => Option.bind (gR cs 12 394 0) fun v_59 => Option.bind (gR cs 12 393 0) fun v_60 => if (if tb = true then (1 : Int32) else 0) = 0 then (c_X11_answer_b42 F cs 0 (if tb = true then 1 else 0) v_57 0 v_60 v_59) else (Option.bind (gI cs 12 395 0) fun v_62 => c_X11_answer_b42 F cs 0 (if tb = true then 1 else 0) v_57 (v_62 * v_57) v_60 v_59)) = _
  rw [ckE_ok h.o, ob_s, h.wd, ob_s, gR_ok h.o, ob_s, h.s4, gR_ok h.o, ob_s, h.s3]
  by_cases z : tb = true
  · rw [if_pos z] at hn0
    rw [if_pos z] at b42 ⊢
    rw [if_neg (show ¬ (1 : Int32) = 0 by decide), gI_ok h.o, ob_s, h395 z, pk_mul]
    rw [hn0] at b42 ⊢
    exact b42
  · rw [if_neg z] at hn0
    rw [if_neg z] at b42 ⊢
    rw [if_pos rfl]
    rw [hn0, Nat.zero_mul] at b42
    rw [hn0]
    exact b42

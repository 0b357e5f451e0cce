/-! the checker's own state, and its small methods -/
def CK (t c cap s k : Nat) (cs : CS) : Prop := ((1, k) ∈ kE cs) ∧ (kR cs 32 k = some t) ∧ (kR cs 33 k = some 2) ∧ (kR cs 34 k = some c) ∧ ((10, t) ∈ kE cs) ∧ ((2, c) ∈ kE cs) ∧ (CA c cap cs) ∧ (kI cs 64 c = nI s) ∧ (s ≤ cap) ∧ (cap ≤ 120)
theorem CK.o {t c cap s k : Nat} {cs : CS} (h : CK t c cap s k cs) : (1, k) ∈ kE cs := h.1
theorem CK.r32 {t c cap s k : Nat} {cs : CS} (h : CK t c cap s k cs) : kR cs 32 k = some t := h.2.1
theorem CK.r33 {t c cap s k : Nat} {cs : CS} (h : CK t c cap s k cs) : kR cs 33 k = some 2 := h.2.2.1
theorem CK.r34 {t c cap s k : Nat} {cs : CS} (h : CK t c cap s k cs) : kR cs 34 k = some c := h.2.2.2.1
theorem CK.ot {t c cap s k : Nat} {cs : CS} (h : CK t c cap s k cs) : (10, t) ∈ kE cs := h.2.2.2.2.1
theorem CK.oc {t c cap s k : Nat} {cs : CS} (h : CK t c cap s k cs) : (2, c) ∈ kE cs := h.2.2.2.2.2.1
theorem CK.ca {t c cap s k : Nat} {cs : CS} (h : CK t c cap s k cs) : CA c cap cs := h.2.2.2.2.2.2.1
theorem CK.cn {t c cap s k : Nat} {cs : CS} (h : CK t c cap s k cs) : kI cs 64 c = nI s := h.2.2.2.2.2.2.2.1
theorem CK.sc {t c cap s k : Nat} {cs : CS} (h : CK t c cap s k cs) : s ≤ cap := h.2.2.2.2.2.2.2.2.1
theorem CK.cp {t c cap s k : Nat} {cs : CS} (h : CK t c cap s k cs) : cap ≤ 120 := h.2.2.2.2.2.2.2.2.2
theorem ck_c {t c cap s k : Nat} {cs : CS} {α : Type} {G : Nat → Option α} (h : CK t c cap s k cs) : (Option.bind (gR cs 1 34 k) fun v => Option.bind v fun i => G i) = G c := by
  rw [gR_ok h.o, ob_s, h.r34, ob_s]
theorem ck_t {t c cap s k : Nat} {cs : CS} {α : Type} {G : Nat → Option α} (h : CK t c cap s k cs) : (Option.bind (gR cs 1 32 k) fun v => Option.bind v fun i => G i) = G t := by
  rw [gR_ok h.o, ob_s, h.r32, ob_s]
theorem ck_65 {t c cap s k : Nat} {cs : CS} {α : Type} {x : Nat} {G : Int32 → Option α} (h : CK t c cap s k cs) (hx : x < s) : (Option.bind (gA cs 2 65 c) fun v => Option.bind (rA cs 65 c v (nI x)) fun w => G w) = G (kA cs 65 c x) := by
  obtain ⟨j, p⟩ := h.ca.p65
  have := h.sc
  have := h.cp
  rw [gA_ok h.oc, p, ob_s, rA_n h.ca.e65 p (by rw [h.ca.l65]; omega) (by rw [h.ca.l65]; omega), ob_s]
theorem ck_66 {t c cap s k : Nat} {cs : CS} {α : Type} {x : Nat} {G : Int32 → Option α} (h : CK t c cap s k cs) (hx : x < s) : (Option.bind (gA cs 2 66 c) fun v => Option.bind (rA cs 66 c v (nI x)) fun w => G w) = G (kA cs 66 c x) := by
  obtain ⟨j, p⟩ := h.ca.p66
  have := h.sc
  have := h.cp
  rw [gA_ok h.oc, p, ob_s, rA_n h.ca.e66 p (by rw [h.ca.l66]; omega) (by rw [h.ca.l66]; omega), ob_s]
theorem ck_67 {t c cap s k : Nat} {cs : CS} {α : Type} {x : Nat} {G : Int32 → Option α} (h : CK t c cap s k cs) (hx : x < s) : (Option.bind (gA cs 2 67 c) fun v => Option.bind (rA cs 67 c v (nI x)) fun w => G w) = G (kA cs 67 c x) := by
  obtain ⟨j, p⟩ := h.ca.p67
  have := h.sc
  have := h.cp
  rw [gA_ok h.oc, p, ob_s, rA_n h.ca.e67 p (by rw [h.ca.l67]; omega) (by rw [h.ca.l67]; omega), ob_s]
theorem ck_68 {t c cap s k : Nat} {cs : CS} {α : Type} {x : Nat} {G : Int32 → Option α} (h : CK t c cap s k cs) (hx : x < s) : (Option.bind (gA cs 2 68 c) fun v => Option.bind (rA cs 68 c v (nI x)) fun w => G w) = G (kA cs 68 c x) := by
  obtain ⟨j, p⟩ := h.ca.p68
  have := h.sc
  have := h.cp
  rw [gA_ok h.oc, p, ob_s, rA_n h.ca.e68 p (by rw [h.ca.l68]; omega) (by rw [h.ca.l68]; omega), ob_s]
theorem ck_71 {t c cap s k : Nat} {cs : CS} {α : Type} {x : Nat} {G : Int32 → Option α} (h : CK t c cap s k cs) (hx : x < s) : (Option.bind (gA cs 2 71 c) fun v => Option.bind (rA cs 71 c v (nI x)) fun w => G w) = G (kA cs 71 c x) := by
  obtain ⟨j, p⟩ := h.ca.p71
  have := h.sc
  have := h.cp
  rw [gA_ok h.oc, p, ob_s, rA_n h.ca.e71 p (by rw [h.ca.l71]; omega) (by rw [h.ca.l71]; omega), ob_s]
theorem ck_73 {t c cap s k : Nat} {cs : CS} {α : Type} {x : Nat} {G : Int32 → Option α} (h : CK t c cap s k cs) (hx : x < s) : (Option.bind (gA cs 2 73 c) fun v => Option.bind (rA cs 73 c v (nI x)) fun w => G w) = G (kA cs 73 c x) := by
  obtain ⟨j, p⟩ := h.ca.p73
  have := h.sc
  have := h.cp
  rw [gA_ok h.oc, p, ob_s, rA_n h.ca.e73 p (by rw [h.ca.l73]; omega) (by rw [h.ca.l73]; omega), ob_s]
theorem ck_w73 {t c cap s k : Nat} {cs : CS} {α : Type} {x : Nat} {v : Int32} {G : CS → Option α} (h : CK t c cap s k cs) (hx : x < s) : (Option.bind (gA cs 2 73 c) fun j => Option.bind (wA cs 73 c j (nI x) v) fun w => G w) = G (sA cs 73 c x v) := by
  obtain ⟨j, p⟩ := h.ca.p73
  have := h.sc
  have := h.cp
  rw [gA_ok h.oc, p, ob_s, wA_n h.ca.e73 p (by rw [h.ca.l73]; omega) (by rw [h.ca.l73]; omega), ob_s]
theorem ck_w72 {t c cap s k : Nat} {cs : CS} {α : Type} {x : Nat} {v : Int32} {G : CS → Option α} (h : CK t c cap s k cs) (hx : x < s) : (Option.bind (gA cs 2 72 c) fun j => Option.bind (wA cs 72 c j (nI x) v) fun w => G w) = G (sA cs 72 c x v) := by
  obtain ⟨j, p⟩ := h.ca.p72
  have := h.sc
  have := h.cp
  rw [gA_ok h.oc, p, ob_s, wA_n h.ca.e72 p (by rw [h.ca.l72]; omega) (by rw [h.ca.l72]; omega), ob_s]
theorem ck_has {t c cap s k : Nat} {cs : CS} {F x : Nat} (h : CK t c cap s k cs) (hx : x < s) : c_X1_has F cs c (nI x) = some 1 := has_in h.oc h.ca h.cn hx h.sc h.cp
theorem ck_no {F c : Nat} {cs : CS} : c_X1_has F cs c (-1) = some 0 := by
  unfold c_X1_has c_X1_has_b25 c_X1_has_b26
  rw [if_pos (by decide)]
  rfl
/-- what the checker may write: types and columns of nodes, its own fields, the fault -/
theorem CK.mv {t c cap s k : Nat} {cs : CS} {cs' : CS} (h : CK t c cap s k cs) (em : EM cs cs') (a1 : ∀ x, x = 32 ∨ x = 33 ∨ x = 34 → AT cs cs' x k) (ac : ∀ x, 64 ≤ x → x < 96 → kP cs' x c = kP cs x c ∧ kL cs' x c = kL cs x c) (a64 : kI cs' 64 c = kI cs 64 c) : CK t c cap s k cs' := by
  refine ⟨em _ h.o, by rw [(a1 32 (by omega)).r]; exact h.r32, by rw [(a1 33 (by omega)).r]; exact h.r33, by rw [(a1 34 (by omega)).r]; exact h.r34, em _ h.ot, em _ h.oc, ?_, a64.trans h.cn, h.sc, h.cp⟩
  have a := h.ca
  exact ⟨em _ a.e65, by rw [(ac 65 (by decide) (by decide)).1]; exact a.p65, by rw [(ac 65 (by decide) (by decide)).2]; exact a.l65, em _ a.e66, by rw [(ac 66 (by decide) (by decide)).1]; exact a.p66, by rw [(ac 66 (by decide) (by decide)).2]; exact a.l66, em _ a.e67, by rw [(ac 67 (by decide) (by decide)).1]; exact a.p67, by rw [(ac 67 (by decide) (by decide)).2]; exact a.l67, em _ a.e68, by rw [(ac 68 (by decide) (by decide)).1]; exact a.p68, by rw [(ac 68 (by decide) (by decide)).2]; exact a.l68, em _ a.e69, by rw [(ac 69 (by decide) (by decide)).1]; exact a.p69, by rw [(ac 69 (by decide) (by decide)).2]; exact a.l69, em _ a.e70, by rw [(ac 70 (by decide) (by decide)).1]; exact a.p70, by rw [(ac 70 (by decide) (by decide)).2]; exact a.l70, em _ a.e71, by rw [(ac 71 (by decide) (by decide)).1]; exact a.p71, by rw [(ac 71 (by decide) (by decide)).2]; exact a.l71, em _ a.e72, by rw [(ac 72 (by decide) (by decide)).1]; exact a.p72, by rw [(ac 72 (by decide) (by decide)).2]; exact a.l72, em _ a.e73, by rw [(ac 73 (by decide) (by decide)).1]; exact a.p73, by rw [(ac 73 (by decide) (by decide)).2]; exact a.l73, em _ a.e74, by rw [(ac 74 (by decide) (by decide)).1]; exact a.p74, by rw [(ac 74 (by decide) (by decide)).2]; exact a.l74, em _ a.e75, by rw [(ac 75 (by decide) (by decide)).1]; exact a.p75, by rw [(ac 75 (by decide) (by decide)).2]; exact a.l75⟩
theorem CK.sA {t c cap s k : Nat} {cs : CS} {x i y : Nat} {v : Int32} (h : CK t c cap s k cs) : CK t c cap s k (sA cs x i y v) := ⟨h.o, h.r32, h.r33, h.r34, h.ot, h.oc, h.ca, h.cn, h.sc, h.cp⟩
theorem CK.bad {t c cap s k : Nat} {cs : CS} {a v : Int32} (h : CK t c cap s k cs) : CK t c cap s k (sI (sI cs 320 t a) 321 t v) := ⟨h.o, h.r32, h.r33, h.r34, h.ot, h.oc, h.ca, (kI_n (by omega)).trans ((kI_n (by omega)).trans h.cn), h.sc, h.cp⟩
theorem ref_ck {t c cap s k : Nat} {cs : CS} {F : Nat} {a b : Int32} (h : CK t c cap s k cs) (f0 : kI cs 320 t = 0) : c_X9_refuse F cs t a b = some (sI (sI cs 320 t a) 321 t b) := by
  unfold c_X9_refuse c_X9_refuse_b17
  rw [gI_ok h.ot, ob_s, if_pos f0, pI_ok h.ot, ob_s, pI_ok (cs := sI cs 320 t a) h.ot, ob_s]
theorem ref_ckf {t c cap s k : Nat} {cs : CS} {F : Nat} {a b : Int32} (h : CK t c cap s k cs) (f0 : kI cs 320 t ≠ 0) : c_X9_refuse F cs t a b = some cs := by
  unfold c_X9_refuse c_X9_refuse_b17
  rw [gI_ok h.ot, ob_s, if_neg f0]
theorem nI_p1 {a : Nat} (h : 1 ≤ a) : nI a - 1 = nI (a - 1) := by
  obtain ⟨b, rfl⟩ : ∃ b, a = b + 1 := ⟨a - 1, by omega⟩
  rw [← nI_1]
  show nI b + 1 - 1 = nI b
  exact Int32.add_sub_cancel _ _
/-- n parts side by side, the last ends at x: B tells which are wrong, r the leftmost of them (or acc) -/
def WRP (V : VT) (B : Nat → Prop) : Nat → Nat → Option Nat → Option Nat → Prop
  | 0, _, acc, r => r = acc
  | n + 1, x, acc, r => ∃ a, vf V x = nI a ∧ a ≤ x ∧ (n = 0 ∨ 1 ≤ a) ∧ ((B x ∧ WRP V B n (a - 1) (some x) r) ∨ (¬ B x ∧ WRP V B n (a - 1) acc r))
def oE : Option Nat → Int32
  | none => -1
  | some y => nI y
/-- what wantParts leaves: a fault or none, and the node's type -/
def wPa (t c e : Nat) (R : Int32) (cs : CS) : Option Nat → CS
  | none => sA cs 73 c e R
  | some y => sA (sI (sI cs 320 t 4) 321 t (kA cs 66 c y)) 73 c e R
theorem wp_L {t c cap s k : Nat} {cs : CS} {F e tot : Nat} {W R : Int32} {rs : RS} (h : CK t c cap s k cs) (he : e < s) (f0 : kI cs 320 t = 0) (hp : vp (VW c cs rs) e = nI tot) (ht : tot ≤ 122) : ∀ (n v u x : Nat) (xx : Int32) (acc r : Option Nat), n < v → u + n = tot → (0 < n → xx = nI x ∧ x < s) → (∀ y, acc = some y → y < s) → WRP (VW c cs rs) (fun y => kA cs 73 c y &&& W = 0) n x acc r → c_X0_wantParts_L11 F v cs k (nI e) W R (oE acc) xx (nI u) = some (wPa t c e R cs r) := by
  have hp' : kA cs 68 c e = nI tot := hp
  intro n
  induction n with
  | zero =>
    intro v u x xx acc r hv hu hx hacc hw
    obtain ⟨v, rfl⟩ : ∃ y, v = y + 1 := ⟨v - 1, by omega⟩
    have er : r = acc := hw
    subst er
    rw [c_X0_wantParts_L11, ck_c h, ck_68 h he, hp', if_pos (show nI tot ≤ nI u by rw [show u = tot by omega]; exact Int32.le_refl _)]
    unfold c_X0_wantParts_b76
    rw [ck_c h, ckE_ok h.oc, ob_s]
    cases r with
    | none =>
      rw [show oE none = -1 from rfl, ck_no, ob_s, if_pos rfl]
      unfold c_X0_wantParts_b106
      rw [ck_c h, ck_w73 h he]
      rfl
    | some y =>
      have hy := hacc y rfl
      have h2 : CK t c cap s k (sI (sI cs 320 t 4) 321 t (kA cs 66 c y)) := h.bad
      rw [show oE (some y) = nI y from rfl, ck_has h hy, ob_s, if_neg (by decide), gR_ok h.o, ob_s, ck_c h, ck_66 h hy, h.r32, ob_s, ckE_ok h.ot, ob_s, ref_ck h f0, ob_s]
      unfold c_X0_wantParts_b106
      rw [ck_c h2, ck_w73 h2 he]
      rfl
  | succ n ih =>
    intro v u x xx acc r hv hu hx hacc hw
    obtain ⟨v, rfl⟩ : ∃ y, v = y + 1 := ⟨v - 1, by omega⟩
    obtain ⟨hx1, hx2⟩ := hx (by omega)
    obtain ⟨a, a1, a2, a3, a4⟩ := hw
    have a1' : kA cs 67 c x = nI a := a1
    have sp := h.sc
    have cp := h.cp
    rw [c_X0_wantParts_L11, ck_c h, ck_68 h he, hp', if_neg (nI_ge (b := tot) (by omega) (by omega)), hx1, ck_c h, ckE_ok h.oc, ob_s, ck_has h hx2, ob_s, if_neg (by decide), ck_c h, ck_73 h hx2]
    unfold c_X0_wantParts_b56
    have nx : 0 < n → nI a - 1 = nI (a - 1) ∧ a - 1 < s := fun hn => ⟨nI_p1 (by omega), by omega⟩
    rcases a4 with ⟨b1, b2⟩ | ⟨b1, b2⟩
    · rw [if_pos b1, ck_c h, ck_67 h hx2, a1', nI_1]
      exact ih v (u + 1) (a - 1) (nI a - 1) (some x) r (by omega) (by omega) nx (fun y hy => by cases hy; exact hx2) b2
    · rw [if_neg b1, ck_c h, ck_67 h hx2, a1', nI_1]
      exact ih v (u + 1) (a - 1) (nI a - 1) acc r (by omega) (by omega) nx hacc b2
theorem wp_ok {t c cap s k : Nat} {cs : CS} {F e tot x : Nat} {W R : Int32} {rs : RS} {r : Option Nat} (hF : 10000 ≤ F) (h : CK t c cap s k cs) (he : e < s) (f0 : kI cs 320 t = 0) (hp : vp (VW c cs rs) e = nI tot) (ht : 1 ≤ tot ∧ tot ≤ 122) (h1 : 1 ≤ e) (hw : WRP (VW c cs rs) (fun y => kA cs 73 c y &&& W = 0) tot (e - 1) none r) : c_X0_wantParts F cs k (nI e) W R = some (wPa t c e R cs r) := by
  unfold c_X0_wantParts
  exact wp_L h he f0 hp ht.2 tot F 0 (e - 1) (nI e - 1) none r (by omega) (by omega) (fun _ => ⟨nI_p1 (by omega), by omega⟩) (fun y hy => by cases hy) hw

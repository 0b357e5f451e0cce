/-! judging an EXPR: types, frames, states of both -/
def TYR (y r : Int32) : Prop := (y = 1 ∧ r = 1) ∨ (y = 2 ∧ r = 2) ∨ (y = 3 ∧ r = 0)
def jR (k : Nat) : Prop := k = 19 ∨ k = 20 ∨ k = 21 ∨ k = 31 ∨ k = 33
/-- what judging writes -/
def JF (t c : Nat) (cs : CS) (rs : RS) (cs' : CS) (rs' : RS) : Prop := (cs'.1 = cs.1) ∧ (∀ x j, ¬ (j = c ∧ (x = 72 ∨ x = 73)) → ¬ (j = t ∧ (x = 320 ∨ x = 321)) → AT cs cs' x j) ∧ (∀ x, kP cs' x c = kP cs x c ∧ kL cs' x c = kL cs x c) ∧ (FR jR rs rs') ∧ (∀ x, kA cs 65 c x ≠ 39 → kA cs' 72 c x = kA cs 72 c x)
theorem JF.c1 {t c : Nat} {cs : CS} {rs : RS} {cs' : CS} {rs' : RS} (h : JF t c cs rs cs' rs') : cs'.1 = cs.1 := h.1
theorem JF.a0 {t c : Nat} {cs : CS} {rs : RS} {cs' : CS} {rs' : RS} (h : JF t c cs rs cs' rs') : ∀ x j, ¬ (j = c ∧ (x = 72 ∨ x = 73)) → ¬ (j = t ∧ (x = 320 ∨ x = 321)) → AT cs cs' x j := h.2.1
theorem JF.pl {t c : Nat} {cs : CS} {rs : RS} {cs' : CS} {rs' : RS} (h : JF t c cs rs cs' rs') : ∀ x, kP cs' x c = kP cs x c ∧ kL cs' x c = kL cs x c := h.2.2.1
theorem JF.fr {t c : Nat} {cs : CS} {rs : RS} {cs' : CS} {rs' : RS} (h : JF t c cs rs cs' rs') : FR jR rs rs' := h.2.2.2.1
theorem JF.s72 {t c : Nat} {cs : CS} {rs : RS} {cs' : CS} {rs' : RS} (h : JF t c cs rs cs' rs') : ∀ x, kA cs 65 c x ≠ 39 → kA cs' 72 c x = kA cs 72 c x := h.2.2.2.2
theorem JF.refl {t c : Nat} {cs : CS} {rs : RS} : JF t c cs rs cs rs := ⟨rfl, fun _ _ _ _ => AT.refl, fun _ => ⟨rfl, rfl⟩, FR.refl rs, fun _ _ => rfl⟩
theorem JF.trans {t c : Nat} {a b d : CS} {x y w : RS} (h : JF t c a x b y) (g : JF t c b y d w) : JF t c a x d w := ⟨g.c1.trans h.c1, fun k j a1 a2 => (h.a0 k j a1 a2).trans (g.a0 k j a1 a2), fun k => ⟨(g.pl k).1.trans (h.pl k).1, (g.pl k).2.trans (h.pl k).2⟩, h.fr.trans g.fr, fun v hv => (g.s72 v (by rw [(h.a0 65 c (by omega) (by omega)).a]; exact hv)).trans (h.s72 v hv)⟩
theorem JF.cA {t c x i : Nat} {v : Int32} {cs : CS} {rs : RS} (hx : x = 73 ∨ (x = 72 ∧ kA cs 65 c i = 39)) : JF t c cs rs (sA cs x c i v) rs := by
  refine ⟨rfl, fun k j a1 a2 => AT.sA (by omega), fun _ => ⟨rfl, rfl⟩, FR.refl rs, fun w hw => ?_⟩
  rcases hx with y | ⟨y, y1⟩
  · rw [(AT.sA (cs := cs) (t := x) (j := c) (y := i) (v := v) (x := 72) (i := c) (by omega)).a]
  · rw [y, kA_s]
    by_cases z : w = i
    · rw [z] at hw
      exact absurd y1 hw
    · rw [pk_un z]
theorem JF.rI {t c x i : Nat} {v : Int32} {cs : CS} {rs : RS} (hx : x = 31 ∨ x = 33) : JF t c cs rs cs (setI rs x i v) := ⟨rfl, fun _ _ _ _ => AT.refl, fun _ => ⟨rfl, rfl⟩, FR.setI (by unfold jR; omega), fun _ _ => rfl⟩
theorem JF.bad {t c : Nat} {a b : Int32} {cs : CS} {rs : RS} : JF t c cs rs (sI (sI cs 320 t a) 321 t b) (setF (setF (setF rs 21 0) 19 a) 20 b) := ⟨rfl, fun k j a1 a2 => (AT.sI (by omega)).trans (AT.sI (by omega)), fun _ => ⟨rfl, rfl⟩, ((FR.setF (by unfold jR; omega)).trans (FR.setF (by unfold jR; omega))).trans (FR.setF (by unfold jR; omega)), fun _ _ => rfl⟩
theorem CK.jf {t c cap s k : Nat} {cs : CS} {cs' : CS} {rs rs' : RS} (h : CK t c cap s k cs) (j : JF t c cs rs cs' rs') : CK t c cap s k cs' := h.mv (EM.of (congrArg (fun z => z.2.2) j.c1)) (fun x hx => j.a0 x k (by omega) (by omega)) (fun x _ _ => j.pl x) (j.a0 64 c (by omega) (by omega)).i
theorem VW.jf {t c : Nat} {cs cs' : CS} {rs rs' : RS} (j : JF t c cs rs cs' rs') : VW c cs' rs' = VW c cs rs := by
  funext e
  unfold VW
  rw [(j.a0 65 c (by omega) (by omega)).a, (j.a0 67 c (by omega) (by omega)).a, (j.a0 68 c (by omega) (by omega)).a, (j.a0 66 c (by omega) (by omega)).a, (j.a0 69 c (by omega) (by omega)).b, (j.a0 71 c (by omega) (by omega)).a, (j.a0 70 c (by omega) (by omega)).b, j.fr.a (k := 23) (by unfold jR; omega), j.fr.a (k := 24) (by unfold jR; omega), j.fr.a (k := 25) (by unfold jR; omega), j.fr.a (k := 26) (by unfold jR; omega), j.fr.a (k := 27) (by unfold jR; omega), j.fr.l (k := 28) (by unfold jR; omega), j.fr.a (k := 29) (by unfold jR; omega), j.fr.a (k := 32) (by unfold jR; omega), j.fr.a (k := 30) (by unfold jR; omega)]
/-- both good, nodes lo to i - 1 of the EXPR are judged -/
def JS (t c cap s k lo i : Nat) (V : VT) (D : Nat → Prop) (Sc : CS → RS → Prop) (cs : CS) (rs : RS) : Prop := (CK t c cap s k cs) ∧ (kI cs 320 t = 0) ∧ (rs.1 21 = 1) ∧ (∀ x, x < s → VW c cs rs x = V x) ∧ (∀ x, lo ≤ x → x < i → TYR (kA cs 73 c x) (rs.2.2.1 31 x)) ∧ (∀ x, (D x ∨ (lo ≤ x ∧ x < i)) → vk V x = 39 → kA cs 72 c x = rs.2.2.1 33 x) ∧ (Sc cs rs)
theorem JS.ck {t c cap s k lo i : Nat} {V : VT} {D : Nat → Prop} {Sc : CS → RS → Prop} {cs : CS} {rs : RS} (h : JS t c cap s k lo i V D Sc cs rs) : CK t c cap s k cs := h.1
theorem JS.f0 {t c cap s k lo i : Nat} {V : VT} {D : Nat → Prop} {Sc : CS → RS → Prop} {cs : CS} {rs : RS} (h : JS t c cap s k lo i V D Sc cs rs) : kI cs 320 t = 0 := h.2.1
theorem JS.g1 {t c cap s k lo i : Nat} {V : VT} {D : Nat → Prop} {Sc : CS → RS → Prop} {cs : CS} {rs : RS} (h : JS t c cap s k lo i V D Sc cs rs) : rs.1 21 = 1 := h.2.2.1
theorem JS.v {t c cap s k lo i : Nat} {V : VT} {D : Nat → Prop} {Sc : CS → RS → Prop} {cs : CS} {rs : RS} (h : JS t c cap s k lo i V D Sc cs rs) : ∀ x, x < s → VW c cs rs x = V x := h.2.2.2.1
theorem JS.ty {t c cap s k lo i : Nat} {V : VT} {D : Nat → Prop} {Sc : CS → RS → Prop} {cs : CS} {rs : RS} (h : JS t c cap s k lo i V D Sc cs rs) : ∀ x, lo ≤ x → x < i → TYR (kA cs 73 c x) (rs.2.2.1 31 x) := h.2.2.2.2.1
theorem JS.sl {t c cap s k lo i : Nat} {V : VT} {D : Nat → Prop} {Sc : CS → RS → Prop} {cs : CS} {rs : RS} (h : JS t c cap s k lo i V D Sc cs rs) : ∀ x, (D x ∨ (lo ≤ x ∧ x < i)) → vk V x = 39 → kA cs 72 c x = rs.2.2.1 33 x := h.2.2.2.2.2.1
theorem JS.sc {t c cap s k lo i : Nat} {V : VT} {D : Nat → Prop} {Sc : CS → RS → Prop} {cs : CS} {rs : RS} (h : JS t c cap s k lo i V D Sc cs rs) : Sc cs rs := h.2.2.2.2.2.2
/-- a fault in both -/
def JB (t c cap s k : Nat) (cs : CS) (rs : RS) : Prop := (CK t c cap s k cs) ∧ (kI cs 320 t ≠ 0) ∧ (rs.1 21 = 0) ∧ (rs.1 19 = kI cs 320 t) ∧ (rs.1 20 = kI cs 321 t)
theorem JB.ck {t c cap s k : Nat} {cs : CS} {rs : RS} (h : JB t c cap s k cs rs) : CK t c cap s k cs := h.1
theorem JB.f {t c cap s k : Nat} {cs : CS} {rs : RS} (h : JB t c cap s k cs rs) : kI cs 320 t ≠ 0 := h.2.1
theorem JB.g {t c cap s k : Nat} {cs : CS} {rs : RS} (h : JB t c cap s k cs rs) : rs.1 21 = 0 := h.2.2.1
theorem JB.e1 {t c cap s k : Nat} {cs : CS} {rs : RS} (h : JB t c cap s k cs rs) : rs.1 19 = kI cs 320 t := h.2.2.2.1
theorem JB.e2 {t c cap s k : Nat} {cs : CS} {rs : RS} (h : JB t c cap s k cs rs) : rs.1 20 = kI cs 321 t := h.2.2.2.2
/-- a scope that judging leaves as it is -/
def SCF (t c : Nat) (Sc : CS → RS → Prop) : Prop := ∀ cs rs cs' rs', Sc cs rs → JF t c cs rs cs' rs' → Sc cs' rs'
/-- within an aggregate names are looked for in the SOURCES -/
def SCA (lo root : Nat) (V : VT) (Sc : CS → RS → Prop) : Prop := ∀ x cs rs v, lo ≤ x → x ≤ root → AGC (vk V x) → Sc cs rs → (v = 0 ∨ ∃ cs0 rs0, Sc cs0 rs0 ∧ v = rs0.1 76) → Sc cs (setF rs 76 v)
theorem ty_bad {y r W : Int32} (h : TYR y r) (hW : W = 1 ∨ W = 2) : y &&& W = 0 ↔ (r ≠ W ∧ r ≠ 0) := by
  rcases h with ⟨h1, h2⟩ | ⟨h1, h2⟩ | ⟨h1, h2⟩ <;> rcases hW with w | w <;> (rw [h1, h2, w]; decide)
theorem want_f {F : Nat} {rs : RS} {x w : Int32} (g : rs.1 21 = 0) : m_want F rs x w = some rs := by
  unfold m_want m_want_b37
  rw [if_pos g]
theorem want_ok {F x : Nat} {rs : RS} {w : Int32} (g : rs.1 21 = 1) (hx : x < 121) (h : ¬ (rs.2.2.1 31 x ≠ w ∧ rs.2.2.1 31 x ≠ 0)) : m_want F rs (nI x) w = some rs := by
  unfold m_want m_want_b37
  rw [if_neg (by rw [g]; decide), rdI_n hx (by decide), ob_s]
  by_cases y : rs.2.2.1 31 x = w
  · rw [if_pos y]
  · rw [if_neg y, ob_s]
    by_cases z : rs.2.2.1 31 x = 0
    · rw [if_pos z]
    · exact absurd ⟨y, z⟩ h
theorem want_bad {F x : Nat} {rs : RS} {w : Int32} (g : rs.1 21 = 1) (hx : x < 121) (h : rs.2.2.1 31 x ≠ w ∧ rs.2.2.1 31 x ≠ 0) : m_want F rs (nI x) w = some (setF (setF (setF rs 21 0) 19 4) 20 (rs.2.2.1 29 x)) := by
  unfold m_want m_want_b37
  rw [if_neg (by rw [g]; decide), rdI_n hx (by decide), ob_s, if_neg h.1, ob_s, if_neg h.2, rdI_n hx (by decide), ob_s, tel_ok g, ob_s]
/-- the reference behind a row of wants: y is the first wrong one -/
def rWn (rs : RS) : Option Nat → RS
  | none => rs
  | some y => setF (setF (setF rs 21 0) 19 4) 20 (rs.2.2.1 29 y)
theorem JS.mv {t c cap s k lo i : Nat} {V : VT} {D : Nat → Prop} {Sc : CS → RS → Prop} {cs cs' : CS} {rs rs' : RS} (h : JS t c cap s k lo i V D Sc cs rs) (hS : SCF t c Sc) (j : JF t c cs rs cs' rs') (f0 : kI cs' 320 t = 0) (g1 : rs'.1 21 = 1) (i' : Nat) (ty : ∀ x, lo ≤ x → x < i' → TYR (kA cs' 73 c x) (rs'.2.2.1 31 x)) (sl : ∀ x, (D x ∨ (lo ≤ x ∧ x < i')) → vk V x = 39 → kA cs' 72 c x = rs'.2.2.1 33 x) : JS t c cap s k lo i' V D Sc cs' rs' := ⟨h.ck.jf j, f0, g1, fun x hx => by rw [VW.jf j]; exact h.v x hx, ty, sl, hS _ _ _ _ h.sc j⟩
/-- the node's type laid in both, no fault -/
theorem JS.ty1 {t c cap s k lo e : Nat} {V : VT} {D : Nat → Prop} {Sc : CS → RS → Prop} {cs : CS} {rs : RS} {R R' : Int32} (h : JS t c cap s k lo e V D Sc cs rs) (hS : SCF t c Sc) (hn : vk V e ≠ 39) (hR : TYR R R') : JF t c cs rs (sA cs 73 c e R) (setI rs 31 e R') ∧ JS t c cap s k lo (e + 1) V D Sc (sA cs 73 c e R) (setI rs 31 e R') := by
  have j : JF t c cs rs (sA cs 73 c e R) (setI rs 31 e R') := (JF.cA (Or.inl rfl)).trans (JF.rI (Or.inl rfl))
  have a73 : kA (sA cs 73 c e R) 73 c = upd (kA cs 73 c) e R := kA_s
  have a72 : kA (sA cs 73 c e R) 72 c = kA cs 72 c := (AT.sA (by omega)).a
  have r31 : ∀ x, x ≠ e → (setI rs 31 e R').2.2.1 31 x = rs.2.2.1 31 x := fun x hx => sIa_n (by omega)
  have r31e : (setI rs 31 e R').2.2.1 31 e = R' := pk_us
  have r33 : ∀ x, (setI rs 31 e R').2.2.1 33 x = rs.2.2.1 33 x := fun x => sIa_n (by omega)
  refine ⟨j, h.mv hS j h.f0 h.g1 (e + 1) (fun x h1 h2 => ?_) (fun x h1 h3 => ?_)⟩
  · rw [a73]
    by_cases y : x = e
    · rw [y, r31e, pk_us]; exact hR
    · rw [pk_un y, r31 x y]; exact h.ty x h1 (by omega)
  · have y : x ≠ e := fun w => hn (by rw [← w]; exact h3)
    rw [a72, r33 x]
    exact h.sl x (h1.imp_right (fun z => ⟨z.1, by omega⟩)) h3
/-- the node's type laid in both behind a row of wants -/
theorem JS.wp {t c cap s k lo e : Nat} {V : VT} {D : Nat → Prop} {Sc : CS → RS → Prop} {cs : CS} {rs : RS} {R R' : Int32} {r : Option Nat} (h : JS t c cap s k lo e V D Sc cs rs) (hS : SCF t c Sc) (hn : vk V e ≠ 39) (hR : TYR R R') (hy : ∀ y, r = some y → y < s ∧ vb V y = rb V y) : JF t c cs rs (wPa t c e R cs r) (setI (rWn rs r) 31 e R') ∧ ((r = none ∧ JS t c cap s k lo (e + 1) V D Sc (wPa t c e R cs r) (setI (rWn rs r) 31 e R')) ∨ (r ≠ none ∧ JB t c cap s k (wPa t c e R cs r) (setI (rWn rs r) 31 e R'))) := by
  cases r with
  | none =>
    obtain ⟨a, b⟩ := h.ty1 hS hn hR
    exact ⟨a, Or.inl ⟨rfl, b⟩⟩
  | some y =>
    obtain ⟨y1, y2⟩ := hy y rfl
    have pl : kA cs 66 c y = rs.2.2.1 29 y := by
      have w := h.v y y1
      have w1 : vb (VW c cs rs) y = rb (VW c cs rs) y := by
        unfold vb rb
        rw [w]
        exact y2
      exact w1
    have j : JF t c cs rs (sA (sI (sI cs 320 t 4) 321 t (kA cs 66 c y)) 73 c e R) (setI (setF (setF (setF rs 21 0) 19 4) 20 (rs.2.2.1 29 y)) 31 e R') := by
      rw [pl]
      exact (JF.bad.trans (JF.cA (Or.inl rfl))).trans (JF.rI (Or.inl rfl))
    refine ⟨j, Or.inr ⟨fun w => (by cases w), h.ck.jf j, ?_, rfl, ?_, ?_⟩⟩
    · show kI (sI (sI cs 320 t 4) 321 t (kA cs 66 c y)) 320 t ≠ 0
      rw [kI_n (by omega), kI_s]
      decide
    · show (4 : Int32) = kI (sI (sI cs 320 t 4) 321 t (kA cs 66 c y)) 320 t
      rw [kI_n (by omega), kI_s]
    · show rs.2.2.1 29 y = kI (sI (sI cs 320 t 4) 321 t (kA cs 66 c y)) 321 t
      rw [kI_s, pl]
/-- behind a fault the reference's types alone may move -/
theorem JB.r31 {t c cap s k x : Nat} {v : Int32} {cs : CS} {rs : RS} (h : JB t c cap s k cs rs) : JB t c cap s k cs (setI rs 31 x v) := ⟨h.ck, h.f, h.g, h.e1, h.e2⟩
theorem JB.r76 {t c cap s k : Nat} {v : Int32} {cs : CS} {rs : RS} (h : JB t c cap s k cs rs) : JB t c cap s k cs (setF rs 76 v) := ⟨h.ck, h.f, h.g, h.e1, h.e2⟩
theorem ca_24 {t c cap s k : Nat} {cs : CS} {F e : Nat} (h : CK t c cap s k cs) (he : e < s) (hk : kA cs 65 c e = 24) : c_X0_checkAct F cs k (nI e) = some (sA cs 73 c e 2) := by
  unfold c_X0_checkAct c_X0_checkAct_b222 c_X0_checkAct_b270
  rw [ck_c h, ck_65 h he, hk, if_neg (by decide), if_pos rfl, ck_c h, ck_w73 h he]
theorem ca_30 {t c cap s k : Nat} {cs : CS} {F e : Nat} (h : CK t c cap s k cs) (he : e < s) (hk : kA cs 65 c e = 30) : c_X0_checkAct F cs k (nI e) = some (sA cs 73 c e 2) := by
  unfold c_X0_checkAct c_X0_checkAct_b222 c_X0_checkAct_b270
  rw [ck_c h, ck_65 h he, hk, if_neg (by decide), if_neg (by decide), if_neg (by decide), if_neg (by decide), if_neg (by decide), if_neg (by decide), if_neg (by decide), if_pos rfl, ck_c h, ck_w73 h he]
theorem ca_31 {t c cap s k : Nat} {cs : CS} {F e : Nat} (h : CK t c cap s k cs) (he : e < s) (hk : kA cs 65 c e = 31) : c_X0_checkAct F cs k (nI e) = some (sA cs 73 c e 2) := by
  unfold c_X0_checkAct c_X0_checkAct_b222 c_X0_checkAct_b270
  rw [ck_c h, ck_65 h he, hk, if_neg (by decide), if_neg (by decide), if_neg (by decide), if_neg (by decide), if_neg (by decide), if_neg (by decide), if_neg (by decide), if_neg (by decide), if_pos rfl, ck_c h, ck_w73 h he]
theorem ca_59 {t c cap s k : Nat} {cs : CS} {F e : Nat} (h : CK t c cap s k cs) (he : e < s) (hk : kA cs 65 c e = 59) : c_X0_checkAct F cs k (nI e) = some (sA cs 73 c e 2) := by
  unfold c_X0_checkAct c_X0_checkAct_b222 c_X0_checkAct_b270
  rw [ck_c h, ck_65 h he, hk, if_neg (by decide), if_neg (by decide), if_neg (by decide), if_neg (by decide), if_neg (by decide), if_neg (by decide), if_neg (by decide), if_neg (by decide), if_neg (by decide), if_neg (by decide), if_neg (by decide), if_neg (by decide), if_neg (by decide), if_neg (by decide), if_neg (by decide), if_neg (by decide), if_neg (by decide), if_pos rfl, ck_c h, ck_w73 h he]
theorem ca_32 {t c cap s k : Nat} {cs : CS} {F e : Nat} (h : CK t c cap s k cs) (he : e < s) (hk : kA cs 65 c e = 32) : c_X0_checkAct F cs k (nI e) = some (sA cs 73 c e 1) := by
  unfold c_X0_checkAct c_X0_checkAct_b196 c_X0_checkAct_b270
  rw [ck_c h, ck_65 h he, hk, if_neg (by decide), if_neg (by decide), if_neg (by decide), if_neg (by decide), if_neg (by decide), if_neg (by decide), if_neg (by decide), if_neg (by decide), if_neg (by decide), if_pos rfl, ck_c h, ck_w73 h he]
theorem ca_40 {t c cap s k : Nat} {cs : CS} {F e : Nat} (h : CK t c cap s k cs) (he : e < s) (hk : kA cs 65 c e = 40) : c_X0_checkAct F cs k (nI e) = some (sA cs 73 c e 1) := by
  unfold c_X0_checkAct c_X0_checkAct_b196 c_X0_checkAct_b270
  rw [ck_c h, ck_65 h he, hk, if_neg (by decide), if_neg (by decide), if_neg (by decide), if_neg (by decide), if_neg (by decide), if_neg (by decide), if_neg (by decide), if_neg (by decide), if_neg (by decide), if_neg (by decide), if_pos rfl, ck_c h, ck_w73 h he]
theorem ca_61 {t c cap s k : Nat} {cs : CS} {F e : Nat} (h : CK t c cap s k cs) (he : e < s) (hk : kA cs 65 c e = 61) : c_X0_checkAct F cs k (nI e) = some (sA cs 73 c e 1) := by
  unfold c_X0_checkAct c_X0_checkAct_b196 c_X0_checkAct_b270
  rw [ck_c h, ck_65 h he, hk, if_neg (by decide), if_neg (by decide), if_neg (by decide), if_neg (by decide), if_neg (by decide), if_neg (by decide), if_neg (by decide), if_neg (by decide), if_neg (by decide), if_neg (by decide), if_neg (by decide), if_neg (by decide), if_neg (by decide), if_neg (by decide), if_neg (by decide), if_neg (by decide), if_neg (by decide), if_neg (by decide), if_neg (by decide), if_pos rfl, ck_c h, ck_w73 h he]
theorem ca_26 {t c cap s k : Nat} {cs : CS} {F e : Nat} (h : CK t c cap s k cs) (he : e < s) (hk : kA cs 65 c e = 26) : c_X0_checkAct F cs k (nI e) = some (sA cs 73 c e 3) := by
  unfold c_X0_checkAct c_X0_checkAct_b270
  rw [ck_c h, ck_65 h he, hk, if_neg (by decide), if_neg (by decide), if_neg (by decide), if_pos rfl, ck_c h, ck_w73 h he]
theorem ca_25 {t c cap s k : Nat} {cs : CS} {F e : Nat} {cs' : CS} (h : CK t c cap s k cs) (he : e < s) (hk : kA cs 65 c e = 25) (hw : c_X0_wantParts F cs k (nI e) 2 2 = some cs') : c_X0_checkAct F cs k (nI e) = some cs' := by
  unfold c_X0_checkAct c_X0_checkAct_b235 c_X0_checkAct_b270
  rw [ck_c h, ck_65 h he, hk, if_neg (by decide), if_neg (by decide), if_pos rfl, ckE_ok h.o, ob_s, hw, ob_s]
theorem ca_28 {t c cap s k : Nat} {cs : CS} {F e : Nat} {cs' : CS} (h : CK t c cap s k cs) (he : e < s) (hk : kA cs 65 c e = 28) (hw : c_X0_wantParts F cs k (nI e) 2 2 = some cs') : c_X0_checkAct F cs k (nI e) = some cs' := by
  unfold c_X0_checkAct c_X0_checkAct_b235 c_X0_checkAct_b270
  rw [ck_c h, ck_65 h he, hk, if_neg (by decide), if_neg (by decide), if_neg (by decide), if_neg (by decide), if_neg (by decide), if_pos rfl, ckE_ok h.o, ob_s, hw, ob_s]
theorem ca_29 {t c cap s k : Nat} {cs : CS} {F e : Nat} {cs' : CS} (h : CK t c cap s k cs) (he : e < s) (hk : kA cs 65 c e = 29) (hw : c_X0_wantParts F cs k (nI e) 2 2 = some cs') : c_X0_checkAct F cs k (nI e) = some cs' := by
  unfold c_X0_checkAct c_X0_checkAct_b235 c_X0_checkAct_b270
  rw [ck_c h, ck_65 h he, hk, if_neg (by decide), if_neg (by decide), if_neg (by decide), if_neg (by decide), if_neg (by decide), if_neg (by decide), if_pos rfl, ckE_ok h.o, ob_s, hw, ob_s]
theorem ca_27 {t c cap s k : Nat} {cs : CS} {F e : Nat} {cs' : CS} (h : CK t c cap s k cs) (he : e < s) (hk : kA cs 65 c e = 27) (hw : c_X0_wantParts F cs k (nI e) 1 2 = some cs') : c_X0_checkAct F cs k (nI e) = some cs' := by
  unfold c_X0_checkAct c_X0_checkAct_b253 c_X0_checkAct_b270
  rw [ck_c h, ck_65 h he, hk, if_neg (by decide), if_neg (by decide), if_neg (by decide), if_neg (by decide), if_pos rfl, ckE_ok h.o, ob_s, hw, ob_s]
theorem ca_60 {t c cap s k : Nat} {cs : CS} {F e : Nat} {cs' : CS} (h : CK t c cap s k cs) (he : e < s) (hk : kA cs 65 c e = 60) (hw : c_X0_wantParts F cs k (nI e) 1 2 = some cs') : c_X0_checkAct F cs k (nI e) = some cs' := by
  unfold c_X0_checkAct c_X0_checkAct_b253 c_X0_checkAct_b270
  rw [ck_c h, ck_65 h he, hk, if_neg (by decide), if_neg (by decide), if_neg (by decide), if_neg (by decide), if_neg (by decide), if_neg (by decide), if_neg (by decide), if_neg (by decide), if_neg (by decide), if_neg (by decide), if_neg (by decide), if_neg (by decide), if_neg (by decide), if_neg (by decide), if_neg (by decide), if_neg (by decide), if_neg (by decide), if_neg (by decide), if_pos rfl, ckE_ok h.o, ob_s, hw, ob_s]
theorem ca_50 {t c cap s k : Nat} {cs : CS} {F e : Nat} {cs' : CS} (h : CK t c cap s k cs) (he : e < s) (hk : kA cs 65 c e = 50) (hw : c_X0_wantParts F cs k (nI e) 1 2 = some cs') : c_X0_checkAct F cs k (nI e) = some cs' := by
  unfold c_X0_checkAct c_X0_checkAct_b253 c_X0_checkAct_b270
  rw [ck_c h, ck_65 h he, hk, if_neg (by decide), if_neg (by decide), if_neg (by decide), if_neg (by decide), if_neg (by decide), if_neg (by decide), if_neg (by decide), if_neg (by decide), if_neg (by decide), if_neg (by decide), if_neg (by decide), if_pos rfl, ckE_ok h.o, ob_s, hw, ob_s]
theorem ca_51 {t c cap s k : Nat} {cs : CS} {F e : Nat} {cs' : CS} (h : CK t c cap s k cs) (he : e < s) (hk : kA cs 65 c e = 51) (hw : c_X0_wantParts F cs k (nI e) 1 2 = some cs') : c_X0_checkAct F cs k (nI e) = some cs' := by
  unfold c_X0_checkAct c_X0_checkAct_b253 c_X0_checkAct_b270
  rw [ck_c h, ck_65 h he, hk, if_neg (by decide), if_neg (by decide), if_neg (by decide), if_neg (by decide), if_neg (by decide), if_neg (by decide), if_neg (by decide), if_neg (by decide), if_neg (by decide), if_neg (by decide), if_neg (by decide), if_neg (by decide), if_pos rfl, ckE_ok h.o, ob_s, hw, ob_s]
theorem ca_52 {t c cap s k : Nat} {cs : CS} {F e : Nat} {cs' : CS} (h : CK t c cap s k cs) (he : e < s) (hk : kA cs 65 c e = 52) (hw : c_X0_wantParts F cs k (nI e) 1 2 = some cs') : c_X0_checkAct F cs k (nI e) = some cs' := by
  unfold c_X0_checkAct c_X0_checkAct_b253 c_X0_checkAct_b270
  rw [ck_c h, ck_65 h he, hk, if_neg (by decide), if_neg (by decide), if_neg (by decide), if_neg (by decide), if_neg (by decide), if_neg (by decide), if_neg (by decide), if_neg (by decide), if_neg (by decide), if_neg (by decide), if_neg (by decide), if_neg (by decide), if_neg (by decide), if_pos rfl, ckE_ok h.o, ob_s, hw, ob_s]
theorem ca_53 {t c cap s k : Nat} {cs : CS} {F e : Nat} {cs' : CS} (h : CK t c cap s k cs) (he : e < s) (hk : kA cs 65 c e = 53) (hw : c_X0_wantParts F cs k (nI e) 1 2 = some cs') : c_X0_checkAct F cs k (nI e) = some cs' := by
  unfold c_X0_checkAct c_X0_checkAct_b253 c_X0_checkAct_b270
  rw [ck_c h, ck_65 h he, hk, if_neg (by decide), if_neg (by decide), if_neg (by decide), if_neg (by decide), if_neg (by decide), if_neg (by decide), if_neg (by decide), if_neg (by decide), if_neg (by decide), if_neg (by decide), if_neg (by decide), if_neg (by decide), if_neg (by decide), if_neg (by decide), if_pos rfl, ckE_ok h.o, ob_s, hw, ob_s]
theorem ca_54 {t c cap s k : Nat} {cs : CS} {F e : Nat} {cs' : CS} (h : CK t c cap s k cs) (he : e < s) (hk : kA cs 65 c e = 54) (hw : c_X0_wantParts F cs k (nI e) 1 2 = some cs') : c_X0_checkAct F cs k (nI e) = some cs' := by
  unfold c_X0_checkAct c_X0_checkAct_b253 c_X0_checkAct_b270
  rw [ck_c h, ck_65 h he, hk, if_neg (by decide), if_neg (by decide), if_neg (by decide), if_neg (by decide), if_neg (by decide), if_neg (by decide), if_neg (by decide), if_neg (by decide), if_neg (by decide), if_neg (by decide), if_neg (by decide), if_neg (by decide), if_neg (by decide), if_neg (by decide), if_neg (by decide), if_pos rfl, ckE_ok h.o, ob_s, hw, ob_s]
theorem ca_55 {t c cap s k : Nat} {cs : CS} {F e : Nat} {cs' : CS} (h : CK t c cap s k cs) (he : e < s) (hk : kA cs 65 c e = 55) (hw : c_X0_wantParts F cs k (nI e) 1 2 = some cs') : c_X0_checkAct F cs k (nI e) = some cs' := by
  unfold c_X0_checkAct c_X0_checkAct_b253 c_X0_checkAct_b270
  rw [ck_c h, ck_65 h he, hk, if_neg (by decide), if_neg (by decide), if_neg (by decide), if_neg (by decide), if_neg (by decide), if_neg (by decide), if_neg (by decide), if_neg (by decide), if_neg (by decide), if_neg (by decide), if_neg (by decide), if_neg (by decide), if_neg (by decide), if_neg (by decide), if_neg (by decide), if_neg (by decide), if_pos rfl, ckE_ok h.o, ob_s, hw, ob_s]
theorem ca_58 {t c cap s k : Nat} {cs : CS} {F e : Nat} {cs' : CS} (h : CK t c cap s k cs) (he : e < s) (hk : kA cs 65 c e = 58) (hw : c_X0_wantParts F cs k (nI e) 1 1 = some cs') : c_X0_checkAct F cs k (nI e) = some cs' := by
  unfold c_X0_checkAct c_X0_checkAct_b263 c_X0_checkAct_b270
  rw [ck_c h, ck_65 h he, hk, if_neg (by decide), if_neg (by decide), if_neg (by decide), if_neg (by decide), if_neg (by decide), if_neg (by decide), if_neg (by decide), if_neg (by decide), if_neg (by decide), if_neg (by decide), if_neg (by decide), if_neg (by decide), if_neg (by decide), if_neg (by decide), if_neg (by decide), if_neg (by decide), if_neg (by decide), if_neg (by decide), if_neg (by decide), if_neg (by decide), ckE_ok h.o, ob_s, hw, ob_s]
theorem ca_45 {t c cap s k : Nat} {cs : CS} {F e : Nat} {cs' : CS} (h : CK t c cap s k cs) (he : e < s) (hk : kA cs 65 c e = 45) (hw : c_X0_wantParts F cs k (nI e) 1 1 = some cs') : c_X0_checkAct F cs k (nI e) = some cs' := by
  unfold c_X0_checkAct c_X0_checkAct_b263 c_X0_checkAct_b270
  rw [ck_c h, ck_65 h he, hk, if_neg (by decide), if_neg (by decide), if_neg (by decide), if_neg (by decide), if_neg (by decide), if_neg (by decide), if_neg (by decide), if_neg (by decide), if_neg (by decide), if_neg (by decide), if_neg (by decide), if_neg (by decide), if_neg (by decide), if_neg (by decide), if_neg (by decide), if_neg (by decide), if_neg (by decide), if_neg (by decide), if_neg (by decide), if_neg (by decide), ckE_ok h.o, ob_s, hw, ob_s]
theorem ca_46 {t c cap s k : Nat} {cs : CS} {F e : Nat} {cs' : CS} (h : CK t c cap s k cs) (he : e < s) (hk : kA cs 65 c e = 46) (hw : c_X0_wantParts F cs k (nI e) 1 1 = some cs') : c_X0_checkAct F cs k (nI e) = some cs' := by
  unfold c_X0_checkAct c_X0_checkAct_b263 c_X0_checkAct_b270
  rw [ck_c h, ck_65 h he, hk, if_neg (by decide), if_neg (by decide), if_neg (by decide), if_neg (by decide), if_neg (by decide), if_neg (by decide), if_neg (by decide), if_neg (by decide), if_neg (by decide), if_neg (by decide), if_neg (by decide), if_neg (by decide), if_neg (by decide), if_neg (by decide), if_neg (by decide), if_neg (by decide), if_neg (by decide), if_neg (by decide), if_neg (by decide), if_neg (by decide), ckE_ok h.o, ob_s, hw, ob_s]
theorem ca_47 {t c cap s k : Nat} {cs : CS} {F e : Nat} {cs' : CS} (h : CK t c cap s k cs) (he : e < s) (hk : kA cs 65 c e = 47) (hw : c_X0_wantParts F cs k (nI e) 1 1 = some cs') : c_X0_checkAct F cs k (nI e) = some cs' := by
  unfold c_X0_checkAct c_X0_checkAct_b263 c_X0_checkAct_b270
  rw [ck_c h, ck_65 h he, hk, if_neg (by decide), if_neg (by decide), if_neg (by decide), if_neg (by decide), if_neg (by decide), if_neg (by decide), if_neg (by decide), if_neg (by decide), if_neg (by decide), if_neg (by decide), if_neg (by decide), if_neg (by decide), if_neg (by decide), if_neg (by decide), if_neg (by decide), if_neg (by decide), if_neg (by decide), if_neg (by decide), if_neg (by decide), if_neg (by decide), ckE_ok h.o, ob_s, hw, ob_s]
theorem ca_48 {t c cap s k : Nat} {cs : CS} {F e : Nat} {cs' : CS} (h : CK t c cap s k cs) (he : e < s) (hk : kA cs 65 c e = 48) (hw : c_X0_wantParts F cs k (nI e) 1 1 = some cs') : c_X0_checkAct F cs k (nI e) = some cs' := by
  unfold c_X0_checkAct c_X0_checkAct_b263 c_X0_checkAct_b270
  rw [ck_c h, ck_65 h he, hk, if_neg (by decide), if_neg (by decide), if_neg (by decide), if_neg (by decide), if_neg (by decide), if_neg (by decide), if_neg (by decide), if_neg (by decide), if_neg (by decide), if_neg (by decide), if_neg (by decide), if_neg (by decide), if_neg (by decide), if_neg (by decide), if_neg (by decide), if_neg (by decide), if_neg (by decide), if_neg (by decide), if_neg (by decide), if_neg (by decide), ckE_ok h.o, ob_s, hw, ob_s]
theorem ca_49 {t c cap s k : Nat} {cs : CS} {F e : Nat} {cs' : CS} (h : CK t c cap s k cs) (he : e < s) (hk : kA cs 65 c e = 49) (hw : c_X0_wantParts F cs k (nI e) 1 1 = some cs') : c_X0_checkAct F cs k (nI e) = some cs' := by
  unfold c_X0_checkAct c_X0_checkAct_b263 c_X0_checkAct_b270
  rw [ck_c h, ck_65 h he, hk, if_neg (by decide), if_neg (by decide), if_neg (by decide), if_neg (by decide), if_neg (by decide), if_neg (by decide), if_neg (by decide), if_neg (by decide), if_neg (by decide), if_neg (by decide), if_neg (by decide), if_neg (by decide), if_neg (by decide), if_neg (by decide), if_neg (by decide), if_neg (by decide), if_neg (by decide), if_neg (by decide), if_neg (by decide), if_neg (by decide), ckE_ok h.o, ob_s, hw, ob_s]
theorem ca_36 {t c cap s k : Nat} {cs : CS} {F e : Nat} {cs' : CS} (h : CK t c cap s k cs) (he : e < s) (hk : kA cs 65 c e = 36) (hw : c_X0_wantParts F cs k (nI e) 1 1 = some cs') : c_X0_checkAct F cs k (nI e) = some cs' := by
  unfold c_X0_checkAct c_X0_checkAct_b263 c_X0_checkAct_b270
  rw [ck_c h, ck_65 h he, hk, if_neg (by decide), if_neg (by decide), if_neg (by decide), if_neg (by decide), if_neg (by decide), if_neg (by decide), if_neg (by decide), if_neg (by decide), if_neg (by decide), if_neg (by decide), if_neg (by decide), if_neg (by decide), if_neg (by decide), if_neg (by decide), if_neg (by decide), if_neg (by decide), if_neg (by decide), if_neg (by decide), if_neg (by decide), if_neg (by decide), ckE_ok h.o, ob_s, hw, ob_s]
theorem ca_33 {t c cap s k : Nat} {cs : CS} {F e : Nat} {cs' : CS} (h : CK t c cap s k cs) (he : e < s) (hk : kA cs 65 c e = 33) (hw : c_X0_wantParts F cs k (nI e) 1 1 = some cs') : c_X0_checkAct F cs k (nI e) = some cs' := by
  unfold c_X0_checkAct c_X0_checkAct_b263 c_X0_checkAct_b270
  rw [ck_c h, ck_65 h he, hk, if_neg (by decide), if_neg (by decide), if_neg (by decide), if_neg (by decide), if_neg (by decide), if_neg (by decide), if_neg (by decide), if_neg (by decide), if_neg (by decide), if_neg (by decide), if_neg (by decide), if_neg (by decide), if_neg (by decide), if_neg (by decide), if_neg (by decide), if_neg (by decide), if_neg (by decide), if_neg (by decide), if_neg (by decide), if_neg (by decide), ckE_ok h.o, ob_s, hw, ob_s]
theorem ca_34 {t c cap s k : Nat} {cs : CS} {F e : Nat} {cs' : CS} (h : CK t c cap s k cs) (he : e < s) (hk : kA cs 65 c e = 34) (hw : c_X0_wantParts F cs k (nI e) 1 1 = some cs') : c_X0_checkAct F cs k (nI e) = some cs' := by
  unfold c_X0_checkAct c_X0_checkAct_b263 c_X0_checkAct_b270
  rw [ck_c h, ck_65 h he, hk, if_neg (by decide), if_neg (by decide), if_neg (by decide), if_neg (by decide), if_neg (by decide), if_neg (by decide), if_neg (by decide), if_neg (by decide), if_neg (by decide), if_neg (by decide), if_neg (by decide), if_neg (by decide), if_neg (by decide), if_neg (by decide), if_neg (by decide), if_neg (by decide), if_neg (by decide), if_neg (by decide), if_neg (by decide), if_neg (by decide), ckE_ok h.o, ob_s, hw, ob_s]
theorem ca_35 {t c cap s k : Nat} {cs : CS} {F e : Nat} {cs' : CS} (h : CK t c cap s k cs) (he : e < s) (hk : kA cs 65 c e = 35) (hw : c_X0_wantParts F cs k (nI e) 1 1 = some cs') : c_X0_checkAct F cs k (nI e) = some cs' := by
  unfold c_X0_checkAct c_X0_checkAct_b263 c_X0_checkAct_b270
  rw [ck_c h, ck_65 h he, hk, if_neg (by decide), if_neg (by decide), if_neg (by decide), if_neg (by decide), if_neg (by decide), if_neg (by decide), if_neg (by decide), if_neg (by decide), if_neg (by decide), if_neg (by decide), if_neg (by decide), if_neg (by decide), if_neg (by decide), if_neg (by decide), if_neg (by decide), if_neg (by decide), if_neg (by decide), if_neg (by decide), if_neg (by decide), if_neg (by decide), ckE_ok h.o, ob_s, hw, ob_s]

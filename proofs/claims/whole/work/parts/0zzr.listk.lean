/-! the members of a list -/
def EQX (V W : VT) (e : Nat) : Prop := vk W e = vk V e ∧ vf W e = vf V e ∧ vp W e = vp V e ∧ vb W e = vb V e ∧ vn W e = vn V e ∧ vs W e = vs V e ∧ rk W e = rk V e ∧ rl W e = rl V e ∧ rr W e = rr V e ∧ rt W e = rt V e ∧ rh W e = rh V e ∧ rv' W e = rv' V e ∧ rb W e = rb V e
/-- an EXPR whose own node is linked anew -/
theorem TR.lift {V W : VT} {d R a e : Nat} (hV : ∀ x, a ≤ x → x < e → W x = V x) (hE : EQX V W e) (x : TR V d R a e) : TR W d R a e := by
  cases d with
  | zero => exact x.elim
  | succ d =>
    obtain ⟨h1, h2, h3, h4⟩ := x
    obtain ⟨w1, w2, w3, w4, w5, w6, w7, w8, w9, w10, w11, w12, w13⟩ := hE
    refine ⟨h1, w2.trans h2, by rw [w4, w13]; exact h3, ?_⟩
    rcases h4 with ⟨y1, y2, y3⟩ | ⟨y1, y2, y3, y4⟩ | ⟨g, y1, y2, y3, y4, y5, y6, y7⟩ | ⟨g, k, y1, y2, y3, y4, y5, y6, y7, y8, y9, y10, y11, y12⟩ | ⟨m, g, r, y1, y2, y3, y4, y5, y6, y7, y8, y9, y10⟩ | ⟨y1, y2, y3, y4, y5, y0⟩
    · refine Or.inl ⟨y1, by rw [w6]; exact y2, ?_⟩
      unfold LEAF at y3 ⊢
      rw [w1, w7, w5, w12]
      exact y3
    · refine Or.inr (Or.inl ⟨y1, ?_, w8.trans y3, TR.fr d _ _ _ (fun x q1 q2 => hV x q1 (by omega)) y4⟩)
      unfold UNA at y2 ⊢
      rw [w1, w3, w7, w11]
      exact y2
    · refine Or.inr (Or.inr (Or.inl ⟨g, y1, y2, ?_, w8.trans y4, w9.trans y5, TR.fr d _ _ _ (fun x q1 q2 => hV x q1 (by omega)) y6, TR.fr d _ _ _ (fun x q1 q2 => hV x (by omega) (by omega)) y7⟩))
      unfold BIN at y3 ⊢
      rw [w1, w3, w7, w11]
      exact y3
    · exact Or.inr (Or.inr (Or.inr (Or.inl ⟨g, k, y1, y2, y3, w3.trans y4, w1.trans y5, w7.trans y6, w8.trans y7, w9.trans y8, w10.trans y9, TR.fr d _ _ _ (fun x q1 q2 => hV x q1 (by omega)) y10, TR.fr d _ _ _ (fun x q1 q2 => hV x (by omega) (by omega)) y11, TR.fr d _ _ _ (fun x q1 q2 => hV x (by omega) (by omega)) y12⟩)))
    · refine Or.inr (Or.inr (Or.inr (Or.inr (Or.inl ⟨m, g, r, y1, y2, y3, y4, y5, ?_, w8.trans y7, w9.trans y8, TR.fr d _ _ _ (fun x q1 q2 => hV x q1 (by omega)) y9, CH.fr (b := g) m g r (e - 1) (fun x q1 q2 => hV x (by omega) (by omega)) (fun a' r' q1 q2 z => TR.fr d R a' r' (fun x q3 q4 => hV x (by omega) (by omega)) z) (Nat.le_refl _) y4 (by omega) y10⟩))))
      unfold INN at y6 ⊢
      rw [w1, w3, w7, w11]
      exact y6
    · refine Or.inr (Or.inr (Or.inr (Or.inr (Or.inr ⟨y1, ?_, w8.trans y3, ((vk_eq (hV a (Nat.le_refl _) y1)).2.2.2.2.2.1).trans y4, TR.fr d _ _ _ (fun x q1 q2 => hV x q1 (by omega)) y5, fun x q1 q2 => (by unfold vk; rw [hV x q1 q2]; exact y0 x q1 q2)⟩))))
      unfold AGK at y2 ⊢
      rw [w1, w3, w7]
      exact y2
/-- one EXPR more at the end -/
theorem CH.snoc {P Q : Nat → Nat → Prop} {V W : VT} {b e e' : Nat} (hV : ∀ x, b ≤ x → x < e → W x = V x) (hP : ∀ a' r', b ≤ a' → r' ≤ e → P a' r' → Q a' r') (h1 : rx W e = nI e') (h2 : e < e') (h3 : Q (e + 1) e') (h4 : rx W e' = -1) : ∀ (m a r : Nat), b ≤ a → a ≤ r → r ≤ e → CH P V m a r e → CH Q W (m + 1) a r e'
  | 0, _, _, _, _, _, x => x.elim
  | m + 1, a, r, ha, har, hr, x => by
    refine ⟨hP a r ha hr x.1, ?_⟩
    rcases x.2 with ⟨y1, y2, y3⟩ | ⟨y1, q, y2, y3, y4⟩
    · subst y2
      exact Or.inr ⟨h2, e', h1, h2, by
        rw [y1]
        exact ⟨h3, Or.inl ⟨rfl, rfl, h4⟩⟩⟩
    · have hq : q ≤ e := by
        match m, y4 with
        | 0, z => exact z.elim
        | m + 1, z => rcases z.2 with w | w <;> omega
      have er := (vk_eq (hV r (by omega) y1)).2.2.2.2.2.2.2.2.2.2.2.2.2
      exact Or.inr ⟨by omega, q, er.trans y2, y3, CH.snoc hV hP h1 h2 h3 h4 m (r + 1) q (by omega) (by omega) hq y4⟩
theorem PG.r32 {n : Nat} {f : Nat → Int32} {M t c cap q sel : Nat} {ma : Bool} {i z s j : Nat} {cs : CS} {rs : RS} {u : Int32} (h : PG n f M t c cap q sel ma i z s cs rs) : PG n f M t c cap q sel ma i z s cs (setI rs 32 j u) := ⟨h.h, h.x, h.f0, h.ci, h.cz, h.cn, h.g1, h.ri, h.rz, h.rn, h.im, h.si, h.s2, h.z2, h.cp, h.ca, h.cm, h.rm, h.ag⟩
theorem V32 {c j x : Nat} {cs : CS} {rs : RS} {u : Int32} (h : x ≠ j) : VW c cs (setI rs 32 j u) x = VW c cs rs x := by
  show (_, (rs.2.2.1 23 x, rs.2.2.1 24 x, rs.2.2.1 25 x, rs.2.2.1 26 x, rs.2.2.1 27 x, rs.2.2.2 28 x, rs.2.2.1 29 x, upd (rs.2.2.1 32) j u x, rs.2.2.1 30 x)) = _
  rw [pk_un h]
  rfl
theorem V32x {c j : Nat} {cs : CS} {rs : RS} {u : Int32} : rx (VW c cs (setI rs 32 j u)) j = u := by
  show upd (rs.2.2.1 32) j u j = u
  rw [pk_us]
theorem V32e {c j x : Nat} {cs : CS} {rs : RS} {u : Int32} : EQX (VW c cs rs) (VW c cs (setI rs 32 j u)) x := ⟨rfl, rfl, rfl, rfl, rfl, rfl, rfl, rfl, rfl, rfl, rfl, rfl, rfl⟩
theorem EQX.of {U V W : VT} {e : Nat} (h : EQX V W e) (g : V e = U e) : EQX U W e := by
  obtain ⟨w1, w2, w3, w4, w5, w6, w7, w8, w9, w10, w11, w12, w13, w14⟩ := vk_eq g
  obtain ⟨x1, x2, x3, x4, x5, x6, x7, x8, x9, x10, x11, x12, x13⟩ := h
  exact ⟨x1.trans w1, x2.trans w2, x3.trans w3, x4.trans w4, x5.trans w5, x6.trans w6, x7.trans w7, x8.trans w8, x9.trans w9, x10.trans w10, x11.trans w11, x12.trans w12, x13.trans w13⟩
theorem COL.r32 {n M c x j : Nat} {f : Nat → Int32} {cs : CS} {rs : RS} {u : Int32} (h : COL n f M (VW c cs rs) x cs rs) : COL n f M (VW c cs (setI rs 32 j u)) x cs (setI rs 32 j u) := by
  have y : FR eR rs (setI rs 32 j u) := FR.setI (by unfold eR; omega)
  have w : FO (PX 0 0 0) cs cs := FO.refl cs
  rcases h with ⟨a, b, k, k0, k1, k2, k3⟩ | ⟨k, j', k0, k1, k2, k3, k4, k5, k6⟩
  · exact Or.inl ⟨a, b, k, k0, k1, k2, k3.keep w y⟩
  · exact Or.inr ⟨k, j', k0, k1, k2, k3, k4, k5.keep w y, k6.keep w y⟩
theorem KE.r32 {n : Nat} {f : Nat → Int32} {M c q : Nat} {ma : Bool} {s e j : Nat} {cs : CS} {rs : RS} {u : Int32} (h : KE n f M c q ma s e cs rs) : KE n f M c q ma s e cs (setI rs 32 j u) := ⟨fun x x1 x2 x3 => (h.co x x1 x2 x3).r32, fun x x1 x2 x3 => h.an x x1 x2 x3⟩
/-- m members read of a list; the sum before it is s to s1 - 1, the first member ends at r -/
def LI (n : Nat) (f : Nat → Int32) (M t c cap q sel : Nat) (ma : Bool) (i z s s1 : Nat) (cs : CS) (rs : RS) (m r ik sk : Nat) (csk : CS) (rsk : RS) : Prop := (PG n f M t c cap q sel ma ik z sk csk rsk) ∧ (i < ik) ∧ (s < s1) ∧ (s1 ≤ sk) ∧ (sk + 1 + i ≤ s + ik) ∧ (∀ x, x < s → VW c csk rsk x = VW c cs rs x) ∧ (SQ t c q sel ma cs rs csk rsk) ∧ (KE n f M c q ma s sk csk rsk) ∧ (∀ R, TR (VW c csk rsk) (s1 - s) R s (s1 - 1)) ∧ ((m = 0 ∧ sk = s1) ∨ (1 ≤ m ∧ s1 ≤ r ∧ r < sk ∧ ∀ R, CH (TR (VW c csk rsk) (sk - s1) R) (VW c csk rsk) m s1 r (sk - 1)))
theorem LI.g {n : Nat} {f : Nat → Int32} {M t c cap q sel : Nat} {ma : Bool} {i z s s1 : Nat} {cs : CS} {rs : RS} {m r ik sk : Nat} {csk : CS} {rsk : RS} (h : LI n f M t c cap q sel ma i z s s1 cs rs m r ik sk csk rsk) : PG n f M t c cap q sel ma ik z sk csk rsk := h.1
theorem LI.il {n : Nat} {f : Nat → Int32} {M t c cap q sel : Nat} {ma : Bool} {i z s s1 : Nat} {cs : CS} {rs : RS} {m r ik sk : Nat} {csk : CS} {rsk : RS} (h : LI n f M t c cap q sel ma i z s s1 cs rs m r ik sk csk rsk) : i < ik := h.2.1
theorem LI.ss {n : Nat} {f : Nat → Int32} {M t c cap q sel : Nat} {ma : Bool} {i z s s1 : Nat} {cs : CS} {rs : RS} {m r ik sk : Nat} {csk : CS} {rsk : RS} (h : LI n f M t c cap q sel ma i z s s1 cs rs m r ik sk csk rsk) : s < s1 := h.2.2.1
theorem LI.sg {n : Nat} {f : Nat → Int32} {M t c cap q sel : Nat} {ma : Bool} {i z s s1 : Nat} {cs : CS} {rs : RS} {m r ik sk : Nat} {csk : CS} {rsk : RS} (h : LI n f M t c cap q sel ma i z s s1 cs rs m r ik sk csk rsk) : s1 ≤ sk := h.2.2.2.1
theorem LI.le {n : Nat} {f : Nat → Int32} {M t c cap q sel : Nat} {ma : Bool} {i z s s1 : Nat} {cs : CS} {rs : RS} {m r ik sk : Nat} {csk : CS} {rsk : RS} (h : LI n f M t c cap q sel ma i z s s1 cs rs m r ik sk csk rsk) : sk + 1 + i ≤ s + ik := h.2.2.2.2.1
theorem LI.kp {n : Nat} {f : Nat → Int32} {M t c cap q sel : Nat} {ma : Bool} {i z s s1 : Nat} {cs : CS} {rs : RS} {m r ik sk : Nat} {csk : CS} {rsk : RS} (h : LI n f M t c cap q sel ma i z s s1 cs rs m r ik sk csk rsk) : ∀ x, x < s → VW c csk rsk x = VW c cs rs x := h.2.2.2.2.2.1
theorem LI.sq {n : Nat} {f : Nat → Int32} {M t c cap q sel : Nat} {ma : Bool} {i z s s1 : Nat} {cs : CS} {rs : RS} {m r ik sk : Nat} {csk : CS} {rsk : RS} (h : LI n f M t c cap q sel ma i z s s1 cs rs m r ik sk csk rsk) : SQ t c q sel ma cs rs csk rsk := h.2.2.2.2.2.2.1
theorem LI.ke {n : Nat} {f : Nat → Int32} {M t c cap q sel : Nat} {ma : Bool} {i z s s1 : Nat} {cs : CS} {rs : RS} {m r ik sk : Nat} {csk : CS} {rsk : RS} (h : LI n f M t c cap q sel ma i z s s1 cs rs m r ik sk csk rsk) : KE n f M c q ma s sk csk rsk := h.2.2.2.2.2.2.2.1
theorem LI.t1 {n : Nat} {f : Nat → Int32} {M t c cap q sel : Nat} {ma : Bool} {i z s s1 : Nat} {cs : CS} {rs : RS} {m r ik sk : Nat} {csk : CS} {rsk : RS} (h : LI n f M t c cap q sel ma i z s s1 cs rs m r ik sk csk rsk) : ∀ R, TR (VW c csk rsk) (s1 - s) R s (s1 - 1) := h.2.2.2.2.2.2.2.2.1
theorem LI.ch {n : Nat} {f : Nat → Int32} {M t c cap q sel : Nat} {ma : Bool} {i z s s1 : Nat} {cs : CS} {rs : RS} {m r ik sk : Nat} {csk : CS} {rsk : RS} (h : LI n f M t c cap q sel ma i z s s1 cs rs m r ik sk csk rsk) : (m = 0 ∧ sk = s1) ∨ (1 ≤ m ∧ s1 ≤ r ∧ r < sk ∧ ∀ R, CH (TR (VW c csk rsk) (sk - s1) R) (VW c csk rsk) m s1 r (sk - 1)) := h.2.2.2.2.2.2.2.2.2
theorem LI.tok {n : Nat} {f : Nat → Int32} {M t c cap q sel : Nat} {ma : Bool} {i z s s1 m r ik sk : Nat} {cs csk : CS} {rs rsk : RS} (h : LI n f M t c cap q sel ma i z s s1 cs rs m r ik sk csk rsk) (hi : ik < M) : LI n f M t c cap q sel ma i z s s1 cs rs m r (ik + 1) sk (sI csk 328 t (nI (ik + 1))) (setF rsk 18 (nI (ik + 1))) := by
  have sq : SQ t c q sel ma csk rsk (sI csk 328 t (nI (ik + 1))) (setF rsk 18 (nI (ik + 1))) := (SQ.text (by decide)).trans (SQ.ref (by unfold eR; omega))
  have h1 := h.il
  have h2 := h.le
  exact ⟨h.g.next hi, by omega, h.ss, h.sg, by omega, fun x hx => h.kp x hx, h.sq.trans sq, h.ke.keep sq (fun _ _ _ => rfl), fun R => h.t1 R, h.ch⟩
theorem LI.one {n : Nat} {f : Nat → Int32} {M t c cap q sel : Nat} {ma : Bool} {i z s s1 r ik sk i' s' : Nat} {cs csk cs' : CS} {rs rsk rs' : RS} (h : LI n f M t c cap q sel ma i z s s1 cs rs 0 r ik sk csk rsk) (e : EG n f M t c cap q sel ma ik z sk csk rsk i' s' cs' rs') : LI n f M t c cap q sel ma i z s s1 cs rs 1 (s' - 1) i' s' cs' rs' := by
  have hk : sk = s1 := by
    rcases h.ch with y | y
    · exact y.2
    · exact absurd y.1 (by decide)
  subst hk
  have h1 := h.il
  have h2 := h.le
  have h3 := h.ss
  have e1 := e.il
  have e2 := e.le
  have e3 := e.sl
  refine ⟨e.g, by omega, h3, by omega, by omega, fun x hx => by rw [e.kp x (by omega), h.kp x hx], h.sq.trans e.sq, (h.ke.keep e.sq (fun x x1 x2 => e.kp x x2)).join e.ke, fun R => TR.fr _ _ _ _ (fun x q1 q2 => e.kp x (by omega)) (h.t1 R), Or.inr ⟨Nat.le_refl _, by omega, by omega, fun R => ⟨e.tr R, Or.inl ⟨rfl, rfl, e.nx⟩⟩⟩⟩
theorem LI.more {n : Nat} {f : Nat → Int32} {M t c cap q sel : Nat} {ma : Bool} {i z s s1 m r ik sk i' s' : Nat} {cs csk cs' : CS} {rs rsk rs' : RS} (h : LI n f M t c cap q sel ma i z s s1 cs rs m r ik sk csk rsk) (hm : 1 ≤ m) (e : EG n f M t c cap q sel ma ik z sk csk rsk i' s' cs' rs') : LI n f M t c cap q sel ma i z s s1 cs rs (m + 1) r i' s' cs' (setI rs' 32 (sk - 1) (nI (s' - 1))) := by
  have hk : s1 ≤ r ∧ r < sk ∧ ∀ R, CH (TR (VW c csk rsk) (sk - s1) R) (VW c csk rsk) m s1 r (sk - 1) := by
    rcases h.ch with y | y
    · omega
    · exact y.2
  obtain ⟨k1, k2, k3⟩ := hk
  have h1 := h.il
  have h2 := h.le
  have h3 := h.ss
  have e1 := e.il
  have e2 := e.le
  have e3 := e.sl
  have e4 := e.kp
  have e5 := e.tr
  have e6 := e.nx
  have sqW : SQ t c q sel ma cs' rs' cs' (setI rs' 32 (sk - 1) (nI (s' - 1))) := SQ.refI (by unfold eR; omega)
  have Wo : ∀ x, x ≠ sk - 1 → VW c cs' (setI rs' 32 (sk - 1) (nI (s' - 1))) x = VW c cs' rs' x := fun x hx => V32 hx
  have Wx : rx (VW c cs' (setI rs' 32 (sk - 1) (nI (s' - 1)))) (sk - 1) = nI (s' - 1) := V32x
  have We : ∀ x, x < sk → EQX (VW c csk rsk) (VW c cs' (setI rs' 32 (sk - 1) (nI (s' - 1)))) x := fun x hx => V32e.of (e4 x hx)
  have ke := ((h.ke.keep e.sq (fun x x1 x2 => e.kp x x2)).join e.ke).r32 (j := sk - 1) (u := nI (s' - 1))
  have pg := e.g.r32 (j := sk - 1) (u := nI (s' - 1))
  obtain ⟨rW, hrW⟩ : ∃ x, x = setI rs' 32 (sk - 1) (nI (s' - 1)) := ⟨_, rfl⟩
  rw [← hrW] at sqW Wo Wx We ke pg ⊢
  refine ⟨pg, by omega, h3, by omega, by omega, fun x hx => by rw [Wo x (by omega), e4 x (by omega), h.kp x hx], (h.sq.trans e.sq).trans sqW, ke, fun R => TR.fr _ _ _ _ (fun x q1 q2 => by rw [Wo x (by omega), e4 x (by omega)]) (h.t1 R), Or.inr ⟨by omega, k1, by omega, fun R => ?_⟩⟩
  refine CH.snoc (b := s1) (e := sk - 1) (fun x q1 q2 => by rw [Wo x (by omega), e4 x (by omega)]) (fun a' r' q1 q2 z => (TR.lift (fun x q3 q4 => by rw [Wo x (by omega), e4 x (by omega)]) (We r' (by omega)) z).le (by omega)) Wx (by omega) ?_ ?_ m s1 r (Nat.le_refl _) k1 (by omega) (k3 R)
  · rw [show sk - 1 + 1 = sk by omega]
    exact (TR.fr _ _ _ _ (fun x q1 q2 => Wo x (by omega)) (e5 R)).le (by omega)
  · unfold rx at e6 ⊢
    rw [Wo _ (by omega)]
    exact e6

/-! an EXPR in its scope, in both -/
theorem tr_nrm {V : VT} : ∀ (m d R a e n : Nat), n < m → e + 1 = a + n → TR V d R a e → TR V n R a e
  | 0, _, _, _, _, _, h, _, _ => absurd h (Nat.not_lt_zero _)
  | m + 1, 0, _, _, _, _, _, _, x => x.elim
  | m + 1, d + 1, R, a, e, 0, _, hn, x => by
    have h1 := x.1
    exact absurd hn (by omega)
  | m + 1, d + 1, R, a, e, n + 1, h, hn, x => by
    obtain ⟨h1, h2, h3, h4⟩ := x
    have key : ∀ R' b t, a < b ∨ t < e → a ≤ b → t ≤ e → TR V d R' b t → TR V n R' b t := fun R' b t hs hb ht tr => by
      have w := TR.ae tr
      obtain ⟨n', hn'⟩ : ∃ n', t + 1 = b + n' := ⟨t + 1 - b, by omega⟩
      exact (tr_nrm m d R' b t n' (by omega) hn' tr).le (by omega)
    refine ⟨h1, h2, h3, ?_⟩
    rcases h4 with y | ⟨y1, y2, y3, y4⟩ | ⟨g, y1, y2, y3, y4, y5, y6, y7⟩ | ⟨g, k, y1, y2, y3, y4, y5, y6, y7, y8, y9, y10, y11, y12⟩ | ⟨m', g, r, y1, y2, y3, y4, y5, y6, y7, y8, y9, y10⟩ | ⟨y1, y2, y3, y4, y5, y0⟩
    · exact Or.inl y
    · exact Or.inr (Or.inl ⟨y1, y2, y3, key _ _ _ (by omega) (by omega) (by omega) y4⟩)
    · exact Or.inr (Or.inr (Or.inl ⟨g, y1, y2, y3, y4, y5, key _ _ _ (by omega) (by omega) (by omega) y6, key _ _ _ (by omega) (by omega) (by omega) y7⟩))
    · exact Or.inr (Or.inr (Or.inr (Or.inl ⟨g, k, y1, y2, y3, y4, y5, y6, y7, y8, y9, key _ _ _ (by omega) (by omega) (by omega) y10, key _ _ _ (by omega) (by omega) (by omega) y11, key _ _ _ (by omega) (by omega) (by omega) y12⟩)))
    · exact Or.inr (Or.inr (Or.inr (Or.inr (Or.inl ⟨m', g, r, y1, y2, y3, y4, y5, y6, y7, y8, key _ _ _ (by omega) (by omega) (by omega) y9, CH.fr (b := g) m' g r (e - 1) (fun _ _ _ => rfl) (fun a' r' q1 q2 z => key R a' r' (by omega) (by omega) (by omega) z) (Nat.le_refl _) y4 (by omega) y10⟩))))
    · exact Or.inr (Or.inr (Or.inr (Or.inr (Or.inr ⟨y1, y2, y3, y4, key _ _ _ (by omega) (by omega) (by omega) y5, y0⟩))))
theorem TR.r20 {V : VT} {d R a e : Nat} (h : TR V d R a e) (k : vk V e = 61) : rk V e = 20 := by
  cases d with
  | zero => exact h.elim
  | succ d =>
    obtain ⟨k1, k2, k3, k4⟩ := h
    rcases k4 with ⟨y1, y2, y3⟩ | ⟨y1, y2, y3, y4⟩ | ⟨g, y1, y2, y3, y4, y5, y6, y7⟩ | ⟨g, kk, y1, y2, y3, y4, y5, y6, y7, y8, y9, y10, y11, y12⟩ | ⟨m, g, r, y1, y2, y3, y4, y5, y6, y7, y8, y9, y10⟩ | ⟨y1, y2, y3, y4, y5, y0⟩
    · rcases y3 with ⟨y, -⟩ | ⟨y, -⟩ | ⟨y, -⟩ | ⟨y, -⟩ | ⟨y, -⟩ | ⟨-, y⟩
      · rw [y] at k; exact absurd k (by decide)
      · rw [y] at k; exact absurd k (by decide)
      · rw [y] at k; exact absurd k (by decide)
      · rw [y] at k; exact absurd k (by decide)
      · rw [y] at k; exact absurd k (by decide)
      · exact y
    · obtain ⟨-, un⟩ := y2
      rcases un with ⟨y, -⟩ | ⟨y, -⟩ | ⟨y, -⟩ | ⟨y, -⟩ <;> rw [y] at k <;> exact absurd k (by decide)
    · obtain ⟨-, bi⟩ := y3
      rcases bi with ⟨y, -⟩ | ⟨y, -⟩ | ⟨y, -⟩ | ⟨y, -⟩ | ⟨y, -⟩ | ⟨y, -⟩ | ⟨y, -⟩ | ⟨y, -⟩ | ⟨κ, q1, q2, y, -⟩
      all_goals first | (rw [y] at k; exact absurd k (by decide)) | skip
      have c6 : κ = 50 ∨ κ = 51 ∨ κ = 52 ∨ κ = 53 ∨ κ = 54 ∨ κ = 55 := by omega
      rw [y] at k
      rcases c6 with q | q | q | q | q | q <;> rw [q] at k <;> exact absurd k (by decide)
    · rw [y5] at k
      exact absurd k (by decide)
    · obtain ⟨-, nn⟩ := y6
      rcases nn with ⟨y, -⟩ | ⟨y, -⟩ <;> rw [y] at k <;> exact absurd k (by decide)
    · obtain ⟨-, ak⟩ := y2
      rcases ak with ⟨y, -⟩ | ⟨y, -⟩ | ⟨y, -⟩ | ⟨y, -⟩ <;> rw [y] at k <;> exact absurd k (by decide)
def EBX (F : Nat) (V : VT) (c cap s ar : Nat) (D : Nat → Prop) (cs : CS) (rs : RS) : Prop := (10000 ≤ F) ∧ (ar ≠ c) ∧ (SKV V s) ∧ (s ≤ 120) ∧ (s ≤ cap) ∧ (cap ≤ 120) ∧ (CA c cap cs) ∧ ((2, c) ∈ kE cs) ∧ (kI cs 64 c = nI s) ∧ (∀ y, y < s → CW c cs y = (V y).1) ∧ (∀ y, y < s → RW rs y = (V y).2) ∧ (∀ y, D y → vk V y = 39 → kA cs 72 c y = rs.2.2.1 33 y)
theorem EBX.hF {F : Nat} {V : VT} {c cap s ar : Nat} {D : Nat → Prop} {cs : CS} {rs : RS} (h : EBX F V c cap s ar D cs rs) : 10000 ≤ F := h.1
theorem EBX.hc {F : Nat} {V : VT} {c cap s ar : Nat} {D : Nat → Prop} {cs : CS} {rs : RS} (h : EBX F V c cap s ar D cs rs) : ar ≠ c := h.2.1
theorem EBX.sk {F : Nat} {V : VT} {c cap s ar : Nat} {D : Nat → Prop} {cs : CS} {rs : RS} (h : EBX F V c cap s ar D cs rs) : SKV V s := h.2.2.1
theorem EBX.s1 {F : Nat} {V : VT} {c cap s ar : Nat} {D : Nat → Prop} {cs : CS} {rs : RS} (h : EBX F V c cap s ar D cs rs) : s ≤ 120 := h.2.2.2.1
theorem EBX.sc {F : Nat} {V : VT} {c cap s ar : Nat} {D : Nat → Prop} {cs : CS} {rs : RS} (h : EBX F V c cap s ar D cs rs) : s ≤ cap := h.2.2.2.2.1
theorem EBX.cp {F : Nat} {V : VT} {c cap s ar : Nat} {D : Nat → Prop} {cs : CS} {rs : RS} (h : EBX F V c cap s ar D cs rs) : cap ≤ 120 := h.2.2.2.2.2.1
theorem EBX.ca {F : Nat} {V : VT} {c cap s ar : Nat} {D : Nat → Prop} {cs : CS} {rs : RS} (h : EBX F V c cap s ar D cs rs) : CA c cap cs := h.2.2.2.2.2.2.1
theorem EBX.oc {F : Nat} {V : VT} {c cap s ar : Nat} {D : Nat → Prop} {cs : CS} {rs : RS} (h : EBX F V c cap s ar D cs rs) : (2, c) ∈ kE cs := h.2.2.2.2.2.2.2.1
theorem EBX.sz {F : Nat} {V : VT} {c cap s ar : Nat} {D : Nat → Prop} {cs : CS} {rs : RS} (h : EBX F V c cap s ar D cs rs) : kI cs 64 c = nI s := h.2.2.2.2.2.2.2.2.1
theorem EBX.cw {F : Nat} {V : VT} {c cap s ar : Nat} {D : Nat → Prop} {cs : CS} {rs : RS} (h : EBX F V c cap s ar D cs rs) : ∀ y, y < s → CW c cs y = (V y).1 := h.2.2.2.2.2.2.2.2.2.1
theorem EBX.vw {F : Nat} {V : VT} {c cap s ar : Nat} {D : Nat → Prop} {cs : CS} {rs : RS} (h : EBX F V c cap s ar D cs rs) : ∀ y, y < s → RW rs y = (V y).2 := h.2.2.2.2.2.2.2.2.2.2.1
theorem EBX.dd {F : Nat} {V : VT} {c cap s ar : Nat} {D : Nat → Prop} {cs : CS} {rs : RS} (h : EBX F V c cap s ar D cs rs) : ∀ y, D y → vk V y = 39 → kA cs 72 c y = rs.2.2.1 33 y := h.2.2.2.2.2.2.2.2.2.2.2
theorem EBX.exc {F : Nat} {V : VT} {c cap s ar : Nat} {D : Nat → Prop} {cs : CS} {rs : RS} {a r W : Nat} {Ty : RPR} (b : EBX F V c cap s ar D cs rs) (rt : RTT V s r a) (h : NSC V c a r W Ty cs) : EXC F c ar W r Ty (evS V c cs r) cs := h.exc b.hF b.hc b.sk rt b.s1 b.sc b.cp b.ca b.oc b.sz b.cw
theorem RTT.nm {V : VT} {s a r y : Nat} (rt : RTT V s r a) (y1 : a ≤ y) (y2 : y ≤ r) (k : rk V y = 5) : vk V y = 39 := by
  obtain ⟨b, R', -, -, -, tb⟩ := TR.sube (r + 1 - a) r a r rt.2.2 y1 y2
  exact TR.col tb k
theorem RTT.ag {V : VT} {s a r y : Nat} (rt : RTT V s r a) (y1 : a ≤ y) (y2 : y ≤ r) (k : AGRK (rk V y)) : AGC (vk V y) := by
  obtain ⟨b, R', -, -, -, tb⟩ := TR.sube (r + 1 - a) r a r rt.2.2 y1 y2
  exact (TR.agr tb k).1
/-- without aggregates -/
theorem EBX.plain {F : Nat} {V : VT} {c cap s ar : Nat} {D : Nat → Prop} {cs : CS} {rs : RS} {a r W : Nat} {Ty : RPR} (b : EBX F V c cap s ar D cs rs) (rt : RTT V s r a) (h : NSC V c a r W Ty cs) (no : ∀ z, a ≤ z → z ≤ r → ¬ AGC (vk V z)) (cv : ∀ z, a ≤ z → z ≤ r → D z) : EXV F W r (evS V c cs r) rs := by
  have rs' := rt.2.1
  have s1 := b.s1
  have ou : ∀ y, a ≤ y → y ≤ r → OUA V r y := fun y y1 y2 q fq q1 q2 q3 _ _ => absurd q3 (no q (by omega) q2)
  have e := (EXA.of (F := F) (w := W) (cl := sl72 c cs) (rs := rs) b.hF s1 rs' b.vw rt.2.2 (fun y y1 y2 k => by
    have k39 := rt.nm y1 y2 k
    obtain ⟨q1, q2⟩ := h.s72 y y1 y2 (Or.inl k39)
    exact ⟨by rw [← b.dd y (cv y y1 y2) k39]; exact q1, h.sw y y1 y2 (ou y y1 y2) (Or.inl k39)⟩) (fun y y1 y2 k => absurd (rt.ag y1 y2 k) (no y y1 y2))).exv (by omega)
  have ev : (fun L => EV V (fun y => L.getD (sl72 c cs y) none) (fun _ => none) r) = evS V c cs r := funext fun L => (ev_noag (sl := sl72 c cs) (cl := sl72 c cs) (L := L) (by omega) rt.2.2 no (fun _ _ _ _ => rfl)).symm
  rw [ev] at e
  exact e
/-- names of an EXPR over a group -/
theorem g_out {V : VT} {c a r s o n gr mg y : Nat} {tg : Nat → Int32} {cs : CS} (sk : SKV V s) (s1 : s ≤ 120) (wt : WTR c a r (some o) (nI n) (some gr) cs) (rt : RTT V s r a) (cw : ∀ y, y < s → CW c cs y = (V y).1) (g96 : kI cs 96 gr = nI mg) (m8 : mg ≤ 8) (y1 : a ≤ y) (y2 : y ≤ r) (ou : OUA V r y) (k : vk V y = 39) : ∃ col, col < mg ∧ kA cs 72 c y = nI col := by
  have rs := rt.2.1
  have nl := agv_out sk s1 rs y1 y2 ou
  rw [← agv_eq (v := kA cs 71 c) (w := vs V) (y + 1 - a) (fun z z1 z2 => (CW.e (cw z (by omega))).2.2.2)] at nl
  obtain ⟨col, h1, h2, h3, h4⟩ := ((wt y y1 y2).1 (by rw [(CW.e (cw y (by omega))).1]; exact k)).2 gr rfl nl
  rw [g96] at h2
  exact ⟨col, (nI_ltI (a := col) (b := mg) (by omega) (by omega)).mp h2, h3⟩
/-- names within an aggregate -/
theorem g_inn {V : VT} {c a r s o n q fq y : Nat} {nm : Option Nat} {w : Nat → Nat} {ty : Nat → Nat → Int32} {cs : CS} (sk : SKV V s) (s1 : s ≤ 120) (wt : WTR c a r (some o) (nI n) nm cs) (rt : RTT V s r a) (cw : ∀ y, y < s → CW c cs y = (V y).1) (sq : SCQ o n w ty cs) (hn : n ≤ 3) (y1 : a ≤ y) (x1 : y < q) (x2 : q ≤ r) (x3 : AGC (vk V q)) (x4 : vf V q = nI fq) (x6 : fq ≤ y) (k : vk V y = 39) : ∃ i col, i < n ∧ col < w i ∧ w i ≤ 8 ∧ wd0 w i ≤ 100 ∧ kA cs 72 c y = nI (wd0 w i + col) ∧ kA cs 73 c y = ty i col ∧ (ty i col = 1 ∨ ty i col = 2) := by
  have rs := rt.2.1
  obtain ⟨b, R', b1, b2, vfb, tb⟩ := TR.sube (r + 1 - a) r a r rt.2.2 (show a ≤ q by omega) x2
  have eb : b = fq := (nI_eq (by omega) (by omega)).mp (vfb.symm.trans x4)
  rw [eb] at tb
  have hv := ((TR.ag6 tb x3).2 (by omega)).1
  have nl := agv_in sk s1 rs rt.2.2 (show a ≤ q by omega) x2 x3 x4 x6 x1 hv
  rw [← agv_eq (v := kA cs 71 c) (w := vs V) (y + 1 - a) (fun z z1 z2 => (CW.e (cw z (by omega))).2.2.2)] at nl
  obtain ⟨o', h1, h2⟩ := ((wt y y1 (by omega)).1 (by rw [(CW.e (cw y (by omega))).1]; exact k)).1 (Or.inr nl)
  rw [← Option.some.inj h1] at h2
  exact ntf_x h2 sq hn
theorem nou_ex {V : VT} {r y : Nat} (nou : ¬ OUA V r y) : ∃ q fq, y < q ∧ q ≤ r ∧ AGC (vk V q) ∧ vf V q = nI fq ∧ fq ≤ y := by
  refine Classical.byContradiction (fun hne => nou (fun q fq x1 x2 x3 x4 x5 => ?_))
  refine Classical.byContradiction (fun hlt => hne ⟨q, fq, x1, x2, x3, x4, by omega⟩)
/-- what stands within an aggregate -/
theorem nsc_inner {V : VT} {c a r s o n q fq : Nat} {nm : Option Nat} {w : Nat → Nat} {ty : Nat → Nat → Int32} {cs : CS} (sk : SKV V s) (s1 : s ≤ 120) (wt : WTR c a r (some o) (nI n) nm cs) (rt : RTT V s r a) (cw : ∀ y, y < s → CW c cs y = (V y).1) (sq : SCQ o n w ty cs) (hn : n ≤ 3) (qa : a ≤ q) (qr : q ≤ r) (ag : AGC (vk V q)) (fe : vf V q = nI fq) (fl' : fq < q) : RTT V s (q - 1) fq ∧ (∀ z, fq ≤ z → z ≤ q - 1 → ¬ AGC (vk V z)) ∧ NSC V c fq (q - 1) (wid w (n - 1)) (RWT n w ty) cs := by
  have rs := rt.2.1
  obtain ⟨b, R', b1, b2, vfb, tb⟩ := TR.sube (r + 1 - a) r a r rt.2.2 qa qr
  have eb : b = fq := (nI_eq (by omega) (by omega)).mp (vfb.symm.trans fe)
  rw [eb] at tb b1
  obtain ⟨no, h2⟩ := TR.ag6 tb ag
  obtain ⟨-, d', t1⟩ := h2 fl'
  have rt' : RTT V s (q - 1) fq := ⟨by omega, by omega, tr_nrm (q - 1 + 1 - fq + 1) _ _ _ _ (q - 1 + 1 - fq) (by omega) (by omega) t1⟩
  have nx : ∀ y, fq ≤ y → y ≤ q - 1 → vk V y = 39 → ∃ i col, i < n ∧ col < w i ∧ w i ≤ 8 ∧ wd0 w i ≤ 100 ∧ kA cs 72 c y = nI (wd0 w i + col) ∧ kA cs 73 c y = ty i col ∧ (ty i col = 1 ∨ ty i col = 2) := fun y y1 y2 k => g_inn sk s1 wt rt cw sq hn (by omega) (by omega) qr ag fe y1 k
  refine ⟨rt', fun z z1 z2 => no z z1 (by omega), ⟨fun y y1 y2 k => ?_, fun y y1 y2 _ k => ?_, fun L hL y y1 y2 _ k t => ?_, fun y y1 y2 k => (wt.atx (fun y hy => cw y (by omega)) y (by omega) (by omega) k).up b1⟩⟩
  · rcases k with k | k
    · obtain ⟨i, col, q1, q2, q3, q4, q5, -⟩ := nx y y1 y2 k
      rw [sl72_is q5 (by omega)]
      exact ⟨q5, by omega⟩
    · exact absurd k (no y y1 (by omega))
  · rcases k with k | k
    · obtain ⟨i, col, q1, q2, q3, q4, q5, -⟩ := nx y y1 y2 k
      rw [sl72_is q5 (by omega)]
      have := wd0_le (w := w) n i q1
      omega
    · exact absurd k (no y y1 (by omega))
  · obtain ⟨i, col, q1, q2, q3, q4, q5, q6, q7⟩ := nx y y1 y2 k
    rw [sl72_is q5 (by omega)]
    refine hL i col q1 q2 ?_
    rcases q7 with q | q
    · rw [q6, q] at t
      exact absurd (by decide) t
    · exact q
/-- of an ORDER BY -/
theorem nsc_order {V : VT} {c a r s it mi : Nat} {ti : Nat → Int32} {cs : CS} (sk : SKV V s) (s1 : s ≤ 120) (wt : WTR c a r none 0 (some it) cs) (rt : RTT V s r a) (cw : ∀ y, y < s → CW c cs y = (V y).1) (no : ∀ z, a ≤ z → z ≤ r → ¬ AGC (vk V z)) (g96 : kI cs 96 it = nI mi) (m8 : mi ≤ 8) (ti' : ∀ col, col < mi → kA cs 100 it col = ti col ∧ (ti col = 1 ∨ ti col = 2)) : NSC V c a r mi (RWL mi ti) cs := by
  have rs := rt.2.1
  have out : ∀ y, a ≤ y → y ≤ r → vk V y = 39 → ∃ col, col < mi ∧ kA cs 72 c y = nI col ∧ kA cs 73 c y = ti col ∧ (ti col = 1 ∨ ti col = 2) := fun y y1 y2 k => by
    have nl := agv_no sk s1 rs y1 y2 no
    rw [← agv_eq (v := kA cs 71 c) (w := vs V) (y + 1 - a) (fun z z1 z2 => (CW.e (cw z (by omega))).2.2.2)] at nl
    obtain ⟨col, h1, h2, h3, h4⟩ := ((wt y y1 y2).1 (by rw [(CW.e (cw y (by omega))).1]; exact k)).2 it rfl nl
    rw [g96] at h2
    have cm := (nI_ltI (a := col) (b := mi) (by omega) (by omega)).mp h2
    obtain ⟨t1, t2⟩ := ti' col cm
    exact ⟨col, cm, h3, by rw [h4, t1], t2⟩
  refine ⟨fun y y1 y2 k => ?_, fun y y1 y2 _ k => ?_, fun L hL y y1 y2 _ k t => ?_, wt.atx (fun y hy => cw y (by omega))⟩
  · rcases k with k | k
    · obtain ⟨col, q1, q2, -⟩ := out y y1 y2 k
      rw [sl72_is q2 (by omega)]
      exact ⟨q2, by omega⟩
    · exact absurd k (no y y1 y2)
  · rcases k with k | k
    · obtain ⟨col, q1, q2, -⟩ := out y y1 y2 k
      rw [sl72_is q2 (by omega)]
      exact q1
    · exact absurd k (no y y1 y2)
  · obtain ⟨col, q1, q2, q3, q4⟩ := out y y1 y2 k
    rw [sl72_is q2 (by omega)]
    refine hL col q1 ?_
    rcases q4 with q | q
    · rw [q3, q] at t
      exact absurd (by decide) t
    · exact q
/-- over a group: the reference, and that both say the same -/
theorem EBX.group {F : Nat} {V : VT} {c cap s ar : Nat} {D : Nat → Prop} {cs : CS} {rs : RS} {a r o n gr mg na W : Nat} {w : Nat → Nat} {ty : Nat → Nat → Int32} {tg : Nat → Int32} {κ : Nat → Int32} {iv : Nat → List OV → OV} (b : EBX F V c cap s ar D cs rs) (wt : WTR c a r (some o) (nI n) (some gr) cs) (rt : RTT V s r a) (sq : SCQ o n w ty cs) (hn : n ≤ 3) (g96 : kI cs 96 gr = nI mg) (m8 : mg ≤ 8) (tg' : ∀ col, col < mg → kA cs 100 gr col = tg col ∧ (tg col = 1 ∨ tg col = 2)) (n12 : na ≤ 12) (ag : ∀ y, a ≤ y → y ≤ r → AGC (vk V y) → ∃ j, j < na ∧ kA cs 72 c y = nI (mg + j) ∧ AKR (κ j) (rk V y) ∧ (κ j = 61 → ∀ L, iv j L = some 1) ∧ (κ j ≠ 61 → ∀ L, iv j L = evS V c cs (y - 1) L)) (ot : ∀ y, a ≤ y → y ≤ r → AGC (vk V y) → vk V y ≠ 61 → ∃ fq, vf V y = nI fq ∧ fq < y) (cv : ∀ z, a ≤ z → z ≤ r → D z) (hW : wid w (n - 1) = W) (hW1 : W ≤ 100) : NSC V c a r (mg + na) (RWL mg tg) cs ∧ EXG F W mg r (EVG V (sl72 c cs) r) rs ∧ ∀ g mem, g.length = mg → evS V c cs r (grow na κ iv g mem) = EVG V (sl72 c cs) r g mem := by
  have rs' := rt.2.1
  have s1 := b.s1
  have nsc : NSC V c a r (mg + na) (RWL mg tg) cs := nsc_group b.sk s1 wt rt b.cw sq hn g96 m8 tg' n12 (fun y y1 y2 k => by
    obtain ⟨j, q1, q2, -⟩ := ag y y1 y2 k
    exact ⟨j, q1, q2⟩)
  have gout : ∀ y, a ≤ y → y ≤ r → vk V y = 39 → OUA V r y → sl72 c cs y < mg := fun y y1 y2 k ou => by
    obtain ⟨col, q1, q2⟩ := g_out (tg := tg) b.sk s1 wt rt b.cw g96 m8 y1 y2 ou k
    rw [sl72_is q2 (by omega)]
    exact q1
  have ginn : ∀ y, a ≤ y → y ≤ r → vk V y = 39 → ¬ OUA V r y → sl72 c cs y < W := fun y y1 y2 k nou => by
    obtain ⟨q, fq, x1, x2, x3, x4, x5⟩ := nou_ex nou
    obtain ⟨i, col, q1, q2, q3, q4, q5, -⟩ := g_inn b.sk s1 wt rt b.cw sq hn y1 x1 x2 x3 x4 x5 k
    rw [sl72_is q5 (by omega)]
    have := wd0_le (w := w) n i q1
    omega
  refine ⟨nsc, EXG.of b.hF s1 rs' b.vw rt.2.2 (fun y y1 y2 k => ?_) (fun y y1 y2 k ou => gout y y1 y2 (rt.nm y1 y2 k) ou) (fun y y1 y2 k nou => ginn y y1 y2 (rt.nm y1 y2 k) nou), fun g mem hg => ?_⟩
  · have k39 := rt.nm y1 y2 k
    obtain ⟨q1, q2⟩ := nsc.s72 y y1 y2 (Or.inl k39)
    refine ⟨by rw [← b.dd y (cv y y1 y2) k39]; exact q1, ?_⟩
    by_cases ou : OUA V r y
    · have := gout y y1 y2 k39 ou
      omega
    · have := ginn y y1 y2 k39 ou
      omega
  · refine grow_ev (sl := sl72 c cs) (cl := sl72 c cs) (by omega) rt.2.2 (fun y y1 y2 ou k => ⟨rfl, by rw [hg]; exact gout y y1 y2 (rt.nm y1 y2 k) ou⟩) (fun y y1 y2 ou k => ?_)
    have kc := rt.ag y1 y2 k
    obtain ⟨j, q1, q2, q3, q4, q5⟩ := ag y y1 y2 kc
    refine ⟨j, q1, by rw [sl72_is q2 (by omega), hg], q3, q4, fun k61 L => ?_⟩
    rw [q5 k61 L]
    have v61 : vk V y ≠ 61 := fun z => by
      obtain ⟨b', R', -, -, -, tb⟩ := TR.sube (r + 1 - a) r a r rt.2.2 y1 y2
      have r20 := TR.r20 tb z
      rw [r20] at q3
      unfold AKR at q3
      rcases q3 with ⟨z1, -⟩ | ⟨-, z1⟩ | ⟨-, z1⟩ | ⟨-, z1⟩ | ⟨-, z1⟩
      · exact k61 z1
      all_goals exact absurd z1 (by decide)
    obtain ⟨fq, f1, f2⟩ := ot y y1 y2 kc v61
    obtain ⟨rt1, no1, -⟩ := nsc_inner b.sk s1 wt rt b.cw sq hn y1 y2 kc f1 f2
    exact ev_noag (sl := sl72 c cs) (cl := sl72 c cs) (L := L) (by omega) rt1.2.2 no1 (fun _ _ _ _ => rfl)

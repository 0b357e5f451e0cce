/-! an EXPR in its scope: slots and types -/
def sl72 (c : Nat) (cs : CS) (y : Nat) : Nat := (kA cs 72 c y).toNatClampNeg
theorem sl72_is {c y v : Nat} {cs : CS} (h : kA cs 72 c y = nI v) (hv : v < 2147483648) : sl72 c cs y = v := by
  unfold sl72
  rw [h]
  exact nI_clamp hv
def NSC (V : VT) (c a r W : Nat) (Ty : RPR) (cs : CS) : Prop := (∀ y, a ≤ y → y ≤ r → NAG V y → kA cs 72 c y = nI (sl72 c cs y) ∧ sl72 c cs y < 1000000) ∧ (∀ y, a ≤ y → y ≤ r → OUA V r y → NAG V y → sl72 c cs y < W) ∧ (∀ L, Ty L → ∀ y, a ≤ y → y ≤ r → OUA V r y → vk V y = 39 → ¬ kA cs 73 c y &&& 2 = 0 → TV (L.getD (sl72 c cs y) none)) ∧ (∀ y, a ≤ y → y ≤ r → vk V y ≠ 39 → ATX a V (kA cs 73 c) y)
theorem NSC.s72 {V : VT} {c a r W : Nat} {Ty : RPR} {cs : CS} (h : NSC V c a r W Ty cs) : ∀ y, a ≤ y → y ≤ r → NAG V y → kA cs 72 c y = nI (sl72 c cs y) ∧ sl72 c cs y < 1000000 := h.1
theorem NSC.sw {V : VT} {c a r W : Nat} {Ty : RPR} {cs : CS} (h : NSC V c a r W Ty cs) : ∀ y, a ≤ y → y ≤ r → OUA V r y → NAG V y → sl72 c cs y < W := h.2.1
theorem NSC.ty {V : VT} {c a r W : Nat} {Ty : RPR} {cs : CS} (h : NSC V c a r W Ty cs) : ∀ L, Ty L → ∀ y, a ≤ y → y ≤ r → OUA V r y → vk V y = 39 → ¬ kA cs 73 c y &&& 2 = 0 → TV (L.getD (sl72 c cs y) none) := h.2.2.1
theorem NSC.aty {V : VT} {c a r W : Nat} {Ty : RPR} {cs : CS} (h : NSC V c a r W Ty cs) : ∀ y, a ≤ y → y ≤ r → vk V y ≠ 39 → ATX a V (kA cs 73 c) y := h.2.2.2
/-- the value of an EXPR over a row, by the class's slots -/
def evS (V : VT) (c : Nat) (cs : CS) (r : Nat) (L : List OV) : OV := EV V (rwv (sl72 c cs) L) (rwv (sl72 c cs) L) r
theorem EXC.tau {F c ar w e : Nat} {τ τ' : RPR} {val : List OV → OV} {cs : CS} (h : EXC F c ar w e τ val cs) (q : ∀ L, τ' L → τ L) : EXC F c ar w e τ' val cs := fun X base n cf st hb ty => h X base n cf st hb (q _ ty)
theorem NSC.tyx {V : VT} {c a r W s : Nat} {Ty : RPR} {cs : CS} (h : NSC V c a r W Ty cs) (rt : RTT V s r a) (s1 : s ≤ 120) {L : List OV} (hL : Ty L) : TYX V (sl72 c cs) (r + 1 - a) a r L := fun cev ag => (ty_all (cag := cev) (T := kA cs 73 c) (a0 := a) (root := r) (by have := rt.2.1; omega) h.aty (fun y y1 y2 y3 y4 w => by
  rw [ag y y1 y2 y3 (Or.inl y4)]
  exact h.ty L hL y y1 y2 y3 y4 w) (r + 1 - a) r a r (Nat.le_refl _) rt.2.2 OUA.top (Nat.le_refl _)).2
theorem NSC.tv {V : VT} {c a r W s : Nat} {Ty : RPR} {cs : CS} (h : NSC V c a r W Ty cs) (rt : RTT V s r a) (s1 : s ≤ 120) {L : List OV} (hL : Ty L) (w : ¬ kA cs 73 c r &&& 2 = 0) : TV (evS V c cs r L) := (ty_all (cag := rwv (sl72 c cs) L) (T := kA cs 73 c) (a0 := a) (root := r) (by have := rt.2.1; omega) h.aty (fun y y1 y2 y3 y4 w => h.ty L hL y y1 y2 y3 y4 w) (r + 1 - a) r a r (Nat.le_refl _) rt.2.2 OUA.top (Nat.le_refl _)).1 w
theorem NSC.exc {F : Nat} {V : VT} {c cap a r W s ar : Nat} {Ty : RPR} {cs : CS} (h : NSC V c a r W Ty cs) (hF : 10000 ≤ F) (hc : ar ≠ c) (sk : SKV V s) (rt : RTT V s r a) (s1 : s ≤ 120) (hsc : s ≤ cap) (cp : cap ≤ 120) (ca : CA c cap cs) (oc : (2, c) ∈ kE cs) (sz : kI cs 64 c = nI s) (cw : ∀ y, y < s → CW c cs y = (V y).1) : EXC F c ar W r Ty (evS V c cs r) cs := (EXC.of (sl := sl72 c cs) hF hc sk rt.2.1 s1 hsc cp ca oc sz rt.2.2 cw h.s72 h.sw).tau (fun L hL => h.tyx rt s1 hL)
theorem ATX.up {a a' y : Nat} {V : VT} {T : Nat → Int32} (h : ATX a V T y) (g : a ≤ a') : ATX a' V T y := ⟨fun k w => h.1 k (by omega), fun k g' q1 q2 q3 => h.2.1 k g' q1 (by omega) q3, fun k g' q1 q2 q3 => h.2.2.1 k g' q1 (by omega) q3, h.2.2.2⟩
theorem WTR.atx {V : VT} {c a r : Nat} {so nm : Option Nat} {sn : Int32} {cs : CS} (w : WTR c a r so sn nm cs) (cw : ∀ y, y ≤ r → CW c cs y = (V y).1) : ∀ y, a ≤ y → y ≤ r → vk V y ≠ 39 → ATX a V (kA cs 73 c) y := fun y y1 y2 hk => by
  have e := CW.e (cw y y2)
  have e1 := CW.e (cw (y - 1) (by omega))
  obtain ⟨q1, q2, q3, q4⟩ := (w y y1 y2).2 (by rw [e.1]; exact hk)
  rw [e.1] at q1 q2 q3 q4
  rw [e1.2.1] at q2 q3
  exact ⟨q1, q2, q3, q4⟩
/-- the SOURCES in scope: their columns' places and types -/
def SCQ (o n : Nat) (w : Nat → Nat) (ty : Nat → Nat → Int32) (cs : CS) : Prop := ∀ i, i < n → ∃ oo cl, kQ cs 195 o i = some oo ∧ kR cs 235 oo = some cl ∧ kI cs 234 oo = nI (wd0 w i) ∧ kI cs 96 cl = nI (w i) ∧ w i ≤ 8 ∧ wd0 w i ≤ 100 ∧ ∀ col, col < w i → kA cs 100 cl col = ty i col ∧ (ty i col = 1 ∨ ty i col = 2)
/-- a row of joined SOURCES is typed -/
def RWT (n : Nat) (w : Nat → Nat) (ty : Nat → Nat → Int32) : RPR := fun L => ∀ i col, i < n → col < w i → ty i col = 2 → TV (L.getD (wd0 w i + col) none)
/-- a row of a list of columns is typed -/
def RWL (m : Nat) (ty : Nat → Int32) : RPR := fun L => ∀ col, col < m → ty col = 2 → TV (L.getD col none)
theorem wd0_le {w : Nat → Nat} : ∀ (n i : Nat), i < n → wd0 w i + w i ≤ wid w (n - 1) := fun n => by
  induction n with
  | zero => intro i h; omega
  | succ n ih =>
    intro i h
    have base : wd0 w n + w n = wid w n := by
      cases n with
      | zero => show 0 + w 0 = w 0; omega
      | succ n => rfl
    rw [Nat.add_sub_cancel]
    by_cases q : i = n
    · rw [q, base]
      exact Nat.le_refl _
    · have h1 := ih i (by omega)
      obtain ⟨m, rfl⟩ : ∃ m, n = m + 1 := ⟨n - 1, by omega⟩
      rw [Nat.add_sub_cancel] at h1
      show _ ≤ wid w m + w (m + 1)
      omega
theorem ntf_x {o n c y : Nat} {w : Nat → Nat} {ty : Nat → Nat → Int32} {cs : CS} (h : NTF c o (nI n) y cs) (sq : SCQ o n w ty cs) (hn : n ≤ 3) : ∃ i col, i < n ∧ col < w i ∧ w i ≤ 8 ∧ wd0 w i ≤ 100 ∧ kA cs 72 c y = nI (wd0 w i + col) ∧ kA cs 73 c y = ty i col ∧ (ty i col = 1 ∨ ty i col = 2) := by
  obtain ⟨s, oo, cl, col, h1, h2, h3, h4, h5, h6, h7, h8⟩ := h
  have sn := (nI_ltI (a := s) (b := n) h1 (by omega)).mp h2
  obtain ⟨oo', cl', q1, q2, q3, q4, q5, q6, q7⟩ := sq s sn
  have e1 : oo' = oo := Option.some.inj (q1.symm.trans h3)
  rw [e1] at q2 q3
  have e2 : cl' = cl := Option.some.inj (q2.symm.trans h4)
  rw [e2] at q4 q7
  rw [q4] at h6
  have cw := (nI_ltI (a := col) (b := w s) (by omega) (by omega)).mp h6
  obtain ⟨t1, t2⟩ := q7 col cw
  exact ⟨s, col, sn, cw, q5, q6, by rw [h7, q3, nI_add], by rw [h8, t1], t2⟩
/-- without aggregates, over joined SOURCES -/
theorem nsc_plain {V : VT} {c a r s o n : Nat} {w : Nat → Nat} {ty : Nat → Nat → Int32} {cs : CS} (wt : WTR c a r (some o) (nI n) none cs) (rt : RTT V s r a) (cw : ∀ y, y < s → CW c cs y = (V y).1) (no : ∀ z, a ≤ z → z ≤ r → ¬ AGC (vk V z)) (sq : SCQ o n w ty cs) (hn : n ≤ 3) : NSC V c a r (wid w (n - 1)) (RWT n w ty) cs := by
  have rs := rt.2.1
  have nx : ∀ y, a ≤ y → y ≤ r → vk V y = 39 → ∃ i col, i < n ∧ col < w i ∧ w i ≤ 8 ∧ wd0 w i ≤ 100 ∧ kA cs 72 c y = nI (wd0 w i + col) ∧ kA cs 73 c y = ty i col ∧ (ty i col = 1 ∨ ty i col = 2) := fun y y1 y2 k => by
    obtain ⟨o', h1, h2⟩ := ((wt y y1 y2).1 (by rw [(CW.e (cw y (by omega))).1]; exact k)).1 (Or.inl rfl)
    rw [← Option.some.inj h1] at h2
    exact ntf_x h2 sq hn
  refine ⟨fun y y1 y2 k => ?_, fun y y1 y2 _ k => ?_, fun L hL y y1 y2 _ k t => ?_, wt.atx (fun y hy => cw y (by omega))⟩
  · rcases k with k | k
    · obtain ⟨i, col, q1, q2, q3, q4, q5, -⟩ := nx y y1 y2 k
      rw [sl72_is q5 (by omega)]
      exact ⟨q5, by omega⟩
    · exact absurd k (no y y1 y2)
  · rcases k with k | k
    · obtain ⟨i, col, q1, q2, q3, q4, q5, -⟩ := nx y y1 y2 k
      rw [sl72_is q5 (by omega)]
      have := wd0_le (w := w) n i q1
      omega
    · exact absurd k (no y y1 y2)
  · obtain ⟨i, col, q1, q2, q3, q4, q5, q6, q7⟩ := nx y y1 y2 k
    rw [sl72_is q5 (by omega)]
    refine hL i col q1 q2 ?_
    rcases q7 with q | q
    · rw [q6, q] at t
      exact absurd (by decide) t
    · exact q
/-- over a group: keys, then aggregates -/
theorem nsc_group {V : VT} {c a r s o n gr mg na : Nat} {w : Nat → Nat} {ty : Nat → Nat → Int32} {tg : Nat → Int32} {cs : CS} (sk : SKV V s) (s1 : s ≤ 120) (wt : WTR c a r (some o) (nI n) (some gr) cs) (rt : RTT V s r a) (cw : ∀ y, y < s → CW c cs y = (V y).1) (sq : SCQ o n w ty cs) (hn : n ≤ 3) (g96 : kI cs 96 gr = nI mg) (m8 : mg ≤ 8) (tg' : ∀ col, col < mg → kA cs 100 gr col = tg col ∧ (tg col = 1 ∨ tg col = 2)) (n12 : na ≤ 12) (ag : ∀ y, a ≤ y → y ≤ r → AGC (vk V y) → ∃ j, j < na ∧ kA cs 72 c y = nI (mg + j)) : NSC V c a r (mg + na) (RWL mg tg) cs := by
  have rs := rt.2.1
  have ev : ∀ z, a ≤ z → z ≤ r → kA cs 71 c z = vs V z := fun z _ z2 => (CW.e (cw z (by omega))).2.2.2
  have out : ∀ y, a ≤ y → y ≤ r → OUA V r y → vk V y = 39 → ∃ col, col < mg ∧ kA cs 72 c y = nI col ∧ kA cs 73 c y = tg col ∧ (tg col = 1 ∨ tg col = 2) := fun y y1 y2 ou k => by
    have nl := agv_out sk s1 rs y1 y2 ou
    rw [← agv_eq (v := kA cs 71 c) (w := vs V) (y + 1 - a) (fun z z1 z2 => ev z z1 (by omega))] at nl
    obtain ⟨col, h1, h2, h3, h4⟩ := ((wt y y1 y2).1 (by rw [(CW.e (cw y (by omega))).1]; exact k)).2 gr rfl nl
    rw [g96] at h2
    have cm := (nI_ltI (a := col) (b := mg) (by omega) (by omega)).mp h2
    obtain ⟨t1, t2⟩ := tg' col cm
    exact ⟨col, cm, h3, by rw [h4, t1], t2⟩
  have inn : ∀ y, a ≤ y → y ≤ r → ¬ OUA V r y → vk V y = 39 → ∃ v, v < 1000 ∧ kA cs 72 c y = nI v := fun y y1 y2 nou k => by
    have ex : ∃ q fq, y < q ∧ q ≤ r ∧ AGC (vk V q) ∧ vf V q = nI fq ∧ fq ≤ q ∧ ¬ y < fq := by
      refine Classical.byContradiction (fun hne => nou (fun q fq x1 x2 x3 x4 x5 => ?_))
      refine Classical.byContradiction (fun hlt => hne ⟨q, fq, x1, x2, x3, x4, x5, hlt⟩)
    obtain ⟨q, fq, x1, x2, x3, x4, x5, x6⟩ := ex
    obtain ⟨b, R', b1, b2, -, tb⟩ := TR.sube (r + 1 - a) r a r rt.2.2 (show a ≤ q by omega) x2
    have vfb : vf V q = nI b := (TR.vf' tb).2
    have eb : b = fq := (nI_eq (by omega) (by omega)).mp (vfb.symm.trans x4)
    rw [eb] at tb
    have hv := ((TR.ag6 tb x3).2 (by omega)).1
    have nl := agv_in sk s1 rs rt.2.2 (show a ≤ q by omega) x2 x3 x4 (by omega) x1 hv
    rw [← agv_eq (v := kA cs 71 c) (w := vs V) (y + 1 - a) (fun z z1 z2 => ev z z1 (by omega))] at nl
    obtain ⟨o', h1, h2⟩ := ((wt y y1 y2).1 (by rw [(CW.e (cw y (by omega))).1]; exact k)).1 (Or.inr nl)
    rw [← Option.some.inj h1] at h2
    obtain ⟨i, col, q1, q2, q3, q4, q5, -⟩ := ntf_x h2 sq hn
    exact ⟨wd0 w i + col, by omega, q5⟩
  refine ⟨fun y y1 y2 k => ?_, fun y y1 y2 ou k => ?_, fun L hL y y1 y2 ou k t => ?_, wt.atx (fun y hy => cw y (by omega))⟩
  · rcases k with k | k
    · by_cases ou : OUA V r y
      · obtain ⟨col, q1, q2, -⟩ := out y y1 y2 ou k
        rw [sl72_is q2 (by omega)]
        exact ⟨q2, by omega⟩
      · obtain ⟨v, q1, q2⟩ := inn y y1 y2 ou k
        rw [sl72_is q2 (by omega)]
        exact ⟨q2, by omega⟩
    · obtain ⟨j, q1, q2⟩ := ag y y1 y2 k
      rw [sl72_is q2 (by omega)]
      exact ⟨q2, by omega⟩
  · rcases k with k | k
    · obtain ⟨col, q1, q2, -⟩ := out y y1 y2 ou k
      rw [sl72_is q2 (by omega)]
      omega
    · obtain ⟨j, q1, q2⟩ := ag y y1 y2 k
      rw [sl72_is q2 (by omega)]
      omega
  · obtain ⟨col, q1, q2, q3, q4⟩ := out y y1 y2 ou k
    rw [sl72_is q2 (by omega)]
    refine hL col q1 ?_
    rcases q4 with q | q
    · rw [q3, q] at t
      exact absurd (by decide) t
    · exact q

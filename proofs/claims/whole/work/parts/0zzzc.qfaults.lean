/-! the class's SELECT behind a fault -/
/-- of the open SELECT what goes on needs of it -/
def WO (o it : Nat) (cs : CS) : Prop := ((6, o) ∈ kE cs) ∧ ((227, o) ∈ kE cs) ∧ (∃ j, kP cs 195 o = some j) ∧ (kL cs 195 o = 3) ∧ (∃ k, k ≤ 3 ∧ kI cs 196 o = nI k) ∧ (kR cs 194 o = some it) ∧ (∃ m, CLM it m cs)
theorem WO.e {o it : Nat} {cs : CS} (h : WO o it cs) : (6, o) ∈ kE cs := h.1
theorem WO.e195 {o it : Nat} {cs : CS} (h : WO o it cs) : (227, o) ∈ kE cs := h.2.1
theorem WO.p195 {o it : Nat} {cs : CS} (h : WO o it cs) : ∃ j, kP cs 195 o = some j := h.2.2.1
theorem WO.l195 {o it : Nat} {cs : CS} (h : WO o it cs) : kL cs 195 o = 3 := h.2.2.2.1
theorem WO.n196 {o it : Nat} {cs : CS} (h : WO o it cs) : ∃ k, k ≤ 3 ∧ kI cs 196 o = nI k := h.2.2.2.2.1
theorem WO.r194 {o it : Nat} {cs : CS} (h : WO o it cs) : kR cs 194 o = some it := h.2.2.2.2.2.1
theorem WO.ci {o it : Nat} {cs : CS} (h : WO o it cs) : ∃ m, CLM it m cs := h.2.2.2.2.2.2
theorem WO.keep {o it : Nat} {a b : CS} (h : WO o it a) (he : EM a b) (g : ∀ x, x = 194 ∨ x = 195 ∨ x = 196 → AT a b x o) (g2 : ∀ x, 96 ≤ x → x ≤ 100 → AT a b x it) : WO o it b := by
  obtain ⟨m, hm⟩ := h.ci
  exact ⟨he _ h.e, he _ h.e195, by rw [(g 195 (by omega)).p]; exact h.p195, by rw [(g 195 (by omega)).l]; exact h.l195, by rw [(g 196 (by omega)).i]; exact h.n196, by rw [(g 194 (by omega)).r]; exact h.r194, m, hm.keep he g2⟩
theorem b151_f {F t c o : Nat} {T : TC_X9_readQuery} {cs : CS} {u1 : Option Nat} (h : FS t c cs) : c_X9_readSelect_b151 F T cs t u1 o = some (sR cs 330 t u1, o) := by
  unfold c_X9_readSelect_b151
  rw [pR_ok h.h.o, ob_s]
theorem b129_f {F t c cap lf o : Nat} {T : TC_X9_readQuery} {cs : CS} {u1 : Option Nat} (h : WS t c cap lf cs) : c_X9_readSelect_b129 F T cs t u1 o = some (sR (sI cs 331 t 1) 330 t u1, o) := by
  have h1 : WS t c cap lf (sI cs 331 t 1) := h.gf (GF.text (K := kK cs) (Or.inr rfl)) h.kb h.t0 h.c0
  unfold c_X9_readSelect_b129
  rw [pI_ok h.f.h.o, ob_s, ckE_ok h1.f.h.o, ob_s, acc_f h1.f (by decide), ob_s, if_pos rfl]
  exact b151_f h1.f
theorem b115_f {F t c cap lf o : Nat} {T : TC_X9_readQuery} {cs : CS} {u1 : Option Nat} (h : WS t c cap lf cs) : c_X9_readSelect_b115 F T cs t u1 o = some (sR (sI cs 331 t 1) 330 t u1, o) := by
  unfold c_X9_readSelect_b115
  rw [ckE_ok h.f.h.o, ob_s, knd_f h.f.h h.f.f, ob_s, if_neg (by decide)]
  exact b129_f h
theorem b93_f {F t c cap lf o : Nat} {T : TC_X9_readQuery} {cs : CS} {u1 : Option Nat} (h : WS t c cap lf cs) : c_X9_readSelect_b93 F T cs t u1 o = some (sR (sI (sI cs 331 t 0) 331 t 1) 330 t u1, o) := by
  have h1 : WS t c cap lf (sI cs 331 t 0) := h.gf (GF.text (K := kK cs) (Or.inr rfl)) h.kb h.t0 h.c0
  unfold c_X9_readSelect_b93
  rw [pI_ok h.f.h.o, ob_s, ckE_ok h1.f.h.o, ob_s, acc_f h1.f (by decide), ob_s, if_pos rfl]
  exact b115_f h1
theorem b75_f {F t c cap lf oo : Nat} {T : TC_X9_readQuery} {cs : CS} (h : WS t c cap lf cs) (ho : (7, oo) ∈ kE cs) (hr : t ≠ oo ∧ c ≠ oo) : ∃ v w, c_X9_readSource_b75 F T cs t oo = some (sJ (sI cs 229 oo v) 228 oo w, oo) := by
  obtain ⟨v, hv⟩ := herf (F := F) h.f
  have f1 : FS t c (sI cs 229 oo v) := by
    have e : ∀ x, kI (sI cs 229 oo v) x t = kI cs x t := fun x => u2_n (fun y => hr.1 y.2)
    exact ⟨h.f.h.fo (W := fun x y => y = oo) (FO.sI rfl), by rw [e]; exact h.f.f, by rw [e]; exact h.f.i⟩
  have f2 : ∀ w, FS t c (sJ (sI cs 229 oo v) 228 oo w) := fun w => ⟨⟨f1.h.b, f1.h.o, f1.h.tk, f1.h.rc, f1.h.oc⟩, f1.f, f1.i⟩
  obtain ⟨w, hw⟩ := rdn_f (F := F) f1
  refine ⟨v, w, ?_⟩
  unfold c_X9_readSource_b75 c_X9_readSource_b124
  rw [ckE_ok h.f.h.o, ob_s, expf h.f (by decide), ob_s, ckE_ok h.f.h.o, ob_s, hv, ob_s, pI_ok ho, ob_s, ckE_ok f1.h.o, ob_s, hw, ob_s]
  show (Option.bind (pJ (sI cs 229 oo v) 7 228 oo w) _) = _
  rw [pJ_ok (cs := sI cs 229 oo v) ho, ob_s, gR_ok (cs := sJ (sI cs 229 oo v) 228 oo w) ho, ob_s]
  have acc := acc_f (F := F) (w := 18) (f2 w) (by decide)
  cases hq : kR (sJ (sI cs 229 oo v) 228 oo w) 225 oo with
  | none =>
    show (Option.bind (ckE (sJ (sI cs 229 oo v) 228 oo w) 10 t) fun _ => Option.bind (c_X9_accept F (sJ (sI cs 229 oo v) 228 oo w) t 18) _) = _
    rw [ckE_ok (f2 w).h.o, ob_s, acc, ob_s, if_pos rfl]
  | some x => rfl
theorem leaf_f {F t c oo : Nat} {cs : CS} (h : FS t c cs) : c_X9_readLeaf F cs t oo = some cs := by
  obtain ⟨v, hv⟩ := num_f (F := F) h
  obtain ⟨w, hw⟩ := herf (F := F) h
  unfold c_X9_readLeaf c_X9_readLeaf_b32 c_X9_readLeaf_b105
  rw [ckE_ok h.h.o, ob_s, hv, ob_s, ob_s, knd_f h.h h.f, ob_s, if_neg (by decide), ob_s, hw, ob_s, ob_s, ref_f h.h h.f, ob_s]
theorem src_f {F t c cap lf : Nat} {T : TC_X9_readQuery} {cs : CS} (h : WS t c cap lf cs) : ∃ cs', cb_X9_readSource F T cs t = some (cs', kK cs) ∧ WS t c cap lf cs' ∧ GF t (kK cs) cs cs' ∧ (7, kK cs) ∈ kE cs' ∧ kK cs' = kK cs + 6 ∧ kM cs' = kM cs + 49 := by
  have t0 := h.t0
  have c0 := h.c0
  obtain ⟨c1, cl, e1, kb1, gw1, -, k1, m1, ns⟩ := new_source (F := F) h.kb
  have w1 : WS t c cap lf c1 := h.gf (GF.gw gw1) kb1 t0 c0
  obtain ⟨v, hv⟩ := herf (F := F) w1.f
  obtain ⟨oo, hoo⟩ : ∃ x, x = kK cs := ⟨_, rfl⟩
  rw [← hoo] at e1 gw1 ns t0 c0
  have w2 : WS t c cap lf (sI c1 226 oo v) := w1.gf (K := oo) ⟨EM.refl, Nat.le_refl _, fun x i hi _ => AT.sI (by omega)⟩ kb1 t0 c0
  obtain ⟨v3, u3, e3⟩ := b75_f (F := F) (T := T) (oo := oo) w2 ns.e ⟨by omega, by omega⟩
  have g3 : GF t oo c1 (sJ (sI (sI c1 226 oo v) 229 oo v3) 228 oo u3) := ⟨EM.refl, Nat.le_refl _, fun x i hi _ => ((AT.sI (by omega)).trans (AT.sI (by omega))).trans (AT.sJ (by omega))⟩
  refine ⟨_, ?_, w1.gf g3 kb1 t0 c0, by rw [← hoo]; exact (GF.gw gw1).trans g3, by rw [← hoo]; exact ns.e, k1, m1⟩
  unfold cb_X9_readSource c_X9_readSource_b3 c_X9_readSource_b7
  rw [nwO_ok h.kb, ob_s, ← hoo, e1, ob_s, ckE_ok w1.f.h.o, ob_s, hv, ob_s, pI_ok ns.e, ob_s, ckE_ok w2.f.h.o, ob_s, knd_f w2.f.h w2.f.f, ob_s, if_neg (by decide), ob_s, leaf_f w2.f, ob_s]
  exact e3
theorem adds_f {F o it oo : Nat} {cs : CS} (h : WO o it cs) (ho : (7, oo) ∈ kE cs) : ∃ cs', c_X9_addSource F cs o oo = some cs' ∧ WO o it cs' ∧ cs'.1 = cs.1 ∧ ∀ x i, ¬ (i = o ∧ (x = 195 ∨ x = 196)) → AT cs cs' x i := by
  obtain ⟨j, hj⟩ := h.p195
  obtain ⟨k, k1, k2⟩ := h.n196
  unfold c_X9_addSource c_X9_addSource_b32
  rw [gI_ok h.e, ob_s, gA_ok h.e, hj, ob_s, lnA_n h.e195 hj, ob_s, h.l195, k2]
  by_cases y : k < 3
  · rw [if_neg (show ¬ nI 3 ≤ nI k from nI_ge y (by decide)), ob_s, ob_s, ckE_ok ho, ob_s, wQ_n h.e195 hj (by rw [h.l195]; exact y) (by rw [h.l195]; decide), ob_s, gI_ok (cs := sQ cs 195 o k (some oo)) h.e, ob_s, show kI (sQ cs 195 o k (some oo)) 196 o = nI k from k2, nI_1, pI_ok (cs := sQ cs 195 o k (some oo)) h.e, ob_s]
    have at' : ∀ x i, ¬ (i = o ∧ (x = 195 ∨ x = 196)) → AT cs (sI (sQ cs 195 o k (some oo)) 196 o (nI (k + 1))) x i := fun x i hx => (AT.sQ (fun y => hx ⟨y.2, Or.inl y.1⟩)).trans (AT.sI (fun y => hx ⟨y.2, Or.inr y.1⟩))
    obtain ⟨m, hm⟩ := h.ci
    exact ⟨_, rfl, ⟨h.e, h.e195, ⟨j, hj⟩, h.l195, ⟨k + 1, y, u2_s⟩, h.r194, m, hm.keep EM.refl (fun x x1 x2 => at' x it (fun y => by omega))⟩, rfl, at'⟩
  · have e : k = 3 := by omega
    subst e
    rw [if_pos (show nI 3 ≤ nI 3 by decide)]
    exact ⟨cs, rfl, h, rfl, fun _ _ _ => AT.refl⟩
theorem L10_f {F v t c o : Nat} {T : TC_X9_readQuery} {cs : CS} {w : Int32} (h : FS t c cs) : c_X9_readSources_L10 F T (v + 1) cs t o w = some cs := by
  rw [c_X9_readSources_L10]
  unfold c_X9_readSources_b100
  by_cases y : 2000 ≤ w
  · rw [if_pos y]
  · rw [if_neg y, ckE_ok h.h.o, ob_s, knd_f h.h h.f, ob_s, if_neg (by decide), ob_s, ob_s, if_neg (by decide)]
theorem srcs_f {F t c cap lf o it : Nat} {T T2 : TC_X9_readQuery} {cs : CS} (hF : 10000 ≤ F) (hS : T.2.2.2 = cb_X9_readSource F T2) (h : WS t c cap lf cs) (ho : WO o it cs) (hK : t < o ∧ c < o ∧ o < it) : ∃ cs', cb_X9_readSources F T cs t o = some cs' ∧ WS t c cap lf cs' ∧ WO o it cs' ∧ EM cs cs' ∧ (∀ x i, i < kK cs → i ≠ o → ¬ (i = t ∧ (x = 329 ∨ x = 330 ∨ x = 331)) → AT cs cs' x i) ∧ kK cs' = kK cs + 6 ∧ kM cs' = kM cs + 49 := by
  have o0 := h.kb _ ho.e
  obtain ⟨m, hm⟩ := ho.ci
  have it0 := h.kb _ hm.e
  obtain ⟨c1, e1, w1, g1, n1, k1, m1⟩ := src_f (F := F) (T := T2) h
  have ho1 : WO o it c1 := ho.keep g1.1 (fun x hx => g1.2.2 x o o0 (by omega)) (fun x x1 x2 => g1.2.2 x it it0 (by omega))
  obtain ⟨c2, e2, o2, q2, a2⟩ := adds_f (F := F) ho1 n1
  have em2 : EM c1 c2 := EM.of (congrArg (fun z => z.2.2) q2)
  have kk2 : kK c2 = kK c1 := congrArg (fun z => z.1) q2
  have km2 : kM c2 = kM c1 := congrArg (fun z => z.2.1) q2
  have w2 : WS t c cap lf c2 := w1.gf (K := o) ⟨em2, by omega, fun x i hi _ => a2 x i (by omega)⟩ (w1.kb.of q2) hK.1 hK.2.1
  obtain ⟨v, hv⟩ : ∃ v, F = v + 1 := ⟨F - 1, by omega⟩
  refine ⟨c2, ?_, w2, o2, g1.1.trans em2, fun x i hi hio hx => (g1.2.2 x i hi hx).trans (a2 x i (by omega)), by omega, by omega⟩
  have l := L10_f (F := F) (v := v) (T := T) (o := o) (w := 0) w2.f
  rw [← hv] at l
  unfold cb_X9_readSources c_X9_readSources_b5
  rw [ckE_ok h.f.h.o, ob_s, hS, e1, ob_s]
  show (Option.bind (c_X9_addSource F c1 o (kK cs)) _) = _
  rw [e2, ob_s]
  exact l
/-- from the word from on -/
theorem b83_f {F t c cap lf o it : Nat} {T T2 T3 : TC_X9_readQuery} {cs : CS} {u1 : Option Nat} (hF : 10000 ≤ F) (hR : T.2.2.1 = cb_X9_readSources F T2) (hS : T2.2.2.2 = cb_X9_readSource F T3) (h : WS t c cap lf cs) (ho : WO o it cs) (hK : t < o ∧ c < o ∧ o < it) : ∃ cs', c_X9_readSelect_b83 F T cs t u1 o = some (cs', o) ∧ WS t c cap lf cs' ∧ WO o it cs' ∧ EM cs cs' ∧ (∀ x i, i < kK cs → i ≠ o → ¬ (i = t ∧ (x = 329 ∨ x = 330 ∨ x = 331)) → AT cs cs' x i) ∧ kR cs' 330 t = u1 ∧ kK cs' = kK cs + 6 ∧ kM cs' = kM cs + 49 := by
  have o0 := h.kb _ ho.e
  obtain ⟨m, hm⟩ := ho.ci
  have it0 := h.kb _ hm.e
  obtain ⟨c1, e1, w1, o1, em1, a1, k1, m1⟩ := srcs_f (F := F) hF hS h ho hK
  have g2 : GF t (kK c1) c1 (sR (sI (sI c1 331 t 0) 331 t 1) 330 t u1) := ((GF.text (Or.inr rfl)).trans (GF.text (Or.inr rfl))).trans GF.sel
  have w2 : WS t c cap lf (sR (sI (sI c1 331 t 0) 331 t 1) 330 t u1) := w1.gf g2 w1.kb w1.t0 w1.c0
  refine ⟨_, ?_, w2, o1.keep EM.refl (fun x hx => g2.2.2 x o (by omega) (by omega)) (fun x x1 x2 => g2.2.2 x it (by omega) (by omega)), em1, fun x i hi hio hx => (a1 x i hi hio hx).trans (g2.2.2 x i (by omega) hx), u2_s, k1, m1⟩
  unfold c_X9_readSelect_b83
  rw [ckE_ok h.f.h.o, ob_s, expf h.f (by decide), ob_s, ckE_ok h.f.h.o, ob_s, hR, e1, ob_s]
  exact b93_f w1
/-- from the items on -/
theorem L50_f {F v t c cap lf o it : Nat} {T : TC_X9_readQuery} {cs : CS} {u1 : Option Nat} {x w : Int32} (hF : 10000 ≤ F) (h : WS t c cap lf cs) (ho : WO o it cs) (hK : t < o ∧ c < o ∧ o < it) : ∃ cs', c_X9_readSelect_L50 F T (v + 2) cs t u1 o x w = c_X9_readSelect_b83 F T cs' t u1 o ∧ WS t c cap lf cs' ∧ WO o it cs' ∧ cs'.1 = cs.1 ∧ ∀ y i, ¬ (96 ≤ y ∧ y ≤ 100 ∧ i = it) → AT cs cs' y i := by
  rw [show v + 2 = (v + 1) + 1 from rfl, c_X9_readSelect_L50]
  by_cases y1 : 2000 ≤ w
  · rw [if_pos y1]
    exact ⟨cs, rfl, h, ho, rfl, fun _ _ _ => AT.refl⟩
  rw [if_neg y1]
  by_cases y2 : x = 0
  · rw [if_pos y2]
    exact ⟨cs, rfl, h, ho, rfl, fun _ _ _ => AT.refl⟩
  obtain ⟨m, hm⟩ := ho.ci
  obtain ⟨c1, m', e1, cl1, q1, a1⟩ := item_f hF h hm
  have em1 : EM cs c1 := EM.of (congrArg (fun z => z.2.2) q1)
  have kk1 : kK c1 = kK cs := congrArg (fun z => z.1) q1
  have it0 := h.kb _ hm.e
  have w1 : WS t c cap lf c1 := h.gf (K := it) ⟨em1, by omega, fun x i hi _ => a1 x i (by omega)⟩ (h.kb.of q1) (by omega) (by omega)
  have o1 : WO o it c1 := ⟨em1 _ ho.e, em1 _ ho.e195, by rw [(a1 195 o (by omega)).p]; exact ho.p195, by rw [(a1 195 o (by omega)).l]; exact ho.l195, by rw [(a1 196 o (by omega)).i]; exact ho.n196, by rw [(a1 194 o (by omega)).r]; exact ho.r194, m', cl1⟩
  refine ⟨c1, ?_, w1, o1, q1, a1⟩
  rw [if_neg y2, gR_ok ho.e, ob_s, ho.r194, ob_s, ckE_ok h.f.h.o, ob_s, e1, ob_s, ckE_ok w1.f.h.o, ob_s, acc_f w1.f (by decide), ob_s]
  show c_X9_readSelect_L50 F T (v + 1) c1 t u1 o 0 (w + 1) = _
  rw [c_X9_readSelect_L50]
  by_cases y3 : 2000 ≤ w + 1
  · rw [if_pos y3]
  · rw [if_neg y3, if_pos rfl]
/-- a whole SELECT behind a fault -/
theorem sel_f {F t c cap lf : Nat} {T T2 T3 : TC_X9_readQuery} {cs : CS} (hF : 10000 ≤ F) (hR : T.2.2.1 = cb_X9_readSources F T2) (hS : T2.2.2.2 = cb_X9_readSource F T3) (h : WS t c cap lf cs) : ∃ cs', cb_X9_readSelect F T cs t = some (cs', kK cs) ∧ WS t c cap lf cs' ∧ WO (kK cs) (kK cs + 1) cs' ∧ GF t (kK cs) cs cs' ∧ kR cs' 330 t = kR cs 330 t ∧ kK cs' = kK cs + 19 ∧ kM cs' = kM cs + 153 := by
  have t0 := h.t0
  have c0 := h.c0
  obtain ⟨c1, it, gr, e1, kb1, gw1, eit, egr, k1, m1, ns⟩ := new_select (F := F) h.kb
  have w1 : WS t c cap lf c1 := h.gf (GF.gw gw1) kb1 t0 c0
  obtain ⟨o, ho⟩ : ∃ x, x = kK cs := ⟨_, rfl⟩
  rw [← ho] at e1 gw1 ns t0 c0 eit egr k1 ⊢
  subst eit
  have g2 : GF t o c1 (sR c1 330 t (some o)) := GF.sel
  have w2 : WS t c cap lf (sR c1 330 t (some o)) := w1.gf g2 kb1 t0 c0
  obtain ⟨v, hv⟩ := herf (F := F) w2.f
  have g3 : GF t o c1 (sI (sI (sI (sR c1 330 t (some o)) 193 o v) 192 o 0) 331 t 1) := ((g2.trans (GF.gw (GW.sI (Nat.le_refl _)))).trans (GF.gw (GW.sI (Nat.le_refl _)))).trans (GF.text (Or.inr rfl))
  have w3a : WS t c cap lf (sI (sR c1 330 t (some o)) 193 o v) := w1.gf (g2.trans (GF.gw (GW.sI (Nat.le_refl _)))) kb1 t0 c0
  have w3b : WS t c cap lf (sI (sI (sR c1 330 t (some o)) 193 o v) 192 o 0) := w3a.gf (K := o) (GF.gw (GW.sI (Nat.le_refl _))) kb1 t0 c0
  have w3 : WS t c cap lf (sI (sI (sI (sR c1 330 t (some o)) 193 o v) 192 o 0) 331 t 1) := w1.gf g3 kb1 t0 c0
  have a3 : ∀ x i, ¬ (i = o ∧ (x = 192 ∨ x = 193)) → ¬ (i = t ∧ (x = 330 ∨ x = 331)) → AT c1 (sI (sI (sI (sR c1 330 t (some o)) 193 o v) 192 o 0) 331 t 1) x i := fun x i hx hy => (((AT.sR (by omega)).trans (AT.sI (by omega))).trans (AT.sI (by omega))).trans (AT.sI (by omega))
  have o1 : WO o (o + 1) c1 := ⟨ns.e, ns.e195, ns.p195, ns.l195, ⟨0, by omega, ns.i196⟩, ns.r194, 0, ns.ci⟩
  have o3 : WO o (o + 1) (sI (sI (sI (sR c1 330 t (some o)) 193 o v) 192 o 0) 331 t 1) := o1.keep EM.refl (fun x hx => a3 x o (by omega) (by omega)) (fun x x1 x2 => a3 x (o + 1) (by omega) (by omega))
  have ckz : ckZ 0 = some 0 := rfl
  obtain ⟨fu, hfu⟩ : ∃ u, F = u + 2 := ⟨F - 2, by omega⟩
  obtain ⟨c4, e4, w4, o4, q4, a4⟩ := L50_f (F := F) (v := fu) (T := T) (u1 := kR cs 330 t) (x := 1) (w := 0) hF w3 o3 ⟨t0, c0, by omega⟩
  obtain ⟨c5, e5, w5, o5, em5, a5, r5, k5, m5⟩ := b83_f (F := F) (u1 := kR cs 330 t) hF hR hS w4 o4 ⟨t0, c0, by omega⟩
  have kk4 : kK c4 = kK c1 := congrArg (fun z => z.1) q4
  have km4 : kM c4 = kM c1 := congrArg (fun z => z.2.1) q4
  have em4 : EM c1 c4 := EM.of (congrArg (fun z => z.2.2) q4)
  refine ⟨c5, ?_, w5, o5, ⟨gw1.1.trans (em4.trans em5), by omega, fun x i hi hx => (gw1.2.2 x i hi).trans ((((a3 x i (by omega) (by omega)).trans (a4 x i (by omega)))).trans (a5 x i (by omega) (by omega) hx))⟩, r5, by omega, by omega⟩
  unfold cb_X9_readSelect c_X9_readSelect_b8 c_X9_readSelect_b12
  rw [gR_ok h.f.h.o, ob_s, nwO_ok h.kb, ob_s, ← ho, e1, ob_s, pR_ok w1.f.h.o, ob_s, ckE_ok w2.f.h.o, ob_s, expf w2.f (by decide), ob_s, ckE_ok w2.f.h.o, ob_s, hv, ob_s, pI_ok (cs := sR c1 330 t (some o)) ns.e, ob_s, ckE_ok w3a.f.h.o, ob_s, acc_f w3a.f (by decide), ob_s]
  show (Option.bind (ckZ 0) fun _ => Option.bind (pI (sI (sR c1 330 t (some o)) 193 o v) 6 192 o 0) fun cs_41 => Option.bind (pI cs_41 10 331 t 1) fun cs_43 => c_X9_readSelect_L50 F T F cs_43 t (kR cs 330 t) o 1 0) = _
  rw [ckz, ob_s, pI_ok (cs := sI (sR c1 330 t (some o)) 193 o v) ns.e, ob_s, pI_ok w3b.f.h.o, ob_s]
  rw [← hfu] at e4
  exact e4.trans e5

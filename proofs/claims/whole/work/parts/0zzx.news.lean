/-! new objects -/
theorem Bas.gw {a b : CS} (h : Bas a) (he : EM a b) (g : ∀ x i, i ≤ 37 → AT a b x i) : Bas b := ⟨he _ h.o, he _ h.e384, by rw [(g 384 0 (by decide)).p]; exact h.p384, by rw [(g 384 0 (by decide)).l]; exact h.l384, by rw [(g 386 0 (by decide)).r]; exact h.rS, he _ h.oS, he _ h.e258, by rw [(g 258 2 (by decide)).p]; exact h.p258, by rw [(g 258 2 (by decide)).l]; exact h.l258, he _ h.e259, by rw [(g 259 2 (by decide)).p]; exact h.p259, by rw [(g 259 2 (by decide)).l]; exact h.l259, he _ h.e260, by rw [(g 260 2 (by decide)).p]; exact h.p260, by rw [(g 260 2 (by decide)).l]; exact h.l260, he _ h.e261, by rw [(g 261 2 (by decide)).p]; exact h.p261, by rw [(g 261 2 (by decide)).l]; exact h.l261, he _ h.e262, by rw [(g 262 2 (by decide)).p]; exact h.p262, by rw [(g 262 2 (by decide)).l]; exact h.l262, he _ h.e263, by rw [(g 263 2 (by decide)).p]; exact h.p263, by rw [(g 263 2 (by decide)).l]; exact h.l263, by rw [(g 387 0 (by decide)).r]; exact h.rT, he _ h.oT, he _ h.e352, by rw [(g 352 9 (by decide)).p]; exact h.p352, by rw [(g 352 9 (by decide)).l]; exact h.l352, he _ h.e353, by rw [(g 353 9 (by decide)).p]; exact h.p353, by rw [(g 353 9 (by decide)).l]; exact h.l353, he _ h.e354, by rw [(g 354 9 (by decide)).p]; exact h.p354, by rw [(g 354 9 (by decide)).l]; exact h.l354, he _ h.e358, by rw [(g 358 9 (by decide)).p]; exact h.p358, by rw [(g 358 9 (by decide)).l]; exact h.l358, by rw [(g 399 0 (by decide)).r]; exact h.rC, he _ h.oC, he _ h.e74, by rw [(g 74 37 (by decide)).p]; exact h.p74, by rw [(g 74 37 (by decide)).l]; exact h.l74, he _ h.e75, by rw [(g 75 37 (by decide)).p]; exact h.p75, by rw [(g 75 37 (by decide)).l]; exact h.l75⟩
theorem SH.gw {t c : Nat} {a b : CS} (h : SH t c a) (he : EM a b) (g : ∀ x i, i ≤ 37 → AT a b x i) (g1 : AT a b 327 t) (g2 : AT a b 322 t) : SH t c b := ⟨h.b.gw he g, he _ h.o, by rw [g1.r]; exact h.tk, by rw [g2.r]; exact h.rc, he _ h.oc⟩
theorem CA.gw {c cap : Nat} {a b : CS} (h : CA c cap a) (he : EM a b) (g : ∀ x, 64 ≤ x → x < 96 → AT a b x c) : CA c cap b := ⟨he _ h.e65, by rw [(g 65 (by decide) (by decide)).p]; exact h.p65, by rw [(g 65 (by decide) (by decide)).l]; exact h.l65, he _ h.e66, by rw [(g 66 (by decide) (by decide)).p]; exact h.p66, by rw [(g 66 (by decide) (by decide)).l]; exact h.l66, he _ h.e67, by rw [(g 67 (by decide) (by decide)).p]; exact h.p67, by rw [(g 67 (by decide) (by decide)).l]; exact h.l67, he _ h.e68, by rw [(g 68 (by decide) (by decide)).p]; exact h.p68, by rw [(g 68 (by decide) (by decide)).l]; exact h.l68, he _ h.e69, by rw [(g 69 (by decide) (by decide)).p]; exact h.p69, by rw [(g 69 (by decide) (by decide)).l]; exact h.l69, he _ h.e70, by rw [(g 70 (by decide) (by decide)).p]; exact h.p70, by rw [(g 70 (by decide) (by decide)).l]; exact h.l70, he _ h.e71, by rw [(g 71 (by decide) (by decide)).p]; exact h.p71, by rw [(g 71 (by decide) (by decide)).l]; exact h.l71, he _ h.e72, by rw [(g 72 (by decide) (by decide)).p]; exact h.p72, by rw [(g 72 (by decide) (by decide)).l]; exact h.l72, he _ h.e73, by rw [(g 73 (by decide) (by decide)).p]; exact h.p73, by rw [(g 73 (by decide) (by decide)).l]; exact h.l73, he _ h.e74, by rw [(g 74 (by decide) (by decide)).p]; exact h.p74, by rw [(g 74 (by decide) (by decide)).l]; exact h.l74, he _ h.e75, by rw [(g 75 (by decide) (by decide)).p]; exact h.p75, by rw [(g 75 (by decide) (by decide)).l]; exact h.l75⟩
/-- from K on things are made and written, below it nothing -/
def GW (K : Nat) (a b : CS) : Prop := EM a b ∧ kK a ≤ kK b ∧ ∀ x i, i < K → AT a b x i
theorem GW.refl {K : Nat} {a : CS} : GW K a a := ⟨EM.refl, Nat.le_refl _, fun _ _ _ => AT.refl⟩
theorem GW.trans {K : Nat} {a b c : CS} (h : GW K a b) (g : GW K b c) : GW K a c := ⟨h.1.trans g.1, Nat.le_trans h.2.1 g.2.1, fun x i hi => (h.2.2 x i hi).trans (g.2.2 x i hi)⟩
theorem GW.le {K L : Nat} {a b : CS} (h : GW K a b) (g : L ≤ K) : GW L a b := ⟨h.1, h.2.1, fun x i hi => h.2.2 x i (by omega)⟩
theorem GW.nO {K X n : Nat} {a : CS} (h : K ≤ kK a) : GW K a (nO a X n) := ⟨nO_em, Nat.le_succ _, fun x i hi => AT.no1 (by omega)⟩
theorem GW.nA {K t i n : Nat} {f : Nat → Int32} {g : Nat → Int64} {a : CS} (h : K ≤ i) : GW K a (nA a t i n f g) := ⟨nA_em, Nat.le_succ _, fun x j hj => AT.nA (by omega)⟩
theorem GW.sI {K t i : Nat} {v : Int32} {a : CS} (h : K ≤ i) : GW K a (sI a t i v) := ⟨EM.refl, Nat.le_refl _, fun x j hj => AT.sI (by omega)⟩
theorem GW.sJ {K t i : Nat} {v : Int64} {a : CS} (h : K ≤ i) : GW K a (sJ a t i v) := ⟨EM.refl, Nat.le_refl _, fun x j hj => AT.sJ (by omega)⟩
theorem GW.sR {K t i : Nat} {v : Option Nat} {a : CS} (h : K ≤ i) : GW K a (sR a t i v) := ⟨EM.refl, Nat.le_refl _, fun x j hj => AT.sR (by omega)⟩
theorem GW.sQ {K t i y : Nat} {v : Option Nat} {a : CS} (h : K ≤ i) : GW K a (sQ a t i y v) := ⟨EM.refl, Nat.le_refl _, fun x j hj => AT.sQ (by omega)⟩
/-- a new list of columns: its object has just been made -/
theorem new_cols {F o : Nat} {cs : CS} (h : (3, o) ∈ kE cs) (hb : KB cs) : ∃ cs', c_X2_init F cs o = some cs' ∧ KB cs' ∧ EM cs cs' ∧ kK cs' = kK cs + 4 ∧ kM cs' = kM cs + 32 ∧ (∀ x i, ¬ (97 ≤ x ∧ x ≤ 100 ∧ i = o) → AT cs cs' x i) ∧ (kI cs 96 o = 0 → CLM o 0 cs') := by
  have ho := hb _ h
  have n97 : nwA cs 3 97 o 8 = some (nA cs 97 o 8 (fun _ => 0) (fun _ => 0)) := nwA_ok h rfl (by decide)
  have e97 := nA_is (cs := cs) (t := 97) (i := o) (n := 8) (f := fun _ => 0) (g := fun _ => 0)
  have w97 := nA_new (cs := cs) (t := 97) (i := o) (n := 8) (f := fun _ => 0) (g := fun _ => 0)
  have k97 : KB (nA cs 97 o 8 (fun _ => 0) (fun _ => 0)) := nA_kb hb ho
  have m97 : EM cs (nA cs 97 o 8 (fun _ => 0) (fun _ => 0)) := nA_em
  have s97 : kK (nA cs 97 o 8 (fun _ => 0) (fun _ => 0)) = kK cs + 1 ∧ kM (nA cs 97 o 8 (fun _ => 0) (fun _ => 0)) = kM cs + 8 := ⟨rfl, rfl⟩
  have a97 : ∀ x i, ¬ (x = 97 ∧ i = o) → AT cs (nA cs 97 o 8 (fun _ => 0) (fun _ => 0)) x i := fun x i hx => AT.nA hx
  obtain ⟨c1, hc1⟩ : ∃ x, x = nA cs 97 o 8 (fun _ => 0) (fun _ => 0) := ⟨_, rfl⟩
  rw [← hc1] at n97 e97 w97 k97 m97 s97 a97
  have h1 := m97 _ h
  have ho1 := k97 _ h1
  have n98 : nwA c1 3 98 o 8 = some (nA c1 98 o 8 (fun _ => 0) (fun _ => 0)) := nwA_ok h1 rfl (by decide)
  have e98 := nA_is (cs := c1) (t := 98) (i := o) (n := 8) (f := fun _ => 0) (g := fun _ => 0)
  have w98 := nA_new (cs := c1) (t := 98) (i := o) (n := 8) (f := fun _ => 0) (g := fun _ => 0)
  have k98 : KB (nA c1 98 o 8 (fun _ => 0) (fun _ => 0)) := nA_kb k97 ho1
  have m98 : EM c1 (nA c1 98 o 8 (fun _ => 0) (fun _ => 0)) := nA_em
  have s98 : kK (nA c1 98 o 8 (fun _ => 0) (fun _ => 0)) = kK c1 + 1 ∧ kM (nA c1 98 o 8 (fun _ => 0) (fun _ => 0)) = kM c1 + 8 := ⟨rfl, rfl⟩
  have a98 : ∀ x i, ¬ (x = 98 ∧ i = o) → AT c1 (nA c1 98 o 8 (fun _ => 0) (fun _ => 0)) x i := fun x i hx => AT.nA hx
  obtain ⟨c2, hc2⟩ : ∃ x, x = nA c1 98 o 8 (fun _ => 0) (fun _ => 0) := ⟨_, rfl⟩
  rw [← hc2] at n98 e98 w98 k98 m98 s98 a98
  have h2 := m98 _ h1
  have ho2 := k98 _ h2
  have n99 : nwA c2 3 99 o 8 = some (nA c2 99 o 8 (fun _ => 0) (fun _ => 0)) := nwA_ok h2 rfl (by decide)
  have e99 := nA_is (cs := c2) (t := 99) (i := o) (n := 8) (f := fun _ => 0) (g := fun _ => 0)
  have w99 := nA_new (cs := c2) (t := 99) (i := o) (n := 8) (f := fun _ => 0) (g := fun _ => 0)
  have k99 : KB (nA c2 99 o 8 (fun _ => 0) (fun _ => 0)) := nA_kb k98 ho2
  have m99 : EM c2 (nA c2 99 o 8 (fun _ => 0) (fun _ => 0)) := nA_em
  have s99 : kK (nA c2 99 o 8 (fun _ => 0) (fun _ => 0)) = kK c2 + 1 ∧ kM (nA c2 99 o 8 (fun _ => 0) (fun _ => 0)) = kM c2 + 8 := ⟨rfl, rfl⟩
  have a99 : ∀ x i, ¬ (x = 99 ∧ i = o) → AT c2 (nA c2 99 o 8 (fun _ => 0) (fun _ => 0)) x i := fun x i hx => AT.nA hx
  obtain ⟨c3, hc3⟩ : ∃ x, x = nA c2 99 o 8 (fun _ => 0) (fun _ => 0) := ⟨_, rfl⟩
  rw [← hc3] at n99 e99 w99 k99 m99 s99 a99
  have h3 := m99 _ h2
  have ho3 := k99 _ h3
  have n100 : nwA c3 3 100 o 8 = some (nA c3 100 o 8 (fun _ => 0) (fun _ => 0)) := nwA_ok h3 rfl (by decide)
  have e100 := nA_is (cs := c3) (t := 100) (i := o) (n := 8) (f := fun _ => 0) (g := fun _ => 0)
  have w100 := nA_new (cs := c3) (t := 100) (i := o) (n := 8) (f := fun _ => 0) (g := fun _ => 0)
  have k100 : KB (nA c3 100 o 8 (fun _ => 0) (fun _ => 0)) := nA_kb k99 ho3
  have m100 : EM c3 (nA c3 100 o 8 (fun _ => 0) (fun _ => 0)) := nA_em
  have s100 : kK (nA c3 100 o 8 (fun _ => 0) (fun _ => 0)) = kK c3 + 1 ∧ kM (nA c3 100 o 8 (fun _ => 0) (fun _ => 0)) = kM c3 + 8 := ⟨rfl, rfl⟩
  have a100 : ∀ x i, ¬ (x = 100 ∧ i = o) → AT c3 (nA c3 100 o 8 (fun _ => 0) (fun _ => 0)) x i := fun x i hx => AT.nA hx
  obtain ⟨c4, hc4⟩ : ∃ x, x = nA c3 100 o 8 (fun _ => 0) (fun _ => 0) := ⟨_, rfl⟩
  rw [← hc4] at n100 e100 w100 k100 m100 s100 a100
  have h4 := m100 _ h3
  have ho4 := k100 _ h4
  refine ⟨c4, ?_, k100, ((m97.trans m98).trans m99).trans m100, by omega, by omega, fun x i hx => (((a97 x i (by omega)).trans (a98 x i (by omega))).trans (a99 x i (by omega))).trans (a100 x i (by omega)), fun hz => ?_⟩
  · unfold c_X2_init c_X2_init_b12 c_X2_init_b20 c_X2_init_b28 c_X2_init_b36
    rw [n97, ob_s, n98, ob_s, n99, ob_s, n100, ob_s]
  · have b97 := ((a98 97 o (by omega)).trans (a99 97 o (by omega))).trans (a100 97 o (by omega))
    have b98 := (a99 98 o (by omega)).trans (a100 98 o (by omega))
    have b99 := a100 99 o (by omega)
    have b96 := (((a97 96 o (by omega)).trans (a98 96 o (by omega))).trans (a99 96 o (by omega))).trans (a100 96 o (by omega))
    exact ⟨h4, m100 _ (m99 _ (m98 _ w97)), ⟨_, b97.p.trans e97.1⟩, b97.l.trans e97.2.1, m100 _ (m99 _ w98), ⟨_, b98.p.trans e98.1⟩, b98.l.trans e98.2.1, m100 _ w99, ⟨_, b99.p.trans e99.1⟩, b99.l.trans e99.2.1, w100, ⟨_, e100.1⟩, e100.2.1, b96.i.trans hz, by decide⟩

/-! a SELECT in both: what comes out is typed -/
theorem opt_mem {f : OVF} {A : LL} {L : List OV} (h : L ∈ optF f A) : L ∈ A := by
  cases f with
  | none => exact h
  | some g => exact (List.mem_filter.mp h).1
theorem rmap_get {m y : Nat} {f : Nat → OV} (h : y < m) : ((List.range m).map f).getD y none = f y := by
  rw [List.getD_eq_getElem?_getD, List.getElem?_map, List.getElem?_range h]
  rfl
theorem gr_typed {mg na : Nat} {gb : Bool} {κ : Nat → Int32} {kv iv : Nat → List OV → OV} {τ : RPR} {tg : Nat → Int32} (hg : (gb = true ∧ 1 ≤ mg) ∨ (gb = false ∧ mg = 0)) (ky : ∀ y L, y < mg → τ L → tg y = 2 → TV (kv y L)) {A : LL} (hA : ∀ L, L ∈ A → τ L) : ∀ L, L ∈ grC mg na κ kv iv A → RWL mg tg L := fun L hL col hc h2 => by
  have pm := (grp_perm (na := na) (κ := κ) (kv := kv) (iv := iv) hg (List.Perm.refl A)).mem_iff.mp hL
  obtain ⟨g, g1, g2⟩ := List.mem_map.mp pm
  rw [← g2]
  rcases hg with ⟨q1, q2⟩ | ⟨q1, q2⟩
  · rw [if_pos q1] at g1
    rcases (fold_mem _ _).mp g1 with z | z
    · cases z
    · obtain ⟨L0, l1, l2⟩ := List.mem_map.mp z
      have gl : g.length = mg := by
        rw [← l2]
        unfold gkey
        rw [List.length_map, List.length_range]
      rw [grow_key (by omega), ← l2]
      unfold gkey
      rw [rmap_get hc]
      exact ky col L0 hc (hA L0 l1) h2
  · omega
theorem selC_typed {mi ng na : Nat} {gp di : Bool} {κ : Nat → Int32} {wh hc : OVF} {pc kv iv : Nat → List OV → OV} {σ : RPR} {ti : Nat → Int32} (it : ∀ y L, y < mi → σ L → ti y = 2 → TV (pc y L)) {A : LL} (hA : ∀ L, L ∈ (if gp = true then grC ng na κ kv iv (optF wh A) else optF wh A) → σ L) : ∀ L, L ∈ selC mi gp di ng na κ wh hc pc kv iv A → RWL mi ti L := fun L hL => by
  have key : ∀ L, L ∈ (optF hc (if gp = true then grC ng na κ kv iv (optF wh A) else optF wh A)).map (prow mi pc) → RWL mi ti L := fun L h col hcc h2 => by
    obtain ⟨L0, l1, l2⟩ := List.mem_map.mp h
    rw [← l2]
    unfold prow
    rw [rmap_get hcc]
    exact it col L0 hcc (hA L0 (opt_mem l1)) h2
  unfold selC at hL
  by_cases q : di = true
  · rw [if_pos q] at hL
    rcases (adj_mem _ _).mp hL with z | z
    · cases z
    · exact key L ((srt_perm _).mem_iff.mp z)
  · rw [if_neg q] at hL
    exact key L hL
/-- a SELECT in both -/
def SBT (F c ar so e W mi it s cap : Nat) (τ : RPR) (cs : CS) (rs : RS) : Prop := ∃ (gp gb di : Bool) (ng na gl : Nat) (nd : Nat → Nat) (κ : Nat → Int32) (σ : RPR) (wh hc hp : OVF) (pc pv kv iv : Nat → List OV → OV) (hv : OGF) (gv : Nat → List OV → LL → OV), SLC F c ar so W mi gp di ng na gl it s cap nd κ τ σ wh hc pc kv iv cs ∧ SLM F e W mi gp gb di ng wh hp pv kv hv gv rs ∧ (∀ A A' : LL, A.Perm A' → (selC mi gp di ng na κ wh hc pc kv iv A).Perm (selR mi gp gb di ng wh hp pv kv hv gv A')) ∧ ∀ A : LL, (∀ L, L ∈ A → τ L) → (∀ L, L ∈ (if gp = true then grC ng na κ kv iv (optF wh A) else optF wh A) → σ L) ∧ ∀ L, L ∈ selC mi gp di ng na κ wh hc pc kv iv A → RWL mi (kA cs 100 it) L
theorem EBX.sel {F : Nat} {V : VT} {c cap s ar : Nat} {D : Nat → Prop} {cs : CS} {rs : RS} {so ns : Nat} {w : Nat → Nat} {ty : Nat → Nat → Int32} {P : Nat → Nat → Nat → Nat → Nat → Nat → Nat → Prop} {X : Nat → CS → Prop} {lo hi ql e it gr mi mg : Nat} {PQ : Nat → CS → Prop} {na : Nat} (b : EBX F V c cap s ar D cs rs) (o : OSX P X V s lo hi ql so e it gr mi ns mg cs rs) (ap : AGPX (hvr so cs) c s so e it mi cs rs) (m1 : 1 ≤ mi) (mgk : kI cs 198 so ≠ 0 → 1 ≤ mg) (te : TSB PQ V s c so it gr mi ns mg cs) (cv : CVB V s so it gr mi mg D cs) (sq : SCQ so ns w ty cs) (W1 : wid w (ns - 1) ≤ 100) (n203 : kI cs 203 so = nI na) (n12 : na ≤ 12) (sd : ∀ j y, j < na → y < s → kA cs 202 so j = nI y → ∃ j', j' < na ∧ kA cs 202 so j' = nI y ∧ kA cs 72 c y = nI (mg + j')) (cov : gnm cs so gr = some gr → ∀ x, x < s → AM so cs x → ∃ r a, RTT V s r a ∧ WTR c a r (some so) (nI ns) (some gr) cs ∧ a ≤ x ∧ x ≤ r) : SBT F c ar so e (wid w (ns - 1)) mi it s cap (RWT ns w ty) cs rs := by
  by_cases g0 : kI cs 198 so = 0 ∧ kI cs 203 so ≤ 0
  · obtain ⟨di, wh, hc, q1, q2, q3⟩ := b.selp o ap m1 te cv sq W1 g0.1 g0.2
    refine ⟨false, false, di, 0, 0, gr, fun _ => 0, fun _ => 0, RWT ns w ty, wh, hc, hc, cvS V c cs it, cvS V c cs it, cvS V c cs gr, fun _ _ => none, none, fun _ _ _ => none, q1, q2, fun A A' h => sel_perm (fun z => (by cases z)) (fun _ => ⟨rfl, fun _ _ => rfl⟩) (fun z => (by cases z)) h, fun A hA => ?_⟩
    have st : ∀ L, L ∈ (if false = true then grC 0 0 (fun _ => 0) (cvS V c cs gr) (fun _ _ => none) (optF wh A) else optF wh A) → RWT ns w ty L := fun L hL => by
      rw [if_neg (by decide)] at hL
      exact hA L (opt_mem hL)
    exact ⟨st, selC_typed q3 st⟩
  · obtain ⟨gb, di, wh, hc, q1, q2, q3, q4, q5⟩ := b.selg o ap m1 mgk te cv sq W1 g0 n203 n12 sd (cov (if_neg g0))
    refine ⟨true, gb, di, mg, na, gr, agN' cs so, agK c cs so, RWL mg (kA cs 100 gr), wh, hc, none, cvS V c cs it, fun _ _ => none, cvS V c cs gr, agI V c cs so, _, _, q1, q2, fun A A' h => sel_perm (fun _ => q3) (fun z => (by cases z)) (fun _ g mem => ⟨by cases hc <;> rfl, fun _ _ => rfl⟩) h, fun A hA => ?_⟩
    have st : ∀ L, L ∈ (if true = true then grC mg na (agK c cs so) (cvS V c cs gr) (agI V c cs so) (optF wh A) else optF wh A) → RWL mg (kA cs 100 gr) L := fun L hL => by
      rw [if_pos rfl] at hL
      exact gr_typed q3 q4 (fun L h => hA L (opt_mem h)) L hL
    exact ⟨st, selC_typed q5 st⟩

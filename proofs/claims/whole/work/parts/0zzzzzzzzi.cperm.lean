/-! rows in another order -/
theorem flat_perm {f g : List OV → LL} (h : ∀ x, (f x).Perm (g x)) : ∀ (l : LL), (l.flatMap f).Perm (l.flatMap g)
  | [] => List.Perm.refl _
  | x :: l => by
    rw [List.flatMap_cons, List.flatMap_cons]
    exact (h x).append (flat_perm h l)
theorem mat_perm {on : List OV → OV} {x : List OV} {E E' : LL} (h : E.Perm E') : (matL on x E).Perm (matL on x E') := (h.map _).filter _
theorem joX_perm {ou : Bool} {on : List OV → OV} {m : Nat} {x : List OV} {E E' : LL} (h : E.Perm E') : (joX ou on m x E).Perm (joX ou on m x E') := by
  have p := mat_perm (on := on) (x := x) h
  unfold joX
  by_cases q : matL on x E = []
  · have q2 : matL on x E' = [] := by
      rw [q] at p
      exact p.nil_eq.symm
    rw [if_pos q, if_pos q2]
  · have q2 : ¬ matL on x E' = [] := fun w => by
      rw [w] at p
      exact q p.eq_nil
    rw [if_neg q, if_neg q2]
    exact p
theorem jn_perm {ou : Bool} {on : List OV → OV} {m : Nat} {A A' E E' : LL} (h : A.Perm A') (g : E.Perm E') : (A.flatMap (fun x => joX ou on m x E)).Perm (A'.flatMap (fun x => joX ou on m x E')) := (h.flatMap_right _).trans (flat_perm (fun _ => joX_perm g) A')
theorem optF_perm {f : OVF} {A A' : LL} (h : A.Perm A') : (optF f A).Perm (optF f A') := by
  cases f with
  | none => exact h
  | some f => exact h.filter _
theorem i64_mn (a b m : Int64) : (if (if m ≤ a then m else a) ≤ b then (if m ≤ a then m else a) else b) = (if (if m ≤ b then m else b) ≤ a then (if m ≤ b then m else b) else a) := by
  by_cases q1 : m ≤ a
  · by_cases q2 : m ≤ b
    · rw [if_pos q1, if_pos q2, if_pos q1]
    · have q3 : b ≤ m := Int64.le_of_lt (Int64.not_le.mp q2)
      rw [if_pos q1, if_neg q2, if_pos (Int64.le_trans q3 q1)]
  · have q4 : a ≤ m := Int64.le_of_lt (Int64.not_le.mp q1)
    by_cases q2 : m ≤ b
    · rw [if_neg q1, if_pos q2, if_pos (Int64.le_trans q4 q2), if_neg q1]
    · rw [if_neg q1, if_neg q2]
      by_cases q5 : a ≤ b
      · rw [if_pos q5]
        by_cases q6 : b ≤ a
        · rw [if_pos q6, Int64.le_antisymm q5 q6]
        · rw [if_neg q6]
      · have q6 : b ≤ a := Int64.le_of_lt (Int64.not_le.mp q5)
        rw [if_neg q5, if_pos q6]
theorem i64_mx (a b m : Int64) : (if b ≤ (if a ≤ m then m else a) then (if a ≤ m then m else a) else b) = (if a ≤ (if b ≤ m then m else b) then (if b ≤ m then m else b) else a) := by
  by_cases q1 : a ≤ m
  · by_cases q2 : b ≤ m
    · rw [if_pos q1, if_pos q2, if_pos q1]
    · have q3 : m ≤ b := Int64.le_of_lt (Int64.not_le.mp q2)
      rw [if_pos q1, if_neg q2, if_pos (Int64.le_trans q1 q3)]
  · have q4 : m ≤ a := Int64.le_of_lt (Int64.not_le.mp q1)
    by_cases q2 : b ≤ m
    · rw [if_neg q1, if_pos q2, if_pos (Int64.le_trans q2 q4), if_neg q1]
    · rw [if_neg q1, if_neg q2]
      by_cases q5 : b ≤ a
      · rw [if_pos q5]
        by_cases q6 : a ≤ b
        · rw [if_pos q6, Int64.le_antisymm q6 q5]
        · rw [if_neg q6]
      · have q6 : a ≤ b := Int64.le_of_lt (Int64.not_le.mp q5)
        rw [if_neg q5, if_pos q6]
theorem agS_comm (t : AGT) (x y : OV) : agS (agS t x) y = agS (agS t y) x := by
  cases x with
  | none => rfl
  | some a =>
    cases y with
    | none => rfl
    | some b =>
      show ((t.1 + 1 + 1, t.2.1 + a + b, if (if t.2.2.1 ≤ a then t.2.2.1 else a) ≤ b then (if t.2.2.1 ≤ a then t.2.2.1 else a) else b, if b ≤ (if a ≤ t.2.2.2 then t.2.2.2 else a) then (if a ≤ t.2.2.2 then t.2.2.2 else a) else b) : AGT) = (t.1 + 1 + 1, t.2.1 + b + a, if (if t.2.2.1 ≤ b then t.2.2.1 else b) ≤ a then (if t.2.2.1 ≤ b then t.2.2.1 else b) else a, if a ≤ (if b ≤ t.2.2.2 then t.2.2.2 else b) then (if b ≤ t.2.2.2 then t.2.2.2 else b) else a)
      rw [i64_mn a b, i64_mx a b, Int64.add_assoc t.2.1 a b, Int64.add_comm a b, ← Int64.add_assoc t.2.1 b a]
theorem agF_perm {l k : List OV} (h : l.Perm k) : agF l = agF k := h.foldl_eq' (fun x _ y _ z => agS_comm z x y) ag0
theorem agN_perm {l k : List OV} (h : l.Perm k) : agN l = agN k := by
  have e : agn l = agn k := (h.filter _).length_eq
  cases q : agN k with
  | false => exact (agn_0 l).mpr (e.trans ((agn_0 k).mp q))
  | true =>
    cases q2 : agN l with
    | true => rfl
    | false =>
      have := (agn_0 k).mpr (e.symm.trans ((agn_0 l).mp q2))
      rw [q] at this
      cases this
theorem agC_perm {κ : Int32} {l k : List OV} (h : l.Perm k) : agC κ l = agC κ k := by
  unfold agC
  rw [agF_perm h, agN_perm h]
/-- a group's row, out of its members -/
def grow (na : Nat) (κ : Nat → Int32) (iv : Nat → List OV → OV) (g : List OV) (mem : LL) : List OV := g ++ (List.range na).map (fun t => agC (κ t) (mem.map (iv t)))
theorem gwr_key {ng na : Nat} {kv iv : Nat → List OV → OV} {L : List OV} : (gwr ng na kv iv L).take ng = gkey ng kv L := by
  unfold gwr
  exact List.take_left' (by unfold gkey; rw [List.length_map, List.length_range])
theorem gwr_get {ng na t : Nat} {kv iv : Nat → List OV → OV} {L : List OV} (h : t < na) : (gwr ng na kv iv L).getD (ng + t) none = iv t L := by
  have lg : (gkey ng kv L).length = ng := by unfold gkey; rw [List.length_map, List.length_range]
  unfold gwr
  rw [List.getD_eq_getElem?_getD, List.getElem?_append_right (by omega), lg, show ng + t - ng = t by omega, List.getElem?_map, List.getElem?_range h]
  rfl
theorem frow_eq {ng na : Nat} {κ : Nat → Int32} {kv iv : Nat → List OV → OV} {A A' : LL} {g : List OV} (h : A.Perm A') : frow ng na κ g ((srtK (kd 0) (A.map (gwr ng na kv iv))).filter (fun W => W.take ng == g)) = grow na κ iv g (A'.filter (fun L => gkey ng kv L == g)) := by
  unfold frow grow
  refine congrArg (g ++ ·) (List.map_congr_left (fun t ht => agC_perm ?_))
  have ht2 := List.mem_range.mp ht
  have p1 := (((srt_perm (K := kd 0) (A.map (gwr ng na kv iv))).trans (h.map _)).filter (fun W => W.take ng == g)).map (fun W => W.getD (ng + t) none)
  refine p1.trans (List.Perm.of_eq ?_)
  rw [List.filter_map, List.map_map]
  have e1 : ((fun W : List OV => W.take ng == g) ∘ gwr ng na kv iv) = (fun L => gkey ng kv L == g) := funext (fun L => by show ((gwr ng na kv iv L).take ng == g) = _; rw [gwr_key])
  rw [e1]
  exact List.map_congr_left (fun L _ => gwr_get ht2)
theorem sub_nil {ng : Nat} {kv : Nat → List OV → OV} (h : ng = 0) (L : List OV) : gkey ng kv L = [] := by
  unfold gkey
  rw [h]
  rfl
theorem grp_perm {gb : Bool} {ng na : Nat} {κ : Nat → Int32} {kv iv : Nat → List OV → OV} {A A' : LL} (hg : (gb = true ∧ 1 ≤ ng) ∨ (gb = false ∧ ng = 0)) (h : A.Perm A') : (grC ng na κ kv iv A).Perm ((if gb = true then (A'.map (gkey ng kv)).foldl stpO [] else [[]]).map (fun g => grow na κ iv g (A'.filter (fun L => gkey ng kv L == g)))) := by
  unfold grC
  by_cases q : A = []
  · rw [q] at h
    have q2 : A' = [] := h.nil_eq.symm
    rw [if_pos q, q2]
    rcases hg with ⟨h1, h2⟩ | ⟨h1, h2⟩
    · rw [if_neg (by omega), if_pos h1]
      exact List.Perm.refl _
    · rw [if_pos h2, if_neg (by rw [h1]; decide)]
      exact List.Perm.refl _
  · rw [if_neg q]
    unfold grR
    obtain ⟨S, hS⟩ : ∃ z, z = srtK (kd 0) (A.map (gwr ng na kv iv)) := ⟨_, rfl⟩
    have e1 : (fun g => frow ng na κ g ((srtK (kd 0) (A.map (gwr ng na kv iv))).filter (fun W => W.take ng == g))) = (fun g => grow na κ iv g (A'.filter (fun L => gkey ng kv L == g))) := funext (fun g => frow_eq h)
    rw [e1, ← hS]
    refine List.Perm.map _ ?_
    have pS : S.Perm (A'.map (gwr ng na kv iv)) := by rw [hS]; exact (srt_perm _).trans (h.map _)
    have keys : (S.map (fun W => W.take ng)).Perm (A'.map (gkey ng kv)) := by
      have p := pS.map (fun W => W.take ng)
      rw [List.map_map] at p
      have e2 : ((fun W : List OV => W.take ng) ∘ gwr ng na kv iv) = gkey ng kv := funext (fun L => gwr_key)
      rw [e2] at p
      exact p
    have nd1 : ((S.map (fun W => W.take ng)).foldl adjS []).Nodup := by
      refine adj_nd (K := kd 0) kd_inj _ [] ?_ List.nodup_nil
      refine keys_srt (m := ng + na) (fun L hL => ?_) (by rw [hS]; exact srt_srt _)
      obtain ⟨L0, -, e3⟩ := List.mem_map.mp (pS.mem_iff.mp hL)
      rw [← e3]
      exact gwr_len
    rcases hg with ⟨h1, h2⟩ | ⟨h1, h2⟩
    · rw [if_pos h1]
      refine (List.perm_ext_iff_of_nodup nd1 (fold_nd _ [] List.nodup_nil)).mpr (fun a => ?_)
      rw [adj_mem, fold_mem, keys.mem_iff]
    · rw [if_neg (by rw [h1]; decide)]
      refine (List.perm_ext_iff_of_nodup nd1 (List.nodup_cons.mpr ⟨fun z => (by cases z), List.nodup_nil⟩)).mpr (fun a => ?_)
      rw [adj_mem, keys.mem_iff, List.mem_singleton]
      refine ⟨fun z => ?_, fun z => Or.inr ?_⟩
      · rcases z with z | z
        · cases z
        · obtain ⟨L, -, e3⟩ := List.mem_map.mp z
          rw [← e3]
          exact sub_nil h2 L
      · cases hA : A' with
        | nil =>
          rw [hA] at h
          exact absurd h.eq_nil q
        | cons L l =>
          rw [z]
          exact List.mem_map.mpr ⟨L, List.mem_cons_self .., sub_nil h2 L⟩
def hcB (hc : OVF) (W : List OV) : Bool := match hc with
  | none => true
  | some f => tr1 (f W) == 1
/-- what the class makes of a SELECT's joined rows -/
def selC (mi : Nat) (gr di : Bool) (ng na : Nat) (κ : Nat → Int32) (wh hc : OVF) (pc kv iv : Nat → List OV → OV) (A : LL) : LL := if di = true then (srtK (kd 0) ((optF hc (if gr = true then grC ng na κ kv iv (optF wh A) else optF wh A)).map (prow mi pc))).foldl adjS [] else (optF hc (if gr = true then grC ng na κ kv iv (optF wh A) else optF wh A)).map (prow mi pc)
theorem sel_perm {mi ng na : Nat} {gr gb di : Bool} {κ : Nat → Int32} {wh hp hc : OVF} {pv kv iv pc : Nat → List OV → OV} {hv : OGF} {gv : Nat → List OV → LL → OV} {A A' : LL} (hg : gr = true → (gb = true ∧ 1 ≤ ng) ∨ (gb = false ∧ ng = 0)) (pl : gr = false → hc = hp ∧ ∀ j, j < mi → pc j = pv j) (gp : gr = true → ∀ g mem, hvB hv g mem = hcB hc (grow na κ iv g mem) ∧ ∀ j, j < mi → pc j (grow na κ iv g mem) = gv j g mem) (h : A.Perm A') : (selC mi gr di ng na κ wh hc pc kv iv A).Perm (selR mi gr gb di ng wh hp pv kv hv gv A') := by
  have mid : ((optF hc (if gr = true then grC ng na κ kv iv (optF wh A) else optF wh A)).map (prow mi pc)).Perm (if gr = true then grpL gb ng mi kv hv gv (optF wh A') else (optF hp (optF wh A')).map (fun L => (List.range mi).map (fun j => pv j L))) := by
    have hw := optF_perm (f := wh) h
    cases hgr : gr with
    | false =>
      obtain ⟨e1, e2⟩ := pl hgr
      rw [if_neg (by decide), if_neg (by decide), e1]
      have e3 : prow mi pc = (fun L => (List.range mi).map (fun j => pv j L)) := funext (fun L => List.map_congr_left (fun j hj => by rw [e2 j (List.mem_range.mp hj)]))
      rw [e3]
      exact (optF_perm hw).map _
    | true =>
      have gg := gp hgr
      rw [if_pos rfl, if_pos rfl]
      obtain ⟨B', hB'⟩ : ∃ z, z = optF wh A' := ⟨_, rfl⟩
      rw [← hB'] at hw ⊢
      have p := grp_perm (κ := κ) (kv := kv) (iv := iv) (na := na) (hg hgr) hw
      unfold grpL
      obtain ⟨ks, hks⟩ : ∃ z, z = (if gb = true then (B'.map (gkey ng kv)).foldl stpO [] else [[]]) := ⟨_, rfl⟩
      rw [← hks] at p ⊢
      have rows : ∀ (l : LL), (l.map (fun g => grow na κ iv g (B'.filter (fun L => gkey ng kv L == g)))).map (prow mi pc) = l.map (fun g => (List.range mi).map (fun j => gv j g (B'.filter (fun L => gkey ng kv L == g)))) := fun l => by
        rw [List.map_map]
        refine List.map_congr_left (fun g _ => ?_)
        show prow mi pc (grow na κ iv g (B'.filter (fun L => gkey ng kv L == g))) = _
        unfold prow
        exact List.map_congr_left (fun j hj => (gg g _).2 j (List.mem_range.mp hj))
      rw [← rows]
      refine List.Perm.map _ ?_
      have hb : ∀ g, hvB hv g (B'.filter (fun L => gkey ng kv L == g)) = hcB hc (grow na κ iv g (B'.filter (fun L => gkey ng kv L == g))) := fun g => (gg g _).1
      rw [show (fun g => hvB hv g (B'.filter (fun L => gkey ng kv L == g))) = (fun g => hcB hc (grow na κ iv g (B'.filter (fun L => gkey ng kv L == g)))) from funext hb]
      cases hc with
      | none =>
        show (grC ng na κ kv iv (optF wh A)).Perm _
        have e9 : ks.filter (fun g => hcB none (grow na κ iv g (B'.filter (fun L => gkey ng kv L == g)))) = ks := filter_all (fun _ => rfl)
        rw [e9]
        exact p
      | some f =>
        show ((grC ng na κ kv iv (optF wh A)).filter (fun L => tr1 (f L) == 1)).Perm _
        have p2 := p.filter (fun L => tr1 (f L) == 1)
        rw [List.filter_map] at p2
        exact p2
  unfold selC selR
  cases di with
  | false =>
    rw [if_neg (show ¬ false = true by decide), if_neg (show ¬ false = true by decide)]
    exact mid
  | true =>
    rw [if_pos (show true = true from rfl), if_pos (show true = true from rfl)]
    exact once_perm mid

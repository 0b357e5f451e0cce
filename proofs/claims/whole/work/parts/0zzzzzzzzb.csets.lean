/-! sets of rows: the class sorts, the reference does not -/
theorem adj_mem {x : List OV} : ∀ (l K : LL), x ∈ l.foldl adjS K ↔ x ∈ K ∨ x ∈ l
  | [], K => by
    show x ∈ K ↔ x ∈ K ∨ x ∈ []
    exact ⟨Or.inl, fun h => h.elim id (fun z => by cases z)⟩
  | y :: l, K => by
    show x ∈ l.foldl adjS (adjS K y) ↔ _
    rw [adj_mem l (adjS K y), List.mem_cons]
    have e : x ∈ adjS K y ↔ x ∈ K ∨ x = y := by
      unfold adjS
      by_cases q : K.getLast? = some y
      · rw [if_pos q]
        refine ⟨Or.inl, fun h => h.elim id (fun z => ?_)⟩
        rw [z]
        exact List.mem_of_getLast? q
      · rw [if_neg q, List.mem_append, List.mem_singleton]
    rw [e]
    exact or_assoc
theorem SRT.sub {K : List OV → List Int} {l k : LL} (h : SRT K k) (g : l.Sublist k) : SRT K l := List.Pairwise.sublist g h
theorem adj_nd {K : List OV → List Int} (inj : ∀ x y, K x = K y → x = y) : ∀ (l k : LL), SRT K (k ++ l) → k.Nodup → (l.foldl adjS k).Nodup
  | [], k, _, h => h
  | y :: l, k, s, h => by
    show (l.foldl adjS (adjS k y)).Nodup
    by_cases q : k.getLast? = some y
    · have e : adjS k y = k := by unfold adjS; rw [if_pos q]
      rw [e]
      refine adj_nd inj l k (s.sub ?_) h
      exact List.Sublist.append_left (List.sublist_cons_self y l) k
    · have e : adjS k y = k ++ [y] := by unfold adjS; rw [if_neg q]
      rw [e]
      refine adj_nd inj l (k ++ [y]) (by rw [← List.append_cons]; exact s) ?_
      refine (List.perm_append_singleton y k).symm.nodup (List.nodup_cons.mpr ⟨fun ha => ?_, h⟩)
      have p := List.pairwise_append.mp s
      have hk : k ≠ [] := fun z => by rw [z] at ha; cases ha
      refine q ?_
      have el := List.dropLast_concat_getLast hk
      have m1 := p.2.2 (k.getLast hk) (List.getLast_mem hk) y (List.mem_cons_self ..)
      have m2 : y = k.getLast hk ∨ lexI (K (k.getLast hk)) (K y) = false := by
        rw [← el] at ha
        rcases List.mem_append.mp ha with z | z
        · have p1 := p.1
          rw [← el] at p1
          exact Or.inr ((List.pairwise_append.mp p1).2.2 y z _ (List.mem_singleton.mpr rfl))
        · exact Or.inl (List.mem_singleton.mp z)
      rw [List.getLast?_eq_some_getLast hk]
      rcases m2 with z | z
      · rw [← z]
      · rw [inj _ _ (lex_tri _ _ z m1)]
theorem fold_mem {x : List OV} : ∀ (l K : LL), x ∈ l.foldl stpO K ↔ x ∈ K ∨ x ∈ l
  | [], K => by
    show x ∈ K ↔ x ∈ K ∨ x ∈ []
    exact ⟨Or.inl, fun h => h.elim id (fun z => by cases z)⟩
  | y :: l, K => by
    show x ∈ l.foldl stpO (stpO K y) ↔ _
    rw [fold_mem l (stpO K y), List.mem_cons]
    have e : x ∈ stpO K y ↔ x ∈ K ∨ x = y := by
      unfold stpO
      by_cases q : y ∈ K
      · rw [if_pos q]
        exact ⟨Or.inl, fun h => h.elim id (fun z => by rw [z]; exact q)⟩
      · rw [if_neg q, List.mem_append, List.mem_singleton]
    rw [e]
    exact or_assoc
theorem fold_nd : ∀ (l K : LL), K.Nodup → (l.foldl stpO K).Nodup
  | [], _, h => h
  | _ :: l, _, h => fold_nd l _ (stpO_nd h)
theorem kd_inj {down : Int32} (x y : List OV) (h : kd down x = kd down y) : x = y := kdI_inj 0 x y h
/-- each once: sorted, or as they come -/
theorem once_perm {l k : LL} (h : l.Perm k) : ((srtK (kd 0) l).foldl adjS []).Perm (k.foldl stpO []) := by
  refine (List.perm_ext_iff_of_nodup (adj_nd (K := kd 0) kd_inj _ [] (srt_srt l) List.nodup_nil) (fold_nd k [] List.nodup_nil)).mpr (fun a => ?_)
  rw [adj_mem, fold_mem]
  have e : a ∈ srtK (kd 0) l ↔ a ∈ k := ((srt_perm l).trans h).mem_iff
  exact or_congr Iff.rfl e
/-- what the class makes of two relations -/
def setC (s : Nat) (A E : LL) : LL := if s = 11 then A ++ E else if s = 10 then (srtK (kd 0) (A ++ E)).foldl adjS [] else (srtK (kd 0) (A.filter (fun L => decide (L ∈ E) == decide (s = 13)))).foldl adjS []
theorem stp1_fold : ∀ (l K : LL), l.foldl (stpS 1) K = K ++ l
  | [], K => (List.append_nil K).symm
  | x :: l, K => by
    show l.foldl (stpS 1) (stpS 1 K x) = _
    rw [stp1_fold l]
    unfold stpS
    rw [if_pos rfl, List.append_assoc]
    rfl
theorem stpS_fold {what : Nat} (h : what ≠ 1) : ∀ (l K : LL), l.foldl (stpS what) K = l.foldl stpO K
  | [], _ => rfl
  | x :: l, K => by
    show l.foldl (stpS what) (stpS what K x) = l.foldl stpO (stpO K x)
    rw [stpS_fold h l]
    unfold stpS
    rw [if_neg h]
theorem filter_all {l : LL} {p : List OV → Bool} (h : ∀ x, p x = true) : l.filter p = l := List.filter_eq_self.mpr (fun x _ => h x)
theorem set_perm {s what : Nat} {A E A' E' : LL} (hs : (s = 11 ∧ what = 1) ∨ (s = 10 ∧ what = 2) ∨ (s = 12 ∧ what = 3) ∨ (s = 13 ∧ what = 4)) (h1 : A.Perm A') (h2 : E.Perm E') : (setC s A E).Perm (setS what A' E') := by
  have kp : what ≤ 2 → ∀ x, kpS what E' x = true := fun w x => by
    unfold kpS
    rw [decide_eq_true w, Bool.true_or]
  unfold setC setS setA
  rcases hs with ⟨e1, e2⟩ | ⟨e1, e2⟩ | ⟨e1, e2⟩ | ⟨e1, e2⟩
  · rw [if_pos e1, if_pos (by omega), filter_all (kp (by omega)), e2, stp1_fold, stp1_fold, List.nil_append]
    exact h1.append h2
  · rw [if_neg (by omega), if_pos e1, if_pos (by omega), filter_all (kp (by omega)), stpS_fold (by omega), stpS_fold (by omega), ← List.foldl_append]
    exact once_perm (h1.append h2)
  · rw [if_neg (by omega), if_neg (by omega), if_neg (by omega), stpS_fold (by omega)]
    refine once_perm ?_
    have e3 : ∀ L, (decide (L ∈ E) == decide (s = 13)) = kpS what E' L := fun L => by
      unfold kpS
      rw [decide_eq_false (show ¬ s = 13 by omega), decide_eq_false (show ¬ what ≤ 2 by omega), Bool.false_or, if_neg (by omega), beq_false]
      have e4 : decide (L ∈ E) = decide (L ∈ E') := decide_eq_decide.mpr h2.mem_iff
      rw [e4]
    rw [show (fun L => decide (L ∈ E) == decide (s = 13)) = kpS what E' from funext e3]
    exact h1.filter _
  · rw [if_neg (by omega), if_neg (by omega), if_neg (by omega), stpS_fold (by omega)]
    refine once_perm ?_
    have e3 : ∀ L, (decide (L ∈ E) == decide (s = 13)) = kpS what E' L := fun L => by
      unfold kpS
      rw [decide_eq_true (show s = 13 by omega), decide_eq_false (show ¬ what ≤ 2 by omega), Bool.false_or, if_pos (by omega), beq_true]
      exact decide_eq_decide.mpr h2.mem_iff
    rw [show (fun L => decide (L ∈ E) == decide (s = 13)) = kpS what E' from funext e3]
    exact h1.filter _
theorem drop_get {A : LL} {i : Nat} (h : i < A.length) : A.drop i = A.getD i [] :: A.drop (i + 1) := by
  rw [List.drop_eq_getElem_cons h, List.getD_eq_getElem?_getD, List.getElem?_eq_getElem h]
  rfl
theorem RWS.app {ar st w : Nat} {A E : LL} {cs : CS} (h : RWS ar st w A cs) (g : RWS ar (st + A.length * w) w E cs) : RWS ar st w (A ++ E) cs := by
  have l : (A ++ E).length = A.length + E.length := List.length_append
  have bd := g.bd
  refine ⟨by rw [l, Nat.add_mul]; omega, ?_⟩
  rw [l]
  unfold rwsC
  rw [List.range_add, List.map_append, List.map_map]
  have e1 := h.eq
  have e2 := g.eq
  unfold rwsC at e1 e2
  rw [e1]
  refine congrArg (A ++ ·) (Eq.trans (List.map_congr_left (fun i _ => ?_)) e2)
  show rwC cs ar (st + (A.length + i) * w) w = rwC cs ar (st + A.length * w + i * w) w
  rw [Nat.add_mul, Nat.add_assoc]
theorem sift_in {F r c ar B st w rs m k i fr : Nat} {sg : Int32} {E : LL} {row : List OV} {X : CS} {rc14 : CS → Nat → Int32 → Int32 → Int32 → Int32 → Int32 → Int32 → Int32 → Int32 → Option (CS × Int32)} (hF : 10000 ≤ F) (hm : E.length ≤ 600) (hw : w ≤ 100) (rn : RUN r c ar X) (h : STS ar B X) (hE : RWS ar rs w E X) (hr : rwC X ar fr w = row) (hb : fr + w ≤ kL X 288 ar) : ∀ (d j u : Nat), E.length = j + d → d < u → c_X4_sift_L35 F rc14 u X r sg (nI st) (nI m) (nI E.length) (nI w) (nI rs) (nI k) (nI i) (nI fr) 0 (nI j) = c_X4_sift_b87 F rc14 X r sg (nI st) (nI m) (nI E.length) (nI w) (nI rs) (nI k) (nI i) (nI fr) (if row ∈ E.drop j then 1 else 0) := by
  intro d
  induction d with
  | zero =>
    intro j u d1 d2
    obtain ⟨u, rfl⟩ : ∃ z, u = z + 1 := ⟨u - 1, by omega⟩
    rw [c_X4_sift_L35, if_pos (nI_le (by omega) (by omega)), List.drop_eq_nil_of_le (by omega), if_neg (fun z => by cases z)]
  | succ d ih =>
    intro j u d1 d2
    obtain ⟨u, rfl⟩ : ∃ z, u = z + 1 := ⟨u - 1, by omega⟩
    have hj : j < E.length := by omega
    have rl := row_le (p := rs) (w := w) hj
    have bd := hE.bd
    have row2 := hE.row hj
    have z0 := cmD_0 (dn := dnB 0) 0 row (E.getD j []) (by rw [← hr, ← row2, rwC_len, rwC_len])
    rw [c_X4_sift_L35, if_neg (nI_ge (by omega) (by omega)), if_pos rfl, gR_ok rn.o, rn.sp, ob_s, ob_s, ob_s, ob_s, ckE_ok h.st.o, ob_s, pk_mul, nI_add, cmpC_ok hF h.st h.st hw hb (by omega), ob_s, hr, row2, drop_get hj]
    unfold c_X4_sift_b79
    rw [nI_1]
    by_cases z : row = E.getD j []
    · rw [if_pos (z0.mpr z), if_pos (by rw [z]; exact List.mem_cons_self ..)]
      obtain ⟨u, rfl⟩ : ∃ z, u = z + 1 := ⟨u - 1, by omega⟩
      rw [c_X4_sift_L35]
      by_cases y : E.length ≤ j + 1
      · rw [if_pos (nI_le y (by omega))]
      · rw [if_neg (nI_ge (by omega) (by omega)), if_neg (show ¬ (1 : Int32) = 0 by decide)]
    · rw [if_neg (fun w => z (z0.mp w)), ih (j + 1) u (by omega) (by omega)]
      by_cases y : row ∈ E.drop (j + 1)
      · rw [if_pos y, if_pos (List.mem_cons_of_mem _ y)]
      · rw [if_neg y, if_neg (fun w => by
          rcases List.mem_cons.mp w with v | v
          · exact z v
          · exact y v)]
theorem sift_L {F r c ar B st w : Nat} {sg : Bool} {A E : LL} {cs : CS} (hF : 10000 ≤ F) (hB : B ≤ 400000) (hb : st + A.length * w ≤ B) (hm : A.length ≤ 600) (hm2 : E.length ≤ 600) (hw : w ≤ 100) (rn : RUN r c ar cs) : ∀ (d i u : Nat) (X : CS), A.length = i + d → d < u → STS ar B X → STF c ar st cs X → RWS ar (st + A.length * w) w E X → CPI ar st w i A ((A.take i).filter (fun L => decide (L ∈ E) == sg)) X → ∃ Y, c_X4_sift_L14 F u X r (if sg = true then 1 else 0) (nI st) (nI A.length) (nI E.length) (nI w) (nI (st + A.length * w)) (nI ((A.take i).filter (fun L => decide (L ∈ E) == sg)).length) (nI i) = some (Y, nI (A.filter (fun L => decide (L ∈ E) == sg)).length) ∧ STS ar B Y ∧ RWS ar st w (A.filter (fun L => decide (L ∈ E) == sg)) Y ∧ STF c ar st cs Y := by
  intro d
  induction d with
  | zero =>
    intro i u X d1 d2 hs hf hE hc
    obtain ⟨u, rfl⟩ : ∃ z, u = z + 1 := ⟨u - 1, by omega⟩
    rw [c_X4_sift_L14, if_pos (nI_le (by omega) (by omega))]
    have e0 : A.take i = A := List.take_of_length_le (by omega)
    have kp := hc.kp
    rw [e0] at kp ⊢
    exact ⟨X, rfl, hs, kp, hf⟩
  | succ d ih =>
    intro i u X d1 d2 hs hf hE hc
    obtain ⟨u, rfl⟩ : ∃ z, u = z + 1 := ⟨u - 1, by omega⟩
    have rn1 := rn.cf hf.cf
    have hi : i < A.length := by omega
    have rl := row_le (p := st) (w := w) hi
    have bd := hc.bd
    have row := hc.rs i (Nat.le_refl _) hi
    have z0 : (0 : Int32) = nI 0 := rfl
    rw [c_X4_sift_L14, if_neg (nI_ge (by omega) (by omega)), pk_mul, nI_add]
    have si := sift_in (F := F) (r := r) (st := st) (m := A.length) (k := ((A.take i).filter (fun L => decide (L ∈ E) == sg)).length) (i := i) (sg := if sg = true then 1 else 0) (rc14 := c_X4_sift_L14 F u) hF hm2 hw rn1 hs hE row (by omega) E.length 0 F (by omega) (by omega)
    have si' : c_X4_sift_L35 F (c_X4_sift_L14 F u) F X r (if sg = true then 1 else 0) (nI st) (nI A.length) (nI E.length) (nI w) (nI (st + A.length * w)) (nI ((A.take i).filter (fun L => decide (L ∈ E) == sg)).length) (nI i) (nI (st + i * w)) 0 0 = c_X4_sift_b87 F (c_X4_sift_L14 F u) X r (if sg = true then 1 else 0) (nI st) (nI A.length) (nI E.length) (nI w) (nI (st + A.length * w)) (nI ((A.take i).filter (fun L => decide (L ∈ E) == sg)).length) (nI i) (nI (st + i * w)) (if A.getD i [] ∈ E.drop 0 then 1 else 0) := si
    rw [si', List.drop_zero]
    have eq01 : ((if A.getD i [] ∈ E then (1 : Int32) else 0) = (if sg = true then 1 else 0)) ↔ (decide (A.getD i [] ∈ E) == sg) = true := by
      by_cases z : A.getD i [] ∈ E
      · rw [if_pos z, decide_eq_true z]
        cases sg <;> decide
      · rw [if_neg z, decide_eq_false z]
        cases sg <;> decide
    unfold c_X4_sift_b87
    by_cases q : (decide (A.getD i [] ∈ E) == sg) = true
    · rw [if_pos (eq01.mpr q), gR_ok rn1.o, rn1.sp, ob_s, ob_s, ckE_ok hs.st.o, ob_s, pk_mul, nI_add]
      obtain ⟨Y, e2, s3, c3, t3, f3⟩ := hc.keep (F := F) hs hB hb hi
      rw [e2, ob_s]
      unfold c_X4_sift_b111 c_X4_sift_b114
      rw [nI_1, nI_1]
      have e3 : (A.take (i + 1)).filter (fun L => decide (L ∈ E) == sg) = (A.take i).filter (fun L => decide (L ∈ E) == sg) ++ [A.getD i []] := by
        rw [take_get hi, List.filter_append, List.filter_cons_of_pos (by exact q), List.filter_nil]
      have e4 : ((A.take i).filter (fun L => decide (L ∈ E) == sg)).length + 1 = ((A.take (i + 1)).filter (fun L => decide (L ∈ E) == sg)).length := by rw [e3, List.length_append]; rfl
      rw [← e3] at c3
      rw [e4]
      exact ih (i + 1) u Y (by omega) (by omega) s3 (hf.trans (f3 c st (Nat.le_refl _)) (Nat.le_refl _)) (hE.mv (f3 c st (Nat.le_refl _)).ln (fun k h1 h2 => t3 k h1 (by have := hE.bd; omega))) c3
    · rw [if_neg (fun w => q (eq01.mp w))]
      unfold c_X4_sift_b114
      rw [nI_1]
      have e3 : (A.take (i + 1)).filter (fun L => decide (L ∈ E) == sg) = (A.take i).filter (fun L => decide (L ∈ E) == sg) := by
        rw [take_get hi, List.filter_append, List.filter_cons_of_neg (by exact q), List.filter_nil, List.append_nil]
      have c2 := hc.skip
      rw [← e3] at c2
      rw [← e3]
      exact ih (i + 1) u X (by omega) (by omega) hs hf hE c2
/-- sorted, and each once -/
theorem sorted_once {F c ar B st w : Nat} {A : LL} {cs : CS} (hF : 10000 ≤ F) (hB : B ≤ 400000) (hb : st + A.length * w + A.length * w ≤ B) (hm : A.length ≤ 600) (hw : w ≤ 100) (h : STS ar B cs) (hr : RWS ar st w A cs) : ∃ c1, c_X8_sort F cs ar (nI st) (nI A.length) (nI w) 0 = some c1 ∧ STS ar B c1 ∧ (∀ c, STF c ar st cs c1) ∧ CRO c ar B st w ((srtK (kd 0) A).foldl adjS []) cs (c_X8_once F c1 ar (nI st) (nI A.length) (nI w)) := by
  obtain ⟨c1, e1, s1, r1, f1⟩ := sort_ok (F := F) (down := 0) hF hB hw hm hb h hr
  have l : (srtK (kd 0) A).length = A.length := (srt_perm A).length_eq
  obtain ⟨c2, e2, s2, r2, f2⟩ := conce_ok (F := F) (c := c) hF hB (by rw [l]; omega) (by rw [l]; exact hm) hw s1 r1
  rw [l] at e2
  exact ⟨c1, e1, s1, fun c => f1 c st (Nat.le_refl _), c2, e2, s2, r2, (f1 c st (Nat.le_refl _)).trans f2 (Nat.le_refl _)⟩
theorem combine_ok {F r c ar B st w s : Nat} {A E : LL} {cs : CS} (hF : 10000 ≤ F) (hB : B ≤ 400000) (hm : A.length + E.length ≤ 600) (hb : st + (A.length + E.length) * w + (A.length + E.length) * w ≤ B) (hw : w ≤ 100) (hs : s = 10 ∨ s = 11 ∨ s = 12 ∨ s = 13) (rn : RUN r c ar cs) (h : STS ar B cs) (hA : RWS ar st w A cs) (hE : RWS ar (st + A.length * w) w E cs) : CRO c ar B st w (setC s A E) cs (c_X4_combine F cs r (nI s) (nI st) (nI A.length) (nI E.length) (nI w)) := by
  have ap := hA.app hE
  have la : (A ++ E).length = A.length + E.length := List.length_append
  have tail : ∀ (K : LL) (X : CS), K.length ≤ A.length + E.length → STS ar B X → STF c ar st cs X → RWS ar st w K X → CRO c ar B st w ((srtK (kd 0) K).foldl adjS []) cs (c_X4_combine_b44 F X r (nI st) (nI w) (nI K.length)) := fun K X k1 s1 f1 r1 => by
    have k2 : K.length * w ≤ (A.length + E.length) * w := Nat.mul_le_mul_right w k1
    have rn1 := rn.cf f1.cf
    obtain ⟨c1, e1, s2, f2, c2, e2, s3, r3, f3⟩ := sorted_once (F := F) (c := c) hF hB (by omega) (by omega) hw s1 r1
    have rn2 := rn1.cf (f2 c).cf
    unfold c_X4_combine_b44 c_X4_combine_b57 c_X4_combine_b69
    rw [gR_ok rn1.o, rn1.sp, ob_s, ob_s, ckE_ok s1.st.o, ob_s, e1, ob_s, gR_ok rn2.o, rn2.sp, ob_s, ob_s, ckE_ok s2.st.o, ob_s, e2, ob_s]
    exact ⟨c2, rfl, s3, r3, f1.trans f3 (Nat.le_refl _)⟩
  have sft : ∀ (sg : Bool), CRO c ar B st w ((srtK (kd 0) (A.filter (fun L => decide (L ∈ E) == sg))).foldl adjS []) cs (c_X4_combine_b33 F cs r (nI st) (nI A.length) (nI E.length) (nI w) (if sg = true then 1 else 0) r) := fun sg => by
    have k1 : A.length * w ≤ (A.length + E.length) * w := Nat.mul_le_mul_right w (by omega)
    obtain ⟨Y, e1, s1, r1, f1⟩ := sift_L (F := F) (sg := sg) (E := E) hF hB (by omega) (by omega) (by omega) hw rn A.length 0 F cs (by omega) (by omega) h STF.refl hE (CPI.start hA)
    have e1' : c_X4_sift F cs r (if sg = true then 1 else 0) (nI st) (nI A.length) (nI E.length) (nI w) = some (Y, nI (A.filter (fun L => decide (L ∈ E) == sg)).length) := by
      unfold c_X4_sift
      rw [pk_mul, nI_add]
      exact e1
    have fl := List.length_filter_le (fun L => decide (L ∈ E) == sg) A
    unfold c_X4_combine_b33 c_X4_combine_b42
    rw [ckE_ok rn.o, ob_s, e1', ob_s]
    exact tail _ Y (by omega) s1 f1 r1
  unfold c_X4_combine setC
  rcases hs with e | e | e | e
  · rw [e, if_neg (show ¬ nI 10 = 11 by decide), if_pos (show nI 10 = 10 by decide), if_neg (by decide), if_pos rfl, nI_add, ← la]
    exact tail _ cs (by rw [la]; exact Nat.le_refl _) h STF.refl ap
  · rw [e, if_pos (show nI 11 = 11 by decide), if_pos rfl, nI_add, ← la]
    exact ⟨cs, rfl, h, ap, STF.refl⟩
  · rw [e, if_neg (show ¬ nI 12 = 11 by decide), if_neg (show ¬ nI 12 = 10 by decide), if_neg (show ¬ nI 12 = 13 by decide), if_neg (by decide), if_neg (by decide)]
    exact sft false
  · rw [e, if_neg (show ¬ nI 13 = 11 by decide), if_neg (show ¬ nI 13 = 10 by decide), if_pos (show nI 13 = 13 by decide), if_neg (by decide), if_neg (by decide)]
    exact sft true

/-! the class joins -/
/-- a SOURCE that is joined to n cells before it -/
def JNC (F c ar o n m : Nat) (ou : Bool) (τ : RPR) (val : List OV → OV) (cs : CS) : Prop := ((7, o) ∈ kE cs) ∧ (kI cs 234 o = nI n) ∧ (∃ cl, kR cs 235 o = some cl ∧ CLM cl m cs) ∧ (∃ rt, kI cs 233 o = nI rt ∧ EXC F c ar (n + m) rt τ val cs) ∧ (ou = true ↔ kI cs 231 o ≠ 0)
theorem JNC.e {F c ar o n m : Nat} {ou : Bool} {τ : RPR} {val : List OV → OV} {cs : CS} (h : JNC F c ar o n m ou τ val cs) : (7, o) ∈ kE cs := h.1
theorem JNC.s {F c ar o n m : Nat} {ou : Bool} {τ : RPR} {val : List OV → OV} {cs : CS} (h : JNC F c ar o n m ou τ val cs) : kI cs 234 o = nI n := h.2.1
theorem JNC.cl {F c ar o n m : Nat} {ou : Bool} {τ : RPR} {val : List OV → OV} {cs : CS} (h : JNC F c ar o n m ou τ val cs) : ∃ cl, kR cs 235 o = some cl ∧ CLM cl m cs := h.2.2.1
theorem JNC.on {F c ar o n m : Nat} {ou : Bool} {τ : RPR} {val : List OV → OV} {cs : CS} (h : JNC F c ar o n m ou τ val cs) : ∃ rt, kI cs 233 o = nI rt ∧ EXC F c ar (n + m) rt τ val cs := h.2.2.2.1
theorem JNC.ou' {F c ar o n m : Nat} {ou : Bool} {τ : RPR} {val : List OV → OV} {cs : CS} (h : JNC F c ar o n m ou τ val cs) : ou = true ↔ kI cs 231 o ≠ 0 := h.2.2.2.2
theorem JNC.cf {F c ar o n m : Nat} {ou : Bool} {τ : RPR} {val : List OV → OV} {a b : CS} (h : JNC F c ar o n m ou τ val a) (g : CFR c ar a b) : JNC F c ar o n m ou τ val b := by
  refine ⟨g.em _ h.e, by rw [(g.fr 234 o (by omega) (by omega)).i]; exact h.s, ?_, ?_, by rw [(g.fr 231 o (by omega) (by omega)).i]; exact h.ou'⟩
  · obtain ⟨cl, h1, h2⟩ := h.cl
    exact ⟨cl, by rw [(g.fr 235 o (by omega) (by omega)).r]; exact h1, h2.cf g⟩
  · obtain ⟨rt, h1, h2⟩ := h.on
    exact ⟨rt, by rw [(g.fr 233 o (by omega) (by omega)).i]; exact h1, h2.cf g⟩
theorem matL_cons {on : List OV → OV} {x y : List OV} {E : LL} : matL on x (y :: E) = (if tr1 (on (x ++ y)) = 1 then [x ++ y] else []) ++ matL on x E := by
  unfold matL
  rw [List.map_cons]
  by_cases q : tr1 (on (x ++ y)) = 1
  · rw [if_pos q, List.filter_cons_of_pos (by rw [beq_iff_eq]; exact q)]
    rfl
  · rw [if_neg q, List.filter_cons_of_neg (by rw [beq_iff_eq]; exact q)]
    rfl
/-- what stands while rows are joined -/
def JST (c ar B st n m ot : Nat) (A E R : LL) (cs X : CS) : Prop := (STS ar B X) ∧ (STF c ar ot cs X) ∧ (RWS ar ot (n + m) R X)
theorem JST.st' {c ar B st n m ot : Nat} {A E R : LL} {cs X : CS} (h : JST c ar B st n m ot A E R cs X) : STS ar B X := h.1
theorem JST.fr {c ar B st n m ot : Nat} {A E R : LL} {cs X : CS} (h : JST c ar B st n m ot A E R cs X) : STF c ar ot cs X := h.2.1
theorem JST.rw' {c ar B st n m ot : Nat} {A E R : LL} {cs X : CS} (h : JST c ar B st n m ot A E R cs X) : RWS ar ot (n + m) R X := h.2.2
theorem cjin_L {F r c ar B o st n m ot i s0 M : Nat} {ou : Bool} {τ : RPR} {val : List OV → OV} {A E : LL} {cs : CS} {rc46 : CS → Nat → Nat → Int32 → Int32 → Int32 → Int32 → Int32 → Int32 → Int32 → Int32 → Int32 → Int32 → Option (CS × Int32)} (hB : B ≤ 400000) (hm2 : E.length ≤ 600) (hi : i < A.length) (rn : RUN r c ar cs) (ty : ∀ x y, x ∈ A → y ∈ E → τ (x ++ y)) (jn : JNC F c ar o n m ou τ val cs) (hA : RWS ar st n A cs) (hE : RWS ar (st + A.length * n) m E cs) (hot : ot = st + A.length * n + E.length * m) (hM : ot + M * (n + m) ≤ B) : ∀ (d j u : Nat) (R : LL) (X : CS), E.length = j + d → d < u → R.length + d + 1 ≤ M → JST c ar B st n m ot A E R cs X → ∃ Y u', c_X4_join_L59 F rc46 u X r o (nI st) (nI A.length) (nI E.length) (nI n) (nI m) (nI (n + m)) (nI (st + A.length * n)) (nI ot) (nI R.length) (nI i) (nI s0) (nI j) = c_X4_join_L59 F rc46 (u' + 1) Y r o (nI st) (nI A.length) (nI E.length) (nI n) (nI m) (nI (n + m)) (nI (st + A.length * n)) (nI ot) (nI (R ++ matL val (A.getD i []) (E.drop j)).length) (nI i) (nI s0) (nI E.length) ∧ JST c ar B st n m ot A E (R ++ matL val (A.getD i []) (E.drop j)) cs Y := by
  have bA := hA.bd
  have bE := hE.bd
  have rlA := row_le (p := st) (w := n) hi
  intro d
  induction d with
  | zero =>
    intro j u R X d1 d2 d3 h
    obtain ⟨u, rfl⟩ : ∃ z, u = z + 1 := ⟨u - 1, by omega⟩
    have e0 : matL val (A.getD i []) (E.drop j) = [] := by
      rw [List.drop_eq_nil_of_le (by omega)]
      rfl
    rw [e0, List.append_nil]
    exact ⟨X, u, by rw [show j = E.length by omega], h⟩
  | succ d ih =>
    intro j u R X d1 d2 d3 h
    obtain ⟨u, rfl⟩ : ∃ z, u = z + 1 := ⟨u - 1, by omega⟩
    have hj : j < E.length := by omega
    have rlE := row_le (p := st + A.length * n) (w := m) hj
    have rn0 := rn.cf h.fr.cf
    have ln := h.fr.ln
    have hs := h.st'
    have q1 : (R.length + 1) * (n + m) ≤ M * (n + m) := Nat.mul_le_mul_right _ (by omega)
    rw [Nat.succ_mul] at q1
    have rowA : rwC X ar (st + i * n) n = A.getD i [] := by
      rw [← hA.row hi]
      exact rwC_eq (fun k hk => h.fr.ce _ (by omega) (by omega))
    have rowE : rwC X ar (st + A.length * n + j * m) m = E.getD j [] := by
      rw [← hE.row hj]
      exact rwC_eq (fun k hk => h.fr.ce _ (by omega) (by omega))
    obtain ⟨to, hto⟩ : ∃ z, z = ot + R.length * (n + m) := ⟨_, rfl⟩
    obtain ⟨X1, e1, s1, b1, v1, w1, -, f1⟩ := scopy_ok (F := F) (fr := st + i * n) (to := to) (n := n) hs hB (by omega) (by omega) (by omega)
    have g1 := f1 c to (Nat.le_refl _)
    have ln1 := g1.ln
    have rn1 := rn0.cf g1.cf
    obtain ⟨X2, e2, s2, b2, v2, w2, -, f2⟩ := scopy_ok (F := F) (fr := st + A.length * n + j * m) (to := to + n) (n := m) s1 hB (by omega) (by omega) (by omega)
    have g2 := f2 c (to + n) (Nat.le_refl _)
    have rn2 := rn1.cf g2.cf
    have g12 : STF c ar to X X2 := g1.trans g2 (by omega)
    have fx : STF c ar ot cs X2 := h.fr.trans g12 (by omega)
    have row2 : rwC X2 ar to (n + m) = A.getD i [] ++ E.getD j [] := by
      rw [rwC_add, ← rowA, ← rowE]
      refine congr (congrArg _ (rwC_eq (fun k hk => (g2.ce _ (by omega) (by omega)).trans (v1 k hk)))) (rwC_eq (fun k hk => (v2 k hk).trans (w1 _ (by omega) (by omega))))
    have jn2 := jn.cf fx.cf
    obtain ⟨rt, r1, ex⟩ := jn2.on
    obtain ⟨X3, e3, f3, -, -⟩ := ex X2 to _ CFR.refl s2.st (by omega) (by rw [row2]; exact ty _ _ (get_mem hi) (get_mem hj))
    rw [row2] at e3
    have g3 : STF c ar (to + (n + m)) X2 X3 := f3.stf
    have fx3 : STF c ar ot cs X3 := fx.trans g3 (by omega)
    have R2 : RWS ar ot (n + m) R X3 := (h.rw'.stf g12 (by omega)).stf g3 (by omega)
    rw [c_X4_join_L59, if_neg (nI_ge (by omega) (by omega)), gR_ok rn0.o, rn0.sp, ob_s, ob_s, ckE_ok hs.st.o, ob_s, pk_mul, nI_add, pk_mul, nI_add, ← hto, e1, ob_s]
    unfold c_X4_join_b94 c_X4_join_b116 c_X4_join_b143
    rw [gR_ok rn1.o, rn1.sp, ob_s, ob_s, ckE_ok s1.st.o, ob_s, pk_mul, nI_add, nI_add, e2, ob_s, gR_ok rn2.o, rn2.cd, ob_s, gI_ok jn2.e, ob_s, r1, gR_ok rn2.o, rn2.sp, ob_s, ob_s, ob_s, ckE_ok rn2.oc, ob_s, e3, ob_s, drop_get hj, matL_cons, ← List.append_assoc]
    by_cases q : tr1 (val (A.getD i [] ++ E.getD j [])) = 1
    · rw [if_pos q, if_pos q, if_neg (show ¬ (1 : Int32) = 0 by decide), nI_1, nI_1]
      have R3 := R2.snoc (L := A.getD i [] ++ E.getD j []) (by have := g3.ln; omega) (by rw [← hto, ← row2]; exact rwC_eq (fun k hk => g3.ce _ (by omega) (by omega)))
      have l3 : R.length + 1 = (R ++ [A.getD i [] ++ E.getD j []]).length := by rw [List.length_append]; rfl
      rw [l3]
      exact ih (j + 1) u _ X3 (by omega) (by omega) (by rw [← l3]; omega) ⟨s2.evf f3, fx3, R3⟩
    · rw [if_neg q, if_neg q, if_pos rfl, nI_1, nI_z, List.append_nil]
      exact ih (j + 1) u R X3 (by omega) (by omega) (by omega) ⟨s2.evf f3, fx3, R2⟩
/-- one row of the left joined to all of the right -/
theorem cjone {F r c ar B o st n m ot i M : Nat} {ou : Bool} {τ : RPR} {val : List OV → OV} {A E R : LL} {cs X : CS} {rc46 : CS → Nat → Nat → Int32 → Int32 → Int32 → Int32 → Int32 → Int32 → Int32 → Int32 → Int32 → Int32 → Option (CS × Int32)} (hF : 10000 ≤ F) (hB : B ≤ 400000) (hnm : n + m ≤ 100) (hm2 : E.length ≤ 600) (hi : i < A.length) (rn : RUN r c ar cs) (ty : ∀ x y, x ∈ A → y ∈ E → τ (x ++ y)) (jn : JNC F c ar o n m ou τ val cs) (hA : RWS ar st n A cs) (hE : RWS ar (st + A.length * n) m E cs) (hot : ot = st + A.length * n + E.length * m) (hM : ot + M * (n + m) ≤ B) (hMM : M ≤ 100000) (hR : R.length + E.length + 2 ≤ M) (h : JST c ar B st n m ot A E R cs X) : ∃ Y, c_X4_join_L59 F rc46 F X r o (nI st) (nI A.length) (nI E.length) (nI n) (nI m) (nI (n + m)) (nI (st + A.length * n)) (nI ot) (nI R.length) (nI i) (nI R.length) 0 = rc46 Y r o (nI st) (nI A.length) (nI E.length) (nI n) (nI m) (nI (n + m)) (nI (st + A.length * n)) (nI ot) (nI (R ++ joX ou val m (A.getD i []) E).length) (nI (i + 1)) ∧ JST c ar B st n m ot A E (R ++ joX ou val m (A.getD i []) E) cs Y := by
  have bA := hA.bd
  have rlA := row_le (p := st) (w := n) hi
  obtain ⟨X1, u', e1, h1⟩ := cjin_L (F := F) (r := r) (s0 := R.length) (rc46 := rc46) hB hm2 hi rn ty jn hA hE hot hM E.length 0 F R X (by omega) (by omega) (by omega) h
  have e1' : c_X4_join_L59 F rc46 F X r o (nI st) (nI A.length) (nI E.length) (nI n) (nI m) (nI (n + m)) (nI (st + A.length * n)) (nI ot) (nI R.length) (nI i) (nI R.length) 0 = c_X4_join_L59 F rc46 (u' + 1) X1 r o (nI st) (nI A.length) (nI E.length) (nI n) (nI m) (nI (n + m)) (nI (st + A.length * n)) (nI ot) (nI (R ++ matL val (A.getD i []) (E.drop 0)).length) (nI i) (nI R.length) (nI E.length) := e1
  rw [e1']
  rw [List.drop_zero] at h1 ⊢
  have ml : (matL val (A.getD i []) E).length ≤ E.length := by
    unfold matL
    have := List.length_filter_le (fun L => tr1 (val L) == 1) (E.map (fun y => A.getD i [] ++ y))
    rw [List.length_map] at this
    exact this
  have la : (R ++ matL val (A.getD i []) E).length = R.length + (matL val (A.getD i []) E).length := List.length_append
  have jn1 := jn.cf h1.fr.cf
  have rn1 := rn.cf h1.fr.cf
  have hs := h1.st'
  have go : joX ou val m (A.getD i []) E = matL val (A.getD i []) E → ∃ Y, c_X4_join_b208 F rc46 X1 r o (nI st) (nI A.length) (nI E.length) (nI n) (nI m) (nI (n + m)) (nI (st + A.length * n)) (nI ot) (nI (R ++ matL val (A.getD i []) E).length) (nI i) = rc46 Y r o (nI st) (nI A.length) (nI E.length) (nI n) (nI m) (nI (n + m)) (nI (st + A.length * n)) (nI ot) (nI (R ++ joX ou val m (A.getD i []) E).length) (nI (i + 1)) ∧ JST c ar B st n m ot A E (R ++ joX ou val m (A.getD i []) E) cs Y := fun e => by
    unfold c_X4_join_b208
    rw [nI_1, e]
    exact ⟨X1, rfl, h1⟩
  rw [c_X4_join_L59, if_pos (nI_le (Nat.le_refl _) (by omega)), gI_ok jn1.e, ob_s]
  by_cases q : kI X1 231 o = 0
  · rw [if_pos q]
    refine go ?_
    unfold joX
    have no : ¬ ou = true := fun w => (jn1.ou'.mp w) q
    by_cases z : matL val (A.getD i []) E = []
    · rw [if_pos z, if_neg no, z]
    · rw [if_neg z]
  · rw [if_neg q]
    have yes : ou = true := jn1.ou'.mpr q
    by_cases z : matL val (A.getD i []) E = []
    · have e2 : joX ou val m (A.getD i []) E = [nulR (A.getD i []) m] := by
        unfold joX
        rw [if_pos z, if_pos yes]
      rw [z, List.append_nil] at h1 ⊢
      have ln := h1.fr.ln
      have q1 : (R.length + 1) * (n + m) ≤ M * (n + m) := Nat.mul_le_mul_right _ (by omega)
      rw [Nat.succ_mul] at q1
      have rowA : rwC X1 ar (st + i * n) n = A.getD i [] := by
        rw [← hA.row hi]
        exact rwC_eq (fun k hk => h1.fr.ce _ (by omega) (by omega))
      obtain ⟨to, hto⟩ : ∃ z, z = ot + R.length * (n + m) := ⟨_, rfl⟩
      obtain ⟨X2, e3, s3, b3, v3, w3, -, f3⟩ := scopy_ok (F := F) (fr := st + i * n) (to := to) (n := n) hs hB (by omega) (by omega) (by omega)
      have g3 := f3 c to (Nat.le_refl _)
      have rn2 := rn1.cf g3.cf
      obtain ⟨X3, e4, s4, f4, v4⟩ := cblank_ok (F := F) (fr := to + n) (m := m) hF hB rn2 (by omega) (by omega) s3
      rw [if_pos rfl, gR_ok rn1.o, rn1.sp, ob_s, ob_s, ckE_ok hs.st.o, ob_s, pk_mul, nI_add, pk_mul, nI_add, ← hto, e3, ob_s]
      unfold c_X4_join_b194 c_X4_join_b205 c_X4_join_b208
      rw [ckE_ok rn2.o, ob_s, nI_add, e4, ob_s, nI_1, nI_1, e2]
      have g34 : STF c ar to X1 X3 := g3.trans f4 (by omega)
      have row3 : rwC X3 ar to (n + m) = nulR (A.getD i []) m := by
        unfold nulR
        rw [rwC_add, ← rowA]
        refine congr (congrArg _ (rwC_eq (fun k hk => (f4.ce _ (by omega) (by omega)).trans (v3 k hk)))) ?_
        rw [row_of (f := fun _ => none) (fun t ht => (v4 t ht).2), List.map_const', List.length_range]
      have R3 := (h1.rw'.stf g34 (by omega)).snoc (L := nulR (A.getD i []) m) (by
        rw [← hto]
        by_cases m0 : m = 0
        · have := f4.ln
          omega
        · have := (v4 (m - 1) (by omega)).1
          omega) (by rw [← hto]; exact row3)
      have l3 : R.length + 1 = (R ++ [nulR (A.getD i []) m]).length := by rw [List.length_append]; rfl
      rw [l3]
      exact ⟨X3, rfl, s4, h1.fr.trans g34 (by omega), R3⟩
    · have lp : 0 < (matL val (A.getD i []) E).length := List.length_pos_iff.mpr z
      rw [if_neg (fun w => by have := (nI_eq (by omega) (by omega)).mp w; omega)]
      refine go ?_
      unfold joX
      rw [if_neg z]
theorem joX_le {ou : Bool} {val : List OV → OV} {m : Nat} {x : List OV} {E : LL} : (joX ou val m x E).length ≤ one1 E.length := by
  have o1 := one1_le E.length
  have ml : (matL val x E).length ≤ E.length := by
    unfold matL
    have := List.length_filter_le (fun L => tr1 (val L) == 1) (E.map (fun y => x ++ y))
    rw [List.length_map] at this
    exact this
  unfold joX
  by_cases z : matL val x E = []
  · rw [if_pos z]
    by_cases y : ou = true
    · rw [if_pos y]
      show 1 ≤ _
      omega
    · rw [if_neg y]
      show 0 ≤ _
      omega
  · rw [if_neg z]
    omega
theorem flat_le {f : List OV → LL} {q : Nat} (h : ∀ x, (f x).length ≤ q) : ∀ (l : LL), (l.flatMap f).length ≤ l.length * q
  | [] => Nat.zero_le _
  | x :: l => by
    rw [List.flatMap_cons, List.length_append, List.length_cons, Nat.succ_mul]
    have := flat_le h l
    have := h x
    omega
theorem cjoin_L {F r c ar B o st n m ot M : Nat} {ou : Bool} {τ : RPR} {val : List OV → OV} {A E : LL} {cs : CS} (hF : 10000 ≤ F) (hB : B ≤ 400000) (hnm : n + m ≤ 100) (hm : A.length ≤ 600) (hm2 : E.length ≤ 600) (rn : RUN r c ar cs) (ty : ∀ x y, x ∈ A → y ∈ E → τ (x ++ y)) (jn : JNC F c ar o n m ou τ val cs) (hA : RWS ar st n A cs) (hE : RWS ar (st + A.length * n) m E cs) (hot : ot = st + A.length * n + E.length * m) (hM : ot + M * (n + m) ≤ B) (hMM : M ≤ 100000) (hq : A.length * one1 E.length + 602 ≤ M) : ∀ (d i u : Nat) (X : CS), A.length = i + d → d < u → JST c ar B st n m ot A E ((A.take i).flatMap (fun x => joX ou val m x E)) cs X → CRO c ar B st (n + m) (A.flatMap (fun x => joX ou val m x E)) cs (c_X4_join_L46 F u X r o (nI st) (nI A.length) (nI E.length) (nI n) (nI m) (nI (n + m)) (nI (st + A.length * n)) (nI ot) (nI ((A.take i).flatMap (fun x => joX ou val m x E)).length) (nI i)) := by
  intro d
  induction d with
  | zero =>
    intro i u X d1 d2 h
    obtain ⟨u, rfl⟩ : ∃ z, u = z + 1 := ⟨u - 1, by omega⟩
    have rn1 := rn.cf h.fr.cf
    have hs := h.st'
    have e0 : A.take i = A := List.take_of_length_le (by omega)
    rw [e0] at h ⊢
    have fl := flat_le (f := fun x => joX ou val m x E) (q := one1 E.length) (fun x => joX_le) A
    have q1 : (A.flatMap (fun x => joX ou val m x E)).length * (n + m) ≤ M * (n + m) := Nat.mul_le_mul_right _ (by omega)
    obtain ⟨Y, e1, s1, b1, v1, w1, -, f1⟩ := scopy_ok (F := F) (fr := ot) (to := st) (n := (A.flatMap (fun x => joX ou val m x E)).length * (n + m)) hs hB h.rw'.bd (by omega) (by omega)
    rw [c_X4_join_L46, if_pos (nI_le (by omega) (by omega)), gR_ok rn1.o, rn1.sp, ob_s, ob_s, ckE_ok hs.st.o, ob_s, pk_mul, e1, ob_s]
    exact ⟨Y, rfl, s1, h.rw'.cp b1 v1, (h.fr.mono (by omega)).trans (f1 c st (Nat.le_refl _)) (Nat.le_refl _)⟩
  | succ d ih =>
    intro i u X d1 d2 h
    obtain ⟨u, rfl⟩ : ∃ z, u = z + 1 := ⟨u - 1, by omega⟩
    have hi : i < A.length := by omega
    have fl := flat_le (f := fun x => joX ou val m x E) (q := one1 E.length) (fun x => joX_le) (A.take i)
    have q1 : (A.take i).length * one1 E.length ≤ A.length * one1 E.length := Nat.mul_le_mul_right _ (by rw [List.length_take]; omega)
    obtain ⟨Y, e1, h1⟩ := cjone (F := F) (r := r) (rc46 := c_X4_join_L46 F u) hF hB hnm hm2 hi rn ty jn hA hE hot hM hMM (by omega) h
    rw [c_X4_join_L46, if_neg (nI_ge (by omega) (by omega)), e1]
    have e4 : (A.take i).flatMap (fun x => joX ou val m x E) ++ joX ou val m (A.getD i []) E = (A.take (i + 1)).flatMap (fun x => joX ou val m x E) := by
      rw [take_get hi, List.flatMap_append, List.flatMap_singleton]
    rw [e4] at h1 ⊢
    exact ih (i + 1) u Y (by omega) (by omega) h1
theorem cjoin_ok {F r c ar B o st n m M : Nat} {ou : Bool} {τ : RPR} {val : List OV → OV} {A E : LL} {cs : CS} (hF : 10000 ≤ F) (hB : B ≤ 400000) (hnm : n + m ≤ 100) (hm : A.length ≤ 600) (hm2 : E.length ≤ 600) (rn : RUN r c ar cs) (ty : ∀ x y, x ∈ A → y ∈ E → τ (x ++ y)) (jn : JNC F c ar o n m ou τ val cs) (hs : STS ar B cs) (hA : RWS ar st n A cs) (hE : RWS ar (st + A.length * n) m E cs) (hM : st + A.length * n + E.length * m + M * (n + m) ≤ B) (hMM : M ≤ 100000) (hq : A.length * one1 E.length + 602 ≤ M) : CRO c ar B st (n + m) (A.flatMap (fun x => joX ou val m x E)) cs (c_X4_join F cs r o (nI st) (nI A.length) (nI E.length)) := by
  obtain ⟨cl, k1, k2⟩ := jn.cl
  unfold c_X4_join
  rw [gI_ok jn.e, ob_s, jn.s, gR_ok jn.e, ob_s, k1, ob_s, gI_ok k2.e, ob_s, k2.sz, pk_mul, nI_add, pk_mul, nI_add, nI_add]
  exact cjoin_L hF hB hnm hm hm2 rn ty jn hA hE rfl hM hMM hq A.length 0 F cs (by omega) (by omega) ⟨hs, STF.refl, RWS.nil hE.bd⟩

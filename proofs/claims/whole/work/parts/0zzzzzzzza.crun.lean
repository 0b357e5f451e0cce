/-! the class's runs: what stands; rows thinned out in their place -/
def CFR (c ar : Nat) (cs cs' : CS) : Prop := (EM cs cs') ∧ (∀ x j, ¬ (j = ar ∧ 288 ≤ x ∧ x ≤ 291) → ¬ (j = c ∧ 74 ≤ x ∧ x ≤ 76) → AT cs cs' x j) ∧ (∀ x j, ¬ (j = ar ∧ 288 ≤ x ∧ x ≤ 291) → kP cs' x j = kP cs x j ∧ kL cs' x j = kL cs x j)
theorem CFR.em {c ar : Nat} {cs cs' : CS} (h : CFR c ar cs cs') : EM cs cs' := h.1
theorem CFR.fr {c ar : Nat} {cs cs' : CS} (h : CFR c ar cs cs') : ∀ x j, ¬ (j = ar ∧ 288 ≤ x ∧ x ≤ 291) → ¬ (j = c ∧ 74 ≤ x ∧ x ≤ 76) → AT cs cs' x j := h.2.1
theorem CFR.pl {c ar : Nat} {cs cs' : CS} (h : CFR c ar cs cs') : ∀ x j, ¬ (j = ar ∧ 288 ≤ x ∧ x ≤ 291) → kP cs' x j = kP cs x j ∧ kL cs' x j = kL cs x j := h.2.2
theorem CFR.refl {c ar : Nat} {cs : CS} : CFR c ar cs cs := ⟨EM.refl, fun _ _ _ _ => AT.refl, fun _ _ _ => ⟨rfl, rfl⟩⟩
theorem CFR.trans {c ar : Nat} {a b d : CS} (h : CFR c ar a b) (g : CFR c ar b d) : CFR c ar a d := ⟨h.em.trans g.em, fun x j h1 h2 => (h.fr x j h1 h2).trans (g.fr x j h1 h2), fun x j h1 => ⟨(g.pl x j h1).1.trans (h.pl x j h1).1, (g.pl x j h1).2.trans (h.pl x j h1).2⟩⟩
theorem STF.cf {c ar m : Nat} {a b : CS} (h : STF c ar m a b) : CFR c ar a b := ⟨h.em, h.fr, h.pl⟩
/-- a runner with its code and its strip -/
def RUN (r c ar : Nat) (cs : CS) : Prop := ((5, r) ∈ kE cs) ∧ ((2, c) ∈ kE cs) ∧ (kR cs 161 r = some c) ∧ (kR cs 162 r = some ar)
theorem RUN.o {r c ar : Nat} {cs : CS} (h : RUN r c ar cs) : (5, r) ∈ kE cs := h.1
theorem RUN.oc {r c ar : Nat} {cs : CS} (h : RUN r c ar cs) : (2, c) ∈ kE cs := h.2.1
theorem RUN.cd {r c ar : Nat} {cs : CS} (h : RUN r c ar cs) : kR cs 161 r = some c := h.2.2.1
theorem RUN.sp {r c ar : Nat} {cs : CS} (h : RUN r c ar cs) : kR cs 162 r = some ar := h.2.2.2
theorem RUN.cf {r c ar : Nat} {a b : CS} (h : RUN r c ar a) (g : CFR c ar a b) : RUN r c ar b := ⟨g.em _ h.o, g.em _ h.oc, by rw [(g.fr 161 r (by omega) (by omega)).r]; exact h.cd, by rw [(g.fr 162 r (by omega) (by omega)).r]; exact h.sp⟩
/-- what rows are like -/
abbrev RPR : Type := List OV → Prop
/-- an EXPR's value over rows of w cells, as the class computes it -/
def EXC (F c ar w e : Nat) (τ : RPR) (val : List OV → OV) (cs : CS) : Prop := ∀ (X : CS) (base n : Nat), CFR c ar cs X → STR ar n X → base + w ≤ n → τ (rwC X ar base w) → ∃ X', c_X1_compute F X c (nI e) ar (nI base) = some (X', if tr1 (val (rwC X ar base w)) = 1 then 1 else 0) ∧ EVF c X X' ∧ c_X1_resultValue F X' c = some (vl (val (rwC X ar base w))) ∧ c_X1_resultBlank F X' c = some (fl (val (rwC X ar base w)))
theorem EXC.cf {F c ar w e : Nat} {τ : RPR} {val : List OV → OV} {a b : CS} (h : EXC F c ar w e τ val a) (g : CFR c ar a b) : EXC F c ar w e τ val b := fun X base n h1 => h X base n (g.trans h1)
theorem fl_vl (x : OV) : (fl x = 0 ∧ x = some (vl x)) ∨ (fl x = 1 ∧ x = none) := by
  cases x with
  | none => exact Or.inr ⟨rfl, rfl⟩
  | some v => exact Or.inl ⟨rfl, rfl⟩
/-- rows thinned out: A is given, K is kept so far, i rows are seen -/
def CPI (ar st w i : Nat) (A K : LL) (X : CS) : Prop := (RWS ar st w K X) ∧ (K.length ≤ i) ∧ (st + A.length * w ≤ kL X 288 ar) ∧ (∀ j, i ≤ j → j < A.length → rwC X ar (st + j * w) w = A.getD j [])
theorem CPI.kp {ar st w i : Nat} {A K : LL} {X : CS} (h : CPI ar st w i A K X) : RWS ar st w K X := h.1
theorem CPI.ki {ar st w i : Nat} {A K : LL} {X : CS} (h : CPI ar st w i A K X) : K.length ≤ i := h.2.1
theorem CPI.bd {ar st w i : Nat} {A K : LL} {X : CS} (h : CPI ar st w i A K X) : st + A.length * w ≤ kL X 288 ar := h.2.2.1
theorem CPI.rs {ar st w i : Nat} {A K : LL} {X : CS} (h : CPI ar st w i A K X) : ∀ j, i ≤ j → j < A.length → rwC X ar (st + j * w) w = A.getD j [] := h.2.2.2
theorem CPI.start {ar st w : Nat} {A : LL} {X : CS} (h : RWS ar st w A X) : CPI ar st w 0 A [] X := ⟨RWS.nil (by have := h.bd; omega), Nat.le_refl _, h.bd, fun j _ hj => h.row hj⟩
theorem CPI.skip {ar st w i : Nat} {A K : LL} {X : CS} (h : CPI ar st w i A K X) : CPI ar st w (i + 1) A K X := ⟨h.kp, Nat.le_succ_of_le h.ki, h.bd, fun j h1 h2 => h.rs j (by omega) h2⟩
theorem CPI.mv {ar st w i : Nat} {A K : LL} {X Y : CS} (h : CPI ar st w i A K X) (hk : K.length ≤ A.length) (ln : kL X 288 ar ≤ kL Y 288 ar) (e : ∀ k, k < st + A.length * w → sv Y ar k = sv X ar k) : CPI ar st w i A K Y := by
  have hm : K.length * w ≤ A.length * w := Nat.mul_le_mul_right w hk
  refine ⟨h.kp.mv ln (fun k _ h2 => e k (by omega)), h.ki, Nat.le_trans h.bd ln, fun j h1 h2 => Eq.trans (rwC_eq (fun k hk => e _ ?_)) (h.rs j h1 h2)⟩
  have := (in_row (p := st) h2 hk).1
  omega
theorem CPI.keep {F B ar st w i : Nat} {A K : LL} {X : CS} (h : CPI ar st w i A K X) (s : STS ar B X) (hB : B ≤ 400000) (hb : st + A.length * w ≤ B) (hi : i < A.length) : ∃ Y, c_X8_copy F X ar (nI (st + i * w)) (nI (st + K.length * w)) (nI w) = some Y ∧ STS ar B Y ∧ CPI ar st w (i + 1) A (K ++ [A.getD i []]) Y ∧ (∀ k, st + A.length * w ≤ k → k < kL X 288 ar → sv Y ar k = sv X ar k) ∧ ∀ c m, m ≤ st → STF c ar m X Y := by
  have ki := h.ki
  have bd := h.bd
  have r1 := row_le (p := st) (w := w) hi
  have r2 : K.length * w ≤ i * w := Nat.mul_le_mul_right w ki
  obtain ⟨Y, e1, s1, b1, v1, v2, -, f1⟩ := scopy_ok (F := F) (fr := st + i * w) (to := st + K.length * w) (n := w) s hB (by omega) (by omega) (by omega)
  have ln := (f1 0 0 (by omega)).ln
  refine ⟨Y, e1, s1, ⟨?_, ?_, by omega, fun j h1 h2 => ?_⟩, fun k h1 h2 => v2 k (by omega) h2, fun c m hm => f1 c m (by omega)⟩
  · refine RWS.snoc (h.kp.stf (f1 0 (st + K.length * w) (Nat.le_refl _)) (Nat.le_refl _)) b1 ?_
    rw [← h.rs i (Nat.le_refl _) hi]
    exact rwC_eq v1
  · rw [List.length_append]
    show K.length + 1 ≤ i + 1
    omega
  · rw [← h.rs j (by omega) h2]
    have r3 := row_le (p := st) (w := w) h2
    have r4 : (i + 1) * w ≤ j * w := Nat.mul_le_mul_right w h1
    rw [Nat.succ_mul] at r4
    exact rwC_eq (fun k hk => v2 _ (by omega) (by omega))
theorem get_mem {S : LL} {i : Nat} (h : i < S.length) : S.getD i [] ∈ S := by
  rw [List.getD_eq_getElem?_getD, List.getElem?_eq_getElem h]
  exact List.getElem_mem h
theorem take_get {A : LL} {i : Nat} (h : i < A.length) : A.take (i + 1) = A.take i ++ [A.getD i []] := by
  rw [List.take_add_one, List.getD_eq_getElem?_getD, List.getElem?_eq_getElem h]
  rfl
theorem filt_le {A : LL} {p : List OV → Bool} {i : Nat} (hi : i ≤ A.length) : ((A.take i).filter p).length ≤ A.length := by
  have h1 := List.length_filter_le p (A.take i)
  rw [List.length_take] at h1
  omega
theorem cfilt_L {F r c ar B e st w : Nat} {τ : RPR} {val : List OV → OV} {A : LL} {cs : CS} (ty : ∀ L, L ∈ A → τ L) (hB : B ≤ 400000) (hb : st + A.length * w ≤ B) (hm : A.length ≤ 600) (hw : w ≤ 100) (rn : RUN r c ar cs) (ex : EXC F c ar w e τ val cs) : ∀ (d i u : Nat) (X : CS), A.length = i + d → d < u → STS ar B X → STF c ar st cs X → CPI ar st w i A ((A.take i).filter (fun L => tr1 (val L) == 1)) X → ∃ Y, c_X4_filter_L12 F u X r (nI e) (nI st) (nI A.length) (nI w) (nI ((A.take i).filter (fun L => tr1 (val L) == 1)).length) (nI i) = some (Y, nI (A.filter (fun L => tr1 (val L) == 1)).length) ∧ STS ar B Y ∧ RWS ar st w (A.filter (fun L => tr1 (val L) == 1)) Y ∧ STF c ar st cs Y := by
  intro d
  induction d with
  | zero =>
    intro i u X d1 d2 hs hf hc
    obtain ⟨u, rfl⟩ : ∃ z, u = z + 1 := ⟨u - 1, by omega⟩
    rw [c_X4_filter_L12, if_pos (nI_le (by omega) (by omega))]
    have e0 : A.take i = A := List.take_of_length_le (by omega)
    have kp := hc.kp
    rw [e0] at kp ⊢
    exact ⟨X, rfl, hs, kp, hf⟩
  | succ d ih =>
    intro i u X d1 d2 hs hf hc
    obtain ⟨u, rfl⟩ : ∃ z, u = z + 1 := ⟨u - 1, by omega⟩
    have rn1 := rn.cf hf.cf
    have hi : i < A.length := by omega
    have rl := row_le (p := st) (w := w) hi
    have bd := hc.bd
    have row := hc.rs i (Nat.le_refl _) hi
    obtain ⟨X1, e1, f1, -, -⟩ := ex X (st + i * w) _ hf.cf hs.st (by omega) (by rw [row]; exact ty _ (get_mem hi))
    have g1 : STF c ar (st + A.length * w) X X1 := f1.stf
    have rn2 := rn1.cf g1.cf
    have s2 := hs.evf f1
    have fx : STF c ar st cs X1 := hf.trans g1 (by omega)
    have c1 := hc.mv (Y := X1) (filt_le (by omega)) g1.ln (fun k hk => g1.ce k hk (by omega))
    rw [row] at e1
    rw [c_X4_filter_L12, if_neg (nI_ge (by omega) (by omega)), gR_ok rn1.o, rn1.cd, ob_s, gR_ok rn1.o, rn1.sp, ob_s, ob_s, ob_s, ckE_ok rn1.oc, ob_s, pk_mul, nI_add, e1, ob_s]
    by_cases q : tr1 (val (A.getD i [])) = 1
    · rw [if_pos q, if_neg (show ¬ (1 : Int32) = 0 by decide), gR_ok rn2.o, rn2.sp, ob_s, ob_s, ckE_ok s2.st.o, ob_s, pk_mul, nI_add]
      obtain ⟨Y, e2, s3, c3, -, f3⟩ := c1.keep (F := F) s2 hB hb hi
      rw [e2, ob_s]
      unfold c_X4_filter_b63 c_X4_filter_b66
      rw [nI_1, nI_1]
      have e3 : (A.take (i + 1)).filter (fun L => tr1 (val L) == 1) = (A.take i).filter (fun L => tr1 (val L) == 1) ++ [A.getD i []] := by
        rw [take_get hi, List.filter_append, List.filter_cons_of_pos (by rw [beq_iff_eq]; exact q), List.filter_nil]
      have e4 : ((A.take i).filter (fun L => tr1 (val L) == 1)).length + 1 = ((A.take (i + 1)).filter (fun L => tr1 (val L) == 1)).length := by rw [e3, List.length_append]; rfl
      rw [← e3] at c3
      rw [e4]
      exact ih (i + 1) u Y (by omega) (by omega) s3 (fx.trans (f3 c st (Nat.le_refl _)) (Nat.le_refl _)) c3
    · rw [if_neg q, if_pos rfl]
      unfold c_X4_filter_b66
      rw [nI_1]
      have e3 : (A.take (i + 1)).filter (fun L => tr1 (val L) == 1) = (A.take i).filter (fun L => tr1 (val L) == 1) := by
        rw [take_get hi, List.filter_append, List.filter_cons_of_neg (by rw [beq_iff_eq]; exact q), List.filter_nil, List.append_nil]
      have c2 := c1.skip
      rw [← e3] at c2
      rw [← e3]
      exact ih (i + 1) u X1 (by omega) (by omega) s2 fx c2
/-- what a step of a run comes to: rows at st -/
def CRO (c ar B st w : Nat) (rows : LL) (cs : CS) (res : Option (CS × Int32)) : Prop := ∃ cs', res = some (cs', nI rows.length) ∧ STS ar B cs' ∧ RWS ar st w rows cs' ∧ STF c ar st cs cs'
theorem cfilt_ok {F r c ar B e st w : Nat} {τ : RPR} {val : List OV → OV} {A : LL} {cs : CS} (ty : ∀ L, L ∈ A → τ L) (hF : 10000 ≤ F) (hB : B ≤ 400000) (hb : st + A.length * w ≤ B) (hm : A.length ≤ 600) (hw : w ≤ 100) (he : e < 200) (rn : RUN r c ar cs) (ex : EXC F c ar w e τ val cs) (h : STS ar B cs) (hr : RWS ar st w A cs) : CRO c ar B st w (A.filter (fun L => tr1 (val L) == 1)) cs (c_X4_filter F cs r (nI e) (nI st) (nI A.length) (nI w)) := by
  unfold c_X4_filter
  rw [if_pos (nI_pos' (by omega))]
  exact cfilt_L ty hB hb hm hw rn ex A.length 0 F cs (by omega) (by omega) h STF.refl (CPI.start hr)
/-- each of rows side by side once -/
def adjS (K : LL) (x : List OV) : LL := if K.getLast? = some x then K else K ++ [x]
theorem last_get {K : LL} (h : K ≠ []) : K.getLast? = some (K.getD (K.length - 1) []) := by
  have hl : 0 < K.length := List.length_pos_iff.mpr h
  rw [List.getLast?_eq_getElem?, List.getD_eq_getElem?_getD, List.getElem?_eq_getElem (by omega)]
  rfl
theorem adj_le : ∀ (l K : LL), (l.foldl adjS K).length ≤ K.length + l.length
  | [], K => Nat.le_refl _
  | x :: l, K => by
    refine Nat.le_trans (adj_le l (adjS K x)) ?_
    have : (adjS K x).length ≤ K.length + 1 := by
      unfold adjS
      by_cases q : K.getLast? = some x
      · rw [if_pos q]; omega
      · rw [if_neg q, List.length_append]; exact Nat.le_refl _
    show (adjS K x).length + l.length ≤ K.length + (l.length + 1)
    omega
theorem conce_L {F c ar B st w : Nat} {A : LL} {cs : CS} (hF : 10000 ≤ F) (hB : B ≤ 400000) (hb : st + A.length * w ≤ B) (hm : A.length ≤ 600) (hw : w ≤ 100) (wd : ∀ L, L ∈ A → L.length = w) : ∀ (d i u : Nat) (X : CS), A.length = i + d → d < u → STS ar B X → STF c ar st cs X → CPI ar st w i A ((A.take i).foldl adjS []) X → ∃ Y, c_X8_once_L6 F u X ar (nI st) (nI A.length) (nI w) (nI ((A.take i).foldl adjS []).length) (nI i) = some (Y, nI (A.foldl adjS []).length) ∧ STS ar B Y ∧ RWS ar st w (A.foldl adjS []) Y ∧ STF c ar st cs Y := by
  intro d
  induction d with
  | zero =>
    intro i u X d1 d2 hs hf hc
    obtain ⟨u, rfl⟩ : ∃ z, u = z + 1 := ⟨u - 1, by omega⟩
    rw [c_X8_once_L6, if_pos (nI_le (by omega) (by omega))]
    have e0 : A.take i = A := List.take_of_length_le (by omega)
    have kp := hc.kp
    rw [e0] at kp ⊢
    exact ⟨X, rfl, hs, kp, hf⟩
  | succ d ih =>
    intro i u X d1 d2 hs hf hc
    obtain ⟨u, rfl⟩ : ∃ z, u = z + 1 := ⟨u - 1, by omega⟩
    have hi : i < A.length := by omega
    have rl := row_le (p := st) (w := w) hi
    have bd := hc.bd
    have ki := hc.ki
    have row := hc.rs i (Nat.le_refl _) hi
    obtain ⟨K, hK⟩ : ∃ z, z = (A.take i).foldl adjS [] := ⟨_, rfl⟩
    have e0 : (A.take (i + 1)).foldl adjS [] = adjS K (A.getD i []) := by rw [take_get hi, List.foldl_append, ← hK]; rfl
    rw [← hK] at hc ki ⊢
    have kp := hc.kp
    have keep : adjS K (A.getD i []) = K ++ [A.getD i []] → ∃ Y, c_X8_once_b49 F (c_X8_once_L6 F u) X ar (nI st) (nI A.length) (nI w) (nI K.length) (nI i) (nI st + (nI i * nI w)) = some (Y, nI (A.foldl adjS []).length) ∧ STS ar B Y ∧ RWS ar st w (A.foldl adjS []) Y ∧ STF c ar st cs Y := fun e1 => by
      obtain ⟨Y, e2, s3, c3, -, f3⟩ := hc.keep (F := F) hs hB hb hi
      unfold c_X8_once_b49 c_X8_once_b62 c_X8_once_b65
      rw [ckE_ok hs.st.o, ob_s, pk_mul, nI_add, pk_mul, nI_add, e2, ob_s, nI_1, nI_1]
      rw [← e1, ← e0] at c3
      have e4 : K.length + 1 = ((A.take (i + 1)).foldl adjS []).length := by rw [e0, e1, List.length_append]; rfl
      rw [e4]
      exact ih (i + 1) u Y (by omega) (by omega) s3 (hf.trans (f3 c st (Nat.le_refl _)) (Nat.le_refl _)) c3
    rw [c_X8_once_L6, if_neg (nI_ge (by omega) (by omega))]
    by_cases q : K = []
    · rw [if_pos (show nI K.length = 0 by rw [q]; rfl)]
      refine keep ?_
      unfold adjS
      rw [q, if_neg (fun w => by cases w)]
    · have kl : 0 < K.length := List.length_pos_iff.mpr q
      have rk := row_le (p := st) (w := w) (show K.length - 1 < K.length by omega)
      have kb := kp.bd
      have rw1 := kp.row (show K.length - 1 < K.length by omega)
      rw [if_neg (nI_ne0 kl (by omega)), ckE_ok hs.st.o, ob_s, nI_p1 (by omega), pk_mul, nI_add, pk_mul, nI_add, cmpC_ok hF hs.st hs.st hw (by omega) (by omega), ob_s, rw1, row]
      have mem1 : (K.getD (K.length - 1) []).length = w := by rw [← rw1]; exact rwC_len
      have mem2 : (A.getD i []).length = w := by rw [← row]; exact rwC_len
      have z0 := cmD_0 (dn := dnB 0) 0 (K.getD (K.length - 1) []) (A.getD i []) (by rw [mem1, mem2])
      by_cases z : K.getD (K.length - 1) [] = A.getD i []
      · rw [if_pos (z0.mpr z)]
        unfold c_X8_once_b65
        rw [nI_1]
        have e1 : adjS K (A.getD i []) = K := by
          unfold adjS
          rw [if_pos (by rw [last_get q, z])]
        have c2 := hc.skip
        rw [e1] at e0
        rw [← e0] at c2
        rw [← e0]
        exact ih (i + 1) u X (by omega) (by omega) hs hf c2
      · rw [if_neg (fun w => z (z0.mp w))]
        have e9 := keep (by
          unfold adjS
          rw [if_neg (by rw [last_get q]; exact fun w => z (Option.some.inj w))])
        rw [pk_mul, nI_add] at e9
        exact e9
theorem conce_ok {F c ar B st w : Nat} {A : LL} {cs : CS} (hF : 10000 ≤ F) (hB : B ≤ 400000) (hb : st + A.length * w ≤ B) (hm : A.length ≤ 600) (hw : w ≤ 100) (h : STS ar B cs) (hr : RWS ar st w A cs) : CRO c ar B st w (A.foldl adjS []) cs (c_X8_once F cs ar (nI st) (nI A.length) (nI w)) := conce_L hF hB hb hm hw hr.wd A.length 0 F cs (by omega) (by omega) h STF.refl (CPI.start hr)

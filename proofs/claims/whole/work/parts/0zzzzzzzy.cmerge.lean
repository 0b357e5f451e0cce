/-! the class merges runs of rows -/
theorem u2_nn {α : Type} {f : Nat → Nat → α} {t i t' i' x y : Nat} {v v' : α} (h : ¬ (x = t ∧ y = i)) (g : ¬ (x = t' ∧ y = i')) : u2 (u2 f t i v) t' i' v' x y = f x y := (u2_n g).trans (u2_n h)
theorem swx_l {ar : Nat} {cs : CS} : kL (sw cs ar) 290 ar = kL cs 291 ar := by
  show u2 (u2 (kL cs) 290 ar (kL cs 291 ar)) 291 ar (kL cs 290 ar) 290 ar = _
  rw [u2_n (by omega), u2_s]
theorem swx_p {ar : Nat} {cs : CS} : kP (sw cs ar) 290 ar = kP cs 291 ar := by
  show u2 (u2 (kP cs) 290 ar (kP cs 291 ar)) 291 ar (kP cs 290 ar) 290 ar = _
  rw [u2_n (by omega), u2_s]
theorem swx_a {ar : Nat} {cs : CS} : kA (sw cs ar) 290 ar = kA cs 291 ar := by
  show u2 (u2 (kA cs) 290 ar (kA cs 291 ar)) 291 ar (kA cs 290 ar) 290 ar = _
  rw [u2_n (by omega), u2_s]
theorem STS.gen {ar B : Nat} {a b : CS} (h : STS ar B a) (em : EM a b) (g8 : AT a b 288 ar) (g9 : AT a b 289 ar) (p10 : ∃ j, kP b 290 ar = some j) (p11 : ∃ j, kP b 291 ar = some j) (l11 : kL b 291 ar = kL b 290 ar) (o8 : 8 ≤ kL b 290 ar) (oh : kL b 290 ar ≤ 1200) : STS ar B b :=
  ⟨by rw [g8.l]; exact h.st.at' em g8 g9, by rw [g8.l]; exact h.lo, by rw [g8.l]; exact h.hi, em _ h.e10, p10, em _ h.e11, p11, l11, o8, oh⟩
theorem STS.sa {ar B t x : Nat} {v : Int32} {cs : CS} (h : STS ar B cs) (ht : t = 290 ∨ t = 291) : STS ar B (sA cs t ar x v) := by
  have g8 : AT cs (sA cs t ar x v) 288 ar := AT.sA (by omega)
  have g9 : AT cs (sA cs t ar x v) 289 ar := AT.sA (by omega)
  exact h.gen (EM.of rfl) g8 g9 h.p10 h.p11 h.l11 h.o8 h.oh
theorem STS.tw {ar B : Nat} {cs : CS} (h : STS ar B cs) : STS ar B (sw cs ar) := by
  have g : ∀ x, x = 288 ∨ x = 289 → AT cs (sw cs ar) x ar := fun x hx => ⟨rfl, rfl, rfl, u2_nn (by omega) (by omega), u2_nn (by omega) (by omega), rfl, rfl, u2_nn (by omega) (by omega)⟩
  obtain ⟨j0, h0⟩ := h.p10
  obtain ⟨j1, h1⟩ := h.p11
  have k0 : kL (sw cs ar) 290 ar = kL cs 291 ar := swx_l
  have k1 : kL (sw cs ar) 291 ar = kL cs 290 ar := u2_s
  have l11 := h.l11
  have o8 := h.o8
  have oh := h.oh
  exact h.gen (EM.of rfl) (g 288 (by omega)) (g 289 (by omega)) ⟨j1, Eq.trans swx_p h1⟩ ⟨j0, Eq.trans u2_s h0⟩ (by omega) (by omega) (by omega)
/-- what ordering writes: the arrays of places alone -/
def OFR (ar : Nat) (cs cs' : CS) : Prop := (cs'.1 = cs.1) ∧ (∀ x j, ¬ (j = ar ∧ (x = 290 ∨ x = 291)) → AT cs cs' x j) ∧ (kL cs' 290 ar = kL cs 290 ar)
theorem OFR.e1 {ar : Nat} {cs cs' : CS} (h : OFR ar cs cs') : cs'.1 = cs.1 := h.1
theorem OFR.at' {ar : Nat} {cs cs' : CS} (h : OFR ar cs cs') : ∀ x j, ¬ (j = ar ∧ (x = 290 ∨ x = 291)) → AT cs cs' x j := h.2.1
theorem OFR.l0 {ar : Nat} {cs cs' : CS} (h : OFR ar cs cs') : kL cs' 290 ar = kL cs 290 ar := h.2.2
theorem OFR.refl {ar : Nat} {a : CS} : OFR ar a a := ⟨rfl, fun _ _ _ => AT.refl, rfl⟩
theorem OFR.trans {ar : Nat} {a b d : CS} (h : OFR ar a b) (g : OFR ar b d) : OFR ar a d := ⟨g.e1.trans h.e1, fun x j hx => (h.at' x j hx).trans (g.at' x j hx), g.l0.trans h.l0⟩
theorem OFR.sa {ar t x : Nat} {v : Int32} {cs : CS} (ht : t = 290 ∨ t = 291) : OFR ar cs (sA cs t ar x v) := ⟨rfl, fun _ _ hx => AT.sA (by omega), rfl⟩
theorem OFR.tw {ar : Nat} {cs : CS} (l11 : kL cs 291 ar = kL cs 290 ar) : OFR ar cs (sw cs ar) := ⟨rfl, fun x j hx => ⟨rfl, rfl, rfl, u2_nn (by omega) (by omega), u2_nn (by omega) (by omega), rfl, rfl, u2_nn (by omega) (by omega)⟩, Eq.trans swx_l l11⟩
theorem OFR.cel {ar i : Nat} {a b : CS} (h : OFR ar a b) : sv b ar i = sv a ar i := sv.at' (h.at' 288 ar (by omega)) (h.at' 289 ar (by omega))
theorem OFR.l8 {ar : Nat} {a b : CS} (h : OFR ar a b) : kL b 288 ar = kL a 288 ar := (h.at' 288 ar (by omega)).l
theorem OFR.rw' {ar p w : Nat} {a b : CS} (h : OFR ar a b) : rwC b ar p w = rwC a ar p w := rwC_eq (fun _ _ => h.cel)
theorem OFR.stf {c ar m : Nat} {a b : CS} (h : OFR ar a b) : STF c ar m a b := by
  have em : EM a b := EM.of (congrArg (fun z => z.2.2) h.e1)
  have e2 : kK b = kK a := congrArg (fun z => z.1) h.e1
  have e3 : kM b = kM a := congrArg (fun z => z.2.1) h.e1
  have l8 := h.l8
  have l0 := h.l0
  exact ⟨em, fun x j h1 _ => h.at' x j (by omega), fun x j h1 => ⟨(h.at' x j (by omega)).p, (h.at' x j (by omega)).l⟩, Nat.le_of_eq l8.symm, Nat.le_of_eq l0.symm, fun i _ _ => h.cel, by omega, by omega⟩
theorem snocD {P : List Nat} {x k : Nat} (h : k < P.length) : (P ++ [x]).getD k 0 = P.getD k 0 := by
  rw [List.getD_eq_getElem?_getD, List.getD_eq_getElem?_getD, List.getElem?_append_left h]
theorem snocL {P : List Nat} {x : Nat} : (P ++ [x]).getD P.length 0 = x := by
  rw [List.getD_eq_getElem?_getD, List.getElem?_concat_length]
  rfl
/-- places in order -/
def leP (R : Nat → List OV) (down : Int32) (a b : Nat) : Bool := !(lexI (kdI (dnB down) 0 (R b)) (kdI (dnB down) 0 (R a)))
theorem leP_tr {R : Nat → List OV} {down : Int32} (a b d : Nat) (h : leP R down a b = true) (g : leP R down b d = true) : leP R down a d = true := by
  unfold leP at h g ⊢
  rw [Bool.not_eq_true'] at h g ⊢
  exact lex_le h g
theorem leP_to {R : Nat → List OV} {down : Int32} (a b : Nat) : (leP R down a b || leP R down b a) = true := by
  unfold leP
  cases e1 : lexI (kdI (dnB down) 0 (R b)) (kdI (dnB down) 0 (R a)) with
  | false => rfl
  | true =>
    cases e2 : lexI (kdI (dnB down) 0 (R a)) (kdI (dnB down) 0 (R b)) with
    | false => rfl
    | true =>
      have e3 := lex_tr _ _ _ e1 e2
      rw [lex_ir] at e3
      cases e3
theorem mr_98 {F ar B to i j : Nat} {u1 u2 u3 u4 u6 u7 u8 : Int32} {rc6 : CS → Nat → Int32 → Int32 → Int32 → Int32 → Int32 → Int32 → Option CS} {rc42 : CS → Nat → Int32 → Int32 → Int32 → Int32 → Int32 → Int32 → Int32 → Int32 → Int32 → Int32 → Option CS} {cs : CS} (h : STS ar B cs) (ht : to < kL cs 290 ar) (hj : j < kL cs 290 ar) : c_X8_mergeRuns_b98 F rc6 rc42 cs ar u1 u2 u3 u4 (nI to) u6 u7 u8 (nI i) (nI j) = rc42 (sA cs 291 ar to (kA cs 290 ar j)) ar u1 u2 u3 u4 (nI (to + 1)) u6 u7 u8 (nI i) (nI (j + 1)) := by
  obtain ⟨j0, h0⟩ := h.p10
  obtain ⟨j1, h1⟩ := h.p11
  have oh := h.oh
  unfold c_X8_mergeRuns_b98 c_X8_mergeRuns_b103 c_X8_mergeRuns_b133 c_X8_mergeRuns_b146 c_X8_mergeRuns_b161
  rw [gA_ok h.st.o, h1, ob_s, if_neg (show ¬ (1 : Int32) = 0 by decide), gA_ok h.st.o, h0, ob_s, rA_n h.e10 h0 hj (by omega), ob_s, wA_n h.e11 h1 (by rw [h.l11]; exact ht) (by rw [h.l11]; omega), ob_s, if_neg (show ¬ (1 : Int32) = 0 by decide), if_neg (show ¬ (1 : Int32) = 0 by decide), nI_1, nI_1, nI_z]
theorem mr_102 {F ar B to i j : Nat} {u1 u2 u3 u4 u6 u7 u8 : Int32} {rc6 : CS → Nat → Int32 → Int32 → Int32 → Int32 → Int32 → Int32 → Option CS} {rc42 : CS → Nat → Int32 → Int32 → Int32 → Int32 → Int32 → Int32 → Int32 → Int32 → Int32 → Int32 → Option CS} {cs : CS} (h : STS ar B cs) (ht : to < kL cs 290 ar) (hi : i < kL cs 290 ar) : c_X8_mergeRuns_b102 F rc6 rc42 cs ar u1 u2 u3 u4 (nI to) u6 u7 u8 (nI i) (nI j) = rc42 (sA cs 291 ar to (kA cs 290 ar i)) ar u1 u2 u3 u4 (nI (to + 1)) u6 u7 u8 (nI (i + 1)) (nI j) := by
  obtain ⟨j0, h0⟩ := h.p10
  obtain ⟨j1, h1⟩ := h.p11
  have oh := h.oh
  unfold c_X8_mergeRuns_b102 c_X8_mergeRuns_b103 c_X8_mergeRuns_b133 c_X8_mergeRuns_b146 c_X8_mergeRuns_b161
  rw [gA_ok h.st.o, h1, ob_s, if_pos rfl, gA_ok h.st.o, h0, ob_s, rA_n h.e10 h0 hi (by omega), ob_s, wA_n h.e11 h1 (by rw [h.l11]; exact ht) (by rw [h.l11]; omega), ob_s, if_pos rfl, if_pos rfl, nI_1, nI_1, nI_z]
/-- one place laid -/
theorem lay_p {ar to x : Nat} {P : List Nat} {v : Int32} {cs : CS} (hv : v = nI x) (hP : P.length = to) (h : ∀ k, k < P.length → kA cs 291 ar k = nI (P.getD k 0)) : ∀ k, k < (P ++ [x]).length → kA (sA cs 291 ar to v) 291 ar k = nI ((P ++ [x]).getD k 0) := fun k hk => by
  rw [List.length_append] at hk
  have hk' : k < P.length + 1 := hk
  show u2 (kA cs) 291 ar (upd (kA cs 291 ar) to v) 291 ar k = _
  rw [u2_s]
  by_cases q : k = to
  · rw [q, pk_us, hv, ← hP, snocL]
  · rw [pk_un q, h k (by omega), snocD (by omega)]
theorem mrg_L {F ar B n w left mid en : Nat} {run : Int32} {down : Int32} {R : Nat → List OV} {rc6 : CS → Nat → Int32 → Int32 → Int32 → Int32 → Int32 → Int32 → Option CS} (hF : 10000 ≤ F) (hw : w ≤ 100) (hen : en ≤ n) (hn : n ≤ 600) : ∀ (d u i j to : Nat) (A E P : List Nat) (cs : CS), d < u → A.length + E.length = d → i + A.length = mid → j + E.length = en → to + d = en → mid ≤ n → P.length = to → STS ar B cs → n ≤ kL cs 290 ar → (∀ k, k < A.length → kA cs 290 ar (i + k) = nI (A.getD k 0)) → (∀ k, k < E.length → kA cs 290 ar (j + k) = nI (E.getD k 0)) → (∀ k, k < P.length → kA cs 291 ar k = nI (P.getD k 0)) → (∀ p, p ∈ A ∨ p ∈ E → p + w ≤ kL cs 288 ar ∧ rwC cs ar p w = R p) → ∃ cs', c_X8_mergeRuns_L42 F rc6 u cs ar run (nI n) (nI w) down (nI to) (nI left) (nI mid) (nI en) (nI i) (nI j) = rc6 cs' ar run (nI n) (nI w) down (nI en) (nI left + (2 * run)) ∧ STS ar B cs' ∧ OFR ar cs cs' ∧ (∀ k, kA cs' 290 ar k = kA cs 290 ar k) ∧ (∀ k, k < (P ++ List.merge A E (leP R down)).length → kA cs' 291 ar k = nI ((P ++ List.merge A E (leP R down)).getD k 0)) := by
  intro d
  induction d with
  | zero =>
    intro u i j to A E P cs d1 d2 hi hj ht hm hP h hl hA hE hp hr
    obtain ⟨u, rfl⟩ : ∃ z, u = z + 1 := ⟨u - 1, by omega⟩
    have eA : A = [] := List.length_eq_zero_iff.mp (by omega)
    have eE : E = [] := List.length_eq_zero_iff.mp (by omega)
    rw [c_X8_mergeRuns_L42, if_pos (nI_le (by omega) (by omega))]
    unfold c_X8_mergeRuns_b170
    refine ⟨cs, ?_, h, OFR.refl, fun _ => rfl, ?_⟩
    · rw [show to = en by omega]
    · rw [eA, eE, List.nil_merge, List.append_nil]
      exact hp
  | succ d ih =>
    intro u i j to A E P cs d1 d2 hi hj ht hm hP h hl hA hE hp hr
    obtain ⟨u, rfl⟩ : ∃ z, u = z + 1 := ⟨u - 1, by omega⟩
    obtain ⟨j0, h0⟩ := h.p10
    obtain ⟨j1, h1⟩ := h.p11
    have oh := h.oh
    have l11 := h.l11
    have n2 := h.st.n2
    rw [c_X8_mergeRuns_L42, if_neg (nI_ge (by omega) (by omega)), gA_ok h.st.o, h1, ob_s, lnA_n h.e11 h1, ob_s, if_neg (nI_ge (by omega) (by omega))]
    have go : ∀ (x i' j' : Nat) (A' E' : List Nat) (v : Int32), v = nI x → A'.length + E'.length = d → i' + A'.length = mid → j' + E'.length = en → (∀ k, k < A'.length → kA cs 290 ar (i' + k) = nI (A'.getD k 0)) → (∀ k, k < E'.length → kA cs 290 ar (j' + k) = nI (E'.getD k 0)) → (∀ p, p ∈ A' ∨ p ∈ E' → p ∈ A ∨ p ∈ E) → List.merge A E (leP R down) = x :: List.merge A' E' (leP R down) → ∃ cs', c_X8_mergeRuns_L42 F rc6 u (sA cs 291 ar to v) ar run (nI n) (nI w) down (nI (to + 1)) (nI left) (nI mid) (nI en) (nI i') (nI j') = rc6 cs' ar run (nI n) (nI w) down (nI en) (nI left + (2 * run)) ∧ STS ar B cs' ∧ OFR ar cs cs' ∧ (∀ k, kA cs' 290 ar k = kA cs 290 ar k) ∧ (∀ k, k < (P ++ List.merge A E (leP R down)).length → kA cs' 291 ar k = nI ((P ++ List.merge A E (leP R down)).getD k 0)) := fun x i' j' A' E' v hv q1 q2 q3 q4 q5 q6 q7 => by
      have f1 : OFR ar cs (sA cs 291 ar to v) := OFR.sa (Or.inr rfl)
      have k0 : kA (sA cs 291 ar to v) 290 ar = kA cs 290 ar := (AT.sA (by omega) : AT cs (sA cs 291 ar to v) 290 ar).a
      obtain ⟨cs', g1, g2, g3, g4, g5⟩ := ih u i' j' (to + 1) A' E' (P ++ [x]) (sA cs 291 ar to v) (by omega) q1 q2 q3 (by omega) hm (by rw [List.length_append, hP]; rfl) (h.sa (Or.inr rfl)) (by rw [f1.l0]; exact hl) (fun k hk => by rw [k0]; exact q4 k hk) (fun k hk => by rw [k0]; exact q5 k hk) (lay_p hv hP hp) (fun p h2 => by rw [f1.l8, f1.rw']; exact hr p (q6 p h2))
      refine ⟨cs', g1, g2, f1.trans g3, fun k => by rw [g4, k0], ?_⟩
      rw [q7, List.append_cons]
      exact g5
    cases A with
    | nil =>
      cases E with
      | nil => exact absurd d2 (by rw [List.length_nil]; omega)
      | cons b E =>
        have lb : (b :: E).length = E.length + 1 := rfl
        rw [List.length_nil] at hi d2
        rw [if_pos (nI_le (by omega) (by omega)), mr_98 h (by omega) (by omega)]
        refine go b i (j + 1) [] E _ ?_ (by rw [List.length_nil]; omega) (by rw [List.length_nil]; omega) (by omega) (fun k hk => absurd hk (by rw [List.length_nil]; omega)) (fun k hk => ?_) (fun p h2 => Or.inr ?_) ?_
        · exact hE 0 (by omega)
        · have := hE (k + 1) (by omega)
          rw [show j + 1 + k = j + (k + 1) by omega]
          exact this
        · rcases h2 with z | z
          · cases z
          · exact List.mem_cons_of_mem _ z
        · rw [List.nil_merge, List.nil_merge]
    | cons a A =>
      have la : (a :: A).length = A.length + 1 := rfl
      rw [if_neg (nI_ge (by omega) (by omega))]
      have ha0 : kA cs 290 ar i = nI a := hA 0 (by omega)
      have hA' : ∀ k, k < A.length → kA cs 290 ar (i + 1 + k) = nI (A.getD k 0) := fun k hk => by
        have := hA (k + 1) (by omega)
        rw [show i + 1 + k = i + (k + 1) by omega]
        exact this
      cases E with
      | nil =>
        rw [List.length_nil] at hj d2
        rw [if_pos (nI_le (by omega) (by omega)), mr_102 h (by omega) (by omega)]
        refine go a (i + 1) j A [] _ ha0 (by rw [List.length_nil]; omega) (by omega) (by rw [List.length_nil]; omega) hA' (fun k hk => absurd hk (by rw [List.length_nil]; omega)) (fun p h2 => Or.inl ?_) ?_
        · rcases h2 with z | z
          · exact List.mem_cons_of_mem _ z
          · cases z
        · rw [List.merge_right, List.merge_right]
      | cons b E =>
        have lb : (b :: E).length = E.length + 1 := rfl
        have hb0 : kA cs 290 ar j = nI b := hE 0 (by omega)
        have hE' : ∀ k, k < E.length → kA cs 290 ar (j + 1 + k) = nI (E.getD k 0) := fun k hk => by
          have := hE (k + 1) (by omega)
          rw [show j + 1 + k = j + (k + 1) by omega]
          exact this
        obtain ⟨ra1, ra2⟩ := hr a (Or.inl (List.mem_cons_self ..))
        obtain ⟨rb1, rb2⟩ := hr b (Or.inr (List.mem_cons_self ..))
        rw [if_neg (nI_ge (by omega) (by omega)), gA_ok h.st.o, h0, ob_s, rA_n h.e10 h0 (by omega) (by omega), ob_s, hb0, ob_s, rA_n h.e10 h0 (by omega) (by omega), ob_s, ha0, ckE_ok h.st.o, ob_s, cmpC_ok hF h.st h.st hw rb1 ra1, ob_s, rb2, ra2]
        have le1 := cmD_lex (dn := dnB down) 0 (R b) (R a) (by rw [← rb2, ← ra2, rwC_len, rwC_len])
        by_cases z : (0 : Int32) ≤ cmD (dnB down) 0 (R b) (R a)
        · rw [if_pos z, mr_102 h (by omega) (by omega)]
          have le2 : leP R down a b = true := by
            unfold leP
            rw [le1.mp z]
            rfl
          refine go a (i + 1) j A (b :: E) _ ha0 (by omega) (by omega) hj hA' hE (fun p h2 => ?_) (by rw [List.cons_merge_cons, if_pos le2])
          rcases h2 with z | z
          · exact Or.inl (List.mem_cons_of_mem _ z)
          · exact Or.inr z
        · rw [if_neg z, mr_98 h (by omega) (by omega)]
          have le2 : ¬ leP R down a b = true := fun w => by
            unfold leP at w
            rw [Bool.not_eq_true'] at w
            exact z (le1.mpr w)
          refine go b i (j + 1) (a :: A) E _ hb0 (by omega) hi (by omega) hA hE' (fun p h2 => ?_) (by rw [List.cons_merge_cons, if_neg le2])
          rcases h2 with z | z
          · exact Or.inl z
          · exact Or.inr (List.mem_cons_of_mem _ z)
/-- one pass over all runs -/
def mrgP (le : Nat → Nat → Bool) (r : Nat) : Nat → List Nat → List Nat
  | 0, l => l
  | f + 1, l => if l = [] then [] else List.merge (l.take r) ((l.drop r).take r) le ++ mrgP le r f (l.drop (2 * r))
theorem mrgP_nil {le : Nat → Nat → Bool} {r : Nat} : ∀ (f : Nat), mrgP le r f [] = []
  | 0 => rfl
  | _ + 1 => if_pos rfl
theorem mrgP_perm {le : Nat → Nat → Bool} {r : Nat} : ∀ (f : Nat) (l : List Nat), (mrgP le r f l).Perm l
  | 0, l => List.Perm.refl l
  | f + 1, l => by
    by_cases q : l = []
    · rw [q, mrgP_nil]
    · show (if l = [] then [] else List.merge (l.take r) ((l.drop r).take r) le ++ mrgP le r f (l.drop (2 * r))).Perm l
      rw [if_neg q]
      have e1 : l.take r ++ (l.drop r).take r ++ l.drop (2 * r) = l := by
        rw [List.append_assoc, show l.drop (2 * r) = (l.drop r).drop r by rw [List.drop_drop, Nat.two_mul], List.take_append_drop, List.take_append_drop]
      have e2 := List.Perm.append (List.merge_perm_append le (xs := l.take r) (ys := (l.drop r).take r)) (mrgP_perm (le := le) (r := r) f (l.drop (2 * r)))
      rw [e1] at e2
      exact e2
/-- runs of r, each in order -/
def SBL (le : Nat → Nat → Bool) (r : Nat) : Nat → List Nat → Prop
  | 0, _ => True
  | f + 1, l => (l.take r).Pairwise (fun a b => le a b = true) ∧ SBL le r f (l.drop r)
theorem SBL.nil {le : Nat → Nat → Bool} {r : Nat} : ∀ (f : Nat), SBL le r f []
  | 0 => trivial
  | f + 1 => by
    refine ⟨?_, ?_⟩
    · rw [List.take_nil]
      exact List.Pairwise.nil
    · rw [List.drop_nil]
      exact SBL.nil f
theorem SBL.one {le : Nat → Nat → Bool} : ∀ (f : Nat) (l : List Nat), SBL le 1 f l
  | 0, _ => trivial
  | f + 1, [] => SBL.nil _
  | f + 1, a :: l => ⟨List.pairwise_singleton _ _, SBL.one f l⟩
theorem mrgP_sb {le : Nat → Nat → Bool} {r : Nat} (hr : 1 ≤ r) (tr : ∀ a b d, le a b = true → le b d = true → le a d = true) (to : ∀ a b, (le a b || le b a) = true) : ∀ (f g : Nat) (l : List Nat), (∀ f, SBL le r f l) → l.length ≤ g → SBL le (2 * r) f (mrgP le r g l)
  | 0, _, _, _, _ => trivial
  | f + 1, 0, l, _, h => by
    have e : l = [] := List.length_eq_zero_iff.mp (by omega)
    rw [e]
    exact SBL.nil _
  | f + 1, g + 1, l, h, hl => by
    by_cases q : l = []
    · rw [q, mrgP_nil]
      exact SBL.nil _
    · obtain ⟨h1, h2⟩ := h (f + 2)
      obtain ⟨h3, -⟩ := h2
      have hd : ∀ f, SBL le r f (l.drop (2 * r)) := fun f => by
        have e := (h (f + 2)).2.2
        rw [List.drop_drop, ← Nat.two_mul] at e
        exact e
      have ih := mrgP_sb hr tr to f g (l.drop (2 * r)) hd (by rw [List.length_drop]; omega)
      have sX := List.pairwise_merge tr to (l.take r) ((l.drop r).take r) h1 h3
      obtain ⟨X, hX⟩ : ∃ X, X = List.merge (l.take r) ((l.drop r).take r) le := ⟨_, rfl⟩
      have lX : X.length = min r l.length + min r (l.length - r) := by
        rw [hX, List.length_merge, List.length_take, List.length_take, List.length_drop]
      rw [← hX] at sX
      show SBL le (2 * r) (f + 1) (if l = [] then [] else List.merge (l.take r) ((l.drop r).take r) le ++ mrgP le r g (l.drop (2 * r)))
      rw [if_neg q, ← hX]
      by_cases w : 2 * r ≤ l.length
      · have e : X.length = 2 * r := by omega
        refine ⟨?_, ?_⟩
        · rw [List.take_left' e]
          exact sX
        · rw [List.drop_left' e]
          exact ih
      · rw [List.drop_eq_nil_of_le (show l.length ≤ 2 * r by omega), mrgP_nil, List.append_nil]
        refine ⟨?_, ?_⟩
        · rw [List.take_of_length_le (by omega)]
          exact sX
        · rw [List.drop_eq_nil_of_le (by omega)]
          exact SBL.nil _

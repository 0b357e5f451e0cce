/-! the class sorts rows -/
theorem nI_mn {a b : Nat} (ha : a < 2147483648) (hb : b < 2147483648) : (if nI a < nI b then nI a else nI b) = nI (if a < b then a else b) := by
  by_cases q : a < b
  · rw [if_pos q, if_pos (nI_lt q (by omega))]
  · rw [if_neg q, if_neg (nI_nlt (by omega) (by omega))]
theorem cutD {O : List Nat} {l r k : Nat} (h : k < r) : ((O.drop l).take r).getD k 0 = O.getD (l + k) 0 := by
  rw [List.getD_eq_getElem?_getD, List.getD_eq_getElem?_getD, List.getElem?_take_of_lt h, List.getElem?_drop]
theorem swp_ok {ar B j : Nat} {cs : CS} (h : STS ar B cs) (h1 : kP cs 291 ar = some j) : swp cs ar j = some (sw cs ar) := by
  obtain ⟨j0, h0⟩ := h.p10
  unfold swp
  rw [h0, ob_s, if_pos ⟨h.st.o, h.e10, h.e11, h1, rfl⟩]
theorem mrgs_L {F ar B n w run : Nat} {down : Int32} {R : Nat → List OV} (hF : 10000 ≤ F) (hw : w ≤ 100) (hr1 : 1 ≤ run) (hr2 : run ≤ 600) (hn : n ≤ 600) (O : List Nat) (hO : O.length = n) : ∀ (f u left : Nat) (P : List Nat) (cs : CS), n ≤ left + f → f < u → left ≤ 2000 → P.length = (if left < n then left else n) → STS ar B cs → n ≤ kL cs 290 ar → (∀ k, k < n → kA cs 290 ar k = nI (O.getD k 0)) → (∀ k, k < P.length → kA cs 291 ar k = nI (P.getD k 0)) → (∀ p, p ∈ O → p + w ≤ kL cs 288 ar ∧ rwC cs ar p w = R p) → ∃ cs', c_X8_mergeRuns_L6 F u cs ar (nI run) (nI n) (nI w) down (nI P.length) (nI left) = some (sw cs' ar) ∧ STS ar B cs' ∧ OFR ar cs cs' ∧ (∀ k, k < n → kA cs' 291 ar k = nI ((P ++ mrgP (leP R down) run f (O.drop left)).getD k 0)) := by
  have out : ∀ (f u left : Nat) (P : List Nat) (cs : CS), n ≤ left → left ≤ 2000 → P.length = n → STS ar B cs → (∀ k, k < P.length → kA cs 291 ar k = nI (P.getD k 0)) → ∃ cs', c_X8_mergeRuns_L6 F (u + 1) cs ar (nI run) (nI n) (nI w) down (nI P.length) (nI left) = some (sw cs' ar) ∧ STS ar B cs' ∧ OFR ar cs cs' ∧ (∀ k, k < n → kA cs' 291 ar k = nI ((P ++ mrgP (leP R down) run f (O.drop left)).getD k 0)) := fun f u left P cs q1 q2 q3 h hp => by
    obtain ⟨j1, h1⟩ := h.p11
    rw [c_X8_mergeRuns_L6, if_pos (nI_le q1 (by omega)), gA_ok h.st.o, h1, ob_s, swp_ok h h1, ob_s]
    refine ⟨cs, rfl, h, OFR.refl, fun k hk => ?_⟩
    rw [List.drop_eq_nil_of_le (show O.length ≤ left by omega), mrgP_nil, List.append_nil]
    exact hp k (by omega)
  intro f
  induction f with
  | zero =>
    intro u left P cs d1 d2 d3 hP h hl h0 hp hr
    obtain ⟨u, rfl⟩ : ∃ z, u = z + 1 := ⟨u - 1, by omega⟩
    rw [if_neg (by omega)] at hP
    exact out 0 u left P cs (by omega) d3 hP h hp
  | succ f ih =>
    intro u left P cs d1 d2 d3 hP h hl h0 hp hr
    obtain ⟨u, rfl⟩ : ∃ z, u = z + 1 := ⟨u - 1, by omega⟩
    by_cases q : n ≤ left
    · rw [if_neg (by omega)] at hP
      exact out (f + 1) u left P cs q d3 hP h hp
    · rw [if_pos (by omega)] at hP
      rw [c_X8_mergeRuns_L6, if_neg (nI_ge (by omega) (by omega)), nI_add, nI_2, nI_add, nI_mn (by omega) (by omega), nI_mn (by omega) (by omega)]
      obtain ⟨mid, hmid⟩ : ∃ z, z = if n < left + run then n else left + run := ⟨_, rfl⟩
      obtain ⟨en, hen⟩ : ∃ z, z = if n < left + 2 * run then n else left + 2 * run := ⟨_, rfl⟩
      obtain ⟨A, hA⟩ : ∃ z, z = (O.drop left).take run := ⟨_, rfl⟩
      obtain ⟨E, hE⟩ : ∃ z, z = ((O.drop left).drop run).take run := ⟨_, rfl⟩
      have lA : A.length = min run (n - left) := by rw [hA, List.length_take, List.length_drop, hO]
      have lE : E.length = min run (n - left - run) := by rw [hE, List.length_take, List.length_drop, List.length_drop, hO]
      have m1 : mid = left + A.length := by
        rw [hmid]
        by_cases z : n < left + run
        · rw [if_pos z]; omega
        · rw [if_neg z]; omega
      have m2 : en = mid + E.length := by
        rw [hen]
        by_cases z : n < left + 2 * run
        · rw [if_pos z]; omega
        · rw [if_neg z]; omega
      rw [← hmid, ← hen]
      obtain ⟨c1, e1, s1, f1, k1, p1⟩ := mrg_L (F := F) (ar := ar) (B := B) (n := n) (w := w) (left := left) (mid := mid) (en := en) (run := nI run) (down := down) (R := R) (rc6 := c_X8_mergeRuns_L6 F u) hF hw (by omega) hn (A.length + E.length) F left mid P.length A E P cs (by omega) rfl m1.symm m2.symm (by omega) (by omega) rfl h hl (fun k hk => by
        rw [h0 (left + k) (by omega), hA, cutD (by omega)]) (fun k hk => by
        rw [h0 (mid + k) (by omega), hE, List.drop_drop, cutD (by omega)]
        rw [show mid + k = left + run + k by omega]) hp (fun p h2 => hr p (by
        rcases h2 with z | z
        · rw [hA] at z
          exact List.mem_of_mem_drop (List.mem_of_mem_take z)
        · rw [hE] at z
          exact List.mem_of_mem_drop (List.mem_of_mem_drop (List.mem_of_mem_take z))))
      rw [e1, nI_2, nI_add]
      obtain ⟨Q, hQ⟩ : ∃ z, z = P ++ List.merge A E (leP R down) := ⟨_, rfl⟩
      rw [← hQ] at p1
      have lQ : Q.length = en := by rw [hQ, List.length_append, List.length_merge]; omega
      rw [← lQ]
      have lq2 : Q.length = (if left + 2 * run < n then left + 2 * run else n) := by
        rw [lQ, hen]
        by_cases z : n < left + 2 * run
        · rw [if_pos z, if_neg (by omega)]
        · rw [if_neg z]
          by_cases y : left + 2 * run < n
          · rw [if_pos y]
          · rw [if_neg y]
            omega
      obtain ⟨c2, e2, s2, f2, p2⟩ := ih u (left + 2 * run) Q c1 (by omega) (by omega) (by omega) lq2 s1 (by rw [f1.l0]; exact hl) (fun k hk => by rw [k1]; exact h0 k hk) p1 (fun p h2 => by rw [f1.l8, f1.rw']; exact hr p h2)
      refine ⟨c2, e2, s2, f1.trans f2, fun k hk => ?_⟩
      rw [p2 k hk, hQ, List.append_assoc]
      have e3 : mrgP (leP R down) run (f + 1) (O.drop left) = List.merge A E (leP R down) ++ mrgP (leP R down) run f (O.drop (left + 2 * run)) := by
        show (if O.drop left = [] then [] else List.merge ((O.drop left).take run) (((O.drop left).drop run).take run) (leP R down) ++ mrgP (leP R down) run f ((O.drop left).drop (2 * run))) = _
        rw [if_neg (fun w => by have := congrArg List.length w; rw [List.length_drop, hO, List.length_nil] at this; omega), List.drop_drop (i := 2 * run), ← hA, ← hE]
      rw [e3]
/-- the places of rows, as the class sorts them -/
def ORP (ar B n w : Nat) (down : Int32) (R : Nat → List OV) (O : List Nat) (cs : CS) : Prop := (STS ar B cs) ∧ (O.length = n) ∧ (n ≤ kL cs 290 ar) ∧ (∀ k, k < n → kA cs 290 ar k = nI (O.getD k 0)) ∧ (∀ p, p ∈ O → p + w ≤ kL cs 288 ar ∧ rwC cs ar p w = R p)
theorem ORP.st {ar B n w : Nat} {down : Int32} {R : Nat → List OV} {O : List Nat} {cs : CS} (h : ORP ar B n w down R O cs) : STS ar B cs := h.1
theorem ORP.ol {ar B n w : Nat} {down : Int32} {R : Nat → List OV} {O : List Nat} {cs : CS} (h : ORP ar B n w down R O cs) : O.length = n := h.2.1
theorem ORP.on {ar B n w : Nat} {down : Int32} {R : Nat → List OV} {O : List Nat} {cs : CS} (h : ORP ar B n w down R O cs) : n ≤ kL cs 290 ar := h.2.2.1
theorem ORP.od {ar B n w : Nat} {down : Int32} {R : Nat → List OV} {O : List Nat} {cs : CS} (h : ORP ar B n w down R O cs) : ∀ k, k < n → kA cs 290 ar k = nI (O.getD k 0) := h.2.2.2.1
theorem ORP.rw' {ar B n w : Nat} {down : Int32} {R : Nat → List OV} {O : List Nat} {cs : CS} (h : ORP ar B n w down R O cs) : ∀ p, p ∈ O → p + w ≤ kL cs 288 ar ∧ rwC cs ar p w = R p := h.2.2.2.2
theorem merge_ok {F ar B n w run : Nat} {down : Int32} {R : Nat → List OV} {O : List Nat} {cs : CS} (hF : 10000 ≤ F) (hw : w ≤ 100) (hr1 : 1 ≤ run) (hr2 : run ≤ 600) (hn : n ≤ 600) (h : ORP ar B n w down R O cs) : ∃ cs', c_X8_mergeRuns F cs ar (nI run) (nI n) (nI w) down = some cs' ∧ ORP ar B n w down R (mrgP (leP R down) run n O) cs' ∧ OFR ar cs cs' := by
  have l00 : ([] : List Nat).length = (if 0 < n then 0 else n) := by
    rw [List.length_nil]
    by_cases z : 0 < n
    · rw [if_pos z]
    · rw [if_neg z]
      omega
  obtain ⟨c1, e1, s1, f1, p1⟩ := mrgs_L (F := F) (ar := ar) (B := B) (n := n) (w := w) (run := run) (down := down) (R := R) hF hw hr1 hr2 hn O h.ol n F 0 [] cs (by omega) (by omega) (by omega) l00 h.st h.on h.od (fun k hk => absurd hk (by rw [List.length_nil]; omega)) h.rw'
  have f2 : OFR ar c1 (sw c1 ar) := OFR.tw s1.l11
  have f3 := f1.trans f2
  have pm := mrgP_perm (le := leP R down) (r := run) n O
  refine ⟨sw c1 ar, e1, ⟨s1.tw, by rw [pm.length_eq]; exact h.ol, by rw [f3.l0]; exact h.on, fun k hk => ?_, fun p hp => ?_⟩, f3⟩
  · have e : kA (sw c1 ar) 290 ar = kA c1 291 ar := swx_a
    rw [e, p1 k hk]
    rfl
  · rw [f3.l8, f3.rw']
    exact h.rw' p (pm.mem_iff.mp hp)
theorem runs_L {F ar B n w st : Nat} {down : Int32} {R : Nat → List OV} (hF : 10000 ≤ F) (hw : w ≤ 100) (hn : n ≤ 600) (h2 : 2 ≤ n) : ∀ (d u run : Nat) (O : List Nat) (cs : CS), n ≤ run * 2 ^ d → d < u → 1 ≤ run → run ≤ 1200 → ORP ar B n w down R O cs → (∀ f, SBL (leP R down) run f O) → ∃ O' cs', c_X8_sort_L73 F u cs ar (nI st) (nI n) (nI w) down (nI run) = c_X8_sort_L108 F F cs' ar (nI st) (nI n) (nI w) (nI st + (nI n * nI w)) 0 ∧ ORP ar B n w down R O' cs' ∧ OFR ar cs cs' ∧ O'.Perm O ∧ O'.Pairwise (fun a b => leP R down a b = true) := by
  have out : ∀ (u run : Nat) (O : List Nat) (cs : CS), n ≤ run → run ≤ 1200 → ORP ar B n w down R O cs → (∀ f, SBL (leP R down) run f O) → ∃ O' cs', c_X8_sort_L73 F (u + 1) cs ar (nI st) (nI n) (nI w) down (nI run) = c_X8_sort_L108 F F cs' ar (nI st) (nI n) (nI w) (nI st + (nI n * nI w)) 0 ∧ ORP ar B n w down R O' cs' ∧ OFR ar cs cs' ∧ O'.Perm O ∧ O'.Pairwise (fun a b => leP R down a b = true) := fun u run O cs q1 q2 h sb => by
    rw [c_X8_sort_L73, if_pos (nI_le q1 (by omega))]
    have e := (sb 1).1
    rw [List.take_of_length_le (by rw [h.ol]; exact q1)] at e
    exact ⟨O, cs, rfl, h, OFR.refl, List.Perm.refl _, e⟩
  intro d
  induction d with
  | zero =>
    intro u run O cs d1 d2 r1 r2 h sb
    obtain ⟨u, rfl⟩ : ∃ z, u = z + 1 := ⟨u - 1, by omega⟩
    rw [Nat.pow_zero, Nat.mul_one] at d1
    exact out u run O cs d1 r2 h sb
  | succ d ih =>
    intro u run O cs d1 d2 r1 r2 h sb
    obtain ⟨u, rfl⟩ : ∃ z, u = z + 1 := ⟨u - 1, by omega⟩
    by_cases q : n ≤ run
    · exact out u run O cs q r2 h sb
    · obtain ⟨c1, e1, h1, f1⟩ := merge_ok hF hw r1 (by omega) hn h
      have e2 : nI run * 2 = nI (run * 2) := pk_mul run 2
      rw [c_X8_sort_L73, if_neg (nI_ge (by omega) (by omega)), ckE_ok h.st.st.o, ob_s, e1, ob_s, e2]
      have sb2 : ∀ f, SBL (leP R down) (run * 2) f (mrgP (leP R down) run n O) := fun f => by
        rw [Nat.mul_comm]
        exact mrgP_sb r1 leP_tr leP_to f n O sb (by rw [h.ol]; exact Nat.le_refl _)
      obtain ⟨O', c2, g1, g2, g3, g4, g5⟩ := ih u (run * 2) _ c1 (by rw [Nat.mul_assoc, ← Nat.pow_succ']; exact d1) (by omega) (by omega) (by omega) h1 sb2
      exact ⟨O', c2, g1, g2, f1.trans g3, g4.trans (mrgP_perm n O), g5⟩
theorem lay_L {F ar B n w st : Nat} {down : Int32} {R : Nat → List OV} {O : List Nat} {cs : CS} (hB : B ≤ 400000) (hn : n ≤ 600) (hw : w ≤ 100) (h : ORP ar B n w down R O cs) (hp : ∀ p, p ∈ O → p + w ≤ st + n * w) (hb : st + n * w + n * w ≤ B) (hs : st + n * w ≤ kL cs 288 ar) : ∀ (d i u : Nat) (X : CS), n = i + d → d < u → STS ar B X → (∀ k, k < n → kA X 290 ar k = nI (O.getD k 0)) → n ≤ kL X 290 ar → (∀ c, STF c ar (st + n * w) cs X) → RWS ar (st + n * w) w ((O.take i).map R) X → ∃ X' X2, c_X8_sort_L108 F u X ar (nI st) (nI n) (nI w) (nI (st + n * w)) (nI i) = some X2 ∧ c_X8_copy F X' ar (nI (st + n * w)) (nI st) (nI (n * w)) = some X2 ∧ STS ar B X' ∧ (∀ c, STF c ar (st + n * w) cs X') ∧ RWS ar (st + n * w) w (O.map R) X' := by
  intro d
  induction d with
  | zero =>
    intro i u X d1 d2 hx ho hl hf hr
    obtain ⟨u, rfl⟩ : ∃ z, u = z + 1 := ⟨u - 1, by omega⟩
    rw [List.take_of_length_le (by rw [h.ol]; omega)] at hr
    have hb2 := hr.bd
    rw [List.length_map, h.ol] at hb2
    obtain ⟨X2, e1, -⟩ := scopy_ok (F := F) (fr := st + n * w) (to := st) (n := n * w) hx hB hb2 (by omega) (by omega)
    refine ⟨X, X2, ?_, e1, hx, hf, hr⟩
    rw [c_X8_sort_L108, if_pos (nI_le (by omega) (by omega)), ckE_ok hx.st.o, ob_s, pk_mul, e1, ob_s]
    rfl
  | succ d ih =>
    intro i u X d1 d2 hx ho hl hf hr
    obtain ⟨u, rfl⟩ : ∃ z, u = z + 1 := ⟨u - 1, by omega⟩
    obtain ⟨j0, h0⟩ := hx.p10
    have oh := hx.oh
    have hi : i < O.length := by rw [h.ol]; omega
    have mem : O.getD i 0 ∈ O := by
      rw [List.getD_eq_getElem?_getD, List.getElem?_eq_getElem hi]
      exact List.getElem_mem hi
    have pp := hp _ mem
    have rr := (h.rw' _ mem).2
    have ln := (hf 0).ln
    have rl := row_le (p := st + n * w) (w := w) (show i < n by omega)
    have lt : ((O.take i).map R).length = i := by rw [List.length_map, List.length_take, h.ol]; omega
    obtain ⟨X1, e1, s1, b1, v1, v2, a1, f1⟩ := scopy_ok (F := F) (fr := O.getD i 0) (to := st + n * w + i * w) (n := w) hx hB (by omega) (by omega) (by omega)
    rw [c_X8_sort_L108, if_neg (nI_ge (by omega) (by omega)), gA_ok hx.st.o, h0, ob_s, rA_n hx.e10 h0 (by omega) (by omega), ob_s, ho i (by omega), ckE_ok hx.st.o, ob_s, pk_mul, nI_add, e1, ob_s]
    unfold c_X8_sort_b133
    rw [nI_1]
    have fx : ∀ c, STF c ar (st + n * w) cs X1 := fun c => (hf c).trans (f1 c (st + n * w) (by omega)) (Nat.le_refl _)
    have k0 := (f1 0 0 (by omega))
    have rw1 : rwC X1 ar (st + n * w + i * w) w = R (O.getD i 0) := by
      rw [← rr]
      exact rwC_eq (fun k hk => (v1 k hk).trans ((hf 0).ce _ (by omega) (by have := (h.rw' _ mem).1; omega)))
    have r1 : RWS ar (st + n * w) w ((O.take i).map R) X1 := hr.stf (f1 0 (st + n * w + i * w) (Nat.le_refl _)) (by rw [lt]; exact Nat.le_refl _)
    have r2 := r1.snoc (L := R (O.getD i 0)) (by rw [lt]; exact b1) (by rw [lt]; exact rw1)
    have e4 : (O.take i).map R ++ [R (O.getD i 0)] = (O.take (i + 1)).map R := by
      rw [List.take_add_one, List.map_append, List.getD_eq_getElem?_getD, List.getElem?_eq_getElem hi]
      rfl
    rw [e4] at r2
    have o1 : ∀ k, k < n → kA X1 290 ar k = nI (O.getD k 0) := fun k hk => by rw [a1.a]; exact ho k hk
    exact ih (i + 1) u X1 (by omega) (by omega) s1 o1 (Nat.le_trans hl k0.lp) fx r2
theorem fill_L {F ar B n w st : Nat} {down : Int32} (hn : n ≤ 600) : ∀ (d i u : Nat) (cs : CS), n = i + d → d < u → STS ar B cs → n ≤ kL cs 290 ar → (∀ k, k < i → kA cs 290 ar k = nI (st + k * w)) → ∃ cs', c_X8_sort_L45 F u cs ar (nI st) (nI n) (nI w) down (nI i) = c_X8_sort_L73 F F cs' ar (nI st) (nI n) (nI w) down (nI 1) ∧ STS ar B cs' ∧ OFR ar cs cs' ∧ (∀ k, k < n → kA cs' 290 ar k = nI (st + k * w)) := by
  intro d
  induction d with
  | zero =>
    intro i u cs d1 d2 h hl hk
    obtain ⟨u, rfl⟩ : ∃ z, u = z + 1 := ⟨u - 1, by omega⟩
    rw [c_X8_sort_L45, if_pos (nI_le (by omega) (by omega))]
    exact ⟨cs, rfl, h, OFR.refl, fun k q => hk k (by omega)⟩
  | succ d ih =>
    intro i u cs d1 d2 h hl hk
    obtain ⟨u, rfl⟩ : ∃ z, u = z + 1 := ⟨u - 1, by omega⟩
    obtain ⟨j0, h0⟩ := h.p10
    have oh := h.oh
    rw [c_X8_sort_L45, if_neg (nI_ge (by omega) (by omega)), gA_ok h.st.o, h0, ob_s, pk_mul, nI_add, wA_n h.e10 h0 (by omega) (by omega), ob_s, nI_1]
    have f1 : OFR ar cs (sA cs 290 ar i (nI (st + i * w))) := OFR.sa (Or.inl rfl)
    obtain ⟨c2, e2, s2, f2, k2⟩ := ih (i + 1) u (sA cs 290 ar i (nI (st + i * w))) (by omega) (by omega) (h.sa (Or.inl rfl)) (by rw [f1.l0]; exact hl) (fun k q => by
      show u2 (kA cs) 290 ar (upd (kA cs 290 ar) i (nI (st + i * w))) 290 ar k = _
      rw [u2_s]
      by_cases z : k = i
      · rw [z, pk_us]
      · rw [pk_un z, hk k (by omega)])
    exact ⟨c2, e2, s2, f1.trans f2, k2⟩
theorem nwA_n {cs : CS} {X t i n : Nat} (h : (X, i) ∈ kE cs) (hn : n ≤ 10000000) : nwA cs X t i (nI n) = some (nA cs t i n (fun _ => 0) (fun _ => 0)) := by
  unfold nwA
  rw [nI_clamp (by omega), if_pos ⟨h, nI_pos (by omega), hn⟩]
/-- room for the places of n rows -/
theorem oroom_ok {F ar B n : Nat} {u1 u3 u4 : Int32} {cs : CS} (h : STS ar B cs) (hn : n ≤ 600) (h2 : 2 ≤ n) : ∃ cs', c_X8_sort F cs ar u1 (nI n) u3 u4 = c_X8_sort_L45 F F cs' ar u1 (nI n) u3 u4 0 ∧ STS ar B cs' ∧ n ≤ kL cs' 290 ar ∧ (∀ c m, STF c ar m cs cs') := by
  obtain ⟨j0, h0⟩ := h.p10
  obtain ⟨j1, h1⟩ := h.p11
  have oh := h.oh
  have o8 := h.o8
  have l11 := h.l11
  unfold c_X8_sort
  rw [if_pos (show (2 : Int32) ≤ nI n from nI_le (a := 2) (b := n) h2 (by omega)), gA_ok h.st.o, h0, ob_s, lnA_n h.e10 h0, ob_s]
  by_cases q : kL cs 290 ar < n
  · rw [if_pos (nI_lt q (by omega))]
    unfold c_X8_sort_b24 c_X8_sort_b33 c_X8_sort_b42
    rw [nI_2, nwA_n h.st.o (by omega), ob_s]
    obtain ⟨c1, hc1⟩ : ∃ z, z = nA cs 290 ar (2 * n) (fun _ => 0) (fun _ => 0) := ⟨_, rfl⟩
    rw [← hc1]
    have em1 : EM cs c1 := by rw [hc1]; exact nA_em
    have at1 : ∀ x j, ¬ (x = 290 ∧ j = ar) → AT cs c1 x j := fun x j hx => by rw [hc1]; exact AT.nA hx
    rw [nwA_n (em1 _ h.st.o) (by omega), ob_s]
    obtain ⟨c2, hc2⟩ : ∃ z, z = nA c1 291 ar (2 * n) (fun _ => 0) (fun _ => 0) := ⟨_, rfl⟩
    rw [← hc2]
    have em2 : EM c1 c2 := by rw [hc2]; exact nA_em
    have at2 : ∀ x j, ¬ (x = 291 ∧ j = ar) → AT c1 c2 x j := fun x j hx => by rw [hc2]; exact AT.nA hx
    have att : ∀ x j, ¬ (j = ar ∧ (x = 290 ∨ x = 291)) → AT cs c2 x j := fun x j hx => (at1 x j (by omega)).trans (at2 x j (by omega))
    have b0 := at2 290 ar (by omega)
    have l0 : kL c2 290 ar = 2 * n := by rw [b0.l, hc1]; exact u2_s
    have l1 : kL c2 291 ar = 2 * n := by rw [hc2]; exact u2_s
    have p0 : ∃ j, kP c2 290 ar = some j := ⟨kK cs, by rw [b0.p, hc1]; exact u2_s⟩
    have p1 : ∃ j, kP c2 291 ar = some j := ⟨kK c1, by rw [hc2]; exact u2_s⟩
    have g8 := att 288 ar (by omega)
    have g9 := att 289 ar (by omega)
    have l8 := g8.l
    have k1 : kK c2 = kK cs + 1 + 1 := by rw [hc2, hc1]; rfl
    have k2 : kM c2 = kM cs + 2 * n + 2 * n := by rw [hc2, hc1]; rfl
    exact ⟨c2, rfl, h.gen (em1.trans em2) g8 g9 p0 p1 (by omega) (by omega) (by omega), by omega, fun c m => ⟨em1.trans em2, fun x j h1 _ => att x j (by omega), fun x j h1 => ⟨(att x j (by omega)).p, (att x j (by omega)).l⟩, Nat.le_of_eq l8.symm, by omega, fun i _ _ => sv.at' g8 g9, by omega, by omega⟩⟩
  · rw [if_neg (nI_nlt (by omega) (by omega)), gA_ok h.st.o, h1, ob_s, lnA_n h.e11 h1, ob_s, if_pos (nI_le (by omega) (by omega))]
    exact ⟨cs, rfl, h, by omega, fun _ _ => STF.refl⟩
theorem SRT.small {K : List OV → List Int} {l : LL} (h : l.length < 2) : SRT K l := by
  unfold SRT
  cases l with
  | nil => exact List.Pairwise.nil
  | cons a l =>
    cases l with
    | nil => exact List.pairwise_singleton _ _
    | cons b l =>
      have : (a :: b :: l).length = l.length + 2 := rfl
      omega
abbrev kd (down : Int32) : List OV → List Int := kdI (dnB down) 0
theorem sort_ok {F ar B st w : Nat} {down : Int32} {rows : LL} {cs : CS} (hF : 10000 ≤ F) (hB : B ≤ 400000) (hw : w ≤ 100) (hn : rows.length ≤ 600) (hb : st + rows.length * w + rows.length * w ≤ B) (h : STS ar B cs) (hr : RWS ar st w rows cs) : ∃ cs', c_X8_sort F cs ar (nI st) (nI rows.length) (nI w) down = some cs' ∧ STS ar B cs' ∧ RWS ar st w (srtK (kd down) rows) cs' ∧ ∀ c m, m ≤ st → STF c ar m cs cs' := by
  obtain ⟨n, hnn⟩ : ∃ z, z = rows.length := ⟨_, rfl⟩
  rw [← hnn] at hn hb ⊢
  have bd := hr.bd
  rw [← hnn] at bd
  by_cases q : 2 ≤ n
  · obtain ⟨c1, e1, s1, l1, f1⟩ := oroom_ok (F := F) (u1 := nI st) (u3 := nI w) (u4 := down) h hn q
    rw [e1]
    obtain ⟨c2, e2, s2, f2, k2⟩ := fill_L (F := F) (st := st) (w := w) (down := down) hn n 0 F c1 (by omega) (by omega) s1 l1 (fun k z => absurd z (by omega))
    have e2' : c_X8_sort_L45 F F c1 ar (nI st) (nI n) (nI w) down 0 = c_X8_sort_L73 F F c2 ar (nI st) (nI n) (nI w) down (nI 1) := e2
    rw [e2']
    obtain ⟨O, hO⟩ : ∃ z, z = (List.range n).map (fun k => st + k * w) := ⟨_, rfl⟩
    have Ol : O.length = n := by rw [hO, List.length_map, List.length_range]
    have Og : ∀ k, k < n → O.getD k 0 = st + k * w := fun k hk => by
      rw [hO, List.getD_eq_getElem?_getD, List.getElem?_map, List.getElem?_range hk]
      rfl
    have Om : ∀ p, p ∈ O → p + w ≤ st + n * w := fun p hp => by
      rw [hO] at hp
      obtain ⟨k, k1, k2⟩ := List.mem_map.mp hp
      have := row_le (p := st) (w := w) (List.mem_range.mp k1)
      omega
    have ln := (f1 0 0).ln
    have cel : ∀ i, i < st + n * w → sv c2 ar i = sv cs ar i := fun i hi => f2.cel.trans ((f1 0 (st + n * w)).ce i hi (by omega))
    have op : ORP ar B n w down (fun p => rwC cs ar p w) O c2 := ⟨s2, Ol, by rw [f2.l0]; exact l1, fun k hk => by rw [k2 k hk, Og k hk], fun p hp => ⟨by have := Om p hp; rw [f2.l8]; omega, rwC_eq (fun k hk => cel _ (by have := Om p hp; omega))⟩⟩
    obtain ⟨O', c3, e3, op3, f3, pm, pw⟩ := runs_L (F := F) (ar := ar) (B := B) (n := n) (w := w) (st := st) (down := down) (R := fun p => rwC cs ar p w) hF hw hn q 10 F 1 O c2 (Nat.le_trans hn (by decide)) (by omega) (Nat.le_refl _) (by omega) op (fun f => SBL.one f O)
    rw [e3, pk_mul, nI_add]
    have l83 : kL c1 288 ar = kL c3 288 ar := by rw [f3.l8, f2.l8]
    obtain ⟨X', X2, e4, e5, s4, f4, r4⟩ := lay_L (F := F) (st := st) (cs := c3) hB hn hw op3 (fun p hp => Om p (pm.mem_iff.mp hp)) hb (by omega) n 0 F c3 (by omega) (by omega) op3.st op3.od op3.on (fun _ => STF.refl) (RWS.nil (by omega))
    have e4' : c_X8_sort_L108 F F c3 ar (nI st) (nI n) (nI w) (nI (st + n * w)) 0 = some X2 := e4
    have lO : (O'.map (fun p => rwC cs ar p w)).length = n := by rw [List.length_map]; exact op3.ol
    have b4 := r4.bd
    rw [lO] at b4
    obtain ⟨X3, e6, s6, b6, v6, v7, -, f6⟩ := scopy_ok (F := F) (fr := st + n * w) (to := st) (n := n * w) s4 hB b4 (by omega) (by omega)
    have e7 : X2 = X3 := Option.some.inj (e5.symm.trans e6)
    have srt : O'.map (fun p => rwC cs ar p w) = srtK (kd down) rows := by
      refine srt_uniq (K := kd down) (fun x y z => kdI_inj 0 x y z) ?_ ?_ (srt_srt rows)
      · refine List.Perm.trans ?_ (srt_perm rows).symm
        refine (pm.map _).trans ?_
        have e8 : O.map (fun p => rwC cs ar p w) = rows := by
          rw [← hr.eq, ← hnn, hO, List.map_map]
          rfl
        rw [e8]
      · unfold SRT
        refine List.pairwise_map.mpr (pw.imp (fun {a b} z => ?_))
        unfold leP at z
        rw [Bool.not_eq_true'] at z
        exact z
    rw [e4', e7]
    refine ⟨X3, rfl, s6, ?_, fun c m hm => ((((f1 c m).trans (f2.stf (m := m)) (Nat.le_refl _)).trans (f3.stf (m := m)) (Nat.le_refl _)).trans (f4 c) (by omega)).trans (f6 c m hm) (Nat.le_refl _)⟩
    rw [← srt]
    exact r4.cp (by rw [lO]; exact b6) (fun k hk => v6 k (by rw [lO] at hk; exact hk))
  · unfold c_X8_sort
    rw [if_neg (show ¬ (2 : Int32) ≤ nI n from nI_ge (a := n) (b := 2) (by omega) (by omega))]
    have e : srtK (kd down) rows = rows := srt_uniq (K := kd down) (fun x y z => kdI_inj 0 x y z) (srt_perm rows) (srt_srt rows) (SRT.small (by omega))
    rw [e]
    exact ⟨cs, rfl, h, hr, fun _ _ _ => STF.refl⟩

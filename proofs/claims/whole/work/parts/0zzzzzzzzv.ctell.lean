/-! the class tells what differs -/
abbrev CCT : Type := List (Nat × Int32)
/-- the changes told so far, in the class; room for M of them -/
def CCS (M : Nat) (C : CCT) (cs : CS) : Prop := ((12, 0) ∈ kE cs) ∧ ((428, 0) ∈ kE cs) ∧ (∃ j, kP cs 396 0 = some j) ∧ (M ≤ kL cs 396 0) ∧ (kL cs 396 0 ≤ 100000) ∧ ((429, 0) ∈ kE cs) ∧ (∃ j, kP cs 397 0 = some j) ∧ (M ≤ kL cs 397 0) ∧ (kL cs 397 0 ≤ 100000) ∧ (kI cs 398 0 = nI C.length) ∧ (∀ t, t < C.length → kA cs 396 0 t = nI (C.getD t (0, 0)).1 ∧ kA cs 397 0 t = (C.getD t (0, 0)).2)
theorem CCS.o {M : Nat} {C : CCT} {cs : CS} (h : CCS M C cs) : (12, 0) ∈ kE cs := h.1
theorem CCS.e6 {M : Nat} {C : CCT} {cs : CS} (h : CCS M C cs) : (428, 0) ∈ kE cs := h.2.1
theorem CCS.p6 {M : Nat} {C : CCT} {cs : CS} (h : CCS M C cs) : ∃ j, kP cs 396 0 = some j := h.2.2.1
theorem CCS.l6 {M : Nat} {C : CCT} {cs : CS} (h : CCS M C cs) : M ≤ kL cs 396 0 := h.2.2.2.1
theorem CCS.u6 {M : Nat} {C : CCT} {cs : CS} (h : CCS M C cs) : kL cs 396 0 ≤ 100000 := h.2.2.2.2.1
theorem CCS.e7 {M : Nat} {C : CCT} {cs : CS} (h : CCS M C cs) : (429, 0) ∈ kE cs := h.2.2.2.2.2.1
theorem CCS.p7 {M : Nat} {C : CCT} {cs : CS} (h : CCS M C cs) : ∃ j, kP cs 397 0 = some j := h.2.2.2.2.2.2.1
theorem CCS.l7 {M : Nat} {C : CCT} {cs : CS} (h : CCS M C cs) : M ≤ kL cs 397 0 := h.2.2.2.2.2.2.2.1
theorem CCS.u7 {M : Nat} {C : CCT} {cs : CS} (h : CCS M C cs) : kL cs 397 0 ≤ 100000 := h.2.2.2.2.2.2.2.2.1
theorem CCS.c {M : Nat} {C : CCT} {cs : CS} (h : CCS M C cs) : kI cs 398 0 = nI C.length := h.2.2.2.2.2.2.2.2.2.1
theorem CCS.r {M : Nat} {C : CCT} {cs : CS} (h : CCS M C cs) : ∀ t, t < C.length → kA cs 396 0 t = nI (C.getD t (0, 0)).1 ∧ kA cs 397 0 t = (C.getD t (0, 0)).2 := h.2.2.2.2.2.2.2.2.2.2
/-- what telling writes -/
def TCF (cs cs' : CS) : Prop := (cs'.1 = cs.1) ∧ (∀ x j, ¬ (j = 0 ∧ 396 ≤ x ∧ x ≤ 398) → AT cs cs' x j) ∧ (∀ x j, kP cs' x j = kP cs x j ∧ kL cs' x j = kL cs x j)
theorem TCF.e1 {cs cs' : CS} (h : TCF cs cs') : cs'.1 = cs.1 := h.1
theorem TCF.at' {cs cs' : CS} (h : TCF cs cs') : ∀ x j, ¬ (j = 0 ∧ 396 ≤ x ∧ x ≤ 398) → AT cs cs' x j := h.2.1
theorem TCF.pl {cs cs' : CS} (h : TCF cs cs') : ∀ x j, kP cs' x j = kP cs x j ∧ kL cs' x j = kL cs x j := h.2.2
theorem TCF.refl {cs : CS} : TCF cs cs := ⟨rfl, fun _ _ _ => AT.refl, fun _ _ => ⟨rfl, rfl⟩⟩
theorem TCF.trans {a b d : CS} (h : TCF a b) (g : TCF b d) : TCF a d := ⟨g.e1.trans h.e1, fun x j hx => (h.at' x j hx).trans (g.at' x j hx), fun x j => ⟨(g.pl x j).1.trans (h.pl x j).1, (g.pl x j).2.trans (h.pl x j).2⟩⟩
theorem TCF.em {a b : CS} (h : TCF a b) : EM a b := EM.of (congrArg (fun z => z.2.2) h.e1)
theorem TCF.str {ar n : Nat} {a b : CS} (h : TCF a b) (g : STR ar n a) : STR ar n b := g.at' h.em (h.at' 288 ar (by omega)) (h.at' 289 ar (by omega))
theorem TCF.rws {ar p w : Nat} {rows : LL} {a b : CS} (h : TCF a b) (g : RWS ar p w rows a) : RWS ar p w rows b := g.mv (Nat.le_of_eq (h.at' 288 ar (by omega)).l.symm) (fun i _ _ => sv.at' (h.at' 288 ar (by omega)) (h.at' 289 ar (by omega)))
/-- one change noted -/
theorem tell_1 {F M i p q ar1 ar2 : Nat} {C : CCT} {rc15 : CS → Nat → Nat → Int32 → Nat → Int32 → Int32 → Int32 → Int32 → Int32 → Option CS} {q2 q4 u5 u6 u7 : Int32} {cs : CS} (h : CCS M C cs) (hM : C.length < M) (hp : 1 ≤ p ∧ p ≤ 600) (hq : q ≤ 600) (hi : i ≤ 600) : ∃ cs', c_X11_tellChanges_b122 F rc15 cs 0 ar1 q2 ar2 q4 u5 u6 u7 (nI p) (nI i) (nI q) (nI p) = rc15 cs' 0 ar1 q2 ar2 q4 u5 u6 u7 (nI (i + p)) ∧ TCF cs cs' ∧ CCS M (C ++ (if q < p then [(i, u5 * nI (p - q))] else [])) cs' := by
  obtain ⟨j6, h6⟩ := h.p6
  obtain ⟨j7, h7⟩ := h.p7
  have l6 := h.l6
  have l7 := h.l7
  have v6 := h.u6
  have v7 := h.u7
  have sub : nI p - nI q = -(nI q) + nI p := by rw [Int32.sub_eq_add_neg, Int32.add_comm]
  have sg := sg_le (ca := q) (cb := p) hq hp.2
  have b189 : ∀ cs', c_X11_tellChanges_b189 F rc15 cs' 0 ar1 q2 ar2 q4 u5 u6 u7 (nI p) (nI i) = rc15 cs' 0 ar1 q2 ar2 q4 u5 u6 u7 (nI (i + p)) := fun cs' => by
    unfold c_X11_tellChanges_b189
    rw [if_neg (show ¬ nI p < 1 from nI_nlt (a := p) (b := 1) hp.1 (by omega)), nI_add]
  unfold c_X11_tellChanges_b122
  rw [sub]
  by_cases z : q < p
  · rw [if_neg (fun w => by have := sg.1.mp w; omega), if_pos z, sg_up (by omega)]
    obtain ⟨c1, hc1⟩ : ∃ y, y = sA cs 396 0 C.length (nI i) := ⟨_, rfl⟩
    obtain ⟨c2, hc2⟩ : ∃ y, y = sA c1 397 0 C.length (u5 * nI (p - q)) := ⟨_, rfl⟩
    have o1 : (12, 0) ∈ kE c1 := by rw [hc1]; exact h.o
    have o2 : (12, 0) ∈ kE c2 := by rw [hc2]; exact o1
    have t1 : kI c1 398 0 = nI C.length := by rw [hc1]; exact h.c
    have t2 : kI c2 398 0 = nI C.length := by rw [hc2]; exact t1
    have p71 : kP c1 397 0 = some j7 := by rw [hc1]; exact h7
    have l71 : kL c1 397 0 = kL cs 397 0 := by rw [hc1]; rfl
    have f1 : TCF cs (sI c2 398 0 (nI (C.length + 1))) := ⟨by rw [hc2, hc1]; rfl, fun x j hx => by
      refine AT.trans ?_ (AT.sI (by omega))
      rw [hc2]
      refine AT.trans ?_ (AT.sA (by omega))
      rw [hc1]
      exact AT.sA (by omega), fun x j => by rw [hc2, hc1]; exact ⟨rfl, rfl⟩⟩
    refine ⟨sI c2 398 0 (nI (C.length + 1)), ?_, f1, ?_⟩
    · rw [gI_ok h.o, ob_s, h.c, gA_ok h.o, h6, ob_s, lnA_n h.e6 h6, ob_s, if_neg (nI_ge (by omega) (by omega)), ob_s, gA_ok h.o, h7, ob_s, lnA_n h.e7 h7, ob_s, if_neg (nI_ge (by omega) (by omega)), ob_s, ob_s, wA_n h.e6 h6 (by omega) (by omega), ob_s, ← hc1, gA_ok o1, p71, ob_s, gI_ok o1, ob_s, t1, wA_n (by rw [hc1]; exact h.e7) p71 (by rw [l71]; omega) (by rw [l71]; omega), ob_s, ← hc2, gI_ok o2, ob_s, t2, nI_1, pI_ok o2, ob_s]
      exact b189 _
    · have lc : (C ++ [(i, u5 * nI (p - q))]).length = C.length + 1 := by rw [List.length_append]; rfl
      refine ⟨o2, by rw [hc2, hc1]; exact h.e6, ⟨j6, by rw [hc2, hc1]; exact h6⟩, by rw [(f1.pl 396 0).2]; exact l6, by rw [(f1.pl 396 0).2]; exact v6, by rw [hc2, hc1]; exact h.e7, ⟨j7, by rw [hc2, hc1]; exact h7⟩, by rw [(f1.pl 397 0).2]; exact l7, by rw [(f1.pl 397 0).2]; exact v7, by rw [kI_s, lc], fun t ht => ?_⟩
      rw [lc] at ht
      have k6 : kA (sI c2 398 0 (nI (C.length + 1))) 396 0 t = upd (kA cs 396 0) C.length (nI i) t := by
        show kA c2 396 0 t = _
        rw [hc2, (AT.sA (by omega) : AT c1 (sA c1 397 0 C.length (u5 * nI (p - q))) 396 0).a, hc1]
        show u2 (kA cs) 396 0 (upd (kA cs 396 0) C.length (nI i)) 396 0 t = _
        rw [u2_s]
      have k7 : kA (sI c2 398 0 (nI (C.length + 1))) 397 0 t = upd (kA cs 397 0) C.length (u5 * nI (p - q)) t := by
        show kA c2 397 0 t = _
        rw [hc2]
        show u2 (kA c1) 397 0 (upd (kA c1 397 0) C.length (u5 * nI (p - q))) 397 0 t = _
        rw [u2_s, hc1, (AT.sA (by omega) : AT cs (sA cs 396 0 C.length (nI i)) 397 0).a]
      rw [k6, k7]
      by_cases y : t = C.length
      · rw [y, pk_us, pk_us, List.getD_eq_getElem?_getD, List.getElem?_concat_length]
        exact ⟨rfl, rfl⟩
      · rw [pk_un y, pk_un y, List.getD_eq_getElem?_getD, List.getElem?_append_left (by omega), ← List.getD_eq_getElem?_getD]
        exact h.r t (by omega)
  · rw [if_pos (sg.1.mpr (by omega)), if_neg z, List.append_nil]
    exact ⟨cs, b189 cs, TCF.refl, h⟩
theorem kd_at (L : List OV) : kdI (dnB 0) 0 L = kO L := congrFun kd_0 L
theorem adv_L {F w i n1 n2 ar1 ar2 : Nat} {A E : LL} {rc15 : CS → Nat → Nat → Int32 → Nat → Int32 → Int32 → Int32 → Int32 → Int32 → Option CS} {u5 p : Int32} {cs : CS} (hF : 10000 ≤ F) (hw : w ≤ 100) (s1 : STR ar1 n1 cs) (s2 : STR ar2 n2 cs) (hA : RWS ar1 0 w A cs) (hE : RWS ar2 0 w E cs) (e6 : E.length ≤ 600) (a6 : A.length ≤ 600) (hi : i < A.length) : ∀ (d j u : Nat), E.length = j + d → d < u → (∀ y, y ∈ E.take j → lexI (kO y) (kO (A.getD i [])) = true) → ∃ j', j' ≤ E.length ∧ (∀ y, y ∈ E.take j' → lexI (kO y) (kO (A.getD i [])) = true) ∧ (j' < E.length → lexI (kO (E.getD j' [])) (kO (A.getD i [])) = false) ∧ c_X11_tellChanges_L32 F rc15 u cs 0 ar1 (nI A.length) ar2 (nI E.length) u5 (nI w) (nI j) p (nI i) = c_X11_tellChanges_b66 F rc15 cs 0 ar1 (nI A.length) ar2 (nI E.length) u5 (nI w) (nI j') p (nI i) := by
  have l1 := s1.l8
  have l2 := s2.l8
  obtain ⟨r1, r2⟩ := at_0 hA hi
  intro d
  induction d with
  | zero =>
    intro j u d1 d2 lt
    obtain ⟨u, rfl⟩ : ∃ z, u = z + 1 := ⟨u - 1, by omega⟩
    refine ⟨j, by omega, lt, fun w => absurd w (by omega), ?_⟩
    rw [c_X11_tellChanges_L32, if_pos (nI_le (by omega) (by omega))]
  | succ d ih =>
    intro j u d1 d2 lt
    obtain ⟨u, rfl⟩ : ∃ z, u = z + 1 := ⟨u - 1, by omega⟩
    obtain ⟨r3, r4⟩ := at_0 hE (show j < E.length by omega)
    have cl := cmD_lex (dn := dnB 0) 0 (E.getD j []) (A.getD i []) (by rw [← r1, ← r3, rwC_len, rwC_len])
    rw [kd_at, kd_at] at cl
    rw [c_X11_tellChanges_L32, if_neg (nI_ge (by omega) (by omega)), ckE_ok s2.o, ob_s, pk_mul, pk_mul, cmpC_ok hF s2 s1 hw (by omega) (by omega), ob_s, r1, r3]
    by_cases q : (0 : Int32) ≤ cmD (dnB 0) 0 (E.getD j []) (A.getD i [])
    · rw [if_pos q]
      exact ⟨j, by omega, lt, fun _ => cl.mp q, rfl⟩
    · rw [if_neg q, nI_1]
      refine ih (j + 1) u (by omega) (by omega) (fun y hy => ?_)
      rw [take_get (show j < E.length by omega)] at hy
      rcases List.mem_append.mp hy with v | v
      · exact lt y v
      · rw [List.mem_singleton.mp v]
        cases z : lexI (kO (E.getD j [])) (kO (A.getD i [])) with
        | true => rfl
        | false => exact absurd (cl.mpr z) q
/-- what tells of the rows up to i -/
def tel (sg : Int32) (A E : LL) (i : Nat) (D : CCT) : Prop := D.map (fun z => (A.getD z.1 [], z.2)) = (chP (A.take i) E).map (fun z => (z.1, sg * nI z.2)) ∧ ∀ z, z ∈ D → z.1 < A.length
theorem tel_L {F M w n1 n2 ar1 ar2 : Nat} {A E : LL} {C0 : CCT} {sg : Int32} (hF : 10000 ≤ F) (hw : w ≤ 100) (sa : SRT kO A) (se : SRT kO E) (a6 : A.length ≤ 600) (e6 : E.length ≤ 600) (hM : C0.length + A.length ≤ M) : ∀ (d i j u : Nat) (D : CCT) (cs : CS), A.length - i ≤ d → d < u → i ≤ A.length → j ≤ E.length → (∀ y z, y ∈ E.take j → z ∈ A.drop i → lexI (kO y) (kO z) = true) → (∀ y z, y ∈ A.take i → z ∈ A.drop i → lexI (kO y) (kO z) = true) → STR ar1 n1 cs → STR ar2 n2 cs → RWS ar1 0 w A cs → RWS ar2 0 w E cs → CCS M (C0 ++ D) cs → tel sg A E i D → D.length ≤ i → ∃ D' cs', c_X11_tellChanges_L15 F u cs 0 ar1 (nI A.length) ar2 (nI E.length) sg (nI w) (nI j) (nI i) = some cs' ∧ TCF cs cs' ∧ CCS M (C0 ++ D') cs' ∧ tel sg A E A.length D' := by
  intro d
  induction d with
  | zero =>
    intro i j u D cs d1 d2 hi hj b1 b2 s1 s2 hA hE ch te dl
    obtain ⟨u, rfl⟩ : ∃ z, u = z + 1 := ⟨u - 1, by omega⟩
    rw [c_X11_tellChanges_L15, if_pos (nI_le (by omega) (by omega))]
    rw [show i = A.length by omega] at te
    exact ⟨D, cs, rfl, TCF.refl, ch, te⟩
  | succ d ih =>
    intro i j u D cs d1 d2 hi hj b1 b2 s1 s2 hA hE ch te dl
    obtain ⟨u, rfl⟩ : ∃ z, u = z + 1 := ⟨u - 1, by omega⟩
    by_cases q : i = A.length
    · rw [c_X11_tellChanges_L15, if_pos (nI_le (by omega) (by omega))]
      rw [q] at te
      exact ⟨D, cs, rfl, TCF.refl, ch, te⟩
    · have hi2 : i < A.length := by omega
      obtain ⟨x, hx⟩ : ∃ z, z = A.getD i [] := ⟨_, rfl⟩
      obtain ⟨ex, r1, r2⟩ := rep_ok (F := F) hF hw s1 hA a6 hi2
      obtain ⟨j', j1, j2, j3, j4⟩ := adv_L (F := F) (rc15 := c_X11_tellChanges_L15 F u) (u5 := sg) (p := nI (ex + 1)) hF hw s1 s2 hA hE e6 a6 hi2 (E.length - j) j F (by omega) (by omega) (fun y hy => b1 y _ hy (mem_drop_at hi2))
      rw [c_X11_tellChanges_L15, if_neg (nI_ge (by omega) (by omega)), ckE_ok s1.o, ob_s, r2, ob_s, j4]
      have rl := r1.len a6
      have r0 := r1.1
      have xn : x ∉ A.take i := fun w => by
        have v := b2 _ _ w (mem_drop_at hi2)
        rw [← hx, lex_ir] at v
        cases v
      have ta := run_take r1
      rw [← hx] at ta j2 j3
      have cl : (C0 ++ D).length < M := by rw [List.length_append]; omega
      have step : ∀ c, c ≤ 600 → E.count x = c → ∃ D' cs', c_X11_tellChanges_b122 F (c_X11_tellChanges_L15 F u) cs 0 ar1 (nI A.length) ar2 (nI E.length) sg (nI w) (nI j') (nI (ex + 1)) (nI i) (nI c) (nI (ex + 1)) = some cs' ∧ TCF cs cs' ∧ CCS M (C0 ++ D') cs' ∧ tel sg A E A.length D' := fun c c6 ec => by
        obtain ⟨c1, g1, g2, g3⟩ := tell_1 (F := F) (ar1 := ar1) (ar2 := ar2) (rc15 := c_X11_tellChanges_L15 F u) (q2 := nI A.length) (q4 := nI E.length) (u5 := sg) (u6 := nI w) (u7 := nI j') (i := i) (p := ex + 1) (q := c) ch cl (by omega) c6 (by omega)
        rw [g1]
        rw [List.append_assoc] at g3
        obtain ⟨D', c2, k1, k2, k3, k4⟩ := ih (i + (ex + 1)) j' u (D ++ (if c < ex + 1 then [(i, sg * nI (ex + 1 - c))] else [])) c1 (by omega) (by omega) (by omega) j1 (fun y z hy hz => lex_tr _ _ _ (j2 y hy) (by rw [hx]; exact run_gt sa r1 hz)) (fun y z hy hz => by
            rw [show i + (ex + 1) = i + ex + 1 by omega, ta] at hy
            rcases List.mem_append.mp hy with v | v
            · exact b2 y z v (drop_sub (by omega) hz)
            · rw [List.eq_of_mem_replicate v, hx]
              exact run_gt sa r1 hz) (g2.str s1) (g2.str s2) (g2.rws hA) (g2.rws hE) g3 (by
            refine ⟨?_, fun z hz => ?_⟩
            · rw [show i + (ex + 1) = i + ex + 1 by omega, ta, chP_one xn, ec, List.map_append, List.map_append, te.1]
              refine congrArg (_ ++ ·) ?_
              by_cases y : c < ex + 1
              · rw [if_pos y, if_pos y, hx]
                rfl
              · rw [if_neg y, if_neg y]
                rfl
            · rcases List.mem_append.mp hz with v | v
              · exact te.2 z v
              · by_cases y : c < ex + 1
                · rw [if_pos y] at v
                  rw [List.mem_singleton.mp v]
                  exact hi2
                · rw [if_neg y] at v
                  cases v) (by
            rw [List.length_append]
            by_cases y : c < ex + 1
            · rw [if_pos y]
              show D.length + 1 ≤ _
              omega
            · rw [if_neg y]
              show D.length + 0 ≤ _
              omega)
        exact ⟨D', c2, k1, g2.trans k2, k3, k4⟩
      have s0 : (∀ c, c ≤ 600 → E.count x = c → c = 0 → ∃ D' cs', c_X11_tellChanges_b98 F (c_X11_tellChanges_L15 F u) cs 0 ar1 (nI A.length) ar2 (nI E.length) sg (nI w) (nI j') (nI (ex + 1)) (nI i) = some cs' ∧ TCF cs cs' ∧ CCS M (C0 ++ D') cs' ∧ tel sg A E A.length D') := fun c c6 ec e0 => by
        unfold c_X11_tellChanges_b98 c_X11_tellChanges_b99
        rw [if_pos rfl]
        exact step 0 (by omega) (by rw [ec, e0])
      unfold c_X11_tellChanges_b66
      by_cases z : E.length ≤ j'
      · rw [if_pos (nI_le z (by omega))]
        exact s0 0 (by omega) (cnt_none se j2 (fun w => absurd w (by omega))) rfl
      · have hj2 : j' < E.length := by omega
        obtain ⟨w1, w2⟩ := at_0 hA hi2
        obtain ⟨w3, w4⟩ := at_0 hE hj2
        have l1 := s1.l8
        have l2 := s2.l8
        have z0 := cmD_0 (dn := dnB 0) 0 (E.getD j' []) x (by rw [hx, ← w1, ← w3, rwC_len, rwC_len])
        rw [if_neg (nI_ge (by omega) (by omega)), ckE_ok s2.o, ob_s, pk_mul, pk_mul, cmpC_ok hF s2 s1 hw (by omega) (by omega), ob_s, w1, w3, ← hx]
        by_cases y : E.getD j' [] = x
        · rw [if_pos (z0.mpr y)]
          obtain ⟨e2, k1, k2⟩ := rep_ok (F := F) hF hw s2 hE e6 hj2
          have k3 := k1.len e6
          unfold c_X11_tellChanges_b99
          rw [if_neg (show ¬ (1 : Int32) = 0 by decide), ckE_ok s2.o, ob_s, k2, ob_s]
          refine step (e2 + 1) (by omega) ?_
          have cr := cnt_run se k1 (by rw [y]; exact j2)
          rw [y] at cr
          exact cr
        · rw [if_neg (fun w => y (z0.mp w))]
          refine s0 0 (by omega) (cnt_none se j2 (fun _ => ?_)) rfl
          cases v : lexI (kO x) (kO (E.getD j' [])) with
          | true => rfl
          | false => exact absurd (kO_inj _ _ (lex_tri _ _ (j3 hj2) v)) y

/-! the columns of a SOURCE as checking lays them -/
/-- the streams, as far as checking sees them -/
def STM (ss : Nat) (cs : CS) (rs : RS) : Prop := ((8, 2) ∈ kE cs) ∧ (kI cs 256 2 = nI ss) ∧ (rs.1 4 = nI ss) ∧ (ss ≤ 6) ∧ ((290, 2) ∈ kE cs) ∧ (∃ j, kP cs 258 2 = some j) ∧ (kL cs 258 2 = 6) ∧ (∀ d, d < ss → ∃ m, 1 ≤ m ∧ m ≤ 4 ∧ kA cs 258 2 d = nI m ∧ rs.2.2.1 5 d = nI m)
theorem STM.e8 {ss : Nat} {cs : CS} {rs : RS} (h : STM ss cs rs) : (8, 2) ∈ kE cs := h.1
theorem STM.c256 {ss : Nat} {cs : CS} {rs : RS} (h : STM ss cs rs) : kI cs 256 2 = nI ss := h.2.1
theorem STM.r4 {ss : Nat} {cs : CS} {rs : RS} (h : STM ss cs rs) : rs.1 4 = nI ss := h.2.2.1
theorem STM.s6 {ss : Nat} {cs : CS} {rs : RS} (h : STM ss cs rs) : ss ≤ 6 := h.2.2.2.1
theorem STM.e258 {ss : Nat} {cs : CS} {rs : RS} (h : STM ss cs rs) : (290, 2) ∈ kE cs := h.2.2.2.2.1
theorem STM.p258 {ss : Nat} {cs : CS} {rs : RS} (h : STM ss cs rs) : ∃ j, kP cs 258 2 = some j := h.2.2.2.2.2.1
theorem STM.l258 {ss : Nat} {cs : CS} {rs : RS} (h : STM ss cs rs) : kL cs 258 2 = 6 := h.2.2.2.2.2.2.1
theorem STM.ct {ss : Nat} {cs : CS} {rs : RS} (h : STM ss cs rs) : ∀ d, d < ss → ∃ m, 1 ≤ m ∧ m ≤ 4 ∧ kA cs 258 2 d = nI m ∧ rs.2.2.1 5 d = nI m := h.2.2.2.2.2.2.2
theorem STM.mv {ss : Nat} {cs cs' : CS} {rs rs' : RS} (h : STM ss cs rs) (em : EM cs cs') (a6 : AT cs cs' 256 2) (a8 : AT cs cs' 258 2) (r4 : rs'.1 4 = rs.1 4) (r5 : rs'.2.2.1 5 = rs.2.2.1 5) : STM ss cs' rs' := ⟨em _ h.e8, by rw [a6.i]; exact h.c256, r4.trans h.r4, h.s6, em _ h.e258, by rw [a8.p]; exact h.p258, by rw [a8.l]; exact h.l258, fun d hd => by rw [a8.a, r5]; exact h.ct d hd⟩
theorem STM.jk {ss t c k lo hi Sl Sh : Nat} {cs cs' : CS} {rs rs' : RS} (h : STM ss cs rs) (j : JK t c k lo hi Sl Sh cs rs cs' rs') : STM ss cs' rs' := h.mv (EM.of (congrArg (fun z => z.2.2) j.c1)) (j.a0 256 2 (by unfold kX; omega)) (j.a0 258 2 (by unfold kX; omega)) (j.fr.f (by unfold jK; omega)) (j.fr.a (by unfold jK; omega))
theorem stm_in {F ss d : Nat} {cs : CS} {rs : RS} (h : STM ss cs rs) (hd : d < ss) : c_X7_exists F cs 2 (nI d) = some 1 := by
  have s6 := h.s6
  obtain ⟨j, p⟩ := h.p258
  unfold c_X7_exists c_X7_exists_b26
  rw [if_neg (nI_pos (by omega)), gI_ok h.e8, ob_s, h.c256, if_neg (nI_ge hd (by omega)), gA_ok h.e8, p, ob_s, lnA_n h.e258 p, ob_s, h.l258, if_neg (nI_ge (b := 6) (by omega) (by decide))]
  rfl
theorem stm_out {F ss d : Nat} {cs : CS} {rs : RS} (h : STM ss cs rs) (hd : ss ≤ d) (h9 : d ≤ 9) : c_X7_exists F cs 2 (nI d) = some 0 := by
  have s6 := h.s6
  unfold c_X7_exists c_X7_exists_b25 c_X7_exists_b26
  rw [if_neg (nI_pos (by omega)), gI_ok h.e8, ob_s, h.c256, if_pos (nI_le hd (by omega))]
  rfl
theorem stm_cc {F ss d m : Nat} {cs : CS} {rs : RS} (h : STM ss cs rs) (hd : d < ss) (hm : kA cs 258 2 d = nI m) : c_X7_columnCount F cs 2 (nI d) = some (nI m) := by
  have s6 := h.s6
  obtain ⟨j, p⟩ := h.p258
  unfold c_X7_columnCount c_X7_columnCount_b18
  rw [ckE_ok h.e8, ob_s, stm_in h hd, ob_s, if_neg (by decide), gA_ok h.e8, p, ob_s, rA_n h.e258 p (by rw [h.l258]; omega) (by rw [h.l258]; omega), ob_s, hm]
theorem adC_100 {o m : Nat} {cs : CS} {r : Int32} {nm : Int64} {mk ty : Int32} : kA (adC cs o m r nm mk ty) 100 o = upd (kA cs 100 o) m ty := by simp [adC, kA_sA, kA_sB, kA_sI, u2]
/-- columns laid behind those that are there -/
def LAYC (cl m m' : Nat) (g : Nat → Int64) (ty : Nat → Int32) (cs : CS) (cs' : CS) : Prop := (CLM cl m' cs') ∧ (∀ y, y < m' → kB cs' 98 cl y = if y < m then kB cs 98 cl y else g y) ∧ (∀ y, y < m' → kA cs' 100 cl y = if y < m then kA cs 100 cl y else ty y) ∧ (cs'.1 = cs.1) ∧ (∀ x j, ¬ (96 ≤ x ∧ x ≤ 100 ∧ j = cl) → AT cs cs' x j) ∧ (∀ x j, kP cs' x j = kP cs x j ∧ kL cs' x j = kL cs x j)
theorem LAYC.cm {cl m m' : Nat} {g : Nat → Int64} {ty : Nat → Int32} {cs : CS} {cs' : CS} (h : LAYC cl m m' g ty cs cs') : CLM cl m' cs' := h.1
theorem LAYC.nm {cl m m' : Nat} {g : Nat → Int64} {ty : Nat → Int32} {cs : CS} {cs' : CS} (h : LAYC cl m m' g ty cs cs') : ∀ y, y < m' → kB cs' 98 cl y = if y < m then kB cs 98 cl y else g y := h.2.1
theorem LAYC.tp {cl m m' : Nat} {g : Nat → Int64} {ty : Nat → Int32} {cs : CS} {cs' : CS} (h : LAYC cl m m' g ty cs cs') : ∀ y, y < m' → kA cs' 100 cl y = if y < m then kA cs 100 cl y else ty y := h.2.2.1
theorem LAYC.c1 {cl m m' : Nat} {g : Nat → Int64} {ty : Nat → Int32} {cs : CS} {cs' : CS} (h : LAYC cl m m' g ty cs cs') : cs'.1 = cs.1 := h.2.2.2.1
theorem LAYC.a0 {cl m m' : Nat} {g : Nat → Int64} {ty : Nat → Int32} {cs : CS} {cs' : CS} (h : LAYC cl m m' g ty cs cs') : ∀ x j, ¬ (96 ≤ x ∧ x ≤ 100 ∧ j = cl) → AT cs cs' x j := h.2.2.2.2.1
theorem LAYC.pl {cl m m' : Nat} {g : Nat → Int64} {ty : Nat → Int32} {cs : CS} {cs' : CS} (h : LAYC cl m m' g ty cs cs') : ∀ x j, kP cs' x j = kP cs x j ∧ kL cs' x j = kL cs x j := h.2.2.2.2.2
theorem LAYC.one {cl m : Nat} {v : Int64} {tt : Int32} {g : Nat → Int64} {ty : Nat → Int32} {cs : CS} (h : CLM cl m cs) (hm : m < 8) (hg : g m = v) (ht : ty m = tt) : LAYC cl m (m + 1) g ty cs (adC cs cl m (-1) v 0 tt) := by
  refine ⟨adC_clm h hm, fun y hy => ?_, fun y hy => ?_, rfl, fun x j hx => adC_at hx, fun _ _ => ⟨rfl, rfl⟩⟩
  · rw [adC_98]
    show (if y = m then v else kB cs 98 cl y) = _
    by_cases w : y = m
    · rw [if_pos w, if_neg (by omega), w, hg]
    · rw [if_neg w, if_pos (by omega)]
  · rw [adC_100]
    by_cases w : y = m
    · rw [w, pk_us, if_neg (by omega), ht]
    · rw [pk_un w, if_pos (by omega)]
theorem LAYC.trans {cl m m1 m2 : Nat} {g : Nat → Int64} {ty : Nat → Int32} {a b d : CS} (h : LAYC cl m m1 g ty a b) (h' : LAYC cl m1 m2 g ty b d) (hm : m ≤ m1) : LAYC cl m m2 g ty a d := by
  refine ⟨h'.cm, fun y hy => ?_, fun y hy => ?_, h'.c1.trans h.c1, fun x j hx => (h.a0 x j hx).trans (h'.a0 x j hx), fun x j => ⟨(h'.pl x j).1.trans (h.pl x j).1, (h'.pl x j).2.trans (h.pl x j).2⟩⟩
  · rw [h'.nm y hy]
    by_cases w : y < m1
    · rw [if_pos w, h.nm y w]
    · rw [if_neg w, if_neg (by omega)]
  · rw [h'.tp y hy]
    by_cases w : y < m1
    · rw [if_pos w, h.tp y w]
    · rw [if_neg w, if_neg (by omega)]
/-- the columns of a stream -/
theorem leaf_L {F t c cap s k ss oo cl d cnt : Nat} {rs : RS} (hc : cnt ≤ 4) (hd : d < ss) : ∀ (w i u : Nat) (cs : CS), cnt + 1 - i ≤ w → w < u → 1 ≤ i → i ≤ cnt + 1 → CK t c cap s k cs → STM ss cs rs → kA cs 258 2 d = nI cnt → (7, oo) ∈ kE cs → kI cs 224 oo = nI d → kR cs 235 oo = some cl → CLM cl (i - 1) cs → ∃ cs', c_X0_checkLeaf_L29 F u cs k oo (nI i) = some cs' ∧ LAYC cl (i - 1) (cnt + 1) (fun y => if y = cnt then 0 else lN (y + 1)) (fun _ => 1) cs cs' := by
  intro w
  induction w with
  | zero =>
    intro i u cs h1 h2 h3 h4 ck st hct e7 i224 r235 cm
    obtain ⟨u, rfl⟩ : ∃ z, u = z + 1 := ⟨u - 1, by omega⟩
    have ei : i - 1 = cnt := by omega
    rw [ei] at cm ⊢
    refine ⟨_, ?_, LAYC.one (v := 0) (tt := 1) cm (by omega) (if_pos rfl) rfl⟩
    rw [c_X0_checkLeaf_L29, gR_ok ck.o, ob_s, gI_ok e7, ob_s, ck.r33, ob_s, ckE_ok st.e8, ob_s, i224, stm_cc st hd hct, ob_s, if_pos (nI_lt (by omega) (by omega)), gR_ok e7, ob_s, r235, ob_s, ckE_ok cm.e, ob_s, adC_ok cm (by omega), ob_s]
  | succ w ih =>
    intro i u cs h1 h2 h3 h4 ck st hct e7 i224 r235 cm
    by_cases z : cnt < i
    · exact ih i u cs (by omega) (by omega) h3 h4 ck st hct e7 i224 r235 cm
    · obtain ⟨u, rfl⟩ : ∃ z, u = z + 1 := ⟨u - 1, by omega⟩
      have L1 : LAYC cl (i - 1) (i - 1 + 1) (fun y => if y = cnt then 0 else lN (y + 1)) (fun _ => 1) cs (adC cs cl (i - 1) (-1) (lN i) 0 1) := LAYC.one cm (by omega) (by
        show (if i - 1 = cnt then 0 else lN (i - 1 + 1)) = lN i
        rw [if_neg (by omega), show i - 1 + 1 = i by omega]) rfl
      obtain ⟨c2, hc2⟩ : ∃ x, x = adC cs cl (i - 1) (-1) (lN i) 0 1 := ⟨_, rfl⟩
      rw [← hc2, show i - 1 + 1 = i by omega] at L1
      have em : EM cs c2 := EM.of (congrArg (fun z => z.2.2) L1.c1)
      have ck2 : CK t c cap s k c2 := ck.mv em (fun x hx => L1.a0 x k (by omega)) (fun x _ _ => L1.pl x c) (L1.a0 64 c (by omega)).i
      have cm2 := L1.cm
      rw [show i = i + 1 - 1 by omega] at cm2
      obtain ⟨cs', t1, t2⟩ := ih (i + 1) u c2 (by omega) (by omega) (by omega) (by omega) ck2 (st.mv em (L1.a0 256 2 (by omega)) (L1.a0 258 2 (by omega)) rfl rfl) (by rw [(L1.a0 258 2 (by omega)).a]; exact hct) (em _ e7) (by rw [(L1.a0 224 oo (by omega)).i]; exact i224) (by rw [(L1.a0 235 oo (by omega)).r]; exact r235) cm2
      rw [show i + 1 - 1 = i by omega] at t2
      refine ⟨cs', ?_, L1.trans t2 (by omega)⟩
      rw [c_X0_checkLeaf_L29, gR_ok ck.o, ob_s, gI_ok e7, ob_s, ck.r33, ob_s, ckE_ok st.e8, ob_s, i224, stm_cc st hd hct, ob_s, if_neg (nI_nlt (a := cnt) (b := i) (by omega) (by omega)), gR_ok e7, ob_s, r235, ob_s, ckE_ok cm.e, ob_s, nI_l (by omega), adC_ok cm (by omega), ob_s, ← hc2, nI_1]
      exact t1
/-- the columns of an inner QUERY -/
theorem inner_L {F oo cl it m : Nat} {T : TC_X0_checkQuery} (hne : it ≠ cl) : ∀ (w y u : Nat) (cs : CS), m - y ≤ w → w < u → y ≤ m → (7, oo) ∈ kE cs → kR cs 235 oo = some cl → CLM it m cs → CLM cl y cs → ∃ cs', c_X0_checkInner_L40 F T u cs oo it (nI y) = some cs' ∧ LAYC cl y m (fun z => kB cs 98 it z) (fun z => kA cs 100 it z) cs cs' := by
  have fin : ∀ y u (cs : CS), m ≤ y → y ≤ m → CLM it m cs → CLM cl y cs → ∃ cs', c_X0_checkInner_L40 F T (u + 1) cs oo it (nI y) = some cs' ∧ LAYC cl y m (fun z => kB cs 98 it z) (fun z => kA cs 100 it z) cs cs' := fun y u cs h1 h2 ci cm => by
    have m8 := ci.m8
    have e : y = m := by omega
    rw [e] at cm ⊢
    refine ⟨cs, ?_, cm, fun y hy => by rw [if_pos hy], fun y hy => by rw [if_pos hy], rfl, fun _ _ _ => AT.refl, fun _ _ => ⟨rfl, rfl⟩⟩
    rw [c_X0_checkInner_L40, gI_ok ci.e, ob_s, ci.sz, if_pos (nI_le (Nat.le_refl _) (by omega))]
    rfl
  intro w
  induction w with
  | zero =>
    intro y u cs h1 h2 h3 e7 r235 ci cm
    obtain ⟨u, rfl⟩ : ∃ z, u = z + 1 := ⟨u - 1, by omega⟩
    exact fin y u cs (by omega) h3 ci cm
  | succ w ih =>
    intro y u cs h1 h2 h3 e7 r235 ci cm
    obtain ⟨u, rfl⟩ : ∃ z, u = z + 1 := ⟨u - 1, by omega⟩
    have m8 := ci.m8
    by_cases z : m ≤ y
    · exact fin y u cs z h3 ci cm
    · obtain ⟨j98, p98⟩ := ci.p98
      obtain ⟨j100, p100⟩ := ci.p100
      have L1 : LAYC cl y (y + 1) (fun z => kB cs 98 it z) (fun z => kA cs 100 it z) cs (adC cs cl y (-1) (kB cs 98 it y) 0 (kA cs 100 it y)) := LAYC.one cm (by omega) rfl rfl
      obtain ⟨c2, hc2⟩ : ∃ x, x = adC cs cl y (-1) (kB cs 98 it y) 0 (kA cs 100 it y) := ⟨_, rfl⟩
      rw [← hc2] at L1
      have em : EM cs c2 := EM.of (congrArg (fun z => z.2.2) L1.c1)
      have ait : ∀ x, AT cs c2 x it := fun x => L1.a0 x it (by omega)
      obtain ⟨cs', t1, t2⟩ := ih (y + 1) u c2 (by omega) (by omega) (by omega) (em _ e7) (by rw [(L1.a0 235 oo (by omega)).r]; exact r235) (ci.keep em (fun x _ _ => ait x)) L1.cm
      rw [(ait 98).b, (ait 100).a] at t2
      refine ⟨cs', ?_, L1.trans t2 (by omega)⟩
      rw [c_X0_checkInner_L40, gI_ok ci.e, ob_s, ci.sz, if_neg (nI_ge (by omega) (by omega)), ckE_ok ci.e, ob_s, clm_has ci (show y < m by omega), ob_s, if_neg (by decide), gR_ok e7, ob_s, gA_ok ci.e, p98, ob_s, rB_n ci.e98 p98 (by rw [ci.l98]; omega) (by rw [ci.l98]; omega), ob_s, gA_ok ci.e, p100, ob_s, rA_n ci.e100 p100 (by rw [ci.l100]; omega) (by rw [ci.l100]; omega), ob_s, r235, ob_s, ckE_ok cm.e, ob_s, adC_ok cm (by omega), ob_s, ← hc2, nI_1]
      exact t1
/-- are all items named, and apart: the class -/
theorem named_c {F it m : Nat} {cs : CS} (h : CLM it m cs) (hF : 10000 ≤ F) : ∀ (w y u : Nat), m - y ≤ w → w < u → y ≤ m → ((∀ z, y ≤ z → z < m → kB cs 98 it z ≠ -1 ∧ ∀ z', z < z' → z' < m → kB cs 98 it z' ≠ kB cs 98 it z) ∧ c_X2_allNamedApart_L2 F cs u it (nI y) = some 1) ∨ ((∃ z, z < m ∧ (kB cs 98 it z = -1 ∨ ∃ z', z < z' ∧ z' < m ∧ kB cs 98 it z' = kB cs 98 it z)) ∧ c_X2_allNamedApart_L2 F cs u it (nI y) = some 0) := by
  have m8 := h.m8
  obtain ⟨j98, p98⟩ := h.p98
  have stop : ∀ y u, m ≤ y → y ≤ 8 → c_X2_allNamedApart_L2 F cs (u + 1) it (nI y) = some 1 := fun y u h1 _ => by
    rw [c_X2_allNamedApart_L2, gI_ok h.e, ob_s, h.sz, if_pos (nI_le h1 (by omega))]
    rfl
  intro w
  induction w with
  | zero =>
    intro y u h1 h2 h3
    obtain ⟨u, rfl⟩ : ∃ z, u = z + 1 := ⟨u - 1, by omega⟩
    exact Or.inl ⟨fun z z1 z2 => absurd z2 (by omega), stop y u (by omega) (by omega)⟩
  | succ w ih =>
    intro y u h1 h2 h3
    obtain ⟨u, rfl⟩ : ∃ z, u = z + 1 := ⟨u - 1, by omega⟩
    by_cases z0 : m ≤ y
    · exact Or.inl ⟨fun z z1 z2 => absurd z2 (by omega), stop y u z0 (by omega)⟩
    · have st : c_X2_allNamedApart_L2 F cs (u + 1) it (nI y) = if kB cs 98 it y = -1 then some 0 else Option.bind (c_X2_find F cs it (kB cs 98 it y) (nI (y + 1))) fun v_9 => if v_9 = -1 then c_X2_allNamedApart_L2 F cs u it (nI (y + 1)) else some 0 := by
        rw [c_X2_allNamedApart_L2, gI_ok h.e, ob_s, h.sz, if_neg (nI_ge (by omega) (by omega)), if_neg (show ¬ (8 : Int32) ≤ nI y from nI_ge (b := 8) (by omega) (by decide)), gA_ok h.e, p98, ob_s, rB_n h.e98 p98 (by rw [h.l98]; omega) (by rw [h.l98]; omega), ob_s]
        unfold c_X2_allNamedApart_b46
        by_cases w1 : kB cs 98 it y = -1
        · rw [if_pos w1, if_pos w1]
        · rw [if_neg w1, if_neg w1, ob_s, rB_n h.e98 p98 (by rw [h.l98]; omega) (by rw [h.l98]; omega), ob_s, ckE_ok h.e, ob_s, nI_1]
      rw [st]
      by_cases w1 : kB cs 98 it y = -1
      · rw [if_pos w1]
        exact Or.inr ⟨⟨y, by omega, Or.inl w1⟩, rfl⟩
      · rw [if_neg w1, find_p (by omega)]
        rcases find_L (F := F) (v := kB cs 98 it y) h m (y + 1) F (by omega) (by omega) (by omega) with ⟨y0, a1, a2, a3, a4, a5⟩ | ⟨a1, a2⟩
        · rw [a5, ob_s, if_neg (nI_nm1 (by omega))]
          exact Or.inr ⟨⟨y, by omega, Or.inr ⟨y0, by omega, a2, a3⟩⟩, rfl⟩
        · rw [a2, ob_s, if_pos rfl]
          rcases ih (y + 1) u (by omega) (by omega) (by omega) with ⟨b1, b2⟩ | b
          · refine Or.inl ⟨fun z z1 z2 => ?_, b2⟩
            by_cases w2 : z = y
            · rw [w2]
              exact ⟨w1, fun z' q1 q2 => a1 z' (by omega) q2⟩
            · exact b1 z (by omega) z2
          · exact Or.inr b
/-- and the reference -/
theorem named_r {F it m e : Nat} {n : Nat} {f : Nat → Int32} {M : Nat} {cs : CS} {rs : RS} (hF : 10000 ≤ F) (he : e < 60) (hm : m ≤ 8) (tx : TX n f M cs rs) (r36 : rs.2.2.1 36 e = nI m) (nn : ∀ y, y < m → NMR n f M (kB cs 98 it y) (rs.2.2.1 45 (8 * e + y)) cs rs) : ∀ (w y u : Nat), m - y ≤ w → w < u → y ≤ m → (∀ z', z' < y → kB cs 98 it z' ≠ -1) → ((∀ z, y ≤ z → z < m → kB cs 98 it z ≠ -1 ∧ ∀ z', z' < z → kB cs 98 it z ≠ kB cs 98 it z') ∧ m_areNamed_L2 F rs u (nI e) (nI y) = some 1) ∨ ((∃ z, z < m ∧ (kB cs 98 it z = -1 ∨ ∃ z', z' < z ∧ kB cs 98 it z = kB cs 98 it z')) ∧ m_areNamed_L2 F rs u (nI e) (nI y) = some 0) := by
  have n2 := tx.n2
  have mn := tx.mn
  have stop : ∀ y u, m ≤ y → y ≤ 8 → m_areNamed_L2 F rs (u + 1) (nI e) (nI y) = some 1 := fun y u h1 _ => by
    rw [m_areNamed_L2, rdI_n he (by decide), ob_s, r36, if_pos (nI_le h1 (by omega))]
  intro w
  induction w with
  | zero =>
    intro y u h1 h2 h3 prev'
    obtain ⟨u, rfl⟩ : ∃ z, u = z + 1 := ⟨u - 1, by omega⟩
    exact Or.inl ⟨fun z z1 z2 => absurd z2 (by omega), stop y u (by omega) (by omega)⟩
  | succ w ih =>
    intro y u h1 h2 h3 prev'
    obtain ⟨u, rfl⟩ : ∃ z, u = z + 1 := ⟨u - 1, by omega⟩
    by_cases z0 : m ≤ y
    · exact Or.inl ⟨fun z z1 z2 => absurd z2 (by omega), stop y u z0 (by omega)⟩
    · have st : m_areNamed_L2 F rs (u + 1) (nI e) (nI y) = if rs.2.2.1 45 (8 * e + y) = -1 then some 0 else m_areNamed_L34 F rs (m_areNamed_L2 F rs u) F (nI e) (nI y) (rs.2.2.1 45 (8 * e + y)) (nI 0) := by
        rw [m_areNamed_L2, rdI_n he (by decide), ob_s, r36, if_neg (nI_ge (by omega) (by omega)), nI_8, nI_add, rdI_n (by omega) (by decide), ob_s]
        rfl
      rw [st]
      rcases nn y (by omega) with ⟨a1, a2⟩ | ⟨q, q1, q2, q3⟩
      · rw [if_pos a2]
        exact Or.inr ⟨⟨y, by omega, Or.inl a1⟩, rfl⟩
      · have ny : kB cs 98 it y ≠ -1 := nm_nm1 tx q1 q3
        rw [if_neg (by rw [q2]; exact nI_nm1 (by omega)), q2]
        -- against those before, which are named
        have inn : ∀ (w' j u' : Nat), y - j ≤ w' → w' < u' → j ≤ y → (∀ z', z' < y → kB cs 98 it z' ≠ -1) → ((∀ z', j ≤ z' → z' < y → kB cs 98 it y ≠ kB cs 98 it z') ∧ m_areNamed_L34 F rs (m_areNamed_L2 F rs u) u' (nI e) (nI y) (nI q) (nI j) = m_areNamed_L2 F rs u (nI e) (nI (y + 1))) ∨ ((∃ z', z' < y ∧ kB cs 98 it y = kB cs 98 it z') ∧ m_areNamed_L34 F rs (m_areNamed_L2 F rs u) u' (nI e) (nI y) (nI q) (nI j) = some 0) := by
          intro w'
          induction w' with
          | zero =>
            intro j u' g1 g2 g3 _
            obtain ⟨u', rfl⟩ : ∃ z, u' = z + 1 := ⟨u' - 1, by omega⟩
            refine Or.inl ⟨fun z' z1 z2 => absurd z2 (by omega), ?_⟩
            rw [m_areNamed_L34, if_pos (nI_le (by omega) (by omega)), nI_1]
          | succ w' ih' =>
            intro j u' g1 g2 g3 g4
            obtain ⟨u', rfl⟩ : ∃ z, u' = z + 1 := ⟨u' - 1, by omega⟩
            by_cases z1 : y ≤ j
            · refine Or.inl ⟨fun z' z1 z2 => absurd z2 (by omega), ?_⟩
              rw [m_areNamed_L34, if_pos (nI_le z1 (by omega)), nI_1]
            · rcases nn j (by omega) with ⟨b1, b2⟩ | ⟨p, p1, p2, p3⟩
              · exact absurd b1 (g4 j (by omega))
              · obtain ⟨b, e1, o⟩ := nm_same hF tx q1 p1 q3 p3
                have st2 : m_areNamed_L34 F rs (m_areNamed_L2 F rs u) (u' + 1) (nI e) (nI y) (nI q) (nI j) = if b = 0 then m_areNamed_L34 F rs (m_areNamed_L2 F rs u) u' (nI e) (nI y) (nI q) (nI (j + 1)) else some 0 := by
                  rw [m_areNamed_L34, if_neg (nI_ge (by omega) (by omega)), nI_8, nI_add, rdI_n (by omega) (by decide), ob_s, p2, e1, ob_s, nI_1]
                rw [st2]
                rcases o with ⟨o1, o2⟩ | ⟨o1, o2⟩
                · rw [o1, if_neg (by decide)]
                  exact Or.inr ⟨⟨j, by omega, o2⟩, rfl⟩
                · rw [o1, if_pos rfl]
                  rcases ih' (j + 1) u' (by omega) (by omega) (by omega) g4 with ⟨c1, c2⟩ | c1
                  · refine Or.inl ⟨fun z' z1 z2 => ?_, c2⟩
                    by_cases w3 : z' = j
                    · rw [w3]; exact o2
                    · exact c1 z' (by omega) z2
                  · exact Or.inr c1
        have nx : ∀ z', z' < y + 1 → kB cs 98 it z' ≠ -1 := fun z' hz => by
          by_cases w3 : z' = y
          · rw [w3]; exact ny
          · exact prev' z' (by omega)
        rcases inn y 0 F (by omega) (by omega) (by omega) prev' with ⟨b1, b2⟩ | ⟨⟨z', b1, b2⟩, b3⟩
        · rw [b2]
          rcases ih (y + 1) u (by omega) (by omega) (by omega) nx with ⟨c1, c2⟩ | c
          · refine Or.inl ⟨fun z z1 z2 => ?_, c2⟩
            by_cases w2 : z = y
            · rw [w2]
              exact ⟨ny, fun z' q => b1 z' (by omega) q⟩
            · exact c1 z (by omega) z2
          · exact Or.inr c
        · exact Or.inr ⟨⟨y, by omega, Or.inr ⟨z', b1, b2⟩⟩, b3⟩
/-- both: b tells whether all items are named and apart -/
theorem named_ok {F it m e : Nat} {n : Nat} {f : Nat → Int32} {M : Nat} {cs : CS} {rs : RS} (hF : 10000 ≤ F) (he : e < 60) (h : CLM it m cs) (tx : TX n f M cs rs) (r36 : rs.2.2.1 36 e = nI m) (nn : ∀ y, y < m → NMR n f M (kB cs 98 it y) (rs.2.2.1 45 (8 * e + y)) cs rs) : (c_X2_allNamedApart F cs it = some 1 ∧ m_areNamed F rs (nI e) = some 1 ∧ (∀ y, y < m → kB cs 98 it y ≠ -1) ∧ ∀ y y', y < m → y' < m → y ≠ y' → kB cs 98 it y ≠ kB cs 98 it y') ∨ (c_X2_allNamedApart F cs it = some 0 ∧ m_areNamed F rs (nI e) = some 0) := by
  have m8 := h.m8
  have a := named_c h hF m 0 F (by omega) (by omega) (by omega)
  have b := named_r (it := it) hF he m8 tx r36 nn m 0 F (by omega) (by omega) (by omega) (fun z' hz => absurd hz (by omega))
  have a' : ∀ v, c_X2_allNamedApart_L2 F cs F it (nI 0) = some v → c_X2_allNamedApart F cs it = some v := fun v q => q
  have b' : ∀ v, m_areNamed_L2 F rs F (nI e) (nI 0) = some v → m_areNamed F rs (nI e) = some v := fun v q => q
  rcases a with ⟨a1, a2⟩ | ⟨⟨z, z1, z2⟩, a2⟩
  · rcases b with ⟨b1, b2⟩ | ⟨⟨z, z1, z2⟩, b2⟩
    · refine Or.inl ⟨a' 1 a2, b' 1 b2, fun y hy => (a1 y (by omega) hy).1, fun y y' h1 h2 h3 => ?_⟩
      by_cases w : y < y'
      · exact fun q => (a1 y (by omega) h1).2 y' w h2 q.symm
      · exact (a1 y' (by omega) h2).2 y (by omega) h1
    · exfalso
      rcases z2 with z2 | ⟨z', z3, z4⟩
      · exact (a1 z (by omega) z1).1 z2
      · exact (a1 z' (by omega) (by omega)).2 z z3 z1 z4
  · rcases b with ⟨b1, b2⟩ | ⟨-, b2⟩
    · exfalso
      rcases z2 with z2 | ⟨z', z3, z4, z5⟩
      · exact (b1 z (by omega) z1).1 z2
      · exact (b1 z' (by omega) z4).2 z z3 z5
    · exact Or.inr ⟨a' 0 a2, b' 0 b2⟩

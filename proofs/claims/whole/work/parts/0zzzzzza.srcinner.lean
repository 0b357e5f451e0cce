/-! a SOURCE that is a QUERY, checked up to its name -/
def XJ (cl : Nat) (cs : CS) : Prop := ∃ m, CLM cl m cs
/-- no aggregate stands in the lists of two SELECTS -/
def UQ (K c s : Nat) (cs : CS) : Prop := ∀ o y, K ≤ o → y < s → AM o cs y → kA cs 65 c y ≠ 39 ∧ ∀ o', K ≤ o' → AM o' cs y → o' = o
theorem UQ.at' {K c s : Nat} {cs cs' : CS} (h : UQ K c s cs) (a : ∀ o, AT cs cs' 202 o ∧ AT cs cs' 203 o) (a5 : AT cs cs' 65 c) : UQ K c s cs' := fun o y h1 h2 h3 => by
  obtain ⟨q1, q2⟩ := h o y h1 h2 (h3.at' (a o).1 (a o).2)
  exact ⟨by rw [a5.a]; exact q1, fun o' h4 h5 => q2 o' h4 (h5.at' (a o').1 (a o').2)⟩
/-- nothing of it has been checked -/
def Z0 (lo hi : Nat) (cs : CS) : Prop := ∀ j, lo ≤ j → j < hi → kI cs 133 j = 0 ∧ kI cs 206 j = 0 ∧ kI cs 234 j = 0
theorem Z0.sub {lo hi lo' hi' : Nat} {cs : CS} (h : Z0 lo hi cs) (h1 : lo ≤ lo') (h2 : hi' ≤ hi) : Z0 lo' hi' cs := fun j j1 j2 => h j (by omega) (by omega)
theorem Z0.at' {lo hi : Nat} {cs cs' : CS} (h : Z0 lo hi cs) (a : ∀ x j, lo ≤ j → j < hi → x = 133 ∨ x = 206 ∨ x = 234 → AT cs cs' x j) : Z0 lo hi cs' := fun j j1 j2 => by
  rw [(a 133 j j1 j2 (by omega)).i, (a 206 j j1 j2 (by omega)).i, (a 234 j j1 j2 (by omega)).i]
  exact h j j1 j2
/-- the items of a QUERY's first SELECT, their types settled -/
def FIT (n : Nat) (f : Nat → Int32) (M Sl Su lo hi oq q : Nat) (cs : CS) (rs : RS) : Prop := ∃ e it mi, kR cs 129 oq = some it ∧ lo ≤ it ∧ it < hi ∧ Sl ≤ e ∧ e < Su ∧ e < 60 ∧ rs.2.2.1 61 (5 * q) = nI e ∧ rs.2.2.1 36 e = nI mi ∧ CLM it mi cs ∧ (∀ y, y < mi → NMR n f M (kB cs 98 it y) (rs.2.2.1 45 (8 * e + y)) cs rs) ∧ (∀ y, y < mi → TYR (kA cs 100 it y) (rs.2.2.1 46 (8 * e + y)))
/-- the two methods P and P' check the QUERIES that are at most d deep alike -/
def JQS (n : Nat) (f : Nat → Int32) (M t c cap s k : Nat) (V : VT) (ss S Q K d : Nat) (P : CS → Nat → Nat → Option CS) (P' : RS → Int32 → Option RS) : Prop := ∀ (Su Sl Ql lo hi oq q : Nat) (D : Nat → Prop) (cs : CS) (rs : RS), JH n f M t c cap s k V D cs rs → rs.1 21 = 1 → STM ss cs rs → UQ K c s cs → K ≤ lo → hi ≤ k → QR X0 n f M c s S Q cs rs d Su Sl Ql lo hi oq q → Z0 lo hi cs → ∃ cs' rs' D', P cs k oq = some cs' ∧ P' rs (nI q) = some rs' ∧ JH n f M t c cap s k V D' cs' rs' ∧ JK t c k lo hi Sl Su cs rs cs' rs' ∧ (rs'.1 21 = 1 → (∀ z, D z → D' z) ∧ QR XJ n f M c s S Q cs' rs' d Su Sl Ql lo hi oq q ∧ JDN c s V D' lo hi cs' rs' d oq q ∧ (∃ b, KQ d q b rs' ∧ ((kI cs' 133 oq = 0 ∧ b = 1) ∨ (kI cs' 133 oq ≠ 0 ∧ b = 0))) ∧ FIT n f M Sl Su lo hi oq q cs' rs')
theorem inner_A {n : Nat} {f : Nat → Int32} {M t c cap s k : Nat} {V : VT} {ss S Q K d so e i lo lo' hi Sl Sh Ql oi qi : Nat} {D : Nat → Prop} {F oo : Nat} {b u2 : Int32} {T T2 : TC_X0_checkQuery} {T' : TG_judgeQuery} {ns u : Nat} {cs : CS} {rs : RS} (hF : 10000 ≤ F) (hs : s ≤ 120) (he : e < 60) (hin : i < ns) (h : JH n f M t c cap s k V D cs rs) (g1 : rs.1 21 = 1) (hJ : JQS n f M t c cap s k V ss S Q K d T2.1 T'.1) (hT : T.2.2.2 = cb_X0_checkInner F T2) (st : STM ss cs rs) (uq : UQ K c s cs) (hK : K ≤ lo ∧ hi ≤ k ∧ t < K ∧ c < K) (sa : SAR so ns cs) (rn : rs.2.2.1 37 e = nI ns) (ho : kQ cs 195 so i = some oo) (e7 : (7, oo) ∈ kE cs) (hoo : lo ≤ oo ∧ oo + 1 < lo' ∧ lo' ≤ hi) (hso : so < lo) (v49 : rs.2.2.1 49 (3 * e + i) = -1) (v225 : kR cs 225 oo = some oi) (v227 : kI cs 227 oo = rs.2.2.1 54 (3 * e + i)) (v53 : rs.2.2.1 53 (3 * e + i) = nI qi) (hqi : qi < 60) (qr : QR X0 n f M c s S Q cs rs d Sh Sl Ql lo' hi oi qi) (z0 : Z0 lo hi cs) (v235 : kR cs 235 oo = some (oo + 1)) (cl0 : CLM (oo + 1) 0 cs) (nm : ∃ k', k' ≤ M ∧ rs.2.2.1 55 (3 * e + i) = nI k' ∧ NM9 n f k' (kJ cs 228 oo) cs rs) (kp : KPT d so e i b cs rs) (e4 : (4, oi) ∈ kE cs) : ∃ c1 r1 b' D', cb_X0_checkSource F T cs k so (nI i) = c_X0_checkSource_L90 F T F c1 k so (nI i) oo (nI 0) ∧ m_judgeSelect_L4 F T' (u + 1) rs (nI e) u2 (nI i) = m_judgeSelect_L122 F T' (m_judgeSelect_L4 F T' u) F r1 (nI e) u2 (nI i) (nI (3 * e + i)) (nI 0) ∧ JH n f M t c cap s k V D' c1 r1 ∧ JU t c k so e i lo hi Sl Sh cs rs c1 r1 ∧ (∃ m, CLM (oo + 1) m c1) ∧ (∀ x, x ≠ 206 → AT cs c1 x oo) ∧ (r1.1 21 = 1 → SRA n f M d so e i oo b' c1 r1 ∧ (∀ z, D z → D' z) ∧ QR XJ n f M c s S Q c1 r1 d Sh Sl Ql lo' hi oi qi ∧ JDN c s V D' lo' hi c1 r1 d oi qi ∧ ∃ ei m, ei < 60 ∧ Sl ≤ ei ∧ ei < Sh ∧ r1.2.2.1 61 (5 * qi) = nI ei ∧ r1.2.2.1 36 ei = nI m ∧ kI c1 96 (oo + 1) = nI m) := by
  have n3 := sa.n3
  have j9 : 3 * e + i < 180 := by omega
  have ck := h.ck
  obtain ⟨h1K, h2K, h3K, h4K⟩ := hK
  obtain ⟨o1, o2, o3⟩ := hoo
  obtain ⟨cq, rq, D', q1, q2, q3, q4, q5⟩ := hJ Sh Sl Ql lo' hi oi qi D cs rs h g1 st uq (by omega) h2K qr (z0.sub (by omega) (Nat.le_refl _))
  have ju : JU t c k so e i lo hi Sl Sh cs rs cq rq := JU.jk (q4.mono (by omega) (Nat.le_refl _) (Nat.le_refl _) (Nat.le_refl _))
  have em : EM cs cq := EM.of (congrArg (fun z => z.2.2) q4.c1)
  have aoo : ∀ x, AT cs cq x oo := fun x => q4.a0 x oo (by unfold kX; omega)
  have aso : AT cs cq 206 so := q4.a0 206 so (by unfold kX; omega)
  have acl : ∀ x, AT cs cq x (oo + 1) := fun x => q4.a0 x (oo + 1) (by unfold kX; omega)
  -- the class behind the inner QUERY
  have tail : ∀ c0 : CS, cb_X0_checkInner F T2 cs k oo oi = some c0 → (6, so) ∈ kE c0 → (7, oo) ∈ kE c0 → kR c0 225 oo = some oi → (4, oi) ∈ kE c0 → cb_X0_checkSource F T cs k so (nI i) = c_X0_checkSource_L90 F T F (sI c0 206 so (if kI c0 206 so = 0 then (if kI c0 133 oi = 0 then 0 else 1) else 1)) k so (nI i) oo (nI 0) := fun c0 w1 w2 w3 w4 w5 => by
    unfold cb_X0_checkSource
    rw [sa.rd hin, ho, oc_s, gR_ok e7, ob_s, v225, oc_s, ob_s, ob_s, ckE_ok ck.o, ob_s, hT, w1, ob_s, gI_ok w2, ob_s]
    unfold c_X0_checkSource_b46 c_X0_checkSource_b51 c_X0_checkSource_b87
    by_cases y1 : kI c0 206 so = 0
    · rw [if_pos y1, if_pos y1, gR_ok w3, ob_s, w4, ob_s, gI_ok w5, ob_s]
      by_cases y2 : kI c0 133 oi = 0
      · rw [if_pos y2, if_pos y2, show ckZ 0 = some 0 from rfl, ob_s, pI_ok w2, ob_s]
        rfl
      · rw [if_neg y2, if_neg y2, show ckZ 1 = some 1 from rfl, ob_s, pI_ok w2, ob_s]
        rfl
    · rw [if_neg y1, if_neg y1, show ckZ 1 = some 1 from rfl, ob_s, pI_ok w2, ob_s]
      rfl
  have fin : ∀ (c0 : CS) (r1 : RS), JH n f M t c cap s k V D' c0 r1 → JU t c k so e i lo hi Sl Sh cs rs c0 r1 → JH n f M t c cap s k V D' (sI c0 206 so (if kI c0 206 so = 0 then (if kI c0 133 oi = 0 then 0 else 1) else 1)) r1 ∧ JU t c k so e i lo hi Sl Sh cs rs (sI c0 206 so (if kI c0 206 so = 0 then (if kI c0 133 oi = 0 then 0 else 1) else 1)) r1 := fun c0 r1 w1 w2 => by
    have j : JU t c k so e i lo hi Sl Sh c0 r1 (sI c0 206 so (if kI c0 206 so = 0 then (if kI c0 133 oi = 0 then 0 else 1) else 1)) r1 := JU.cls rfl (fun x j hx => AT.sI (by omega)) (fun _ _ => ⟨rfl, rfl⟩)
    exact ⟨w1.ju j (kI_n (by omega)) (kI_n (by omega)) (fun _ _ => rfl) rfl rfl (by omega), w2.trans j⟩
  have ref0 : m_judgeSelect_L4 F T' (u + 1) rs (nI e) u2 (nI i) = if rq.1 21 = 0 then m_judgeSelect_b119 F T' (m_judgeSelect_L4 F T' u) rq (nI e) u2 (nI i) (nI (3 * e + i)) else (Option.bind (rdI (rq.2.2.1 53) 180 (nI (3 * e + i))) fun v_94 => Option.bind (rdI (rq.2.2.1 61) 300 (5 * v_94)) fun v_95 => Option.bind (m_areNamed F rq v_95) fun v_96 => if v_96 = 0 then (Option.bind (rdI (rq.2.2.1 54) 180 (nI (3 * e + i))) fun v_98 => Option.bind (m_tell F rq 2 v_98) fun cs_99 => m_judgeSelect_b119 F T' (m_judgeSelect_L4 F T' u) cs_99 (nI e) u2 (nI i) (nI (3 * e + i))) else (m_judgeSelect_b119 F T' (m_judgeSelect_L4 F T' u) rq (nI e) u2 (nI i) (nI (3 * e + i)))) := by
    rw [m_judgeSelect_L4, rdI_n he (by decide), ob_s, rn, if_neg (nI_ge hin (by omega)), if_neg (by rw [g1]; decide), nI_3, nI_add, rdI_n j9 (by decide), ob_s, v49, if_pos rfl, rdI_n j9 (by decide), ob_s, v53, q2, ob_s]
  have inn : ∀ X : Option CS, (Option.bind (ckE cq 1 k) fun _ => Option.bind (c_X0_isFaulty F cq k) fun v_16 => if v_16 = 0 then (Option.bind (gR cq 4 129 oi) fun v_19 => Option.bind (v_19) fun i_21 => Option.bind (ckE cq 3 i_21) fun _ => Option.bind (c_X2_allNamedApart F cq i_21) fun v_20 => if v_20 = 0 then (Option.bind (gR cq 1 32 k) fun v_24 => Option.bind (gI cq 7 227 oo) fun v_25 => Option.bind (v_24) fun i_27 => Option.bind (ckE cq 10 i_27) fun _ => Option.bind (c_X9_refuse F cq i_27 2 v_25) fun cs_26 => c_X0_checkInner_b37 F T2 cs_26 oo i_21) else (c_X0_checkInner_b37 F T2 cq oo i_21)) else (some cq)) = X → cb_X0_checkInner F T2 cs k oo oi = X := fun X w => by
    unfold cb_X0_checkInner
    rw [ckE_ok ck.o, ob_s, q1, ob_s]
    exact w
  have isf : c_X0_isFaulty F cq k = some (if kI cq 320 t = 0 then 0 else 1) := by
    unfold c_X0_isFaulty c_X0_isFaulty_b15
    rw [ck_t q3.ck, gI_ok q3.ck.ot, ob_s]
    by_cases y : kI cq 320 t = 0
    · rw [if_pos y, if_pos y]; rfl
    · rw [if_neg y, if_neg y]; rfl
  rcases q3.st with ⟨s1, s2, s3⟩ | ⟨s1, s2, s3, s4⟩
  · -- the inner QUERY is good
    obtain ⟨p1, p2, p3, ⟨bq, p4, p5⟩, ei, it, mi, f1, f2, f3, f4, f5, f6, f7, f8, f9, f10, f11⟩ := q5 s2
    have clq : CLM (oo + 1) 0 cq := cl0.keep em (fun x _ _ => acl x)
    have ne : it ≠ oo + 1 := by omega
    have r53 : rq.2.2.1 53 (3 * e + i) = nI qi := by rw [q4.fr.a (k := 53) (by unfold jK; omega)]; exact v53
    have r54 : rq.2.2.1 54 (3 * e + i) = kI cq 227 oo := by rw [q4.fr.a (k := 54) (by unfold jK; omega), (aoo 227).i]; exact v227.symm
    have r49 : rq.2.2.1 49 (3 * e + i) = -1 := by rw [q4.fr.a (k := 49) (by unfold jK; omega)]; exact v49
    -- laying the columns, from a state like cq
    have lay : ∀ (c0 : CS) (r0 : RS), JH n f M t c cap s k V D' c0 r0 → JU t c k so e i lo hi Sl Sh cs rs c0 r0 → EM cq c0 → (∀ x j, ¬ (j = t ∧ (x = 320 ∨ x = 321)) → AT cq c0 x j) → ∃ c2, c_X0_checkInner_b37 F T2 c0 oo it = some c2 ∧ LAYC (oo + 1) 0 mi (fun z => kB cq 98 it z) (fun z => kA cq 100 it z) c0 c2 ∧ JH n f M t c cap s k V D' c2 r0 ∧ JU t c k so e i lo hi Sl Sh cs rs c2 r0 := fun c0 r0 w1 w2 w3 w4 => by
      have m8 := f9.m8
      obtain ⟨c2, t1, t2⟩ := inner_L (F := F) (T := T2) (oo := oo) (cl := oo + 1) (it := it) (m := mi) ne mi 0 F c0 (by omega) (by omega) (by omega) (w3 _ (em _ e7)) (by rw [(w4 235 oo (by omega)).r, (aoo 235).r]; exact v235) (f9.keep w3 (fun x x1 x2 => w4 x it (by omega))) (clq.keep w3 (fun x x1 x2 => w4 x _ (by omega)))
      rw [(w4 98 it (by omega)).b, (w4 100 it (by omega)).a] at t2
      have j : JU t c k so e i lo hi Sl Sh c0 r0 c2 r0 := JU.cls t2.c1 (fun x j hx => t2.a0 x j (by omega)) t2.pl
      refine ⟨c2, t1, t2, w1.ju j (t2.a0 320 t (by omega)).i (t2.a0 321 t (by omega)).i (fun _ _ => rfl) (t2.a0 72 c (by omega)).a rfl (by omega), w2.trans j⟩
    rcases named_ok (it := it) hF f6 f9 q3.x f8 f10 with ⟨a1, a2, a3, a4⟩ | ⟨a1, a2⟩
    · -- all named and apart
      obtain ⟨c2, l1, l2, l3, l4⟩ := lay cq rq q3 ju EM.refl (fun _ _ _ => AT.refl)
      have cin : cb_X0_checkInner F T2 cs k oo oi = some c2 := inn _ (by
        rw [ckE_ok q3.ck.o, ob_s, isf, if_pos s1, ob_s, if_pos rfl, gR_ok (em _ e4), ob_s, f1, ob_s, ckE_ok f9.e, ob_s, a1, ob_s, if_neg (by decide)]
        exact l1)
      have em2 : EM cq c2 := EM.of (congrArg (fun z => z.2.2) l2.c1)
      obtain ⟨m1, m2⟩ := fin c2 rq l3 l4
      have i206 : kI c2 206 so = kI cs 206 so := ((l2.a0 206 so (by omega)).i).trans aso.i
      have i133 : kI c2 133 oi = kI cq 133 oi := (l2.a0 133 oi (by omega)).i
      obtain ⟨c3, hc3⟩ : ∃ x, x = sI c2 206 so (if kI c2 206 so = 0 then (if kI c2 133 oi = 0 then 0 else 1) else 1) := ⟨_, rfl⟩
      have at3 : ∀ x j, ¬ (j = so ∧ x = 206) → AT c2 c3 x j := fun x j hx => by rw [hc3]; exact AT.sI (by omega)
      have atq : ∀ x j, ¬ (j = so ∧ x = 206) → ¬ (96 ≤ x ∧ x ≤ 100 ∧ j = oo + 1) → AT cq c3 x j := fun x j h1 h2 => (l2.a0 x j h2).trans (at3 x j h1)
      have em3 : EM cq c3 := by rw [hc3]; exact em2
      rw [← hc3] at m1 m2
      have tk := m2.tkf
      have tkq : TKF cq rq c3 rq := ⟨(atq 352 9 (by omega) (by omega)).a, (atq 353 9 (by omega) (by omega)).a, (atq 354 9 (by omega) (by omega)).b, rfl, rfl, rfl, rfl, rfl⟩
      have cl3 : CLM (oo + 1) mi c3 := l2.cm.keep (by rw [hc3]; exact EM.of rfl) (fun x x1 x2 => at3 x _ (by omega))
      have n98 : ∀ y, y < mi → kB c3 98 (oo + 1) y = kB cq 98 it y := fun y hy => by
        rw [(at3 98 (oo + 1) (by omega)).b, l2.nm y hy, if_neg (by omega)]
      have n100 : ∀ y, y < mi → kA c3 100 (oo + 1) y = kA cq 100 it y := fun y hy => by
        rw [(at3 100 (oo + 1) (by omega)).a, l2.tp y hy, if_neg (by omega)]
      have aoo3 : ∀ x, x ≠ 206 → AT cs c3 x oo := fun x hx => ((aoo x).trans (l2.a0 x oo (by omega))).trans (at3 x oo (by omega))
      refine ⟨c3, rq, if b = 0 then 0 else bq, D', by rw [hc3]; exact tail c2 cin (em2 _ (em _ sa.e6)) (em2 _ (em _ e7)) (by rw [(l2.a0 225 oo (by omega)).r, (aoo 225).r]; exact v225) (em2 _ (em _ e4)), ?_, m1, m2, ⟨mi, cl3⟩, aoo3, fun _ => ⟨⟨⟨mi, em3 _ (em _ e7), by rw [(aoo3 235 (by decide)).r]; exact v235, cl3, ?_, Or.inr ⟨qi, ei, hqi, f6, r49, r53, f7, f8, fun y hy => ?_, fun y hy => ?_⟩, fun y y' w1 w2 w3 => ?_⟩, (kp.1.fr q4.fr).add (KO.inner j9 r49 r53 p4), ?_⟩, p1, ?_, ?_, ei, mi, f6, f4, f5, f7, f8, cl3.sz⟩⟩
      · rw [ref0, if_neg (by rw [s2]; decide), rdI_n j9 (by decide), ob_s, r53, nI_5, rdI_n (by omega) (by decide), ob_s, f7, a2, ob_s, if_neg (by decide)]
        rfl
      · obtain ⟨k', k1, k2, k3⟩ := nm
        exact ⟨k', k1, by rw [q4.fr.a (k := 55) (by unfold jK; omega)]; exact k2, by rw [(aoo3 228 (by decide)).j]; exact k3.f tk⟩
      · rw [n98 y hy]
        rcases f10 y hy with ⟨w1, w2⟩ | ⟨k', k1, k2, k3⟩
        · exact absurd w1 (a3 y hy)
        · exact ⟨k', k1, k2, k3.f tkq⟩
      · rw [n100 y hy]
        exact f11 y hy
      · rw [n98 y w1, n98 y' w2]
        exact a4 y y' w1 w2 w3
      · rw [hc3, kI_s, i206, i133]
        rcases kp.2 with ⟨w1, w2⟩ | ⟨w1, w2⟩
        · rw [if_pos w1, w2]
          rcases p5 with ⟨w3, w4⟩ | ⟨w3, w4⟩
          · rw [if_pos w3, w4]
            exact Or.inl ⟨rfl, by decide⟩
          · rw [if_neg w3, w4]
            exact Or.inr ⟨by decide, by decide⟩
        · rw [if_neg w1, w2]
          exact Or.inr ⟨by decide, if_pos rfl⟩
      · refine QR.keep (Nat.le_refl _) hs (Nat.le_refl _) (Nat.le_refl _) (Nat.le_refl _) (Nat.le_refl _) d Sh Sl Ql lo' hi oi qi p2 ⟨⟨em3, fun x j j1 j2 _ => atq x j (by omega) (by omega), fun j j1 j2 => (atq 100 j (by omega) (by omega)).ap, fun x _ => ?_, tkq⟩, fun _ _ _ _ _ _ _ => rfl, fun _ _ _ => rfl⟩ (fun x x1 x2 w => ?_)
        · exact (congrFun (VW.eq (fun x a1 a2 => atq x c (by omega) (by omega)) (fun _ _ => ⟨rfl, rfl⟩)) x)
        · obtain ⟨m9, w9⟩ := w
          exact ⟨m9, w9.keep em3 (fun y y1 y2 => atq y x (by omega) (by omega))⟩
      · exact JDN.keep (Nat.le_refl _) (Nat.le_refl _) (fun x j j1 j2 _ _ _ => atq x j (by omega) (by omega)) (fun y o _ _ _ _ => by rw [(atq 72 c (by omega) (by omega)).a]) (fun _ hz => hz) (fun _ _ => rfl) d oi qi p3
    · -- not so: a fault
      obtain ⟨c0, r0, t1, t2, t3, t4, t5, t6, t7, t8⟩ := q3.tell (F := F) (a := 2) (b := kI cq 227 oo) (by decide)
      have em0 : EM cq c0 := EM.of (congrArg (fun z => z.2.2) t3.c1)
      obtain ⟨c2, l1, l2, l3, l4⟩ := lay c0 r0 t4 (ju.trans (JU.jk (JK.jf t3))) em0 t8
      have cin : cb_X0_checkInner F T2 cs k oo oi = some c2 := inn _ (by
        rw [ckE_ok q3.ck.o, ob_s, isf, if_pos s1, ob_s, if_pos rfl, gR_ok (em _ e4), ob_s, f1, ob_s, ckE_ok f9.e, ob_s, a1, ob_s, if_pos rfl, gR_ok q3.ck.o, ob_s, gI_ok (em _ e7), ob_s, q3.ck.r32, ob_s, ckE_ok q3.ck.ot, ob_s, t1, ob_s]
        exact l1)
      have em2 : EM cs c2 := (em.trans em0).trans (EM.of (congrArg (fun z => z.2.2) l2.c1))
      obtain ⟨m1, m2⟩ := fin c2 r0 l3 l4
      refine ⟨_, r0, 0, D', tail c2 cin (em2 _ sa.e6) (em2 _ e7) (by rw [(l2.a0 225 oo (by omega)).r, (t8 225 oo (by omega)).r, (aoo 225).r]; exact v225) (em2 _ e4), ?_, m1, m2, ⟨mi, l2.cm.keep (EM.of rfl) (fun x x1 x2 => AT.sI (by omega))⟩, fun x hx => (((aoo x).trans (t8 x oo (by omega))).trans (l2.a0 x oo (by omega))).trans (AT.sI (by omega)), fun g => absurd (t5.symm.trans g) (by decide)⟩
      rw [ref0, if_neg (by rw [s2]; decide), rdI_n j9 (by decide), ob_s, r53, nI_5, rdI_n (by omega) (by decide), ob_s, f7, a2, ob_s, if_pos rfl, rdI_n j9 (by decide), ob_s, r54, t2, ob_s]
      rfl
  · -- a fault in the inner QUERY
    have cin : cb_X0_checkInner F T2 cs k oo oi = some cq := inn _ (by
      rw [ckE_ok q3.ck.o, ob_s, isf, if_neg s1, ob_s, if_neg (by decide)])
    obtain ⟨m1, m2⟩ := fin cq rq q3 ju
    refine ⟨_, rq, 0, D', tail cq cin (em _ sa.e6) (em _ e7) (by rw [(aoo 225).r]; exact v225) (em _ e4), ?_, m1, m2, ⟨0, (cl0.keep em (fun x _ _ => acl x)).keep (EM.of rfl) (fun x x1 x2 => AT.sI (by omega))⟩, fun x hx => (aoo x).trans (AT.sI (by omega)), fun g => absurd (s2.symm.trans g) (by decide)⟩
    rw [ref0, if_pos s2]
    rfl

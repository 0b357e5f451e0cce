/-! a SOURCE that is a stream, checked up to its name -/
theorem lN_inj {a b : Nat} (ha : a < 9223372036854775808) (hb : b < 9223372036854775808) (h : lN a = lN b) : a = b := by
  have e := congrArg Int64.toInt h
  rw [pk_lT (by omega), pk_lT (by omega)] at e
  omega
/-- kept so far: what the class says of the SELECT, what the reference -/
def KPT (d so e m : Nat) (b : Int32) (cs : CS) (rs : RS) : Prop := KSr d e m b rs ∧ ((kI cs 206 so = 0 ∧ b = 1) ∨ (kI cs 206 so ≠ 0 ∧ b = 0))
/-- what stands behind the first half of a SOURCE -/
def SRA (n : Nat) (f : Nat → Int32) (M d so e i oo : Nat) (b : Int32) (cs : CS) (rs : RS) : Prop := (∃ m, PSC n f M oo (oo + 1) m (3 * e + i) cs rs) ∧ KPT d so e (i + 1) b cs rs
theorem leaf_A {n : Nat} {f : Nat → Int32} {M t c cap s k : Nat} {V : VT} {so e i lo hi Sl Sh d : Nat} {D : Nat → Prop} {F ss oo dd : Nat} {b u2 : Int32} {T : TC_X0_checkQuery} {T' : TG_judgeQuery} {ns u : Nat} {cs : CS} {rs : RS} (hF : 10000 ≤ F) (he : e < 60) (hin : i < ns) (h : JH n f M t c cap s k V D cs rs) (g1 : rs.1 21 = 1) (st : STM ss cs rs) (sa : SAR so ns cs) (rn : rs.2.2.1 37 e = nI ns) (ho : kQ cs 195 so i = some oo) (e7 : (7, oo) ∈ kE cs) (hoo : lo ≤ oo ∧ oo + 1 < hi) (hso : so < lo) (h9 : dd ≤ 9) (v224 : kI cs 224 oo = nI dd) (v49 : rs.2.2.1 49 (3 * e + i) = nI dd) (v225 : kR cs 225 oo = none) (v226 : kI cs 226 oo = rs.2.2.1 50 (3 * e + i)) (v230 : (kJ cs 230 oo = -1 ∧ rs.2.2.1 51 (3 * e + i) = 0) ∨ (rs.2.2.1 51 (3 * e + i) = 1 ∧ 0 ≤ kJ cs 230 oo)) (v235 : kR cs 235 oo = some (oo + 1)) (cl0 : CLM (oo + 1) 0 cs) (nm : ∃ k', k' ≤ M ∧ rs.2.2.1 55 (3 * e + i) = nI k' ∧ NM9 n f k' (kJ cs 228 oo) cs rs) (kp : KPT d so e i b cs rs) : ∃ c1 r1 b', cb_X0_checkSource F T cs k so (nI i) = c_X0_checkSource_L90 F T F c1 k so (nI i) oo (nI 0) ∧ m_judgeSelect_L4 F T' (u + 1) rs (nI e) u2 (nI i) = m_judgeSelect_L122 F T' (m_judgeSelect_L4 F T' u) F r1 (nI e) u2 (nI i) (nI (3 * e + i)) (nI 0) ∧ JH n f M t c cap s k V D c1 r1 ∧ JU t c k so e i lo hi Sl Sh cs rs c1 r1 ∧ (∃ m, CLM (oo + 1) m c1) ∧ kI c1 234 oo = kI cs 234 oo ∧ (∀ x j, ¬ (j = t ∧ (x = 320 ∨ x = 321)) → ¬ (j = so ∧ x = 206) → ¬ (96 ≤ x ∧ x ≤ 100 ∧ j = oo + 1) → AT cs c1 x j) ∧ (∀ q, q ≠ 19 → q ≠ 20 → q ≠ 21 → r1.1 q = rs.1 q) ∧ r1.2 = rs.2 ∧ (r1.1 21 = 1 → SRA n f M d so e i oo b' c1 r1) := by
  have n3 := sa.n3
  have j9 : 3 * e + i < 180 := by omega
  have s6 := st.s6
  have ck := h.ck
  -- the class up to whether the SELECT is kept
  have cls : ∀ c0 : CS, c_X0_checkLeaf F cs k oo = some c0 → (6, so) ∈ kE c0 → (7, oo) ∈ kE c0 → cb_X0_checkSource F T cs k so (nI i) = c_X0_checkSource_L90 F T F (sI c0 206 so (if kI c0 206 so = 0 then (if 0 ≤ kJ c0 230 oo then 0 else 1) else 1)) k so (nI i) oo (nI 0) := fun c0 w1 w2 w3 => by
    unfold cb_X0_checkSource
    rw [sa.rd hin, ho, oc_s, gR_ok e7, ob_s, v225]
    show (Option.bind (ckE cs 1 k) fun _ => Option.bind (c_X0_checkLeaf F cs k oo) fun cs_41 => Option.bind (gI cs_41 6 206 so) fun v_43 => if v_43 = 0 then (Option.bind (gJ cs_41 7 230 oo) fun v_45 => if 0 ≤ v_45 then (c_X0_checkSource_b84 F T cs_41 k so (nI i) oo 0 so) else (c_X0_checkSource_b79 F T cs_41 k so (nI i) oo so)) else (c_X0_checkSource_b79 F T cs_41 k so (nI i) oo so)) = _
    rw [ckE_ok ck.o, ob_s, w1, ob_s, gI_ok w2, ob_s]
    unfold c_X0_checkSource_b79 c_X0_checkSource_b84 c_X0_checkSource_b87
    by_cases y1 : kI c0 206 so = 0
    · rw [if_pos y1, if_pos y1, gJ_ok w3, ob_s]
      by_cases y2 : 0 ≤ kJ c0 230 oo
      · rw [if_pos y2, if_pos y2, show ckZ 0 = some 0 from rfl, ob_s, pI_ok w2, ob_s]
        rfl
      · rw [if_neg y2, if_neg y2, show ckZ 1 = some 1 from rfl, ob_s, pI_ok w2, ob_s]
        rfl
    · rw [if_neg y1, if_neg y1, show ckZ 1 = some 1 from rfl, ob_s, pI_ok w2, ob_s]
      rfl
  have ref0 : m_judgeSelect_L4 F T' (u + 1) rs (nI e) u2 (nI i) = if nI dd < rs.1 4 then m_judgeSelect_b119 F T' (m_judgeSelect_L4 F T' u) rs (nI e) u2 (nI i) (nI (3 * e + i)) else Option.bind (m_tell F rs 2 (rs.2.2.1 50 (3 * e + i))) fun r => m_judgeSelect_b119 F T' (m_judgeSelect_L4 F T' u) r (nI e) u2 (nI i) (nI (3 * e + i)) := by
    rw [m_judgeSelect_L4, rdI_n he (by decide), ob_s, rn, if_neg (nI_ge hin (by omega)), if_neg (by rw [g1]; decide), nI_3, nI_add, rdI_n j9 (by decide), ob_s, v49, if_neg (nI_nm1 (by omega)), ob_s]
    by_cases y : nI dd < rs.1 4
    · rw [if_pos y, if_pos y]
    · rw [if_neg y, if_neg y, rdI_n j9 (by decide), ob_s]
  -- the write of whether it is kept
  have fin : ∀ (c0 : CS) (r1 : RS), JH n f M t c cap s k V D c0 r1 → JU t c k so e i lo hi Sl Sh cs rs c0 r1 → JH n f M t c cap s k V D (sI c0 206 so (if kI c0 206 so = 0 then (if 0 ≤ kJ c0 230 oo then 0 else 1) else 1)) r1 ∧ JU t c k so e i lo hi Sl Sh cs rs (sI c0 206 so (if kI c0 206 so = 0 then (if 0 ≤ kJ c0 230 oo then 0 else 1) else 1)) r1 := fun c0 r1 w1 w2 => by
    have j : JU t c k so e i lo hi Sl Sh c0 r1 (sI c0 206 so (if kI c0 206 so = 0 then (if 0 ≤ kJ c0 230 oo then 0 else 1) else 1)) r1 := JU.cls rfl (fun x j hx => AT.sI (by omega)) (fun _ _ => ⟨rfl, rfl⟩)
    exact ⟨w1.ju j (kI_n (by omega)) (kI_n (by omega)) (fun _ _ => rfl) rfl rfl (by omega), w2.trans j⟩
  by_cases hx : dd < ss
  · -- there is such a stream
    obtain ⟨cnt, c1', c4', cA, cR⟩ := st.ct dd hx
    obtain ⟨c0, l1, l2⟩ := leaf_L (F := F) (oo := oo) (cl := oo + 1) (rs := rs) c4' hx (cnt + 1) 1 F cs (by omega) (by omega) (by omega) (by omega) ck st cA e7 v224 v235 cl0
    have lf : c_X0_checkLeaf F cs k oo = some c0 := by
      unfold c_X0_checkLeaf
      rw [gR_ok ck.o, ob_s, gI_ok e7, ob_s, ck.r33, ob_s, ckE_ok st.e8, ob_s, v224, stm_in st hx, ob_s, if_neg (by decide)]
      exact l1
    have em : EM cs c0 := EM.of (congrArg (fun z => z.2.2) l2.c1)
    have ju : JU t c k so e i lo hi Sl Sh cs rs c0 rs := JU.cls l2.c1 (fun x j hx' => l2.a0 x j (by omega)) l2.pl
    have jh : JH n f M t c cap s k V D c0 rs := h.ju ju (l2.a0 320 t (by omega)).i (l2.a0 321 t (by omega)).i (fun _ _ => rfl) (l2.a0 72 c (by omega)).a rfl (by omega)
    obtain ⟨f1, f2⟩ := fin c0 rs jh ju
    have i206 : kI c0 206 so = kI cs 206 so := (l2.a0 206 so (by omega)).i
    have j230 : kJ c0 230 oo = kJ cs 230 oo := (l2.a0 230 oo (by omega)).j
    refine ⟨_, rs, if b = 0 then 0 else rs.2.2.1 51 (3 * e + i), cls c0 lf (em _ sa.e6) (em _ e7), ?_, f1, f2, ⟨cnt + 1, l2.cm.keep (EM.of rfl) (fun x x1 x2 => AT.sI (by omega))⟩, ?_, fun x j w1 w2 w3 => (l2.a0 x j (by omega)).trans (AT.sI (by omega)), fun _ _ _ _ => rfl, rfl, fun _ => ⟨⟨cnt + 1, ?_⟩, ?_, ?_⟩⟩
    · rw [ref0, st.r4, if_pos (nI_lt hx (by omega))]
      rfl
    · rw [kI_n (by omega)]
      exact (l2.a0 234 oo (by omega)).i
    · -- its columns
      have a3 : ∀ x, 96 ≤ x → x ≤ 100 → AT c0 (sI c0 206 so (if kI c0 206 so = 0 then (if 0 ≤ kJ c0 230 oo then 0 else 1) else 1)) x (oo + 1) := fun x x1 x2 => AT.sI (by omega)
      have tk : TKF cs rs (sI c0 206 so (if kI c0 206 so = 0 then (if 0 ≤ kJ c0 230 oo then 0 else 1) else 1)) rs := f2.tkf
      have nmq : ∀ y, y < cnt + 1 → kB (sI c0 206 so (if kI c0 206 so = 0 then (if 0 ≤ kJ c0 230 oo then 0 else 1) else 1)) 98 (oo + 1) y = if y = cnt then 0 else lN (y + 1) := fun y hy => by
        rw [(a3 98 (by omega) (by omega)).b, l2.nm y hy, if_neg (by omega)]
      refine ⟨em _ e7, ?_, l2.cm.keep (EM.of rfl) a3, ?_, Or.inl ⟨dd, cnt, by omega, ⟨c1', c4'⟩, rfl, v49, cR, fun y hy => ?_, ?_, fun y hy => ?_⟩, fun y y' h1 h2 h3 => ?_⟩
      · show kR c0 235 oo = some (oo + 1)
        rw [(l2.a0 235 oo (by omega)).r]
        exact v235
      · obtain ⟨k', k1, k2, k3⟩ := nm
        refine ⟨k', k1, k2, ?_⟩
        show NM9 n f k' (kJ c0 228 oo) _ _
        rw [(l2.a0 228 oo (by omega)).j]
        exact k3.f tk
      · rw [nmq y (by omega), if_neg (by omega)]
      · rw [nmq cnt (by omega), if_pos rfl]
      · rw [(a3 100 (by omega) (by omega)).a, l2.tp y hy, if_neg (by omega)]
      · rw [nmq y h1, nmq y' h2]
        have z0 : (0 : Int64) = lN 0 := by decide
        by_cases w1 : y = cnt
        · rw [if_pos w1, if_neg (by omega), z0]
          exact fun q => absurd (lN_inj (by omega) (by omega) q) (by omega)
        · rw [if_neg w1]
          by_cases w2 : y' = cnt
          · rw [if_pos w2, z0]
            exact fun q => absurd (lN_inj (by omega) (by omega) q) (by omega)
          · rw [if_neg w2]
            exact fun q => absurd (lN_inj (by omega) (by omega) q) (by omega)
    · exact kp.1.add (KO.leaf j9 (by rw [v49]; exact nI_nm1 (by omega)) rfl (by rcases v230 with ⟨-, q⟩ | ⟨q, -⟩ <;> (rw [q]; decide)))
    · rw [kI_s, i206, j230]
      rcases kp.2 with ⟨q1, q2⟩ | ⟨q1, q2⟩
      · rw [if_pos q1, q2]
        rcases v230 with ⟨w1, w2⟩ | ⟨w1, w2⟩
        · rw [w1, w2]
          exact Or.inr ⟨by decide, by decide⟩
        · rw [w1, if_pos w2]
          exact Or.inl ⟨rfl, by decide⟩
      · rw [if_neg q1, q2, if_pos rfl]
        exact Or.inr ⟨by decide, rfl⟩
  · -- there is none
    obtain ⟨c0, r1, t1, t2, t3, t4, t5, t6, t7, t8⟩ := h.tell (F := F) (a := 2) (b := kI cs 226 oo) (by decide)
    have lf : c_X0_checkLeaf F cs k oo = some c0 := by
      unfold c_X0_checkLeaf
      rw [gR_ok ck.o, ob_s, gI_ok e7, ob_s, ck.r33, ob_s, ckE_ok st.e8, ob_s, v224, stm_out st (by omega) h9, ob_s, if_pos rfl, gR_ok ck.o, ob_s, gI_ok e7, ob_s, ck.r32, ob_s, ckE_ok ck.ot, ob_s, t1, ob_s]
    have em : EM cs c0 := EM.of (congrArg (fun z => z.2.2) t3.c1)
    have ju : JU t c k so e i lo hi Sl Sh cs rs c0 r1 := JU.jk (JK.jf t3)
    obtain ⟨f1, f2⟩ := fin c0 r1 t4 ju
    refine ⟨_, r1, 0, cls c0 lf (em _ sa.e6) (em _ e7), ?_, f1, f2, ⟨0, (cl0.keep em (fun x x1 x2 => t8 x _ (by omega))).keep (EM.of rfl) (fun x x1 x2 => AT.sI (by omega))⟩, ?_, fun x j w1 w2 w3 => (t8 x j w1).trans (AT.sI (by omega)), t6, t7, fun g => absurd (t5.symm.trans g) (by decide)⟩
    · rw [ref0, st.r4, if_neg (nI_nlt (a := dd) (b := ss) (by omega) (by omega)), ← v226, t2, ob_s]
      rfl
    · rw [kI_n (by omega)]
      exact (t8 234 oo (by omega)).i

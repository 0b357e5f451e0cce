/-! a SOURCE that is a QUERY, whole -/
theorem QR.od {X : Nat → CS → Prop} {n : Nat} {f : Nat → Int32} {M c s Sb Qb d Su Sl Ql lo hi oq q : Nat} {cs : CS} {rs : RS} (h : QR X n f M c s Sb Qb cs rs d Su Sl Ql lo hi oq q) : (4, oq) ∈ kE cs ∧ lo ≤ oq ∧ oq < hi := by
  cases d with
  | zero => exact h.elim
  | succ d => exact ⟨h.2.e4, h.2.od.1, h.2.od.2⟩
/-- as SRC.jd, with the inner QUERY told -/
theorem SRC.jd2 {P P' : Nat → Nat → Nat → Nat → Nat → Nat → Prop} {X X' : Nat → CS → Prop} {n : Nat} {f : Nat → Int32} {M c s lo hi u ql i oo j oi qi lo' : Nat} {cs cs' : CS} {rs rs' : RS} (sc : SRC P X n f M c s lo hi u ql i oo j cs rs) (em : EM cs cs') (aO : ∀ x, 224 ≤ x → x ≤ 235 → x ≠ 234 → AT cs cs' x oo) (tk : TKF cs rs cs' rs') (hV : ∀ x, x < s → VW c cs' rs' x = VW c cs rs x) (r : ∀ q, 49 ≤ q → q ≤ 58 → rs'.2.2.1 q = rs.2.2.1 q) (rl : rs'.2.2.2 52 = rs.2.2.2 52) (y1 : kI cs 224 oo = -1) (y2 : rs.2.2.1 49 j = -1) (y3 : rs.2.2.1 51 j = 0) (y4 : kI cs 227 oo = rs.2.2.1 54 j) (y5 : oo + 1 < lo') (y6 : kR cs 225 oo = some oi) (y7 : rs.2.2.1 53 j = nI qi) (y8 : qi < 60) (hP : P' u ql lo' hi oi qi) (xj : X' (oo + 1) cs') : SRC P' X' n f M c s lo hi u ql i oo j cs' rs' := by
  have q : SRC (fun _ _ _ _ _ _ => True) X' n f M c s lo hi u ql i oo j cs' rs' := sc.jd em aO tk hV r rl (fun _ _ _ _ _ _ _ _ => True.intro) xj
  refine ⟨⟨q.b.e, q.b.ol, q.b.oh, q.b.nm, Or.inr ⟨?_, ?_, ?_, ?_, oi, qi, lo', y5, ?_, ?_, y8, hP⟩, q.b.cl⟩, q.ou, q.jn, q.on, q.o1⟩
  · rw [(aO 224 (by omega) (by omega) (by omega)).i]; exact y1
  · rw [r 49 (by omega) (by omega)]; exact y2
  · rw [r 51 (by omega) (by omega)]; exact y3
  · rw [(aO 227 (by omega) (by omega) (by omega)).i, r 54 (by omega) (by omega)]; exact y4
  · rw [(aO 225 (by omega) (by omega) (by omega)).r]; exact y6
  · rw [r 53 (by omega) (by omega)]; exact y7
theorem src_inner_C {n : Nat} {f : Nat → Int32} {M t c cap s k : Nat} {V : VT} {ss S Q K so e i d lo hi u v ql : Nat} {D : Nat → Prop} {F ns oo off u0 : Nat} {b : Int32} {T T2 : TC_X0_checkQuery} {T' : TG_judgeQuery} {cs : CS} {rs : RS} (hF : 10000 ≤ F) (sk : SKV V s) (hs : s ≤ 120) (hd : d ≤ 90) (he : e < 60) (hin : i < ns) (g1 : rs.1 21 = 1) (h : JH n f M t c cap s k V D cs rs) (hJ : JQS n f M t c cap s k V ss S Q K d T2.1 T'.1) (hT : T.2.2.2 = cb_X0_checkInner F T2) (uq : UQ K c s cs) (hK : K ≤ lo ∧ hi ≤ k ∧ t < K ∧ c < K ∧ so < lo) (st : STM ss cs rs) (sa : SAR so ns cs) (rn : rs.2.2.1 37 e = nI ns) (sn : SNM n f M so e ns cs rs) (ho : kQ cs 195 so i = some oo) (sc : SRC (QR X0 n f M c s S Q cs rs d v) X0 n f M c s lo hi u ql i oo (3 * e + i) cs rs) (hl : rs.2.2.1 49 (3 * e + i) = -1) (hu : e < u) (z0 : Z0 lo hi cs) (i0 : i = 0 → off = 0) (pv : SPV n f M so e i lo u cs rs) (hoff : off ≤ 40) (last : 0 < i → ∃ ol cl m a, kQ cs 195 so (i - 1) = some ol ∧ (7, ol) ∈ kE cs ∧ kR cs 235 ol = some cl ∧ CLM cl m cs ∧ ol < lo ∧ cl < lo ∧ kI cs 234 ol = nI a ∧ off = a + m) (kp : KPT d so e i b cs rs) : ∃ cs' rs' off', cb_X0_checkSource F T cs k so (nI i) = some cs' ∧ m_judgeSelect_L4 F T' (u0 + 1) rs (nI e) (nI off) (nI i) = m_judgeSelect_L4 F T' u0 rs' (nI e) off' (nI (i + 1)) ∧ SRP n f M t c cap s k V S Q d so e i oo lo hi u v ql off D cs rs cs' rs' off' := by
  obtain ⟨k1, k2, k3, k4, k5⟩ := hK
  have n3 := sa.n3
  have ol := sc.b.ol
  obtain ⟨cl, e1, e2, e3, e4⟩ := sc.b.cl
  rw [e1] at e2 e3 e4
  have e4' : CLM (oo + 1) 0 cs := e4
  obtain ⟨z1, z2, z3⟩ := z0 oo ol sc.b.oh
  rcases sc.b.kd with ⟨dd, h9, -, w, -⟩ | ⟨y1, y2, y3, y4, oi, qi, lo', y5, y6, y7, y8, y9⟩
  · exact absurd (w.symm.trans hl) (nI_nm1 (by omega))
  · have qd := QR.od y9
    have nm : ∃ k', k' ≤ M ∧ rs.2.2.1 55 (3 * e + i) = nI k' ∧ NM9 n f k' (kJ cs 228 oo) cs rs := by
      obtain ⟨k', q1, q2, q3, -⟩ := sc.b.nm
      exact ⟨k', q1, q2, q3⟩
    obtain ⟨c1, r1, b', D1, a1, a2, a3, a4, ⟨m0, a5⟩, A6, A7⟩ := inner_A (d := d) (lo := lo) (lo' := lo') (Sl := u) (Sh := v) (u2 := nI off) (T := T) (T' := T') (u := u0) hF hs he hin h g1 hJ hT st uq ⟨k1, k2, k3, k4⟩ sa rn ho sc.b.e ⟨ol, y5, by omega⟩ k5 y2 y6 y4 y7 y8 y9 z0 e3 e4' nm kp qd.1
    obtain ⟨c2, r2, D2, off', b1, b2, b3, b4, b5, b6⟩ := src_D (d := d) (off := off) (b := b) (b' := b') (T := T) (T' := T') (rc := m_judgeSelect_L4 F T' u0) hF sk hs hd he hin g1 h ⟨by omega, by omega, k2, k5⟩ sa sn ho sc.b.e ⟨ol, e2⟩ hu (fun hp => by
      rcases sc.jn with ⟨q, -⟩ | ⟨-, q⟩
      · omega
      · exact q) (sc.on.opx h.v) sc.o1 ⟨z3, i0⟩ pv hoff last a3 a4 A6 (fun g => (A7 g).1)
    have em : EM cs c2 := EM.of (congrArg (fun z => z.2.2) b5.c1)
    have em12 : EM c1 c2 := EM.of (congrArg (fun z => z.2.2) b4.c1)
    have cl2 : CLM (oo + 1) m0 c2 := a5.keep em12 (fun x x1 x2 => b4.a0 x (oo + 1) (by unfold kX; omega) (by omega))
    have aO : ∀ x, 224 ≤ x → x ≤ 235 → x ≠ 234 → AT cs c2 x oo := fun x x1 x2 x3 => (A6 x (by omega)).trans (b4.a0 x oo (by unfold kX; omega) (by omega))
    refine ⟨c2, r2, off', a1.trans b1, a2.trans b2, D2, b', b3, b5, ⟨m0, cl2⟩, fun g => ?_⟩
    obtain ⟨q1, q2, q3, q4, q5, q6, m, q7, q8⟩ := b6 g
    obtain ⟨-, p1, p2, p3, -⟩ := A7 q1
    have ain : ∀ x j, lo' ≤ j → j < hi → AT c1 c2 x j := fun x j j1 j2 => b4.a0 x j (by unfold kX; omega) (by omega)
    have uq1 : UQ K c s c1 := uq.at' (fun o => ⟨a4.a0 202 o (by unfold kX; omega) (by omega), a4.a0 203 o (by unfold kX; omega) (by omega)⟩) (a4.a0 65 c (by unfold kX; omega) (by omega))
    have ra : ∀ q, ¬ jK q → r2.2.2.1 q = r1.2.2.1 q := fun q hq => b4.fr.a hq
    have qr2 : QR XJ n f M c s S Q c2 r2 d v u ql lo' hi oi qi := QR.keep (Nat.le_refl _) hs (Nat.le_refl _) (Nat.le_refl _) (Nat.le_refl _) (Nat.le_refl _) d v u ql lo' hi oi qi p2 ⟨⟨em12, fun x j j1 j2 _ => ain x j j1 j2, fun j j1 j2 => (ain 100 j j1 j2).ap, fun x hx => (b3.v x hx).trans (a3.v x hx).symm, b4.tkf⟩, fun q j w1 w2 w3 _ _ => by rw [ra q (by unfold jK; omega)], fun j _ _ => by rw [b4.fr.l (k := 52) (by unfold jK; omega)]⟩ (fun x x1 x2 w => by
      obtain ⟨m9, w9⟩ := w
      exact ⟨m9, w9.keep em12 (fun y _ _ => ain y x x1 x2)⟩)
    have jd2 : JDN c s V D2 lo' hi c2 r2 d oi qi := JDN.keep (Nat.le_refl _) (Nat.le_refl _) (fun x j j1 j2 _ _ _ => ain x j j1 j2) (fun y o hy ho1 ho2 ham => by
      obtain ⟨n39, un⟩ := uq1 o y (by omega) hy ham
      exact b4.s72 y n39 (fun o' w1 w2 w3 => by
        have := un o' (by omega) w3
        omega)) q2 (fun q hq => ra q (by unfold jK; omega)) d oi qi p3
    have r49 : r2.2.2.1 49 (3 * e + i) = rs.2.2.1 49 (3 * e + i) := congrFun (b5.fr.a (by unfold jK; omega)) _
    have r53 : r2.2.2.1 53 (3 * e + i) = rs.2.2.1 53 (3 * e + i) := congrFun (b5.fr.a (by unfold jK; omega)) _
    refine ⟨fun z hz => q2 z (p1 z hz), q4, q5, sc.jd2 em aO b5.tkf (fun x hx => (b3.v x hx).trans (h.v x hx).symm) (fun q w1 w2 => b5.fr.a (by unfold jK; omega)) (b5.fr.l (by unfold jK; omega)) y1 y2 y3 y4 y5 y6 y7 y8 qr2 ⟨m0, cl2⟩, m, SRD.of q7 q6 (by rw [(aO 233 (by omega) (by omega) (by omega)).i]; exact q3) (fun w => absurd (r49.trans hl) w) (fun o' q' w0 _ w1 w2 => ?_), q8⟩
    rw [(aO 225 (by omega) (by omega) (by omega)).r] at w1
    rw [r53] at w2
    have eo : oi = o' := Option.some.inj (y6.symm.trans w1)
    have eq : qi = q' := (nI_eq (by omega) (by omega)).mp (y7.symm.trans w2)
    rw [← eo, ← eq]
    exact ⟨lo', by omega, jd2⟩

/-! a SOURCE that is a stream, whole -/
/-- what stands behind the i-th SOURCE of a SELECT -/
def SRP (n : Nat) (f : Nat → Int32) (M t c cap s k : Nat) (V : VT) (S Q d so e i oo lo hi u v ql off : Nat) (D : Nat → Prop) (cs : CS) (rs : RS) (cs' : CS) (rs' : RS) (off' : Int32) : Prop := ∃ (D' : Nat → Prop) (b' : Int32), JH n f M t c cap s k V D' cs' rs' ∧ JU t c k so e i lo hi u v cs rs cs' rs' ∧ (∃ m, CLM (oo + 1) m cs') ∧ (rs'.1 21 = 1 → (∀ z, D z → D' z) ∧ SRS n f M so e (i + 1) cs' rs' ∧ KPT d so e (i + 1) b' cs' rs' ∧ SRC (QR XJ n f M c s S Q cs' rs' d v) XJ n f M c s lo hi u ql i oo (3 * e + i) cs' rs' ∧ ∃ m, SRD (fun oi qi => ∃ lo', lo ≤ lo' ∧ JDN c s V D' lo' hi cs' rs' d oi qi) s V D' oo e i off m cs' rs' ∧ off' = nI (off + m))
theorem src_leaf_C {n : Nat} {f : Nat → Int32} {M t c cap s k : Nat} {V : VT} {ss S Q so e i d lo hi u v ql : Nat} {D : Nat → Prop} {F ns oo off u0 : Nat} {b : Int32} {T : TC_X0_checkQuery} {T' : TG_judgeQuery} {cs : CS} {rs : RS} (hF : 10000 ≤ F) (sk : SKV V s) (hs : s ≤ 120) (hd : d ≤ 90) (he : e < 60) (hin : i < ns) (g1 : rs.1 21 = 1) (h : JH n f M t c cap s k V D cs rs) (hK : t < lo ∧ c < lo ∧ hi ≤ k ∧ so < lo) (st : STM ss cs rs) (sa : SAR so ns cs) (rn : rs.2.2.1 37 e = nI ns) (sn : SNM n f M so e ns cs rs) (ho : kQ cs 195 so i = some oo) (sc : SRC (QR X0 n f M c s S Q cs rs d v) X0 n f M c s lo hi u ql i oo (3 * e + i) cs rs) (hl : rs.2.2.1 49 (3 * e + i) ≠ -1) (hu : e < u) (z0 : Z0 lo hi cs) (i0 : i = 0 → off = 0) (pv : SPV n f M so e i lo u cs rs) (hoff : off ≤ 40) (last : 0 < i → ∃ ol cl m a, kQ cs 195 so (i - 1) = some ol ∧ (7, ol) ∈ kE cs ∧ kR cs 235 ol = some cl ∧ CLM cl m cs ∧ ol < lo ∧ cl < lo ∧ kI cs 234 ol = nI a ∧ off = a + m) (kp : KPT d so e i b cs rs) : ∃ cs' rs' off', cb_X0_checkSource F T cs k so (nI i) = some cs' ∧ m_judgeSelect_L4 F T' (u0 + 1) rs (nI e) (nI off) (nI i) = m_judgeSelect_L4 F T' u0 rs' (nI e) off' (nI (i + 1)) ∧ SRP n f M t c cap s k V S Q d so e i oo lo hi u v ql off D cs rs cs' rs' off' := by
  obtain ⟨k1, k2, k3, k4⟩ := hK
  have n3 := sa.n3
  have ol := sc.b.ol
  obtain ⟨cl, e1, e2, e3, e4⟩ := sc.b.cl
  rw [e1] at e2 e3 e4
  have e4' : CLM (oo + 1) 0 cs := e4
  obtain ⟨z1, z2, z3⟩ := z0 oo ol sc.b.oh
  rcases sc.b.kd with ⟨dd, h9, v224, v49, v225, v226, v53, v230⟩ | ⟨-, w, -⟩
  · have nm : ∃ k', k' ≤ M ∧ rs.2.2.1 55 (3 * e + i) = nI k' ∧ NM9 n f k' (kJ cs 228 oo) cs rs := by
      obtain ⟨k', q1, q2, q3, -⟩ := sc.b.nm
      exact ⟨k', q1, q2, q3⟩
    obtain ⟨c1, r1, b', a1, a2, a3, a4, ⟨m0, a5⟩, a6, a7, a8, a9, a10⟩ := leaf_A (lo := lo) (hi := hi) (Sl := u) (Sh := v) (d := d) (u2 := nI off) (T := T) (T' := T') (u := u0) hF he hin h g1 st sa rn ho sc.b.e ⟨ol, e2⟩ k4 h9 v224 v49 v225 v226 (v230.imp id (fun q => ⟨q.1, q.2.2⟩)) e3 e4' nm kp
    have A6 : ∀ x, x ≠ 206 → AT cs c1 x oo := fun x hx => a7 x oo (by omega) (by omega) (by omega)
    obtain ⟨c2, r2, D2, off', b1, b2, b3, b4, b5, b6⟩ := src_D (d := d) (off := off) (b := b) (b' := b') (T := T) (T' := T') (rc := m_judgeSelect_L4 F T' u0) hF sk hs hd he hin g1 h ⟨k1, k2, k3, k4⟩ sa sn ho sc.b.e ⟨ol, e2⟩ hu (fun hp => by
      rcases sc.jn with ⟨q, -⟩ | ⟨-, q⟩
      · omega
      · exact q) (sc.on.opx h.v) sc.o1 ⟨z3, i0⟩ pv hoff last a3 a4 A6 a10
    have em : EM cs c2 := EM.of (congrArg (fun z => z.2.2) b5.c1)
    have cl2 : CLM (oo + 1) m0 c2 := a5.keep (EM.of (congrArg (fun z => z.2.2) b4.c1)) (fun x x1 x2 => b4.a0 x (oo + 1) (by unfold kX; omega) (by omega))
    have aO : ∀ x, 224 ≤ x → x ≤ 235 → x ≠ 234 → AT cs c2 x oo := fun x x1 x2 x3 => (A6 x (by omega)).trans (b4.a0 x oo (by unfold kX; omega) (by omega))
    refine ⟨c2, r2, off', a1.trans b1, a2.trans b2, D2, b', b3, b5, ⟨m0, cl2⟩, fun g => ?_⟩
    obtain ⟨q1, q2, q3, q4, q5, q6, m, q7, q8⟩ := b6 g
    have r49 : r2.2.2.1 49 (3 * e + i) = rs.2.2.1 49 (3 * e + i) := congrFun (b5.fr.a (by unfold jK; omega)) _
    have n225 : kR c2 225 oo = none := by rw [(aO 225 (by omega) (by omega) (by omega)).r]; exact v225
    refine ⟨q2, q4, q5, sc.jd em aO b5.tkf (fun x hx => (b3.v x hx).trans (h.v x hx).symm) (fun q w1 w2 => b5.fr.a (by unfold jK; omega)) (b5.fr.l (by unfold jK; omega)) (fun l oi qi _ w _ _ _ => absurd (v225.symm.trans w) (by intro q; cases q)) ⟨m0, cl2⟩, m, SRD.of q7 q6 (by rw [(aO 233 (by omega) (by omega) (by omega)).i]; exact q3) (fun _ => n225) (fun oi qi _ w _ _ => absurd (r49.symm.trans w) hl), q8⟩
  · exact absurd w hl

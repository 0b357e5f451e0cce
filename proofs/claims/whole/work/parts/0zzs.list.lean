/-! lists of both -/
/-- behind the last member -/
theorem li_close {n : Nat} {f : Nat → Int32} {M t c cap q sel : Nat} {ma : Bool} {F i z s s1 m r ik sk : Nat} {T : TC_X9_readExpr} {T' : TG_expr} {cs csk : CS} {rs rsk : RS} {k hw mt : Int32} (h : LI n f M t c cap q sel ma i z s s1 cs rs m r ik sk csk rsk) (hm : 1 ≤ m) (hm8 : m ≤ 8) (hk : (k = 27 ∧ hw = 0) ∨ (k = 60 ∧ hw = 1)) : ∃ cs' rs' a, c_X9_readList_b72 F T csk t k (nI s) (kA cs 353 9 i) mt (nI m) = some cs' ∧ m_test_b336 F T' rsk (nI (s1 - 1)) (kA cs 353 9 i) mt hw (nI r) = some (rs', a) ∧ EP n f M t c cap q sel ma i z s cs rs cs' rs' a := by
  have hch : s1 ≤ r ∧ r < sk ∧ ∀ R, CH (TR (VW c csk rsk) (sk - s1) R) (VW c csk rsk) m s1 r (sk - 1) := by
    rcases h.ch with y | y
    · omega
    · exact y.2
  obtain ⟨c1, c2, c3⟩ := hch
  have h1 := h.il
  have h2 := h.le
  have h3 := h.ss
  have h4 := h.g.si
  have last : ∀ (rs3 : RS) (a : Int32) (y : RS × Int32), Option.bind (wrI rs3 27 121 a hw) (fun cs_5 => m_test_b371 F T' cs_5 a (kA cs 353 9 i)) = some y → (if hw = 0 then (m_test_b370 F T' rs3 a (kA cs 353 9 i) 0 a) else (m_test_b370 F T' rs3 a (kA cs 353 9 i) 1 a)) = some y := fun rs3 a y hy => by
    unfold m_test_b370
    rcases hk with w | w
    · rw [w.2] at hy
      rw [if_pos w.2]
      exact hy
    · rw [w.2] at hy
      rw [if_neg (show ¬ hw = 0 by rw [w.2]; decide)]
      exact hy
  have nd := h.g.needS (F := F) (k := 42) (by decide) (by decide)
  rw [show nI 42 = 42 by decide, show st 42 = 41 by decide] at nd
  unfold c_X9_readList_b72 m_test_b336
  rw [ckE_ok h.g.h.o, ob_s, nI_1]
  rcases nd with ⟨w1, w2, w3⟩ | ⟨csB, rsB, w2, w3, pb, sqB⟩
  · have hn := h.g.next w1
    have sqA : SQ t c q sel ma csk rsk (sI csk 328 t (nI (ik + 1))) (setF rsk 18 (nI (ik + 1))) := (SQ.text (by decide)).trans (SQ.ref (by unfold eR; omega))
    have VA : VW c (sI csk 328 t (nI (ik + 1))) (setF rsk 18 (nI (ik + 1))) = VW c csk rsk := rfl
    obtain ⟨csA, hcsA⟩ : ∃ x, x = sI csk 328 t (nI (ik + 1)) := ⟨_, rfl⟩
    obtain ⟨rsA, hrsA⟩ : ∃ x, x = setF rsk 18 (nI (ik + 1)) := ⟨_, rfl⟩
    rw [← hcsA] at hn sqA VA w2
    rw [← hrsA] at hn sqA VA w3
    rw [w2, ob_s, w3, ob_s, ckE_ok hn.h.o, ob_s]
    rcases PG.mk (F := F) (k := k) (bg := kA cs 353 9 i) (mt := mt) (pt := nI (m + 1)) (k' := 11) (a := nI (s1 - 1)) (b := nI r) (d := -1) (fi := s) hn (by omega) (by omega) with ⟨cs3, rs3, f1, f2, f3, f4, f5, f6, f7, f8, f9, f10, f11⟩ | ⟨cs3, rs3, f1, f2, f3, f4, f5⟩
    · have hs3 := f3.s2
      have sqC : SQ t c q sel ma csA rsA cs3 rs3 := by rw [f10, f11]; exact SQ.mk hn.cn (by have := f3.s2; omega)
      have sqD : SQ t c q sel ma csA rsA cs3 (setI rs3 27 sk hw) := sqC.trans (SQ.refI (by unfold eR; omega))
      have V3 : ∀ x, x ≠ sk → VW c cs3 (setI rs3 27 sk hw) x = VW c csk rsk x := fun x hx => by rw [V27 hx, f4 x hx, VA]
      have Vs : VW c cs3 (setI rs3 27 sk hw) sk = ((k, nI s, nI (m + 1), kA cs 353 9 i, kB csA 69 c sk, -1, -1), (11, nI (s1 - 1), nI r, -1, hw, 0, kA cs 353 9 i, -1, 0)) := by rw [V27s, f5]
      have hkk : vk (VW c cs3 (setI rs3 27 sk hw)) sk = k := by unfold vk; rw [Vs]
      have k39 : k ≠ 39 := by rcases hk with y | y <;> rw [y.1] <;> decide
      have nag : ¬ AGN (VW c cs3 (setI rs3 27 sk hw)) sk := by
        unfold AGN
        rw [hkk]
        rcases hk with y | y <;> rw [y.1] <;> decide
      have ke := (h.ke.keep sqA (fun x _ _ => by rw [VA])).keep sqD (fun x x1 x2 => by rw [V3 x (by omega), VA])
      refine ⟨cs3, setF (setI rs3 27 sk hw) 74 (kA cs 353 9 i), nI sk, ?_, ?_, Or.inl ⟨ik + 1, sk + 1, (EG.of f3.r27 (by omega) (by omega) (by omega) (fun x hx => by rw [V3 x (by omega), h.kp x hx]) (fun R => ?_) ((h.sq.trans sqA).trans sqD) (ke.snoc (by rw [hkk]; exact k39) (fun y => absurd y nag)) (Or.inr (by omega)) (by unfold rx; rw [Vs])).s74, rfl, rfl⟩⟩
      · rw [f1, ob_s]
      · rw [f2, ob_s]
        refine last rs3 (nI sk) _ ?_
        rw [wrI_n (by omega) (by decide), ob_s]
        rfl
      · refine ⟨by omega, by unfold vf; rw [Vs], by unfold vb rb; rw [Vs], Or.inr (Or.inr (Or.inr (Or.inr (Or.inl ⟨m, s1, r, hm, by omega, h3, c1, c2, ?_, by unfold rl; rw [Vs], by unfold rr; rw [Vs], (TR.fr _ _ _ _ (fun x q1 q2 => V3 x (by omega)) (h.t1 R)).le (by omega), CH.fr (b := s1) m s1 r (sk - 1) (fun x q1 q2 => V3 x (by omega)) (fun a' r' q1 q2 z => (TR.fr _ _ _ _ (fun x q3 q4 => V3 x (by omega)) z).le (by omega)) (Nat.le_refl _) c1 (by omega) (c3 R)⟩))))⟩
        unfold INN vp vk rk rh
        rw [Vs]
        refine ⟨rfl, ?_⟩
        rcases hk with y | y
        · exact Or.inl ⟨y.1, rfl, y.2⟩
        · exact Or.inr ⟨y.1, rfl, y.2⟩
    · refine ⟨cs3, setF (setI rs3 27 0 hw) 74 (kA cs 353 9 i), 0, ?_, ?_, Or.inr ⟨f3.r27.s74, (h.sq.trans sqA).1.trans f4, (((h.sq.trans sqA).2.1.trans f5).trans (FR.setI (by unfold eR; omega))).trans (FR.setF (by unfold eR; omega))⟩⟩
      · rw [f1, ob_s]
      · rw [f2, ob_s]
        refine last rs3 0 _ ?_
        rw [wr27, ob_s]
        rfl
  · refine ⟨csB, setF (setI rsB 27 0 hw) 74 (kA cs 353 9 i), 0, ?_, ?_, Or.inr ⟨pb.r27.s74, (h.sq.trans sqB).1, ((h.sq.trans sqB).2.1.trans (FR.setI (by unfold eR; omega))).trans (FR.setF (by unfold eR; omega))⟩⟩
    · rw [w2, ob_s, ckE_ok pb.s.h.o, ob_s, cpl_f pb.s, ob_s]
    · rw [w3, ob_s, mk_f pb.r, ob_s]
      refine last rsB 0 _ ?_
      rw [wr27, ob_s]
      rfl
/-- at a token where no EXPR begins the class's method refuses there -/
def NS (n : Nat) (f : Nat → Int32) (M t c cap q sel : Nat) (ma : Bool) (F z : Nat) (P : CS → Nat → Option CS) : Prop := ∀ (i s : Nat) (cs : CS) (rs : RS), PG n f M t c cap q sel ma i z s cs rs → ∀ (p κ : Nat), TK n f i p κ cs rs → c_X9_beginsExpr F cs t (nI κ) 0 = some 0 → P cs t = some (sI (sI cs 320 t 1) 321 t (kA cs 353 9 i))
theorem rn0 {F t : Nat} {cs : CS} : c_X9_refuseNinth F cs t 0 0 = some cs := by
  unfold c_X9_refuseNinth c_X9_refuseNinth_b30
  rw [if_pos rfl]
/-- the list's end of the class behind a fault, whatever it has read -/
theorem liL1_f {F v t c : Nat} {T : TC_X9_readExpr} {cs : CS} {u1 u2 u3 u4 : Int32} (hs : ∀ x, FS t c x → T.2.2.2.2.1 x t = some x) (h : FS t c cs) : c_X9_readList_L21 F T (v + 2) cs t u1 u2 u3 u4 0 1 0 = some cs := by
  rw [show v + 2 = (v + 1) + 1 from rfl, c_X9_readList_L21, if_neg (by decide), if_neg (by decide), if_pos (by decide)]
  unfold c_X9_readList_b47
  rw [ckE_ok h.h.o, ob_s, rn0, ob_s, ckE_ok h.h.o, ob_s, hs cs h, ob_s, ckE_ok h.h.o, ob_s, acc_f h (by decide), ob_s]
  exact liL_f h
theorem li0 {F v t : Nat} {T : TC_X9_readExpr} {cs : CS} {u1 u2 u3 u4 u5 u7 : Int32} : c_X9_readList_L21 F T (v + 1) cs t u1 u2 u3 u4 u5 0 u7 = c_X9_readList_b72 F T cs t u1 u2 u3 u4 u5 := by
  rw [c_X9_readList_L21]
  by_cases y : 2000 ≤ u7
  · rw [if_pos y]
  · rw [if_neg y, if_pos rfl]
theorem ml0 {F v : Nat} {T' : TG_expr} {rs : RS} {u1 u2 u3 u5 u6 u7 u8 : Int32} : m_test_L234 F T' (v + 1) rs u1 u2 u3 u5 u6 u7 u8 0 = m_test_b336 F T' rs u1 u2 u3 u5 u6 := by
  rw [m_test_L234, if_pos rfl]
/-- what both do of a list behind a fault ends in one -/
theorem li_bad {n : Nat} {f : Nat → Int32} {M t c cap q sel : Nat} {ma : Bool} {F i z s : Nat} {T' : TG_expr} {cs cs' : CS} {rs rs' : RS} {u1 u3 u5 u6 : Int32} (pb : PB t c cs' rs') (fo : FO (PX t c q) cs cs') (fr : FR eR rs rs') : ∃ rs2 a, m_test_b336 F T' rs' u1 (kA cs 353 9 i) u3 u5 u6 = some (rs2, a) ∧ EP n f M t c cap q sel ma i z s cs rs cs' rs2 a := by
  obtain ⟨v, hv⟩ := mt336_f (F := F) (T' := T') (u1 := u1) (u2 := kA cs 353 9 i) (u3 := u3) (u5 := u5) (u6 := u6) pb.r
  exact ⟨_, 0, hv, Or.inr ⟨pb.r27.s74, fo, (fr.trans (FR.setI (by unfold eR; omega))).trans (FR.setF (by unfold eR; omega))⟩⟩
theorem sim_list_L {n : Nat} {f : Nat → Int32} {M t c cap q sel : Nat} {ma : Bool} {F z i s s1 : Nat} {T : TC_X9_readExpr} {T' : TG_expr} {cs : CS} {rs : RS} {k hw mt : Int32} (hF : 10000 ≤ F) (hT : SE n f M t c cap q sel ma z T.2.2.2.2.1 T'.2.2.2.2.1) (hN : NS n f M t c cap q sel ma F z T.2.2.2.2.1) (hs : ∀ x, FS t c x → T.2.2.2.2.1 x t = some x) (hf : ∀ r, FT r → T'.2.2.2.2.1 r = some (r, 0)) (hk : (k = 27 ∧ hw = 0) ∨ (k = 60 ∧ hw = 1)) : ∀ (u v m r ik sk : Nat) (csk : CS) (rsk : RS), 11 ≤ u + m → 11 ≤ v + m → m ≤ 8 → LI n f M t c cap q sel ma i z s s1 cs rs m r ik sk csk rsk → ∃ cs' rs' a, c_X9_readList_L21 F T u csk t k (nI s) (kA cs 353 9 i) mt (nI m) 1 (nI m) = some cs' ∧ m_test_L234 F T' v rsk (nI (s1 - 1)) (kA cs 353 9 i) mt hw (if m = 0 then -1 else nI r) (if m = 0 then -1 else nI (sk - 1)) (nI m) 1 = some (rs', a) ∧ EP n f M t c cap q sel ma i z s cs rs cs' rs' a := by
  intro u
  induction u with
  | zero => intro v m r ik sk csk rsk h1 h2 h3; exact absurd h1 (by omega)
  | succ u ih =>
    intro v m r ik sk csk rsk h1 h2 h3 h
    obtain ⟨v, rfl⟩ : ∃ x, v = x + 1 := ⟨v - 1, by omega⟩
    obtain ⟨u', hu'⟩ : ∃ x, u = x + 1 := ⟨u - 1, by omega⟩
    obtain ⟨v', hv'⟩ : ∃ x, v = x + 1 := ⟨v - 1, by omega⟩
    have nz : ¬ (1 : Int32) = 0 := by decide
    have hg := h.g
    have ho := hg.h.o
    have hsg := h.sg
    have hss := h.ss
    have h120 := hg.s2
    rw [c_X9_readList_L21, m_test_L234, if_neg (show ¬ 2000 ≤ nI m from nI_ge (b := 2000) (by omega) (by decide)), if_neg nz, if_neg nz, if_neg (show ¬ rsk.1 21 = 0 by rw [hg.g1]; decide), nI_1]
    unfold c_X9_readList_b47 m_test_b279
    rw [nI_1]
    by_cases y8 : m = 8
    · subst y8
      rw [if_neg (show ¬ nI 8 < 8 by decide), if_pos (show nI (8 + 1) = 9 by decide)]
      obtain ⟨cs5, rs5, a, n1, n2, n3, n4, n5⟩ := ninth (F := F) (T := T) (T' := T') hF hT (hN ik sk csk rsk hg) hf hg (fun z_12 => if (z_12.1.1 21) = 0 then (m_test_b305 F T' (m_test_L234 F T' v) z_12.1 (nI (s1 - 1)) (kA cs 353 9 i) mt hw (if 8 = 0 then -1 else nI r) (if 8 = 0 then -1 else nI (sk - 1)) (nI (8 + 1)) z_12.2) else (if (if 8 = 0 then -1 else nI (sk - 1)) = (-1) then (m_test_b321 F T' (m_test_L234 F T' v) z_12.1 (nI (s1 - 1)) (kA cs 353 9 i) mt hw z_12.2 (nI (8 + 1)) z_12.2) else (m_test_b305 F T' (m_test_L234 F T' v) z_12.1 (nI (s1 - 1)) (kA cs 353 9 i) mt hw (if 8 = 0 then -1 else nI r) (if 8 = 0 then -1 else nI (sk - 1)) (nI (8 + 1)) z_12.2)))
      rw [ckE_ok ho, ob_s, n1, ob_s, ckE_ok n3.s.h.o, ob_s, hs cs5 n3.s, ob_s, ckE_ok n3.s.h.o, ob_s, acc_f n3.s (by decide), ob_s, hu']
      obtain ⟨rs2, a2, b1, b2⟩ := li_bad (F := F) (i := i) (z := z) (s := s) (T' := T') (n := n) (f := f) (M := M) (cap := cap) (sel := sel) (ma := ma) (u1 := nI (s1 - 1)) (u3 := mt) (u5 := hw) (u6 := if 8 = 0 then -1 else nI r) n3 (h.sq.1.trans n4) (h.sq.2.1.trans n5)
      refine ⟨cs5, rs2, a2, liL_f n3.s, ?_, b2⟩
      refine n2.trans ?_
      show (if rs5.1 21 = 0 then _ else _) = _
      rw [if_pos n3.r.g, hv', mt305_f n3.r]
      exact b1
    · have hm9 : ¬ nI (m + 1) = 9 := fun w => by
        have := (nI_eq (b := 9) (by omega) (by decide)).mp w
        omega
      rw [if_pos (show nI m < 8 from nI_lt (b := 8) (by omega) (by decide)), if_neg hm9, ckE_ok ho, ob_s, rn0, ob_s, ckE_ok ho, ob_s]
      obtain ⟨cs1, rs1, a, e1, e2, e3⟩ := hT ik sk csk rsk hg
      rw [e1, ob_s, e2, ob_s]
      rcases e3 with ⟨i', s', g, ea, e74⟩ | ⟨pb, fo, fr⟩
      · subst ea
        have g1 := g.sl
        rw [ckE_ok g.g.h.o, ob_s, if_neg (show ¬ rs1.1 21 = 0 by rw [g.g.g1]; decide)]
        -- both states behind the member
        have key : ∃ rW r2, LI n f M t c cap q sel ma i z s s1 cs rs (m + 1) r2 i' s' cs1 rW ∧ (if (if m = 0 then (-1 : Int32) else nI (sk - 1)) = (-1) then (m_test_b321 F T' (m_test_L234 F T' v) rs1 (nI (s1 - 1)) (kA cs 353 9 i) mt hw (nI (s' - 1)) (nI (m + 1)) (nI (s' - 1))) else (m_test_b305 F T' (m_test_L234 F T' v) rs1 (nI (s1 - 1)) (kA cs 353 9 i) mt hw (if m = 0 then -1 else nI r) (if m = 0 then -1 else nI (sk - 1)) (nI (m + 1)) (nI (s' - 1)))) = m_test_b321 F T' (m_test_L234 F T' v) rW (nI (s1 - 1)) (kA cs 353 9 i) mt hw (nI r2) (nI (m + 1)) (nI (s' - 1)) := by
          by_cases y0 : m = 0
          · subst y0
            refine ⟨rs1, s' - 1, h.one g, ?_⟩
            rw [if_pos (rfl : 0 = 0), if_pos rfl]
          · refine ⟨_, r, h.more (by omega) g, ?_⟩
            rw [if_neg y0, if_neg y0, if_neg (show ¬ nI (sk - 1) = -1 from nI_nm1 (by omega))]
            unfold m_test_b305
            rw [if_neg (show ¬ rs1.1 21 = 0 by rw [g.g.g1]; decide), wrI_n (by omega) (by decide), ob_s]
        obtain ⟨rW, r2, li, ek⟩ := key
        have ms := li.g.mayS (F := F) (k := 43) (by decide) (by decide)
        rw [show nI 43 = 43 by decide, show st 43 = 44 by decide] at ms
        have fin : ∀ (csE : CS) (rsE : RS) (x : Int32), c_X9_accept F cs1 t 43 = some (csE, x) → m_takeSign F rW 44 = some (rsE, x) → (∃ cs' rs' a, c_X9_readList_L21 F T u csE t k (nI s) (kA cs 353 9 i) mt (nI (m + 1)) x (nI (m + 1)) = some cs' ∧ m_test_L234 F T' v rsE (nI (s1 - 1)) (kA cs 353 9 i) mt hw (nI r2) (nI (s' - 1)) (nI (m + 1)) x = some (rs', a) ∧ EP n f M t c cap q sel ma i z s cs rs cs' rs' a) → ∃ cs' rs' a, (Option.bind (c_X9_accept F cs1 t 43) fun z_9 => c_X9_readList_L21 F T u z_9.1 t k (nI s) (kA cs 353 9 i) mt (nI (m + 1)) z_9.2 (nI (m + 1))) = some cs' ∧ (if (if m = 0 then (-1 : Int32) else nI (sk - 1)) = (-1) then (m_test_b321 F T' (m_test_L234 F T' v) rs1 (nI (s1 - 1)) (kA cs 353 9 i) mt hw (nI (s' - 1)) (nI (m + 1)) (nI (s' - 1))) else (m_test_b305 F T' (m_test_L234 F T' v) rs1 (nI (s1 - 1)) (kA cs 353 9 i) mt hw (if m = 0 then -1 else nI r) (if m = 0 then -1 else nI (sk - 1)) (nI (m + 1)) (nI (s' - 1)))) = some (rs', a) ∧ EP n f M t c cap q sel ma i z s cs rs cs' rs' a := fun csE rsE x a1 a2 a3 => by
          obtain ⟨cs', rs', a, a4, a5, a6⟩ := a3
          refine ⟨cs', rs', a, ?_, ?_, a6⟩
          · rw [a1, ob_s]
            exact a4
          · rw [ek]
            unfold m_test_b321
            rw [a2, ob_s]
            exact a5
        rcases ms with ⟨w1, w2, w3⟩ | ⟨w2, w3⟩
        · refine fin _ _ 1 w2 w3 ?_
          have := ih v (m + 1) r2 (i' + 1) s' _ _ (by omega) (by omega) (by omega) (li.tok w1)
          rw [if_neg (show ¬ m + 1 = 0 by omega), if_neg (show ¬ m + 1 = 0 by omega)] at this
          exact this
        · refine fin _ _ 0 w2 w3 ?_
          rw [hu', hv', li0, ml0]
          exact li_close li (by omega) (by omega) hk
      · rw [ckE_ok pb.s.h.o, ob_s, acc_f pb.s (by decide), ob_s, if_pos pb.r.g, hu', hv', mt305_f pb.r]
        obtain ⟨rs2, a2, b1, b2⟩ := li_bad (F := F) (i := i) (z := z) (s := s) (T' := T') (n := n) (f := f) (M := M) (cap := cap) (sel := sel) (ma := ma) (u1 := nI (s1 - 1)) (u3 := mt) (u5 := hw) (u6 := if m = 0 then -1 else nI r) pb (h.sq.1.trans fo) (h.sq.2.1.trans fr)
        exact ⟨cs1, rs2, a2, liL_f pb.s, b1, b2⟩

/-! between two calls -/
theorem sim_set9 {F n d : Nat} {cs : CS} {rs : RS} {x : Int32} {t : Int64} (hF : 10000 ≤ F) (hB : Bas cs) (h : ST n cs rs) (hd : DR d cs rs) : (∃ cs' rs', c_X7_settle F cs 2 x t = some (cs', -1) ∧ m_row F rs x t = some (rs', -1) ∧ ST n cs' rs' ∧ DR 0 cs' rs' ∧ rs'.1 110 = 0 ∧ FX sS cs cs' ∧ FR sR' rs rs' ∧ ((∀ i, rs.2.2.1 9 i = 0 ∨ rs.2.2.1 9 i = 1) → ∀ i, rs'.2.2.1 9 i = 0 ∨ rs'.2.2.1 9 i = 1)) ∨ (∃ cs' rs' p, p < 8 ∧ c_X7_settle F cs 2 x t = some (cs', nI p) ∧ m_row F rs x t = Option.bind (m_renew F rs' 1) (fun z => some (z, nI p)) ∧ ST n cs' rs' ∧ DR 0 cs' rs' ∧ rs'.1 110 = 0 ∧ FX sS cs cs' ∧ FR sR' rs rs' ∧ ((∀ i, rs.2.2.1 9 i = 0 ∨ rs.2.2.1 9 i = 1) → ∀ i, rs'.2.2.1 9 i = 0 ∨ rs'.2.2.1 9 i = 1)) := by
  have hn := h.le
  have h4 := hd.le
  obtain ⟨c2, hc2⟩ : ∃ c, c = sI cs 264 2 0 := ⟨_, rfl⟩
  obtain ⟨q2, hq2⟩ : ∃ q, q = setF (setF rs 11 0) 110 0 := ⟨_, rfl⟩
  have f2 : FX sS cs c2 := by rw [hc2]; exact FX.sI (Or.inr (Or.inr (Or.inr rfl)))
  have g2 : FR sR' rs q2 := by rw [hq2]; exact (FR.setF (Or.inr (Or.inr (Or.inr (Or.inr (Or.inl rfl)))))).trans (FR.setF (Or.inr (Or.inr (Or.inr (Or.inr (Or.inr rfl))))))
  have hB2 := hB.fx f2
  have h2 : ST n c2 q2 := by rw [hc2, hq2]; exact h
  have d2 : DR 0 c2 q2 := by rw [hc2, hq2]; exact ⟨rfl, rfl, by omega, fun k hk => by omega⟩
  have z2 : q2.1 110 = 0 := by rw [hq2]; rfl
  have same : c_X7_settle F cs 2 x t = some (c2, -1) → m_row F rs x t = some (q2, -1) → (∃ cs' rs', c_X7_settle F cs 2 x t = some (cs', -1) ∧ m_row F rs x t = some (rs', -1) ∧ ST n cs' rs' ∧ DR 0 cs' rs' ∧ rs'.1 110 = 0 ∧ FX sS cs cs' ∧ FR sR' rs rs' ∧ ((∀ i, rs.2.2.1 9 i = 0 ∨ rs.2.2.1 9 i = 1) → ∀ i, rs'.2.2.1 9 i = 0 ∨ rs'.2.2.1 9 i = 1)) := fun a b => ⟨c2, q2, a, b, h2, d2, z2, f2, g2, fun w => by rw [hq2]; exact w⟩
  have hc : c_X7_settle F cs 2 x t = Option.bind (c_X7_exists F c2 2 x) fun v_3 => if v_3 = 0 then (c_X7_settle_b29 F c2) else (Option.bind (c_X7_columnCount F c2 2 x) fun v_6 => if nI d = v_6 then (Option.bind (c_X7_freePlace F c2 2 x) fun v_9 => if v_9 = (-1) then (c_X7_settle_b58 F c2 v_9) else (Option.bind (c_X7_write F c2 2 ((x * 8) + v_9) (nI d) t) fun cs_12 => c_X7_settle_b58 F cs_12 v_9)) else (c_X7_settle_b29 F c2)) := by
    unfold c_X7_settle
    rw [gI_ok hB.oS, ob_s, pI_ok hB.oS, ob_s, ← hc2, hd.ci]
    simp only [ckE_ok hB2.oS, ob_s]
  have hm : m_row F rs x t = if x < 0 then (m_row_b39 F q2) else (if nI n ≤ x then (m_row_b39 F q2) else (Option.bind (rdI (q2.2.2.1 5) 6 x) fun v_15 => if nI d = v_15 then (m_row_L44 F F q2 x t (nI d) 0) else (m_row_b39 F q2))) := by
    unfold m_row
    rw [← hq2, h2.ri, hd.ri]
  rcases pk_ix x (n := n) (by omega) with x0 | x0 | ⟨s, hs, rfl⟩
  · refine Or.inl (same ?_ ?_)
    · rw [hc, ex_out hB2 h2 (Or.inl x0), ob_s, if_pos rfl]; rfl
    · rw [hm, if_pos x0]; rfl
  · refine Or.inl (same ?_ ?_)
    · rw [hc, ex_out hB2 h2 (Or.inr x0), ob_s, if_pos rfl]; rfl
    · rw [hm, if_pos x0]
      by_cases q : x < 0
      · rw [if_pos q]; rfl
      · rw [if_neg q]; rfl
  · obtain ⟨c, w1, w4, k1, k2⟩ := h2.col s hs
    have hc' : c_X7_settle F cs 2 (nI s) t = if nI d = nI c then (Option.bind (c_X7_freePlace F c2 2 (nI s)) fun v_9 => if v_9 = (-1) then (c_X7_settle_b58 F c2 v_9) else (Option.bind (c_X7_write F c2 2 ((nI s * 8) + v_9) (nI d) t) fun cs_12 => c_X7_settle_b58 F cs_12 v_9)) else (c_X7_settle_b29 F c2) := by
      rw [hc, ex_in hB2 h2 hs, ob_s, if_neg (by decide), cc_in hB2 h2 hs k1, ob_s]
    have hm' : m_row F rs (nI s) t = if nI d = nI c then (m_row_L44 F F q2 (nI s) t (nI d) 0) else (m_row_b39 F q2) := by
      rw [hm, if_neg (nI_pos (by omega)), if_neg (nI_ge hs (by omega)), rdI_n (by omega) (by decide), ob_s, k2]
    by_cases hdc : d = c
    · subst hdc
      rw [if_pos rfl] at hc' hm'
      rcases lst8 (fun p => q2.2.2.1 6 (8 * s + p) = 0) with ⟨p, hp, hp0, hpk⟩ | hall
      · have db : ∀ j, j < d → rs.2.2.1 13 j = 0 ∨ rs.2.2.1 13 j = 1 := fun j hj => (hd.eq j hj).2.2.imp id And.left
        obtain ⟨c3, a1, a2, a3, a4, a5⟩ := wr_ok (F := F) (n := n) (rs := rs) (s := s) (p := p) (d := d) (t := t) hB2 (by omega) hp h4 (fun j hj => by
          have e := (hd.eq j hj).2.1
          rw [hc2]
          show kA cs 263 2 j = 0 ∨ kA cs 263 2 j = 1
          rw [e]
          exact db j hj)
        obtain ⟨q3, b1, b2, b3, b4⟩ := rf_copy (F := F) (d := d) (r := 8 * s + p) (p := nI p) h4 (by omega) F 0 (setL (setI q2 6 (8 * s + p) 1) 7 (8 * s + p) t) (Nat.zero_le _) (by rw [hq2]; exact db) (by omega)
        refine Or.inr ⟨c3, q3, p, hp, ?_, ?_, ?_, ?_, ?_, f2.trans (a2.mono (fun t ht => by rcases ht with e | e | e <;> simp [sS, e])), (g2.trans ((FR.setI (Or.inl rfl)).trans (FR.setL (Or.inr (Or.inl rfl))))).trans (b2.mono (fun t ht => by rcases ht with e | e <;> simp [sR', e])), fun w j => ?_⟩
        · rw [hc']
          unfold c_X7_freePlace
          rw [show (0 : Int32) = nI 0 from rfl, fp_hit hB2 h2 hs hp hp0 F 0 (Nat.zero_le _) (fun k _ hk => hpk k hk) (by omega), ob_s, if_neg (fun e => by have := nI_toInt (n := p) (by omega); rw [e] at this; simp at this), ix8', a1, ob_s]
          rfl
        · rw [hm', show (0 : Int32) = nI 0 from rfl, rf_hit (by omega) hp hp0 F 0 (Nat.zero_le _) (fun k _ hk => hpk k hk) (by omega)]
          unfold m_row_b72
          rw [if_neg (fun e => by have := (nI_eq (b := 8) (by omega) (by decide)).mp e; omega), ix8, wrI_n (by omega) (by decide), ob_s, wrL_n (by omega) (by decide), ob_s, show vp_nar .boolean 1 = 1 by decide, show (0 : Int32) = nI 0 from rfl]
          exact b1
        · have e258 : kA c3 258 2 = kA c2 258 2 := a2.a (by unfold wS; omega) 2
          have e6 : q3.2.2.1 6 = upd (q2.2.2.1 6) (8 * s + p) 1 := b2.a (by unfold r8; omega)
          have e5 : q3.2.2.1 5 = q2.2.2.1 5 := b2.a (k := 5) (by unfold r8; omega)
          have e7 : q3.2.2.2 7 = vp_updL (q2.2.2.2 7) (8 * s + p) t := b2.l (k := 7) (by unfold r8; omega)
          refine ⟨(a2.i (by unfold wS; omega) 2).trans h2.ci, (b2.f (k := 4) (by unfold r8; omega)).trans h2.ri, hn, fun k hk => ?_, ?_, fun r hr => ?_, fun r hr h8 => ?_, fun s' c' p' hs' hp' hc4 hk ht => ?_⟩
          · rw [e258, e5]
            exact h2.col k hk
          · exact (a2.j (by unfold wS; omega) 2).trans (h2.wm.trans (b2.1.resolve_left (by unfold r8; omega)).symm)
          · rw [a5 r, e6]
            by_cases q : r = 8 * s + p
            · rw [if_pos q, q, pk_us]
              exact ⟨rfl, Or.inr rfl⟩
            · rw [if_neg q, pk_un q]
              exact h2.th r hr
          · rw [e6, pk_un (by omega)]
            exact h2.out r hr h8
          · rw [e258] at hk
            rw [e6] at ht
            by_cases q : 8 * s' + p' = 8 * s + p
            · have es : s' = s := by omega
              have ep : p' = p := by omega
              subst es ep
              have ec : c' = d := (nI_eq (by omega) (by omega)).mp (hk.symm.trans k1)
              subst ec
              refine ⟨fun k hkc => ?_, ?_, ?_⟩
              · rw [a3, a4, b3, b4, if_neg (by omega), if_pos (by omega), if_pos (by omega), if_neg (by omega), if_pos (by omega), if_pos (by omega), show 5 * (8 * s' + p') + k - 5 * (8 * s' + p') = k by omega, show 4 * (8 * s' + p') + k - 4 * (8 * s' + p') = k by omega, hc2, hq2]
                exact hd.eq k hkc
              · rw [a3, if_pos rfl, e7, pk_uLs]
              · rw [a4, if_pos rfl]
            · rw [pk_un q] at ht
              obtain ⟨v1, v2, v3⟩ := h2.val s' c' p' hs' hp' hc4 hk ht
              refine ⟨fun k hkc => ?_, ?_, ?_⟩
              · rw [a3, a4, b3, b4, if_neg (by omega), if_neg (by omega), if_neg (by omega), if_neg (by omega), if_neg (by omega), if_neg (by omega)]
                exact v1 k hkc
              · rw [a3, if_neg (by omega), if_neg (by omega), e7, pk_uLn q]
                exact v2
              · rw [a4, if_neg (by omega), if_neg (by omega)]
                exact v3
        · exact ⟨(a2.i (by unfold wS; omega) 2).trans d2.ci, (b2.f (k := 11) (by unfold r8; omega)).trans d2.ri, by omega, fun k hk => by omega⟩
        · exact (b2.f (k := 110) (by unfold r8; omega)).trans z2
        · rw [b4 j]
          by_cases q : 4 * (8 * s + p) + 0 ≤ j ∧ j < 4 * (8 * s + p) + d
          · rw [if_pos q]
            rw [hq2]
            exact db _ (by omega)
          · rw [if_neg q, hq2]
            exact w j
      · refine Or.inl (same ?_ ?_)
        · rw [hc']
          unfold c_X7_freePlace
          rw [show (0 : Int32) = nI 0 from rfl, fp_miss hB2 h2 hs hall F 0 (by omega) (by omega), ob_s, if_pos rfl]
          rfl
        · rw [hm', show (0 : Int32) = nI 0 from rfl, rf_miss (by omega) hall F 0 (by omega) (by omega)]
    · have ne : ¬ nI d = nI c := fun e => hdc ((nI_eq (by omega) (by omega)).mp e)
      rw [if_neg ne] at hc' hm'
      exact Or.inl (same hc' hm')
theorem FX.at9 {S : Nat → Prop} {a b : CS} (h : FX S a b) {x : Nat} (hx : ¬ S x) (j : Nat) : AT a b x j := ⟨h.i hx j, h.j hx j, by rw [h.2.1], by rw [h.2.2.1], h.a hx j, h.b hx j, by rw [h.2.2.2.1], by rw [h.2.2.2.2.1]⟩
theorem KPN.fx {S R : Nat → Prop} {c k : Nat} {a b : CS} {rs rs' : RS} (f : FX S a b) (hS : ∀ t, S t → (256 ≤ t ∧ t < 320) ∨ 352 ≤ t) (r : FR R rs rs') (hR : ∀ q, R q → q < 18 ∨ 80 < q) (r5 : ∀ d, rs.2.2.1 5 d ≠ 0 → rs'.2.2.1 5 d = rs.2.2.1 5 d) : KPN c k a rs b rs' := by
  have ns : ∀ x, (x < 32 ∨ 63 < x ∧ x < 74 ∨ 76 < x ∧ x < 256 ∨ 320 ≤ x ∧ x < 352) → ¬ S x := fun x hx w => by
    have := hS x w
    omega
  refine ⟨EM.of f.e, fun x j _ _ hx _ => f.at9 (ns x hx) j, fun x j _ _ _ => ⟨by rw [f.2.2.1], by rw [f.2.2.2.2.1]⟩, fun x j h1 h2 _ => f.at9 (ns x (by omega)) j, r5, fun q h1 h2 h3 => ?_⟩
  have nq : ¬ R q := fun w => by
    have := hR q w
    omega
  exact ⟨r.f nq, r.a nq, r.l nq⟩
theorem KPN.one {c k : Nat} {a b : CS} {x y : RS} (h : KPN c k a x b y) : KPN c k a y b y := ⟨h.em, h.at', h.pl, h.a7, fun _ _ => rfl, fun _ _ _ _ => ⟨rfl, rfl, rfl⟩⟩
theorem RWA.fr {a b n : Nat} {S : LL} {X Y : RS} (h : RWA a b n S X) (h1 : Y.2.2.1 b = X.2.2.1 b) (h2 : Y.2.2.2 a = X.2.2.2 a) : RWA a b n S Y := fun i k hi hk => by
  unfold CEL
  rw [h1, h2]
  exact h i k hi hk
theorem RWA.bit {a b n : Nat} {S : LL} {X : RS} (h : RWA a b n S X) {j : Nat} (hj : j < S.length * n) : X.2.2.1 b j = 0 ∨ X.2.2.1 b j = 1 := by
  have n0 : 0 < n := by
    cases n with
    | zero => rw [Nat.mul_zero] at hj; omega
    | succ n => omega
  have w := (h (j / n) (j % n) (Nat.div_lt_of_lt_mul (by rw [Nat.mul_comm]; exact hj)) (Nat.mod_lt j n0)).1
  rw [Nat.div_add_mod] at w
  rw [w]
  exact fl_01 _
theorem CCS.mv {M : Nat} {C C' : CCT} {a b : CS} (h : CCS M C a) (em : EM a b) (g6 : AT a b 396 0) (g7 : AT a b 397 0) (c : kI b 398 0 = nI C'.length) (sub : C' = C ∨ C' = []) : CCS M C' b := ⟨em _ h.o, em _ h.e6, by rw [g6.p]; exact h.p6, by rw [g6.l]; exact h.l6, by rw [g6.l]; exact h.u6, em _ h.e7, by rw [g7.p]; exact h.p7, by rw [g7.l]; exact h.l7, by rw [g7.l]; exact h.u7, c, fun t ht => by
  rcases sub with e | e
  · rw [e] at ht ⊢
    rw [g6.a, g7.a]
    exact h.r t ht
  · rw [e] at ht
    exact absurd ht (Nat.not_lt_zero _)⟩
theorem CHS.mv {n : Nat} {C C' : CHT} {X Y : RS} (h : CHS n C X) (c : Y.1 110 = nI C'.length) (h1 : Y.2.2.1 111 = X.2.2.1 111) (h3 : Y.2.2.1 113 = X.2.2.1 113) (h2 : Y.2.2.2 112 = X.2.2.2 112) (sub : C' = C ∨ C' = []) : CHS n C' Y := by
  rcases sub with e | e
  · rw [e] at c ⊢
    exact ⟨c, fun t ht => by rw [h1]; exact h.by' t ht, h.rw'.fr h3 h2⟩
  · rw [e] at c ⊢
    exact ⟨c, fun t ht => absurd ht (Nat.not_lt_zero _), fun i k hi _ => absurd hi (Nat.not_lt_zero _)⟩
theorem CHM.nil {S0 S : LL} : CHM S0 S [] [] := ⟨rfl, fun t ht => absurd ht (Nat.not_lt_zero _)⟩
theorem ARL.go {w a2 a3 a4 : Nat} {od : Bool} {S0 R S : LL} {C C' : CCT} {CH CH' : CHT} {cs cs' : CS} {rs rs' : RS} (h : ARL w a2 a3 a4 od S0 R S C CH cs rs) (at' : ∀ x j, (288 ≤ x ∧ x ≤ 291) ∨ (395 ≤ x ∧ x ≤ 397) → AT cs cs' x j) (g : ∀ q, 100 ≤ q → q ≤ 109 → rs'.1 q = rs.1 q ∧ rs'.2.2.1 q = rs.2.2.1 q ∧ rs'.2.2.2 q = rs.2.2.2 q) (cc : ∃ M, CCS M C' cs' ∧ C'.length ≤ M ∧ M ≤ 1024) (ch : CHS w CH' rs') (cm : CHM S0 S C' CH') : ARL w a2 a3 a4 od S0 R S C' CH' cs' rs' := by
  have a8 := fun j => at' 288 j (by omega)
  have a9 := fun j => at' 289 j (by omega)
  have a6 := at' 396 0 (by omega)
  have a7 := at' 397 0 (by omega)
  exact ⟨by rw [(at' 395 0 (by omega)).i]; exact h.c5, h.r2.at' (a8 a2) (a9 a2), h.r3.at' (a8 a3) (a9 a3), h.r4.at' (a8 a4) (a9 a4), cc, by rw [a6.l, a7.l]; exact h.le, by rw [a6.l]; exact h.l8, by rw [a6.l]; exact h.lu, by rw [(g 100 (by omega) (by omega)).1]; exact h.x0, by rw [(g 101 (by omega) (by omega)).1]; exact h.x1, by rw [(g 104 (by omega) (by omega)).1]; exact h.x4, h.ws.fr (g 106 (by omega) (by omega)).2.1 (g 105 (by omega) (by omega)).2.2, h.wa.fr (g 103 (by omega) (by omega)).2.1 (g 102 (by omega) (by omega)).2.2, ch, cm, h.lS, h.l6, h.lR, h.l0, h.so, h.w8⟩
theorem ANX.rr {t r q il w a1 a2 a3 a4 : Nat} {a b : CS} (h : ANX t r q il w a1 a2 a3 a4 a) (em : EM a b) (rr : ∀ x j, kR b x j = kR a x j) (ac : ∀ x, 96 ≤ x → x ≤ 100 → AT a b x il) : ANX t r q il w a1 a2 a3 a4 b := ⟨em _ h.o, by rw [rr]; exact h.st, by rw [rr]; exact h.rn, by rw [rr]; exact h.s1, by rw [rr]; exact h.s2, by rw [rr]; exact h.s3, by rw [rr]; exact h.s4, em _ h.or', em _ h.ot, by rw [rr]; exact h.tp, em _ h.oq, by rw [rr]; exact h.im, h.ic.keep em ac⟩
/-- no text stands -/
def NOQ (cs : CS) (rs : RS) : Prop := (kR cs 389 0 = none) ∧ (kR cs 390 0 = none) ∧ (rs.1 81 = 0) ∧ (kI cs 395 0 = 0) ∧ (CCS 0 [] cs) ∧ (rs.1 110 = 0)
theorem NOQ.s9 {cs : CS} {rs : RS} (h : NOQ cs rs) : kR cs 389 0 = none := h.1
theorem NOQ.s0 {cs : CS} {rs : RS} (h : NOQ cs rs) : kR cs 390 0 = none := h.2.1
theorem NOQ.h81 {cs : CS} {rs : RS} (h : NOQ cs rs) : rs.1 81 = 0 := h.2.2.1
theorem NOQ.c5 {cs : CS} {rs : RS} (h : NOQ cs rs) : kI cs 395 0 = 0 := h.2.2.2.1
theorem NOQ.cc {cs : CS} {rs : RS} (h : NOQ cs rs) : CCS 0 [] cs := h.2.2.2.2.1
theorem NOQ.r0 {cs : CS} {rs : RS} (h : NOQ cs rs) : rs.1 110 = 0 := h.2.2.2.2.2
/-- a text stands -/
def STX (F n : Nat) (f : Nat → Int32) (M t cap s lf S Q oq ss r il w nst : Nat) (V : VT) (D : Nat → Prop) (cg cS c0 cR c4 c5 csH : CS) (rsH : RS) (od : Bool) (S0 R Sr : LL) (C : CCT) (CH : CHT) (cs : CS) (rs : RS) : Prop := (TXG F n f M t (t + 1) cap (t + 30) (kK cR) s lf S Q oq 15 V D csH rsH) ∧ (KPN (t + 1) (kK cR) csH rsH cs rs) ∧ (GCH F n f t oq ss cg cS c0 cR c4 c5) ∧ (KPN (t + 1) (kK cR) c5 rs cs rs) ∧ (kK cR ≤ kK cs) ∧ (rs.1 84 = nI n ∧ ∀ i, i < n → rs.2.2.1 83 i = f i) ∧ (ANX t r oq il w 15 20 25 30 cs) ∧ (RUN r (t + 1) 15 cs) ∧ (kR cs 160 r = some 2) ∧ (ARL w 20 25 30 od S0 R Sr C CH cs rs) ∧ (od = true ↔ kR cs 130 oq ≠ none) ∧ (rs.1 81 = 1) ∧ (ss ≤ nst ∧ ∀ d, d < ss → kA cg 258 2 d = kA cs 258 2 d) ∧ ((387, 9) ∉ kE cs) ∧ (COV7 rsH)
theorem STX.tx {F n : Nat} {f : Nat → Int32} {M t cap s lf S Q oq ss r il w nst : Nat} {V : VT} {D : Nat → Prop} {cg cS c0 cR c4 c5 csH : CS} {rsH : RS} {od : Bool} {S0 R Sr : LL} {C : CCT} {CH : CHT} {cs : CS} {rs : RS} (h : STX F n f M t cap s lf S Q oq ss r il w nst V D cg cS c0 cR c4 c5 csH rsH od S0 R Sr C CH cs rs) : TXG F n f M t (t + 1) cap (t + 30) (kK cR) s lf S Q oq 15 V D csH rsH := h.1
theorem STX.kp {F n : Nat} {f : Nat → Int32} {M t cap s lf S Q oq ss r il w nst : Nat} {V : VT} {D : Nat → Prop} {cg cS c0 cR c4 c5 csH : CS} {rsH : RS} {od : Bool} {S0 R Sr : LL} {C : CCT} {CH : CHT} {cs : CS} {rs : RS} (h : STX F n f M t cap s lf S Q oq ss r il w nst V D cg cS c0 cR c4 c5 csH rsH od S0 R Sr C CH cs rs) : KPN (t + 1) (kK cR) csH rsH cs rs := h.2.1
theorem STX.gc {F n : Nat} {f : Nat → Int32} {M t cap s lf S Q oq ss r il w nst : Nat} {V : VT} {D : Nat → Prop} {cg cS c0 cR c4 c5 csH : CS} {rsH : RS} {od : Bool} {S0 R Sr : LL} {C : CCT} {CH : CHT} {cs : CS} {rs : RS} (h : STX F n f M t cap s lf S Q oq ss r il w nst V D cg cS c0 cR c4 c5 csH rsH od S0 R Sr C CH cs rs) : GCH F n f t oq ss cg cS c0 cR c4 c5 := h.2.2.1
theorem STX.gk {F n : Nat} {f : Nat → Int32} {M t cap s lf S Q oq ss r il w nst : Nat} {V : VT} {D : Nat → Prop} {cg cS c0 cR c4 c5 csH : CS} {rsH : RS} {od : Bool} {S0 R Sr : LL} {C : CCT} {CH : CHT} {cs : CS} {rs : RS} (h : STX F n f M t cap s lf S Q oq ss r il w nst V D cg cS c0 cR c4 c5 csH rsH od S0 R Sr C CH cs rs) : KPN (t + 1) (kK cR) c5 rs cs rs := h.2.2.2.1
theorem STX.kc {F n : Nat} {f : Nat → Int32} {M t cap s lf S Q oq ss r il w nst : Nat} {V : VT} {D : Nat → Prop} {cg cS c0 cR c4 c5 csH : CS} {rsH : RS} {od : Bool} {S0 R Sr : LL} {C : CCT} {CH : CHT} {cs : CS} {rs : RS} (h : STX F n f M t cap s lf S Q oq ss r il w nst V D cg cS c0 cR c4 c5 csH rsH od S0 R Sr C CH cs rs) : kK cR ≤ kK cs := h.2.2.2.2.1
theorem STX.gt {F n : Nat} {f : Nat → Int32} {M t cap s lf S Q oq ss r il w nst : Nat} {V : VT} {D : Nat → Prop} {cg cS c0 cR c4 c5 csH : CS} {rsH : RS} {od : Bool} {S0 R Sr : LL} {C : CCT} {CH : CHT} {cs : CS} {rs : RS} (h : STX F n f M t cap s lf S Q oq ss r il w nst V D cg cS c0 cR c4 c5 csH rsH od S0 R Sr C CH cs rs) : rs.1 84 = nI n ∧ ∀ i, i < n → rs.2.2.1 83 i = f i := h.2.2.2.2.2.1
theorem STX.an {F n : Nat} {f : Nat → Int32} {M t cap s lf S Q oq ss r il w nst : Nat} {V : VT} {D : Nat → Prop} {cg cS c0 cR c4 c5 csH : CS} {rsH : RS} {od : Bool} {S0 R Sr : LL} {C : CCT} {CH : CHT} {cs : CS} {rs : RS} (h : STX F n f M t cap s lf S Q oq ss r il w nst V D cg cS c0 cR c4 c5 csH rsH od S0 R Sr C CH cs rs) : ANX t r oq il w 15 20 25 30 cs := h.2.2.2.2.2.2.1
theorem STX.rn {F n : Nat} {f : Nat → Int32} {M t cap s lf S Q oq ss r il w nst : Nat} {V : VT} {D : Nat → Prop} {cg cS c0 cR c4 c5 csH : CS} {rsH : RS} {od : Bool} {S0 R Sr : LL} {C : CCT} {CH : CHT} {cs : CS} {rs : RS} (h : STX F n f M t cap s lf S Q oq ss r il w nst V D cg cS c0 cR c4 c5 csH rsH od S0 R Sr C CH cs rs) : RUN r (t + 1) 15 cs := h.2.2.2.2.2.2.2.1
theorem STX.r6 {F n : Nat} {f : Nat → Int32} {M t cap s lf S Q oq ss r il w nst : Nat} {V : VT} {D : Nat → Prop} {cg cS c0 cR c4 c5 csH : CS} {rsH : RS} {od : Bool} {S0 R Sr : LL} {C : CCT} {CH : CHT} {cs : CS} {rs : RS} (h : STX F n f M t cap s lf S Q oq ss r il w nst V D cg cS c0 cR c4 c5 csH rsH od S0 R Sr C CH cs rs) : kR cs 160 r = some 2 := h.2.2.2.2.2.2.2.2.1
theorem STX.al {F n : Nat} {f : Nat → Int32} {M t cap s lf S Q oq ss r il w nst : Nat} {V : VT} {D : Nat → Prop} {cg cS c0 cR c4 c5 csH : CS} {rsH : RS} {od : Bool} {S0 R Sr : LL} {C : CCT} {CH : CHT} {cs : CS} {rs : RS} (h : STX F n f M t cap s lf S Q oq ss r il w nst V D cg cS c0 cR c4 c5 csH rsH od S0 R Sr C CH cs rs) : ARL w 20 25 30 od S0 R Sr C CH cs rs := h.2.2.2.2.2.2.2.2.2.1
theorem STX.oi {F n : Nat} {f : Nat → Int32} {M t cap s lf S Q oq ss r il w nst : Nat} {V : VT} {D : Nat → Prop} {cg cS c0 cR c4 c5 csH : CS} {rsH : RS} {od : Bool} {S0 R Sr : LL} {C : CCT} {CH : CHT} {cs : CS} {rs : RS} (h : STX F n f M t cap s lf S Q oq ss r il w nst V D cg cS c0 cR c4 c5 csH rsH od S0 R Sr C CH cs rs) : od = true ↔ kR cs 130 oq ≠ none := h.2.2.2.2.2.2.2.2.2.2.1
theorem STX.h81 {F n : Nat} {f : Nat → Int32} {M t cap s lf S Q oq ss r il w nst : Nat} {V : VT} {D : Nat → Prop} {cg cS c0 cR c4 c5 csH : CS} {rsH : RS} {od : Bool} {S0 R Sr : LL} {C : CCT} {CH : CHT} {cs : CS} {rs : RS} (h : STX F n f M t cap s lf S Q oq ss r il w nst V D cg cS c0 cR c4 c5 csH rsH od S0 R Sr C CH cs rs) : rs.1 81 = 1 := h.2.2.2.2.2.2.2.2.2.2.2.1
theorem STX.sx {F n : Nat} {f : Nat → Int32} {M t cap s lf S Q oq ss r il w nst : Nat} {V : VT} {D : Nat → Prop} {cg cS c0 cR c4 c5 csH : CS} {rsH : RS} {od : Bool} {S0 R Sr : LL} {C : CCT} {CH : CHT} {cs : CS} {rs : RS} (h : STX F n f M t cap s lf S Q oq ss r il w nst V D cg cS c0 cR c4 c5 csH rsH od S0 R Sr C CH cs rs) : ss ≤ nst ∧ ∀ d, d < ss → kA cg 258 2 d = kA cs 258 2 d := h.2.2.2.2.2.2.2.2.2.2.2.2.1
theorem STX.nb {F n : Nat} {f : Nat → Int32} {M t cap s lf S Q oq ss r il w nst : Nat} {V : VT} {D : Nat → Prop} {cg cS c0 cR c4 c5 csH : CS} {rsH : RS} {od : Bool} {S0 R Sr : LL} {C : CCT} {CH : CHT} {cs : CS} {rs : RS} (h : STX F n f M t cap s lf S Q oq ss r il w nst V D cg cS c0 cR c4 c5 csH rsH od S0 R Sr C CH cs rs) : (387, 9) ∉ kE cs := h.2.2.2.2.2.2.2.2.2.2.2.2.2.1
theorem STX.cv {F n : Nat} {f : Nat → Int32} {M t cap s lf S Q oq ss r il w nst : Nat} {V : VT} {D : Nat → Prop} {cg cS c0 cR c4 c5 csH : CS} {rsH : RS} {od : Bool} {S0 R Sr : LL} {C : CCT} {CH : CHT} {cs : CS} {rs : RS} (h : STX F n f M t cap s lf S Q oq ss r il w nst V D cg cS c0 cR c4 c5 csH rsH od S0 R Sr C CH cs rs) : COV7 rsH := h.2.2.2.2.2.2.2.2.2.2.2.2.2.2
def STY (F nst : Nat) (cs : CS) (rs : RS) : Prop := ∃ (n : Nat) (f : Nat → Int32) (M t cap s lf S Q oq ss r il w : Nat) (V : VT) (D : Nat → Prop) (cg cS c0 cR c4 c5 csH : CS) (rsH : RS) (od : Bool) (S0 R Sr : LL) (C : CCT) (CH : CHT), STX F n f M t cap s lf S Q oq ss r il w nst V D cg cS c0 cR c4 c5 csH rsH od S0 R Sr C CH cs rs
/-- both, between two calls -/
def SIM (F i : Nat) (cs : CS) (rs : RS) : Prop := (Bas cs) ∧ (DFC cs) ∧ (100 ≤ kK cs) ∧ (∀ j, j < 39 → kB cs 358 9 j = lN (tn j)) ∧ (∃ n, TP n cs rs) ∧ (∃ d, DR d cs rs) ∧ (∀ i, rs.2.2.1 9 i = 0 ∨ rs.2.2.1 9 i = 1) ∧ (∀ i, rs.2.2.1 86 i = 0 ∨ rs.2.2.1 86 i = 1) ∧ (rs.1 97 = 0) ∧ (kI cs 388 0 = rs.1 82) ∧ (kR cs 391 0 = some 15) ∧ (kR cs 392 0 = some 20) ∧ (kR cs 393 0 = some 25) ∧ (kR cs 394 0 = some 30) ∧ (STS 15 280000 cs) ∧ (STS 20 10000 cs) ∧ (STS 25 10000 cs) ∧ (STS 30 10000 cs) ∧ (kL cs 397 0 = kL cs 396 0) ∧ (8 ≤ kL cs 396 0) ∧ (kL cs 396 0 ≤ 2400) ∧ (kM cs ≤ 900000 + 15500 * i + PTA 15 20 25 30 cs) ∧ (16 * kK cs ≤ 3200 + 21600 * i + PTK 15 20 25 30 cs) ∧ (CA 37 2 cs) ∧ (∃ so no, rs.1 104 = nI so ∧ rs.1 101 = nI no ∧ so * no ≤ 4800 ∧ ∀ j, j < so * no → rs.2.2.1 106 j = 0 ∨ rs.2.2.1 106 j = 1) ∧ (∃ nst, ST nst cs rs ∧ (∀ d, nst ≤ d → d ≤ 9 → rs.2.2.1 5 d = 0) ∧ (NOQ cs rs ∨ STY F nst cs rs))
theorem SIM.b {F i : Nat} {cs : CS} {rs : RS} (h : SIM F i cs rs) : Bas cs := h.1
theorem SIM.df {F i : Nat} {cs : CS} {rs : RS} (h : SIM F i cs rs) : DFC cs := h.2.1
theorem SIM.k0 {F i : Nat} {cs : CS} {rs : RS} (h : SIM F i cs rs) : 100 ≤ kK cs := h.2.2.1
theorem SIM.wd {F i : Nat} {cs : CS} {rs : RS} (h : SIM F i cs rs) : ∀ j, j < 39 → kB cs 358 9 j = lN (tn j) := h.2.2.2.1
theorem SIM.tp {F i : Nat} {cs : CS} {rs : RS} (h : SIM F i cs rs) : ∃ n, TP n cs rs := h.2.2.2.2.1
theorem SIM.dr {F i : Nat} {cs : CS} {rs : RS} (h : SIM F i cs rs) : ∃ d, DR d cs rs := h.2.2.2.2.2.1
theorem SIM.f9 {F i : Nat} {cs : CS} {rs : RS} (h : SIM F i cs rs) : ∀ i, rs.2.2.1 9 i = 0 ∨ rs.2.2.1 9 i = 1 := h.2.2.2.2.2.2.1
theorem SIM.fb {F i : Nat} {cs : CS} {rs : RS} (h : SIM F i cs rs) : ∀ i, rs.2.2.1 86 i = 0 ∨ rs.2.2.1 86 i = 1 := h.2.2.2.2.2.2.2.1
theorem SIM.z97 {F i : Nat} {cs : CS} {rs : RS} (h : SIM F i cs rs) : rs.1 97 = 0 := h.2.2.2.2.2.2.2.2.1
theorem SIM.lf {F i : Nat} {cs : CS} {rs : RS} (h : SIM F i cs rs) : kI cs 388 0 = rs.1 82 := h.2.2.2.2.2.2.2.2.2.1
theorem SIM.s1 {F i : Nat} {cs : CS} {rs : RS} (h : SIM F i cs rs) : kR cs 391 0 = some 15 := h.2.2.2.2.2.2.2.2.2.2.1
theorem SIM.s2 {F i : Nat} {cs : CS} {rs : RS} (h : SIM F i cs rs) : kR cs 392 0 = some 20 := h.2.2.2.2.2.2.2.2.2.2.2.1
theorem SIM.s3 {F i : Nat} {cs : CS} {rs : RS} (h : SIM F i cs rs) : kR cs 393 0 = some 25 := h.2.2.2.2.2.2.2.2.2.2.2.2.1
theorem SIM.s4 {F i : Nat} {cs : CS} {rs : RS} (h : SIM F i cs rs) : kR cs 394 0 = some 30 := h.2.2.2.2.2.2.2.2.2.2.2.2.2.1
theorem SIM.b1 {F i : Nat} {cs : CS} {rs : RS} (h : SIM F i cs rs) : STS 15 280000 cs := h.2.2.2.2.2.2.2.2.2.2.2.2.2.2.1
theorem SIM.b2 {F i : Nat} {cs : CS} {rs : RS} (h : SIM F i cs rs) : STS 20 10000 cs := h.2.2.2.2.2.2.2.2.2.2.2.2.2.2.2.1
theorem SIM.b3 {F i : Nat} {cs : CS} {rs : RS} (h : SIM F i cs rs) : STS 25 10000 cs := h.2.2.2.2.2.2.2.2.2.2.2.2.2.2.2.2.1
theorem SIM.b4 {F i : Nat} {cs : CS} {rs : RS} (h : SIM F i cs rs) : STS 30 10000 cs := h.2.2.2.2.2.2.2.2.2.2.2.2.2.2.2.2.2.1
theorem SIM.le {F i : Nat} {cs : CS} {rs : RS} (h : SIM F i cs rs) : kL cs 397 0 = kL cs 396 0 := h.2.2.2.2.2.2.2.2.2.2.2.2.2.2.2.2.2.2.1
theorem SIM.l8 {F i : Nat} {cs : CS} {rs : RS} (h : SIM F i cs rs) : 8 ≤ kL cs 396 0 := h.2.2.2.2.2.2.2.2.2.2.2.2.2.2.2.2.2.2.2.1
theorem SIM.lu {F i : Nat} {cs : CS} {rs : RS} (h : SIM F i cs rs) : kL cs 396 0 ≤ 2400 := h.2.2.2.2.2.2.2.2.2.2.2.2.2.2.2.2.2.2.2.2.1
theorem SIM.rm {F i : Nat} {cs : CS} {rs : RS} (h : SIM F i cs rs) : kM cs ≤ 900000 + 15500 * i + PTA 15 20 25 30 cs := h.2.2.2.2.2.2.2.2.2.2.2.2.2.2.2.2.2.2.2.2.2.1
theorem SIM.rk {F i : Nat} {cs : CS} {rs : RS} (h : SIM F i cs rs) : 16 * kK cs ≤ 3200 + 21600 * i + PTK 15 20 25 30 cs := h.2.2.2.2.2.2.2.2.2.2.2.2.2.2.2.2.2.2.2.2.2.2.1
theorem SIM.ca {F i : Nat} {cs : CS} {rs : RS} (h : SIM F i cs rs) : CA 37 2 cs := h.2.2.2.2.2.2.2.2.2.2.2.2.2.2.2.2.2.2.2.2.2.2.2.1
theorem SIM.x1 {F i : Nat} {cs : CS} {rs : RS} (h : SIM F i cs rs) : ∃ so no, rs.1 104 = nI so ∧ rs.1 101 = nI no ∧ so * no ≤ 4800 ∧ ∀ j, j < so * no → rs.2.2.1 106 j = 0 ∨ rs.2.2.1 106 j = 1 := h.2.2.2.2.2.2.2.2.2.2.2.2.2.2.2.2.2.2.2.2.2.2.2.2.1
theorem SIM.st {F i : Nat} {cs : CS} {rs : RS} (h : SIM F i cs rs) : ∃ nst, ST nst cs rs ∧ (∀ d, nst ≤ d → d ≤ 9 → rs.2.2.1 5 d = 0) ∧ (NOQ cs rs ∨ STY F nst cs rs) := h.2.2.2.2.2.2.2.2.2.2.2.2.2.2.2.2.2.2.2.2.2.2.2.2.2
theorem SIM.up {F i : Nat} {cs : CS} {rs : RS} (h : SIM F i cs rs) : SIM F (i + 1) cs rs := by
  have h1 := h.rm
  have h2 := h.rk
  exact ⟨h.b, h.df, h.k0, h.wd, h.tp, h.dr, h.f9, h.fb, h.z97, h.lf, h.s1, h.s2, h.s3, h.s4, h.b1, h.b2, h.b3, h.b4, h.le, h.l8, h.lu, by omega, by omega, h.ca, h.x1, h.st⟩
/-- steps on the tape, the drafts, the streams; what was told of changes may be forgotten -/
theorem SIM.mov {F i : Nat} {S R : Nat → Prop} {cs cs' : CS} {rs rs' : RS} (h : SIM F i cs rs) (f : FX S cs cs') (hS : ∀ t, S t → (256 ≤ t ∧ t ≤ 264) ∨ t = 384 ∨ t = 385 ∨ t = 398) (g : FR R rs rs') (hR : ∀ q, R q → q ≤ 13 ∨ q = 110) (df : DFC cs') (tp : ∃ n, TP n cs' rs') (dr : ∃ d, DR d cs' rs') (f9 : ∀ i, rs'.2.2.1 9 i = 0 ∨ rs'.2.2.1 9 i = 1) (zz : (kI cs' 398 0 = kI cs 398 0 ∧ rs'.1 110 = rs.1 110) ∨ (kI cs' 398 0 = 0 ∧ rs'.1 110 = 0)) (r5 : ∀ d, rs.2.2.1 5 d ≠ 0 → rs'.2.2.1 5 d = rs.2.2.1 5 d) (st : ∀ nst, ST nst cs rs → (∀ d, nst ≤ d → d ≤ 9 → rs.2.2.1 5 d = 0) → ∃ n', nst ≤ n' ∧ ST n' cs' rs' ∧ (∀ d, n' ≤ d → d ≤ 9 → rs'.2.2.1 5 d = 0) ∧ ∀ d, d < nst → kA cs' 258 2 d = kA cs 258 2 d) : SIM F i cs' rs' := by
  have ns : ∀ x, ¬ ((256 ≤ x ∧ x ≤ 264) ∨ x = 384 ∨ x = 385 ∨ x = 398) → ¬ S x := fun x hx w => hx (hS x w)
  have at' : ∀ x j, ¬ ((256 ≤ x ∧ x ≤ 264) ∨ x = 384 ∨ x = 385 ∨ x = 398) → AT cs cs' x j := fun x j hx => f.at9 (ns x hx) j
  have nr : ∀ q, ¬ (q ≤ 13 ∨ q = 110) → ¬ R q := fun q hq w => hq (hR q w)
  have em : EM cs cs' := EM.of f.e
  have rr : ∀ x j, kR cs' x j = kR cs x j := fun x j => by rw [f.2.1]
  have ll : ∀ x j, kL cs' x j = kL cs x j := fun x j => by rw [f.2.2.2.2.1]
  have sts : ∀ ar B, STS ar B cs → STS ar B cs' := fun ar B w => w.at' em (at' 288 ar (by omega)) (at' 289 ar (by omega)) (at' 290 ar (by omega)) (at' 291 ar (by omega))
  have pa : PTA 15 20 25 30 cs' = PTA 15 20 25 30 cs := by
    unfold PTA
    simp only [ll]
  have pk : PTK 15 20 25 30 cs' = PTK 15 20 25 30 cs := by
    unfold PTK
    simp only [ll]
  refine ⟨h.b.fx f, df, by rw [f.kk]; exact h.k0, fun j hj => by rw [(at' 358 9 (by omega)).b]; exact h.wd j hj, tp, dr, f9, fun i => by rw [g.a (nr 86 (by omega))]; exact h.fb i, by rw [g.f (nr 97 (by omega))]; exact h.z97, by rw [(at' 388 0 (by omega)).i, g.f (nr 82 (by omega))]; exact h.lf, by rw [rr]; exact h.s1, by rw [rr]; exact h.s2, by rw [rr]; exact h.s3, by rw [rr]; exact h.s4, sts _ _ h.b1, sts _ _ h.b2, sts _ _ h.b3, sts _ _ h.b4, by rw [ll, ll]; exact h.le, by rw [ll]; exact h.l8, by rw [ll]; exact h.lu, by rw [f.km, pa]; exact h.rm, by rw [f.kk, pk]; exact h.rk, h.ca.pn (fun y w => em _ w) (fun x _ => ⟨by rw [f.2.2.1], ll x 37⟩), ?_, ?_⟩
  · obtain ⟨so, no, q1, q2, q3, q4⟩ := h.x1
    exact ⟨so, no, by rw [g.f (nr 104 (by omega))]; exact q1, by rw [g.f (nr 101 (by omega))]; exact q2, q3, fun j hj => by rw [g.a (nr 106 (by omega))]; exact q4 j hj⟩
  · obtain ⟨nst, t1, t2, t3⟩ := h.st
    obtain ⟨n', u1, u2, u3, u4⟩ := st nst t1 t2
    refine ⟨n', u2, u3, ?_⟩
    rcases t3 with q | ⟨n, ff, M, t, cap, s, lf, S', Q, oq, ss, r, il, w, V, D, cg, cS, c0, cR, c4, c5, csH, rsH, od, S0, RR, Sr, C, CH, q⟩
    · refine Or.inl ⟨by rw [rr]; exact q.s9, by rw [rr]; exact q.s0, by rw [g.f (nr 81 (by omega))]; exact q.h81, by rw [(at' 395 0 (by omega)).i]; exact q.c5, q.cc.mv em (at' 396 0 (by omega)) (at' 397 0 (by omega)) ?_ (Or.inr rfl), ?_⟩
      · rcases zz with ⟨z, -⟩ | ⟨z, -⟩
        · rw [z]; exact q.cc.c
        · exact z
      · rcases zz with ⟨-, z⟩ | ⟨-, z⟩
        · rw [z]; exact q.r0
        · exact z
    · have kp9 : KPN (t + 1) (kK cR) cs rs cs' rs' := KPN.fx f (fun x hx => by have := hS x hx; omega) g (fun x hx => by have := hR x hx; omega) r5
      have al : ∃ C' CH', ARL w 20 25 30 od S0 RR Sr C' CH' cs' rs' := by
        have a0 : ∀ x j, (288 ≤ x ∧ x ≤ 291) ∨ (395 ≤ x ∧ x ≤ 397) → AT cs cs' x j := fun x j hx => at' x j (by omega)
        have g0 : ∀ q, 100 ≤ q → q ≤ 109 → rs'.1 q = rs.1 q ∧ rs'.2.2.1 q = rs.2.2.1 q ∧ rs'.2.2.2 q = rs.2.2.2 q := fun q h1 h2 => ⟨g.f (nr q (by omega)), g.a (nr q (by omega)), g.l (nr q (by omega))⟩
        obtain ⟨M9, cc, cl, cu⟩ := q.al.cc
        have ch := q.al.ch
        rcases zz with ⟨z1, z2⟩ | ⟨z1, z2⟩
        · exact ⟨C, CH, q.al.go a0 g0 ⟨M9, cc.mv em (at' 396 0 (by omega)) (at' 397 0 (by omega)) (by rw [z1]; exact cc.c) (Or.inl rfl), cl, cu⟩ (ch.mv (by rw [z2]; exact ch.c0) (g.a (nr 111 (by omega))) (g.a (nr 113 (by omega))) (g.l (nr 112 (by omega))) (Or.inl rfl)) q.al.cm⟩
        · exact ⟨[], [], q.al.go a0 g0 ⟨M9, cc.mv em (at' 396 0 (by omega)) (at' 397 0 (by omega)) z1 (Or.inr rfl), Nat.zero_le _, cu⟩ (ch.mv z2 (g.a (nr 111 (by omega))) (g.a (nr 113 (by omega))) (g.l (nr 112 (by omega))) (Or.inr rfl)) CHM.nil⟩
      obtain ⟨C', CH', al⟩ := al
      have gt := q.gt
      refine Or.inr ⟨n, ff, M, t, cap, s, lf, S', Q, oq, ss, r, il, w, V, D, cg, cS, c0, cR, c4, c5, csH, rsH, od, S0, RR, Sr, C', CH', q.tx, q.kp.trans kp9, q.gc, (q.gk.trans kp9).one, by rw [f.kk]; exact q.kc, ⟨by rw [g.f (nr 84 (by omega))]; exact gt.1, fun i hi => by rw [g.a (nr 83 (by omega))]; exact gt.2 i hi⟩, q.an.rr em rr (fun x x1 x2 => at' x il (by omega)), ⟨em _ q.rn.o, em _ q.rn.oc, by rw [rr]; exact q.rn.cd, by rw [rr]; exact q.rn.sp⟩, by rw [rr]; exact q.r6, al, by rw [rr]; exact q.oi, by rw [g.f (nr 81 (by omega))]; exact q.h81, ⟨by have := q.sx.1; omega, fun d hd => (q.sx.2 d hd).trans (u4 d (by have := q.sx.1; omega)).symm⟩, by rw [f.e]; exact q.nb, q.cv⟩

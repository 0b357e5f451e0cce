/-! there is always room for nodes: a text begins with a word of some letters -/
theorem tok_len {F u n k i : Nat} {f : Nat → Int32} {cs : CS} {rs : RS} (hF : 10000 ≤ F) (h : TW n f cs) (hf : ∀ k, k < n → zisB (f k)) (hr : ∀ k, k < n → rs.2.2.1 2 k = f k) (hk : kI cs 357 9 = nI k) (hkn : k < n) (hb : zbl (f k) = 0) (hi : i < 2001) : ∃ cs' rs' k' κ, c_X10_scanToken F (sA cs 353 9 i (nI k)) 9 (nI i) = some cs' ∧ m_tokens_L9 F (u + 1) rs (nI n) (nI i) (nI k) = m_tokens_L9 F u rs' (nI n) (nI (i + 1)) (nI k') ∧ k < k' ∧ k' ≤ n ∧ TK n f i k κ cs' rs' ∧ κ ≠ 56 ∧ KC i cs cs' ∧ KR' i rs rs' ∧ kI cs' 357 9 = nI k' ∧ rs'.2.2.1 16 i = nI (k' - k) := by
  have hl := h.le
  obtain ⟨c1, hc1⟩ : ∃ c, c = sB (sA cs 353 9 i (nI k)) 354 9 i 0 := ⟨_, rfl⟩
  obtain ⟨r1, hr1⟩ : ∃ r, r = setL (setI rs 15 i (nI k)) 17 i 0 := ⟨_, rfl⟩
  have KC1 : KC i cs c1 := by rw [hc1]; exact KC.s353.trans KC.s354
  have KR1 : KR' i rs r1 := by rw [hr1]; exact KR'.s15.trans KR'.s17
  have h1 := h.fx KC1.1
  have hB1 := h1.b
  have k1 : kI c1 357 9 = nI k := by rw [hc1]; exact hk
  have p1 : kA c1 353 9 i = nI k := by rw [hc1]; exact pk_us
  have q1 : r1.2.2.1 15 i = nI k := by rw [hr1]; exact pk_us
  have n1 : r1.2.2.2 17 i = 0 := by rw [hr1]; exact pk_uLs
  have hr' : ∀ k, k < n → r1.2.2.1 2 k = f k := by rw [hr1]; exact hr
  have n32 : ¬ f k = 32 := fun e => by rw [e] at hb; exact absurd hb (by decide)
  have n9 : ¬ f k = 9 := fun e => by rw [e] at hb; exact absurd hb (by decide)
  have n13 : ¬ f k = 13 := fun e => by rw [e] at hb; exact absurd hb (by decide)
  have n10 : ¬ f k = 10 := fun e => by rw [e] at hb; exact absurd hb (by decide)
  have hc : c_X10_scanToken F (sA cs 353 9 i (nI k)) 9 (nI i) = if zlt (f k) = 0 then (if zdg (f k) = 0 then (Option.bind (c_X10_scanSign F c1 9 (f k)) fun z => Option.bind (wA z.1 352 9 10 (nI i) z.2) fun c => some c) else (Option.bind (c_X10_scanNumber F c1 9 (nI i)) fun c => some c)) else (Option.bind (c_X10_scanWord F c1 9 (nI i)) fun c => some c) := by
    have h0 : TW n f (sA cs 353 9 i (nI k)) := h.fx (FX.sA (Or.inr (Or.inl rfl)))
    have hB0 := h0.b
    have k0 : kI (sA cs 353 9 i (nI k)) 357 9 = nI k := hk
    unfold c_X10_scanToken c_X10_scanToken_b79
    rw [gI_ok hB0.oT, ob_s, k0, ckE_ok hB0.oT, ob_s, by_in h0 hkn, ob_s, gA_ok hB0.oT, hB0.p354, ob_s, wB_n hB0.e354 hB0.p354 (by rw [hB0.l354]; exact hi) (by rw [hB0.l354]; decide), ob_s, ← hc1, gI_ok hB1.oT, ob_s, gI_ok hB1.oT, ob_s, k1, h1.s, if_pos (nI_lt hkn (by omega))]
    simp only [c_lt, c_dg, ob_s, gA_ok hB1.oT, hB1.p352, ckE_ok hB1.oT]
  have hm : m_tokens_L9 F (u + 1) rs (nI n) (nI i) (nI k) = if zlt (f k) = 0 then (if zdg (f k) = 0 then (if nI n ≤ nI (k + 1) then (m_tokens_b318 F (m_tokens_L9 F u) r1 (nI n) (nI i) (nI k) (f k) (nI k) 0) else (Option.bind (rdI (r1.2.2.1 2) 2000 (nI (k + 1))) fun v_70 => m_tokens_b318 F (m_tokens_L9 F u) r1 (nI n) (nI i) (nI k) (f k) (nI k) v_70)) else (m_tokens_L150 F (m_tokens_L9 F u) F r1 (nI n) (nI i) (nI k) (nI k) 1)) else (m_tokens_L81 F (m_tokens_L9 F u) F r1 (nI n) (nI i) (nI k) (nI k)) := by
    rw [m_tokens_L9, if_neg (nI_ge hkn (by omega)), rdI_n (by omega) (by decide), ob_s, hr k hkn, if_neg n32, if_neg n9, if_neg n13, if_neg n10, wrI_n hi (by decide), ob_s, wrL_n hi (by decide), ob_s, ← hr1]
    simp only [m_lt, m_dg, ob_s, nI_1]
  by_cases z1 : zlt (f k) = 0
  · by_cases z2 : zdg (f k) = 0
    · rw [if_pos z1, if_pos z2] at hc hm
      obtain ⟨dC, hdC⟩ : ∃ d, d = if k + 1 < n then f (k + 1) else (-1 : Int32) := ⟨_, rfl⟩
      obtain ⟨dR, hdR⟩ : ∃ d, d = if k + 1 < n then f (k + 1) else (0 : Int32) := ⟨_, rfl⟩
      have hd : dC = dR ∨ dC = -1 ∧ dR = 0 := by
        by_cases y : k + 1 < n
        · rw [if_pos y] at hdC hdR; exact Or.inl (hdC.trans hdR.symm)
        · rw [if_neg y] at hdC hdR; exact Or.inr ⟨hdC, hdR⟩
      have hm2 : m_tokens_L9 F (u + 1) rs (nI n) (nI i) (nI k) = m_tokens_b318 F (m_tokens_L9 F u) r1 (nI n) (nI i) (nI k) (f k) (nI k) dR := by
        rw [hm]
        by_cases y : k + 1 < n
        · rw [if_neg (nI_ge y (by omega)), rdI_n (by omega) (by decide), ob_s, hr' (k + 1) y, hdR, if_pos y]
        · rw [if_pos (nI_le (by omega) (by omega)), hdR, if_neg y]
      obtain ⟨s1, s2⟩ := sr_ok (hf k hkn) hd
      obtain ⟨κ, κ1, κ2, κ3⟩ := lg_n (c := f k) (d := dC) (hf k hkn)
      have two_n : ¬ two (f k) dR = 0 → k + 1 < n := fun y => by
        rcases Nat.lt_or_ge (k + 1) n with q | q
        · exact q
        · rw [if_neg (by omega)] at hdR
          rw [hdR] at y
          exact absurd (by unfold two; simp) y
      obtain ⟨k', hk'⟩ : ∃ k', k' = if two (f k) dR = 0 then k + 1 else k + 2 := ⟨_, rfl⟩
      have k'1 : k < k' ∧ k' ≤ n := by
        by_cases y : two (f k) dR = 0
        · rw [if_pos y] at hk'; omega
        · have := two_n y
          rw [if_neg y] at hk'; omega
      obtain ⟨c2, hc2, k2, F2⟩ : ∃ c2, c_X10_scanSign F c1 9 (f k) = some (c2, nI κ) ∧ kI c2 357 9 = nI k' ∧ FX nS c1 c2 := by
        rw [ss_ok (hf k hkn)]
        unfold c_X10_scanSign_b29
        obtain ⟨c2, hc2⟩ : ∃ c, c = sI c1 357 9 (nI (k + 1)) := ⟨_, rfl⟩
        have KC2 : FX nS c1 c2 := by rw [hc2]; exact FX.sI rfl
        have h2 := h1.fx (KC2.mono (fun _ => nS_k))
        have k2 : kI c2 357 9 = nI (k + 1) := by rw [hc2]; rfl
        have hby : c_X10_byteAt F c2 9 (nI (k + 1)) = some dC := by
          by_cases y : k + 1 < n
          · rw [by_in h2 y, hdC, if_pos y]
          · rw [by_out h2 (by omega) (by omega), hdC, if_neg y]
        rw [gI_ok hB1.oT, ob_s, k1, nI_1, pI_ok hB1.oT, ob_s, ← hc2, gI_ok h2.b.oT, ob_s, k2, ckE_ok h2.b.oT, ob_s, hby, ob_s, c_lgs, ob_s]
        by_cases y : lgs (kd0 (f k)) dC = kd0 (f k)
        · refine ⟨c2, ?_, ?_, KC2⟩
          · rw [if_pos y, ← κ2, y]
          · rw [hk', if_pos (s2.mpr y)]; exact k2
        · refine ⟨sI c2 357 9 (nI (k + 2)), ?_, ?_, KC2.trans (FX.sI rfl)⟩
          · rw [if_neg y, ob_s, nI_1, pI_ok h2.b.oT, ob_s, κ2]
          · rw [hk', if_neg (fun q => y (s2.mp q))]; rfl
      have KC2 : KC i c1 c2 := KC.nx F2
      have h2 := h1.fx KC2.1
      have hB2 := h2.b
      refine ⟨sA c2 352 9 i (nI κ), setI (setI r1 14 i (srt (f k) dR)) 16 i (nI (k' - k)), k', κ, ?_, ?_, k'1.1, k'1.2, ⟨pk_us, by omega, ?_, q1, by omega, fun q => by omega, fun q => by omega, fun q1 q2 => ?_, fun q => by omega, fun q => ?_⟩, by omega, (KC1.trans KC2).trans KC.s352, KR1.trans (KR'.s14.trans KR'.s16), k2, pk_us⟩
      · rw [hc, hc2, ob_s, wA_n hB2.e352 hB2.p352 (by rw [hB2.l352]; exact hi) (by rw [hB2.l352]; decide), ob_s]
      · rw [hm2, b318_ok, wrI_n hi (by decide), ob_s]
        unfold m_tokens_b514 m_tokens_b527
        have ek : nI k + (if two (f k) dR = 0 then 1 else 2) = nI k' := by
          rw [hk']
          by_cases y : two (f k) dR = 0
          · rw [if_pos y, if_pos y, nI_1]
          · rw [if_neg y, if_neg y]; exact nI_add k 2
        rw [ek, pk_sub (by omega), wrI_n hi (by decide), ob_s, nI_1]
      · show kA c2 353 9 i = nI k
        rw [congrFun (F2.a (by unfold nS; omega) 9) i]
        exact p1
      · show upd (r1.2.2.1 14) i (srt (f k) dR) i = _
        rw [pk_us, s1, κ2]
      · show upd (r1.2.2.1 14) i (srt (f k) dR) i = _
        rw [pk_us, s1, κ2, q]
        decide
    · rw [if_pos z1, if_neg z2] at hc hm
      obtain ⟨e, he⟩ := zBE_ex (fun c => zdg c ≠ 0) f (n - k) n k (by omega) rfl
      have hke : k < e := by
        rcases Nat.lt_or_ge k e with q | q
        · exact q
        · have : e = k := by have := he.1; omega
          subst this
          rcases he.2.2.2 with y | y
          · omega
          · exact absurd z2 y
      have hen := he.2.1
      obtain ⟨c2, hc2⟩ : ∃ c, c = sA c1 352 9 i 40 := ⟨_, rfl⟩
      have KC2 : KC i c1 c2 := by rw [hc2]; exact KC.s352
      have h2 := h1.fx KC2.1
      obtain ⟨c3, r3, v', b', e1, e2, e3, e4, e5, e6, e7, e8, e9, e10, e11⟩ := nu_ok (F := F) (n := n) (p := k) (e := e) (i := i) (rc := m_tokens_L9 F u) hf hi F k c2 r1 0 true h2 hr' (by rw [hc2]; exact k1) he (by omega) (by rw [hc2]; exact pk_us) (fun _ => ⟨0, by decide, by decide, n1⟩)
      have KC3 : KC i c2 c3 := ⟨e3, fun j hj => ⟨e6 j hj, by rw [e4], by rw [e5]⟩⟩
      have KR3 : KR' i r1 r3 := ⟨e7.mono (fun _ q => Or.inr (Or.inr (Or.inr q))), fun j hj => ⟨congrFun (e7.a (by unfold mR; omega)) j, congrFun (e7.a (by unfold mR; omega)) j, congrFun (e7.a (by unfold mR; omega)) j, e8 j hj⟩⟩
      have h3 := h2.fx KC3.1
      have hB3 := h3.b
      have hen := he.2.1
      obtain ⟨d, hd⟩ : ∃ d, d = if e < n then f e else (-1 : Int32) := ⟨_, rfl⟩
      obtain ⟨c4, hc4⟩ : ∃ c, c = sB c3 354 9 i v' := ⟨_, rfl⟩
      have KC4 : KC i c3 c4 := by rw [hc4]; exact KC.s354
      have h4 := h3.fx KC4.1
      have hB4 := h4.b
      have k4 : kI c4 357 9 = nI e := by rw [hc4]; exact e9
      have hby : c_X10_byteAt F c4 9 (nI e) = some d := by
        by_cases y : e < n
        · rw [by_in h4 y, hd, if_pos y]
        · rw [by_out h4 (by omega) (by omega), hd, if_neg y]
      have hcl : c_X10_scanToken F (sA cs 353 9 i (nI k)) 9 (nI i) = some (if zlt d = 0 then c4 else sA c4 352 9 i 57) := by
        rw [hc]
        unfold c_X10_scanNumber
        rw [gA_ok hB1.oT, hB1.p352, ob_s, wA_n hB1.e352 hB1.p352 (by rw [hB1.l352]; exact hi) (by rw [hB1.l352]; decide), ob_s, ← hc2, e1]
        unfold c_X10_scanNumber_b98 c_X10_scanNumber_b127
        rw [gA_ok hB3.oT, hB3.p354, ob_s, wB_n hB3.e354 hB3.p354 (by rw [hB3.l354]; exact hi) (by rw [hB3.l354]; decide), ob_s, ← hc4, gI_ok hB4.oT, ob_s, k4, ckE_ok hB4.oT, ob_s, hby, ob_s, c_lt, ob_s]
        by_cases y : zlt d = 0
        · rw [if_pos y, if_pos y, ob_s]
        · rw [if_neg y, if_neg y, gA_ok hB4.oT, hB4.p352, ob_s, wA_n hB4.e352 hB4.p352 (by rw [hB4.l352]; exact hi) (by rw [hB4.l352]; decide), ob_s, ob_s]
      have hml : ∀ s : Int32, s = (if b' = true ∧ zlt d = 0 then 2 else 3) → m_tokens_L9 F (u + 1) rs (nI n) (nI i) (nI k) = m_tokens_L9 F u (setI (setI r3 14 i s) 16 i (nI (e - k))) (nI n) (nI (i + 1)) (nI e) := fun s hs => by
        have fin : ∀ s : Int32, m_tokens_b295 F (m_tokens_L9 F u) r3 (nI n) (nI i) (nI e) (nI k) s (nI i) = m_tokens_L9 F u (setI (setI r3 14 i s) 16 i (nI (e - k))) (nI n) (nI (i + 1)) (nI e) := fun s => by
          unfold m_tokens_b295 m_tokens_b514 m_tokens_b527
          rw [wrI_n hi (by decide), ob_s, pk_sub (by omega), wrI_n hi (by decide), ob_s, nI_1]
        rw [hm, show (1 : Int32) = ok1 true from rfl, e2, hs]
        unfold m_tokens_b263 m_tokens_b290 m_tokens_b294
        cases b'
        · rw [if_pos (show ok1 false = 0 from rfl), if_neg (fun q => by cases q.1)]
          exact fin 3
        · rw [if_neg (show ¬ ok1 true = 0 by decide)]
          by_cases y : e < n
          · rw [if_pos y] at hd
            rw [if_neg (nI_ge y (by omega)), rdI_n (by omega) (by decide), ob_s, congrFun (e7.a (k := 2) (by unfold mR; omega)) e, hr' e y, ← hd, m_lt, ob_s]
            by_cases w : zlt d = 0
            · rw [if_pos w, if_pos ⟨rfl, w⟩]; exact fin 2
            · rw [if_neg w, if_neg (fun q => w q.2)]; exact fin 3
          · rw [if_neg y] at hd
            rw [if_pos (nI_le (by omega) (by omega)), if_pos ⟨rfl, by rw [hd]; decide⟩]
            exact fin 2
      have p3 : kA c3 353 9 i = nI k := by
        rw [e4, hc2]
        exact p1
      have q3 : r3.2.2.1 15 i = nI k := by rw [congrFun (e7.a (k := 15) (by unfold mR; omega)) i]; exact q1
      by_cases good : b' = true ∧ zlt d = 0
      · obtain ⟨a, a1, a2, a3⟩ := e11 good.1
        refine ⟨c4, setI (setI r3 14 i 2) 16 i (nI (e - k)), e, 40, by rw [hcl, if_pos good.2], hml 2 (by rw [if_pos good]), hke, hen, ⟨?_, by decide, ?_, q3, by omega, fun q => by omega, fun _ => ⟨pk_us, a, a1, ?_, ?_⟩, fun q => by omega, fun q => by omega, fun q => by omega⟩, by decide, ((KC1.trans KC2).trans KC3).trans KC4, (KR1.trans KR3).trans (KR'.s14.trans KR'.s16), k4, pk_us⟩
        · rw [hc4]
          show kA c3 352 9 i = nI 40
          rw [e10, good.1]; rfl
        · rw [hc4]; exact p3
        · rw [hc4]
          show vp_updL (kB c3 354 9) i v' i = lN a
          rw [pk_uLs, a2]
        · show r3.2.2.2 17 i = lN a
          rw [a3, a2]
      · have bad : ∀ cF : CS, kA cF 352 9 i = 57 → kA cF 353 9 i = nI k → KC i c4 cF → kI cF 357 9 = nI e → c_X10_scanToken F (sA cs 353 9 i (nI k)) 9 (nI i) = some cF → ∃ cs' rs' k' κ, c_X10_scanToken F (sA cs 353 9 i (nI k)) 9 (nI i) = some cs' ∧ m_tokens_L9 F (u + 1) rs (nI n) (nI i) (nI k) = m_tokens_L9 F u rs' (nI n) (nI (i + 1)) (nI k') ∧ k < k' ∧ k' ≤ n ∧ TK n f i k κ cs' rs' ∧ κ ≠ 56 ∧ KC i cs cs' ∧ KR' i rs rs' ∧ kI cs' 357 9 = nI k' ∧ rs'.2.2.1 16 i = nI (k' - k) := fun cF g1 g2 g3 g4 g5 => ⟨cF, setI (setI r3 14 i 3) 16 i (nI (e - k)), e, 57, g5, hml 3 (by rw [if_neg good]), hke, hen, ⟨g1, by decide, g2, q3, by omega, fun q => by omega, fun q => by omega, fun _ q => by omega, fun q => by omega, fun _ => pk_us⟩, by decide, (((KC1.trans KC2).trans KC3).trans KC4).trans g3, (KR1.trans KR3).trans (KR'.s14.trans KR'.s16), g4, pk_us⟩
        by_cases w : zlt d = 0
        · have bf : b' = false := by
            cases b'
            · rfl
            · exact absurd ⟨rfl, w⟩ good
          refine bad c4 ?_ (by rw [hc4]; exact p3) ⟨FX.refl c4, fun _ _ => ⟨rfl, rfl, rfl⟩⟩ k4 (by rw [hcl, if_pos w])
          rw [hc4]
          show kA c3 352 9 i = 57
          rw [e10, bf]; rfl
        · exact bad (sA c4 352 9 i 57) pk_us (by rw [hc4]; exact p3) KC.s352 k4 (by rw [hcl, if_neg w])
  · rw [if_neg z1] at hc hm
    obtain ⟨e, he⟩ := zBE_ex zwc f (n - k) n k (by omega) rfl
    have hke : k < e := by
      rcases Nat.lt_or_ge k e with q | q
      · exact q
      · have : e = k := by have := he.1; omega
        subst this
        rcases he.2.2.2 with y | y
        · omega
        · exact absurd (Or.inl z1) y
    have hen := he.2.1
    obtain ⟨c2, a1, F2, a3⟩ := sw_ok (F := F) (n := n) (p := k) (e := e) (i := i) hf F k c1 h1 k1 (Nat.le_refl _) he (by omega)
    have KC2 : KC i c1 c2 := KC.nx F2
    have h2 := h1.fx KC2.1
    have hB2 := h2.b
    obtain ⟨w, hw⟩ : ∃ w, w = zwn f k (e - k) := ⟨_, rfl⟩
    rw [← hw] at a1
    obtain ⟨c3, hc3⟩ : ∃ c, c = sB c2 354 9 i (lN w) := ⟨_, rfl⟩
    have KC3 : KC i c2 c3 := by rw [hc3]; exact KC.s354
    have h3 := h2.fx KC3.1
    have hB3 := h3.b
    have k3 : kI c3 357 9 = nI e := by rw [hc3]; exact a3
    have p3 : kA c3 353 9 i = nI k := by
      rw [hc3]
      show kA c2 353 9 i = nI k
      rw [congrFun (F2.a (by unfold nS; omega) 9) i]
      exact p1
    have hcl : ∀ κ : Nat, (if e - k ≤ 12 then c_X10_wordKind F c3 9 (lN w) else some 57) = some (nI κ) → c_X10_scanToken F (sA cs 353 9 i (nI k)) 9 (nI i) = some (sA c3 352 9 i (nI κ)) := fun κ hκ => by
      rw [hc]
      unfold c_X10_scanWord
      rw [gI_ok hB1.oT, ob_s, k1, show (0 : Int64) = lN (zwn f k (k - k)) by rw [Nat.sub_self]; rfl, a1]
      unfold c_X10_scanWord_b78 c_X10_scanWord_b111
      rw [gA_ok hB2.oT, hB2.p354, ob_s, wB_n hB2.e354 hB2.p354 (by rw [hB2.l354]; exact hi) (by rw [hB2.l354]; decide), ob_s, ← hc3, gA_ok hB3.oT, hB3.p352, ob_s, gI_ok hB3.oT, ob_s, k3, pk_sub (by omega)]
      by_cases y : e - k ≤ 12
      · rw [if_pos y] at hκ
        rw [if_pos (show nI (e - k) ≤ 12 from nI_le (b := 12) y (by decide)), ckE_ok hB3.oT, ob_s, hκ, ob_s, wA_n hB3.e352 hB3.p352 (by rw [hB3.l352]; exact hi) (by rw [hB3.l352]; decide), ob_s, ob_s]
      · rw [if_neg y] at hκ
        rw [if_neg (show ¬ nI (e - k) ≤ 12 from nI_ge (a := 12) (by omega) (by omega)), Option.some.inj hκ, wA_n hB3.e352 hB3.p352 (by rw [hB3.l352]; exact hi) (by rw [hB3.l352]; decide), ob_s, ob_s]
    have hml : ∀ s : Int32, s = (if e - k ≤ 12 then 1 else 3) → m_tokens_L9 F (u + 1) rs (nI n) (nI i) (nI k) = m_tokens_L9 F u (setI (setI r1 14 i s) 16 i (nI (e - k))) (nI n) (nI (i + 1)) (nI e) := fun s hs => by
      rw [hm, rw_ok hl hr' F k he (by omega), hs]
      unfold m_tokens_b116 m_tokens_b135 m_tokens_b514 m_tokens_b527
      rw [pk_sub (by omega)]
      by_cases y : e - k ≤ 12
      · rw [if_pos (show nI (e - k) ≤ 12 from nI_le (b := 12) y (by decide)), if_pos y, wrI_n hi (by decide), ob_s, wrI_n hi (by decide), ob_s, nI_1]
      · rw [if_neg (show ¬ nI (e - k) ≤ 12 from nI_ge (a := 12) (by omega) (by omega)), if_neg y, wrI_n hi (by decide), ob_s, wrI_n hi (by decide), ob_s, nI_1]
    by_cases y : e - k ≤ 12
    · have hwc : ∀ j, j < e - k → zwc (f (k + j)) := fun j hj => he.2.2.1 (k + j) (by omega) (by omega)
      have hw2 : w < 9223372036854775808 := by
        rw [hw]
        exact Nat.lt_trans (zwn_lt (e - k) (fun j hj => (cN_k (hf (k + j) (by omega)) (hwc j hj)).2.2)) (p37 (e - k) y)
      obtain ⟨κ, κ1, κ2, κ3, κ4⟩ := wk_ok (F := F) h3 hw2 F 0 (by omega) (fun i hi => by omega) (by omega)
      refine ⟨sA c3 352 9 i (nI κ), setI (setI r1 14 i 1) 16 i (nI (e - k)), e, κ, hcl κ (by rw [if_pos y]; exact κ1), hml 1 (by rw [if_pos y]), hke, hen, ⟨pk_us, by omega, p3, q1, by omega, fun _ => ⟨pk_us, e - k, by omega, y, by omega, pk_us, ?_, hwc, ?_, ?_⟩, fun q => by omega, fun q => by omega, fun q => by omega, fun q => by omega⟩, by omega, ((KC1.trans KC2).trans KC3).trans KC.s352, KR1.trans (KR'.s14.trans KR'.s16), k3, pk_us⟩
      · rw [hc3]
        show vp_updL (kB c2 354 9) i (lN w) i = _
        rw [pk_uLs, hw]
      · rw [← hw]; exact κ3
      · rw [← hw]; exact κ4
    · exact ⟨sA c3 352 9 i (nI 57), setI (setI r1 14 i 3) 16 i (nI (e - k)), e, 57, hcl 57 (by rw [if_neg y]; rfl), hml 3 (by rw [if_neg y]), hke, hen, ⟨pk_us, by decide, p3, q1, by omega, fun q => by omega, fun q => by omega, fun _ q => by omega, fun q => by omega, fun _ => pk_us⟩, by decide, ((KC1.trans KC2).trans KC3).trans KC.s352, KR1.trans (KR'.s14.trans KR'.s16), k3, pk_us⟩
theorem PLS.far {n k i M : Nat} {cs : CS} (g : PLS n k i M cs) (hi : i ≤ M) : k + (M - i) ≤ n := by
  obtain ⟨P, h1, h2⟩ := g
  have up : ∀ d, i + d ≤ M → k + d ≤ P (i + d) := fun d => by
    induction d with
    | zero => intro h; exact (h1 i (Nat.le_refl _) h).2.1
    | succ d ih =>
      intro h
      have w1 := ih (by omega)
      have w2 := h2 (i + d) (by omega) (by omega)
      show k + d + 1 ≤ P (i + d + 1)
      omega
  have w := up (M - i) (by omega)
  have w2 := (h1 M hi (Nat.le_refl _)).2.2
  rw [show i + (M - i) = M by omega] at w
  omega
theorem tn_big : ∀ κ, κ = 0 ∨ κ = 37 → 36 < tn κ := fun κ h => by
  rcases h with h | h
  · rw [h]; decide
  · rw [h]; decide
theorem scan_lt {F n M κ w : Nat} {f : Nat → Int32} {cs cs' : CS} {rs0 rs' : RS} (hF : 10000 ≤ F) (hf : ∀ k, k < n → zisB (f k)) (t : TW n f cs) (k0 : kI cs 357 9 = nI 0) (hr : ∀ k, k < n → rs0.2.2.1 2 k = f k) (hw : n + 3 ≤ w) (g : c_X10_scan_L25 F w cs 9 1 (nI 0) = some cs') (x : TX n f M cs' rs') (kd : kA cs' 352 9 0 = nI κ) (hκ : κ = 0 ∨ κ = 37) : M < n := by
  have hl := t.le
  have xm := x.mn
  obtain ⟨e, he⟩ := zBE_ex (fun c => zbl c ≠ 0) f (n - 0) n 0 (Nat.zero_le _) rfl
  have hen := he.2.1
  obtain ⟨v, hv⟩ : ∃ v, w = v + 1 + 1 := ⟨w - 2, by omega⟩
  rw [hv] at g
  obtain ⟨cs1, s1, s2, s3⟩ := sk_ok (F := F) (n := n) (e := e) (f := f) F 0 cs t k0 he (by omega)
  have h1 := t.fx (s2.mono (fun _ => nS_k))
  by_cases q : e = n
  · exfalso
    rw [q] at s3
    obtain ⟨rs1, e1, e2, e3, e4⟩ := re_end (F := F) (u := 0) (t := 0) (rs := rs0) hl (by omega)
    obtain ⟨c, g1, g2, g3⟩ := se_end (F := F) (f := f) h1 (by omega) s3 e3 e4
    have hc := h1.fx g3.1
    rw [sc_step t (by omega) (by unfold c_X10_skipBlanks; exact s1) h1 s3 g1 hc g2.kd (by decide), if_pos (by decide)] at g
    have ec := Option.some.inj ((sc_end hc.b).symm.trans g)
    rw [← ec, g2.kd] at kd
    have := (nI_eq (a := 56) (b := κ) (by decide) (by omega)).mp kd
    omega
  · have hb : zbl (f e) = 0 := Classical.not_not.mp (he.2.2.2.resolve_left q)
    obtain ⟨c, r', k', κ', e1, e2, e3, e4, e5, e6, e7, e8, e9, e10⟩ := tok_len (F := F) (u := 0) (k := e) (i := 0) hF h1 hf hr s3 (by omega) hb (by omega)
    have hc := h1.fx e7.1
    have hr2 : ∀ k, k < n → r'.2.2.1 2 k = f k := fun k hk => by rw [congrFun (e8.1.a (k := 2) (by unfold tkR; omega)) k]; exact hr k hk
    have hkl := e5.kl
    rw [sc_step t (by omega) (by unfold c_X10_skipBlanks; exact s1) h1 s3 e1 hc e5.kd e5.kl] at g
    by_cases q2 : 56 ≤ κ'
    · exfalso
      rw [if_pos q2] at g
      have ec := Option.some.inj ((sc_end hc.b).symm.trans g)
      rw [← ec, e5.kd] at kd
      have := (nI_eq (a := κ') (b := κ) (by omega) (by omega)).mp kd
      omega
    · rw [if_neg q2] at g
      obtain ⟨cs2, rs2, M2, g1, g2, g3, g4, g5, g6⟩ := scan_all hF hf (n - k') k' 1 (n + 1) (v + 1) c r' (by omega) e4 (by omega) (by omega) (by omega) hc e9 hr2
      have ec : cs2 = cs' := Option.some.inj (g1.symm.trans g)
      have k2 : kA cs' 352 9 0 = nI κ' := by
        rw [← ec, (g4.2 0 (by omega)).1]
        exact e5.kd
      have eκ : κ' = κ := (nI_eq (a := κ') (b := κ) (by omega) (by omega)).mp (k2.symm.trans kd)
      obtain ⟨-, l, l1, l2, l3, l4, -, l6, l7, -⟩ := e5.wd (by omega)
      have el : l = k' - e := (nI_eq (by omega) (by omega)).mp (l4.symm.trans e10)
      have big := tn_big κ hκ
      have l9 := l7 (by omega)
      have l2' : 2 ≤ l := by
        rcases Nat.lt_or_ge l 2 with y | y
        · exfalso
          have y1 : l = 1 := by omega
          rw [y1, eκ] at l9
          have z1 : zwn f e 1 = 37 * 0 + zcN (f (e + 0)) := rfl
          have z2 := (cN_k (hf (e + 0) (by omega)) (l6 0 (by omega))).2.2
          omega
        · exact y
      have far := g6.far g3.1
      have eM : M = M2 := by
        rcases Nat.lt_trichotomy M M2 with y | y | y
        · exfalso
          obtain ⟨p1, κ1, t1, -, t3⟩ := x.tk M (Nat.le_refl _)
          have t3' := t3 rfl
          by_cases m0 : M = 0
          · rw [m0] at t1
            have := (nI_eq (a := κ1) (b := κ) (by have := t1.kl; omega) (by omega)).mp (t1.kd.symm.trans kd)
            omega
          · obtain ⟨p2, κ2, u1, u2, -⟩ := g3.2.2 M (by omega) (by omega)
            have u2' := u2 y
            rw [ec] at u1
            have := (nI_eq (a := κ1) (b := κ2) (by have := t1.kl; omega) (by omega)).mp (t1.kd.symm.trans u1.kd)
            omega
        · exact y
        · exfalso
          obtain ⟨p1, κ1, t1, t2, -⟩ := x.tk M2 (by omega)
          have t2' := t2 y
          obtain ⟨p2, κ2, u1, -, u3⟩ := g3.2.2 M2 g3.1 (Nat.le_refl _)
          have u3' := u3 rfl
          rw [ec] at u1
          have := (nI_eq (a := κ1) (b := κ2) (by omega) (by have := u1.kl; omega)).mp (t1.kd.symm.trans u1.kd)
          omega
      omega
/-- of a whole scan -/
theorem tx_lt {F n M κ : Nat} {f : Nat → Int32} {cs cs' : CS} {rs rs' : RS} (hF : 10000 ≤ F) (b : Bas cs) (w : ∀ j, j < 39 → kB cs 358 9 j = lN (tn j)) (hn : n ≤ 2000) (hf : ∀ k, k < n → zisB (f k)) (hA : ∀ k, k < n → kA cs 384 0 k = f k) (hR : ∀ k, k < n → rs.2.2.1 2 k = f k) (g : c_X10_scan F cs 9 0 1 (nI n) = some cs') (x : TX n f M cs' rs') (kd : kA cs' 352 9 0 = nI κ) (hκ : κ = 0 ∨ κ = 37) : M < n := by
  have he1 : ∀ p : Nat × Nat, p ≠ (387, 9) → p ∈ kE cs → p ∈ kE (sBy cs 9 0 1) := fun p h1 h2 => sBy_E.mpr ⟨h2, h1⟩
  have a1 : ∀ x j, ¬ ((x = 355 ∨ x = 382) ∧ j = 9) → AT cs (sBy cs 9 0 1) x j := fun x j h => ⟨rfl, rfl, u2_n (by omega), u2_n (by omega), rfl, rfl, rfl, rfl⟩
  have v1 : kR (sBy cs 9 0 1) 382 9 = some 0 := by
    show u2 cs.2.2.2.1 382 9 (some 0) 382 9 = some 0
    exact u2_s
  have v2 : kP (sBy cs 9 0 1) 355 9 = some 1 := by
    show u2 cs.2.2.2.2.1 355 9 (some 1) 355 9 = some 1
    exact u2_s
  have q1 : pBy cs 9 0 1 = some (sBy cs 9 0 1) := if_pos ⟨b.oT, b.p384⟩
  have b1 : Bas (sBy cs 9 0 1) := b.by' he1 (fun x i _ hx => a1 x i (by omega))
  obtain ⟨c1, hc1⟩ : ∃ x, x = sBy cs 9 0 1 := ⟨_, rfl⟩
  rw [← hc1] at he1 a1 v1 v2 q1 b1
  have q2 : lnA c1 384 0 1 = some (nI 2000) := by rw [lnA_n b1.e384 b1.p384, b1.l384]
  have q3 : (if nI 2000 < nI n then nI 2000 else nI n) = nI n := if_neg (nI_nlt (a := 2000) (b := n) (by omega) (by decide))
  have a2 : ∀ x j, ¬ ((x = 356 ∨ x = 357) ∧ j = 9) → AT c1 (sI (sI c1 356 9 (nI n)) 357 9 0) x j := fun x j h => (AT.sI (by omega)).trans (AT.sI (by omega))
  have b2 : Bas (sI (sI c1 356 9 (nI n)) 357 9 0) := b1.by' (fun p _ h => h) (fun x i _ hx => a2 x i (by omega))
  have t2 : TW n f (sI (sI c1 356 9 (nI n)) 357 9 0) := by
    refine ⟨b2, v1, v2, (kI_n (by omega)).trans kI_s, hn, fun k hk => ?_, fun j hj => ?_⟩
    · show kA c1 384 0 k = f k
      rw [(a1 384 0 (by omega)).a]
      exact hA k hk
    · show kB c1 358 9 j = _
      rw [(a1 358 9 (by omega)).b]
      exact w j hj
  unfold c_X10_scan at g
  rw [q1, ob_s, q2, ob_s, q3, pI_ok b1.oT, ob_s, pI_ok (show (11, 9) ∈ kE (sI c1 356 9 (nI n)) from b1.oT), ob_s] at g
  exact scan_lt hF hf t2 kI_s hR (by omega) g x kd hκ
/-- a text that was read without fault begins so -/
theorem read0 {F t c n M : Nat} {f : Nat → Int32} {cs cs9 : CS} {rs : RS} (h : SH t c cs) (f0 : kI cs 320 t = 0) (i0 : kI cs 328 t = nI 0) (x : TX n f M cs rs) (kb : KB cs) (t37 : 37 < t) (tk : t < kK cs) (g : c_X9_read F cs t = some cs9) (f9 : kI cs9 320 t = 0) : ∃ κ, kA cs 352 9 0 = nI κ ∧ (κ = 0 ∨ κ = 37) := by
  obtain ⟨p, κ, k0, -⟩ := x.tk 0 (Nat.zero_le _)
  have kl := k0.kl
  by_cases y37 : κ = 37
  · exact ⟨κ, k0.kd, Or.inr y37⟩
  by_cases y0 : κ = 0
  · exact ⟨κ, k0.kd, Or.inl y0⟩
  exfalso
  have n37 : nI κ ≠ 37 := fun w => y37 ((nI_eq (a := κ) (b := 37) (by omega) (by decide)).mp w)
  have n0 : nI κ ≠ 0 := fun w => y0 ((nI_eq (a := κ) (b := 0) (by omega) (by decide)).mp w)
  have kn : c_X9_kind F cs t = some (nI κ) := knd_ok h f0 i0 (by omega) k0
  unfold c_X9_read at g
  rw [ckE_ok h.o, ob_s, acc_n h i0 kn n37, ob_s, show ckZ 0 = some 0 from if_pos (Or.inl rfl), ob_s, pI_ok h.o, ob_s, ckE_ok (show (10, t) ∈ kE (sI cs 324 t 0) from h.o), ob_s] at g
  replace g := ob g; obtain ⟨z8, g8, g⟩ := g
  have m1 := fm_c_X9_read_b15 F z8.1 t z8.2 t cs9 g
  obtain ⟨c2, hc2⟩ : ∃ y, y = sI cs 324 t 0 := ⟨_, rfl⟩
  rw [← hc2] at g8
  have a2 : ∀ x j, ¬ (x = 324 ∧ j = t) → AT cs c2 x j := fun x j w => by rw [hc2]; exact AT.sI w
  have em2 : EM cs c2 := by rw [hc2]; exact EM.refl
  have k2 : kK c2 = kK cs := by rw [hc2]; rfl
  have kb2 : KB c2 := by rw [hc2]; exact kb
  have g8' : cb_X9_readQuery F (tabc_X9_readQuery F 299) c2 t = some z8 := g8
  unfold cb_X9_readQuery c_X9_readQuery_b3 at g8'
  rw [nwO_ok kb2, ob_s] at g8'
  replace g8' := ob g8'; obtain ⟨w1, -, g8'⟩ := g8'
  replace g8' := ob g8'; obtain ⟨z30, g30, g8'⟩ := g8'
  obtain ⟨hh0, hh1, hh2, hh3⟩ := fmg_X9_readQuery F 299
  have m2 := fm_c_X9_readQuery_b8 F (tabc_X9_readQuery F 299) hh0 hh1 hh2 hh3 z30.1 t z30.2 (kK c2) (kK c2) z8.1 z8.2 g8'
  have g30' : cb_X9_readSelect F (tabc_X9_readQuery F 298) (nO c2 4 6) t = some z30 := g30
  unfold cb_X9_readSelect c_X9_readSelect_b8 c_X9_readSelect_b12 at g30'
  replace g30' := ob g30'; obtain ⟨v45, -, g30'⟩ := g30'
  have kb3 : KB (nO c2 4 6) := nO_kb kb2
  rw [nwO_ok kb3, ob_s] at g30'
  replace g30' := ob g30'; obtain ⟨c44, g44, g30'⟩ := g30'
  obtain ⟨c5, it, gr, e5, -, gw5, -⟩ := new_select (F := F) kb3
  have ec : c44 = c5 := Option.some.inj (g44.symm.trans e5)
  rw [ec] at g30'
  replace g30' := ob g30'; obtain ⟨c33, g33, g30'⟩ := g30'
  replace g30' := ob g30'; obtain ⟨w2, -, g30'⟩ := g30'
  replace g30' := ob g30'; obtain ⟨c34, g34, g30'⟩ := g30'
  have a3 : ∀ x j, j < kK cs → AT c2 (nO c2 4 6) x j := fun x j w => AT.no1 (by omega)
  have kk : kK (nO c2 4 6) = kK cs + 1 := by rw [← k2]; rfl
  obtain ⟨-, e33⟩ := pR_some g33
  have a33 : ∀ x j, ¬ (x = 324 ∧ j = t) → ¬ (x = 330 ∧ j = t) → j < kK cs → AT cs c33 x j := fun x j w1 w2 w3 => (((a2 x j w1).trans (a3 x j w3)).trans (gw5.2.2 x j (by omega))).trans (by rw [← e33]; exact AT.sR w2)
  have em3 : EM cs c33 := fun q hq => by
    rw [← e33]
    exact gw5.1 q (nO_em q (em2 q hq))
  have sh3 : SH t c c33 := ⟨h.b.gw em3 (fun x i hi => a33 x i (by omega) (by omega) (by omega)), em3 _ h.o, by rw [(a33 327 t (by omega) (by omega) tk).r]; exact h.tk, by rw [(a33 322 t (by omega) (by omega) tk).r]; exact h.rc, em3 _ h.oc⟩
  have f3 : kI c33 320 t = 0 := by rw [(a33 320 t (by omega) (by omega) tk).i]; exact f0
  have i3 : kI c33 328 t = nI 0 := by rw [(a33 328 t (by omega) (by omega) tk).i]; exact i0
  have kn3 : c_X9_kind F c33 t = some (nI κ) := by
    have hB := sh3.b
    unfold c_X9_kind c_X9_kind_b39
    rw [gI_ok sh3.o, ob_s, if_pos f3, gI_ok sh3.o, ob_s, gR_ok sh3.o, ob_s, sh3.tk, ob_s, gA_ok hB.oT, hB.p352, ob_s, lnA_n hB.e352 hB.p352, ob_s, hB.l352, i3, if_pos (nI_lt (a := 0) (by omega) (by decide)), ob_s, ob_s, gA_ok hB.oT, hB.p352, ob_s, ob_s, rA_n hB.e352 hB.p352 (by rw [hB.l352]; omega) (by rw [hB.l352]; decide), ob_s, (a33 352 9 (by omega) (by omega) (by omega)).a, k0.kd]
  rw [exp_n sh3 f3 i3 (by omega) kn3 n0] at g34
  have e34 := Option.some.inj g34
  have bad : kI c34 320 t ≠ 0 := by
    rw [← e34, kI_n (by omega), kI_s]
    decide
  replace g30' := ob g30'; obtain ⟨w3, -, g30'⟩ := g30'
  replace g30' := ob g30'; obtain ⟨v36, -, g30'⟩ := g30'
  replace g30' := ob g30'; obtain ⟨c38, g38, g30'⟩ := g30'
  replace g30' := ob g30'; obtain ⟨w4, -, g30'⟩ := g30'
  replace g30' := ob g30'; obtain ⟨z39, g39, g30'⟩ := g30'
  replace g30' := ob g30'; obtain ⟨w5, -, g30'⟩ := g30'
  replace g30' := ob g30'; obtain ⟨c41, g41, g30'⟩ := g30'
  replace g30' := ob g30'; obtain ⟨c43, g43, g30'⟩ := g30'
  obtain ⟨ii0, ii1, ii2, ii3⟩ := fmg_X9_readQuery F 298
  have m3 := fm_c_X9_readSelect_L50 F (tabc_X9_readQuery F 298) ii0 ii1 ii2 ii3 F c43 t v45 (kK (nO c2 4 6)) 1 0 z30.1 z30.2 g30'
  have m4 : FM c34 c43 := (((FM.pI (by decide) g38).trans (fm_c_X9_accept F c38 t 1 z39.1 z39.2 g39)).trans (FM.pI (by decide) g41)).trans (FM.pI (by decide) g43)
  exact bad (((m4.trans m3).trans (m2.trans m1)) t f9)

/-! a SOURCE of the open SELECT, read and laid -/
theorem src_g {n : Nat} {f : Nat → Int32} {M t c cap : Nat} {d K0 S0 Q0 s0 l0 ql z o e it gr mi ns mg i s lf S Q : Nat} {u1 : Option Nat} {u2 : Int32} {cs0 cs : CS} {rs0 rs : RS} {F : Nat} {T T2 T3 T4 T5 : TC_X9_readQuery} {T' : TG_queryOf} {x2 x3 : Int32} (hF : 10000 ≤ F) (g : SG none n f M t c cap d K0 S0 Q0 s0 l0 ql z u1 u2 cs0 rs0 o e it gr mi ns ns mg i s lf S Q cs rs) (hx : x2 = 0 ∨ x2 = 1) (hQ : z < 12 → QS n f M t c cap d (z + 1) T.1 T'.1) (hT1 : T.1 = cb_X9_readQuery F T2) (hT2 : T2.2.1 = cb_X9_readSelect F T3) (hT3 : T3.2.2.1 = cb_X9_readSources F T4) (hT4 : T4.2.2.2 = cb_X9_readSource F T5) : ∃ cs' rs', cb_X9_readSource F T cs t = some (cs', kK cs) ∧ b_source F T' rs (nI e) x2 x3 = some rs' ∧ SRO n f M t c cap d K0 S0 Q0 s0 l0 ql z u1 u2 cs0 rs0 o e it gr mi ns mg x2 x3 cs cs' rs' := by
  obtain ⟨c2, e1, b2, sn, k2, m2, em2, a2⟩ := src_new (F := F) (T := T) g.b
  obtain ⟨p, κ, hk, -, hkM, kd, hkl, pr⟩ := b2.jt.tok (F := F)
  have im := b2.im
  have ig := ig_ok (F := F) (q := 41) b2.x b2.im hk b2.g1 b2.ri (by decide) (by decide)
  rw [show st (nI 41) = 40 by decide] at ig
  have gg : ¬ rs.1 21 = 0 := by rw [b2.g1]; decide
  rw [e1, kd, ob_s]
  unfold b_source
  rw [if_neg gg, rdI_n g.os.e60 (by decide), ob_s, g.os.rn, ig, ob_s, nI_3, nI_add]
  by_cases w : κ = 41
  · subst w
    rw [if_pos (show nI 41 = 41 by decide), if_pos rfl, if_neg (show ¬ (1 : Int32) = 0 by decide)]
    exact src_nest hF g hx hQ hT1 hT2 hT3 hT4 b2 sn k2 m2 em2 a2 hk (by omega)
  · rw [if_neg (show ¬ nI κ = 41 from fun w1 => w ((nI_eq (b := 41) (by omega) (by decide)).mp w1)), if_neg w, if_pos rfl]
    exact src_leaf hF g hx b2 sn k2 m2 em2 a2
/-- an open SELECT whose newest SOURCE the class has not laid yet -/
def SGP (n : Nat) (f : Nat → Int32) (M t c cap d K0 S0 Q0 s0 l0 ql z : Nat) (u1 : Option Nat) (u2 : Int32) (cs0 : CS) (rs0 : RS) (o e it gr mi ns mg oo i s lf S Q : Nat) (cs : CS) (rs : RS) : Prop := (SG none n f M t c cap d K0 S0 Q0 s0 l0 ql z u1 u2 cs0 rs0 o e it gr mi ns (ns + 1) mg i s lf S Q cs rs) ∧ (∃ S9 sv, (e < S9 ∧ S9 ≤ S ∧ (rs.2.2.1 49 (3 * e + ns) ≠ -1 → sv = 0)) ∧ OSA (QB S9 (QR X0 n f M c s S Q cs rs d)) X0 n f M c s K0 oo ql o e it gr mi ns (ns + 1) mg cs rs ∧ SRB (QR X0 n f M c s S Q cs rs d sv) X0 n f M c oo (kK cs) S9 ql oo (3 * e + ns) cs rs)
theorem SGP.g {n : Nat} {f : Nat → Int32} {M t c cap d K0 S0 Q0 s0 l0 ql z : Nat} {u1 : Option Nat} {u2 : Int32} {cs0 : CS} {rs0 : RS} {o e it gr mi ns mg oo i s lf S Q : Nat} {cs : CS} {rs : RS} (h : SGP n f M t c cap d K0 S0 Q0 s0 l0 ql z u1 u2 cs0 rs0 o e it gr mi ns mg oo i s lf S Q cs rs) : SG none n f M t c cap d K0 S0 Q0 s0 l0 ql z u1 u2 cs0 rs0 o e it gr mi ns (ns + 1) mg i s lf S Q cs rs := h.1
theorem SGP.ob {n : Nat} {f : Nat → Int32} {M t c cap d K0 S0 Q0 s0 l0 ql z : Nat} {u1 : Option Nat} {u2 : Int32} {cs0 : CS} {rs0 : RS} {o e it gr mi ns mg oo i s lf S Q : Nat} {cs : CS} {rs : RS} (h : SGP n f M t c cap d K0 S0 Q0 s0 l0 ql z u1 u2 cs0 rs0 o e it gr mi ns mg oo i s lf S Q cs rs) : ∃ S9 sv, (e < S9 ∧ S9 ≤ S ∧ (rs.2.2.1 49 (3 * e + ns) ≠ -1 → sv = 0)) ∧ OSA (QB S9 (QR X0 n f M c s S Q cs rs d)) X0 n f M c s K0 oo ql o e it gr mi ns (ns + 1) mg cs rs ∧ SRB (QR X0 n f M c s S Q cs rs d sv) X0 n f M c oo (kK cs) S9 ql oo (3 * e + ns) cs rs := h.2
theorem SGP.os {n : Nat} {f : Nat → Int32} {M t c cap : Nat} {d K0 S0 Q0 s0 l0 ql z o e it gr mi ns mg i s lf S Q : Nat} {u1 : Option Nat} {u2 : Int32} {cs0 cs : CS} {rs0 rs : RS} {oo : Nat} (h : SGP n f M t c cap d K0 S0 Q0 s0 l0 ql z u1 u2 cs0 rs0 o e it gr mi ns mg oo i s lf S Q cs rs) : OSA (QR X0 n f M c s S Q cs rs d) X0 n f M c s K0 oo ql o e it gr mi ns (ns + 1) mg cs rs := by
  obtain ⟨S9, sv, -, h1, -⟩ := h.ob
  exact h1.wk (fun _ _ _ _ _ _ q => q.2)
theorem SGP.sb {n : Nat} {f : Nat → Int32} {M t c cap : Nat} {d K0 S0 Q0 s0 l0 ql z o e it gr mi ns mg i s lf S Q : Nat} {u1 : Option Nat} {u2 : Int32} {cs0 cs : CS} {rs0 rs : RS} {oo : Nat} (h : SGP n f M t c cap d K0 S0 Q0 s0 l0 ql z u1 u2 cs0 rs0 o e it gr mi ns mg oo i s lf S Q cs rs) : SRB (fun _ _ _ _ _ _ => True) X0 n f M c oo (kK cs) 0 ql oo (3 * e + ns) cs rs := by
  obtain ⟨S9, sv, -, -, h1⟩ := h.ob
  refine ⟨h1.e, h1.ol, h1.oh, h1.nm, ?_, h1.cl⟩
  rcases h1.kd with y | ⟨y1, y2, y3, y4, oi, qi, lo', y5, y6, y7, y8, y9⟩
  · exact Or.inl y
  · exact Or.inr ⟨y1, y2, y3, y4, oi, qi, lo', y5, y6, y7, y8, True.intro⟩
theorem SGP.mv0 {n : Nat} {f : Nat → Int32} {M t c cap : Nat} {d K0 S0 Q0 s0 l0 ql z o e it gr mi ns mg i s lf S Q : Nat} {u1 : Option Nat} {u2 : Int32} {cs0 cs : CS} {rs0 rs : RS} {oo i' s' : Nat} {cs' : CS} {rs' : RS} (h : SGP n f M t c cap d K0 S0 Q0 s0 l0 ql z u1 u2 cs0 rs0 o e it gr mi ns mg oo i s lf S Q cs rs) (p : PD t c (kK cs) S Q s lf cs rs cs' rs') (b : BG n f M t c cap i' z s' lf S Q cs' rs') (r3 : kR cs' 330 t = some o) (r7 : rs'.1 71 = nI e) (hs : s ≤ s') (kr : cs'.1 = cs.1) : SGP n f M t c cap d K0 S0 Q0 s0 l0 ql z u1 u2 cs0 rs0 o e it gr mi ns mg oo i' s' lf S Q cs' rs' := by
  obtain ⟨k1, k2, k3, k4⟩ := h.os.od
  obtain ⟨y1, y2, y3⟩ := h.g.kx
  obtain ⟨x1, x2, x3, x4, x5, x6⟩ := h.g.ix
  have kk : kK cs' = kK cs := congrArg (fun z => z.1) kr
  have oh := h.sb.oh
  have nr3 := h.os.nr3
  have q : PZ t c oo S Q s lf e ns cs rs cs' rs' := PZ.of (p.le (by omega) (Nat.le_refl _) (Nat.le_refl _) (Nat.le_refl _) (Nat.le_refl _))
  have rn : rs'.2.2.1 37 e = nI (ns + 1) := (p.qf.2.1 37 e (by omega) (by omega) (by unfold wd; rw [if_pos (by omega)]; exact x2)).trans h.os.rn
  obtain ⟨S9, sv, ⟨v1, v2, v3⟩, os9, sb9⟩ := h.ob
  have r49 : rs'.2.2.1 49 (3 * e + ns) = rs.2.2.1 49 (3 * e + ns) := p.qf.2.1 49 _ (by omega) (by omega) (by unfold wd; rw [if_neg (by omega), if_neg (by omega), if_pos (by omega)]; omega)
  refine ⟨h.g.mv0 p b r3 r7 hs kr, S9, sv, ⟨v1, v2, by rw [r49]; exact v3⟩, os9.pz q ⟨by omega, by omega, x2, by omega⟩ hs (Nat.le_refl _) (Nat.le_refl _) b.s2 nr3 rn, ?_⟩
  rw [kk]
  exact sb9.keep (s := s) (FY.pd p (Nat.le_refl _) (by omega) (by omega)) (fun k q1 q2 => p.qf.2.1 k _ (by omega) (by omega) (by unfold wd; rw [if_neg (by omega), if_neg (by omega), if_pos (by omega)]; omega)) (p.qf.2.2 _ (by omega)) (fun l a b' hl hp => QR.keep hs b.s2 (Nat.le_refl _) (Nat.le_refl _) (Nat.le_refl _) (Nat.le_refl _) d _ _ _ l _ a b' hp (FZ.pd p (Nat.le_refl _) (by omega) (by omega)) (fun x w1 w2 w3 => X0.pd w3 p w2)) (fun x w1 w2 w3 => X0.pd w3 p w2)
theorem SGP.tok {n : Nat} {f : Nat → Int32} {M t c cap : Nat} {d K0 S0 Q0 s0 l0 ql z o e it gr mi ns mg i s lf S Q : Nat} {u1 : Option Nat} {u2 : Int32} {cs0 cs : CS} {rs0 rs : RS} {oo : Nat} (h : SGP n f M t c cap d K0 S0 Q0 s0 l0 ql z u1 u2 cs0 rs0 o e it gr mi ns mg oo i s lf S Q cs rs) (hi : i < M) : SGP n f M t c cap d K0 S0 Q0 s0 l0 ql z u1 u2 cs0 rs0 o e it gr mi ns mg oo (i + 1) s lf S Q (sI cs 328 t (nI (i + 1))) (setF rs 18 (nI (i + 1))) := h.mv0 ((PD.tx (by omega)).trans (PD.rF (by unfold pR'; omega))) (h.g.b.next hi) h.g.r3 h.g.r7 (Nat.le_refl _) rfl
theorem SGP.mark {n : Nat} {f : Nat → Int32} {M t c cap : Nat} {d K0 S0 Q0 s0 l0 ql z o e it gr mi ns mg i s lf S Q : Nat} {u1 : Option Nat} {u2 : Int32} {cs0 cs : CS} {rs0 rs : RS} {oo : Nat} {v : Int32} (h : SGP n f M t c cap d K0 S0 Q0 s0 l0 ql z u1 u2 cs0 rs0 o e it gr mi ns mg oo i s lf S Q cs rs) : SGP n f M t c cap d K0 S0 Q0 s0 l0 ql z u1 u2 cs0 rs0 o e it gr mi ns mg oo i s lf S Q (sI cs 331 t v) rs := h.mv0 (PD.tx (by omega)) (h.g.mark).b h.g.r3 h.g.r7 (Nat.le_refl _) rfl
theorem SGP.marks {n : Nat} {f : Nat → Int32} {M t c cap : Nat} {d K0 S0 Q0 s0 l0 ql z o e it gr mi ns mg i s lf S Q : Nat} {u1 : Option Nat} {u2 : Int32} {cs0 cs : CS} {rs0 rs : RS} {oo : Nat} {v : Int32} (h : SGP n f M t c cap d K0 S0 Q0 s0 l0 ql z u1 u2 cs0 rs0 o e it gr mi ns mg oo i s lf S Q cs rs) : SGP n f M t c cap d K0 S0 Q0 s0 l0 ql z u1 u2 cs0 rs0 o e it gr mi ns mg oo i s lf S Q cs (setF (setF rs 71 (nI e)) 72 v) := h.mv0 ((PD.rF (by unfold pR'; omega)).trans (PD.rF (by unfold pR'; omega))) ((h.g.selr).markr).b h.g.r3 rfl (Nat.le_refl _) rfl
theorem SGP.ex0 {n : Nat} {f : Nat → Int32} {M t c cap : Nat} {d K0 S0 Q0 s0 l0 ql z o e it gr mi ns mg i s lf S Q : Nat} {u1 : Option Nat} {u2 : Int32} {cs0 cs : CS} {rs0 rs : RS} {oo sel i' s' : Nat} {cs' : CS} {rs' : RS} (h : SGP n f M t c cap d K0 S0 Q0 s0 l0 ql z u1 u2 cs0 rs0 o e it gr mi ns mg oo i s lf S Q cs rs) (x : EG n f M t c cap (kK cs) sel false i z s cs rs i' s' cs' rs') : SGP n f M t c cap d K0 S0 Q0 s0 l0 ql z u1 u2 cs0 rs0 o e it gr mi ns mg oo i' s' lf S Q cs' rs' := by
  have h1 := x.sl
  refine h.mv0 (PD.ex0 x (Nat.le_refl _) (Nat.le_refl _)) (h.g.b.eg x) ?_ ?_ (by omega) x.fo.1
  · rw [x.fo.2.1]; exact h.g.r3
  · rw [x.fr.f (by unfold eR; omega)]; exact h.g.r7
/-- the words of its join -/
theorem SGP.ow {n : Nat} {f : Nat → Int32} {M t c cap : Nat} {d K0 S0 Q0 s0 l0 ql z o e it gr mi ns mg i s lf S Q : Nat} {u1 : Option Nat} {u2 : Int32} {cs0 cs : CS} {rs0 rs : RS} {oo : Nat} {cs' : CS} {rs' : RS} (h : SGP n f M t c cap d K0 S0 Q0 s0 l0 ql z u1 u2 cs0 rs0 o e it gr mi ns mg oo i s lf S Q cs rs) (c1 : cs'.1 = cs.1) (ca : ∀ x j, ¬ (j = oo ∧ (x = 231 ∨ x = 232 ∨ x = 233)) → AT cs cs' x j) (r1 : rs'.1 = rs.1) (rw0 : rs'.2.1 = rs.2.1) (ra : ∀ k j, ¬ (j = 3 * e + ns ∧ k = 58) → rs'.2.2.1 k j = rs.2.2.1 k j) (rl : rs'.2.2.2 = rs.2.2.2) : SGP n f M t c cap d K0 S0 Q0 s0 l0 ql z u1 u2 cs0 rs0 o e it gr mi ns mg oo i s lf S Q cs' rs' := by
  obtain ⟨k1, k2, k3, k4⟩ := h.os.od
  obtain ⟨y1, y2, y3⟩ := h.g.kx
  obtain ⟨x1, x2, x3, x4, x5, x6⟩ := h.g.ix
  have em : EM cs cs' := EM.of (congrArg (fun z => z.2.2) c1)
  have kk : kK cs' = kK cs := congrArg (fun z => z.1) c1
  have km : kM cs' = kM cs := congrArg (fun z => z.2.1) c1
  have oh := h.sb.oh
  have nr3 := h.os.nr3
  have s2 := h.g.b.s2
  have hkr := h.g.kr
  have hmr := h.g.mr
  have r33 : ∀ k, k ≤ 33 → rs'.2.2.1 k = rs.2.2.1 k ∧ rs'.2.2.2 k = rs.2.2.2 k := fun k hk => ⟨funext (fun j => ra k j (by omega)), by rw [rl]⟩
  have vw : VW c cs' rs' = VW c cs rs := VW.eq (fun x a1 a2 => ca x c (by omega)) r33
  have tk : TKF cs rs cs' rs' := ⟨(ca 352 9 (by omega)).a, (ca 353 9 (by omega)).a, (ca 354 9 (by omega)).b, (r33 14 (by decide)).1, (r33 15 (by decide)).1, (r33 16 (by decide)).1, (r33 17 (by decide)).2, (r33 2 (by decide)).1⟩
  have p : PZ t c oo S Q s lf e ns cs rs cs' rs' := by
    refine ⟨em, by omega, fun x j a1 _ _ => ca x j (by omega), fun x _ => ca x t (by omega), fun x _ => congrFun vw x, tk, ⟨⟨Or.inr rw0, fun k hk => ?_⟩, fun k j a1 a2 a3 a4 a5 => ra k j (by omega), fun j _ _ => by rw [rl]⟩, fun k _ => by rw [(ca 326 t (by omega)).q]⟩
    unfold pR' at hk
    exact ⟨by rw [r1], funext (fun j => ra k j (by omega)), by rw [rl]⟩
  have b' : BG n f M t c cap i z s lf S Q cs' rs' := h.g.b.mv em (h.g.b.kb.of c1) (fun x j hj => ca x j (by omega)) (fun x _ _ _ _ => ca x t (by omega)) (fun x _ _ => ca x c (by omega)) (fun k _ _ _ _ => by rw [r1]) r33 (by rw [r1]; exact h.g.b.rS) (by rw [r1]; exact h.g.b.rQ)
  obtain ⟨S9, sv, ⟨v1, v2, v3⟩, os9, sb9⟩ := h.ob
  have o2 := os9.pz (S' := S) (Q' := Q) p ⟨by omega, by omega, x2, by omega⟩ (Nat.le_refl _) (Nat.le_refl _) (Nat.le_refl _) s2 nr3 ((ra 37 e (by omega)).trans h.os.rn)
  have sm : SM t lf S cs' rs' := by
    refine ⟨fun k hk => ?_, fun w => ?_⟩
    · obtain ⟨oo', o1, o2⟩ := h.g.sm.1 k hk
      exact ⟨oo', by rw [(ca 326 t (by omega)).q]; exact o1, em _ o2⟩
    · rw [lsm_eq (cs := cs) lf (fun k hk => ?_), rsm_eq (rs := rs) S (fun s k hs hk => ?_)]
      · exact h.g.sm.2 w
      · unfold rk1
        rw [ra 37 s (by omega), ra 49 (3 * s + k) (by omega), ra 51 (3 * s + k) (by omega), rl]
      · unfold lk1
        rw [(ca 326 t (by omega)).q]
        cases hq : kQ cs 326 t k with
        | none => rfl
        | some oo' =>
          show w (kI cs' 224 oo') (kJ cs' 230 oo') = w (kI cs 224 oo') (kJ cs 230 oo')
          rw [(ca 224 oo' (by omega)).i, (ca 230 oo' (by omega)).j]
  refine ⟨⟨b', h.g.pd.trans (p.pd (by omega) x1 (by omega) x3 x4 x5), (o2.wk (fun _ _ _ _ _ _ q => q.2)).hi (by omega), h.g.ag.pz p ⟨by omega, by omega, x2, by omega, by omega⟩ (Nat.le_refl _) s2, sm, by rw [(ca 330 t (by omega)).r]; exact h.g.r3, by rw [r1]; exact h.g.r7, h.g.ix, h.g.kx, by omega, by omega, h.g.ct, h.g.p0, h.g.qs⟩, S9, sv, ⟨v1, v2, by rw [ra 49 _ (by omega)]; exact v3⟩, o2, ?_⟩
  rw [kk]
  refine ⟨em _ h.sb.e, h.sb.ol, oh, ?_, ?_, ?_⟩
  · obtain ⟨k', q1, q2, q3, q4⟩ := h.sb.nm
    exact ⟨k', q1, by rw [ra 55 _ (by omega)]; exact q2, by rw [(ca 228 oo (by omega)).j]; exact q3.f tk, by rw [(ca 229 oo (by omega)).i, tk.2.1]; exact q4⟩
  · rw [(ca 224 oo (by omega)).i, (ca 225 oo (by omega)).r, (ca 226 oo (by omega)).i, (ca 227 oo (by omega)).i, (ca 230 oo (by omega)).j, ra 49 _ (by omega), ra 50 _ (by omega), ra 51 _ (by omega), ra 53 _ (by omega), ra 54 _ (by omega), rl]
    rcases sb9.kd with y | ⟨q1, q2, q3, q4, oi, qi, lo', q5, q6, q7, q8, q9⟩
    · exact Or.inl y
    · refine Or.inr ⟨q1, q2, q3, q4, oi, qi, lo', q5, q6, q7, q8, QR.keep (Nat.le_refl _) s2 (Nat.le_refl _) (Nat.le_refl _) (Nat.le_refl _) (Nat.le_refl _) d _ _ _ lo' _ oi qi q9 ⟨⟨em, fun x j a1 a2 a3 => ca x j (by omega), fun j a1 a2 => (ca 100 j (by omega)).ap, fun x _ => congrFun vw x, tk⟩, fun k j a1 a2 a3 a4 a5 => ra k j (fun w => ?_), fun j _ _ => by rw [rl]⟩ (fun x w1 w2 w3 => CLM.keep w3 em (fun y z1 z2 => ca y x (by omega)))⟩
      unfold wd at a4
      rw [if_neg (by omega), if_neg (by omega), if_pos (by omega)] at a4
      omega
  · obtain ⟨cl, q1, q2, q3, q4⟩ := h.sb.cl
    exact ⟨cl, q1, q2, by rw [(ca 235 oo (by omega)).r]; exact q3, CLM.keep q4 em (fun y z1 z2 => ca y cl (by omega))⟩
theorem kQ_a {cs : CS} {o ns k : Nat} {v : Option Nat} {w : Int32} : kQ (sI (sQ cs 195 o ns v) 196 o w) 195 o k = if k = ns then v else kQ cs 195 o k := by
  show u2 (kQ cs) 195 o (va_up (kQ cs 195 o) ns v) 195 o k = _
  rw [u2_s]
  rfl
/-- the class lays it -/
theorem SGP.adds {n : Nat} {f : Nat → Int32} {M t c cap : Nat} {d K0 S0 Q0 s0 l0 ql z o e it gr mi ns mg i s lf S Q : Nat} {u1 : Option Nat} {u2 : Int32} {cs0 cs : CS} {rs0 rs : RS} {F oo : Nat} (h : SGP n f M t c cap d K0 S0 Q0 s0 l0 ql z u1 u2 cs0 rs0 o e it gr mi ns mg oo i s lf S Q cs rs) (ou : rs.2.2.1 56 (3 * e + ns) = kI cs 231 oo ∧ (kI cs 231 oo = 0 ∨ kI cs 231 oo = 1)) (jn : (ns = 0 ∧ rs.2.2.1 57 (3 * e + ns) = -1) ∨ (0 < ns ∧ rs.2.2.1 57 (3 * e + ns) = kI cs 232 oo)) (on : OPT n f M c 0 false s (kI cs 233 oo) (rs.2.2.1 58 (3 * e + ns)) cs rs) (o1 : (ns = 0 → kI cs 233 oo = -1) ∧ (0 < ns → kI cs 233 oo ≠ -1)) : ∃ cs', c_X9_addSource F cs o oo = some cs' ∧ SG none n f M t c cap d K0 S0 Q0 s0 l0 ql z u1 u2 cs0 rs0 o e it gr mi (ns + 1) (ns + 1) mg i s lf S Q cs' rs ∧ (∀ x j, ¬ (j = o ∧ (x = 195 ∨ x = 196)) → AT cs cs' x j) := by
  obtain ⟨k1, k2, k3, k4⟩ := h.os.od
  obtain ⟨y1, y2, y3⟩ := h.g.kx
  obtain ⟨x1, x2, x3, x4, x5, x6⟩ := h.g.ix
  have oh := h.sb.oh
  have nr3 := h.os.nr3
  have s2 := h.g.b.s2
  obtain ⟨j, hj⟩ := h.os.p195
  have ho := h.sb.e
  have e6 := h.os.e6
  have ca : ∀ x j, ¬ (j = o ∧ (x = 195 ∨ x = 196)) → AT cs (sI (sQ cs 195 o ns (some oo)) 196 o (nI (ns + 1))) x j := fun x j hx => (AT.sQ (by omega)).trans (AT.sI (by omega))
  have qa : ∀ k, kQ (sI (sQ cs 195 o ns (some oo)) 196 o (nI (ns + 1))) 195 o k = if k = ns then some oo else kQ cs 195 o k := fun k => kQ_a
  have ia : kI (sI (sQ cs 195 o ns (some oo)) 196 o (nI (ns + 1))) 196 o = nI (ns + 1) := kI_s
  have pa : kP (sI (sQ cs 195 o ns (some oo)) 196 o (nI (ns + 1))) 195 o = some j ∧ kL (sI (sQ cs 195 o ns (some oo)) 196 o (nI (ns + 1))) 195 o = 3 := ⟨hj, h.os.l195⟩
  have c1 : (sI (sQ cs 195 o ns (some oo)) 196 o (nI (ns + 1))).1 = cs.1 := rfl
  refine ⟨_, ?_, ?_, ca⟩
  · unfold c_X9_addSource c_X9_addSource_b32
    rw [gI_ok e6, ob_s, gA_ok e6, hj, ob_s, lnA_n h.os.e195 hj, ob_s, h.os.l195, h.os.i196, if_neg (show ¬ nI 3 ≤ nI ns from nI_ge (by omega) (by decide)), ob_s, ob_s, ckE_ok ho, ob_s, wQ_n h.os.e195 hj (by rw [h.os.l195]; omega) (by rw [h.os.l195]; decide), ob_s, gI_ok (cs := sQ cs 195 o ns (some oo)) e6, ob_s, show kI (sQ cs 195 o ns (some oo)) 196 o = nI ns from h.os.i196, nI_1, pI_ok (cs := sQ cs 195 o ns (some oo)) e6, ob_s]
  obtain ⟨cs', hcs'⟩ : ∃ x, x = sI (sQ cs 195 o ns (some oo)) 196 o (nI (ns + 1)) := ⟨_, rfl⟩
  rw [← hcs'] at ca qa ia pa c1 ⊢
  have em : EM cs cs' := EM.of (congrArg (fun z => z.2.2) c1)
  have kk : kK cs' = kK cs := congrArg (fun z => z.1) c1
  have km : kM cs' = kM cs := congrArg (fun z => z.2.1) c1
  have hkr := h.g.kr
  have hmr := h.g.mr
  have vw : VW c cs' rs = VW c cs rs := VW.eq (fun x a1 a2 => ca x c (by omega)) (fun _ _ => ⟨rfl, rfl⟩)
  have tk : TKF cs rs cs' rs := ⟨(ca 352 9 (by omega)).a, (ca 353 9 (by omega)).a, (ca 354 9 (by omega)).b, rfl, rfl, rfl, rfl, rfl⟩
  have kp : ∀ x, x < s → VW c cs' rs x = VW c cs rs x := fun x _ => congrFun vw x
  have pd : PD t c K0 S0 Q0 s0 l0 cs rs cs' rs := ⟨em, by omega, fun x j a1 _ _ => ca x j (by omega), fun x _ => ca x t (by omega), fun x _ => congrFun vw x, tk, QF.refl, fun k _ => by rw [(ca 326 t (by omega)).q]⟩
  have b' : BG n f M t c cap i z s lf S Q cs' rs := h.g.b.obj (oo := o) c1 (fun x y hy => ca x y (by omega)) ⟨by omega, by omega, by omega⟩
  have am : ∀ x, AM o cs x → AM o cs' x := fun x hx => by
    obtain ⟨j, k, m1, m2, m3, m4⟩ := hx
    exact ⟨j, k, m1, by rw [(ca 203 o (by omega)).i]; exact m2, m3, by rw [(ca 202 o (by omega)).a]; exact m4⟩
  have oo' : ∀ x, x ≠ 195 → x ≠ 196 → AT cs cs' x o := fun x a1 a2 => ca x o (by omega)
  have fy : ∀ lo hi, gr < lo → FY c lo hi s cs rs cs' rs := fun lo hi q => ⟨em, fun x j a1 a2 a3 => ca x j (by omega), fun j a1 a2 => (ca 100 j (by omega)).ap, kp, tk⟩
  have fz : ∀ lo hi, gr < lo → FZ c lo hi (e + 1) S ql Q s cs rs cs' rs := fun lo hi q => ⟨fy lo hi q, fun _ _ _ _ _ _ _ => rfl, fun _ _ _ => rfl⟩
  have hX : ∀ x, gr < x → X0 x cs → X0 x cs' := fun x hx w => CLM.keep w em (fun y y1 y2 => ca y x (by omega))
  have hP : ∀ su sl l hi a b', e < sl → gr < l → QR X0 n f M c s S Q cs rs d su sl ql l hi a b' → QR X0 n f M c s S Q cs' rs d su sl ql l hi a b' := fun su sl l hi a b' he hl hp => QR.keep (Nat.le_refl _) s2 (Nat.le_refl _) (Nat.le_refl _) (Nat.le_refl _) (Nat.le_refl _) d _ _ _ l hi a b' hp ((fz l hi hl).sub (Nat.le_refl _) (Nat.le_refl _) he (Nat.le_refl _)) (fun x w1 w2 w3 => hX x (by omega) w3)
  refine ⟨b', h.g.pd.trans pd, ⟨em _ e6, by rw [kk]; exact h.g.os.od, h.os.e60, by rw [(oo' 194 (by decide) (by decide)).r]; exact h.os.r194, by rw [(oo' 200 (by decide) (by decide)).r]; exact h.os.r200, h.os.ci.keep em (fun x a1 a2 => ca x it (by omega)), h.os.cg.keep em (fun x a1 a2 => ca x gr (by omega)), em _ h.os.e195, ⟨j, pa.1⟩, pa.2, ia, nr3, nr3, by rw [(oo' 192 (by decide) (by decide)).i, (oo' 193 (by decide) (by decide)).i]; exact h.os.ds, h.os.ri, h.os.rn, h.os.rg, h.os.wh.kf (oo' 197 (by decide) (by decide)).i rfl (Nat.le_refl _) kp tk, h.os.hv.keep (oo' 201 (by decide) (by decide)).i rfl (Nat.le_refl _) kp tk am, by rw [(oo' 198 (by decide) (by decide)).i, (oo' 199 (by decide) (by decide)).i]; exact h.os.hg, fun k hk => ?_, fun k hk => ?_, ?_⟩, h.g.ag.kept em (ca 202 o (by omega)) (ca 203 o (by omega)) kp tk (fun _ _ => rfl) s2 (h.g.ag.ac.at' (ca 202 o (by omega)) (ca 203 o (by omega)) (ca 97 it (by omega)) (ca 67 c (by omega))), ⟨fun k hk => ?_, fun w => ?_⟩, by rw [(ca 330 t (by omega)).r]; exact h.g.r3, h.g.r7, h.g.ix, h.g.kx, by omega, by omega, h.g.ct, h.g.p0, h.g.qs⟩
  · obtain ⟨r0, q1, q2, q3, q4⟩ := h.os.is k hk
    exact ⟨r0, by rw [(ca 97 it (by omega)).a]; exact q1, q2, q3.keep (Nat.le_refl _) kp tk am, by rw [(ca 98 it (by omega)).b]; exact q4.f tk⟩
  · obtain ⟨r0, j, q1, q2, q3, q4, q5, q6, q7⟩ := h.os.gs k hk
    exact ⟨r0, j, by rw [(ca 97 gr (by omega)).a]; exact q1, q2, q3.kf (Nat.le_refl _) kp tk, q4, q5, by rw [(ca 98 gr (by omega)).b]; exact q6.f tk, by rw [(ca 99 gr (by omega)).a, tk.2.1]; exact q7⟩
  · obtain ⟨S9, sv, ⟨v1, v2, v3⟩, os9, sb9⟩ := h.ob
    obtain ⟨b, u, v, b0, b1, b2, u0, u1, b3⟩ := os9.so
    have mz := mono_b b1 ns 0 (by omega)
    rw [Nat.zero_add] at mz
    obtain ⟨B, hB1, hB2⟩ : ∃ B : Nat → Nat, (∀ k, k ≤ ns → B k = b k) ∧ B (ns + 1) = kK cs := ⟨fun k => if k ≤ ns then b k else kK cs, fun k hk => if_pos hk, if_neg (by omega)⟩
    obtain ⟨U, hU1, hU2⟩ : ∃ U : Nat → Nat, (∀ k, k < ns → U k = u k) ∧ U ns = S9 := ⟨fun k => if k < ns then u k else S9, fun k hk => if_pos hk, if_neg (by omega)⟩
    obtain ⟨W, hW1, hW2⟩ : ∃ W : Nat → Nat, (∀ k, k < ns → W k = v k) ∧ W ns = sv := ⟨fun k => if k < ns then v k else sv, fun k hk => if_pos hk, if_neg (by omega)⟩
    have v9 : ∀ k, k < ns → v k ≤ S9 := fun k hk => by
      obtain ⟨oo2, q1, q2⟩ := b3 k hk
      rcases q2.b.kd with ⟨d', d9, -, w, -⟩ | ⟨-, -, -, -, oi, qi, lo', -, -, -, -, w⟩
      · rw [(u0 k hk).2 (by rw [w]; exact nI_nm1 (by omega))]
        exact Nat.zero_le _
      · exact w.1
    refine ⟨B, U, W, by rw [hB1 0 (Nat.zero_le _)]; exact b0, fun k hk => ?_, by rw [hB2, kk]; exact Nat.le_refl _, fun k hk => ?_, fun k k' kk1 kk2 => ?_, fun k hk => ?_⟩
    · by_cases w : k = ns
      · subst w
        rw [hB1 k (Nat.le_refl _), hB2]
        omega
      · rw [hB1 k (by omega), hB1 (k + 1) (by omega)]
        exact b1 k (by omega)
    · by_cases w : k = ns
      · rw [w, hU2, hW2]
        exact ⟨v1, v3⟩
      · rw [hU1 k (by omega), hW1 k (by omega)]
        exact u0 k (by omega)
    · by_cases w : k' = ns
      · rw [w, hU2, hW1 k (by omega)]
        exact v9 k (by omega)
      · rw [hU1 k' (by omega), hW1 k (by omega)]
        exact u1 k k' kk1 (by omega)
    · by_cases w : k = ns
      · subst w
        rw [qa k, if_pos rfl, hU2, hW2, hB1 k (Nat.le_refl _), hB2]
        have sb : SRB (QR X0 n f M c s S Q cs' rs d sv) X0 n f M c oo (kK cs) S9 ql oo (3 * e + k) cs' rs := sb9.keep (s := s) (fy _ _ k4) (fun _ _ _ => rfl) rfl (fun l a b' hl hp => hP _ _ l _ a b' v1 (by omega) hp) (fun x w1 w2 w3 => hX x (by omega) w3)
        have g231 := (ca 231 oo (by omega)).i
        have g232 := (ca 232 oo (by omega)).i
        have g233 := (ca 233 oo (by omega)).i
        exact ⟨oo, rfl, ⟨⟨sb.e, by omega, sb.oh, sb.nm, sb.kd, sb.cl⟩, by rw [g231]; exact ou, by rw [g232]; exact jn, on.kf g233 rfl (Nat.le_refl _) kp tk, by rw [g233]; exact o1⟩⟩
      · obtain ⟨oo2, q1, q2⟩ := b3 k (by omega)
        have m0 := mono_b b1 k 0 (by omega)
        rw [Nat.zero_add] at m0
        rw [qa k, if_neg w, hB1 k (by omega), hB1 (k + 1) (by omega), hU1 k (by omega), hW1 k (by omega)]
        exact ⟨oo2, q1, q2.keep (fy _ _ (by omega)) (Nat.le_refl _) (fun _ _ _ => rfl) rfl (fun l a b' hl hp => hP _ _ l _ a b' (u0 k (by omega)).1 (by omega) hp.2) (fun x w1 w2 w3 => hX x (by omega) w3)⟩
  · obtain ⟨o', q1, q2⟩ := h.g.sm.1 k hk
    exact ⟨o', by rw [(ca 326 t (by omega)).q]; exact q1, em _ q2⟩
  · rw [lsm_eq (cs := cs) lf (fun k hk => ?_)]
    · exact h.g.sm.2 w
    · unfold lk1
      rw [(ca 326 t (by omega)).q]
      cases hq : kQ cs 326 t k with
      | none => rfl
      | some o' =>
        show w (kI cs' 224 o') (kJ cs' 230 o') = w (kI cs 224 o') (kJ cs 230 o')
        rw [(ca 224 o' (by omega)).i, (ca 230 o' (by omega)).j]

/-! an open SELECT in both -/
def X0 (cl : Nat) (cs : CS) : Prop := CLM cl 0 cs
theorem X0.pd {t c K0 S0 Q0 s0 l0 cl : Nat} {cs cs' : CS} {rs rs' : RS} (h : X0 cl cs) (p : PD t c K0 S0 Q0 s0 l0 cs rs cs' rs') (hc : cl < K0) : X0 cl cs' := CLM.keep h p.em (fun x x1 x2 => p.a0 x cl hc (by omega) (by omega))
def SG (β : Option Nat) (n : Nat) (f : Nat → Int32) (M t c cap d K0 S0 Q0 s0 l0 ql z : Nat) (u1 : Option Nat) (u2 : Int32) (cs0 : CS) (rs0 : RS) (o e it gr mi ns nr mg i s lf S Q : Nat) (cs : CS) (rs : RS) : Prop := (BG n f M t c cap i z s lf S Q cs rs) ∧ (PD t c K0 S0 Q0 s0 l0 cs0 rs0 cs rs) ∧ (OSA (QR X0 n f M c s S Q cs rs d) X0 n f M c s K0 (kK cs) ql o e it gr mi ns nr mg cs rs) ∧ (AGP β n f M c s o e it mi cs rs) ∧ (SM t lf S cs rs) ∧ (kR cs 330 t = some o) ∧ (rs.1 71 = nI e) ∧ (S0 ≤ e ∧ e < S ∧ Q0 ≤ Q ∧ s0 ≤ s ∧ l0 ≤ lf ∧ ql ≤ Q) ∧ (t < K0 ∧ c < K0 ∧ 37 < K0) ∧ (kK cs + 40 * S0 + 40 * l0 + 20 ≤ kK cs0 + 40 * S + 40 * lf) ∧ (kM cs + 400 * S0 + 400 * l0 + 200 ≤ kM cs0 + 400 * S + 400 * lf) ∧ ((nr = 0 ∧ S = S0 + 1 ∧ lf = l0) ∨ (1 ≤ nr ∧ l0 + nr ≤ lf ∧ S + z + 13 * l0 ≤ S0 + 13 * lf)) ∧ (S0 ≤ 13 * l0 + z) ∧ (Q ≤ S)
theorem SG.b {β : Option Nat} {n : Nat} {f : Nat → Int32} {M t c cap d K0 S0 Q0 s0 l0 ql z : Nat} {u1 : Option Nat} {u2 : Int32} {cs0 : CS} {rs0 : RS} {o e it gr mi ns nr mg i s lf S Q : Nat} {cs : CS} {rs : RS} (h : SG β n f M t c cap d K0 S0 Q0 s0 l0 ql z u1 u2 cs0 rs0 o e it gr mi ns nr mg i s lf S Q cs rs) : BG n f M t c cap i z s lf S Q cs rs := h.1
theorem SG.pd {β : Option Nat} {n : Nat} {f : Nat → Int32} {M t c cap d K0 S0 Q0 s0 l0 ql z : Nat} {u1 : Option Nat} {u2 : Int32} {cs0 : CS} {rs0 : RS} {o e it gr mi ns nr mg i s lf S Q : Nat} {cs : CS} {rs : RS} (h : SG β n f M t c cap d K0 S0 Q0 s0 l0 ql z u1 u2 cs0 rs0 o e it gr mi ns nr mg i s lf S Q cs rs) : PD t c K0 S0 Q0 s0 l0 cs0 rs0 cs rs := h.2.1
theorem SG.os {β : Option Nat} {n : Nat} {f : Nat → Int32} {M t c cap d K0 S0 Q0 s0 l0 ql z : Nat} {u1 : Option Nat} {u2 : Int32} {cs0 : CS} {rs0 : RS} {o e it gr mi ns nr mg i s lf S Q : Nat} {cs : CS} {rs : RS} (h : SG β n f M t c cap d K0 S0 Q0 s0 l0 ql z u1 u2 cs0 rs0 o e it gr mi ns nr mg i s lf S Q cs rs) : OSA (QR X0 n f M c s S Q cs rs d) X0 n f M c s K0 (kK cs) ql o e it gr mi ns nr mg cs rs := h.2.2.1
theorem SG.ag {β : Option Nat} {n : Nat} {f : Nat → Int32} {M t c cap d K0 S0 Q0 s0 l0 ql z : Nat} {u1 : Option Nat} {u2 : Int32} {cs0 : CS} {rs0 : RS} {o e it gr mi ns nr mg i s lf S Q : Nat} {cs : CS} {rs : RS} (h : SG β n f M t c cap d K0 S0 Q0 s0 l0 ql z u1 u2 cs0 rs0 o e it gr mi ns nr mg i s lf S Q cs rs) : AGP β n f M c s o e it mi cs rs := h.2.2.2.1
theorem SG.sm {β : Option Nat} {n : Nat} {f : Nat → Int32} {M t c cap d K0 S0 Q0 s0 l0 ql z : Nat} {u1 : Option Nat} {u2 : Int32} {cs0 : CS} {rs0 : RS} {o e it gr mi ns nr mg i s lf S Q : Nat} {cs : CS} {rs : RS} (h : SG β n f M t c cap d K0 S0 Q0 s0 l0 ql z u1 u2 cs0 rs0 o e it gr mi ns nr mg i s lf S Q cs rs) : SM t lf S cs rs := h.2.2.2.2.1
theorem SG.r3 {β : Option Nat} {n : Nat} {f : Nat → Int32} {M t c cap d K0 S0 Q0 s0 l0 ql z : Nat} {u1 : Option Nat} {u2 : Int32} {cs0 : CS} {rs0 : RS} {o e it gr mi ns nr mg i s lf S Q : Nat} {cs : CS} {rs : RS} (h : SG β n f M t c cap d K0 S0 Q0 s0 l0 ql z u1 u2 cs0 rs0 o e it gr mi ns nr mg i s lf S Q cs rs) : kR cs 330 t = some o := h.2.2.2.2.2.1
theorem SG.r7 {β : Option Nat} {n : Nat} {f : Nat → Int32} {M t c cap d K0 S0 Q0 s0 l0 ql z : Nat} {u1 : Option Nat} {u2 : Int32} {cs0 : CS} {rs0 : RS} {o e it gr mi ns nr mg i s lf S Q : Nat} {cs : CS} {rs : RS} (h : SG β n f M t c cap d K0 S0 Q0 s0 l0 ql z u1 u2 cs0 rs0 o e it gr mi ns nr mg i s lf S Q cs rs) : rs.1 71 = nI e := h.2.2.2.2.2.2.1
theorem SG.ix {β : Option Nat} {n : Nat} {f : Nat → Int32} {M t c cap d K0 S0 Q0 s0 l0 ql z : Nat} {u1 : Option Nat} {u2 : Int32} {cs0 : CS} {rs0 : RS} {o e it gr mi ns nr mg i s lf S Q : Nat} {cs : CS} {rs : RS} (h : SG β n f M t c cap d K0 S0 Q0 s0 l0 ql z u1 u2 cs0 rs0 o e it gr mi ns nr mg i s lf S Q cs rs) : S0 ≤ e ∧ e < S ∧ Q0 ≤ Q ∧ s0 ≤ s ∧ l0 ≤ lf ∧ ql ≤ Q := h.2.2.2.2.2.2.2.1
theorem SG.kx {β : Option Nat} {n : Nat} {f : Nat → Int32} {M t c cap d K0 S0 Q0 s0 l0 ql z : Nat} {u1 : Option Nat} {u2 : Int32} {cs0 : CS} {rs0 : RS} {o e it gr mi ns nr mg i s lf S Q : Nat} {cs : CS} {rs : RS} (h : SG β n f M t c cap d K0 S0 Q0 s0 l0 ql z u1 u2 cs0 rs0 o e it gr mi ns nr mg i s lf S Q cs rs) : t < K0 ∧ c < K0 ∧ 37 < K0 := h.2.2.2.2.2.2.2.2.1
theorem SG.kr {β : Option Nat} {n : Nat} {f : Nat → Int32} {M t c cap d K0 S0 Q0 s0 l0 ql z : Nat} {u1 : Option Nat} {u2 : Int32} {cs0 : CS} {rs0 : RS} {o e it gr mi ns nr mg i s lf S Q : Nat} {cs : CS} {rs : RS} (h : SG β n f M t c cap d K0 S0 Q0 s0 l0 ql z u1 u2 cs0 rs0 o e it gr mi ns nr mg i s lf S Q cs rs) : kK cs + 40 * S0 + 40 * l0 + 20 ≤ kK cs0 + 40 * S + 40 * lf := h.2.2.2.2.2.2.2.2.2.1
theorem SG.mr {β : Option Nat} {n : Nat} {f : Nat → Int32} {M t c cap d K0 S0 Q0 s0 l0 ql z : Nat} {u1 : Option Nat} {u2 : Int32} {cs0 : CS} {rs0 : RS} {o e it gr mi ns nr mg i s lf S Q : Nat} {cs : CS} {rs : RS} (h : SG β n f M t c cap d K0 S0 Q0 s0 l0 ql z u1 u2 cs0 rs0 o e it gr mi ns nr mg i s lf S Q cs rs) : kM cs + 400 * S0 + 400 * l0 + 200 ≤ kM cs0 + 400 * S + 400 * lf := h.2.2.2.2.2.2.2.2.2.2.1
theorem SG.ct {β : Option Nat} {n : Nat} {f : Nat → Int32} {M t c cap d K0 S0 Q0 s0 l0 ql z : Nat} {u1 : Option Nat} {u2 : Int32} {cs0 : CS} {rs0 : RS} {o e it gr mi ns nr mg i s lf S Q : Nat} {cs : CS} {rs : RS} (h : SG β n f M t c cap d K0 S0 Q0 s0 l0 ql z u1 u2 cs0 rs0 o e it gr mi ns nr mg i s lf S Q cs rs) : (nr = 0 ∧ S = S0 + 1 ∧ lf = l0) ∨ (1 ≤ nr ∧ l0 + nr ≤ lf ∧ S + z + 13 * l0 ≤ S0 + 13 * lf) := h.2.2.2.2.2.2.2.2.2.2.2.1
theorem SG.p0 {β : Option Nat} {n : Nat} {f : Nat → Int32} {M t c cap d K0 S0 Q0 s0 l0 ql z : Nat} {u1 : Option Nat} {u2 : Int32} {cs0 : CS} {rs0 : RS} {o e it gr mi ns nr mg i s lf S Q : Nat} {cs : CS} {rs : RS} (h : SG β n f M t c cap d K0 S0 Q0 s0 l0 ql z u1 u2 cs0 rs0 o e it gr mi ns nr mg i s lf S Q cs rs) : S0 ≤ 13 * l0 + z := h.2.2.2.2.2.2.2.2.2.2.2.2.1
theorem SG.qs {β : Option Nat} {n : Nat} {f : Nat → Int32} {M t c cap d K0 S0 Q0 s0 l0 ql z : Nat} {u1 : Option Nat} {u2 : Int32} {cs0 : CS} {rs0 : RS} {o e it gr mi ns nr mg i s lf S Q : Nat} {cs : CS} {rs : RS} (h : SG β n f M t c cap d K0 S0 Q0 s0 l0 ql z u1 u2 cs0 rs0 o e it gr mi ns nr mg i s lf S Q cs rs) : Q ≤ S := h.2.2.2.2.2.2.2.2.2.2.2.2.2
theorem SG.k0 {n : Nat} {f : Nat → Int32} {M t c cap : Nat} {β : Option Nat} {d K0 S0 Q0 s0 l0 ql z o e it gr mi ns nr mg i s lf S Q : Nat} {u1 : Option Nat} {u2 : Int32} {cs0 cs : CS} {rs0 rs : RS} (g : SG β n f M t c cap d K0 S0 Q0 s0 l0 ql z u1 u2 cs0 rs0 o e it gr mi ns nr mg i s lf S Q cs rs) : K0 ≤ o ∧ o < it ∧ it < gr ∧ gr < kK cs := g.os.od
/-- a step that leaves all alone that was read -/
theorem SG.mv {n : Nat} {f : Nat → Int32} {M t c cap : Nat} {β : Option Nat} {d K0 S0 Q0 s0 l0 ql z o e it gr mi ns nr mg i s lf S Q : Nat} {u1 : Option Nat} {u2 : Int32} {cs0 cs : CS} {rs0 rs : RS} {i' s' lf' S' Q' : Nat} {cs' : CS} {rs' : RS} (g : SG β n f M t c cap d K0 S0 Q0 s0 l0 ql z u1 u2 cs0 rs0 o e it gr mi ns nr mg i s lf S Q cs rs) (p : PD t c (kK cs) S Q s lf cs rs cs' rs') (b : BG n f M t c cap i' z s' lf' S' Q' cs' rs') (sm : SM t lf' S' cs' rs') (r3 : kR cs' 330 t = some o) (r7 : rs'.1 71 = nI e) (hs : s ≤ s') (hS : S ≤ S') (hQ : Q ≤ Q') (hl : lf ≤ lf') (kr : kK cs' + 40 * S + 40 * lf ≤ kK cs + 40 * S' + 40 * lf') (mr : kM cs' + 400 * S + 400 * lf ≤ kM cs + 400 * S' + 400 * lf') (ct : (S' = S ∧ lf' = lf) ∨ (1 ≤ nr ∧ S' ≤ S + 13 * (lf' - lf))) (qs : Q' ≤ S') : SG β n f M t c cap d K0 S0 Q0 s0 l0 ql z u1 u2 cs0 rs0 o e it gr mi ns nr mg i' s' lf' S' Q' cs' rs' := by
  obtain ⟨k1, k2, k3, k4⟩ := g.os.od
  obtain ⟨x1, x2, x3, x4, x5, x6⟩ := g.ix
  obtain ⟨y1, y2, y3⟩ := g.kx
  have s2 := b.s2
  have hkr := g.kr
  have hmr := g.mr
  have z : FZ c (o + 1) (kK cs) 0 S 0 Q s cs rs cs' rs' := FZ.pd p (Nat.le_refl _) (by omega) (by omega)
  have hX : ∀ x, x < kK cs → X0 x cs → X0 x cs' := fun x hx h => X0.pd h p hx
  refine ⟨b, g.pd.trans (p.le (by omega) (by omega) x3 x4 x5), (g.os.keep (fun x hx _ _ => p.a0 x o (by omega) (by omega) (by omega)) z (fun x hx => ?_) hs ⟨Nat.zero_le _, x2⟩ (fun su sl l h' a b' q0 q1 q2 q3 => QR.keep hs s2 (Nat.le_refl _) (Nat.le_refl _) hS hQ d su sl _ l h' a b' q3 (FZ.pd p q2 (by omega) (by omega)) (fun x _ w2 w3 => hX x (by omega) w3)) (fun x _ w2 w3 => hX x w2 w3)).hi p.kk, g.ag.keep (FY.pd (lo := o) (hi := kK cs) p (Nat.le_refl _) (by omega) (by omega)) (Nat.le_refl _) (by omega) ⟨by omega, by omega⟩ hs s2 (fun k hk => z.rq k e (by omega) (by omega) (by omega) (by unfold wd; rw [if_pos (by omega)]; exact Nat.zero_le _) (by unfold wd; rw [if_pos (by omega)]; exact x2)), sm, r3, r7, ⟨x1, by omega, by omega, by omega, by omega, by omega⟩, g.kx, by omega, by omega, ?_, g.p0, qs⟩
  · exact (FY.pd (lo := o) (hi := kK cs) p (Nat.le_refl _) (by omega) (by omega)).am (Nat.le_refl _) (by omega) hx
  · have hct := g.ct
    omega
/-- as far as the same streams and SELECTS go -/
theorem SG.mv0 {n : Nat} {f : Nat → Int32} {M t c cap : Nat} {β : Option Nat} {d K0 S0 Q0 s0 l0 ql z o e it gr mi ns nr mg i s lf S Q : Nat} {u1 : Option Nat} {u2 : Int32} {cs0 cs : CS} {rs0 rs : RS} {i' s' : Nat} {cs' : CS} {rs' : RS} (g : SG β n f M t c cap d K0 S0 Q0 s0 l0 ql z u1 u2 cs0 rs0 o e it gr mi ns nr mg i s lf S Q cs rs) (p : PD t c (kK cs) S Q s lf cs rs cs' rs') (b : BG n f M t c cap i' z s' lf S Q cs' rs') (r3 : kR cs' 330 t = some o) (r7 : rs'.1 71 = nI e) (hs : s ≤ s') (kr : cs'.1 = cs.1) : SG β n f M t c cap d K0 S0 Q0 s0 l0 ql z u1 u2 cs0 rs0 o e it gr mi ns nr mg i' s' lf S Q cs' rs' := by
  have k1 : kK cs' = kK cs := congrArg (fun z => z.1) kr
  have k2 : kM cs' = kM cs := congrArg (fun z => z.2.1) kr
  exact g.mv p b (g.sm.keep g.b.kb (Nat.le_refl _) p) r3 r7 hs (Nat.le_refl _) (Nat.le_refl _) (Nat.le_refl _) (by omega) (by omega) (Or.inl ⟨rfl, rfl⟩) g.qs
/-- a token -/
theorem SG.tok {n : Nat} {f : Nat → Int32} {M t c cap : Nat} {β : Option Nat} {d K0 S0 Q0 s0 l0 ql z o e it gr mi ns nr mg i s lf S Q : Nat} {u1 : Option Nat} {u2 : Int32} {cs0 cs : CS} {rs0 rs : RS} (g : SG β n f M t c cap d K0 S0 Q0 s0 l0 ql z u1 u2 cs0 rs0 o e it gr mi ns nr mg i s lf S Q cs rs) (hi : i < M) : SG β n f M t c cap d K0 S0 Q0 s0 l0 ql z u1 u2 cs0 rs0 o e it gr mi ns nr mg (i + 1) s lf S Q (sI cs 328 t (nI (i + 1))) (setF rs 18 (nI (i + 1))) := g.mv0 ((PD.tx (by omega)).trans (PD.rF (by unfold pR'; omega))) (g.b.next hi) g.r3 g.r7 (Nat.le_refl _) rfl
/-- the marks of aggregates -/
theorem SG.mark {n : Nat} {f : Nat → Int32} {M t c cap : Nat} {β : Option Nat} {d K0 S0 Q0 s0 l0 ql z o e it gr mi ns nr mg i s lf S Q : Nat} {u1 : Option Nat} {u2 : Int32} {cs0 cs : CS} {rs0 rs : RS} {v : Int32} (g : SG β n f M t c cap d K0 S0 Q0 s0 l0 ql z u1 u2 cs0 rs0 o e it gr mi ns nr mg i s lf S Q cs rs) : SG β n f M t c cap d K0 S0 Q0 s0 l0 ql z u1 u2 cs0 rs0 o e it gr mi ns nr mg i s lf S Q (sI cs 331 t v) rs := by
  have t37 := g.b.t37
  exact g.mv0 (PD.tx (by omega)) (g.b.mv EM.refl g.b.kb (fun x j hj => AT.sI (by omega)) (fun x x1 x2 x3 x4 => AT.sI (by omega)) (fun x x1 x2 => AT.sI (by omega)) (fun _ _ _ _ _ => rfl) (fun _ _ => ⟨rfl, rfl⟩) g.b.rS g.b.rQ) g.r3 g.r7 (Nat.le_refl _) rfl
theorem SG.markr {n : Nat} {f : Nat → Int32} {M t c cap : Nat} {β : Option Nat} {d K0 S0 Q0 s0 l0 ql z o e it gr mi ns nr mg i s lf S Q : Nat} {u1 : Option Nat} {u2 : Int32} {cs0 cs : CS} {rs0 rs : RS} {v : Int32} (g : SG β n f M t c cap d K0 S0 Q0 s0 l0 ql z u1 u2 cs0 rs0 o e it gr mi ns nr mg i s lf S Q cs rs) : SG β n f M t c cap d K0 S0 Q0 s0 l0 ql z u1 u2 cs0 rs0 o e it gr mi ns nr mg i s lf S Q cs (setF rs 72 v) := g.mv0 (PD.rF (by unfold pR'; omega)) (g.b.mv EM.refl g.b.kb (fun _ _ _ => AT.refl) (fun _ _ _ _ _ => AT.refl) (fun _ _ _ => AT.refl) (fun k _ _ _ h => pk_un h) (fun _ _ => ⟨rfl, rfl⟩) g.b.rS g.b.rQ) g.r3 g.r7 (Nat.le_refl _) rfl
theorem SG.selr {n : Nat} {f : Nat → Int32} {M t c cap : Nat} {β : Option Nat} {d K0 S0 Q0 s0 l0 ql z o e it gr mi ns nr mg i s lf S Q : Nat} {u1 : Option Nat} {u2 : Int32} {cs0 cs : CS} {rs0 rs : RS} (g : SG β n f M t c cap d K0 S0 Q0 s0 l0 ql z u1 u2 cs0 rs0 o e it gr mi ns nr mg i s lf S Q cs rs) : SG β n f M t c cap d K0 S0 Q0 s0 l0 ql z u1 u2 cs0 rs0 o e it gr mi ns nr mg i s lf S Q cs (setF rs 71 (nI e)) := g.mv0 (PD.rF (by unfold pR'; omega)) (g.b.mv EM.refl g.b.kb (fun _ _ _ => AT.refl) (fun _ _ _ _ _ => AT.refl) (fun _ _ _ => AT.refl) (fun k _ _ h _ => pk_un h) (fun _ _ => ⟨rfl, rfl⟩) g.b.rS g.b.rQ) g.r3 rfl (Nat.le_refl _) rfl
/-- an EXPR where no aggregate may stand -/
theorem SG.ex0 {n : Nat} {f : Nat → Int32} {M t c cap : Nat} {β : Option Nat} {d K0 S0 Q0 s0 l0 ql z o e it gr mi ns nr mg i s lf S Q : Nat} {u1 : Option Nat} {u2 : Int32} {cs0 cs : CS} {rs0 rs : RS} {sel i' s' : Nat} {cs' : CS} {rs' : RS} (g : SG β n f M t c cap d K0 S0 Q0 s0 l0 ql z u1 u2 cs0 rs0 o e it gr mi ns nr mg i s lf S Q cs rs) (h : EG n f M t c cap (kK cs) sel false i z s cs rs i' s' cs' rs') : SG β n f M t c cap d K0 S0 Q0 s0 l0 ql z u1 u2 cs0 rs0 o e it gr mi ns nr mg i' s' lf S Q cs' rs' := by
  have h1 := h.sl
  refine g.mv0 (PD.ex0 h (Nat.le_refl _) (Nat.le_refl _)) (g.b.eg h) ?_ ?_ (by omega) h.fo.1
  · rw [h.fo.2.1]; exact g.r3
  · rw [h.fr.f (by unfold eR; omega)]; exact g.r7
/-- what may begin an EXPR without aggregates -/
theorem SG.pg0 {n : Nat} {f : Nat → Int32} {M t c cap : Nat} {β : Option Nat} {d K0 S0 Q0 s0 l0 ql z o e it gr mi ns nr mg i s lf S Q : Nat} {u1 : Option Nat} {u2 : Int32} {cs0 cs : CS} {rs0 rs : RS} {q sel : Nat} (g : SG β n f M t c cap d K0 S0 Q0 s0 l0 ql z u1 u2 cs0 rs0 o e it gr mi ns nr mg i s lf S Q cs rs) (cm : kI cs 331 t = 0) (rm : rs.1 72 = 0) : PG n f M t c cap q sel false i z s cs rs := g.b.pg cm rm (fun w => absurd w (by decide))
theorem SG.pg1 {n : Nat} {f : Nat → Int32} {M t c cap : Nat} {β : Option Nat} {d K0 S0 Q0 s0 l0 ql z o e it gr mi ns nr mg i s lf S Q : Nat} {u1 : Option Nat} {u2 : Int32} {cs0 cs : CS} {rs0 rs : RS} (g : SG β n f M t c cap d K0 S0 Q0 s0 l0 ql z u1 u2 cs0 rs0 o e it gr mi ns nr mg i s lf S Q cs rs) (cm : kI cs 331 t = 1) (rm : rs.1 72 = 1) : PG n f M t c cap o e true i z s cs rs := g.b.pg cm rm (fun _ => g.ag.agr g.r3 g.os.e6 g.r7 g.os.e60)
/-- an EXPR of the SELECT with aggregates -/
theorem SG.ex1 {n : Nat} {f : Nat → Int32} {M t c cap : Nat} {d K0 S0 Q0 s0 l0 ql z o e it gr mi ns nr mg i s lf S Q : Nat} {u1 : Option Nat} {u2 : Int32} {cs0 cs : CS} {rs0 rs : RS} {i' s' : Nat} {cs' : CS} {rs' : RS} (g : SG none n f M t c cap d K0 S0 Q0 s0 l0 ql z u1 u2 cs0 rs0 o e it gr mi ns nr mg i s lf S Q cs rs) (h : EG n f M t c cap o e true i z s cs rs i' s' cs' rs') : SG (some (s' - 1)) n f M t c cap d K0 S0 Q0 s0 l0 ql z u1 u2 cs0 rs0 o e it gr mi ns nr mg i' s' lf S Q cs' rs' := by
  obtain ⟨k1, k2, k3, k4⟩ := g.os.od
  obtain ⟨x1, x2, x3, x4, x5, x6⟩ := g.ix
  obtain ⟨y1, y2, y3⟩ := g.kx
  have h1 := h.sl
  have s2 := h.g.s2
  have em : EM cs cs' := EM.of h.fo.e
  have kk : kK cs' = kK cs := congrArg (fun z => z.1) h.fo.1
  have km : kM cs' = kM cs := congrArg (fun z => z.2.1) h.fo.1
  have hkr := g.kr
  have hmr := g.mr
  have at' : ∀ x j, ¬ (x = 202 ∨ x = 203) → t < j → c < j → AT cs cs' x j := fun x j q1 q2 q3 => AT.fo h.fo (by unfold PX; omega)
  have at2 : ∀ x j, j ≠ o → t < j → c < j → AT cs cs' x j := fun x j q1 q2 q3 => AT.fo h.fo (by unfold PX; omega)
  have tk : TKF cs rs cs' rs' := TKF.fo h.fo h.fr
  have fy : ∀ lo hi, o < lo → FY c lo hi s cs rs cs' rs' := fun lo hi q => ⟨em, fun x j a1 a2 a3 => at2 x j (by omega) (by omega) (by omega), fun j a1 a2 => (at2 100 j (by omega) (by omega) (by omega)).ap, h.kp, tk⟩
  have rr : ∀ k j, 35 ≤ k → k ≤ 68 → (k = 42 ∨ k = 43 → j ≠ e) → rs'.2.2.1 k j = rs.2.2.1 k j := fun k j a1 a2 a3 => by
    by_cases w : k = 42 ∨ k = 43
    · have := h.fa.2.1 j (a3 w)
      rcases w with w | w
      · subst w; exact this.1
      · subst w; exact this.2
    · rw [h.fr.a (by unfold eR; omega)]
  have rl : ∀ j, rs'.2.2.2 52 j = rs.2.2.2 52 j := fun j => by rw [h.fr.l (by unfold eR; omega)]
  have fz : ∀ lo hi, o < lo → FZ c lo hi (e + 1) S 0 Q s cs rs cs' rs' := fun lo hi q => ⟨fy lo hi q, fun k j a1 a2 a3 a4 a5 => rr k j a1 a2 (fun w => by
      unfold wd at a4
      rw [if_pos (by omega)] at a4
      omega), fun j _ _ => rl j⟩
  have hX : ∀ x, o < x → X0 x cs → X0 x cs' := fun x hx w => CLM.keep w em (fun y y1 y2 => at2 y x (by omega) (by omega) (by omega))
  refine ⟨g.b.eg h, g.pd.trans (PD.ex h (by omega) x1 x4), ?_, g.ag.ex g.b.cn ⟨by omega, by omega, by omega⟩ h, ⟨fun k hk => ?_, fun w => ?_⟩, by rw [h.fo.2.1]; exact g.r3, by rw [h.fr.f (by unfold eR; omega)]; exact g.r7, ⟨x1, x2, x3, by omega, x5, x6⟩, g.kx, by omega, by omega, g.ct, g.p0, g.qs⟩
  · rw [kk]
    refine g.os.upd em (fun x hx => at' x o (by omega) (by omega) (by omega)) (fy (o + 1) (kK cs) (by omega)) (fun k hk => rr k e (by omega) (by omega) (by omega)) (fun k j hk hj => rr k _ (by omega) (by omega) (by omega)) (fun k j q1 q2 hj => rr k _ (by omega) (by omega) (by omega)) (fun j hj => rl _) h.am (by omega) (fun su sl l h' a b' q0 q1 q2 q3 => QR.keep (by omega) s2 (Nat.le_refl _) (Nat.le_refl _) (Nat.le_refl _) (Nat.le_refl _) d su sl _ l h' a b' q3 ((fz l h' (by omega)).sub (Nat.le_refl _) (Nat.le_refl _) q0 (Nat.zero_le _)) (fun x w1 w2 w3 => hX x (by omega) w3)) (fun x w1 w2 w3 => hX x w1 w3) ?_ (g.os.wh.kf (at' 197 o (by omega) (by omega) (by omega)).i (rr 38 e (by omega) (by omega) (by omega)) (by omega) h.kp tk) (g.os.hv.keep (at' 201 o (by omega) (by omega) (by omega)).i (rr 41 e (by omega) (by omega) (by omega)) (by omega) h.kp tk h.am) ?_ g.os.nr3 ((rr 37 e (by omega) (by omega) (by omega)).trans g.os.rn)
    · rw [(at' 192 o (by omega) (by omega) (by omega)).i, (at' 193 o (by omega) (by omega) (by omega)).i, rr 35 e (by omega) (by omega) (by omega)]
      exact g.os.ds
    · rw [(at' 198 o (by omega) (by omega) (by omega)).i, (at' 199 o (by omega) (by omega) (by omega)).i, rr 40 e (by omega) (by omega) (by omega)]
      exact g.os.hg
  · obtain ⟨oo, o1, o2⟩ := g.sm.1 k hk
    exact ⟨oo, by rw [h.fo.2.2.2.1]; exact o1, em _ o2⟩
  · rw [lsm_eq (cs := cs) lf (fun k hk => ?_), rsm_eq (rs := rs) S (fun s k hs hk => ?_)]
    · exact g.sm.2 w
    · unfold rk1
      rw [rr 37 s (by omega) (by omega) (by omega), rr 49 (3 * s + k) (by omega) (by omega) (by omega), rr 51 (3 * s + k) (by omega) (by omega) (by omega), rl]
    · unfold lk1
      rw [h.fo.2.2.2.1]
      cases hq : kQ cs 326 t k with
      | none => rfl
      | some oo =>
        have a224 : AT cs cs' 224 oo := AT.fo h.fo (by unfold PX; omega)
        have a230 : AT cs cs' 230 oo := AT.fo h.fo (by unfold PX; omega)
        show w (kI cs' 224 oo) (kJ cs' 230 oo) = w (kI cs 224 oo) (kJ cs 230 oo)
        rw [a224.i, a230.j]

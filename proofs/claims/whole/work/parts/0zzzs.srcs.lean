/-! SOURCES: sums, faults, and what a QUERY within one leaves -/
theorem SM.leaf {t lf S e ns oo d : Nat} {cs cs' : CS} {rs rs' : RS} (h : SM t lf S cs rs) (kb : KB cs) (em : EM cs cs') (ck : ∀ k, k < lf → kQ cs' 326 t k = kQ cs 326 t k) (ca : ∀ j, j < kK cs → AT cs cs' 224 j ∧ AT cs cs' 230 j) (cl : kQ cs' 326 t lf = some oo) (o7 : (7, oo) ∈ kE cs') (r37 : ∀ y, y ≠ e → rs'.2.2.1 37 y = rs.2.2.1 37 y) (r0 : rs.2.2.1 37 e = nI ns) (r1 : rs'.2.2.1 37 e = nI (ns + 1)) (rs1 : ∀ y, y ≠ 3 * e + ns → rs'.2.2.1 49 y = rs.2.2.1 49 y ∧ rs'.2.2.1 51 y = rs.2.2.1 51 y ∧ rs'.2.2.2 52 y = rs.2.2.2 52 y) (hn : ns < 3) (he : e < S) (v1 : kI cs' 224 oo = nI d) (v2 : rs'.2.2.1 49 (3 * e + ns) = nI d) (hd : d ≤ 9) (v3 : (kJ cs' 230 oo = -1 ∧ rs'.2.2.1 51 (3 * e + ns) = 0) ∨ (rs'.2.2.1 51 (3 * e + ns) = 1 ∧ kJ cs' 230 oo = rs'.2.2.2 52 (3 * e + ns))) : SM t (lf + 1) S cs' rs' := by
  have c0 : (nI ns).toNatClampNeg = ns := nI_clamp (by omega)
  have c1 : (nI (ns + 1)).toNatClampNeg = ns + 1 := nI_clamp (by omega)
  have kj : (if rs'.2.2.1 51 (3 * e + ns) = 0 then (-1 : Int64) else rs'.2.2.2 52 (3 * e + ns)) = kJ cs' 230 oo := by
    rcases v3 with ⟨a, b⟩ | ⟨a, b⟩
    · rw [if_pos b, a]
    · rw [if_neg (by rw [a]; decide), b]
  refine ⟨fun k hk => ?_, fun w => ?_⟩
  · by_cases y : k = lf
    · subst y
      exact ⟨oo, cl, o7⟩
    · obtain ⟨o', o1, o2⟩ := h.1 k (by omega)
      exact ⟨o', by rw [ck k (by omega)]; exact o1, em _ o2⟩
  · have hl : lsm w t cs' (lf + 1) = lsm w t cs lf + w (nI d) (kJ cs' 230 oo) := by
      show lsm w t cs' lf + lk1 w t cs' lf = _
      rw [lsm_eq (cs := cs) lf (fun k hk => ?_)]
      · unfold lk1
        rw [cl]
        show _ + w (kI cs' 224 oo) (kJ cs' 230 oo) = _
        rw [v1]
      · obtain ⟨o', o1, o2⟩ := h.1 k hk
        have a := ca o' (kb _ o2)
        unfold lk1
        rw [ck k hk, o1]
        show w (kI cs' 224 o') (kJ cs' 230 o') = w (kI cs 224 o') (kJ cs 230 o')
        rw [a.1.i, a.2.j]
    have hr : rsm w rs' S = rsm w rs S + w (nI d) (kJ cs' 230 oo) := by
      refine rsm_add (e := e) (k := ns) (fun s j q1 q2 => ?_) hn ?_ S he
      · unfold rk1
        have a := rs1 (3 * s + j) (by omega)
        rw [a.1, a.2.1, a.2.2]
        by_cases y : s = e
        · subst y
          rw [r1, r0, c0, c1]
          by_cases w2 : j < ns
          · simp only [show j < ns + 1 by omega, w2, true_and]
          · simp only [show ¬ j < ns + 1 by omega, w2, false_and]
        · rw [r37 s y]
      · have z0 : rk1 w rs e ns = 0 := by
          unfold rk1
          rw [r0, c0, if_neg (fun y => by omega)]
        rw [z0, Nat.zero_add]
        unfold rk1
        rw [r1, c1, kj, v2, if_pos ⟨by omega, nI_nm1 (by omega)⟩]
    rw [hl, hr, h.2 w]
theorem SM.nest {t lf S e ns : Nat} {cs cs' : CS} {rs rs' : RS} (h : SM t lf S cs rs) (kb : KB cs) (em : EM cs cs') (ck : ∀ k, k < lf → kQ cs' 326 t k = kQ cs 326 t k) (ca : ∀ j, j < kK cs → kI cs' 224 j = kI cs 224 j ∧ kJ cs' 230 j = kJ cs 230 j) (r37 : ∀ y, y ≠ e → rs'.2.2.1 37 y = rs.2.2.1 37 y) (r0 : rs.2.2.1 37 e = nI ns) (r1 : rs'.2.2.1 37 e = nI (ns + 1)) (rs1 : ∀ y, y ≠ 3 * e + ns → rs'.2.2.1 49 y = rs.2.2.1 49 y ∧ rs'.2.2.1 51 y = rs.2.2.1 51 y ∧ rs'.2.2.2 52 y = rs.2.2.2 52 y) (hn : ns < 3) (he : e < S) (v2 : rs'.2.2.1 49 (3 * e + ns) = -1) : SM t lf S cs' rs' := by
  have c0 : (nI ns).toNatClampNeg = ns := nI_clamp (by omega)
  have c1 : (nI (ns + 1)).toNatClampNeg = ns + 1 := nI_clamp (by omega)
  refine ⟨fun k hk => ?_, fun w => ?_⟩
  · obtain ⟨o', o1, o2⟩ := h.1 k hk
    exact ⟨o', by rw [ck k hk]; exact o1, em _ o2⟩
  · have hl : lsm w t cs' lf = lsm w t cs lf := lsm_eq lf (fun k hk => by
      obtain ⟨o', o1, o2⟩ := h.1 k hk
      have a := ca o' (kb _ o2)
      unfold lk1
      rw [ck k hk, o1]
      show w (kI cs' 224 o') (kJ cs' 230 o') = w (kI cs 224 o') (kJ cs 230 o')
      rw [a.1, a.2])
    have hr : rsm w rs' S = rsm w rs S + 0 := by
      refine rsm_add (e := e) (k := ns) (fun s j q1 q2 => ?_) hn ?_ S he
      · unfold rk1
        have a := rs1 (3 * s + j) (by omega)
        rw [a.1, a.2.1, a.2.2]
        by_cases y : s = e
        · subst y
          rw [r1, r0, c0, c1]
          by_cases w2 : j < ns
          · simp only [show j < ns + 1 by omega, w2, true_and]
          · simp only [show ¬ j < ns + 1 by omega, w2, false_and]
        · rw [r37 s y]
      · have z0 : rk1 w rs e ns = 0 := by
          unfold rk1
          rw [r0, c0, if_neg (fun y => by omega)]
        rw [z0]
        unfold rk1
        rw [v2, if_neg (fun y => y.2 rfl)]
    rw [hl, hr, h.2 w, Nat.add_zero]
theorem sI_comm {cs : CS} {a b x y : Nat} {v w : Int32} (h : a ≠ b) : sI (sI cs a x v) b y w = sI (sI cs b y w) a x v := by
  refine Prod.ext rfl (Prod.ext (funext fun p => funext fun q => ?_) rfl)
  show u2 (u2 cs.2.1 a x v) b y w p q = u2 (u2 cs.2.1 b y w) a x v p q
  unfold u2
  by_cases h1 : p = b ∧ q = y
  · rw [if_pos h1, if_neg (by omega), if_pos h1]
  · rw [if_neg h1]
    by_cases h2 : p = a ∧ q = x
    · rw [if_pos h2, if_pos h2]
    · rw [if_neg h2, if_neg h2, if_neg h1]
/-- behind a fault in a QUERY -/
def FQ (t c cap K0 S0 l0 : Nat) (cs0 : CS) (lf r : Nat) (cs : CS) (rs : RS) : Prop := (PB t c cs rs) ∧ (WS t c cap lf cs) ∧ (EM cs0 cs) ∧ (∀ x j, j < K0 → ¬ (x / 32 = 10 ∧ j = t) → ¬ (x / 32 = 2 ∧ j = c) → AT cs0 cs x j) ∧ (kK cs + 40 * S0 + 40 * l0 ≤ kK cs0 + r) ∧ (kM cs + 400 * S0 + 400 * l0 ≤ kM cs0 + 10 * r)
theorem FQ.pb {t c cap K0 S0 l0 : Nat} {cs0 : CS} {lf r : Nat} {cs : CS} {rs : RS} (h : FQ t c cap K0 S0 l0 cs0 lf r cs rs) : PB t c cs rs := h.1
theorem FQ.ws {t c cap K0 S0 l0 : Nat} {cs0 : CS} {lf r : Nat} {cs : CS} {rs : RS} (h : FQ t c cap K0 S0 l0 cs0 lf r cs rs) : WS t c cap lf cs := h.2.1
theorem FQ.em {t c cap K0 S0 l0 : Nat} {cs0 : CS} {lf r : Nat} {cs : CS} {rs : RS} (h : FQ t c cap K0 S0 l0 cs0 lf r cs rs) : EM cs0 cs := h.2.2.1
theorem FQ.a0 {t c cap K0 S0 l0 : Nat} {cs0 : CS} {lf r : Nat} {cs : CS} {rs : RS} (h : FQ t c cap K0 S0 l0 cs0 lf r cs rs) : ∀ x j, j < K0 → ¬ (x / 32 = 10 ∧ j = t) → ¬ (x / 32 = 2 ∧ j = c) → AT cs0 cs x j := h.2.2.2.1
theorem FQ.kr {t c cap K0 S0 l0 : Nat} {cs0 : CS} {lf r : Nat} {cs : CS} {rs : RS} (h : FQ t c cap K0 S0 l0 cs0 lf r cs rs) : kK cs + 40 * S0 + 40 * l0 ≤ kK cs0 + r := h.2.2.2.2.1
theorem FQ.mr {t c cap K0 S0 l0 : Nat} {cs0 : CS} {lf r : Nat} {cs : CS} {rs : RS} (h : FQ t c cap K0 S0 l0 cs0 lf r cs rs) : kM cs + 400 * S0 + 400 * l0 ≤ kM cs0 + 10 * r := h.2.2.2.2.2
/-- a QUERY's end in both: read, or a fault -/
def QPO (n : Nat) (f : Nat → Int32) (M t c cap d z S0 Q0 s0 l0 : Nat) (cs0 : CS) (rs0 : RS) (oq : Nat) (cs : CS) (rs : RS) : Prop := (∃ i s lf S Q, BG n f M t c cap i z s lf S Q cs rs ∧ PD t c (kK cs0) S0 Q0 s0 l0 cs0 rs0 cs rs ∧ QR X0 n f M c s S Q cs rs d S S0 Q0 (kK cs0) (kK cs) oq Q0 ∧ SM t lf S cs rs ∧ kR cs 330 t = kR cs0 330 t ∧ rs.1 71 = rs0.1 71 ∧ (S0 < S ∧ Q0 < Q ∧ Q ≤ S ∧ s0 ≤ s ∧ l0 < lf) ∧ kK cs + 40 * S0 + 40 * l0 + 10 ≤ kK cs0 + 40 * S + 40 * lf ∧ kM cs + 400 * S0 + 400 * l0 + 100 ≤ kM cs0 + 400 * S + 400 * lf ∧ S + z + 13 * l0 ≤ S0 + 13 * lf) ∨ (∃ lf, FQ t c cap (kK cs0) S0 l0 cs0 lf (2403 + 10 * (12 - z)) cs rs)
/-- two methods that read a QUERY at nest z, one of each -/
def QS (n : Nat) (f : Nat → Int32) (M t c cap d z : Nat) (P : CS → Nat → Option (CS × Nat)) (P' : RS → Option (RS × Int32)) : Prop := ∀ (i s lf S Q : Nat) (cs : CS) (rs : RS), BG n f M t c cap i z s lf S Q cs rs → SM t lf S cs rs → S ≤ 13 * lf + z → Q ≤ S → ∃ cs' rs' oq, P cs t = some (cs', oq) ∧ P' rs = some (rs', nI Q) ∧ QPO n f M t c cap d z S Q s lf cs rs oq cs' rs'
/-- a fault within a SOURCE of the open SELECT -/
theorem SG.fwx {n : Nat} {f : Nat → Int32} {M t c cap : Nat} {d K0 S0 Q0 s0 l0 ql z o e it gr mi ns mg i s lf S Q : Nat} {u1 : Option Nat} {u2 : Int32} {cs0 cs : CS} {rs0 rs : RS} {lf' r : Nat} {cs' : CS} {rs' : RS} (g : SG none n f M t c cap d K0 S0 Q0 s0 l0 ql z u1 u2 cs0 rs0 o e it gr mi ns ns mg i s lf S Q cs rs) (pb : PB t c cs' rs') (ws : WS t c cap lf' cs') (em : EM cs cs') (a : ∀ x j, j < kK cs → ¬ (x / 32 = 10 ∧ j = t) → ¬ (x / 32 = 2 ∧ j = c) → AT cs cs' x j) (kr : kK cs' + 40 * S + 40 * lf ≤ kK cs + r) (mr : kM cs' + 400 * S + 400 * lf ≤ kM cs + 10 * r) : FW t c cap K0 S0 l0 cs0 o it lf' r cs' rs' := by
  obtain ⟨k1, k2, k3, k4⟩ := g.os.od
  obtain ⟨y1, y2, y3⟩ := g.kx
  have hkr := g.kr
  have hmr := g.mr
  exact ⟨pb, ws, g.wo.keep em (fun x hx => a x o (by omega) (by omega) (by omega)) (fun x x1 x2 => a x it (by omega) (by omega) (by omega)), g.pd.em.trans em, fun x j a1 a2 a3 => (g.pd.a0 x j a1 a2 a3).trans (a x j (by omega) a2 a3), ⟨y1, y2, k1, k2⟩, by omega, by omega⟩
/-- the class's rest of a SOURCE in brackets behind a fault -/
theorem b40_f {F t c cap lf oo oi : Nat} {T : TC_X9_readQuery} {cs : CS} {rs : RS} (pb : PB t c cs rs) (h : WS t c cap lf cs) (ho : (7, oo) ∈ kE cs) (hr : t < oo ∧ c < oo ∧ 37 < oo) : ∃ cs', c_X9_readSource_b40 F T cs t oo oi oo = some (cs', oo) ∧ PB t c cs' rs ∧ WS t c cap lf cs' ∧ cs'.1 = cs.1 ∧ ∀ x y, y ≠ oo → ¬ (y = t ∧ x = 329) → AT cs cs' x y := by
  have fA : FS t c (sR cs 225 oo (some oi)) := by
    have e : kR (sR cs 225 oo (some oi)) 327 t = kR cs 327 t ∧ kR (sR cs 225 oo (some oi)) 322 t = kR cs 322 t := ⟨(AT.sR (by omega)).r, (AT.sR (by omega)).r⟩
    refine ⟨⟨h.f.h.b.gw EM.refl (fun x j hj => AT.sR (by omega)), h.f.h.o, by rw [e.1]; exact h.f.h.tk, by rw [e.2]; exact h.f.h.rc, h.f.h.oc⟩, h.f.f, h.f.i⟩
  obtain ⟨v, hv⟩ := herf (F := F) fA
  have gA : GF t oo cs (sI (sR cs 225 oo (some oi)) 227 oo v) := GF.gw ((GW.sR (Nat.le_refl _)).trans (GW.sI (Nat.le_refl _)))
  have wA : WS t c cap lf (sI (sR cs 225 oo (some oi)) 227 oo v) := h.gf gA h.kb (by omega) (by omega)
  have oA : (7, oo) ∈ kE (sR cs 225 oo (some oi)) := ho
  obtain ⟨cA, hcA⟩ : ∃ x, x = sI (sR cs 225 oo (some oi)) 227 oo v := ⟨_, rfl⟩
  have aA : ∀ x y, y ≠ oo → AT cs cA x y := fun x y hy => by rw [hcA]; exact (AT.sR (by omega)).trans (AT.sI (by omega))
  have qA : cA.1 = cs.1 := by rw [hcA]; rfl
  have oB : (7, oo) ∈ kE cA := by rw [hcA]; exact ho
  rw [← hcA] at gA wA
  have gB : GF t (kK cA) cA (sI cA 329 t (kI cA 329 t - 1)) := GF.text (Or.inl rfl)
  have wB : WS t c cap lf (sI cA 329 t (kI cA 329 t - 1)) := wA.gf gB wA.kb wA.t0 wA.c0
  obtain ⟨v3, u3, e3⟩ := b75_f (F := F) (T := T) (oo := oo) wB oB ⟨by omega, by omega⟩
  have gC : GF t oo (sI cA 329 t (kI cA 329 t - 1)) (sJ (sI (sI cA 329 t (kI cA 329 t - 1)) 229 oo v3) 228 oo u3) := GF.gw ((GW.sI (Nat.le_refl _)).trans (GW.sJ (Nat.le_refl _)))
  have wC := wB.gf gC wB.kb (by omega) (by omega)
  have k0 : oo < kK cA := by
    have := wA.kb _ oB
    exact this
  have gT : GF t oo cs (sJ (sI (sI cA 329 t (kI cA 329 t - 1)) 229 oo v3) 228 oo u3) := gA.trans ((gB.le (by omega)).trans gC)
  refine ⟨_, ?_, pb.gf wC.f gT (by omega), wC, qA, fun x y h1 h2 => (aA x y h1).trans (((AT.sI (by omega)).trans (AT.sI (by omega))).trans (AT.sJ (by omega)))⟩
  unfold c_X9_readSource_b40
  rw [pR_ok ho, ob_s, ckE_ok fA.h.o, ob_s, hv, ob_s, pI_ok oA, ob_s, ← hcA, ckE_ok wA.f.h.o, ob_s, expf wA.f (by decide), ob_s, gI_ok wA.f.h.o, ob_s, pI_ok wA.f.h.o, ob_s]
  exact e3

/-! how far a QUERY's reading has come: what it has left alone -/
def PD (t c K0 S0 Q0 s0 : Nat) (cs0 : CS) (rs0 : RS) (cs : CS) (rs : RS) : Prop := (EM cs0 cs) ∧ (kK cs0 ≤ kK cs) ∧ (∀ x j, j < K0 → ¬ (x / 32 = 10 ∧ j = t) → ¬ (x / 32 = 2 ∧ j = c) → AT cs0 cs x j) ∧ (∀ x, x = 322 ∨ x = 323 ∨ x = 324 ∨ x = 327 → AT cs0 cs x t) ∧ (∀ x, x < s0 → VW c cs rs x = VW c cs0 rs0 x) ∧ (TKF cs0 rs0 cs rs) ∧ (QF S0 Q0 rs0 rs)
theorem PD.em {t c K0 S0 Q0 s0 : Nat} {cs0 : CS} {rs0 : RS} {cs : CS} {rs : RS} (h : PD t c K0 S0 Q0 s0 cs0 rs0 cs rs) : EM cs0 cs := h.1
theorem PD.kk {t c K0 S0 Q0 s0 : Nat} {cs0 : CS} {rs0 : RS} {cs : CS} {rs : RS} (h : PD t c K0 S0 Q0 s0 cs0 rs0 cs rs) : kK cs0 ≤ kK cs := h.2.1
theorem PD.a0 {t c K0 S0 Q0 s0 : Nat} {cs0 : CS} {rs0 : RS} {cs : CS} {rs : RS} (h : PD t c K0 S0 Q0 s0 cs0 rs0 cs rs) : ∀ x j, j < K0 → ¬ (x / 32 = 10 ∧ j = t) → ¬ (x / 32 = 2 ∧ j = c) → AT cs0 cs x j := h.2.2.1
theorem PD.tt {t c K0 S0 Q0 s0 : Nat} {cs0 : CS} {rs0 : RS} {cs : CS} {rs : RS} (h : PD t c K0 S0 Q0 s0 cs0 rs0 cs rs) : ∀ x, x = 322 ∨ x = 323 ∨ x = 324 ∨ x = 327 → AT cs0 cs x t := h.2.2.2.1
theorem PD.kp {t c K0 S0 Q0 s0 : Nat} {cs0 : CS} {rs0 : RS} {cs : CS} {rs : RS} (h : PD t c K0 S0 Q0 s0 cs0 rs0 cs rs) : ∀ x, x < s0 → VW c cs rs x = VW c cs0 rs0 x := h.2.2.2.2.1
theorem PD.tk {t c K0 S0 Q0 s0 : Nat} {cs0 : CS} {rs0 : RS} {cs : CS} {rs : RS} (h : PD t c K0 S0 Q0 s0 cs0 rs0 cs rs) : TKF cs0 rs0 cs rs := h.2.2.2.2.2.1
theorem PD.qf {t c K0 S0 Q0 s0 : Nat} {cs0 : CS} {rs0 : RS} {cs : CS} {rs : RS} (h : PD t c K0 S0 Q0 s0 cs0 rs0 cs rs) : QF S0 Q0 rs0 rs := h.2.2.2.2.2.2
theorem VW.eq {c : Nat} {cs cs' : CS} {rs rs' : RS} (g : ∀ x, 64 ≤ x → x < 96 → AT cs cs' x c) (r : ∀ k, k ≤ 33 → rs'.2.2.1 k = rs.2.2.1 k ∧ rs'.2.2.2 k = rs.2.2.2 k) : VW c cs' rs' = VW c cs rs := by
  funext e
  unfold VW
  rw [(g 65 (by decide) (by decide)).a, (g 67 (by decide) (by decide)).a, (g 68 (by decide) (by decide)).a, (g 66 (by decide) (by decide)).a, (g 69 (by decide) (by decide)).b, (g 71 (by decide) (by decide)).a, (g 70 (by decide) (by decide)).b, (r 23 (by decide)).1, (r 24 (by decide)).1, (r 25 (by decide)).1, (r 26 (by decide)).1, (r 27 (by decide)).1, (r 28 (by decide)).2, (r 29 (by decide)).1, (r 32 (by decide)).1, (r 30 (by decide)).1]
theorem PD.refl {t c K0 S0 Q0 s0 : Nat} {cs : CS} {rs : RS} : PD t c K0 S0 Q0 s0 cs rs cs rs := ⟨EM.refl, Nat.le_refl _, fun _ _ _ _ _ => AT.refl, fun _ _ => AT.refl, fun _ _ => rfl, TKF.refl, QF.refl⟩
theorem PD.trans {t c K0 S0 Q0 s0 : Nat} {a b d : CS} {x y w : RS} (h : PD t c K0 S0 Q0 s0 a x b y) (g : PD t c K0 S0 Q0 s0 b y d w) : PD t c K0 S0 Q0 s0 a x d w := ⟨h.em.trans g.em, Nat.le_trans h.kk g.kk, fun k j a1 a2 a3 => (h.a0 k j a1 a2 a3).trans (g.a0 k j a1 a2 a3), fun k hk => (h.tt k hk).trans (g.tt k hk), fun k hk => (g.kp k hk).trans (h.kp k hk), h.tk.trans g.tk, h.qf.trans g.qf⟩
theorem PD.le {t c K0 S0 Q0 s0 : Nat} {K S Q s : Nat} {a b : CS} {x y : RS} (h : PD t c K0 S0 Q0 s0 a x b y) (h1 : K ≤ K0) (h2 : S ≤ S0) (h3 : Q ≤ Q0) (h4 : s ≤ s0) : PD t c K S Q s a x b y := ⟨h.em, h.kk, fun k j a1 a2 a3 => h.a0 k j (by omega) a2 a3, h.tt, fun k hk => h.kp k (by omega), h.tk, h.qf.le h2 h3⟩
theorem PD.ex {n : Nat} {f : Nat → Int32} {M cap q sel i z s i' s' : Nat} {ma : Bool} {t c K0 S0 Q0 s0 : Nat} {cs cs' : CS} {rs rs' : RS} (g : EG n f M t c cap q sel ma i z s cs rs i' s' cs' rs') (hq : K0 ≤ q) (hs : S0 ≤ sel) (h0 : s0 ≤ s) : PD t c K0 S0 Q0 s0 cs rs cs' rs' := ⟨EM.of g.fo.e, by unfold kK; rw [g.fo.1]; exact Nat.le_refl _, fun x j a1 a2 a3 => AT.fo g.fo (by unfold PX; omega), fun x hx => AT.fo g.fo (by unfold PX; omega), fun x hx => g.kp x (by omega), TKF.fo g.fo g.fr, QF.ex g.fr g.fa hs⟩
theorem PD.ex0 {n : Nat} {f : Nat → Int32} {M cap q sel i z s i' s' : Nat} {t c K0 S0 Q0 s0 : Nat} {cs cs' : CS} {rs rs' : RS} (g : EG n f M t c cap q sel false i z s cs rs i' s' cs' rs') (hq : K0 ≤ q) (h0 : s0 ≤ s) : PD t c K0 S0 Q0 s0 cs rs cs' rs' := ⟨EM.of g.fo.e, by unfold kK; rw [g.fo.1]; exact Nat.le_refl _, fun x j a1 a2 a3 => AT.fo g.fo (by unfold PX; omega), fun x hx => AT.fo g.fo (by unfold PX; omega), fun x hx => g.kp x (by omega), TKF.fo g.fo g.fr, QF.ex0 g.fr g.fa⟩
theorem PD.tx {t c K0 S0 Q0 s0 : Nat} {k : Nat} {cs : CS} {rs : RS} {v : Int32} (hk : k = 320 ∨ k = 321 ∨ k = 325 ∨ k = 328 ∨ k = 329 ∨ k = 331) : PD t c K0 S0 Q0 s0 cs rs (sI cs k t v) rs := ⟨EM.refl, Nat.le_refl _, fun x j a1 a2 a3 => AT.sI (by omega), fun x hx => AT.sI (by omega), fun _ _ => rfl, TKF.refl, QF.refl⟩
theorem PD.sel {t c K0 S0 Q0 s0 : Nat} {cs : CS} {rs : RS} {v : Option Nat} : PD t c K0 S0 Q0 s0 cs rs (sR cs 330 t v) rs := ⟨EM.refl, Nat.le_refl _, fun x j a1 a2 a3 => AT.sR (by omega), fun x hx => AT.sR (by omega), fun _ _ => rfl, TKF.refl, QF.refl⟩
theorem PD.lv {t c K0 S0 Q0 s0 : Nat} {cs : CS} {rs : RS} {k : Nat} {v : Option Nat} : PD t c K0 S0 Q0 s0 cs rs (sQ cs 326 t k v) rs := ⟨EM.refl, Nat.le_refl _, fun x j a1 a2 a3 => AT.sQ (by omega), fun x hx => AT.sQ (by omega), fun _ _ => rfl, TKF.refl, QF.refl⟩
theorem PD.gw {t c K0 S0 Q0 s0 : Nat} {K : Nat} {cs cs' : CS} {rs : RS} (h : GW K cs cs') (hK : K0 ≤ K) (ht : t < K) (hc : c < K) (h37 : 37 < K) : PD t c K0 S0 Q0 s0 cs rs cs' rs := ⟨h.1, h.2.1, fun x j a1 _ _ => h.2.2 x j (by omega), fun x _ => h.2.2 x t ht, fun x _ => congrFun (VW.eq (fun y _ _ => h.2.2 y c hc) (fun _ _ => ⟨rfl, rfl⟩)) x, ⟨(h.2.2 352 9 (by omega)).a, (h.2.2 353 9 (by omega)).a, (h.2.2 354 9 (by omega)).b, rfl, rfl, rfl, rfl, rfl⟩, QF.refl⟩
theorem PD.rf {t c K0 S0 Q0 s0 : Nat} {cs : CS} {rs rs' : RS} (h : QF S0 Q0 rs rs') (r : ∀ k, k ≤ 33 → rs'.2.2.1 k = rs.2.2.1 k ∧ rs'.2.2.2 k = rs.2.2.2 k) : PD t c K0 S0 Q0 s0 cs rs cs rs' := ⟨EM.refl, Nat.le_refl _, fun _ _ _ _ _ => AT.refl, fun _ _ => AT.refl, fun x _ => congrFun (VW.eq (fun _ _ _ => AT.refl) r) x, ⟨rfl, rfl, rfl, (r 14 (by decide)).1, (r 15 (by decide)).1, (r 16 (by decide)).1, (r 17 (by decide)).2, (r 2 (by decide)).1⟩, h⟩
theorem PD.rF {t c K0 S0 Q0 s0 : Nat} {cs : CS} {rs : RS} {k : Nat} {v : Int32} (h : pR' k) : PD t c K0 S0 Q0 s0 cs rs cs (setF rs k v) := PD.rf (QF.setF h) (fun _ _ => ⟨rfl, rfl⟩)
theorem PD.rI {t c K0 S0 Q0 s0 : Nat} {cs : CS} {rs : RS} {k i : Nat} {v : Int32} (h : 34 ≤ k ∧ k ≤ 74) (g : 35 ≤ k → k ≤ 68 → wd S0 Q0 k ≤ i) : PD t c K0 S0 Q0 s0 cs rs cs (setI rs k i v) := PD.rf (QF.setI (by unfold pR'; omega) g) (fun j hj => ⟨if_neg (by omega), rfl⟩)
theorem PD.rL {t c K0 S0 Q0 s0 : Nat} {cs : CS} {rs : RS} {i : Nat} {v : Int64} (g : 3 * S0 ≤ i) : PD t c K0 S0 Q0 s0 cs rs cs (setL rs 52 i v) := PD.rf (QF.setL g) (fun j hj => ⟨rfl, if_neg (by omega)⟩)
/-- a whole EXPR where no aggregate may stand belongs to no SELECT -/
theorem RT.f0 {n : Nat} {f : Nat → Int32} {M c q q' s r : Nat} {cs : CS} {rs : RS} (h : RT n f M c q false s r cs rs) : RT n f M c q' false s r cs rs := by
  obtain ⟨a, a1, a2, a3, a4⟩ := h
  exact ⟨a, a1, a2, a3, ⟨a4.co, fun x x1 x2 x3 => absurd (a4.an x x1 x2 x3).1 (by decide)⟩⟩
theorem RT.eg {n : Nat} {f : Nat → Int32} {M t c cap q sel i z s i' s' : Nat} {ma : Bool} {cs cs' : CS} {rs rs' : RS} (g : EG n f M t c cap q sel ma i z s cs rs i' s' cs' rs') : RT n f M c q ma s' (s' - 1) cs' rs' := by
  have h1 := g.sl
  refine ⟨s, by omega, by omega, fun R => ?_, ?_⟩
  · rw [show s' - 1 + 1 - s = s' - s by omega]
    exact g.tr R
  · rw [show s' - 1 + 1 = s' by omega]
    exact g.ke

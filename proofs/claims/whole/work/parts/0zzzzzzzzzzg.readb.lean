/-! a text read without fault: all that the check wants -/
def RDK (n : Nat) (f : Nat → Int32) (M t c cap K s lf S Q oq : Nat) (cs : CS) (rs : RS) : Prop := (RDG n f M t c cap K s lf S Q oq cs rs) ∧ (INV K c cs) ∧ (AMI K c cs) ∧ (Z0 K (kK cs) cs) ∧ (SK c cs)
theorem RDK.g {n : Nat} {f : Nat → Int32} {M t c cap K s lf S Q oq : Nat} {cs : CS} {rs : RS} (h : RDK n f M t c cap K s lf S Q oq cs rs) : RDG n f M t c cap K s lf S Q oq cs rs := h.1
theorem RDK.iv {n : Nat} {f : Nat → Int32} {M t c cap K s lf S Q oq : Nat} {cs : CS} {rs : RS} (h : RDK n f M t c cap K s lf S Q oq cs rs) : INV K c cs := h.2.1
theorem RDK.am {n : Nat} {f : Nat → Int32} {M t c cap K s lf S Q oq : Nat} {cs : CS} {rs : RS} (h : RDK n f M t c cap K s lf S Q oq cs rs) : AMI K c cs := h.2.2.1
theorem RDK.z0 {n : Nat} {f : Nat → Int32} {M t c cap K s lf S Q oq : Nat} {cs : CS} {rs : RS} (h : RDK n f M t c cap K s lf S Q oq cs rs) : Z0 K (kK cs) cs := h.2.2.2.1
theorem RDK.sk {n : Nat} {f : Nat → Int32} {M t c cap K s lf S Q oq : Nat} {cs : CS} {rs : RS} (h : RDK n f M t c cap K s lf S Q oq cs rs) : SK c cs := h.2.2.2.2
theorem DFC.nrf {cs : CS} (h : DFC cs) {j ρ r : Nat} (hj : kK cs ≤ j) : ¬ RFS cs j ρ r := fun g => by
  rcases g.2 with ⟨-, a, -⟩ | ⟨-, a, -⟩ | ⟨-, a, -⟩ | ⟨y, m, -, a, m8, d, -⟩
  · exact a (h.2 202 j hj).2.1
  · exact a (h.2 202 j hj).2.1
  · exact a (h.2 235 j hj).2.2
  · rw [(h.2 96 j hj).1] at a
    have := (nI_eq (a := 0) (b := m) (by decide) (by omega)).mp a
    omega
theorem DFC.nam {cs : CS} (h : DFC cs) {o x : Nat} (hj : kK cs ≤ o) : ¬ AM o cs x := fun g => by
  obtain ⟨j, k, k1, k2, k3, -⟩ := g
  rw [(h.2 203 o hj).1] at k2
  have := (nI_eq (a := 0) (b := k) (by decide) (by omega)).mp k2
  omega
theorem rd_all {F n M : Nat} {f : Nat → Int32} {cs : CS} {rs : RS} (hF : 10000 ≤ F) (x : TX n f M cs rs) (b : Bas cs) (df : DFC cs) (k0 : 100 ≤ kK cs) (lt : ∀ κ, kA cs 352 9 0 = nI κ → κ = 0 ∨ κ = 37 → M < n) : ∃ c0 cap cs' rs', c_X9_init F (nO cs 10 12) (kK cs) 9 (nI n) = some c0 ∧ (10, kK cs) ∈ kE c0 ∧ c_X9_read F c0 (kK cs) = some cs' ∧ mTk F rs = some rs' ∧ kK cs' ≤ kK cs + 2600 ∧ kM cs' ≤ kM cs + 30000 ∧ EM cs cs' ∧ (∀ x j, j < kK cs → AT cs cs' x j) ∧ DFC cs' ∧ ((∃ s lf S Q oq, FR rdR rs rs' ∧ RDK n f M (kK cs) (kK cs + 1) cap (kK cs + 30) s lf S Q oq cs' rs') ∨ (PB (kK cs) (kK cs + 1) cs' rs')) := by
  obtain ⟨c0, cap, cs', rs', q0, q1, q2, q3, q4, q5, q6, q7, q8⟩ := sim_read2 (F := F) hF x b df.1 k0
  obtain ⟨c0', cap', n0, kb0, gw0, hcap, kk0, km0, nt⟩ := new_text (F := F) (n := n) (cs := cs) df.1 x.n2
  have e0 : c0' = c0 := Option.some.inj (n0.symm.trans q0)
  rw [e0] at kb0 gw0 kk0 nt
  have df0 : DFC c0 := dg_c_X9_init F (nO cs 10 12) (kK cs) 9 (nI n) c0 q0 (DG.nwO (nwO_ok df.1) df)
  have df1 : DFC cs' := dg_c_X9_read F c0 (kK cs) cs' q2 df0
  refine ⟨c0, cap, cs', rs', q0, q1, q2, q3, q4, q5, q6, q7, df1, ?_⟩
  rcases q8 with ⟨s, lf, S, Q, oq, sM, fr, g⟩ | ⟨g, -⟩
  · refine Or.inl ⟨s, lf, S, Q, oq, fr, ?_⟩
    have b0 : Bas c0 := b.gw gw0.1 (fun x i hi => gw0.2.2 x i (by omega))
    have a9 : ∀ x, AT cs c0 x 9 := fun x => gw0.2.2 x 9 (by omega)
    have x0 : TX n f M c0 rs := x.f' ⟨(a9 352).a, (a9 353).a, (a9 354).b, rfl, rfl, rfl, rfl, rfl⟩
    have sh0 : SH (kK cs) (kK cs + 1) c0 := ⟨b0, nt.o, nt.r327, nt.r322, nt.oc⟩
    have f0 : kI c0 320 (kK cs) = 0 := nt.z 320 (by decide) (by decide) (by decide) (by decide) (by decide)
    have i0 : kI c0 328 (kK cs) = nI 0 := nt.z 328 (by decide) (by decide) (by decide) (by decide) (by decide)
    obtain ⟨κ, w1, w2⟩ := read0 sh0 f0 i0 x0 kb0 (by omega) (by omega) q2 g.f0
    rw [(a9 352).a] at w1
    have Mn := lt κ w1 w2
    have zs : SZ (kK cs + 1) cs' = s := SZ.is g.cn g.s2
    have nf : NF (kK cs + 1) cs' := by
      unfold NF
      rw [g.ca.l65, zs]
      rcases g.cp with y | ⟨y1, y2⟩ <;> omega
    have iv0 : INV (kK cs + 30) (kK cs + 1) c0 := ⟨fun j ρ r hj w => absurd w (df0.nrf (by omega)), fun j ρ r j' ρ' r' hj _ w _ => absurd w (df0.nrf (by omega))⟩
    have am0 : AMI (kK cs + 30) (kK cs + 1) c0 := ⟨fun o x ho _ w => absurd w (df0.nam (by omega)), fun o o' x ho _ _ w _ => absurd w (df0.nam (by omega))⟩
    obtain ⟨-, -, -, -, d4⟩ := rb_c_X9_read (kK cs + 1) (kK cs + 30) F c0 (kK cs) cs' q2 nt.r322
    obtain ⟨-, am, iv, -, -⟩ := d4 g.f0 nf
    have wf := pf_c_X9_read F c0 (kK cs) cs' q2
    have zz : ∀ x j, pF x = false → kK c0 ≤ j → kI cs' x j = 0 := fun x j hx hj => by
      rcases (wf.2.2 x j hx).2 with w | w
      · rw [w]
        exact (df0.2 x j hj).1
      · exact w
    refine ⟨g, iv iv0, am am0, fun j j1 j2 => ⟨zz 133 j rfl (by omega), zz 206 j rfl (by omega), zz 234 j rfl (by omega)⟩, sk_c_X9_read F c0 (kK cs) cs' q2 (kK cs + 1) (fun y hy => ?_)⟩
    rw [nt.c64] at hy
    exact absurd (show y < 0 from hy) (Nat.not_lt_zero _)
  · exact Or.inr g
/-- the check, behind the reading -/
def CHD (n : Nat) (f : Nat → Int32) (M t c cap K s lf S Q oq k : Nat) (V : VT) (D : Nat → Prop) (c4 : CS) (cs : CS) (rs : RS) : Prop := (QR XJ n f M c s S Q cs rs 13 S 0 0 K k oq 0) ∧ (JDN c s V D K k cs rs 13 oq 0) ∧ (∃ b, KQ 13 0 b rs ∧ ((kI cs 133 oq = 0 ∧ b = 1) ∨ (kI cs 133 oq ≠ 0 ∧ b = 0))) ∧ (FIT n f M 0 S K k oq 0 cs rs) ∧ (TQY V s c c4 13 oq cs) ∧ (QST V c s c4 13 K k oq) ∧ (SCX V t c s k K c4) ∧ (SKV V s)
theorem CHD.qr {n : Nat} {f : Nat → Int32} {M t c cap K s lf S Q oq k : Nat} {V : VT} {D : Nat → Prop} {c4 : CS} {cs : CS} {rs : RS} (h : CHD n f M t c cap K s lf S Q oq k V D c4 cs rs) : QR XJ n f M c s S Q cs rs 13 S 0 0 K k oq 0 := h.1
theorem CHD.jd {n : Nat} {f : Nat → Int32} {M t c cap K s lf S Q oq k : Nat} {V : VT} {D : Nat → Prop} {c4 : CS} {cs : CS} {rs : RS} (h : CHD n f M t c cap K s lf S Q oq k V D c4 cs rs) : JDN c s V D K k cs rs 13 oq 0 := h.2.1
theorem CHD.kq {n : Nat} {f : Nat → Int32} {M t c cap K s lf S Q oq k : Nat} {V : VT} {D : Nat → Prop} {c4 : CS} {cs : CS} {rs : RS} (h : CHD n f M t c cap K s lf S Q oq k V D c4 cs rs) : ∃ b, KQ 13 0 b rs ∧ ((kI cs 133 oq = 0 ∧ b = 1) ∨ (kI cs 133 oq ≠ 0 ∧ b = 0)) := h.2.2.1
theorem CHD.fi {n : Nat} {f : Nat → Int32} {M t c cap K s lf S Q oq k : Nat} {V : VT} {D : Nat → Prop} {c4 : CS} {cs : CS} {rs : RS} (h : CHD n f M t c cap K s lf S Q oq k V D c4 cs rs) : FIT n f M 0 S K k oq 0 cs rs := h.2.2.2.1
theorem CHD.ty {n : Nat} {f : Nat → Int32} {M t c cap K s lf S Q oq k : Nat} {V : VT} {D : Nat → Prop} {c4 : CS} {cs : CS} {rs : RS} (h : CHD n f M t c cap K s lf S Q oq k V D c4 cs rs) : TQY V s c c4 13 oq cs := h.2.2.2.2.1
theorem CHD.qs {n : Nat} {f : Nat → Int32} {M t c cap K s lf S Q oq k : Nat} {V : VT} {D : Nat → Prop} {c4 : CS} {cs : CS} {rs : RS} (h : CHD n f M t c cap K s lf S Q oq k V D c4 cs rs) : QST V c s c4 13 K k oq := h.2.2.2.2.2.1
theorem CHD.sx {n : Nat} {f : Nat → Int32} {M t c cap K s lf S Q oq k : Nat} {V : VT} {D : Nat → Prop} {c4 : CS} {cs : CS} {rs : RS} (h : CHD n f M t c cap K s lf S Q oq k V D c4 cs rs) : SCX V t c s k K c4 := h.2.2.2.2.2.2.1
theorem CHD.sv {n : Nat} {f : Nat → Int32} {M t c cap K s lf S Q oq k : Nat} {V : VT} {D : Nat → Prop} {c4 : CS} {cs : CS} {rs : RS} (h : CHD n f M t c cap K s lf S Q oq k V D c4 cs rs) : SKV V s := h.2.2.2.2.2.2.2
theorem chk_all {F n M t c cap K s lf S Q oq ss : Nat} {f : Nat → Int32} {cs : CS} {rs : RS} (hF : 10000 ≤ F) (hFF : F < 1000000) (r : RDK n f M t c cap K s lf S Q oq cs rs) (df : DFC cs) (st : STM ss cs rs) (hK : K ≤ kK cs) (tc : t ≠ c) : ∃ c4 c5 rs5 D, c_X0_init F (nO cs 1 6) (kK cs) t 2 = some c4 ∧ (1, kK cs) ∈ kE c4 ∧ kR c4 323 t = some oq ∧ c_X0_checkQuery F 300 c4 (kK cs) oq = some c5 ∧ m_judgeQuery F 300 rs 0 = some rs5 ∧ (∀ x j, x / 32 ≠ 1 → AT cs c4 x j) ∧ c4.1 = (nO cs 1 6).1 ∧ JH n f M t c cap s (kK cs) (VW c cs rs) D c5 rs5 ∧ JK t c (kK cs) K (kK cs) 0 S c4 rs c5 rs5 ∧ CFN t c (kK cs) (fun j => K ≤ j ∧ j < kK cs) (NDO (VW c cs rs) s K (kK cs) c4) c4 c5 ∧ (rs5.1 21 = 1 → CHD n f M t c cap K s lf S Q oq (kK cs) (VW c cs rs) D c4 c5 rs5) := by
  obtain ⟨g, iv, am, z0, sk⟩ := r
  obtain ⟨tK, cK⟩ := g.tK
  have kb3 : KB (nO cs 1 6) := nO_kb df.1
  have o3 : (1, kK cs) ∈ kE (nO cs 1 6) := nO_new
  have a3 : ∀ x j, x / 32 ≠ 1 → AT cs (nO cs 1 6) x j := fun x j hx => AT.ng (by omega)
  have em3 : EM cs (nO cs 1 6) := nO_em
  obtain ⟨c3, hc3⟩ : ∃ y, y = nO cs 1 6 := ⟨_, rfl⟩
  rw [← hc3] at kb3 o3 a3 em3
  obtain ⟨c4, hc4⟩ : ∃ y, y = sR (sR (sR c3 32 (kK cs) (some t)) 33 (kK cs) (some 2)) 34 (kK cs) (some c) := ⟨_, rfl⟩
  have A4 : ∀ x j, x / 32 ≠ 1 → AT cs c4 x j := fun x j hx => by
    rw [hc4]
    exact (((a3 x j hx).trans (AT.sR (by omega))).trans (AT.sR (by omega))).trans (AT.sR (by omega))
  have em4 : EM cs c4 := by rw [hc4]; exact em3
  have o4 : (1, kK cs) ∈ kE c4 := by rw [hc4]; exact o3
  have c41 : c4.1 = c3.1 := by rw [hc4]; rfl
  have r322 : kR (sR (sR c3 32 (kK cs) (some t)) 33 (kK cs) (some 2)) 322 t = some c := by
    rw [(AT.sR (by omega)).r, (AT.sR (by omega)).r, (a3 322 t (by decide)).r]
    exact g.h.rc
  have ini : c_X0_init F c3 (kK cs) t 2 = some c4 := by
    unfold c_X0_init
    rw [pR_ok o3, ob_s, pR_ok (show (1, kK cs) ∈ kE (sR c3 32 (kK cs) (some t)) from o3), ob_s, gR_ok (show (10, t) ∈ kE (sR (sR c3 32 (kK cs) (some t)) 33 (kK cs) (some 2)) from em3 _ g.h.o), ob_s, r322, pR_ok (show (1, kK cs) ∈ kE (sR (sR c3 32 (kK cs) (some t)) 33 (kK cs) (some 2)) from o3), ob_s, hc4]
  have r323 : kR c4 323 t = some oq := by
    rw [(A4 323 t (by decide)).r]
    exact g.r323
  obtain ⟨V, hV⟩ : ∃ y, y = VW c cs rs := ⟨_, rfl⟩
  have v4 : ∀ y, y < s → VW c c4 rs y = V y := fun y _ => by
    rw [hV]
    exact congrFun (VW.eq (fun x x1 x2 => A4 x c (by omega)) (fun _ _ => ⟨rfl, rfl⟩)) y
  have s2 := g.s2
  have zs : SZ c cs = s := SZ.is g.cn s2
  have sv : SKV V s := fun y hy => by
    rw [hV]
    have w := sk y (by show y < SZ c cs; omega)
    rw [show (kI cs 64 c).toNatClampNeg = s from zs] at w
    exact w
  have cap1 : cap ≤ 120 := by rcases g.cp with y | ⟨y1, y2⟩ <;> omega
  have ck : CK t c cap s (kK cs) c4 := by
    refine ⟨o4, ?_, ?_, ?_, em4 _ g.h.o, em4 _ g.h.oc, g.ca.gw em4 (fun x x1 x2 => A4 x c (by omega)), by rw [(A4 64 c (by decide)).i]; exact g.cn, g.sc, cap1⟩
    · rw [hc4, (AT.sR (by omega)).r, (AT.sR (by omega)).r]
      exact u2_s
    · rw [hc4, (AT.sR (by omega)).r]
      exact u2_s
    · rw [hc4]
      exact u2_s
  have tk4 : TKF cs rs c4 rs := ⟨(A4 352 9 (by decide)).a, (A4 353 9 (by decide)).a, (A4 354 9 (by decide)).b, rfl, rfl, rfl, rfl, rfl⟩
  have jh : JH n f M t c cap s (kK cs) V (fun _ => False) c4 rs := ⟨ck, g.x.f' tk4, v4, by rw [(A4 324 t (by decide)).i]; exact g.u324, Or.inl ⟨by rw [(A4 320 t (by decide)).i]; exact g.f0, g.g1, fun _ w => w.elim⟩, fun _ w => w.elim⟩
  have fz : FZ c K (kK cs) 0 S 0 Q s cs rs c4 rs := ⟨⟨em4, fun x j a1 a2 hx => A4 x j (by unfold relQ at hx; omega), fun j a1 a2 => (A4 100 j (by decide)).ap, fun x hx => by rw [v4 x hx, hV], tk4⟩, fun k j a1 a2 a3 a4 a5 => rfl, fun j _ a2 => rfl⟩
  have q4 : QR X0 n f M c s S Q c4 rs 13 S 0 0 K (kK cs) oq 0 := QR.keep (Nat.le_refl _) s2 (Nat.le_refl _) (Nat.le_refl _) (Nat.le_refl _) (Nat.le_refl _) 13 S 0 0 K (kK cs) oq 0 g.qr fz (fun x w1 w2 w3 => CLM.keep w3 em4 (fun y z1 z2 => A4 y x (by omega)))
  have sr0 : SR0 cs c4 := fun j => ⟨(A4 202 j (by decide)).p, (A4 197 j (by decide)).i, (A4 201 j (by decide)).i, (A4 235 j (by decide)).r, (A4 233 j (by decide)).i, (A4 96 j (by decide)).i, (A4 97 j (by decide)).a⟩
  have zs4 : SZ c c4 = SZ c cs := by unfold SZ; rw [(A4 64 c (by decide)).i]
  have iv4 : INV K c c4 := iv.kp (by omega) (fun j ρ r _ w => sr0.rfs w) (fun y _ => by rw [(A4 67 c (by decide)).a])
  have am4 : AMI K c c4 := am.kp (by omega) (fun o x _ w => by
    obtain ⟨j, k, k1, k2, k3, k4⟩ := w
    exact ⟨j, k, k1, by rw [← (A4 203 o (by decide)).i]; exact k2, k3, by rw [← (A4 202 o (by decide)).a]; exact k4⟩) (fun y _ => by rw [(A4 65 c (by decide)).a])
  have uq : UQ K c s c4 := fun o y ho hy w => ⟨fun e => by
    have := (am4.1 o y ho (by omega) w).2
    rw [e] at this
    unfold AGC at this
    revert this
    decide, fun o' ho' w' => am4.2 o' o y ho' ho (by omega) w' w⟩
  have st4 : STM ss c4 rs := ⟨em4 _ st.e8, by rw [(A4 256 2 (by decide)).i]; exact st.c256, st.r4, st.s6, em4 _ st.e258, by rw [(A4 258 2 (by decide)).p]; exact st.p258, by rw [(A4 258 2 (by decide)).l]; exact st.l258, fun d hd => by rw [(A4 258 2 (by decide)).a]; exact st.ct d hd⟩
  have z4 : Z0 K (kK cs) c4 := fun j j1 j2 => by
    rw [(A4 133 j (by decide)).i, (A4 206 j (by decide)).i, (A4 234 j (by decide)).i]
    exact z0 j j1 j2
  have sx : SCX V t c s (kK cs) K c4 := ⟨iv4, am4, fun z hz => by
    have w := v4 z hz
    exact congrArg (fun q => q.1) w, s2, tK, cK, tc, by omega, by omega⟩
  have qst : QST V c s c4 13 K (kK cs) oq := QR.qst s2 v4 13 S 0 0 K (kK cs) oq 0 q4
  obtain ⟨c5, rs5, D, e1, e2, e3, e4, e5⟩ := jqs_all (n := n) (f := f) (M := M) (t := t) (c := c) (cap := cap) (s := s) (k := kK cs) (V := V) (ss := ss) (S := S) (Q := Q) (K := K) (F := F) hF sv s2 ⟨tK, cK⟩ 13 300 300 (by decide) (by decide) (by decide) S 0 0 K (kK cs) oq 0 (fun _ => False) c4 rs jh g.g1 st4 uq (Nat.le_refl _) (Nat.le_refl _) q4 z4
  obtain ⟨cf, ty⟩ := qry_all (cap := cap) hF hFF sv sx 13 300 K (kK cs) oq (by decide) (Nat.le_refl _) (Nat.le_refl _) qst c4 c5 ck EM.refl (fun _ _ _ => AT.refl) (fun _ _ _ _ => AT.refl) (fun _ => Or.inl AT.refl) e1
  rw [← hc3, ← hV]
  refine ⟨c4, c5, rs5, D, ini, o4, r323, e1, e2, A4, c41, e3, e4, cf, fun g5 => ?_⟩
  obtain ⟨-, p2, p3, p4, p5⟩ := e5 g5
  have f5 : kI c5 320 t = 0 := by
    rcases e3.st with ⟨w, -⟩ | ⟨-, w, -⟩
    · exact w
    · rw [g5] at w
      exact absurd w (by decide)
  exact ⟨p2, p3, p4, p5, ty f5, qst, sx, sv⟩

/-! a whole SELECT in both -/
theorem sel_g {n : Nat} {f : Nat → Int32} {M t c cap : Nat} {d z i s lf S Q F : Nat} {cs : CS} {rs : RS} {Ts Tr T T2 T3 T4 T5 : TC_X9_readQuery} {Tq T' : TG_queryOf} (hF : 10000 ≤ F) (hR0 : Ts.2.2.1 = cb_X9_readSources F Tr) (hR : Tr.2.2.2 = cb_X9_readSource F T) (hS : Tq.2.2 = b_source F T') (hQ : z < 12 → QS n f M t c cap d (z + 1) T.1 T'.1) (hT1 : T.1 = cb_X9_readQuery F T2) (hT2 : T2.2.1 = cb_X9_readSelect F T3) (hT3 : T3.2.2.1 = cb_X9_readSources F T4) (hT4 : T4.2.2.2 = cb_X9_readSource F T5) (b : BG n f M t c cap i z s lf S Q cs rs) (sm : SM t lf S cs rs) (p0 : S ≤ 13 * lf + z) (qs : Q ≤ S + 1) : ∃ cs' rs', cb_X9_readSelect F Ts cs t = some (cs', kK cs) ∧ b_selectOf F Tq rs = some (rs', nI S) ∧ SPO n f M t c cap d (kK cs) S Q s lf Q z (kR cs 330 t) (rs.1 71) cs rs (kK cs) S (kK cs + 1) cs' rs' := by
  have t0 := b.t0
  have c0 := b.c0
  have t37 := b.t37
  have c37 := b.c37
  have l3 := b.l3
  have z2 := b.z2
  have nz : ¬ (1 : Int32) = 0 := by decide
  have h60 : S < 60 := by omega
  obtain ⟨c1, it, gr, e1, kb1, gw1, eit, egr, k1, m1, ns⟩ := new_select (F := F) b.kb
  have base := fun (v L y : Int32) (hd : (L = 0 ∧ y = -1) ∨ (L = 1 ∧ y = v ∧ y ≠ -1)) => sel_base (d := d) (v := v) (L := L) (y := y) b sm p0 qs kb1 gw1 eit egr k1 m1 ns hd
  have i198 : kI c1 198 (kK cs) = 0 := ns.i198
  have o1 : (10, t) ∈ kE c1 := gw1.1 _ b.h.o
  obtain ⟨o, ho⟩ : ∃ x, x = kK cs := ⟨_, rfl⟩
  unfold cb_X9_readSelect c_X9_readSelect_b8 c_X9_readSelect_b12
  rw [gR_ok b.h.o, ob_s, nwO_ok b.kb, ob_s, e1, ob_s, pR_ok o1, ob_s]
  rw [← ho] at e1 gw1 eit egr k1 ns t0 c0 base i198 ⊢
  have aA : ∀ x j, ¬ (x = 330 ∧ j = t) → AT c1 (sR c1 330 t (some o)) x j := fun x j h => AT.sR (by omega)
  have bA : BG n f M t c cap i z s lf S Q (sR c1 330 t (some o)) rs := b.mv gw1.1 kb1 (fun x j hj => (gw1.2.2 x j (by omega)).trans (aA x j (by omega))) (fun x _ h _ _ => (gw1.2.2 x t t0).trans (aA x t (by omega))) (fun x _ _ => (gw1.2.2 x c c0).trans (aA x c (by omega))) (fun _ _ _ _ _ => rfl) (fun _ _ => ⟨rfl, rfl⟩) b.rS b.rQ
  have e6 : (6, o) ∈ kE (sR c1 330 t (some o)) := ns.e
  have kA0 : kK (sR c1 330 t (some o)) = o + 13 ∧ kM (sR c1 330 t (some o)) = kM cs + 104 := ⟨k1, m1⟩
  have j198 : kI (sR c1 330 t (some o)) 198 o = 0 := i198
  have woA : WO o it (sR c1 330 t (some o)) := by
    have w : WO o it c1 := ⟨ns.e, ns.e195, ns.p195, ns.l195, ⟨0, by omega, ns.i196⟩, ns.r194, 0, ns.ci⟩
    exact w.keep EM.refl (fun x hx => aA x o (by omega)) (fun x x1 x2 => aA x it (by omega))
  have emA : EM cs (sR c1 330 t (some o)) := gw1.1
  have cA' : ∀ x j, j < o → ¬ (x = 330 ∧ j = t) → AT cs (sR c1 330 t (some o)) x j := fun x j h1 h2 => (gw1.2.2 x j h1).trans (aA x j h2)
  obtain ⟨cA, hcA⟩ : ∃ x, x = sR c1 330 t (some o) := ⟨_, rfl⟩
  rw [← hcA] at bA base e6 kA0 j198 woA emA cA' ⊢
  rw [ckE_ok bA.h.o, ob_s]
  have nd := bA.jt.need (F := F) (x := 3) hF (by decide) (by decide)
  rw [show nI (swK 3) = 0 by decide] at nd
  rcases nd with ⟨v1, v2, v3⟩ | ⟨v2, v3⟩
  · have bB := bA.next v1
    have hh := her_ok (F := F) bB.h bB.ci bB.jt.i2
    have e6B : (6, o) ∈ kE (sI cA 328 t (nI (i + 1))) := e6
    have bC : BG n f M t c cap (i + 1) z s lf S Q (sI (sI cA 328 t (nI (i + 1))) 193 o (kA (sI cA 328 t (nI (i + 1))) 353 9 (i + 1))) (setF rs 18 (nI (i + 1))) := bB.obj (oo := o) rfl (fun x y hy => AT.sI (by omega)) ⟨by omega, t0, c0⟩
    rw [v2, ob_s, ckE_ok bB.h.o, ob_s, hh, ob_s, pI_ok e6B, ob_s, ckE_ok bC.h.o, ob_s, bsel_1 v3 bB.rS h60]
    obtain ⟨pv, hpv⟩ : ∃ x, x = kA (sI cA 328 t (nI (i + 1))) 353 9 (i + 1) := ⟨_, rfl⟩
    rw [← hpv] at bC ⊢
    have e6C : (6, o) ∈ kE (sI (sI cA 328 t (nI (i + 1))) 193 o pv) := e6
    have bI : BG n f M t c cap (i + 1) z s lf (S + 1) Q (sI (sI cA 328 t (nI (i + 1))) 193 o pv) (inS S (setF rs 18 (nI (i + 1)))) := bC.mv EM.refl bC.kb (fun _ _ _ => AT.refl) (fun _ _ _ _ _ => AT.refl) (fun _ _ _ => AT.refl) (fun k h1 h2 h3 h4 => (pk_un h3).trans (pk_un h1)) (fun k hk => ⟨funext (fun j => inS_n (by omega)), rfl⟩) (by
      show upd (upd (setF rs 18 (nI (i + 1))).1 34 (nI (S + 1))) 71 (nI S) 34 = _
      rw [pk_un (by decide), pk_us]) bC.rQ
    have bJ : ∀ y, BG n f M t c cap (i + 1) z s lf (S + 1) Q (sI (sI cA 328 t (nI (i + 1))) 193 o pv) (setI (inS S (setF rs 18 (nI (i + 1)))) 35 S y) := fun y => bI.arr rfl (fun k hk => ⟨if_neg (by omega), rfl⟩)
    obtain ⟨p, κ, hk, -, -, kd, hkl, pr⟩ := bI.jt.tok (F := F)
    have pvC : kA (sI (sI cA 328 t (nI (i + 1))) 193 o pv) 353 9 (i + 1) = pv := by rw [hpv]; rfl
    have hi2 := bI.jt.i2
    have u71 : (setF rs 18 (nI (i + 1))).1 71 = rs.1 71 := rfl
    have ri1 : (inS S (setF rs 18 (nI (i + 1)))).1 18 = nI (i + 1) := bI.ri
    rw [u71]
    have my := bI.jt.may (F := F) (x := 4) hF (by decide) (by decide)
    rw [show swK 4 = 1 by decide, show nI 1 = 1 by decide] at my
    rcases my with ⟨w1, w2, -, w4, w5⟩ | ⟨w2, -, w4, κ', w5, w6, w7⟩
    · have pvn : pv ≠ -1 := fun w => nI_pos (n := p) (by have := hk.pl; have := bI.x.n2; omega) (by rw [← hk.pc, pvC, w]; decide)
      have my2 := (bJ pv).jt.may (F := F) (x := 4) hF (by decide) (by decide)
      rw [show swK 4 = 1 by decide, show nI 1 = 1 by decide] at my2
      have tk2 : m_takeWord F (setI (inS S (setF rs 18 (nI (i + 1)))) 35 S pv) 4 = some (setF (setI (inS S (setF rs 18 (nI (i + 1)))) 35 S pv) 18 (nI (i + 1 + 1)), 1) := by
        rcases my2 with ⟨-, -, a3, -, -⟩ | ⟨-, -, -, κ2, a5, a6, a7⟩
        · exact a3
        · exact absurd ((nI_eq (a := κ2) (b := 1) (by omega) (by decide)).mp (Option.some.inj (a5.symm.trans w5))) a7
      have e6D : (6, o) ∈ kE (sI (sI (sI cA 328 t (nI (i + 1))) 193 o pv) 328 t (nI (i + 1 + 1))) := e6
      have oE : (10, t) ∈ kE (sI (sI (sI (sI cA 328 t (nI (i + 1))) 193 o pv) 328 t (nI (i + 1 + 1))) 192 o 1) := bA.h.o
      have g1 := ((((base pv 1 pv (Or.inr ⟨rfl, rfl, pvn⟩)).tok v1).tok w1).mark (v := 1)).markr (v := 1)
      rw [setF_inS] at g1
      have E : sI (sI (sI (sI cA 328 t (nI (i + 1))) 193 o pv) 328 t (nI (i + 1 + 1))) 192 o 1 = sI (sI (sI (sI cA 193 o pv) 192 o 1) 328 t (nI (i + 1))) 328 t (nI (i + 1 + 1)) := by
        rw [sI_comm (cs := cA) (a := 328) (b := 193) (by decide), sI_comm (cs := sI (sI cA 193 o pv) 328 t (nI (i + 1))) (a := 328) (b := 192) (by decide), sI_comm (cs := sI cA 193 o pv) (a := 328) (b := 192) (by decide)]
      rw [w4, w2, ob_s, ob_s, if_neg nz, ri1, rdI_n hi2 (by decide), ob_s, pr, pvC]
      unfold m_selectOf_b116
      rw [wrI_n h60 (by decide), ob_s, tk2, ob_s]
      show ∃ cs' rs', (Option.bind (ckZ 1) fun _ => Option.bind (pI (sI (sI (sI cA 328 t (nI (i + 1))) 193 o pv) 328 t (nI (i + 1 + 1))) 6 192 o 1) fun cs_41 => Option.bind (pI cs_41 10 331 t 1) fun cs_43 => c_X9_readSelect_L50 F Ts F cs_43 t (kR cs 330 t) o 1 0) = some (cs', o) ∧ _
      rw [show ckZ 1 = some 1 by decide, ob_s, pI_ok e6D, ob_s, pI_ok oE, ob_s, E]
      have q := it_L (u1 := kR cs 330 t) (u2 := rs.1 71) hF hR0 hR hS hQ hT1 hT2 hT3 hT4 F F 0 (i + 1 + 1) s _ _ (by omega) (by omega) (by decide) g1 kI_s rfl (((kI_n (by omega)).trans (kI_n (by omega))).trans (((kI_n (by omega)).trans ((kI_n (by omega)).trans (kI_n (by omega)))).trans j198))
      rw [eit] at q
      exact q
    · have my2 := (bJ (-1)).jt.may (F := F) (x := 4) hF (by decide) (by decide)
      rw [show swK 4 = 1 by decide, show nI 1 = 1 by decide] at my2
      have tk2 : m_takeWord F (setI (inS S (setF rs 18 (nI (i + 1)))) 35 S (-1)) 4 = some (setI (inS S (setF rs 18 (nI (i + 1)))) 35 S (-1), 0) := by
        rcases my2 with ⟨-, -, -, -, a5⟩ | ⟨-, a3, -, -⟩
        · exact absurd ((nI_eq (a := κ') (b := 1) (by omega) (by decide)).mp (Option.some.inj (w5.symm.trans a5))) w7
        · exact a3
      have oE : (10, t) ∈ kE (sI (sI (sI cA 328 t (nI (i + 1))) 193 o pv) 192 o 0) := bA.h.o
      have g1 := (((base pv 0 (-1) (Or.inl ⟨rfl, rfl⟩)).tok v1).mark (v := 1)).markr (v := 1)
      rw [setF_inS] at g1
      have E : sI (sI (sI cA 328 t (nI (i + 1))) 193 o pv) 192 o 0 = sI (sI (sI cA 193 o pv) 192 o 0) 328 t (nI (i + 1)) := by
        rw [sI_comm (cs := cA) (a := 328) (b := 193) (by decide), sI_comm (cs := sI cA 193 o pv) (a := 328) (b := 192) (by decide)]
      rw [w4, w2, ob_s, ob_s, if_pos rfl]
      unfold m_selectOf_b116
      rw [wrI_n h60 (by decide), ob_s, tk2, ob_s]
      show ∃ cs' rs', (Option.bind (ckZ 0) fun _ => Option.bind (pI (sI (sI cA 328 t (nI (i + 1))) 193 o pv) 6 192 o 0) fun cs_41 => Option.bind (pI cs_41 10 331 t 1) fun cs_43 => c_X9_readSelect_L50 F Ts F cs_43 t (kR cs 330 t) o 1 0) = some (cs', o) ∧ _
      rw [show ckZ 0 = some 0 by decide, ob_s, pI_ok e6C, ob_s, pI_ok oE, ob_s, E]
      have q := it_L (u1 := kR cs 330 t) (u2 := rs.1 71) hF hR0 hR hS hQ hT1 hT2 hT3 hT4 F F 0 (i + 1) s _ _ (by omega) (by omega) (by decide) g1 kI_s rfl ((kI_n (by omega)).trans (((kI_n (by omega)).trans ((kI_n (by omega)).trans (kI_n (by omega)))).trans j198))
      rw [eit] at q
      exact q
  · have pb := bA.jt.bad (a := 1) (b := kA cA 353 9 i) (by decide)
    have fo : FO (PX t c o) cA (sI (sI cA 320 t 1) 321 t (kA cA 353 9 i)) := (FO.sI (Or.inl ⟨by decide, rfl⟩)).trans (FO.sI (Or.inl ⟨by decide, rfl⟩))
    have wF := bA.ws fo pb.s
    have aF : ∀ x j, ¬ (j = t ∧ (x = 320 ∨ x = 321)) → AT cA (sI (sI cA 320 t 1) 321 t (kA cA 353 9 i)) x j := fun x j h => (AT.sI (by omega)).trans (AT.sI (by omega))
    have e6F : (6, o) ∈ kE (sI (sI cA 320 t 1) 321 t (kA cA 353 9 i)) := e6
    have qF : (sI (sI cA 320 t 1) 321 t (kA cA 353 9 i)).1 = cA.1 := rfl
    have h34 : (setF (setF (setF rs 21 0) 19 1) 20 (kA cA 353 9 i)).1 34 = nI S := b.rS
    have u71 : (setF (setF (setF rs 21 0) 19 1) 20 (kA cA 353 9 i)).1 71 = rs.1 71 := rfl
    rw [v2, ob_s, bsel_1 v3 h34 h60, u71]
    obtain ⟨cF, hcF⟩ : ∃ x, x = sI (sI cA 320 t 1) 321 t (kA cA 353 9 i) := ⟨_, rfl⟩
    obtain ⟨rF, hrF⟩ : ∃ x, x = setF (setF (setF rs 21 0) 19 1) 20 (kA cA 353 9 i) := ⟨_, rfl⟩
    rw [← hcF] at pb wF aF e6F qF ⊢
    rw [← hrF] at pb ⊢
    obtain ⟨v, hv⟩ := herf (F := F) wF.f
    have g3 : GF t o cF (sI cF 193 o v) := GF.gw (GW.sI (Nat.le_refl _))
    have w3 : WS t c cap lf (sI cF 193 o v) := wF.gf g3 wF.kb t0 c0
    have g4 : GF t o cF (sI (sI (sI cF 193 o v) 192 o 0) 331 t 1) := (g3.trans (GF.gw (GW.sI (Nat.le_refl _)))).trans (GF.text (Or.inr rfl))
    have w4 : WS t c cap lf (sI (sI (sI cF 193 o v) 192 o 0) 331 t 1) := wF.gf g4 wF.kb t0 c0
    have a4 : ∀ x j, ¬ (j = o ∧ (x = 192 ∨ x = 193)) → ¬ (j = t ∧ x = 331) → AT cF (sI (sI (sI cF 193 o v) 192 o 0) 331 t 1) x j := fun x j h1 h2 => ((AT.sI (by omega)).trans (AT.sI (by omega))).trans (AT.sI (by omega))
    have e6G : (6, o) ∈ kE (sI cF 193 o v) := e6F
    have oG : (10, t) ∈ kE (sI (sI cF 193 o v) 192 o 0) := wF.f.h.o
    have q4 : (sI (sI (sI cF 193 o v) 192 o 0) 331 t 1).1 = cF.1 := rfl
    have gI' : (inS S rF).1 21 = 0 := pb.r.g
    have ftI : FT (inS S rF) := ⟨pb.r.g, pb.r.i⟩
    have ftJ : FT (setI (inS S rF) 35 S (-1)) := ⟨pb.r.g, pb.r.i⟩
    have pbG : PB t c cF (setF (setI (inS S rF) 35 S (-1)) 72 1) := ⟨pb.s, ⟨pb.r.g, pb.r.i⟩, pb.e1, pb.e2⟩
    rw [ckE_ok wF.f.h.o, ob_s, hv, ob_s, pI_ok e6F, ob_s, ckE_ok w3.f.h.o, ob_s, acc_f w3.f (by decide), ob_s, iw_f gI', ob_s, if_pos rfl]
    unfold m_selectOf_b116
    obtain ⟨ix, j1, j2⟩ := ftJ.i
    rw [wrI_n h60 (by decide), ob_s, tw_n j1 (iw_f ftJ.g), ob_s]
    show ∃ cs' rs', (Option.bind (ckZ 0) fun _ => Option.bind (pI (sI cF 193 o v) 6 192 o 0) fun cs_41 => Option.bind (pI cs_41 10 331 t 1) fun cs_43 => c_X9_readSelect_L50 F Ts F cs_43 t (kR cs 330 t) o 1 0) = some (cs', o) ∧ m_selectOf_L133 F Tq F (setF (setI (inS S rF) 35 S (-1)) 72 1) (nI S) (rs.1 71) 1 = some (rs', nI S) ∧ _
    rw [show ckZ 0 = some 0 by decide, ob_s, pI_ok e6G, ob_s, pI_ok oG, ob_s]
    obtain ⟨cG, hcG⟩ : ∃ x, x = sI (sI (sI cF 193 o v) 192 o 0) 331 t 1 := ⟨_, rfl⟩
    rw [← hcG] at g4 w4 a4 q4 ⊢
    have emF : EM cA cF := EM.of (congrArg (fun z => z.2.2) qF)
    have emG : EM cF cG := EM.of (congrArg (fun z => z.2.2) q4)
    have kkF : kK cF = kK cA := congrArg (fun z => z.1) qF
    have kmF : kM cF = kM cA := congrArg (fun z => z.2.1) qF
    have kkG : kK cG = kK cF := congrArg (fun z => z.1) q4
    have kmG : kM cG = kM cF := congrArg (fun z => z.2.1) q4
    have woG : WO o it cG := (woA.keep emF (fun x hx => aF x o (by omega)) (fun x x1 x2 => aF x it (by omega))).keep emG (fun x hx => a4 x o (by omega) (by omega)) (fun x x1 x2 => a4 x it (by omega) (by omega))
    have fw : FW t c cap o S lf cs o it lf 2300 cG (setF (setI (inS S rF) 35 S (-1)) 72 1) := ⟨pbG.gf w4.f g4 t0, w4, woG, emA.trans (emF.trans emG), fun x j h1 h2 h3 => (cA' x j h1 (by omega)).trans ((aF x j (by omega)).trans (a4 x j (by omega) (by omega))), ⟨t0, c0, Nat.le_refl _, by omega⟩, by omega, by omega⟩
    obtain ⟨c5, x1, x2, x3, x4, x5⟩ := L50_f (F := F) (v := F - 2) (T := Ts) (u1 := kR cs 330 t) (x := 1) (w := 0) hF fw.ws fw.wo ⟨t0, c0, by omega⟩
    rw [show F - 2 + 2 = F by omega] at x1
    obtain ⟨m5, hm5⟩ := x3.ci
    have fw5 := fw.coli x4 x5 hm5
    obtain ⟨rs', y1, y2⟩ := m133_f (F := F) (v := F - 1) (T := Tq) (u1 := nI S) (u2 := rs.1 71) (u4 := 1) hF hS fw.pb.r
    rw [show F - 1 + 1 = F by omega] at y1
    obtain ⟨cs', y3, y4⟩ := b83_w (n := n) (f := f) (M := M) (d := d) (Q0 := Q) (s0 := s) (ql := Q) (z := z) (e := S) (u1 := kR cs 330 t) (u2 := rs.1 71) (rs0 := rs) hF hR0 hR fw5 (by omega) y2
    rw [eit] at y4
    refine ⟨cs', rs', ?_, y1, y4⟩
    rw [x1]
    exact y3

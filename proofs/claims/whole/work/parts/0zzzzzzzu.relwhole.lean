/-! the reference: sets, a QUERY whole, its SOURCES -/
theorem sets_L {F q w nq M : Nat} {T : TG_workQuery} {sel : Nat → LL} {op c k : Nat → Nat} {rs : RS} (hF : 10000 ≤ F) (hq : q < 60) (h8 : w ≤ 8) (hnq : nq ≤ 5) (r60 : rs.2.2.1 60 q = nI nq) (sl : ∀ i, i < nq → ∃ e, rs.2.2.1 61 (5 * q + i) = nI e ∧ SLR T rs e w (c i) (k i) (sel i)) (so : ∀ i, 1 ≤ i → i < nq → rs.2.2.1 62 (5 * q + i) = nI (op i) ∧ 1 ≤ op i ∧ op i ≤ 4) (hS : ∀ i, i < nq → smL sel i ≤ M) (hM : M ≤ 600) : ∀ (d i u r b U N : Nat) (X : RS), nq = i + 1 + d → d < u → FR rS rs X → LVR U N w r b (stL sel op i) X → (stL sel op i).length ≤ smL sel i → U + csm (fun j => c j + M * 8) i d + 100 ≤ 400000 → N + csm (fun j => k j + 1) i d < 400 → ∃ X' r' b' U' N' u', m_workQuery_L15 F T u X (nI q) (nI r) (nI (i + 1)) = m_workQuery_L15 F T (u' + 1) X' (nI q) (nI r') (nI nq) ∧ LVR U' N' w r' b' (stL sel op (i + d)) X' ∧ RO U N X X' ∧ U ≤ U' ∧ U' ≤ U + csm (fun j => c j + M * 8) i d ∧ N ≤ N' ∧ N' ≤ N + csm (fun j => k j + 1) i d ∧ (stL sel op (i + d)).length ≤ smL sel (i + d) := by
  intro d
  induction d with
  | zero =>
    intro i u r b U N X d1 d2 fr lv ln hU hN
    obtain ⟨u, rfl⟩ : ∃ z, u = z + 1 := ⟨u - 1, by omega⟩
    exact ⟨X, r, b, U, N, u, by rw [show i + 1 = nq by omega], lv, RO.refl, Nat.le_refl _, Nat.le_refl _, Nat.le_refl _, Nat.le_refl _, ln⟩
  | succ d ih =>
    intro i u r b U N X d1 d2 fr lv ln hU hN
    obtain ⟨u, rfl⟩ : ∃ z, u = z + 1 := ⟨u - 1, by omega⟩
    have hU' : U + (c (i + 1) + M * 8 + csm (fun j => c j + M * 8) (i + 1) d) + 100 ≤ 400000 := hU
    have hN' : N + (k (i + 1) + 1 + csm (fun j => k j + 1) (i + 1) d) < 400 := hN
    obtain ⟨e, s1, s2⟩ := sl (i + 1) (by omega)
    obtain ⟨o1, o2, o3⟩ := so (i + 1) (by omega) (by omega)
    obtain ⟨X1, r2, b2, U1, N1, e1, e2, e3, e4, e5, e6, e7⟩ := s2 X U N fr lv.z97 lv.st (by omega) (by omega)
    have lv1 := lv.ro e3 e2.st e2.z97 e4 e6
    have fr1 := fr.trans e3.fr
    have sM : smL sel i + (sel (i + 1)).length ≤ M := hS (i + 1) (by omega)
    have mw : ((stL sel op i).length + (sel (i + 1)).length) * w ≤ M * 8 := Nat.mul_le_mul (by omega) h8
    obtain ⟨X2, a1, a2⟩ := set_ok (F := F) (what := op (i + 1)) (M := (stL sel op i).length + (sel (i + 1)).length) hF (by omega) ⟨lv1.rr, e2.rr⟩ (by omega) lv1.bb e2.bb (Nat.le_refl _) (by omega) (by omega) ⟨o2, o3⟩ e2.st lv1.rl e2.rl
    rw [lv1.rw', e2.rw'] at a2
    have ln2 : (stL sel op (i + 1)).length ≤ (stL sel op i).length + (sel (i + 1)).length := a2.len
    have rs2 := a2.res e2.z97
    have l2 : (stL sel op (i + 1)).length * w ≤ M * 8 := Nat.le_trans (Nat.mul_le_mul_right _ ln2) mw
    have lv2 : LVR (U1 + (stL sel op (i + 1)).length * w) (N1 + 1) w N1 U1 (stL sel op (i + 1)) X2 := rs2.lv
    obtain ⟨X', r', b', U', N', u', g1, g2, g3, g4, g5, g6, g7, g8⟩ := ih (i + 1) u N1 U1 _ (N1 + 1) X2 (by omega) (by omega) (fr1.trans rs2.ro.fr) lv2 (show _ ≤ smL sel i + (sel (i + 1)).length by omega) (by omega) (by omega)
    refine ⟨X', r', b', U', N', u', ?_, by rw [show i + (d + 1) = i + 1 + d by omega]; exact g2, (e3.trans rs2.ro e4 e6).trans g3 (by omega) (by omega), by omega, ?_, by omega, ?_, by rw [show i + (d + 1) = i + 1 + d by omega]; exact g8⟩
    · rw [m_workQuery_L15, rdI_n hq (by decide), ob_s, fr.a (k := 60) (by unfold rS; omega), r60, if_neg (nI_ge (by omega) (by omega)), nI_5, nI_add, rdI_n (by omega) (by decide), ob_s, fr.a (k := 61) (by unfold rS; omega), s1, e1, ob_s]
      show (Option.bind (rdI (X1.2.2.1 62) 300 (nI (5 * q + (i + 1)))) fun v_8 => Option.bind (m_setOf F X1 v_8 (nI r) (nI r2)) fun z_9 => (m_workQuery_L15 F T u) z_9.1 (nI q) z_9.2 (nI (i + 1) + 1)) = _
      rw [rdI_n (by omega) (by decide), ob_s, fr1.a (k := 62) (by unfold rS; omega), o1, a1, ob_s, nI_1]
      exact g1
    · show U' ≤ U + (c (i + 1) + M * 8 + csm (fun j => c j + M * 8) (i + 1) d)
      omega
    · show N' ≤ N + (k (i + 1) + 1 + csm (fun j => k j + 1) (i + 1) d)
      omega
theorem wqry_o {F q w nq M : Nat} {od : ODT} {T : TG_workQuery} {sel : Nat → LL} {op c k : Nat → Nat} {rs : RS} (hF : 10000 ≤ F) (hq : q < 60) (h8 : w ≤ 8) (hnq : nq + 1 ≤ 5) (r60 : rs.2.2.1 60 q = nI (nq + 1)) (sl : ∀ i, i < nq + 1 → ∃ e, rs.2.2.1 61 (5 * q + i) = nI e ∧ SLR T rs e w (c i) (k i) (sel i)) (so : ∀ i, 1 ≤ i → i < nq + 1 → rs.2.2.1 62 (5 * q + i) = nI (op i) ∧ 1 ≤ op i ∧ op i ≤ 4) (om : ODM F q w od rs) (hS : ∀ i, i < nq + 1 → smL sel i ≤ M) (hM : M ≤ 600) {X : RS} {U N : Nat} (fr : FR rS rs X) (z97 : X.1 97 = 0) (st : RST U N X) (hU : U + (c 0 + csm (fun j => c j + M * 8) 0 nq + odc od M) + 100 ≤ 400000) (hN : N + (k 0 + csm (fun j => k j + 1) 0 nq + 2) < 400) : OUTC U N w (c 0 + csm (fun j => c j + M * 8) 0 nq + odc od M) (k 0 + csm (fun j => k j + 1) 0 nq + 2) (odL od (stL sel op nq)) X (b_workQuery F T X (nI q)) := by
  obtain ⟨e, s1, s2⟩ := sl 0 (by omega)
  obtain ⟨X1, r, b, U1, N1, e1, e2, e3, e4, e5, e6, e7⟩ := s2 X U N fr z97 st (by omega) (by omega)
  obtain ⟨X', r', b', U', N', u', g1, g2, g3, g4, g5, g6, g7, g8⟩ := sets_L (F := F) (T := T) (op := op) hF hq h8 hnq r60 sl so hS hM nq 0 F r b U1 N1 X1 (by omega) (by omega) (fr.trans e3.fr) e2 (Nat.le_refl _) (by omega) (by omega)
  rw [Nat.zero_add] at g2 g8
  have sM := hS nq (by omega)
  have fr' := (fr.trans e3.fr).trans g3.fr
  have oo := ord_o (T := T) (M := M) hF hq h8 om fr' (by omega) hM (by omega) (by omega) g2
  have eq : b_workQuery F T X (nI q) = m_workQuery_L15 F T F X1 (nI q) (nI r) (nI (0 + 1)) := by
    unfold b_workQuery
    rw [nI_5, rdI_n (by omega) (by decide), ob_s, fr.a (k := 61) (by unfold rS; omega), show rs.2.2.1 61 (5 * q) = nI e from s1, e1, ob_s]
    rfl
  rw [eq, g1, m_workQuery_L15, rdI_n hq (by decide), ob_s, fr'.a (k := 60) (by unfold rS; omega), r60, if_pos (nI_le (Nat.le_refl _) (by omega))]
  exact OUTC.next (e3.trans g3 e4 e6) (by omega) (by omega) oo (by omega) (by omega)
theorem leafL_eq {o s n : Nat} {a b : RS} (fr : FR rS a b) : leafL b o s n = leafL a o s n := by
  unfold leafL strow strc isin
  rw [fr.a (k := 6) (by unfold rS; omega), fr.a (k := 51) (by unfold rS; omega), fr.a (k := 9) (by unfold rS; omega), fr.l (k := 7) (by unfold rS; omega), fr.l (k := 8) (by unfold rS; omega), fr.l (k := 52) (by unfold rS; omega), fr.1.resolve_left (by unfold rS; omega)]
theorem wleaf_o {F o s n : Nat} {T : TG_workQuery} {rs : RS} (hF : 10000 ≤ F) (ho : o < 180) (hs : s < 6) (hn : n ≤ 4) (f9 : ∀ i, rs.2.2.1 9 i = 0 ∨ rs.2.2.1 9 i = 1) (r49 : rs.2.2.1 49 o = nI s) (r5 : rs.2.2.1 5 s = nI n) {X : RS} {U N : Nat} (fr : FR rS rs X) (z97 : X.1 97 = 0) (st : RST U N X) (hU : U + 8 * (n + 1) + 100 ≤ 400000) (hN : N + 1 < 400) : OUTC U N (n + 1) (8 * (n + 1)) 1 (leafL rs o s n) X (b_workSource F T X (nI o)) ∧ (leafL rs o s n).length ≤ 8 := by
  obtain ⟨X1, e1, e2⟩ := leaf_ok (F := F) (T := T) hF ho hs hn (by omega) (by omega) (fun i => by rw [fr.a (k := 9) (by unfold rS; omega)]; exact f9 i) (by rw [fr.a (k := 49) (by unfold rS; omega)]; exact r49) (by rw [fr.a (k := 5) (by unfold rS; omega)]; exact r5) st
  rw [leafL_eq fr] at e2
  have r := e2.res z97
  have ln : (leafL rs o s n).length ≤ 8 := e2.len
  have q : (leafL rs o s n).length * (n + 1) ≤ 8 * (n + 1) := Nat.mul_le_mul_right _ ln
  rw [e1]
  exact ⟨OUTC.next r.ro (by omega) (by omega) (OUTC.here (C := 0) (k := 0) r.lv) (by omega) (by omega), ln⟩
theorem winn_o {F o q w C k : Nat} {T : TG_workQuery} {rows : LL} {rs : RS} (ho : o < 180) (r49 : rs.2.2.1 49 o = -1) (r53 : rs.2.2.1 53 o = nI q) (qy : QYR T rs q w C k rows) {X : RS} {U N : Nat} (fr : FR rS rs X) (z97 : X.1 97 = 0) (st : RST U N X) (hU : U + C + 100 ≤ 400000) (hN : N + k < 400) : OUTC U N w C k rows X (b_workSource F T X (nI o)) := by
  obtain ⟨X1, r, b, U1, N1, e1, e2⟩ := qy X U N fr z97 st hU hN
  refine ⟨X1, r, b, U1, N1, ?_, e2⟩
  unfold b_workSource
  rw [rdI_n ho (by decide), ob_s, fr.a (k := 49) (by unfold rS; omega), r49, if_pos rfl, rdI_n ho (by decide), ob_s, fr.a (k := 53) (by unfold rS; omega), r53, e1, ob_s]

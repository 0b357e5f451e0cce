/-! the reference: where, having, items, distinct -/
theorem b112_o {F U N r b e W mi ng : Nat} {gr gb di : Bool} {wh hp : OVF} {pv kv : Nat → List OV → OV} {hv : OGF} {gv : Nat → List OV → LL → OV} {T : TG_workQuery} {A : LL} {rs X : RS} (sm : SLM F e W mi gr gb di ng wh hp pv kv hv gv rs) (hF : 10000 ≤ F) (fr : FR rS rs X) (hN : N + 2 < 400) (hm : A.length ≤ 600) (hU : U + 3 * ((A.length + 1) * 8) + 100 ≤ 400000) (lv : LVR U N W r b A X) : OUTC U N mi (3 * ((A.length + 1) * 8)) 3 (if di = true then (if gr = true then grpL gb ng mi kv hv gv A else A.map (fun L => (List.range mi).map (fun j => pv j L))).foldl stpO [] else (if gr = true then grpL gb ng mi kv hv gv A else A.map (fun L => (List.range mi).map (fun j => pv j L)))) X (m_workSelect_b112 F T X (nI e) (nI r)) := by
  have he := sm.he
  have h8 := sm.h8
  have ra : ∀ q, ¬ rS q → X.2.2.1 q = rs.2.2.1 q := fun q hq => fr.a hq
  have ig := mis_grouped (F := F) (rs := X) he (show X.2.2.1 40 e = rs.2.2.1 40 e by rw [ra 40 (by unfold rS; omega)]) (show X.2.2.1 42 e = rs.2.2.1 42 e by rw [ra 42 (by unfold rS; omega)])
  rw [sm.isg] at ig
  unfold m_workSelect_b112
  rw [ig, ob_s]
  have q0 : A.length * mi ≤ A.length * 8 := Nat.mul_le_mul_left _ h8
  have q1 : (A.length + 1) * 8 = A.length * 8 + 8 := Nat.succ_mul _ _
  cases gr with
  | false =>
    obtain ⟨-, p2⟩ := sm.pl rfl
    rw [if_neg (show ¬ false = true by decide), if_neg (show ¬ false = true by decide), if_pos rfl]
    obtain ⟨X1, e1, e2⟩ := plain_ok (F := F) (val := pv) hF he lv.rr (by omega) lv.bb (by omega) h8 (by omega) (by rw [ra 36 (by unfold rS; omega)]; exact sm.r36) (fun j hj => by
      obtain ⟨rt, z1, z2⟩ := p2 j hj
      exact ⟨rt, by rw [ra 44 (by unfold rS; omega)]; exact z1, z2.fr fr⟩) lv.z97 lv.st lv.rl
    rw [lv.rw'] at e2
    have rs' := e2.res lv.z97
    rw [e1, ob_s]
    have ln : (A.map (fun L => (List.range mi).map (fun j => pv j L))).length = A.length := List.length_map ..
    have oo := onc_o (F := F) (T := T) (di := di) hF he h8 (fr.trans rs'.ro.fr) (by omega) (by rw [ln]; omega) (by rw [ln]; omega) sm.r35 rs'.lv
    rw [ln] at oo
    exact OUTC.next rs'.ro (by omega) (by omega) oo (by omega) (by omega)
  | true =>
    obtain ⟨p1, p2, p3, p4, p5, p6⟩ := sm.gp rfl
    rw [if_pos rfl, if_pos rfl, if_neg (show ¬ (1 : Int32) = 0 by decide)]
    have q2 : A.length * ng ≤ A.length * 8 := Nat.mul_le_mul_left _ p2
    have q3 : (A.length + 1) * mi ≤ (A.length + 1) * 8 := Nat.mul_le_mul_left _ h8
    obtain ⟨X1, U1, e1, e2, e3, e4⟩ := grp_ok (F := F) (gb := gb) (kv := kv) (hv := hv) (val := gv) hF he lv.rr (by omega) lv.bb hm p2 h8 (by omega) (by rw [ra 39 (by unfold rS; omega)]; exact p1) (by rw [ra 36 (by unfold rS; omega)]; exact sm.r36) (by rw [ra 40 (by unfold rS; omega)]; exact p3) (fun j hj => by
      obtain ⟨rt, z1, z2⟩ := p4 j hj
      exact ⟨rt, by rw [ra 47 (by unfold rS; omega)]; exact z1, z2.fr fr⟩) (fun j hj => by
      obtain ⟨rt, z1, z2⟩ := p5 j hj
      exact ⟨rt, by rw [ra 44 (by unfold rS; omega)]; exact z1, z2.fr fr⟩) (by rw [ra 41 (by unfold rS; omega)]; exact p6.fr fr) lv.z97 lv.st lv.rl
    rw [lv.rw'] at e3 e4
    rw [e1, ob_s]
    obtain ⟨R, hR⟩ : ∃ z, z = grpL gb ng mi kv hv gv A := ⟨_, rfl⟩
    rw [← hR] at e3 e4 ⊢
    have q4 : R.length * mi ≤ (A.length + 1) * 8 := Nat.mul_le_mul e3 h8
    have uu := e4.uu
    have oo := onc_o (F := F) (T := T) (di := di) hF he h8 (fr.trans e4.ro.fr) (by omega) (by omega) (by omega) sm.r35 e4.lv
    exact OUTC.next e4.ro e4.uu e4.nn oo (by omega) (by omega)
theorem b82_o {F U N r b e W mi ng : Nat} {gr gb di : Bool} {wh hp : OVF} {pv kv : Nat → List OV → OV} {hv : OGF} {gv : Nat → List OV → LL → OV} {T : TG_workQuery} {A : LL} {rs X : RS} (sm : SLM F e W mi gr gb di ng wh hp pv kv hv gv rs) (hF : 10000 ≤ F) (fr : FR rS rs X) (hN : N + 3 < 400) (hm : A.length ≤ 600) (hU : U + A.length * W + 3 * ((A.length + 1) * 8) + 100 ≤ 400000) (lv : LVR U N W r b A X) : OUTC U N mi (A.length * W + 3 * ((A.length + 1) * 8)) 4 (if di = true then (if gr = true then grpL gb ng mi kv hv gv A else (optF hp A).map (fun L => (List.range mi).map (fun j => pv j L))).foldl stpO [] else (if gr = true then grpL gb ng mi kv hv gv A else (optF hp A).map (fun L => (List.range mi).map (fun j => pv j L)))) X (m_workSelect_b82 F T X (nI e) (nI r)) := by
  have he := sm.he
  have h8 := sm.h8
  have ra : ∀ q, ¬ rS q → X.2.2.1 q = rs.2.2.1 q := fun q hq => fr.a hq
  have ig := mis_grouped (F := F) (rs := X) he (show X.2.2.1 40 e = rs.2.2.1 40 e by rw [ra 40 (by unfold rS; omega)]) (show X.2.2.1 42 e = rs.2.2.1 42 e by rw [ra 42 (by unfold rS; omega)])
  rw [sm.isg] at ig
  unfold m_workSelect_b82
  rw [ig, ob_s]
  cases gr with
  | true =>
    have oo := b112_o (T := T) sm hF fr (by omega) hm (by omega) lv
    rw [if_pos rfl] at oo
    rw [if_pos rfl, if_pos rfl, if_neg (show ¬ (1 : Int32) = 0 by decide)]
    exact OUTC.next RO.refl (Nat.le_refl _) (Nat.le_refl _) oo (by omega) (by omega)
  | false =>
    obtain ⟨p1, p2⟩ := sm.pl rfl
    rw [if_neg (show ¬ false = true by decide), if_neg (show ¬ false = true by decide), if_pos rfl, rdI_n he (by decide), ob_s, ra 41 (by unfold rS; omega), ob_s]
    cases hp with
    | none =>
      have oo := b112_o (T := T) sm hF fr (by omega) hm (by omega) lv
      rw [if_neg (show ¬ false = true by decide)] at oo
      rw [if_pos (show rs.2.2.1 41 e = -1 from p1)]
      exact OUTC.next RO.refl (Nat.le_refl _) (Nat.le_refl _) oo (by omega) (by omega)
    | some g =>
      obtain ⟨rt, y1, y2, y3⟩ : ∃ rt, rs.2.2.1 41 e = nI rt ∧ rt < 120 ∧ EXV F W rt g rs := p1
      rw [y1, if_neg (nI_nm1 (by omega))]
      obtain ⟨X1, e1, e2⟩ := filt_ok (F := F) (val := g) hF sm.hW lv.rr (by omega) lv.bb (by omega) (by omega) (y3.fr fr) lv.z97 lv.st lv.rl
      rw [lv.rw'] at e2
      have rs' := e2.res lv.z97
      have ln : (A.filter (fun L => tr1 (g L) == 1)).length ≤ A.length := List.length_filter_le _ _
      obtain ⟨R, hR⟩ : ∃ z, z = A.filter (fun L => tr1 (g L) == 1) := ⟨_, rfl⟩
      show OUTC U N mi _ 4 (if di = true then ((A.filter (fun L => tr1 (g L) == 1)).map (fun L => (List.range mi).map (fun j => pv j L))).foldl stpO [] else ((A.filter (fun L => tr1 (g L) == 1)).map (fun L => (List.range mi).map (fun j => pv j L)))) X _
      rw [← hR] at rs' ln ⊢
      have q1 : R.length * W ≤ A.length * W := Nat.mul_le_mul_right W ln
      rw [e1, ob_s]
      have oo := b112_o (T := T) sm hF (fr.trans rs'.ro.fr) (by omega) (by omega) (by omega) rs'.lv
      rw [if_neg (show ¬ false = true by decide)] at oo
      exact OUTC.next rs'.ro (by omega) (by omega) oo (by omega) (by omega)
theorem selT_o {F U N r b e W mi ng ns u : Nat} {gr gb di : Bool} {wh hp : OVF} {pv kv : Nat → List OV → OV} {hv : OGF} {gv : Nat → List OV → LL → OV} {T : TG_workQuery} {A : LL} {rs X : RS} (sm : SLM F e W mi gr gb di ng wh hp pv kv hv gv rs) (hF : 10000 ≤ F) (fr : FR rS rs X) (hn : ns < 1000) (r37 : rs.2.2.1 37 e = nI ns) (hN : N + 4 < 400) (hm : A.length ≤ 600) (hU : U + 2 * (A.length * W) + 3 * ((A.length + 1) * 8) + 100 ≤ 400000) (lv : LVR U N W r b A X) : OUTC U N mi (2 * (A.length * W) + 3 * ((A.length + 1) * 8)) 5 (selR mi gr gb di ng wh hp pv kv hv gv A) X (m_workSelect_L10 F T (u + 1) X (nI e) (nI r) (nI ns)) := by
  have he := sm.he
  have ra : ∀ q, ¬ rS q → X.2.2.1 q = rs.2.2.1 q := fun q hq => fr.a hq
  have s97 : setF X 97 0 = X := by
    have q := sF_self (rs := X) (k := 97)
    rw [lv.z97] at q
    exact q
  rw [m_workSelect_L10, rdI_n he (by decide), ob_s, ra 37 (by unfold rS; omega), r37, if_pos (nI_le (Nat.le_refl _) (by omega)), s97, rdI_n he (by decide), ob_s, ra 38 (by unfold rS; omega), ob_s]
  have p1 := sm.wh'
  cases wh with
  | none =>
    rw [if_pos (show rs.2.2.1 38 e = -1 from p1)]
    have oo := b82_o (T := T) sm hF fr (by omega) hm (by omega) lv
    exact OUTC.next RO.refl (Nat.le_refl _) (Nat.le_refl _) oo (by omega) (by omega)
  | some g =>
    obtain ⟨rt, y1, y2, y3⟩ : ∃ rt, rs.2.2.1 38 e = nI rt ∧ rt < 120 ∧ EXV F W rt g rs := p1
    rw [y1, if_neg (nI_nm1 (by omega))]
    obtain ⟨X1, e1, e2⟩ := filt_ok (F := F) (val := g) hF sm.hW lv.rr (by omega) lv.bb (by omega) (by omega) (y3.fr fr) lv.z97 lv.st lv.rl
    rw [lv.rw'] at e2
    have rs' := e2.res lv.z97
    have ln : (A.filter (fun L => tr1 (g L) == 1)).length ≤ A.length := List.length_filter_le _ _
    have q1 : (A.filter (fun L => tr1 (g L) == 1)).length * W ≤ A.length * W := Nat.mul_le_mul_right W ln
    rw [e1, ob_s]
    have oo := b82_o (T := T) sm hF (fr.trans rs'.ro.fr) (by omega) (by omega) (by omega) rs'.lv
    exact OUTC.next rs'.ro (by omega) (by omega) oo (by omega) (by omega)

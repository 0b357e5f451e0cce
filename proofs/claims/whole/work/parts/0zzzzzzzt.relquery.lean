/-! the reference: a SELECT whole, a QUERY whole -/
def SLR (T : TG_workQuery) (rs : RS) (e w C k : Nat) (rows : LL) : Prop := ∀ (X : RS) (U N : Nat), FR rS rs X → X.1 97 = 0 → RST U N X → U + C + 100 ≤ 400000 → N + k < 400 → OUTC U N w C k rows X (T.2.1 X (nI e))
def QYR (T : TG_workQuery) (rs : RS) (q w C k : Nat) (rows : LL) : Prop := ∀ (X : RS) (U N : Nat), FR rS rs X → X.1 97 = 0 → RST U N X → U + C + 100 ≤ 400000 → N + k < 400 → OUTC U N w C k rows X (T.1 X (nI q))
theorem wsel_o {F e ns M Wd mi ng : Nat} {gr gb di : Bool} {wh hp : OVF} {pv kv : Nat → List OV → OV} {hv : OGF} {gv : Nat → List OV → LL → OV} {T : TG_workQuery} {src : Nat → LL} {ou : Nat → Bool} {on : Nat → List OV → OV} {w c k : Nat → Nat} {rs : RS} (hF : 10000 ≤ F) (hns : ns + 1 ≤ 3) (sm : SLM F e (wid w ns) mi gr gb di ng wh hp pv kv hv gv rs) (r37 : rs.2.2.1 37 e = nI (ns + 1)) (sr : ∀ i, i < ns + 1 → SRM T rs (3 * e + i) (w i) (c i) (k i) (src i)) (jn : ∀ i, 1 ≤ i → i < ns + 1 → ∃ rt, rs.2.2.1 58 (3 * e + i) = nI rt ∧ (ou i = true ↔ rs.2.2.1 56 (3 * e + i) ≠ 0) ∧ EXV F (wid w i) rt (on i) rs) (hw : ∀ i, i < ns + 1 → wid w i ≤ Wd) (hWd : Wd ≤ 100) (hP : ∀ i, i < ns + 1 → prd src i ≤ M) (hM : M ≤ 600) {X : RS} {U N : Nat} (fr : FR rS rs X) (z97 : X.1 97 = 0) (st : RST U N X) (hU : U + (c 0 + csm (fun j => c j + M * Wd) 0 ns + 2 * (M * Wd) + 3 * ((M + 1) * 8)) + 100 ≤ 400000) (hN : N + (k 0 + csm (fun j => k j + 1) 0 ns + 5) < 400) : OUTC U N mi (c 0 + csm (fun j => c j + M * Wd) 0 ns + 2 * (M * Wd) + 3 * ((M + 1) * 8)) (k 0 + csm (fun j => k j + 1) 0 ns + 5) (selR mi gr gb di ng wh hp pv kv hv gv (jnL src ou on w ns)) X (b_workSelect F T X (nI e)) := by
  have he := sm.he
  obtain ⟨X1, r, b, U1, N1, e1, e2, e3, e4, e5, e6, e7⟩ := sr 0 (by omega) X U N fr z97 st (by omega) (by omega)
  obtain ⟨X', r', b', U', N', u', g1, g2, g3, g4, g5, g6, g7, g8⟩ := srcs_L (F := F) (T := T) (ou := ou) (on := on) hF he hns r37 sr jn hw hWd hP hM ns 0 F r b U1 N1 X1 (by omega) (by omega) (fr.trans e3.fr) e2 (one1_le _).1 (by omega) (by omega)
  rw [Nat.zero_add] at g2 g8
  have pM := hP ns (by omega)
  have q1 : (jnL src ou on w ns).length * wid w ns ≤ M * Wd := Nat.mul_le_mul (by omega) (hw ns (by omega))
  have q2 : ((jnL src ou on w ns).length + 1) * 8 ≤ (M + 1) * 8 := Nat.mul_le_mul_right 8 (by omega)
  have oo := selT_o (T := T) (ns := ns + 1) (u := u') sm hF ((fr.trans e3.fr).trans g3.fr) (by omega) r37 (by omega) (by omega) (by omega) g2
  rw [← g1] at oo
  have eq : b_workSelect F T X (nI e) = m_workSelect_L10 F T F X1 (nI e) (nI r) (nI (0 + 1)) := by
    unfold b_workSelect
    rw [nI_3, show 3 * e = 3 * e + 0 from rfl, e1, ob_s]
    rfl
  rw [eq]
  exact OUTC.next (e3.trans g3 e4 e6) (by omega) (by omega) oo (by omega) (by omega)
/-- SELECTS put together from the left -/
def stL (sel : Nat → LL) (op : Nat → Nat) : Nat → LL
  | 0 => sel 0
  | i + 1 => setS (op (i + 1)) (stL sel op i) (sel (i + 1))
def smL (sel : Nat → LL) : Nat → Nat
  | 0 => (sel 0).length
  | i + 1 => smL sel i + (sel (i + 1)).length
abbrev ODT : Type := Option (Nat × (Nat → Int32) × (Nat → List OV → OV) × Nat)
def ODM (F q w : Nat) (od : ODT) (rs : RS) : Prop := match od with
  | none => rs.2.2.1 65 q = -1
  | some (n, dn, val, lim) => rs.2.2.1 65 q ≠ -1 ∧ n ≤ 8 ∧ lim ≤ 100 ∧ rs.2.2.1 64 q = nI n ∧ (∀ t, t < n → rs.2.2.1 67 (8 * q + t) = dn t) ∧ rs.2.2.1 68 q = nI lim ∧ ∀ j, j < n → ∃ rt, rs.2.2.1 66 (8 * q + j) = nI rt ∧ EXV F w rt (val j) rs
def odL (od : ODT) (A : LL) : LL := match od with
  | none => A
  | some (n, dn, val, lim) => ordL n dn val lim A
/-- what the order costs -/
def odc (od : ODT) (M : Nat) : Nat := match od with
  | none => 0
  | some _ => 2 * (M * 8)
theorem ord_o {F U N q w r b M : Nat} {od : ODT} {T : TG_workQuery} {A : LL} {rs X : RS} (hF : 10000 ≤ F) (hq : q < 60) (h8 : w ≤ 8) (om : ODM F q w od rs) (fr : FR rS rs X) (hA : A.length ≤ M) (hM : M ≤ 600) (hU : U + odc od M + 100 ≤ 400000) (hN : N + 2 < 400) (lv : LVR U N w r b A X) : OUTC U N w (odc od M) 2 (odL od A) X (Option.bind (rdI (X.2.2.1 65) 60 (nI q)) fun v_3 => if v_3 = (-1) then (m_workQuery_b85 F T X (nI r)) else (Option.bind (m_ordered F X (nI q) (nI r)) fun z_5 => m_workQuery_b85 F T z_5.1 z_5.2)) := by
  have ra : ∀ q, ¬ rS q → X.2.2.1 q = rs.2.2.1 q := fun q hq => fr.a hq
  rw [rdI_n hq (by decide), ob_s, ra 65 (by unfold rS; omega)]
  cases od with
  | none =>
    rw [if_pos (show rs.2.2.1 65 q = -1 from om)]
    exact OUTC.here lv
  | some z =>
    obtain ⟨n, dn, val, lim⟩ := z
    have oc : odc (some (n, dn, val, lim)) M = 2 * (M * 8) := rfl
    rw [oc] at hU ⊢
    obtain ⟨p1, p2, p3, p4, p5, p6, p7⟩ : rs.2.2.1 65 q ≠ -1 ∧ n ≤ 8 ∧ lim ≤ 100 ∧ rs.2.2.1 64 q = nI n ∧ (∀ t, t < n → rs.2.2.1 67 (8 * q + t) = dn t) ∧ rs.2.2.1 68 q = nI lim ∧ ∀ j, j < n → ∃ rt, rs.2.2.1 66 (8 * q + j) = nI rt ∧ EXV F w rt (val j) rs := om
    rw [if_neg p1]
    have q1 : A.length * n ≤ M * 8 := Nat.mul_le_mul hA p2
    have q2 : A.length * w ≤ M * 8 := Nat.mul_le_mul hA h8
    obtain ⟨X1, e1, e2⟩ := ord_ok (F := F) (dn := dn) (val := val) (lim := lim) hF hq p2 (by omega) (by omega) (by omega) lv.rr (by omega) lv.bb (by omega) (by rw [ra 64 (by unfold rS; omega)]; exact p4) (fun t ht => by rw [ra 67 (by unfold rS; omega)]; exact p5 t ht) (by rw [ra 68 (by unfold rS; omega)]; exact p6) (fun j hj => by
      obtain ⟨rt, z1, z2⟩ := p7 j hj
      exact ⟨rt, by rw [ra 66 (by unfold rS; omega)]; exact z1, z2.fr fr⟩) lv.z97 lv.st lv.rl
    rw [lv.rw'] at e2
    have ln : (ordL n dn val lim A).length ≤ A.length := by
      unfold ordL
      refine Nat.le_trans (List.length_take_le' ..) ?_
      rw [(srt_perm A).length_eq]
      exact Nat.le_refl _
    have q3 : (ordL n dn val lim A).length * w ≤ M * 8 := Nat.mul_le_mul (by omega) h8
    rw [e1, ob_s]
    exact OUTC.next e2.ro e2.uu e2.nn (OUTC.here (C := 0) (k := 0) e2.lv) (by omega) (by omega)

/-! the reference: the SOURCES of a SELECT joined -/
/-- a SOURCE's run: its rows, what it may use -/
def SRM (T : TG_workQuery) (rs : RS) (o w C k : Nat) (rows : LL) : Prop := ∀ (X : RS) (U N : Nat), FR rS rs X → X.1 97 = 0 → RST U N X → U + C + 100 ≤ 400000 → N + k < 400 → OUTC U N w C k rows X (T.2.2 X (nI o))
def wid (w : Nat → Nat) : Nat → Nat
  | 0 => w 0
  | i + 1 => wid w i + w (i + 1)
def jnL (src : Nat → LL) (ou : Nat → Bool) (on : Nat → List OV → OV) (w : Nat → Nat) : Nat → LL
  | 0 => src 0
  | i + 1 => (jnL src ou on w i).flatMap (fun x => joX (ou (i + 1)) (on (i + 1)) (w (i + 1)) x (src (i + 1)))
def one1 (n : Nat) : Nat := if n = 0 then 1 else n
theorem one1_le (n : Nat) : n ≤ one1 n ∧ 1 ≤ one1 n := by
  unfold one1
  by_cases h : n = 0
  · rw [if_pos h]; omega
  · rw [if_neg h]; omega
def prd (src : Nat → LL) : Nat → Nat
  | 0 => one1 (src 0).length
  | i + 1 => prd src i * one1 (src (i + 1)).length
def csm (c : Nat → Nat) : Nat → Nat → Nat
  | _, 0 => 0
  | i, d + 1 => c (i + 1) + csm c (i + 1) d
theorem LVR.ro {U N w r b U1 N1 : Nat} {rows : LL} {X Y : RS} (h : LVR U N w r b rows X) (g : RO U N X Y) (st : RST U1 N1 Y) (z97 : Y.1 97 = 0) (hu : U ≤ U1) (hn : N ≤ N1) : LVR U1 N1 w r b rows Y := by
  have rr := h.rr
  have bb := h.bb
  refine ⟨st, by omega, by omega, ⟨h.rl.r4, ?_, ?_, ?_⟩, ?_, z97⟩
  · rw [g.rl 88 r (by decide) (by decide) rr]; exact h.rl.b
  · rw [g.rl 89 r (by decide) (by decide) rr]; exact h.rl.m
  · rw [g.rl 90 r (by decide) (by decide) rr]; exact h.rl.w
  · exact (rows_eq g.ce bb).trans h.rw'
theorem srcs_L {F e ns M Wd : Nat} {T : TG_workQuery} {src : Nat → LL} {ou : Nat → Bool} {on : Nat → List OV → OV} {w c k : Nat → Nat} {rs : RS} (hF : 10000 ≤ F) (he : e < 60) (hns : ns ≤ 3) (r37 : rs.2.2.1 37 e = nI ns) (sr : ∀ i, i < ns → SRM T rs (3 * e + i) (w i) (c i) (k i) (src i)) (jn : ∀ i, 1 ≤ i → i < ns → ∃ rt, rs.2.2.1 58 (3 * e + i) = nI rt ∧ (ou i = true ↔ rs.2.2.1 56 (3 * e + i) ≠ 0) ∧ EXV F (wid w i) rt (on i) rs) (hw : ∀ i, i < ns → wid w i ≤ Wd) (hWd : Wd ≤ 100) (hP : ∀ i, i < ns → prd src i ≤ M) (hM : M ≤ 600) : ∀ (d i u r b U N : Nat) (X : RS), ns = i + 1 + d → d < u → FR rS rs X → LVR U N (wid w i) r b (jnL src ou on w i) X → (jnL src ou on w i).length ≤ prd src i → U + csm (fun j => c j + M * Wd) i d + 100 ≤ 400000 → N + csm (fun j => k j + 1) i d < 400 → ∃ X' r' b' U' N' u', m_workSelect_L10 F T u X (nI e) (nI r) (nI (i + 1)) = m_workSelect_L10 F T (u' + 1) X' (nI e) (nI r') (nI ns) ∧ LVR U' N' (wid w (i + d)) r' b' (jnL src ou on w (i + d)) X' ∧ RO U N X X' ∧ U ≤ U' ∧ U' ≤ U + csm (fun j => c j + M * Wd) i d ∧ N ≤ N' ∧ N' ≤ N + csm (fun j => k j + 1) i d ∧ (jnL src ou on w (i + d)).length ≤ prd src (i + d) := by
  intro d
  induction d with
  | zero =>
    intro i u r b U N X d1 d2 fr lv ln hU hN
    obtain ⟨u, rfl⟩ : ∃ z, u = z + 1 := ⟨u - 1, by omega⟩
    exact ⟨X, r, b, U, N, u, by rw [show i + 1 = ns by omega], lv, RO.refl, Nat.le_refl _, Nat.le_refl _, Nat.le_refl _, Nat.le_refl _, ln⟩
  | succ d ih =>
    intro i u r b U N X d1 d2 fr lv ln hU hN
    obtain ⟨u, rfl⟩ : ∃ z, u = z + 1 := ⟨u - 1, by omega⟩
    have hU' : U + (c (i + 1) + M * Wd + csm (fun j => c j + M * Wd) (i + 1) d) + 100 ≤ 400000 := hU
    have hN' : N + (k (i + 1) + 1 + csm (fun j => k j + 1) (i + 1) d) < 400 := hN
    obtain ⟨X1, r2, b2, U1, N1, e1, e2, e3, e4, e5, e6, e7⟩ := sr (i + 1) (by omega) X U N fr lv.z97 lv.st (by omega) (by omega)
    have lv1 := lv.ro e3 e2.st e2.z97 e4 e6
    have s97 : setF X1 97 0 = X1 := by
      have q := sF_self (rs := X1) (k := 97)
      rw [e2.z97] at q
      exact q
    obtain ⟨rt, j1, j2, j3⟩ := jn (i + 1) (by omega) (by omega)
    have fr1 := fr.trans e3.fr
    have ow := one1_le (src (i + 1)).length
    have pm : (jnL src ou on w i).length * one1 (src (i + 1)).length ≤ M := Nat.le_trans (Nat.mul_le_mul_right _ ln) (hP (i + 1) (by omega))
    have lm : (jnL src ou on w i).length ≤ M := by
      have q : (jnL src ou on w i).length * 1 ≤ (jnL src ou on w i).length * one1 (src (i + 1)).length := Nat.mul_le_mul_left _ ow.2
      omega
    have pw : (jnL src ou on w i).length * one1 (src (i + 1)).length * (wid w i + w (i + 1)) ≤ M * Wd := Nat.mul_le_mul pm (hw (i + 1) (by omega))
    have hwi : wid w i + w (i + 1) ≤ Wd := hw (i + 1) (by omega)
    obtain ⟨X2, a1, a2⟩ := join_ok (F := F) (n := wid w i) (m := w (i + 1)) (o := 3 * e + (i + 1)) (q := one1 (src (i + 1)).length) (ou := ou (i + 1)) (val := on (i + 1)) hF (by omega) ⟨lv1.rr, e2.rr⟩ (by omega) lv1.bb e2.bb ow (by omega) (by omega) (by omega) (by omega) (by rw [fr1.a (k := 58) (by unfold rS; omega)]; exact j1) (by rw [fr1.a (k := 56) (by unfold rS; omega)]; exact j2) (j3.fr fr1) e2.z97 e2.st lv1.rl e2.rl
    rw [lv1.rw', e2.rw'] at a2
    have ln2 : (jnL src ou on w (i + 1)).length ≤ (jnL src ou on w i).length * one1 (src (i + 1)).length := a2.len
    have rs2 := a2.res e2.z97
    have l2 : (jnL src ou on w (i + 1)).length * (wid w i + w (i + 1)) ≤ M * Wd := Nat.le_trans (Nat.mul_le_mul_right _ ln2) pw
    have lv2 : LVR (U1 + (jnL src ou on w (i + 1)).length * (wid w i + w (i + 1))) (N1 + 1) (wid w (i + 1)) N1 U1 (jnL src ou on w (i + 1)) X2 := rs2.lv
    obtain ⟨X', r', b', U', N', u', g1, g2, g3, g4, g5, g6, g7, g8⟩ := ih (i + 1) u N1 U1 _ (N1 + 1) X2 (by omega) (by omega) (fr1.trans rs2.ro.fr) lv2 (Nat.le_trans ln2 (Nat.mul_le_mul_right _ ln)) (by omega) (by omega)
    refine ⟨X', r', b', U', N', u', ?_, by rw [show i + (d + 1) = i + 1 + d by omega]; exact g2, (e3.trans rs2.ro e4 e6).trans g3 (by omega) (by omega), by omega, ?_, by omega, ?_, by rw [show i + (d + 1) = i + 1 + d by omega]; exact g8⟩
    · rw [m_workSelect_L10, rdI_n he (by decide), ob_s, fr.a (k := 37) (by unfold rS; omega), r37, if_neg (nI_ge (by omega) (by omega)), show (3 : Int32) * nI e = nI (3 * e) by rw [show (3 : Int32) = nI 3 from rfl, pk_mul], nI_add, e1, ob_s]
      show (Option.bind (m_join F (setF X1 97 0) (nI r) (nI r2) (nI (3 * e + (i + 1)))) fun z_21 => (m_workSelect_L10 F T u) z_21.1 (nI e) z_21.2 (nI (i + 1) + 1)) = _
      rw [s97, a1, ob_s, nI_1]
      exact g1
    · show U' ≤ U + (c (i + 1) + M * Wd + csm (fun j => c j + M * Wd) (i + 1) d)
      omega
    · show N' ≤ N + (k (i + 1) + 1 + csm (fun j => k j + 1) (i + 1) d)
      omega
theorem selR_len {mi ng : Nat} {gr gb di : Bool} {wh hp : OVF} {pv kv : Nat → List OV → OV} {hv : OGF} {gv : Nat → List OV → LL → OV} {A : LL} : (selR mi gr gb di ng wh hp pv kv hv gv A).length ≤ one1 A.length := by
  have ow := one1_le A.length
  have w1 := optF_len (f := wh) (A := A)
  have w2 := optF_len (f := hp) (A := optF wh A)
  have w3 := grpL_len (gb := gb) (ng := ng) (mi := mi) (kv := kv) (hv := hv) (val := gv) (A := optF wh A)
  have body : (if gr = true then grpL gb ng mi kv hv gv (optF wh A) else (optF hp (optF wh A)).map (fun L => (List.range mi).map (fun j => pv j L))).length ≤ one1 A.length := by
    cases gr with
    | true => rw [if_pos rfl]; omega
    | false => rw [if_neg (by decide), List.length_map]; omega
  unfold selR
  cases di with
  | true =>
    rw [if_pos rfl]
    refine Nat.le_trans (fold_len _ []) ?_
    have e : ([] : LL).length = 0 := rfl
    omega
  | false => rw [if_neg (by decide)]; exact body

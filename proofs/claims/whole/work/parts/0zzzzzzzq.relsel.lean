/-! the reference: a SELECT behind its SOURCES -/
/-- a relation that stands -/
def LVR (U N w r b : Nat) (rows : LL) (X : RS) : Prop := (RST U N X) ∧ (r < N) ∧ (b + rows.length * w ≤ U) ∧ (RLN X r b w rows.length) ∧ (rowsL X b w rows.length = rows) ∧ (X.1 97 = 0)
theorem LVR.st {U N w r b : Nat} {rows : LL} {X : RS} (h : LVR U N w r b rows X) : RST U N X := h.1
theorem LVR.rr {U N w r b : Nat} {rows : LL} {X : RS} (h : LVR U N w r b rows X) : r < N := h.2.1
theorem LVR.bb {U N w r b : Nat} {rows : LL} {X : RS} (h : LVR U N w r b rows X) : b + rows.length * w ≤ U := h.2.2.1
theorem LVR.rl {U N w r b : Nat} {rows : LL} {X : RS} (h : LVR U N w r b rows X) : RLN X r b w rows.length := h.2.2.2.1
theorem LVR.rw' {U N w r b : Nat} {rows : LL} {X : RS} (h : LVR U N w r b rows X) : rowsL X b w rows.length = rows := h.2.2.2.2.1
theorem LVR.z97 {U N w r b : Nat} {rows : LL} {X : RS} (h : LVR U N w r b rows X) : X.1 97 = 0 := h.2.2.2.2.2
theorem RES.lv {U N w r b U' N' : Nat} {rows : LL} {rs rs' : RS} (h : RES U N w r b rows U' N' rs rs') : LVR U' N' w r b rows rs' := ⟨h.st, h.rr, h.bb, h.rl, h.rw', h.z97⟩
/-- what a run of the reference comes to: at most C cells and k relations more -/
def OUTC (U N w C k : Nat) (rows : LL) (X : RS) (res : Option (RS × Int32)) : Prop := ∃ X' r b U' N', res = some (X', nI r) ∧ LVR U' N' w r b rows X' ∧ RO U N X X' ∧ U ≤ U' ∧ U' ≤ U + C ∧ N ≤ N' ∧ N' ≤ N + k
theorem OUTC.here {U N w r b C k : Nat} {rows : LL} {X : RS} (h : LVR U N w r b rows X) : OUTC U N w C k rows X (some (X, nI r)) := ⟨X, r, b, U, N, rfl, h, RO.refl, Nat.le_refl _, by omega, Nat.le_refl _, by omega⟩
theorem OUTC.next {U N U1 N1 w C k C2 k2 : Nat} {rows : LL} {X X1 : RS} {res : Option (RS × Int32)} (ro : RO U N X X1) (hu : U ≤ U1) (hn : N ≤ N1) (h : OUTC U1 N1 w C2 k2 rows X1 res) (hc : U1 + C2 ≤ U + C) (hk : N1 + k2 ≤ N + k) : OUTC U N w C k rows X res := by
  obtain ⟨X', r, b, U', N', h1, h2, h3, h4, h5, h6, h7⟩ := h
  exact ⟨X', r, b, U', N', h1, h2, ro.trans h3 hu hn, by omega, by omega, by omega, by omega⟩
theorem fold_len : ∀ (l acc : LL), (l.foldl stpO acc).length ≤ acc.length + l.length
  | [], acc => Nat.le_refl _
  | x :: xs, acc => by
    have h := fold_len xs (stpO acc x)
    have h2 : (stpO acc x).length ≤ acc.length + 1 := by
      unfold stpO
      by_cases q : x ∈ acc
      · rw [if_pos q]; omega
      · rw [if_neg q, List.length_append]; exact Nat.le_refl _
    show (xs.foldl stpO (stpO acc x)).length ≤ acc.length + (xs.length + 1)
    omega
theorem grpL_len {gb : Bool} {ng mi : Nat} {kv : Nat → List OV → OV} {hv : Option (List OV → LL → OV)} {val : Nat → List OV → LL → OV} {A : LL} : (grpL gb ng mi kv hv val A).length ≤ A.length ∨ (grpL gb ng mi kv hv val A).length ≤ 1 := by
  unfold grpL
  rw [List.length_map]
  cases gb with
  | true =>
    left
    rw [if_pos rfl]
    refine Nat.le_trans (List.length_filter_le _ _) ?_
    have := fold_len (A.map (gkey ng kv)) []
    rw [List.length_map] at this
    have e : ([] : LL).length = 0 := rfl
    omega
  | false =>
    right
    rw [if_neg (by decide)]
    exact List.length_filter_le _ _
/-- a condition that may be there -/
def OPF (F w : Nat) (v : Int32) (f : Option (List OV → OV)) (rs : RS) : Prop := match f with
  | none => v = -1
  | some g => ∃ rt, v = nI rt ∧ rt < 120 ∧ EXV F w rt g rs
def optF (f : Option (List OV → OV)) (A : LL) : LL := match f with
  | none => A
  | some g => A.filter (fun L => tr1 (g L) == 1)
theorem optF_len {f : Option (List OV → OV)} {A : LL} : (optF f A).length ≤ A.length := by
  cases f with
  | none => exact Nat.le_refl _
  | some g => exact List.length_filter_le _ _
theorem onc_o {F U N mi r b e : Nat} {T : TG_workQuery} {di : Bool} {R : LL} {rs X : RS} (hF : 10000 ≤ F) (he : e < 60) (h8 : mi ≤ 8) (fr : FR rS rs X) (hN : N < 400) (hm : R.length < 5000) (hU : U + R.length * mi ≤ 400000) (r35 : di = true ↔ rs.2.2.1 35 e ≠ -1) (lv : LVR U N mi r b R X) : OUTC U N mi (R.length * mi) 1 (if di = true then R.foldl stpO [] else R) X (m_workSelect_b135 F T X (nI e) (nI r)) := by
  unfold m_workSelect_b135
  rw [rdI_n he (by decide), ob_s, fr.a (k := 35) (by unfold rS; omega)]
  by_cases z : di = true
  · rw [if_pos z, if_neg (r35.mp z)]
    obtain ⟨X1, e1, e2⟩ := once_ok (F := F) hF (by omega) lv.rr hN lv.bb hU hm lv.st lv.rl
    rw [lv.rw'] at e2
    have rs' := e2.res lv.z97
    have ln : (R.foldl stpO []).length * mi ≤ R.length * mi := Nat.mul_le_mul_right mi (by have := fold_len R []; have e : ([] : LL).length = 0 := rfl; omega)
    rw [e1, ob_s]
    exact OUTC.next rs'.ro (by omega) (by omega) (OUTC.here (C := 0) (k := 0) rs'.lv) (by omega) (by omega)
  · rw [if_neg z, if_pos (Classical.not_not.mp (fun w => z (r35.mpr w)))]
    exact OUTC.here lv
abbrev OVF : Type := Option (List OV → OV)
abbrev OGF : Type := Option (List OV → LL → OV)
/-- how a SELECT's rows are made of those of its SOURCES -/
def SLM (F e W mi : Nat) (gr gb di : Bool) (ng : Nat) (wh hp : OVF) (pv kv : Nat → List OV → OV) (hv : OGF) (gv : Nat → List OV → LL → OV) (rs : RS) : Prop := (e < 60) ∧ (W ≤ 100) ∧ (mi ≤ 8) ∧ (rs.2.2.1 36 e = nI mi) ∧ (OPF F W (rs.2.2.1 38 e) wh rs) ∧ ((if rs.2.2.1 40 e = -1 then (if rs.2.2.1 42 e ≤ 0 then (0 : Int32) else 1) else 1) = (if gr = true then 1 else 0)) ∧ (gr = false → OPF F W (rs.2.2.1 41 e) hp rs ∧ ∀ j, j < mi → ∃ rt, rs.2.2.1 44 (8 * e + j) = nI rt ∧ EXV F W rt (pv j) rs) ∧ (gr = true → rs.2.2.1 39 e = nI ng ∧ ng ≤ 8 ∧ ((gb = true ∧ rs.2.2.1 40 e ≠ -1) ∨ (gb = false ∧ rs.2.2.1 40 e = -1 ∧ ng = 0)) ∧ (∀ j, j < ng → ∃ rt, rs.2.2.1 47 (8 * e + j) = nI rt ∧ EXV F W rt (kv j) rs) ∧ (∀ j, j < mi → ∃ rt, rs.2.2.1 44 (8 * e + j) = nI rt ∧ EXG F W ng rt (gv j) rs) ∧ HVX F W ng (rs.2.2.1 41 e) hv rs) ∧ (di = true ↔ rs.2.2.1 35 e ≠ -1)
theorem SLM.he {F e W mi : Nat} {gr gb di : Bool} {ng : Nat} {wh hp : OVF} {pv kv : Nat → List OV → OV} {hv : OGF} {gv : Nat → List OV → LL → OV} {rs : RS} (h : SLM F e W mi gr gb di ng wh hp pv kv hv gv rs) : e < 60 := h.1
theorem SLM.hW {F e W mi : Nat} {gr gb di : Bool} {ng : Nat} {wh hp : OVF} {pv kv : Nat → List OV → OV} {hv : OGF} {gv : Nat → List OV → LL → OV} {rs : RS} (h : SLM F e W mi gr gb di ng wh hp pv kv hv gv rs) : W ≤ 100 := h.2.1
theorem SLM.h8 {F e W mi : Nat} {gr gb di : Bool} {ng : Nat} {wh hp : OVF} {pv kv : Nat → List OV → OV} {hv : OGF} {gv : Nat → List OV → LL → OV} {rs : RS} (h : SLM F e W mi gr gb di ng wh hp pv kv hv gv rs) : mi ≤ 8 := h.2.2.1
theorem SLM.r36 {F e W mi : Nat} {gr gb di : Bool} {ng : Nat} {wh hp : OVF} {pv kv : Nat → List OV → OV} {hv : OGF} {gv : Nat → List OV → LL → OV} {rs : RS} (h : SLM F e W mi gr gb di ng wh hp pv kv hv gv rs) : rs.2.2.1 36 e = nI mi := h.2.2.2.1
theorem SLM.wh' {F e W mi : Nat} {gr gb di : Bool} {ng : Nat} {wh hp : OVF} {pv kv : Nat → List OV → OV} {hv : OGF} {gv : Nat → List OV → LL → OV} {rs : RS} (h : SLM F e W mi gr gb di ng wh hp pv kv hv gv rs) : OPF F W (rs.2.2.1 38 e) wh rs := h.2.2.2.2.1
theorem SLM.isg {F e W mi : Nat} {gr gb di : Bool} {ng : Nat} {wh hp : OVF} {pv kv : Nat → List OV → OV} {hv : OGF} {gv : Nat → List OV → LL → OV} {rs : RS} (h : SLM F e W mi gr gb di ng wh hp pv kv hv gv rs) : (if rs.2.2.1 40 e = -1 then (if rs.2.2.1 42 e ≤ 0 then (0 : Int32) else 1) else 1) = (if gr = true then 1 else 0) := h.2.2.2.2.2.1
theorem SLM.pl {F e W mi : Nat} {gr gb di : Bool} {ng : Nat} {wh hp : OVF} {pv kv : Nat → List OV → OV} {hv : OGF} {gv : Nat → List OV → LL → OV} {rs : RS} (h : SLM F e W mi gr gb di ng wh hp pv kv hv gv rs) : gr = false → OPF F W (rs.2.2.1 41 e) hp rs ∧ ∀ j, j < mi → ∃ rt, rs.2.2.1 44 (8 * e + j) = nI rt ∧ EXV F W rt (pv j) rs := h.2.2.2.2.2.2.1
theorem SLM.gp {F e W mi : Nat} {gr gb di : Bool} {ng : Nat} {wh hp : OVF} {pv kv : Nat → List OV → OV} {hv : OGF} {gv : Nat → List OV → LL → OV} {rs : RS} (h : SLM F e W mi gr gb di ng wh hp pv kv hv gv rs) : gr = true → rs.2.2.1 39 e = nI ng ∧ ng ≤ 8 ∧ ((gb = true ∧ rs.2.2.1 40 e ≠ -1) ∨ (gb = false ∧ rs.2.2.1 40 e = -1 ∧ ng = 0)) ∧ (∀ j, j < ng → ∃ rt, rs.2.2.1 47 (8 * e + j) = nI rt ∧ EXV F W rt (kv j) rs) ∧ (∀ j, j < mi → ∃ rt, rs.2.2.1 44 (8 * e + j) = nI rt ∧ EXG F W ng rt (gv j) rs) ∧ HVX F W ng (rs.2.2.1 41 e) hv rs := h.2.2.2.2.2.2.2.1
theorem SLM.r35 {F e W mi : Nat} {gr gb di : Bool} {ng : Nat} {wh hp : OVF} {pv kv : Nat → List OV → OV} {hv : OGF} {gv : Nat → List OV → LL → OV} {rs : RS} (h : SLM F e W mi gr gb di ng wh hp pv kv hv gv rs) : di = true ↔ rs.2.2.1 35 e ≠ -1 := h.2.2.2.2.2.2.2.2
def selR (mi : Nat) (gr gb di : Bool) (ng : Nat) (wh hp : Option (List OV → OV)) (pv kv : Nat → List OV → OV) (hv : Option (List OV → LL → OV)) (gv : Nat → List OV → LL → OV) (A : LL) : LL := if di = true then (if gr = true then grpL gb ng mi kv hv gv (optF wh A) else (optF hp (optF wh A)).map (fun L => (List.range mi).map (fun j => pv j L))).foldl stpO [] else (if gr = true then grpL gb ng mi kv hv gv (optF wh A) else (optF hp (optF wh A)).map (fun L => (List.range mi).map (fun j => pv j L)))
theorem OPF.fr {F w : Nat} {v : Int32} {f : Option (List OV → OV)} {a b : RS} (h : OPF F w v f a) (g : FR rS a b) : OPF F w v f b := by
  cases f with
  | none => exact h
  | some g' =>
    obtain ⟨rt, y1, y2, y3⟩ : ∃ rt, v = nI rt ∧ rt < 120 ∧ EXV F w rt g' a := h
    exact ⟨rt, y1, y2, y3.fr g⟩
theorem HVX.fr {F w ng : Nat} {v : Int32} {hv : Option (List OV → LL → OV)} {a b : RS} (h : HVX F w ng v hv a) (g : FR rS a b) : HVX F w ng v hv b := by
  cases hv with
  | none => exact h
  | some g' =>
    obtain ⟨rt, y1, y2, y3⟩ : ∃ rt, v = nI rt ∧ rt < 120 ∧ EXG F w ng rt g' a := h
    exact ⟨rt, y1, y2, y3.fr g⟩

/-! every EXPR, by how deep it may still go -/
theorem tf1 {F t c k : Nat} {x : CS} (hF : 10000 ≤ F) (hk : 8 ≤ k) (hx : FS t c x) : ∃ b, (tabc_X9_readExpr F k).1 x t = some (x, b) := by
  obtain ⟨j, rfl⟩ : ∃ j, k = j + 8 := ⟨k - 8, by omega⟩
  obtain ⟨u, hu⟩ : ∃ u, F = u + 1 := ⟨F - 1, by omega⟩
  exact ⟨_, (cf_tab hx hu j).2.2.2.2.2.2.2⟩
theorem tf5 {F t c k : Nat} {x : CS} (hF : 10000 ≤ F) (hk : 4 ≤ k) (hx : FS t c x) : (tabc_X9_readExpr F k).2.2.2.2.1 x t = some x := by
  obtain ⟨j, rfl⟩ : ∃ j, k = j + 4 := ⟨k - 4, by omega⟩
  obtain ⟨u, hu⟩ : ∃ u, F = u + 1 := ⟨F - 1, by omega⟩
  exact (cf_tab hx hu j).2.2.2.1
theorem rf5 {F k : Nat} {r : RS} (hF : 10000 ≤ F) (hk : 4 ≤ k) (hr : FT r) : (tab_expr F k).2.2.2.2.1 r = some (r, 0) := by
  obtain ⟨j, rfl⟩ : ∃ j, k = j + 4 := ⟨k - 4, by omega⟩
  obtain ⟨u, hu⟩ : ∃ u, F = u + 1 := ⟨F - 1, by omega⟩
  exact (mf_tab hr hu j).2.2.2
theorem ns_tab {n : Nat} {f : Nat → Int32} {M t c cap q sel : Nat} {ma : Bool} {F z k : Nat} (hF : 10000 ≤ F) (hk : 5 ≤ k) : NS n f M t c cap q sel ma F z (tabc_X9_readExpr F k).2.2.2.2.1 := by
  obtain ⟨j, rfl⟩ : ∃ j, k = j + 1 + 1 + 1 + 1 + 1 := ⟨k - 5, by omega⟩
  obtain ⟨u, hu⟩ : ∃ u, F = u + 1 := ⟨F - 1, by omega⟩
  intro i s cs rs hg p κ hk' hb
  have h1 : (tabc_X9_readExpr F (j + 1 + 1)).2.2.2.2.2.2.2.1 cs t = some (sI (sI cs 320 t 1) 321 t (kA cs 353 9 i)) := cn_one (T := tabc_X9_readExpr F (j + 1)) (T2 := tabc_X9_readExpr F j) rfl hg hk' hb
  have h2 : (tabc_X9_readExpr F (j + 1 + 1 + 1)).2.2.2.2.2.2.1 cs t = some (sI (sI cs 320 t 1) 321 t (kA cs 353 9 i)) := cn_sign (T := tabc_X9_readExpr F (j + 1 + 1)) hg hk' hb h1
  have h3 : (tabc_X9_readExpr F (j + 1 + 1 + 1 + 1)).2.2.2.2.2.1 cs t = some (sI (sI cs 320 t 1) 321 t (kA cs 353 9 i)) := cn_part (T := tabc_X9_readExpr F (j + 1 + 1 + 1)) hu hg h2
  exact cn_sum (T := tabc_X9_readExpr F (j + 1 + 1 + 1 + 1)) hu hg h3
def AX (n : Nat) (f : Nat → Int32) (M t c cap sel F z : Nat) : Prop := (∀ q ma k k', 12 * (13 - z) + 2 ≤ k → 12 * (13 - z) + 2 ≤ k' → SE n f M t c cap q sel ma z (tabc_X9_readExpr F k).2.2.2.2.2.2.2.1 (tab_expr F k').2.2.2.2.2.2.2.1) ∧ (∀ q ma k k', 12 * (13 - z) + 3 ≤ k → 12 * (13 - z) + 3 ≤ k' → SE n f M t c cap q sel ma z (tabc_X9_readExpr F k).2.2.2.2.2.2.1 (tab_expr F k').2.2.2.2.2.2.1) ∧ (∀ q ma k k', 12 * (13 - z) + 4 ≤ k → 12 * (13 - z) + 4 ≤ k' → SE n f M t c cap q sel ma z (tabc_X9_readExpr F k).2.2.2.2.2.1 (tab_expr F k').2.2.2.2.2.1) ∧ (∀ q ma k k', 12 * (13 - z) + 5 ≤ k → 12 * (13 - z) + 5 ≤ k' → SE n f M t c cap q sel ma z (tabc_X9_readExpr F k).2.2.2.2.1 (tab_expr F k').2.2.2.2.1) ∧ (∀ q ma k k', 12 * (13 - z) + 7 ≤ k → 12 * (13 - z) + 7 ≤ k' → SE n f M t c cap q sel ma z (tabc_X9_readExpr F k).2.2.2.1 (tab_expr F k').2.2.2.1) ∧ (∀ q ma k k', 12 * (13 - z) + 8 ≤ k → 12 * (13 - z) + 8 ≤ k' → SE n f M t c cap q sel ma z (tabc_X9_readExpr F k).2.2.1 (tab_expr F k').2.2.1) ∧ (∀ q ma k k', 12 * (13 - z) + 9 ≤ k → 12 * (13 - z) + 9 ≤ k' → SE n f M t c cap q sel ma z (tabc_X9_readExpr F k).2.1 (tab_expr F k').2.1) ∧ (∀ q ma k k', 12 * (13 - z) + 10 ≤ k → 12 * (13 - z) + 10 ≤ k' → SX n f M t c cap q sel ma z (tabc_X9_readExpr F k).1 (tab_expr F k').1)
theorem AX.on {n : Nat} {f : Nat → Int32} {M t c cap sel F z : Nat} (h : AX n f M t c cap sel F z) : ∀ q ma k k', 12 * (13 - z) + 2 ≤ k → 12 * (13 - z) + 2 ≤ k' → SE n f M t c cap q sel ma z (tabc_X9_readExpr F k).2.2.2.2.2.2.2.1 (tab_expr F k').2.2.2.2.2.2.2.1 := h.1
theorem AX.sg {n : Nat} {f : Nat → Int32} {M t c cap sel F z : Nat} (h : AX n f M t c cap sel F z) : ∀ q ma k k', 12 * (13 - z) + 3 ≤ k → 12 * (13 - z) + 3 ≤ k' → SE n f M t c cap q sel ma z (tabc_X9_readExpr F k).2.2.2.2.2.2.1 (tab_expr F k').2.2.2.2.2.2.1 := h.2.1
theorem AX.pa {n : Nat} {f : Nat → Int32} {M t c cap sel F z : Nat} (h : AX n f M t c cap sel F z) : ∀ q ma k k', 12 * (13 - z) + 4 ≤ k → 12 * (13 - z) + 4 ≤ k' → SE n f M t c cap q sel ma z (tabc_X9_readExpr F k).2.2.2.2.2.1 (tab_expr F k').2.2.2.2.2.1 := h.2.2.1
theorem AX.su {n : Nat} {f : Nat → Int32} {M t c cap sel F z : Nat} (h : AX n f M t c cap sel F z) : ∀ q ma k k', 12 * (13 - z) + 5 ≤ k → 12 * (13 - z) + 5 ≤ k' → SE n f M t c cap q sel ma z (tabc_X9_readExpr F k).2.2.2.2.1 (tab_expr F k').2.2.2.2.1 := h.2.2.2.1
theorem AX.te {n : Nat} {f : Nat → Int32} {M t c cap sel F z : Nat} (h : AX n f M t c cap sel F z) : ∀ q ma k k', 12 * (13 - z) + 7 ≤ k → 12 * (13 - z) + 7 ≤ k' → SE n f M t c cap q sel ma z (tabc_X9_readExpr F k).2.2.2.1 (tab_expr F k').2.2.2.1 := h.2.2.2.2.1
theorem AX.ne {n : Nat} {f : Nat → Int32} {M t c cap sel F z : Nat} (h : AX n f M t c cap sel F z) : ∀ q ma k k', 12 * (13 - z) + 8 ≤ k → 12 * (13 - z) + 8 ≤ k' → SE n f M t c cap q sel ma z (tabc_X9_readExpr F k).2.2.1 (tab_expr F k').2.2.1 := h.2.2.2.2.2.1
theorem AX.co {n : Nat} {f : Nat → Int32} {M t c cap sel F z : Nat} (h : AX n f M t c cap sel F z) : ∀ q ma k k', 12 * (13 - z) + 9 ≤ k → 12 * (13 - z) + 9 ≤ k' → SE n f M t c cap q sel ma z (tabc_X9_readExpr F k).2.1 (tab_expr F k').2.1 := h.2.2.2.2.2.2.1
theorem AX.ex {n : Nat} {f : Nat → Int32} {M t c cap sel F z : Nat} (h : AX n f M t c cap sel F z) : ∀ q ma k k', 12 * (13 - z) + 10 ≤ k → 12 * (13 - z) + 10 ≤ k' → SX n f M t c cap q sel ma z (tabc_X9_readExpr F k).1 (tab_expr F k').1 := h.2.2.2.2.2.2.2
theorem ax_step {n : Nat} {f : Nat → Int32} {M t c cap sel F z : Nat} (hF : 10000 ≤ F) (hz : z ≤ 12) (ih : z < 12 → AX n f M t c cap sel F (z + 1)) : AX n f M t c cap sel F z := by
  have h1 : ∀ q ma k k', 12 * (13 - z) + 2 ≤ k → 12 * (13 - z) + 2 ≤ k' → SE n f M t c cap q sel ma z (tabc_X9_readExpr F k).2.2.2.2.2.2.2.1 (tab_expr F k').2.2.2.2.2.2.2.1 := fun q ma k k' hk hk' => by
    obtain ⟨m, rfl⟩ : ∃ m, k = m + 1 + 1 := ⟨k - 2, by omega⟩
    obtain ⟨m', rfl⟩ : ∃ m', k' = m' + 1 + 1 := ⟨k' - 2, by omega⟩
    exact sim_one (T := tabc_X9_readExpr F (m + 1)) (T2 := tabc_X9_readExpr F m) (T' := tab_expr F (m' + 1)) (T2' := tab_expr F m') hF rfl rfl rfl rfl (fun w => (ih w).ex q ma (m + 1) (m' + 1) (by omega) (by omega)) (fun w => (ih w).ex q ma m (m' + 1) (by omega) (by omega)) (fun w q' => (ih w).ex q' false m m' (by omega) (by omega)) (fun x hx => tf1 hF (by omega) hx) (fun x hx => tf1 hF (by omega) hx)
  have h2 : ∀ q ma k k', 12 * (13 - z) + 3 ≤ k → 12 * (13 - z) + 3 ≤ k' → SE n f M t c cap q sel ma z (tabc_X9_readExpr F k).2.2.2.2.2.2.1 (tab_expr F k').2.2.2.2.2.2.1 := fun q ma k k' hk hk' => by
    obtain ⟨m, rfl⟩ : ∃ m, k = m + 1 := ⟨k - 1, by omega⟩
    obtain ⟨m', rfl⟩ : ∃ m', k' = m' + 1 := ⟨k' - 1, by omega⟩
    exact sim_sign (T := tabc_X9_readExpr F m) (T' := tab_expr F m') hF (h1 q ma m m' (by omega) (by omega)) (fun w => (ih w).sg q ma m m' (by omega) (by omega))
  have h3 : ∀ q ma k k', 12 * (13 - z) + 4 ≤ k → 12 * (13 - z) + 4 ≤ k' → SE n f M t c cap q sel ma z (tabc_X9_readExpr F k).2.2.2.2.2.1 (tab_expr F k').2.2.2.2.2.1 := fun q ma k k' hk hk' => by
    obtain ⟨m, rfl⟩ : ∃ m, k = m + 1 := ⟨k - 1, by omega⟩
    obtain ⟨m', rfl⟩ : ∃ m', k' = m' + 1 := ⟨k' - 1, by omega⟩
    exact sim_part (T := tabc_X9_readExpr F m) (T' := tab_expr F m') hF (h2 q ma m m' (by omega) (by omega))
  have h4 : ∀ q ma k k', 12 * (13 - z) + 5 ≤ k → 12 * (13 - z) + 5 ≤ k' → SE n f M t c cap q sel ma z (tabc_X9_readExpr F k).2.2.2.2.1 (tab_expr F k').2.2.2.2.1 := fun q ma k k' hk hk' => by
    obtain ⟨m, rfl⟩ : ∃ m, k = m + 1 := ⟨k - 1, by omega⟩
    obtain ⟨m', rfl⟩ : ∃ m', k' = m' + 1 := ⟨k' - 1, by omega⟩
    exact sim_sum (T := tabc_X9_readExpr F m) (T' := tab_expr F m') hF (h3 q ma m m' (by omega) (by omega))
  have h5 : ∀ q ma k k', 12 * (13 - z) + 7 ≤ k → 12 * (13 - z) + 7 ≤ k' → SE n f M t c cap q sel ma z (tabc_X9_readExpr F k).2.2.2.1 (tab_expr F k').2.2.2.1 := fun q ma k k' hk hk' => by
    obtain ⟨m, rfl⟩ : ∃ m, k = m + 1 + 1 := ⟨k - 2, by omega⟩
    obtain ⟨m', rfl⟩ : ∃ m', k' = m' + 1 := ⟨k' - 1, by omega⟩
    exact sim_test (T := tabc_X9_readExpr F (m + 1)) (T2 := tabc_X9_readExpr F m) (T' := tab_expr F m') hF (h4 q ma (m + 1) m' (by omega) (by omega)) rfl (h4 q ma m m' (by omega) (by omega)) (ns_tab hF (by omega)) (fun x hx => tf5 hF (by omega) hx) (fun r hr => rf5 hF (by omega) hr)
  have h6 : ∀ q ma k k', 12 * (13 - z) + 8 ≤ k → 12 * (13 - z) + 8 ≤ k' → SE n f M t c cap q sel ma z (tabc_X9_readExpr F k).2.2.1 (tab_expr F k').2.2.1 := fun q ma k k' hk hk' => by
    obtain ⟨m, rfl⟩ : ∃ m, k = m + 1 := ⟨k - 1, by omega⟩
    obtain ⟨m', rfl⟩ : ∃ m', k' = m' + 1 := ⟨k' - 1, by omega⟩
    exact sim_neg (T := tabc_X9_readExpr F m) (T' := tab_expr F m') hF (h5 q ma m m' (by omega) (by omega)) (fun w => (ih w).ne q ma m m' (by omega) (by omega))
  have h7 : ∀ q ma k k', 12 * (13 - z) + 9 ≤ k → 12 * (13 - z) + 9 ≤ k' → SE n f M t c cap q sel ma z (tabc_X9_readExpr F k).2.1 (tab_expr F k').2.1 := fun q ma k k' hk hk' => by
    obtain ⟨m, rfl⟩ : ∃ m, k = m + 1 := ⟨k - 1, by omega⟩
    obtain ⟨m', rfl⟩ : ∃ m', k' = m' + 1 := ⟨k' - 1, by omega⟩
    exact sim_conj (T := tabc_X9_readExpr F m) (T' := tab_expr F m') hF (h6 q ma m m' (by omega) (by omega))
  exact ⟨h1, h2, h3, h4, h5, h6, h7, fun q ma k k' hk hk' => by
    obtain ⟨m, rfl⟩ : ∃ m, k = m + 1 := ⟨k - 1, by omega⟩
    obtain ⟨m', rfl⟩ : ∃ m', k' = m' + 1 := ⟨k' - 1, by omega⟩
    exact sim_expr (T := tabc_X9_readExpr F m) (T' := tab_expr F m') hF (h7 q ma m m' (by omega) (by omega))⟩
theorem ax_all {n : Nat} {f : Nat → Int32} {M t c cap sel F : Nat} (hF : 10000 ≤ F) : ∀ d z, z + d = 12 → AX n f M t c cap sel F z
  | 0, z, h => ax_step hF (by omega) (fun w => absurd w (by omega))
  | d + 1, z, h => ax_step hF (by omega) (fun _ => ax_all hF d (z + 1) (by omega))
/-- every EXPR from outside, at every nest -/
theorem sim_ex {n : Nat} {f : Nat → Int32} {M t c cap q sel : Nat} {ma : Bool} {F z : Nat} (hF : 10000 ≤ F) (hz : z ≤ 12) : SX n f M t c cap q sel ma z (c_X9_readExpr F 300) (m_expr F 300) := (ax_all hF (12 - z) z (by omega)).ex q ma 300 300 (by omega) (by omega)

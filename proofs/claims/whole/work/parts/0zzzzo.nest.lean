/-! every QUERY of both, at every nest -/
theorem qs_all {n : Nat} {f : Nat → Int32} {M t c cap : Nat} {F : Nat} (hF : 10000 ≤ F) : ∀ (d z k k' : Nat), z + d = 12 → 4 * d + 9 ≤ k → 3 * d + 4 ≤ k' → QS n f M t c cap (d + 1) z (tabc_X9_readQuery F k).1 (tab_queryOf F k').1 := by
  intro d
  induction d with
  | zero =>
    intro z k k' h1 h2 h3
    obtain ⟨k, rfl⟩ : ∃ x, k = x + 9 := ⟨k - 9, by omega⟩
    obtain ⟨k', rfl⟩ : ∃ x, k' = x + 4 := ⟨k' - 4, by omega⟩
    have ss : SS n f M t c cap 0 z (cb_X9_readSelect F (tabc_X9_readQuery F (k + 7))) (b_selectOf F (tab_queryOf F (k' + 2))) := SS.of (Tr := tabc_X9_readQuery F (k + 6)) (T := tabc_X9_readQuery F (k + 5)) (T2 := tabc_X9_readQuery F (k + 4)) (T3 := tabc_X9_readQuery F (k + 3)) (T4 := tabc_X9_readQuery F (k + 2)) (T5 := tabc_X9_readQuery F (k + 1)) (T' := tab_queryOf F (k' + 1)) hF rfl rfl rfl (fun hz => absurd hz (by omega)) rfl rfl rfl rfl
    exact q_g (T := tabc_X9_readQuery F (k + 8)) (T' := tab_queryOf F (k' + 3)) hF ss (fun _ _ _ _ _ _ _ _ _ _ _ _ _ _ g => q_end hF g (fun hi hk => q_ord hF g hi hk))
  | succ d ih =>
    intro z k k' h1 h2 h3
    obtain ⟨k, rfl⟩ : ∃ x, k = x + 9 := ⟨k - 9, by omega⟩
    obtain ⟨k', rfl⟩ : ∃ x, k' = x + 4 := ⟨k' - 4, by omega⟩
    have ss : SS n f M t c cap (d + 1) z (cb_X9_readSelect F (tabc_X9_readQuery F (k + 7))) (b_selectOf F (tab_queryOf F (k' + 2))) := SS.of (Tr := tabc_X9_readQuery F (k + 6)) (T := tabc_X9_readQuery F (k + 5)) (T2 := tabc_X9_readQuery F (k + 4)) (T3 := tabc_X9_readQuery F (k + 3)) (T4 := tabc_X9_readQuery F (k + 2)) (T5 := tabc_X9_readQuery F (k + 1)) (T' := tab_queryOf F (k' + 1)) hF rfl rfl rfl (fun _ => ih (z + 1) (k + 5) (k' + 1) (by omega) (by omega) (by omega)) rfl rfl rfl rfl
    exact q_g (T := tabc_X9_readQuery F (k + 8)) (T' := tab_queryOf F (k' + 3)) hF ss (fun _ _ _ _ _ _ _ _ _ _ _ _ _ _ g => q_end hF g (fun hi hk => q_ord hF g hi hk))
/-- the whole QUERY of a text, from outside -/
theorem sim_query {n : Nat} {f : Nat → Int32} {M t c cap : Nat} {F : Nat} (hF : 10000 ≤ F) : QS n f M t c cap 13 0 (c_X9_readQuery F 300) (m_queryOf F 300) := qs_all hF 12 0 300 300 (by omega) (by omega) (by omega)

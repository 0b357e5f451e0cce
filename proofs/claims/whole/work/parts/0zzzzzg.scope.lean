/-! the columns of a SOURCE that is seen, both -/
def SCC (n : Nat) (f : Nat → Int32) (M oo cl m j9 : Nat) (cs : CS) (rs : RS) : Prop := ((7, oo) ∈ kE cs) ∧ (kR cs 235 oo = some cl) ∧ (CLM cl m cs) ∧ (∃ k', k' ≤ M ∧ rs.2.2.1 55 j9 = nI k' ∧ NM9 n f k' (kJ cs 228 oo) cs rs) ∧ (∃ a, a ≤ 100 ∧ kI cs 234 oo = nI a ∧ rs.2.2.1 79 j9 = nI a) ∧ ((∃ d cnt, d < 6 ∧ (1 ≤ cnt ∧ cnt ≤ 4) ∧ m = cnt + 1 ∧ rs.2.2.1 49 j9 = nI d ∧ rs.2.2.1 5 d = nI cnt ∧ (∀ y, y < cnt → kB cs 98 cl y = lN (y + 1)) ∧ kB cs 98 cl cnt = 0 ∧ (∀ y, y < m → kA cs 100 cl y = 1)) ∨ (∃ qi ei, qi < 60 ∧ ei < 60 ∧ rs.2.2.1 49 j9 = -1 ∧ rs.2.2.1 53 j9 = nI qi ∧ rs.2.2.1 61 (5 * qi) = nI ei ∧ rs.2.2.1 36 ei = nI m ∧ (∀ y, y < m → ∃ k, k ≤ M ∧ rs.2.2.1 45 (8 * ei + y) = nI k ∧ NM n f k (kB cs 98 cl y) cs rs) ∧ (∀ y, y < m → TYR (kA cs 100 cl y) (rs.2.2.1 46 (8 * ei + y))))) ∧ (∀ y y', y < m → y' < m → y ≠ y' → kB cs 98 cl y ≠ kB cs 98 cl y')
theorem SCC.e7 {n : Nat} {f : Nat → Int32} {M oo cl m j9 : Nat} {cs : CS} {rs : RS} (h : SCC n f M oo cl m j9 cs rs) : (7, oo) ∈ kE cs := h.1
theorem SCC.r235 {n : Nat} {f : Nat → Int32} {M oo cl m j9 : Nat} {cs : CS} {rs : RS} (h : SCC n f M oo cl m j9 cs rs) : kR cs 235 oo = some cl := h.2.1
theorem SCC.cm {n : Nat} {f : Nat → Int32} {M oo cl m j9 : Nat} {cs : CS} {rs : RS} (h : SCC n f M oo cl m j9 cs rs) : CLM cl m cs := h.2.2.1
theorem SCC.nm {n : Nat} {f : Nat → Int32} {M oo cl m j9 : Nat} {cs : CS} {rs : RS} (h : SCC n f M oo cl m j9 cs rs) : ∃ k', k' ≤ M ∧ rs.2.2.1 55 j9 = nI k' ∧ NM9 n f k' (kJ cs 228 oo) cs rs := h.2.2.2.1
theorem SCC.st {n : Nat} {f : Nat → Int32} {M oo cl m j9 : Nat} {cs : CS} {rs : RS} (h : SCC n f M oo cl m j9 cs rs) : ∃ a, a ≤ 100 ∧ kI cs 234 oo = nI a ∧ rs.2.2.1 79 j9 = nI a := h.2.2.2.2.1
theorem SCC.kd {n : Nat} {f : Nat → Int32} {M oo cl m j9 : Nat} {cs : CS} {rs : RS} (h : SCC n f M oo cl m j9 cs rs) : (∃ d cnt, d < 6 ∧ (1 ≤ cnt ∧ cnt ≤ 4) ∧ m = cnt + 1 ∧ rs.2.2.1 49 j9 = nI d ∧ rs.2.2.1 5 d = nI cnt ∧ (∀ y, y < cnt → kB cs 98 cl y = lN (y + 1)) ∧ kB cs 98 cl cnt = 0 ∧ (∀ y, y < m → kA cs 100 cl y = 1)) ∨ (∃ qi ei, qi < 60 ∧ ei < 60 ∧ rs.2.2.1 49 j9 = -1 ∧ rs.2.2.1 53 j9 = nI qi ∧ rs.2.2.1 61 (5 * qi) = nI ei ∧ rs.2.2.1 36 ei = nI m ∧ (∀ y, y < m → ∃ k, k ≤ M ∧ rs.2.2.1 45 (8 * ei + y) = nI k ∧ NM n f k (kB cs 98 cl y) cs rs) ∧ (∀ y, y < m → TYR (kA cs 100 cl y) (rs.2.2.1 46 (8 * ei + y)))) := h.2.2.2.2.2.1
theorem SCC.ap {n : Nat} {f : Nat → Int32} {M oo cl m j9 : Nat} {cs : CS} {rs : RS} (h : SCC n f M oo cl m j9 cs rs) : ∀ y y', y < m → y' < m → y ≠ y' → kB cs 98 cl y ≠ kB cs 98 cl y' := h.2.2.2.2.2.2
theorem SCC.cols {n : Nat} {f : Nat → Int32} {M oo cl m j9 : Nat} {cs : CS} {rs : RS} {F : Nat} (h : SCC n f M oo cl m j9 cs rs) (hj : j9 < 180) : m_columnsOf F rs (nI j9) = some (nI m) := by
  unfold m_columnsOf m_columnsOf_b44
  rw [rdI_n hj (by decide), ob_s]
  rcases h.kd with ⟨d, cnt, d6, c4, em, a49, a5, -⟩ | ⟨qi, ei, q60, e60, a49, a53, a61, a36, -⟩
  · rw [a49, if_neg (nI_nm1 (by omega)), ob_s, rdI_n d6 (by decide), ob_s, a5, nI_1, em]
  · rw [a49, if_pos rfl, rdI_n hj (by decide), ob_s, a53, nI_5, rdI_n (by omega) (by decide), ob_s, a61, rdI_n e60 (by decide), ob_s, a36]
theorem SCC.typ {n : Nat} {f : Nat → Int32} {M oo cl m j9 : Nat} {cs : CS} {rs : RS} {F y : Nat} (h : SCC n f M oo cl m j9 cs rs) (hj : j9 < 180) (hy : y < m) : ∃ r, m_typeOf F rs (nI j9) (nI y) = some r ∧ TYR (kA cs 100 cl y) r := by
  have m8 := h.cm.m8
  unfold m_typeOf m_typeOf_b37
  rw [rdI_n hj (by decide), ob_s]
  rcases h.kd with ⟨d, cnt, d6, c4, em, a49, a5, -, -, ty⟩ | ⟨qi, ei, q60, e60, a49, a53, a61, a36, -, ty⟩
  · rw [a49, if_neg (nI_nm1 (by omega))]
    exact ⟨1, rfl, Or.inl ⟨ty y hy, rfl⟩⟩
  · rw [a49, if_pos rfl, rdI_n hj (by decide), ob_s, a53, nI_5, rdI_n (by omega) (by decide), ob_s, a61, nI_8, nI_add, rdI_n (by omega) (by decide), ob_s]
    exact ⟨_, rfl, ty y hy⟩
theorem SCC.named {n : Nat} {f : Nat → Int32} {M oo cl m j9 : Nat} {cs : CS} {rs : RS} {F y k : Nat} {v : Int64} (hF : 10000 ≤ F) (x : TX n f M cs rs) (h : SCC n f M oo cl m j9 cs rs) (hj : j9 < 180) (hy : y < m) (hk : k ≤ M) (hn : NM n f k v cs rs) : ∃ code b, m_nameOf F rs (nI j9) (nI y) = some code ∧ m_isNamed F rs (nI k) code = some b ∧ (b = 1 ∧ v = kB cs 98 cl y ∨ b = 0 ∧ v ≠ kB cs 98 cl y) := by
  have m8 := h.cm.m8
  unfold m_nameOf m_nameOf_b33
  rw [rdI_n hj (by decide), ob_s]
  rcases h.kd with ⟨d, cnt, d6, c4, em, a49, a5, nl, nt, -⟩ | ⟨qi, ei, q60, e60, a49, a53, a61, a36, nn, -⟩
  · rw [a49, if_neg (nI_nm1 (by omega)), ob_s, rdI_n d6 (by decide), ob_s, a5]
    by_cases w : y = cnt
    · obtain ⟨b, e, q⟩ := nmd_time (F := F) hF x hk hn
      refine ⟨-5, b, by rw [w, if_pos rfl], e, ?_⟩
      rw [w, nt]
      exact q
    · obtain ⟨b, e, q⟩ := nmd_let (F := F) (j := y) x hk hn (by omega)
      refine ⟨-1 - nI y, b, by rw [if_neg (fun z => w ((nI_eq (by omega) (by omega)).mp z))], e, ?_⟩
      rw [nl y (by omega)]
      exact q
  · obtain ⟨k', k1, k2, k3⟩ := nn y hy
    obtain ⟨b, e, q⟩ := nmd_tok hF x hk k1 hn k3
    rw [a49, if_pos rfl, rdI_n hj (by decide), ob_s, a53, nI_5, rdI_n (by omega) (by decide), ob_s, a61, nI_8, nI_add, rdI_n (by omega) (by decide), ob_s]
    exact ⟨_, b, rfl, by rw [k2]; exact e, q⟩
/-- Columns.find -/
theorem find_L {F cl m : Nat} {v : Int64} {cs : CS} (h : CLM cl m cs) : ∀ (d y u : Nat), m - y ≤ d → d < u → y ≤ m → (∃ y0, y ≤ y0 ∧ y0 < m ∧ kB cs 98 cl y0 = v ∧ (∀ z, y ≤ z → z < y0 → kB cs 98 cl z ≠ v) ∧ c_X2_find_L7 F cs u cl v (nI y) = some (nI y0)) ∨ ((∀ z, y ≤ z → z < m → kB cs 98 cl z ≠ v) ∧ c_X2_find_L7 F cs u cl v (nI y) = some (-1)) := by
  have m8 := h.m8
  obtain ⟨j98, p98⟩ := h.p98
  have stop : ∀ y u, m ≤ y → y ≤ 8 → c_X2_find_L7 F cs (u + 1) cl v (nI y) = some (-1) := fun y u hy _ => by
    rw [c_X2_find_L7, gI_ok h.e, ob_s, h.sz, if_pos (nI_le hy (by omega))]
    rfl
  intro d
  induction d with
  | zero =>
    intro y u h1 h2 h3
    obtain ⟨u, rfl⟩ : ∃ x, u = x + 1 := ⟨u - 1, by omega⟩
    exact Or.inr ⟨fun z z1 z2 => absurd z2 (by omega), stop y u (by omega) (by omega)⟩
  | succ d ih =>
    intro y u h1 h2 h3
    obtain ⟨u, rfl⟩ : ∃ x, u = x + 1 := ⟨u - 1, by omega⟩
    by_cases w : m ≤ y
    · exact Or.inr ⟨fun z z1 z2 => absurd z2 (by omega), stop y u w (by omega)⟩
    · have st : c_X2_find_L7 F cs (u + 1) cl v (nI y) = if kB cs 98 cl y = v then some (nI y) else c_X2_find_L7 F cs u cl v (nI (y + 1)) := by
        rw [c_X2_find_L7, gI_ok h.e, ob_s, h.sz, if_neg (nI_ge (by omega) (by omega)), if_neg (show ¬ (8 : Int32) ≤ nI y from nI_ge (b := 8) (by omega) (by decide)), gA_ok h.e, p98, ob_s, rB_n h.e98 p98 (by rw [h.l98]; omega) (by rw [h.l98]; omega), ob_s, nI_1]
      by_cases e : kB cs 98 cl y = v
      · exact Or.inl ⟨y, Nat.le_refl _, by omega, e, fun z z1 z2 => absurd z2 (by omega), by rw [st, if_pos e]⟩
      · rw [st, if_neg e]
        rcases ih (y + 1) u (by omega) (by omega) (by omega) with ⟨y0, a1, a2, a3, a4, a5⟩ | ⟨a1, a2⟩
        · refine Or.inl ⟨y0, by omega, a2, a3, fun z z1 z2 => ?_, a5⟩
          by_cases zz : z = y
          · rw [zz]; exact e
          · exact a4 z (by omega) z2
        · refine Or.inr ⟨fun z z1 z2 => ?_, a2⟩
          by_cases zz : z = y
          · rw [zz]; exact e
          · exact a1 z (by omega) z2
/-- the reference's walk over the columns of one SOURCE: one hit at most -/
theorem L85_ok {n : Nat} {f : Nat → Int32} {M oo cl m j9 : Nat} {cs : CS} {F x k : Nat} {v : Int64} {rc : RS → Int32 → Int32 → Int32 → Int32 → Int32 → Int32 → Option (RS × Int32)} {u2 u3 u6 u8 : Int32} (hF : 10000 ≤ F) (hj : j9 < 180) (hx : x < 121) (hk : k ≤ M) (h8 : u8 = nI k) : ∀ (d y u c0 : Nat) (u5 : Int32) (rs : RS), TX n f M cs rs → SCC n f M oo cl m j9 cs rs → NM n f k v cs rs → m - y ≤ d → d < u → y ≤ m → ((∀ z, y ≤ z → z < m → kB cs 98 cl z ≠ v) ∧ m_find_L85 F rc u rs (nI x) u2 u3 (nI c0) u5 u6 (nI j9) u8 (nI y) = rc rs (nI x) u2 u3 (nI c0) u5 (u6 + 1)) ∨ (∃ y0 a r, y ≤ y0 ∧ y0 < m ∧ kB cs 98 cl y0 = v ∧ a ≤ 100 ∧ kI cs 234 oo = nI a ∧ TYR (kA cs 100 cl y0) r ∧ m_find_L85 F rc u rs (nI x) u2 u3 (nI c0) u5 u6 (nI j9) u8 (nI y) = rc (setI rs 33 x (nI (a + y0))) (nI x) u2 u3 (nI (c0 + 1)) r (u6 + 1)) := by
  intro d
  induction d with
  | zero =>
    intro y u c0 u5 rs tx h hn h1 h2 h3
    obtain ⟨u, rfl⟩ : ∃ z, u = z + 1 := ⟨u - 1, by omega⟩
    have m8 := h.cm.m8
    refine Or.inl ⟨fun z z1 z2 => absurd z2 (by omega), ?_⟩
    rw [m_find_L85, h.cols hj, ob_s, if_pos (nI_le (by omega) (by omega))]
    rfl
  | succ d ih =>
    intro y u c0 u5 rs tx h hn h1 h2 h3
    obtain ⟨u, rfl⟩ : ∃ z, u = z + 1 := ⟨u - 1, by omega⟩
    have m8 := h.cm.m8
    by_cases w : m ≤ y
    · refine Or.inl ⟨fun z z1 z2 => absurd z2 (by omega), ?_⟩
      rw [m_find_L85, h.cols hj, ob_s, if_pos (nI_le w (by omega))]
      rfl
    · obtain ⟨code, b, e1, e2, q⟩ := h.named (F := F) (y := y) hF tx hj (by omega) hk hn
      rcases q with ⟨q1, q2⟩ | ⟨q1, q2⟩
      · obtain ⟨a, a1, a2, a3⟩ := h.st
        have h' : SCC n f M oo cl m j9 cs (setI rs 33 x (nI (a + y))) := ⟨h.e7, h.r235, h.cm, h.nm, h.st, h.kd, h.ap⟩
        have tx' : TX n f M cs (setI rs 33 x (nI (a + y))) := tx.f' TKF.refl
        have hn' : NM n f k v cs (setI rs 33 x (nI (a + y))) := hn
        obtain ⟨r, r1, r2⟩ := h'.typ (F := F) (y := y) hj (by omega)
        have st : m_find_L85 F rc (u + 1) rs (nI x) u2 u3 (nI c0) u5 u6 (nI j9) u8 (nI y) = m_find_L85 F rc u (setI rs 33 x (nI (a + y))) (nI x) u2 u3 (nI (c0 + 1)) r u6 (nI j9) u8 (nI (y + 1)) := by
          rw [m_find_L85, h.cols hj, ob_s, if_neg (nI_ge (by omega) (by omega)), e1, ob_s, h8, e2, ob_s, q1, if_neg (by decide), rdI_n hj (by decide), ob_s, a3, nI_add, wrI_n hx (by decide), ob_s, r1, ob_s, nI_1]
          unfold m_find_b142
          rw [nI_1]
        rcases ih (y + 1) u (c0 + 1) r (setI rs 33 x (nI (a + y))) tx' h' hn' (by omega) (by omega) (by omega) with ⟨b1, b2⟩ | ⟨y0, -, -, b1, b2, b3, -⟩
        · exact Or.inr ⟨y, a, r, Nat.le_refl _, by omega, q2.symm, a1, a2, r2, st.trans b2⟩
        · exact absurd (b3.trans q2) (h.ap y0 y b2 (by omega) (by omega))
      · have st : m_find_L85 F rc (u + 1) rs (nI x) u2 u3 (nI c0) u5 u6 (nI j9) u8 (nI y) = m_find_L85 F rc u rs (nI x) u2 u3 (nI c0) u5 u6 (nI j9) u8 (nI (y + 1)) := by
          rw [m_find_L85, h.cols hj, ob_s, if_neg (nI_ge (by omega) (by omega)), e1, ob_s, h8, e2, ob_s, q1, if_pos rfl]
          unfold m_find_b142
          rw [nI_1]
        rw [st]
        rcases ih (y + 1) u c0 u5 rs tx h hn (by omega) (by omega) (by omega) with ⟨b1, b2⟩ | ⟨y0, a, r, b1, b2⟩
        · refine Or.inl ⟨fun z z1 z2 => ?_, b2⟩
          by_cases zz : z = y
          · rw [zz]; exact fun p => q2 p.symm
          · exact b1 z (by omega) z2
        · exact Or.inr ⟨y0, a, r, by omega, b2⟩

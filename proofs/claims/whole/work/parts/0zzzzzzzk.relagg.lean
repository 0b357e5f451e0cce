/-! the reference's aggregates -/
/-- a state while an aggregate is worked out -/
def AGX (rs X : RS) : Prop := (X.2 = rs.2) ∧ (∀ q, q ≠ 92 → q ≠ 93 → q ≠ 97 → X.1 q = rs.1 q) ∧ (X.1 97 = 0)
theorem AGX.e2 {rs X : RS} (h : AGX rs X) : X.2 = rs.2 := h.1
theorem AGX.f1 {rs X : RS} (h : AGX rs X) : ∀ q, q ≠ 92 → q ≠ 93 → q ≠ 97 → X.1 q = rs.1 q := h.2.1
theorem AGX.z97 {rs X : RS} (h : AGX rs X) : X.1 97 = 0 := h.2.2
theorem AGX.fr {rs X : RS} (h : AGX rs X) : FR rS rs X := ⟨Or.inr (by rw [h.e2]), fun q hq => ⟨h.f1 q (by unfold rS at hq; omega) (by unfold rS at hq; omega) (by unfold rS at hq; omega), by rw [h.e2], by rw [h.e2]⟩⟩
theorem AGX.cel {rs X : RS} (h : AGX rs X) (i : Nat) : rc X i = rc rs i := by
  unfold rc
  rw [h.e2]
theorem AGX.fin {rs X : RS} {f : Int32} (h : AGX rs X) : setF (setF (setF X 97 (rs.1 97)) 93 (rs.1 93)) 92 f = setF rs 92 f := by
  refine Prod.ext (funext fun q => ?_) h.e2
  by_cases a : q = 92
  · rw [a, sF_s, sF_s]
  · rw [sF_n a, sF_n a]
    by_cases b : q = 93
    · rw [b, sF_s]
    · rw [sF_n b]
      by_cases d : q = 97
      · rw [d, sF_s]
      · rw [sF_n d, h.f1 q a b d]
theorem AGX.ev {rs X : RS} {p : Nat} {f : Int32} (h : AGX rs X) : AGX rs (setF (setF X 93 (nI p)) 92 f) := ⟨h.e2, fun q a b d => by rw [sF_n a, sF_n b]; exact h.f1 q a b d, by rw [sF_n (by decide), sF_n (by decide)]; exact h.z97⟩
theorem agF_app {l : List OV} {v : OV} : agF (l ++ [v]) = agS (agF l) v := by
  unfold agF
  rw [List.foldl_append]
  rfl
theorem agN_app {l : List OV} {v : OV} : agN (l ++ [v]) = (agN l || v.isSome) := by
  unfold agN
  rw [List.any_append]
  show (_ || (v.isSome || false)) = _
  rw [Bool.or_false]
theorem i64_min (w : Int64) : (if (9223372036854775807 : Int64) ≤ w then 9223372036854775807 else w) = w := by
  by_cases h : (9223372036854775807 : Int64) ≤ w
  · rw [if_pos h]
    have h1 := Int64.le_iff_toInt_le.mp h
    have h2 := Int64.toInt_lt w
    have h3 : (9223372036854775807 : Int64).toInt = 9223372036854775807 := by decide
    exact Int64.toInt.inj (by omega)
  · rw [if_neg h]
theorem i64_max (w : Int64) : (if w ≤ (-9223372036854775808 : Int64) then -9223372036854775808 else w) = w := by
  by_cases h : w ≤ (-9223372036854775808 : Int64)
  · rw [if_pos h]
    have h1 := Int64.le_iff_toInt_le.mp h
    have h2 := ovk_lo w
    have h3 : (-9223372036854775808 : Int64).toInt = -9223372036854775808 := by decide
    exact Int64.toInt.inj (by omega)
  · rw [if_neg h]
/-- what the loop keeps, of the values seen -/
def AGI (k : Int32) (l : List OV) (u3 u5 : Int64) (u7 : Int32) : Prop := (k = 20 → u3 = Int64.ofNat l.length) ∧ (k ≠ 20 → u3 = (agF l).1 ∧ ((agN l = false ∧ u7 = 0 ∧ u5 = 0 ∧ agF l = ag0) ∨ (agN l = true ∧ u7 = 1 ∧ (k = 22 → u5 = (agF l).2.1) ∧ (k = 23 → u5 = (agF l).2.2.1) ∧ (k = 24 → u5 = (agF l).2.2.2))))
theorem AGI.no {k : Int32} {l : List OV} {u3 u5 : Int64} {u7 : Int32} (hk : k ≠ 20) (h : AGI k l u3 u5 u7) : AGI k (l ++ [none]) u3 u5 u7 := by
  refine ⟨fun w => absurd w hk, fun _ => ?_⟩
  rw [agF_app, agN_app, show (agN l || (none : OV).isSome) = agN l from Bool.or_false _]
  exact h.2 hk
theorem AGI.cnt {l : List OV} {v : OV} {u3 u5 : Int64} {u7 : Int32} (h : AGI 20 l u3 u5 u7) : AGI 20 (l ++ [v]) (u3 + 1) u5 u7 := by
  refine ⟨fun _ => ?_, fun w => absurd rfl w⟩
  rw [h.1 rfl, List.length_append, Int64.ofNat_add]
  rfl
theorem AGI.sum {l : List OV} {w u3 u5 : Int64} {u7 : Int32} (h : AGI 22 l u3 u5 u7) : AGI 22 (l ++ [some w]) (u3 + 1) (u5 + w) 1 := by
  obtain ⟨h1, h2⟩ := h.2 (by decide)
  refine ⟨fun q => absurd q (by decide), fun _ => ⟨?_, Or.inr ⟨?_, rfl, fun _ => ?_, fun q => absurd q (by decide), fun q => absurd q (by decide)⟩⟩⟩
  · rw [agF_app, h1]; rfl
  · rw [agN_app]; exact Bool.or_true _
  · rw [agF_app]
    rcases h2 with ⟨-, -, y3, y4⟩ | ⟨-, -, y3, -, -⟩
    · rw [y3, y4]; rfl
    · rw [y3 rfl]; rfl
theorem AGI.fst {k : Int32} {l : List OV} {w u3 u5 : Int64} (hk : k ≠ 20) (h22 : k ≠ 22) (h : AGI k l u3 u5 0) : AGI k (l ++ [some w]) (u3 + 1) w 1 := by
  obtain ⟨h1, h2⟩ := h.2 hk
  have y4 : agF l = ag0 := by
    rcases h2 with ⟨-, -, -, y4⟩ | ⟨-, y, -, -, -⟩
    · exact y4
    · exact absurd y (by decide)
  refine ⟨fun q => absurd q hk, fun _ => ⟨?_, Or.inr ⟨?_, rfl, fun q => absurd q h22, fun _ => ?_, fun _ => ?_⟩⟩⟩
  · rw [agF_app, h1]; rfl
  · rw [agN_app]; exact Bool.or_true _
  · rw [agF_app, y4]
    exact (i64_min w).symm
  · rw [agF_app, y4]
    exact (i64_max w).symm
theorem AGI.lo {l : List OV} {w u3 u5 : Int64} {u7 : Int32} (h7 : u7 ≠ 0) (h : AGI 23 l u3 u5 u7) : AGI 23 (l ++ [some w]) (u3 + 1) (if u5 ≤ w then u5 else w) 1 := by
  obtain ⟨h1, h2⟩ := h.2 (by decide)
  have y4 : u5 = (agF l).2.2.1 := by
    rcases h2 with ⟨-, y, -, -⟩ | ⟨-, -, -, y, -⟩
    · exact absurd y h7
    · exact y rfl
  refine ⟨fun q => absurd q (by decide), fun _ => ⟨?_, Or.inr ⟨?_, rfl, fun q => absurd q (by decide), fun _ => ?_, fun q => absurd q (by decide)⟩⟩⟩
  · rw [agF_app, h1]; rfl
  · rw [agN_app]; exact Bool.or_true _
  · rw [agF_app, y4]; rfl
theorem AGI.hi {k : Int32} {l : List OV} {w u3 u5 : Int64} {u7 : Int32} (hk : k ≠ 20) (h22 : k ≠ 22) (h23 : k ≠ 23) (h7 : u7 ≠ 0) (h : AGI k l u3 u5 u7) : AGI k (l ++ [some w]) (u3 + 1) (if w ≤ u5 then u5 else w) 1 := by
  obtain ⟨h1, h2⟩ := h.2 hk
  refine ⟨fun q => absurd q hk, fun _ => ⟨?_, Or.inr ⟨?_, rfl, fun q => absurd q h22, fun q => absurd q h23, fun q => ?_⟩⟩⟩
  · rw [agF_app, h1]; rfl
  · rw [agN_app]; exact Bool.or_true _
  · have y4 : u5 = (agF l).2.2.2 := by
      rcases h2 with ⟨-, y, -, -⟩ | ⟨-, -, -, -, y⟩
      · exact absurd y h7
      · exact y q
    rw [agF_app, y4]; rfl
/-- the rows of a group -/
def memL (rs : RS) (b w gi i d : Nat) : LL := ((List.range' i d).filter (fun i => rs.2.2.1 98 i == nI gi)).map (fun i => rowL rs (b + i * w) w)
theorem aggr_L {F n w r b m gi y e : Nat} {k : Int32} {val : List OV → OV} {rs : RS} (hy : y < 121) (h97 : rs.1 97 = 0 ∨ rs.1 97 = 1) (h95 : rs.1 95 = nI r) (h96 : rs.1 96 = nI gi) (rl : RLN rs r b w m) (hm : m ≤ 600) (hb : b + m * w ≤ 400000) (fb : ∀ i, rs.2.2.1 86 i = 0 ∨ rs.2.2.1 86 i = 1) (hk : k = 20 ∨ k = 21 ∨ k = 22 ∨ k = 23 ∨ k = 24) (ex : k ≠ 20 → rs.2.2.1 24 y = nI e ∧ EXA F w e val rs ∧ 2 * e + 4 ≤ n) : ∀ (d i u : Nat) (l : List OV) (X : RS) (u3 u5 : Int64) (u7 : Int32), m = i + d → d < u → AGX rs X → AGI k l u3 u5 u7 → m_aggregated_L28 F (tab_truth F n) u X (nI y) k u3 u5 u7 (rs.1 97) (rs.1 93) (nI i) = some (setF rs 92 (fl (agV k (l ++ (memL rs b w gi i d).map val))), vl (agV k (l ++ (memL rs b w gi i d).map val))) := by
  intro d
  induction d with
  | zero =>
    intro i u l X u3 u5 u7 d1 d2 ax gi'
    obtain ⟨u, rfl⟩ : ∃ z, u = z + 1 := ⟨u - 1, by omega⟩
    have ck : ckZ (rs.1 97) = some (rs.1 97) := if_pos h97
    have so : ∀ v : Int64, m_some F (setF (setF X 97 (rs.1 97)) 93 (rs.1 93)) v = some (setF rs 92 0, v) := fun v => by
      unfold m_some
      rw [ax.fin]
    have no : m_nothing0 F (setF (setF X 97 (rs.1 97)) 93 (rs.1 93)) = some (setF rs 92 1, 0) := by
      unfold m_nothing0
      rw [ax.fin]
    rw [show (memL rs b w gi i 0).map val = [] from rfl, List.append_nil, m_aggregated_L28, ax.f1 95 (by decide) (by decide) (by decide), h95, rdI_n rl.r4 (by decide), ob_s, ax.e2, rl.m, if_pos (nI_le (by omega) (by omega)), ck, ob_s]
    unfold m_aggregated_b192 m_aggregated_b216 agV
    by_cases k20 : k = 20
    · rw [if_pos k20, if_pos k20, so, ob_s, gi'.1 k20]; rfl
    · obtain ⟨g1, g2⟩ := gi'.2 k20
      rw [if_neg k20, if_neg k20]
      by_cases k21 : k = 21
      · rw [if_pos k21, if_pos k21, so, ob_s, g1]; rfl
      · rw [if_neg k21, if_neg k21]
        rcases g2 with ⟨y1, y2, y3, y4⟩ | ⟨y1, y2, y3, y4, y5⟩
        · rw [if_pos y2, no, ob_s, y1]; rfl
        · rw [if_neg (by rw [y2]; decide), so, ob_s, y1]
          by_cases k22 : k = 22
          · rw [if_pos rfl, if_pos k22, y3 k22]; rfl
          · by_cases k23 : k = 23
            · rw [if_pos rfl, if_neg k22, if_pos k23, y4 k23]; rfl
            · rw [if_pos rfl, if_neg k22, if_neg k23, y5 (by
                rcases hk with w | w | w | w | w
                · exact absurd w k20
                · exact absurd w k21
                · exact absurd w k22
                · exact absurd w k23
                · exact w)]; rfl
  | succ d ih =>
    intro i u l X u3 u5 u7 d1 d2 ax gi'
    obtain ⟨u, rfl⟩ : ∃ z, u = z + 1 := ⟨u - 1, by omega⟩
    have q1 : (i + 1) * w ≤ m * w := Nat.mul_le_mul_right w (by omega)
    rw [Nat.succ_mul] at q1
    have rr : rowL X (b + i * w) w = rowL rs (b + i * w) w := rowL_eq (U := b + i * w + w) (fun j _ => ax.cel j) (Nat.le_refl _)
    have rlX : RLN X r b w m := ⟨rl.r4, by rw [ax.e2]; exact rl.b, by rw [ax.e2]; exact rl.m, by rw [ax.e2]; exact rl.w⟩
    have lst : (memL rs b w gi i (d + 1)).map val = (if rs.2.2.1 98 i = nI gi then [val (rowL rs (b + i * w) w)] else []) ++ (memL rs b w gi (i + 1) d).map val := by
      unfold memL
      rw [List.range'_succ, List.filter_cons]
      by_cases z : rs.2.2.1 98 i = nI gi
      · rw [if_pos z, if_pos (beq_iff_eq.mpr z)]; rfl
      · rw [if_neg z, if_neg (fun w => z (eq_of_beq w))]; rfl
    rw [m_aggregated_L28, ax.f1 95 (by decide) (by decide) (by decide), h95, rdI_n rl.r4 (by decide), ob_s, rlX.m, if_neg (nI_ge (by omega) (by omega)), rdI_n (show i < 600 by omega) (by decide), ob_s, ax.f1 96 (by decide) (by decide) (by decide), h96, show X.2.2.1 98 i = rs.2.2.1 98 i by rw [ax.e2]]
    by_cases z : rs.2.2.1 98 i = nI gi
    · rw [if_pos z] at lst
      rw [if_pos z, lst, ← List.append_assoc]
      by_cases k20 : k = 20
      · rw [if_pos k20]
        unfold m_aggregated_b162
        rw [nI_1]
        rw [k20] at gi' ih ⊢
        exact ih (i + 1) u _ X _ _ _ (by omega) (by omega) ax gi'.cnt
      · obtain ⟨e1, e2, e3⟩ := ex k20
        have ev := e2 X (b + i * w) n ax.fr ax.z97 (fun i => by rw [ax.e2]; exact fb i) (by omega) e3
        rw [rr] at ev
        obtain ⟨x, hx⟩ : ∃ z, z = val (rowL rs (b + i * w) w) := ⟨_, rfl⟩
        rw [← hx] at ev ⊢
        obtain ⟨Z, hZ⟩ : ∃ z, z = setF (setF X 93 (nI (b + i * w))) 92 (fl x) := ⟨_, rfl⟩
        have az : AGX rs Z := by rw [hZ]; exact ax.ev
        have z92 : Z.1 92 = fl x := by rw [hZ]; exact sF_s
        rw [← hZ] at ev
        have rec1 := fun (l' : List OV) (u3 u5 : Int64) (u7 : Int32) (w : AGI k l' u3 u5 u7) => ih (i + 1) u l' Z u3 u5 u7 (by omega) (by omega) az w
        rw [if_neg k20, at_ok rlX, ob_s, rdI_n hy (by decide), ob_s, show (setF X 93 (nI (b + i * w))).2.2.1 24 y = nI e by rw [← e1]; show X.2.2.1 24 y = _; rw [ax.e2], ev, ob_s]
        show (if Z.1 92 = 0 then (if k = 22 then (m_aggregated_b157 F (tab_truth F n) (m_aggregated_L28 F (tab_truth F n) u) Z (nI y) k (u3 + 1) (rs.1 97) (rs.1 93) (nI i) (u5 + vl x)) else (if u7 = 0 then (m_aggregated_b150 F (tab_truth F n) (m_aggregated_L28 F (tab_truth F n) u) Z (nI y) k (u3 + 1) (rs.1 97) (rs.1 93) (nI i) (vl x)) else (if k = 23 then (if u5 ≤ vl x then (m_aggregated_b155 F (tab_truth F n) (m_aggregated_L28 F (tab_truth F n) u) Z (nI y) k (u3 + 1) u5 (rs.1 97) (rs.1 93) (nI i)) else (m_aggregated_b150 F (tab_truth F n) (m_aggregated_L28 F (tab_truth F n) u) Z (nI y) k (u3 + 1) (rs.1 97) (rs.1 93) (nI i) (vl x))) else (if vl x ≤ u5 then (m_aggregated_b155 F (tab_truth F n) (m_aggregated_L28 F (tab_truth F n) u) Z (nI y) k (u3 + 1) u5 (rs.1 97) (rs.1 93) (nI i)) else (m_aggregated_b150 F (tab_truth F n) (m_aggregated_L28 F (tab_truth F n) u) Z (nI y) k (u3 + 1) (rs.1 97) (rs.1 93) (nI i) (vl x)))))) else (m_aggregated_b162 F (tab_truth F n) (m_aggregated_L28 F (tab_truth F n) u) Z (nI y) k u3 u5 u7 (rs.1 97) (rs.1 93) (nI i))) = _
        unfold m_aggregated_b157 m_aggregated_b150 m_aggregated_b155 m_aggregated_b157 m_aggregated_b162
        rw [z92, nI_1]
        cases x with
        | none =>
          rw [if_neg (show ¬ fl none = 0 by decide)]
          exact rec1 _ _ _ _ (gi'.no k20)
        | some v =>
          rw [if_pos (show fl (some v) = 0 from rfl), show vl (some v) = v from rfl]
          by_cases k22 : k = 22
          · rw [if_pos k22]
            rw [k22] at gi' rec1 ⊢
            exact rec1 _ _ _ _ gi'.sum
          · rw [if_neg k22]
            by_cases z7 : u7 = 0
            · rw [if_pos z7]
              rw [z7] at gi'
              exact rec1 _ _ _ _ (gi'.fst k20 k22)
            · rw [if_neg z7]
              by_cases k23 : k = 23
              · rw [if_pos k23]
                rw [k23] at gi' rec1 ⊢
                have w := rec1 _ _ _ _ (gi'.lo (w := v) z7)
                by_cases t : u5 ≤ v
                · rw [if_pos t] at w ⊢
                  exact w
                · rw [if_neg t] at w ⊢
                  exact w
              · rw [if_neg k23]
                have w := rec1 _ _ _ _ (gi'.hi (w := v) k20 k22 k23 z7)
                by_cases t : v ≤ u5
                · rw [if_pos t] at w ⊢
                  exact w
                · rw [if_neg t] at w ⊢
                  exact w
    · rw [if_neg z] at lst
      rw [if_neg z, lst, List.nil_append]
      unfold m_aggregated_b162
      rw [nI_1]
      exact ih (i + 1) u l X u3 u5 u7 (by omega) (by omega) ax gi'
theorem aggr_ok {F n w r b m gi y e : Nat} {k v : Int32} {val : List OV → OV} {rs : RS} (hF : 10000 ≤ F) (hy : y < 121) (h97 : rs.1 97 = 0 ∨ rs.1 97 = 1) (h95 : rs.1 95 = nI r) (h96 : rs.1 96 = nI gi) (rl : RLN rs r b w m) (hm : m ≤ 600) (hb : b + m * w ≤ 400000) (fb : ∀ i, rs.2.2.1 86 i = 0 ∨ rs.2.2.1 86 i = 1) (hk : k = 20 ∨ k = 21 ∨ k = 22 ∨ k = 23 ∨ k = 24) (ex : k ≠ 20 → rs.2.2.1 24 y = nI e ∧ EXA F w e val rs ∧ 2 * e + 4 ≤ n) : (tab_truth F (n + 1)).2.2.1 (setF rs 92 v) (nI y) k = some (setF rs 92 (fl (agV k ((memL rs b w gi 0 m).map val))), vl (agV k ((memL rs b w gi 0 m).map val))) := by
  have ax : AGX rs (setF (setF rs 92 v) 97 0) := ⟨rfl, fun q a b d => by rw [sF_n d, sF_n a], sF_s⟩
  have q := aggr_L (F := F) (val := val) hy h97 h95 h96 rl hm hb fb hk ex m 0 F [] _ 0 0 0 (by omega) (by omega) ax ⟨fun _ => rfl, fun _ => ⟨rfl, Or.inl ⟨rfl, rfl, rfl, rfl⟩⟩⟩
  show b_aggregated F (tab_truth F n) (setF rs 92 v) (nI y) k = _
  unfold b_aggregated
  rw [sF_n (show (97 : Nat) ≠ 92 by decide), sF_n (show (93 : Nat) ≠ 92 by decide)]
  exact q

/-! words -/
def swK (x : Nat) : Nat := ([99, 99, 37, 0, 1, 32, 33, 34, 35, 26, 30, 31, 19, 36, 38, 99, 25, 20, 21, 22, 23, 24, 27, 28, 29, 17, 2, 18, 3, 4, 5, 6, 7, 8, 9, 10, 11, 12, 13, 14, 15, 16] : List Nat).getD x 99
def swP (k : Nat) : Nat := ([0, 7, 16, 21, 26, 31, 34, 40, 46, 49, 56, 62, 66, 73, 83, 89, 94, 100, 103, 108, 113, 118, 123, 128, 132, 135, 139, 144, 147, 151, 154, 159, 165, 171, 175, 179, 183, 188, 198] : List Nat).getD k 0
def swL (k : Nat) : Nat := ([6, 8, 4, 4, 4, 2, 5, 5, 2, 6, 5, 3, 6, 9, 5, 4, 5, 2, 4, 4, 4, 4, 4, 3, 2, 3, 4, 2, 3, 2, 4, 5, 5, 3, 3, 3, 4, 9, 4] : List Nat).getD k 0
theorem sw_x : ∀ x, x < 42 → swK x < 39 → (soB x).length ≤ 12 ∧ 1 ≤ (soB x).length ∧ zwn (soC x) 0 (soB x).length = tn (swK x) ∧ ∀ j, j < (soB x).length → zwc (soC x j) := by
  unfold zwc zlt zdg
  decide +kernel
theorem sw_p : ∀ k, k < 39 → 1 ≤ swL k ∧ swP k + swL k + 1 < 204 ∧ soC 15 (swP k) = 32 ∧ soC 15 (swP k + swL k + 1) = 32 ∧ zwn (soC 15) (swP k + 1) (swL k) = tn k ∧ ∀ j, j < swL k → zwc (soC 15 (swP k + 1 + j)) := by
  unfold zwc zlt zdg
  decide +kernel
theorem sw_m : ∀ k, k < 204 → ∀ l, l < 13 → (1 ≤ l ∧ k + l + 1 < 204 ∧ soC 15 k = 32 ∧ soC 15 (k + l + 1) = 32 ∧ ∀ j, j < l → ¬ soC 15 (k + 1 + j) = 32) → ∃ q, q < 39 ∧ tn q = zwn (soC 15) (k + 1) l := by
  decide +kernel
theorem tn_inj : ∀ i, i < 39 → ∀ j, j < 39 → tn i = tn j → i = j := by decide +kernel
def zbm (c : Int32) : Nat := (c.toInt + 128).toNat
theorem so_b0 : ∀ x, x < 42 → ∀ j, j < (soB x).length → zbm (soC x j) < 256 ∧ soC x j = nI (zbm (soC x j)) - 128 := by decide +kernel
theorem so_b (x : Nat) (hx : x < 42) (j : Nat) (hj : j < (soB x).length) : zisB (soC x j) := ⟨_, (so_b0 x hx j hj).1, (so_b0 x hx j hj).2⟩
def zinv (k : Nat) : Int32 := if k ≤ 26 then nI (96 + k) else nI (21 + k)
theorem zinv_of : ∀ m, m < 256 → zwc (nI m - 128) → nI m - 128 = zinv (zcN (nI m - 128)) := by
  unfold zwc zlt zdg zinv zcN zlc
  decide +kernel
theorem zinv_k {c : Int32} (hb : zisB c) (h : zwc c) : c = zinv (zcN c) := by
  obtain ⟨m, hm, rfl⟩ := hb
  exact zinv_of m hm h
theorem zwn_inj {f g : Nat → Int32} {p q : Nat} : ∀ (l m : Nat), (∀ j, j < l → 1 ≤ zcN (f (p + j)) ∧ zcN (f (p + j)) ≤ 36) → (∀ j, j < m → 1 ≤ zcN (g (q + j)) ∧ zcN (g (q + j)) ≤ 36) → zwn f p l = zwn g q m → l = m ∧ ∀ j, j < l → zcN (f (p + j)) = zcN (g (q + j))
  | 0, 0, _, _, _ => ⟨rfl, fun j hj => by omega⟩
  | 0, m + 1, _, h2, e => by
    have e : 0 = 37 * zwn g q m + zcN (g (q + m)) := e
    have := h2 m (by omega)
    omega
  | l + 1, 0, h1, _, e => by
    have e : 37 * zwn f p l + zcN (f (p + l)) = 0 := e
    have := h1 l (by omega)
    omega
  | l + 1, m + 1, h1, h2, e => by
    have e : 37 * zwn f p l + zcN (f (p + l)) = 37 * zwn g q m + zcN (g (q + m)) := e
    have a := h1 l (by omega)
    have b := h2 m (by omega)
    have hz : zwn f p l = zwn g q m := by omega
    have hc : zcN (f (p + l)) = zcN (g (q + m)) := by omega
    obtain ⟨e1, e2⟩ := zwn_inj l m (fun j hj => h1 j (by omega)) (fun j hj => h2 j (by omega)) hz
    refine ⟨by omega, fun j hj => ?_⟩
    by_cases w : j = l
    · rw [w, hc, e1]
    · exact e2 j (by omega)
/-- two words have one number where they are one word -/
theorem zwn_eq {f g : Nat → Int32} {p q l m : Nat} (bf : ∀ j, j < l → zisB (f (p + j))) (bg : ∀ j, j < m → zisB (g (q + j))) (wf : ∀ j, j < l → zwc (f (p + j))) (wg : ∀ j, j < m → zwc (g (q + j))) : zwn f p l = zwn g q m ↔ l = m ∧ ∀ j, j < l → f (p + j) = g (q + j) := by
  constructor
  · intro e
    obtain ⟨e1, e2⟩ := zwn_inj l m (fun j hj => (cN_k (bf j hj) (wf j hj)).2) (fun j hj => (cN_k (bg j hj) (wg j hj)).2) e
    refine ⟨e1, fun j hj => ?_⟩
    rw [zinv_k (bf j hj) (wf j hj), zinv_k (bg j (by omega)) (wg j (by omega)), e2 j hj]
  · rintro ⟨e1, e2⟩
    subst e1
    have : ∀ m, m ≤ l → zwn f p m = zwn g q m := by
      intro m
      induction m with
      | zero => intro _; rfl
      | succ m ih =>
        intro hm
        show 37 * zwn f p m + zcN (f (p + m)) = 37 * zwn g q m + zcN (g (q + m))
        rw [ih (by omega), e2 m (by omega)]
    exact this l (Nat.le_refl _)
/-- a word of the reference's text -/
def WD (n : Nat) (f : Nat → Int32) (i p l : Nat) (rs : RS) : Prop := (n ≤ 2000) ∧ (i < 2001) ∧ (∀ k, k < n → rs.2.2.1 2 k = f k) ∧ (∀ k, k < n → zisB (f k)) ∧ (rs.2.2.1 14 i = 1) ∧ (rs.2.2.1 15 i = nI p) ∧ (rs.2.2.1 16 i = nI l) ∧ (1 ≤ l) ∧ (l ≤ 12) ∧ (p + l ≤ n) ∧ (∀ j, j < l → zwc (f (p + j)))
theorem WD.n2 {n : Nat} {f : Nat → Int32} {i p l : Nat} {rs : RS} (h : WD n f i p l rs) : n ≤ 2000 := h.1
theorem WD.i2 {n : Nat} {f : Nat → Int32} {i p l : Nat} {rs : RS} (h : WD n f i p l rs) : i < 2001 := h.2.1
theorem WD.tx {n : Nat} {f : Nat → Int32} {i p l : Nat} {rs : RS} (h : WD n f i p l rs) : ∀ k, k < n → rs.2.2.1 2 k = f k := h.2.2.1
theorem WD.by' {n : Nat} {f : Nat → Int32} {i p l : Nat} {rs : RS} (h : WD n f i p l rs) : ∀ k, k < n → zisB (f k) := h.2.2.2.1
theorem WD.so {n : Nat} {f : Nat → Int32} {i p l : Nat} {rs : RS} (h : WD n f i p l rs) : rs.2.2.1 14 i = 1 := h.2.2.2.2.1
theorem WD.pl {n : Nat} {f : Nat → Int32} {i p l : Nat} {rs : RS} (h : WD n f i p l rs) : rs.2.2.1 15 i = nI p := h.2.2.2.2.2.1
theorem WD.ln {n : Nat} {f : Nat → Int32} {i p l : Nat} {rs : RS} (h : WD n f i p l rs) : rs.2.2.1 16 i = nI l := h.2.2.2.2.2.2.1
theorem WD.l1 {n : Nat} {f : Nat → Int32} {i p l : Nat} {rs : RS} (h : WD n f i p l rs) : 1 ≤ l := h.2.2.2.2.2.2.2.1
theorem WD.l2 {n : Nat} {f : Nat → Int32} {i p l : Nat} {rs : RS} (h : WD n f i p l rs) : l ≤ 12 := h.2.2.2.2.2.2.2.2.1
theorem WD.pn {n : Nat} {f : Nat → Int32} {i p l : Nat} {rs : RS} (h : WD n f i p l rs) : p + l ≤ n := h.2.2.2.2.2.2.2.2.2.1
theorem WD.wc {n : Nat} {f : Nat → Int32} {i p l : Nat} {rs : RS} (h : WD n f i p l rs) : ∀ j, j < l → zwc (f (p + j)) := h.2.2.2.2.2.2.2.2.2.2
theorem it_loop {F n i p l x : Nat} {f : Nat → Int32} {rs : RS} (h : WD n f i p l rs) (hx : (soB x).length = l) : ∀ (u k : Nat), k ≤ l → l - k < u → (∀ j, j < k → f (p + j) = soC x j) → ∃ b : Int32, m_isText_L17 F rs x u (nI i) (nI k) = some b ∧ (b = 1 ∧ (∀ j, j < l → f (p + j) = soC x j) ∨ b = 0 ∧ ¬ ∀ j, j < l → f (p + j) = soC x j)
  | 0, _, _, hu, _ => by omega
  | u + 1, k, hk, hu, ha => by
    have h1 := h.l2
    have h2 := h.pn
    have h3 := h.n2
    rw [m_isText_L17, rdI_n h.i2 (by decide), ob_s, h.ln]
    by_cases q : k = l
    · subst q
      exact ⟨1, if_pos (nI_le (Nat.le_refl _) (by omega)), Or.inl ⟨rfl, ha⟩⟩
    · rw [if_neg (nI_ge (by omega) (by omega)), rdI_n h.i2 (by decide), ob_s, h.pl, nI_add, rdI_n (by omega) (by decide), ob_s, h.tx (p + k) (by omega)]
      have hch : chA x (nI k) = some (soC x k) := by
        unfold chA
        rw [hx, nI_clamp (by omega), if_neg (by have := nI_in (c := k) (N := l) (by omega) (by omega); rwa [nI_clamp (by omega)] at this)]
      rw [hch, ob_s]
      by_cases e : f (p + k) = soC x k
      · rw [if_pos e, nI_1]
        refine it_loop h hx u (k + 1) (by omega) (by omega) (fun j hj => ?_)
        by_cases w : j = k
        · rw [w]; exact e
        · exact ha j (by omega)
      · exact ⟨0, if_neg e, Or.inr ⟨rfl, fun q => e (q k (by omega))⟩⟩
theorem it_ok {F n i p l x : Nat} {f : Nat → Int32} {rs : RS} (hF : 10000 ≤ F) (h : WD n f i p l rs) (hx : x < 42) (hk : swK x < 39) : ∃ b : Int32, m_isText F rs (nI i) x = some b ∧ (b = 1 ∧ zwn f p l = tn (swK x) ∨ b = 0 ∧ zwn f p l ≠ tn (swK x)) := by
  obtain ⟨a1, a2, a3, a4⟩ := sw_x x hx hk
  have h1 := h.l2
  have h2 := h.pn
  have key : zwn f p l = tn (swK x) ↔ l = (soB x).length ∧ ∀ j, j < l → f (p + j) = soC x j := by
    have z := zwn_eq (f := f) (g := soC x) (p := p) (q := 0) (l := l) (m := (soB x).length) (fun j hj => h.by' (p + j) (by omega)) (fun j hj => by rw [Nat.zero_add]; exact so_b x hx j hj) h.wc (fun j hj => by rw [Nat.zero_add]; exact a4 j hj)
    rw [a3] at z
    rw [z]
    constructor
    · rintro ⟨e1, e2⟩
      exact ⟨e1, fun j hj => by have := e2 j hj; rwa [Nat.zero_add] at this⟩
    · rintro ⟨e1, e2⟩
      exact ⟨e1, fun j hj => by rw [Nat.zero_add]; exact e2 j hj⟩
  unfold m_isText
  rw [rdI_n h.i2 (by decide), ob_s, h.ln]
  by_cases e : l = (soB x).length
  · rw [if_pos (by rw [e])]
    obtain ⟨b, b1, b2⟩ := it_loop (F := F) h e.symm F 0 (Nat.zero_le _) (by omega) (fun j hj => by omega)
    refine ⟨b, b1, ?_⟩
    rcases b2 with ⟨q1, q2⟩ | ⟨q1, q2⟩
    · exact Or.inl ⟨q1, key.mpr ⟨e, q2⟩⟩
    · exact Or.inr ⟨q1, fun z => q2 (key.mp z).2⟩
  · rw [if_neg (fun z => e ((nI_eq (by omega) (by omega)).mp z))]
    exact ⟨0, rfl, Or.inr ⟨rfl, fun z => e (key.mp z).1⟩⟩
theorem is_loop {F n i j p q l : Nat} {f : Nat → Int32} {rs : RS} (h : WD n f i p l rs) (g : WD n f j q l rs) : ∀ (u k : Nat), k ≤ l → l - k < u → (∀ m, m < k → f (p + m) = f (q + m)) → ∃ b : Int32, m_isSame_L19 F rs u (nI i) (nI j) (nI k) = some b ∧ (b = 1 ∧ (∀ m, m < l → f (p + m) = f (q + m)) ∨ b = 0 ∧ ¬ ∀ m, m < l → f (p + m) = f (q + m))
  | 0, _, _, hu, _ => by omega
  | u + 1, k, hk, hu, ha => by
    have h1 := h.l2
    have h2 := h.pn
    have h3 := h.n2
    have g2 := g.pn
    rw [m_isSame_L19, rdI_n h.i2 (by decide), ob_s, h.ln]
    by_cases w : k = l
    · subst w
      exact ⟨1, if_pos (nI_le (Nat.le_refl _) (by omega)), Or.inl ⟨rfl, ha⟩⟩
    · rw [if_neg (nI_ge (by omega) (by omega)), rdI_n h.i2 (by decide), ob_s, h.pl, nI_add, rdI_n (by omega) (by decide), ob_s, h.tx (p + k) (by omega), rdI_n g.i2 (by decide), ob_s, g.pl, nI_add, rdI_n (by omega) (by decide), ob_s, h.tx (q + k) (by omega)]
      by_cases e : f (p + k) = f (q + k)
      · rw [if_pos e, nI_1]
        refine is_loop h g u (k + 1) (by omega) (by omega) (fun m hm => ?_)
        by_cases w : m = k
        · rw [w]; exact e
        · exact ha m (by omega)
      · exact ⟨0, if_neg e, Or.inr ⟨rfl, fun z => e (z k (by omega))⟩⟩
theorem is_ok {F n i j p q l m : Nat} {f : Nat → Int32} {rs : RS} (hF : 10000 ≤ F) (h : WD n f i p l rs) (g : WD n f j q m rs) : ∃ b : Int32, m_isSame F rs (nI i) (nI j) = some b ∧ (b = 1 ∧ zwn f p l = zwn f q m ∨ b = 0 ∧ zwn f p l ≠ zwn f q m) := by
  have h1 := h.l2
  have h2 := h.pn
  have g1 := g.l2
  have g2 := g.pn
  have key := zwn_eq (f := f) (g := f) (p := p) (q := q) (l := l) (m := m) (fun j hj => h.by' (p + j) (by omega)) (fun j hj => h.by' (q + j) (by omega)) h.wc g.wc
  unfold m_isSame
  rw [rdI_n h.i2 (by decide), ob_s, rdI_n g.i2 (by decide), ob_s, h.ln, g.ln]
  by_cases e : l = m
  · subst e
    rw [if_pos rfl]
    obtain ⟨b, b1, b2⟩ := is_loop (F := F) h g F 0 (Nat.zero_le _) (by omega) (fun j hj => by omega)
    refine ⟨b, b1, ?_⟩
    rcases b2 with ⟨q1, q2⟩ | ⟨q1, q2⟩
    · exact Or.inl ⟨q1, key.mpr ⟨rfl, q2⟩⟩
    · exact Or.inr ⟨q1, fun z => q2 (key.mp z).2⟩
  · rw [if_neg (fun z => e ((nI_eq (by omega) (by omega)).mp z))]
    exact ⟨0, rfl, Or.inr ⟨rfl, fun z => e (key.mp z).1⟩⟩
theorem ch15 {k : Nat} (h : k < 204) : chA 15 (nI k) = some (soC 15 k) := by
  unfold chA
  rw [show (soB 15).length = 204 by decide +kernel, nI_clamp (by omega), if_neg (by have := nI_in (c := k) (N := 204) (by omega) (by omega); rwa [nI_clamp (by omega)] at this)]
/-- at k a taken word of l letters stands that is the word -/
def TM (f : Nat → Int32) (p l k : Nat) : Prop := soC 15 k = 32 ∧ soC 15 (k + l + 1) = 32 ∧ ∀ j, j < l → f (p + j) = soC 15 (k + 1 + j)
theorem tk_in {F n i p l k : Nat} {f : Nat → Int32} {rs : RS} {rc : Int32 → Int32 → Int32 → Option Int32} (h : WD n f i p l rs) (hk : k + l + 1 < 204) : ∀ (u j : Nat), j ≤ l → l - j < u → (∀ m, m < j → f (p + m) = soC 15 (k + 1 + m)) → m_isTaken_L57 F rs rc u (nI i) (nI l) (nI k) 1 (nI j) = (if ∀ m, m < l → f (p + m) = soC 15 (k + 1 + m) then some 1 else rc (nI i) (nI l) (nI (k + 1)))
  | 0, _, _, hu, _ => by omega
  | u + 1, j, hj, hu, ha => by
    have h1 := h.l2
    have h2 := h.pn
    have h3 := h.n2
    rw [m_isTaken_L57]
    unfold m_isTaken_b110 m_isTaken_b117 m_isTaken_b102
    by_cases w : j = l
    · subst w
      rw [if_pos (nI_le (Nat.le_refl _) (by omega)), if_neg (by decide), if_pos ha]
    · rw [if_neg (nI_ge (by omega) (by omega)), if_neg (by decide), rdI_n h.i2 (by decide), ob_s, h.pl, nI_add, rdI_n (by omega) (by decide), ob_s, h.tx (p + j) (by omega), nI_1, nI_1, nI_add, ch15 (by omega), ob_s]
      by_cases e : f (p + j) = soC 15 (k + 1 + j)
      · rw [if_pos e]
        exact tk_in h hk u (j + 1) (by omega) (by omega) (fun m hm => by
          by_cases w : m = j
          · rw [w]; exact e
          · exact ha m (by omega))
      · rw [if_neg e, if_neg (fun z => e (z j (by omega)))]
        obtain ⟨v, rfl⟩ : ∃ v, u = v + 1 := ⟨u - 1, by omega⟩
        rw [m_isTaken_L57]
        unfold m_isTaken_b110 m_isTaken_b117
        by_cases w2 : j + 1 = l
        · rw [if_pos (nI_le (by omega) (by omega)), if_pos rfl, nI_1]
        · rw [if_neg (nI_ge (by omega) (by omega)), if_pos rfl, if_pos rfl, nI_1]
theorem tk_loop {F n i p l : Nat} {f : Nat → Int32} {rs : RS} (hF : 10000 ≤ F) (h : WD n f i p l rs) : ∀ (u k : Nat), k ≤ 204 → 204 - k < u → ∃ b : Int32, m_isTaken_L9 F rs u (nI i) (nI l) (nI k) = some b ∧ (b = 1 ∧ (∃ q, k ≤ q ∧ q + l + 1 < 204 ∧ TM f p l q) ∨ b = 0 ∧ ¬ ∃ q, k ≤ q ∧ q + l + 1 < 204 ∧ TM f p l q)
  | 0, _, _, hu => by omega
  | u + 1, k, hk, hu => by
    have h1 := h.l2
    rw [m_isTaken_L9, show (soB 15).length = 204 by decide +kernel, nI_add, nI_1]
    by_cases q : k + l + 1 < 204
    · obtain ⟨b, e1, e2⟩ := tk_loop hF h u (k + 1) (by omega) (by omega)
      rw [if_neg (nI_ge q (by omega)), ch15 (by omega), ob_s]
      have no : ¬ TM f p l k → ∃ b : Int32, m_isTaken_L9 F rs u (nI i) (nI l) (nI (k + 1)) = some b ∧ (b = 1 ∧ (∃ q, k ≤ q ∧ q + l + 1 < 204 ∧ TM f p l q) ∨ b = 0 ∧ ¬ ∃ q, k ≤ q ∧ q + l + 1 < 204 ∧ TM f p l q) := fun hn => by
        refine ⟨b, e1, ?_⟩
        rcases e2 with ⟨g1, q, g2, g3, g4⟩ | ⟨g1, g2⟩
        · exact Or.inl ⟨g1, q, by omega, g3, g4⟩
        · refine Or.inr ⟨g1, fun ⟨q, w1, w2, w3⟩ => ?_⟩
          by_cases w : q = k
          · subst w; exact hn w3
          · exact g2 ⟨q, by omega, w2, w3⟩
      unfold m_isTaken_b117
      rw [nI_1]
      by_cases s1 : soC 15 k = 32
      · rw [if_pos s1, ch15 q, ob_s]
        by_cases s2 : soC 15 (k + l + 1) = 32
        · rw [if_pos s2, show (0 : Int32) = nI 0 from rfl, tk_in h q F 0 (Nat.zero_le _) (by omega) (fun m hm => by omega)]
          by_cases s3 : ∀ m, m < l → f (p + m) = soC 15 (k + 1 + m)
          · rw [if_pos s3]
            exact ⟨1, rfl, Or.inl ⟨rfl, k, Nat.le_refl _, q, s1, s2, s3⟩⟩
          · rw [if_neg s3]
            exact no (fun z => s3 z.2.2)
        · rw [if_neg s2]
          exact no (fun z => s2 z.2.1)
      · rw [if_neg s1]
        exact no (fun z => s1 z.1)
    · rw [if_pos (nI_le (by omega) (by omega))]
      exact ⟨0, rfl, Or.inr ⟨rfl, fun ⟨q, w1, w2, w3⟩ => by omega⟩⟩
theorem n32 : ¬ zwc 32 := by unfold zwc zlt zdg; decide
theorem tk_ok {F n i p l : Nat} {f : Nat → Int32} {rs : RS} (hF : 10000 ≤ F) (h : WD n f i p l rs) : ∃ b : Int32, m_isTaken F rs (nI i) = some b ∧ (b = 1 ∧ (∃ q, q < 39 ∧ tn q = zwn f p l) ∨ b = 0 ∧ ∀ q, q < 39 → tn q ≠ zwn f p l) := by
  have h1 := h.l2
  have h2 := h.pn
  obtain ⟨b, e1, e2⟩ := tk_loop (F := F) hF h F 0 (by omega) (by omega)
  unfold m_isTaken
  rw [rdI_n h.i2 (by decide), ob_s, h.ln, show (0 : Int32) = nI 0 from rfl]
  refine ⟨b, e1, ?_⟩
  have b15 : ∀ j, j < 204 → zisB (soC 15 j) := fun j hj => so_b 15 (by decide) j (by rw [show (soB 15).length = 204 by decide +kernel]; exact hj)
  rcases e2 with ⟨g1, k, -, g3, g4, g5, g6⟩ | ⟨g1, g2⟩
  · have w : ∀ j, j < l → zwc (soC 15 (k + 1 + j)) := fun j hj => by rw [← g6 j hj]; exact h.wc j hj
    obtain ⟨q, q1, q2⟩ := sw_m k (by omega) l (by omega) ⟨h.l1, g3, g4, g5, fun j hj z => n32 (by rw [← z]; exact w j hj)⟩
    refine Or.inl ⟨g1, q, q1, ?_⟩
    rw [q2]
    exact ((zwn_eq (f := f) (g := soC 15) (p := p) (q := k + 1) (l := l) (m := l) (fun j hj => h.by' (p + j) (by omega)) (fun j hj => b15 _ (by omega)) h.wc w).mpr ⟨rfl, g6⟩).symm
  · refine Or.inr ⟨g1, fun q hq e => g2 ?_⟩
    obtain ⟨p1, p2, p3, p4, p5, p6⟩ := sw_p q hq
    rw [← p5] at e
    obtain ⟨w1, w2⟩ := (zwn_eq (f := soC 15) (g := f) (p := swP q + 1) (q := p) (l := swL q) (m := l) (fun j hj => b15 _ (by omega)) (fun j hj => h.by' (p + j) (by omega)) p6 h.wc).mp e
    refine ⟨swP q, Nat.zero_le _, by omega, p3, by rw [← w1]; exact p4, fun j hj => (w2 j (by omega)).symm⟩

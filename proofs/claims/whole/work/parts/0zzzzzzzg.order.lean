/-! rows in order -/
def ovk (x : OV) : Int := match x with
  | none => -9223372036854775809
  | some v => v.toInt
theorem ovk_lo (v : Int64) : (-9223372036854775808 : Int) ≤ v.toInt := Int64.le_toInt v
theorem ovk_inj (x y : OV) (h : ovk x = ovk y) : x = y := by
  cases x with
  | none =>
    cases y with
    | none => rfl
    | some b =>
      have h' : (-9223372036854775809 : Int) = b.toInt := h
      have := ovk_lo b
      omega
  | some a =>
    cases y with
    | none =>
      have h' : a.toInt = (-9223372036854775809 : Int) := h
      have := ovk_lo a
      omega
    | some b => rw [Int64.toInt.inj (show a.toInt = b.toInt from h)]
theorem cmpO_le {x y : OV} : (0 : Int32) ≤ cmpO x y ↔ ovk y ≤ ovk x := by
  cases x with
  | none =>
    cases y with
    | none => exact ⟨fun _ => Int.le_refl _, fun _ => show (0 : Int32) ≤ 0 by decide⟩
    | some b =>
      have := ovk_lo b
      exact ⟨fun h => absurd h (show ¬ (0 : Int32) ≤ -1 by decide), fun h => absurd (show b.toInt ≤ (-9223372036854775809 : Int) from h) (by omega)⟩
  | some a =>
    cases y with
    | none =>
      have := ovk_lo a
      exact ⟨fun _ => show (-9223372036854775809 : Int) ≤ a.toInt by omega, fun _ => show (0 : Int32) ≤ 1 by decide⟩
    | some b =>
      show (0 : Int32) ≤ (if b ≤ a then (if a ≤ b then (0 : Int32) else 1) else -1) ↔ b.toInt ≤ a.toInt
      by_cases q1 : b ≤ a
      · rw [if_pos q1]
        refine ⟨fun _ => Int64.le_iff_toInt_le.mp q1, fun _ => ?_⟩
        by_cases q2 : a ≤ b
        · rw [if_pos q2]; decide
        · rw [if_neg q2]; decide
      · rw [if_neg q1]
        exact ⟨fun h => absurd h (by decide), fun h => absurd (Int64.le_iff_toInt_le.mpr h) q1⟩
theorem cmpO_ge {x y : OV} : cmpO x y ≤ (0 : Int32) ↔ ovk x ≤ ovk y := by
  cases x with
  | none =>
    cases y with
    | none => exact ⟨fun _ => Int.le_refl _, fun _ => show (0 : Int32) ≤ 0 by decide⟩
    | some b =>
      have := ovk_lo b
      exact ⟨fun _ => show (-9223372036854775809 : Int) ≤ b.toInt by omega, fun _ => show (-1 : Int32) ≤ 0 by decide⟩
  | some a =>
    cases y with
    | none =>
      have := ovk_lo a
      exact ⟨fun h => absurd h (show ¬ (1 : Int32) ≤ 0 by decide), fun h => absurd (show a.toInt ≤ (-9223372036854775809 : Int) from h) (by omega)⟩
    | some b =>
      show (if b ≤ a then (if a ≤ b then (0 : Int32) else 1) else -1) ≤ (0 : Int32) ↔ a.toInt ≤ b.toInt
      by_cases q1 : b ≤ a
      · rw [if_pos q1]
        by_cases q2 : a ≤ b
        · rw [if_pos q2]
          exact ⟨fun _ => Int64.le_iff_toInt_le.mp q2, fun _ => by decide⟩
        · rw [if_neg q2]
          exact ⟨fun h => absurd h (by decide), fun h => absurd (Int64.le_iff_toInt_le.mpr h) q2⟩
      · rw [if_neg q1]
        refine ⟨fun _ => ?_, fun _ => by decide⟩
        have : ¬ b.toInt ≤ a.toInt := fun h => q1 (Int64.le_iff_toInt_le.mpr h)
        omega
def lexI : List Int → List Int → Bool
  | [], [] => false
  | [], _ :: _ => true
  | _ :: _, [] => false
  | x :: xs, y :: ys => if x = y then lexI xs ys else decide (x < y)
theorem lex_ir : ∀ (a : List Int), lexI a a = false
  | [] => rfl
  | x :: xs => by
    show (if x = x then lexI xs xs else decide (x < x)) = false
    rw [if_pos rfl]
    exact lex_ir xs
theorem lex_tr : ∀ (a b d : List Int), lexI a b = true → lexI b d = true → lexI a d = true
  | [], [], _, h, _ => by cases h
  | [], _ :: _, [], _, h => by cases h
  | [], _ :: _, _ :: _, _, _ => rfl
  | _ :: _, [], _, h, _ => by cases h
  | _ :: _, _ :: _, [], _, h => by cases h
  | x :: xs, y :: ys, z :: zs, h, g => by
    have h' : (if x = y then lexI xs ys else decide (x < y)) = true := h
    have g' : (if y = z then lexI ys zs else decide (y < z)) = true := g
    show (if x = z then lexI xs zs else decide (x < z)) = true
    by_cases q1 : x = y
    · rw [if_pos q1] at h'
      by_cases q2 : y = z
      · rw [if_pos q2] at g'
        rw [if_pos (q1.trans q2)]
        exact lex_tr xs ys zs h' g'
      · rw [if_neg q2] at g'
        have g2 := of_decide_eq_true g'
        rw [if_neg (by omega)]
        exact decide_eq_true (by omega)
    · rw [if_neg q1] at h'
      have h2 := of_decide_eq_true h'
      by_cases q2 : y = z
      · rw [if_neg (by omega)]
        exact decide_eq_true (by omega)
      · rw [if_neg q2] at g'
        have g2 := of_decide_eq_true g'
        rw [if_neg (by omega)]
        exact decide_eq_true (by omega)
theorem lex_tri : ∀ (a b : List Int), lexI a b = false → lexI b a = false → a = b
  | [], [], _, _ => rfl
  | [], _ :: _, h, _ => by cases h
  | _ :: _, [], _, h => by cases h
  | x :: xs, y :: ys, h, g => by
    have h' : (if x = y then lexI xs ys else decide (x < y)) = false := h
    have g' : (if y = x then lexI ys xs else decide (y < x)) = false := g
    by_cases q1 : x = y
    · rw [if_pos q1] at h'
      rw [if_pos q1.symm] at g'
      rw [q1, lex_tri xs ys h' g']
    · rw [if_neg q1] at h'
      rw [if_neg (fun w => q1 w.symm)] at g'
      have h2 := of_decide_eq_false h'
      have g2 := of_decide_eq_false g'
      omega
theorem lex_le {a b d : List Int} (h : lexI b a = false) (g : lexI d b = false) : lexI d a = false := by
  cases e : lexI d a with
  | false => rfl
  | true =>
    cases e2 : lexI a b with
    | false =>
      have q := lex_tri _ _ e2 h
      rw [q] at e
      rw [e] at g
      cases g
    | true =>
      rw [lex_tr _ _ _ e e2] at g
      cases g
theorem cmpL_lex : ∀ (a b : List OV), a.length = b.length → ((0 : Int32) ≤ cmpL a b ↔ lexI (a.map ovk) (b.map ovk) = false)
  | [], [], _ => ⟨fun _ => rfl, fun _ => show (0 : Int32) ≤ 0 by decide⟩
  | [], _ :: _, h => by cases h
  | _ :: _, [], h => by cases h
  | x :: xs, y :: ys, h => by
    have ih := cmpL_lex xs ys (Nat.succ.inj h)
    show (0 : Int32) ≤ (if cmpO x y = 0 then cmpL xs ys else cmpO x y) ↔ (if ovk x = ovk y then lexI (xs.map ovk) (ys.map ovk) else decide (ovk x < ovk y)) = false
    by_cases q : cmpO x y = 0
    · rw [if_pos q, if_pos (by rw [cmpO_0.mp q]), ih]
    · have q2 : ¬ ovk x = ovk y := fun w => q (cmpO_0.mpr (ovk_inj _ _ w))
      rw [if_neg q, if_neg q2, cmpO_le]
      exact ⟨fun w => decide_eq_false (by omega), fun w => by have := of_decide_eq_false w; omega⟩
/-- a row put into its place -/
def insK (K : List OV → List Int) (x : List OV) : LL → LL
  | [] => [x]
  | y :: ys => if lexI (K y) (K x) = true then y :: insK K x ys else x :: y :: ys
def srtK (K : List OV → List Int) (l : LL) : LL := l.foldr (insK K) []
def SRT (K : List OV → List Int) (l : LL) : Prop := l.Pairwise (fun a b => lexI (K b) (K a) = false)
theorem ins_perm {K : List OV → List Int} {x : List OV} : ∀ (l : LL), (insK K x l).Perm (x :: l)
  | [] => List.Perm.refl _
  | y :: ys => by
    show (if lexI (K y) (K x) = true then y :: insK K x ys else x :: y :: ys).Perm (x :: y :: ys)
    by_cases q : lexI (K y) (K x) = true
    · rw [if_pos q]
      exact ((ins_perm ys).cons y).trans (List.Perm.swap x y ys)
    · rw [if_neg q]
theorem ins_srt {K : List OV → List Int} {x : List OV} : ∀ (l : LL), SRT K l → SRT K (insK K x l)
  | [], _ => List.pairwise_cons.mpr ⟨fun _ h => (by cases h), List.Pairwise.nil⟩
  | y :: ys, h => by
    obtain ⟨h1, h2⟩ := List.pairwise_cons.mp h
    show SRT K (if lexI (K y) (K x) = true then y :: insK K x ys else x :: y :: ys)
    by_cases q : lexI (K y) (K x) = true
    · rw [if_pos q]
      refine List.pairwise_cons.mpr ⟨fun z hz => ?_, ins_srt ys h2⟩
      rcases List.mem_cons.mp ((ins_perm ys).mem_iff.mp hz) with w | w
      · rw [w]
        cases e : lexI (K x) (K y) with
        | false => rfl
        | true =>
          have := lex_tr _ _ _ q e
          rw [lex_ir] at this
          cases this
      · exact h1 z w
    · rw [if_neg q]
      have q' : lexI (K y) (K x) = false := by
        cases e : lexI (K y) (K x) with
        | false => rfl
        | true => exact absurd e q
      refine List.pairwise_cons.mpr ⟨fun z hz => ?_, h⟩
      rcases List.mem_cons.mp hz with w | w
      · rw [w]; exact q'
      · exact lex_le q' (h1 z w)
theorem srt_perm {K : List OV → List Int} : ∀ (l : LL), (srtK K l).Perm l
  | [] => List.Perm.refl _
  | x :: xs => (ins_perm (srtK K xs)).trans ((srt_perm xs).cons x)
theorem srt_srt {K : List OV → List Int} : ∀ (l : LL), SRT K (srtK K l)
  | [] => List.Pairwise.nil
  | x :: xs => ins_srt _ (srt_srt xs)
theorem srt_uniq {K : List OV → List Int} (inj : ∀ x y, K x = K y → x = y) {l k : LL} (h : l.Perm k) (h1 : SRT K l) (h2 : SRT K k) : l = k :=
  List.Perm.eq_of_pairwise (le := fun a b => lexI (K b) (K a) = false) (fun a b _ _ p q => inj a b (lex_tri _ _ q p)) h1 h2 h
theorem srt_congr {K : List OV → List Int} (inj : ∀ x y, K x = K y → x = y) {l k : LL} (h : l.Perm k) : srtK K l = srtK K k := srt_uniq inj ((srt_perm l).trans (h.trans (srt_perm k).symm)) (srt_srt l) (srt_srt k)
theorem srt_min {K : List OV → List Int} (inj : ∀ x y, K x = K y → x = y) {l k : LL} {p : List OV} (h : l.Perm (p :: k)) (hp : ∀ y, y ∈ k → lexI (K y) (K p) = false) : srtK K l = p :: srtK K k := by
  refine srt_uniq inj ((srt_perm l).trans (h.trans ((srt_perm k).symm.cons p))) (srt_srt l) ?_
  exact List.pairwise_cons.mpr ⟨fun y hy => hp y ((srt_perm k).mem_iff.mp hy), srt_srt k⟩
/-- what a row is ordered by: keys, then the row itself -/
def okey (n : Nat) (dn : Nat → Int32) (val : Nat → List OV → OV) (L : List OV) : List Int := (List.range n).map (fun j => if dn j = 0 then ovk (val j L) else -ovk (val j L)) ++ L.map ovk
theorem okey_inj {n : Nat} {dn : Nat → Int32} {val : Nat → List OV → OV} (x y : List OV) (h : okey n dn val x = okey n dn val y) : x = y := by
  have q := List.append_inj_right h (by rw [List.length_map, List.length_map])
  exact (List.map_inj_right ovk_inj).mp q
/-- the rows behind order by and limit -/
def ordL (n : Nat) (dn : Nat → Int32) (val : Nat → List OV → OV) (lim : Nat) (rows : LL) : LL := (srtK (okey n dn val) rows).take lim

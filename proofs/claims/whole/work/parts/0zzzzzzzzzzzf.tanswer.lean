/-! an answer in both -/
theorem chP_pos {P Q : LL} {z : List OV × Nat} (h : z ∈ chP P Q) : 1 ≤ z.2 ∧ z.2 ≤ P.length := by
  unfold chP at h
  obtain ⟨L, l1, l2⟩ := List.mem_map.mp h
  have l3 := of_decide_eq_true (List.mem_filter.mp l1).2
  have l4 := List.count_le_length (a := L) (l := P)
  rw [← l2]
  show 1 ≤ P.count L - Q.count L ∧ P.count L - Q.count L ≤ P.length
  omega
/-- what the class and the reference have told of changes -/
def CHM (S0 S : LL) (C : CCT) (CH : CHT) : Prop := C.length = CH.length ∧ ∀ t, t < C.length → (C.getD t (0, 0)).2 = (CH.getD t ([], 0)).2 ∧ ((C.getD t (0, 0)).2 < 0 → (C.getD t (0, 0)).1 < S0.length ∧ S0.getD (C.getD t (0, 0)).1 [] = (CH.getD t ([], 0)).1) ∧ (¬ (C.getD t (0, 0)).2 < 0 → (C.getD t (0, 0)).1 < S.length ∧ S.getD (C.getD t (0, 0)).1 [] = (CH.getD t ([], 0)).1)
theorem neg_nI {m : Nat} (h1 : 1 ≤ m) (h2 : m ≤ 600) : -(nI m) < 0 := by
  have e : (nI m).toInt = m := nI_toInt (by omega)
  rw [Int32.lt_iff_toInt_lt, Int32.toInt_neg, e]
  have : (-(m : Int)).bmod (2 ^ 32) = -(m : Int) := Int.bmod_eq_of_le (by omega) (by omega)
  rw [this]
  show -(m : Int) < 0
  omega
theorem get_app {α : Type} {A E : List α} {t : Nat} {d : α} : (A ++ E).getD t d = if t < A.length then A.getD t d else E.getD (t - A.length) d := by
  by_cases q : t < A.length
  · rw [if_pos q, List.getD_eq_getElem?_getD, List.getElem?_append_left q, ← List.getD_eq_getElem?_getD]
  · rw [if_neg q, List.getD_eq_getElem?_getD, List.getElem?_append_right (by omega), ← List.getD_eq_getElem?_getD]
theorem get_map {α β : Type} {A : List α} {g : α → β} {t : Nat} {d : α} {e : β} (h : t < A.length) : (A.map g).getD t e = g (A.getD t d) := by
  rw [List.getD_eq_getElem?_getD, List.getElem?_map, List.getElem?_eq_getElem h, List.getD_eq_getElem?_getD, List.getElem?_eq_getElem h]
  rfl
theorem getD_mem {α : Type} {A : List α} {t : Nat} {d : α} (h : t < A.length) : A.getD t d ∈ A := by
  rw [List.getD_eq_getElem?_getD, List.getElem?_eq_getElem h]
  exact List.getElem_mem h
theorem chm_one {A : LL} {D1 : CCT} {P : List (List OV × Nat)} {sg : Nat → Int32} (h : D1.map (fun z => (A.getD z.1 [], z.2)) = P.map (fun z => (z.1, sg z.2))) : D1.length = P.length ∧ ∀ t, t < D1.length → ∃ z, z ∈ P ∧ (D1.getD t (0, 0)).2 = sg z.2 ∧ A.getD (D1.getD t (0, 0)).1 [] = z.1 ∧ (P.map (fun z => (z.1, sg z.2))).getD t ([], 0) = (z.1, sg z.2) := by
  have l : D1.length = P.length := by
    have e := congrArg List.length h
    rw [List.length_map, List.length_map] at e
    exact e
  refine ⟨l, fun t ht => ?_⟩
  have e1 : (D1.map (fun z => (A.getD z.1 [], z.2))).getD t ([], 0) = (A.getD (D1.getD t (0, 0)).1 [], (D1.getD t (0, 0)).2) := get_map ht
  have e2 : (P.map (fun z => (z.1, sg z.2))).getD t ([], 0) = ((P.getD t ([], 0)).1, sg (P.getD t ([], 0)).2) := get_map (by omega)
  rw [h, e2] at e1
  obtain ⟨q1, q2⟩ := Prod.mk.inj e1
  exact ⟨P.getD t ([], 0), getD_mem (by omega), q2.symm, q1.symm, e2⟩
theorem chm_of {S0 S : LL} {D1 D2 : CCT} (h0 : S0.length ≤ 600) (h1 : S.length ≤ 600) (i1 : D1.map (fun z => (S0.getD z.1 [], z.2)) = (chP S0 S).map (fun z => (z.1, (-1) * nI z.2))) (i2 : ∀ z, z ∈ D1 → z.1 < S0.length) (i3 : D2.map (fun z => (S.getD z.1 [], z.2)) = (chP S S0).map (fun z => (z.1, 1 * nI z.2))) (i4 : ∀ z, z ∈ D2 → z.1 < S.length) : CHM S0 S (D1 ++ D2) (chgs S0 S) := by
  obtain ⟨l1, a1⟩ := chm_one (sg := fun m => (-1) * nI m) i1
  obtain ⟨l2, a2⟩ := chm_one (sg := fun m => 1 * nI m) i3
  have eC : chgs S0 S = (chP S0 S).map (fun z => (z.1, (-1) * nI z.2)) ++ (chP S S0).map (fun z => (z.1, 1 * nI z.2)) := by
    unfold chgs outD
    rw [if_neg (by decide), if_pos rfl]
    congr 1
    · refine List.map_congr_left (fun z _ => ?_)
      rw [Int32.neg_mul, Int32.one_mul]
    · refine List.map_congr_left (fun z _ => ?_)
      rw [Int32.one_mul]
  rw [eC]
  refine ⟨by rw [List.length_append, List.length_append, List.length_map, List.length_map, l1, l2], fun t ht => ?_⟩
  rw [List.length_append] at ht
  rw [get_app, get_app, List.length_map, ← l1]
  by_cases q : t < D1.length
  · rw [if_pos q, if_pos q]
    obtain ⟨z, z1, z2, z3, z4⟩ := a1 t q
    have p := chP_pos z1
    rw [z4]
    refine ⟨z2, fun _ => ⟨i2 _ (getD_mem q), z3⟩, fun w => absurd ?_ w⟩
    rw [z2]
    show (-1) * nI z.2 < 0
    rw [Int32.neg_mul, Int32.one_mul]
    exact neg_nI p.1 (by omega)
  · rw [if_neg q, if_neg q]
    obtain ⟨z, z1, z2, z3, z4⟩ := a2 (t - D1.length) (by omega)
    have p := chP_pos z1
    rw [z4]
    refine ⟨z2, fun w => absurd w ?_, fun _ => ⟨i4 _ (getD_mem (by omega)), z3⟩⟩
    rw [z2]
    show ¬ 1 * nI z.2 < 0
    rw [Int32.one_mul]
    exact nI_pos (by omega)
/-- an answer that stands, in both -/
def ARL (w a2 a3 a4 : Nat) (od : Bool) (S0 R S : LL) (C : CCT) (CH : CHT) (cs : CS) (rs : RS) : Prop := (kI cs 395 0 = nI S.length) ∧ (RWS a2 0 w R cs) ∧ (RWS a3 0 w S cs) ∧ (RWS a4 0 w S0 cs) ∧ (∃ M, CCS M C cs ∧ C.length ≤ M ∧ M ≤ 1024) ∧ (kL cs 397 0 = kL cs 396 0) ∧ (8 ≤ kL cs 396 0) ∧ (kL cs 396 0 ≤ 2400) ∧ (rs.1 100 = nI S.length) ∧ (rs.1 101 = nI w) ∧ (rs.1 104 = nI S.length) ∧ (RWA 105 106 w S rs) ∧ (RWA 102 103 w (if od = true then R else S) rs) ∧ (CHS w CH rs) ∧ (CHM S0 S C CH) ∧ (∀ L, L ∈ S → L.length = w) ∧ (S.length ≤ 512) ∧ (R.length = S.length) ∧ (S0.length ≤ 512) ∧ (SRT kO S) ∧ (w ≤ 8)
theorem ARL.c5 {w a2 a3 a4 : Nat} {od : Bool} {S0 R S : LL} {C : CCT} {CH : CHT} {cs : CS} {rs : RS} (h : ARL w a2 a3 a4 od S0 R S C CH cs rs) : kI cs 395 0 = nI S.length := h.1
theorem ARL.r2 {w a2 a3 a4 : Nat} {od : Bool} {S0 R S : LL} {C : CCT} {CH : CHT} {cs : CS} {rs : RS} (h : ARL w a2 a3 a4 od S0 R S C CH cs rs) : RWS a2 0 w R cs := h.2.1
theorem ARL.r3 {w a2 a3 a4 : Nat} {od : Bool} {S0 R S : LL} {C : CCT} {CH : CHT} {cs : CS} {rs : RS} (h : ARL w a2 a3 a4 od S0 R S C CH cs rs) : RWS a3 0 w S cs := h.2.2.1
theorem ARL.r4 {w a2 a3 a4 : Nat} {od : Bool} {S0 R S : LL} {C : CCT} {CH : CHT} {cs : CS} {rs : RS} (h : ARL w a2 a3 a4 od S0 R S C CH cs rs) : RWS a4 0 w S0 cs := h.2.2.2.1
theorem ARL.cc {w a2 a3 a4 : Nat} {od : Bool} {S0 R S : LL} {C : CCT} {CH : CHT} {cs : CS} {rs : RS} (h : ARL w a2 a3 a4 od S0 R S C CH cs rs) : ∃ M, CCS M C cs ∧ C.length ≤ M ∧ M ≤ 1024 := h.2.2.2.2.1
theorem ARL.le {w a2 a3 a4 : Nat} {od : Bool} {S0 R S : LL} {C : CCT} {CH : CHT} {cs : CS} {rs : RS} (h : ARL w a2 a3 a4 od S0 R S C CH cs rs) : kL cs 397 0 = kL cs 396 0 := h.2.2.2.2.2.1
theorem ARL.l8 {w a2 a3 a4 : Nat} {od : Bool} {S0 R S : LL} {C : CCT} {CH : CHT} {cs : CS} {rs : RS} (h : ARL w a2 a3 a4 od S0 R S C CH cs rs) : 8 ≤ kL cs 396 0 := h.2.2.2.2.2.2.1
theorem ARL.lu {w a2 a3 a4 : Nat} {od : Bool} {S0 R S : LL} {C : CCT} {CH : CHT} {cs : CS} {rs : RS} (h : ARL w a2 a3 a4 od S0 R S C CH cs rs) : kL cs 396 0 ≤ 2400 := h.2.2.2.2.2.2.2.1
theorem ARL.x0 {w a2 a3 a4 : Nat} {od : Bool} {S0 R S : LL} {C : CCT} {CH : CHT} {cs : CS} {rs : RS} (h : ARL w a2 a3 a4 od S0 R S C CH cs rs) : rs.1 100 = nI S.length := h.2.2.2.2.2.2.2.2.1
theorem ARL.x1 {w a2 a3 a4 : Nat} {od : Bool} {S0 R S : LL} {C : CCT} {CH : CHT} {cs : CS} {rs : RS} (h : ARL w a2 a3 a4 od S0 R S C CH cs rs) : rs.1 101 = nI w := h.2.2.2.2.2.2.2.2.2.1
theorem ARL.x4 {w a2 a3 a4 : Nat} {od : Bool} {S0 R S : LL} {C : CCT} {CH : CHT} {cs : CS} {rs : RS} (h : ARL w a2 a3 a4 od S0 R S C CH cs rs) : rs.1 104 = nI S.length := h.2.2.2.2.2.2.2.2.2.2.1
theorem ARL.ws {w a2 a3 a4 : Nat} {od : Bool} {S0 R S : LL} {C : CCT} {CH : CHT} {cs : CS} {rs : RS} (h : ARL w a2 a3 a4 od S0 R S C CH cs rs) : RWA 105 106 w S rs := h.2.2.2.2.2.2.2.2.2.2.2.1
theorem ARL.wa {w a2 a3 a4 : Nat} {od : Bool} {S0 R S : LL} {C : CCT} {CH : CHT} {cs : CS} {rs : RS} (h : ARL w a2 a3 a4 od S0 R S C CH cs rs) : RWA 102 103 w (if od = true then R else S) rs := h.2.2.2.2.2.2.2.2.2.2.2.2.1
theorem ARL.ch {w a2 a3 a4 : Nat} {od : Bool} {S0 R S : LL} {C : CCT} {CH : CHT} {cs : CS} {rs : RS} (h : ARL w a2 a3 a4 od S0 R S C CH cs rs) : CHS w CH rs := h.2.2.2.2.2.2.2.2.2.2.2.2.2.1
theorem ARL.cm {w a2 a3 a4 : Nat} {od : Bool} {S0 R S : LL} {C : CCT} {CH : CHT} {cs : CS} {rs : RS} (h : ARL w a2 a3 a4 od S0 R S C CH cs rs) : CHM S0 S C CH := h.2.2.2.2.2.2.2.2.2.2.2.2.2.2.1
theorem ARL.lS {w a2 a3 a4 : Nat} {od : Bool} {S0 R S : LL} {C : CCT} {CH : CHT} {cs : CS} {rs : RS} (h : ARL w a2 a3 a4 od S0 R S C CH cs rs) : ∀ L, L ∈ S → L.length = w := h.2.2.2.2.2.2.2.2.2.2.2.2.2.2.2.1
theorem ARL.l6 {w a2 a3 a4 : Nat} {od : Bool} {S0 R S : LL} {C : CCT} {CH : CHT} {cs : CS} {rs : RS} (h : ARL w a2 a3 a4 od S0 R S C CH cs rs) : S.length ≤ 512 := h.2.2.2.2.2.2.2.2.2.2.2.2.2.2.2.2.1
theorem ARL.lR {w a2 a3 a4 : Nat} {od : Bool} {S0 R S : LL} {C : CCT} {CH : CHT} {cs : CS} {rs : RS} (h : ARL w a2 a3 a4 od S0 R S C CH cs rs) : R.length = S.length := h.2.2.2.2.2.2.2.2.2.2.2.2.2.2.2.2.2.1
theorem ARL.l0 {w a2 a3 a4 : Nat} {od : Bool} {S0 R S : LL} {C : CCT} {CH : CHT} {cs : CS} {rs : RS} (h : ARL w a2 a3 a4 od S0 R S C CH cs rs) : S0.length ≤ 512 := h.2.2.2.2.2.2.2.2.2.2.2.2.2.2.2.2.2.2.1
theorem ARL.so {w a2 a3 a4 : Nat} {od : Bool} {S0 R S : LL} {C : CCT} {CH : CHT} {cs : CS} {rs : RS} (h : ARL w a2 a3 a4 od S0 R S C CH cs rs) : SRT kO S := h.2.2.2.2.2.2.2.2.2.2.2.2.2.2.2.2.2.2.2.1
theorem ARL.w8 {w a2 a3 a4 : Nat} {od : Bool} {S0 R S : LL} {C : CCT} {CH : CHT} {cs : CS} {rs : RS} (h : ARL w a2 a3 a4 od S0 R S C CH cs rs) : w ≤ 8 := h.2.2.2.2.2.2.2.2.2.2.2.2.2.2.2.2.2.2.2.2
theorem KPN.stf {c k ar m : Nat} {a b : CS} {rs : RS} (f : STF c ar m a b) (h : ar < 38) : KPN c k a rs b rs := ⟨f.em, fun x j h1 _ _ h3 => f.fr x j (by omega) (by omega), fun x j _ h1 _ => f.pl x j (by omega), fun x j h1 h2 _ => f.fr x j (by omega) (by omega), fun _ _ => rfl, fun _ _ _ _ => ⟨rfl, rfl, rfl⟩⟩
theorem KPN.gfr {c k : Nat} {a b : CS} {rs : RS} (f : CFR c 0 a b) : KPN c k a rs b rs := ⟨f.em, fun x j h1 _ _ h3 => f.fr x j (by omega) (by omega), fun x j _ h1 _ => f.pl x j (by omega), fun x j h1 h2 _ => f.fr x j (by omega) (by omega), fun _ _ => rfl, fun _ _ _ _ => ⟨rfl, rfl, rfl⟩⟩
/-- what an answer leaves alone in the reference -/
def RNW (rs rs9 : RS) : Prop := rs9.2.1 = rs.2.1 ∧ ∀ q, ¬ (85 ≤ q ∧ q ≤ 114) → rs9.1 q = rs.1 q ∧ rs9.2.2.1 q = rs.2.2.1 q ∧ rs9.2.2.2 q = rs.2.2.2 q
theorem od_iff {F n : Nat} {f : Nat → Int32} {M t c cap K k s lf S Q oq : Nat} {V : VT} {D : Nat → Prop} {csH cs : CS} {rsH rs : RS} {ar : Nat} (h : TXG F n f M t c cap K k s lf S Q oq ar V D csH rsH) (g : KPN c k csH rsH cs rs) : kR cs 130 oq ≠ none ↔ rs.2.2.1 65 0 ≠ -1 := by
  obtain ⟨o1, o2, o3, o4, o5, o6⟩ := h.od
  obtain ⟨w0, w⟩ : S ≤ S ∧ QRY (QR XJ n f M c s S Q csH rsH 12) XJ n f M c s 0 S 0 Q K k oq 0 csH rsH := h.qr
  obtain ⟨d1, d2⟩ := w.od
  rw [(g.at' 130 oq (by omega) d2 (by omega) (by omega)).r, (g.fr 65 (by omega) (by omega) (by omega)).2.1]
  rcases w.or' with ⟨h1, h2, -⟩ | ⟨oc, m', h1, -, -, -, -, -, -, h8, -⟩
  · rw [h1, h2]
    exact ⟨fun z => absurd rfl z, fun z => absurd rfl z⟩
  · rw [h1]
    exact ⟨fun _ => h8, fun _ z => (by cases z)⟩
theorem ans_now {F n : Nat} {f : Nat → Int32} {M t c cap K k s lf S Q oq : Nat} {V : VT} {D : Nat → Prop} {csH cs : CS} {rsH rs : RS} {r w il a1 a2 a3 a4 nst so no : Nat} {tb : Bool} {S' : LL} (h : TXG F n f M t c cap K k s lf S Q oq a1 V D csH rsH) (g : KPN c k csH rsH cs rs) (bs : Bas cs) (st : ST nst cs rs) (s5 : ∀ d, nst ≤ d → d ≤ 9 → rs.2.2.1 5 d = 0) (f9 : ∀ i, rs.2.2.1 9 i = 0 ∨ rs.2.2.1 9 i = 1) (fb : ∀ i, rs.2.2.1 86 i = 0 ∨ rs.2.2.1 86 i = 1) (z97 : rs.1 97 = 0) (r81 : rs.1 81 ≠ 0) (an : ANX t r oq il w a1 a2 a3 a4 cs) (rn : RUN r c a1 cs) (r160 : kR cs 160 r = some 2) (ne : a1 ≠ a2 ∧ a1 ≠ a3 ∧ a1 ≠ a4 ∧ a2 ≠ a3 ∧ a2 ≠ a4 ∧ a3 ≠ a4) (a38 : a1 < 38 ∧ a2 < 38 ∧ a3 < 38 ∧ a4 < 38) (b1 : STS a1 280000 cs) (b2 : STS a2 10000 cs) (b3 : STS a3 10000 cs) (b4 : STS a4 10000 cs) (cc : CCS 0 [] cs) (le : kL cs 397 0 = kL cs 396 0) (l8 : 8 ≤ kL cs 396 0) (lu : kL cs 396 0 ≤ 2400) (hS : RWS a3 0 w S' cs) (h395 : tb = true → kI cs 395 0 = nI S'.length) (s6 : S'.length ≤ 512) (so' : SRT kO S') (lS : ∀ L, L ∈ S' → L.length = w) (x4 : rs.1 104 = nI so) (x1 : rs.1 101 = nI no) (hso : so * no ≤ 4800) (f6 : ∀ j, j < so * no → rs.2.2.1 106 j = 0 ∨ rs.2.2.1 106 j = 1) (told : tb = true → so = S'.length ∧ no = w ∧ RWA 105 106 w S' rs) (nt : tb = false → S' = []) : ∃ c9 rs9 od R C CH, c_X11_answer F cs 0 (if tb = true then 1 else 0) = some c9 ∧ m_renew F rs (if tb = true then 1 else 0) = some rs9 ∧ ARL w a2 a3 a4 od S' R (srtK kO R) C CH c9 rs9 ∧ (od = true ↔ kR cs 130 oq ≠ none) ∧ (tb = false → CH = []) ∧ GFR cs c9 ∧ STS a1 280000 c9 ∧ STS a2 10000 c9 ∧ STS a3 10000 c9 ∧ STS a4 10000 c9 ∧ RMF a1 a2 a3 a4 cs c9 ∧ RNW rs rs9 ∧ (∀ i, rs9.2.2.1 86 i = 0 ∨ rs9.2.2.1 86 i = 1) ∧ rs9.1 97 = 0 := by
  obtain ⟨n12, n13, n14, n23, n24, n34⟩ := id ne
  obtain ⟨q1, q2, q3, q4⟩ := a38
  have w8 := an.ic.m8
  have sw : S'.length * w ≤ 512 * 8 := mul_up s6 w8
  obtain ⟨o1, o2, o3, o4, o5, o6⟩ := h.od
  -- before
  obtain ⟨c1, e1, t4, f1, r4⟩ := ans_1 (F := F) (tb := tb) (S := S') (n0 := if tb = true then S'.length else 0) an n34 b4 b3 (by omega) hS h395 rfl (by omega)
  have eT : S'.take (if tb = true then S'.length else 0) = S' := by
    by_cases z : tb = true
    · rw [if_pos z, List.take_length]
    · rw [if_neg z, nt (by cases tb with
        | false => rfl
        | true => exact absurd rfl z)]
      rfl
  have eL : (if tb = true then S'.length else 0) = S'.length := by
    by_cases z : tb = true
    · rw [if_pos z]
    · rw [if_neg z, nt (by cases tb with
        | false => rfl
        | true => exact absurd rfl z)]
      rfl
  rw [eT] at r4
  rw [eL] at e1
  have fc := f1 c
  have an1 := an.gf fc.gf
  have g1 := g.trans (KPN.stf (k := k) fc q4)
  have bs1 := bs.cf fc.cf
  have st1 := st.cf fc.cf
  have rn1 : RUN r c a1 c1 := ⟨fc.em _ rn.o, fc.em _ rn.oc, by rw [(fc.fr 161 r (by omega) (by omega)).r]; exact rn.cd, by rw [(fc.fr 162 r (by omega) (by omega)).r]; exact rn.sp⟩
  have t1 := b1.of fc n14
  have t2 := b2.of fc n24
  have t3 := b3.of fc n34
  have cc1 := cc.stf fc
  have l6 : kL c1 396 0 = kL cs 396 0 := (fc.fr 396 0 (by omega) (by omega)).l
  have l7 : kL c1 397 0 = kL cs 397 0 := (fc.fr 397 0 (by omega) (by omega)).l
  obtain ⟨w', it, e0, j1, j2, j3, j4, j5, j6, C, kn, rc, rr, p1, p2, p3, p4, p5, p6⟩ := jp_now (B := 280000) h g1 (by omega) bs1 st1 s5 rn1 (by rw [(fc.fr 160 r (by omega) (by omega)).r]; exact r160)
  have eit : it = il := Option.some.inj (j1.symm.trans an1.im)
  rw [eit] at j2
  have ew : w' = w := j2.same an1.ic
  rw [ew] at p1 p2 p5
  have ln := p6.le
  have lc' := p3.length_eq
  have rw2 : rc.length * w ≤ 512 * 8 := mul_up (by omega) w8
  have run := p2 300 (by omega) c1 0 CFR.refl t1 (by omega) (Nat.zero_le _)
  obtain ⟨c9, e9, A, t9, gf9, rm9⟩ := ans_2 (F := F) (tb := tb) (S0 := S') (R := rc) (B := 10000) (B1 := 280000) (c := c) h.hF an1 ne t2 t3 t4 (by omega) w8 run (by omega) (by omega) r4 (by omega) so' cc1 (by omega) (by omega) (by omega)
  -- the reference
  obtain ⟨X0, hX0⟩ : ∃ z, z = setF (setF rs 87 0) 91 0 := ⟨_, rfl⟩
  have fr0 : FR rS rs X0 := by
    rw [hX0]
    exact (FR.setF (by unfold rS; omega)).trans (FR.setF (by unfold rS; omega))
  have z0 : X0.1 97 = 0 := by
    rw [hX0]
    exact z97
  have st0 : RST 0 0 X0 := by
    rw [hX0]
    exact ⟨rfl, rfl, by omega, by omega, fb⟩
  have cb : C ≤ 315844 ∧ kn ≤ 279 := by
    unfold CBQ at p6
    omega
  obtain ⟨X, r', b', U', N', v1, v2, v3, -⟩ := PQ.run h.hF f9 13 0 w C kn rr p1 300 (by omega) X0 0 0 fr0 z0 st0 (by omega) (by omega)
  have frX : FR rS rs X := fr0.trans v3.fr
  have oi := od_iff h g
  obtain ⟨od, hod⟩ : ∃ z : Bool, z = decide (rs.2.2.1 65 0 ≠ -1) := ⟨_, rfl⟩
  have od1 : od = true ↔ rs.2.2.1 65 0 ≠ -1 := by
    rw [hod]
    exact decide_eq_true_iff
  have k65 : X.2.2.1 65 = rs.2.2.1 65 := frX.a (by unfold rS; omega)
  obtain ⟨Z, u1, u2, u3, u4, u5, u6, u7, u8, u9⟩ := renew_ok (F := F) (told := if tb = true then 1 else 0) (od := od) h.hF r81 (by rw [← hX0]; exact v1) v2 w8 (by omega) (by rw [frX.f (k := 104) (by unfold rS; omega)]; exact x4) (by rw [frX.f (k := 101) (by unfold rS; omega)]; exact x1) hso (fun j hj => by rw [frX.a (k := 106) (by unfold rS; omega)]; exact f6 j hj) (by rw [k65]; exact od1)
  have eS : srtK kO rr = srtK kO rc := (srt_congr kO_inj p3).symm
  have lr : (srtK kO rr).length = rr.length := (srt_perm rr).length_eq
  have lrc : (srtK kO rc).length = rc.length := (srt_perm rc).length_eq
  have eA : (if od = true then rr else srtK kO rr) = (if od = true then rc else srtK kO rc) := by
    by_cases z : od = true
    · rw [if_pos z, if_pos z]
      refine (p4 ?_).symm
      rw [(fc.fr 130 oq (by omega) (by omega)).r]
      exact oi.mpr (od1.mp z)
    · rw [if_neg z, if_neg z, eS]
  have lSc : ∀ L, L ∈ srtK kO rc → L.length = w := fun L hL => (p5 L ((srt_perm rc).mem_iff.mp hL)).1
  have rnz : RNW rs Z := ⟨u9.1.trans (frX.1.resolve_left (by unfold rS; omega)), fun q hq => by
    obtain ⟨y1, y2, y3⟩ := u9.2 q (by omega) (by omega)
    exact ⟨y1.trans (frX.f (by unfold rS; omega)), y2.trans (frX.a (by unfold rS; omega)), y3.trans (frX.l (by unfold rS; omega))⟩⟩
  have z86 : ∀ i, Z.2.2.1 86 i = 0 ∨ Z.2.2.1 86 i = 1 := fun i => by
    rw [(u9.2 86 (by omega) (by omega)).2.1]
    exact v2.st.fb i
  have z97' : Z.1 97 = 0 := (u9.2 97 (by omega) (by omega)).1.trans v2.z97
  -- changes
  have fin : ∃ rs9 CC CH, m_renew F rs (if tb = true then 1 else 0) = some rs9 ∧ (∃ M, CCS M CC c9 ∧ CC.length ≤ M ∧ M ≤ 1024) ∧ CHS w CH rs9 ∧ CHM S' (srtK kO rc) CC CH ∧ (tb = false → CH = []) ∧ (∀ q, ¬ (110 ≤ q ∧ q ≤ 113) → rs9.1 q = Z.1 q ∧ rs9.2.2.1 q = Z.2.2.1 q ∧ rs9.2.2.2 q = Z.2.2.2 q) ∧ rs9.2.1 = Z.2.1 := by
    obtain ⟨M', D1, D2, m1, ⟨ml, mu⟩, m2, m3⟩ := A.ch
    by_cases z : tb = true
    · obtain ⟨s1', s2', s3'⟩ := told z
      obtain ⟨i1, i2, i3, i4⟩ := m3 z
      have dst : DST w S' (srtK kO rc) (setF Z 110 0) := by
        refine ⟨?_, ?_, ?_, fun i kk hi hk => ?_, ?_, lS, lSc, w8, by omega, by rw [lrc]; omega⟩
        · show Z.1 101 = nI w
          exact u3
        · show Z.1 107 = nI S'.length
          rw [u5, s1']
        · show Z.1 104 = nI (srtK kO rc).length
          rw [u4, lrc, lc']
        · have hj : w * i + kk < so * no := by
            rw [s1', s2', Nat.mul_comm S'.length w]
            have := Nat.mul_le_mul_left w (show i + 1 ≤ S'.length from hi)
            rw [Nat.mul_add, Nat.mul_one] at this
            omega
          obtain ⟨y1, y2⟩ := u8 _ hj
          have y := s3' i kk hi hk
          refine ⟨?_, ?_⟩
          · show Z.2.2.1 109 (w * i + kk) = _
            rw [y1, frX.a (k := 106) (by unfold rS; omega)]
            exact y.1
          · show Z.2.2.2 108 (w * i + kk) = _
            rw [y2, frX.l (k := 105) (by unfold rS; omega)]
            exact y.2
        · rw [eS] at u6
          exact u6
      obtain ⟨Y, y1, y2, y3⟩ := dif_ok (F := F) h.hF so' (srt_srt rc) dst (by
        exact sF_s)
      refine ⟨Y, D1 ++ D2, chgs S' (srtK kO rc), ?_, ⟨M', m1, ml, by omega⟩, y3, chm_of (by omega) (by rw [lrc]; omega) i1 i2 i3 (fun zz hz => by rw [lrc]; exact i4 zz hz), fun w' => absurd z (by rw [w']; decide), fun q hq => ⟨?_, ?_, ?_⟩, y2.wt⟩
      · rw [u1]
        unfold rfin
        rw [if_pos z, if_neg (by decide)]
        exact y1
      · rw [y2.f1 q (by omega)]
        exact pk_un (by omega)
      · rw [y2.ar q (by omega) (by omega)]
        rfl
      · rw [y2.ll q (by omega)]
        rfl
    · have zf : tb = false := by
        cases tb with
        | false => rfl
        | true => exact absurd rfl z
      obtain ⟨d1, d2⟩ := m2 zf
      rw [d1, d2] at m1
      refine ⟨setF Z 110 0, [], [], ?_, ⟨M', m1, Nat.zero_le _, by omega⟩, ⟨sF_s, fun t ht => absurd ht (Nat.not_lt_zero _), fun i kk hi _ => absurd hi (Nat.not_lt_zero _)⟩, ⟨rfl, fun t ht => absurd ht (Nat.not_lt_zero _)⟩, fun _ => rfl, fun q hq => ⟨pk_un (by omega), rfl, rfl⟩, rfl⟩
      rw [u1]
      unfold rfin
      rw [if_neg z, if_pos rfl]
      rfl
  obtain ⟨rs9, CC, CH, n1, n2, n3, n4, n5, n6, n7⟩ := fin
  have mv : ∀ a b nn (L : LL), ¬ (110 ≤ a ∧ a ≤ 113) → ¬ (110 ≤ b ∧ b ≤ 113) → RWA a b nn L Z → RWA a b nn L rs9 := fun a b nn L ha hb hz i kk hi hk => by
    obtain ⟨y1, y2⟩ := hz i kk hi hk
    exact ⟨by rw [(n6 b hb).2.1]; exact y1, by rw [(n6 a ha).2.2]; exact y2⟩
  rw [eA] at u7
  rw [eS] at u6
  refine ⟨c9, rs9, od, rc, CC, CH, by rw [e1]; exact e9, n1, ⟨by rw [lrc]; exact A.c5, A.r2, A.r3, A.r4, n2, A.le, A.l8, A.lu, by rw [(n6 100 (by omega)).1, u2, lrc, lc'], by rw [(n6 101 (by omega)).1]; exact u3, by rw [(n6 104 (by omega)).1, u4, lrc, lc'], mv 105 106 w _ (by omega) (by omega) u6, mv 102 103 w _ (by omega) (by omega) u7, n3, n4, lSc, by rw [lrc]; omega, lrc.symm, s6, srt_srt rc, w8⟩, od1.trans oi.symm, n5, fc.gf.trans gf9, t9, A.b2, A.b3, A.b4, (fc.rm ne (Or.inr (Or.inr (Or.inr rfl)))).trans rm9, ⟨n7.trans rnz.1, fun q hq => ?_⟩, fun i => by rw [(n6 86 (by omega)).2.1]; exact z86 i, (n6 97 (by omega)).1.trans z97'⟩
  obtain ⟨y1, y2, y3⟩ := n6 q (by omega)
  obtain ⟨y4, y5, y6⟩ := rnz.2 q hq
  exact ⟨y1.trans y4, y2.trans y5, y3.trans y6⟩

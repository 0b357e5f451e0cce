/-! an aggregate, from behind its argument -/
def AC (n : Nat) (f : Nat → Int32) (M t c cap q sel i z s : Nat) (cs : CS) (rs : RS) (u : Int32) (k i1 s1 : Nat) (cs1 : CS) (rs1 : RS) : Prop := (JT n f M t c i1 cs1 rs1) ∧ (kI cs1 329 t = nI (z + 1)) ∧ (rs1.1 70 = nI (z + 1)) ∧ (z < 12) ∧ (kI cs1 64 c = nI s1) ∧ (rs1.1 22 = nI s1) ∧ (s ≤ s1) ∧ (s1 ≤ i1) ∧ (s1 ≤ 120) ∧ (i < i1) ∧ (s1 + i ≤ s + i1) ∧ (cap = 120 ∨ (cap = n ∧ n ≤ 120)) ∧ (CA c cap cs1) ∧ (kI cs1 331 t = 1) ∧ (rs1.1 72 = 1 ∧ rs1.1 73 = 0) ∧ (kR cs1 330 t = some q) ∧ ((6, q) ∈ kE cs1) ∧ ((234, q) ∈ kE cs1) ∧ (∃ j, kP cs1 202 q = some j) ∧ (kL cs1 202 q = 12) ∧ (rs1.1 71 = nI sel) ∧ (sel < 60) ∧ (k < 12) ∧ (kI cs1 203 q = nI k) ∧ (rs1.2.2.1 42 sel = nI (k + 1)) ∧ (k = 0 → rs1.2.2.1 43 sel = u) ∧ (0 < k → ∃ x, x < s ∧ kA cs1 202 q 0 = nI x ∧ rs1.2.2.1 43 sel = kA cs1 66 c x ∧ rs1.2.2.1 43 sel ≠ -1) ∧ (u ≠ -1) ∧ (u = kA cs 353 9 i) ∧ (∀ x, x < s → VW c cs1 rs1 x = VW c cs rs x) ∧ (FO (PX t c q) cs cs1) ∧ (FR eR rs rs1) ∧ (∀ x, AM q cs x → AM q cs1 x) ∧ (∀ x, s ≤ x → x < s1 → vk (VW c cs1 rs1) x = 39 → COL n f M (VW c cs1 rs1) x cs1 rs1) ∧ (∀ x, s ≤ x → x < s1 → ¬ AGN (VW c cs1 rs1) x) ∧ (∀ j, j ≠ sel → rs1.2.2.1 42 j = rs.2.2.1 42 j ∧ rs1.2.2.1 43 j = rs.2.2.1 43 j) ∧ (AXS c q cs cs1) ∧ (rs.1 73 = 0) ∧ (∀ j, j < k → ∃ x, x < s ∧ kA cs1 202 q j = nI x ∧ AGC (kA cs1 65 c x))
theorem AC.j {n : Nat} {f : Nat → Int32} {M t c cap q sel i z s : Nat} {cs : CS} {rs : RS} {u : Int32} {k i1 s1 : Nat} {cs1 : CS} {rs1 : RS} (h : AC n f M t c cap q sel i z s cs rs u k i1 s1 cs1 rs1) : JT n f M t c i1 cs1 rs1 := h.1
theorem AC.cz {n : Nat} {f : Nat → Int32} {M t c cap q sel i z s : Nat} {cs : CS} {rs : RS} {u : Int32} {k i1 s1 : Nat} {cs1 : CS} {rs1 : RS} (h : AC n f M t c cap q sel i z s cs rs u k i1 s1 cs1 rs1) : kI cs1 329 t = nI (z + 1) := h.2.1
theorem AC.rz {n : Nat} {f : Nat → Int32} {M t c cap q sel i z s : Nat} {cs : CS} {rs : RS} {u : Int32} {k i1 s1 : Nat} {cs1 : CS} {rs1 : RS} (h : AC n f M t c cap q sel i z s cs rs u k i1 s1 cs1 rs1) : rs1.1 70 = nI (z + 1) := h.2.2.1
theorem AC.z2 {n : Nat} {f : Nat → Int32} {M t c cap q sel i z s : Nat} {cs : CS} {rs : RS} {u : Int32} {k i1 s1 : Nat} {cs1 : CS} {rs1 : RS} (h : AC n f M t c cap q sel i z s cs rs u k i1 s1 cs1 rs1) : z < 12 := h.2.2.2.1
theorem AC.cn {n : Nat} {f : Nat → Int32} {M t c cap q sel i z s : Nat} {cs : CS} {rs : RS} {u : Int32} {k i1 s1 : Nat} {cs1 : CS} {rs1 : RS} (h : AC n f M t c cap q sel i z s cs rs u k i1 s1 cs1 rs1) : kI cs1 64 c = nI s1 := h.2.2.2.2.1
theorem AC.rn {n : Nat} {f : Nat → Int32} {M t c cap q sel i z s : Nat} {cs : CS} {rs : RS} {u : Int32} {k i1 s1 : Nat} {cs1 : CS} {rs1 : RS} (h : AC n f M t c cap q sel i z s cs rs u k i1 s1 cs1 rs1) : rs1.1 22 = nI s1 := h.2.2.2.2.2.1
theorem AC.ss {n : Nat} {f : Nat → Int32} {M t c cap q sel i z s : Nat} {cs : CS} {rs : RS} {u : Int32} {k i1 s1 : Nat} {cs1 : CS} {rs1 : RS} (h : AC n f M t c cap q sel i z s cs rs u k i1 s1 cs1 rs1) : s ≤ s1 := h.2.2.2.2.2.2.1
theorem AC.si {n : Nat} {f : Nat → Int32} {M t c cap q sel i z s : Nat} {cs : CS} {rs : RS} {u : Int32} {k i1 s1 : Nat} {cs1 : CS} {rs1 : RS} (h : AC n f M t c cap q sel i z s cs rs u k i1 s1 cs1 rs1) : s1 ≤ i1 := h.2.2.2.2.2.2.2.1
theorem AC.s2 {n : Nat} {f : Nat → Int32} {M t c cap q sel i z s : Nat} {cs : CS} {rs : RS} {u : Int32} {k i1 s1 : Nat} {cs1 : CS} {rs1 : RS} (h : AC n f M t c cap q sel i z s cs rs u k i1 s1 cs1 rs1) : s1 ≤ 120 := h.2.2.2.2.2.2.2.2.1
theorem AC.il {n : Nat} {f : Nat → Int32} {M t c cap q sel i z s : Nat} {cs : CS} {rs : RS} {u : Int32} {k i1 s1 : Nat} {cs1 : CS} {rs1 : RS} (h : AC n f M t c cap q sel i z s cs rs u k i1 s1 cs1 rs1) : i < i1 := h.2.2.2.2.2.2.2.2.2.1
theorem AC.le {n : Nat} {f : Nat → Int32} {M t c cap q sel i z s : Nat} {cs : CS} {rs : RS} {u : Int32} {k i1 s1 : Nat} {cs1 : CS} {rs1 : RS} (h : AC n f M t c cap q sel i z s cs rs u k i1 s1 cs1 rs1) : s1 + i ≤ s + i1 := h.2.2.2.2.2.2.2.2.2.2.1
theorem AC.cp {n : Nat} {f : Nat → Int32} {M t c cap q sel i z s : Nat} {cs : CS} {rs : RS} {u : Int32} {k i1 s1 : Nat} {cs1 : CS} {rs1 : RS} (h : AC n f M t c cap q sel i z s cs rs u k i1 s1 cs1 rs1) : cap = 120 ∨ (cap = n ∧ n ≤ 120) := h.2.2.2.2.2.2.2.2.2.2.2.1
theorem AC.ca {n : Nat} {f : Nat → Int32} {M t c cap q sel i z s : Nat} {cs : CS} {rs : RS} {u : Int32} {k i1 s1 : Nat} {cs1 : CS} {rs1 : RS} (h : AC n f M t c cap q sel i z s cs rs u k i1 s1 cs1 rs1) : CA c cap cs1 := h.2.2.2.2.2.2.2.2.2.2.2.2.1
theorem AC.cm {n : Nat} {f : Nat → Int32} {M t c cap q sel i z s : Nat} {cs : CS} {rs : RS} {u : Int32} {k i1 s1 : Nat} {cs1 : CS} {rs1 : RS} (h : AC n f M t c cap q sel i z s cs rs u k i1 s1 cs1 rs1) : kI cs1 331 t = 1 := h.2.2.2.2.2.2.2.2.2.2.2.2.2.1
theorem AC.rm {n : Nat} {f : Nat → Int32} {M t c cap q sel i z s : Nat} {cs : CS} {rs : RS} {u : Int32} {k i1 s1 : Nat} {cs1 : CS} {rs1 : RS} (h : AC n f M t c cap q sel i z s cs rs u k i1 s1 cs1 rs1) : rs1.1 72 = 1 ∧ rs1.1 73 = 0 := h.2.2.2.2.2.2.2.2.2.2.2.2.2.2.1
theorem AC.rq {n : Nat} {f : Nat → Int32} {M t c cap q sel i z s : Nat} {cs : CS} {rs : RS} {u : Int32} {k i1 s1 : Nat} {cs1 : CS} {rs1 : RS} (h : AC n f M t c cap q sel i z s cs rs u k i1 s1 cs1 rs1) : kR cs1 330 t = some q := h.2.2.2.2.2.2.2.2.2.2.2.2.2.2.2.1
theorem AC.oq {n : Nat} {f : Nat → Int32} {M t c cap q sel i z s : Nat} {cs : CS} {rs : RS} {u : Int32} {k i1 s1 : Nat} {cs1 : CS} {rs1 : RS} (h : AC n f M t c cap q sel i z s cs rs u k i1 s1 cs1 rs1) : (6, q) ∈ kE cs1 := h.2.2.2.2.2.2.2.2.2.2.2.2.2.2.2.2.1
theorem AC.e {n : Nat} {f : Nat → Int32} {M t c cap q sel i z s : Nat} {cs : CS} {rs : RS} {u : Int32} {k i1 s1 : Nat} {cs1 : CS} {rs1 : RS} (h : AC n f M t c cap q sel i z s cs rs u k i1 s1 cs1 rs1) : (234, q) ∈ kE cs1 := h.2.2.2.2.2.2.2.2.2.2.2.2.2.2.2.2.2.1
theorem AC.p {n : Nat} {f : Nat → Int32} {M t c cap q sel i z s : Nat} {cs : CS} {rs : RS} {u : Int32} {k i1 s1 : Nat} {cs1 : CS} {rs1 : RS} (h : AC n f M t c cap q sel i z s cs rs u k i1 s1 cs1 rs1) : ∃ j, kP cs1 202 q = some j := h.2.2.2.2.2.2.2.2.2.2.2.2.2.2.2.2.2.2.1
theorem AC.l {n : Nat} {f : Nat → Int32} {M t c cap q sel i z s : Nat} {cs : CS} {rs : RS} {u : Int32} {k i1 s1 : Nat} {cs1 : CS} {rs1 : RS} (h : AC n f M t c cap q sel i z s cs rs u k i1 s1 cs1 rs1) : kL cs1 202 q = 12 := h.2.2.2.2.2.2.2.2.2.2.2.2.2.2.2.2.2.2.2.1
theorem AC.r71 {n : Nat} {f : Nat → Int32} {M t c cap q sel i z s : Nat} {cs : CS} {rs : RS} {u : Int32} {k i1 s1 : Nat} {cs1 : CS} {rs1 : RS} (h : AC n f M t c cap q sel i z s cs rs u k i1 s1 cs1 rs1) : rs1.1 71 = nI sel := h.2.2.2.2.2.2.2.2.2.2.2.2.2.2.2.2.2.2.2.2.1
theorem AC.sl {n : Nat} {f : Nat → Int32} {M t c cap q sel i z s : Nat} {cs : CS} {rs : RS} {u : Int32} {k i1 s1 : Nat} {cs1 : CS} {rs1 : RS} (h : AC n f M t c cap q sel i z s cs rs u k i1 s1 cs1 rs1) : sel < 60 := h.2.2.2.2.2.2.2.2.2.2.2.2.2.2.2.2.2.2.2.2.2.1
theorem AC.k12 {n : Nat} {f : Nat → Int32} {M t c cap q sel i z s : Nat} {cs : CS} {rs : RS} {u : Int32} {k i1 s1 : Nat} {cs1 : CS} {rs1 : RS} (h : AC n f M t c cap q sel i z s cs rs u k i1 s1 cs1 rs1) : k < 12 := h.2.2.2.2.2.2.2.2.2.2.2.2.2.2.2.2.2.2.2.2.2.2.1
theorem AC.ck {n : Nat} {f : Nat → Int32} {M t c cap q sel i z s : Nat} {cs : CS} {rs : RS} {u : Int32} {k i1 s1 : Nat} {cs1 : CS} {rs1 : RS} (h : AC n f M t c cap q sel i z s cs rs u k i1 s1 cs1 rs1) : kI cs1 203 q = nI k := h.2.2.2.2.2.2.2.2.2.2.2.2.2.2.2.2.2.2.2.2.2.2.2.1
theorem AC.r42 {n : Nat} {f : Nat → Int32} {M t c cap q sel i z s : Nat} {cs : CS} {rs : RS} {u : Int32} {k i1 s1 : Nat} {cs1 : CS} {rs1 : RS} (h : AC n f M t c cap q sel i z s cs rs u k i1 s1 cs1 rs1) : rs1.2.2.1 42 sel = nI (k + 1) := h.2.2.2.2.2.2.2.2.2.2.2.2.2.2.2.2.2.2.2.2.2.2.2.2.1
theorem AC.k0 {n : Nat} {f : Nat → Int32} {M t c cap q sel i z s : Nat} {cs : CS} {rs : RS} {u : Int32} {k i1 s1 : Nat} {cs1 : CS} {rs1 : RS} (h : AC n f M t c cap q sel i z s cs rs u k i1 s1 cs1 rs1) : k = 0 → rs1.2.2.1 43 sel = u := h.2.2.2.2.2.2.2.2.2.2.2.2.2.2.2.2.2.2.2.2.2.2.2.2.2.1
theorem AC.k1 {n : Nat} {f : Nat → Int32} {M t c cap q sel i z s : Nat} {cs : CS} {rs : RS} {u : Int32} {k i1 s1 : Nat} {cs1 : CS} {rs1 : RS} (h : AC n f M t c cap q sel i z s cs rs u k i1 s1 cs1 rs1) : 0 < k → ∃ x, x < s ∧ kA cs1 202 q 0 = nI x ∧ rs1.2.2.1 43 sel = kA cs1 66 c x ∧ rs1.2.2.1 43 sel ≠ -1 := h.2.2.2.2.2.2.2.2.2.2.2.2.2.2.2.2.2.2.2.2.2.2.2.2.2.2.1
theorem AC.um {n : Nat} {f : Nat → Int32} {M t c cap q sel i z s : Nat} {cs : CS} {rs : RS} {u : Int32} {k i1 s1 : Nat} {cs1 : CS} {rs1 : RS} (h : AC n f M t c cap q sel i z s cs rs u k i1 s1 cs1 rs1) : u ≠ -1 := h.2.2.2.2.2.2.2.2.2.2.2.2.2.2.2.2.2.2.2.2.2.2.2.2.2.2.2.1
theorem AC.ua {n : Nat} {f : Nat → Int32} {M t c cap q sel i z s : Nat} {cs : CS} {rs : RS} {u : Int32} {k i1 s1 : Nat} {cs1 : CS} {rs1 : RS} (h : AC n f M t c cap q sel i z s cs rs u k i1 s1 cs1 rs1) : u = kA cs 353 9 i := h.2.2.2.2.2.2.2.2.2.2.2.2.2.2.2.2.2.2.2.2.2.2.2.2.2.2.2.2.1
theorem AC.kp {n : Nat} {f : Nat → Int32} {M t c cap q sel i z s : Nat} {cs : CS} {rs : RS} {u : Int32} {k i1 s1 : Nat} {cs1 : CS} {rs1 : RS} (h : AC n f M t c cap q sel i z s cs rs u k i1 s1 cs1 rs1) : ∀ x, x < s → VW c cs1 rs1 x = VW c cs rs x := h.2.2.2.2.2.2.2.2.2.2.2.2.2.2.2.2.2.2.2.2.2.2.2.2.2.2.2.2.2.1
theorem AC.fo {n : Nat} {f : Nat → Int32} {M t c cap q sel i z s : Nat} {cs : CS} {rs : RS} {u : Int32} {k i1 s1 : Nat} {cs1 : CS} {rs1 : RS} (h : AC n f M t c cap q sel i z s cs rs u k i1 s1 cs1 rs1) : FO (PX t c q) cs cs1 := h.2.2.2.2.2.2.2.2.2.2.2.2.2.2.2.2.2.2.2.2.2.2.2.2.2.2.2.2.2.2.1
theorem AC.fr {n : Nat} {f : Nat → Int32} {M t c cap q sel i z s : Nat} {cs : CS} {rs : RS} {u : Int32} {k i1 s1 : Nat} {cs1 : CS} {rs1 : RS} (h : AC n f M t c cap q sel i z s cs rs u k i1 s1 cs1 rs1) : FR eR rs rs1 := h.2.2.2.2.2.2.2.2.2.2.2.2.2.2.2.2.2.2.2.2.2.2.2.2.2.2.2.2.2.2.2.1
theorem AC.am {n : Nat} {f : Nat → Int32} {M t c cap q sel i z s : Nat} {cs : CS} {rs : RS} {u : Int32} {k i1 s1 : Nat} {cs1 : CS} {rs1 : RS} (h : AC n f M t c cap q sel i z s cs rs u k i1 s1 cs1 rs1) : ∀ x, AM q cs x → AM q cs1 x := h.2.2.2.2.2.2.2.2.2.2.2.2.2.2.2.2.2.2.2.2.2.2.2.2.2.2.2.2.2.2.2.2.1
theorem AC.co {n : Nat} {f : Nat → Int32} {M t c cap q sel i z s : Nat} {cs : CS} {rs : RS} {u : Int32} {k i1 s1 : Nat} {cs1 : CS} {rs1 : RS} (h : AC n f M t c cap q sel i z s cs rs u k i1 s1 cs1 rs1) : ∀ x, s ≤ x → x < s1 → vk (VW c cs1 rs1) x = 39 → COL n f M (VW c cs1 rs1) x cs1 rs1 := h.2.2.2.2.2.2.2.2.2.2.2.2.2.2.2.2.2.2.2.2.2.2.2.2.2.2.2.2.2.2.2.2.2.1
theorem AC.na {n : Nat} {f : Nat → Int32} {M t c cap q sel i z s : Nat} {cs : CS} {rs : RS} {u : Int32} {k i1 s1 : Nat} {cs1 : CS} {rs1 : RS} (h : AC n f M t c cap q sel i z s cs rs u k i1 s1 cs1 rs1) : ∀ x, s ≤ x → x < s1 → ¬ AGN (VW c cs1 rs1) x := h.2.2.2.2.2.2.2.2.2.2.2.2.2.2.2.2.2.2.2.2.2.2.2.2.2.2.2.2.2.2.2.2.2.2.1
theorem AC.f4 {n : Nat} {f : Nat → Int32} {M t c cap q sel i z s : Nat} {cs : CS} {rs : RS} {u : Int32} {k i1 s1 : Nat} {cs1 : CS} {rs1 : RS} (h : AC n f M t c cap q sel i z s cs rs u k i1 s1 cs1 rs1) : ∀ j, j ≠ sel → rs1.2.2.1 42 j = rs.2.2.1 42 j ∧ rs1.2.2.1 43 j = rs.2.2.1 43 j := h.2.2.2.2.2.2.2.2.2.2.2.2.2.2.2.2.2.2.2.2.2.2.2.2.2.2.2.2.2.2.2.2.2.2.2.1
theorem AC.ax {n : Nat} {f : Nat → Int32} {M t c cap q sel i z s : Nat} {cs : CS} {rs : RS} {u : Int32} {k i1 s1 : Nat} {cs1 : CS} {rs1 : RS} (h : AC n f M t c cap q sel i z s cs rs u k i1 s1 cs1 rs1) : AXS c q cs cs1 := h.2.2.2.2.2.2.2.2.2.2.2.2.2.2.2.2.2.2.2.2.2.2.2.2.2.2.2.2.2.2.2.2.2.2.2.2.1
theorem AC.o73 {n : Nat} {f : Nat → Int32} {M t c cap q sel i z s : Nat} {cs : CS} {rs : RS} {u : Int32} {k i1 s1 : Nat} {cs1 : CS} {rs1 : RS} (h : AC n f M t c cap q sel i z s cs rs u k i1 s1 cs1 rs1) : rs.1 73 = 0 := h.2.2.2.2.2.2.2.2.2.2.2.2.2.2.2.2.2.2.2.2.2.2.2.2.2.2.2.2.2.2.2.2.2.2.2.2.2.1
theorem AC.li {n : Nat} {f : Nat → Int32} {M t c cap q sel i z s : Nat} {cs : CS} {rs : RS} {u : Int32} {k i1 s1 : Nat} {cs1 : CS} {rs1 : RS} (h : AC n f M t c cap q sel i z s cs rs u k i1 s1 cs1 rs1) : ∀ j, j < k → ∃ x, x < s ∧ kA cs1 202 q j = nI x ∧ AGC (kA cs1 65 c x) := h.2.2.2.2.2.2.2.2.2.2.2.2.2.2.2.2.2.2.2.2.2.2.2.2.2.2.2.2.2.2.2.2.2.2.2.2.2.2
def kcl (F : Nat) (T : TC_X9_readExpr) (t q : Nat) (u2 u3 κ pt : Int32) (cs : CS) : Option CS := Option.bind (ckE cs 10 t) fun _ => Option.bind (c_X9_expect F cs t 42) fun cs_9 => Option.bind (gI cs_9 10 329 t) fun v_11 => Option.bind (pI cs_9 10 329 t (v_11 - 1)) fun cs_12 => c_X9_readAggregate_b159 F T cs_12 t u2 q pt u3 u3 u2 κ t
theorem AC.close {F n : Nat} {f : Nat → Int32} {M t c cap q sel i z s k i1 s1 : Nat} {T : TC_X9_readExpr} {T' : TG_expr} {cs cs1 : CS} {rs rs1 : RS} {u κ K' pt a : Int32} (h : AC n f M t c cap q sel i z s cs rs u k i1 s1 cs1 rs1) (hx : (s1 = s ∧ κ = 61 ∧ K' = 20 ∧ pt = 0) ∨ (pt = 1 ∧ s < s1 ∧ a = nI (s1 - 1) ∧ ((κ = 32 ∧ K' = 21) ∨ (κ = 33 ∧ K' = 22) ∨ (κ = 34 ∧ K' = 23) ∨ (κ = 35 ∧ K' = 24)) ∧ ∀ R, TR (VW c cs1 rs1) (s1 - s) R s (s1 - 1))) : ∃ cs' rs' m, kcl F T t q (nI s) u κ pt cs1 = some cs' ∧ m_aggregate_b195 F T' rs1 u K' a = some (rs', m) ∧ EP n f M t c cap q sel true i z s cs rs cs' (setF rs' 74 u) m := by
  have hn := h.j.needS (F := F) (q := q) (k := 42) (by decide) (by decide)
  rw [show nI 42 = 42 by decide, show st 42 = 41 by decide] at hn
  have k39 : κ ≠ 39 := by
    rcases hx with ⟨-, e, -⟩ | ⟨-, -, -, (⟨e, -⟩ | ⟨e, -⟩ | ⟨e, -⟩ | ⟨e, -⟩), -⟩ <;> rw [e] <;> decide
  unfold kcl m_aggregate_b195
  rw [ckE_ok h.j.h.o, ob_s]
  rcases hn with ⟨hi, e1, e2⟩ | ⟨cs2, rs2, e1, e2, pb, fo, fr⟩
  · rw [e1, ob_s, e2, ob_s]
    have jA := h.j.next hi
    have jB := (jA.ch (k := 329) (v := nI z) (by decide)).rh (k := 70) (v := nI z) (by unfold eR; omega)
    have czA : kI (sI cs1 328 t (nI (i1 + 1))) 329 t = nI (z + 1) := by
      show u2 (kI cs1) 328 t (nI (i1 + 1)) 329 t = _
      rw [u2_n (fun y => absurd y.1 (by decide))]
      exact h.cz
    have rzA : (setF rs1 18 (nI (i1 + 1))).1 70 = nI (z + 1) := h.rz
    rw [gI_ok jA.h.o, ob_s, czA, nI_pred, pI_ok jA.h.o, ob_s, rzA, nI_pred]
    have eI : ∀ x y, x ≠ 328 → x ≠ 329 → kI (sI (sI cs1 328 t (nI (i1 + 1))) 329 t (nI z)) x y = kI cs1 x y := fun x y a1 a2 => by
      show u2 (u2 (kI cs1) 328 t (nI (i1 + 1))) 329 t (nI z) x y = _
      rw [u2_n (fun w => a2 w.1), u2_n (fun w => a1 w.1)]
    have czB : kI (sI (sI cs1 328 t (nI (i1 + 1))) 329 t (nI z)) 329 t = nI z := u2_s
    have woB : FO (PX t c q) cs1 (sI (sI cs1 328 t (nI (i1 + 1))) 329 t (nI z)) := (FO.sI (Or.inl ⟨by decide, rfl⟩)).trans (FO.sI (Or.inl ⟨by decide, rfl⟩))
    have wrB : FR eR rs1 (setF (setF rs1 18 (nI (i1 + 1))) 70 (nI z)) := (FR.setF (by unfold eR; omega)).trans (FR.setF (by unfold eR; omega))
    have VB : VW c (sI (sI cs1 328 t (nI (i1 + 1))) 329 t (nI z)) (setF (setF rs1 18 (nI (i1 + 1))) 70 (nI z)) = VW c cs1 rs1 := rfl
    have aB : kA (sI (sI cs1 328 t (nI (i1 + 1))) 329 t (nI z)) = kA cs1 := rfl
    have RB : kR (sI (sI cs1 328 t (nI (i1 + 1))) 329 t (nI z)) = kR cs1 := rfl
    have PB' : kP (sI (sI cs1 328 t (nI (i1 + 1))) 329 t (nI z)) = kP cs1 := rfl
    have LB : kL (sI (sI cs1 328 t (nI (i1 + 1))) 329 t (nI z)) = kL cs1 := rfl
    have EB : kE (sI (sI cs1 328 t (nI (i1 + 1))) 329 t (nI z)) = kE cs1 := rfl
    have rB : (setF (setF rs1 18 (nI (i1 + 1))) 70 (nI z)).2 = rs1.2 := rfl
    have r70 : (setF (setF rs1 18 (nI (i1 + 1))) 70 (nI z)).1 70 = nI z := rfl
    have r22 : (setF (setF rs1 18 (nI (i1 + 1))) 70 (nI z)).1 22 = nI s1 := h.rn
    have r71 : (setF (setF rs1 18 (nI (i1 + 1))) 70 (nI z)).1 71 = nI sel := h.r71
    have r72 : (setF (setF rs1 18 (nI (i1 + 1))) 70 (nI z)).1 72 = 1 := h.rm.1
    have r73 : (setF (setF rs1 18 (nI (i1 + 1))) 70 (nI z)).1 73 = 0 := h.rm.2
    obtain ⟨csB, hcsB⟩ : ∃ x, x = sI (sI cs1 328 t (nI (i1 + 1))) 329 t (nI z) := ⟨_, rfl⟩
    obtain ⟨rsB, hrsB⟩ : ∃ x, x = setF (setF rs1 18 (nI (i1 + 1))) 70 (nI z) := ⟨_, rfl⟩
    rw [← hcsB] at jB eI czB woB VB aB RB PB' LB EB ⊢
    rw [← hrsB] at jB wrB VB rB r70 r22 r71 r72 r73 ⊢
    have cnB : kI csB 64 c = nI s1 := by rw [eI 64 c (by decide) (by decide)]; exact h.cn
    have caB : CA c cap csB := h.ca.fo woB
    have hm := h.j.x.mn
    have hss := h.ss
    have hsi := h.si
    have hle := h.le
    have hil := h.il
    have hk12 := h.k12
    have hcap : cap ≤ 120 := by rcases h.cp with y | y <;> omega
    by_cases y : s1 < 120
    · have hs : s1 < cap := by rcases h.cp with w | w <;> omega
      have mC := cpl_ok (F := F) (k := κ) (bg := u) (mt := u) (pt := pt) jB.h jB.f0 cnB caB hs hcap hss
      have mR := mkR_ok (F := F) (k := K') (a := a) (b := -1) (d := -1) (fs := u) (tl := u) jB.g1 r22 y
      have woC : FO (PX t c q) csB (mkC csB c s1 s κ u pt) := mkC_fo
      have wrC : FR eR rsB (mkR rsB s1 K' a (-1) (-1) u) := mkR_fr
      obtain ⟨j, hj⟩ := h.p
      have VC : ∀ x, x ≠ s1 → VW c (mkC csB c s1 s κ u pt) (mkR rsB s1 K' a (-1) (-1) u) x = VW c cs1 rs1 x := fun x hx' => by rw [mk_o hx', VB]
      have VCs : VW c (mkC csB c s1 s κ u pt) (mkR rsB s1 K' a (-1) (-1) u) s1 = ((κ, nI s, pt, u, kB csB 69 c s1, -1, -1), (K', a, -1, -1, 0, 0, u, -1, 0)) := mk_s
      have m64 : kI (mkC csB c s1 s κ u pt) 64 c = nI (s1 + 1) := mk64
      have mI : ∀ x y, x ≠ 64 → kI (mkC csB c s1 s κ u pt) x y = kI csB x y := fun x y hx' => mkI hx'
      have m66 : kA (mkC csB c s1 s κ u pt) 66 c = upd (kA csB 66 c) s1 u := mk66
      have m202 : kA (mkC csB c s1 s κ u pt) 202 q = kA csB 202 q := by simp only [mkC, kA_sA, kA_sB, kA_sI, u2, Nat.reduceEqDiff, false_and, if_false]
      have PC : kP (mkC csB c s1 s κ u pt) = kP cs1 := woC.2.2.1.trans PB'
      have LC : kL (mkC csB c s1 s κ u pt) = kL cs1 := woC.2.2.2.2.1.trans LB
      have EC : kE (mkC csB c s1 s κ u pt) = kE cs1 := woC.e.trans EB
      have RC : kR (mkC csB c s1 s κ u pt) = kR cs1 := woC.2.1.trans RB
      have shC := jB.h.fo woC
      have caC := caB.fo woC
      have r2C : (mkR rsB s1 K' a (-1) (-1) u).2.2.1 42 = rs1.2.2.1 42 := by rw [← rB]; rfl
      have r3C : (mkR rsB s1 K' a (-1) (-1) u).2.2.1 43 = rs1.2.2.1 43 := by rw [← rB]; rfl
      have q21 : (mkR rsB s1 K' a (-1) (-1) u).1 21 = 1 := jB.g1
      have q18 : (mkR rsB s1 K' a (-1) (-1) u).1 18 = nI (i1 + 1) := jB.ri
      have q70 : (mkR rsB s1 K' a (-1) (-1) u).1 70 = nI z := r70
      have q22 : (mkR rsB s1 K' a (-1) (-1) u).1 22 = nI (s1 + 1) := rfl
      have q71 : (mkR rsB s1 K' a (-1) (-1) u).1 71 = nI sel := r71
      have q72 : (mkR rsB s1 K' a (-1) (-1) u).1 72 = 1 := r72
      have q73 : (mkR rsB s1 K' a (-1) (-1) u).1 73 = 0 := r73
      obtain ⟨csC, hcsC⟩ : ∃ x, x = mkC csB c s1 s κ u pt := ⟨_, rfl⟩
      obtain ⟨rsC, hrsC⟩ : ∃ x, x = mkR rsB s1 K' a (-1) (-1) u := ⟨_, rfl⟩
      rw [← hcsC] at mC woC VC VCs m64 mI m66 m202 PC LC EC RC shC caC
      rw [← hrsC] at mR wrC VC VCs r2C r3C q21 q18 q70 q22 q71 q72 q73
      have ckC : kI csC 203 q = nI k := by rw [mI 203 q (by decide), eI 203 q (by decide) (by decide)]; exact h.ck
      have nt := note_ok (F := F) (s := s) shC caC m64 hs hcap hss (by rw [EC]; exact h.oq) (by rw [EC]; exact h.e) (by rw [PC]; exact hj) (by rw [LC]; exact h.l) ckC hk12
      have woD : FO (PX t c q) csC (ntC csC c q s s1 k) := nt_fo
      have dI : ∀ x y, x ≠ 203 → kI (ntC csC c q s s1 k) x y = kI csC x y := fun x y hx' => ntI hx'
      have d203 : kI (ntC csC c q s s1 k) 203 q = nI (k + 1) := nt203
      have d202 : kA (ntC csC c q s s1 k) 202 q = upd (kA csC 202 q) k (nI s1) := nt202
      have d66 : kA (ntC csC c q s s1 k) 66 c = kA csC 66 c := nt66
      have VDo : ∀ x, x ≠ s → VW c (ntC csC c q s s1 k) rsC x = VW c csC rsC x := fun x hx' => ntV_o hx'
      have VDe : s1 = s → ∀ x, VW c (ntC csC c q s s1 k) rsC x = VW c csC rsC x := fun w x => by rw [w]; exact ntV_e
      have VDs : s < s1 → VW c (ntC csC c q s s1 k) rsC s = _ := fun w => ntV_s w
      have amO : ∀ x, AM q csC x → AM q (ntC csC c q s s1 k) x := fun x w => ntAM_o ckC hk12 w
      have amS : AM q (ntC csC c q s s1 k) s1 := ntAM_s hk12
      have amR : ∀ x, AM q (ntC csC c q s s1 k) x → AM q csC x ∨ s1 ≤ x := fun x w => ntAM_r ckC hk12 h.s2 w
      obtain ⟨csD, hcsD⟩ : ∃ x, x = ntC csC c q s s1 k := ⟨_, rfl⟩
      rw [← hcsD] at nt woD dI d203 d202 d66 VDo VDe VDs amO amS amR
      have woT : FO (PX t c q) cs1 csD := (woB.trans woC).trans woD
      have wrT : FR eR rs1 rsC := wrB.trans wrC
      have fI : ∀ x y, x ≠ 203 → x ≠ 64 → x ≠ 328 → x ≠ 329 → kI csD x y = kI cs1 x y := fun x y a1 a2 a3 a4 => by rw [dI x y a1, mI x y a2, eI x y a3 a4]
      have ciD : kI csD 328 t = nI (i1 + 1) := by rw [dI 328 t (by decide), mI 328 t (by decide)]; exact jB.ci
      have czD : kI csD 329 t = nI z := by rw [dI 329 t (by decide), mI 329 t (by decide)]; exact czB
      have pg : PG n f M t c cap q sel true (i1 + 1) z (s1 + 1) csD rsC := by
        refine ⟨shC.fo woD, h.j.x.fo woT wrT, ?_, ciD, czD, ?_, q21, q18, q70, q22, hi, by omega, by omega, by have := h.z2; omega, h.cp, caC.fo woD, ?_, Or.inl ⟨rfl, q72, q73⟩, fun _ => ⟨?_, ?_, ?_, ?_, ?_, q71, h.sl, k + 1, by omega, d203, ?_, (fun w => by omega), fun _ => ?_, fun j' hj' => ?_⟩⟩
        · rw [fI 320 t (by decide) (by decide) (by decide) (by decide)]; exact h.j.f0
        · rw [dI 64 c (by decide)]; exact m64
        · rw [fI 331 t (by decide) (by decide) (by decide) (by decide), if_pos rfl]; exact h.cm
        · rw [woT.2.1]; exact h.rq
        · rw [woT.e]; exact h.oq
        · rw [woT.e]; exact h.e
        · rw [woT.2.2.1]; exact h.p
        · rw [woT.2.2.2.2.1]; exact h.l
        · rw [r2C]; exact h.r42
        · by_cases k0 : k = 0
          · refine ⟨s1, by omega, ?_, ?_, ?_⟩
            · rw [d202, k0, pk_us]
            · rw [r3C, h.k0 k0, d66, m66, pk_us]
            · rw [r3C, h.k0 k0]; exact h.um
          · obtain ⟨x, x1, x2, x3, x4⟩ := h.k1 (by omega)
            refine ⟨x, by omega, ?_, ?_, ?_⟩
            · rw [d202, pk_un (by omega), m202, aB]; exact x2
            · rw [r3C, d66, m66, pk_un (by omega), aB]; exact x3
            · rw [r3C]; exact x4
        · by_cases w : j' = k
          · subst w
            refine ⟨s1, by omega, by rw [d202, pk_us], ?_⟩
            have v1 : kA csD 65 c s1 = κ := by
              by_cases w2 : s1 = s
              · exact (congrArg (fun v => v.1.1) (VDe w2 s1)).trans (congrArg (fun v => v.1.1) VCs)
              · exact (congrArg (fun v => v.1.1) (VDo s1 w2)).trans (congrArg (fun v => v.1.1) VCs)
            rw [v1]
            unfold AGC
            rcases hx with ⟨-, e, -⟩ | ⟨-, -, -, (⟨e, -⟩ | ⟨e, -⟩ | ⟨e, -⟩ | ⟨e, -⟩), -⟩ <;> rw [e] <;> decide
          · obtain ⟨x, x1, x2, x3⟩ := h.li j' (by omega)
            refine ⟨x, by omega, by rw [d202, pk_un w, m202, aB]; exact x2, ?_⟩
            have v1 : kA csD 65 c x = kA cs1 65 c x := (congrArg (fun v => v.1.1) (VDo x (by omega))).trans (congrArg (fun v => v.1.1) (VC x (by omega)))
            rw [v1]
            exact x3
      have VD : ∀ x, x ≠ s → x ≠ s1 → VW c csD rsC x = VW c cs1 rs1 x := fun x a1 a2 => by rw [VDo x a1, VC x a2]
      have VD1 : VW c csD rsC s1 = ((κ, nI s, pt, u, kB csB 69 c s1, -1, -1), (K', a, -1, -1, 0, 0, u, -1, 0)) := by
        by_cases w : s1 = s
        · rw [VDe w s1, VCs]
        · rw [VDo s1 w, VCs]
      have am1 : ∀ x, AM q cs1 x → AM q csD x := fun x hx' => by
        obtain ⟨j', k', m1, m2, m3, m4⟩ := hx'
        exact amO x ⟨j', k', m1, by rw [mI 203 q (by decide), eI 203 q (by decide) (by decide)]; exact m2, m3, by rw [m202, aB]; exact m4⟩
      have zs1 : SZ c cs1 = s1 := SZ.is h.cn h.s2
      have zsD : SZ c csD = s1 + 1 := SZ.is (by rw [dI 64 c (by decide)]; exact m64) (by omega)
      have axD : AXS c q cs csD := by
        refine ⟨by have := h.ax.1; omega, fun x hx' => ?_⟩
        rcases amR x hx' with w | w
        · refine h.ax.2 x ?_
          obtain ⟨j', k', m1, m2, m3, m4⟩ := w
          exact ⟨j', k', m1, by rw [← m2, mI 203 q (by decide), eI 203 q (by decide) (by decide)], m3, by rw [← m4, m202, aB]⟩
        · exact Or.inr (by have := h.ax.1; omega)
      refine ⟨csD, rsC, nI s1, ?_, ?_, Or.inl ⟨i1 + 1, s1 + 1, EG.s74 ⟨pg, by omega, by omega, by omega, fun x hx' => by rw [VD x (by omega) (by omega), h.kp x hx'], fun R => ?_, h.fo.trans woT, h.fr.trans wrT, fun x x1 x2 x3 => ?_, fun x x1 x2 x3 => ?_, fun x hx' => am1 x (h.am x hx'), fun y1 y2 => ?_, ⟨fun w => absurd w (by decide), (fun x hx' => by rw [r2C, r3C]; exact h.f4 x hx'), q73.trans h.o73.symm⟩, (by rw [show s1 + 1 - 1 = s1 by omega]; unfold rx; rw [VD1]), axD⟩, rfl, h.ua⟩⟩
      · unfold c_X9_readAggregate_b159
        rw [ckE_ok jB.h.o, ob_s, mC, ob_s]
        show Option.bind (ckE csC 10 t) _ = _
        rw [ckE_ok shC.o, ob_s]
        show Option.bind (c_X9_noteAggregate F csC t q (nI s1) (nI s)) _ = _
        rw [nt, ob_s]
      · rw [mR, ob_s]
      · rw [show s1 + 1 - s = (s1 - s) + 1 by omega, show s1 + 1 - 1 = s1 by omega]
        refine ⟨hss, by unfold vf; rw [VD1], by unfold vb rb; rw [VD1], ?_⟩
        rcases hx with ⟨w1, w2, w3, w4⟩ | ⟨w1, w2, w3, w4, w5⟩
        · refine Or.inl ⟨w1.symm, Or.inl (by unfold vs; rw [VD1]), ?_⟩
          unfold LEAF vk rk
          rw [VD1]
          exact Or.inr (Or.inr (Or.inr (Or.inr (Or.inr ⟨w2, w3⟩))))
        · refine Or.inr (Or.inr (Or.inr (Or.inr (Or.inr ⟨w2, ?_, by unfold rl; rw [VD1]; exact w3, ?_, ?_, fun x q1 q2 => ?_⟩))))
          · unfold AGK vp vk rk
            rw [VD1]
            exact ⟨w1, w4⟩
          · unfold vs
            rw [VDs w2]
          · refine TR.skip (V := VW c cs1 rs1) (q := s1) _ _ _ _ (by omega) (fun x q1 q2 => VD x (by omega) (by omega)) (by rw [VDs w2, VC s (by omega)]) (fun x q1 q2 q3 => h.na x q1 (by omega) ?_) (w5 (s1 - 1))
            obtain ⟨-, (⟨v, -⟩ | ⟨v, -⟩ | ⟨v, -⟩ | ⟨v, -⟩)⟩ := q3
            · exact Or.inl v
            · exact Or.inr (Or.inl v)
            · exact Or.inr (Or.inr (Or.inl v))
            · exact Or.inr (Or.inr (Or.inr (Or.inl v)))
          · have v1 : vk (VW c csD rsC) x = vk (VW c cs1 rs1) x := by
              by_cases w : x = s
              · subst w
                unfold vk
                rw [VDs w2, VC x (by omega)]
              · unfold vk
                rw [VD x w (by omega)]
            rw [v1]
            exact h.na x q1 q2
      · by_cases w : x = s1
        · subst w
          unfold vk at x3
          rw [VD1] at x3
          exact absurd x3 k39
        · have hkx : vk (VW c cs1 rs1) x = 39 := by
            rw [← x3]
            by_cases w2 : x = s
            · subst w2
              unfold vk
              rw [VDs (by omega), VC x w]
            · unfold vk
              rw [VD x w2 w]
          have z := h.co x x1 (by omega) hkx
          have v1 : vo (VW c csD rsC) x = vo (VW c cs1 rs1) x ∧ rh (VW c csD rsC) x = rh (VW c cs1 rs1) x ∧ rw' (VW c csD rsC) x = rw' (VW c cs1 rs1) x ∧ vn (VW c csD rsC) x = vn (VW c cs1 rs1) x ∧ vb (VW c csD rsC) x = vb (VW c cs1 rs1) x := by
            by_cases w2 : x = s
            · subst w2
              unfold vo rh rw' vn vb
              rw [VDs (by omega), VC x w]
              exact ⟨rfl, rfl, rfl, rfl, rfl⟩
            · unfold vo rh rw' vn vb
              rw [VD x w2 w]
              exact ⟨rfl, rfl, rfl, rfl, rfl⟩
          unfold COL at z ⊢
          rw [v1.1, v1.2.1, v1.2.2.1, v1.2.2.2.1, v1.2.2.2.2]
          rcases z with ⟨a1, b1, k', k0, k1, k2, k3⟩ | ⟨k', j', k0, k1, k2, k3, k4, k5, k6⟩
          · exact Or.inl ⟨a1, b1, k', by rw [pl_keep woT]; exact k0, k1, k2, k3.keep woT wrT⟩
          · exact Or.inr ⟨k', j', by rw [pl_keep woT]; exact k0, k1, k2, k3, k4, k5.keep woT wrT, k6.keep woT wrT⟩
      · by_cases w : x = s1
        · subst w
          exact ⟨rfl, amS⟩
        · refine absurd ?_ (h.na x x1 (by omega))
          have hvk : vk (VW c csD rsC) x = vk (VW c cs1 rs1) x := by
            by_cases w2 : x = s
            · subst w2
              unfold vk
              rw [VDs (by omega), VC x w]
            · unfold vk
              rw [VD x w2 w]
          unfold AGN at x3 ⊢
          rw [← hvk]
          exact x3
      · have w : s1 = s := by omega
        unfold vk at y2
        rw [← w, VD1] at y2
        exact absurd y2 k39
    · have e120 : s1 = 120 := by have := h.s2; omega
      have hb := jB.bad (a := 7) (b := u) (by decide)
      refine ⟨_, _, 0, ?_, ?_, Or.inr ⟨hb.s74, (h.fo.trans woB).trans ((FO.sI (Or.inl ⟨by decide, rfl⟩)).trans (FO.sI (Or.inl ⟨by decide, rfl⟩))), ((h.fr.trans wrB).trans (((FR.setF (by unfold eR; omega)).trans (FR.setF (by unfold eR; omega))).trans (FR.setF (by unfold eR; omega)))).trans (FR.setF (by unfold eR; omega))⟩⟩
      · unfold c_X9_readAggregate_b159
        rw [ckE_ok jB.h.o, ob_s, cpl_full jB (by rw [cnB, e120]), ob_s]
        show Option.bind (ckE (sI (sI csB 320 t 7) 321 t u) 10 t) _ = _
        rw [ckE_ok hb.s.h.o, ob_s, note_n hb.s.h, ob_s]
      · unfold m_make
        rw [if_neg (by rw [jB.g1]; decide), r22, e120, if_pos (show nI 120 = 120 by decide), tel_ok jB.g1, ob_s, ob_s]
  · rw [e1, ob_s, e2, ob_s]
    obtain ⟨v1, hv1⟩ : ∃ v, v = kI cs2 329 t - 1 := ⟨_, rfl⟩
    obtain ⟨v2, hv2⟩ : ∃ v, v = rs2.1 70 - 1 := ⟨_, rfl⟩
    have pb2 : PB t c (sI cs2 329 t v1) (setF rs2 70 v2) := (pb.ch (by decide)).rh (by decide)
    refine ⟨sI cs2 329 t v1, setF rs2 70 v2, 0, ?_, ?_, Or.inr ⟨pb2.s74, (h.fo.trans fo).trans (FO.sI (Or.inl ⟨by decide, rfl⟩)), ((h.fr.trans fr).trans (FR.setF (by unfold eR; omega))).trans (FR.setF (by unfold eR; omega))⟩⟩
    · rw [gI_ok pb.s.h.o, ob_s, pI_ok pb.s.h.o, ob_s, ← hv1, ag159_f (q := q) pb2]
    · rw [← hv2, mk_f pb2.r, ob_s]

/-! the pure side: projections, frames -/
theorem kK_sI (cs : CS) (t i : Nat) (v : Int32) : kK (sI cs t i v) = kK cs := rfl
theorem kM_sI (cs : CS) (t i : Nat) (v : Int32) : kM (sI cs t i v) = kM cs := rfl
theorem kE_sI (cs : CS) (t i : Nat) (v : Int32) : kE (sI cs t i v) = kE cs := rfl
theorem kI_sI (cs : CS) (t i : Nat) (v : Int32) : kI (sI cs t i v) = u2 (kI cs) t i v := rfl
theorem kJ_sI (cs : CS) (t i : Nat) (v : Int32) : kJ (sI cs t i v) = kJ cs := rfl
theorem kR_sI (cs : CS) (t i : Nat) (v : Int32) : kR (sI cs t i v) = kR cs := rfl
theorem kP_sI (cs : CS) (t i : Nat) (v : Int32) : kP (sI cs t i v) = kP cs := rfl
theorem kA_sI (cs : CS) (t i : Nat) (v : Int32) : kA (sI cs t i v) = kA cs := rfl
theorem kB_sI (cs : CS) (t i : Nat) (v : Int32) : kB (sI cs t i v) = kB cs := rfl
theorem kQ_sI (cs : CS) (t i : Nat) (v : Int32) : kQ (sI cs t i v) = kQ cs := rfl
theorem kL_sI (cs : CS) (t i : Nat) (v : Int32) : kL (sI cs t i v) = kL cs := rfl
theorem kK_sJ (cs : CS) (t i : Nat) (v : Int64) : kK (sJ cs t i v) = kK cs := rfl
theorem kM_sJ (cs : CS) (t i : Nat) (v : Int64) : kM (sJ cs t i v) = kM cs := rfl
theorem kE_sJ (cs : CS) (t i : Nat) (v : Int64) : kE (sJ cs t i v) = kE cs := rfl
theorem kI_sJ (cs : CS) (t i : Nat) (v : Int64) : kI (sJ cs t i v) = kI cs := rfl
theorem kJ_sJ (cs : CS) (t i : Nat) (v : Int64) : kJ (sJ cs t i v) = u2 (kJ cs) t i v := rfl
theorem kR_sJ (cs : CS) (t i : Nat) (v : Int64) : kR (sJ cs t i v) = kR cs := rfl
theorem kP_sJ (cs : CS) (t i : Nat) (v : Int64) : kP (sJ cs t i v) = kP cs := rfl
theorem kA_sJ (cs : CS) (t i : Nat) (v : Int64) : kA (sJ cs t i v) = kA cs := rfl
theorem kB_sJ (cs : CS) (t i : Nat) (v : Int64) : kB (sJ cs t i v) = kB cs := rfl
theorem kQ_sJ (cs : CS) (t i : Nat) (v : Int64) : kQ (sJ cs t i v) = kQ cs := rfl
theorem kL_sJ (cs : CS) (t i : Nat) (v : Int64) : kL (sJ cs t i v) = kL cs := rfl
theorem kK_sR (cs : CS) (t i : Nat) (v : Option Nat) : kK (sR cs t i v) = kK cs := rfl
theorem kM_sR (cs : CS) (t i : Nat) (v : Option Nat) : kM (sR cs t i v) = kM cs := rfl
theorem kE_sR (cs : CS) (t i : Nat) (v : Option Nat) : kE (sR cs t i v) = kE cs := rfl
theorem kI_sR (cs : CS) (t i : Nat) (v : Option Nat) : kI (sR cs t i v) = kI cs := rfl
theorem kJ_sR (cs : CS) (t i : Nat) (v : Option Nat) : kJ (sR cs t i v) = kJ cs := rfl
theorem kR_sR (cs : CS) (t i : Nat) (v : Option Nat) : kR (sR cs t i v) = u2 (kR cs) t i v := rfl
theorem kP_sR (cs : CS) (t i : Nat) (v : Option Nat) : kP (sR cs t i v) = kP cs := rfl
theorem kA_sR (cs : CS) (t i : Nat) (v : Option Nat) : kA (sR cs t i v) = kA cs := rfl
theorem kB_sR (cs : CS) (t i : Nat) (v : Option Nat) : kB (sR cs t i v) = kB cs := rfl
theorem kQ_sR (cs : CS) (t i : Nat) (v : Option Nat) : kQ (sR cs t i v) = kQ cs := rfl
theorem kL_sR (cs : CS) (t i : Nat) (v : Option Nat) : kL (sR cs t i v) = kL cs := rfl
theorem kK_sP (cs : CS) (t i : Nat) (v : Option Nat) : kK (sP cs t i v) = kK cs := rfl
theorem kM_sP (cs : CS) (t i : Nat) (v : Option Nat) : kM (sP cs t i v) = kM cs := rfl
theorem kE_sP (cs : CS) (t i : Nat) (v : Option Nat) : kE (sP cs t i v) = kE cs := rfl
theorem kI_sP (cs : CS) (t i : Nat) (v : Option Nat) : kI (sP cs t i v) = kI cs := rfl
theorem kJ_sP (cs : CS) (t i : Nat) (v : Option Nat) : kJ (sP cs t i v) = kJ cs := rfl
theorem kR_sP (cs : CS) (t i : Nat) (v : Option Nat) : kR (sP cs t i v) = kR cs := rfl
theorem kP_sP (cs : CS) (t i : Nat) (v : Option Nat) : kP (sP cs t i v) = u2 (kP cs) t i v := rfl
theorem kA_sP (cs : CS) (t i : Nat) (v : Option Nat) : kA (sP cs t i v) = kA cs := rfl
theorem kB_sP (cs : CS) (t i : Nat) (v : Option Nat) : kB (sP cs t i v) = kB cs := rfl
theorem kQ_sP (cs : CS) (t i : Nat) (v : Option Nat) : kQ (sP cs t i v) = kQ cs := rfl
theorem kL_sP (cs : CS) (t i : Nat) (v : Option Nat) : kL (sP cs t i v) = kL cs := rfl
theorem kK_sA (cs : CS) (t i : Nat) (x : Nat) (v : Int32) : kK (sA cs t i x v) = kK cs := rfl
theorem kM_sA (cs : CS) (t i : Nat) (x : Nat) (v : Int32) : kM (sA cs t i x v) = kM cs := rfl
theorem kE_sA (cs : CS) (t i : Nat) (x : Nat) (v : Int32) : kE (sA cs t i x v) = kE cs := rfl
theorem kI_sA (cs : CS) (t i : Nat) (x : Nat) (v : Int32) : kI (sA cs t i x v) = kI cs := rfl
theorem kJ_sA (cs : CS) (t i : Nat) (x : Nat) (v : Int32) : kJ (sA cs t i x v) = kJ cs := rfl
theorem kR_sA (cs : CS) (t i : Nat) (x : Nat) (v : Int32) : kR (sA cs t i x v) = kR cs := rfl
theorem kP_sA (cs : CS) (t i : Nat) (x : Nat) (v : Int32) : kP (sA cs t i x v) = kP cs := rfl
theorem kA_sA (cs : CS) (t i : Nat) (x : Nat) (v : Int32) : kA (sA cs t i x v) = u2 (kA cs) t i (upd (kA cs t i) x v) := rfl
theorem kB_sA (cs : CS) (t i : Nat) (x : Nat) (v : Int32) : kB (sA cs t i x v) = kB cs := rfl
theorem kQ_sA (cs : CS) (t i : Nat) (x : Nat) (v : Int32) : kQ (sA cs t i x v) = kQ cs := rfl
theorem kL_sA (cs : CS) (t i : Nat) (x : Nat) (v : Int32) : kL (sA cs t i x v) = kL cs := rfl
theorem kK_sB (cs : CS) (t i : Nat) (x : Nat) (v : Int64) : kK (sB cs t i x v) = kK cs := rfl
theorem kM_sB (cs : CS) (t i : Nat) (x : Nat) (v : Int64) : kM (sB cs t i x v) = kM cs := rfl
theorem kE_sB (cs : CS) (t i : Nat) (x : Nat) (v : Int64) : kE (sB cs t i x v) = kE cs := rfl
theorem kI_sB (cs : CS) (t i : Nat) (x : Nat) (v : Int64) : kI (sB cs t i x v) = kI cs := rfl
theorem kJ_sB (cs : CS) (t i : Nat) (x : Nat) (v : Int64) : kJ (sB cs t i x v) = kJ cs := rfl
theorem kR_sB (cs : CS) (t i : Nat) (x : Nat) (v : Int64) : kR (sB cs t i x v) = kR cs := rfl
theorem kP_sB (cs : CS) (t i : Nat) (x : Nat) (v : Int64) : kP (sB cs t i x v) = kP cs := rfl
theorem kA_sB (cs : CS) (t i : Nat) (x : Nat) (v : Int64) : kA (sB cs t i x v) = kA cs := rfl
theorem kB_sB (cs : CS) (t i : Nat) (x : Nat) (v : Int64) : kB (sB cs t i x v) = u2 (kB cs) t i (vp_updL (kB cs t i) x v) := rfl
theorem kQ_sB (cs : CS) (t i : Nat) (x : Nat) (v : Int64) : kQ (sB cs t i x v) = kQ cs := rfl
theorem kL_sB (cs : CS) (t i : Nat) (x : Nat) (v : Int64) : kL (sB cs t i x v) = kL cs := rfl
theorem kK_sQ (cs : CS) (t i : Nat) (x : Nat) (v : Option Nat) : kK (sQ cs t i x v) = kK cs := rfl
theorem kM_sQ (cs : CS) (t i : Nat) (x : Nat) (v : Option Nat) : kM (sQ cs t i x v) = kM cs := rfl
theorem kE_sQ (cs : CS) (t i : Nat) (x : Nat) (v : Option Nat) : kE (sQ cs t i x v) = kE cs := rfl
theorem kI_sQ (cs : CS) (t i : Nat) (x : Nat) (v : Option Nat) : kI (sQ cs t i x v) = kI cs := rfl
theorem kJ_sQ (cs : CS) (t i : Nat) (x : Nat) (v : Option Nat) : kJ (sQ cs t i x v) = kJ cs := rfl
theorem kR_sQ (cs : CS) (t i : Nat) (x : Nat) (v : Option Nat) : kR (sQ cs t i x v) = kR cs := rfl
theorem kP_sQ (cs : CS) (t i : Nat) (x : Nat) (v : Option Nat) : kP (sQ cs t i x v) = kP cs := rfl
theorem kA_sQ (cs : CS) (t i : Nat) (x : Nat) (v : Option Nat) : kA (sQ cs t i x v) = kA cs := rfl
theorem kB_sQ (cs : CS) (t i : Nat) (x : Nat) (v : Option Nat) : kB (sQ cs t i x v) = kB cs := rfl
theorem kQ_sQ (cs : CS) (t i : Nat) (x : Nat) (v : Option Nat) : kQ (sQ cs t i x v) = u2 (kQ cs) t i (va_up (kQ cs t i) x v) := rfl
theorem kL_sQ (cs : CS) (t i : Nat) (x : Nat) (v : Option Nat) : kL (sQ cs t i x v) = kL cs := rfl
theorem kK_xA (cs : CS) (t i : Nat) (f : Nat → Int32) : kK (xA cs t i f) = kK cs := rfl
theorem kM_xA (cs : CS) (t i : Nat) (f : Nat → Int32) : kM (xA cs t i f) = kM cs := rfl
theorem kE_xA (cs : CS) (t i : Nat) (f : Nat → Int32) : kE (xA cs t i f) = kE cs := rfl
theorem kI_xA (cs : CS) (t i : Nat) (f : Nat → Int32) : kI (xA cs t i f) = kI cs := rfl
theorem kJ_xA (cs : CS) (t i : Nat) (f : Nat → Int32) : kJ (xA cs t i f) = kJ cs := rfl
theorem kR_xA (cs : CS) (t i : Nat) (f : Nat → Int32) : kR (xA cs t i f) = kR cs := rfl
theorem kP_xA (cs : CS) (t i : Nat) (f : Nat → Int32) : kP (xA cs t i f) = kP cs := rfl
theorem kA_xA (cs : CS) (t i : Nat) (f : Nat → Int32) : kA (xA cs t i f) = u2 (kA cs) t i f := rfl
theorem kB_xA (cs : CS) (t i : Nat) (f : Nat → Int32) : kB (xA cs t i f) = kB cs := rfl
theorem kQ_xA (cs : CS) (t i : Nat) (f : Nat → Int32) : kQ (xA cs t i f) = kQ cs := rfl
theorem kL_xA (cs : CS) (t i : Nat) (f : Nat → Int32) : kL (xA cs t i f) = kL cs := rfl
theorem kK_xB (cs : CS) (t i : Nat) (f : Nat → Int64) : kK (xB cs t i f) = kK cs := rfl
theorem kM_xB (cs : CS) (t i : Nat) (f : Nat → Int64) : kM (xB cs t i f) = kM cs := rfl
theorem kE_xB (cs : CS) (t i : Nat) (f : Nat → Int64) : kE (xB cs t i f) = kE cs := rfl
theorem kI_xB (cs : CS) (t i : Nat) (f : Nat → Int64) : kI (xB cs t i f) = kI cs := rfl
theorem kJ_xB (cs : CS) (t i : Nat) (f : Nat → Int64) : kJ (xB cs t i f) = kJ cs := rfl
theorem kR_xB (cs : CS) (t i : Nat) (f : Nat → Int64) : kR (xB cs t i f) = kR cs := rfl
theorem kP_xB (cs : CS) (t i : Nat) (f : Nat → Int64) : kP (xB cs t i f) = kP cs := rfl
theorem kA_xB (cs : CS) (t i : Nat) (f : Nat → Int64) : kA (xB cs t i f) = kA cs := rfl
theorem kB_xB (cs : CS) (t i : Nat) (f : Nat → Int64) : kB (xB cs t i f) = u2 (kB cs) t i f := rfl
theorem kQ_xB (cs : CS) (t i : Nat) (f : Nat → Int64) : kQ (xB cs t i f) = kQ cs := rfl
theorem kL_xB (cs : CS) (t i : Nat) (f : Nat → Int64) : kL (xB cs t i f) = kL cs := rfl
theorem u2_t {α : Type} {f : Nat → Nat → α} {t i x : Nat} {v : α} (h : x ≠ t) : u2 f t i v x = f x := funext fun y => if_neg (fun q => h q.1)
theorem setF_1 (rs : RS) (k : Nat) (v : Int32) : (setF rs k v).1 = upd rs.1 k v := rfl
theorem setF_2 (rs : RS) (k : Nat) (v : Int32) : (setF rs k v).2 = rs.2 := rfl
theorem setI_1 (rs : RS) (k i : Nat) (v : Int32) : (setI rs k i v).1 = rs.1 := rfl
theorem setI_w (rs : RS) (k i : Nat) (v : Int32) : (setI rs k i v).2.1 = rs.2.1 := rfl
theorem setI_a (rs : RS) (k i j : Nat) (v : Int32) : (setI rs k i v).2.2.1 j = if j = k then upd (rs.2.2.1 k) i v else rs.2.2.1 j := rfl
theorem setI_l (rs : RS) (k i : Nat) (v : Int32) : (setI rs k i v).2.2.2 = rs.2.2.2 := rfl
theorem setL_1 (rs : RS) (k i : Nat) (v : Int64) : (setL rs k i v).1 = rs.1 := rfl
theorem setL_w (rs : RS) (k i : Nat) (v : Int64) : (setL rs k i v).2.1 = rs.2.1 := rfl
theorem setL_a (rs : RS) (k i : Nat) (v : Int64) : (setL rs k i v).2.2.1 = rs.2.2.1 := rfl
theorem setL_l (rs : RS) (k i j : Nat) (v : Int64) : (setL rs k i v).2.2.2 j = if j = k then vp_updL (rs.2.2.2 k) i v else rs.2.2.2 j := rfl
theorem setW_1 (rs : RS) (v : Int64) : (setW rs v).1 = rs.1 := rfl
theorem setW_w (rs : RS) (v : Int64) : (setW rs v).2.1 = v := rfl
theorem setW_a (rs : RS) (v : Int64) : (setW rs v).2.2 = rs.2.2 := rfl
/-- the class's state but for the fields of S: cells, references, lengths are kept -/
def FX (S : Nat → Prop) (cs cs' : CS) : Prop := cs'.1 = cs.1 ∧ kR cs' = kR cs ∧ kP cs' = kP cs ∧ kQ cs' = kQ cs ∧ kL cs' = kL cs ∧ ∀ t, ¬ S t → kI cs' t = kI cs t ∧ kJ cs' t = kJ cs t ∧ kA cs' t = kA cs t ∧ kB cs' t = kB cs t
theorem FX.refl {S : Nat → Prop} (cs : CS) : FX S cs cs := ⟨rfl, rfl, rfl, rfl, rfl, fun _ _ => ⟨rfl, rfl, rfl, rfl⟩⟩
theorem FX.trans {S : Nat → Prop} {a b c : CS} (h : FX S a b) (g : FX S b c) : FX S a c := by
  obtain ⟨h1, h2, h3, h4, h5, h6⟩ := h
  obtain ⟨g1, g2, g3, g4, g5, g6⟩ := g
  exact ⟨g1.trans h1, g2.trans h2, g3.trans h3, g4.trans h4, g5.trans h5, fun t ht => ⟨(g6 t ht).1.trans (h6 t ht).1, (g6 t ht).2.1.trans (h6 t ht).2.1, (g6 t ht).2.2.1.trans (h6 t ht).2.2.1, (g6 t ht).2.2.2.trans (h6 t ht).2.2.2⟩⟩
theorem FX.mono {S R : Nat → Prop} {a b : CS} (h : FX S a b) (hs : ∀ t, S t → R t) : FX R a b := ⟨h.1, h.2.1, h.2.2.1, h.2.2.2.1, h.2.2.2.2.1, fun t ht => h.2.2.2.2.2 t (fun q => ht (hs t q))⟩
theorem FX.sI {S : Nat → Prop} {cs : CS} {t i : Nat} {v : Int32} (h : S t) : FX S cs (sI cs t i v) := ⟨rfl, rfl, rfl, rfl, rfl, fun x hx => ⟨u2_t (fun e => hx (e ▸ h)), rfl, rfl, rfl⟩⟩
theorem FX.sJ {S : Nat → Prop} {cs : CS} {t i : Nat} {v : Int64} (h : S t) : FX S cs (sJ cs t i v) := ⟨rfl, rfl, rfl, rfl, rfl, fun x hx => ⟨rfl, u2_t (fun e => hx (e ▸ h)), rfl, rfl⟩⟩
theorem FX.sA {S : Nat → Prop} {cs : CS} {t i x : Nat} {v : Int32} (h : S t) : FX S cs (sA cs t i x v) := ⟨rfl, rfl, rfl, rfl, rfl, fun x hx => ⟨rfl, rfl, u2_t (fun e => hx (e ▸ h)), rfl⟩⟩
theorem FX.sB {S : Nat → Prop} {cs : CS} {t i x : Nat} {v : Int64} (h : S t) : FX S cs (sB cs t i x v) := ⟨rfl, rfl, rfl, rfl, rfl, fun x hx => ⟨rfl, rfl, rfl, u2_t (fun e => hx (e ▸ h))⟩⟩
theorem FX.xA {S : Nat → Prop} {cs : CS} {t i : Nat} {f : Nat → Int32} (h : S t) : FX S cs (xA cs t i f) := ⟨rfl, rfl, rfl, rfl, rfl, fun x hx => ⟨rfl, rfl, u2_t (fun e => hx (e ▸ h)), rfl⟩⟩
theorem FX.xB {S : Nat → Prop} {cs : CS} {t i : Nat} {f : Nat → Int64} (h : S t) : FX S cs (xB cs t i f) := ⟨rfl, rfl, rfl, rfl, rfl, fun x hx => ⟨rfl, rfl, rfl, u2_t (fun e => hx (e ▸ h))⟩⟩
theorem FX.e {S : Nat → Prop} {a b : CS} (h : FX S a b) : kE b = kE a := congrArg (fun z => z.2.2) h.1
theorem FX.kk {S : Nat → Prop} {a b : CS} (h : FX S a b) : kK b = kK a := congrArg Prod.fst h.1
theorem FX.km {S : Nat → Prop} {a b : CS} (h : FX S a b) : kM b = kM a := congrArg (fun z => z.2.1) h.1
theorem FX.i {S : Nat → Prop} {a b : CS} (h : FX S a b) {t : Nat} (ht : ¬ S t) (i : Nat) : kI b t i = kI a t i := congrFun (h.2.2.2.2.2 t ht).1 i
theorem FX.j {S : Nat → Prop} {a b : CS} (h : FX S a b) {t : Nat} (ht : ¬ S t) (i : Nat) : kJ b t i = kJ a t i := congrFun (h.2.2.2.2.2 t ht).2.1 i
theorem FX.a {S : Nat → Prop} {a b : CS} (h : FX S a b) {t : Nat} (ht : ¬ S t) (i : Nat) : kA b t i = kA a t i := congrFun (h.2.2.2.2.2 t ht).2.2.1 i
theorem FX.b {S : Nat → Prop} {a b : CS} (h : FX S a b) {t : Nat} (ht : ¬ S t) (i : Nat) : kB b t i = kB a t i := congrFun (h.2.2.2.2.2 t ht).2.2.2 i
/-- the reference's state but for the slots of S -/
def FR (S : Nat → Prop) (rs rs' : RS) : Prop := (S 10 ∨ rs'.2.1 = rs.2.1) ∧ ∀ k, ¬ S k → rs'.1 k = rs.1 k ∧ rs'.2.2.1 k = rs.2.2.1 k ∧ rs'.2.2.2 k = rs.2.2.2 k
theorem FR.refl {S : Nat → Prop} (rs : RS) : FR S rs rs := ⟨Or.inr rfl, fun _ _ => ⟨rfl, rfl, rfl⟩⟩
theorem FR.trans {S : Nat → Prop} {a b c : RS} (h : FR S a b) (g : FR S b c) : FR S a c := ⟨h.1.elim Or.inl (fun e => g.1.elim Or.inl (fun e2 => Or.inr (e2.trans e))), fun k hk => ⟨(g.2 k hk).1.trans (h.2 k hk).1, (g.2 k hk).2.1.trans (h.2 k hk).2.1, (g.2 k hk).2.2.trans (h.2 k hk).2.2⟩⟩
theorem FR.mono {S R : Nat → Prop} {a b : RS} (h : FR S a b) (hs : ∀ t, S t → R t) : FR R a b := ⟨h.1.imp (hs 10) id, fun k hk => h.2 k (fun q => hk (hs k q))⟩
theorem FR.setF {S : Nat → Prop} {rs : RS} {k : Nat} {v : Int32} (h : S k) : FR S rs (setF rs k v) := ⟨Or.inr rfl, fun j hj => ⟨if_neg (fun (e : j = k) => hj (e ▸ h)), rfl, rfl⟩⟩
theorem FR.setI {S : Nat → Prop} {rs : RS} {k i : Nat} {v : Int32} (h : S k) : FR S rs (setI rs k i v) := ⟨Or.inr rfl, fun j hj => ⟨rfl, if_neg (fun (e : j = k) => hj (e ▸ h)), rfl⟩⟩
theorem FR.setL {S : Nat → Prop} {rs : RS} {k i : Nat} {v : Int64} (h : S k) : FR S rs (setL rs k i v) := ⟨Or.inr rfl, fun j hj => ⟨rfl, rfl, if_neg (fun (e : j = k) => hj (e ▸ h))⟩⟩
theorem FR.setW {S : Nat → Prop} {rs : RS} {v : Int64} (h : S 10) : FR S rs (setW rs v) := ⟨Or.inl h, fun j hj => ⟨rfl, rfl, rfl⟩⟩
theorem FR.f {S : Nat → Prop} {a b : RS} (h : FR S a b) {k : Nat} (hk : ¬ S k) : b.1 k = a.1 k := (h.2 k hk).1
theorem FR.a {S : Nat → Prop} {a b : RS} (h : FR S a b) {k : Nat} (hk : ¬ S k) : b.2.2.1 k = a.2.2.1 k := (h.2 k hk).2.1
theorem FR.l {S : Nat → Prop} {a b : RS} (h : FR S a b) {k : Nat} (hk : ¬ S k) : b.2.2.2 k = a.2.2.2 k := (h.2 k hk).2.2
/-! reads and writes -/
theorem gI_ok {cs : CS} {X t i : Nat} (h : (X, i) ∈ kE cs) : gI cs X t i = some (kI cs t i) := if_pos h
theorem gJ_ok {cs : CS} {X t i : Nat} (h : (X, i) ∈ kE cs) : gJ cs X t i = some (kJ cs t i) := if_pos h
theorem gR_ok {cs : CS} {X t i : Nat} (h : (X, i) ∈ kE cs) : gR cs X t i = some (kR cs t i) := if_pos h
theorem gA_ok {cs : CS} {X t i : Nat} (h : (X, i) ∈ kE cs) : gA cs X t i = kP cs t i := if_pos h
theorem pI_ok {cs : CS} {X t i : Nat} {v : Int32} (h : (X, i) ∈ kE cs) : pI cs X t i v = some (sI cs t i v) := if_pos h
theorem pJ_ok {cs : CS} {X t i : Nat} {v : Int64} (h : (X, i) ∈ kE cs) : pJ cs X t i v = some (sJ cs t i v) := if_pos h
theorem pR_ok {cs : CS} {X t i : Nat} {v : Option Nat} (h : (X, i) ∈ kE cs) : pR cs X t i v = some (sR cs t i v) := if_pos h
theorem ckE_ok {cs : CS} {X i : Nat} (h : (X, i) ∈ kE cs) : ckE cs X i = some () := if_pos h
/-- an array: it is there, and has n elements -/
def AR (cs : CS) (t i n : Nat) : Prop := (32 + t, i) ∈ kE cs ∧ (∃ j, kP cs t i = some j) ∧ kL cs t i = n ∧ n < 2147483648
theorem rA_ok {cs : CS} {t i n j x : Nat} {y : Int32} (h : AR cs t i n) (hj : kP cs t i = some j) (hy : y = nI x) (hx : x < n) : rA cs t i j y = some (kA cs t i x) := by
  obtain ⟨h1, -, h3, h4⟩ := h
  subst hy
  unfold rA
  rw [nI_clamp (by omega), if_pos ⟨h1, hj, by rw [h3]; have := nI_in hx (by omega); rwa [nI_clamp (by omega)] at this⟩]
theorem rB_ok {cs : CS} {t i n j x : Nat} {y : Int32} (h : AR cs t i n) (hj : kP cs t i = some j) (hy : y = nI x) (hx : x < n) : rB cs t i j y = some (kB cs t i x) := by
  obtain ⟨h1, -, h3, h4⟩ := h
  subst hy
  unfold rB
  rw [nI_clamp (by omega), if_pos ⟨h1, hj, by rw [h3]; have := nI_in hx (by omega); rwa [nI_clamp (by omega)] at this⟩]
theorem rQ_ok {cs : CS} {t i n j x : Nat} {y : Int32} (h : AR cs t i n) (hj : kP cs t i = some j) (hy : y = nI x) (hx : x < n) : rQ cs t i j y = some (kQ cs t i x) := by
  obtain ⟨h1, -, h3, h4⟩ := h
  subst hy
  unfold rQ
  rw [nI_clamp (by omega), if_pos ⟨h1, hj, by rw [h3]; have := nI_in hx (by omega); rwa [nI_clamp (by omega)] at this⟩]
theorem wA_ok {cs : CS} {t i n j x : Nat} {y v : Int32} (h : AR cs t i n) (hj : kP cs t i = some j) (hy : y = nI x) (hx : x < n) : wA cs t i j y v = some (sA cs t i x v) := by
  obtain ⟨h1, -, h3, h4⟩ := h
  subst hy
  unfold wA
  rw [nI_clamp (by omega), if_pos ⟨h1, hj, by rw [h3]; have := nI_in hx (by omega); rwa [nI_clamp (by omega)] at this⟩]
theorem wB_ok {cs : CS} {t i n j x : Nat} {y : Int32} {v : Int64} (h : AR cs t i n) (hj : kP cs t i = some j) (hy : y = nI x) (hx : x < n) : wB cs t i j y v = some (sB cs t i x v) := by
  obtain ⟨h1, -, h3, h4⟩ := h
  subst hy
  unfold wB
  rw [nI_clamp (by omega), if_pos ⟨h1, hj, by rw [h3]; have := nI_in hx (by omega); rwa [nI_clamp (by omega)] at this⟩]
theorem wQ_ok {cs : CS} {t i n j x : Nat} {y : Int32} {v : Option Nat} (h : AR cs t i n) (hj : kP cs t i = some j) (hy : y = nI x) (hx : x < n) : wQ cs t i j y v = some (sQ cs t i x v) := by
  obtain ⟨h1, -, h3, h4⟩ := h
  subst hy
  unfold wQ
  rw [nI_clamp (by omega), if_pos ⟨h1, hj, by rw [h3]; have := nI_in hx (by omega); rwa [nI_clamp (by omega)] at this⟩]
theorem lnA_ok {cs : CS} {t i n j : Nat} (h : AR cs t i n) (hj : kP cs t i = some j) : lnA cs t i j = some (nI n) := by
  obtain ⟨h1, -, h3, h4⟩ := h
  unfold lnA
  rw [if_pos ⟨h1, hj⟩, h3]
theorem rdI_ok {f : Nat → Int32} {n x : Nat} {y : Int32} (hy : y = nI x) (hx : x < n) (hn : n < 2147483648) : rdI f n y = some (f x) := by
  subst hy
  unfold rdI
  rw [if_neg (nI_in hx (by omega)), nI_clamp (by omega)]
theorem rdL_ok {f : Nat → Int64} {n x : Nat} {y : Int32} (hy : y = nI x) (hx : x < n) (hn : n < 2147483648) : rdL f n y = some (f x) := by
  subst hy
  unfold rdL
  rw [if_neg (nI_in hx (by omega)), nI_clamp (by omega)]
theorem wrI_ok {rs : RS} {k n x : Nat} {y v : Int32} (hy : y = nI x) (hx : x < n) (hn : n < 2147483648) : wrI rs k n y v = some (setI rs k x v) := by
  subst hy
  unfold wrI
  rw [if_neg (nI_in hx (by omega)), nI_clamp (by omega)]
theorem wrL_ok {rs : RS} {k n x : Nat} {y : Int32} {v : Int64} (hy : y = nI x) (hx : x < n) (hn : n < 2147483648) : wrL rs k n y v = some (setL rs k x v) := by
  subst hy
  unfold wrL
  rw [if_neg (nI_in hx (by omega)), nI_clamp (by omega)]
theorem ob_s {α β : Type} (a : α) (f : α → Option β) : Option.bind (some a) f = f a := rfl
theorem rA_n {cs : CS} {t i j x : Nat} (h1 : (32 + t, i) ∈ kE cs) (h2 : kP cs t i = some j) (h3 : x < kL cs t i) (h4 : kL cs t i < 2147483648) : rA cs t i j (nI x) = some (kA cs t i x) := by
  unfold rA
  have h5 := nI_in h3 (by omega)
  rw [if_pos ⟨h1, h2, h5⟩, nI_clamp (by omega)]
theorem rB_n {cs : CS} {t i j x : Nat} (h1 : (32 + t, i) ∈ kE cs) (h2 : kP cs t i = some j) (h3 : x < kL cs t i) (h4 : kL cs t i < 2147483648) : rB cs t i j (nI x) = some (kB cs t i x) := by
  unfold rB
  have h5 := nI_in h3 (by omega)
  rw [if_pos ⟨h1, h2, h5⟩, nI_clamp (by omega)]
theorem rQ_n {cs : CS} {t i j x : Nat} (h1 : (32 + t, i) ∈ kE cs) (h2 : kP cs t i = some j) (h3 : x < kL cs t i) (h4 : kL cs t i < 2147483648) : rQ cs t i j (nI x) = some (kQ cs t i x) := by
  unfold rQ
  have h5 := nI_in h3 (by omega)
  rw [if_pos ⟨h1, h2, h5⟩, nI_clamp (by omega)]
theorem wA_n {cs : CS} {t i j x : Nat} {v : Int32} (h1 : (32 + t, i) ∈ kE cs) (h2 : kP cs t i = some j) (h3 : x < kL cs t i) (h4 : kL cs t i < 2147483648) : wA cs t i j (nI x) v = some (sA cs t i x v) := by
  unfold wA
  have h5 := nI_in h3 (by omega)
  rw [if_pos ⟨h1, h2, h5⟩, nI_clamp (by omega)]
theorem wB_n {cs : CS} {t i j x : Nat} {v : Int64} (h1 : (32 + t, i) ∈ kE cs) (h2 : kP cs t i = some j) (h3 : x < kL cs t i) (h4 : kL cs t i < 2147483648) : wB cs t i j (nI x) v = some (sB cs t i x v) := by
  unfold wB
  have h5 := nI_in h3 (by omega)
  rw [if_pos ⟨h1, h2, h5⟩, nI_clamp (by omega)]
theorem wQ_n {cs : CS} {t i j x : Nat} {v : Option Nat} (h1 : (32 + t, i) ∈ kE cs) (h2 : kP cs t i = some j) (h3 : x < kL cs t i) (h4 : kL cs t i < 2147483648) : wQ cs t i j (nI x) v = some (sQ cs t i x v) := by
  unfold wQ
  have h5 := nI_in h3 (by omega)
  rw [if_pos ⟨h1, h2, h5⟩, nI_clamp (by omega)]
theorem lnA_n {cs : CS} {t i j : Nat} (h1 : (32 + t, i) ∈ kE cs) (h2 : kP cs t i = some j) : lnA cs t i j = some (nI (kL cs t i)) := if_pos ⟨h1, h2⟩
theorem rdI_n {f : Nat → Int32} {n x : Nat} (hx : x < n) (hn : n < 2147483648) : rdI f n (nI x) = some (f x) := rdI_ok rfl hx hn
theorem rdL_n {f : Nat → Int64} {n x : Nat} (hx : x < n) (hn : n < 2147483648) : rdL f n (nI x) = some (f x) := rdL_ok rfl hx hn
theorem wrI_n {rs : RS} {k n x : Nat} {v : Int32} (hx : x < n) (hn : n < 2147483648) : wrI rs k n (nI x) v = some (setI rs k x v) := wrI_ok rfl hx hn
theorem wrL_n {rs : RS} {k n x : Nat} {v : Int64} (hx : x < n) (hn : n < 2147483648) : wrL rs k n (nI x) v = some (setL rs k x v) := wrL_ok rfl hx hn
theorem nI_k (a : Nat) (b : Int32) (n : Nat) (h : b = nI n) : nI a + b = nI (a + n) := by rw [h]; exact nI_add a n

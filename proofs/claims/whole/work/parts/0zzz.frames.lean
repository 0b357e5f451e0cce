/-! a QUERY's reading: what stays -/
/-- the tokens are the same -/
def TKF (cs : CS) (rs : RS) (cs' : CS) (rs' : RS) : Prop := kA cs' 352 9 = kA cs 352 9 ∧ kA cs' 353 9 = kA cs 353 9 ∧ kB cs' 354 9 = kB cs 354 9 ∧ rs'.2.2.1 14 = rs.2.2.1 14 ∧ rs'.2.2.1 15 = rs.2.2.1 15 ∧ rs'.2.2.1 16 = rs.2.2.1 16 ∧ rs'.2.2.2 17 = rs.2.2.2 17 ∧ rs'.2.2.1 2 = rs.2.2.1 2
theorem TKF.refl {cs : CS} {rs : RS} : TKF cs rs cs rs := ⟨rfl, rfl, rfl, rfl, rfl, rfl, rfl, rfl⟩
theorem TKF.trans {a b c : CS} {x y z : RS} (h : TKF a x b y) (g : TKF b y c z) : TKF a x c z := ⟨g.1.trans h.1, g.2.1.trans h.2.1, g.2.2.1.trans h.2.2.1, g.2.2.2.1.trans h.2.2.2.1, g.2.2.2.2.1.trans h.2.2.2.2.1, g.2.2.2.2.2.1.trans h.2.2.2.2.2.1, g.2.2.2.2.2.2.1.trans h.2.2.2.2.2.2.1, g.2.2.2.2.2.2.2.trans h.2.2.2.2.2.2.2⟩
theorem TKF.fo {t c q : Nat} {cs cs' : CS} {rs rs' : RS} (x : FO (PX t c q) cs cs') (y : FR eR rs rs') : TKF cs rs cs' rs' := ⟨(x.2.2.2.2.2 352 9 (by unfold PX; omega)).2.2.1, (x.2.2.2.2.2 353 9 (by unfold PX; omega)).2.2.1, (x.2.2.2.2.2 354 9 (by unfold PX; omega)).2.2.2, y.a (by unfold eR; omega), y.a (by unfold eR; omega), y.a (by unfold eR; omega), y.l (by unfold eR; omega), y.a (by unfold eR; omega)⟩
theorem TK.f {n k p κ : Nat} {f : Nat → Int32} {cs cs' : CS} {rs rs' : RS} (h : TK n f k p κ cs rs) (x : TKF cs rs cs' rs') : TK n f k p κ cs' rs' := h.keep (by rw [x.1]) (by rw [x.2.1]) (by rw [x.2.2.1]) (by rw [x.2.2.2.1]) (by rw [x.2.2.2.2.1]) (by rw [x.2.2.2.2.2.1]) (by rw [x.2.2.2.2.2.2.1])
theorem NM.f {n k : Nat} {f : Nat → Int32} {v : Int64} {cs cs' : CS} {rs rs' : RS} (h : NM n f k v cs rs) (x : TKF cs rs cs' rs') : NM n f k v cs' rs' := by
  obtain ⟨p, κ, h1, h2⟩ := h
  exact ⟨p, κ, h1.f x, by rw [x.2.2.1]; exact h2⟩
theorem NM9.f {n k : Nat} {f : Nat → Int32} {v : Int64} {cs cs' : CS} {rs rs' : RS} (h : NM9 n f k v cs rs) (x : TKF cs rs cs' rs') : NM9 n f k v cs' rs' := by
  obtain ⟨p, h1, h2⟩ := h
  exact ⟨p, h1.f x, by rw [x.2.2.1]; exact h2⟩
theorem COL.f {n M e : Nat} {f : Nat → Int32} {V W : VT} {cs cs' : CS} {rs rs' : RS} (h : COL n f M V e cs rs) (hV : W e = V e) (x : TKF cs rs cs' rs') : COL n f M W e cs' rs' := by
  have w1 : vo W e = vo V e := by unfold vo; rw [hV]
  have w2 : rh W e = rh V e := by unfold rh; rw [hV]
  have w3 : rw' W e = rw' V e := by unfold rw'; rw [hV]
  have w4 : vn W e = vn V e := by unfold vn; rw [hV]
  have w5 : vb W e = vb V e := by unfold vb; rw [hV]
  unfold COL at h ⊢
  rw [w1, w2, w3, w4, w5]
  rcases h with ⟨a, b, k, k0, k1, k2, k3⟩ | ⟨k, j, k0, k1, k2, k3, k4, k5, k6⟩
  · exact Or.inl ⟨a, b, k, by rw [x.2.1]; exact k0, k1, k2, k3.f x⟩
  · exact Or.inr ⟨k, j, by rw [x.2.1]; exact k0, k1, k2, k3, k4, k5.f x, k6.f x⟩
theorem TX.f' {n M : Nat} {f : Nat → Int32} {cs cs' : CS} {rs rs' : RS} (h : TX n f M cs rs) (x : TKF cs rs cs' rs') : TX n f M cs' rs' := by
  refine ⟨h.n2, h.mn, fun k hk => by rw [x.2.2.2.2.2.2.2]; exact h.tx k hk, h.by', fun j hj => ?_, fun a b ha hb => by rw [x.2.1]; exact h.pm a b ha hb⟩
  obtain ⟨p, κ, k1, k2, k3⟩ := h.tk j hj
  exact ⟨p, κ, k1.f x, k2, k3⟩
theorem KE.f {n : Nat} {f : Nat → Int32} {M c q : Nat} {ma : Bool} {s e : Nat} {cs cs' : CS} {rs rs' : RS} (h : KE n f M c q ma s e cs rs) (hV : ∀ x, s ≤ x → x < e → VW c cs' rs' x = VW c cs rs x) (hT : TKF cs rs cs' rs') (ham : ∀ x, AM q cs x → AM q cs' x) : KE n f M c q ma s e cs' rs' := by
  refine ⟨fun x x1 x2 x3 => ?_, fun x x1 x2 x3 => ?_⟩
  · have hv := hV x x1 x2
    exact (h.co x x1 x2 (by rw [← x3]; unfold vk; rw [hv])).f hv hT
  · obtain ⟨z1, z2⟩ := h.an x x1 x2 (AGN.keep (hV x x1 x2) x3)
    exact ⟨z1, ham x z2⟩
/-- the node r is a whole EXPR, alike in both -/
def RT (n : Nat) (f : Nat → Int32) (M c q : Nat) (ma : Bool) (s r : Nat) (cs : CS) (rs : RS) : Prop := ∃ a, a ≤ r ∧ r < s ∧ (∀ R, TR (VW c cs rs) (r + 1 - a) R a r) ∧ KE n f M c q ma a (r + 1) cs rs
theorem RT.keep {n : Nat} {f : Nat → Int32} {M c q : Nat} {ma : Bool} {s s' r : Nat} {cs cs' : CS} {rs rs' : RS} (h : RT n f M c q ma s r cs rs) (hs : s ≤ s') (hV : ∀ x, x < s → VW c cs' rs' x = VW c cs rs x) (hT : TKF cs rs cs' rs') (ham : ∀ x, AM q cs x → AM q cs' x) : RT n f M c q ma s' r cs' rs' := by
  obtain ⟨a, a1, a2, a3, a4⟩ := h
  exact ⟨a, a1, by omega, fun R => TR.fr _ _ _ _ (fun x q1 q2 => hV x (by omega)) (a3 R), a4.f (fun x x1 x2 => hV x (by omega)) hT ham⟩
/-- an EXPR that may be missing, in both -/
def OPT (n : Nat) (f : Nat → Int32) (M c q : Nat) (ma : Bool) (s : Nat) (x y : Int32) (cs : CS) (rs : RS) : Prop := (x = -1 ∧ y = -1) ∨ ∃ r, x = nI r ∧ y = nI r ∧ RT n f M c q ma s r cs rs
theorem OPT.keep {n : Nat} {f : Nat → Int32} {M c q : Nat} {ma : Bool} {s s' : Nat} {x y x' y' : Int32} {cs cs' : CS} {rs rs' : RS} (h : OPT n f M c q ma s x y cs rs) (hx : x' = x) (hy : y' = y) (hs : s ≤ s') (hV : ∀ x, x < s → VW c cs' rs' x = VW c cs rs x) (hT : TKF cs rs cs' rs') (ham : ∀ x, AM q cs x → AM q cs' x) : OPT n f M c q ma s' x' y' cs' rs' := by
  rw [hx, hy]
  rcases h with y | ⟨r, r1, r2, r3⟩
  · exact Or.inl y
  · exact Or.inr ⟨r, r1, r2, r3.keep hs hV hT ham⟩
/-- a name that may be missing -/
def NMR (n : Nat) (f : Nat → Int32) (M : Nat) (v : Int64) (x : Int32) (cs : CS) (rs : RS) : Prop := (v = -1 ∧ x = -1) ∨ ∃ k, k ≤ M ∧ x = nI k ∧ NM n f k v cs rs
theorem NMR.f {n M : Nat} {f : Nat → Int32} {v : Int64} {x : Int32} {cs cs' : CS} {rs rs' : RS} (h : NMR n f M v x cs rs) (hT : TKF cs rs cs' rs') : NMR n f M v x cs' rs' := by
  rcases h with y | ⟨k, k1, k2, k3⟩
  · exact Or.inl y
  · exact Or.inr ⟨k, k1, k2, k3.f hT⟩

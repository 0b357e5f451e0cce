/-! every EXPR is judged alike by both -/
theorem tj_f {F n : Nat} {rs : RS} {x : Int32} (g : rs.1 21 = 0) : tab_judge F (n + 1) rs x = some rs := by
  show b_judge F (tab_judge F n) rs x = some rs
  unfold b_judge
  rw [if_pos g]
theorem leaf_J {F t c cap s k lo root : Nat} {V : VT} {D : Nat → Prop} {Sc : CS → RS → Prop} {T : TG_judge} {e : Nat} (hF : 10000 ≤ F) (sk : SKV V s) (hr : root < s) (hs : s ≤ 120) (hS : SCF t c Sc) (n0 : NM0 F t c cap s k lo root V D Sc) (n1 : NM1 F t c cap s k lo root V D Sc) (he : e ≤ root) (hlo : lo ≤ e) (h : LEAF V e) : JA F t c cap s k lo root V D Sc (b_judge F T) e e := by
  have t1 : TYR 1 1 := Or.inl ⟨rfl, rfl⟩
  have t2 : TYR 2 2 := Or.inr (Or.inl ⟨rfl, rfl⟩)
  have t3 : TYR 3 0 := Or.inr (Or.inr ⟨rfl, rfl⟩)
  have e2 : e < 121 := by omega
  have e3 : e < s := by omega
  rcases h with ⟨a1, a2, -⟩ | ⟨a1, a2⟩ | ⟨a1, a2⟩ | ⟨a1, a2⟩ | ⟨a1, a2⟩ | ⟨a1, a2⟩
  · exact leaf_w hF sk hr hs hS he (by rw [a1]; decide) t1 (fun cs1 ck hk => ca_40 ck e3 (hk.trans a1)) (fun rs g hk => by
      rw [bj_1 g e2 (hk.trans a2)]
      rfl)
  · exact leaf_w hF sk hr hs hS he (by rw [a1]; decide) t3 (fun cs1 ck hk => ca_26 ck e3 (hk.trans a1)) (fun rs g hk => by
      rw [bj_2 g e2 (hk.trans a2)]
      rfl)
  · exact leaf_w hF sk hr hs hS he (by rw [a1]; decide) t2 (fun cs1 ck hk => ca_30 ck e3 (hk.trans a1)) (fun rs g hk => by
      rw [bj_3 g e2 (hk.trans a2)]
      rfl)
  · exact leaf_w hF sk hr hs hS he (by rw [a1]; decide) t2 (fun cs1 ck hk => ca_31 ck e3 (hk.trans a1)) (fun rs g hk => by
      rw [bj_4 g e2 (hk.trans a2)]
      rfl)
  · exact name_J hF sk hr hs hS n0 n1 he hlo a1 a2
  · exact leaf_w hF sk hr hs hS he (by rw [a1]; decide) t1 (fun cs1 ck hk => ca_61 ck e3 (hk.trans a1)) (fun rs g hk => by
      rw [bj_20 g e2 (hk.trans a2)]
      rfl)
theorem una_J {F t c cap s k lo root : Nat} {V : VT} {D : Nat → Prop} {Sc : CS → RS → Prop} {T : TG_judge} {a e : Nat} (hF : 10000 ≤ F) (sk : SKV V s) (hr : root < s) (hs : s ≤ 120) (hS : SCF t c Sc) (he : e ≤ root) (ha : a < e) (hlo : lo ≤ a) (u : UNA V e) (hl : rl V e = nI (e - 1)) (hf : vf V (e - 1) = nI a) (hb : vb V (e - 1) = rb V (e - 1)) (ih : JA F t c cap s k lo root V D Sc T a (e - 1)) : JA F t c cap s k lo root V D Sc (b_judge F T) a e := by
  have t1 : TYR 1 1 := Or.inl ⟨rfl, rfl⟩
  have t2 : TYR 2 2 := Or.inr (Or.inl ⟨rfl, rfl⟩)
  have e2 : e < 121 := by omega
  have e3 : e < s := by omega
  obtain ⟨hp, u⟩ := u
  rcases u with ⟨a1, a2⟩ | ⟨a1, a2⟩ | ⟨a1, a2, -⟩ | ⟨a1, a2, -⟩
  · exact una_w (W := 2) (R := 2) (R' := 2) hF sk hr hs hS he ha hlo (by rw [a1]; decide) (by rw [a1]; unfold AGC; decide) hp hl hf hb (Or.inr rfl) t2 (fun cs1 cs2 ck hk hw => ca_25 ck e3 (hk.trans a1) hw) (fun rs rs1 g hk h24 h24' hT => by
      rw [bj_8 g e2 (hk.trans a2)]
      unfold m_judge_b389 m_judge_b423 m_judge_b426 m_judge_b437 m_judge_b539
      rw [rdI_n e2 (by decide), ob_s, h24, hT, ob_s, if_neg (by decide), rdI_n e2 (by decide), ob_s, h24', if_pos rfl]
      rfl) ih
  · exact una_w (W := 1) (R := 1) (R' := 1) hF sk hr hs hS he ha hlo (by rw [a1]; decide) (by rw [a1]; unfold AGC; decide) hp hl hf hb (Or.inl rfl) t1 (fun cs1 cs2 ck hk hw => ca_58 ck e3 (hk.trans a1) hw) (fun rs rs1 g hk h24 h24' hT => by
      rw [bj_17 g e2 (hk.trans a2)]
      unfold m_judge_b389 m_judge_b423 m_judge_b426 m_judge_b437 m_judge_b539
      rw [rdI_n e2 (by decide), ob_s, h24, hT, ob_s, if_neg (by decide), rdI_n e2 (by decide), ob_s, h24', if_neg (by decide)]
      rfl) ih
  · exact una_n (R := 2) (R' := 2) hF sk hr hs hS he ha hlo (by rw [a1]; decide) (by rw [a1]; unfold AGC; decide) hl t2 (fun cs1 ck hk => ca_24 ck e3 (hk.trans a1)) (fun rs rs1 g hk h24 hT => by
      rw [bj_10 g e2 (hk.trans a2)]
      unfold m_judge_b389 m_judge_b426 m_judge_b437 m_judge_b539
      rw [rdI_n e2 (by decide), ob_s, h24, hT, ob_s, if_pos rfl, if_neg (by decide)]) ih
  · exact una_n (R := 2) (R' := 2) hF sk hr hs hS he ha hlo (by rw [a1]; decide) (by rw [a1]; unfold AGC; decide) hl t2 (fun cs1 ck hk => ca_59 ck e3 (hk.trans a1)) (fun rs rs1 g hk h24 hT => by
      rw [bj_10 g e2 (hk.trans a2)]
      unfold m_judge_b389 m_judge_b426 m_judge_b437 m_judge_b539
      rw [rdI_n e2 (by decide), ob_s, h24, hT, ob_s, if_pos rfl, if_neg (by decide)]) ih
theorem agg_J {F t c cap s k lo root : Nat} {V : VT} {D : Nat → Prop} {Sc : CS → RS → Prop} {T : TG_judge} {a e : Nat} (hF : 10000 ≤ F) (sk : SKV V s) (hr : root < s) (hs : s ≤ 120) (hS : SCF t c Sc) (hA0 : SCA lo root V Sc) (he : e ≤ root) (ha : a < e) (hlo : lo ≤ a) (u : AGK V e) (hl : rl V e = nI (e - 1)) (hv : vs V a = nI e) (hno : ∀ x, a ≤ x → x < e → ¬ AGC (vk V x)) (hf : vf V (e - 1) = nI a) (hb : vb V (e - 1) = rb V (e - 1)) (ih : JA F t c cap s k lo root V D Sc T a (e - 1)) : JA F t c cap s k lo root V D Sc (b_judge F T) a e := by
  have e2 : e < 121 := by omega
  have e3 : e < s := by omega
  obtain ⟨hp, u⟩ := u
  rcases u with ⟨a1, a2⟩ | ⟨a1, a2⟩ | ⟨a1, a2⟩ | ⟨a1, a2⟩
  · exact agg_n hF sk hr hs hS hA0 he ha hlo (by rw [a1]; unfold AGC; decide) (by rw [a1]; decide) hl hv hno (fun cs1 ck hk => ca_32 ck e3 (hk.trans a1)) (fun rs rs1 g hk h24 hT => by
      rw [bj_21 g e2 (hk.trans a2), rdI_n e2 (by decide), ob_s, show (setF rs 76 0).2.2.1 24 e = nI (e - 1) from h24, hT, ob_s]
      rfl) ih
  · exact agg_w hF sk hr hs hS hA0 he ha hlo (by rw [a1]; unfold AGC; decide) (by rw [a1]; decide) hp hl hv hno hf hb (fun cs1 cs2 ck hk hw => ca_33 ck e3 (hk.trans a1) hw) (fun rs rs1 g hk h24 h24' hT => by
      rw [bj_22 g e2 (hk.trans a2), rdI_n e2 (by decide), ob_s, show (setF rs 76 0).2.2.1 24 e = nI (e - 1) from h24, hT, ob_s, rdI_n e2 (by decide), ob_s, show (setF rs1 76 (rs.1 76)).2.2.1 24 e = nI (e - 1) from h24']
      rfl) ih
  · exact agg_w hF sk hr hs hS hA0 he ha hlo (by rw [a1]; unfold AGC; decide) (by rw [a1]; decide) hp hl hv hno hf hb (fun cs1 cs2 ck hk hw => ca_34 ck e3 (hk.trans a1) hw) (fun rs rs1 g hk h24 h24' hT => by
      rw [bj_23 g e2 (hk.trans a2), rdI_n e2 (by decide), ob_s, show (setF rs 76 0).2.2.1 24 e = nI (e - 1) from h24, hT, ob_s, rdI_n e2 (by decide), ob_s, show (setF rs1 76 (rs.1 76)).2.2.1 24 e = nI (e - 1) from h24']
      rfl) ih
  · exact agg_w hF sk hr hs hS hA0 he ha hlo (by rw [a1]; unfold AGC; decide) (by rw [a1]; decide) hp hl hv hno hf hb (fun cs1 cs2 ck hk hw => ca_35 ck e3 (hk.trans a1) hw) (fun rs rs1 g hk h24 h24' hT => by
      rw [bj_24 g e2 (hk.trans a2), rdI_n e2 (by decide), ob_s, show (setF rs 76 0).2.2.1 24 e = nI (e - 1) from h24, hT, ob_s, rdI_n e2 (by decide), ob_s, show (setF rs1 76 (rs.1 76)).2.2.1 24 e = nI (e - 1) from h24']
      rfl) ih
theorem bin_J {F t c cap s k lo root : Nat} {V : VT} {D : Nat → Prop} {Sc : CS → RS → Prop} {T : TG_judge} {a g e : Nat} (hF : 10000 ≤ F) (sk : SKV V s) (hr : root < s) (hs : s ≤ 120) (hS : SCF t c Sc) (he : e ≤ root) (hag0 : a < g ∧ g < e) (hlo : lo ≤ a) (u : BIN V e) (hl : rl V e = nI (g - 1)) (hrr : rr V e = nI (e - 1)) (hf1 : vf V (g - 1) = nI a) (hf2 : vf V (e - 1) = nI g) (hb1 : vb V (g - 1) = rb V (g - 1)) (hb2 : vb V (e - 1) = rb V (e - 1)) (rng : ∀ q, g ≤ q → q ≤ e - 1 → ∃ fq, vf V q = nI fq ∧ g ≤ fq ∧ fq ≤ q) (hT : ∀ rs x, rs.1 21 = 0 → T rs x = some rs) (ih1 : JA F t c cap s k lo root V D Sc T a (g - 1)) (ih2 : JA F t c cap s k lo root V D Sc T g (e - 1)) : JA F t c cap s k lo root V D Sc (b_judge F T) a e := by
  have t1 : TYR 1 1 := Or.inl ⟨rfl, rfl⟩
  have t2 : TYR 2 2 := Or.inr (Or.inl ⟨rfl, rfl⟩)
  have e2 : e < 121 := by omega
  have e3 : e < s := by omega
  obtain ⟨hp, u⟩ := u
  rcases u with ⟨a1, a2⟩ | ⟨a1, a2⟩ | ⟨a1, a2⟩ | ⟨a1, a2⟩ | ⟨a1, a2⟩ | ⟨a1, a2⟩ | ⟨a1, a2⟩ | ⟨a1, a2⟩ | ⟨κ, k1, k2, a1, a2, -⟩
  · exact bin_w (W := 2) (R := 2) (R' := 2) hF sk hr hs hS he hag0 hlo (by rw [a1]; decide) (by rw [a1]; unfold AGC; decide) hp hl hrr hf1 hf2 hb1 hb2 rng (Or.inr rfl) t2 (fun cs1 cs2 ck hk hw => ca_28 ck e3 (hk.trans a1) hw) (fun rs rs1 rs2 g hk h24 h25 h24' q1 q2 => by
      rw [bj_6 g e2 (hk.trans a2), rdI_n e2 (by decide), ob_s, h24, q1, ob_s, rdI_n e2 (by decide), ob_s, h25, q2, ob_s]
      unfold m_judge_b484 m_judge_b489
      rw [rdI_n e2 (by decide), ob_s, h24']
      rfl) hT ih1 ih2
  · exact bin_w (W := 2) (R := 2) (R' := 2) hF sk hr hs hS he hag0 hlo (by rw [a1]; decide) (by rw [a1]; unfold AGC; decide) hp hl hrr hf1 hf2 hb1 hb2 rng (Or.inr rfl) t2 (fun cs1 cs2 ck hk hw => ca_29 ck e3 (hk.trans a1) hw) (fun rs rs1 rs2 g hk h24 h25 h24' q1 q2 => by
      rw [bj_7 g e2 (hk.trans a2), rdI_n e2 (by decide), ob_s, h24, q1, ob_s, rdI_n e2 (by decide), ob_s, h25, q2, ob_s]
      unfold m_judge_b484 m_judge_b489
      rw [rdI_n e2 (by decide), ob_s, h24']
      rfl) hT ih1 ih2
  · exact bin_w (W := 1) (R := 1) (R' := 1) hF sk hr hs hS he hag0 hlo (by rw [a1]; decide) (by rw [a1]; unfold AGC; decide) hp hl hrr hf1 hf2 hb1 hb2 rng (Or.inl rfl) t1 (fun cs1 cs2 ck hk hw => ca_45 ck e3 (hk.trans a1) hw) (fun rs rs1 rs2 g hk h24 h25 h24' q1 q2 => by
      rw [bj_12 g e2 (hk.trans a2), rdI_n e2 (by decide), ob_s, h24, q1, ob_s, rdI_n e2 (by decide), ob_s, h25, q2, ob_s]
      unfold m_judge_b489
      rw [rdI_n e2 (by decide), ob_s, h24']
      rfl) hT ih1 ih2
  · exact bin_w (W := 1) (R := 1) (R' := 1) hF sk hr hs hS he hag0 hlo (by rw [a1]; decide) (by rw [a1]; unfold AGC; decide) hp hl hrr hf1 hf2 hb1 hb2 rng (Or.inl rfl) t1 (fun cs1 cs2 ck hk hw => ca_46 ck e3 (hk.trans a1) hw) (fun rs rs1 rs2 g hk h24 h25 h24' q1 q2 => by
      rw [bj_13 g e2 (hk.trans a2), rdI_n e2 (by decide), ob_s, h24, q1, ob_s, rdI_n e2 (by decide), ob_s, h25, q2, ob_s]
      unfold m_judge_b489
      rw [rdI_n e2 (by decide), ob_s, h24']
      rfl) hT ih1 ih2
  · exact bin_w (W := 1) (R := 1) (R' := 1) hF sk hr hs hS he hag0 hlo (by rw [a1]; decide) (by rw [a1]; unfold AGC; decide) hp hl hrr hf1 hf2 hb1 hb2 rng (Or.inl rfl) t1 (fun cs1 cs2 ck hk hw => ca_47 ck e3 (hk.trans a1) hw) (fun rs rs1 rs2 g hk h24 h25 h24' q1 q2 => by
      rw [bj_14 g e2 (hk.trans a2), rdI_n e2 (by decide), ob_s, h24, q1, ob_s, rdI_n e2 (by decide), ob_s, h25, q2, ob_s]
      unfold m_judge_b489
      rw [rdI_n e2 (by decide), ob_s, h24']
      rfl) hT ih1 ih2
  · exact bin_w (W := 1) (R := 1) (R' := 1) hF sk hr hs hS he hag0 hlo (by rw [a1]; decide) (by rw [a1]; unfold AGC; decide) hp hl hrr hf1 hf2 hb1 hb2 rng (Or.inl rfl) t1 (fun cs1 cs2 ck hk hw => ca_48 ck e3 (hk.trans a1) hw) (fun rs rs1 rs2 g hk h24 h25 h24' q1 q2 => by
      rw [bj_15 g e2 (hk.trans a2), rdI_n e2 (by decide), ob_s, h24, q1, ob_s, rdI_n e2 (by decide), ob_s, h25, q2, ob_s]
      unfold m_judge_b489
      rw [rdI_n e2 (by decide), ob_s, h24']
      rfl) hT ih1 ih2
  · exact bin_w (W := 1) (R := 1) (R' := 1) hF sk hr hs hS he hag0 hlo (by rw [a1]; decide) (by rw [a1]; unfold AGC; decide) hp hl hrr hf1 hf2 hb1 hb2 rng (Or.inl rfl) t1 (fun cs1 cs2 ck hk hw => ca_49 ck e3 (hk.trans a1) hw) (fun rs rs1 rs2 g hk h24 h25 h24' q1 q2 => by
      rw [bj_16 g e2 (hk.trans a2), rdI_n e2 (by decide), ob_s, h24, q1, ob_s, rdI_n e2 (by decide), ob_s, h25, q2, ob_s]
      unfold m_judge_b489
      rw [rdI_n e2 (by decide), ob_s, h24']
      rfl) hT ih1 ih2
  · exact bin_w (W := 1) (R := 1) (R' := 1) hF sk hr hs hS he hag0 hlo (by rw [a1]; decide) (by rw [a1]; unfold AGC; decide) hp hl hrr hf1 hf2 hb1 hb2 rng (Or.inl rfl) t1 (fun cs1 cs2 ck hk hw => ca_36 ck e3 (hk.trans a1) hw) (fun rs rs1 rs2 g hk h24 h25 h24' q1 q2 => by
      rw [bj_19 g e2 (hk.trans a2), rdI_n e2 (by decide), ob_s, h24, q1, ob_s, rdI_n e2 (by decide), ob_s, h25, q2, ob_s]
      unfold m_judge_b489
      rw [rdI_n e2 (by decide), ob_s, h24']
      rfl) hT ih1 ih2
  · have : κ = 50 ∨ κ = 51 ∨ κ = 52 ∨ κ = 53 ∨ κ = 54 ∨ κ = 55 := by omega
    rcases this with y | y | y | y | y | y
    · have b1 : vk V e = 50 := by rw [a1, y]; decide
      exact bin_w (W := 1) (R := 2) (R' := 2) hF sk hr hs hS he hag0 hlo (by rw [b1]; decide) (by rw [b1]; unfold AGC; decide) hp hl hrr hf1 hf2 hb1 hb2 rng (Or.inl rfl) t2 (fun cs1 cs2 ck hk hw => ca_50 ck e3 (hk.trans b1) hw) (fun rs rs1 rs2 g hk h24 h25 h24' q1 q2 => by
          rw [bj_9 g e2 (hk.trans a2), rdI_n e2 (by decide), ob_s, h24, q1, ob_s, rdI_n e2 (by decide), ob_s, h25, q2, ob_s]
          unfold m_judge_b489
          rw [rdI_n e2 (by decide), ob_s, h24']
          rfl) hT ih1 ih2
    · have b1 : vk V e = 51 := by rw [a1, y]; decide
      exact bin_w (W := 1) (R := 2) (R' := 2) hF sk hr hs hS he hag0 hlo (by rw [b1]; decide) (by rw [b1]; unfold AGC; decide) hp hl hrr hf1 hf2 hb1 hb2 rng (Or.inl rfl) t2 (fun cs1 cs2 ck hk hw => ca_51 ck e3 (hk.trans b1) hw) (fun rs rs1 rs2 g hk h24 h25 h24' q1 q2 => by
          rw [bj_9 g e2 (hk.trans a2), rdI_n e2 (by decide), ob_s, h24, q1, ob_s, rdI_n e2 (by decide), ob_s, h25, q2, ob_s]
          unfold m_judge_b489
          rw [rdI_n e2 (by decide), ob_s, h24']
          rfl) hT ih1 ih2
    · have b1 : vk V e = 52 := by rw [a1, y]; decide
      exact bin_w (W := 1) (R := 2) (R' := 2) hF sk hr hs hS he hag0 hlo (by rw [b1]; decide) (by rw [b1]; unfold AGC; decide) hp hl hrr hf1 hf2 hb1 hb2 rng (Or.inl rfl) t2 (fun cs1 cs2 ck hk hw => ca_52 ck e3 (hk.trans b1) hw) (fun rs rs1 rs2 g hk h24 h25 h24' q1 q2 => by
          rw [bj_9 g e2 (hk.trans a2), rdI_n e2 (by decide), ob_s, h24, q1, ob_s, rdI_n e2 (by decide), ob_s, h25, q2, ob_s]
          unfold m_judge_b489
          rw [rdI_n e2 (by decide), ob_s, h24']
          rfl) hT ih1 ih2
    · have b1 : vk V e = 53 := by rw [a1, y]; decide
      exact bin_w (W := 1) (R := 2) (R' := 2) hF sk hr hs hS he hag0 hlo (by rw [b1]; decide) (by rw [b1]; unfold AGC; decide) hp hl hrr hf1 hf2 hb1 hb2 rng (Or.inl rfl) t2 (fun cs1 cs2 ck hk hw => ca_53 ck e3 (hk.trans b1) hw) (fun rs rs1 rs2 g hk h24 h25 h24' q1 q2 => by
          rw [bj_9 g e2 (hk.trans a2), rdI_n e2 (by decide), ob_s, h24, q1, ob_s, rdI_n e2 (by decide), ob_s, h25, q2, ob_s]
          unfold m_judge_b489
          rw [rdI_n e2 (by decide), ob_s, h24']
          rfl) hT ih1 ih2
    · have b1 : vk V e = 54 := by rw [a1, y]; decide
      exact bin_w (W := 1) (R := 2) (R' := 2) hF sk hr hs hS he hag0 hlo (by rw [b1]; decide) (by rw [b1]; unfold AGC; decide) hp hl hrr hf1 hf2 hb1 hb2 rng (Or.inl rfl) t2 (fun cs1 cs2 ck hk hw => ca_54 ck e3 (hk.trans b1) hw) (fun rs rs1 rs2 g hk h24 h25 h24' q1 q2 => by
          rw [bj_9 g e2 (hk.trans a2), rdI_n e2 (by decide), ob_s, h24, q1, ob_s, rdI_n e2 (by decide), ob_s, h25, q2, ob_s]
          unfold m_judge_b489
          rw [rdI_n e2 (by decide), ob_s, h24']
          rfl) hT ih1 ih2
    · have b1 : vk V e = 55 := by rw [a1, y]; decide
      exact bin_w (W := 1) (R := 2) (R' := 2) hF sk hr hs hS he hag0 hlo (by rw [b1]; decide) (by rw [b1]; unfold AGC; decide) hp hl hrr hf1 hf2 hb1 hb2 rng (Or.inl rfl) t2 (fun cs1 cs2 ck hk hw => ca_55 ck e3 (hk.trans b1) hw) (fun rs rs1 rs2 g hk h24 h25 h24' q1 q2 => by
          rw [bj_9 g e2 (hk.trans a2), rdI_n e2 (by decide), ob_s, h24, q1, ob_s, rdI_n e2 (by decide), ob_s, h25, q2, ob_s]
          unfold m_judge_b489
          rw [rdI_n e2 (by decide), ob_s, h24']
          rfl) hT ih1 ih2
theorem judge_all {F t c cap s k lo root : Nat} {V : VT} {D : Nat → Prop} {Sc : CS → RS → Prop} (hF : 10000 ≤ F) (sk : SKV V s) (hr : root < s) (hs : s ≤ 120) (hS : SCF t c Sc) (hA0 : SCA lo root V Sc) (n0 : NM0 F t c cap s k lo root V D Sc) (n1 : NM1 F t c cap s k lo root V D Sc) : ∀ (d R a e n : Nat), TR V d R a e → d ≤ n → e ≤ root → lo ≤ a → JA F t c cap s k lo root V D Sc (tab_judge F n) a e := by
  intro d
  induction d with
  | zero => intro R a e n x; exact x.elim
  | succ d ih =>
    intro R a e n x hn he hlo
    obtain ⟨n, rfl⟩ : ∃ y, n = y + 1 := ⟨n - 1, by omega⟩
    show JA F t c cap s k lo root V D Sc (b_judge F (tab_judge F n)) a e
    obtain ⟨h1, h2, h3, h4⟩ := x
    have hd : ∀ R a e, TR V d R a e → vf V e = nI a ∧ vb V e = rb V e ∧ 1 ≤ d := fun R a e z => by
      cases d with
      | zero => exact z.elim
      | succ d => exact ⟨z.2.1, z.2.2.1, by omega⟩
    have hT : 1 ≤ d → ∀ (rs : RS) (x : Int32), rs.1 21 = 0 → tab_judge F n rs x = some rs := fun z rs x g => by
      obtain ⟨n, rfl⟩ : ∃ y, n = y + 1 := ⟨n - 1, by omega⟩
      exact tj_f g
    rcases h4 with ⟨y1, y2, y3⟩ | ⟨y1, y2, y3, y4⟩ | ⟨g, y1, y2, y3, y4, y5, y6, y7⟩ | ⟨g, h, y1, y2, y3, y4, y5, y6, y7, y8, y9, y10, y11, y12⟩ | ⟨m, g, r, y1, y2, y3, y4, y5, y6, y7, y8, y9, y10⟩ | ⟨y1, y2, y3, y4, y5, y0⟩
    · subst y1
      exact leaf_J hF sk hr hs hS n0 n1 he hlo y3
    · obtain ⟨z1, z2, z3⟩ := hd _ _ _ y4
      exact una_J hF sk hr hs hS he y1 hlo y2 y3 z1 z2 (ih R a (e - 1) n y4 (by omega) (by omega) hlo)
    · obtain ⟨z1, z2, z3⟩ := hd _ _ _ y6
      obtain ⟨w1, w2, w3⟩ := hd _ _ _ y7
      exact bin_J hF sk hr hs hS he ⟨y1, y2⟩ hlo y3 y4 y5 z1 w1 z2 w2 (TR.rng d _ _ _ y7).2 (hT z3) (ih R a (g - 1) n y6 (by omega) (by omega) hlo) (ih R g (e - 1) n y7 (by omega) (by omega) (by omega))
    · obtain ⟨z1, z2, z3⟩ := hd _ _ _ y10
      obtain ⟨w1, w2, w3⟩ := hd _ _ _ y11
      obtain ⟨u1, u2, u3⟩ := hd _ _ _ y12
      exact case_J hF sk hr hs hS he ⟨y1, y2, y3⟩ hlo y5 y6 y7 y8 y9 w1 u1 z2 u2 (TR.rng d _ _ _ y11).2 (TR.rng d _ _ _ y12).2 (hT z3) (ih R a (g - 1) n y10 (by omega) (by omega) hlo) (ih R g (h - 1) n y11 (by omega) (by omega) (by omega)) (ih R h (e - 1) n y12 (by omega) (by omega) (by omega))
    · obtain ⟨z1, z2, z3⟩ := hd _ _ _ y9
      exact in_J hF sk hr hs hS he ⟨y3, y4, y5⟩ ⟨y1, y2⟩ hlo y6 y7 y8 y9 y10 (hT z3) (fun a' r' q1 q2 q3 => ih R a' r' n q1 (by omega) q2 q3)
    · obtain ⟨z1, z2, z3⟩ := hd _ _ _ y5
      exact agg_J hF sk hr hs hS hA0 he y1 hlo y2 y3 y4 y0 z1 z2 (ih (e - 1) a (e - 1) n y5 (by omega) (by omega) hlo)
/-- a whole EXPR from its root, of the class and of the reference -/
theorem sim_judge {F t c cap s k lo root : Nat} {V : VT} {D : Nat → Prop} {Sc : CS → RS → Prop} {a : Nat} {m : MK} {cs : CS} {rs : RS} (hF : 10000 ≤ F) (sk : SKV V s) (hr : root < s) (hs : s ≤ 120) (hS : SCF t c Sc) (hA0 : SCA a root V Sc) (n0 : NM0 F t c cap s k a root V D Sc) (n1 : NM1 F t c cap s k a root V D Sc) (tr : TR V (root + 1 - a) root a root) (mo : MO k m cs rs (-1) a) (hm : m = none ∨ m = some none) (h : JS t c cap s k a a V D Sc cs rs) : ∃ cs' rs', c_X0_checkExpr F cs k (nI root) = some cs' ∧ m_judge F 300 rs (nI root) = some rs' ∧ JF t c cs rs cs' rs' ∧ (JS t c cap s k a (root + 1) V D Sc cs' rs' ∨ JB t c cap s k cs' rs') := by
  have mc : MC V root m a root := by
    rcases hm with y | y
    · rw [y]
      exact True.intro
    · rw [y]
      intro q' fq w1 w2
      omega
  have ar := (TR.rng _ _ _ _ tr).1
  have vfr : kA cs 67 c root = nI a := by
    have q := (h.r (e := root) hr).2.1
    have : vf V root = nI a := by
      obtain ⟨d, hd⟩ : ∃ d, root + 1 - a = d + 1 := ⟨root - a, by omega⟩
      rw [hd] at tr
      exact tr.2.1
    exact q.trans this
  obtain ⟨rs', e1, cs', j, p⟩ := judge_all hF sk hr hs hS hA0 n0 n1 (root + 1 - a) root a root 300 tr (by omega) (Nat.le_refl _) (Nat.le_refl _) m (F - (root + 1 - a)) (-1) cs rs mc (by omega) h mo
  rw [show F - (root + 1 - a) + (root + 1 - a) = F by omega] at p
  have eC : c_X0_checkExpr F cs k (nI root) = c_X0_checkExpr_L24 F F cs k (nI root) (-1) (nI a) := by
    unfold c_X0_checkExpr
    rw [ck_c h.ck, ckE_ok h.ck.oc, ob_s, ck_has h.ck hr, ob_s, if_neg (by decide), ck_c h.ck, ck_67 h.ck hr, vfr]
  rcases p with ⟨ag', h1, -, hL⟩ | ⟨h1, hL⟩
  · refine ⟨cs', rs', ?_, e1, j, Or.inl h1⟩
    rw [eC, hL, show F - (root + 1 - a) = F - (root + 1 - a) - 1 + 1 by omega, c_X0_checkExpr_L24, if_pos (nI_lt (by omega) (by omega))]
    rfl
  · exact ⟨cs', rs', eC.trans hL, e1, j, Or.inr h1⟩

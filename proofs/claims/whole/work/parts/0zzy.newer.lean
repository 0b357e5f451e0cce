/-! new objects of a QUERY -/
def NSL (o it gr : Nat) (cs : CS) : Prop := ((6, o) ∈ kE cs) ∧ (kI cs 192 o = 0) ∧ (kR cs 194 o = some it) ∧ ((227, o) ∈ kE cs) ∧ (∃ j, kP cs 195 o = some j) ∧ (kL cs 195 o = 3) ∧ (kI cs 196 o = 0) ∧ (kI cs 197 o = -1) ∧ (kI cs 198 o = 0) ∧ (kR cs 200 o = some gr) ∧ (kI cs 201 o = -1) ∧ ((234, o) ∈ kE cs) ∧ (∃ j, kP cs 202 o = some j) ∧ (kL cs 202 o = 12) ∧ (kI cs 203 o = 0) ∧ (kI cs 204 o = 10) ∧ (CLM it 0 cs) ∧ (CLM gr 0 cs)
theorem NSL.e {o it gr : Nat} {cs : CS} (h : NSL o it gr cs) : (6, o) ∈ kE cs := h.1
theorem NSL.i192 {o it gr : Nat} {cs : CS} (h : NSL o it gr cs) : kI cs 192 o = 0 := h.2.1
theorem NSL.r194 {o it gr : Nat} {cs : CS} (h : NSL o it gr cs) : kR cs 194 o = some it := h.2.2.1
theorem NSL.e195 {o it gr : Nat} {cs : CS} (h : NSL o it gr cs) : (227, o) ∈ kE cs := h.2.2.2.1
theorem NSL.p195 {o it gr : Nat} {cs : CS} (h : NSL o it gr cs) : ∃ j, kP cs 195 o = some j := h.2.2.2.2.1
theorem NSL.l195 {o it gr : Nat} {cs : CS} (h : NSL o it gr cs) : kL cs 195 o = 3 := h.2.2.2.2.2.1
theorem NSL.i196 {o it gr : Nat} {cs : CS} (h : NSL o it gr cs) : kI cs 196 o = 0 := h.2.2.2.2.2.2.1
theorem NSL.i197 {o it gr : Nat} {cs : CS} (h : NSL o it gr cs) : kI cs 197 o = -1 := h.2.2.2.2.2.2.2.1
theorem NSL.i198 {o it gr : Nat} {cs : CS} (h : NSL o it gr cs) : kI cs 198 o = 0 := h.2.2.2.2.2.2.2.2.1
theorem NSL.r200 {o it gr : Nat} {cs : CS} (h : NSL o it gr cs) : kR cs 200 o = some gr := h.2.2.2.2.2.2.2.2.2.1
theorem NSL.i201 {o it gr : Nat} {cs : CS} (h : NSL o it gr cs) : kI cs 201 o = -1 := h.2.2.2.2.2.2.2.2.2.2.1
theorem NSL.e202 {o it gr : Nat} {cs : CS} (h : NSL o it gr cs) : (234, o) ∈ kE cs := h.2.2.2.2.2.2.2.2.2.2.2.1
theorem NSL.p202 {o it gr : Nat} {cs : CS} (h : NSL o it gr cs) : ∃ j, kP cs 202 o = some j := h.2.2.2.2.2.2.2.2.2.2.2.2.1
theorem NSL.l202 {o it gr : Nat} {cs : CS} (h : NSL o it gr cs) : kL cs 202 o = 12 := h.2.2.2.2.2.2.2.2.2.2.2.2.2.1
theorem NSL.i203 {o it gr : Nat} {cs : CS} (h : NSL o it gr cs) : kI cs 203 o = 0 := h.2.2.2.2.2.2.2.2.2.2.2.2.2.2.1
theorem NSL.i204 {o it gr : Nat} {cs : CS} (h : NSL o it gr cs) : kI cs 204 o = 10 := h.2.2.2.2.2.2.2.2.2.2.2.2.2.2.2.1
theorem NSL.ci {o it gr : Nat} {cs : CS} (h : NSL o it gr cs) : CLM it 0 cs := h.2.2.2.2.2.2.2.2.2.2.2.2.2.2.2.2.1
theorem NSL.cg {o it gr : Nat} {cs : CS} (h : NSL o it gr cs) : CLM gr 0 cs := h.2.2.2.2.2.2.2.2.2.2.2.2.2.2.2.2.2
theorem new_select {F : Nat} {cs : CS} (hb : KB cs) : ∃ cs' it gr, c_X5_init F (nO cs 6 15) (kK cs) = some cs' ∧ KB cs' ∧ GW (kK cs) cs cs' ∧ it = kK cs + 1 ∧ gr = kK cs + 7 ∧ kK cs' = kK cs + 13 ∧ kM cs' = kM cs + 104 ∧ NSL (kK cs) it gr cs' := by
  have a0 : ∀ x j, ¬ (x / 32 = 6 ∧ j = kK cs) → AT cs (nO cs 6 15) x j := fun x j hx => AT.ng hx
  have m0 : EM cs (nO cs 6 15) := nO_em
  have kb0 : KB (nO cs 6 15) := nO_kb hb
  have s0 : kK (nO cs 6 15) = kK cs + 1 ∧ kM (nO cs 6 15) = kM cs + 15 := ⟨rfl, rfl⟩
  have M_o_0 : (6, kK cs) ∈ kE (nO cs 6 15) := nO_new
  have z0 : ∀ x, x / 32 = 6 → kI (nO cs 6 15) x (kK cs) = 0 ∧ kJ (nO cs 6 15) x (kK cs) = 0 ∧ kR (nO cs 6 15) x (kK cs) = none ∧ kP (nO cs 6 15) x (kK cs) = none := fun x hx => nO_z hx
  obtain ⟨c0, hc0⟩ : ∃ x, x = nO cs 6 15 := ⟨_, rfl⟩
  rw [← hc0] at a0 m0 kb0 s0 M_o_0 z0 ⊢
  obtain ⟨o, ho⟩ : ∃ x, x = kK cs := ⟨_, rfl⟩
  rw [← ho] at a0 s0 M_o_0 z0 ⊢
  have q1 : nwO c0 3 5 = some (nO c0 3 5) := nwO_ok kb0
  have a1 : ∀ x j, ¬ (x / 32 = 3 ∧ j = kK c0) → AT c0 (nO c0 3 5) x j := fun x j hx => AT.ng hx
  have m1 : EM c0 (nO c0 3 5) := nO_em
  have kb1 : KB (nO c0 3 5) := nO_kb kb0
  have s1 : kK (nO c0 3 5) = kK c0 + 1 ∧ kM (nO c0 3 5) = kM c0 + 5 := ⟨rfl, rfl⟩
  have w1 : (3, kK c0) ∈ kE (nO c0 3 5) := nO_new
  have z1 : ∀ x, x / 32 = 3 → kI (nO c0 3 5) x (kK c0) = 0 ∧ kJ (nO c0 3 5) x (kK c0) = 0 ∧ kR (nO c0 3 5) x (kK c0) = none ∧ kP (nO c0 3 5) x (kK c0) = none := fun x hx => nO_z hx
  obtain ⟨c1, hc1⟩ : ∃ x, x = nO c0 3 5 := ⟨_, rfl⟩
  rw [← hc1] at q1 a1 m1 kb1 s1 w1 z1
  have M_o_1 := m1 _ M_o_0
  obtain ⟨it, hit⟩ : ∃ x, x = kK c0 := ⟨_, rfl⟩
  have Z1 := z1
  rw [← hit] at w1 z1 a1
  obtain ⟨c2, q2, kb2, m2, s2a, s2b, a2, cl2⟩ := new_cols (F := F) w1 kb1
  have s2 : kK c2 = kK c1 + 4 ∧ kM c2 = kM c1 + 32 := ⟨s2a, s2b⟩
  have M_o_2 := m2 _ M_o_1
  have M_it_2 := m2 _ w1
  have q3 : pR c2 6 194 o (some it) = some (sR c2 194 o (some it)) := pR_ok M_o_2
  have v3 : kR (sR c2 194 o (some it)) 194 o = (some it) := u2_s
  have a3 : ∀ x j, ¬ (x = 194 ∧ j = o) → AT c2 (sR c2 194 o (some it)) x j := fun x j hx => AT.sR hx
  have m3 : EM c2 (sR c2 194 o (some it)) := EM.refl
  have kb3 : KB (sR c2 194 o (some it)) := kb2
  have s3 : kK (sR c2 194 o (some it)) = kK c2 ∧ kM (sR c2 194 o (some it)) = kM c2 := ⟨rfl, rfl⟩
  obtain ⟨c3, hc3⟩ : ∃ x, x = sR c2 194 o (some it) := ⟨_, rfl⟩
  rw [← hc3] at q3 v3 a3 m3 kb3 s3
  have M_o_3 := m3 _ M_o_2
  have M_it_3 := m3 _ M_it_2
  have q4 : nwA c3 6 195 o 3 = some (nA c3 195 o 3 (fun _ => 0) (fun _ => 0)) := nwA_ok M_o_3 rfl (by decide)
  have e4 := nA_is (cs := c3) (t := 195) (i := o) (n := 3) (f := fun _ => 0) (g := fun _ => 0)
  have w4 := nA_new (cs := c3) (t := 195) (i := o) (n := 3) (f := fun _ => 0) (g := fun _ => 0)
  have a4 : ∀ x j, ¬ (x = 195 ∧ j = o) → AT c3 (nA c3 195 o 3 (fun _ => 0) (fun _ => 0)) x j := fun x j hx => AT.nA hx
  have m4 : EM c3 (nA c3 195 o 3 (fun _ => 0) (fun _ => 0)) := nA_em
  have kb4 : KB (nA c3 195 o 3 (fun _ => 0) (fun _ => 0)) := nA_kb kb3 (kb3 _ M_o_3)
  have s4 : kK (nA c3 195 o 3 (fun _ => 0) (fun _ => 0)) = kK c3 + 1 ∧ kM (nA c3 195 o 3 (fun _ => 0) (fun _ => 0)) = kM c3 + 3 := ⟨rfl, rfl⟩
  obtain ⟨c4, hc4⟩ : ∃ x, x = nA c3 195 o 3 (fun _ => 0) (fun _ => 0) := ⟨_, rfl⟩
  rw [← hc4] at q4 e4 w4 a4 m4 kb4 s4
  have M_o_4 := m4 _ M_o_3
  have M_it_4 := m4 _ M_it_3
  have q5 : pI c4 6 197 o (-1) = some (sI c4 197 o (-1)) := pI_ok M_o_4
  have v5 : kI (sI c4 197 o (-1)) 197 o = (-1) := u2_s
  have a5 : ∀ x j, ¬ (x = 197 ∧ j = o) → AT c4 (sI c4 197 o (-1)) x j := fun x j hx => AT.sI hx
  have m5 : EM c4 (sI c4 197 o (-1)) := EM.refl
  have kb5 : KB (sI c4 197 o (-1)) := kb4
  have s5 : kK (sI c4 197 o (-1)) = kK c4 ∧ kM (sI c4 197 o (-1)) = kM c4 := ⟨rfl, rfl⟩
  obtain ⟨c5, hc5⟩ : ∃ x, x = sI c4 197 o (-1) := ⟨_, rfl⟩
  rw [← hc5] at q5 v5 a5 m5 kb5 s5
  have M_o_5 := m5 _ M_o_4
  have M_it_5 := m5 _ M_it_4
  have q6 : nwO c5 3 5 = some (nO c5 3 5) := nwO_ok kb5
  have a6 : ∀ x j, ¬ (x / 32 = 3 ∧ j = kK c5) → AT c5 (nO c5 3 5) x j := fun x j hx => AT.ng hx
  have m6 : EM c5 (nO c5 3 5) := nO_em
  have kb6 : KB (nO c5 3 5) := nO_kb kb5
  have s6 : kK (nO c5 3 5) = kK c5 + 1 ∧ kM (nO c5 3 5) = kM c5 + 5 := ⟨rfl, rfl⟩
  have w6 : (3, kK c5) ∈ kE (nO c5 3 5) := nO_new
  have z6 : ∀ x, x / 32 = 3 → kI (nO c5 3 5) x (kK c5) = 0 ∧ kJ (nO c5 3 5) x (kK c5) = 0 ∧ kR (nO c5 3 5) x (kK c5) = none ∧ kP (nO c5 3 5) x (kK c5) = none := fun x hx => nO_z hx
  obtain ⟨c6, hc6⟩ : ∃ x, x = nO c5 3 5 := ⟨_, rfl⟩
  rw [← hc6] at q6 a6 m6 kb6 s6 w6 z6
  have M_o_6 := m6 _ M_o_5
  have M_it_6 := m6 _ M_it_5
  obtain ⟨gr, hgr⟩ : ∃ x, x = kK c5 := ⟨_, rfl⟩
  have Z6 := z6
  rw [← hgr] at w6 z6 a6
  obtain ⟨c7, q7, kb7, m7, s7a, s7b, a7, cl7⟩ := new_cols (F := F) w6 kb6
  have s7 : kK c7 = kK c6 + 4 ∧ kM c7 = kM c6 + 32 := ⟨s7a, s7b⟩
  have M_o_7 := m7 _ M_o_6
  have M_it_7 := m7 _ M_it_6
  have M_gr_7 := m7 _ w6
  have q8 : pR c7 6 200 o (some gr) = some (sR c7 200 o (some gr)) := pR_ok M_o_7
  have v8 : kR (sR c7 200 o (some gr)) 200 o = (some gr) := u2_s
  have a8 : ∀ x j, ¬ (x = 200 ∧ j = o) → AT c7 (sR c7 200 o (some gr)) x j := fun x j hx => AT.sR hx
  have m8 : EM c7 (sR c7 200 o (some gr)) := EM.refl
  have kb8 : KB (sR c7 200 o (some gr)) := kb7
  have s8 : kK (sR c7 200 o (some gr)) = kK c7 ∧ kM (sR c7 200 o (some gr)) = kM c7 := ⟨rfl, rfl⟩
  obtain ⟨c8, hc8⟩ : ∃ x, x = sR c7 200 o (some gr) := ⟨_, rfl⟩
  rw [← hc8] at q8 v8 a8 m8 kb8 s8
  have M_o_8 := m8 _ M_o_7
  have M_it_8 := m8 _ M_it_7
  have M_gr_8 := m8 _ M_gr_7
  have q9 : pI c8 6 201 o (-1) = some (sI c8 201 o (-1)) := pI_ok M_o_8
  have v9 : kI (sI c8 201 o (-1)) 201 o = (-1) := u2_s
  have a9 : ∀ x j, ¬ (x = 201 ∧ j = o) → AT c8 (sI c8 201 o (-1)) x j := fun x j hx => AT.sI hx
  have m9 : EM c8 (sI c8 201 o (-1)) := EM.refl
  have kb9 : KB (sI c8 201 o (-1)) := kb8
  have s9 : kK (sI c8 201 o (-1)) = kK c8 ∧ kM (sI c8 201 o (-1)) = kM c8 := ⟨rfl, rfl⟩
  obtain ⟨c9, hc9⟩ : ∃ x, x = sI c8 201 o (-1) := ⟨_, rfl⟩
  rw [← hc9] at q9 v9 a9 m9 kb9 s9
  have M_o_9 := m9 _ M_o_8
  have M_it_9 := m9 _ M_it_8
  have M_gr_9 := m9 _ M_gr_8
  have q10 : nwA c9 6 202 o 12 = some (nA c9 202 o 12 (fun _ => 0) (fun _ => 0)) := nwA_ok M_o_9 rfl (by decide)
  have e10 := nA_is (cs := c9) (t := 202) (i := o) (n := 12) (f := fun _ => 0) (g := fun _ => 0)
  have w10 := nA_new (cs := c9) (t := 202) (i := o) (n := 12) (f := fun _ => 0) (g := fun _ => 0)
  have a10 : ∀ x j, ¬ (x = 202 ∧ j = o) → AT c9 (nA c9 202 o 12 (fun _ => 0) (fun _ => 0)) x j := fun x j hx => AT.nA hx
  have m10 : EM c9 (nA c9 202 o 12 (fun _ => 0) (fun _ => 0)) := nA_em
  have kb10 : KB (nA c9 202 o 12 (fun _ => 0) (fun _ => 0)) := nA_kb kb9 (kb9 _ M_o_9)
  have s10 : kK (nA c9 202 o 12 (fun _ => 0) (fun _ => 0)) = kK c9 + 1 ∧ kM (nA c9 202 o 12 (fun _ => 0) (fun _ => 0)) = kM c9 + 12 := ⟨rfl, rfl⟩
  obtain ⟨c10, hc10⟩ : ∃ x, x = nA c9 202 o 12 (fun _ => 0) (fun _ => 0) := ⟨_, rfl⟩
  rw [← hc10] at q10 e10 w10 a10 m10 kb10 s10
  have M_o_10 := m10 _ M_o_9
  have M_it_10 := m10 _ M_it_9
  have M_gr_10 := m10 _ M_gr_9
  have q11 : pI c10 6 204 o 10 = some (sI c10 204 o 10) := pI_ok M_o_10
  have v11 : kI (sI c10 204 o 10) 204 o = 10 := u2_s
  have a11 : ∀ x j, ¬ (x = 204 ∧ j = o) → AT c10 (sI c10 204 o 10) x j := fun x j hx => AT.sI hx
  have m11 : EM c10 (sI c10 204 o 10) := EM.refl
  have kb11 : KB (sI c10 204 o 10) := kb10
  have s11 : kK (sI c10 204 o 10) = kK c10 ∧ kM (sI c10 204 o 10) = kM c10 := ⟨rfl, rfl⟩
  obtain ⟨c11, hc11⟩ : ∃ x, x = sI c10 204 o 10 := ⟨_, rfl⟩
  rw [← hc11] at q11 v11 a11 m11 kb11 s11
  have M_o_11 := m11 _ M_o_10
  have M_it_11 := m11 _ M_it_10
  have M_gr_11 := m11 _ M_gr_10
  have sK : it = o + 1 ∧ gr = o + 7 ∧ kK c11 = o + 13 ∧ kM c11 = kM cs + 104 := by omega
  obtain ⟨sK1, sK2, sK3, sK4⟩ := sK
  refine ⟨c11, it, gr, ?_, kb11, ⟨m0.trans (((((((((((m1).trans m2).trans m3).trans m4).trans m5).trans m6).trans m7).trans m8).trans m9).trans m10).trans m11), by omega, fun x j hj => (a0 x j (by omega)).trans (((((((((((a1 x j (by omega)).trans (a2 x j (by omega))).trans (a3 x j (by omega))).trans (a4 x j (by omega))).trans (a5 x j (by omega))).trans (a6 x j (by omega))).trans (a7 x j (by omega))).trans (a8 x j (by omega))).trans (a9 x j (by omega))).trans (a10 x j (by omega))).trans (a11 x j (by omega)))⟩, by omega, by omega, by omega, by omega, ⟨M_o_11, ?_, ?_, ?_, ?_, ?_, ?_, ?_, ?_, ?_, ?_, ?_, ?_, ?_, ?_, ?_, ?_, ?_⟩⟩
  · unfold c_X5_init c_X5_init_b8 c_X5_init_b12 c_X5_init_b23 c_X5_init_b32 c_X5_init_b36 c_X5_init_b52
    rw [q1, ob_s, ← hit, q2, ob_s, q3, ob_s, q4, ob_s, q5, ob_s, q6, ob_s, ← hgr, q7, ob_s, q8, ob_s, q9, ob_s, q10, ob_s, q11, ob_s]
  · exact (((((((((((a1 192 o (by omega)).trans (a2 192 o (by omega))).trans (a3 192 o (by omega))).trans (a4 192 o (by omega))).trans (a5 192 o (by omega))).trans (a6 192 o (by omega))).trans (a7 192 o (by omega))).trans (a8 192 o (by omega))).trans (a9 192 o (by omega))).trans (a10 192 o (by omega))).trans (a11 192 o (by omega))).i.trans (z0 192 (by decide)).1
  · exact ((((((((a4 194 o (by omega)).trans (a5 194 o (by omega))).trans (a6 194 o (by omega))).trans (a7 194 o (by omega))).trans (a8 194 o (by omega))).trans (a9 194 o (by omega))).trans (a10 194 o (by omega))).trans (a11 194 o (by omega))).r.trans v3
  · exact (((((((m5).trans m6).trans m7).trans m8).trans m9).trans m10).trans m11) _ w4
  · exact ⟨_, (((((((a5 195 o (by omega)).trans (a6 195 o (by omega))).trans (a7 195 o (by omega))).trans (a8 195 o (by omega))).trans (a9 195 o (by omega))).trans (a10 195 o (by omega))).trans (a11 195 o (by omega))).p.trans e4.1⟩
  · exact (((((((a5 195 o (by omega)).trans (a6 195 o (by omega))).trans (a7 195 o (by omega))).trans (a8 195 o (by omega))).trans (a9 195 o (by omega))).trans (a10 195 o (by omega))).trans (a11 195 o (by omega))).l.trans e4.2.1
  · exact (((((((((((a1 196 o (by omega)).trans (a2 196 o (by omega))).trans (a3 196 o (by omega))).trans (a4 196 o (by omega))).trans (a5 196 o (by omega))).trans (a6 196 o (by omega))).trans (a7 196 o (by omega))).trans (a8 196 o (by omega))).trans (a9 196 o (by omega))).trans (a10 196 o (by omega))).trans (a11 196 o (by omega))).i.trans (z0 196 (by decide)).1
  · exact ((((((a6 197 o (by omega)).trans (a7 197 o (by omega))).trans (a8 197 o (by omega))).trans (a9 197 o (by omega))).trans (a10 197 o (by omega))).trans (a11 197 o (by omega))).i.trans v5
  · exact (((((((((((a1 198 o (by omega)).trans (a2 198 o (by omega))).trans (a3 198 o (by omega))).trans (a4 198 o (by omega))).trans (a5 198 o (by omega))).trans (a6 198 o (by omega))).trans (a7 198 o (by omega))).trans (a8 198 o (by omega))).trans (a9 198 o (by omega))).trans (a10 198 o (by omega))).trans (a11 198 o (by omega))).i.trans (z0 198 (by decide)).1
  · exact (((a9 200 o (by omega)).trans (a10 200 o (by omega))).trans (a11 200 o (by omega))).r.trans v8
  · exact ((a10 201 o (by omega)).trans (a11 201 o (by omega))).i.trans v9
  · exact (m11) _ w10
  · exact ⟨_, (a11 202 o (by omega)).p.trans e10.1⟩
  · exact (a11 202 o (by omega)).l.trans e10.2.1
  · exact (((((((((((a1 203 o (by omega)).trans (a2 203 o (by omega))).trans (a3 203 o (by omega))).trans (a4 203 o (by omega))).trans (a5 203 o (by omega))).trans (a6 203 o (by omega))).trans (a7 203 o (by omega))).trans (a8 203 o (by omega))).trans (a9 203 o (by omega))).trans (a10 203 o (by omega))).trans (a11 203 o (by omega))).i.trans (z0 203 (by decide)).1
  · exact v11
  · exact (cl2 ((z1 96 (by decide)).1)).keep (((((((((m3).trans m4).trans m5).trans m6).trans m7).trans m8).trans m9).trans m10).trans m11) (fun x x1 x2 => (((((((((a3 x it (by omega)).trans (a4 x it (by omega))).trans (a5 x it (by omega))).trans (a6 x it (by omega))).trans (a7 x it (by omega))).trans (a8 x it (by omega))).trans (a9 x it (by omega))).trans (a10 x it (by omega))).trans (a11 x it (by omega))))
  · exact (cl7 ((z6 96 (by decide)).1)).keep ((((m8).trans m9).trans m10).trans m11) (fun x x1 x2 => ((((a8 x gr (by omega)).trans (a9 x gr (by omega))).trans (a10 x gr (by omega))).trans (a11 x gr (by omega))))
def NSO (o cl : Nat) (cs : CS) : Prop := ((7, o) ∈ kE cs) ∧ (kI cs 224 o = -1) ∧ (kR cs 225 o = none) ∧ (kJ cs 228 o = -1) ∧ (kJ cs 230 o = -1) ∧ (kI cs 231 o = 0) ∧ (kI cs 233 o = -1) ∧ (kR cs 235 o = some cl) ∧ (CLM cl 0 cs)
theorem NSO.e {o cl : Nat} {cs : CS} (h : NSO o cl cs) : (7, o) ∈ kE cs := h.1
theorem NSO.i224 {o cl : Nat} {cs : CS} (h : NSO o cl cs) : kI cs 224 o = -1 := h.2.1
theorem NSO.r225 {o cl : Nat} {cs : CS} (h : NSO o cl cs) : kR cs 225 o = none := h.2.2.1
theorem NSO.j228 {o cl : Nat} {cs : CS} (h : NSO o cl cs) : kJ cs 228 o = -1 := h.2.2.2.1
theorem NSO.j230 {o cl : Nat} {cs : CS} (h : NSO o cl cs) : kJ cs 230 o = -1 := h.2.2.2.2.1
theorem NSO.i231 {o cl : Nat} {cs : CS} (h : NSO o cl cs) : kI cs 231 o = 0 := h.2.2.2.2.2.1
theorem NSO.i233 {o cl : Nat} {cs : CS} (h : NSO o cl cs) : kI cs 233 o = -1 := h.2.2.2.2.2.2.1
theorem NSO.r235 {o cl : Nat} {cs : CS} (h : NSO o cl cs) : kR cs 235 o = some cl := h.2.2.2.2.2.2.2.1
theorem NSO.cc {o cl : Nat} {cs : CS} (h : NSO o cl cs) : CLM cl 0 cs := h.2.2.2.2.2.2.2.2
theorem new_source {F : Nat} {cs : CS} (hb : KB cs) : ∃ cs' cl, c_X6_init F (nO cs 7 12) (kK cs) = some cs' ∧ KB cs' ∧ GW (kK cs) cs cs' ∧ cl = kK cs + 1 ∧ kK cs' = kK cs + 6 ∧ kM cs' = kM cs + 49 ∧ NSO (kK cs) cl cs' := by
  have a0 : ∀ x j, ¬ (x / 32 = 7 ∧ j = kK cs) → AT cs (nO cs 7 12) x j := fun x j hx => AT.ng hx
  have m0 : EM cs (nO cs 7 12) := nO_em
  have kb0 : KB (nO cs 7 12) := nO_kb hb
  have s0 : kK (nO cs 7 12) = kK cs + 1 ∧ kM (nO cs 7 12) = kM cs + 12 := ⟨rfl, rfl⟩
  have M_o_0 : (7, kK cs) ∈ kE (nO cs 7 12) := nO_new
  have z0 : ∀ x, x / 32 = 7 → kI (nO cs 7 12) x (kK cs) = 0 ∧ kJ (nO cs 7 12) x (kK cs) = 0 ∧ kR (nO cs 7 12) x (kK cs) = none ∧ kP (nO cs 7 12) x (kK cs) = none := fun x hx => nO_z hx
  obtain ⟨c0, hc0⟩ : ∃ x, x = nO cs 7 12 := ⟨_, rfl⟩
  rw [← hc0] at a0 m0 kb0 s0 M_o_0 z0 ⊢
  obtain ⟨o, ho⟩ : ∃ x, x = kK cs := ⟨_, rfl⟩
  rw [← ho] at a0 s0 M_o_0 z0 ⊢
  have q1 : pI c0 7 224 o (-1) = some (sI c0 224 o (-1)) := pI_ok M_o_0
  have v1 : kI (sI c0 224 o (-1)) 224 o = (-1) := u2_s
  have a1 : ∀ x j, ¬ (x = 224 ∧ j = o) → AT c0 (sI c0 224 o (-1)) x j := fun x j hx => AT.sI hx
  have m1 : EM c0 (sI c0 224 o (-1)) := EM.refl
  have kb1 : KB (sI c0 224 o (-1)) := kb0
  have s1 : kK (sI c0 224 o (-1)) = kK c0 ∧ kM (sI c0 224 o (-1)) = kM c0 := ⟨rfl, rfl⟩
  obtain ⟨c1, hc1⟩ : ∃ x, x = sI c0 224 o (-1) := ⟨_, rfl⟩
  rw [← hc1] at q1 v1 a1 m1 kb1 s1
  have M_o_1 := m1 _ M_o_0
  have q2 : pJ c1 7 228 o (-1) = some (sJ c1 228 o (-1)) := pJ_ok M_o_1
  have v2 : kJ (sJ c1 228 o (-1)) 228 o = (-1) := u2_s
  have a2 : ∀ x j, ¬ (x = 228 ∧ j = o) → AT c1 (sJ c1 228 o (-1)) x j := fun x j hx => AT.sJ hx
  have m2 : EM c1 (sJ c1 228 o (-1)) := EM.refl
  have kb2 : KB (sJ c1 228 o (-1)) := kb1
  have s2 : kK (sJ c1 228 o (-1)) = kK c1 ∧ kM (sJ c1 228 o (-1)) = kM c1 := ⟨rfl, rfl⟩
  obtain ⟨c2, hc2⟩ : ∃ x, x = sJ c1 228 o (-1) := ⟨_, rfl⟩
  rw [← hc2] at q2 v2 a2 m2 kb2 s2
  have M_o_2 := m2 _ M_o_1
  have q3 : pJ c2 7 230 o (-1) = some (sJ c2 230 o (-1)) := pJ_ok M_o_2
  have v3 : kJ (sJ c2 230 o (-1)) 230 o = (-1) := u2_s
  have a3 : ∀ x j, ¬ (x = 230 ∧ j = o) → AT c2 (sJ c2 230 o (-1)) x j := fun x j hx => AT.sJ hx
  have m3 : EM c2 (sJ c2 230 o (-1)) := EM.refl
  have kb3 : KB (sJ c2 230 o (-1)) := kb2
  have s3 : kK (sJ c2 230 o (-1)) = kK c2 ∧ kM (sJ c2 230 o (-1)) = kM c2 := ⟨rfl, rfl⟩
  obtain ⟨c3, hc3⟩ : ∃ x, x = sJ c2 230 o (-1) := ⟨_, rfl⟩
  rw [← hc3] at q3 v3 a3 m3 kb3 s3
  have M_o_3 := m3 _ M_o_2
  have q4 : pI c3 7 233 o (-1) = some (sI c3 233 o (-1)) := pI_ok M_o_3
  have v4 : kI (sI c3 233 o (-1)) 233 o = (-1) := u2_s
  have a4 : ∀ x j, ¬ (x = 233 ∧ j = o) → AT c3 (sI c3 233 o (-1)) x j := fun x j hx => AT.sI hx
  have m4 : EM c3 (sI c3 233 o (-1)) := EM.refl
  have kb4 : KB (sI c3 233 o (-1)) := kb3
  have s4 : kK (sI c3 233 o (-1)) = kK c3 ∧ kM (sI c3 233 o (-1)) = kM c3 := ⟨rfl, rfl⟩
  obtain ⟨c4, hc4⟩ : ∃ x, x = sI c3 233 o (-1) := ⟨_, rfl⟩
  rw [← hc4] at q4 v4 a4 m4 kb4 s4
  have M_o_4 := m4 _ M_o_3
  have q5 : nwO c4 3 5 = some (nO c4 3 5) := nwO_ok kb4
  have a5 : ∀ x j, ¬ (x / 32 = 3 ∧ j = kK c4) → AT c4 (nO c4 3 5) x j := fun x j hx => AT.ng hx
  have m5 : EM c4 (nO c4 3 5) := nO_em
  have kb5 : KB (nO c4 3 5) := nO_kb kb4
  have s5 : kK (nO c4 3 5) = kK c4 + 1 ∧ kM (nO c4 3 5) = kM c4 + 5 := ⟨rfl, rfl⟩
  have w5 : (3, kK c4) ∈ kE (nO c4 3 5) := nO_new
  have z5 : ∀ x, x / 32 = 3 → kI (nO c4 3 5) x (kK c4) = 0 ∧ kJ (nO c4 3 5) x (kK c4) = 0 ∧ kR (nO c4 3 5) x (kK c4) = none ∧ kP (nO c4 3 5) x (kK c4) = none := fun x hx => nO_z hx
  obtain ⟨c5, hc5⟩ : ∃ x, x = nO c4 3 5 := ⟨_, rfl⟩
  rw [← hc5] at q5 a5 m5 kb5 s5 w5 z5
  have M_o_5 := m5 _ M_o_4
  obtain ⟨cl, hcl⟩ : ∃ x, x = kK c4 := ⟨_, rfl⟩
  have Z5 := z5
  rw [← hcl] at w5 z5 a5
  obtain ⟨c6, q6, kb6, m6, s6a, s6b, a6, cl6⟩ := new_cols (F := F) w5 kb5
  have s6 : kK c6 = kK c5 + 4 ∧ kM c6 = kM c5 + 32 := ⟨s6a, s6b⟩
  have M_o_6 := m6 _ M_o_5
  have M_cl_6 := m6 _ w5
  have q7 : pR c6 7 235 o (some cl) = some (sR c6 235 o (some cl)) := pR_ok M_o_6
  have v7 : kR (sR c6 235 o (some cl)) 235 o = (some cl) := u2_s
  have a7 : ∀ x j, ¬ (x = 235 ∧ j = o) → AT c6 (sR c6 235 o (some cl)) x j := fun x j hx => AT.sR hx
  have m7 : EM c6 (sR c6 235 o (some cl)) := EM.refl
  have kb7 : KB (sR c6 235 o (some cl)) := kb6
  have s7 : kK (sR c6 235 o (some cl)) = kK c6 ∧ kM (sR c6 235 o (some cl)) = kM c6 := ⟨rfl, rfl⟩
  obtain ⟨c7, hc7⟩ : ∃ x, x = sR c6 235 o (some cl) := ⟨_, rfl⟩
  rw [← hc7] at q7 v7 a7 m7 kb7 s7
  have M_o_7 := m7 _ M_o_6
  have M_cl_7 := m7 _ M_cl_6
  have sK : cl = o + 1 ∧ kK c7 = o + 6 ∧ kM c7 = kM cs + 49 := by omega
  obtain ⟨sK1, sK3, sK4⟩ := sK
  refine ⟨c7, cl, ?_, kb7, ⟨m0.trans (((((((m1).trans m2).trans m3).trans m4).trans m5).trans m6).trans m7), by omega, fun x j hj => (a0 x j (by omega)).trans (((((((a1 x j (by omega)).trans (a2 x j (by omega))).trans (a3 x j (by omega))).trans (a4 x j (by omega))).trans (a5 x j (by omega))).trans (a6 x j (by omega))).trans (a7 x j (by omega)))⟩, by omega, by omega, by omega, ⟨M_o_7, ?_, ?_, ?_, ?_, ?_, ?_, ?_, ?_⟩⟩
  · unfold c_X6_init c_X6_init_b32 c_X6_init_b36
    rw [q1, ob_s, q2, ob_s, q3, ob_s, q4, ob_s, q5, ob_s, ← hcl, q6, ob_s, q7, ob_s]
  · exact ((((((a2 224 o (by omega)).trans (a3 224 o (by omega))).trans (a4 224 o (by omega))).trans (a5 224 o (by omega))).trans (a6 224 o (by omega))).trans (a7 224 o (by omega))).i.trans v1
  · exact (((((((a1 225 o (by omega)).trans (a2 225 o (by omega))).trans (a3 225 o (by omega))).trans (a4 225 o (by omega))).trans (a5 225 o (by omega))).trans (a6 225 o (by omega))).trans (a7 225 o (by omega))).r.trans (z0 225 (by decide)).2.2.1
  · exact (((((a3 228 o (by omega)).trans (a4 228 o (by omega))).trans (a5 228 o (by omega))).trans (a6 228 o (by omega))).trans (a7 228 o (by omega))).j.trans v2
  · exact ((((a4 230 o (by omega)).trans (a5 230 o (by omega))).trans (a6 230 o (by omega))).trans (a7 230 o (by omega))).j.trans v3
  · exact (((((((a1 231 o (by omega)).trans (a2 231 o (by omega))).trans (a3 231 o (by omega))).trans (a4 231 o (by omega))).trans (a5 231 o (by omega))).trans (a6 231 o (by omega))).trans (a7 231 o (by omega))).i.trans (z0 231 (by decide)).1
  · exact (((a5 233 o (by omega)).trans (a6 233 o (by omega))).trans (a7 233 o (by omega))).i.trans v4
  · exact v7
  · exact (cl6 ((z5 96 (by decide)).1)).keep (m7) (fun x x1 x2 => (a7 x cl (by omega)))

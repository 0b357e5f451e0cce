def weF (g : Nat → Int32) (n : Nat) : Nat → Nat → Nat | 0, k => k | f + 1, k => if n ≤ k then k else if alI (g k) = 0 then k else weF g n f (k + 1)
theorem weF_e {g : Nat → Int32} {n k : Nat} (h : n ≤ k) : weF g n (n - k) k = k := by rw [show n - k = 0 by omega]; rfl
theorem weF_z {g : Nat → Int32} {n k : Nat} (hk : ¬ n ≤ k) (h : alI (g k) = 0) : weF g n (n - k) k = k := by
  rw [show n - k = (n - (k + 1)) + 1 by omega]
  exact (if_neg hk).trans (if_pos h)
theorem weF_s {g : Nat → Int32} {n k : Nat} (hk : ¬ n ≤ k) (h : ¬ alI (g k) = 0) : weF g n (n - k) k = weF g n (n - (k + 1)) (k + 1) := by
  rw [show n - k = (n - (k + 1)) + 1 by omega]
  exact (if_neg hk).trans (if_neg h)
def ftI (fi : Int32) (v : Int64) (d : Int32) : Int32 := if fi = 0 then 0 else if v < 922337203685477580 then 1 else if v = 922337203685477580 then (if 7 < d then 0 else 1) else 0
def mvI (fi : Int32) (v : Int64) (d : Int32) : Int64 := if fi = 0 then v else v * 10 + d.toInt64
def mnF (g : Nat → Int32) (n : Nat) : Nat → Nat → Int64 → Int32 → Nat × Int64 × Int32
  | 0, k, v, q => (k, v, q)
  | f + 1, k, v, q => if n ≤ k then (k, v, q) else if dgI (g k) = 0 then (k, v, q) else mnF g n f (k + 1) (mvI (ftI q v (g k - 48)) v (g k - 48)) (ftI q v (g k - 48))
theorem mnF_e {g : Nat → Int32} {n k : Nat} {v : Int64} {q : Int32} (h : n ≤ k) : mnF g n (n - k) k v q = (k, v, q) := by rw [show n - k = 0 by omega]; rfl
theorem mnF_z {g : Nat → Int32} {n k : Nat} {v : Int64} {q : Int32} (hk : ¬ n ≤ k) (h : dgI (g k) = 0) : mnF g n (n - k) k v q = (k, v, q) := by
  rw [show n - k = (n - (k + 1)) + 1 by omega]
  exact (if_neg hk).trans (if_pos h)
theorem mnF_s {g : Nat → Int32} {n k : Nat} {v : Int64} {q : Int32} (hk : ¬ n ≤ k) (h : ¬ dgI (g k) = 0) : mnF g n (n - k) k v q = mnF g n (n - (k + 1)) (k + 1) (mvI (ftI q v (g k - 48)) v (g k - 48)) (ftI q v (g k - 48)) := by
  rw [show n - k = (n - (k + 1)) + 1 by omega]
  exact (if_neg hk).trans (if_neg h)
theorem weF_ge (g : Nat → Int32) (n : Nat) : ∀ f k, k ≤ weF g n f k
  | 0, k => Nat.le_refl _
  | f + 1, k => by
    have h := weF_ge g n f (k + 1)
    unfold weF; split
    · exact Nat.le_refl _
    · split
      · exact Nat.le_refl _
      · omega
theorem weF_gt {g : Nat → Int32} {n k k2 : Nat} (hk : k < n) (h : ¬ ltI (g k) = 0) (e : weF g n (n - k) k = k2) : k < k2 := by
  rw [weF_s (by omega) (alI_l h)] at e
  have := weF_ge g n (n - (k + 1)) (k + 1); omega
theorem mnF_ge (g : Nat → Int32) (n : Nat) : ∀ f k v q, k ≤ (mnF g n f k v q).1
  | 0, k, v, q => Nat.le_refl _
  | f + 1, k, v, q => by
    have h := mnF_ge g n f (k + 1) (mvI (ftI q v (g k - 48)) v (g k - 48)) (ftI q v (g k - 48))
    unfold mnF; split
    · exact Nat.le_refl _
    · split
      · exact Nat.le_refl _
      · omega
theorem mnF_gt {g : Nat → Int32} {n k k2 : Nat} {v v2 : Int64} {q q2 : Int32} (hk : k < n) (h : ¬ dgI (g k) = 0) (e : mnF g n (n - k) k v q = (k2, v2, q2)) : k < k2 := by
  rw [mnF_s (by omega) h] at e
  have h2 := mnF_ge g n (n - (k + 1)) (k + 1) (mvI (ftI q v (g k - 48)) v (g k - 48)) (ftI q v (g k - 48))
  rw [e] at h2; exact h2
def nsI (g : Nat → Int32) (n k : Nat) (fi : Int32) : Int32 := if fi = 0 then 3 else if n ≤ k then 2 else if ltI (g k) = 0 then 2 else 3
def sdF (g : Nat → Int32) (n k : Nat) : Int32 := if n ≤ k + 1 then 0 else g (k + 1)
def twI (c d : Int32) : Int32 := if c = 60 then (if d = 62 then 400 else if d = 61 then 401 else 0) else if c = 62 then (if d = 61 then 402 else 0) else 0
def onI (c : Int32) : Int32 := if c = 40 then 1 else if c = 41 then 1 else if c = 44 then 1 else if c = 46 then 1 else if c = 43 then 1 else if c = 45 then 1 else if c = 42 then 1 else if c = 47 then 1 else if c = 37 then 1 else if c = 61 then 1 else if c = 60 then 1 else if c = 62 then 1 else 0
def ssI (c t1 o1 : Int32) : Int32 := if t1 = 0 then (if o1 = 0 then 3 else c) else t1
def stN (t1 : Int32) : Nat := if t1 = 0 then 1 else 2
theorem tw_lt {g : Nat → Int32} {n k : Nat} {c : Int32} (h : ¬ twI c (sdF g n k) = 0) : k + 1 < n := by
  rcases Nat.lt_or_ge (k + 1) n with q | q
  · exact q
  · exfalso; apply h; unfold sdF; rw [if_pos q]; unfold twI; split <;> (try split) <;> (try split) <;> (try split) <;> (try split) <;> simp_all
theorem st_tw {g : Nat → Int32} {n k : Nat} {c : Int32} : stN (twI c (sdF g n k)) = 1 ∨ (stN (twI c (sdF g n k)) = 2 ∧ k + 1 < n) := by
  by_cases h9 : twI c (sdF g n k) = 0
  · exact Or.inl (if_pos h9)
  · exact Or.inr ⟨if_neg h9, tw_lt h9⟩
def mtF (g : Nat → Int32) (n k : Nat) : Nat × Int32 × Int64 :=
  if ltI (g k) = 0 then (if dgI (g k) = 0 then (k + stN (twI (g k) (sdF g n k)), ssI (g k) (twI (g k) (sdF g n k)) (onI (g k)), 0)
    else ((mnF g n (n - k) k 0 1).1, nsI g n (mnF g n (n - k) k 0 1).1 (mnF g n (n - k) k 0 1).2.2, (mnF g n (n - k) k 0 1).2.1))
    else (weF g n (n - k) k, (if weF g n (n - k) k - k ≤ 12 then 1 else 3), 0)
theorem mtF_w {g : Nat → Int32} {n k k2 : Nat} (h1 : ¬ ltI (g k) = 0) (hw : weF g n (n - k) k = k2) : mtF g n k = (k2, (if k2 - k ≤ 12 then 1 else 3), 0) := by
  unfold mtF; rw [if_neg h1, hw]
theorem mtF_d {g : Nat → Int32} {n k k2 : Nat} {v2 : Int64} {q2 : Int32} (h1 : ltI (g k) = 0) (h2 : ¬ dgI (g k) = 0) (hw : mnF g n (n - k) k 0 1 = (k2, v2, q2)) : mtF g n k = (k2, nsI g n k2 q2, v2) := by
  unfold mtF; rw [if_pos h1, if_neg h2, hw]
theorem mtF_s {g : Nat → Int32} {n k : Nat} (h1 : ltI (g k) = 0) (h2 : dgI (g k) = 0) : mtF g n k = (k + stN (twI (g k) (sdF g n k)), ssI (g k) (twI (g k) (sdF g n k)) (onI (g k)), 0) := by
  unfold mtF; rw [if_pos h1, if_pos h2]
def mpF (g : Nat → Int32) (n : Nat) : Nat → Nat | 0 => 0 | i + 1 => (mtF g n (skB g n (n - mpF g n i) (mpF g n i))).1
def mlF (g : Nat → Int32) (n i : Nat) : Nat := skB g n (n - mpF g n i) (mpF g n i)
def msF (g : Nat → Int32) (n i : Nat) : Int32 := (mtF g n (mlF g n i)).2.1
def mnbF (g : Nat → Int32) (n i : Nat) : Int64 := (mtF g n (mlF g n i)).2.2
def mwF (g : Nat → Int32) (n i : Nat) : Int32 := nI (mpF g n (i + 1) - mlF g n i)
/-- a token more -/
theorem mt_next {g : Nat → Int32} {n t k k2 : Nat} {s2 : Int32} {v2 : Int64} (hm : mlF g n t = k) (h : mtF g n k = (k2, s2, v2)) : mpF g n (t + 1) = k2 ∧ msF g n t = s2 ∧ mnbF g n t = v2 ∧ mwF g n t = nI (k2 - k) := by
  have e1 : mpF g n (t + 1) = k2 := by show (mtF g n (mlF g n t)).1 = k2; rw [hm, h]
  refine ⟨e1, ?_, ?_, ?_⟩
  · unfold msF; rw [hm, h]
  · unfold mnbF; rw [hm, h]
  · unfold mwF; rw [e1, hm]
theorem al_ext {f : Nat → Nat} {n t : Nat} (h : ∀ j, j < t → f j < n) (ht : f t < n) : ∀ j, j < t + 1 → f j < n := by
  intro j hj
  rcases Nat.lt_or_ge j t with h9 | h9
  · exact h j h9
  · have e9 : j = t := by omega
    rw [e9]; exact ht
theorem dX12_tokens_0 : decode cX12_tokens 0 = .ok (.aload_n 0, 1) := by decide +kernel
theorem dX12_tokens_1 : decode cX12_tokens 1 = .ok (.getfield 278, 3) := by decide +kernel
theorem dX12_tokens_4 : decode cX12_tokens 4 = .ok (.istore_n 1, 1) := by decide +kernel
theorem dX12_tokens_5 : decode cX12_tokens 5 = .ok (.iconst 0, 1) := by decide +kernel
theorem dX12_tokens_6 : decode cX12_tokens 6 = .ok (.istore_n 2, 1) := by decide +kernel
theorem dX12_tokens_7 : decode cX12_tokens 7 = .ok (.iconst 0, 1) := by decide +kernel
theorem dX12_tokens_8 : decode cX12_tokens 8 = .ok (.istore_n 3, 1) := by decide +kernel
theorem dX12_tokens_9 : decode cX12_tokens 9 = .ok (.iload_n 3, 1) := by decide +kernel
theorem dX12_tokens_10 : decode cX12_tokens 10 = .ok (.iload_n 1, 1) := by decide +kernel
theorem dX12_tokens_11 : decode cX12_tokens 11 = .ok (.if_icmp .ge 519, 3) := by decide +kernel
theorem dX12_tokens_14 : decode cX12_tokens 14 = .ok (.aload_n 0, 1) := by decide +kernel
theorem dX12_tokens_15 : decode cX12_tokens 15 = .ok (.getfield 13, 3) := by decide +kernel
theorem dX12_tokens_18 : decode cX12_tokens 18 = .ok (.iload_n 3, 1) := by decide +kernel
theorem dX12_tokens_19 : decode cX12_tokens 19 = .ok (.baload, 1) := by decide +kernel
theorem dX12_tokens_20 : decode cX12_tokens 20 = .ok (.istore 4, 2) := by decide +kernel
theorem dX12_tokens_22 : decode cX12_tokens 22 = .ok (.iload 4, 2) := by decide +kernel
theorem dX12_tokens_24 : decode cX12_tokens 24 = .ok (.bipush 32, 2) := by decide +kernel
theorem dX12_tokens_26 : decode cX12_tokens 26 = .ok (.if_icmp .eq 24, 3) := by decide +kernel
theorem dX12_tokens_29 : decode cX12_tokens 29 = .ok (.iload 4, 2) := by decide +kernel
theorem dX12_tokens_31 : decode cX12_tokens 31 = .ok (.bipush 9, 2) := by decide +kernel
theorem dX12_tokens_33 : decode cX12_tokens 33 = .ok (.if_icmp .eq 17, 3) := by decide +kernel
theorem dX12_tokens_36 : decode cX12_tokens 36 = .ok (.iload 4, 2) := by decide +kernel
theorem dX12_tokens_38 : decode cX12_tokens 38 = .ok (.bipush 13, 2) := by decide +kernel
theorem dX12_tokens_40 : decode cX12_tokens 40 = .ok (.if_icmp .eq 10, 3) := by decide +kernel
theorem dX12_tokens_43 : decode cX12_tokens 43 = .ok (.iload 4, 2) := by decide +kernel
theorem dX12_tokens_45 : decode cX12_tokens 45 = .ok (.bipush 10, 2) := by decide +kernel
theorem dX12_tokens_47 : decode cX12_tokens 47 = .ok (.if_icmp .ne 9, 3) := by decide +kernel
theorem dX12_tokens_50 : decode cX12_tokens 50 = .ok (.iinc 3 1, 3) := by decide +kernel
theorem dX12_tokens_53 : decode cX12_tokens 53 = .ok (.goto 474, 3) := by decide +kernel
theorem dX12_tokens_56 : decode cX12_tokens 56 = .ok (.iload_n 3, 1) := by decide +kernel
theorem dX12_tokens_57 : decode cX12_tokens 57 = .ok (.istore 5, 2) := by decide +kernel
theorem dX12_tokens_59 : decode cX12_tokens 59 = .ok (.aload_n 0, 1) := by decide +kernel
theorem dX12_tokens_60 : decode cX12_tokens 60 = .ok (.getfield 43, 3) := by decide +kernel
theorem dX12_tokens_63 : decode cX12_tokens 63 = .ok (.iload_n 2, 1) := by decide +kernel
theorem dX12_tokens_64 : decode cX12_tokens 64 = .ok (.iload_n 3, 1) := by decide +kernel
theorem dX12_tokens_65 : decode cX12_tokens 65 = .ok (.iastore, 1) := by decide +kernel
theorem dX12_tokens_66 : decode cX12_tokens 66 = .ok (.aload_n 0, 1) := by decide +kernel
theorem dX12_tokens_67 : decode cX12_tokens 67 = .ok (.getfield 49, 3) := by decide +kernel
theorem dX12_tokens_70 : decode cX12_tokens 70 = .ok (.iload_n 2, 1) := by decide +kernel
theorem dX12_tokens_71 : decode cX12_tokens 71 = .ok (.lconst 0, 1) := by decide +kernel
theorem dX12_tokens_72 : decode cX12_tokens 72 = .ok (.lastore, 1) := by decide +kernel
theorem dX12_tokens_73 : decode cX12_tokens 73 = .ok (.iload 4, 2) := by decide +kernel
theorem dX12_tokens_75 : decode cX12_tokens 75 = .ok (.invokestatic 281, 3) := by decide +kernel
theorem dX12_tokens_78 : decode cX12_tokens 78 = .ok (.ifCond .eq 61, 3) := by decide +kernel
theorem dX12_tokens_81 : decode cX12_tokens 81 = .ok (.iload_n 3, 1) := by decide +kernel
theorem dX12_tokens_82 : decode cX12_tokens 82 = .ok (.iload_n 1, 1) := by decide +kernel
theorem dX12_tokens_83 : decode cX12_tokens 83 = .ok (.if_icmp .ge 33, 3) := by decide +kernel
theorem dX12_tokens_86 : decode cX12_tokens 86 = .ok (.aload_n 0, 1) := by decide +kernel
theorem dX12_tokens_87 : decode cX12_tokens 87 = .ok (.getfield 13, 3) := by decide +kernel
theorem dX12_tokens_90 : decode cX12_tokens 90 = .ok (.iload_n 3, 1) := by decide +kernel
theorem dX12_tokens_91 : decode cX12_tokens 91 = .ok (.baload, 1) := by decide +kernel
theorem dX12_tokens_92 : decode cX12_tokens 92 = .ok (.invokestatic 281, 3) := by decide +kernel
theorem dX12_tokens_95 : decode cX12_tokens 95 = .ok (.ifCond .ne 15, 3) := by decide +kernel
theorem dX12_tokens_98 : decode cX12_tokens 98 = .ok (.aload_n 0, 1) := by decide +kernel
theorem dX12_tokens_99 : decode cX12_tokens 99 = .ok (.getfield 13, 3) := by decide +kernel
theorem dX12_tokens_102 : decode cX12_tokens 102 = .ok (.iload_n 3, 1) := by decide +kernel
theorem dX12_tokens_103 : decode cX12_tokens 103 = .ok (.baload, 1) := by decide +kernel
theorem dX12_tokens_104 : decode cX12_tokens 104 = .ok (.invokestatic 285, 3) := by decide +kernel
theorem dX12_tokens_107 : decode cX12_tokens 107 = .ok (.ifCond .eq 9, 3) := by decide +kernel
theorem dX12_tokens_110 : decode cX12_tokens 110 = .ok (.iinc 3 1, 3) := by decide +kernel
theorem dX12_tokens_113 : decode cX12_tokens 113 = .ok (.goto (-32), 3) := by decide +kernel
theorem dX12_tokens_116 : decode cX12_tokens 116 = .ok (.aload_n 0, 1) := by decide +kernel
theorem dX12_tokens_117 : decode cX12_tokens 117 = .ok (.getfield 40, 3) := by decide +kernel
theorem dX12_tokens_120 : decode cX12_tokens 120 = .ok (.iload_n 2, 1) := by decide +kernel
theorem dX12_tokens_121 : decode cX12_tokens 121 = .ok (.iload_n 3, 1) := by decide +kernel
theorem dX12_tokens_122 : decode cX12_tokens 122 = .ok (.iload 5, 2) := by decide +kernel
theorem dX12_tokens_124 : decode cX12_tokens 124 = .ok (.isub, 1) := by decide +kernel
theorem dX12_tokens_125 : decode cX12_tokens 125 = .ok (.bipush 12, 2) := by decide +kernel
theorem dX12_tokens_127 : decode cX12_tokens 127 = .ok (.if_icmp .le 7, 3) := by decide +kernel
theorem dX12_tokens_130 : decode cX12_tokens 130 = .ok (.iconst 3, 1) := by decide +kernel
theorem dX12_tokens_131 : decode cX12_tokens 131 = .ok (.goto 4, 3) := by decide +kernel
theorem dX12_tokens_134 : decode cX12_tokens 134 = .ok (.iconst 1, 1) := by decide +kernel
theorem dX12_tokens_135 : decode cX12_tokens 135 = .ok (.iastore, 1) := by decide +kernel
theorem dX12_tokens_136 : decode cX12_tokens 136 = .ok (.goto 378, 3) := by decide +kernel
theorem dX12_tokens_139 : decode cX12_tokens 139 = .ok (.iload 4, 2) := by decide +kernel
theorem dX12_tokens_141 : decode cX12_tokens 141 = .ok (.invokestatic 285, 3) := by decide +kernel
theorem dX12_tokens_144 : decode cX12_tokens 144 = .ok (.ifCond .eq 155, 3) := by decide +kernel
theorem dX12_tokens_147 : decode cX12_tokens 147 = .ok (.iconst 1, 1) := by decide +kernel
theorem dX12_tokens_148 : decode cX12_tokens 148 = .ok (.istore 6, 2) := by decide +kernel
theorem dX12_tokens_150 : decode cX12_tokens 150 = .ok (.iload_n 3, 1) := by decide +kernel
theorem dX12_tokens_151 : decode cX12_tokens 151 = .ok (.iload_n 1, 1) := by decide +kernel
theorem dX12_tokens_152 : decode cX12_tokens 152 = .ok (.if_icmp .ge 111, 3) := by decide +kernel
theorem dX12_tokens_155 : decode cX12_tokens 155 = .ok (.aload_n 0, 1) := by decide +kernel
theorem dX12_tokens_156 : decode cX12_tokens 156 = .ok (.getfield 13, 3) := by decide +kernel
theorem dX12_tokens_159 : decode cX12_tokens 159 = .ok (.iload_n 3, 1) := by decide +kernel
theorem dX12_tokens_160 : decode cX12_tokens 160 = .ok (.baload, 1) := by decide +kernel
theorem dX12_tokens_161 : decode cX12_tokens 161 = .ok (.invokestatic 285, 3) := by decide +kernel
theorem dX12_tokens_164 : decode cX12_tokens 164 = .ok (.ifCond .eq 99, 3) := by decide +kernel
theorem dX12_tokens_167 : decode cX12_tokens 167 = .ok (.aload_n 0, 1) := by decide +kernel
theorem dX12_tokens_168 : decode cX12_tokens 168 = .ok (.getfield 13, 3) := by decide +kernel
theorem dX12_tokens_171 : decode cX12_tokens 171 = .ok (.iload_n 3, 1) := by decide +kernel
theorem dX12_tokens_172 : decode cX12_tokens 172 = .ok (.baload, 1) := by decide +kernel
theorem dX12_tokens_173 : decode cX12_tokens 173 = .ok (.bipush 48, 2) := by decide +kernel
theorem dX12_tokens_175 : decode cX12_tokens 175 = .ok (.isub, 1) := by decide +kernel
theorem dX12_tokens_176 : decode cX12_tokens 176 = .ok (.istore 7, 2) := by decide +kernel
theorem dX12_tokens_178 : decode cX12_tokens 178 = .ok (.iload 6, 2) := by decide +kernel
theorem dX12_tokens_180 : decode cX12_tokens 180 = .ok (.ifCond .eq 40, 3) := by decide +kernel
theorem dX12_tokens_183 : decode cX12_tokens 183 = .ok (.aload_n 0, 1) := by decide +kernel
theorem dX12_tokens_184 : decode cX12_tokens 184 = .ok (.getfield 49, 3) := by decide +kernel
theorem dX12_tokens_187 : decode cX12_tokens 187 = .ok (.iload_n 2, 1) := by decide +kernel
theorem dX12_tokens_188 : decode cX12_tokens 188 = .ok (.laload, 1) := by decide +kernel
theorem dX12_tokens_189 : decode cX12_tokens 189 = .ok (.ldc2_w 288, 3) := by decide +kernel
theorem dX12_tokens_192 : decode cX12_tokens 192 = .ok (.lcmp, 1) := by decide +kernel
theorem dX12_tokens_193 : decode cX12_tokens 193 = .ok (.ifCond .lt 23, 3) := by decide +kernel
theorem dX12_tokens_196 : decode cX12_tokens 196 = .ok (.aload_n 0, 1) := by decide +kernel
theorem dX12_tokens_197 : decode cX12_tokens 197 = .ok (.getfield 49, 3) := by decide +kernel
theorem dX12_tokens_200 : decode cX12_tokens 200 = .ok (.iload_n 2, 1) := by decide +kernel
theorem dX12_tokens_201 : decode cX12_tokens 201 = .ok (.laload, 1) := by decide +kernel
theorem dX12_tokens_202 : decode cX12_tokens 202 = .ok (.ldc2_w 288, 3) := by decide +kernel
theorem dX12_tokens_205 : decode cX12_tokens 205 = .ok (.lcmp, 1) := by decide +kernel
theorem dX12_tokens_206 : decode cX12_tokens 206 = .ok (.ifCond .ne 14, 3) := by decide +kernel
theorem dX12_tokens_209 : decode cX12_tokens 209 = .ok (.iload 7, 2) := by decide +kernel
theorem dX12_tokens_211 : decode cX12_tokens 211 = .ok (.bipush 7, 2) := by decide +kernel
theorem dX12_tokens_213 : decode cX12_tokens 213 = .ok (.if_icmp .gt 7, 3) := by decide +kernel
theorem dX12_tokens_216 : decode cX12_tokens 216 = .ok (.iconst 1, 1) := by decide +kernel
theorem dX12_tokens_217 : decode cX12_tokens 217 = .ok (.goto 4, 3) := by decide +kernel
theorem dX12_tokens_220 : decode cX12_tokens 220 = .ok (.iconst 0, 1) := by decide +kernel
theorem dX12_tokens_221 : decode cX12_tokens 221 = .ok (.istore 6, 2) := by decide +kernel
theorem dX12_tokens_223 : decode cX12_tokens 223 = .ok (.aload_n 0, 1) := by decide +kernel
theorem dX12_tokens_224 : decode cX12_tokens 224 = .ok (.getfield 49, 3) := by decide +kernel
theorem dX12_tokens_227 : decode cX12_tokens 227 = .ok (.iload_n 2, 1) := by decide +kernel
theorem dX12_tokens_228 : decode cX12_tokens 228 = .ok (.iload 6, 2) := by decide +kernel
theorem dX12_tokens_230 : decode cX12_tokens 230 = .ok (.ifCond .eq 20, 3) := by decide +kernel
theorem dX12_tokens_233 : decode cX12_tokens 233 = .ok (.aload_n 0, 1) := by decide +kernel
theorem dX12_tokens_234 : decode cX12_tokens 234 = .ok (.getfield 49, 3) := by decide +kernel
theorem dX12_tokens_237 : decode cX12_tokens 237 = .ok (.iload_n 2, 1) := by decide +kernel
theorem dX12_tokens_238 : decode cX12_tokens 238 = .ok (.laload, 1) := by decide +kernel
theorem dX12_tokens_239 : decode cX12_tokens 239 = .ok (.ldc2_w 290, 3) := by decide +kernel
theorem dX12_tokens_242 : decode cX12_tokens 242 = .ok (.lmul, 1) := by decide +kernel
theorem dX12_tokens_243 : decode cX12_tokens 243 = .ok (.iload 7, 2) := by decide +kernel
theorem dX12_tokens_245 : decode cX12_tokens 245 = .ok (.i2l, 1) := by decide +kernel
theorem dX12_tokens_246 : decode cX12_tokens 246 = .ok (.ladd, 1) := by decide +kernel
theorem dX12_tokens_247 : decode cX12_tokens 247 = .ok (.goto 9, 3) := by decide +kernel
theorem dX12_tokens_250 : decode cX12_tokens 250 = .ok (.aload_n 0, 1) := by decide +kernel
theorem dX12_tokens_251 : decode cX12_tokens 251 = .ok (.getfield 49, 3) := by decide +kernel
theorem dX12_tokens_254 : decode cX12_tokens 254 = .ok (.iload_n 2, 1) := by decide +kernel
theorem dX12_tokens_255 : decode cX12_tokens 255 = .ok (.laload, 1) := by decide +kernel
theorem dX12_tokens_256 : decode cX12_tokens 256 = .ok (.lastore, 1) := by decide +kernel
theorem dX12_tokens_257 : decode cX12_tokens 257 = .ok (.iinc 3 1, 3) := by decide +kernel
theorem dX12_tokens_260 : decode cX12_tokens 260 = .ok (.goto (-110), 3) := by decide +kernel
theorem dX12_tokens_263 : decode cX12_tokens 263 = .ok (.aload_n 0, 1) := by decide +kernel
theorem dX12_tokens_264 : decode cX12_tokens 264 = .ok (.getfield 40, 3) := by decide +kernel
theorem dX12_tokens_267 : decode cX12_tokens 267 = .ok (.iload_n 2, 1) := by decide +kernel
theorem dX12_tokens_268 : decode cX12_tokens 268 = .ok (.iload 6, 2) := by decide +kernel
theorem dX12_tokens_270 : decode cX12_tokens 270 = .ok (.ifCond .eq 20, 3) := by decide +kernel
theorem dX12_tokens_273 : decode cX12_tokens 273 = .ok (.iload_n 3, 1) := by decide +kernel
theorem dX12_tokens_274 : decode cX12_tokens 274 = .ok (.iload_n 1, 1) := by decide +kernel
theorem dX12_tokens_275 : decode cX12_tokens 275 = .ok (.if_icmp .ge 19, 3) := by decide +kernel
theorem dX12_tokens_278 : decode cX12_tokens 278 = .ok (.aload_n 0, 1) := by decide +kernel
theorem dX12_tokens_279 : decode cX12_tokens 279 = .ok (.getfield 13, 3) := by decide +kernel
theorem dX12_tokens_282 : decode cX12_tokens 282 = .ok (.iload_n 3, 1) := by decide +kernel
theorem dX12_tokens_283 : decode cX12_tokens 283 = .ok (.baload, 1) := by decide +kernel
theorem dX12_tokens_284 : decode cX12_tokens 284 = .ok (.invokestatic 281, 3) := by decide +kernel
theorem dX12_tokens_287 : decode cX12_tokens 287 = .ok (.ifCond .eq 7, 3) := by decide +kernel
theorem dX12_tokens_290 : decode cX12_tokens 290 = .ok (.iconst 3, 1) := by decide +kernel
theorem dX12_tokens_291 : decode cX12_tokens 291 = .ok (.goto 4, 3) := by decide +kernel
theorem dX12_tokens_294 : decode cX12_tokens 294 = .ok (.iconst 2, 1) := by decide +kernel
theorem dX12_tokens_295 : decode cX12_tokens 295 = .ok (.iastore, 1) := by decide +kernel
theorem dX12_tokens_296 : decode cX12_tokens 296 = .ok (.goto 218, 3) := by decide +kernel
theorem dX12_tokens_299 : decode cX12_tokens 299 = .ok (.iload_n 3, 1) := by decide +kernel
theorem dX12_tokens_300 : decode cX12_tokens 300 = .ok (.iconst 1, 1) := by decide +kernel
theorem dX12_tokens_301 : decode cX12_tokens 301 = .ok (.iadd, 1) := by decide +kernel
theorem dX12_tokens_302 : decode cX12_tokens 302 = .ok (.iload_n 1, 1) := by decide +kernel
theorem dX12_tokens_303 : decode cX12_tokens 303 = .ok (.if_icmp .ge 14, 3) := by decide +kernel
theorem dX12_tokens_306 : decode cX12_tokens 306 = .ok (.aload_n 0, 1) := by decide +kernel
theorem dX12_tokens_307 : decode cX12_tokens 307 = .ok (.getfield 13, 3) := by decide +kernel
theorem dX12_tokens_310 : decode cX12_tokens 310 = .ok (.iload_n 3, 1) := by decide +kernel
theorem dX12_tokens_311 : decode cX12_tokens 311 = .ok (.iconst 1, 1) := by decide +kernel
theorem dX12_tokens_312 : decode cX12_tokens 312 = .ok (.iadd, 1) := by decide +kernel
theorem dX12_tokens_313 : decode cX12_tokens 313 = .ok (.baload, 1) := by decide +kernel
theorem dX12_tokens_314 : decode cX12_tokens 314 = .ok (.goto 4, 3) := by decide +kernel
theorem dX12_tokens_317 : decode cX12_tokens 317 = .ok (.iconst 0, 1) := by decide +kernel
theorem dX12_tokens_318 : decode cX12_tokens 318 = .ok (.istore 6, 2) := by decide +kernel
theorem dX12_tokens_320 : decode cX12_tokens 320 = .ok (.iload 4, 2) := by decide +kernel
theorem dX12_tokens_322 : decode cX12_tokens 322 = .ok (.bipush 60, 2) := by decide +kernel
theorem dX12_tokens_324 : decode cX12_tokens 324 = .ok (.if_icmp .ne 16, 3) := by decide +kernel
theorem dX12_tokens_327 : decode cX12_tokens 327 = .ok (.iload 6, 2) := by decide +kernel
theorem dX12_tokens_329 : decode cX12_tokens 329 = .ok (.bipush 62, 2) := by decide +kernel
theorem dX12_tokens_331 : decode cX12_tokens 331 = .ok (.if_icmp .ne 9, 3) := by decide +kernel
theorem dX12_tokens_334 : decode cX12_tokens 334 = .ok (.sipush 400, 3) := by decide +kernel
theorem dX12_tokens_337 : decode cX12_tokens 337 = .ok (.goto 44, 3) := by decide +kernel
theorem dX12_tokens_340 : decode cX12_tokens 340 = .ok (.iload 4, 2) := by decide +kernel
theorem dX12_tokens_342 : decode cX12_tokens 342 = .ok (.bipush 60, 2) := by decide +kernel
theorem dX12_tokens_344 : decode cX12_tokens 344 = .ok (.if_icmp .ne 16, 3) := by decide +kernel
theorem dX12_tokens_347 : decode cX12_tokens 347 = .ok (.iload 6, 2) := by decide +kernel
theorem dX12_tokens_349 : decode cX12_tokens 349 = .ok (.bipush 61, 2) := by decide +kernel
theorem dX12_tokens_351 : decode cX12_tokens 351 = .ok (.if_icmp .ne 9, 3) := by decide +kernel
theorem dX12_tokens_354 : decode cX12_tokens 354 = .ok (.sipush 401, 3) := by decide +kernel
theorem dX12_tokens_357 : decode cX12_tokens 357 = .ok (.goto 24, 3) := by decide +kernel
theorem dX12_tokens_360 : decode cX12_tokens 360 = .ok (.iload 4, 2) := by decide +kernel
theorem dX12_tokens_362 : decode cX12_tokens 362 = .ok (.bipush 62, 2) := by decide +kernel
theorem dX12_tokens_364 : decode cX12_tokens 364 = .ok (.if_icmp .ne 16, 3) := by decide +kernel
theorem dX12_tokens_367 : decode cX12_tokens 367 = .ok (.iload 6, 2) := by decide +kernel
theorem dX12_tokens_369 : decode cX12_tokens 369 = .ok (.bipush 61, 2) := by decide +kernel
theorem dX12_tokens_371 : decode cX12_tokens 371 = .ok (.if_icmp .ne 9, 3) := by decide +kernel
theorem dX12_tokens_374 : decode cX12_tokens 374 = .ok (.sipush 402, 3) := by decide +kernel
theorem dX12_tokens_377 : decode cX12_tokens 377 = .ok (.goto 4, 3) := by decide +kernel
theorem dX12_tokens_380 : decode cX12_tokens 380 = .ok (.iconst 0, 1) := by decide +kernel
theorem dX12_tokens_381 : decode cX12_tokens 381 = .ok (.istore 7, 2) := by decide +kernel
theorem dX12_tokens_383 : decode cX12_tokens 383 = .ok (.iload 4, 2) := by decide +kernel
theorem dX12_tokens_385 : decode cX12_tokens 385 = .ok (.bipush 40, 2) := by decide +kernel
theorem dX12_tokens_387 : decode cX12_tokens 387 = .ok (.if_icmp .eq 80, 3) := by decide +kernel
theorem dX12_tokens_390 : decode cX12_tokens 390 = .ok (.iload 4, 2) := by decide +kernel
theorem dX12_tokens_392 : decode cX12_tokens 392 = .ok (.bipush 41, 2) := by decide +kernel
theorem dX12_tokens_394 : decode cX12_tokens 394 = .ok (.if_icmp .eq 73, 3) := by decide +kernel
theorem dX12_tokens_397 : decode cX12_tokens 397 = .ok (.iload 4, 2) := by decide +kernel
theorem dX12_tokens_399 : decode cX12_tokens 399 = .ok (.bipush 44, 2) := by decide +kernel
theorem dX12_tokens_401 : decode cX12_tokens 401 = .ok (.if_icmp .eq 66, 3) := by decide +kernel
theorem dX12_tokens_404 : decode cX12_tokens 404 = .ok (.iload 4, 2) := by decide +kernel
theorem dX12_tokens_406 : decode cX12_tokens 406 = .ok (.bipush 46, 2) := by decide +kernel
theorem dX12_tokens_408 : decode cX12_tokens 408 = .ok (.if_icmp .eq 59, 3) := by decide +kernel
theorem dX12_tokens_411 : decode cX12_tokens 411 = .ok (.iload 4, 2) := by decide +kernel
theorem dX12_tokens_413 : decode cX12_tokens 413 = .ok (.bipush 43, 2) := by decide +kernel
theorem dX12_tokens_415 : decode cX12_tokens 415 = .ok (.if_icmp .eq 52, 3) := by decide +kernel
theorem dX12_tokens_418 : decode cX12_tokens 418 = .ok (.iload 4, 2) := by decide +kernel
theorem dX12_tokens_420 : decode cX12_tokens 420 = .ok (.bipush 45, 2) := by decide +kernel
theorem dX12_tokens_422 : decode cX12_tokens 422 = .ok (.if_icmp .eq 45, 3) := by decide +kernel
theorem dX12_tokens_425 : decode cX12_tokens 425 = .ok (.iload 4, 2) := by decide +kernel
theorem dX12_tokens_427 : decode cX12_tokens 427 = .ok (.bipush 42, 2) := by decide +kernel
theorem dX12_tokens_429 : decode cX12_tokens 429 = .ok (.if_icmp .eq 38, 3) := by decide +kernel
theorem dX12_tokens_432 : decode cX12_tokens 432 = .ok (.iload 4, 2) := by decide +kernel
theorem dX12_tokens_434 : decode cX12_tokens 434 = .ok (.bipush 47, 2) := by decide +kernel
theorem dX12_tokens_436 : decode cX12_tokens 436 = .ok (.if_icmp .eq 31, 3) := by decide +kernel
theorem dX12_tokens_439 : decode cX12_tokens 439 = .ok (.iload 4, 2) := by decide +kernel
theorem dX12_tokens_441 : decode cX12_tokens 441 = .ok (.bipush 37, 2) := by decide +kernel
theorem dX12_tokens_443 : decode cX12_tokens 443 = .ok (.if_icmp .eq 24, 3) := by decide +kernel
theorem dX12_tokens_446 : decode cX12_tokens 446 = .ok (.iload 4, 2) := by decide +kernel
theorem dX12_tokens_448 : decode cX12_tokens 448 = .ok (.bipush 61, 2) := by decide +kernel
theorem dX12_tokens_450 : decode cX12_tokens 450 = .ok (.if_icmp .eq 17, 3) := by decide +kernel
theorem dX12_tokens_453 : decode cX12_tokens 453 = .ok (.iload 4, 2) := by decide +kernel
theorem dX12_tokens_455 : decode cX12_tokens 455 = .ok (.bipush 60, 2) := by decide +kernel
theorem dX12_tokens_457 : decode cX12_tokens 457 = .ok (.if_icmp .eq 10, 3) := by decide +kernel
theorem dX12_tokens_460 : decode cX12_tokens 460 = .ok (.iload 4, 2) := by decide +kernel
theorem dX12_tokens_462 : decode cX12_tokens 462 = .ok (.bipush 62, 2) := by decide +kernel
theorem dX12_tokens_464 : decode cX12_tokens 464 = .ok (.if_icmp .ne 7, 3) := by decide +kernel
theorem dX12_tokens_467 : decode cX12_tokens 467 = .ok (.iconst 1, 1) := by decide +kernel
theorem dX12_tokens_468 : decode cX12_tokens 468 = .ok (.goto 4, 3) := by decide +kernel
theorem dX12_tokens_471 : decode cX12_tokens 471 = .ok (.iconst 0, 1) := by decide +kernel
theorem dX12_tokens_472 : decode cX12_tokens 472 = .ok (.istore 8, 2) := by decide +kernel
theorem dX12_tokens_474 : decode cX12_tokens 474 = .ok (.aload_n 0, 1) := by decide +kernel
theorem dX12_tokens_475 : decode cX12_tokens 475 = .ok (.getfield 40, 3) := by decide +kernel
theorem dX12_tokens_478 : decode cX12_tokens 478 = .ok (.iload_n 2, 1) := by decide +kernel
theorem dX12_tokens_479 : decode cX12_tokens 479 = .ok (.iload 7, 2) := by decide +kernel
theorem dX12_tokens_481 : decode cX12_tokens 481 = .ok (.ifCond .eq 8, 3) := by decide +kernel
theorem dX12_tokens_484 : decode cX12_tokens 484 = .ok (.iload 7, 2) := by decide +kernel
theorem dX12_tokens_486 : decode cX12_tokens 486 = .ok (.goto 14, 3) := by decide +kernel
theorem dX12_tokens_489 : decode cX12_tokens 489 = .ok (.iload 8, 2) := by decide +kernel
theorem dX12_tokens_491 : decode cX12_tokens 491 = .ok (.ifCond .eq 8, 3) := by decide +kernel
theorem dX12_tokens_494 : decode cX12_tokens 494 = .ok (.iload 4, 2) := by decide +kernel
theorem dX12_tokens_496 : decode cX12_tokens 496 = .ok (.goto 4, 3) := by decide +kernel
theorem dX12_tokens_499 : decode cX12_tokens 499 = .ok (.iconst 3, 1) := by decide +kernel
theorem dX12_tokens_500 : decode cX12_tokens 500 = .ok (.iastore, 1) := by decide +kernel
theorem dX12_tokens_501 : decode cX12_tokens 501 = .ok (.iload_n 3, 1) := by decide +kernel
theorem dX12_tokens_502 : decode cX12_tokens 502 = .ok (.iload 7, 2) := by decide +kernel
theorem dX12_tokens_504 : decode cX12_tokens 504 = .ok (.ifCond .eq 7, 3) := by decide +kernel
theorem dX12_tokens_507 : decode cX12_tokens 507 = .ok (.iconst 2, 1) := by decide +kernel
theorem dX12_tokens_508 : decode cX12_tokens 508 = .ok (.goto 4, 3) := by decide +kernel
theorem dX12_tokens_511 : decode cX12_tokens 511 = .ok (.iconst 1, 1) := by decide +kernel
theorem dX12_tokens_512 : decode cX12_tokens 512 = .ok (.iadd, 1) := by decide +kernel
theorem dX12_tokens_513 : decode cX12_tokens 513 = .ok (.istore_n 3, 1) := by decide +kernel
theorem dX12_tokens_514 : decode cX12_tokens 514 = .ok (.aload_n 0, 1) := by decide +kernel
theorem dX12_tokens_515 : decode cX12_tokens 515 = .ok (.getfield 46, 3) := by decide +kernel
theorem dX12_tokens_518 : decode cX12_tokens 518 = .ok (.iload_n 2, 1) := by decide +kernel
theorem dX12_tokens_519 : decode cX12_tokens 519 = .ok (.iload_n 3, 1) := by decide +kernel
theorem dX12_tokens_520 : decode cX12_tokens 520 = .ok (.iload 5, 2) := by decide +kernel
theorem dX12_tokens_522 : decode cX12_tokens 522 = .ok (.isub, 1) := by decide +kernel
theorem dX12_tokens_523 : decode cX12_tokens 523 = .ok (.iastore, 1) := by decide +kernel
theorem dX12_tokens_524 : decode cX12_tokens 524 = .ok (.iinc 2 1, 3) := by decide +kernel
theorem dX12_tokens_527 : decode cX12_tokens 527 = .ok (.goto (-518), 3) := by decide +kernel
theorem dX12_tokens_530 : decode cX12_tokens 530 = .ok (.aload_n 0, 1) := by decide +kernel
theorem dX12_tokens_531 : decode cX12_tokens 531 = .ok (.getfield 40, 3) := by decide +kernel
theorem dX12_tokens_534 : decode cX12_tokens 534 = .ok (.iload_n 2, 1) := by decide +kernel
theorem dX12_tokens_535 : decode cX12_tokens 535 = .ok (.iconst 0, 1) := by decide +kernel
theorem dX12_tokens_536 : decode cX12_tokens 536 = .ok (.iastore, 1) := by decide +kernel
theorem dX12_tokens_537 : decode cX12_tokens 537 = .ok (.aload_n 0, 1) := by decide +kernel
theorem dX12_tokens_538 : decode cX12_tokens 538 = .ok (.getfield 43, 3) := by decide +kernel
theorem dX12_tokens_541 : decode cX12_tokens 541 = .ok (.iload_n 2, 1) := by decide +kernel
theorem dX12_tokens_542 : decode cX12_tokens 542 = .ok (.iload_n 1, 1) := by decide +kernel
theorem dX12_tokens_543 : decode cX12_tokens 543 = .ok (.iastore, 1) := by decide +kernel
theorem dX12_tokens_544 : decode cX12_tokens 544 = .ok (.aload_n 0, 1) := by decide +kernel
theorem dX12_tokens_545 : decode cX12_tokens 545 = .ok (.getfield 46, 3) := by decide +kernel
theorem dX12_tokens_548 : decode cX12_tokens 548 = .ok (.iload_n 2, 1) := by decide +kernel
theorem dX12_tokens_549 : decode cX12_tokens 549 = .ok (.iconst 0, 1) := by decide +kernel
theorem dX12_tokens_550 : decode cX12_tokens 550 = .ok (.iastore, 1) := by decide +kernel
theorem dX12_tokens_551 : decode cX12_tokens 551 = .ok (.return_, 1) := by decide +kernel
abbrev cs_t_X12_tokens (cB cI cJ cZ : ClassId) (h0 : Nat) (a : Nat → Nat) (f : Nat → Int32) (w : Int64) (n : Nat) (g sf pf lf : Nat → Int32) (nf : Nat → Int64) : va_W := [(h0, .inr (13, moF a (upd f 3 (nI n)) w)), (a 2, .inl (cB, 2000, .inl g)), (a 14, .inl (cI, 2001, .inl sf)), (a 15, .inl (cI, 2001, .inl pf)), (a 16, .inl (cI, 2001, .inl lf)), (a 17, .inl (cJ, 2001, .inr (.inl nf)))]
abbrev pc_t_X12_tokens (dC : Nat → ClassId) (dI : Nat → Nat → Nat) (sz : Nat) (cB cI cJ cZ : ClassId) (h0 : Nat) (a : Nat → Nat) (f : Nat → Int32) (w : Int64) (n : Nat) (g sf pf lf : Nat → Int32) (nf : Nat → Int64) : Array Value → State → Prop := va_Pc [.ref h0] (fun U => U.heap.size = sz ∧ va_P (dC, dI) vwCl [(h0, .inr (13, moF a (upd f 3 (nI n)) w)), (a 2, .inl (cB, 2000, .inl g)), (a 14, .inl (cI, 2001, .inl sf)), (a 15, .inl (cI, 2001, .inl pf)), (a 16, .inl (cI, 2001, .inl lf)), (a 17, .inl (cJ, 2001, .inr (.inl nf)))] U.heap ∧ va_K (dC, dI) vwCl [(cB, .byte), (cI, .int), (cJ, .long), (cZ, .boolean)] U ∧ va_D (fun _ => True) [(h0, .inr (13, moF a (upd f 3 (nI n)) w)), (a 2, .inl (cB, 2000, .inl g)), (a 14, .inl (cI, 2001, .inl sf)), (a 15, .inl (cI, 2001, .inl pf)), (a 16, .inl (cI, 2001, .inl lf)), (a 17, .inl (cJ, 2001, .inr (.inl nf)))])
abbrev qc_t_X12_tokens (dC : Nat → ClassId) (dI : Nat → Nat → Nat) (cB cI cJ cZ : ClassId) (h0 : Nat) (a : Nat → Nat) (f : Nat → Int32) (w : Int64) (n : Nat) (g sf pf lf : Nat → Int32) (nf : Nat → Int64) (A : Nat → Prop) : Array Value → State → Outcome → State → Prop := va_Qv (fun (u : Nat) => match u with | t2 => t2 ≤ n ∧ mlF g n t2 = n ∧ ∀ j, j < t2 → mlF g n j < n) (fun (u : Nat) t_ => match u with | t2 => va_P (dC, dI) vwCl [(h0, .inr (13, moF a (upd f 3 (nI n)) w)), (a 2, .inl (cB, 2000, .inl g)), (a 14, .inl (cI, 2001, .inl (upd (laid sf (msF g n) t2) t2 0))), (a 15, .inl (cI, 2001, .inl (upd (laid pf (fun i => nI (mlF g n i)) t2) t2 (nI n)))), (a 16, .inl (cI, 2001, .inl (upd (laid lf (mwF g n) t2) t2 0))), (a 17, .inl (cJ, 2001, .inr (.inl (laidL nf (mnbF g n) t2))))] t_.heap ∧ va_K (dC, dI) vwCl [(cB, .byte), (cI, .int), (cJ, .long), (cZ, .boolean)] t_ ∧ va_D A [(h0, .inr (13, moF a (upd f 3 (nI n)) w)), (a 2, .inl (cB, 2000, .inl g)), (a 14, .inl (cI, 2001, .inl (upd (laid sf (msF g n) t2) t2 0))), (a 15, .inl (cI, 2001, .inl (upd (laid pf (fun i => nI (mlF g n i)) t2) t2 (nI n)))), (a 16, .inl (cI, 2001, .inl (upd (laid lf (mwF g n) t2) t2 0))), (a 17, .inl (cJ, 2001, .inr (.inl (laidL nf (mnbF g n) t2))))]) A
set_option maxHeartbeats 4000000 in
set_option maxRecDepth 100000 in
theorem t_X12_tokens (l : Launch) (dC : Nat → ClassId) (dI : Nat → Nat → Nat) (sz : Nat) (cB cI cJ cZ : ClassId) (h0 : Nat) (a : Nat → Nat) (f : Nat → Int32) (w : Int64) (n : Nat) (g sf pf lf : Nat → Int32) (nf : Nat → Int64) (hn : n ≤ 2000) : Met l yX12_tokens (wsOf yX12_tokens cX12_tokens 9 none) ({ frames := 1, cells := 0, slots := 0, locals := 60 }) (pc_t_X12_tokens dC dI sz cB cI cJ cZ h0 a f w n g sf pf lf nf) (qc_t_X12_tokens dC dI cB cI cJ cZ h0 a f w n g sf pf lf nf (va_A (cs_t_X12_tokens cB cI cJ cZ h0 a f w n g sf pf lf nf) sz)) 0 0 (va_A (cs_t_X12_tokens cB cI cJ cZ h0 a f w n g sf pf lf nf) sz) := by
  refine Met.ofW (cc := cX12_tokens) (maxL := 9) (ret := none) (by decide) rfl ?_
  intro p e s m args below meth c s₁ B hml hv
  obtain ⟨rfl, hsz, hP, hK, hD0⟩ := hv
  have hx := B.exec
  have hb := B.bytes
  have hr := B.returns
  have hts := atoms_spec (ws := (wsOf yX12_tokens cX12_tokens 9 none)) B.pre
  have hown : s.vm.findClass RX12 = some m.cls := findClass_of_methodNamed B.named
  have hlocks := B.notSynchronized
  subst hsz
  have hD := hD0.self (sz := s.heap.size)
  generalize hAe : va_A (cs_t_X12_tokens cB cI cJ cZ h0 a f w n g sf pf lf nf) s.heap.size = A at hD ⊢
  have hA : ∀ q : Nat, s.heap.size ≤ q → A q := fun q h => by rw [← hAe]; exact Or.inr h
  have hS : va_S A s.heap s.heap [] := va_S.rf
  have hP : va_P (dC, dI) vwCl [(h0, .inr (13, moF a (upd f 3 (nI n)) w)), (a 2, .inl (cB, 2000, .inl g)), (a 14, .inl (cI, 2001, .inl sf)), (a 15, .inl (cI, 2001, .inl pf)), (a 16, .inl (cI, 2001, .inl lf)), (a 17, .inl (cJ, 2001, .inr (.inl nf)))] s.heap := hP
  have hl := lv_entry ([.ref h0]) (n := 9) (Nat.le_of_ble_eq_true rfl)
  rw [lg_entry_eq]
  generalize (lg_sl ([.ref h0]) ++ List.replicate (9 - (lg_sl ([.ref h0])).length) Slot.unset).toArray = ls at hl ⊢
  have hl : lv_has ls 9 [(0, .ref h0)] := hl
  refine lv_aload_n hx hb dX12_tokens_0 rfl (lv_at hl 0 rfl) ?_
  refine va_get (D := (dC, dI)) (ci := 13) (v := .int (nI n)) (C := RX12) (T := TX12) (N := 115) hx hb hts (fun w h => List.mem_cons_of_mem _ (uG_X12 w h)) hown hK hP 0 rfl rfl 3 (by decide) (hts _ (List.mem_cons_of_mem _ kw_1694)) (fun _ h9 => h9) rfl dX12_tokens_1 ?_
  refine lv_istore_n (lv' := [(1, .int (nI n)), (0, .ref h0)]) hx hb dX12_tokens_4 rfl hl (by decide) rfl (fun ls hl => ?_)
  have e0 : laid sf (msF g n) 0 = sf := laid_0
  have e1 : laid pf (fun i => nI (mlF g n i)) 0 = pf := laid_0
  have e2 : laid lf (mwF g n) 0 = lf := laid_0
  have e3 : laidL nf (mnbF g n) 0 = nf := laidL_0
  rw [← e0, ← e1, ← e2, ← e3] at hP hD
  have hP : va_P (dC, dI) vwCl [(h0, .inr (13, moF a (upd f 3 (nI n)) w)), (a 2, .inl (cB, 2000, .inl g)), (a 14, .inl (cI, 2001, .inl (laid sf (msF g n) 0))), (a 15, .inl (cI, 2001, .inl (laid pf (fun i => nI (mlF g n i)) 0))), (a 16, .inl (cI, 2001, .inl (laid lf (mwF g n) 0))), (a 17, .inl (cJ, 2001, .inr (.inl (laidL nf (mnbF g n) 0))))] s.heap := hP
  have hD : va_D A [(h0, .inr (13, moF a (upd f 3 (nI n)) w)), (a 2, .inl (cB, 2000, .inl g)), (a 14, .inl (cI, 2001, .inl (laid sf (msF g n) 0))), (a 15, .inl (cI, 2001, .inl (laid pf (fun i => nI (mlF g n i)) 0))), (a 16, .inl (cI, 2001, .inl (laid lf (mwF g n) 0))), (a 17, .inl (cJ, 2001, .inr (.inl (laidL nf (mnbF g n) 0))))] := hD
  refine lv_iconst (v := 0) hx hb dX12_tokens_5 (by decide) ?_
  refine lv_istore_n (lv' := [(2, .int 0), (1, .int (nI n)), (0, .ref h0)]) hx hb dX12_tokens_6 rfl hl (by decide) rfl (fun ls hl => ?_)
  refine lv_iconst (v := 0) hx hb dX12_tokens_7 (by decide) ?_
  refine lv_istore_n (lv' := [(3, .int 0), (2, .int 0), (1, .int (nI n)), (0, .ref h0)]) hx hb dX12_tokens_8 rfl hl (by decide) rfl (fun ls hl => ?_)
  have lp_9 : ∀ (n_ : Nat) (t k : Nat), t ≤ k → k ≤ n → mlF g n t = skB g n (n - k) k → (∀ j, j < t → mlF g n j < n) → n - k < n_ → ∀ (H : Heap) (locs : List Loc) (ls : Array Slot), va_P (dC, dI) vwCl [(h0, .inr (13, moF a (upd f 3 (nI n)) w)), (a 2, .inl (cB, 2000, .inl g)), (a 14, .inl (cI, 2001, .inl (laid sf (msF g n) t))), (a 15, .inl (cI, 2001, .inl (laid pf (fun i => nI (mlF g n i)) t))), (a 16, .inl (cI, 2001, .inl (laid lf (mwF g n) t))), (a 17, .inl (cJ, 2001, .inr (.inl (laidL nf (mnbF g n) t))))] H → va_D A [(h0, .inr (13, moF a (upd f 3 (nI n)) w)), (a 2, .inl (cB, 2000, .inl g)), (a 14, .inl (cI, 2001, .inl (laid sf (msF g n) t))), (a 15, .inl (cI, 2001, .inl (laid pf (fun i => nI (mlF g n i)) t))), (a 16, .inl (cI, 2001, .inl (laid lf (mwF g n) t))), (a 17, .inl (cJ, 2001, .inr (.inl (laidL nf (mnbF g n) t))))] → va_S A s.heap H locs → lv_has ls 9 [(3, .int (nI k)), (2, .int (nI t)), (1, .int (nI n)), (0, .ref h0)] → W p l e (headSpec (wsOf yX12_tokens cX12_tokens 9 none) ({ frames := 1, cells := 0, slots := 0, locals := 60 })).room s m ([.ref h0] : List Value).toArray below meth c H locs 0 0 (MQ below (qc_t_X12_tokens dC dI cB cI cJ cZ h0 a f w n g sf pf lf nf A) ([.ref h0] : List Value).toArray s 0 0 A) (F0 m 9 ls []) := by
    intro n_
    induction n_ with
    | zero => intro t k htk hkn0 hsk hall hm; exact absurd hm (Nat.not_lt_zero _)
    | succ n_ ih_9 =>
      intro t k htk hkn0 hsk hall hm H locs ls hP hD hS hl
      refine lv_iload_n hx hb dX12_tokens_9 rfl (lv_at hl 0 rfl) ?_
      refine lv_iload_n hx hb dX12_tokens_10 rfl (lv_at hl 2 rfl) ?_
      refine lv_icmp_ge (tgt := 530) hx hb dX12_tokens_11 (by decide) (fun c_1 => ?_) (fun c_1 => ?_)
      · skip
        have c_1 : n ≤ k := (nI_leI (a := n) (b := k) (by omega) (by omega)).mp c_1
        have hkn1 : k = n := by omega
        have hT : mlF g n t = n := (hsk.trans (skB_e c_1)).trans hkn1
        refine lv_aload_n hx hb dX12_tokens_530 rfl (lv_at hl 3 rfl) ?_
        refine va_get (D := (dC, dI)) (ci := 13) (v := .ref (a 14)) (C := RX12) (T := TX12) (N := 115) hx hb hts (fun w h => List.mem_cons_of_mem _ (uG_X12 w h)) hown hK hP 0 rfl rfl 14 (by decide) (hts _ (List.mem_cons_of_mem _ kw_1705)) (fun _ h9 => h9) rfl dX12_tokens_531 ?_
        refine lv_iload_n hx hb dX12_tokens_534 rfl (lv_at hl 1 rfl) ?_
        refine lv_iconst (v := 0) hx hb dX12_tokens_535 (by decide) ?_
        refine va_iast hx hb hK hP hD hS 2 1 rfl rfl (i := (nI t)) (x := 0) (vp_in_nI (n := t) (N := 2001) (by omega) (by omega)) dX12_tokens_536 (fun H locs hP hD hS => ?_)
        rw [show (nI t).toNatClampNeg = t from nI_clamp (n := t) (by omega)] at hP hD
        have hP : va_P (dC, dI) vwCl [(h0, .inr (13, moF a (upd f 3 (nI n)) w)), (a 2, .inl (cB, 2000, .inl g)), (a 14, .inl (cI, 2001, .inl (upd (laid sf (msF g n) t) t 0))), (a 15, .inl (cI, 2001, .inl (laid pf (fun i => nI (mlF g n i)) t))), (a 16, .inl (cI, 2001, .inl (laid lf (mwF g n) t))), (a 17, .inl (cJ, 2001, .inr (.inl (laidL nf (mnbF g n) t))))] H := hP
        have hD : va_D A [(h0, .inr (13, moF a (upd f 3 (nI n)) w)), (a 2, .inl (cB, 2000, .inl g)), (a 14, .inl (cI, 2001, .inl (upd (laid sf (msF g n) t) t 0))), (a 15, .inl (cI, 2001, .inl (laid pf (fun i => nI (mlF g n i)) t))), (a 16, .inl (cI, 2001, .inl (laid lf (mwF g n) t))), (a 17, .inl (cJ, 2001, .inr (.inl (laidL nf (mnbF g n) t))))] := hD
        refine lv_aload_n hx hb dX12_tokens_537 rfl (lv_at hl 3 rfl) ?_
        refine va_get (D := (dC, dI)) (ci := 13) (v := .ref (a 15)) (C := RX12) (T := TX12) (N := 115) hx hb hts (fun w h => List.mem_cons_of_mem _ (uG_X12 w h)) hown hK hP 0 rfl rfl 15 (by decide) (hts _ (List.mem_cons_of_mem _ kw_1706)) (fun _ h9 => h9) rfl dX12_tokens_538 ?_
        refine lv_iload_n hx hb dX12_tokens_541 rfl (lv_at hl 1 rfl) ?_
        refine lv_iload_n hx hb dX12_tokens_542 rfl (lv_at hl 2 rfl) ?_
        refine va_iast hx hb hK hP hD hS 3 1 rfl rfl (i := (nI t)) (x := (nI n)) (vp_in_nI (n := t) (N := 2001) (by omega) (by omega)) dX12_tokens_543 (fun H locs hP hD hS => ?_)
        rw [show (nI t).toNatClampNeg = t from nI_clamp (n := t) (by omega)] at hP hD
        have hP : va_P (dC, dI) vwCl [(h0, .inr (13, moF a (upd f 3 (nI n)) w)), (a 2, .inl (cB, 2000, .inl g)), (a 14, .inl (cI, 2001, .inl (upd (laid sf (msF g n) t) t 0))), (a 15, .inl (cI, 2001, .inl (upd (laid pf (fun i => nI (mlF g n i)) t) t (nI n)))), (a 16, .inl (cI, 2001, .inl (laid lf (mwF g n) t))), (a 17, .inl (cJ, 2001, .inr (.inl (laidL nf (mnbF g n) t))))] H := hP
        have hD : va_D A [(h0, .inr (13, moF a (upd f 3 (nI n)) w)), (a 2, .inl (cB, 2000, .inl g)), (a 14, .inl (cI, 2001, .inl (upd (laid sf (msF g n) t) t 0))), (a 15, .inl (cI, 2001, .inl (upd (laid pf (fun i => nI (mlF g n i)) t) t (nI n)))), (a 16, .inl (cI, 2001, .inl (laid lf (mwF g n) t))), (a 17, .inl (cJ, 2001, .inr (.inl (laidL nf (mnbF g n) t))))] := hD
        refine lv_aload_n hx hb dX12_tokens_544 rfl (lv_at hl 3 rfl) ?_
        refine va_get (D := (dC, dI)) (ci := 13) (v := .ref (a 16)) (C := RX12) (T := TX12) (N := 115) hx hb hts (fun w h => List.mem_cons_of_mem _ (uG_X12 w h)) hown hK hP 0 rfl rfl 16 (by decide) (hts _ (List.mem_cons_of_mem _ kw_1707)) (fun _ h9 => h9) rfl dX12_tokens_545 ?_
        refine lv_iload_n hx hb dX12_tokens_548 rfl (lv_at hl 1 rfl) ?_
        refine lv_iconst (v := 0) hx hb dX12_tokens_549 (by decide) ?_
        refine va_iast hx hb hK hP hD hS 4 1 rfl rfl (i := (nI t)) (x := 0) (vp_in_nI (n := t) (N := 2001) (by omega) (by omega)) dX12_tokens_550 (fun H locs hP hD hS => ?_)
        rw [show (nI t).toNatClampNeg = t from nI_clamp (n := t) (by omega)] at hP hD
        have hP : va_P (dC, dI) vwCl [(h0, .inr (13, moF a (upd f 3 (nI n)) w)), (a 2, .inl (cB, 2000, .inl g)), (a 14, .inl (cI, 2001, .inl (upd (laid sf (msF g n) t) t 0))), (a 15, .inl (cI, 2001, .inl (upd (laid pf (fun i => nI (mlF g n i)) t) t (nI n)))), (a 16, .inl (cI, 2001, .inl (upd (laid lf (mwF g n) t) t 0))), (a 17, .inl (cJ, 2001, .inr (.inl (laidL nf (mnbF g n) t))))] H := hP
        have hD : va_D A [(h0, .inr (13, moF a (upd f 3 (nI n)) w)), (a 2, .inl (cB, 2000, .inl g)), (a 14, .inl (cI, 2001, .inl (upd (laid sf (msF g n) t) t 0))), (a 15, .inl (cI, 2001, .inl (upd (laid pf (fun i => nI (mlF g n i)) t) t (nI n)))), (a 16, .inl (cI, 2001, .inl (upd (laid lf (mwF g n) t) t 0))), (a 17, .inl (cJ, 2001, .inr (.inl (laidL nf (mnbF g n) t))))] := hD
        have hP9 := hP.sub (ws' := [(h0, .inr (13, moF a (upd f 3 (nI n)) w)), (a 2, .inl (cB, 2000, .inl g)), (a 14, .inl (cI, 2001, .inl (upd (laid sf (msF g n) t) t 0))), (a 15, .inl (cI, 2001, .inl (upd (laid pf (fun i => nI (mlF g n i)) t) t (nI n)))), (a 16, .inl (cI, 2001, .inl (upd (laid lf (mwF g n) t) t 0))), (a 17, .inl (cJ, 2001, .inr (.inl (laidL nf (mnbF g n) t))))]) [0, 1, 2, 3, 4, 5] rfl
        have hD9 := hD.sub (ws' := [(h0, .inr (13, moF a (upd f 3 (nI n)) w)), (a 2, .inl (cB, 2000, .inl g)), (a 14, .inl (cI, 2001, .inl (upd (laid sf (msF g n) t) t 0))), (a 15, .inl (cI, 2001, .inl (upd (laid pf (fun i => nI (mlF g n i)) t) t (nI n)))), (a 16, .inl (cI, 2001, .inl (upd (laid lf (mwF g n) t) t 0))), (a 17, .inl (cJ, 2001, .inr (.inl (laidL nf (mnbF g n) t))))]) [0, 1, 2, 3, 4, 5] (by decide) rfl
        have hK9 := hK.sub (tys' := [(cB, .byte), (cI, .int), (cJ, .long), (cZ, .boolean)]) [0, 1, 2, 3] rfl
        exact W.vret hx hb hr (fun t_ ht hW => ⟨⟨t, rfl, ⟨by omega, hT, hall⟩, by rw [ht]; exact hP9, va_K.moved hW.alike hK9, hD9⟩, hS.F ht⟩) hS.2.2 dX12_tokens_551
      · skip
        have c_1 : ¬ (n ≤ k) := fun h => c_1 ((nI_leI (a := n) (b := k) (by omega) (by omega)).mpr h)
        refine lv_aload_n hx hb dX12_tokens_14 rfl (lv_at hl 3 rfl) ?_
        refine va_get (D := (dC, dI)) (ci := 13) (v := .ref (a 2)) (C := RX12) (T := TX12) (N := 115) hx hb hts (fun w h => List.mem_cons_of_mem _ (uG_X12 w h)) hown hK hP 0 rfl rfl 2 (by decide) (hts _ (List.mem_cons_of_mem _ kw_1693)) (fun _ h9 => h9) rfl dX12_tokens_15 ?_
        refine lv_iload_n hx hb dX12_tokens_18 rfl (lv_at hl 0 rfl) ?_
        refine va_bald hx hb hK hP 1 0 rfl rfl (i := (nI k)) (vp_in_nI (n := k) (N := 2000) (by omega) (by omega)) dX12_tokens_19 ?_
        refine lv_topi (fun x_2 ex_2 => ?_)
        have ex_2 : x_2 = g k := ex_2.trans (congrArg g (nI_clamp (n := k) (by omega)))
        subst ex_2
        refine lv_istore (lv' := [(4, .int (g k)), (3, .int (nI k)), (2, .int (nI t)), (1, .int (nI n)), (0, .ref h0)]) hx hb dX12_tokens_20 hl (by decide) rfl (fun ls hl => ?_)
        refine lv_iload hx hb dX12_tokens_22 (lv_at hl 0 rfl) ?_
        refine lv_bipush (v := 32) hx hb dX12_tokens_24 (by decide) ?_
        refine lv_icmp_eq (tgt := 50) hx hb dX12_tokens_26 (by decide) (fun c_3 => ?_) (fun c_3 => ?_)
        · skip
          have hbk : ¬ bkI (g k) = 0 := by unfold bkI; rw [if_pos c_3]; decide
          refine lv_iinc (v := nI (k + 1)) (lv' := [(3, .int (nI (k + 1))), (4, .int (g k)), (2, .int (nI t)), (1, .int (nI n)), (0, .ref h0)]) hx hb dX12_tokens_50 hl (k := 1) rfl (nI_add k 1) (by decide) rfl (fun ls hl => ?_)
          refine lv_goto (tgt := 527) hx hb dX12_tokens_53 (by decide) ?_
          refine lv_goto (tgt := 9) hx hb dX12_tokens_527 (by decide) ?_
          exact ih_9 t (k + 1) (by omega) (by omega) (hsk.trans (skB_n c_1 hbk)) hall (by omega) _ _ _ (hP.sub [0, 1, 2, 3, 4, 5] rfl) (hD.sub [0, 1, 2, 3, 4, 5] (by decide) rfl) hS (lv_sub hl [0, 2, 3, 4] rfl)
        · skip
          refine lv_iload hx hb dX12_tokens_29 (lv_at hl 0 rfl) ?_
          refine lv_bipush (v := 9) hx hb dX12_tokens_31 (by decide) ?_
          refine lv_icmp_eq (tgt := 50) hx hb dX12_tokens_33 (by decide) (fun c_4 => ?_) (fun c_4 => ?_)
          · skip
            have hbk : ¬ bkI (g k) = 0 := by unfold bkI; rw [if_neg c_3, if_pos c_4]; decide
            refine lv_iinc (v := nI (k + 1)) (lv' := [(3, .int (nI (k + 1))), (4, .int (g k)), (2, .int (nI t)), (1, .int (nI n)), (0, .ref h0)]) hx hb dX12_tokens_50 hl (k := 1) rfl (nI_add k 1) (by decide) rfl (fun ls hl => ?_)
            refine lv_goto (tgt := 527) hx hb dX12_tokens_53 (by decide) ?_
            refine lv_goto (tgt := 9) hx hb dX12_tokens_527 (by decide) ?_
            exact ih_9 t (k + 1) (by omega) (by omega) (hsk.trans (skB_n c_1 hbk)) hall (by omega) _ _ _ (hP.sub [0, 1, 2, 3, 4, 5] rfl) (hD.sub [0, 1, 2, 3, 4, 5] (by decide) rfl) hS (lv_sub hl [0, 2, 3, 4] rfl)
          · skip
            refine lv_iload hx hb dX12_tokens_36 (lv_at hl 0 rfl) ?_
            refine lv_bipush (v := 13) hx hb dX12_tokens_38 (by decide) ?_
            refine lv_icmp_eq (tgt := 50) hx hb dX12_tokens_40 (by decide) (fun c_5 => ?_) (fun c_5 => ?_)
            · skip
              have hbk : ¬ bkI (g k) = 0 := by unfold bkI; rw [if_neg c_3, if_neg c_4, if_pos c_5]; decide
              refine lv_iinc (v := nI (k + 1)) (lv' := [(3, .int (nI (k + 1))), (4, .int (g k)), (2, .int (nI t)), (1, .int (nI n)), (0, .ref h0)]) hx hb dX12_tokens_50 hl (k := 1) rfl (nI_add k 1) (by decide) rfl (fun ls hl => ?_)
              refine lv_goto (tgt := 527) hx hb dX12_tokens_53 (by decide) ?_
              refine lv_goto (tgt := 9) hx hb dX12_tokens_527 (by decide) ?_
              exact ih_9 t (k + 1) (by omega) (by omega) (hsk.trans (skB_n c_1 hbk)) hall (by omega) _ _ _ (hP.sub [0, 1, 2, 3, 4, 5] rfl) (hD.sub [0, 1, 2, 3, 4, 5] (by decide) rfl) hS (lv_sub hl [0, 2, 3, 4] rfl)
            · skip
              refine lv_iload hx hb dX12_tokens_43 (lv_at hl 0 rfl) ?_
              refine lv_bipush (v := 10) hx hb dX12_tokens_45 (by decide) ?_
              refine lv_icmp_ne (tgt := 56) hx hb dX12_tokens_47 (by decide) (fun c_6 => ?_) (fun c_6 => ?_)
              · skip
                have hbk : bkI (g k) = 0 := by unfold bkI; rw [if_neg c_3, if_neg c_4, if_neg c_5, if_neg c_6]
                have hmk : mlF g n t = k := hsk.trans (skB_y c_1 hbk)
                have hkn : k < n := by omega
                have hal2 : ∀ j, j < t + 1 → mlF g n j < n := al_ext hall (by rw [hmk]; exact hkn)
                refine lv_iload_n hx hb dX12_tokens_56 rfl (lv_at hl 1 rfl) ?_
                refine lv_istore (lv' := [(5, .int (nI k)), (4, .int (g k)), (3, .int (nI k)), (2, .int (nI t)), (1, .int (nI n)), (0, .ref h0)]) hx hb dX12_tokens_57 hl (by decide) rfl (fun ls hl => ?_)
                refine lv_aload_n hx hb dX12_tokens_59 rfl (lv_at hl 5 rfl) ?_
                refine va_get (D := (dC, dI)) (ci := 13) (v := .ref (a 15)) (C := RX12) (T := TX12) (N := 115) hx hb hts (fun w h => List.mem_cons_of_mem _ (uG_X12 w h)) hown hK hP 0 rfl rfl 15 (by decide) (hts _ (List.mem_cons_of_mem _ kw_1706)) (fun _ h9 => h9) rfl dX12_tokens_60 ?_
                refine lv_iload_n hx hb dX12_tokens_63 rfl (lv_at hl 3 rfl) ?_
                refine lv_iload_n hx hb dX12_tokens_64 rfl (lv_at hl 2 rfl) ?_
                refine va_iast hx hb hK hP hD hS 3 1 rfl rfl (i := (nI t)) (x := (nI k)) (vp_in_nI (n := t) (N := 2001) (by omega) (by omega)) dX12_tokens_65 (fun H locs hP hD hS => ?_)
                rw [show (nI t).toNatClampNeg = t from nI_clamp (n := t) (by omega)] at hP hD
                have hP : va_P (dC, dI) vwCl [(h0, .inr (13, moF a (upd f 3 (nI n)) w)), (a 2, .inl (cB, 2000, .inl g)), (a 14, .inl (cI, 2001, .inl (laid sf (msF g n) t))), (a 15, .inl (cI, 2001, .inl (upd (laid pf (fun i => nI (mlF g n i)) t) t (nI k)))), (a 16, .inl (cI, 2001, .inl (laid lf (mwF g n) t))), (a 17, .inl (cJ, 2001, .inr (.inl (laidL nf (mnbF g n) t))))] H := hP
                have hD : va_D A [(h0, .inr (13, moF a (upd f 3 (nI n)) w)), (a 2, .inl (cB, 2000, .inl g)), (a 14, .inl (cI, 2001, .inl (laid sf (msF g n) t))), (a 15, .inl (cI, 2001, .inl (upd (laid pf (fun i => nI (mlF g n i)) t) t (nI k)))), (a 16, .inl (cI, 2001, .inl (laid lf (mwF g n) t))), (a 17, .inl (cJ, 2001, .inr (.inl (laidL nf (mnbF g n) t))))] := hD
                refine lv_aload_n hx hb dX12_tokens_66 rfl (lv_at hl 5 rfl) ?_
                refine va_get (D := (dC, dI)) (ci := 13) (v := .ref (a 17)) (C := RX12) (T := TX12) (N := 115) hx hb hts (fun w h => List.mem_cons_of_mem _ (uG_X12 w h)) hown hK hP 0 rfl rfl 17 (by decide) (hts _ (List.mem_cons_of_mem _ kw_1708)) (fun _ h9 => h9) rfl dX12_tokens_67 ?_
                refine lv_iload_n hx hb dX12_tokens_70 rfl (lv_at hl 3 rfl) ?_
                refine lv_lconst (v := 0) hx hb dX12_tokens_71 (by decide) ?_
                refine va_last hx hb hK hP hD hS 5 2 rfl rfl (i := (nI t)) (x := 0) (vp_in_nI (n := t) (N := 2001) (by omega) (by omega)) dX12_tokens_72 (fun H locs hP hD hS => ?_)
                rw [show (nI t).toNatClampNeg = t from nI_clamp (n := t) (by omega)] at hP hD
                have hP : va_P (dC, dI) vwCl [(h0, .inr (13, moF a (upd f 3 (nI n)) w)), (a 2, .inl (cB, 2000, .inl g)), (a 14, .inl (cI, 2001, .inl (laid sf (msF g n) t))), (a 15, .inl (cI, 2001, .inl (upd (laid pf (fun i => nI (mlF g n i)) t) t (nI k)))), (a 16, .inl (cI, 2001, .inl (laid lf (mwF g n) t))), (a 17, .inl (cJ, 2001, .inr (.inl (vp_updL (laidL nf (mnbF g n) t) t 0))))] H := hP
                have hD : va_D A [(h0, .inr (13, moF a (upd f 3 (nI n)) w)), (a 2, .inl (cB, 2000, .inl g)), (a 14, .inl (cI, 2001, .inl (laid sf (msF g n) t))), (a 15, .inl (cI, 2001, .inl (upd (laid pf (fun i => nI (mlF g n i)) t) t (nI k)))), (a 16, .inl (cI, 2001, .inl (laid lf (mwF g n) t))), (a 17, .inl (cJ, 2001, .inr (.inl (vp_updL (laidL nf (mnbF g n) t) t 0))))] := hD
                refine lv_iload hx hb dX12_tokens_73 (lv_at hl 1 rfl) ?_
                have hPc := hP.sub (ws' := []) [] rfl
                have hDc := hD.sub (ws' := []) [] (by decide) rfl
                have hKc := hK.sub (tys' := [(cB, .byte), (cI, .int), (cJ, .long), (cZ, .boolean)]) [0, 1, 2, 3] rfl
                have hFc := va_free (wc := []) hD hS hA [] rfl
                refine va_calli (va_runS (As := [.int (g k)]) (rest := []) ⟨hx, hb, hml, hown, hts⟩ (t_X12_isLetter l dC dI H.size cB cI cJ cZ (g k)) ⟨callB_of 1 hts (gd_all (in_I kc_X12_isLetter)) rfl rfl rfl (hts _ (List.mem_cons_of_mem _ kw_191)) (hts _ (List.mem_cons_of_mem _ kw_2229)) (by decide +kernel) ⟨Nat.le_of_ble_eq_true rfl, Nat.le_of_ble_eq_true rfl⟩, hts _ (List.mem_cons_of_mem _ kw_2230)⟩ ⟨fun a U g mk q => by obtain ⟨q0, q1, qP, qK, qD⟩ := q; exact ⟨q0, q1, qP, va_K.moved (u := U) (U := U.calling g mk a) (Vm.Alike.refl U.vm) qK, qD⟩, fun U hU hW => ⟨rfl, by rw [hU], by rw [hU]; exact hPc, va_K.moved hW.alike hKc, hDc.weaken (fun _ _ _ _ => trivial)⟩⟩ rfl rfl hl.1 rfl (lv_room (Nat.le_of_ble_eq_true rfl)) dX12_tokens_75 ⟨Nat.le_of_ble_eq_true rfl, Nat.le_of_ble_eq_true rfl⟩) hS (fun q _ h => hFc q h) hFc (fun r_7 u t_ H1 locs ht hvm hw hB hz1 hk1 hS => ?_)
                obtain ⟨hP1, hK1, hD1⟩ := hB
                rw [ht] at hP1
                have hK1 := va_K.moved hvm.symm hK1
                obtain ⟨hP, hD⟩ := va_join (wr := [(h0, .inr (13, moF a (upd f 3 (nI n)) w)), (a 2, .inl (cB, 2000, .inl g)), (a 14, .inl (cI, 2001, .inl (laid sf (msF g n) t))), (a 15, .inl (cI, 2001, .inl (upd (laid pf (fun i => nI (mlF g n i)) t) t (nI k)))), (a 16, .inl (cI, 2001, .inl (laid lf (mwF g n) t))), (a 17, .inl (cJ, 2001, .inr (.inl (vp_updL (laidL nf (mnbF g n) t) t 0))))]) (w1 := []) hP hD [] [0, 1, 2, 3, 4, 5] rfl rfl (by decide) (by decide) hk1 hFc hP1 hD1
                have hK := (hK.sub (tys' := []) [] rfl).app hK1
                generalize H1 = H at hP hS ⊢
                have hP : va_P (dC, dI) vwCl [(h0, .inr (13, moF a (upd f 3 (nI n)) w)), (a 2, .inl (cB, 2000, .inl g)), (a 14, .inl (cI, 2001, .inl (laid sf (msF g n) t))), (a 15, .inl (cI, 2001, .inl (upd (laid pf (fun i => nI (mlF g n i)) t) t (nI k)))), (a 16, .inl (cI, 2001, .inl (laid lf (mwF g n) t))), (a 17, .inl (cJ, 2001, .inr (.inl (vp_updL (laidL nf (mnbF g n) t) t 0))))] H := hP
                have hD : va_D A [(h0, .inr (13, moF a (upd f 3 (nI n)) w)), (a 2, .inl (cB, 2000, .inl g)), (a 14, .inl (cI, 2001, .inl (laid sf (msF g n) t))), (a 15, .inl (cI, 2001, .inl (upd (laid pf (fun i => nI (mlF g n i)) t) t (nI k)))), (a 16, .inl (cI, 2001, .inl (laid lf (mwF g n) t))), (a 17, .inl (cJ, 2001, .inr (.inl (vp_updL (laidL nf (mnbF g n) t) t 0))))] := hD
                have hK : va_K (dC, dI) vwCl [(cB, .byte), (cI, .int), (cJ, .long), (cZ, .boolean)] s := hK
                have er_7 : r_7 = ltI (g k) := hw
                rw [er_7]
                refine lv_if_eq (tgt := 139) hx hb dX12_tokens_78 (by decide) (fun c_8 => ?_) (fun c_8 => ?_)
                · skip
                  refine lv_iload hx hb dX12_tokens_139 (lv_at hl 1 rfl) ?_
                  have hPc := hP.sub (ws' := []) [] rfl
                  have hDc := hD.sub (ws' := []) [] (by decide) rfl
                  have hKc := hK.sub (tys' := [(cB, .byte), (cI, .int), (cJ, .long), (cZ, .boolean)]) [0, 1, 2, 3] rfl
                  have hFc := va_free (wc := []) hD hS hA [] rfl
                  refine va_calli (va_runS (As := [.int (g k)]) (rest := []) ⟨hx, hb, hml, hown, hts⟩ (t_X12_isDigit l dC dI H.size cB cI cJ cZ (g k)) ⟨callB_of 1 hts (gd_all (in_I kc_X12_isDigit)) rfl rfl rfl (hts _ (List.mem_cons_of_mem _ kw_191)) (hts _ (List.mem_cons_of_mem _ kw_2232)) (by decide +kernel) ⟨Nat.le_of_ble_eq_true rfl, Nat.le_of_ble_eq_true rfl⟩, hts _ (List.mem_cons_of_mem _ kw_2233)⟩ ⟨fun a U g mk q => by obtain ⟨q0, q1, qP, qK, qD⟩ := q; exact ⟨q0, q1, qP, va_K.moved (u := U) (U := U.calling g mk a) (Vm.Alike.refl U.vm) qK, qD⟩, fun U hU hW => ⟨rfl, by rw [hU], by rw [hU]; exact hPc, va_K.moved hW.alike hKc, hDc.weaken (fun _ _ _ _ => trivial)⟩⟩ rfl rfl hl.1 rfl (lv_room (Nat.le_of_ble_eq_true rfl)) dX12_tokens_141 ⟨Nat.le_of_ble_eq_true rfl, Nat.le_of_ble_eq_true rfl⟩) hS (fun q _ h => hFc q h) hFc (fun r_9 u t_ H1 locs ht hvm hw hB hz1 hk1 hS => ?_)
                  obtain ⟨hP1, hK1, hD1⟩ := hB
                  rw [ht] at hP1
                  have hK1 := va_K.moved hvm.symm hK1
                  obtain ⟨hP, hD⟩ := va_join (wr := [(h0, .inr (13, moF a (upd f 3 (nI n)) w)), (a 2, .inl (cB, 2000, .inl g)), (a 14, .inl (cI, 2001, .inl (laid sf (msF g n) t))), (a 15, .inl (cI, 2001, .inl (upd (laid pf (fun i => nI (mlF g n i)) t) t (nI k)))), (a 16, .inl (cI, 2001, .inl (laid lf (mwF g n) t))), (a 17, .inl (cJ, 2001, .inr (.inl (vp_updL (laidL nf (mnbF g n) t) t 0))))]) (w1 := []) hP hD [] [0, 1, 2, 3, 4, 5] rfl rfl (by decide) (by decide) hk1 hFc hP1 hD1
                  have hK := (hK.sub (tys' := []) [] rfl).app hK1
                  generalize H1 = H at hP hS ⊢
                  have hP : va_P (dC, dI) vwCl [(h0, .inr (13, moF a (upd f 3 (nI n)) w)), (a 2, .inl (cB, 2000, .inl g)), (a 14, .inl (cI, 2001, .inl (laid sf (msF g n) t))), (a 15, .inl (cI, 2001, .inl (upd (laid pf (fun i => nI (mlF g n i)) t) t (nI k)))), (a 16, .inl (cI, 2001, .inl (laid lf (mwF g n) t))), (a 17, .inl (cJ, 2001, .inr (.inl (vp_updL (laidL nf (mnbF g n) t) t 0))))] H := hP
                  have hD : va_D A [(h0, .inr (13, moF a (upd f 3 (nI n)) w)), (a 2, .inl (cB, 2000, .inl g)), (a 14, .inl (cI, 2001, .inl (laid sf (msF g n) t))), (a 15, .inl (cI, 2001, .inl (upd (laid pf (fun i => nI (mlF g n i)) t) t (nI k)))), (a 16, .inl (cI, 2001, .inl (laid lf (mwF g n) t))), (a 17, .inl (cJ, 2001, .inr (.inl (vp_updL (laidL nf (mnbF g n) t) t 0))))] := hD
                  have hK : va_K (dC, dI) vwCl [(cB, .byte), (cI, .int), (cJ, .long), (cZ, .boolean)] s := hK
                  have er_9 : r_9 = dgI (g k) := hw
                  rw [er_9]
                  refine lv_if_eq (tgt := 299) hx hb dX12_tokens_144 (by decide) (fun c_10 => ?_) (fun c_10 => ?_)
                  · skip
                    have mg_11 : ∀ (H : Heap) (locs : List Loc), va_P (dC, dI) vwCl [(h0, .inr (13, moF a (upd f 3 (nI n)) w)), (a 2, .inl (cB, 2000, .inl g)), (a 14, .inl (cI, 2001, .inl (laid sf (msF g n) t))), (a 15, .inl (cI, 2001, .inl (upd (laid pf (fun i => nI (mlF g n i)) t) t (nI k)))), (a 16, .inl (cI, 2001, .inl (laid lf (mwF g n) t))), (a 17, .inl (cJ, 2001, .inr (.inl (vp_updL (laidL nf (mnbF g n) t) t 0))))] H → va_D A [(h0, .inr (13, moF a (upd f 3 (nI n)) w)), (a 2, .inl (cB, 2000, .inl g)), (a 14, .inl (cI, 2001, .inl (laid sf (msF g n) t))), (a 15, .inl (cI, 2001, .inl (upd (laid pf (fun i => nI (mlF g n i)) t) t (nI k)))), (a 16, .inl (cI, 2001, .inl (laid lf (mwF g n) t))), (a 17, .inl (cJ, 2001, .inr (.inl (vp_updL (laidL nf (mnbF g n) t) t 0))))] → va_S A s.heap H locs → W p l e (headSpec (wsOf yX12_tokens cX12_tokens 9 none) ({ frames := 1, cells := 0, slots := 0, locals := 60 })).room s m ([.ref h0] : List Value).toArray below meth c H locs 0 0 (MQ below (qc_t_X12_tokens dC dI cB cI cJ cZ h0 a f w n g sf pf lf nf A) ([.ref h0] : List Value).toArray s 0 0 A) (F0 m 318 ls [.int (sdF g n k)]) := by
                      intro H locs hP hD hS
                      refine lv_istore (lv' := [(6, .int (sdF g n k)), (5, .int (nI k)), (4, .int (g k)), (3, .int (nI k)), (2, .int (nI t)), (1, .int (nI n)), (0, .ref h0)]) hx hb dX12_tokens_318 hl (by decide) rfl (fun ls hl => ?_)
                      have mg_12 : ∀ (H : Heap) (locs : List Loc), va_P (dC, dI) vwCl [(h0, .inr (13, moF a (upd f 3 (nI n)) w)), (a 2, .inl (cB, 2000, .inl g)), (a 14, .inl (cI, 2001, .inl (laid sf (msF g n) t))), (a 15, .inl (cI, 2001, .inl (upd (laid pf (fun i => nI (mlF g n i)) t) t (nI k)))), (a 16, .inl (cI, 2001, .inl (laid lf (mwF g n) t))), (a 17, .inl (cJ, 2001, .inr (.inl (vp_updL (laidL nf (mnbF g n) t) t 0))))] H → va_D A [(h0, .inr (13, moF a (upd f 3 (nI n)) w)), (a 2, .inl (cB, 2000, .inl g)), (a 14, .inl (cI, 2001, .inl (laid sf (msF g n) t))), (a 15, .inl (cI, 2001, .inl (upd (laid pf (fun i => nI (mlF g n i)) t) t (nI k)))), (a 16, .inl (cI, 2001, .inl (laid lf (mwF g n) t))), (a 17, .inl (cJ, 2001, .inr (.inl (vp_updL (laidL nf (mnbF g n) t) t 0))))] → va_S A s.heap H locs → W p l e (headSpec (wsOf yX12_tokens cX12_tokens 9 none) ({ frames := 1, cells := 0, slots := 0, locals := 60 })).room s m ([.ref h0] : List Value).toArray below meth c H locs 0 0 (MQ below (qc_t_X12_tokens dC dI cB cI cJ cZ h0 a f w n g sf pf lf nf A) ([.ref h0] : List Value).toArray s 0 0 A) (F0 m 381 ls [.int (twI (g k) (sdF g n k))]) := by
                        intro H locs hP hD hS
                        refine lv_istore (lv' := [(7, .int (twI (g k) (sdF g n k))), (6, .int (sdF g n k)), (5, .int (nI k)), (4, .int (g k)), (3, .int (nI k)), (2, .int (nI t)), (1, .int (nI n)), (0, .ref h0)]) hx hb dX12_tokens_381 hl (by decide) rfl (fun ls hl => ?_)
                        have mg_13 : ∀ (H : Heap) (locs : List Loc), va_P (dC, dI) vwCl [(h0, .inr (13, moF a (upd f 3 (nI n)) w)), (a 2, .inl (cB, 2000, .inl g)), (a 14, .inl (cI, 2001, .inl (laid sf (msF g n) t))), (a 15, .inl (cI, 2001, .inl (upd (laid pf (fun i => nI (mlF g n i)) t) t (nI k)))), (a 16, .inl (cI, 2001, .inl (laid lf (mwF g n) t))), (a 17, .inl (cJ, 2001, .inr (.inl (vp_updL (laidL nf (mnbF g n) t) t 0))))] H → va_D A [(h0, .inr (13, moF a (upd f 3 (nI n)) w)), (a 2, .inl (cB, 2000, .inl g)), (a 14, .inl (cI, 2001, .inl (laid sf (msF g n) t))), (a 15, .inl (cI, 2001, .inl (upd (laid pf (fun i => nI (mlF g n i)) t) t (nI k)))), (a 16, .inl (cI, 2001, .inl (laid lf (mwF g n) t))), (a 17, .inl (cJ, 2001, .inr (.inl (vp_updL (laidL nf (mnbF g n) t) t 0))))] → va_S A s.heap H locs → W p l e (headSpec (wsOf yX12_tokens cX12_tokens 9 none) ({ frames := 1, cells := 0, slots := 0, locals := 60 })).room s m ([.ref h0] : List Value).toArray below meth c H locs 0 0 (MQ below (qc_t_X12_tokens dC dI cB cI cJ cZ h0 a f w n g sf pf lf nf A) ([.ref h0] : List Value).toArray s 0 0 A) (F0 m 472 ls [.int (onI (g k))]) := by
                          intro H locs hP hD hS
                          refine lv_istore (lv' := [(8, .int (onI (g k))), (7, .int (twI (g k) (sdF g n k))), (6, .int (sdF g n k)), (5, .int (nI k)), (4, .int (g k)), (3, .int (nI k)), (2, .int (nI t)), (1, .int (nI n)), (0, .ref h0)]) hx hb dX12_tokens_472 hl (by decide) rfl (fun ls hl => ?_)
                          refine lv_aload_n hx hb dX12_tokens_474 rfl (lv_at hl 8 rfl) ?_
                          refine va_get (D := (dC, dI)) (ci := 13) (v := .ref (a 14)) (C := RX12) (T := TX12) (N := 115) hx hb hts (fun w h => List.mem_cons_of_mem _ (uG_X12 w h)) hown hK hP 0 rfl rfl 14 (by decide) (hts _ (List.mem_cons_of_mem _ kw_1705)) (fun _ h9 => h9) rfl dX12_tokens_475 ?_
                          refine lv_iload_n hx hb dX12_tokens_478 rfl (lv_at hl 6 rfl) ?_
                          have mg_14 : ∀ (H : Heap) (locs : List Loc), va_P (dC, dI) vwCl [(h0, .inr (13, moF a (upd f 3 (nI n)) w)), (a 2, .inl (cB, 2000, .inl g)), (a 14, .inl (cI, 2001, .inl (laid sf (msF g n) t))), (a 15, .inl (cI, 2001, .inl (upd (laid pf (fun i => nI (mlF g n i)) t) t (nI k)))), (a 16, .inl (cI, 2001, .inl (laid lf (mwF g n) t))), (a 17, .inl (cJ, 2001, .inr (.inl (vp_updL (laidL nf (mnbF g n) t) t 0))))] H → va_D A [(h0, .inr (13, moF a (upd f 3 (nI n)) w)), (a 2, .inl (cB, 2000, .inl g)), (a 14, .inl (cI, 2001, .inl (laid sf (msF g n) t))), (a 15, .inl (cI, 2001, .inl (upd (laid pf (fun i => nI (mlF g n i)) t) t (nI k)))), (a 16, .inl (cI, 2001, .inl (laid lf (mwF g n) t))), (a 17, .inl (cJ, 2001, .inr (.inl (vp_updL (laidL nf (mnbF g n) t) t 0))))] → va_S A s.heap H locs → W p l e (headSpec (wsOf yX12_tokens cX12_tokens 9 none) ({ frames := 1, cells := 0, slots := 0, locals := 60 })).room s m ([.ref h0] : List Value).toArray below meth c H locs 0 0 (MQ below (qc_t_X12_tokens dC dI cB cI cJ cZ h0 a f w n g sf pf lf nf A) ([.ref h0] : List Value).toArray s 0 0 A) (F0 m 500 ls [.int (ssI (g k) (twI (g k) (sdF g n k)) (onI (g k))), .int (nI t), .ref (a 14)]) := by
                            intro H locs hP hD hS
                            refine va_iast hx hb hK hP hD hS 2 1 rfl rfl (i := (nI t)) (x := (ssI (g k) (twI (g k) (sdF g n k)) (onI (g k)))) (vp_in_nI (n := t) (N := 2001) (by omega) (by omega)) dX12_tokens_500 (fun H locs hP hD hS => ?_)
                            rw [show (nI t).toNatClampNeg = t from nI_clamp (n := t) (by omega)] at hP hD
                            have hP : va_P (dC, dI) vwCl [(h0, .inr (13, moF a (upd f 3 (nI n)) w)), (a 2, .inl (cB, 2000, .inl g)), (a 14, .inl (cI, 2001, .inl (upd (laid sf (msF g n) t) t (ssI (g k) (twI (g k) (sdF g n k)) (onI (g k)))))), (a 15, .inl (cI, 2001, .inl (upd (laid pf (fun i => nI (mlF g n i)) t) t (nI k)))), (a 16, .inl (cI, 2001, .inl (laid lf (mwF g n) t))), (a 17, .inl (cJ, 2001, .inr (.inl (vp_updL (laidL nf (mnbF g n) t) t 0))))] H := hP
                            have hD : va_D A [(h0, .inr (13, moF a (upd f 3 (nI n)) w)), (a 2, .inl (cB, 2000, .inl g)), (a 14, .inl (cI, 2001, .inl (upd (laid sf (msF g n) t) t (ssI (g k) (twI (g k) (sdF g n k)) (onI (g k)))))), (a 15, .inl (cI, 2001, .inl (upd (laid pf (fun i => nI (mlF g n i)) t) t (nI k)))), (a 16, .inl (cI, 2001, .inl (laid lf (mwF g n) t))), (a 17, .inl (cJ, 2001, .inr (.inl (vp_updL (laidL nf (mnbF g n) t) t 0))))] := hD
                            refine lv_iload_n hx hb dX12_tokens_501 rfl (lv_at hl 5 rfl) ?_
                            have mg_15 : ∀ (H : Heap) (locs : List Loc), va_P (dC, dI) vwCl [(h0, .inr (13, moF a (upd f 3 (nI n)) w)), (a 2, .inl (cB, 2000, .inl g)), (a 14, .inl (cI, 2001, .inl (upd (laid sf (msF g n) t) t (ssI (g k) (twI (g k) (sdF g n k)) (onI (g k)))))), (a 15, .inl (cI, 2001, .inl (upd (laid pf (fun i => nI (mlF g n i)) t) t (nI k)))), (a 16, .inl (cI, 2001, .inl (laid lf (mwF g n) t))), (a 17, .inl (cJ, 2001, .inr (.inl (vp_updL (laidL nf (mnbF g n) t) t 0))))] H → va_D A [(h0, .inr (13, moF a (upd f 3 (nI n)) w)), (a 2, .inl (cB, 2000, .inl g)), (a 14, .inl (cI, 2001, .inl (upd (laid sf (msF g n) t) t (ssI (g k) (twI (g k) (sdF g n k)) (onI (g k)))))), (a 15, .inl (cI, 2001, .inl (upd (laid pf (fun i => nI (mlF g n i)) t) t (nI k)))), (a 16, .inl (cI, 2001, .inl (laid lf (mwF g n) t))), (a 17, .inl (cJ, 2001, .inr (.inl (vp_updL (laidL nf (mnbF g n) t) t 0))))] → va_S A s.heap H locs → W p l e (headSpec (wsOf yX12_tokens cX12_tokens 9 none) ({ frames := 1, cells := 0, slots := 0, locals := 60 })).room s m ([.ref h0] : List Value).toArray below meth c H locs 0 0 (MQ below (qc_t_X12_tokens dC dI cB cI cJ cZ h0 a f w n g sf pf lf nf A) ([.ref h0] : List Value).toArray s 0 0 A) (F0 m 512 ls [.int (nI (stN (twI (g k) (sdF g n k)))), .int (nI k)]) := by
                              intro H locs hP hD hS
                              refine lv_iadd hx hb dX12_tokens_512 ?_
                              refine lv_topi (fun x_16 ex_16 => ?_)
                              have ex_16 : x_16 = nI (k + (stN (twI (g k) (sdF g n k)))) := ex_16.trans (nI_add k (stN (twI (g k) (sdF g n k))))
                              subst ex_16
                              refine lv_istore_n (lv' := [(3, .int (nI (k + (stN (twI (g k) (sdF g n k)))))), (8, .int (onI (g k))), (7, .int (twI (g k) (sdF g n k))), (6, .int (sdF g n k)), (5, .int (nI k)), (4, .int (g k)), (2, .int (nI t)), (1, .int (nI n)), (0, .ref h0)]) hx hb dX12_tokens_513 rfl hl (by decide) rfl (fun ls hl => ?_)
                              have hstw : stN (twI (g k) (sdF g n k)) = 1 ∨ (stN (twI (g k) (sdF g n k)) = 2 ∧ k + 1 < n) := st_tw
                              refine lv_aload_n hx hb dX12_tokens_514 rfl (lv_at hl 8 rfl) ?_
                              refine va_get (D := (dC, dI)) (ci := 13) (v := .ref (a 16)) (C := RX12) (T := TX12) (N := 115) hx hb hts (fun w h => List.mem_cons_of_mem _ (uG_X12 w h)) hown hK hP 0 rfl rfl 16 (by decide) (hts _ (List.mem_cons_of_mem _ kw_1707)) (fun _ h9 => h9) rfl dX12_tokens_515 ?_
                              refine lv_iload_n hx hb dX12_tokens_518 rfl (lv_at hl 6 rfl) ?_
                              refine lv_iload_n hx hb dX12_tokens_519 rfl (lv_at hl 0 rfl) ?_
                              refine lv_iload hx hb dX12_tokens_520 (lv_at hl 4 rfl) ?_
                              refine lv_isub hx hb dX12_tokens_522 ?_
                              refine lv_topi (fun x_17 ex_17 => ?_)
                              have ex_17 : x_17 = nI (k + (stN (twI (g k) (sdF g n k))) - k) := ex_17.trans (pk_sub (a := k + (stN (twI (g k) (sdF g n k)))) (b := k) (by omega))
                              subst ex_17
                              refine va_iast hx hb hK hP hD hS 4 1 rfl rfl (i := (nI t)) (x := (nI (k + (stN (twI (g k) (sdF g n k))) - k))) (vp_in_nI (n := t) (N := 2001) (by omega) (by omega)) dX12_tokens_523 (fun H locs hP hD hS => ?_)
                              rw [show (nI t).toNatClampNeg = t from nI_clamp (n := t) (by omega)] at hP hD
                              have hP : va_P (dC, dI) vwCl [(h0, .inr (13, moF a (upd f 3 (nI n)) w)), (a 2, .inl (cB, 2000, .inl g)), (a 14, .inl (cI, 2001, .inl (upd (laid sf (msF g n) t) t (ssI (g k) (twI (g k) (sdF g n k)) (onI (g k)))))), (a 15, .inl (cI, 2001, .inl (upd (laid pf (fun i => nI (mlF g n i)) t) t (nI k)))), (a 16, .inl (cI, 2001, .inl (upd (laid lf (mwF g n) t) t (nI (k + (stN (twI (g k) (sdF g n k))) - k))))), (a 17, .inl (cJ, 2001, .inr (.inl (vp_updL (laidL nf (mnbF g n) t) t 0))))] H := hP
                              have hD : va_D A [(h0, .inr (13, moF a (upd f 3 (nI n)) w)), (a 2, .inl (cB, 2000, .inl g)), (a 14, .inl (cI, 2001, .inl (upd (laid sf (msF g n) t) t (ssI (g k) (twI (g k) (sdF g n k)) (onI (g k)))))), (a 15, .inl (cI, 2001, .inl (upd (laid pf (fun i => nI (mlF g n i)) t) t (nI k)))), (a 16, .inl (cI, 2001, .inl (upd (laid lf (mwF g n) t) t (nI (k + (stN (twI (g k) (sdF g n k))) - k))))), (a 17, .inl (cJ, 2001, .inr (.inl (vp_updL (laidL nf (mnbF g n) t) t 0))))] := hD
                              have heq : mtF g n k = (k + stN (twI (g k) (sdF g n k)), ssI (g k) (twI (g k) (sdF g n k)) (onI (g k)), 0) := mtF_s c_8 c_10
                              obtain ⟨e1m, e2m, e3m, e4m⟩ := mt_next hmk heq
                              have hend : ∀ {z : Nat}, z = k + stN (twI (g k) (sdF g n k)) → mlF g n (t + 1) = skB g n (n - z) z := fun e9 => by subst e9; unfold mlF; rw [e1m]
                              rw [show upd (laid sf (msF g n) t) t (ssI (g k) (twI (g k) (sdF g n k)) (onI (g k))) = laid sf (msF g n) (t + 1) from by rw [← e2m]; exact laid_s, show upd (laid pf (fun i => nI (mlF g n i)) t) t (nI k) = laid pf (fun i => nI (mlF g n i)) (t + 1) from by rw [← hmk]; exact laid_s (t := fun i => nI (mlF g n i)), show upd (laid lf (mwF g n) t) t (nI (k + (stN (twI (g k) (sdF g n k))) - k)) = laid lf (mwF g n) (t + 1) from by rw [← e4m]; exact laid_s, show vp_updL (laidL nf (mnbF g n) t) t 0 = laidL nf (mnbF g n) (t + 1) from by rw [← e3m]; exact laidL_s] at hP hD
                              have hP : va_P (dC, dI) vwCl [(h0, .inr (13, moF a (upd f 3 (nI n)) w)), (a 2, .inl (cB, 2000, .inl g)), (a 14, .inl (cI, 2001, .inl (laid sf (msF g n) (t + 1)))), (a 15, .inl (cI, 2001, .inl (laid pf (fun i => nI (mlF g n i)) (t + 1)))), (a 16, .inl (cI, 2001, .inl (laid lf (mwF g n) (t + 1)))), (a 17, .inl (cJ, 2001, .inr (.inl (laidL nf (mnbF g n) (t + 1)))))] H := hP
                              have hD : va_D A [(h0, .inr (13, moF a (upd f 3 (nI n)) w)), (a 2, .inl (cB, 2000, .inl g)), (a 14, .inl (cI, 2001, .inl (laid sf (msF g n) (t + 1)))), (a 15, .inl (cI, 2001, .inl (laid pf (fun i => nI (mlF g n i)) (t + 1)))), (a 16, .inl (cI, 2001, .inl (laid lf (mwF g n) (t + 1)))), (a 17, .inl (cJ, 2001, .inr (.inl (laidL nf (mnbF g n) (t + 1)))))] := hD
                              refine lv_iinc (v := nI (t + 1)) (lv' := [(2, .int (nI (t + 1))), (3, .int (nI (k + (stN (twI (g k) (sdF g n k)))))), (8, .int (onI (g k))), (7, .int (twI (g k) (sdF g n k))), (6, .int (sdF g n k)), (5, .int (nI k)), (4, .int (g k)), (1, .int (nI n)), (0, .ref h0)]) hx hb dX12_tokens_524 hl (k := 6) rfl (nI_add t 1) (by decide) rfl (fun ls hl => ?_)
                              refine lv_goto (tgt := 9) hx hb dX12_tokens_527 (by decide) ?_
                              exact ih_9 (t + 1) (k + (stN (twI (g k) (sdF g n k)))) (by omega) (by omega) (hend rfl) hal2 (by omega) _ _ _ (hP.sub [0, 1, 2, 3, 4, 5] rfl) (hD.sub [0, 1, 2, 3, 4, 5] (by decide) rfl) hS (lv_sub hl [1, 0, 7, 8] rfl)
                            refine lv_iload hx hb dX12_tokens_502 (lv_at hl 1 rfl) ?_
                            refine lv_if_eq (tgt := 511) hx hb dX12_tokens_504 (by decide) (fun c_18 => ?_) (fun c_18 => ?_)
                            · skip
                              refine lv_iconst (v := 1) hx hb dX12_tokens_511 (by decide) ?_
                              exact W.eq (by unfold stN; rw [if_pos c_18]; rfl) (mg_15 _ _ hP hD hS)
                            · skip
                              refine lv_iconst (v := 2) hx hb dX12_tokens_507 (by decide) ?_
                              refine lv_goto (tgt := 512) hx hb dX12_tokens_508 (by decide) ?_
                              exact W.eq (by unfold stN; rw [if_neg c_18]; rfl) (mg_15 _ _ hP hD hS)
                          refine lv_iload hx hb dX12_tokens_479 (lv_at hl 1 rfl) ?_
                          refine lv_if_eq (tgt := 489) hx hb dX12_tokens_481 (by decide) (fun c_19 => ?_) (fun c_19 => ?_)
                          · skip
                            refine lv_iload hx hb dX12_tokens_489 (lv_at hl 0 rfl) ?_
                            refine lv_if_eq (tgt := 499) hx hb dX12_tokens_491 (by decide) (fun c_20 => ?_) (fun c_20 => ?_)
                            · skip
                              refine lv_iconst (v := 3) hx hb dX12_tokens_499 (by decide) ?_
                              exact W.eq (by unfold ssI; rw [if_pos c_19, if_pos c_20]) (mg_14 _ _ hP hD hS)
                            · skip
                              refine lv_iload hx hb dX12_tokens_494 (lv_at hl 4 rfl) ?_
                              refine lv_goto (tgt := 500) hx hb dX12_tokens_496 (by decide) ?_
                              exact W.eq (by unfold ssI; rw [if_pos c_19, if_neg c_20]) (mg_14 _ _ hP hD hS)
                          · skip
                            refine lv_iload hx hb dX12_tokens_484 (lv_at hl 1 rfl) ?_
                            refine lv_goto (tgt := 500) hx hb dX12_tokens_486 (by decide) ?_
                            exact W.eq (by unfold ssI; rw [if_neg c_19]) (mg_14 _ _ hP hD hS)
                        refine lv_iload hx hb dX12_tokens_383 (lv_at hl 3 rfl) ?_
                        refine lv_bipush (v := 40) hx hb dX12_tokens_385 (by decide) ?_
                        refine lv_icmp_eq (tgt := 467) hx hb dX12_tokens_387 (by decide) (fun c_21 => ?_) (fun c_21 => ?_)
                        · skip
                          refine lv_iconst (v := 1) hx hb dX12_tokens_467 (by decide) ?_
                          refine lv_goto (tgt := 472) hx hb dX12_tokens_468 (by decide) ?_
                          exact W.eq (by unfold onI; rw [if_pos c_21]) (mg_13 _ _ hP hD hS)
                        · skip
                          refine lv_iload hx hb dX12_tokens_390 (lv_at hl 3 rfl) ?_
                          refine lv_bipush (v := 41) hx hb dX12_tokens_392 (by decide) ?_
                          refine lv_icmp_eq (tgt := 467) hx hb dX12_tokens_394 (by decide) (fun c_22 => ?_) (fun c_22 => ?_)
                          · skip
                            refine lv_iconst (v := 1) hx hb dX12_tokens_467 (by decide) ?_
                            refine lv_goto (tgt := 472) hx hb dX12_tokens_468 (by decide) ?_
                            exact W.eq (by unfold onI; rw [if_neg c_21, if_pos c_22]) (mg_13 _ _ hP hD hS)
                          · skip
                            refine lv_iload hx hb dX12_tokens_397 (lv_at hl 3 rfl) ?_
                            refine lv_bipush (v := 44) hx hb dX12_tokens_399 (by decide) ?_
                            refine lv_icmp_eq (tgt := 467) hx hb dX12_tokens_401 (by decide) (fun c_23 => ?_) (fun c_23 => ?_)
                            · skip
                              refine lv_iconst (v := 1) hx hb dX12_tokens_467 (by decide) ?_
                              refine lv_goto (tgt := 472) hx hb dX12_tokens_468 (by decide) ?_
                              exact W.eq (by unfold onI; rw [if_neg c_21, if_neg c_22, if_pos c_23]) (mg_13 _ _ hP hD hS)
                            · skip
                              refine lv_iload hx hb dX12_tokens_404 (lv_at hl 3 rfl) ?_
                              refine lv_bipush (v := 46) hx hb dX12_tokens_406 (by decide) ?_
                              refine lv_icmp_eq (tgt := 467) hx hb dX12_tokens_408 (by decide) (fun c_24 => ?_) (fun c_24 => ?_)
                              · skip
                                refine lv_iconst (v := 1) hx hb dX12_tokens_467 (by decide) ?_
                                refine lv_goto (tgt := 472) hx hb dX12_tokens_468 (by decide) ?_
                                exact W.eq (by unfold onI; rw [if_neg c_21, if_neg c_22, if_neg c_23, if_pos c_24]) (mg_13 _ _ hP hD hS)
                              · skip
                                refine lv_iload hx hb dX12_tokens_411 (lv_at hl 3 rfl) ?_
                                refine lv_bipush (v := 43) hx hb dX12_tokens_413 (by decide) ?_
                                refine lv_icmp_eq (tgt := 467) hx hb dX12_tokens_415 (by decide) (fun c_25 => ?_) (fun c_25 => ?_)
                                · skip
                                  refine lv_iconst (v := 1) hx hb dX12_tokens_467 (by decide) ?_
                                  refine lv_goto (tgt := 472) hx hb dX12_tokens_468 (by decide) ?_
                                  exact W.eq (by unfold onI; rw [if_neg c_21, if_neg c_22, if_neg c_23, if_neg c_24, if_pos c_25]) (mg_13 _ _ hP hD hS)
                                · skip
                                  refine lv_iload hx hb dX12_tokens_418 (lv_at hl 3 rfl) ?_
                                  refine lv_bipush (v := 45) hx hb dX12_tokens_420 (by decide) ?_
                                  refine lv_icmp_eq (tgt := 467) hx hb dX12_tokens_422 (by decide) (fun c_26 => ?_) (fun c_26 => ?_)
                                  · skip
                                    refine lv_iconst (v := 1) hx hb dX12_tokens_467 (by decide) ?_
                                    refine lv_goto (tgt := 472) hx hb dX12_tokens_468 (by decide) ?_
                                    exact W.eq (by unfold onI; rw [if_neg c_21, if_neg c_22, if_neg c_23, if_neg c_24, if_neg c_25, if_pos c_26]) (mg_13 _ _ hP hD hS)
                                  · skip
                                    refine lv_iload hx hb dX12_tokens_425 (lv_at hl 3 rfl) ?_
                                    refine lv_bipush (v := 42) hx hb dX12_tokens_427 (by decide) ?_
                                    refine lv_icmp_eq (tgt := 467) hx hb dX12_tokens_429 (by decide) (fun c_27 => ?_) (fun c_27 => ?_)
                                    · skip
                                      refine lv_iconst (v := 1) hx hb dX12_tokens_467 (by decide) ?_
                                      refine lv_goto (tgt := 472) hx hb dX12_tokens_468 (by decide) ?_
                                      exact W.eq (by unfold onI; rw [if_neg c_21, if_neg c_22, if_neg c_23, if_neg c_24, if_neg c_25, if_neg c_26, if_pos c_27]) (mg_13 _ _ hP hD hS)
                                    · skip
                                      refine lv_iload hx hb dX12_tokens_432 (lv_at hl 3 rfl) ?_
                                      refine lv_bipush (v := 47) hx hb dX12_tokens_434 (by decide) ?_
                                      refine lv_icmp_eq (tgt := 467) hx hb dX12_tokens_436 (by decide) (fun c_28 => ?_) (fun c_28 => ?_)
                                      · skip
                                        refine lv_iconst (v := 1) hx hb dX12_tokens_467 (by decide) ?_
                                        refine lv_goto (tgt := 472) hx hb dX12_tokens_468 (by decide) ?_
                                        exact W.eq (by unfold onI; rw [if_neg c_21, if_neg c_22, if_neg c_23, if_neg c_24, if_neg c_25, if_neg c_26, if_neg c_27, if_pos c_28]) (mg_13 _ _ hP hD hS)
                                      · skip
                                        refine lv_iload hx hb dX12_tokens_439 (lv_at hl 3 rfl) ?_
                                        refine lv_bipush (v := 37) hx hb dX12_tokens_441 (by decide) ?_
                                        refine lv_icmp_eq (tgt := 467) hx hb dX12_tokens_443 (by decide) (fun c_29 => ?_) (fun c_29 => ?_)
                                        · skip
                                          refine lv_iconst (v := 1) hx hb dX12_tokens_467 (by decide) ?_
                                          refine lv_goto (tgt := 472) hx hb dX12_tokens_468 (by decide) ?_
                                          exact W.eq (by unfold onI; rw [if_neg c_21, if_neg c_22, if_neg c_23, if_neg c_24, if_neg c_25, if_neg c_26, if_neg c_27, if_neg c_28, if_pos c_29]) (mg_13 _ _ hP hD hS)
                                        · skip
                                          refine lv_iload hx hb dX12_tokens_446 (lv_at hl 3 rfl) ?_
                                          refine lv_bipush (v := 61) hx hb dX12_tokens_448 (by decide) ?_
                                          refine lv_icmp_eq (tgt := 467) hx hb dX12_tokens_450 (by decide) (fun c_30 => ?_) (fun c_30 => ?_)
                                          · skip
                                            refine lv_iconst (v := 1) hx hb dX12_tokens_467 (by decide) ?_
                                            refine lv_goto (tgt := 472) hx hb dX12_tokens_468 (by decide) ?_
                                            exact W.eq (by unfold onI; rw [if_neg c_21, if_neg c_22, if_neg c_23, if_neg c_24, if_neg c_25, if_neg c_26, if_neg c_27, if_neg c_28, if_neg c_29, if_pos c_30]) (mg_13 _ _ hP hD hS)
                                          · skip
                                            refine lv_iload hx hb dX12_tokens_453 (lv_at hl 3 rfl) ?_
                                            refine lv_bipush (v := 60) hx hb dX12_tokens_455 (by decide) ?_
                                            refine lv_icmp_eq (tgt := 467) hx hb dX12_tokens_457 (by decide) (fun c_31 => ?_) (fun c_31 => ?_)
                                            · skip
                                              refine lv_iconst (v := 1) hx hb dX12_tokens_467 (by decide) ?_
                                              refine lv_goto (tgt := 472) hx hb dX12_tokens_468 (by decide) ?_
                                              exact W.eq (by unfold onI; rw [if_neg c_21, if_neg c_22, if_neg c_23, if_neg c_24, if_neg c_25, if_neg c_26, if_neg c_27, if_neg c_28, if_neg c_29, if_neg c_30, if_pos c_31]) (mg_13 _ _ hP hD hS)
                                            · skip
                                              refine lv_iload hx hb dX12_tokens_460 (lv_at hl 3 rfl) ?_
                                              refine lv_bipush (v := 62) hx hb dX12_tokens_462 (by decide) ?_
                                              refine lv_icmp_ne (tgt := 471) hx hb dX12_tokens_464 (by decide) (fun c_32 => ?_) (fun c_32 => ?_)
                                              · skip
                                                refine lv_iconst (v := 0) hx hb dX12_tokens_471 (by decide) ?_
                                                exact W.eq (by unfold onI; rw [if_neg c_21, if_neg c_22, if_neg c_23, if_neg c_24, if_neg c_25, if_neg c_26, if_neg c_27, if_neg c_28, if_neg c_29, if_neg c_30, if_neg c_31, if_neg c_32]) (mg_13 _ _ hP hD hS)
                                              · skip
                                                refine lv_iconst (v := 1) hx hb dX12_tokens_467 (by decide) ?_
                                                refine lv_goto (tgt := 472) hx hb dX12_tokens_468 (by decide) ?_
                                                exact W.eq (by unfold onI; rw [if_neg c_21, if_neg c_22, if_neg c_23, if_neg c_24, if_neg c_25, if_neg c_26, if_neg c_27, if_neg c_28, if_neg c_29, if_neg c_30, if_neg c_31, if_pos c_32]) (mg_13 _ _ hP hD hS)
                      refine lv_iload hx hb dX12_tokens_320 (lv_at hl 2 rfl) ?_
                      refine lv_bipush (v := 60) hx hb dX12_tokens_322 (by decide) ?_
                      refine lv_icmp_ne (tgt := 340) hx hb dX12_tokens_324 (by decide) (fun c_33 => ?_) (fun c_33 => ?_)
                      · skip
                        refine lv_iload hx hb dX12_tokens_340 (lv_at hl 2 rfl) ?_
                        refine lv_bipush (v := 60) hx hb dX12_tokens_342 (by decide) ?_
                        refine lv_icmp_ne (tgt := 360) hx hb dX12_tokens_344 (by decide) (fun c_34 => ?_) (fun c_34 => ?_)
                        · skip
                          refine lv_iload hx hb dX12_tokens_360 (lv_at hl 2 rfl) ?_
                          refine lv_bipush (v := 62) hx hb dX12_tokens_362 (by decide) ?_
                          refine lv_icmp_ne (tgt := 380) hx hb dX12_tokens_364 (by decide) (fun c_35 => ?_) (fun c_35 => ?_)
                          · skip
                            refine lv_iconst (v := 0) hx hb dX12_tokens_380 (by decide) ?_
                            exact W.eq (by unfold twI; rw [if_neg c_33, if_neg c_35]) (mg_12 _ _ hP hD hS)
                          · skip
                            refine lv_iload hx hb dX12_tokens_367 (lv_at hl 0 rfl) ?_
                            refine lv_bipush (v := 61) hx hb dX12_tokens_369 (by decide) ?_
                            refine lv_icmp_ne (tgt := 380) hx hb dX12_tokens_371 (by decide) (fun c_36 => ?_) (fun c_36 => ?_)
                            · skip
                              refine lv_iconst (v := 0) hx hb dX12_tokens_380 (by decide) ?_
                              exact W.eq (by unfold twI; rw [if_neg c_33, if_pos c_35, if_neg c_36]) (mg_12 _ _ hP hD hS)
                            · skip
                              refine lv_sipush (v := 402) hx hb dX12_tokens_374 (by decide) ?_
                              refine lv_goto (tgt := 381) hx hb dX12_tokens_377 (by decide) ?_
                              exact W.eq (by unfold twI; rw [if_neg c_33, if_pos c_35, if_pos c_36]) (mg_12 _ _ hP hD hS)
                        · skip
                          exact absurd c_34 c_33
                      · skip
                        refine lv_iload hx hb dX12_tokens_327 (lv_at hl 0 rfl) ?_
                        refine lv_bipush (v := 62) hx hb dX12_tokens_329 (by decide) ?_
                        refine lv_icmp_ne (tgt := 340) hx hb dX12_tokens_331 (by decide) (fun c_37 => ?_) (fun c_37 => ?_)
                        · skip
                          refine lv_iload hx hb dX12_tokens_340 (lv_at hl 2 rfl) ?_
                          refine lv_bipush (v := 60) hx hb dX12_tokens_342 (by decide) ?_
                          refine lv_icmp_ne (tgt := 360) hx hb dX12_tokens_344 (by decide) (fun c_38 => ?_) (fun c_38 => ?_)
                          · skip
                            exact absurd c_33 c_38
                          · skip
                            refine lv_iload hx hb dX12_tokens_347 (lv_at hl 0 rfl) ?_
                            refine lv_bipush (v := 61) hx hb dX12_tokens_349 (by decide) ?_
                            refine lv_icmp_ne (tgt := 360) hx hb dX12_tokens_351 (by decide) (fun c_39 => ?_) (fun c_39 => ?_)
                            · skip
                              refine lv_iload hx hb dX12_tokens_360 (lv_at hl 2 rfl) ?_
                              refine lv_bipush (v := 62) hx hb dX12_tokens_362 (by decide) ?_
                              refine lv_icmp_ne (tgt := 380) hx hb dX12_tokens_364 (by decide) (fun c_40 => ?_) (fun c_40 => ?_)
                              · skip
                                refine lv_iconst (v := 0) hx hb dX12_tokens_380 (by decide) ?_
                                exact W.eq (by unfold twI; rw [if_pos c_33, if_neg c_37, if_neg c_39]) (mg_12 _ _ hP hD hS)
                              · skip
                                exact absurd (c_33.symm.trans c_40) (by decide)
                            · skip
                              refine lv_sipush (v := 401) hx hb dX12_tokens_354 (by decide) ?_
                              refine lv_goto (tgt := 381) hx hb dX12_tokens_357 (by decide) ?_
                              exact W.eq (by unfold twI; rw [if_pos c_33, if_neg c_37, if_pos c_39]) (mg_12 _ _ hP hD hS)
                        · skip
                          refine lv_sipush (v := 400) hx hb dX12_tokens_334 (by decide) ?_
                          refine lv_goto (tgt := 381) hx hb dX12_tokens_337 (by decide) ?_
                          exact W.eq (by unfold twI; rw [if_pos c_33, if_pos c_37]) (mg_12 _ _ hP hD hS)
                    refine lv_iload_n hx hb dX12_tokens_299 rfl (lv_at hl 2 rfl) ?_
                    refine lv_iconst (v := 1) hx hb dX12_tokens_300 (by decide) ?_
                    refine lv_iadd hx hb dX12_tokens_301 ?_
                    refine lv_topi (fun x_41 ex_41 => ?_)
                    have ex_41 : x_41 = nI (k + 1) := ex_41.trans (nI_add k 1)
                    subst ex_41
                    refine lv_iload_n hx hb dX12_tokens_302 rfl (lv_at hl 4 rfl) ?_
                    refine lv_icmp_ge (tgt := 317) hx hb dX12_tokens_303 (by decide) (fun c_42 => ?_) (fun c_42 => ?_)
                    · skip
                      have c_42 : n ≤ k + 1 := (nI_leI (a := n) (b := k + 1) (by omega) (by omega)).mp c_42
                      refine lv_iconst (v := 0) hx hb dX12_tokens_317 (by decide) ?_
                      exact W.eq (by unfold sdF; rw [if_pos c_42]) (mg_11 _ _ hP hD hS)
                    · skip
                      have c_42 : ¬ (n ≤ k + 1) := fun h => c_42 ((nI_leI (a := n) (b := k + 1) (by omega) (by omega)).mpr h)
                      refine lv_aload_n hx hb dX12_tokens_306 rfl (lv_at hl 5 rfl) ?_
                      refine va_get (D := (dC, dI)) (ci := 13) (v := .ref (a 2)) (C := RX12) (T := TX12) (N := 115) hx hb hts (fun w h => List.mem_cons_of_mem _ (uG_X12 w h)) hown hK hP 0 rfl rfl 2 (by decide) (hts _ (List.mem_cons_of_mem _ kw_1693)) (fun _ h9 => h9) rfl dX12_tokens_307 ?_
                      refine lv_iload_n hx hb dX12_tokens_310 rfl (lv_at hl 2 rfl) ?_
                      refine lv_iconst (v := 1) hx hb dX12_tokens_311 (by decide) ?_
                      refine lv_iadd hx hb dX12_tokens_312 ?_
                      refine lv_topi (fun x_43 ex_43 => ?_)
                      have ex_43 : x_43 = nI (k + 1) := ex_43.trans (nI_add k 1)
                      subst ex_43
                      refine va_bald hx hb hK hP 1 0 rfl rfl (i := (nI (k + 1))) (vp_in_nI (n := k + 1) (N := 2000) (by omega) (by omega)) dX12_tokens_313 ?_
                      refine lv_topi (fun x_44 ex_44 => ?_)
                      have ex_44 : x_44 = g (k + 1) := ex_44.trans (congrArg g (nI_clamp (n := k + 1) (by omega)))
                      subst ex_44
                      refine lv_goto (tgt := 318) hx hb dX12_tokens_314 (by decide) ?_
                      exact W.eq (by unfold sdF; rw [if_neg c_42]) (mg_11 _ _ hP hD hS)
                  · skip
                    refine lv_iconst (v := 1) hx hb dX12_tokens_147 (by decide) ?_
                    refine lv_istore (lv' := [(6, .int 1), (5, .int (nI k)), (4, .int (g k)), (3, .int (nI k)), (2, .int (nI t)), (1, .int (nI n)), (0, .ref h0)]) hx hb dX12_tokens_148 hl (by decide) rfl (fun ls hl => ?_)
                    have lp_150 : ∀ (n_ : Nat) (k2 : Nat) (v2 : Int64) (q2 : Int32), k ≤ k2 → k2 ≤ n → mnF g n (n - k) k 0 1 = mnF g n (n - k2) k2 v2 q2 → n - k2 < n_ → ∀ (H : Heap) (locs : List Loc) (ls : Array Slot), va_P (dC, dI) vwCl [(h0, .inr (13, moF a (upd f 3 (nI n)) w)), (a 2, .inl (cB, 2000, .inl g)), (a 14, .inl (cI, 2001, .inl (laid sf (msF g n) t))), (a 15, .inl (cI, 2001, .inl (upd (laid pf (fun i => nI (mlF g n i)) t) t (nI k)))), (a 16, .inl (cI, 2001, .inl (laid lf (mwF g n) t))), (a 17, .inl (cJ, 2001, .inr (.inl (vp_updL (laidL nf (mnbF g n) t) t v2))))] H → va_D A [(h0, .inr (13, moF a (upd f 3 (nI n)) w)), (a 2, .inl (cB, 2000, .inl g)), (a 14, .inl (cI, 2001, .inl (laid sf (msF g n) t))), (a 15, .inl (cI, 2001, .inl (upd (laid pf (fun i => nI (mlF g n i)) t) t (nI k)))), (a 16, .inl (cI, 2001, .inl (laid lf (mwF g n) t))), (a 17, .inl (cJ, 2001, .inr (.inl (vp_updL (laidL nf (mnbF g n) t) t v2))))] → va_S A s.heap H locs → lv_has ls 9 [(6, .int q2), (3, .int (nI k2)), (5, .int (nI k)), (4, .int (g k)), (2, .int (nI t)), (1, .int (nI n)), (0, .ref h0)] → W p l e (headSpec (wsOf yX12_tokens cX12_tokens 9 none) ({ frames := 1, cells := 0, slots := 0, locals := 60 })).room s m ([.ref h0] : List Value).toArray below meth c H locs 0 0 (MQ below (qc_t_X12_tokens dC dI cB cI cJ cZ h0 a f w n g sf pf lf nf A) ([.ref h0] : List Value).toArray s 0 0 A) (F0 m 150 ls []) := by
                      intro n_
                      induction n_ with
                      | zero => intro k2 v2 q2 hk1 hk2 hw2 hm; exact absurd hm (Nat.not_lt_zero _)
                      | succ n_ ih_150 =>
                        intro k2 v2 q2 hk1 hk2 hw2 hm H locs ls hP hD hS hl
                        refine lv_iload_n hx hb dX12_tokens_150 rfl (lv_at hl 1 rfl) ?_
                        refine lv_iload_n hx hb dX12_tokens_151 rfl (lv_at hl 5 rfl) ?_
                        refine lv_icmp_ge (tgt := 263) hx hb dX12_tokens_152 (by decide) (fun c_45 => ?_) (fun c_45 => ?_)
                        · skip
                          have c_45 : n ≤ k2 := (nI_leI (a := n) (b := k2) (by omega) (by omega)).mp c_45
                          have hwe : mnF g n (n - k) k 0 1 = (k2, v2, q2) := hw2.trans (mnF_e c_45)
                          refine lv_aload_n hx hb dX12_tokens_263 rfl (lv_at hl 6 rfl) ?_
                          refine va_get (D := (dC, dI)) (ci := 13) (v := .ref (a 14)) (C := RX12) (T := TX12) (N := 115) hx hb hts (fun w h => List.mem_cons_of_mem _ (uG_X12 w h)) hown hK hP 0 rfl rfl 14 (by decide) (hts _ (List.mem_cons_of_mem _ kw_1705)) (fun _ h9 => h9) rfl dX12_tokens_264 ?_
                          refine lv_iload_n hx hb dX12_tokens_267 rfl (lv_at hl 4 rfl) ?_
                          have mg_46 : ∀ (H : Heap) (locs : List Loc), va_P (dC, dI) vwCl [(h0, .inr (13, moF a (upd f 3 (nI n)) w)), (a 2, .inl (cB, 2000, .inl g)), (a 14, .inl (cI, 2001, .inl (laid sf (msF g n) t))), (a 15, .inl (cI, 2001, .inl (upd (laid pf (fun i => nI (mlF g n i)) t) t (nI k)))), (a 16, .inl (cI, 2001, .inl (laid lf (mwF g n) t))), (a 17, .inl (cJ, 2001, .inr (.inl (vp_updL (laidL nf (mnbF g n) t) t v2))))] H → va_D A [(h0, .inr (13, moF a (upd f 3 (nI n)) w)), (a 2, .inl (cB, 2000, .inl g)), (a 14, .inl (cI, 2001, .inl (laid sf (msF g n) t))), (a 15, .inl (cI, 2001, .inl (upd (laid pf (fun i => nI (mlF g n i)) t) t (nI k)))), (a 16, .inl (cI, 2001, .inl (laid lf (mwF g n) t))), (a 17, .inl (cJ, 2001, .inr (.inl (vp_updL (laidL nf (mnbF g n) t) t v2))))] → va_S A s.heap H locs → W p l e (headSpec (wsOf yX12_tokens cX12_tokens 9 none) ({ frames := 1, cells := 0, slots := 0, locals := 60 })).room s m ([.ref h0] : List Value).toArray below meth c H locs 0 0 (MQ below (qc_t_X12_tokens dC dI cB cI cJ cZ h0 a f w n g sf pf lf nf A) ([.ref h0] : List Value).toArray s 0 0 A) (F0 m 295 ls [.int (nsI g n k2 q2), .int (nI t), .ref (a 14)]) := by
                            intro H locs hP hD hS
                            refine va_iast hx hb hK hP hD hS 2 1 rfl rfl (i := (nI t)) (x := (nsI g n k2 q2)) (vp_in_nI (n := t) (N := 2001) (by omega) (by omega)) dX12_tokens_295 (fun H locs hP hD hS => ?_)
                            rw [show (nI t).toNatClampNeg = t from nI_clamp (n := t) (by omega)] at hP hD
                            have hP : va_P (dC, dI) vwCl [(h0, .inr (13, moF a (upd f 3 (nI n)) w)), (a 2, .inl (cB, 2000, .inl g)), (a 14, .inl (cI, 2001, .inl (upd (laid sf (msF g n) t) t (nsI g n k2 q2)))), (a 15, .inl (cI, 2001, .inl (upd (laid pf (fun i => nI (mlF g n i)) t) t (nI k)))), (a 16, .inl (cI, 2001, .inl (laid lf (mwF g n) t))), (a 17, .inl (cJ, 2001, .inr (.inl (vp_updL (laidL nf (mnbF g n) t) t v2))))] H := hP
                            have hD : va_D A [(h0, .inr (13, moF a (upd f 3 (nI n)) w)), (a 2, .inl (cB, 2000, .inl g)), (a 14, .inl (cI, 2001, .inl (upd (laid sf (msF g n) t) t (nsI g n k2 q2)))), (a 15, .inl (cI, 2001, .inl (upd (laid pf (fun i => nI (mlF g n i)) t) t (nI k)))), (a 16, .inl (cI, 2001, .inl (laid lf (mwF g n) t))), (a 17, .inl (cJ, 2001, .inr (.inl (vp_updL (laidL nf (mnbF g n) t) t v2))))] := hD
                            refine lv_goto (tgt := 514) hx hb dX12_tokens_296 (by decide) ?_
                            refine lv_aload_n hx hb dX12_tokens_514 rfl (lv_at hl 6 rfl) ?_
                            refine va_get (D := (dC, dI)) (ci := 13) (v := .ref (a 16)) (C := RX12) (T := TX12) (N := 115) hx hb hts (fun w h => List.mem_cons_of_mem _ (uG_X12 w h)) hown hK hP 0 rfl rfl 16 (by decide) (hts _ (List.mem_cons_of_mem _ kw_1707)) (fun _ h9 => h9) rfl dX12_tokens_515 ?_
                            refine lv_iload_n hx hb dX12_tokens_518 rfl (lv_at hl 4 rfl) ?_
                            refine lv_iload_n hx hb dX12_tokens_519 rfl (lv_at hl 1 rfl) ?_
                            refine lv_iload hx hb dX12_tokens_520 (lv_at hl 2 rfl) ?_
                            refine lv_isub hx hb dX12_tokens_522 ?_
                            refine lv_topi (fun x_47 ex_47 => ?_)
                            have ex_47 : x_47 = nI (k2 - k) := ex_47.trans (pk_sub (a := k2) (b := k) (by omega))
                            subst ex_47
                            refine va_iast hx hb hK hP hD hS 4 1 rfl rfl (i := (nI t)) (x := (nI (k2 - k))) (vp_in_nI (n := t) (N := 2001) (by omega) (by omega)) dX12_tokens_523 (fun H locs hP hD hS => ?_)
                            rw [show (nI t).toNatClampNeg = t from nI_clamp (n := t) (by omega)] at hP hD
                            have hP : va_P (dC, dI) vwCl [(h0, .inr (13, moF a (upd f 3 (nI n)) w)), (a 2, .inl (cB, 2000, .inl g)), (a 14, .inl (cI, 2001, .inl (upd (laid sf (msF g n) t) t (nsI g n k2 q2)))), (a 15, .inl (cI, 2001, .inl (upd (laid pf (fun i => nI (mlF g n i)) t) t (nI k)))), (a 16, .inl (cI, 2001, .inl (upd (laid lf (mwF g n) t) t (nI (k2 - k))))), (a 17, .inl (cJ, 2001, .inr (.inl (vp_updL (laidL nf (mnbF g n) t) t v2))))] H := hP
                            have hD : va_D A [(h0, .inr (13, moF a (upd f 3 (nI n)) w)), (a 2, .inl (cB, 2000, .inl g)), (a 14, .inl (cI, 2001, .inl (upd (laid sf (msF g n) t) t (nsI g n k2 q2)))), (a 15, .inl (cI, 2001, .inl (upd (laid pf (fun i => nI (mlF g n i)) t) t (nI k)))), (a 16, .inl (cI, 2001, .inl (upd (laid lf (mwF g n) t) t (nI (k2 - k))))), (a 17, .inl (cJ, 2001, .inr (.inl (vp_updL (laidL nf (mnbF g n) t) t v2))))] := hD
                            have hge : k < k2 := mnF_gt hkn c_10 hwe
                            have heq : mtF g n k = (k2, nsI g n k2 q2, v2) := mtF_d c_8 c_10 hwe
                            obtain ⟨e1m, e2m, e3m, e4m⟩ := mt_next hmk heq
                            have hend : ∀ {z : Nat}, z = k2 → mlF g n (t + 1) = skB g n (n - z) z := fun e9 => by subst e9; unfold mlF; rw [e1m]
                            rw [show upd (laid sf (msF g n) t) t (nsI g n k2 q2) = laid sf (msF g n) (t + 1) from by rw [← e2m]; exact laid_s, show upd (laid pf (fun i => nI (mlF g n i)) t) t (nI k) = laid pf (fun i => nI (mlF g n i)) (t + 1) from by rw [← hmk]; exact laid_s (t := fun i => nI (mlF g n i)), show upd (laid lf (mwF g n) t) t (nI (k2 - k)) = laid lf (mwF g n) (t + 1) from by rw [← e4m]; exact laid_s, show vp_updL (laidL nf (mnbF g n) t) t v2 = laidL nf (mnbF g n) (t + 1) from by rw [← e3m]; exact laidL_s] at hP hD
                            have hP : va_P (dC, dI) vwCl [(h0, .inr (13, moF a (upd f 3 (nI n)) w)), (a 2, .inl (cB, 2000, .inl g)), (a 14, .inl (cI, 2001, .inl (laid sf (msF g n) (t + 1)))), (a 15, .inl (cI, 2001, .inl (laid pf (fun i => nI (mlF g n i)) (t + 1)))), (a 16, .inl (cI, 2001, .inl (laid lf (mwF g n) (t + 1)))), (a 17, .inl (cJ, 2001, .inr (.inl (laidL nf (mnbF g n) (t + 1)))))] H := hP
                            have hD : va_D A [(h0, .inr (13, moF a (upd f 3 (nI n)) w)), (a 2, .inl (cB, 2000, .inl g)), (a 14, .inl (cI, 2001, .inl (laid sf (msF g n) (t + 1)))), (a 15, .inl (cI, 2001, .inl (laid pf (fun i => nI (mlF g n i)) (t + 1)))), (a 16, .inl (cI, 2001, .inl (laid lf (mwF g n) (t + 1)))), (a 17, .inl (cJ, 2001, .inr (.inl (laidL nf (mnbF g n) (t + 1)))))] := hD
                            refine lv_iinc (v := nI (t + 1)) (lv' := [(2, .int (nI (t + 1))), (6, .int q2), (3, .int (nI k2)), (5, .int (nI k)), (4, .int (g k)), (1, .int (nI n)), (0, .ref h0)]) hx hb dX12_tokens_524 hl (k := 4) rfl (nI_add t 1) (by decide) rfl (fun ls hl => ?_)
                            refine lv_goto (tgt := 9) hx hb dX12_tokens_527 (by decide) ?_
                            exact ih_9 (t + 1) (k2) (by omega) (by omega) (hend rfl) hal2 (by omega) _ _ _ (hP.sub [0, 1, 2, 3, 4, 5] rfl) (hD.sub [0, 1, 2, 3, 4, 5] (by decide) rfl) hS (lv_sub hl [2, 0, 5, 6] rfl)
                          refine lv_iload hx hb dX12_tokens_268 (lv_at hl 0 rfl) ?_
                          refine lv_if_eq (tgt := 290) hx hb dX12_tokens_270 (by decide) (fun c_48 => ?_) (fun c_48 => ?_)
                          · skip
                            refine lv_iconst (v := 3) hx hb dX12_tokens_290 (by decide) ?_
                            refine lv_goto (tgt := 295) hx hb dX12_tokens_291 (by decide) ?_
                            exact W.eq (by unfold nsI; rw [if_pos c_48]) (mg_46 _ _ hP hD hS)
                          · skip
                            refine lv_iload_n hx hb dX12_tokens_273 rfl (lv_at hl 1 rfl) ?_
                            refine lv_iload_n hx hb dX12_tokens_274 rfl (lv_at hl 5 rfl) ?_
                            refine lv_icmp_ge (tgt := 294) hx hb dX12_tokens_275 (by decide) (fun c_49 => ?_) (fun c_49 => ?_)
                            · skip
                              have c_49 : n ≤ k2 := (nI_leI (a := n) (b := k2) (by omega) (by omega)).mp c_49
                              refine lv_iconst (v := 2) hx hb dX12_tokens_294 (by decide) ?_
                              exact W.eq (by unfold nsI; rw [if_neg c_48, if_pos c_49]) (mg_46 _ _ hP hD hS)
                            · skip
                              have c_49 : ¬ (n ≤ k2) := fun h => c_49 ((nI_leI (a := n) (b := k2) (by omega) (by omega)).mpr h)
                              refine lv_aload_n hx hb dX12_tokens_278 rfl (lv_at hl 6 rfl) ?_
                              refine va_get (D := (dC, dI)) (ci := 13) (v := .ref (a 2)) (C := RX12) (T := TX12) (N := 115) hx hb hts (fun w h => List.mem_cons_of_mem _ (uG_X12 w h)) hown hK hP 0 rfl rfl 2 (by decide) (hts _ (List.mem_cons_of_mem _ kw_1693)) (fun _ h9 => h9) rfl dX12_tokens_279 ?_
                              refine lv_iload_n hx hb dX12_tokens_282 rfl (lv_at hl 1 rfl) ?_
                              refine va_bald hx hb hK hP 1 0 rfl rfl (i := (nI k2)) (vp_in_nI (n := k2) (N := 2000) (by omega) (by omega)) dX12_tokens_283 ?_
                              refine lv_topi (fun x_50 ex_50 => ?_)
                              have ex_50 : x_50 = g k2 := ex_50.trans (congrArg g (nI_clamp (n := k2) (by omega)))
                              subst ex_50
                              have hPc := hP.sub (ws' := []) [] rfl
                              have hDc := hD.sub (ws' := []) [] (by decide) rfl
                              have hKc := hK.sub (tys' := [(cB, .byte), (cI, .int), (cJ, .long), (cZ, .boolean)]) [0, 1, 2, 3] rfl
                              have hFc := va_free (wc := []) hD hS hA [] rfl
                              refine va_calli (va_runS (As := [.int (g k2)]) (rest := [.int (nI t), .ref (a 14)]) ⟨hx, hb, hml, hown, hts⟩ (t_X12_isLetter l dC dI H.size cB cI cJ cZ (g k2)) ⟨callB_of 1 hts (gd_all (in_I kc_X12_isLetter)) rfl rfl rfl (hts _ (List.mem_cons_of_mem _ kw_191)) (hts _ (List.mem_cons_of_mem _ kw_2229)) (by decide +kernel) ⟨Nat.le_of_ble_eq_true rfl, Nat.le_of_ble_eq_true rfl⟩, hts _ (List.mem_cons_of_mem _ kw_2230)⟩ ⟨fun a U g mk q => by obtain ⟨q0, q1, qP, qK, qD⟩ := q; exact ⟨q0, q1, qP, va_K.moved (u := U) (U := U.calling g mk a) (Vm.Alike.refl U.vm) qK, qD⟩, fun U hU hW => ⟨rfl, by rw [hU], by rw [hU]; exact hPc, va_K.moved hW.alike hKc, hDc.weaken (fun _ _ _ _ => trivial)⟩⟩ rfl rfl hl.1 rfl (lv_room (Nat.le_of_ble_eq_true rfl)) dX12_tokens_284 ⟨Nat.le_of_ble_eq_true rfl, Nat.le_of_ble_eq_true rfl⟩) hS (fun q _ h => hFc q h) hFc (fun r_51 u t_ H1 locs ht hvm hw hB hz1 hk1 hS => ?_)
                              obtain ⟨hP1, hK1, hD1⟩ := hB
                              rw [ht] at hP1
                              have hK1 := va_K.moved hvm.symm hK1
                              obtain ⟨hP, hD⟩ := va_join (wr := [(h0, .inr (13, moF a (upd f 3 (nI n)) w)), (a 2, .inl (cB, 2000, .inl g)), (a 14, .inl (cI, 2001, .inl (laid sf (msF g n) t))), (a 15, .inl (cI, 2001, .inl (upd (laid pf (fun i => nI (mlF g n i)) t) t (nI k)))), (a 16, .inl (cI, 2001, .inl (laid lf (mwF g n) t))), (a 17, .inl (cJ, 2001, .inr (.inl (vp_updL (laidL nf (mnbF g n) t) t v2))))]) (w1 := []) hP hD [] [0, 1, 2, 3, 4, 5] rfl rfl (by decide) (by decide) hk1 hFc hP1 hD1
                              have hK := (hK.sub (tys' := []) [] rfl).app hK1
                              generalize H1 = H at hP hS ⊢
                              have hP : va_P (dC, dI) vwCl [(h0, .inr (13, moF a (upd f 3 (nI n)) w)), (a 2, .inl (cB, 2000, .inl g)), (a 14, .inl (cI, 2001, .inl (laid sf (msF g n) t))), (a 15, .inl (cI, 2001, .inl (upd (laid pf (fun i => nI (mlF g n i)) t) t (nI k)))), (a 16, .inl (cI, 2001, .inl (laid lf (mwF g n) t))), (a 17, .inl (cJ, 2001, .inr (.inl (vp_updL (laidL nf (mnbF g n) t) t v2))))] H := hP
                              have hD : va_D A [(h0, .inr (13, moF a (upd f 3 (nI n)) w)), (a 2, .inl (cB, 2000, .inl g)), (a 14, .inl (cI, 2001, .inl (laid sf (msF g n) t))), (a 15, .inl (cI, 2001, .inl (upd (laid pf (fun i => nI (mlF g n i)) t) t (nI k)))), (a 16, .inl (cI, 2001, .inl (laid lf (mwF g n) t))), (a 17, .inl (cJ, 2001, .inr (.inl (vp_updL (laidL nf (mnbF g n) t) t v2))))] := hD
                              have hK : va_K (dC, dI) vwCl [(cB, .byte), (cI, .int), (cJ, .long), (cZ, .boolean)] s := hK
                              have er_51 : r_51 = ltI (g k2) := hw
                              rw [er_51]
                              refine lv_if_eq (tgt := 294) hx hb dX12_tokens_287 (by decide) (fun c_52 => ?_) (fun c_52 => ?_)
                              · skip
                                refine lv_iconst (v := 2) hx hb dX12_tokens_294 (by decide) ?_
                                exact W.eq (by unfold nsI; rw [if_neg c_48, if_neg c_49, if_pos c_52]) (mg_46 _ _ hP hD hS)
                              · skip
                                refine lv_iconst (v := 3) hx hb dX12_tokens_290 (by decide) ?_
                                refine lv_goto (tgt := 295) hx hb dX12_tokens_291 (by decide) ?_
                                exact W.eq (by unfold nsI; rw [if_neg c_48, if_neg c_49, if_neg c_52]) (mg_46 _ _ hP hD hS)
                        · skip
                          have c_45 : ¬ (n ≤ k2) := fun h => c_45 ((nI_leI (a := n) (b := k2) (by omega) (by omega)).mpr h)
                          refine lv_aload_n hx hb dX12_tokens_155 rfl (lv_at hl 6 rfl) ?_
                          refine va_get (D := (dC, dI)) (ci := 13) (v := .ref (a 2)) (C := RX12) (T := TX12) (N := 115) hx hb hts (fun w h => List.mem_cons_of_mem _ (uG_X12 w h)) hown hK hP 0 rfl rfl 2 (by decide) (hts _ (List.mem_cons_of_mem _ kw_1693)) (fun _ h9 => h9) rfl dX12_tokens_156 ?_
                          refine lv_iload_n hx hb dX12_tokens_159 rfl (lv_at hl 1 rfl) ?_
                          refine va_bald hx hb hK hP 1 0 rfl rfl (i := (nI k2)) (vp_in_nI (n := k2) (N := 2000) (by omega) (by omega)) dX12_tokens_160 ?_
                          refine lv_topi (fun x_53 ex_53 => ?_)
                          have ex_53 : x_53 = g k2 := ex_53.trans (congrArg g (nI_clamp (n := k2) (by omega)))
                          subst ex_53
                          have hPc := hP.sub (ws' := []) [] rfl
                          have hDc := hD.sub (ws' := []) [] (by decide) rfl
                          have hKc := hK.sub (tys' := [(cB, .byte), (cI, .int), (cJ, .long), (cZ, .boolean)]) [0, 1, 2, 3] rfl
                          have hFc := va_free (wc := []) hD hS hA [] rfl
                          refine va_calli (va_runS (As := [.int (g k2)]) (rest := []) ⟨hx, hb, hml, hown, hts⟩ (t_X12_isDigit l dC dI H.size cB cI cJ cZ (g k2)) ⟨callB_of 1 hts (gd_all (in_I kc_X12_isDigit)) rfl rfl rfl (hts _ (List.mem_cons_of_mem _ kw_191)) (hts _ (List.mem_cons_of_mem _ kw_2232)) (by decide +kernel) ⟨Nat.le_of_ble_eq_true rfl, Nat.le_of_ble_eq_true rfl⟩, hts _ (List.mem_cons_of_mem _ kw_2233)⟩ ⟨fun a U g mk q => by obtain ⟨q0, q1, qP, qK, qD⟩ := q; exact ⟨q0, q1, qP, va_K.moved (u := U) (U := U.calling g mk a) (Vm.Alike.refl U.vm) qK, qD⟩, fun U hU hW => ⟨rfl, by rw [hU], by rw [hU]; exact hPc, va_K.moved hW.alike hKc, hDc.weaken (fun _ _ _ _ => trivial)⟩⟩ rfl rfl hl.1 rfl (lv_room (Nat.le_of_ble_eq_true rfl)) dX12_tokens_161 ⟨Nat.le_of_ble_eq_true rfl, Nat.le_of_ble_eq_true rfl⟩) hS (fun q _ h => hFc q h) hFc (fun r_54 u t_ H1 locs ht hvm hw hB hz1 hk1 hS => ?_)
                          obtain ⟨hP1, hK1, hD1⟩ := hB
                          rw [ht] at hP1
                          have hK1 := va_K.moved hvm.symm hK1
                          obtain ⟨hP, hD⟩ := va_join (wr := [(h0, .inr (13, moF a (upd f 3 (nI n)) w)), (a 2, .inl (cB, 2000, .inl g)), (a 14, .inl (cI, 2001, .inl (laid sf (msF g n) t))), (a 15, .inl (cI, 2001, .inl (upd (laid pf (fun i => nI (mlF g n i)) t) t (nI k)))), (a 16, .inl (cI, 2001, .inl (laid lf (mwF g n) t))), (a 17, .inl (cJ, 2001, .inr (.inl (vp_updL (laidL nf (mnbF g n) t) t v2))))]) (w1 := []) hP hD [] [0, 1, 2, 3, 4, 5] rfl rfl (by decide) (by decide) hk1 hFc hP1 hD1
                          have hK := (hK.sub (tys' := []) [] rfl).app hK1
                          generalize H1 = H at hP hS ⊢
                          have hP : va_P (dC, dI) vwCl [(h0, .inr (13, moF a (upd f 3 (nI n)) w)), (a 2, .inl (cB, 2000, .inl g)), (a 14, .inl (cI, 2001, .inl (laid sf (msF g n) t))), (a 15, .inl (cI, 2001, .inl (upd (laid pf (fun i => nI (mlF g n i)) t) t (nI k)))), (a 16, .inl (cI, 2001, .inl (laid lf (mwF g n) t))), (a 17, .inl (cJ, 2001, .inr (.inl (vp_updL (laidL nf (mnbF g n) t) t v2))))] H := hP
                          have hD : va_D A [(h0, .inr (13, moF a (upd f 3 (nI n)) w)), (a 2, .inl (cB, 2000, .inl g)), (a 14, .inl (cI, 2001, .inl (laid sf (msF g n) t))), (a 15, .inl (cI, 2001, .inl (upd (laid pf (fun i => nI (mlF g n i)) t) t (nI k)))), (a 16, .inl (cI, 2001, .inl (laid lf (mwF g n) t))), (a 17, .inl (cJ, 2001, .inr (.inl (vp_updL (laidL nf (mnbF g n) t) t v2))))] := hD
                          have hK : va_K (dC, dI) vwCl [(cB, .byte), (cI, .int), (cJ, .long), (cZ, .boolean)] s := hK
                          have er_54 : r_54 = dgI (g k2) := hw
                          rw [er_54]
                          refine lv_if_eq (tgt := 263) hx hb dX12_tokens_164 (by decide) (fun c_55 => ?_) (fun c_55 => ?_)
                          · skip
                            have hwe : mnF g n (n - k) k 0 1 = (k2, v2, q2) := hw2.trans (mnF_z c_45 c_55)
                            refine lv_aload_n hx hb dX12_tokens_263 rfl (lv_at hl 6 rfl) ?_
                            refine va_get (D := (dC, dI)) (ci := 13) (v := .ref (a 14)) (C := RX12) (T := TX12) (N := 115) hx hb hts (fun w h => List.mem_cons_of_mem _ (uG_X12 w h)) hown hK hP 0 rfl rfl 14 (by decide) (hts _ (List.mem_cons_of_mem _ kw_1705)) (fun _ h9 => h9) rfl dX12_tokens_264 ?_
                            refine lv_iload_n hx hb dX12_tokens_267 rfl (lv_at hl 4 rfl) ?_
                            have mg_56 : ∀ (H : Heap) (locs : List Loc), va_P (dC, dI) vwCl [(h0, .inr (13, moF a (upd f 3 (nI n)) w)), (a 2, .inl (cB, 2000, .inl g)), (a 14, .inl (cI, 2001, .inl (laid sf (msF g n) t))), (a 15, .inl (cI, 2001, .inl (upd (laid pf (fun i => nI (mlF g n i)) t) t (nI k)))), (a 16, .inl (cI, 2001, .inl (laid lf (mwF g n) t))), (a 17, .inl (cJ, 2001, .inr (.inl (vp_updL (laidL nf (mnbF g n) t) t v2))))] H → va_D A [(h0, .inr (13, moF a (upd f 3 (nI n)) w)), (a 2, .inl (cB, 2000, .inl g)), (a 14, .inl (cI, 2001, .inl (laid sf (msF g n) t))), (a 15, .inl (cI, 2001, .inl (upd (laid pf (fun i => nI (mlF g n i)) t) t (nI k)))), (a 16, .inl (cI, 2001, .inl (laid lf (mwF g n) t))), (a 17, .inl (cJ, 2001, .inr (.inl (vp_updL (laidL nf (mnbF g n) t) t v2))))] → va_S A s.heap H locs → W p l e (headSpec (wsOf yX12_tokens cX12_tokens 9 none) ({ frames := 1, cells := 0, slots := 0, locals := 60 })).room s m ([.ref h0] : List Value).toArray below meth c H locs 0 0 (MQ below (qc_t_X12_tokens dC dI cB cI cJ cZ h0 a f w n g sf pf lf nf A) ([.ref h0] : List Value).toArray s 0 0 A) (F0 m 295 ls [.int (nsI g n k2 q2), .int (nI t), .ref (a 14)]) := by
                              intro H locs hP hD hS
                              refine va_iast hx hb hK hP hD hS 2 1 rfl rfl (i := (nI t)) (x := (nsI g n k2 q2)) (vp_in_nI (n := t) (N := 2001) (by omega) (by omega)) dX12_tokens_295 (fun H locs hP hD hS => ?_)
                              rw [show (nI t).toNatClampNeg = t from nI_clamp (n := t) (by omega)] at hP hD
                              have hP : va_P (dC, dI) vwCl [(h0, .inr (13, moF a (upd f 3 (nI n)) w)), (a 2, .inl (cB, 2000, .inl g)), (a 14, .inl (cI, 2001, .inl (upd (laid sf (msF g n) t) t (nsI g n k2 q2)))), (a 15, .inl (cI, 2001, .inl (upd (laid pf (fun i => nI (mlF g n i)) t) t (nI k)))), (a 16, .inl (cI, 2001, .inl (laid lf (mwF g n) t))), (a 17, .inl (cJ, 2001, .inr (.inl (vp_updL (laidL nf (mnbF g n) t) t v2))))] H := hP
                              have hD : va_D A [(h0, .inr (13, moF a (upd f 3 (nI n)) w)), (a 2, .inl (cB, 2000, .inl g)), (a 14, .inl (cI, 2001, .inl (upd (laid sf (msF g n) t) t (nsI g n k2 q2)))), (a 15, .inl (cI, 2001, .inl (upd (laid pf (fun i => nI (mlF g n i)) t) t (nI k)))), (a 16, .inl (cI, 2001, .inl (laid lf (mwF g n) t))), (a 17, .inl (cJ, 2001, .inr (.inl (vp_updL (laidL nf (mnbF g n) t) t v2))))] := hD
                              refine lv_goto (tgt := 514) hx hb dX12_tokens_296 (by decide) ?_
                              refine lv_aload_n hx hb dX12_tokens_514 rfl (lv_at hl 6 rfl) ?_
                              refine va_get (D := (dC, dI)) (ci := 13) (v := .ref (a 16)) (C := RX12) (T := TX12) (N := 115) hx hb hts (fun w h => List.mem_cons_of_mem _ (uG_X12 w h)) hown hK hP 0 rfl rfl 16 (by decide) (hts _ (List.mem_cons_of_mem _ kw_1707)) (fun _ h9 => h9) rfl dX12_tokens_515 ?_
                              refine lv_iload_n hx hb dX12_tokens_518 rfl (lv_at hl 4 rfl) ?_
                              refine lv_iload_n hx hb dX12_tokens_519 rfl (lv_at hl 1 rfl) ?_
                              refine lv_iload hx hb dX12_tokens_520 (lv_at hl 2 rfl) ?_
                              refine lv_isub hx hb dX12_tokens_522 ?_
                              refine lv_topi (fun x_57 ex_57 => ?_)
                              have ex_57 : x_57 = nI (k2 - k) := ex_57.trans (pk_sub (a := k2) (b := k) (by omega))
                              subst ex_57
                              refine va_iast hx hb hK hP hD hS 4 1 rfl rfl (i := (nI t)) (x := (nI (k2 - k))) (vp_in_nI (n := t) (N := 2001) (by omega) (by omega)) dX12_tokens_523 (fun H locs hP hD hS => ?_)
                              rw [show (nI t).toNatClampNeg = t from nI_clamp (n := t) (by omega)] at hP hD
                              have hP : va_P (dC, dI) vwCl [(h0, .inr (13, moF a (upd f 3 (nI n)) w)), (a 2, .inl (cB, 2000, .inl g)), (a 14, .inl (cI, 2001, .inl (upd (laid sf (msF g n) t) t (nsI g n k2 q2)))), (a 15, .inl (cI, 2001, .inl (upd (laid pf (fun i => nI (mlF g n i)) t) t (nI k)))), (a 16, .inl (cI, 2001, .inl (upd (laid lf (mwF g n) t) t (nI (k2 - k))))), (a 17, .inl (cJ, 2001, .inr (.inl (vp_updL (laidL nf (mnbF g n) t) t v2))))] H := hP
                              have hD : va_D A [(h0, .inr (13, moF a (upd f 3 (nI n)) w)), (a 2, .inl (cB, 2000, .inl g)), (a 14, .inl (cI, 2001, .inl (upd (laid sf (msF g n) t) t (nsI g n k2 q2)))), (a 15, .inl (cI, 2001, .inl (upd (laid pf (fun i => nI (mlF g n i)) t) t (nI k)))), (a 16, .inl (cI, 2001, .inl (upd (laid lf (mwF g n) t) t (nI (k2 - k))))), (a 17, .inl (cJ, 2001, .inr (.inl (vp_updL (laidL nf (mnbF g n) t) t v2))))] := hD
                              have hge : k < k2 := mnF_gt hkn c_10 hwe
                              have heq : mtF g n k = (k2, nsI g n k2 q2, v2) := mtF_d c_8 c_10 hwe
                              obtain ⟨e1m, e2m, e3m, e4m⟩ := mt_next hmk heq
                              have hend : ∀ {z : Nat}, z = k2 → mlF g n (t + 1) = skB g n (n - z) z := fun e9 => by subst e9; unfold mlF; rw [e1m]
                              rw [show upd (laid sf (msF g n) t) t (nsI g n k2 q2) = laid sf (msF g n) (t + 1) from by rw [← e2m]; exact laid_s, show upd (laid pf (fun i => nI (mlF g n i)) t) t (nI k) = laid pf (fun i => nI (mlF g n i)) (t + 1) from by rw [← hmk]; exact laid_s (t := fun i => nI (mlF g n i)), show upd (laid lf (mwF g n) t) t (nI (k2 - k)) = laid lf (mwF g n) (t + 1) from by rw [← e4m]; exact laid_s, show vp_updL (laidL nf (mnbF g n) t) t v2 = laidL nf (mnbF g n) (t + 1) from by rw [← e3m]; exact laidL_s] at hP hD
                              have hP : va_P (dC, dI) vwCl [(h0, .inr (13, moF a (upd f 3 (nI n)) w)), (a 2, .inl (cB, 2000, .inl g)), (a 14, .inl (cI, 2001, .inl (laid sf (msF g n) (t + 1)))), (a 15, .inl (cI, 2001, .inl (laid pf (fun i => nI (mlF g n i)) (t + 1)))), (a 16, .inl (cI, 2001, .inl (laid lf (mwF g n) (t + 1)))), (a 17, .inl (cJ, 2001, .inr (.inl (laidL nf (mnbF g n) (t + 1)))))] H := hP
                              have hD : va_D A [(h0, .inr (13, moF a (upd f 3 (nI n)) w)), (a 2, .inl (cB, 2000, .inl g)), (a 14, .inl (cI, 2001, .inl (laid sf (msF g n) (t + 1)))), (a 15, .inl (cI, 2001, .inl (laid pf (fun i => nI (mlF g n i)) (t + 1)))), (a 16, .inl (cI, 2001, .inl (laid lf (mwF g n) (t + 1)))), (a 17, .inl (cJ, 2001, .inr (.inl (laidL nf (mnbF g n) (t + 1)))))] := hD
                              refine lv_iinc (v := nI (t + 1)) (lv' := [(2, .int (nI (t + 1))), (6, .int q2), (3, .int (nI k2)), (5, .int (nI k)), (4, .int (g k)), (1, .int (nI n)), (0, .ref h0)]) hx hb dX12_tokens_524 hl (k := 4) rfl (nI_add t 1) (by decide) rfl (fun ls hl => ?_)
                              refine lv_goto (tgt := 9) hx hb dX12_tokens_527 (by decide) ?_
                              exact ih_9 (t + 1) (k2) (by omega) (by omega) (hend rfl) hal2 (by omega) _ _ _ (hP.sub [0, 1, 2, 3, 4, 5] rfl) (hD.sub [0, 1, 2, 3, 4, 5] (by decide) rfl) hS (lv_sub hl [2, 0, 5, 6] rfl)
                            refine lv_iload hx hb dX12_tokens_268 (lv_at hl 0 rfl) ?_
                            refine lv_if_eq (tgt := 290) hx hb dX12_tokens_270 (by decide) (fun c_58 => ?_) (fun c_58 => ?_)
                            · skip
                              refine lv_iconst (v := 3) hx hb dX12_tokens_290 (by decide) ?_
                              refine lv_goto (tgt := 295) hx hb dX12_tokens_291 (by decide) ?_
                              exact W.eq (by unfold nsI; rw [if_pos c_58]) (mg_56 _ _ hP hD hS)
                            · skip
                              refine lv_iload_n hx hb dX12_tokens_273 rfl (lv_at hl 1 rfl) ?_
                              refine lv_iload_n hx hb dX12_tokens_274 rfl (lv_at hl 5 rfl) ?_
                              refine lv_icmp_ge (tgt := 294) hx hb dX12_tokens_275 (by decide) (fun c_59 => ?_) (fun c_59 => ?_)
                              · skip
                                have c_59 : n ≤ k2 := (nI_leI (a := n) (b := k2) (by omega) (by omega)).mp c_59
                                refine lv_iconst (v := 2) hx hb dX12_tokens_294 (by decide) ?_
                                exact W.eq (by unfold nsI; rw [if_neg c_58, if_pos c_59]) (mg_56 _ _ hP hD hS)
                              · skip
                                have c_59 : ¬ (n ≤ k2) := fun h => c_59 ((nI_leI (a := n) (b := k2) (by omega) (by omega)).mpr h)
                                refine lv_aload_n hx hb dX12_tokens_278 rfl (lv_at hl 6 rfl) ?_
                                refine va_get (D := (dC, dI)) (ci := 13) (v := .ref (a 2)) (C := RX12) (T := TX12) (N := 115) hx hb hts (fun w h => List.mem_cons_of_mem _ (uG_X12 w h)) hown hK hP 0 rfl rfl 2 (by decide) (hts _ (List.mem_cons_of_mem _ kw_1693)) (fun _ h9 => h9) rfl dX12_tokens_279 ?_
                                refine lv_iload_n hx hb dX12_tokens_282 rfl (lv_at hl 1 rfl) ?_
                                refine va_bald hx hb hK hP 1 0 rfl rfl (i := (nI k2)) (vp_in_nI (n := k2) (N := 2000) (by omega) (by omega)) dX12_tokens_283 ?_
                                refine lv_topi (fun x_60 ex_60 => ?_)
                                have ex_60 : x_60 = g k2 := ex_60.trans (congrArg g (nI_clamp (n := k2) (by omega)))
                                subst ex_60
                                have hPc := hP.sub (ws' := []) [] rfl
                                have hDc := hD.sub (ws' := []) [] (by decide) rfl
                                have hKc := hK.sub (tys' := [(cB, .byte), (cI, .int), (cJ, .long), (cZ, .boolean)]) [0, 1, 2, 3] rfl
                                have hFc := va_free (wc := []) hD hS hA [] rfl
                                refine va_calli (va_runS (As := [.int (g k2)]) (rest := [.int (nI t), .ref (a 14)]) ⟨hx, hb, hml, hown, hts⟩ (t_X12_isLetter l dC dI H.size cB cI cJ cZ (g k2)) ⟨callB_of 1 hts (gd_all (in_I kc_X12_isLetter)) rfl rfl rfl (hts _ (List.mem_cons_of_mem _ kw_191)) (hts _ (List.mem_cons_of_mem _ kw_2229)) (by decide +kernel) ⟨Nat.le_of_ble_eq_true rfl, Nat.le_of_ble_eq_true rfl⟩, hts _ (List.mem_cons_of_mem _ kw_2230)⟩ ⟨fun a U g mk q => by obtain ⟨q0, q1, qP, qK, qD⟩ := q; exact ⟨q0, q1, qP, va_K.moved (u := U) (U := U.calling g mk a) (Vm.Alike.refl U.vm) qK, qD⟩, fun U hU hW => ⟨rfl, by rw [hU], by rw [hU]; exact hPc, va_K.moved hW.alike hKc, hDc.weaken (fun _ _ _ _ => trivial)⟩⟩ rfl rfl hl.1 rfl (lv_room (Nat.le_of_ble_eq_true rfl)) dX12_tokens_284 ⟨Nat.le_of_ble_eq_true rfl, Nat.le_of_ble_eq_true rfl⟩) hS (fun q _ h => hFc q h) hFc (fun r_61 u t_ H1 locs ht hvm hw hB hz1 hk1 hS => ?_)
                                obtain ⟨hP1, hK1, hD1⟩ := hB
                                rw [ht] at hP1
                                have hK1 := va_K.moved hvm.symm hK1
                                obtain ⟨hP, hD⟩ := va_join (wr := [(h0, .inr (13, moF a (upd f 3 (nI n)) w)), (a 2, .inl (cB, 2000, .inl g)), (a 14, .inl (cI, 2001, .inl (laid sf (msF g n) t))), (a 15, .inl (cI, 2001, .inl (upd (laid pf (fun i => nI (mlF g n i)) t) t (nI k)))), (a 16, .inl (cI, 2001, .inl (laid lf (mwF g n) t))), (a 17, .inl (cJ, 2001, .inr (.inl (vp_updL (laidL nf (mnbF g n) t) t v2))))]) (w1 := []) hP hD [] [0, 1, 2, 3, 4, 5] rfl rfl (by decide) (by decide) hk1 hFc hP1 hD1
                                have hK := (hK.sub (tys' := []) [] rfl).app hK1
                                generalize H1 = H at hP hS ⊢
                                have hP : va_P (dC, dI) vwCl [(h0, .inr (13, moF a (upd f 3 (nI n)) w)), (a 2, .inl (cB, 2000, .inl g)), (a 14, .inl (cI, 2001, .inl (laid sf (msF g n) t))), (a 15, .inl (cI, 2001, .inl (upd (laid pf (fun i => nI (mlF g n i)) t) t (nI k)))), (a 16, .inl (cI, 2001, .inl (laid lf (mwF g n) t))), (a 17, .inl (cJ, 2001, .inr (.inl (vp_updL (laidL nf (mnbF g n) t) t v2))))] H := hP
                                have hD : va_D A [(h0, .inr (13, moF a (upd f 3 (nI n)) w)), (a 2, .inl (cB, 2000, .inl g)), (a 14, .inl (cI, 2001, .inl (laid sf (msF g n) t))), (a 15, .inl (cI, 2001, .inl (upd (laid pf (fun i => nI (mlF g n i)) t) t (nI k)))), (a 16, .inl (cI, 2001, .inl (laid lf (mwF g n) t))), (a 17, .inl (cJ, 2001, .inr (.inl (vp_updL (laidL nf (mnbF g n) t) t v2))))] := hD
                                have hK : va_K (dC, dI) vwCl [(cB, .byte), (cI, .int), (cJ, .long), (cZ, .boolean)] s := hK
                                have er_61 : r_61 = ltI (g k2) := hw
                                rw [er_61]
                                refine lv_if_eq (tgt := 294) hx hb dX12_tokens_287 (by decide) (fun c_62 => ?_) (fun c_62 => ?_)
                                · skip
                                  refine lv_iconst (v := 2) hx hb dX12_tokens_294 (by decide) ?_
                                  exact W.eq (by unfold nsI; rw [if_neg c_58, if_neg c_59, if_pos c_62]) (mg_56 _ _ hP hD hS)
                                · skip
                                  refine lv_iconst (v := 3) hx hb dX12_tokens_290 (by decide) ?_
                                  refine lv_goto (tgt := 295) hx hb dX12_tokens_291 (by decide) ?_
                                  exact W.eq (by unfold nsI; rw [if_neg c_58, if_neg c_59, if_neg c_62]) (mg_56 _ _ hP hD hS)
                          · skip
                            refine lv_aload_n hx hb dX12_tokens_167 rfl (lv_at hl 6 rfl) ?_
                            refine va_get (D := (dC, dI)) (ci := 13) (v := .ref (a 2)) (C := RX12) (T := TX12) (N := 115) hx hb hts (fun w h => List.mem_cons_of_mem _ (uG_X12 w h)) hown hK hP 0 rfl rfl 2 (by decide) (hts _ (List.mem_cons_of_mem _ kw_1693)) (fun _ h9 => h9) rfl dX12_tokens_168 ?_
                            refine lv_iload_n hx hb dX12_tokens_171 rfl (lv_at hl 1 rfl) ?_
                            refine va_bald hx hb hK hP 1 0 rfl rfl (i := (nI k2)) (vp_in_nI (n := k2) (N := 2000) (by omega) (by omega)) dX12_tokens_172 ?_
                            refine lv_topi (fun x_63 ex_63 => ?_)
                            have ex_63 : x_63 = g k2 := ex_63.trans (congrArg g (nI_clamp (n := k2) (by omega)))
                            subst ex_63
                            refine lv_bipush (v := 48) hx hb dX12_tokens_173 (by decide) ?_
                            refine lv_isub hx hb dX12_tokens_175 ?_
                            refine lv_istore (lv' := [(7, .int ((g k2) - 48)), (6, .int q2), (3, .int (nI k2)), (5, .int (nI k)), (4, .int (g k)), (2, .int (nI t)), (1, .int (nI n)), (0, .ref h0)]) hx hb dX12_tokens_176 hl (by decide) rfl (fun ls hl => ?_)
                            have mg_64 : ∀ (H : Heap) (locs : List Loc), va_P (dC, dI) vwCl [(h0, .inr (13, moF a (upd f 3 (nI n)) w)), (a 2, .inl (cB, 2000, .inl g)), (a 14, .inl (cI, 2001, .inl (laid sf (msF g n) t))), (a 15, .inl (cI, 2001, .inl (upd (laid pf (fun i => nI (mlF g n i)) t) t (nI k)))), (a 16, .inl (cI, 2001, .inl (laid lf (mwF g n) t))), (a 17, .inl (cJ, 2001, .inr (.inl (vp_updL (laidL nf (mnbF g n) t) t v2))))] H → va_D A [(h0, .inr (13, moF a (upd f 3 (nI n)) w)), (a 2, .inl (cB, 2000, .inl g)), (a 14, .inl (cI, 2001, .inl (laid sf (msF g n) t))), (a 15, .inl (cI, 2001, .inl (upd (laid pf (fun i => nI (mlF g n i)) t) t (nI k)))), (a 16, .inl (cI, 2001, .inl (laid lf (mwF g n) t))), (a 17, .inl (cJ, 2001, .inr (.inl (vp_updL (laidL nf (mnbF g n) t) t v2))))] → va_S A s.heap H locs → W p l e (headSpec (wsOf yX12_tokens cX12_tokens 9 none) ({ frames := 1, cells := 0, slots := 0, locals := 60 })).room s m ([.ref h0] : List Value).toArray below meth c H locs 0 0 (MQ below (qc_t_X12_tokens dC dI cB cI cJ cZ h0 a f w n g sf pf lf nf A) ([.ref h0] : List Value).toArray s 0 0 A) (F0 m 221 ls [.int (ftI q2 v2 (g k2 - 48))]) := by
                              intro H locs hP hD hS
                              refine lv_istore (lv' := [(6, .int (ftI q2 v2 (g k2 - 48))), (7, .int ((g k2) - 48)), (3, .int (nI k2)), (5, .int (nI k)), (4, .int (g k)), (2, .int (nI t)), (1, .int (nI n)), (0, .ref h0)]) hx hb dX12_tokens_221 hl (by decide) rfl (fun ls hl => ?_)
                              refine lv_aload_n hx hb dX12_tokens_223 rfl (lv_at hl 7 rfl) ?_
                              refine va_get (D := (dC, dI)) (ci := 13) (v := .ref (a 17)) (C := RX12) (T := TX12) (N := 115) hx hb hts (fun w h => List.mem_cons_of_mem _ (uG_X12 w h)) hown hK hP 0 rfl rfl 17 (by decide) (hts _ (List.mem_cons_of_mem _ kw_1708)) (fun _ h9 => h9) rfl dX12_tokens_224 ?_
                              refine lv_iload_n hx hb dX12_tokens_227 rfl (lv_at hl 5 rfl) ?_
                              have mg_65 : ∀ (H : Heap) (locs : List Loc), va_P (dC, dI) vwCl [(h0, .inr (13, moF a (upd f 3 (nI n)) w)), (a 2, .inl (cB, 2000, .inl g)), (a 14, .inl (cI, 2001, .inl (laid sf (msF g n) t))), (a 15, .inl (cI, 2001, .inl (upd (laid pf (fun i => nI (mlF g n i)) t) t (nI k)))), (a 16, .inl (cI, 2001, .inl (laid lf (mwF g n) t))), (a 17, .inl (cJ, 2001, .inr (.inl (vp_updL (laidL nf (mnbF g n) t) t v2))))] H → va_D A [(h0, .inr (13, moF a (upd f 3 (nI n)) w)), (a 2, .inl (cB, 2000, .inl g)), (a 14, .inl (cI, 2001, .inl (laid sf (msF g n) t))), (a 15, .inl (cI, 2001, .inl (upd (laid pf (fun i => nI (mlF g n i)) t) t (nI k)))), (a 16, .inl (cI, 2001, .inl (laid lf (mwF g n) t))), (a 17, .inl (cJ, 2001, .inr (.inl (vp_updL (laidL nf (mnbF g n) t) t v2))))] → va_S A s.heap H locs → W p l e (headSpec (wsOf yX12_tokens cX12_tokens 9 none) ({ frames := 1, cells := 0, slots := 0, locals := 60 })).room s m ([.ref h0] : List Value).toArray below meth c H locs 0 0 (MQ below (qc_t_X12_tokens dC dI cB cI cJ cZ h0 a f w n g sf pf lf nf A) ([.ref h0] : List Value).toArray s 0 0 A) (F0 m 256 ls [.long (mvI (ftI q2 v2 (g k2 - 48)) v2 (g k2 - 48)), .int (nI t), .ref (a 17)]) := by
                                intro H locs hP hD hS
                                refine va_last hx hb hK hP hD hS 5 2 rfl rfl (i := (nI t)) (x := (mvI (ftI q2 v2 (g k2 - 48)) v2 (g k2 - 48))) (vp_in_nI (n := t) (N := 2001) (by omega) (by omega)) dX12_tokens_256 (fun H locs hP hD hS => ?_)
                                rw [show (nI t).toNatClampNeg = t from nI_clamp (n := t) (by omega)] at hP hD
                                have hP : va_P (dC, dI) vwCl [(h0, .inr (13, moF a (upd f 3 (nI n)) w)), (a 2, .inl (cB, 2000, .inl g)), (a 14, .inl (cI, 2001, .inl (laid sf (msF g n) t))), (a 15, .inl (cI, 2001, .inl (upd (laid pf (fun i => nI (mlF g n i)) t) t (nI k)))), (a 16, .inl (cI, 2001, .inl (laid lf (mwF g n) t))), (a 17, .inl (cJ, 2001, .inr (.inl (vp_updL (vp_updL (laidL nf (mnbF g n) t) t v2) t (mvI (ftI q2 v2 (g k2 - 48)) v2 (g k2 - 48))))))] H := hP
                                have hD : va_D A [(h0, .inr (13, moF a (upd f 3 (nI n)) w)), (a 2, .inl (cB, 2000, .inl g)), (a 14, .inl (cI, 2001, .inl (laid sf (msF g n) t))), (a 15, .inl (cI, 2001, .inl (upd (laid pf (fun i => nI (mlF g n i)) t) t (nI k)))), (a 16, .inl (cI, 2001, .inl (laid lf (mwF g n) t))), (a 17, .inl (cJ, 2001, .inr (.inl (vp_updL (vp_updL (laidL nf (mnbF g n) t) t v2) t (mvI (ftI q2 v2 (g k2 - 48)) v2 (g k2 - 48))))))] := hD
                                rw [updLd] at hP hD
                                have hP : va_P (dC, dI) vwCl [(h0, .inr (13, moF a (upd f 3 (nI n)) w)), (a 2, .inl (cB, 2000, .inl g)), (a 14, .inl (cI, 2001, .inl (laid sf (msF g n) t))), (a 15, .inl (cI, 2001, .inl (upd (laid pf (fun i => nI (mlF g n i)) t) t (nI k)))), (a 16, .inl (cI, 2001, .inl (laid lf (mwF g n) t))), (a 17, .inl (cJ, 2001, .inr (.inl (vp_updL (laidL nf (mnbF g n) t) t (mvI (ftI q2 v2 (g k2 - 48)) v2 (g k2 - 48))))))] H := hP
                                have hD : va_D A [(h0, .inr (13, moF a (upd f 3 (nI n)) w)), (a 2, .inl (cB, 2000, .inl g)), (a 14, .inl (cI, 2001, .inl (laid sf (msF g n) t))), (a 15, .inl (cI, 2001, .inl (upd (laid pf (fun i => nI (mlF g n i)) t) t (nI k)))), (a 16, .inl (cI, 2001, .inl (laid lf (mwF g n) t))), (a 17, .inl (cJ, 2001, .inr (.inl (vp_updL (laidL nf (mnbF g n) t) t (mvI (ftI q2 v2 (g k2 - 48)) v2 (g k2 - 48))))))] := hD
                                refine lv_iinc (v := nI (k2 + 1)) (lv' := [(3, .int (nI (k2 + 1))), (6, .int (ftI q2 v2 (g k2 - 48))), (7, .int ((g k2) - 48)), (5, .int (nI k)), (4, .int (g k)), (2, .int (nI t)), (1, .int (nI n)), (0, .ref h0)]) hx hb dX12_tokens_257 hl (k := 2) rfl (nI_add k2 1) (by decide) rfl (fun ls hl => ?_)
                                refine lv_goto (tgt := 150) hx hb dX12_tokens_260 (by decide) ?_
                                exact ih_150 (k2 + 1) (mvI (ftI q2 v2 (g k2 - 48)) v2 (g k2 - 48)) (ftI q2 v2 (g k2 - 48)) (by omega) (by omega) (hw2.trans (mnF_s c_45 c_55)) (by omega) _ _ _ (hP.sub [0, 1, 2, 3, 4, 5] rfl) (hD.sub [0, 1, 2, 3, 4, 5] (by decide) rfl) hS (lv_sub hl [1, 0, 3, 4, 5, 6, 7] rfl)
                              refine lv_iload hx hb dX12_tokens_228 (lv_at hl 0 rfl) ?_
                              refine lv_if_eq (tgt := 250) hx hb dX12_tokens_230 (by decide) (fun c_66 => ?_) (fun c_66 => ?_)
                              · skip
                                refine lv_aload_n hx hb dX12_tokens_250 rfl (lv_at hl 7 rfl) ?_
                                refine va_get (D := (dC, dI)) (ci := 13) (v := .ref (a 17)) (C := RX12) (T := TX12) (N := 115) hx hb hts (fun w h => List.mem_cons_of_mem _ (uG_X12 w h)) hown hK hP 0 rfl rfl 17 (by decide) (hts _ (List.mem_cons_of_mem _ kw_1708)) (fun _ h9 => h9) rfl dX12_tokens_251 ?_
                                refine lv_iload_n hx hb dX12_tokens_254 rfl (lv_at hl 5 rfl) ?_
                                refine va_lald hx hb hK hP 5 2 rfl rfl (i := (nI t)) (vp_in_nI (n := t) (N := 2001) (by omega) (by omega)) dX12_tokens_255 ?_
                                refine lv_topl (fun x_67 ex_67 => ?_)
                                have ex_67 : x_67 = (vp_updL (laidL nf (mnbF g n) t) t v2) t := ex_67.trans (congrArg (vp_updL (laidL nf (mnbF g n) t) t v2) (nI_clamp (n := t) (by omega)))
                                have ex_67 : x_67 = v2 := ex_67.trans pk_uLs
                                rw [ex_67]
                                exact W.eq (by unfold mvI; rw [if_pos c_66]) (mg_65 _ _ hP hD hS)
                              · skip
                                refine lv_aload_n hx hb dX12_tokens_233 rfl (lv_at hl 7 rfl) ?_
                                refine va_get (D := (dC, dI)) (ci := 13) (v := .ref (a 17)) (C := RX12) (T := TX12) (N := 115) hx hb hts (fun w h => List.mem_cons_of_mem _ (uG_X12 w h)) hown hK hP 0 rfl rfl 17 (by decide) (hts _ (List.mem_cons_of_mem _ kw_1708)) (fun _ h9 => h9) rfl dX12_tokens_234 ?_
                                refine lv_iload_n hx hb dX12_tokens_237 rfl (lv_at hl 5 rfl) ?_
                                refine va_lald hx hb hK hP 5 2 rfl rfl (i := (nI t)) (vp_in_nI (n := t) (N := 2001) (by omega) (by omega)) dX12_tokens_238 ?_
                                refine lv_topl (fun x_68 ex_68 => ?_)
                                have ex_68 : x_68 = (vp_updL (laidL nf (mnbF g n) t) t v2) t := ex_68.trans (congrArg (vp_updL (laidL nf (mnbF g n) t) t v2) (nI_clamp (n := t) (by omega)))
                                have ex_68 : x_68 = v2 := ex_68.trans pk_uLs
                                rw [ex_68]
                                refine lv_ldc2 hx hb hown (hts _ (List.mem_cons_of_mem _ kw_2236)) dX12_tokens_239 ?_
                                refine lv_lmul hx hb dX12_tokens_242 ?_
                                refine lv_iload hx hb dX12_tokens_243 (lv_at hl 1 rfl) ?_
                                refine lv_i2l hx hb dX12_tokens_245 rfl ?_
                                refine lv_ladd hx hb dX12_tokens_246 ?_
                                refine lv_goto (tgt := 256) hx hb dX12_tokens_247 (by decide) ?_
                                exact W.eq (by unfold mvI; rw [if_neg c_66]) (mg_65 _ _ hP hD hS)
                            refine lv_iload hx hb dX12_tokens_178 (lv_at hl 1 rfl) ?_
                            refine lv_if_eq (tgt := 220) hx hb dX12_tokens_180 (by decide) (fun c_69 => ?_) (fun c_69 => ?_)
                            · skip
                              refine lv_iconst (v := 0) hx hb dX12_tokens_220 (by decide) ?_
                              exact W.eq (by unfold ftI; rw [if_pos c_69]) (mg_64 _ _ hP hD hS)
                            · skip
                              refine lv_aload_n hx hb dX12_tokens_183 rfl (lv_at hl 7 rfl) ?_
                              refine va_get (D := (dC, dI)) (ci := 13) (v := .ref (a 17)) (C := RX12) (T := TX12) (N := 115) hx hb hts (fun w h => List.mem_cons_of_mem _ (uG_X12 w h)) hown hK hP 0 rfl rfl 17 (by decide) (hts _ (List.mem_cons_of_mem _ kw_1708)) (fun _ h9 => h9) rfl dX12_tokens_184 ?_
                              refine lv_iload_n hx hb dX12_tokens_187 rfl (lv_at hl 5 rfl) ?_
                              refine va_lald hx hb hK hP 5 2 rfl rfl (i := (nI t)) (vp_in_nI (n := t) (N := 2001) (by omega) (by omega)) dX12_tokens_188 ?_
                              refine lv_topl (fun x_70 ex_70 => ?_)
                              have ex_70 : x_70 = (vp_updL (laidL nf (mnbF g n) t) t v2) t := ex_70.trans (congrArg (vp_updL (laidL nf (mnbF g n) t) t v2) (nI_clamp (n := t) (by omega)))
                              have ex_70 : x_70 = v2 := ex_70.trans pk_uLs
                              rw [ex_70]
                              refine lv_ldc2 hx hb hown (hts _ (List.mem_cons_of_mem _ kw_2235)) dX12_tokens_189 ?_
                              refine W.lcmp hx hb dX12_tokens_192 ?_
                              refine lv_if_lt (tgt := 216) hx hb dX12_tokens_193 (by decide) (fun c_71 => ?_) (fun c_71 => ?_)
                              · skip
                                have c_71 : (v2) < (922337203685477580) := (lg_cmp_lt (v2) (922337203685477580)).mp c_71
                                refine lv_iconst (v := 1) hx hb dX12_tokens_216 (by decide) ?_
                                refine lv_goto (tgt := 221) hx hb dX12_tokens_217 (by decide) ?_
                                exact W.eq (by unfold ftI; rw [if_neg c_69, if_pos c_71]) (mg_64 _ _ hP hD hS)
                              · skip
                                have c_71 : ¬ ((v2) < (922337203685477580)) := fun h => c_71 ((lg_cmp_lt (v2) (922337203685477580)).mpr h)
                                refine lv_aload_n hx hb dX12_tokens_196 rfl (lv_at hl 7 rfl) ?_
                                refine va_get (D := (dC, dI)) (ci := 13) (v := .ref (a 17)) (C := RX12) (T := TX12) (N := 115) hx hb hts (fun w h => List.mem_cons_of_mem _ (uG_X12 w h)) hown hK hP 0 rfl rfl 17 (by decide) (hts _ (List.mem_cons_of_mem _ kw_1708)) (fun _ h9 => h9) rfl dX12_tokens_197 ?_
                                refine lv_iload_n hx hb dX12_tokens_200 rfl (lv_at hl 5 rfl) ?_
                                refine va_lald hx hb hK hP 5 2 rfl rfl (i := (nI t)) (vp_in_nI (n := t) (N := 2001) (by omega) (by omega)) dX12_tokens_201 ?_
                                refine lv_topl (fun x_72 ex_72 => ?_)
                                have ex_72 : x_72 = (vp_updL (laidL nf (mnbF g n) t) t v2) t := ex_72.trans (congrArg (vp_updL (laidL nf (mnbF g n) t) t v2) (nI_clamp (n := t) (by omega)))
                                have ex_72 : x_72 = v2 := ex_72.trans pk_uLs
                                rw [ex_72]
                                refine lv_ldc2 hx hb hown (hts _ (List.mem_cons_of_mem _ kw_2235)) dX12_tokens_202 ?_
                                refine W.lcmp hx hb dX12_tokens_205 ?_
                                refine lv_if_ne (tgt := 220) hx hb dX12_tokens_206 (by decide) (fun c_73 => ?_) (fun c_73 => ?_)
                                · skip
                                  have c_73 : ¬ ((v2) = (922337203685477580)) := fun h => c_73 ((lg_cmp_eq (v2) (922337203685477580)).mpr h)
                                  refine lv_iconst (v := 0) hx hb dX12_tokens_220 (by decide) ?_
                                  exact W.eq (by unfold ftI; rw [if_neg c_69, if_neg c_71, if_neg c_73]) (mg_64 _ _ hP hD hS)
                                · skip
                                  have c_73 : (v2) = (922337203685477580) := (lg_cmp_eq (v2) (922337203685477580)).mp c_73
                                  refine lv_iload hx hb dX12_tokens_209 (lv_at hl 0 rfl) ?_
                                  refine lv_bipush (v := 7) hx hb dX12_tokens_211 (by decide) ?_
                                  refine lv_icmp_gt (tgt := 220) hx hb dX12_tokens_213 (by decide) (fun c_74 => ?_) (fun c_74 => ?_)
                                  · skip
                                    refine lv_iconst (v := 0) hx hb dX12_tokens_220 (by decide) ?_
                                    exact W.eq (by unfold ftI; rw [if_neg c_69, if_neg c_71, if_pos c_73, if_pos c_74]) (mg_64 _ _ hP hD hS)
                                  · skip
                                    refine lv_iconst (v := 1) hx hb dX12_tokens_216 (by decide) ?_
                                    refine lv_goto (tgt := 221) hx hb dX12_tokens_217 (by decide) ?_
                                    exact W.eq (by unfold ftI; rw [if_neg c_69, if_neg c_71, if_pos c_73, if_neg c_74]) (mg_64 _ _ hP hD hS)
                    exact lp_150 _ k 0 1 (Nat.le_refl _) (by omega) rfl (Nat.lt_succ_self _) _ _ _ (hP.sub [0, 1, 2, 3, 4, 5] rfl) (hD.sub [0, 1, 2, 3, 4, 5] (by decide) rfl) hS (lv_sub hl [0, 3, 1, 2, 4, 5, 6] rfl)
                · skip
                  have lp_81 : ∀ (n_ : Nat) (k2 : Nat), k ≤ k2 → k2 ≤ n → weF g n (n - k) k = weF g n (n - k2) k2 → n - k2 < n_ → ∀ (H : Heap) (locs : List Loc) (ls : Array Slot), va_P (dC, dI) vwCl [(h0, .inr (13, moF a (upd f 3 (nI n)) w)), (a 2, .inl (cB, 2000, .inl g)), (a 14, .inl (cI, 2001, .inl (laid sf (msF g n) t))), (a 15, .inl (cI, 2001, .inl (upd (laid pf (fun i => nI (mlF g n i)) t) t (nI k)))), (a 16, .inl (cI, 2001, .inl (laid lf (mwF g n) t))), (a 17, .inl (cJ, 2001, .inr (.inl (vp_updL (laidL nf (mnbF g n) t) t 0))))] H → va_D A [(h0, .inr (13, moF a (upd f 3 (nI n)) w)), (a 2, .inl (cB, 2000, .inl g)), (a 14, .inl (cI, 2001, .inl (laid sf (msF g n) t))), (a 15, .inl (cI, 2001, .inl (upd (laid pf (fun i => nI (mlF g n i)) t) t (nI k)))), (a 16, .inl (cI, 2001, .inl (laid lf (mwF g n) t))), (a 17, .inl (cJ, 2001, .inr (.inl (vp_updL (laidL nf (mnbF g n) t) t 0))))] → va_S A s.heap H locs → lv_has ls 9 [(3, .int (nI k2)), (5, .int (nI k)), (4, .int (g k)), (2, .int (nI t)), (1, .int (nI n)), (0, .ref h0)] → W p l e (headSpec (wsOf yX12_tokens cX12_tokens 9 none) ({ frames := 1, cells := 0, slots := 0, locals := 60 })).room s m ([.ref h0] : List Value).toArray below meth c H locs 0 0 (MQ below (qc_t_X12_tokens dC dI cB cI cJ cZ h0 a f w n g sf pf lf nf A) ([.ref h0] : List Value).toArray s 0 0 A) (F0 m 81 ls []) := by
                    intro n_
                    induction n_ with
                    | zero => intro k2 hk1 hk2 hw2 hm; exact absurd hm (Nat.not_lt_zero _)
                    | succ n_ ih_81 =>
                      intro k2 hk1 hk2 hw2 hm H locs ls hP hD hS hl
                      refine lv_iload_n hx hb dX12_tokens_81 rfl (lv_at hl 0 rfl) ?_
                      refine lv_iload_n hx hb dX12_tokens_82 rfl (lv_at hl 4 rfl) ?_
                      refine lv_icmp_ge (tgt := 116) hx hb dX12_tokens_83 (by decide) (fun c_75 => ?_) (fun c_75 => ?_)
                      · skip
                        have c_75 : n ≤ k2 := (nI_leI (a := n) (b := k2) (by omega) (by omega)).mp c_75
                        have hwe : weF g n (n - k) k = k2 := hw2.trans (weF_e c_75)
                        refine lv_aload_n hx hb dX12_tokens_116 rfl (lv_at hl 5 rfl) ?_
                        refine va_get (D := (dC, dI)) (ci := 13) (v := .ref (a 14)) (C := RX12) (T := TX12) (N := 115) hx hb hts (fun w h => List.mem_cons_of_mem _ (uG_X12 w h)) hown hK hP 0 rfl rfl 14 (by decide) (hts _ (List.mem_cons_of_mem _ kw_1705)) (fun _ h9 => h9) rfl dX12_tokens_117 ?_
                        refine lv_iload_n hx hb dX12_tokens_120 rfl (lv_at hl 3 rfl) ?_
                        have mg_76 : ∀ (H : Heap) (locs : List Loc), va_P (dC, dI) vwCl [(h0, .inr (13, moF a (upd f 3 (nI n)) w)), (a 2, .inl (cB, 2000, .inl g)), (a 14, .inl (cI, 2001, .inl (laid sf (msF g n) t))), (a 15, .inl (cI, 2001, .inl (upd (laid pf (fun i => nI (mlF g n i)) t) t (nI k)))), (a 16, .inl (cI, 2001, .inl (laid lf (mwF g n) t))), (a 17, .inl (cJ, 2001, .inr (.inl (vp_updL (laidL nf (mnbF g n) t) t 0))))] H → va_D A [(h0, .inr (13, moF a (upd f 3 (nI n)) w)), (a 2, .inl (cB, 2000, .inl g)), (a 14, .inl (cI, 2001, .inl (laid sf (msF g n) t))), (a 15, .inl (cI, 2001, .inl (upd (laid pf (fun i => nI (mlF g n i)) t) t (nI k)))), (a 16, .inl (cI, 2001, .inl (laid lf (mwF g n) t))), (a 17, .inl (cJ, 2001, .inr (.inl (vp_updL (laidL nf (mnbF g n) t) t 0))))] → va_S A s.heap H locs → W p l e (headSpec (wsOf yX12_tokens cX12_tokens 9 none) ({ frames := 1, cells := 0, slots := 0, locals := 60 })).room s m ([.ref h0] : List Value).toArray below meth c H locs 0 0 (MQ below (qc_t_X12_tokens dC dI cB cI cJ cZ h0 a f w n g sf pf lf nf A) ([.ref h0] : List Value).toArray s 0 0 A) (F0 m 135 ls [.int (if k2 - k ≤ 12 then 1 else 3), .int (nI t), .ref (a 14)]) := by
                          intro H locs hP hD hS
                          refine va_iast hx hb hK hP hD hS 2 1 rfl rfl (i := (nI t)) (x := (if k2 - k ≤ 12 then 1 else 3)) (vp_in_nI (n := t) (N := 2001) (by omega) (by omega)) dX12_tokens_135 (fun H locs hP hD hS => ?_)
                          rw [show (nI t).toNatClampNeg = t from nI_clamp (n := t) (by omega)] at hP hD
                          have hP : va_P (dC, dI) vwCl [(h0, .inr (13, moF a (upd f 3 (nI n)) w)), (a 2, .inl (cB, 2000, .inl g)), (a 14, .inl (cI, 2001, .inl (upd (laid sf (msF g n) t) t (if k2 - k ≤ 12 then 1 else 3)))), (a 15, .inl (cI, 2001, .inl (upd (laid pf (fun i => nI (mlF g n i)) t) t (nI k)))), (a 16, .inl (cI, 2001, .inl (laid lf (mwF g n) t))), (a 17, .inl (cJ, 2001, .inr (.inl (vp_updL (laidL nf (mnbF g n) t) t 0))))] H := hP
                          have hD : va_D A [(h0, .inr (13, moF a (upd f 3 (nI n)) w)), (a 2, .inl (cB, 2000, .inl g)), (a 14, .inl (cI, 2001, .inl (upd (laid sf (msF g n) t) t (if k2 - k ≤ 12 then 1 else 3)))), (a 15, .inl (cI, 2001, .inl (upd (laid pf (fun i => nI (mlF g n i)) t) t (nI k)))), (a 16, .inl (cI, 2001, .inl (laid lf (mwF g n) t))), (a 17, .inl (cJ, 2001, .inr (.inl (vp_updL (laidL nf (mnbF g n) t) t 0))))] := hD
                          refine lv_goto (tgt := 514) hx hb dX12_tokens_136 (by decide) ?_
                          refine lv_aload_n hx hb dX12_tokens_514 rfl (lv_at hl 5 rfl) ?_
                          refine va_get (D := (dC, dI)) (ci := 13) (v := .ref (a 16)) (C := RX12) (T := TX12) (N := 115) hx hb hts (fun w h => List.mem_cons_of_mem _ (uG_X12 w h)) hown hK hP 0 rfl rfl 16 (by decide) (hts _ (List.mem_cons_of_mem _ kw_1707)) (fun _ h9 => h9) rfl dX12_tokens_515 ?_
                          refine lv_iload_n hx hb dX12_tokens_518 rfl (lv_at hl 3 rfl) ?_
                          refine lv_iload_n hx hb dX12_tokens_519 rfl (lv_at hl 0 rfl) ?_
                          refine lv_iload hx hb dX12_tokens_520 (lv_at hl 1 rfl) ?_
                          refine lv_isub hx hb dX12_tokens_522 ?_
                          refine lv_topi (fun x_77 ex_77 => ?_)
                          have ex_77 : x_77 = nI (k2 - k) := ex_77.trans (pk_sub (a := k2) (b := k) (by omega))
                          subst ex_77
                          refine va_iast hx hb hK hP hD hS 4 1 rfl rfl (i := (nI t)) (x := (nI (k2 - k))) (vp_in_nI (n := t) (N := 2001) (by omega) (by omega)) dX12_tokens_523 (fun H locs hP hD hS => ?_)
                          rw [show (nI t).toNatClampNeg = t from nI_clamp (n := t) (by omega)] at hP hD
                          have hP : va_P (dC, dI) vwCl [(h0, .inr (13, moF a (upd f 3 (nI n)) w)), (a 2, .inl (cB, 2000, .inl g)), (a 14, .inl (cI, 2001, .inl (upd (laid sf (msF g n) t) t (if k2 - k ≤ 12 then 1 else 3)))), (a 15, .inl (cI, 2001, .inl (upd (laid pf (fun i => nI (mlF g n i)) t) t (nI k)))), (a 16, .inl (cI, 2001, .inl (upd (laid lf (mwF g n) t) t (nI (k2 - k))))), (a 17, .inl (cJ, 2001, .inr (.inl (vp_updL (laidL nf (mnbF g n) t) t 0))))] H := hP
                          have hD : va_D A [(h0, .inr (13, moF a (upd f 3 (nI n)) w)), (a 2, .inl (cB, 2000, .inl g)), (a 14, .inl (cI, 2001, .inl (upd (laid sf (msF g n) t) t (if k2 - k ≤ 12 then 1 else 3)))), (a 15, .inl (cI, 2001, .inl (upd (laid pf (fun i => nI (mlF g n i)) t) t (nI k)))), (a 16, .inl (cI, 2001, .inl (upd (laid lf (mwF g n) t) t (nI (k2 - k))))), (a 17, .inl (cJ, 2001, .inr (.inl (vp_updL (laidL nf (mnbF g n) t) t 0))))] := hD
                          have hge : k < k2 := weF_gt hkn c_8 hwe
                          have heq : mtF g n k = (k2, (if k2 - k ≤ 12 then 1 else 3), 0) := mtF_w c_8 hwe
                          obtain ⟨e1m, e2m, e3m, e4m⟩ := mt_next hmk heq
                          have hend : ∀ {z : Nat}, z = k2 → mlF g n (t + 1) = skB g n (n - z) z := fun e9 => by subst e9; unfold mlF; rw [e1m]
                          rw [show upd (laid sf (msF g n) t) t (if k2 - k ≤ 12 then 1 else 3) = laid sf (msF g n) (t + 1) from by rw [← e2m]; exact laid_s, show upd (laid pf (fun i => nI (mlF g n i)) t) t (nI k) = laid pf (fun i => nI (mlF g n i)) (t + 1) from by rw [← hmk]; exact laid_s (t := fun i => nI (mlF g n i)), show upd (laid lf (mwF g n) t) t (nI (k2 - k)) = laid lf (mwF g n) (t + 1) from by rw [← e4m]; exact laid_s, show vp_updL (laidL nf (mnbF g n) t) t 0 = laidL nf (mnbF g n) (t + 1) from by rw [← e3m]; exact laidL_s] at hP hD
                          have hP : va_P (dC, dI) vwCl [(h0, .inr (13, moF a (upd f 3 (nI n)) w)), (a 2, .inl (cB, 2000, .inl g)), (a 14, .inl (cI, 2001, .inl (laid sf (msF g n) (t + 1)))), (a 15, .inl (cI, 2001, .inl (laid pf (fun i => nI (mlF g n i)) (t + 1)))), (a 16, .inl (cI, 2001, .inl (laid lf (mwF g n) (t + 1)))), (a 17, .inl (cJ, 2001, .inr (.inl (laidL nf (mnbF g n) (t + 1)))))] H := hP
                          have hD : va_D A [(h0, .inr (13, moF a (upd f 3 (nI n)) w)), (a 2, .inl (cB, 2000, .inl g)), (a 14, .inl (cI, 2001, .inl (laid sf (msF g n) (t + 1)))), (a 15, .inl (cI, 2001, .inl (laid pf (fun i => nI (mlF g n i)) (t + 1)))), (a 16, .inl (cI, 2001, .inl (laid lf (mwF g n) (t + 1)))), (a 17, .inl (cJ, 2001, .inr (.inl (laidL nf (mnbF g n) (t + 1)))))] := hD
                          refine lv_iinc (v := nI (t + 1)) (lv' := [(2, .int (nI (t + 1))), (3, .int (nI k2)), (5, .int (nI k)), (4, .int (g k)), (1, .int (nI n)), (0, .ref h0)]) hx hb dX12_tokens_524 hl (k := 3) rfl (nI_add t 1) (by decide) rfl (fun ls hl => ?_)
                          refine lv_goto (tgt := 9) hx hb dX12_tokens_527 (by decide) ?_
                          exact ih_9 (t + 1) (k2) (by omega) (by omega) (hend rfl) hal2 (by omega) _ _ _ (hP.sub [0, 1, 2, 3, 4, 5] rfl) (hD.sub [0, 1, 2, 3, 4, 5] (by decide) rfl) hS (lv_sub hl [1, 0, 4, 5] rfl)
                        refine lv_iload_n hx hb dX12_tokens_121 rfl (lv_at hl 0 rfl) ?_
                        refine lv_iload hx hb dX12_tokens_122 (lv_at hl 1 rfl) ?_
                        refine lv_isub hx hb dX12_tokens_124 ?_
                        refine lv_topi (fun x_78 ex_78 => ?_)
                        have ex_78 : x_78 = nI (k2 - k) := ex_78.trans (pk_sub (a := k2) (b := k) (by omega))
                        subst ex_78
                        refine lv_bipush (v := 12) hx hb dX12_tokens_125 (by decide) ?_
                        refine lv_icmp_le (tgt := 134) hx hb dX12_tokens_127 (by decide) (fun c_79 => ?_) (fun c_79 => ?_)
                        · skip
                          have c_79 : k2 - k ≤ 12 := (nI_leI (a := k2 - k) (b := 12) (by omega) (by omega)).mp c_79
                          refine lv_iconst (v := 1) hx hb dX12_tokens_134 (by decide) ?_
                          exact W.eq (by rw [if_pos c_79]) (mg_76 _ _ hP hD hS)
                        · skip
                          have c_79 : ¬ (k2 - k ≤ 12) := fun h => c_79 ((nI_leI (a := k2 - k) (b := 12) (by omega) (by omega)).mpr h)
                          refine lv_iconst (v := 3) hx hb dX12_tokens_130 (by decide) ?_
                          refine lv_goto (tgt := 135) hx hb dX12_tokens_131 (by decide) ?_
                          exact W.eq (by rw [if_neg c_79]) (mg_76 _ _ hP hD hS)
                      · skip
                        have c_75 : ¬ (n ≤ k2) := fun h => c_75 ((nI_leI (a := n) (b := k2) (by omega) (by omega)).mpr h)
                        refine lv_aload_n hx hb dX12_tokens_86 rfl (lv_at hl 5 rfl) ?_
                        refine va_get (D := (dC, dI)) (ci := 13) (v := .ref (a 2)) (C := RX12) (T := TX12) (N := 115) hx hb hts (fun w h => List.mem_cons_of_mem _ (uG_X12 w h)) hown hK hP 0 rfl rfl 2 (by decide) (hts _ (List.mem_cons_of_mem _ kw_1693)) (fun _ h9 => h9) rfl dX12_tokens_87 ?_
                        refine lv_iload_n hx hb dX12_tokens_90 rfl (lv_at hl 0 rfl) ?_
                        refine va_bald hx hb hK hP 1 0 rfl rfl (i := (nI k2)) (vp_in_nI (n := k2) (N := 2000) (by omega) (by omega)) dX12_tokens_91 ?_
                        refine lv_topi (fun x_80 ex_80 => ?_)
                        have ex_80 : x_80 = g k2 := ex_80.trans (congrArg g (nI_clamp (n := k2) (by omega)))
                        subst ex_80
                        have hPc := hP.sub (ws' := []) [] rfl
                        have hDc := hD.sub (ws' := []) [] (by decide) rfl
                        have hKc := hK.sub (tys' := [(cB, .byte), (cI, .int), (cJ, .long), (cZ, .boolean)]) [0, 1, 2, 3] rfl
                        have hFc := va_free (wc := []) hD hS hA [] rfl
                        refine va_calli (va_runS (As := [.int (g k2)]) (rest := []) ⟨hx, hb, hml, hown, hts⟩ (t_X12_isLetter l dC dI H.size cB cI cJ cZ (g k2)) ⟨callB_of 1 hts (gd_all (in_I kc_X12_isLetter)) rfl rfl rfl (hts _ (List.mem_cons_of_mem _ kw_191)) (hts _ (List.mem_cons_of_mem _ kw_2229)) (by decide +kernel) ⟨Nat.le_of_ble_eq_true rfl, Nat.le_of_ble_eq_true rfl⟩, hts _ (List.mem_cons_of_mem _ kw_2230)⟩ ⟨fun a U g mk q => by obtain ⟨q0, q1, qP, qK, qD⟩ := q; exact ⟨q0, q1, qP, va_K.moved (u := U) (U := U.calling g mk a) (Vm.Alike.refl U.vm) qK, qD⟩, fun U hU hW => ⟨rfl, by rw [hU], by rw [hU]; exact hPc, va_K.moved hW.alike hKc, hDc.weaken (fun _ _ _ _ => trivial)⟩⟩ rfl rfl hl.1 rfl (lv_room (Nat.le_of_ble_eq_true rfl)) dX12_tokens_92 ⟨Nat.le_of_ble_eq_true rfl, Nat.le_of_ble_eq_true rfl⟩) hS (fun q _ h => hFc q h) hFc (fun r_81 u t_ H1 locs ht hvm hw hB hz1 hk1 hS => ?_)
                        obtain ⟨hP1, hK1, hD1⟩ := hB
                        rw [ht] at hP1
                        have hK1 := va_K.moved hvm.symm hK1
                        obtain ⟨hP, hD⟩ := va_join (wr := [(h0, .inr (13, moF a (upd f 3 (nI n)) w)), (a 2, .inl (cB, 2000, .inl g)), (a 14, .inl (cI, 2001, .inl (laid sf (msF g n) t))), (a 15, .inl (cI, 2001, .inl (upd (laid pf (fun i => nI (mlF g n i)) t) t (nI k)))), (a 16, .inl (cI, 2001, .inl (laid lf (mwF g n) t))), (a 17, .inl (cJ, 2001, .inr (.inl (vp_updL (laidL nf (mnbF g n) t) t 0))))]) (w1 := []) hP hD [] [0, 1, 2, 3, 4, 5] rfl rfl (by decide) (by decide) hk1 hFc hP1 hD1
                        have hK := (hK.sub (tys' := []) [] rfl).app hK1
                        generalize H1 = H at hP hS ⊢
                        have hP : va_P (dC, dI) vwCl [(h0, .inr (13, moF a (upd f 3 (nI n)) w)), (a 2, .inl (cB, 2000, .inl g)), (a 14, .inl (cI, 2001, .inl (laid sf (msF g n) t))), (a 15, .inl (cI, 2001, .inl (upd (laid pf (fun i => nI (mlF g n i)) t) t (nI k)))), (a 16, .inl (cI, 2001, .inl (laid lf (mwF g n) t))), (a 17, .inl (cJ, 2001, .inr (.inl (vp_updL (laidL nf (mnbF g n) t) t 0))))] H := hP
                        have hD : va_D A [(h0, .inr (13, moF a (upd f 3 (nI n)) w)), (a 2, .inl (cB, 2000, .inl g)), (a 14, .inl (cI, 2001, .inl (laid sf (msF g n) t))), (a 15, .inl (cI, 2001, .inl (upd (laid pf (fun i => nI (mlF g n i)) t) t (nI k)))), (a 16, .inl (cI, 2001, .inl (laid lf (mwF g n) t))), (a 17, .inl (cJ, 2001, .inr (.inl (vp_updL (laidL nf (mnbF g n) t) t 0))))] := hD
                        have hK : va_K (dC, dI) vwCl [(cB, .byte), (cI, .int), (cJ, .long), (cZ, .boolean)] s := hK
                        have er_81 : r_81 = ltI (g k2) := hw
                        rw [er_81]
                        refine lv_if_ne (tgt := 110) hx hb dX12_tokens_95 (by decide) (fun c_82 => ?_) (fun c_82 => ?_)
                        · skip
                          refine lv_iinc (v := nI (k2 + 1)) (lv' := [(3, .int (nI (k2 + 1))), (5, .int (nI k)), (4, .int (g k)), (2, .int (nI t)), (1, .int (nI n)), (0, .ref h0)]) hx hb dX12_tokens_110 hl (k := 0) rfl (nI_add k2 1) (by decide) rfl (fun ls hl => ?_)
                          refine lv_goto (tgt := 81) hx hb dX12_tokens_113 (by decide) ?_
                          exact ih_81 (k2 + 1) (by omega) (by omega) (hw2.trans (weF_s c_75 (alI_l c_82))) (by omega) _ _ _ (hP.sub [0, 1, 2, 3, 4, 5] rfl) (hD.sub [0, 1, 2, 3, 4, 5] (by decide) rfl) hS (lv_sub hl [0, 1, 2, 3, 4, 5] rfl)
                        · skip
                          refine lv_aload_n hx hb dX12_tokens_98 rfl (lv_at hl 5 rfl) ?_
                          refine va_get (D := (dC, dI)) (ci := 13) (v := .ref (a 2)) (C := RX12) (T := TX12) (N := 115) hx hb hts (fun w h => List.mem_cons_of_mem _ (uG_X12 w h)) hown hK hP 0 rfl rfl 2 (by decide) (hts _ (List.mem_cons_of_mem _ kw_1693)) (fun _ h9 => h9) rfl dX12_tokens_99 ?_
                          refine lv_iload_n hx hb dX12_tokens_102 rfl (lv_at hl 0 rfl) ?_
                          refine va_bald hx hb hK hP 1 0 rfl rfl (i := (nI k2)) (vp_in_nI (n := k2) (N := 2000) (by omega) (by omega)) dX12_tokens_103 ?_
                          refine lv_topi (fun x_83 ex_83 => ?_)
                          have ex_83 : x_83 = g k2 := ex_83.trans (congrArg g (nI_clamp (n := k2) (by omega)))
                          subst ex_83
                          have hPc := hP.sub (ws' := []) [] rfl
                          have hDc := hD.sub (ws' := []) [] (by decide) rfl
                          have hKc := hK.sub (tys' := [(cB, .byte), (cI, .int), (cJ, .long), (cZ, .boolean)]) [0, 1, 2, 3] rfl
                          have hFc := va_free (wc := []) hD hS hA [] rfl
                          refine va_calli (va_runS (As := [.int (g k2)]) (rest := []) ⟨hx, hb, hml, hown, hts⟩ (t_X12_isDigit l dC dI H.size cB cI cJ cZ (g k2)) ⟨callB_of 1 hts (gd_all (in_I kc_X12_isDigit)) rfl rfl rfl (hts _ (List.mem_cons_of_mem _ kw_191)) (hts _ (List.mem_cons_of_mem _ kw_2232)) (by decide +kernel) ⟨Nat.le_of_ble_eq_true rfl, Nat.le_of_ble_eq_true rfl⟩, hts _ (List.mem_cons_of_mem _ kw_2233)⟩ ⟨fun a U g mk q => by obtain ⟨q0, q1, qP, qK, qD⟩ := q; exact ⟨q0, q1, qP, va_K.moved (u := U) (U := U.calling g mk a) (Vm.Alike.refl U.vm) qK, qD⟩, fun U hU hW => ⟨rfl, by rw [hU], by rw [hU]; exact hPc, va_K.moved hW.alike hKc, hDc.weaken (fun _ _ _ _ => trivial)⟩⟩ rfl rfl hl.1 rfl (lv_room (Nat.le_of_ble_eq_true rfl)) dX12_tokens_104 ⟨Nat.le_of_ble_eq_true rfl, Nat.le_of_ble_eq_true rfl⟩) hS (fun q _ h => hFc q h) hFc (fun r_84 u t_ H1 locs ht hvm hw hB hz1 hk1 hS => ?_)
                          obtain ⟨hP1, hK1, hD1⟩ := hB
                          rw [ht] at hP1
                          have hK1 := va_K.moved hvm.symm hK1
                          obtain ⟨hP, hD⟩ := va_join (wr := [(h0, .inr (13, moF a (upd f 3 (nI n)) w)), (a 2, .inl (cB, 2000, .inl g)), (a 14, .inl (cI, 2001, .inl (laid sf (msF g n) t))), (a 15, .inl (cI, 2001, .inl (upd (laid pf (fun i => nI (mlF g n i)) t) t (nI k)))), (a 16, .inl (cI, 2001, .inl (laid lf (mwF g n) t))), (a 17, .inl (cJ, 2001, .inr (.inl (vp_updL (laidL nf (mnbF g n) t) t 0))))]) (w1 := []) hP hD [] [0, 1, 2, 3, 4, 5] rfl rfl (by decide) (by decide) hk1 hFc hP1 hD1
                          have hK := (hK.sub (tys' := []) [] rfl).app hK1
                          generalize H1 = H at hP hS ⊢
                          have hP : va_P (dC, dI) vwCl [(h0, .inr (13, moF a (upd f 3 (nI n)) w)), (a 2, .inl (cB, 2000, .inl g)), (a 14, .inl (cI, 2001, .inl (laid sf (msF g n) t))), (a 15, .inl (cI, 2001, .inl (upd (laid pf (fun i => nI (mlF g n i)) t) t (nI k)))), (a 16, .inl (cI, 2001, .inl (laid lf (mwF g n) t))), (a 17, .inl (cJ, 2001, .inr (.inl (vp_updL (laidL nf (mnbF g n) t) t 0))))] H := hP
                          have hD : va_D A [(h0, .inr (13, moF a (upd f 3 (nI n)) w)), (a 2, .inl (cB, 2000, .inl g)), (a 14, .inl (cI, 2001, .inl (laid sf (msF g n) t))), (a 15, .inl (cI, 2001, .inl (upd (laid pf (fun i => nI (mlF g n i)) t) t (nI k)))), (a 16, .inl (cI, 2001, .inl (laid lf (mwF g n) t))), (a 17, .inl (cJ, 2001, .inr (.inl (vp_updL (laidL nf (mnbF g n) t) t 0))))] := hD
                          have hK : va_K (dC, dI) vwCl [(cB, .byte), (cI, .int), (cJ, .long), (cZ, .boolean)] s := hK
                          have er_84 : r_84 = dgI (g k2) := hw
                          rw [er_84]
                          refine lv_if_eq (tgt := 116) hx hb dX12_tokens_107 (by decide) (fun c_85 => ?_) (fun c_85 => ?_)
                          · skip
                            have hwe : weF g n (n - k) k = k2 := hw2.trans (weF_z c_75 (alI_z c_82 c_85))
                            refine lv_aload_n hx hb dX12_tokens_116 rfl (lv_at hl 5 rfl) ?_
                            refine va_get (D := (dC, dI)) (ci := 13) (v := .ref (a 14)) (C := RX12) (T := TX12) (N := 115) hx hb hts (fun w h => List.mem_cons_of_mem _ (uG_X12 w h)) hown hK hP 0 rfl rfl 14 (by decide) (hts _ (List.mem_cons_of_mem _ kw_1705)) (fun _ h9 => h9) rfl dX12_tokens_117 ?_
                            refine lv_iload_n hx hb dX12_tokens_120 rfl (lv_at hl 3 rfl) ?_
                            have mg_86 : ∀ (H : Heap) (locs : List Loc), va_P (dC, dI) vwCl [(h0, .inr (13, moF a (upd f 3 (nI n)) w)), (a 2, .inl (cB, 2000, .inl g)), (a 14, .inl (cI, 2001, .inl (laid sf (msF g n) t))), (a 15, .inl (cI, 2001, .inl (upd (laid pf (fun i => nI (mlF g n i)) t) t (nI k)))), (a 16, .inl (cI, 2001, .inl (laid lf (mwF g n) t))), (a 17, .inl (cJ, 2001, .inr (.inl (vp_updL (laidL nf (mnbF g n) t) t 0))))] H → va_D A [(h0, .inr (13, moF a (upd f 3 (nI n)) w)), (a 2, .inl (cB, 2000, .inl g)), (a 14, .inl (cI, 2001, .inl (laid sf (msF g n) t))), (a 15, .inl (cI, 2001, .inl (upd (laid pf (fun i => nI (mlF g n i)) t) t (nI k)))), (a 16, .inl (cI, 2001, .inl (laid lf (mwF g n) t))), (a 17, .inl (cJ, 2001, .inr (.inl (vp_updL (laidL nf (mnbF g n) t) t 0))))] → va_S A s.heap H locs → W p l e (headSpec (wsOf yX12_tokens cX12_tokens 9 none) ({ frames := 1, cells := 0, slots := 0, locals := 60 })).room s m ([.ref h0] : List Value).toArray below meth c H locs 0 0 (MQ below (qc_t_X12_tokens dC dI cB cI cJ cZ h0 a f w n g sf pf lf nf A) ([.ref h0] : List Value).toArray s 0 0 A) (F0 m 135 ls [.int (if k2 - k ≤ 12 then 1 else 3), .int (nI t), .ref (a 14)]) := by
                              intro H locs hP hD hS
                              refine va_iast hx hb hK hP hD hS 2 1 rfl rfl (i := (nI t)) (x := (if k2 - k ≤ 12 then 1 else 3)) (vp_in_nI (n := t) (N := 2001) (by omega) (by omega)) dX12_tokens_135 (fun H locs hP hD hS => ?_)
                              rw [show (nI t).toNatClampNeg = t from nI_clamp (n := t) (by omega)] at hP hD
                              have hP : va_P (dC, dI) vwCl [(h0, .inr (13, moF a (upd f 3 (nI n)) w)), (a 2, .inl (cB, 2000, .inl g)), (a 14, .inl (cI, 2001, .inl (upd (laid sf (msF g n) t) t (if k2 - k ≤ 12 then 1 else 3)))), (a 15, .inl (cI, 2001, .inl (upd (laid pf (fun i => nI (mlF g n i)) t) t (nI k)))), (a 16, .inl (cI, 2001, .inl (laid lf (mwF g n) t))), (a 17, .inl (cJ, 2001, .inr (.inl (vp_updL (laidL nf (mnbF g n) t) t 0))))] H := hP
                              have hD : va_D A [(h0, .inr (13, moF a (upd f 3 (nI n)) w)), (a 2, .inl (cB, 2000, .inl g)), (a 14, .inl (cI, 2001, .inl (upd (laid sf (msF g n) t) t (if k2 - k ≤ 12 then 1 else 3)))), (a 15, .inl (cI, 2001, .inl (upd (laid pf (fun i => nI (mlF g n i)) t) t (nI k)))), (a 16, .inl (cI, 2001, .inl (laid lf (mwF g n) t))), (a 17, .inl (cJ, 2001, .inr (.inl (vp_updL (laidL nf (mnbF g n) t) t 0))))] := hD
                              refine lv_goto (tgt := 514) hx hb dX12_tokens_136 (by decide) ?_
                              refine lv_aload_n hx hb dX12_tokens_514 rfl (lv_at hl 5 rfl) ?_
                              refine va_get (D := (dC, dI)) (ci := 13) (v := .ref (a 16)) (C := RX12) (T := TX12) (N := 115) hx hb hts (fun w h => List.mem_cons_of_mem _ (uG_X12 w h)) hown hK hP 0 rfl rfl 16 (by decide) (hts _ (List.mem_cons_of_mem _ kw_1707)) (fun _ h9 => h9) rfl dX12_tokens_515 ?_
                              refine lv_iload_n hx hb dX12_tokens_518 rfl (lv_at hl 3 rfl) ?_
                              refine lv_iload_n hx hb dX12_tokens_519 rfl (lv_at hl 0 rfl) ?_
                              refine lv_iload hx hb dX12_tokens_520 (lv_at hl 1 rfl) ?_
                              refine lv_isub hx hb dX12_tokens_522 ?_
                              refine lv_topi (fun x_87 ex_87 => ?_)
                              have ex_87 : x_87 = nI (k2 - k) := ex_87.trans (pk_sub (a := k2) (b := k) (by omega))
                              subst ex_87
                              refine va_iast hx hb hK hP hD hS 4 1 rfl rfl (i := (nI t)) (x := (nI (k2 - k))) (vp_in_nI (n := t) (N := 2001) (by omega) (by omega)) dX12_tokens_523 (fun H locs hP hD hS => ?_)
                              rw [show (nI t).toNatClampNeg = t from nI_clamp (n := t) (by omega)] at hP hD
                              have hP : va_P (dC, dI) vwCl [(h0, .inr (13, moF a (upd f 3 (nI n)) w)), (a 2, .inl (cB, 2000, .inl g)), (a 14, .inl (cI, 2001, .inl (upd (laid sf (msF g n) t) t (if k2 - k ≤ 12 then 1 else 3)))), (a 15, .inl (cI, 2001, .inl (upd (laid pf (fun i => nI (mlF g n i)) t) t (nI k)))), (a 16, .inl (cI, 2001, .inl (upd (laid lf (mwF g n) t) t (nI (k2 - k))))), (a 17, .inl (cJ, 2001, .inr (.inl (vp_updL (laidL nf (mnbF g n) t) t 0))))] H := hP
                              have hD : va_D A [(h0, .inr (13, moF a (upd f 3 (nI n)) w)), (a 2, .inl (cB, 2000, .inl g)), (a 14, .inl (cI, 2001, .inl (upd (laid sf (msF g n) t) t (if k2 - k ≤ 12 then 1 else 3)))), (a 15, .inl (cI, 2001, .inl (upd (laid pf (fun i => nI (mlF g n i)) t) t (nI k)))), (a 16, .inl (cI, 2001, .inl (upd (laid lf (mwF g n) t) t (nI (k2 - k))))), (a 17, .inl (cJ, 2001, .inr (.inl (vp_updL (laidL nf (mnbF g n) t) t 0))))] := hD
                              have hge : k < k2 := weF_gt hkn c_8 hwe
                              have heq : mtF g n k = (k2, (if k2 - k ≤ 12 then 1 else 3), 0) := mtF_w c_8 hwe
                              obtain ⟨e1m, e2m, e3m, e4m⟩ := mt_next hmk heq
                              have hend : ∀ {z : Nat}, z = k2 → mlF g n (t + 1) = skB g n (n - z) z := fun e9 => by subst e9; unfold mlF; rw [e1m]
                              rw [show upd (laid sf (msF g n) t) t (if k2 - k ≤ 12 then 1 else 3) = laid sf (msF g n) (t + 1) from by rw [← e2m]; exact laid_s, show upd (laid pf (fun i => nI (mlF g n i)) t) t (nI k) = laid pf (fun i => nI (mlF g n i)) (t + 1) from by rw [← hmk]; exact laid_s (t := fun i => nI (mlF g n i)), show upd (laid lf (mwF g n) t) t (nI (k2 - k)) = laid lf (mwF g n) (t + 1) from by rw [← e4m]; exact laid_s, show vp_updL (laidL nf (mnbF g n) t) t 0 = laidL nf (mnbF g n) (t + 1) from by rw [← e3m]; exact laidL_s] at hP hD
                              have hP : va_P (dC, dI) vwCl [(h0, .inr (13, moF a (upd f 3 (nI n)) w)), (a 2, .inl (cB, 2000, .inl g)), (a 14, .inl (cI, 2001, .inl (laid sf (msF g n) (t + 1)))), (a 15, .inl (cI, 2001, .inl (laid pf (fun i => nI (mlF g n i)) (t + 1)))), (a 16, .inl (cI, 2001, .inl (laid lf (mwF g n) (t + 1)))), (a 17, .inl (cJ, 2001, .inr (.inl (laidL nf (mnbF g n) (t + 1)))))] H := hP
                              have hD : va_D A [(h0, .inr (13, moF a (upd f 3 (nI n)) w)), (a 2, .inl (cB, 2000, .inl g)), (a 14, .inl (cI, 2001, .inl (laid sf (msF g n) (t + 1)))), (a 15, .inl (cI, 2001, .inl (laid pf (fun i => nI (mlF g n i)) (t + 1)))), (a 16, .inl (cI, 2001, .inl (laid lf (mwF g n) (t + 1)))), (a 17, .inl (cJ, 2001, .inr (.inl (laidL nf (mnbF g n) (t + 1)))))] := hD
                              refine lv_iinc (v := nI (t + 1)) (lv' := [(2, .int (nI (t + 1))), (3, .int (nI k2)), (5, .int (nI k)), (4, .int (g k)), (1, .int (nI n)), (0, .ref h0)]) hx hb dX12_tokens_524 hl (k := 3) rfl (nI_add t 1) (by decide) rfl (fun ls hl => ?_)
                              refine lv_goto (tgt := 9) hx hb dX12_tokens_527 (by decide) ?_
                              exact ih_9 (t + 1) (k2) (by omega) (by omega) (hend rfl) hal2 (by omega) _ _ _ (hP.sub [0, 1, 2, 3, 4, 5] rfl) (hD.sub [0, 1, 2, 3, 4, 5] (by decide) rfl) hS (lv_sub hl [1, 0, 4, 5] rfl)
                            refine lv_iload_n hx hb dX12_tokens_121 rfl (lv_at hl 0 rfl) ?_
                            refine lv_iload hx hb dX12_tokens_122 (lv_at hl 1 rfl) ?_
                            refine lv_isub hx hb dX12_tokens_124 ?_
                            refine lv_topi (fun x_88 ex_88 => ?_)
                            have ex_88 : x_88 = nI (k2 - k) := ex_88.trans (pk_sub (a := k2) (b := k) (by omega))
                            subst ex_88
                            refine lv_bipush (v := 12) hx hb dX12_tokens_125 (by decide) ?_
                            refine lv_icmp_le (tgt := 134) hx hb dX12_tokens_127 (by decide) (fun c_89 => ?_) (fun c_89 => ?_)
                            · skip
                              have c_89 : k2 - k ≤ 12 := (nI_leI (a := k2 - k) (b := 12) (by omega) (by omega)).mp c_89
                              refine lv_iconst (v := 1) hx hb dX12_tokens_134 (by decide) ?_
                              exact W.eq (by rw [if_pos c_89]) (mg_86 _ _ hP hD hS)
                            · skip
                              have c_89 : ¬ (k2 - k ≤ 12) := fun h => c_89 ((nI_leI (a := k2 - k) (b := 12) (by omega) (by omega)).mpr h)
                              refine lv_iconst (v := 3) hx hb dX12_tokens_130 (by decide) ?_
                              refine lv_goto (tgt := 135) hx hb dX12_tokens_131 (by decide) ?_
                              exact W.eq (by rw [if_neg c_89]) (mg_86 _ _ hP hD hS)
                          · skip
                            refine lv_iinc (v := nI (k2 + 1)) (lv' := [(3, .int (nI (k2 + 1))), (5, .int (nI k)), (4, .int (g k)), (2, .int (nI t)), (1, .int (nI n)), (0, .ref h0)]) hx hb dX12_tokens_110 hl (k := 0) rfl (nI_add k2 1) (by decide) rfl (fun ls hl => ?_)
                            refine lv_goto (tgt := 81) hx hb dX12_tokens_113 (by decide) ?_
                            exact ih_81 (k2 + 1) (by omega) (by omega) (hw2.trans (weF_s c_75 (alI_d c_82 c_85))) (by omega) _ _ _ (hP.sub [0, 1, 2, 3, 4, 5] rfl) (hD.sub [0, 1, 2, 3, 4, 5] (by decide) rfl) hS (lv_sub hl [0, 1, 2, 3, 4, 5] rfl)
                  exact lp_81 _ k (Nat.le_refl _) (by omega) rfl (Nat.lt_succ_self _) _ _ _ (hP.sub [0, 1, 2, 3, 4, 5] rfl) (hD.sub [0, 1, 2, 3, 4, 5] (by decide) rfl) hS (lv_sub hl [2, 0, 1, 3, 4, 5] rfl)
              · skip
                have hbk : ¬ bkI (g k) = 0 := by unfold bkI; rw [if_neg c_3, if_neg c_4, if_neg c_5, if_pos c_6]; decide
                refine lv_iinc (v := nI (k + 1)) (lv' := [(3, .int (nI (k + 1))), (4, .int (g k)), (2, .int (nI t)), (1, .int (nI n)), (0, .ref h0)]) hx hb dX12_tokens_50 hl (k := 1) rfl (nI_add k 1) (by decide) rfl (fun ls hl => ?_)
                refine lv_goto (tgt := 527) hx hb dX12_tokens_53 (by decide) ?_
                refine lv_goto (tgt := 9) hx hb dX12_tokens_527 (by decide) ?_
                exact ih_9 t (k + 1) (by omega) (by omega) (hsk.trans (skB_n c_1 hbk)) hall (by omega) _ _ _ (hP.sub [0, 1, 2, 3, 4, 5] rfl) (hD.sub [0, 1, 2, 3, 4, 5] (by decide) rfl) hS (lv_sub hl [0, 2, 3, 4] rfl)
  exact lp_9 _ 0 0 (Nat.le_refl _) (Nat.zero_le _) rfl (fun _ h => absurd h (Nat.not_lt_zero _)) (Nat.lt_succ_self _) _ _ _ (hP.sub [0, 1, 2, 3, 4, 5] rfl) (hD.sub [0, 1, 2, 3, 4, 5] (by decide) rfl) hS (lv_sub hl [0, 1, 2, 3] rfl)


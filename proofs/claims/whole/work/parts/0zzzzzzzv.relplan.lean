/-! the reference: a QUERY within QUERIES -/
abbrev PLN : Type := Nat → Nat → Nat → Nat → LL → Prop
/-- how a SOURCE is run -/
def PSR (rs : RS) (pq : PLN) (o w C k : Nat) (rows : LL) : Prop := (∃ s n, s < 6 ∧ n ≤ 4 ∧ rs.2.2.1 49 o = nI s ∧ rs.2.2.1 5 s = nI n ∧ w = n + 1 ∧ C = 8 * (n + 1) ∧ k = 1 ∧ rows = leafL rs o s n) ∨ (rs.2.2.1 49 o = -1 ∧ ∃ q, rs.2.2.1 53 o = nI q ∧ pq q w C k rows)
/-- how a SELECT is run -/
def PSL (F : Nat) (rs : RS) (pq : PLN) (e mi C k : Nat) (rows : LL) : Prop := ∃ (ns M Wd ng : Nat) (gr gb di : Bool) (wh hp : OVF) (pv kv : Nat → List OV → OV) (hv : OGF) (gv : Nat → List OV → LL → OV) (src : Nat → LL) (ou : Nat → Bool) (on : Nat → List OV → OV) (w c kk : Nat → Nat), ns + 1 ≤ 3 ∧ SLM F e (wid w ns) mi gr gb di ng wh hp pv kv hv gv rs ∧ rs.2.2.1 37 e = nI (ns + 1) ∧ (∀ i, i < ns + 1 → PSR rs pq (3 * e + i) (w i) (c i) (kk i) (src i)) ∧ (∀ i, 1 ≤ i → i < ns + 1 → ∃ rt, rs.2.2.1 58 (3 * e + i) = nI rt ∧ (ou i = true ↔ rs.2.2.1 56 (3 * e + i) ≠ 0) ∧ EXV F (wid w i) rt (on i) rs) ∧ (∀ i, i < ns + 1 → wid w i ≤ Wd) ∧ Wd ≤ 100 ∧ (∀ i, i < ns + 1 → prd src i ≤ M) ∧ M ≤ 600 ∧ C = c 0 + csm (fun j => c j + M * Wd) 0 ns + 2 * (M * Wd) + 3 * ((M + 1) * 8) ∧ k = kk 0 + csm (fun j => kk j + 1) 0 ns + 5 ∧ rows = selR mi gr gb di ng wh hp pv kv hv gv (jnL src ou on w ns)
/-- how a QUERY is run -/
def PQY (F : Nat) (rs : RS) (ps : PLN) (q w C k : Nat) (rows : LL) : Prop := ∃ (nq M : Nat) (od : ODT) (sel : Nat → LL) (op c kk : Nat → Nat), q < 60 ∧ w ≤ 8 ∧ nq + 1 ≤ 5 ∧ rs.2.2.1 60 q = nI (nq + 1) ∧ (∀ i, i < nq + 1 → ∃ e, rs.2.2.1 61 (5 * q + i) = nI e ∧ ps e w (c i) (kk i) (sel i)) ∧ (∀ i, 1 ≤ i → i < nq + 1 → rs.2.2.1 62 (5 * q + i) = nI (op i) ∧ 1 ≤ op i ∧ op i ≤ 4) ∧ ODM F q w od rs ∧ (∀ i, i < nq + 1 → smL sel i ≤ M) ∧ M ≤ 600 ∧ C = c 0 + csm (fun j => c j + M * 8) 0 nq + odc od M ∧ k = kk 0 + csm (fun j => kk j + 1) 0 nq + 2 ∧ rows = odL od (stL sel op nq)
def PQ (F : Nat) (rs : RS) : Nat → PLN
  | 0 => fun _ _ _ _ _ => False
  | d + 1 => PQY F rs (PSL F rs (PQ F rs d))
theorem PQ.run {F : Nat} {rs : RS} (hF : 10000 ≤ F) (f9 : ∀ i, rs.2.2.1 9 i = 0 ∨ rs.2.2.1 9 i = 1) : ∀ (d q w C k : Nat) (rows : LL), PQ F rs d q w C k rows → ∀ n, 3 * d ≤ n → QYR (tab_workQuery F n) rs q w C k rows
  | 0, _, _, _, _, _, h, _, _ => h.elim
  | d + 1, q, w, C, k, rows, h, n, hn => by
    obtain ⟨n, rfl⟩ : ∃ z, n = z + 3 := ⟨n - 3, by omega⟩
    have ih := fun (q w C k : Nat) (rows : LL) (p : PQ F rs d q w C k rows) => PQ.run hF f9 d q w C k rows p n (by omega)
    have src : ∀ (o w C k : Nat) (rows : LL), o < 180 → PSR rs (PQ F rs d) o w C k rows → SRM (tab_workQuery F (n + 1)) rs o w C k rows := fun o w C k rows ho p X U N fr z97 st hU hN => by
      show OUTC U N w C k rows X (b_workSource F (tab_workQuery F n) X (nI o))
      rcases p with ⟨s, m, p1, p2, p3, p4, p5, p6, p7, p8⟩ | ⟨p1, q', p2, p3⟩
      · rw [p5, p6, p7, p8]
        rw [p6] at hU
        rw [p7] at hN
        exact (wleaf_o hF ho p1 p2 f9 p3 p4 fr z97 st hU hN).1
      · exact winn_o ho p1 p2 (ih q' w C k rows p3) fr z97 st hU hN
    have sel : ∀ (e w C k : Nat) (rows : LL), PSL F rs (PQ F rs d) e w C k rows → SLR (tab_workQuery F (n + 2)) rs e w C k rows := fun e mi C k rows p X U N fr z97 st hU hN => by
      show OUTC U N mi C k rows X (b_workSelect F (tab_workQuery F (n + 1)) X (nI e))
      obtain ⟨ns, M, Wd, ng, gr, gb, di, wh, hp, pv, kv, hv, gv, sr, ou, on, w, c, kk, p1, p2, p3, p4, p5, p6, p7, p8, p9, p10, p11, p12⟩ := p
      have he := p2.he
      rw [p10] at hU
      rw [p11] at hN
      rw [p10, p11, p12]
      exact wsel_o hF p1 p2 p3 (fun i hi => src _ _ _ _ _ (by omega) (p4 i hi)) p5 p6 p7 p8 p9 fr z97 st hU hN
    obtain ⟨nq, M, od, se, op, c, kk, p1, p2, p3, p4, p5, p6, p7, p8, p9, p10, p11, p12⟩ : PQY F rs (PSL F rs (PQ F rs d)) q w C k rows := h
    intro X U N fr z97 st hU hN
    show OUTC U N w C k rows X (b_workQuery F (tab_workQuery F (n + 2)) X (nI q))
    rw [p10] at hU
    rw [p11] at hN
    rw [p10, p11, p12]
    exact wqry_o hF p1 p2 p3 p4 (fun i hi => by
      obtain ⟨e, e1, e2⟩ := p5 i hi
      exact ⟨e, e1, sel e _ _ _ _ e2⟩) p6 p7 p8 p9 fr z97 st hU hN

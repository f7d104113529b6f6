/-! How long codes are. -/
def pp_L (N b : Nat) (r : tR) : Prop := ∀ q, r = .ok q → q.1.length + b ≤ q.2 ∧ b < q.2 ∧ q.2 ≤ N
theorem pl_len {t : Nat → Nat} {N : Nat} {item : Nat → tR} {op : Nat → Option Nat} (hit : ∀ b, b ≤ N → pp_L N b (item b)) (hop : op 301 = none) : ∀ (n b : Nat) (pend : List Nat) (q : List Nat × Nat), b ≤ N → pl_loop t N item op n pend b = .ok q → q.1.length + b ≤ q.2 + pend.length ∧ b < q.2 ∧ q.2 ≤ N
  | 0, b, pend, q, hb, h => by cases h
  | n + 1, b, pend, q, hb, h => by
    obtain ⟨q1, C3, e1, e2, e3⟩ := pl_loop_ok h
    obtain ⟨h1, h2, h3⟩ := hit b hb q1 e1
    rcases e3 with ⟨-, hC, hq⟩ | ⟨o, ho, e3⟩
    · rw [e2, hC, hq]
      simp only [List.length_append, List.length_nil]
      omega
    · have hk : tk_k t N q1.2 ≠ 301 := fun y => by rw [y, hop] at ho; cases ho
      have hgt := tk_e_gt h3 hk
      obtain ⟨i1, i2, i3⟩ := pl_len hit hop n (tk_e t N q1.2) [o] (C3, q.2) (tk_e_sp t h3).2.1 e3
      simp only [List.length_cons, List.length_nil] at i1 i2 i3
      rw [e2]
      simp only [List.length_append]
      omega
theorem pp_len {t : Nat → Nat} {N use : Nat} (ht : ∀ i, t i < 256) : ∀ (k g d b : Nat), b ≤ N → pp_L N b (pp t N use k g d b)
  | 0, g, d, b, hb => fun q hq => by cases hq
  | k + 1, g, d, b, hb => by
    have ih := fun g d b hb => pp_len (t := t) (N := N) (use := use) ht k g d b hb
    have eP : pp t N use (k + 1) g d b = pp_st t N use (fun g d b => pp t N use k g d b) g d b := rfl
    intro q hq
    rw [eP] at hq
    unfold pp_st at hq
    have hE : ∀ b, b ≤ N → tk_k t N b ≠ 301 → b < tk_e t N b ∧ tk_e t N b ≤ N := fun b hb hk => ⟨(tk_e_gt hb hk).1, (tk_e_sp t hb).2.1⟩
    have lp : ∀ (g1 : Nat) (op : Nat → Option Nat), op 301 = none → pl_loop t N (fun b => pp t N use k g1 d b) op (N + 1) [] b = .ok q → q.1.length + b ≤ q.2 ∧ b < q.2 ∧ q.2 ≤ N := fun g1 op ho h => by
      have := pl_len (fun b hb => ih g1 d b hb) ho (N + 1) b [] q hb h
      simpa using this
    split at hq
    · exact lp 1 pp_o0 rfl hq
    · split at hq
      · exact lp 2 pp_o1 rfl hq
      · split at hq
        · -- fact
          unfold pp_fact at hq
          split at hq
          · next c =>
            split at hq
            · cases hq
            · obtain ⟨q1, C2, e1, e2, e3⟩ := pp_sq_ok hq
              obtain ⟨k1, e4⟩ := pp_exp_ok e2
              have e5 := Except.ok.inj e4
              obtain ⟨a1, a2⟩ := hE b hb (by omega)
              obtain ⟨b1, b2, b3⟩ := ih 0 (d + 1) (tk_e t N b) a2 q1 e1
              obtain ⟨c1, c2⟩ := hE q1.2 b3 (by omega)
              have hC2 : C2 = [] := (congrArg Prod.fst e5).symm
              have hq2 : q.2 = tk_e t N q1.2 := (congrArg Prod.snd e5).symm
              rw [e3, hC2, hq2]
              simp only [List.length_append, List.length_nil]
              omega
          · split at hq
            · next c1 c =>
              split at hq
              · cases hq
              · obtain ⟨q1, C2, e1, e2, e3⟩ := pp_sq_ok hq
                have e5 := Except.ok.inj e2
                obtain ⟨a1, a2⟩ := hE b hb (by omega)
                obtain ⟨b1, b2, b3⟩ := ih 2 (d + 1) (tk_e t N b) a2 q1 e1
                have hC2 : C2 = [12] := (congrArg Prod.fst e5).symm
                have hq2 : q.2 = q1.2 := (congrArg Prod.snd e5).symm
                rw [e3, hC2, hq2]
                simp only [List.length_append, List.length_cons, List.length_nil]
                omega
            · split at hq
              · next c1 c2 c =>
                obtain ⟨a1, a2⟩ := hE b hb (by omega)
                rw [← Except.ok.inj hq]
                simp only [List.length_cons, List.length_nil]
                omega
              · obtain ⟨q1, C2, e1, e2, e3⟩ := pp_sq_ok hq
                obtain ⟨b1, b2, b3⟩ := ih 3 d b hb q1 e1
                cases hsg : pp_sg (tk_k t N q1.2) with
                | none =>
                  rw [hsg] at e2
                  cases e2
                | some o =>
                  rw [hsg] at e2
                  (try dsimp only at e2)
                  have hso := pp_sgc hsg
                  obtain ⟨a1, a2⟩ := hE q1.2 b3 (by omega)
                  obtain ⟨q3, C3, e4, e5, e6⟩ := pp_sq_ok e2
                  have e6 : C2 = q3.1 ++ C3 := e6
                  have e7 := Except.ok.inj e5
                  have hC3 : C3 = [o] := (congrArg Prod.fst e7).symm
                  have hq2 : q.2 = q3.2 := (congrArg Prod.snd e7).symm
                  obtain ⟨d1, d2, d3⟩ := ih 3 d (tk_e t N q1.2) a2 q3 e4
                  rw [e3, e6, hC3, hq2]
                  simp only [List.length_append, List.length_cons, List.length_nil]
                  omega
        · split at hq
          · exact lp 4 pp_o3 rfl hq
          · split at hq
            · exact lp 5 pp_o4 rfl hq
            · -- part
              have mm : ∀ b1 o, b1 ≤ N → b < b1 → pp_mm t N (fun g d b => pp t N use k g d b) d b1 o = .ok q → q.1.length + b ≤ q.2 ∧ b < q.2 ∧ q.2 ≤ N := fun b1 o hb1 hbb h => by
                unfold pp_mm at h
                split at h
                · next c =>
                  split at h
                  · cases h
                  · obtain ⟨q1, C2, e1, e2, e3⟩ := pp_sq_ok h
                    obtain ⟨k1, e4⟩ := pp_exp_ok e2
                    obtain ⟨q3, C3, e5, e6, e7⟩ := pp_sq_ok e4
                    obtain ⟨k2, e8⟩ := pp_exp_ok e6
                    have e9 := Except.ok.inj e8
                    have e7 : C2 = q3.1 ++ C3 := e7
                    have hC3 : C3 = [o] := (congrArg Prod.fst e9).symm
                    have hq2 : q.2 = tk_e t N q3.2 := (congrArg Prod.snd e9).symm
                    obtain ⟨a1, a2⟩ := hE b1 hb1 (by omega)
                    obtain ⟨b1', b2', b3'⟩ := ih 3 (d + 1) (tk_e t N b1) a2 q1 e1
                    obtain ⟨c1, c2⟩ := hE q1.2 b3' (by omega)
                    obtain ⟨d1, d2, d3⟩ := ih 3 (d + 1) (tk_e t N q1.2) c2 q3 e5
                    obtain ⟨f1, f2⟩ := hE q3.2 d3 (by omega)
                    rw [e3, e7, hC3, hq2]
                    simp only [List.length_append, List.length_cons, List.length_nil]
                    omega
                · cases h
              unfold pp_part at hq
              split at hq
              · next c =>
                split at hq
                · cases hq
                · obtain ⟨q1, C2, e1, e2, e3⟩ := pp_sq_ok hq
                  obtain ⟨k1, e4⟩ := pp_exp_ok e2
                  have e5 := Except.ok.inj e4
                  obtain ⟨a1, a2⟩ := hE b hb (by omega)
                  obtain ⟨b1, b2, b3⟩ := ih 3 (d + 1) (tk_e t N b) a2 q1 e1
                  obtain ⟨c1, c2⟩ := hE q1.2 b3 (by omega)
                  have hC2 : C2 = [] := (congrArg Prod.fst e5).symm
                  have hq2 : q.2 = tk_e t N q1.2 := (congrArg Prod.snd e5).symm
                  rw [e3, hC2, hq2]
                  simp only [List.length_append, List.length_nil]
                  omega
              · split at hq
                · next c1 c =>
                  obtain ⟨a1, a2⟩ := hE b hb (by omega)
                  exact mm (tk_e t N b) 5 a2 a1 hq
                · split at hq
                  · next c1 c2 c =>
                    obtain ⟨a1, a2⟩ := hE b hb (by omega)
                    exact mm (tk_e t N b) 6 a2 a1 hq
                  · split at hq
                    · next c1 c2 c3 c =>
                      obtain ⟨a1, a2⟩ := hE b hb (by omega)
                      cases hn : tk_num t N 0 10000 b with
                      | error e =>
                        rw [hn] at hq
                        cases hq
                      | ok r =>
                        rw [hn] at hq
                        have hr2 : r.2 = tk_e t N b := by
                          unfold tk_num at hn
                          rw [if_pos c] at hn
                          split at hn
                          · split at hn
                            · rw [← Except.ok.inj hn]
                            · cases hn
                          · cases hn
                        rw [← Except.ok.inj hq]
                        simp only [List.length_cons, List.length_nil]
                        omega
                    · split at hq
                      · next c1 c2 c3 c4 c =>
                        split at hq
                        · cases hq
                        · obtain ⟨q1, C2, e1, e2, e3⟩ := pp_sq_ok hq
                          have e5 := Except.ok.inj e2
                          obtain ⟨a1, a2⟩ := hE b hb (by omega)
                          obtain ⟨b1, b2, b3⟩ := ih 5 (d + 1) (tk_e t N b) a2 q1 e1
                          have hC2 : C2 = [if tk_k t N b = 271 then 60 else 61] := (congrArg Prod.fst e5).symm
                          have hq2 : q.2 = q1.2 := (congrArg Prod.snd e5).symm
                          rw [e3, hC2, hq2]
                          simp only [List.length_append, List.length_cons, List.length_nil]
                          omega
                      · cases hv : pp_var (tk_k t N b) use with
                        | none =>
                          rw [hv] at hq
                          cases hq
                        | some v =>
                          rw [hv] at hq
                          have hk1 : tk_k t N b ≠ 301 := fun y => by rw [y] at hv; exact pp_var_301 hv
                          obtain ⟨a1, a2⟩ := hE b hb hk1
                          rw [← Except.ok.inj hq]
                          simp only [List.length_cons, List.length_nil]
                          omega

/-! Tests, whole: the reference. -/
theorem pm_ltboth {t : Nat → Nat} {N use d : Nat} {item : Nat → tR} (ht : ∀ i, t i < 256) (hN : N ≤ 1600) (hit : ∀ b, b ≤ N → pm_RT t N use 2 d b (item b)) : ∀ (n b : Nat) (pend : List Nat) (τ : sw_St) (W0 C : List Nat) (base gf : Nat), pm_qs τ t N use b (pend ++ W0) C d base → pm_tW W0 → pm_topT 1 W0 → pm_mk W0 ≤ d → (pend = [] ∨ pend = [10]) → b ≤ N → N < b + n → N + 3 ≤ b + gf → pm_TE t N use 1 d b (pl_loop t N item pp_o1 n pend b) τ W0 C base gf
  | 0, b, pend, τ, W0, C, base, gf, hq, hW, htop, hmk, hp, hb, hn, hgf => by omega
  | n + 1, b, pend, τ, W0, C, base, gf, hq, hW, htop, hmk, hp, hb, hn, hgf => by
    have hfu := sw_fuel_ge
    have htop' : pm_topT 2 (pend ++ W0) := by
      exact ⟨fun y => by omega, fun y => by omega⟩
    have hW' : pm_tW (pend ++ W0) := fun o ho => by
      rcases List.mem_append.mp ho with y | y
      · rcases hp with z | z
        · rw [z] at y; simp at y
        · rw [z] at y; simp at y; omega
      · exact hW o y
    have hmk' : pm_mk (pend ++ W0) ≤ d := by
      rcases hp with z | z
      · rw [z]; exact hmk
      · rw [z]
        unfold pm_mk at hmk ⊢
        simpa using hmk
    obtain ⟨i1, i2⟩ := hit b hb τ (pend ++ W0) C base gf hq hW' htop' hmk' hgf
    have next : ∀ (q1 : List Nat × Nat) (o : Nat), item b = .ok q1 → pp_o1 (tk_k t N q1.2) = some o → ∃ τ2 f2, L_X11_qTest_2 gf τ 1 = L_X11_qTest_2 f2 τ2 1 ∧ pm_qs τ2 t N use (tk_e t N q1.2) ([o] ++ W0) (C ++ q1.1 ++ pend) d base ∧ pm_qf τ τ2 ∧ N + 3 ≤ tk_e t N q1.2 + f2 ∧ b < tk_e t N q1.2 ∧ tk_e t N q1.2 ≤ N ∧ o = 10 := fun q1 o e1 e2 => by
      obtain ⟨τ1, V, C', nn, h', g', p1, p2, p3, p4, p5, p6, p7, p8, p9, p10, p11⟩ := i1 q1 e1
      have hk : tk_k t N q1.2 = 276 ∧ o = 10 := by
        unfold pp_o1 at e2
        split at e2
        · next c => exact ⟨c, (Option.some.inj e2).symm⟩
        · cases e2
      have hgt := tk_e_gt p10 (show tk_k t N q1.2 ≠ 301 by omega)
      have hVn : V = [] := p4.1 rfl
      rw [hVn] at p2 p3
      rw [List.append_nil] at p3
      rw [List.nil_append] at p2
      obtain ⟨t1, t2⟩ := htop.1 (by omega)
      obtain ⟨τ2, g1, g2, g3⟩ := pm_goAnd (nn := nn) (h := h') (g := g' + 1) p2 ht hN p10 hk.1 hp t1 t2
      refine ⟨τ2, g' + 1, p1.trans g1, ?_, p5.trans g3, by omega, by omega, (tk_e_sp t p10).2.1, hk.2⟩
      rw [hk.2, ← p3]
      exact g2
    constructor
    · intro q hq0
      obtain ⟨q1, C3, e1, e4, e5⟩ := pl_loop_ok hq0
      rcases e5 with ⟨hop, hC3, hq2⟩ | ⟨o, hop, e5⟩
      · obtain ⟨τ1, V, C', nn, h', g', p1, p2, p3, p4, p5, p6, p7, p8, p9, p10, p11⟩ := i1 q1 e1
        have hkn : tk_k t N q1.2 ≠ 276 := by
          unfold pp_o1 at hop
          exact fun y => by rw [y] at hop; cases hop
        have hVn : V = [] := p4.1 rfl
        rw [hVn] at p2 p3 p6
        rw [List.append_nil] at p3
        rw [List.nil_append] at p2 p6
        refine ⟨τ1, pend, C', nn, h', g', p1, by rw [hq2]; exact p2, by rw [e4, hC3, p3]; simp, ⟨fun y => by omega, fun _ => hp, fun y => by omega⟩, p5, p6, by rw [hq2]; exact p7, by rw [hq2]; exact p8, by omega, by omega, by rw [hq2]; exact ⟨fun _ => hkn, fun y => by omega⟩⟩
      · obtain ⟨τ2, f2, n1, n2, n3, n4, n5, n6, n7⟩ := next q1 o e1 hop
        obtain ⟨τ3, V, C', nn, h', g', r1, r2, r3, r4, r5, r6, r7, r8, r9, r10, r11⟩ := (pm_ltboth ht hN hit n (tk_e t N q1.2) [o] τ2 W0 (C ++ q1.1 ++ pend) base f2 n2 hW htop hmk (Or.inr (by rw [n7])) n6 (by omega) n4).1 _ e5
        refine ⟨τ3, V, C', nn, h', g', n1.trans r1, r2, by rw [r3, e4]; simp, r4, n3.trans r5, r6, r7, r8, ?_, r10, r11⟩
        have : tk_e t N q1.2 < q.2 := r9
        omega
    · intro e he
      rcases pl_loop_er he with e1 | ⟨q1, o, e1, hop, e3⟩
      · exact i2 e e1
      · obtain ⟨τ2, f2, n1, n2, n3, n4, n5, n6, n7⟩ := next q1 o e1 hop
        obtain ⟨τ3, r1, r2, r3, r4⟩ := (pm_ltboth ht hN hit n (tk_e t N q1.2) [o] τ2 W0 (C ++ q1.1 ++ pend) base f2 n2 hW htop hmk (Or.inr (by rw [n7])) n6 (by omega) n4).2 _ e3
        exact ⟨τ3, n1.trans r1, r2, n3.trans r3, r4⟩
theorem pm_lttest {t : Nat → Nat} {N use d : Nat} {item : Nat → tR} (ht : ∀ i, t i < 256) (hN : N ≤ 1600) (hit : ∀ b, b ≤ N → pm_RT t N use 1 d b (item b)) : ∀ (n b : Nat) (pend : List Nat) (τ : sw_St) (W0 C : List Nat) (base gf : Nat), pm_qs τ t N use b (pend ++ W0) C d base → pm_tW W0 → pm_topT 0 W0 → pm_mk W0 ≤ d → (pend = [] ∨ pend = [11]) → b ≤ N → N < b + n → N + 3 ≤ b + gf → pm_TE t N use 0 d b (pl_loop t N item pp_o0 n pend b) τ W0 C base gf
  | 0, b, pend, τ, W0, C, base, gf, hq, hW, htop, hmk, hp, hb, hn, hgf => by omega
  | n + 1, b, pend, τ, W0, C, base, gf, hq, hW, htop, hmk, hp, hb, hn, hgf => by
    have hfu := sw_fuel_ge
    have htop' : pm_topT 1 (pend ++ W0) := by
      refine ⟨fun _ => ?_, fun y => by omega⟩
      rcases hp with hp | hp
      · rw [hp]; exact htop.1 (by omega)
      · rw [hp]
        exact ⟨fun y => by have := Option.some.inj (show some 11 = some 10 from y); omega, fun y => by have := Option.some.inj (show some 11 = some 12 from y); omega⟩
    have hW' : pm_tW (pend ++ W0) := fun o ho => by
      rcases List.mem_append.mp ho with y | y
      · rcases hp with z | z
        · rw [z] at y; simp at y
        · rw [z] at y; simp at y; omega
      · exact hW o y
    have hmk' : pm_mk (pend ++ W0) ≤ d := by
      rcases hp with z | z
      · rw [z]; exact hmk
      · rw [z]
        unfold pm_mk at hmk ⊢
        simpa using hmk
    obtain ⟨i1, i2⟩ := hit b hb τ (pend ++ W0) C base gf hq hW' htop' hmk' hgf
    have next : ∀ (q1 : List Nat × Nat) (o : Nat), item b = .ok q1 → pp_o0 (tk_k t N q1.2) = some o → ∃ τ2 f2, L_X11_qTest_2 gf τ 1 = L_X11_qTest_2 f2 τ2 1 ∧ pm_qs τ2 t N use (tk_e t N q1.2) ([o] ++ W0) (C ++ q1.1 ++ pend) d base ∧ pm_qf τ τ2 ∧ N + 3 ≤ tk_e t N q1.2 + f2 ∧ b < tk_e t N q1.2 ∧ tk_e t N q1.2 ≤ N ∧ o = 11 := fun q1 o e1 e2 => by
      obtain ⟨τ1, V, C', nn, h', g', p1, p2, p3, p4, p5, p6, p7, p8, p9, p10, p11⟩ := i1 q1 e1
      have hk : tk_k t N q1.2 = 275 ∧ o = 11 := by
        unfold pp_o0 at e2
        split at e2
        · next c => exact ⟨c, (Option.some.inj e2).symm⟩
        · cases e2
      have hgt := tk_e_gt p10 (show tk_k t N q1.2 ≠ 301 by omega)
      obtain ⟨t1, t2⟩ := htop.1 (by omega)
      have t3 := htop.2 (by omega)
      have hV1 := p4.2.1 rfl
      have hall : (∀ o ∈ V ++ pend, o = 10 ∨ o = 11) ∧ (V ++ pend).length ≤ 2 := by
        rcases hV1 with y | y <;> rcases hp with z | z <;> rw [y, z] <;> exact ⟨fun o ho => by simp at ho <;> omega, by simp⟩
      rw [← List.append_assoc] at p2
      obtain ⟨τ2, g1, g2, g3⟩ := pm_goOr (nn := nn) (h := h') (g := g' + 1) p2 ht hN p10 hk.1 hall.1 hall.2 t1 t3 t2
      refine ⟨τ2, g' + 1, p1.trans g1, ?_, p5.trans g3, by omega, by omega, (tk_e_sp t p10).2.1, hk.2⟩
      rw [hk.2, ← p3, List.append_assoc]
      exact g2
    constructor
    · intro q hq0
      obtain ⟨q1, C3, e1, e4, e5⟩ := pl_loop_ok hq0
      rcases e5 with ⟨hop, hC3, hq2⟩ | ⟨o, hop, e5⟩
      · obtain ⟨τ1, V, C', nn, h', g', p1, p2, p3, p4, p5, p6, p7, p8, p9, p10, p11⟩ := i1 q1 e1
        have hkn : tk_k t N q1.2 ≠ 275 := by
          unfold pp_o0 at hop
          exact fun y => by rw [y] at hop; cases hop
        have hV1 := p4.2.1 rfl
        have hall : (∀ o ∈ V ++ pend, o = 10 ∨ o = 11) ∧ (V ++ pend).length ≤ 2 := by
          rcases hV1 with y | y <;> rcases hp with z | z <;> rw [y, z] <;> exact ⟨fun o ho => by simp at ho <;> omega, by simp⟩
        rw [← List.append_assoc] at p2 p6
        refine ⟨τ1, V ++ pend, C', nn, h', g', p1, by rw [hq2]; exact p2, by rw [e4, hC3, ← List.append_assoc, p3]; simp, ⟨fun y => by omega, fun y => by omega, fun _ => hall⟩, p5, p6, by rw [hq2]; exact p7, by rw [hq2]; exact p8, by omega, by omega, by rw [hq2]; exact ⟨fun _ => p11.1 (by omega), fun _ => hkn⟩⟩
      · obtain ⟨τ2, f2, n1, n2, n3, n4, n5, n6, n7⟩ := next q1 o e1 hop
        obtain ⟨τ3, V, C', nn, h', g', r1, r2, r3, r4, r5, r6, r7, r8, r9, r10, r11⟩ := (pm_lttest ht hN hit n (tk_e t N q1.2) [o] τ2 W0 (C ++ q1.1 ++ pend) base f2 n2 hW htop hmk (Or.inr (by rw [n7])) n6 (by omega) n4).1 _ e5
        refine ⟨τ3, V, C', nn, h', g', n1.trans r1, r2, by rw [r3, e4]; simp, r4, n3.trans r5, r6, r7, r8, ?_, r10, r11⟩
        have : tk_e t N q1.2 < q.2 := r9
        omega
    · intro e he
      rcases pl_loop_er he with e1 | ⟨q1, o, e1, hop, e3⟩
      · exact i2 e e1
      · obtain ⟨τ2, f2, n1, n2, n3, n4, n5, n6, n7⟩ := next q1 o e1 hop
        obtain ⟨τ3, r1, r2, r3, r4⟩ := (pm_lttest ht hN hit n (tk_e t N q1.2) [o] τ2 W0 (C ++ q1.1 ++ pend) base f2 n2 hW htop hmk (Or.inr (by rw [n7])) n6 (by omega) n4).2 _ e3
        exact ⟨τ3, n1.trans r1, r2, n3.trans r3, r4⟩
theorem pm_tparse {t : Nat → Nat} {N use : Nat} (ht : ∀ i, t i < 256) (hN : N ≤ 1600) (hu : use ≤ 3) : ∀ (k g d b : Nat), pp_nd g d ≤ k → g ≤ 2 → d ≤ 6 → b ≤ N → pm_RT t N use g d b (pp t N use k g d b)
  | 0, g, d, b, h1, h2, h4, h5 => by
    unfold pp_nd at h1
    omega
  | k + 1, g, d, b, h1, h2, h4, h5 => by
    have h1' := h1
    unfold pp_nd at h1'
    have eP : pp t N use (k + 1) g d b = pp_st t N use (fun g d b => pp t N use k g d b) g d b := rfl
    rw [eP]
    unfold pp_st
    have g6 : g = 0 ∨ g = 1 ∨ g = 2 := by omega
    rcases g6 with e | e | e
    · rw [if_pos e]
      intro τ W0 C base gf hq hW htop hmk hgf
      rw [e] at htop ⊢
      exact pm_lttest ht hN (fun b1 hb1 => pm_tparse ht hN hu k 1 d b1 (by unfold pp_nd; omega) (by omega) h4 hb1) (N + 1) b [] τ W0 C base gf hq hW htop hmk (Or.inl rfl) h5 (by omega) hgf
    · rw [if_neg (by omega), if_pos e]
      intro τ W0 C base gf hq hW htop hmk hgf
      rw [e] at htop ⊢
      exact pm_ltboth ht hN (fun b1 hb1 => pm_tparse ht hN hu k 2 d b1 (by unfold pp_nd; omega) (by omega) h4 hb1) (N + 1) b [] τ W0 C base gf hq hW htop hmk (Or.inl rfl) h5 (by omega) hgf
    · rw [if_neg (by omega), if_neg (by omega), if_pos e, e]
      rw [e] at h1
      exact pm_rfact ht hN hu h4 h1 (fun hd b1 hb1 => pm_tparse ht hN hu k 0 (d + 1) b1 (by unfold pp_nd; omega) (by omega) (by omega) hb1) (fun hd b1 hb1 => pm_tparse ht hN hu k 2 (d + 1) b1 (by unfold pp_nd; omega) (by omega) (by omega) hb1) h5
/-- a whole test -/
theorem pm_test {τ : sw_St} {t : Nat → Nat} {N use b k base : Nat} {C : List Nat} (hq : pm_qs τ t N use b [] C 0 base) (ht : ∀ i, t i < 256) (hN : N ≤ 1600) (hu : use ≤ 3) (hb : b ≤ N) (hk : pp_nd 0 0 ≤ k) :
    (∀ q, pp t N use k 0 0 b = .ok q → ∃ τ', F_X11_qTest τ = some ((), τ') ∧ pm_qs τ' t N use q.2 [] (C ++ q.1) 0 base ∧ pm_qf τ τ' ∧ b < q.2 ∧ q.2 ≤ N) ∧ (∀ e, pp t N use k 0 0 b = .error e → ∃ τ', F_X11_qTest τ = some ((), τ') ∧ pm_bad τ' e.1 e.2 ∧ pm_qf τ τ' ∧ 0 < e.1 ∧ e.1 < 100) := by
  have hfu := sw_fuel_ge
  obtain ⟨i1, i2⟩ := pm_tparse ht hN hu k 0 0 b hk (by omega) (by omega) hb τ [] C base sw_fuel hq (fun o ho => by simp at ho) ⟨fun _ => ⟨by simp, by simp⟩, fun _ => by simp⟩ (by unfold pm_mk; simp) (by omega)
  constructor
  · intro q hq1
    obtain ⟨τ2, V, C', nn, h', g', r1, r2, r3, r4, r5, r6, r7, r8, r9, r10, r11⟩ := i1 q hq1
    rw [List.append_nil] at r2
    obtain ⟨τ3, u1, u2, u3⟩ := pm_goEndT (nn := nn) (h := h') (g := g') r2 ht hN r10 ⟨r11.1 (by omega), r11.2 (by omega)⟩ (r4.2.2 rfl).1
    rw [r3] at u2
    exact ⟨τ3, r1.trans u1, u2, r5.trans u3, r9, r10⟩
  · intro e he
    exact i2 e he

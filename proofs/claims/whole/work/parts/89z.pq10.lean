/-! Tests: the reference. -/
def pm_tW (W : List Nat) : Prop := ∀ o ∈ W, o = 10 ∨ o = 11 ∨ o = 12 ∨ o = 25
def pm_topT (g : Nat) (W0 : List Nat) : Prop := (g ≤ 1 → W0.head? ≠ some 10 ∧ W0.head? ≠ some 12) ∧ (g ≤ 0 → W0.head? ≠ some 11)
def pm_VT (g : Nat) (V : List Nat) : Prop := (g = 2 → V = []) ∧ (g = 1 → V = [] ∨ V = [10]) ∧ (g = 0 → (∀ o ∈ V, o = 10 ∨ o = 11) ∧ V.length ≤ 2)
def tk_nt (t : Nat → Nat) (N g b : Nat) : Prop := (g ≤ 1 → tk_k t N b ≠ 276) ∧ (g ≤ 0 → tk_k t N b ≠ 275)
def pm_TE (t : Nat → Nat) (N use g d b : Nat) (r : tR) (τ : sw_St) (W0 C : List Nat) (base gf : Nat) : Prop :=
  (∀ q, r = .ok q → ∃ τ' V C' nn h' g', L_X11_qTest_2 gf τ 1 = pm_qH (nn + 1) (h' + 1) (g' + 1) τ' ∧ pm_qs τ' t N use q.2 (V ++ W0) C' d base ∧ C' ++ V = C ++ q.1 ∧ pm_VT g V ∧ pm_qf τ τ' ∧ (V ++ W0).length ≤ nn ∧ N + 2 ≤ q.2 + h' ∧ N + 2 ≤ q.2 + g' ∧ b < q.2 ∧ q.2 ≤ N ∧ tk_nt t N g q.2) ∧
  (∀ e, r = .error e → ∃ τ', L_X11_qTest_2 gf τ 1 = some ((), τ') ∧ pm_bad τ' e.1 e.2 ∧ pm_qf τ τ' ∧ 0 < e.1 ∧ e.1 < 100)
def pm_RT (t : Nat → Nat) (N use g d b : Nat) (r : tR) : Prop := ∀ (τ : sw_St) (W0 C : List Nat) (base gf : Nat), pm_qs τ t N use b W0 C d base → pm_tW W0 → pm_topT g W0 → pm_mk W0 ≤ d → N + 3 ≤ b + gf → pm_TE t N use g d b r τ W0 C base gf
theorem pm_TE.er {t : Nat → Nat} {N use g d b : Nat} {τ : sw_St} {W0 C : List Nat} {base gf kd pl : Nat} (hk : 0 < kd ∧ kd < 100) (h : ∃ τ', L_X11_qTest_2 gf τ 1 = some ((), τ') ∧ pm_bad τ' kd pl ∧ pm_qf τ τ') : pm_TE t N use g d b (.error (kd, pl)) τ W0 C base gf := by
  obtain ⟨τ', h1, h2, h3⟩ := h
  refine ⟨fun q hq => (by cases hq), fun e he => ?_⟩
  rw [← Except.error.inj he]
  exact ⟨τ', h1, h2, h3, hk⟩
/-- a fact has ended, or a fault -/
theorem pm_factEnd {τ τ1 : sw_St} {t : Nat → Nat} {N b g : Nat} (h5 : τ.1 0 5 = 0) (hlook : ∃ τa τb, F_X11_look τ = some (tk_c t N b, τa) ∧ F_X11_isHere τa 53 = some (0, τb) ∧ F_X11_qFact τb = some ((), τ1)) (hk : tk_c t N b ≠ 91) : L_X11_qTest_2 (g + 1) τ 1 = pm_qH sw_fuel sw_fuel g τ1 := by
  obtain ⟨τa, τb, l1, l2, l3⟩ := hlook
  show S_X11_qTest_2 _ τ 1 = _
  unfold S_X11_qTest_2 S_X11_qTest_105 S_X11_qTest_106
  rw [if_neg pz_10, if_pos h5, l1]
  dsimp only [Option.bind_some]
  rw [if_neg hk, l2]
  dsimp only [Option.bind_some]
  rw [if_pos rfl, l3]
  rfl
theorem pm_qHbad {τ : sw_St} {nn h g kd pl : Nat} (hb : pm_bad τ kd pl) (hk : 0 < kd ∧ kd < 100) : pm_qH (nn + 1) h (g + 1) τ = some ((), τ) := by
  have e0 : L_X11_qDropsNots_0 (nn + 1) τ = some ((), τ) := by
    show S_X11_qDropsNots_0 _ τ = _
    unfold S_X11_qDropsNots_0 S_X11_qDropsNots_33
    rw [if_neg (pm_badN hb hk)]
  unfold pm_qH
  rw [e0]
  dsimp only [Option.bind_some]
  rw [if_neg (pm_badN hb hk)]
  exact pm_tstop hb hk
theorem pm_head_no {W : List Nat} (h : pm_tW W) : W.head? ≠ some 1 ∧ W.head? ≠ some 2 ∧ W.head? ≠ some 3 ∧ W.head? ≠ some 4 := by
  cases W with
  | nil => simp
  | cons o W =>
    have := h o (by simp)
    refine ⟨fun y => ?_, fun y => ?_, fun y => ?_, fun y => ?_⟩
    · have := Option.some.inj (show some o = some 1 from y); omega
    · have := Option.some.inj (show some o = some 2 from y); omega
    · have := Option.some.inj (show some o = some 3 from y); omega
    · have := Option.some.inj (show some o = some 4 from y); omega
theorem pm_rfact {k : Nat} {t : Nat → Nat} {N use d b : Nat} (ht : ∀ i, t i < 256) (hN : N ≤ 1600) (hu : use ≤ 3) (hd : d ≤ 6) (hk : pp_nd 2 d ≤ k + 1) (hR0 : d < 6 → ∀ b, b ≤ N → pm_RT t N use 0 (d + 1) b (pp t N use k 0 (d + 1) b)) (hR2 : d < 6 → ∀ b, b ≤ N → pm_RT t N use 2 (d + 1) b (pp t N use k 2 (d + 1) b)) (hb : b ≤ N) : pm_RT t N use 2 d b (pp_fact t N (fun g d b => pp t N use k g d b) d b) := by
  intro τ W0 C base gf hq hW htop hmk hgf
  have s91 : tk_sgn 91 := by unfold tk_sgn; omega
  have hnd : pp_nd 3 d ≤ k := by unfold pp_nd at hk ⊢; omega
  have hfu := sw_fuel_ge
  have hl := hq.2.2.2
  obtain ⟨g2, hg2⟩ : ∃ g2, gf = g2 + 2 := ⟨gf - 2, by omega⟩
  obtain ⟨ff, hff⟩ : ∃ ff, sw_fuel = ff + 1 := ⟨sw_fuel - 1, by omega⟩
  rw [hg2]
  obtain ⟨τ1, p1, p2, p3⟩ := pm_look hq.1 ht hN hb
  have hq1 := hq.lx p3 (by decide) (p2.ps hb) (Nat.le_refl _)
  unfold pp_fact
  by_cases c1 : tk_k t N b = 91
  · rw [if_pos c1]
    have hgt := tk_e_gt hb (show tk_k t N b ≠ 301 by omega)
    have hb1 : tk_e t N b ≤ N := (tk_e_sp t hb).2.1
    have eL : ∀ g, L_X11_qTest_2 (g + 1) τ 1 = (F_X11_qOpens τ1 25 (nI (tk_s t N b))).bind fun q8 => L_X11_qTest_2 g (sw_uI q8.2 0 2 ((q8.2.1 0 2) + 1)) 1 := fun g => by
      show S_X11_qTest_2 _ τ 1 = _
      unfold S_X11_qTest_2
      rw [if_neg pz_10, if_pos hq.1.2.2.1, p1]
      dsimp only [Option.bind_some]
      rw [if_pos (show tk_c t N b = 91 from (pm_cIs ht s91).mpr c1), p2.2.1]
    by_cases c2 : 6 ≤ d
    · rw [if_pos c2]
      obtain ⟨τ3, q1, q2, q3⟩ := pm_opensNo (o := 25) (pl := tk_s t N b) hq1.2.1 p2.2.2.1 (by omega)
      have m4 : pm_sm [] [2] τ3 (sw_uI τ3 0 2 (τ3.1 0 2 + 1)) := (pm_sm.refl _ _ τ3).K (by decide) _
      have b4 : pm_bad (sw_uI τ3 0 2 (τ3.1 0 2 + 1)) 4 (tk_s t N b) := ⟨by rw [pz_Ik (by decide)]; exact q2.1, by rw [pz_Ik (by decide)]; exact q2.2⟩
      refine pm_TE.er (by omega) ⟨_, ?_, b4, ((p3.mono (by decide) (by decide)).trans (q3.mono (by decide) (by decide))).trans (m4.mono (by decide) (by decide))⟩
      rw [eL, show F_X11_qOpens τ1 25 (nI (tk_s t N b)) = _ from q1]
      exact pm_tstop1 b4 (by omega)
    · rw [if_neg c2]
      obtain ⟨τ3, q1, q2, q3⟩ := pm_opensOk (o := 25) (x := nI (tk_s t N b)) hq1.2.1 p2.2.2.1 (show d < 6 by omega) (by omega) (by omega)
      have m4 : pm_sm [] [2] τ3 (sw_uI τ3 0 2 (nI (tk_s t N b + 1))) := (pm_sm.refl _ _ τ3).K (by decide) _
      have m34 : pm_sm [71, 72] [2, 95, 97, 98] τ1 (sw_uI τ3 0 2 (nI (tk_s t N b + 1))) := (q3.mono (by decide) (by decide)).trans (m4.mono (by decide) (by decide))
      have hq4 : pm_qs (sw_uI τ3 0 2 (nI (tk_s t N b + 1))) t N use (tk_e t N b) (25 :: W0) C (d + 1) base := ⟨pm_sgOn p2 ht hb s91 c1 m34 (pz_Ie rfl rfl), q2.mv m4 (by decide), by rw [m34.2.1 48 (by decide)]; exact hq1.2.2.1, by simp; omega⟩
      have f4 : pm_qf τ (sw_uI τ3 0 2 (nI (tk_s t N b + 1))) := (p3.mono (by decide) (by decide)).trans (m34.mono (by decide) (by decide))
      have e4 : L_X11_qTest_2 (g2 + 2) τ 1 = L_X11_qTest_2 (g2 + 1) (sw_uI τ3 0 2 (nI (tk_s t N b + 1))) 1 := by
        rw [eL, show F_X11_qOpens τ1 25 (nI (tk_s t N b)) = _ from q1]
        dsimp only [Option.bind_some]
        rw [show τ3.1 0 2 = nI (tk_s t N b) from by rw [q3.2.1 2 (by decide)]; exact p2.2.1, nI_1]
      have hW4 : pm_tW (25 :: W0) := fun o ho => by
        rcases List.mem_cons.mp ho with y | y
        · omega
        · exact hW o y
      have hmk4 : pm_mk (25 :: W0) ≤ d + 1 := by unfold pm_mk at hmk ⊢; simp at hmk ⊢; omega
      obtain ⟨i1, i2⟩ := hR0 (by omega) _ hb1 (sw_uI τ3 0 2 (nI (tk_s t N b + 1))) (25 :: W0) C base (g2 + 1) hq4 hW4 ⟨fun _ => ⟨fun y => by have := Option.some.inj (show some 25 = some 10 from y); omega, fun y => by have := Option.some.inj (show some 25 = some 12 from y); omega⟩, fun _ => fun y => by have := Option.some.inj (show some 25 = some 11 from y); omega⟩ hmk4 (by omega)
      constructor
      · intro q hq0
        obtain ⟨q1', C2, e1, e2, e3⟩ := pp_sq_ok hq0
        obtain ⟨hk93, e5⟩ := pp_exp_ok e2
        have e6 := Except.ok.inj e5
        have hC2 : C2 = [] := (congrArg Prod.fst e6).symm
        have hq2 : q.2 = tk_e t N q1'.2 := (congrArg Prod.snd e6).symm
        obtain ⟨τ5, V, C', nn, h', g', r1, r2, r3, r4, r5, r6, r7, r8, r9, r10, r11⟩ := i1 q1' e1
        obtain ⟨τ6, u1, u2, u3⟩ := pm_goSq (nn := nn) (h := h') (g := g' + 1) r2 ht hN r10 hk93 (r4.2.2 rfl).1 (r4.2.2 rfl).2 hmk
        have hgt3 := tk_e_gt r10 (show tk_k t N q1'.2 ≠ 301 by omega)
        obtain ⟨hh, hhe⟩ : ∃ hh, h' = hh + 1 := ⟨h' - 1, by omega⟩
        rw [r3] at u2
        have eq1 : q.1 = q1'.1 := by rw [e3, hC2, List.append_nil]
        refine ⟨τ6, [], C ++ q.1, ff, hh, g', ?_, by rw [hq2, eq1]; exact u2, by simp, ⟨fun _ => rfl, fun y => by omega, fun y => by omega⟩, (f4.trans r5).trans u3, by simp; omega, by omega, by omega, by omega, by rw [hq2]; exact (tk_e_sp t r10).2.1, ⟨fun y => by omega, fun y => by omega⟩⟩
        rw [e4, r1, u1, hhe, hff]
      · intro e he
        rcases pp_sq_er he with e1 | ⟨q1', e1, e2⟩
        · obtain ⟨τ5, r1, r2, r3, r4⟩ := i2 e e1
          exact ⟨τ5, e4.trans r1, r2, f4.trans r3, r4⟩
        · obtain ⟨τ5, V, C', nn, h', g', r1, r2, r3, r4, r5, r6, r7, r8, r9, r10, r11⟩ := i1 q1' e1
          rcases pp_exp_er e2 with ⟨hk93, e5⟩ | ⟨hk93, e5⟩
          · obtain ⟨τ6, u1, u2, u3⟩ := pm_goErrT (nn := nn) (h := h') (g := g') r2 ht hN r10 ⟨r11.1 (by omega), r11.2 (by omega), hk93⟩ (r4.2.2 rfl).1
            rw [e5]
            exact ⟨τ6, (e4.trans r1).trans u1, u2, (f4.trans r5).trans u3, by (try dsimp only); omega, by (try dsimp only); omega⟩
          · cases e5
  · rw [if_neg c1]
    have hc91 : ¬ tk_c t N b = 91 := fun y => c1 ((pm_cIs ht s91).mp y)
    obtain ⟨τ2, q1, q2, q3⟩ := pm_isHere (x := (53, 277)) (p2.ps hb) ht hN hb (by decide)
    have m2 := p3.trans q3
    have hq2 := hq.lx m2 (by decide) (q2.ps hb) (Nat.le_refl _)
    by_cases c3 : tk_k t N b = 277
    · rw [if_pos c3]
      have hgt := tk_e_gt hb (show tk_k t N b ≠ 301 by omega)
      have hb1 : tk_e t N b ≤ N := (tk_e_sp t hb).2.1
      have eL : ∀ g, L_X11_qTest_2 (g + 1) τ 1 = (F_X11_qOpens τ2 12 (nI (tk_s t N b))).bind fun q6 => (F_X11_asks q6.2 53).bind fun q7 => L_X11_qTest_2 g q7.2 1 := fun g => by
        show S_X11_qTest_2 _ τ 1 = _
        unfold S_X11_qTest_2
        rw [if_neg pz_10, if_pos hq.1.2.2.1, p1]
        dsimp only [Option.bind_some]
        rw [if_neg hc91, show F_X11_isHere τ1 53 = _ from q1, decide_eq_true c3]
        dsimp only [Option.bind_some]
        rw [if_neg (show ¬ g_ok1 true = 0 from pz_10), q2.2.1]
      by_cases c2 : 6 ≤ d
      · rw [if_pos c2]
        obtain ⟨τ3, r1, r2, r3⟩ := pm_opensNo (o := 12) (pl := tk_s t N b) hq2.2.1 q2.2.2.1 (by omega)
        refine pm_TE.er (by omega) ⟨τ3, ?_, r2, (m2.mono (by decide) (by decide)).trans (r3.mono (by decide) (by decide))⟩
        rw [eL, show F_X11_qOpens τ2 12 (nI (tk_s t N b)) = _ from r1]
        dsimp only [Option.bind_some]
        unfold F_X11_asks S_X11_asks_24
        rw [if_neg (pm_badN r2 (by omega))]
        dsimp only [Option.bind_some]
        exact pm_tstop1 r2 (by omega)
      · rw [if_neg c2]
        obtain ⟨τ3, r1, r2, r3⟩ := pm_opensOk (o := 12) (x := nI (tk_s t N b)) hq2.2.1 q2.2.2.1 (show d < 6 by omega) (by omega) (by omega)
        have ps3 : pm_ps τ3 t N b := (q2.ps hb).mv r3 (by decide) (by decide)
        obtain ⟨τ4, u1, u2, u3⟩ := (pm_asks (x := (53, 277)) ps3 ht hN hb (by decide)).1 c3
        have hq4 : pm_qs τ4 t N use (tk_e t N b) (12 :: W0) C (d + 1) base := ⟨u2, r2.mv u3 (by decide), by rw [u3.2.1 48 (by decide), r3.2.1 48 (by decide)]; exact hq2.2.2.1, by simp; omega⟩
        have f4 : pm_qf τ τ4 := ((m2.mono (by decide) (by decide)).trans (r3.mono (by decide) (by decide))).trans (u3.mono (by decide) (by decide))
        have e4 : L_X11_qTest_2 (g2 + 2) τ 1 = L_X11_qTest_2 (g2 + 1) τ4 1 := by
          rw [eL, show F_X11_qOpens τ2 12 (nI (tk_s t N b)) = _ from r1]
          dsimp only [Option.bind_some]
          rw [show F_X11_asks τ3 53 = _ from u1]
          rfl
        have hW4 : pm_tW (12 :: W0) := fun o ho => by
          rcases List.mem_cons.mp ho with y | y
          · omega
          · exact hW o y
        have hmk4 : pm_mk (12 :: W0) ≤ d + 1 := by unfold pm_mk at hmk ⊢; simp at hmk ⊢; omega
        obtain ⟨i1, i2⟩ := hR2 (by omega) _ hb1 τ4 (12 :: W0) C base (g2 + 1) hq4 hW4 ⟨fun y => by omega, fun y => by omega⟩ hmk4 (by omega)
        constructor
        · intro q hq0
          obtain ⟨q1', C2, e1, e2, e3⟩ := pp_sq_ok hq0
          have e6 := Except.ok.inj e2
          have hC2 : C2 = [12] := (congrArg Prod.fst e6).symm
          have hq2' : q.2 = q1'.2 := (congrArg Prod.snd e6).symm
          obtain ⟨τ5, V, C', nn, h', g', v1, v2, v3, v4, v5, v6, v7, v8, v9, v10, v11⟩ := i1 q1' e1
          have hVn := v4.1 rfl
          rw [hVn] at v2 v3 v6
          rw [List.append_nil] at v3
          rw [List.nil_append] at v2 v6
          simp only [List.length_cons] at v6
          obtain ⟨τ6, w1, w2, w3⟩ := pm_goNot (nn := nn) (h := h' + 1) (g := g' + 1) v2
          obtain ⟨n2, hn2⟩ : ∃ n2, nn = n2 + 1 := ⟨nn - 1, by omega⟩
          refine ⟨τ6, [], C ++ q.1, n2, h', g', ?_, by rw [hq2', e3, hC2, ← List.append_assoc, ← v3]; exact w2, by simp, ⟨fun _ => rfl, fun y => by omega, fun y => by omega⟩, (f4.trans v5).trans w3, by simp; omega, by omega, by omega, by omega, by omega, ⟨fun y => by omega, fun y => by omega⟩⟩
          rw [e4, v1, w1, hn2]
        · intro e he
          rcases pp_sq_er he with e1 | ⟨q1', e1, e2⟩
          · obtain ⟨τ5, v1, v2, v3, v4⟩ := i2 e e1
            exact ⟨τ5, e4.trans v1, v2, f4.trans v3, v4⟩
          · cases e2
    · rw [if_neg c3]
      have hlook : ∀ τ9, F_X11_qFact τ2 = some ((), τ9) → L_X11_qTest_2 (g2 + 2) τ 1 = pm_qH sw_fuel sw_fuel (g2 + 1) τ9 := fun τ9 e9 => pm_factEnd (t := t) (N := N) (b := b) hq.1.2.2.1 ⟨τ1, τ2, p1, by rw [show F_X11_isHere τ1 53 = _ from q1, decide_eq_false c3]; rfl, e9⟩ hc91
      -- what a fact that was read gives
      have good : ∀ (q : List Nat × Nat) (τ9 : sw_St), b < q.2 → q.2 ≤ N → F_X11_qFact τ2 = some ((), τ9) → pm_qs τ9 t N use q.2 W0 (C ++ q.1) d base → pm_qf τ τ9 → ∃ τ' V C' nn h' g', L_X11_qTest_2 (g2 + 2) τ 1 = pm_qH (nn + 1) (h' + 1) (g' + 1) τ' ∧ pm_qs τ' t N use q.2 (V ++ W0) C' d base ∧ C' ++ V = C ++ q.1 ∧ pm_VT 2 V ∧ pm_qf τ τ' ∧ (V ++ W0).length ≤ nn ∧ N + 2 ≤ q.2 + h' ∧ N + 2 ≤ q.2 + g' ∧ b < q.2 ∧ q.2 ≤ N ∧ tk_nt t N 2 q.2 := fun q τ9 h1 h2 h3 h4 h5 => ⟨τ9, [], C ++ q.1, ff, ff, g2, by rw [hlook τ9 h3, hff], h4, by simp, ⟨fun _ => rfl, fun y => by omega, fun y => by omega⟩, h5, by simp; omega, by omega, by omega, h1, h2, ⟨fun y => by omega, fun y => by omega⟩⟩
      have evil : ∀ (kd pl : Nat) (τ9 : sw_St), 0 < kd ∧ kd < 100 → F_X11_qFact τ2 = some ((), τ9) → pm_bad τ9 kd pl → pm_qf τ τ9 → ∃ τ', L_X11_qTest_2 (g2 + 2) τ 1 = some ((), τ') ∧ pm_bad τ' kd pl ∧ pm_qf τ τ' := fun kd pl τ9 h1 h2 h3 h4 => ⟨τ9, by rw [hlook τ9 h2, hff]; exact pm_qHbad h3 h1, h3, h4⟩
      obtain ⟨ta1, ta2⟩ := pm_takes (x := (56, 278)) (q2.ps hb) ht hN hb (by decide)
      by_cases c4 : tk_k t N b = 278
      · rw [if_pos c4]
        have hgt := tk_e_gt hb (show tk_k t N b ≠ 301 by omega)
        obtain ⟨τ3, r1, r2, r3⟩ := ta1 c4
        have hq3 := hq2.lx r3 (by decide) r2 (by omega)
        obtain ⟨τ4, u1, u2, u3⟩ := pm_qCode (o := 13) hq3.2.1 (by omega)
        refine ⟨fun q hq0 => ?_, fun e he => (by cases he)⟩
        rw [← Except.ok.inj hq0]
        refine good _ τ4 (by (try dsimp only); omega) (tk_e_sp t hb).2.1 ?_ ⟨r2.mv u3 (by decide) (by decide), u2, by rw [u3.2.1 48 (by decide)]; exact hq3.2.2.1, by simp; omega⟩ (((m2.mono (by decide) (by decide)).trans (r3.mono (by decide) (by decide))).trans (u3.mono (by decide) (by decide)))
        unfold F_X11_qFact
        rw [show F_X11_takes τ2 56 = _ from r1]
        dsimp only [Option.bind_some]
        rw [if_neg pz_10, show F_X11_qCode τ3 13 = _ from u1]
        rfl
      · rw [if_neg c4]
        obtain ⟨τ3, r1, r2, r3⟩ := ta2 c4
        have m3 := m2.trans r3
        have hq3 := hq.lx m3 (by decide) (r2.ps hb) (Nat.le_refl _)
        have hbase := hq.2.1.2.2.2.2.2.2.2.2.2
        obtain ⟨s1, s2⟩ := pm_sums hq3 ht hN hu hb hd hnd (pm_head_no hW) hbase
        -- behind the first sum
        have sgn : ∀ (q1' : List Nat × Nat), pp t N use k 3 d b = .ok q1' → ∃ τ4 τ5, F_X11_qSums τ3 = some ((), τ4) ∧ τ4.1 0 5 = 0 ∧ F_X11_look τ4 = some (tk_c t N q1'.2, τ5) ∧ pm_pa τ5 t N q1'.2 ∧ pm_qs τ5 t N use q1'.2 W0 (C ++ q1'.1) d base ∧ pm_qf τ τ5 ∧ b < q1'.2 ∧ q1'.2 ≤ N := fun q1' e1 => by
          obtain ⟨τ4, v1, v2, v3, v4, v5⟩ := s1 q1' e1
          obtain ⟨τ5, w1, w2, w3⟩ := pm_look v2.1 ht hN v5
          exact ⟨τ4, τ5, v1, v2.1.2.2.1, w1, w2, v2.lx w3 (by decide) (w2.ps v5) (Nat.le_refl _), ((m3.mono (by decide) (by decide)).trans v3).trans (w3.mono (by decide) (by decide)), v4, v5⟩
        have eF : ∀ (q1' : List Nat × Nat) (τ4 τ5 : sw_St), F_X11_qSums τ3 = some ((), τ4) → τ4.1 0 5 = 0 → F_X11_look τ4 = some (tk_c t N q1'.2, τ5) → F_X11_qFact τ2 = if tk_c t N q1'.2 = 60 then (S_X11_qFact_63 τ5 (tk_c t N q1'.2)) else (if tk_c t N q1'.2 = 62 then (S_X11_qFact_63 τ5 (tk_c t N q1'.2)) else (if tk_c t N q1'.2 = 61 then (S_X11_qFact_63 τ5 (tk_c t N q1'.2)) else ((F_X11_fail τ5 1 (τ5.1 0 2)).bind fun q4 => some ((), q4.2)))) := fun q1' τ4 τ5 h1 h2 h3 => by
          unfold F_X11_qFact
          rw [show F_X11_takes τ2 56 = _ from r1]
          dsimp only [Option.bind_some]
          rw [if_pos rfl, h1]
          dsimp only [Option.bind_some]
          rw [if_pos h2, h3]
          rfl
        have sgc : ∀ c, (c = 60 ∨ c = 61 ∨ c = 62) → tk_sgn c := fun c hc => by unfold tk_sgn; omega
        have cI : ∀ b1 c, (c = 60 ∨ c = 61 ∨ c = 62) → (tk_c t N b1 = nI c ↔ tk_k t N b1 = c) := fun b1 c hc => pm_cIs ht (sgc c hc)
        have onSg : ∀ (q1' : List Nat × Nat) (o : Nat) (τ5 : sw_St), pp_sg (tk_k t N q1'.2) = some o → q1'.2 ≤ N → pm_pa τ5 t N q1'.2 → pm_qs τ5 t N use q1'.2 W0 (C ++ q1'.1) d base → pm_qs (sw_uI τ5 0 2 (nI (tk_s t N q1'.2 + 1))) t N use (tk_e t N q1'.2) W0 (C ++ q1'.1) d base ∧ S_X11_qFact_63 τ5 (tk_c t N q1'.2) = ((F_X11_qSums (sw_uI τ5 0 2 (nI (tk_s t N q1'.2 + 1)))).bind fun q1 => (F_X11_qCode q1.2 (nI o)).bind fun q2 => some ((), q2.2)) ∧ q1'.2 < tk_e t N q1'.2 := fun q1' o τ5 hsg hb2 hpa hqs => by
          have hso := pp_sgc hsg
          have hgt := tk_e_gt hb2 (show tk_k t N q1'.2 ≠ 301 by omega)
          have hkc : tk_k t N q1'.2 = 60 ∨ tk_k t N q1'.2 = 61 ∨ tk_k t N q1'.2 = 62 := by omega
          have m6 : pm_sm [] [2] τ5 (sw_uI τ5 0 2 (nI (tk_s t N q1'.2 + 1))) := (pm_sm.refl _ _ τ5).K (by decide) _
          have ps6 : pm_ps (sw_uI τ5 0 2 (nI (tk_s t N q1'.2 + 1))) t N (tk_e t N q1'.2) := pm_sgOn hpa ht hb2 (sgc _ hkc) rfl (m6.mono (by decide) (by decide)) (pz_Ie rfl rfl)
          refine ⟨hqs.lx m6 (by decide) ps6 (by omega), ?_, hgt.1⟩
          unfold S_X11_qFact_63 S_X11_qFact_102
          rw [hpa.2.1, nI_1]
          rcases hso with ⟨h1, h2⟩ | ⟨h1, h2⟩ | ⟨h1, h2⟩
          · have ec : tk_c t N q1'.2 = 60 := (cI q1'.2 60 (by omega)).mpr h1
            simp only [ec, h2, if_true]
            rfl
          · have ec : tk_c t N q1'.2 = 61 := (cI q1'.2 61 (by omega)).mpr h1
            simp only [ec, h2, if_neg (show ¬ (61 : Int32) = 60 by decide), if_neg (show ¬ (61 : Int32) = 62 by decide)]
            rfl
          · have ec : tk_c t N q1'.2 = 62 := (cI q1'.2 62 (by omega)).mpr h1
            simp only [ec, h2, if_neg (show ¬ (62 : Int32) = 60 by decide), if_true]
            rfl
        have toF63 : ∀ (q1' : List Nat × Nat) (o : Nat) (τ4 τ5 : sw_St), pp_sg (tk_k t N q1'.2) = some o → F_X11_qSums τ3 = some ((), τ4) → τ4.1 0 5 = 0 → F_X11_look τ4 = some (tk_c t N q1'.2, τ5) → F_X11_qFact τ2 = S_X11_qFact_63 τ5 (tk_c t N q1'.2) := fun q1' o τ4 τ5 hsg h1 h2 h3 => by
          rw [eF q1' τ4 τ5 h1 h2 h3]
          rcases pp_sgc hsg with ⟨y1, -⟩ | ⟨y1, -⟩ | ⟨y1, -⟩
          · rw [if_pos (show tk_c t N q1'.2 = 60 from (cI _ 60 (by omega)).mpr y1)]
          · rw [if_neg (show ¬ tk_c t N q1'.2 = 60 from fun y => by have := (cI q1'.2 60 (by omega)).mp y; omega), if_neg (show ¬ tk_c t N q1'.2 = 62 from fun y => by have := (cI q1'.2 62 (by omega)).mp y; omega), if_pos (show tk_c t N q1'.2 = 61 from (cI _ 61 (by omega)).mpr y1)]
          · rw [if_neg (show ¬ tk_c t N q1'.2 = 60 from fun y => by have := (cI q1'.2 60 (by omega)).mp y; omega), if_pos (show tk_c t N q1'.2 = 62 from (cI _ 62 (by omega)).mpr y1)]
        constructor
        · intro q hq0
          obtain ⟨q1', C2, e1, e2, e3⟩ := pp_sq_ok hq0
          obtain ⟨τ4, τ5, v1, v2, v3, v4, v5, v6, v7, v8⟩ := sgn q1' e1
          cases hsg : pp_sg (tk_k t N q1'.2) with
          | none =>
            rw [hsg] at e2
            cases e2
          | some o =>
            rw [hsg] at e2
            (try dsimp only at e2)
            obtain ⟨q3', C3, e4, e5, e6⟩ := pp_sq_ok e2
            have e7 := Except.ok.inj e5
            have hC3 : C3 = [o] := (congrArg Prod.fst e7).symm
            have hq2' : q.2 = q3'.2 := (congrArg Prod.snd e7).symm
            have e6 : C2 = q3'.1 ++ C3 := e6
            obtain ⟨w1, w2, w3⟩ := onSg q1' o τ5 hsg v8 v4 v5
            obtain ⟨z1, z2⟩ := pm_sums w1 ht hN hu (tk_e_sp t v8).2.1 hd hnd (pm_head_no hW) hbase
            obtain ⟨τ7, y1, y2, y3, y4, y5⟩ := z1 q3' e4
            have ho : o < 10 := by have := pp_sgc hsg; omega
            have hl7 := y2.2.2.2
            have hcnt : (W0.length + (C ++ q1'.1 ++ q3'.1).length) < 1650 := by omega
            obtain ⟨τ8, x1, x2, x3⟩ := pm_qCode (o := o) y2.2.1 hcnt
            have m6 : pm_sm [] [2] τ5 (sw_uI τ5 0 2 (nI (tk_s t N q1'.2 + 1))) := (pm_sm.refl _ _ τ5).K (by decide) _
            refine good q τ8 (by omega) (by omega) ?_ ⟨by rw [hq2']; exact y2.1.mv x3 (by decide) (by decide), by rw [e3, e6, hC3]; rw [← List.append_assoc, ← List.append_assoc]; exact x2, by rw [x3.2.1 48 (by decide)]; exact y2.2.2.1, ?_⟩ (((v6.trans (m6.mono (by decide) (by decide))).trans y3).trans (x3.mono (by decide) (by decide)))
            · rw [toF63 q1' o τ4 τ5 hsg v1 v2 v3, w2, y1]
              dsimp only [Option.bind_some]
              rw [x1]
              rfl
            · have hp1 := pp_len (use := use) ht k 3 d b hb q1' e1
              have hp2 := pp_len (use := use) ht k 3 d (tk_e t N q1'.2) (tk_e_sp t v8).2.1 q3' e4
              rw [e3, e6, hC3, hq2']
              simp only [List.length_append, List.length_cons, List.length_nil]
              omega
        · intro e he
          rcases pp_sq_er he with e1 | ⟨q1', e1, e2⟩
          · obtain ⟨τ4, v1, v2, v3, v4⟩ := s2 e e1
            obtain ⟨τ', k1, k2, k3⟩ := evil e.1 e.2 τ4 v4 (by
              unfold F_X11_qFact
              rw [show F_X11_takes τ2 56 = _ from r1]
              dsimp only [Option.bind_some]
              rw [if_pos rfl, v1]
              dsimp only [Option.bind_some]
              rw [if_neg (pm_badN v2.1 v4)]) v2.1 ((m3.mono (by decide) (by decide)).trans v3)
            exact ⟨τ', k1, k2, k3, v4⟩
          · obtain ⟨τ4, τ5, v1, v2, v3, v4, v5, v6, v7, v8⟩ := sgn q1' e1
            cases hsg : pp_sg (tk_k t N q1'.2) with
            | none =>
              rw [hsg] at e2
              (try dsimp only at e2)
              rw [← Except.error.inj e2]
              have hno : tk_k t N q1'.2 ≠ 60 ∧ tk_k t N q1'.2 ≠ 61 ∧ tk_k t N q1'.2 ≠ 62 := by
                unfold pp_sg at hsg
                refine ⟨fun y => ?_, fun y => ?_, fun y => ?_⟩ <;> (rw [y] at hsg; cases hsg)
              obtain ⟨τ6, w1, w2, w3⟩ := pm_failN (τ := τ5) (kd := 1) (pl := tk_s t N q1'.2) v4.2.2.1
              obtain ⟨τ', k1, k2, k3⟩ := evil 1 (tk_s t N q1'.2) τ6 (by omega) (by
                rw [eF q1' τ4 τ5 v1 v2 v3, if_neg (show ¬ tk_c t N q1'.2 = 60 from fun y => hno.1 ((cI q1'.2 60 (by omega)).mp y)), if_neg (show ¬ tk_c t N q1'.2 = 62 from fun y => hno.2.2 ((cI q1'.2 62 (by omega)).mp y)), if_neg (show ¬ tk_c t N q1'.2 = 61 from fun y => hno.2.1 ((cI q1'.2 61 (by omega)).mp y)), v4.2.1, show F_X11_fail τ5 1 (nI (tk_s t N q1'.2)) = _ from w1]
                rfl) w2 (v6.trans (w3.mono (by decide) (by decide)))
              exact ⟨τ', k1, k2, k3, by (try dsimp only); omega, by (try dsimp only); omega⟩
            | some o =>
              rw [hsg] at e2
              (try dsimp only at e2)
              obtain ⟨w1, w2, w3⟩ := onSg q1' o τ5 hsg v8 v4 v5
              obtain ⟨z1, z2⟩ := pm_sums w1 ht hN hu (tk_e_sp t v8).2.1 hd hnd (pm_head_no hW) hbase
              rcases pp_sq_er e2 with e3 | ⟨q3', e3, e4⟩
              · obtain ⟨τ7, y1, y2, y3, y4⟩ := z2 e e3
                obtain ⟨⟨b1, b2⟩, n, n1, n2⟩ := y2
                have m6 : pm_sm [] [2] τ5 (sw_uI τ5 0 2 (nI (tk_s t N q1'.2 + 1))) := (pm_sm.refl _ _ τ5).K (by decide) _
                have m8 : pm_sm [71] [95] τ7 (sw_uI (sw_uI τ7 71 n (nI o)) 0 95 (nI (n + 1))) := ((pm_sm.refl _ _ τ7).I (by decide) (by decide) _ _).K (by decide) _
                have b8 : pm_bad (sw_uI (sw_uI τ7 71 n (nI o)) 0 95 (nI (n + 1))) e.1 e.2 := ⟨by rw [m8.2.1 5 (by decide)]; exact b1, by rw [m8.2.1 6 (by decide)]; exact b2⟩
                obtain ⟨τ', k1, k2, k3⟩ := evil e.1 e.2 _ y4 (by
                  rw [toF63 q1' o τ4 τ5 hsg v1 v2 v3, w2, y1]
                  dsimp only [Option.bind_some]
                  unfold F_X11_qCode
                  rw [n2, if_pos (pz_inb (by omega) (by omega)), nI_clamp (by omega), nI_1]
                  rfl) b8 (((v6.trans (m6.mono (by decide) (by decide))).trans y3).trans (m8.mono (by decide) (by decide)))
                exact ⟨τ', k1, k2, k3, y4⟩
              · cases e4

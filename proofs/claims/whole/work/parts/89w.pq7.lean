/-! Parts, then sums: the reference. -/
theorem pp_sq_ok {r : tR} {k : Nat → tR} {q : List Nat × Nat} (h : pp_sq r k = .ok q) : ∃ (q1 : List Nat × Nat) (C2 : List Nat), r = .ok q1 ∧ k q1.2 = .ok (C2, q.2) ∧ q.1 = q1.1 ++ C2 := by
  obtain ⟨q1, e1, e2⟩ := pp_bd_ok h
  obtain ⟨C2, e3, e4⟩ := pp_ap_ok e2
  exact ⟨q1, C2, e1, e3, e4⟩
theorem pp_sq_er {r : tR} {k : Nat → tR} {e : Nat × Nat} (h : pp_sq r k = .error e) : r = .error e ∨ ∃ q1, r = .ok q1 ∧ k q1.2 = .error e := by
  rcases pp_bd_er h with e1 | ⟨q1, e1, e2⟩
  · exact Or.inl e1
  · exact Or.inr ⟨q1, e1, pp_ap_er e2⟩
theorem pp_exp_ok {t : Nat → Nat} {N kd b : Nat} {k : Nat → tR} {q : List Nat × Nat} (h : pp_exp t N kd b k = .ok q) : tk_k t N b = kd ∧ k (tk_e t N b) = .ok q := by
  unfold pp_exp at h
  split at h
  · next c => exact ⟨c, h⟩
  · cases h
theorem pp_exp_er {t : Nat → Nat} {N kd b : Nat} {k : Nat → tR} {e : Nat × Nat} (h : pp_exp t N kd b k = .error e) : tk_k t N b ≠ kd ∧ e = (1, tk_s t N b) ∨ tk_k t N b = kd ∧ k (tk_e t N b) = .error e := by
  unfold pp_exp at h
  split at h
  · next c => exact Or.inr ⟨c, h⟩
  · next c => exact Or.inl ⟨c, (Except.error.inj h).symm⟩
theorem pm_top_br {W0 : List Nat} {base br g : Nat} (h : 20 ≤ br ∧ br < 60) : pm_top g (br :: W0) base := by
  refine ⟨fun _ => ⟨fun y => ?_, fun y => ?_, Or.inr ⟨br, W0, rfl, by omega⟩⟩, fun _ => ⟨fun y => ?_, fun y => ?_⟩⟩
  · have := Option.some.inj (show some br = some 3 from y); omega
  · have := Option.some.inj (show some br = some 4 from y); omega
  · have := Option.some.inj (show some br = some 1 from y); omega
  · have := Option.some.inj (show some br = some 2 from y); omega
theorem pm_V20 {V : List Nat} (h : pm_VO 3 V) : ∀ o ∈ V, o < 20 := fun o ho => by
  have := (h.2.2 rfl).1 o ho
  omega
/-- a fault changes nothing of the way there -/
theorem pm_RE.er {t : Nat → Nat} {N use g d b : Nat} {τ : sw_St} {W0 C : List Nat} {base : Nat} {x : Int32} {gf f kd pl : Nat} (hk : 0 < kd ∧ kd < 100) (h : ∃ τ', pm_qB gf f x τ = some ((), τ') ∧ pm_bd τ' kd pl ∧ pm_qf τ τ') : pm_RE t N use g d b (.error (kd, pl)) τ W0 C base x gf f := by
  obtain ⟨τ', h1, h2, h3⟩ := h
  refine ⟨fun q hq => (by cases hq), fun e he => ?_⟩
  rw [← Except.error.inj he]
  exact ⟨τ', h1, h2, h3, hk⟩
theorem pm_rmm {pr : Nat → Nat → Nat → tR} {t : Nat → Nat} {N use d b o : Nat} (ht : ∀ i, t i < 256) (hN : N ≤ 1600) (hu : use ≤ 3) (hd : d ≤ 6) (hR : d < 6 → ∀ b, b ≤ N → pm_RP t N use 3 (d + 1) b (pr 3 (d + 1) b)) (hb : b ≤ N) (hk : tk_k t N b = 279 ∧ o = 5 ∨ tk_k t N b = 280 ∧ o = 6) : pm_RP t N use 5 d b (pp_mm t N pr d (tk_e t N b) o) := by
  intro τ W0 C base x gf f hq hb0 htop hgf hf
  have hgt := tk_e_gt hb (show tk_k t N b ≠ 301 by omega)
  have hb1 : tk_e t N b ≤ N := (tk_e_sp t hb).2.1
  obtain ⟨g2, hg2⟩ : ∃ g2, gf = g2 + 2 := ⟨gf - 2, by omega⟩
  obtain ⟨f1, hf1⟩ : ∃ f1, f = f1 + 1 := ⟨f - 1, by omega⟩
  have hfu := sw_fuel_ge
  have hl := hq.2.2.2
  rw [hg2, hf1]
  unfold pp_mm
  by_cases c1 : tk_k t N (tk_e t N b) = 40
  · rw [if_pos c1]
    by_cases c2 : 6 ≤ d
    · rw [if_pos c2]
      exact pm_RE.er (by omega) ((pm_bMM hq ht hN hb hu hd (by omega)).2.1 c1 c2)
    · rw [if_neg c2]
      obtain ⟨τ1, p1, p2, p3⟩ := (pm_bMM (g := g2 + 1) (f := f1 + 1) (x := x) hq ht hN hb hu hd (by omega)).1 c1 (by omega)
      have hgt1 := tk_e_gt hb1 (show tk_k t N (tk_e t N b) ≠ 301 by omega)
      have hb2 : tk_e t N (tk_e t N b) ≤ N := (tk_e_sp t hb1).2.1
      have hbr : (if tk_k t N b = 279 then 21 else 22) = 21 ∨ (if tk_k t N b = 279 then 21 else 22) = 22 := by split <;> simp
      generalize hbre : (if tk_k t N b = 279 then 21 else 22) = br at p2 hbr
      obtain ⟨i1, i2⟩ := hR (by omega) _ hb2 τ1 (br :: W0) C base x (g2 + 1) (f1 + 1) p2 (by simp; omega) (pm_top_br (by omega)) (by omega) (by omega)
      -- behind the first part
      have st2 : ∀ q1, pr 3 (d + 1) (tk_e t N (tk_e t N b)) = .ok q1 → tk_k t N q1.2 = 44 → ∃ τ3 f3, pm_qB (g2 + 2) (f1 + 1) x τ = pm_qB sw_fuel f3 x τ3 ∧ pm_qs τ3 t N use (tk_e t N q1.2) ((br + 2) :: W0) (C ++ q1.1) (d + 1) base ∧ pm_qf τ τ3 ∧ N + 3 ≤ tk_e t N q1.2 + f3 ∧ tk_e t N (tk_e t N b) < tk_e t N q1.2 ∧ tk_e t N q1.2 ≤ N := fun q1 e1 hk44 => by
        obtain ⟨τ2, V, C', e, h', f', r1, r2, r3, r4, r5, r6, r7, r8, r9, r10, r11⟩ := i1 q1 e1
        have hgt2 := tk_e_gt r10 (show tk_k t N q1.2 ≠ 301 by omega)
        obtain ⟨τ3, u1, u2, u3⟩ := pm_goComma (e := e) (h := h') (f := f') (x := x) r2 ht hN r10 hb0 hk44 hbr (pm_V20 r4)
        rw [r3] at u2
        exact ⟨τ3, f', (p1.trans r1).trans u1, u2, (p3.trans r5).trans u3, by omega, by omega, (tk_e_sp t r10).2.1⟩
      constructor
      · intro q hq0
        obtain ⟨q1, C2, e1, e2, e3⟩ := pp_sq_ok hq0
        obtain ⟨hk44, e4⟩ := pp_exp_ok e2
        obtain ⟨q3, C3, e5, e6, e7⟩ := pp_sq_ok e4
        obtain ⟨hk41, e8⟩ := pp_exp_ok e6
        have e9 := Except.ok.inj e8
        have hC3 : C3 = [o] := (congrArg Prod.fst e9).symm
        have hq2 : q.2 = tk_e t N q3.2 := (congrArg Prod.snd e9).symm
        obtain ⟨τ3, f3, n1, n2, n3, n4, n5, n6⟩ := st2 q1 e1 hk44
        · obtain ⟨τ4, V, C', e, h', f', r1, r2, r3, r4, r5, r6, r7, r8, r9, r10, r11⟩ := (hR (by omega) _ n6 τ3 ((br + 2) :: W0) (C ++ q1.1) base x sw_fuel f3 n2 (by simp; omega) (pm_top_br (by omega)) (by omega) n4).1 q3 e5
          obtain ⟨τ5, u1, u2, u3⟩ := pm_goClose (e := e) (h := h') (f := f' + 1) (x := x) r2 ht hN r10 hb0 hk41 (by omega) (pm_V20 r4)
          have hgt3 := tk_e_gt r10 (show tk_k t N q3.2 ≠ 301 by omega)
          obtain ⟨hh, hhe⟩ : ∃ hh, h' = hh + 1 := ⟨h' - 1, by omega⟩
          obtain ⟨ee, hee⟩ : ∃ ee, sw_fuel = ee + 1 := ⟨sw_fuel - 1, by omega⟩
          have hcode : C' ++ V ++ (if br + 2 = 20 then [] else [if br + 2 = 23 then 5 else 6]) = C ++ q.1 := by
            have e7 : C2 = q3.1 ++ C3 := e7
            rw [r3, e3, e7, hC3, if_neg (by omega)]
            have : (if br + 2 = 23 then 5 else 6) = o := by
              rcases hk with ⟨y1, y2⟩ | ⟨y1, y2⟩
              · rw [if_pos y1] at hbre
                rw [if_pos (by omega), y2]
              · rw [if_neg (by omega)] at hbre
                rw [if_neg (by omega), y2]
            rw [this]
            simp
          rw [hcode] at u2
          refine ⟨τ5, [], C ++ q.1, ee, hh, f', ?_, by rw [hq2]; exact u2, by simp, ⟨fun _ => rfl, fun y => by omega, fun y => by omega⟩, (n3.trans r5).trans u3, by simp; omega, by omega, by omega, by omega, by rw [hq2]; exact (tk_e_sp t r10).2.1, ⟨fun y => by omega, fun y => by omega⟩⟩
          rw [n1, r1, u1, hhe, hee]
      · intro e he
        rcases pp_sq_er he with e1 | ⟨q1, e1, e2⟩
        · obtain ⟨τ2, r1, r2, r3, r4⟩ := i2 e e1
          exact ⟨τ2, p1.trans r1, r2, p3.trans r3, r4⟩
        · obtain ⟨τ2, V, C', e', h', f', r1, r2, r3, r4, r5, r6, r7, r8, r9, r10, r11⟩ := i1 q1 e1
          rcases pp_exp_er e2 with ⟨hk44, e3⟩ | ⟨hk44, e3⟩
          · have hno := r11.1 (by omega)
            have hno2 := r11.2 (by omega)
            obtain ⟨τ3, u1, u2, u3⟩ := pm_goErr (e := e') (h := h') (f := f') (x := x) r2 ht hN r10 hb0 ⟨hno.1, hno.2, hno2.1, hno2.2⟩ (Or.inr ⟨hbr, hk44⟩) (pm_V20 r4)
            rw [e3]
            exact ⟨τ3, (p1.trans r1).trans u1, u2, (p3.trans r5).trans u3, by (try dsimp only); omega, by (try dsimp only); omega⟩
          · have hgt2 := tk_e_gt r10 (show tk_k t N q1.2 ≠ 301 by omega)
            obtain ⟨τ3, u1, u2, u3⟩ := pm_goComma (e := e') (h := h') (f := f') (x := x) r2 ht hN r10 hb0 hk44 hbr (pm_V20 r4)
            rw [r3] at u2
            obtain ⟨j1, j2⟩ := hR (by omega) _ (tk_e_sp t r10).2.1 τ3 ((br + 2) :: W0) (C ++ q1.1) base x sw_fuel f' u2 (by simp; omega) (pm_top_br (by omega)) (by omega) (by omega)
            rcases pp_sq_er e3 with e4 | ⟨q3, e4, e5⟩
            · obtain ⟨τ4, v1, v2, v3, v4⟩ := j2 e e4
              exact ⟨τ4, ((p1.trans r1).trans u1).trans v1, v2, ((p3.trans r5).trans u3).trans v3, v4⟩
            · obtain ⟨τ4, V2, C2', e'', h2, f2, v1, v2, v3, v4, v5, v6, v7, v8, v9, v10, v11⟩ := j1 q3 e4
              rcases pp_exp_er e5 with ⟨hk41, e6⟩ | ⟨hk41, e6⟩
              · have hno := v11.1 (by omega)
                have hno2 := v11.2 (by omega)
                obtain ⟨τ5, w1, w2, w3⟩ := pm_goErr (e := e'') (h := h2) (f := f2) (x := x) v2 ht hN v10 hb0 ⟨hno.1, hno.2, hno2.1, hno2.2⟩ (Or.inl ⟨by omega, hk41⟩) (pm_V20 v4)
                rw [e6]
                exact ⟨τ5, (((p1.trans r1).trans u1).trans v1).trans w1, w2, (((p3.trans r5).trans u3).trans v5).trans w3, by (try dsimp only); omega, by (try dsimp only); omega⟩
              · cases e6
  · rw [if_neg c1]
    exact pm_RE.er (by omega) ((pm_bMM hq ht hN hb hu hd (by omega)).2.2 c1)
theorem tk_num_er {t : Nat → Nat} {N lo lim b : Nat} {e : Nat × Nat} (hn : tk_num t N lo lim b = .error e) : 0 < e.1 ∧ e.1 < 100 := by
  unfold tk_num at hn
  split at hn
  · split at hn
    · split at hn
      · cases hn
      · rw [← Except.error.inj hn]; exact ⟨by omega, by omega⟩
    · rw [← Except.error.inj hn]; exact ⟨by omega, by omega⟩
  · rw [← Except.error.inj hn]; exact ⟨by omega, by omega⟩
theorem pp_v300 (use : Nat) : pp_var 300 use = none := by
  unfold pp_var
  rw [if_neg (by decide), if_neg (by decide), if_neg (by decide), if_neg (by decide), if_neg (by decide), if_neg (by decide), if_neg (by decide), if_neg (by decide), if_neg (by decide), if_neg (by decide)]
theorem q_of_no {kd use : Nat} (h : ¬ (use = 3 ∧ (kd = 271 ∨ kd = 265))) : q_of kd use = none := by
  unfold q_of
  by_cases c : use = 3
  · rw [if_pos c, if_neg (fun y => h ⟨c, Or.inl y⟩), if_neg (fun y => h ⟨c, Or.inr y⟩)]
  · rw [if_neg c]
theorem pm_rpart {pr : Nat → Nat → Nat → tR} {t : Nat → Nat} {N use d b : Nat} (ht : ∀ i, t i < 256) (hN : N ≤ 1600) (hu : use ≤ 3) (hd : d ≤ 6) (hR : d < 6 → ∀ b, b ≤ N → pm_RP t N use 3 (d + 1) b (pr 3 (d + 1) b)) (hR5 : d < 6 → ∀ b, b ≤ N → pm_RP t N use 5 (d + 1) b (pr 5 (d + 1) b)) (hb : b ≤ N) : pm_RP t N use 5 d b (pp_part t N use pr d b) := by
  unfold pp_part
  by_cases c1 : tk_k t N b = 40
  · rw [if_pos c1]
    intro τ W0 C base x gf f hq hb0 htop hgf hf
    have hgt := tk_e_gt hb (show tk_k t N b ≠ 301 by omega)
    have hb1 : tk_e t N b ≤ N := (tk_e_sp t hb).2.1
    obtain ⟨g2, hg2⟩ : ∃ g2, gf = g2 + 2 := ⟨gf - 2, by omega⟩
    obtain ⟨f1, hf1⟩ : ∃ f1, f = f1 + 1 := ⟨f - 1, by omega⟩
    have hfu := sw_fuel_ge
    have hl := hq.2.2.2
    rw [hg2, hf1]
    by_cases c2 : 6 ≤ d
    · rw [if_pos c2]
      exact pm_RE.er (by omega) ((pm_bRound hq ht hN hb hu hd c1).2 c2)
    · rw [if_neg c2]
      obtain ⟨τ1, p1, p2, p3⟩ := (pm_bRound (g := g2 + 1) (f := f1 + 1) (x := x) hq ht hN hb hu hd c1).1 (by omega)
      obtain ⟨i1, i2⟩ := hR (by omega) _ hb1 τ1 (20 :: W0) C base x (g2 + 1) (f1 + 1) p2 (by simp; omega) (pm_top_br (by omega)) (by omega) (by omega)
      constructor
      · intro q hq0
        obtain ⟨q1, C2, e1, e2, e3⟩ := pp_sq_ok hq0
        obtain ⟨hk41, e4⟩ := pp_exp_ok e2
        have e5 := Except.ok.inj e4
        have hC2 : C2 = [] := (congrArg Prod.fst e5).symm
        have hq2 : q.2 = tk_e t N q1.2 := (congrArg Prod.snd e5).symm
        obtain ⟨τ2, V, C', e, h', f', r1, r2, r3, r4, r5, r6, r7, r8, r9, r10, r11⟩ := i1 q1 e1
        obtain ⟨τ3, u1, u2, u3⟩ := pm_goClose (e := e) (h := h') (f := f' + 1) (x := x) r2 ht hN r10 hb0 hk41 (by omega) (pm_V20 r4)
        have hgt3 := tk_e_gt r10 (show tk_k t N q1.2 ≠ 301 by omega)
        obtain ⟨hh, hhe⟩ : ∃ hh, h' = hh + 1 := ⟨h' - 1, by omega⟩
        obtain ⟨ee, hee⟩ : ∃ ee, sw_fuel = ee + 1 := ⟨sw_fuel - 1, by omega⟩
        rw [if_pos rfl, List.append_nil, r3] at u2
        have eq1 : q.1 = q1.1 := by rw [e3, hC2, List.append_nil]
        refine ⟨τ3, [], C ++ q.1, ee, hh, f', ?_, by rw [hq2, eq1]; exact u2, by simp, ⟨fun _ => rfl, fun y => by omega, fun y => by omega⟩, (p3.trans r5).trans u3, by simp; omega, by omega, by omega, by omega, by rw [hq2]; exact (tk_e_sp t r10).2.1, ⟨fun y => by omega, fun y => by omega⟩⟩
        rw [p1, r1, u1, hhe, hee]
      · intro e he
        rcases pp_sq_er he with e1 | ⟨q1, e1, e2⟩
        · obtain ⟨τ2, r1, r2, r3, r4⟩ := i2 e e1
          exact ⟨τ2, p1.trans r1, r2, p3.trans r3, r4⟩
        · obtain ⟨τ2, V, C', e', h', f', r1, r2, r3, r4, r5, r6, r7, r8, r9, r10, r11⟩ := i1 q1 e1
          rcases pp_exp_er e2 with ⟨hk41, e3⟩ | ⟨hk41, e3⟩
          · have hno := r11.1 (by omega)
            have hno2 := r11.2 (by omega)
            obtain ⟨τ3, u1, u2, u3⟩ := pm_goErr (e := e') (h := h') (f := f') (x := x) r2 ht hN r10 hb0 ⟨hno.1, hno.2, hno2.1, hno2.2⟩ (Or.inl ⟨by omega, hk41⟩) (pm_V20 r4)
            rw [e3]
            exact ⟨τ3, (p1.trans r1).trans u1, u2, (p3.trans r5).trans u3, by (try dsimp only); omega, by (try dsimp only); omega⟩
          · cases e3
  · rw [if_neg c1]
    by_cases c2 : tk_k t N b = 279
    · rw [if_pos c2]
      exact pm_rmm ht hN hu hd hR hb (Or.inl ⟨c2, rfl⟩)
    · rw [if_neg c2]
      by_cases c3 : tk_k t N b = 280
      · rw [if_pos c3]
        exact pm_rmm ht hN hu hd hR hb (Or.inr ⟨c3, rfl⟩)
      · rw [if_neg c3]
        intro τ W0 C base x gf f hq hb0 htop hgf hf
        obtain ⟨g2, hg2⟩ : ∃ g2, gf = g2 + 2 := ⟨gf - 2, by omega⟩
        obtain ⟨f1, hf1⟩ : ∃ f1, f = f1 + 1 := ⟨f - 1, by omega⟩
        have hfu := sw_fuel_ge
        have hl := hq.2.2.2
        rw [hg2, hf1]
        obtain ⟨ee, hee⟩ : ∃ ee, sw_fuel = ee + 1 := ⟨sw_fuel - 1, by omega⟩
        -- a leaf that was read
        have leaf : ∀ (q : List Nat × Nat), b < q.2 → q.2 ≤ N → (∃ τ', pm_qB (g2 + 2) (f1 + 1) x τ = pm_qE sw_fuel sw_fuel (f1 + 1) x τ' ∧ pm_qs τ' t N use q.2 W0 (C ++ q.1) d base ∧ pm_qf τ τ') → pm_RE t N use 5 d b (.ok q) τ W0 C base x (g2 + 2) (f1 + 1) := fun q h1 h2 ⟨τ', k1, k2, k3⟩ => by
          refine ⟨fun q0 hq0 => ?_, fun e he => (by cases he)⟩
          rw [← Except.ok.inj hq0]
          refine ⟨τ', [], C ++ q.1, ee, ee, f1, by rw [k1, hee], k2, by simp, ⟨fun _ => rfl, fun y => by omega, fun y => by omega⟩, k3, by simp; omega, by omega, by omega, h1, h2, ⟨fun y => by omega, fun y => by omega⟩⟩
        by_cases c4 : tk_k t N b = 300
        · rw [if_pos c4]
          have hlf := pm_bLeaf (g := g2) (f := f1 + 1) (x := x) hq ht hN hb hu hb0 ⟨c1, c2, c3⟩ (q_of_no (by omega))
          have hlf0 := pm_bLeaf (g := g2) (f := f1) (x := x) hq ht hN hb hu hb0 ⟨c1, c2, c3⟩ (q_of_no (by omega))
          have hv : pp_var (tk_k t N b) use = none := by rw [c4]; exact pp_v300 use
          cases hn : tk_num t N 0 10000 b with
          | error e =>
            obtain ⟨τ', k1, k2, k3⟩ := (hlf0.2 hv).2 e hn
            have he0 : 0 < e.1 ∧ e.1 < 100 := tk_num_er hn
            exact pm_RE.er (kd := e.1) (pl := e.2) he0 ⟨τ', k1, k2, k3⟩
          | ok r =>
            have hgt := tk_e_gt hb (show tk_k t N b ≠ 301 by omega)
            have hr2 : r.2 = tk_e t N b := by
              unfold tk_num at hn
              rw [if_pos c4] at hn
              split at hn
              · split at hn
                · rw [← Except.ok.inj hn]
                · cases hn
              · cases hn
            exact leaf ([1000 + r.1], r.2) (by (try dsimp only); omega) (by rw [hr2]; exact (tk_e_sp t hb).2.1) ((hlf.2 hv).1 r hn)
        · rw [if_neg c4]
          by_cases c5 : use = 3 ∧ (tk_k t N b = 271 ∨ tk_k t N b = 265)
          · rw [if_pos c5]
            have hgt := tk_e_gt hb (show tk_k t N b ≠ 301 by omega)
            have hb1 : tk_e t N b ≤ N := (tk_e_sp t hb).2.1
            have hq3 := hq
            rw [c5.1] at hq3
            by_cases c6 : 6 ≤ d
            · rw [if_pos c6]
              exact pm_RE.er (by omega) ((pm_bOf hq3 ht hN hb hd c5.2).2 c6)
            · rw [if_neg c6]
              obtain ⟨τ1, p1, p2, p3⟩ := (pm_bOf (g := g2 + 1) (f := f1 + 1) (x := x) hq3 ht hN hb hd c5.2).1 (by omega)
              rw [← c5.1] at p2
              generalize hoe : (if tk_k t N b = 271 then 60 else 61) = o at p2
              have ho60 : 60 ≤ o := by rw [← hoe]; split <;> omega
              obtain ⟨i1, i2⟩ := hR5 (by omega) _ hb1 τ1 (o :: W0) C base x (g2 + 1) (f1 + 1) p2 (by simp; omega) ⟨fun y => by omega, fun y => by omega⟩ (by omega) (by omega)
              constructor
              · intro q hq0
                obtain ⟨q1, C2, e1, e2, e3⟩ := pp_sq_ok hq0
                have e5 := Except.ok.inj e2
                have hC2 : C2 = [o] := (congrArg Prod.fst e5).symm
                have hq2 : q.2 = q1.2 := (congrArg Prod.snd e5).symm
                obtain ⟨τ2, V, C', e, h', f', r1, r2, r3, r4, r5, r6, r7, r8, r9, r10, r11⟩ := i1 q1 e1
                have hVn := r4.1 rfl
                rw [hVn] at r2 r3 r6
                rw [List.append_nil] at r3
                rw [List.nil_append] at r2 r6
                simp only [List.length_cons] at r6
                obtain ⟨τ3, u1, u2, u3⟩ := pm_goOf (e := e) (h := h' + 1) (f := f' + 1) (x := x) r2 hb0 ho60
                obtain ⟨ee2, hee2⟩ : ∃ ee2, e = ee2 + 1 := ⟨e - 1, by omega⟩
                refine ⟨τ3, [], C ++ q.1, ee2, h', f', ?_, by rw [hq2, e3, hC2, ← List.append_assoc, ← r3]; exact u2, by simp, ⟨fun _ => rfl, fun y => by omega, fun y => by omega⟩, (p3.trans r5).trans u3, by simp; omega, by omega, by omega, by omega, by omega, ⟨fun y => by omega, fun y => by omega⟩⟩
                rw [p1, r1, u1, hee2]
              · intro e he
                rcases pp_sq_er he with e1 | ⟨q1, e1, e2⟩
                · obtain ⟨τ2, r1, r2, r3, r4⟩ := i2 e e1
                  exact ⟨τ2, p1.trans r1, r2, p3.trans r3, r4⟩
                · cases e2
          · rw [if_neg c5]
            have hlf := pm_bLeaf (g := g2) (f := f1 + 1) (x := x) hq ht hN hb hu hb0 ⟨c1, c2, c3⟩ (q_of_no c5)
            have hlf0 := pm_bLeaf (g := g2) (f := f1) (x := x) hq ht hN hb hu hb0 ⟨c1, c2, c3⟩ (q_of_no c5)
            cases hv : pp_var (tk_k t N b) use with
            | none =>
              have hn : tk_num t N 0 10000 b = .error (1, tk_s t N b) := by
                unfold tk_num
                rw [if_neg c4]
              obtain ⟨τ', k1, k2, k3⟩ := (hlf0.2 hv).2 _ hn
              exact pm_RE.er (by omega) ⟨τ', k1, k2, k3⟩
            | some v =>
              have hk1 : tk_k t N b ≠ 301 := fun y => by rw [y] at hv; exact pp_var_301 hv
              have hgt := tk_e_gt hb hk1
              exact leaf ([40 + v], tk_e t N b) (by (try dsimp only); omega) (tk_e_sp t hb).2.1 (hlf.1 v hv)
theorem pm_parse {t : Nat → Nat} {N use : Nat} (ht : ∀ i, t i < 256) (hN : N ≤ 1600) (hu : use ≤ 3) : ∀ (k g d b : Nat), pp_nd g d ≤ k → 3 ≤ g → g ≤ 5 → d ≤ 6 → b ≤ N → pm_RP t N use g d b (pp t N use k g d b)
  | 0, g, d, b, h1, h2, h3, h4, h5 => by
    unfold pp_nd at h1
    omega
  | k + 1, g, d, b, h1, h2, h3, h4, h5 => by
    have h1' := h1
    unfold pp_nd at h1'
    have eP : pp t N use (k + 1) g d b = pp_st t N use (fun g d b => pp t N use k g d b) g d b := rfl
    rw [eP]
    unfold pp_st
    have g6 : g = 3 ∨ g = 4 ∨ g = 5 := by omega
    rcases g6 with e | e | e
    · rw [if_neg (by omega), if_neg (by omega), if_neg (by omega), if_pos e]
      intro τ W0 C base x gf f hq hb0 htop hgf hf
      rw [e] at htop ⊢
      exact pm_lsums ht hN (fun b1 hb1 => pm_parse ht hN hu k 4 d b1 (by unfold pp_nd; omega) (by omega) (by omega) h4 hb1) (N + 1) b [] τ W0 C base x gf f hq hb0 htop (Or.inl rfl) h5 (by omega) hgf hf
    · rw [if_neg (by omega), if_neg (by omega), if_neg (by omega), if_neg (by omega), if_pos e]
      intro τ W0 C base x gf f hq hb0 htop hgf hf
      rw [e] at htop ⊢
      exact pm_lprod ht hN (fun b1 hb1 => pm_parse ht hN hu k 5 d b1 (by unfold pp_nd; omega) (by omega) (by omega) h4 hb1) (N + 1) b [] τ W0 C base x gf f hq hb0 htop (Or.inl rfl) h5 (by omega) hgf hf
    · rw [if_neg (by omega), if_neg (by omega), if_neg (by omega), if_neg (by omega), if_neg (by omega), e]
      exact pm_rpart ht hN hu h4 (fun hd b1 hb1 => pm_parse ht hN hu k 3 (d + 1) b1 (by unfold pp_nd; omega) (by omega) (by omega) (by omega) hb1) (fun hd b1 hb1 => pm_parse ht hN hu k 5 (d + 1) b1 (by unfold pp_nd; omega) (by omega) (by omega) (by omega) hb1) h5
/-- a whole sum -/
theorem pm_sums {τ : sw_St} {t : Nat → Nat} {N use b d k base : Nat} {W C : List Nat} (hq : pm_qs τ t N use b W C d base) (ht : ∀ i, t i < 256) (hN : N ≤ 1600) (hu : use ≤ 3) (hb : b ≤ N) (hd : d ≤ 6) (hk : pp_nd 3 d ≤ k) (hW : W.head? ≠ some 1 ∧ W.head? ≠ some 2 ∧ W.head? ≠ some 3 ∧ W.head? ≠ some 4) (hbase : base ≤ 1650) :
    (∀ q, pp t N use k 3 d b = .ok q → ∃ τ', F_X11_qSums τ = some ((), τ') ∧ pm_qs τ' t N use q.2 W (C ++ q.1) d base ∧ pm_qf τ τ' ∧ b < q.2 ∧ q.2 ≤ N) ∧ (∀ e, pp t N use k 3 d b = .error e → ∃ τ', F_X11_qSums τ = some ((), τ') ∧ pm_bd τ' e.1 e.2 ∧ pm_qf τ τ' ∧ 0 < e.1 ∧ e.1 < 100) := by
  have hfu := sw_fuel_ge
  have hl := hq.2.2.2
  have m0 : pm_sm [] [99] τ (sw_uI τ 0 99 (nI W.length)) := (pm_sm.refl _ _ τ).K (by decide) _
  obtain ⟨a1, a2, a3, a4, a5, a6, a7, a8, a9, a10⟩ := hq.2.1
  have hq0 : pm_qs (sw_uI τ 0 99 (nI W.length)) t N use b W C d W.length := ⟨hq.1.mv m0 (by decide) (by decide), ⟨pm_wt_cong (fun k _ => m0.r (by decide) (by decide) k) a1, fun i hi => by rw [m0.r (by decide) (by decide)]; exact a2 i hi, by rw [pz_Ik (by decide)]; exact a3, by rw [pz_Ik (by decide)]; exact a4, by rw [pz_Ik (by decide)]; exact a5, pz_Ie rfl rfl, a7, a8, a9, by omega⟩, by rw [pz_Ik (by decide)]; exact hq.2.2.1, hl⟩
  obtain ⟨ff, hff⟩ : ∃ ff, sw_fuel = ff + 1 := ⟨sw_fuel - 1, by omega⟩
  have eS : F_X11_qSums τ = pm_qB sw_fuel ff (nI base) (sw_uI τ 0 99 (nI W.length)) := by
    unfold F_X11_qSums
    rw [a3, a6]
    conv => lhs; rw [hff]
    exact pm_qgo (by rw [pz_Ik (by decide)]; exact hq.1.2.2.1)
  obtain ⟨i1, i2⟩ := pm_parse ht hN hu k 3 d b hk (by omega) (by omega) hd hb (sw_uI τ 0 99 (nI W.length)) W C W.length (nI base) sw_fuel ff hq0 (Nat.le_refl _) ⟨fun _ => ⟨hW.2.2.1, hW.2.2.2, Or.inl rfl⟩, fun _ => ⟨hW.1, hW.2.1⟩⟩ (by omega) (by omega)
  constructor
  · intro q hq1
    obtain ⟨τ2, V, C', e, h', f', r1, r2, r3, r4, r5, r6, r7, r8, r9, r10, r11⟩ := i1 q hq1
    have hno := r11.1 (by omega)
    have hno2 := r11.2 (by omega)
    obtain ⟨τ3, u1, u2, u3⟩ := pm_goEnd (e := e) (h := h') (f := f') (was := base) r2 ht hN r10 rfl hbase ⟨hno.1, hno.2, hno2.1, hno2.2⟩ (pm_V20 r4)
    rw [r3] at u2
    exact ⟨τ3, (eS.trans r1).trans u1, u2, ((m0.mono (by decide) (by decide)).trans r5).trans u3, r9, r10⟩
  · intro e he
    obtain ⟨τ2, r1, r2, r3, r4⟩ := i2 e he
    exact ⟨τ2, eS.trans r1, r2, (m0.mono (by decide) (by decide)).trans r3, r4⟩

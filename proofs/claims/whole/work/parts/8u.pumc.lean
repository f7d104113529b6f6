/-! Gaps that are shut, codes that are told: the reference. -/
theorem pm_uod {t : Nat → Nat} {N b : Nat} {u : g_U} (hu : pu_ok u) (ht : ∀ i, t i < 256) (hN : N ≤ 1600) (hb : b ≤ N) : pm_uc t N u (fun τ => F_X11_shutTold τ) (tk_e t N b) (pu_shut t N u b) := by
  have l10 := hu.1.2.1
  have hes := tk_e_sp t hb
  unfold pu_shut
  intro τ hs hM
  (try dsimp only)
  obtain ⟨p1, p2⟩ := pm_num2 (lo := 0) (lim := u.1 0 1) (x2 := nI (u.1 0 1) - 1) hs ht hN hes.2.1 (by decide) (px_gm1 _ (by omega))
  unfold F_X11_shutTold S_X11_shutTold_39 S_X11_shutTold_53
  rw [hM.2.1]
  cases hn : tk_num t N 0 (u.1 0 1) (tk_e t N b) with
  | error e0 =>
    refine ⟨fun q hq => (by cases hq), fun e he => ?_⟩
    have he : (Except.error e0 : uR) = .error e := he
    rw [← Except.error.inj he]
    obtain ⟨τ1, v, k0, k1, k2, k3, k4, k5⟩ := p2 e0 hn
    have d5 := pm_eq0 k2.1 k4 k5
    refine ⟨τ1, ?_, k2, k3.uf, k4, k5⟩
    rw [show F_X11_number τ 0 (nI (u.1 0 1) - 1) = _ from k1]
    dsimp only [Option.bind_some]
    rw [if_neg d5, if_neg d5]
  | ok r =>
    obtain ⟨τ1, k1, k2, k3, k4⟩ := p1 r hn
    have f1 := tk_num_ok hes.2.1 hn
    have hM1 := k3.M hM (show tk_e t N b ≤ r.2 by omega)
    have e32 := hM1.2.2.2.2.2.2.1 r.1 f1.2.1
    rw [show F_X11_number τ 0 (nI (u.1 0 1) - 1) = _ from k1]
    dsimp only [Option.bind_some]
    rw [if_pos k2.2.2.1, if_pos (pz_inb (by omega) (by omega)), nI_clamp (by omega), e32]
    have eu : ub (Except.ok r) (fun r => if u.2.2.2.1.testBit r.1 = true then .ok (u_o u r.1, r.2) else .error (2, tk_s t N (tk_e t N b))) = (if u.2.2.2.1.testBit r.1 = true then .ok (u_o u r.1, r.2) else .error (2, tk_s t N (tk_e t N b)) : uR) := rfl
    rw [eu]
    by_cases c : u.2.2.2.1.testBit r.1 = true
    · rw [if_pos c, if_pos c, if_neg (show ¬ nI 1 = 0 from pz_10), if_pos k2.2.2.1, if_pos (pz_inb (by omega) (by omega))]
      refine ⟨fun q hq => ?_, fun e he => (by cases he)⟩
      rw [← Except.ok.inj hq]
      have m : pm_uf pm_UK τ1 (sw_uI τ1 32 r.1 0) := (pm_uf.refl _ τ1).I (by decide) (by unfold pm_kp; omega) _
      have r0 : ∀ o j, o ≠ 32 → (sw_uI τ1 32 r.1 0).1 o j = τ1.1 o j := fun o j h => pz_Io h j
      refine ⟨_, rfl, k2.mvW m (r0 _ _ (by decide)) (r0 _ _ (by decide)) (r0 _ _ (by decide)) (r0 _ _ (by decide)), ?_, k3.uf.trans m⟩
      obtain ⟨a1, b1, b2, b3, b4, b5, b6, n, c1, c2, c3⟩ := hM1
      refine ⟨⟨by rw [r0 _ _ (by decide)]; exact a1.1, by rw [r0 _ _ (by decide)]; exact a1.2.1, a1.2.2.1, a1.2.2.2⟩, by rw [r0 _ _ (by decide)]; exact b1, by rw [r0 _ _ (by decide)]; exact b2, fun f hf => by rw [r0 _ _ (by decide)]; exact b3 f hf, fun j hj => by rw [r0 _ _ (by decide)]; exact b4 j hj, fun j hj => by rw [r0 _ _ (by decide)]; exact b5 j hj, fun k hk => ?_, n, by rw [r0 _ _ (by decide)]; exact c1, c2, fun i hi => ?_⟩
      · have eb : (u_o u r.1).2.2.2.1.testBit k = (u.2.2.2.1.testBit k ^^ decide (r.1 = k)) := by
          show (u.2.2.2.1 ^^^ 2 ^ r.1).testBit k = _
          rw [Nat.testBit_xor, Nat.testBit_two_pow]
        rw [eb]
        by_cases d : k = r.1
        · rw [d, pz_Ie rfl rfl, c, decide_eq_true rfl]
          rfl
        · rw [pz_Ik d, decide_eq_false (Ne.symm d), Bool.xor_false]
          exact b6 k hk
      · rw [r0 _ _ (by decide), r0 _ _ (by decide)]
        rcases c3 i hi with y | ⟨y1, a, y2, y3, y4, y5⟩
        · exact Or.inl y
        · exact Or.inr ⟨y1, a, y2, y3, y4, fun k hk => by rw [r0 _ _ (by decide)]; exact y5 k hk⟩
    · rw [if_neg c, if_neg c, if_pos (show nI 0 = 0 from rfl), k4]
      refine ⟨fun q hq => (by cases hq), fun e he => ?_⟩
      rw [← Except.error.inj he]
      obtain ⟨τ2, q1, q2, q3⟩ := pm_failN (τ := τ1) (kd := 2) (pl := tk_s t N (tk_e t N b)) k2.2.2.1
      refine ⟨τ2, ?_, q2, k3.uf.trans (q3.uf (by simp) (by decide)), (by omega : 0 < 2), (by omega : 2 < 100)⟩
      rw [show F_X11_fail τ1 2 (nI (tk_s t N (tk_e t N b))) = _ from q1]
      dsimp only [Option.bind_some]
      rw [if_neg (pm_eq0 q2.1 (by omega) (by omega))]
theorem pm_cp92 {C : List Nat} {n j : Nat} (hj : j < 3) (hn : n + C.length ≤ 1600) : ∀ (k fuel i : Nat) (τ : sw_St), τ.1 0 95 = nI C.length → τ.1 0 46 = nI (n + i) → i + k = C.length → (∀ x, x < C.length → τ.1 71 x = nI (C.getD x 0)) → k < fuel →
    ∃ τ', L_X11_codesTold_92 fuel τ (nI j) (nI i) = some ((), τ') ∧ τ'.1 0 46 = nI (n + C.length) ∧ τ'.1 35 j = nI (n + C.length) ∧ (∀ x, i ≤ x → x < C.length → τ'.1 36 (n + x) = nI (C.getD x 0)) ∧ (∀ x, x < n + i → τ'.1 36 x = τ.1 36 x) ∧ (∀ x, x ≠ j → τ'.1 35 x = τ.1 35 x) ∧ pm_sm [35, 36] [46] τ τ' ∧ pm_uf [46] τ τ'
  | 0, fuel + 1, i, τ, h95, h46, hi, hC, hf => by
    have hic : i = C.length := by omega
    refine ⟨sw_uI τ 35 j (nI (n + i)), ?_, by rw [pz_Io (by decide), h46, hic], by rw [pz_Ie rfl rfl, hic], fun x h1 h2 => by omega, fun x hx => by rw [pz_Io (by decide)], fun x hx => by rw [pz_Ik hx], (pm_sm.refl _ _ τ).I (by decide) (by decide) _ _, (pm_uf.refl _ τ).I (by decide) (by unfold pm_kp; omega) _⟩
    show S_X11_codesTold_92 _ τ (nI j) (nI i) = _
    unfold S_X11_codesTold_92
    rw [h95, if_pos (nI_le (by omega) (by omega)), if_pos (pz_inb (by omega) (by omega)), nI_clamp (by omega), h46]
  | k + 1, fuel + 1, i, τ, h95, h46, hi, hC, hf => by
    have m1 : pm_sm [35, 36] [46] τ (sw_uI (sw_uI τ 36 (n + i) (nI (C.getD i 0))) 0 46 (nI (n + i + 1))) := ((pm_sm.refl _ _ τ).I (by decide) (by decide) _ _).K (by decide) _
    have m2 : pm_uf [46] τ (sw_uI (sw_uI τ 36 (n + i) (nI (C.getD i 0))) 0 46 (nI (n + i + 1))) := ((pm_uf.refl _ τ).I (by decide) (by unfold pm_kp; omega) _).K (by decide) _
    obtain ⟨τ', p1, p2, p3, p4, p5, p6, p7, p8⟩ := pm_cp92 hj hn k fuel (i + 1) (sw_uI (sw_uI τ 36 (n + i) (nI (C.getD i 0))) 0 46 (nI (n + i + 1))) (by rw [pz_Ik (by decide), pz_Io (by decide)]; exact h95) (pz_Ie rfl rfl) (by omega) (fun x hx => by rw [pz_Io (by decide), pz_Io (by decide)]; exact hC x hx) (by omega)
    refine ⟨τ', ?_, p2, p3, fun x h1 h2 => ?_, fun x hx => ?_, fun x hx => ?_, m1.trans p7, m2.trans p8⟩
    · show S_X11_codesTold_92 _ τ (nI j) (nI i) = _
      unfold S_X11_codesTold_92
      rw [h95, if_neg (nI_ge (by omega) (by omega)), if_pos (pz_inb (by omega) (by omega)), h46, if_pos (pz_inb (by omega) (by omega)), nI_clamp (show n + i < 2 ^ 31 by omega), nI_clamp (show i < 2 ^ 31 by omega), hC i (by omega), nI_1, nI_1]
      exact p1
    · by_cases d : x = i
      · rw [d, p5 (n + i) (by omega), pz_Io (by decide), pz_Ie rfl rfl]
      · exact p4 x (by omega) h2
    · rw [p5 x (by omega), pz_Io (by decide), pz_Ik (by omega)]
    · rw [p6 x hx, pz_Io (by decide), pz_Io (by decide)]
theorem pm_ucd {t : Nat → Nat} {N b j : Nat} {u : g_U} (hu : pu_ok u) (ht : ∀ i, t i < 256) (hN : N ≤ 1600) (hb : b ≤ N) (hj : j < 3) : pm_uc t N u (fun τ => F_X11_codesTold τ (nI j) (nI (tk_s t N b))) (tk_e t N b) (pu_codes t N u j b) := by
  have hfu := sw_fuel_ge
  have hes := tk_e_sp t hb
  unfold pu_codes
  intro τ hs hM
  (try dsimp only)
  obtain ⟨a1, b1, b2, b3, b4, b5, b6, n, c1, c2, c3⟩ := hM
  unfold F_X11_codesTold
  rw [if_pos hs.2.2.1, if_pos (pz_inb (show j < 6 by omega) (by omega)), nI_clamp (by omega)]
  by_cases c : u.2.2.2.2.testBit j = true
  · rw [if_pos c]
    have h34 : ¬ τ.1 34 j = -1 := by
      rcases c3 j hj with y | ⟨y1, a, y2, y3, y4, y5⟩
      · rw [c] at y
        exact absurd y.2.2 (by decide)
      · rw [y3]
        exact pz_nm1 (by omega)
    rw [if_neg h34]
    refine ⟨fun q hq => (by cases hq), fun e he => ?_⟩
    rw [← Except.error.inj he]
    obtain ⟨τ2, q1, q2, q3⟩ := pm_failN (τ := τ) (kd := 5) (pl := tk_s t N b) hs.2.2.1
    refine ⟨τ2, ?_, q2, q3.uf (by simp) (by decide), (by omega : 0 < 5), (by omega : 5 < 100)⟩
    rw [show F_X11_fail τ 5 (nI (tk_s t N b)) = _ from q1]
    dsimp only [Option.bind_some]
    unfold S_X11_codesTold_23
    rw [if_neg (pm_eq0 q2.1 (by omega) (by omega))]
  · rw [if_neg c]
    have h34 : τ.1 34 j = -1 := by
      rcases c3 j hj with y | ⟨y1, -⟩
      · exact y.1
      · exact absurd y1 c
    rw [if_pos h34]
    unfold S_X11_codesTold_23
    rw [if_pos hs.2.2.1]
    have m1 : pm_sm [] [48, 95, 97, 98, 99] τ (sw_uI (sw_uI (sw_uI (sw_uI (sw_uI τ 0 48 (nI j)) 0 95 0) 0 97 0) 0 98 0) 0 99 0) := (((((pm_sm.refl _ _ τ).K (by decide) _).K (by decide) _).K (by decide) _).K (by decide) _).K (by decide) _
    have v48 : (sw_uI (sw_uI (sw_uI (sw_uI (sw_uI τ 0 48 (nI j)) 0 95 0) 0 97 0) 0 98 0) 0 99 0).1 0 48 = nI j := by
      repeat rw [pz_Ik (by decide)]
      exact pz_Ie rfl rfl
    have v95 : (sw_uI (sw_uI (sw_uI (sw_uI (sw_uI τ 0 48 (nI j)) 0 95 0) 0 97 0) 0 98 0) 0 99 0).1 0 95 = nI 0 := by
      repeat rw [pz_Ik (by decide)]
      exact pz_Ie rfl rfl
    have v97 : (sw_uI (sw_uI (sw_uI (sw_uI (sw_uI τ 0 48 (nI j)) 0 95 0) 0 97 0) 0 98 0) 0 99 0).1 0 97 = nI 0 := by
      repeat rw [pz_Ik (by decide)]
      exact pz_Ie rfl rfl
    have v98 : (sw_uI (sw_uI (sw_uI (sw_uI (sw_uI τ 0 48 (nI j)) 0 95 0) 0 97 0) 0 98 0) 0 99 0).1 0 98 = nI 0 := by
      repeat rw [pz_Ik (by decide)]
      exact pz_Ie rfl rfl
    have v99 : (sw_uI (sw_uI (sw_uI (sw_uI (sw_uI τ 0 48 (nI j)) 0 95 0) 0 97 0) 0 98 0) 0 99 0).1 0 99 = nI 0 := pz_Ie rfl rfl
    generalize hg1 : sw_uI (sw_uI (sw_uI (sw_uI (sw_uI τ 0 48 (nI j)) 0 95 0) 0 97 0) 0 98 0) 0 99 0 = τ1 at m1 v48 v95 v97 v98 v99
    have hs1 : pm_ps τ1 t N (tk_e t N b) := hs.mvW (m1.uf (by simp) (by decide)) (m1.2.1 2 (by decide)) (m1.2.1 4 (by decide)) (m1.2.1 5 (by decide)) (m1.2.1 6 (by decide))
    have hq1 : pm_qs τ1 t N j (tk_e t N b) [] [] 0 0 := ⟨hs1, ⟨trivial, fun i hi => (by cases hi), v97, v95, v98, v99, by simp, fun o ho => (by cases ho), by omega, by omega⟩, v48, by simp⟩
    -- behind the reading
    have after : ∀ (τ2 : sw_St) (q0 : List Nat × Nat), pp t N j sw_depth (pu_gj j) 0 (tk_e t N b) = .ok q0 → pm_qs τ2 t N j q0.2 [] ([] ++ q0.1) 0 0 → pm_qf τ1 τ2 → ∃ τ', S_X11_codesTold_72 τ2 (nI j) = some ((), τ') ∧ pm_ps τ' t N q0.2 ∧ pu_M τ' (u_c u j q0.1) q0.2 ∧ pm_uf pm_UK τ τ' := fun τ2 q0 hr h2 m2 => by
      have hl := pp_len (t := t) (N := N) (use := j) ht sw_depth (pu_gj j) 0 (tk_e t N b) hes.2.1 q0 hr
      rw [List.nil_append] at h2
      have m12 : pm_sm [71, 72] [2, 4, 5, 6, 10, 36, 48, 95, 97, 98, 99] τ τ2 := (m1.mono (by decide) (by decide)).trans (m2.mono (by decide) (by decide))
      have w46 : τ2.1 0 46 = nI n := by rw [m12.2.1 46 (by decide)]; exact c1
      have m3 : pm_sm [34] [] τ2 (sw_uI τ2 34 j (nI n)) := (pm_sm.refl _ _ τ2).I (by decide) (by decide) _ _
      have u3 : pm_uf pm_UK τ2 (sw_uI τ2 34 j (nI n)) := (pm_uf.refl _ τ2).I (by decide) (by unfold pm_kp; omega) _
      obtain ⟨τ4, p1, p2, p3, p4, p5, p6, p7, p8⟩ := pm_cp92 (C := q0.1) (n := n) hj (by omega) q0.1.length sw_fuel 0 (sw_uI τ2 34 j (nI n)) (by rw [pz_Io (by decide)]; exact h2.2.1.2.2.2.1) (by rw [pz_Io (by decide), w46, Nat.add_zero]) (by omega) (fun x hx => by rw [pz_Io (by decide)]; exact h2.2.1.2.1 x hx) (by omega)
      have U2 : pm_uf pm_UK τ τ2 := m12.uf (by decide) (by decide)
      have U4 : pm_uf pm_UK τ2 τ4 := u3.trans (p8.mono (by decide))
      refine ⟨τ4, ?_, h2.1.mvW U4 (by rw [p7.2.1 2 (by decide), pz_Io (by decide)]) (by rw [p7.2.1 4 (by decide), pz_Io (by decide)]) (by rw [p7.2.1 5 (by decide), pz_Io (by decide)]) (by rw [p7.2.1 6 (by decide), pz_Io (by decide)]), ?_, U2.trans U4⟩
      · unfold S_X11_codesTold_72
        rw [if_pos h2.1.2.2.1, if_pos (pz_inb (show j < 6 by omega) (by omega)), nI_clamp (by omega), w46]
        exact p1
      · have r : ∀ o, o ≠ 0 → o ≠ 34 → o ≠ 35 → o ≠ 36 → o ≠ 71 → o ≠ 72 → ∀ k, τ4.1 o k = τ.1 o k := fun o h0 h1 h2 h3 h4 h5 k => by
          rw [p7.r h0 (by simp; omega), pz_Io h1, m12.r h0 (by simp; omega)]
        have r29 : τ4.2.1 29 = τ.2.1 29 := by
          rw [(p7.1 29 (by decide) (by decide)).2]
          show τ2.2.1 29 = _
          rw [(m12.1 29 (by decide) (by decide)).2]
        have r34 : ∀ x, τ4.1 34 x = if x = j then nI n else τ.1 34 x := fun x => by
          rw [p7.r (by decide) (by decide)]
          by_cases d : x = j
          · rw [if_pos d, pz_Ie rfl d]
          · rw [if_neg d, pz_Ik d, m12.r (by decide) (by decide)]
        have r35 : ∀ x, x ≠ j → τ4.1 35 x = τ.1 35 x := fun x hx => by rw [p6 x hx, pz_Io (by decide), m12.r (by decide) (by decide)]
        have r36 : ∀ x, x < n → τ4.1 36 x = τ.1 36 x := fun x hx => by rw [p5 x (by omega), pz_Io (by decide), m12.r (by decide) (by decide)]
        refine ⟨⟨by rw [r _ (by decide) (by decide) (by decide) (by decide) (by decide) (by decide)]; exact a1.1, by rw [r _ (by decide) (by decide) (by decide) (by decide) (by decide) (by decide)]; exact a1.2.1, by rw [r29]; exact a1.2.2.1, by rw [r29]; exact a1.2.2.2⟩, by rw [r _ (by decide) (by decide) (by decide) (by decide) (by decide) (by decide)]; exact b1, by rw [r _ (by decide) (by decide) (by decide) (by decide) (by decide) (by decide)]; exact b2, fun f hf => by rw [r _ (by decide) (by decide) (by decide) (by decide) (by decide) (by decide)]; exact b3 f hf, fun f hf => by rw [r _ (by decide) (by decide) (by decide) (by decide) (by decide) (by decide)]; exact b4 f hf, fun f hf => by rw [r _ (by decide) (by decide) (by decide) (by decide) (by decide) (by decide)]; exact b5 f hf, fun f hf => by rw [r _ (by decide) (by decide) (by decide) (by decide) (by decide) (by decide)]; exact b6 f hf, n + q0.1.length, p2, by omega, fun i hi => ?_⟩
        have et : (u_c u j q0.1).2.2.2.2.testBit i = (u.2.2.2.2.testBit i || decide (j = i)) := g_or2_t
        have eP : (u_c u j q0.1).2.1 i = if i = j then q0.1 else u.2.1 i := rfl
        rw [et, eP, r34]
        by_cases d : i = j
        · rw [if_pos d, if_pos d, decide_eq_true d.symm, Bool.or_true]
          refine Or.inr ⟨rfl, n, by omega, rfl, by rw [d]; exact p3, fun x hx => p4 x (by omega) hx⟩
        · rw [if_neg d, if_neg d, decide_eq_false (Ne.symm d), Bool.or_false]
          rcases c3 i hi with y | ⟨y1, a, y2, y3, y4, y5⟩
          · exact Or.inl y
          · exact Or.inr ⟨y1, a, by omega, y3, by rw [r35 i d]; exact y4, fun x hx => by rw [r36 _ (by omega)]; exact y5 x hx⟩
    have dead : ∀ (τ2 : sw_St) (e : Nat × Nat), pm_bad τ2 e.1 e.2 → pm_qf τ1 τ2 → 0 < e.1 → e.1 < 100 → ∃ τ', S_X11_codesTold_72 τ2 (nI j) = some ((), τ') ∧ pm_bad τ' e.1 e.2 ∧ pm_uf pm_UK τ τ' ∧ 0 < e.1 ∧ e.1 < 100 := fun τ2 e h2 m2 k1 k2 => by
      refine ⟨τ2, ?_, h2, (m1.uf (by simp) (by decide)).trans (pm_sm.uf m2 (by decide) (by decide)), k1, k2⟩
      unfold S_X11_codesTold_72
      rw [if_neg (pm_eq0 h2.1 k1 k2)]
    have hR : (∀ q0, pp t N j sw_depth (pu_gj j) 0 (tk_e t N b) = .ok q0 → ∃ τ2, (if nI j = 1 then S_X11_codesTold_61 τ1 (nI j) else S_X11_codesTold_68 τ1 (nI j)) = S_X11_codesTold_72 τ2 (nI j) ∧ pm_qs τ2 t N j q0.2 [] ([] ++ q0.1) 0 0 ∧ pm_qf τ1 τ2) ∧ (∀ e, pp t N j sw_depth (pu_gj j) 0 (tk_e t N b) = .error e → ∃ τ2, (if nI j = 1 then S_X11_codesTold_61 τ1 (nI j) else S_X11_codesTold_68 τ1 (nI j)) = S_X11_codesTold_72 τ2 (nI j) ∧ pm_bad τ2 e.1 e.2 ∧ pm_qf τ1 τ2 ∧ 0 < e.1 ∧ e.1 < 100) := by
      by_cases d : j = 1
      · have eg : pu_gj j = 0 := by unfold pu_gj; rw [if_pos d]
        rw [eg, if_pos (show nI j = 1 from by rw [d]; rfl)]
        obtain ⟨i1, i2⟩ := pm_test (k := sw_depth) hq1 ht hN (by omega) hes.2.1 (by unfold pp_nd sw_depth; omega)
        unfold S_X11_codesTold_61
        refine ⟨fun q0 h0 => ?_, fun e h0 => ?_⟩
        · obtain ⟨τ2, j1, j2, j3, -⟩ := i1 q0 h0
          exact ⟨τ2, by rw [j1]; rfl, j2, j3⟩
        · obtain ⟨τ2, j1, j2, j3, j4⟩ := i2 e h0
          exact ⟨τ2, by rw [j1]; rfl, j2, j3, j4⟩
      · have eg : pu_gj j = 3 := by unfold pu_gj; rw [if_neg d]
        rw [eg, if_neg (show ¬ nI j = 1 from fun y => d ((nI_eq (b := 1) (by omega) (by omega)).mp y))]
        obtain ⟨i1, i2⟩ := pm_sums (k := sw_depth) hq1 ht hN (by omega) hes.2.1 (by omega) (by unfold pp_nd sw_depth; omega) (by simp) (by omega)
        unfold S_X11_codesTold_68
        refine ⟨fun q0 h0 => ?_, fun e h0 => ?_⟩
        · obtain ⟨τ2, j1, j2, j3, -⟩ := i1 q0 h0
          exact ⟨τ2, by rw [j1]; rfl, j2, j3⟩
        · obtain ⟨τ2, j1, j2, j3, j4⟩ := i2 e h0
          exact ⟨τ2, by rw [j1]; rfl, j2.1, j3, j4⟩
    cases hr : pp t N j sw_depth (pu_gj j) 0 (tk_e t N b) with
    | error e0 =>
      refine ⟨fun q hq => (by cases hq), fun e he => ?_⟩
      have he : (Except.error e0 : uR) = .error e := he
      rw [← Except.error.inj he]
      obtain ⟨τ2, j1, j2, j3, j4, j5⟩ := hR.2 e0 hr
      rw [j1]
      exact dead τ2 e0 j2 j3 j4 j5
    | ok q0 =>
      refine ⟨fun q hq => ?_, fun e he => (by cases he)⟩
      have hq : (Except.ok (u_c u j q0.1, q0.2) : uR) = .ok q := hq
      rw [← Except.ok.inj hq]
      obtain ⟨τ2, j1, j2, j3⟩ := hR.1 q0 hr
      rw [j1]
      exact after τ2 q0 hr j2 j3

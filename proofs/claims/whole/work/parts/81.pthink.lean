/-! The reference thinks with all sheep. -/
def pm_tv (τ : sw_St) (l : Nat → Nat → Nat) (P : Nat → List Nat) (op : Nat → Bool) (day : Nat) (cu : Nat → Nat) (rw : Nat → Nat → Nat) : Prop :=
  pm_ld τ l P ∧ pm_op τ l op ∧ (∀ t, t < l 0 2 → pm_vw τ l day (cu t) (rw t) t) ∧ τ.1 0 58 = 1
def g_rks (l : Nat → Nat → Nat) (cu : Nat → Nat) (rw : Nat → Nat → Nat) : Prop := ∀ t, t < l 0 2 → g_rk (cu t) (rw t) ∧ rw t 0 < l 0 0
theorem pm_tloop {l : Nat → Nat → Nat} {P : Nat → List Nat} {op : Nat → Bool} {day : Nat} {cu : Nat → Nat} (hg : g_ld l P) (hd : day + 1 ≤ 100000) : ∀ (n fuel s : Nat) (rw : Nat → Nat → Nat) (τ : sw_St), pm_tv τ l P op day cu rw → g_rks l cu rw → s + n = l 0 2 → n < fuel →
    ∃ τ', L_X11_dayGoes_2 fuel τ (nI s) = some ((), τ') ∧ pm_tv τ' l P op (day + 1) cu (fun t => if s ≤ t then g_step l P op day (cu t) (rw t) t else rw t) ∧ pm_sm [37, 73] [48, 54, 55, 56, 59, 101] τ τ' ∧ (∀ i, 84 ≤ i → τ'.1 37 i = τ.1 37 i) ∧ τ'.1 37 1 = τ.1 37 1
  | 0, fuel + 1, s, rw, τ, h, hr, hs, hf => by
    have g1 := hg.2.1
    have g2 := hg.2.2.1
    obtain ⟨h1, h2, h3, h4⟩ := h
    by_cases h0 : τ.1 37 0 = nI day
    · refine ⟨sw_uI τ 37 0 (nI (day + 1)), ?_, ⟨?_, ?_, fun t ht => ?_, by rw [pz_Io (by decide)]; exact h4⟩, (pm_sm.refl _ _ τ).I (by decide) (by decide) _ _, fun i hi => by rw [pz_Ik (by omega)], by rw [pz_Ik (by decide)]⟩
      · show S_X11_dayGoes_2 _ τ (nI s) = _
        unfold S_X11_dayGoes_2 F_X11_sheepMany
        dsimp only [Option.bind]
        rw [h1.2.2.1, if_pos (nI_le (by omega) (by omega)), h0, nI_1]
      · exact h1.mv (S := [37]) (K := []) ((pm_sm.refl _ _ τ).I (by decide) (by decide) _ _) (by unfold pm_LS; decide)
      · intro k hk
        rw [pz_Ik (by omega)]
        exact h2 k hk
      · obtain ⟨a1, a2, a3, a4, a5⟩ := h3 t ht
        (try dsimp only)
        rw [if_neg (by omega)]
        refine ⟨a1, pz_Ie rfl rfl, fun j hj => by rw [pz_Ik (by omega)]; exact a3 j hj, ?_, fun f hf => by rw [pz_Io (by decide)]; exact a5 f hf⟩
        rw [pz_Io (by decide), pz_Io (by decide), pz_Io (by decide)]
        exact a4
    · exact ⟨sw_uI τ 37 0 (τ.1 37 0 + 1), by
        show S_X11_dayGoes_2 _ τ (nI s) = _
        unfold S_X11_dayGoes_2 F_X11_sheepMany
        dsimp only [Option.bind]
        rw [h1.2.2.1, if_pos (nI_le (by omega) (by omega))], ⟨h1.mv (S := [37]) (K := []) ((pm_sm.refl _ _ τ).I (by decide) (by decide) _ _) (by unfold pm_LS; decide), fun k hk => by rw [pz_Ik (by omega)]; exact h2 k hk, fun t ht => absurd (h3 t ht).2.1 h0, by rw [pz_Io (by decide)]; exact h4⟩, (pm_sm.refl _ _ τ).I (by decide) (by decide) _ _, fun i hi => by rw [pz_Ik (by omega)], by rw [pz_Ik (by decide)]⟩
  | n + 1, fuel + 1, s, rw, τ, h, hr, hs, hf => by
    have g1 := hg.2.1
    have g2 := hg.2.2.1
    obtain ⟨h1, h2, h3, h4⟩ := h
    have hsl : s < l 0 2 := by omega
    obtain ⟨r1, r2⟩ := hr s hsl
    obtain ⟨τ1, p1, p2, p3, p4⟩ := pm_sheepGoes hg h1 h2 (h3 s hsl) r1 (by omega) r2 h4
    have h3' : ∀ t, t < l 0 2 → pm_vw τ1 l day (cu t) ((fun t => if t = s then g_step l P op day (cu s) (rw s) s else rw t) t) t := fun t ht => by
      (try dsimp only)
      by_cases e : t = s
      · rw [if_pos e, e]
        exact p2
      · rw [if_neg e]
        obtain ⟨a1, a2, a3, a4, a5⟩ := h3 t ht
        refine ⟨a1, by rw [p4 0 (by omega)]; exact a2, fun j hj => by rw [p4 _ (by omega)]; exact a3 j hj, ?_, fun f hf => by rw [p3.r (by decide) (by decide)]; exact a5 f hf⟩
        rw [p3.2.1 52 (by decide), p3.2.1 53 (by decide), p3.r (by decide) (by decide)]
        exact a4
    obtain ⟨τ2, q1, q2, q3, q4, q5⟩ := pm_tloop hg hd n fuel (s + 1) (fun t => if t = s then g_step l P op day (cu s) (rw s) s else rw t) τ1 ⟨h1.mv p3 (by unfold pm_LS; decide), fun k hk => by rw [p4 _ (by omega)]; exact h2 k hk, h3', by rw [p3.2.1 58 (by decide)]; exact h4⟩ (fun t ht => by
      (try dsimp only)
      by_cases e : t = s
      · rw [if_pos e, e]
        exact ⟨g_step_rk hg r1, g_step_f hg r2⟩
      · rw [if_neg e]
        exact hr t ht) (by omega) (by omega)
    refine ⟨τ2, ?_, ⟨q2.1, q2.2.1, fun t ht => ?_, q2.2.2.2⟩, p3.trans q3, fun i hi => by rw [q4 i hi, p4 i (by omega)], by rw [q5, p4 1 (by omega)]⟩
    · show S_X11_dayGoes_2 _ τ (nI s) = _
      unfold S_X11_dayGoes_2 F_X11_sheepMany
      dsimp only [Option.bind]
      rw [h1.2.2.1, if_neg (nI_ge hsl (by omega)), p1]
      dsimp only
      rw [nI_1]
      exact q1
    · have := q2.2.2.1 t ht
      (try dsimp only at this)
      (try dsimp only)
      by_cases e : t = s
      · rw [if_neg (by omega), if_pos e] at this
        rw [if_pos (by omega), e]
        rw [e] at this
        exact this
      · by_cases e2 : s + 1 ≤ t
        · rw [if_pos e2, if_neg e] at this
          rw [if_pos (by omega)]
          exact this
        · rw [if_neg e2, if_neg e] at this
          rw [if_neg (by omega)]
          exact this
theorem pm_tday {τ : sw_St} {l : Nat → Nat → Nat} {P : Nat → List Nat} {op : Nat → Bool} {day : Nat} {cu : Nat → Nat} {rw : Nat → Nat → Nat} (hg : g_ld l P) (hd : day + 1 ≤ 100000) (h : pm_tv τ l P op day cu rw) (hr : g_rks l cu rw) :
    ∃ τ', F_X11_dayGoes τ = some ((), τ') ∧ pm_tv τ' l P op (day + 1) cu (fun t => g_step l P op day (cu t) (rw t) t) ∧ pm_sm [37, 73] [48, 54, 55, 56, 59, 101] τ τ' ∧ (∀ i, 84 ≤ i → τ'.1 37 i = τ.1 37 i) ∧ τ'.1 37 1 = τ.1 37 1 := by
  obtain ⟨τ', p1, p2, p3⟩ := pm_tloop hg hd (l 0 2) sw_fuel 0 rw τ h hr (by omega) (by have := sw_fuel_ge; have := hg.2.2.1; omega)
  simp only [Nat.zero_le, if_true] at p2
  exact ⟨τ', p1, p2, p3⟩
theorem g_rks_step {l : Nat → Nat → Nat} {P : Nat → List Nat} {op : Nat → Bool} {day : Nat} {cu : Nat → Nat} {rw : Nat → Nat → Nat} (hg : g_ld l P) (hr : g_rks l cu rw) : g_rks l cu (fun t => g_step l P op day (cu t) (rw t) t) := fun t ht => ⟨g_step_rk hg (hr t ht).1, g_step_f hg (hr t ht).2⟩
theorem pm_tdays {l : Nat → Nat → Nat} {P : Nat → List Nat} {op : Nat → Bool} {cu : Nat → Nat} {N : Nat} (hg : g_ld l P) (hN : N ≤ 2000) : ∀ (n fuel k day : Nat) (rw : Nat → Nat → Nat) (τ : sw_St), pm_tv τ l P op day cu rw → g_rks l cu rw → k + n = N → n < fuel → day + n ≤ 100000 →
    ∃ τ', L_X11_daysGo_2 fuel τ (nI N) (nI k) = some ((), τ') ∧ pm_tv τ' l P op (day + n) cu (fun t => g_go l P op (cu t) t n day (rw t)) ∧ pm_sm [37, 73] [48, 54, 55, 56, 59, 101] τ τ' ∧ (∀ i, 84 ≤ i → τ'.1 37 i = τ.1 37 i) ∧ τ'.1 37 1 = τ.1 37 1
  | 0, fuel + 1, k, day, rw, τ, h, hr, hk, hf, hd => by
    refine ⟨τ, ?_, h, pm_sm.refl _ _ _, fun _ _ => rfl, rfl⟩
    show S_X11_daysGo_2 _ τ (nI N) (nI k) = _
    unfold S_X11_daysGo_2
    rw [if_pos (nI_le (by omega) (by omega))]
  | n + 1, fuel + 1, k, day, rw, τ, h, hr, hk, hf, hd => by
    obtain ⟨τ1, p1, p2, p3, p4, p5⟩ := pm_tday hg (by omega) h hr
    obtain ⟨τ2, q1, q2, q3, q4, q5⟩ := pm_tdays hg hN n fuel (k + 1) (day + 1) _ τ1 p2 (g_rks_step hg hr) (by omega) (by omega) (by omega)
    refine ⟨τ2, ?_, by rw [show day + (n + 1) = day + 1 + n by omega]; exact q2, p3.trans q3, fun i hi => by rw [q4 i hi, p4 i hi], by rw [q5, p5]⟩
    show S_X11_daysGo_2 _ τ (nI N) (nI k) = _
    unfold S_X11_daysGo_2
    rw [if_neg (nI_ge (by omega) (by omega)), p1]
    dsimp only [Option.bind]
    rw [nI_1]
    exact q1
/-- gaps are changed in thought -/
theorem pm_chloop {l : Nat → Nat → Nat} {P : Nat → List Nat} {set : Nat} (hg : g_ld l P) (hset : set < 1024) : ∀ (n fuel k : Nat) (op : Nat → Bool) (τ : sw_St), pm_ld τ l P → pm_op τ l op → k + n = l 0 1 → n < fuel →
    ∃ τ', L_X11_changes_2 fuel τ (nI set) (nI k) = some ((), τ') ∧ pm_op τ' l (fun i => if k ≤ i then op i ^^ set.testBit i else op i) ∧ pm_sm [37] [] τ τ' ∧ (∀ i, i < 2 ∨ 12 ≤ i → τ'.1 37 i = τ.1 37 i)
  | 0, fuel + 1, k, op, τ, hl, ho, hk, hf => by
    have g1 := hg.2.1
    refine ⟨τ, ?_, fun i hi => ?_, pm_sm.refl _ _ _, fun _ _ => rfl⟩
    · show S_X11_changes_2 _ τ (nI set) (nI k) = _
      unfold S_X11_changes_2 F_X11_gapMany
      dsimp only [Option.bind]
      rw [hl.2.1, if_pos (nI_le (by omega) (by omega))]
    · have e9 : ¬ k ≤ i := by omega
      simp only [if_neg e9]
      exact ho i hi
  | n + 1, fuel + 1, k, op, τ, hl, ho, hk, hf => by
    have g1 := hg.2.1
    have hkl : k < l 0 1 := by omega
    have m1 : pm_sm [37] [] τ (sw_uI τ 37 (2 + k) (nI (if (op k ^^ set.testBit k) = true then 1 else 0))) := (pm_sm.refl _ _ τ).I (by decide) (by decide) _ _
    obtain ⟨τ', p1, p2, p3, p4⟩ := pm_chloop hg hset n fuel (k + 1) (fun i => if i = k then op k ^^ set.testBit k else op i) (sw_uI τ 37 (2 + k) (nI (if (op k ^^ set.testBit k) = true then 1 else 0))) (hl.mv m1 (by unfold pm_LS; decide)) (fun i hi => by
      (try dsimp only)
      by_cases e : i = k
      · subst e
        rw [pz_Ie rfl rfl]
        simp only [if_true]
      · rw [pz_Ik (by omega)]
        simp only [if_neg e]
        exact ho i hi) (by omega) (by omega)
    refine ⟨τ', ?_, fun i hi => ?_, m1.trans p3, fun i hi => by rw [p4 i hi, pz_Ik (by omega)]⟩
    · show S_X11_changes_2 _ τ (nI set) (nI k) = _
      unfold S_X11_changes_2 F_X11_gapMany
      dsimp only [Option.bind]
      rw [hl.2.1, if_neg (nI_ge hkl (by omega)), pm_ad, if_pos (pz_inb (by omega) (by omega)), if_pos (pz_inb (by omega) (by omega)), nI_clamp (by omega), ho k hkl, px_bitN (by omega) (by omega), fb_xorI, nI_1]
      rw [show (if op k = true then 1 else 0) ^^^ (if set.testBit k = true then 1 else 0) = (if (op k ^^ set.testBit k) = true then 1 else 0) from by cases op k <;> cases set.testBit k <;> rfl]
      exact p1
    · have := p2 i hi
      rw [this]
      by_cases e : i = k
      · subst e
        have e2 : ¬ i + 1 ≤ i := by omega
        simp only [if_neg e2, Nat.le_refl, if_true]
      · by_cases e2 : k + 1 ≤ i
        · have e3 : k ≤ i := by omega
          simp only [if_pos e2, if_neg e, if_pos e3]
        · have e3 : ¬ k ≤ i := by omega
          simp only [if_neg e2, if_neg e, if_neg e3]
theorem pm_changes {τ : sw_St} {l : Nat → Nat → Nat} {P : Nat → List Nat} {set : Nat} {op : Nat → Bool} (hg : g_ld l P) (hset : set < 1024) (hl : pm_ld τ l P) (ho : pm_op τ l op) : ∃ τ', F_X11_changes τ (nI set) = some ((), τ') ∧ pm_op τ' l (fun i => op i ^^ set.testBit i) ∧ pm_sm [37] [] τ τ' ∧ (∀ i, i < 2 ∨ 12 ≤ i → τ'.1 37 i = τ.1 37 i) := by
  obtain ⟨τ', p1, p2, p3⟩ := pm_chloop hg hset (l 0 1) sw_fuel 0 op τ hl ho (by omega) (by have := sw_fuel_ge; have := hg.2.1; omega)
  simp only [Nat.zero_le, if_true] at p2
  exact ⟨τ', p1, p2, p3⟩
/-- from the picture to the thought -/
theorem RM.tv {τ τ1 : sw_St} {l : Nat → Nat → Nat} {P : Nat → List Nat} {nm : g_N} {D : g_D} {U : List g_D} {F : List (Nat × Nat × Nat)} {T : List Nat} {sd : Nat} {rf : Nat → Int32} {ft : Int32 × Int32} {im : List Nat} (hg : g_ld l P) (h : RM τ l P nm D U F T sd rf ft im) (m : pm_sm [38] [58] τ τ1) (h58 : τ1.1 0 58 = 1) : pm_tv τ1 l P (fun k => (D.1 2).testBit k) (D.1 0) (fun t => l 3 (2 * t + 1)) (fun t => D.2.1 t) :=
  ⟨h.1.mv m (by unfold pm_LS; decide), fun k hk => by rw [m.r (by decide) (by decide)]; exact h.2.2.1.op k hk, fun t ht => (h.2.2.1.vw h.1 ht hg.2.2.1 h.2.2.2.2.2.2.2.2.2.2.1.1).mv m (by decide) (by decide), h58⟩

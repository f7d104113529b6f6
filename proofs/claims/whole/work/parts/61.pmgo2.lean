/-! The reference: a sheep goes, days of one sheep. -/
theorem pm_least {τ : sw_St} {a n : Nat} (ha : a < 2 ^ 31) (hn : n < 2 ^ 31) : F_X11_least τ (nI a) (nI n) = some (nI (min a n), τ) := by
  unfold F_X11_least S_X11_least_10
  by_cases h : n ≤ a
  · rw [if_pos (by rw [nI_leI hn ha]; exact h), Nat.min_eq_right (by omega)]
  · rw [if_neg (by rw [nI_leI hn ha]; exact h), Nat.min_eq_left (by omega)]
/-- the reference's row of numbers, but for what is said of one sheep -/
theorem pm_goes {τ : sw_St} {l : Nat → Nat → Nat} {P : Nat → List Nat} {op : Nat → Bool} {day cur s k b : Nat} {row : Nat → Nat} (hg : g_ld l P) (hl : pm_ld τ l P) (ho : pm_op τ l op) (hv : pm_vw τ l day cur row s) (hr : g_rk cur row) (hk : k < l 0 1) (hop : op k = true) (hb : g_bey l k (row 0) = some b) :
    ∃ τ', F_X11_goesThrough τ (nI s) (nI k) = some ((), τ') ∧ pm_vw τ' l day cur (g_pass l row k) s ∧ pm_sm [37] [] τ τ' ∧ (∀ i, i < 12 + 12 * s ∨ 24 + 12 * s ≤ i → τ'.1 37 i = τ.1 37 i) := by
  obtain ⟨hs, v0, v1, v2, v3⟩ := hv
  have hv' : pm_vw τ l day cur row s := ⟨hs, v0, v1, v2, v3⟩
  obtain ⟨r1, r2, r3, r4, r5, r6⟩ := hr
  have hb8 := g_bey_lt hg hk hb
  have g1 := hg.2.1
  have hmi := (hg.2.2.2.2.2.1 k hk).2.2.2.1
  have hs6 := r6 b hb8.2
  have e2 : τ.1 31 (32 + 3 * k) = nI (l 2 (3 * k + 2)) := by
    rw [show 32 + 3 * k = 30 + (3 * k + 2) by omega]
    exact hl.2.2.2.2.2.1 _ (by omega)
  have w0 : τ.1 37 (13 + 12 * s) = nI (row 1) := by rw [show 13 + 12 * s = 12 + 12 * s + 1 by omega]; exact v1 1 (by omega)
  have w1 : τ.1 37 (14 + 12 * s) = nI (row 2) := by rw [show 14 + 12 * s = 12 + 12 * s + 2 by omega]; exact v1 2 (by omega)
  have w2 : τ.1 37 (16 + 12 * s + b) = nI (row (4 + b)) := by rw [show 16 + 12 * s + b = 12 + 12 * s + (4 + b) by omega]; exact v1 (4 + b) (by omega)
  have hrem : 3 * nI (row 2) + nI k + 1 - (3 * nI (row 2) + nI k + 1) / 64 * 64 = nI ((3 * row 2 + k + 1) % 64) := by
    rw [show (3 : Int32) = nI 3 from rfl, pk_mul, nI_add, nI_1, show (64 : Int32) = nI 64 from rfl, pk_rem (by omega) (by omega) (by omega)]
  have i1 : nI (12 + 12 * s) + 1 = nI (13 + 12 * s) := by rw [nI_1]; congr 1; omega
  have i2 : nI (12 + 12 * s) + 2 = nI (14 + 12 * s) := by rw [show (2 : Int32) = nI 2 from rfl, nI_add]; congr 1; omega
  have i4 : nI (12 + 12 * s) + 4 + nI b = nI (16 + 12 * s + b) := by rw [show (4 : Int32) = nI 4 from rfl, nI_add, nI_add]; congr 1; omega
  refine ⟨sw_uI (sw_uI (sw_uI (sw_uI τ 37 (12 + 12 * s) (nI b)) 37 (13 + 12 * s) (nI (min 999 (row 1 + l 2 (3 * k + 2))))) 37 (14 + 12 * s) (nI ((3 * row 2 + k + 1) % 64))) 37 (16 + 12 * s + b) (nI (min 99 (row (4 + b) + 1))), ?_, ?_, ?_, ?_⟩
  · unfold F_X11_goesThrough
    rw [pm_beyond hg hl ho hv' ⟨r1, r2, r3, r4, r5, r6⟩ hk, if_pos hop, hb]
    dsimp only [Option.bind, oI]
    rw [pm_ix, if_pos (pz_inb (by omega) (by omega)), nI_clamp (by omega), pm_woolOf hs]
    dsimp only
    rw [pm_milesOf (by omega)]
    dsimp only
    rw [pz_Ik (by omega), w0, pz_Io (by omega), e2, nI_add, show (999 : Int32) = nI 999 from rfl, pm_least (by omega) (by omega)]
    dsimp only
    rw [i1, if_pos (pz_inb (by omega) (by omega)), nI_clamp (by omega), pm_crimpOf hs]
    dsimp only
    rw [i2, if_pos (pz_inb (by omega) (by omega)), nI_clamp (by omega), pz_Ik (by omega), pz_Ik (by omega), w1, hrem, pm_seenOf hs hb8.2]
    dsimp only
    rw [pz_Ik (by omega), pz_Ik (by omega), pz_Ik (by omega), w2, nI_1, show (99 : Int32) = nI 99 from rfl, pm_least (by omega) (by omega)]
    dsimp only
    rw [i4, if_pos (pz_inb (by omega) (by omega)), nI_clamp (by omega)]
  · unfold g_pass
    rw [hb]
    refine ⟨hs, ?_, fun j hj => ?_, ?_, fun f hf => ?_⟩
    · rw [pz_Ik (by omega), pz_Ik (by omega), pz_Ik (by omega), pz_Ik (by omega)]; exact v0
    · dsimp only
      by_cases j0 : j = 0
      · rw [pz_Ik (by omega), pz_Ik (by omega), pz_Ik (by omega), pz_Ie rfl (by omega), if_pos j0]
      rw [if_neg j0]
      by_cases j1 : j = 1
      · rw [pz_Ik (by omega), pz_Ik (by omega), pz_Ie rfl (by omega), if_pos j1]
      rw [if_neg j1]
      by_cases j2 : j = 2
      · rw [pz_Ik (by omega), pz_Ie rfl (by omega), if_pos j2]
      rw [if_neg j2]
      by_cases j4 : j = 4 + b
      · rw [pz_Ie rfl (by omega), if_pos j4]
      rw [if_neg j4, pz_Ik (by omega), pz_Ik (by omega), pz_Ik (by omega), pz_Ik (by omega)]
      exact v1 j hj
    · rw [pz_Io (by omega), pz_Io (by omega), pz_Io (by omega), pz_Io (by omega), pz_Io (by omega), pz_Io (by omega), pz_Io (by omega), pz_Io (by omega), pz_Io (by omega), pz_Io (by omega), pz_Io (by omega), pz_Io (by omega)]
      exact v2
    · rw [pz_Io (by omega), pz_Io (by omega), pz_Io (by omega), pz_Io (by omega)]; exact v3 f hf
  · exact ((((pm_sm.refl _ _ τ).I (by decide) (by decide) _ _).I (by decide) (by decide) _ _).I (by decide) (by decide) _ _).I (by decide) (by decide) _ _
  · intro i hi
    rw [pz_Ik (by omega), pz_Ik (by omega), pz_Ik (by omega), pz_Ik (by omega)]
/-- a sheep goes in thought: nothing is kept -/
theorem pm_sheepGoes {τ : sw_St} {l : Nat → Nat → Nat} {P : Nat → List Nat} {op : Nat → Bool} {day cur s : Nat} {row : Nat → Nat} (hg : g_ld l P) (hl : pm_ld τ l P) (ho : pm_op τ l op) (hv : pm_vw τ l day cur row s) (hr : g_rk cur row) (hd : day ≤ 100000) (hf : row 0 < l 0 0) (ht : τ.1 0 58 = 1) :
    ∃ τ', F_X11_sheepGoes τ (nI s) = some ((), τ') ∧ pm_vw τ' l day cur (g_step l P op day cur row s) s ∧ pm_sm [37, 73] [48, 54, 55, 56, 59, 101] τ τ' ∧ (∀ i, i < 12 + 12 * s ∨ 24 + 12 * s ≤ i → τ'.1 37 i = τ.1 37 i) := by
  obtain ⟨τ1, p1, p2⟩ := pm_gapFor hg hl ho hv hr hd hf
  unfold F_X11_sheepGoes g_step
  rw [p1]
  dsimp only [Option.bind]
  have m1 : pm_sm [37, 73] [48, 54, 55, 56, 59, 101] τ τ1 := p2.mono (by decide) (by decide)
  have hl1 := hl.mv p2 (by unfold pm_LS; decide)
  have hv1 := hv.mv p2 (by decide) (by decide)
  have ho1 : pm_op τ1 l op := fun k hk => by rw [p2.r (by decide) (by decide)]; exact ho k hk
  cases hc : g_choice l P op day cur row s with
  | none =>
    rw [if_pos (by rfl)]
    exact ⟨τ1, rfl, hv1, m1, fun i _ => p2.r (by decide) (by decide) i⟩
  | some k =>
    obtain ⟨h1, h2, b, hb⟩ := g_choice_lt hc
    have g1 := hg.2.1
    obtain ⟨τ2, q1, q2, q3, q4⟩ := pm_goes hg hl1 ho1 hv1 hr h1 h2 hb
    rw [if_neg (by exact pz_nm1 (by omega)), show oI (some k) = nI k from rfl, q1]
    dsimp only
    have m2 : pm_sm [37, 73] [48, 54, 55, 56, 59, 101] τ (sw_uI τ2 0 59 (τ2.1 0 59 + 1)) := (m1.trans (q3.mono (by decide) (by decide))).K (by decide) _
    have m3 : pm_sm [] [59] τ2 (sw_uI τ2 0 59 (τ2.1 0 59 + 1)) := (pm_sm.refl _ _ τ2).K (by decide) _
    refine ⟨sw_uI τ2 0 59 (τ2.1 0 59 + 1), ?_, q2.mv m3 (by decide) (by decide), m2, fun i hi => ?_⟩
    · unfold F_X11_isKept
      rw [m2.2.1 58 (by decide), ht, if_neg (by decide)]
    · rw [pz_Io (by decide), q4 i hi, p2.r (by decide) (by decide)]
theorem pm_oneGoes {l : Nat → Nat → Nat} {P : Nat → List Nat} {op : Nat → Bool} {cur s N : Nat} (hg : g_ld l P) (hN : N ≤ 2000) : ∀ (n fuel k day : Nat) (row : Nat → Nat) (τ : sw_St), pm_ld τ l P → pm_op τ l op → pm_vw τ l day cur row s → g_rk cur row → row 0 < l 0 0 → τ.1 0 58 = 1 → k + n = N → n < fuel → day + n ≤ 100000 →
    ∃ τ', L_X11_oneGoes_2 fuel τ (nI s) (nI N) (nI k) = some ((), τ') ∧ pm_vw τ' l (day + n) cur (g_go l P op cur s n day row) s ∧ pm_sm [37, 73] [48, 54, 55, 56, 59, 101] τ τ' ∧ (∀ i, 0 < i → i < 12 + 12 * s ∨ 24 + 12 * s ≤ i → τ'.1 37 i = τ.1 37 i)
  | 0, fuel + 1, k, day, row, τ, hl, ho, hv, hr, hf, ht, hk, hfu, hd => by
    refine ⟨τ, ?_, hv, pm_sm.refl _ _ _, fun _ _ _ => rfl⟩
    show S_X11_oneGoes_2 _ τ (nI s) (nI N) (nI k) = _
    unfold S_X11_oneGoes_2
    rw [if_pos (by rw [nI_leI (by omega) (by omega)]; omega)]
  | n + 1, fuel + 1, k, day, row, τ, hl, ho, hv, hr, hf, ht, hk, hfu, hd => by
    obtain ⟨τ1, p1, p2, p3, p4⟩ := pm_sheepGoes hg hl ho hv hr (by omega) hf ht
    have m2 : pm_sm [37, 73] [48, 54, 55, 56, 59, 101] τ (sw_uI τ1 37 0 (nI (day + 1))) := p3.I (by decide) (by decide) _ _
    have hs := hv.1
    have v2 : pm_vw (sw_uI τ1 37 0 (nI (day + 1))) l (day + 1) cur (g_step l P op day cur row s) s := by
      obtain ⟨-, b0, b1, b2, b3⟩ := p2
      refine ⟨hs, pz_Ie rfl rfl, fun j hj => by rw [pz_Ik (by omega)]; exact b1 j hj, ?_, fun f hf => by rw [pz_Io (by omega)]; exact b3 f hf⟩
      rw [pz_Io (by omega), pz_Io (by omega), pz_Io (by omega)]
      exact b2
    have g1 := hg.2.1
    have ho2 : pm_op (sw_uI τ1 37 0 (nI (day + 1))) l op := fun k hk => by rw [pz_Ik (by omega), p4 _ (by omega)]; exact ho k hk
    have hl2 : pm_ld (sw_uI τ1 37 0 (nI (day + 1))) l P := hl.mv m2 (by unfold pm_LS; decide)
    obtain ⟨τ2, q1, q2, q3, q4⟩ := pm_oneGoes hg hN n fuel (k + 1) (day + 1) (g_step l P op day cur row s) (sw_uI τ1 37 0 (nI (day + 1))) hl2 ho2 v2 (g_step_rk hg hr) (g_step_f hg hf) (by rw [m2.2.1 58 (by decide)]; exact ht) (by omega) (by omega) (by omega)
    refine ⟨τ2, ?_, by rw [show day + (n + 1) = day + 1 + n by omega]; exact q2, m2.trans q3, fun i h0 hi => by rw [q4 i h0 hi, pz_Ik (by omega), p4 i hi]⟩
    show S_X11_oneGoes_2 _ τ (nI s) (nI N) (nI k) = _
    unfold S_X11_oneGoes_2
    rw [if_neg (by rw [nI_leI (by omega) (by omega)]; omega), p1]
    dsimp only [Option.bind]
    rw [p2.2.1, nI_1, nI_1]
    exact q1

/-! Looking ahead with one sheep. -/
def g_cm (a : Int32) (lo most day : Nat) : Bool := decide ((lo : Int) ≤ a.toInt ∧ a.toInt ≤ most ∧ (day : Int) + a.toInt ≤ 999)
theorem g_cm_of {a : Int32} {lo most day : Nat} (h : g_cm a lo most day = true) : ∃ j, lo ≤ j ∧ j ≤ most ∧ day + j ≤ 999 ∧ a = nI j := by
  have h1 := of_decide_eq_true h
  have h2 := fb_rng a
  refine ⟨a.toInt.toNat, by omega, by omega, by omega, ?_⟩
  rw [fa_eq, nI_toInt (by omega)]
  omega
theorem px_can {σ : sw_St} {a : Int32} {most day : Nat} (hd : day ≤ 999) (hm : most ≤ 1000) (h : σ.1 38 0 = nI day) : F_X10_canCome σ a (nI most) = some (if g_cm a 0 most day = true then 1 else 0, σ) := by
  have l0 : (0 : Int32).toInt = 0 := by decide
  have l9 : (999 : Int32).toInt = 999 := by decide
  unfold F_X10_canCome S_X10_canCome_28 S_X10_canCome_29 g_cm
  rw [h]
  simp only [eq_self, true_or, or_true, if_true]
  by_cases h1 : a < 0
  · rw [if_pos h1]
    rw [fa_lt, l0] at h1
    rw [if_neg (by simp; omega)]
  · rw [if_neg h1]
    rw [fa_lt, l0] at h1
    by_cases h2 : nI most < a
    · rw [if_pos h2]
      rw [fa_lt, nI_toInt (by omega)] at h2
      rw [if_neg (by simp; omega)]
    · rw [if_neg h2]
      rw [fa_lt, nI_toInt (by omega)] at h2
      have e : (nI day + a).toInt = (day : Int) + a.toInt := by
        rw [fb_addI, nI_toInt (by omega)]
        · rw [nI_toInt (by omega)]; omega
        · rw [nI_toInt (by omega)]; omega
      by_cases h3 : 999 < nI day + a
      · rw [if_pos h3]
        rw [fa_lt, l9, e] at h3
        rw [if_neg (by simp; omega)]
      · rw [if_neg h3]
        rw [fa_lt, l9, e] at h3
        rw [if_pos (by simp; omega)]
theorem pm_ahead {τ : sw_St} {a : Int32} {lo most day : Nat} (hd : day ≤ 999) (hlo : lo ≤ 1000) (hm : most ≤ 1000) (h : τ.1 37 0 = nI day) : F_X11_isAhead τ a (nI lo) (nI most) = some (if g_cm a lo most day = true then 1 else 0, τ) := by
  have l9 : (999 : Int32).toInt = 999 := by decide
  unfold F_X11_isAhead S_X11_isAhead_30 S_X11_isAhead_31 g_cm
  rw [pm_isIn, px_wide, px_wide, px_wide, nI_toInt (by omega), nI_toInt (by omega)]
  dsimp only [Option.bind]
  simp only [eq_self, true_or, or_true, if_true]
  by_cases h1 : (lo : Int) ≤ a.toInt ∧ a.toInt ≤ (most : Int)
  · rw [if_pos h1, if_neg pz_10, h]
    have e : (nI day + a).toInt = (day : Int) + a.toInt := by
      rw [fb_addI, nI_toInt (by omega)]
      · rw [nI_toInt (by omega)]; omega
      · rw [nI_toInt (by omega)]; omega
    by_cases h3 : 999 < nI day + a
    · rw [if_pos h3]
      rw [fa_lt, l9, e] at h3
      rw [if_neg (by simp; omega)]
    · rw [if_neg h3]
      rw [fa_lt, l9, e] at h3
      rw [if_pos (by simp; omega)]
  · rw [if_neg h1, if_pos rfl, if_neg (by simp; omega)]
theorem pz_cp2 (σ : sw_St) (a b c n : Nat) (hc : c < 2 ^ 31) (hn : n < 2 ^ 31) (o k : Nat) : (sw_cp σ a b (nI c) (nI c) (nI n)).1 o k = if o = b ∧ (c ≤ k ∧ k < c + n) then σ.1 a k else σ.1 o k := by
  unfold sw_cp va_cpy
  dsimp only
  rw [nI_clamp hn, nI_clamp hc]
  by_cases h : o = b
  · rw [if_pos h]
    by_cases h2 : c ≤ k ∧ k < c + n
    · rw [if_pos h2, if_pos ⟨h, h2⟩, show c + (k - c) = k by omega]
    · rw [if_neg h2, if_neg (fun z => h2 z.2), h]
  · rw [if_neg h, if_neg (fun z => h z.1)]
theorem px_copyOne {σ : sw_St} {day opn cur s : Nat} {row : Nat → Nat} (h : px_vw σ 38 day opn cur row s) : ∃ σ', F_X8_copyOne σ 46 38 (nI s) = some ((), σ') ∧ px_vw σ' 46 day opn cur row s ∧ pz_sm [46, 47, 48, 49, 50, 51, 52] σ σ' := by
  obtain ⟨-, hs, b1, b2, b3, b4, b5, b6, b7, b8⟩ := h
  have hi : sw_inb (nI s) 6 = true := pz_inb (by omega) (by omega)
  have cs : s < 2 ^ 31 := by omega
  have e8 : nI s * 8 = nI (8 * s) := by rw [show (8 : Int32) = nI 8 from rfl, pk_mul, Nat.mul_comm]
  have hk : sw_cpk sw_gX (38 + 6) (46 + 6) (nI (8 * s)) (nI (8 * s)) 8 = true := by
    unfold sw_cpk
    rw [st_A6 (Or.inl rfl), st_A6 (Or.inr rfl), st_n6 (Or.inl rfl), st_n6 (Or.inr rfl), nI_clamp (by omega), show (8 : Int32).toNatClampNeg = 8 from by decide]
    simp only [Bool.and_eq_true, decide_eq_true_eq]
    exact ⟨⟨⟨⟨⟨⟨trivial, trivial⟩, nI_pos (by omega)⟩, nI_pos (by omega)⟩, by decide⟩, by omega⟩, by omega⟩
  refine ⟨sw_cp (sw_uI (sw_uI (sw_uI (sw_uI (sw_uI (sw_uI (sw_uI σ 46 0 (nI day)) 46 2 (nI opn)) (46 + 1) s (nI (row 0))) (46 + 2) s (nI (row 1))) (46 + 3) s (nI (row 2))) (46 + 4) s (nI (row 3))) (46 + 5) s (nI cur)) (38 + 6) (46 + 6) (nI (8 * s)) (nI (8 * s)) 8, ?_, ?_, ?_⟩
  · unfold F_X8_copyOne S_X8_copyOne_97
    have n1 : (38 : Nat) ≠ 46 := by decide
    have n2 : ∀ i j, i ≤ 7 → 38 + i ≠ 46 + j := fun i j hi => by omega
    have n3 : ∀ i, i ≤ 7 → 38 + i ≠ 46 := fun i hi => by omega
    simp only [st_O (Or.inl rfl : 38 = 38 ∨ 38 = 46), st_O (Or.inr rfl : 46 = 38 ∨ 46 = 46), st_A1 (Or.inl rfl : 38 = 38 ∨ 38 = 46), st_A1 (Or.inr rfl : 46 = 38 ∨ 46 = 46), st_A2 (Or.inl rfl : 38 = 38 ∨ 38 = 46), st_A2 (Or.inr rfl : 46 = 38 ∨ 46 = 46), st_A3 (Or.inl rfl : 38 = 38 ∨ 38 = 46), st_A3 (Or.inr rfl : 46 = 38 ∨ 46 = 46), st_A4 (Or.inl rfl : 38 = 38 ∨ 38 = 46), st_A4 (Or.inr rfl : 46 = 38 ∨ 46 = 46), st_A5 (Or.inl rfl : 38 = 38 ∨ 38 = 46), st_A5 (Or.inr rfl : 46 = 38 ∨ 46 = 46), st_n1 (Or.inl rfl : 38 = 38 ∨ 38 = 46), st_n1 (Or.inr rfl : 46 = 38 ∨ 46 = 46), st_n2 (Or.inl rfl : 38 = 38 ∨ 38 = 46), st_n2 (Or.inr rfl : 46 = 38 ∨ 46 = 46), st_n3 (Or.inl rfl : 38 = 38 ∨ 38 = 46), st_n3 (Or.inr rfl : 46 = 38 ∨ 46 = 46), st_n4 (Or.inl rfl : 38 = 38 ∨ 38 = 46), st_n4 (Or.inr rfl : 46 = 38 ∨ 46 = 46), st_n5 (Or.inl rfl : 38 = 38 ∨ 38 = 46), st_n5 (Or.inr rfl : 46 = 38 ∨ 46 = 46), hi, if_true, nI_clamp cs, e8, hk, pz_Io n1, pz_Io (n3 1 (by omega)), pz_Io (n3 2 (by omega)), pz_Io (n3 3 (by omega)), pz_Io (n3 4 (by omega)), pz_Io (n3 5 (by omega)), pz_Io (n2 1 _ (by omega)), pz_Io (n2 2 _ (by omega)), pz_Io (n2 3 _ (by omega)), pz_Io (n2 4 _ (by omega)), pz_Io (n2 5 _ (by omega)), b1, b2, b3, b4, b5, b6, b7]
  · have r : ∀ o k, o ≠ 52 → (sw_cp (sw_uI (sw_uI (sw_uI (sw_uI (sw_uI (sw_uI (sw_uI σ 46 0 (nI day)) 46 2 (nI opn)) (46 + 1) s (nI (row 0))) (46 + 2) s (nI (row 1))) (46 + 3) s (nI (row 2))) (46 + 4) s (nI (row 3))) (46 + 5) s (nI cur)) (38 + 6) (46 + 6) (nI (8 * s)) (nI (8 * s)) 8).1 o k = (sw_uI (sw_uI (sw_uI (sw_uI (sw_uI (sw_uI (sw_uI σ 46 0 (nI day)) 46 2 (nI opn)) (46 + 1) s (nI (row 0))) (46 + 2) s (nI (row 1))) (46 + 3) s (nI (row 2))) (46 + 4) s (nI (row 3))) (46 + 5) s (nI cur)).1 o k := fun o k ho => by
      rw [show (8 : Int32) = nI 8 from rfl, pz_cp2 _ _ _ _ _ (by omega) (by omega), if_neg (fun z => ho z.1)]
    refine ⟨Or.inr rfl, hs, ?_, ?_, ?_, ?_, ?_, ?_, ?_, fun f hf => ?_⟩
    · rw [r _ _ (by decide), pz_Io (by decide), pz_Io (by decide), pz_Io (by decide), pz_Io (by decide), pz_Io (by decide), pz_Ik (by decide), pz_Ie rfl rfl]
    · rw [r _ _ (by decide), pz_Io (by decide), pz_Io (by decide), pz_Io (by decide), pz_Io (by decide), pz_Io (by decide), pz_Ie rfl rfl]
    · rw [r _ _ (by decide), pz_Io (by decide), pz_Io (by decide), pz_Io (by decide), pz_Io (by decide), pz_Ie rfl rfl]
    · rw [r _ _ (by decide), pz_Io (by decide), pz_Io (by decide), pz_Io (by decide), pz_Ie rfl rfl]
    · rw [r _ _ (by decide), pz_Io (by decide), pz_Io (by decide), pz_Ie rfl rfl]
    · rw [r _ _ (by decide), pz_Io (by decide), pz_Ie rfl rfl]
    · rw [r _ _ (by decide), pz_Ie rfl rfl]
    · rw [show (8 : Int32) = nI 8 from rfl, pz_cp2 _ _ _ _ _ (by omega) (by omega), if_pos ⟨rfl, by omega, by omega⟩, pz_Io (by decide), pz_Io (by decide), pz_Io (by decide), pz_Io (by decide), pz_Io (by decide), pz_Io (by decide), pz_Io (by decide)]
      exact b8 f hf
  · exact (((((((((pz_sm.refl _ σ).I (by decide) _ _).I (by decide) _ _).I (by decide) _ _).I (by decide) _ _).I (by decide) _ _).I (by decide) _ _).I (by decide) _ _).cp (by decide) _ _ _ _)
/-! The reference thinks. -/
theorem pm_asloop : ∀ (n fuel k : Nat) (τ : sw_St), k + n = 84 → n < fuel → ∃ τ', L_X11_putsAside_7 fuel τ (nI k) = some ((), τ') ∧ (∀ j, k ≤ j → j < 84 → τ'.1 38 j = τ.1 37 j) ∧ (∀ j, j < k → τ'.1 38 j = τ.1 38 j) ∧ pm_sm [38] [] τ τ'
  | 0, fuel + 1, k, τ, hk, hf => by
    refine ⟨τ, ?_, fun j h1 h2 => by omega, fun _ _ => rfl, pm_sm.refl _ _ _⟩
    show S_X11_putsAside_7 _ τ (nI k) = _
    unfold S_X11_putsAside_7
    rw [if_pos (show (84 : Int32) ≤ nI k from nI_le (a := 84) (by omega) (by omega))]
  | n + 1, fuel + 1, k, τ, hk, hf => by
    obtain ⟨τ', p1, p2, p3, p4⟩ := pm_asloop n fuel (k + 1) (sw_uI τ 38 k (τ.1 37 k)) (by omega) (by omega)
    refine ⟨τ', ?_, fun j h1 h2 => ?_, fun j h1 => by rw [p3 j (by omega), pz_Ik (by omega)], ((pm_sm.refl _ _ τ).I (by decide) (by decide) _ _).trans p4⟩
    · show S_X11_putsAside_7 _ τ (nI k) = _
      unfold S_X11_putsAside_7
      rw [if_neg (show ¬ (84 : Int32) ≤ nI k from nI_ge (b := 84) (by omega) (by omega)), if_pos (pz_inb (by omega) (by omega)), if_pos (pz_inb (by omega) (by omega)), nI_clamp (by omega), nI_1]
      exact p1
    · by_cases e : j = k
      · rw [e, p3 k (by omega), pz_Ie rfl rfl]
      · rw [p2 j (by omega) h2, pz_Io (by decide)]
theorem pm_aside (τ : sw_St) : ∃ τ', F_X11_putsAside τ = some ((), τ') ∧ (∀ j, j < 84 → τ'.1 38 j = τ.1 37 j) ∧ pm_sm [38] [58] τ τ' ∧ τ'.1 0 58 = 1 := by
  obtain ⟨τ', p1, p2, p3, p4⟩ := pm_asloop 84 sw_fuel 0 (sw_uI τ 0 58 1) (by omega) (by have := sw_fuel_ge; omega)
  exact ⟨τ', p1, fun j hj => by rw [p2 j (by omega) hj, pz_Io (by decide)], ((pm_sm.refl _ _ τ).K (by decide) _).trans (p4.mono (by decide) (by decide)), by rw [p4.2.1 58 (by decide), pz_Ie rfl rfl]⟩
theorem pm_anloop : ∀ (n fuel k : Nat) (τ : sw_St), k + n = 84 → n < fuel → ∃ τ', L_X11_triesAnew_2 fuel τ (nI k) = some ((), τ') ∧ (∀ j, k ≤ j → j < 84 → τ'.1 37 j = τ.1 38 j) ∧ (∀ j, j < k ∨ 84 ≤ j → τ'.1 37 j = τ.1 37 j) ∧ pm_sm [37] [] τ τ'
  | 0, fuel + 1, k, τ, hk, hf => by
    refine ⟨τ, ?_, fun j h1 h2 => by omega, fun _ _ => rfl, pm_sm.refl _ _ _⟩
    show S_X11_triesAnew_2 _ τ (nI k) = _
    unfold S_X11_triesAnew_2
    rw [if_pos (show (84 : Int32) ≤ nI k from nI_le (a := 84) (by omega) (by omega))]
  | n + 1, fuel + 1, k, τ, hk, hf => by
    obtain ⟨τ', p1, p2, p3, p4⟩ := pm_anloop n fuel (k + 1) (sw_uI τ 37 k (τ.1 38 k)) (by omega) (by omega)
    refine ⟨τ', ?_, fun j h1 h2 => ?_, fun j h1 => by rw [p3 j (by omega), pz_Ik (by omega)], ((pm_sm.refl _ _ τ).I (by decide) (by decide) _ _).trans p4⟩
    · show S_X11_triesAnew_2 _ τ (nI k) = _
      unfold S_X11_triesAnew_2
      rw [if_neg (show ¬ (84 : Int32) ≤ nI k from nI_ge (b := 84) (by omega) (by omega)), if_pos (pz_inb (by omega) (by omega)), if_pos (pz_inb (by omega) (by omega)), nI_clamp (by omega), nI_1]
      exact p1
    · by_cases e : j = k
      · rw [e, p3 k (by omega), pz_Ie rfl rfl]
      · rw [p2 j (by omega) h2, pz_Io (by decide)]
theorem pm_anew (τ : sw_St) : ∃ τ', F_X11_triesAnew τ = some ((), τ') ∧ (∀ j, j < 84 → τ'.1 37 j = τ.1 38 j) ∧ (∀ j, 84 ≤ j → τ'.1 37 j = τ.1 37 j) ∧ pm_sm [37] [] τ τ' := by
  obtain ⟨τ', p1, p2, p3, p4⟩ := pm_anloop 84 sw_fuel 0 τ (by omega) (by have := sw_fuel_ge; omega)
  exact ⟨τ', p1, fun j hj => p2 j (by omega) hj, fun j hj => p3 j (by omega), p4⟩
theorem pm_back (τ : sw_St) : ∃ τ', F_X11_takesBack τ = some ((), τ') ∧ (∀ j, j < 84 → τ'.1 37 j = τ.1 38 j) ∧ (∀ j, 84 ≤ j → τ'.1 37 j = τ.1 37 j) ∧ pm_sm [37] [52, 58] τ τ' ∧ τ'.1 0 52 = -1 ∧ τ'.1 0 58 = 0 := by
  obtain ⟨τ', p1, p2, p3, p4⟩ := pm_anew τ
  refine ⟨sw_uI (sw_uI τ' 0 52 (-1)) 0 58 0, ?_, fun j hj => ?_, fun j hj => ?_, ((p4.mono (by decide) (by decide)).K (by decide) _).K (by decide) _, ?_, pz_Ie rfl rfl⟩
  · unfold F_X11_takesBack
    rw [p1]
    rfl
  · rw [pz_Io (by decide), pz_Io (by decide)]
    exact p2 j hj
  · rw [pz_Io (by decide), pz_Io (by decide)]
    exact p3 j hj
  · rw [pz_Ik (by decide), pz_Ie rfl rfl]
/-- behind the thinking all stands as it stood -/
theorem RM.back {τ τ1 τ2 τ3 : sw_St} {l : Nat → Nat → Nat} {P : Nat → List Nat} {nm : g_N} {D : g_D} {U : List g_D} {F : List (Nat × Nat × Nat)} {T : List Nat} {sd : Nat} {rf : Nat → Int32} {ft : Int32 × Int32} {im : List Nat} {S K : List Nat} (h : RM τ l P nm D U F T sd rf ft im) (a1 : ∀ j, j < 84 → τ1.1 38 j = τ.1 37 j) (a2 : pm_sm [38] [58] τ τ1) (m : pm_sm S K τ1 τ2) (hS : ∀ o ∈ S, o ∈ [37, 40, 41, 42, 43, 45, 71, 72, 73]) (hK : ∀ k ∈ K, k ∈ 52 :: 58 :: pm_scrK) (m84 : ∀ j, 84 ≤ j → τ2.1 37 j = τ1.1 37 j) (b1 : ∀ j, j < 84 → τ3.1 37 j = τ2.1 38 j) (b2 : ∀ j, 84 ≤ j → τ3.1 37 j = τ2.1 37 j) (b3 : pm_sm [37] [52, 58] τ2 τ3) (b4 : τ3.1 0 52 = -1) (b5 : τ3.1 0 58 = 0) : RM τ3 l P nm D U F T sd rf ft im := by
  have n38 : 38 ∉ S := fun z => by have := hS _ z; revert this; decide
  have e37 : τ3.1 37 = τ.1 37 := by
    funext j
    by_cases hj : j < 84
    · rw [b1 j hj, m.r (by decide) n38, a1 j hj]
    · rw [b2 j (by omega), m84 j (by omega), a2.r (by decide) (by decide)]
  have mm : pm_sm (37 :: pm_scrS) (52 :: 58 :: pm_scrK) τ τ3 := ((a2.mono (by decide) (by decide)).trans (m.mono (fun o ho => (show ∀ o ∈ [37, 40, 41, 42, 43, 45, 71, 72, 73], o ∈ 37 :: pm_scrS by decide) o (hS o ho)) hK)).trans (b3.mono (by decide) (by decide))
  have m2 : pm_sm (37 :: pm_scrS) pm_scrK τ τ3 := ⟨mm.1, fun k hk => by
    by_cases e1 : k = 52
    · rw [e1, b4, h.2.2.2.2.2.2.2.2.2.2.1.1]
    · by_cases e2 : k = 58
      · rw [e2, b5, h.2.2.2.2.2.2.2.2.2.2.1.2]
      · exact mm.2.1 k (fun z => by
          rcases List.mem_cons.mp z with z | z
          · exact e1 z
          · rcases List.mem_cons.mp z with z | z
            · exact e2 z
            · exact hk z), mm.2.2⟩
  exact h.setD m2 (fun _ z => z) (fun _ z => z) (h.2.2.1.mvr e37)
theorem op_13 : ll_13 RR := by
  intro x m hR a b c
  obtain ⟨w, l, P, nm, D, U, F, T, sd, rf, ft, im, hG, hX, hM⟩ := hR
  have hR : RR x m := ⟨w, l, P, nm, D, U, F, T, sd, rf, ft, im, hG, hX, hM⟩
  have g1 := hG.1.2.1
  have g2 := hG.1.2.2.1
  have hd := hG.2.2.1.1
  have hoL := hG.2.2.1.2.2.1
  have h2p : 2 ^ l 0 1 ≤ 2 ^ 10 := Nat.pow_le_pow_right (by omega) g1
  unfold F_X10_later F_X11_later S_X10_later_27 S_X11_later_31
  rw [px_isSheep hG.1 hX.1, pm_isSheep hG.1 hM.1]
  dsimp only [Option.bind]
  by_cases h : g_in a (l 0 2) = true
  · obtain ⟨s, hs, rfl⟩ := g_in_of h
    obtain ⟨hr, hf⟩ := hG.2.2.1.2.2.2.1 s hs
    have hxv := hX.2.2.2.1.vw (Or.inl rfl) hs g2
    have hmv := hM.2.2.1.vw hM.1 hs g2 hM.2.2.2.2.2.2.2.2.2.2.1.1
    rw [if_pos h, if_neg pz_10, if_neg pz_10, show (60 : Int32) = nI 60 from rfl, px_can hd (by omega) hX.2.2.2.1.1, show F_X11_isAhead m b 0 (nI 60) = _ from pm_ahead (lo := 0) hd (by omega) (by omega) hM.2.2.1.1]
    dsimp only
    by_cases h' : g_cm b 0 60 (D.1 0) = true
    · obtain ⟨n, hn1, hn2, hn3, rfl⟩ := g_cm_of h'
      rw [if_pos h', if_neg pz_10, if_neg pz_10, pm_inL m c 2 (by decide)]
      dsimp only
      by_cases hc : g_in c 3 = true
      · obtain ⟨j, hj, rfl⟩ := g_in_of hc
        rw [if_pos hc, if_neg pz_10, if_neg (nI_pos (by omega)), if_pos (show nI j ≤ (2 : Int32) from nI_le (b := 2) (by omega) (by omega))]
        obtain ⟨σ1, p1, p2, p3⟩ := px_copyOne hxv
        have hl1 := hX.1.mv p3 (by decide)
        obtain ⟨σ2, q1, q2, q3, q4, q5⟩ := px_goOn (B := []) (N := n) hG.1 (show D.1 2 < 1024 by omega) (by simp) (by omega) n sw_fuel 0 (D.1 0) (D.2.1 s) σ1 hl1 p2 hr hf trivial (by rw [p3.r (by decide)]; exact hX.2.2.2.2.2.2.2.2.2.2.2.1) (by omega) (by have := sw_fuel_ge; omega) hn3
        obtain ⟨τ1, r1, r2, r3, r4⟩ := pm_aside m
        have hl2 := hM.1.mv r3 (by unfold pm_LS; decide)
        have hmv2 := hmv.mv r3 (by decide) (by decide)
        have ho2 : pm_op τ1 l (fun k => (D.1 2).testBit k) := fun k hk => by rw [r3.r (by decide) (by decide)]; exact hM.2.2.1.op k hk
        obtain ⟨τ2, t1, t2, t3, t4⟩ := pm_oneGoes (N := n) hG.1 (by omega) n sw_fuel 0 (D.1 0) (D.2.1 s) τ1 hl2 ho2 hmv2 hr hf r4 (by omega) (by have := sw_fuel_ge; omega) (by omega)
        obtain ⟨τ3, u1, u2, u3, u4, u5, u6⟩ := pm_back τ2
        have eL : F_X1_look x (nI s) (nI n) = some ((), σ2) := by
          unfold F_X1_look F_X2_goOn
          rw [p1]
          dsimp only [Option.bind]
          rw [show (0 : Int32) = nI 0 from rfl, q1]
        have eO : F_X11_oneGoes τ1 (nI s) (nI n) = some ((), τ2) := by
          unfold F_X11_oneGoes
          exact t1
        rw [eL, r1]
        dsimp only
        rw [eO]
        dsimp only
        rw [pm_ix, nI_add, if_pos (pz_inb (show 12 + 12 * s + j < 245 by omega) (by omega)), nI_clamp (show 12 + 12 * s + j < 2 ^ 31 by omega), u1, t2.2.2.1 j (by omega)]
        dsimp only
        have hi : sw_inb (nI s) 6 = true := pz_inb (by omega) (by omega)
        rw [if_pos hi, if_pos hi, if_pos hi, nI_clamp (by omega)]
        have hX' := hX.mv ((p3.mono (by decide)).trans (q3.mono (by decide))) q5
        have hM' := hM.back r2 r3 t3 (by decide) (by decide) (fun i hi => t4 i (by omega) (by omega)) u2 u3 u4 u5 u6
        have k1 : j = 0 ∨ j = 1 ∨ j = 2 := by omega
        refine ⟨nI (g_go l P (fun k => (D.1 2).testBit k) (l 3 (2 * s + 1)) s n (D.1 0) (D.2.1 s) j), σ2, τ3, ?_, rfl, w, l, P, nm, D, U, F, T, sd, rf, ft, im, hG, hX', hM'⟩
        rcases k1 with rfl | rfl | rfl
        · rw [if_pos (by decide), q2.2.2.2.2.1]
        · rw [if_neg (by decide), if_pos (by decide), q2.2.2.2.2.2.1]
        · rw [if_neg (by decide), if_neg (by decide), q2.2.2.2.2.2.2.1]
      · rw [if_neg hc, if_pos rfl]
        refine ⟨-1, x, m, ?_, rfl, hR⟩
        rcases g_in_no hc (by omega) with q | ⟨q1, q2, q3⟩
        · rw [if_pos q]
        · rw [if_neg q1, if_neg (show ¬ c ≤ (2 : Int32) from by rw [fa_le, show (2 : Int32).toInt = 2 from by decide]; rw [fa_le, nI_toInt (by omega)] at q2; omega)]
    · rw [if_neg h', if_pos rfl, if_pos rfl]
      exact ⟨-1, x, m, rfl, rfl, hR⟩
  · rw [if_neg h, if_pos rfl, if_pos rfl]
    exact ⟨-1, x, m, rfl, rfl, hR⟩

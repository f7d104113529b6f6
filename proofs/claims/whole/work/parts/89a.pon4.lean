/-! An image comes in: the reference takes it. -/
theorem g_t_lt {T : List Nat} (h256 : ∀ b ∈ T, b < 256) (i : Nat) : g_t T i < 256 := by
  unfold g_t
  by_cases hi : i < T.length
  · rw [List.getD_eq_getElem?_getD, List.getElem?_eq_getElem hi]
    exact h256 _ (List.getElem_mem hi)
  · rw [List.getD_eq_getElem?_getD, List.getElem?_eq_none (by omega)]
    decide
theorem pm_isImage {τ : sw_St} {l : Nat → Nat → Nat} {P : Nat → List Nat} {T : List Nat} (hg : g_ld l P) (hl : pm_ld τ l P) (hT : T.length ≤ 1600) (h256 : ∀ b ∈ T, b < 256) (hb : ∀ i, i < T.length → τ.1 1 i = nI (g_t T i)) : F_X11_isImage τ (nI T.length) = some (g_ok1 (g_isI l T), τ) := by
  have hfu := sw_fuel_ge
  have g8 := hg.1
  have g1 := hg.2.1
  have g6 := hg.2.2.1
  have hmul : l 0 2 * (5 + l 0 0) ≤ 6 * 13 := Nat.mul_le_mul (by omega) (by omega)
  have ht := g_t_lt h256
  have eLn : (5 : Int32) + nI (l 0 1) + (5 + nI (l 0 0)) * nI (l 0 2) + 1 = nI (g_LEN l) := by
    rw [show (5 : Int32) = nI 5 from rfl, nI_add, nI_add, pk_mul, nI_add, nI_1]
    congr 1
    unfold g_LEN
    rw [Nat.mul_comm]
    omega
  have hLl : g_LEN l ≤ 94 := by unfold g_LEN; omega
  unfold F_X11_isImage F_X11_gapMany F_X11_fieldMany F_X11_sheepMany S_X11_isImage_82
  dsimp only [Option.bind]
  rw [hl.1, hl.2.1, hl.2.2.1, eLn]
  by_cases c1 : T.length = g_LEN l
  · have hlen6 : 6 ≤ T.length := by rw [c1]; unfold g_LEN; omega
    have ek : F_X11_checked τ 1 (nI (T.length - 1)) = some (nI (g_ck 227 (T.take (T.length - 1))), τ) := by
      have hl1 : (T.take (T.length - 1)).length = T.length - 1 := by rw [List.length_take]; omega
      have := pm_ckl (τ := τ) (o := 1) (N := 1600) (L := T.take (T.length - 1)) (by decide +kernel) (by omega) (by decide +kernel) (by omega) (fun i hi => by
        rw [hb i (by omega)]
        unfold g_t
        rw [List.getD_eq_getElem?_getD, List.getD_eq_getElem?_getD, List.getElem?_take, if_pos (by omega)]) (fun b hb => h256 b (List.mem_of_mem_take hb)) (T.length - 1) sw_fuel 0 227 (by omega) (by omega) (by omega)
      rw [hl1] at this
      exact this
    have hck : g_ck 227 (T.take (T.length - 1)) < 251 := g_ck_lt _ _ (by omega)
    rw [if_pos (show nI T.length = nI (g_LEN l) from by rw [c1]), show nI T.length - 1 = nI (T.length - 1) from pk_sub (b := 1) (by omega), if_pos (pz_inb (show T.length - 1 < 1600 by omega) (by omega)), ek]
    dsimp only
    rw [nI_clamp (by omega), hb _ (by omega)]
    by_cases c2 : g_t T (T.length - 1) = g_ck 227 (T.take (T.length - 1))
    · have hLB : g_bs l (l 0 2) + 1 = T.length := by rw [c1]; unfold g_bs g_LEN; omega
      have t0 := ht 0
      have t1 := ht 1
      have t2 := ht 2
      have t3 := ht 3
      have t4 := ht 4
      rw [if_pos (show nI (g_t T (T.length - 1)) = nI (g_ck 227 (T.take (T.length - 1))) from by rw [c2]), show F_X11_twoAt τ 0 = some (nI (256 * g_t T 0 + g_t T 1), τ) from pm_two (p := 0) hT hb (by omega)]
      dsimp only
      unfold g_isI
      rw [decide_eq_true c1, decide_eq_true c2, Bool.true_and, Bool.true_and]
      by_cases c3 : 256 * g_t T 0 + g_t T 1 ≤ 999
      · rw [if_neg (show ¬ (999 : Int32) < nI (256 * g_t T 0 + g_t T 1) from by rw [fa_lt, nI_toInt (by omega), show (999 : Int32).toInt = 999 from by decide]; omega), decide_eq_true c3, Bool.true_and, show F_X11_twoAt τ 3 = some (nI (256 * g_t T 3 + g_t T 4), τ) from pm_two (p := 3) hT hb (by omega)]
        dsimp only
        rw [hb 2 (by omega), show (65536 : Int32) * nI (g_t T 2) + nI (256 * g_t T 3 + g_t T 4) = nI (65536 * g_t T 2 + 256 * g_t T 3 + g_t T 4) from by rw [show (65536 : Int32) = nI 65536 from rfl, pk_mul, nI_add, Nat.add_assoc]]
        by_cases c4 : 65536 * g_t T 2 + 256 * g_t T 3 + g_t T 4 ≤ 99999
        · have e5 : (5 : Int32) + nI (l 0 1) = nI (5 + l 0 1) := nI_add 5 _
          have e6 : (5 : Int32) + nI (l 0 0) = nI (5 + l 0 0) := nI_add 5 _
          rw [if_pos (show nI (65536 * g_t T 2 + 256 * g_t T 3 + g_t T 4) ≤ (99999 : Int32) from nI_le (b := 99999) c4 (by omega)), decide_eq_true c4, Bool.true_and, e5, e6, show L_X11_isImage_87 sw_fuel τ (nI (5 + l 0 1)) (nI (5 + l 0 0)) 5 = _ from pm_i87 ht hT hg hb (by unfold g_bs at hLB; omega) (l 0 1) sw_fuel 0 (by omega) (by omega)]
          cases hk : g_gok (g_t T) (l 0 1) 0
          · rw [if_neg (by decide), Bool.false_and]
            rfl
          · rw [if_pos rfl, Bool.true_and]
            exact pm_i115 ht hT hg hl hb (by omega) (l 0 2) sw_fuel 0 (by omega) (by omega)
        · rw [if_neg (show ¬ nI (65536 * g_t T 2 + 256 * g_t T 3 + g_t T 4) ≤ (99999 : Int32) from nI_ge (a := 99999) (by omega) (by omega)), decide_eq_false c4, Bool.false_and]
          rfl
      · rw [if_pos (show (999 : Int32) < nI (256 * g_t T 0 + g_t T 1) from by rw [fa_lt, nI_toInt (by omega), show (999 : Int32).toInt = 999 from by decide]; omega), decide_eq_false c3, Bool.false_and]
        rfl
    · have e : g_isI l T = false := by
        unfold g_isI
        rw [decide_eq_false c2, Bool.false_and, Bool.and_false]
      rw [if_neg (show ¬ nI (g_t T (T.length - 1)) = nI (g_ck 227 (T.take (T.length - 1))) from fun z => c2 (by have := ht (T.length - 1); rw [nI_eq (by omega) (by omega)] at z; exact z)), e]
      rfl
  · have e : g_isI l T = false := by
      unfold g_isI
      rw [decide_eq_false c1, Bool.false_and]
    rw [if_neg (show ¬ nI T.length = nI (g_LEN l) from fun z => c1 (by rw [nI_eq (by omega) (by omega)] at z; exact z)), e]
    rfl
theorem pm_o221 {t : Nat → Nat} {Ln B s : Nat} {l : Nat → Nat → Nat} {P : Nat → List Nat} {x2 x3 : Int32} {c116 : sw_St → Int32 → Int32 → Int32 → Option (Int32 × sw_St)} (hL : Ln ≤ 1600) (hg : g_ld l P) (hs : s < 6) (hB : B + 5 + l 0 0 ≤ Ln) : ∀ (n fuel j : Nat) (τ : sw_St), pm_ld τ l P → (∀ i, i < Ln → τ.1 1 i = nI (t i)) → j + n = l 0 0 → n < fuel →
    ∃ τ', L_X11_on_221 c116 fuel τ x2 x3 (nI s) (nI B) (nI j) = c116 τ' x2 x3 (nI (s + 1)) ∧ pm_sm [37] [] τ τ' ∧ (∀ i, j ≤ i → i < l 0 0 → τ'.1 37 (16 + 12 * s + i) = nI (t (B + 5 + i))) ∧ ∀ i, i < 16 + 12 * s + j ∨ 16 + 12 * s + l 0 0 ≤ i → τ'.1 37 i = τ.1 37 i
  | 0, fuel + 1, j, τ, hl, hb, hj, hf => by
    have h8 := hg.1
    refine ⟨τ, ?_, pm_sm.refl _ _ _, fun i h1 h2 => by omega, fun _ _ => rfl⟩
    show S_X11_on_221 c116 _ τ x2 x3 (nI s) (nI B) (nI j) = _
    unfold S_X11_on_221 F_X11_fieldMany
    dsimp only [Option.bind]
    rw [hl.1, if_pos (nI_le (by omega) (by omega)), nI_1]
  | n + 1, fuel + 1, j, τ, hl, hb, hj, hf => by
    have h8 := hg.1
    have m1 : pm_sm [37] [] τ (sw_uI τ 37 (16 + 12 * s + j) (nI (t (B + 5 + j)))) := (pm_sm.refl _ _ τ).I (by decide) (by decide) _ _
    obtain ⟨τ', p1, p2, p3, p4⟩ := pm_o221 (x2 := x2) (x3 := x3) (c116 := c116) hL hg hs hB n fuel (j + 1) _ (hl.mv m1 (by unfold pm_LS; decide)) (fun i hi => by rw [pz_Io (by decide)]; exact hb i hi) (by omega) (by omega)
    refine ⟨τ', ?_, m1.trans p2, fun i h1 h2 => ?_, fun i hi => by rw [p4 i (by omega), pz_Ik (by omega)]⟩
    · show S_X11_on_221 c116 _ τ x2 x3 (nI s) (nI B) (nI j) = _
      unfold S_X11_on_221 F_X11_fieldMany
      dsimp only [Option.bind]
      rw [hl.1, if_neg (nI_ge (by omega) (by omega)), show nI B + 5 + nI j = nI (B + 5 + j) from by rw [show (5 : Int32) = nI 5 from rfl, nI_add, nI_add], show (16 : Int32) + 12 * nI s + nI j = nI (16 + 12 * s + j) from by rw [show (16 : Int32) = nI 16 from rfl, show (12 : Int32) = nI 12 from rfl, pk_mul, nI_add, nI_add], if_pos (pz_inb (show B + 5 + j < 1600 by omega) (by omega)), if_pos (pz_inb (show 16 + 12 * s + j < 245 by omega) (by omega)), nI_clamp (show B + 5 + j < 2 ^ 31 by omega), nI_clamp (show 16 + 12 * s + j < 2 ^ 31 by omega), hb _ (by omega), nI_1]
      exact p1
    · by_cases e : i = j
      · rw [e, p4 _ (by omega), pz_Ie rfl rfl]
      · exact p3 i (by omega) h2
/-- a sheep's row as the tape tells it -/
def g_tr (t : Nat → Nat) (B j : Nat) : Nat := if j = 0 then t B else if j = 1 then 256 * t (B + 1) + t (B + 2) else t (B + 1 + j)
theorem pm_o116 {t : Nat → Nat} {Ln : Nat} {l : Nat → Nat → Nat} {P : Nat → List Nat} (ht : ∀ i, t i < 256) (hL : Ln ≤ 1600) (hg : g_ld l P) (hpL : g_bs l (l 0 2) ≤ Ln) : ∀ (n fuel s : Nat) (τ : sw_St), pm_ld τ l P → (∀ i, i < Ln → τ.1 1 i = nI (t i)) → s + n = l 0 2 → n < fuel →
    ∃ τ', L_X11_on_116 fuel τ (nI (5 + l 0 1)) (nI (5 + l 0 0)) (nI s) = some (1, τ') ∧ pm_sm [37] [67] τ τ' ∧ τ'.1 37 84 = 0 ∧ τ'.1 0 67 = 0 ∧ (∀ u j, s ≤ u → u < l 0 2 → j < 4 + l 0 0 → τ'.1 37 (12 + 12 * u + j) = nI (g_tr t (g_bs l u) j)) ∧ (∀ u j, u < l 0 2 → 4 + l 0 0 ≤ j → j < 12 → τ'.1 37 (12 + 12 * u + j) = τ.1 37 (12 + 12 * u + j)) ∧ ∀ i, i < 12 + 12 * s → τ'.1 37 i = τ.1 37 i
  | 0, fuel + 1, s, τ, hl, hb, hs, hf => by
    have h6 := hg.2.2.1
    have m1 : pm_sm [37] [67] τ (sw_uI (sw_uI τ 37 84 0) 0 67 0) := ((pm_sm.refl _ _ τ).I (by decide) (by decide) _ _).K (by decide) _
    refine ⟨_, ?_, m1, by rw [pz_Io (by decide), pz_Ie rfl rfl], pz_Ie rfl rfl, fun u j h1 h2 => by omega, fun u j h1 h2 h3 => by rw [pz_Io (by decide), pz_Ik (by omega)], fun i hi => by rw [pz_Io (by decide), pz_Ik (by omega)]⟩
    show S_X11_on_116 _ τ (nI (5 + l 0 1)) (nI (5 + l 0 0)) (nI s) = _
    unfold S_X11_on_116 F_X11_sheepMany
    dsimp only [Option.bind]
    rw [hl.2.2.1, if_pos (nI_le (by omega) (by omega))]
  | n + 1, fuel + 1, s, τ, hl, hb, hs, hf => by
    have h6 := hg.2.2.1
    have h8 := hg.1
    have hfu := sw_fuel_ge
    have hs2 : s < l 0 2 := by omega
    have hBn : g_bs l s + (5 + l 0 0) = g_bs l (s + 1) := by unfold g_bs; rw [Nat.succ_mul]; omega
    have hB2 : g_bs l (s + 1) ≤ g_bs l (l 0 2) := by unfold g_bs; have := Nat.mul_le_mul_right (5 + l 0 0) (show s + 1 ≤ l 0 2 by omega); omega
    have h12 : ∀ c, nI c + 12 * nI s = nI (c + 12 * s) := fun c => by rw [show (12 : Int32) = nI 12 from rfl, pk_mul, nI_add]
    have m0 : pm_sm [37] [] τ (sw_uI τ 37 (12 + 12 * s) (nI (t (g_bs l s)))) := (pm_sm.refl _ _ τ).I (by decide) (by decide) _ _
    have b0 : ∀ i, i < Ln → (sw_uI τ 37 (12 + 12 * s) (nI (t (g_bs l s)))).1 1 i = nI (t i) := fun i hi => by rw [pz_Io (by decide)]; exact hb i hi
    have m1 : pm_sm [37] [] τ (sw_uI (sw_uI (sw_uI (sw_uI τ 37 (12 + 12 * s) (nI (t (g_bs l s)))) 37 (13 + 12 * s) (nI (256 * t (g_bs l s + 1) + t (g_bs l s + 2)))) 37 (14 + 12 * s) (nI (t (g_bs l s + 3)))) 37 (15 + 12 * s) (nI (t (g_bs l s + 4)))) := (((m0.I (by decide) (by decide) _ _).I (by decide) (by decide) _ _).I (by decide) (by decide) _ _)
    obtain ⟨τ2, p1, p2, p3, p4⟩ := pm_o221 (t := t) (Ln := Ln) (B := g_bs l s) (s := s) (x2 := nI (5 + l 0 1)) (x3 := nI (5 + l 0 0)) (c116 := fun σ x2 x3 x4 => L_X11_on_116 fuel σ x2 x3 x4) hL hg (by omega) (by omega) (l 0 0) sw_fuel 0 _ (hl.mv m1 (by unfold pm_LS; decide)) (fun i hi => by rw [m1.r (by decide) (by decide)]; exact hb i hi) (by omega) (by omega)
    have m2 := m1.trans p2
    obtain ⟨τ3, q1, q2, q3, q4, q5, q6, q7⟩ := pm_o116 ht hL hg hpL n fuel (s + 1) τ2 (hl.mv m2 (by unfold pm_LS; decide)) (fun i hi => by rw [m2.r (by decide) (by decide)]; exact hb i hi) (by omega) (by omega)
    refine ⟨τ3, ?_, (m2.mono (by decide) (by decide)).trans q2, q3, q4, fun u j h1 h2 h3 => ?_, fun u j h1 h2 h3 => ?_, fun i hi => ?_⟩
    · show S_X11_on_116 _ τ (nI (5 + l 0 1)) (nI (5 + l 0 0)) (nI s) = _
      unfold S_X11_on_116 F_X11_sheepMany
      dsimp only [Option.bind]
      rw [hl.2.2.1, if_neg (nI_ge hs2 (by omega)), show nI (5 + l 0 1) + nI (5 + l 0 0) * nI s = nI (g_bs l s) from by rw [pk_mul, nI_add, Nat.mul_comm]; rfl, if_pos (pz_inb (show g_bs l s < 1600 by omega) (by omega)), show (12 : Int32) + 12 * nI s = nI (12 + 12 * s) from h12 12, show (13 : Int32) + 12 * nI s = nI (13 + 12 * s) from h12 13, show (14 : Int32) + 12 * nI s = nI (14 + 12 * s) from h12 14, show (15 : Int32) + 12 * nI s = nI (15 + 12 * s) from h12 15, if_pos (pz_inb (show 12 + 12 * s < 245 by omega) (by omega)), nI_clamp (show g_bs l s < 2 ^ 31 by omega), nI_clamp (show 12 + 12 * s < 2 ^ 31 by omega), hb _ (by omega), nI_1, pm_two hL b0 (by omega)]
      dsimp only
      rw [if_pos (pz_inb (show 13 + 12 * s < 245 by omega) (by omega)), show nI (g_bs l s) + 3 = nI (g_bs l s + 3) from nI_add _ 3, show nI (g_bs l s) + 4 = nI (g_bs l s + 4) from nI_add _ 4, if_pos (pz_inb (show g_bs l s + 3 < 1600 by omega) (by omega)), if_pos (pz_inb (show 14 + 12 * s < 245 by omega) (by omega)), if_pos (pz_inb (show g_bs l s + 4 < 1600 by omega) (by omega)), if_pos (pz_inb (show 15 + 12 * s < 245 by omega) (by omega)), nI_clamp (show g_bs l s + 3 < 2 ^ 31 by omega), nI_clamp (show g_bs l s + 4 < 2 ^ 31 by omega), nI_clamp (show 13 + 12 * s < 2 ^ 31 by omega), nI_clamp (show 14 + 12 * s < 2 ^ 31 by omega), nI_clamp (show 15 + 12 * s < 2 ^ 31 by omega), b0 _ (show g_bs l s + 3 < Ln by omega), b0 _ (show g_bs l s + 4 < Ln by omega)]
      exact p1.trans q1
    · by_cases e : u = s
      · rw [e, q7 _ (by omega)]
        unfold g_tr
        by_cases j0 : j = 0
        · rw [if_pos j0, j0, p4 _ (by omega), pz_Ik (by omega), pz_Ik (by omega), pz_Ik (by omega), pz_Ie rfl (by omega)]
        · rw [if_neg j0]
          by_cases j1 : j = 1
          · rw [if_pos j1, j1, p4 _ (by omega), pz_Ik (by omega), pz_Ik (by omega), pz_Ie rfl (by omega)]
          · rw [if_neg j1]
            by_cases j2 : j = 2
            · rw [j2, p4 _ (by omega), pz_Ik (by omega), pz_Ie rfl (by omega)]
            · by_cases j3 : j = 3
              · rw [j3, p4 _ (by omega), pz_Ie rfl (by omega)]
              · have := p3 (j - 4) (by omega) (by omega)
                rw [show 16 + 12 * s + (j - 4) = 12 + 12 * s + j by omega, show g_bs l s + 5 + (j - 4) = g_bs l s + 1 + j by omega] at this
                exact this
      · exact q5 u j (by omega) h2 h3
    · by_cases e : u = s
      · rw [q6 u j h1 h2 h3, e, p4 _ (by omega), pz_Ik (by omega), pz_Ik (by omega), pz_Ik (by omega), pz_Ik (by omega)]
      · rw [q6 u j h1 h2 h3, p4 _ (by omega), pz_Ik (by omega), pz_Ik (by omega), pz_Ik (by omega), pz_Ik (by omega)]
    · rw [q7 i (by omega), p4 _ (by omega), pz_Ik (by omega), pz_Ik (by omega), pz_Ik (by omega), pz_Ik (by omega)]
theorem pm_o80 {t : Nat → Nat} {Ln : Nat} {l : Nat → Nat → Nat} {P : Nat → List Nat} {x2 x3 : Int32} (hL : Ln ≤ 1600) (hg : g_ld l P) (hpL : 5 + l 0 1 ≤ Ln) : ∀ (n fuel k : Nat) (τ : sw_St), pm_ld τ l P → (∀ i, i < Ln → τ.1 1 i = nI (t i)) → k + n = l 0 1 → n < fuel →
    ∃ τ', L_X11_on_80 fuel τ x2 x3 (nI k) = L_X11_on_116 sw_fuel τ' x2 x3 0 ∧ pm_sm [37] [] τ τ' ∧ (∀ i, k ≤ i → i < l 0 1 → τ'.1 37 (2 + i) = nI (t (5 + i))) ∧ ∀ i, i < 2 + k ∨ 12 ≤ i → τ'.1 37 i = τ.1 37 i
  | 0, fuel + 1, k, τ, hl, hb, hk, hf => by
    have h1 := hg.2.1
    refine ⟨τ, ?_, pm_sm.refl _ _ _, fun i h1 h2 => by omega, fun _ _ => rfl⟩
    show S_X11_on_80 _ τ x2 x3 (nI k) = _
    unfold S_X11_on_80 F_X11_gapMany
    dsimp only [Option.bind]
    rw [hl.2.1, if_pos (nI_le (by omega) (by omega))]
  | n + 1, fuel + 1, k, τ, hl, hb, hk, hf => by
    have h1 := hg.2.1
    have m1 : pm_sm [37] [] τ (sw_uI τ 37 (2 + k) (nI (t (5 + k)))) := (pm_sm.refl _ _ τ).I (by decide) (by decide) _ _
    obtain ⟨τ', p1, p2, p3, p4⟩ := pm_o80 (x2 := x2) (x3 := x3) hL hg hpL n fuel (k + 1) _ (hl.mv m1 (by unfold pm_LS; decide)) (fun i hi => by rw [pz_Io (by decide)]; exact hb i hi) (by omega) (by omega)
    refine ⟨τ', ?_, m1.trans p2, fun i h1 h2 => ?_, fun i hi => by rw [p4 i (by omega), pz_Ik (by omega)]⟩
    · show S_X11_on_80 _ τ x2 x3 (nI k) = _
      unfold S_X11_on_80 F_X11_gapMany
      dsimp only [Option.bind]
      rw [hl.2.1, if_neg (nI_ge (by omega) (by omega)), show (5 : Int32) + nI k = nI (5 + k) from nI_add 5 k, show (2 : Int32) + nI k = nI (2 + k) from nI_add 2 k, if_pos (pz_inb (show 5 + k < 1600 by omega) (by omega)), if_pos (pz_inb (show 2 + k < 245 by omega) (by omega)), nI_clamp (show 5 + k < 2 ^ 31 by omega), nI_clamp (show 2 + k < 2 ^ 31 by omega), hb _ (by omega), nI_1]
      exact p1
    · by_cases e : i = k
      · rw [e, p4 _ (by omega), pz_Ie rfl rfl]
      · exact p3 i (by omega) h2
theorem g_all_at (p : Nat → Bool) : ∀ (n k : Nat), g_all p n k = true → ∀ i, k ≤ i → i < k + n → p i = true
  | 0, k, h, i, h1, h2 => by omega
  | n + 1, k, h, i, h1, h2 => by
    rw [g_all_s] at h
    have h' := (Bool.and_eq_true _ _ ▸ h : p k = true ∧ g_all p n (k + 1) = true)
    by_cases e : i = k
    · rw [e]; exact h'.1
    · exact g_all_at p n (k + 1) h'.2 i (by omega) (by omega)
theorem g_c_of {v mx : Nat} (h : v ≤ mx) : g_c v mx = v := if_pos h
theorem g_sok_row {l : Nat → Nat → Nat} {t : Nat → Nat} {B j : Nat} (h : g_sok l t B = true) (hj : j < 4 + l 0 0) : g_srow l t B j = g_tr t B j := by
  unfold g_sok at h
  simp only [Bool.and_eq_true] at h
  obtain ⟨⟨⟨⟨h0, h1⟩, h2⟩, h3⟩, h4⟩ := h
  have h0 := of_decide_eq_true h0
  have h1 := of_decide_eq_true h1
  have h2 := of_decide_eq_true h2
  have h3 := of_decide_eq_true h3
  unfold g_srow g_tr
  by_cases j0 : j = 0
  · rw [if_pos j0, if_pos j0, g_c_of h0]
  · rw [if_neg j0, if_neg j0]
    by_cases j1 : j = 1
    · rw [if_pos j1, if_pos j1, g_c_of h1]
    · rw [if_neg j1, if_neg j1]
      by_cases j2 : j = 2
      · rw [if_pos j2, j2, g_c_of h2]
      · rw [if_neg j2]
        by_cases j3 : j = 3
        · rw [if_pos j3, j3, g_c_of h3]
        · rw [if_neg j3, if_pos hj]
          have h5 := of_decide_eq_true (g_all_at _ _ _ h4 (j - 4) (by omega) (by omega))
          rw [show B + 5 + (j - 4) = B + 1 + j by omega] at h5
          exact g_c_of h5
theorem RM.clr {τ τ' : sw_St} {l : Nat → Nat → Nat} {P : Nat → List Nat} {nm : g_N} {D : g_D} {U : List g_D} {F : List (Nat × Nat × Nat)} {T : List Nat} {sd : Nat} {rf : Nat → Int32} {ft : Int32 × Int32} {im : List Nat} {D' : g_D} (h : RM τ l P nm D U F T sd rf ft im) (m : pm_sm [37] [67] τ τ') (hD : pm_st τ' 37 0 l D') (h67 : τ'.1 0 67 = 0) : RM τ' l P nm D' [] F T sd rf ft im := by
  have r : ∀ o, o ≠ 0 → o ∉ [37] → τ'.1 o = τ.1 o := fun o h0 ho => (m.1 o h0 ho).1
  have rk : ∀ k, k ∉ [67] → τ'.1 0 k = τ.1 0 k := fun k hk => m.2.1 k hk
  refine h.gen (h.1.mv m (by unfold pm_LS; decide)) (m.1 29 (by decide) (by decide)).2 hD ?_ (h.2.2.2.2.1.mv (rk 63 (by decide)) (r 44 (by decide) (by decide))) (h.2.2.2.2.2.1.mv (rk 1 (by decide)) (r 1 (by decide) (by decide))) (by rw [m.2.2]; exact h.2.2.2.2.2.2.1) (fun j hj => by rw [r 2 (by decide) (by decide)]; exact h.2.2.2.2.2.2.2.1 j hj) (by rw [rk 7 (by decide), rk 8 (by decide)]; exact h.2.2.2.2.2.2.2.2.1) (h.2.2.2.2.2.2.2.2.2.1.mv (rk 105 (by decide)) (r 74 (by decide) (by decide))) (by rw [rk 52 (by decide), rk 58 (by decide)]; exact h.2.2.2.2.2.2.2.2.2.2.1) (h.2.2.2.2.2.2.2.2.2.2.2.mv m (by decide))
  obtain ⟨nw, b1, b2, b3, b4⟩ := h.2.2.2.1
  exact ⟨nw, b1, by rw [rk 68 (by decide)]; exact b2, by rw [h67]; rfl, fun i E hi => by simp at hi⟩
theorem pm_on {τ : sw_St} {l : Nat → Nat → Nat} {P : Nat → List Nat} {nm : g_N} {D : g_D} {U : List g_D} {F : List (Nat × Nat × Nat)} {T : List Nat} {sd : Nat} {rf : Nat → Int32} {ft : Int32 × Int32} {im : List Nat} (hG : RG l P nm D U F T sd im) (h : RM τ l P nm D U F T sd rf ft im) : ∃ τ', F_X11_on τ = some (g_ok1 (g_isI l T), τ') ∧ (if g_isI l T = true then RM τ' l P nm (g_iD l T) [] F [] sd rf ft im else RM τ' l P nm D U F [] sd (g_rf rf 5) ft im) := by
  have hM0 := h.tape0
  have hT := hG.2.2.2.2.2.1
  have hg := hG.1
  have g8 := hg.1
  have g1 := hg.2.1
  have g6 := hg.2.2.1
  have hfu := sw_fuel_ge
  have ht := g_t_lt hT.2
  have hb0 : ∀ i, i < T.length → (sw_uI τ 0 1 0).1 1 i = nI (g_t T i) := fun i hi => by rw [pz_Io (by decide)]; exact h.2.2.2.2.2.1.2 i hi
  unfold F_X11_on
  rw [h.2.2.2.2.2.1.1, pm_isImage hG.1 hM0.1 hT.1 hT.2 hb0]
  dsimp only [Option.bind]
  by_cases e : g_isI l T = true
  · rw [e, show g_ok1 true = 1 from rfl, if_neg pz_10]
    have e' := e
    unfold g_isI at e'
    simp only [Bool.and_eq_true] at e'
    obtain ⟨c1, c2, c3, c4, c5, c6⟩ := e'
    have c1 := of_decide_eq_true c1
    have c3 := of_decide_eq_true c3
    have c4 := of_decide_eq_true c4
    have hlen6 : 6 + l 0 1 ≤ T.length := by rw [c1]; unfold g_LEN; omega
    have hLB : g_bs l (l 0 2) + 1 = T.length := by rw [c1]; unfold g_bs g_LEN; omega
    unfold F_X11_gapMany F_X11_fieldMany
    dsimp only
    rw [hM0.1.1, hM0.1.2.1, show F_X11_twoAt (sw_uI τ 0 1 0) 0 = some (nI (256 * g_t T 0 + g_t T 1), sw_uI τ 0 1 0) from pm_two (p := 0) hT.1 hb0 (by omega)]
    dsimp only
    rw [if_pos (show sw_inb 0 245 = true from pz_inb (n := 0) (by omega) (by omega))]
    have m1 : pm_sm [37] [67] (sw_uI τ 0 1 0) (sw_uI (sw_uI τ 0 1 0) 37 0 (nI (256 * g_t T 0 + g_t T 1))) := (pm_sm.refl _ _ _).I (by decide) (by decide) _ _
    have hb1 : ∀ i, i < T.length → (sw_uI (sw_uI τ 0 1 0) 37 0 (nI (256 * g_t T 0 + g_t T 1))).1 1 i = nI (g_t T i) := fun i hi => by rw [pz_Io (by decide)]; exact hb0 i hi
    rw [show (0 : Int32).toNatClampNeg = 0 from by decide, show (1 : Int32).toNatClampNeg = 1 from by decide, show F_X11_twoAt (sw_uI (sw_uI τ 0 1 0) 37 0 (nI (256 * g_t T 0 + g_t T 1))) 3 = some (nI (256 * g_t T 3 + g_t T 4), sw_uI (sw_uI τ 0 1 0) 37 0 (nI (256 * g_t T 0 + g_t T 1))) from pm_two (p := 3) hT.1 hb1 (by omega)]
    dsimp only
    rw [if_pos (show sw_inb 1 245 = true from pz_inb (n := 1) (by omega) (by omega)), hb0 2 (by omega), show (65536 : Int32) * nI (g_t T 2) + nI (256 * g_t T 3 + g_t T 4) = nI (65536 * g_t T 2 + 256 * g_t T 3 + g_t T 4) from by rw [show (65536 : Int32) = nI 65536 from rfl, pk_mul, nI_add, Nat.add_assoc], show (5 : Int32) + nI (l 0 1) = nI (5 + l 0 1) from nI_add 5 _, show (5 : Int32) + nI (l 0 0) = nI (5 + l 0 0) from nI_add 5 _]
    have m2 := m1.I (o := 37) (by decide) (by decide) 1 (nI (65536 * g_t T 2 + 256 * g_t T 3 + g_t T 4))
    obtain ⟨τ2, p1, p2, p3, p4⟩ := pm_o80 (t := g_t T) (Ln := T.length) (x2 := nI (5 + l 0 1)) (x3 := nI (5 + l 0 0)) hT.1 hg (by omega) (l 0 1) sw_fuel 0 _ (hM0.1.mv m2 (by unfold pm_LS; decide)) (fun i hi => by rw [pz_Io (by decide)]; exact hb1 i hi) (by omega) (by omega)
    have m3 := m2.trans (p2.mono (by decide) (by decide))
    obtain ⟨τ3, q1, q2, q3, q4, q5, q6, q7⟩ := pm_o116 ht hT.1 hg (by omega) (l 0 2) sw_fuel 0 τ2 (hM0.1.mv m3 (by unfold pm_LS; decide)) (fun i hi => by rw [m3.r (by decide) (by decide)]; exact hb0 i hi) (by omega) (by omega)
    have m4 := m3.trans q2
    refine ⟨τ3, by rw [show L_X11_on_80 sw_fuel (sw_uI (sw_uI (sw_uI τ 0 1 0) 37 0 (nI (256 * g_t T 0 + g_t T 1))) 37 1 (nI (65536 * g_t T 2 + 256 * g_t T 3 + g_t T 4))) (nI (5 + l 0 1)) (nI (5 + l 0 0)) 0 = _ from p1]; exact q1, ?_⟩
    rw [if_pos rfl]
    refine hM0.clr m4 ⟨?_, ?_, fun k hk => ?_, fun s j hs hj => ?_, ?_, fun i hi => by cases hi⟩ q4
    · rw [q7 0 (by omega), p4 0 (by omega), pz_Ik (by omega), pz_Ie rfl rfl]
      show _ = nI (g_c (256 * g_t T 0 + g_t T 1) 999)
      rw [g_c_of c3]
    · rw [q7 _ (by omega), p4 _ (by omega), pz_Ie rfl rfl]
      show _ = nI (g_c (65536 * g_t T 2 + 256 * g_t T 3 + g_t T 4) 99999)
      rw [g_c_of c4]
    · rw [Nat.zero_add, q7 _ (by omega), p3 k (by omega) hk]
      show _ = nI (if (g_bits (g_gb (g_t T)) (l 0 1)).testBit k = true then 1 else 0)
      have c7 := of_decide_eq_true (g_all_at _ _ _ c5 k (by omega) (by omega))
      rw [g_bits_at, decide_eq_true hk, Bool.true_and]
      unfold g_gb
      rw [g_c_of c7]
      by_cases z : g_t T (5 + k) = 1
      · rw [z, if_pos (by decide)]
      · rw [if_neg (by simpa using z), show g_t T (5 + k) = 0 by omega]
    · rw [Nat.zero_add]
      show _ = nI (g_srow l (g_t T) (g_bs l s) j)
      by_cases z : j < 4 + l 0 0
      · rw [q5 s j (by omega) hs z, g_sok_row (g_all_at _ _ _ c6 s (by omega) (by omega)) z]
      · rw [q6 s j hs (by omega) hj, p4 _ (by omega), pz_Ik (by omega), pz_Ik (by omega), pz_Io (by decide)]
        have h1 := h.2.2.1.2.2.2.1 s j hs hj
        rw [Nat.zero_add] at h1
        have h2 := hG.2.2.1.2.2.2.2.2.2 s (j - 4) hs (by omega) (by omega)
        rw [show 4 + (j - 4) = j by omega] at h2
        rw [h1, h2]
        unfold g_srow
        rw [if_neg (by omega), if_neg (by omega), if_neg (by omega), if_neg (by omega), if_neg (by omega)]
    · show τ3.1 37 (0 + 84) = _
      rw [show 0 + 84 = 84 from rfl, q3]
      rfl
  · rw [show g_isI l T = false from by simpa using e, show g_ok1 false = 0 from rfl, if_pos rfl]
    exact ⟨_, rfl, by rw [if_neg (by decide)]; exact hM0.ref (by omega)⟩
theorem op_36 : ll_36 RR := by
  intro x m hR
  obtain ⟨w, l, P, nm, D, U, F, T, sd, rf, ft, im, hG, hX, hM⟩ := hR
  have hR : RR x m := ⟨w, l, P, nm, D, U, F, T, sd, rf, ft, im, hG, hX, hM⟩
  obtain ⟨x2, p1, p2⟩ := px_on hG hX
  obtain ⟨m2, q1, q2⟩ := pm_on hG hM
  refine ⟨_, x2, m2, p1, q1, ?_⟩
  by_cases e : g_isI l T = true
  · rw [if_pos e] at p2 q2
    exact ⟨w, l, P, nm, _, [], F, [], sd, rf, ft, im, ⟨hG.1, hG.2.1, g_iD_dk hG.1, ⟨by decide, fun E hE => by simp at hE⟩, hG.2.2.2.2.1, ⟨by decide, fun b hb => by simp at hb⟩, hG.2.2.2.2.2.2⟩, p2, q2⟩
  · rw [if_neg e] at p2 q2
    exact ⟨w, l, P, nm, D, U, F, [], sd, _, ft, im, hG.tape0, p2, q2⟩

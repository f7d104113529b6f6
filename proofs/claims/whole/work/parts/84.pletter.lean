/-! The letters of a name. -/
theorem g_nr_snoc (L : List Nat) (c : Nat) : g_nr (L ++ [c]) = 27 * g_nr L + c := by
  unfold g_nr
  rw [List.foldl_append]
  rfl
theorem g_nr_take {L : List Nat} {k : Nat} (hk : k < L.length) : g_nr (L.take (k + 1)) = 27 * g_nr (L.take k) + L.getD k 0 := by
  rw [List.take_succ_eq_append_getElem hk, g_nr_snoc, List.getD_eq_getElem?_getD, List.getElem?_eq_getElem hk]
  rfl
theorem g_nk_c {L : List Nat} (h : g_nk L) {k : Nat} (hk : k < L.length) : 1 ≤ L.getD k 0 ∧ L.getD k 0 ≤ 26 := by
  have : L.getD k 0 = L[k] := by
    rw [List.getD_eq_getElem?_getD, List.getElem?_eq_getElem hk]
    rfl
  rw [this]
  exact h.2.2 _ (List.getElem_mem hk)
theorem g_nr_lt {L : List Nat} (h : g_nk L) : ∀ k, k ≤ L.length → g_nr (L.take k) < 27 ^ k
  | 0, _ => by
    rw [List.take_zero]
    decide
  | k + 1, hk => by
    have h1 := g_nr_lt h k (by omega)
    have h2 := (g_nk_c h (show k < L.length by omega)).2
    rw [g_nr_take (by omega), Nat.pow_succ]
    omega
theorem g_nr_lt31 {L : List Nat} (h : g_nk L) {k : Nat} (hk : k ≤ L.length) : g_nr (L.take k) < 2 ^ 31 := by
  have h1 := g_nr_lt h k hk
  have h2 : 27 ^ k ≤ 27 ^ 6 := Nat.pow_le_pow_right (by omega) (by have := h.2.1; omega)
  omega
theorem pm_l2loop {τ : sw_St} {L : List Nat} {j : Nat} (h : g_nk L) : ∀ (n fuel k : Nat), k < L.length → k = j + n → n < fuel → L_X11_letter_102 fuel τ (nI j) (lN (g_nr (L.take (k + 1)))) (nI k) = some (nI (L.getD j 0), τ)
  | 0, fuel + 1, k, hk, hj, hf => by
    have h6 := h.2.1
    have h31 := g_nr_lt31 h (show k + 1 ≤ L.length by omega)
    have hc := g_nk_c h hk
    show S_X11_letter_102 _ τ (nI j) (lN (g_nr (L.take (k + 1)))) (nI k) = _
    unfold S_X11_letter_102
    rw [if_pos (nI_le (by omega) (by omega)), show (27 : Int64) = lN 27 from rfl, pk_lRem (by omega) (by omega) (by omega), lN_i, g_nr_take hk, show (27 * g_nr (L.take k) + L.getD k 0) % 27 = L.getD k 0 by omega, hj, Nat.add_zero]
  | n + 1, fuel + 1, k, hk, hj, hf => by
    have h6 := h.2.1
    have h31 := g_nr_lt31 h (show k + 1 ≤ L.length by omega)
    have hc := g_nk_c h hk
    have ih := pm_l2loop (τ := τ) (j := j) h n fuel (k - 1) (by omega) (by omega) (by omega)
    rw [show k - 1 + 1 = k by omega] at ih
    show S_X11_letter_102 _ τ (nI j) (lN (g_nr (L.take (k + 1)))) (nI k) = _
    unfold S_X11_letter_102
    rw [if_neg (nI_ge (by omega) (by omega)), show (27 : Int64) = lN 27 from rfl, pk_lDiv (by omega) (by omega) (by omega), g_nr_take hk, show (27 * g_nr (L.take k) + L.getD k 0) / 27 = g_nr (L.take k) by omega, show nI k + -1 = nI (k - 1) from by
      rw [show k = k - 1 + 1 by omega, ← nI_1, Nat.add_sub_cancel]
      rw [Int32.add_assoc, show (1 : Int32) + -1 = 0 from by decide, Int32.add_zero]]
    exact ih
theorem pm_l1loop {τ : sw_St} {L : List Nat} {j : Nat} (h : g_nk L) (hj : j < 6) : ∀ (k fuel i : Nat), i + k = L.length → k < fuel → L_X11_letter_67 fuel τ (nI j) (lN (g_nr L)) (nI i) (lN (g_nr (L.take k))) = some (nI (L.getD j 0), τ)
  | 0, fuel + 1, i, hi, hf => by
    have h6 := h.2.1
    have h1 := h.1
    have hfu := sw_fuel_ge
    show S_X11_letter_67 _ τ (nI j) (lN (g_nr L)) (nI i) (lN (g_nr (L.take 0))) = _
    unfold S_X11_letter_67
    rw [List.take_zero, if_pos (show lg_cmp (lN (g_nr [])) 0 ≤ 0 from (lg_cmp_le _ _).mpr (by decide))]
    by_cases e : j < i
    · have h2 := pm_l2loop (τ := τ) (j := j) h (i - 1 - j) sw_fuel (i - 1) (by omega) (by omega) (by omega)
      rw [show i - 1 + 1 = L.length by omega, List.take_length] at h2
      rw [if_pos (show nI j < nI i from by rw [fa_lt, nI_toInt (by omega), nI_toInt (by omega)]; omega), show nI i - 1 = nI (i - 1) from by
        rw [show i = i - 1 + 1 by omega, ← nI_1, Nat.add_sub_cancel, Int32.add_sub_cancel]]
      exact h2
    · rw [if_neg (show ¬ nI j < nI i from by rw [fa_lt, nI_toInt (by omega), nI_toInt (by omega)]; omega), List.getD_eq_getElem?_getD, List.getElem?_eq_none (by omega)]
      rfl
  | k + 1, fuel + 1, i, hi, hf => by
    have h6 := h.2.1
    have h31 := g_nr_lt31 h (show k + 1 ≤ L.length by omega)
    have hc := g_nk_c h (show k < L.length by omega)
    show S_X11_letter_67 _ τ (nI j) (lN (g_nr L)) (nI i) (lN (g_nr (L.take (k + 1)))) = _
    unfold S_X11_letter_67
    rw [if_neg (show ¬ lg_cmp (lN (g_nr (L.take (k + 1)))) 0 ≤ 0 from fun z => by
      have z2 := (lg_cmp_le _ _).mp z
      rw [show (0 : Int64) = lN 0 from rfl, lN_le h31 (by omega), g_nr_take (show k < L.length by omega)] at z2
      omega), show (27 : Int64) = lN 27 from rfl, pk_lDiv (by omega) (by omega) (by omega), g_nr_take (show k < L.length by omega), show (27 * g_nr (L.take k) + L.getD k 0) / 27 = g_nr (L.take k) by omega, nI_1]
    exact pm_l1loop h hj k fuel (i + 1) (by omega) (by omega)
theorem px_letter {σ : sw_St} {L : List Nat} {j : Nat} (h : g_nk L) (hj : j < 6) : S_X10_letter_73 σ (nI j) (nI (g_nx L)) = some (nI (L.getD j 0), σ) := by
  have hc : ∀ i, L.getD i 0 ≤ 26 := fun i => by
    by_cases hi : i < L.length
    · exact (g_nk_c h hi).2
    · rw [List.getD_eq_getElem?_getD, List.getElem?_eq_none (by omega)]
      decide
  have hn : g_nx L = (((((L.getD 0 0) * 32 + L.getD 1 0) * 32 + L.getD 2 0) * 32 + L.getD 3 0) * 32 + L.getD 4 0) * 32 + L.getD 5 0 := by
    show (((((0 * 32 + L.getD 0 0) * 32 + L.getD 1 0) * 32 + L.getD 2 0) * 32 + L.getD 3 0) * 32 + L.getD 4 0) * 32 + L.getD 5 0 = _
    rw [Nat.zero_mul, Nat.zero_add]
  have h0 := hc 0
  have h1 := hc 1
  have h2 := hc 2
  have h3 := hc 3
  have h4 := hc 4
  have h5 := hc 5
  have hb : g_nx L < 2 ^ 31 := by omega
  have key : ∀ (k : Nat) (x : Int32), (x.toBitVec.smod 32).toNat = k → (nI (g_nx L) >>> x) &&& 31 = nI (g_nx L / 2 ^ k % 32) := fun k x hx => by
    rw [pk_shrN hb x k hx, show (31 : Int32) = nI (2 ^ 5 - 1) from rfl, fa_mask]
  unfold S_X10_letter_73
  have hj6 : j = 0 ∨ j = 1 ∨ j = 2 ∨ j = 3 ∨ j = 4 ∨ j = 5 := by omega
  rcases hj6 with rfl | rfl | rfl | rfl | rfl | rfl
  · rw [key 25 _ (by decide), hn]
    congr 3
    omega
  · rw [key 20 _ (by decide), hn]
    congr 3
    omega
  · rw [key 15 _ (by decide), hn]
    congr 3
    omega
  · rw [key 10 _ (by decide), hn]
    congr 3
    omega
  · rw [key 5 _ (by decide), hn]
    congr 3
    omega
  · rw [key 0 _ (by decide), hn]
    congr 3
    omega
theorem op_5 : ll_5 RR := by
  intro x m hR a b c
  obtain ⟨w, l, P, nm, D, U, F, T, sd, rf, ft, im, hG, hX, hM⟩ := hR
  have hR : RR x m := ⟨w, l, P, nm, D, U, F, T, sd, rf, ft, im, hG, hX, hM⟩
  have hw := hX.1.1
  have h8 := hG.1.1
  have h6 := hG.1.2.2.1
  have hfu := sw_fuel_ge
  unfold F_X10_letter F_X11_letter S_X10_letter_10 S_X10_letter_41 S_X10_letter_71 S_X11_letter_42
  rw [px_isField hG.1 hX.1, px_isSheep hG.1 hX.1, pm_inL m a 1 (by decide)]
  dsimp only [Option.bind]
  by_cases ha : g_in a 2 = true
  · obtain ⟨i, hi, rfl⟩ := g_in_of ha
    rw [if_pos ha, if_neg pz_10, pm_ad, if_pos (pz_inb (by omega) (by omega)), nI_clamp (by omega)]
    have hcnt : m.1 28 (4 + i) = nI (if i = 0 then l 0 0 else l 0 2) := by
      have : i = 0 ∨ i = 1 := by omega
      rcases this with rfl | rfl
      · exact hM.1.1
      · exact hM.1.2.2.1
    rw [pm_in0 m b (n := if i = 0 then l 0 0 else l 0 2) (by split <;> omega) hcnt]
    dsimp only
    by_cases hb : g_in b (if i = 0 then l 0 0 else l 0 2) = true
    · obtain ⟨k, hk, rfl⟩ := g_in_of hb
      have hk8 : k < 8 := by
        by_cases e : i = 0
        · rw [if_pos e] at hk
          omega
        · rw [if_neg e] at hk
          omega
      rw [if_pos hb, if_neg pz_10, pm_inL m c 5 (by decide)]
      dsimp only
      by_cases hc : g_in c 6 = true
      · obtain ⟨j, hj, rfl⟩ := g_in_of hc
        rw [if_pos hc, if_neg pz_10, if_neg (nI_pos (by omega)), if_pos (show nI j < (6 : Int32) from by rw [fa_lt, nI_toInt (by omega), show (6 : Int32).toInt = 6 from by decide]; omega)]
        have : i = 0 ∨ i = 1 := by omega
        rcases this with rfl | rfl
        · rw [if_pos rfl] at hk hb
          have hnk := hG.2.1.1 k hk
          have e2 : m.2.1 29 (16 + 8 * 0 + k) = lN (g_nr (nm 0 k)) := hM.2.1.1 k hk
          have e1 := pm_l1loop (τ := m) hnk hj (nm 0 k).length sw_fuel 0 (by omega) (by have := hnk.2.1; omega)
          rw [List.take_length] at e1
          refine ⟨nI ((nm 0 k).getD j 0), x, m, ?_, ?_, hR⟩
          · rw [if_pos (show nI 0 = 0 from rfl), if_pos hb, if_neg pz_10, hX.1.2.1]
            dsimp only
            rw [if_pos (ld_O hw), if_pos (ld_A1 hw), ld_n1 hw, if_pos (pz_inb (by omega) (by omega)), nI_clamp (by omega), hX.2.2.1.1 k hk]
            exact px_letter hnk hj
          · rw [show (16 : Int32) + 8 * nI 0 + nI k = nI (16 + 8 * 0 + k) from by rw [show (16 : Int32) + 8 * nI 0 = nI 16 from by decide, nI_add], if_pos (pz_inb (by omega) (by omega)), nI_clamp (by omega), e2]
            exact e1
        · rw [if_neg (by decide)] at hk hb
          have hnk := hG.2.1.2 k hk
          have e2 : m.2.1 29 (16 + 8 * 1 + k) = lN (g_nr (nm 1 k)) := hM.2.1.2 k hk
          have e1 := pm_l1loop (τ := m) hnk hj (nm 1 k).length sw_fuel 0 (by omega) (by have := hnk.2.1; omega)
          rw [List.take_length] at e1
          refine ⟨nI ((nm 1 k).getD j 0), x, m, ?_, ?_, hR⟩
          · rw [if_neg (show ¬ nI 1 = 0 from by decide), if_pos (show nI 1 = 1 from rfl), if_pos hb, if_neg pz_10, hX.1.2.1]
            dsimp only
            rw [if_pos (ld_O hw), if_pos (ld_A6 hw), ld_n6 hw, if_pos (pz_inb (by omega) (by omega)), nI_clamp (by omega), hX.2.2.1.2 k hk]
            exact px_letter hnk hj
          · rw [show (16 : Int32) + 8 * nI 1 + nI k = nI (16 + 8 * 1 + k) from by rw [show (16 : Int32) + 8 * nI 1 = nI 24 from by decide, nI_add], if_pos (pz_inb (by omega) (by omega)), nI_clamp (by omega), e2]
            exact e1
      · rw [if_neg hc, if_pos rfl]
        refine ⟨-1, x, m, ?_, rfl, hR⟩
        rcases g_in_no hc (by omega) with q | ⟨q1, q2, q3⟩
        · rw [if_pos q]
        · rw [if_neg q1, if_neg (show ¬ c < (6 : Int32) from by rw [fa_lt, show (6 : Int32).toInt = 6 from by decide]; rw [fa_le, nI_toInt (by omega)] at q2; omega)]
    · rw [if_neg hb, if_pos rfl]
      refine ⟨-1, x, m, ?_, rfl, hR⟩
      have : i = 0 ∨ i = 1 := by omega
      rcases this with rfl | rfl
      · rw [if_pos rfl] at hb
        rw [if_neg hb]
        simp only [if_true, if_neg (show ¬ nI 0 = 1 from by decide)]
        by_cases q : c < 0
        · rw [if_pos q]
        · rw [if_neg q]
          by_cases q2 : c < 6
          · rw [if_pos q2, if_pos (show nI 0 = 0 from rfl)]
          · rw [if_neg q2]
      · rw [if_neg (by decide)] at hb
        rw [if_neg hb]
        simp only [if_true, if_neg (show ¬ nI 1 = 0 from by decide), if_pos (show nI 1 = 1 from rfl)]
        by_cases q : c < 0
        · rw [if_pos q]
        · rw [if_neg q]
          by_cases q2 : c < 6
          · rw [if_pos q2]
          · rw [if_neg q2]
  · rw [if_neg ha, if_pos rfl]
    refine ⟨-1, x, m, ?_, rfl, hR⟩
    have a0 : ¬ a = 0 := fun z => ha (by rw [z]; decide)
    have a1 : ¬ a = 1 := fun z => ha (by rw [z]; decide)
    simp only [if_neg a0, if_neg a1]
    by_cases q : c < 0
    · rw [if_pos q]
    · rw [if_neg q]
      by_cases q2 : c < 6
      · rw [if_pos q2]
      · rw [if_neg q2]

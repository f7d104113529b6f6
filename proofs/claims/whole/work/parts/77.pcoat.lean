/-! Coats. -/
def g_mb (v : Nat → Nat) (set : Nat) : Nat → Nat → Nat → Nat
  | 0, _, a => a
  | n + 1, k, a => g_mb v set n (k + 1) (if set.testBit k = true then a + v k else a)
theorem g_mb_le {v : Nat → Nat} {set : Nat} : ∀ (n k a : Nat), (∀ i, k ≤ i → i < k + n → v i ≤ 999) → g_mb v set n k a ≤ a + n * 999
  | 0, _, _, _ => by simp [g_mb]
  | n + 1, k, a, h => by
    unfold g_mb
    have h1 := h k (by omega) (by omega)
    have := g_mb_le (v := v) (set := set) n (k + 1) (if set.testBit k = true then a + v k else a) (fun i h2 h3 => h i (by omega) (by omega))
    have h4 : (if set.testBit k = true then a + v k else a) ≤ a + 999 := by split <;> omega
    omega
theorem g_mb_0 {v : Nat → Nat} : ∀ (n k a : Nat), g_mb v 0 n k a = a
  | 0, _, _ => rfl
  | n + 1, k, a => by
    unfold g_mb
    rw [if_neg (by simp)]
    exact g_mb_0 n (k + 1) a
theorem px_mbl {σ : sw_St} {w set : Nat} {l : Nat → Nat → Nat} {P : Nat → List Nat} {D : g_D} (hl : px_ld σ w l P) (hD : px_st σ 38 l D) (h6 : l 0 2 ≤ 6) (hs : set < 2 ^ 31) : ∀ (n fuel k acc : Nat), k + n = l 0 2 → n < fuel → L_X1_milesOf_4 fuel σ (nI set) (nI acc) (nI k) = some (nI (g_mb (fun s => D.2.1 s 1) set n k acc), σ)
  | 0, fuel + 1, k, acc, hk, hf => by
    show S_X1_milesOf_4 _ σ (nI set) (nI acc) (nI k) = _
    unfold S_X1_milesOf_4
    rw [hl.2.1]
    dsimp only [Option.bind]
    rw [if_pos (ld_O hl.1), hl.2.2.2.2.1, if_pos (nI_le (by omega) (by omega))]
    rfl
  | n + 1, fuel + 1, k, acc, hk, hf => by
    have ih := fun acc => px_mbl hl hD h6 hs n fuel (k + 1) acc (by omega) (by omega)
    show S_X1_milesOf_4 _ σ (nI set) (nI acc) (nI k) = _
    unfold S_X1_milesOf_4 S_X1_milesOf_39 g_mb
    rw [hl.2.1]
    dsimp only [Option.bind]
    rw [if_pos (ld_O hl.1), hl.2.2.2.2.1, if_neg (nI_ge (by omega) (by omega)), if_pos (pz_inb (show k < 6 by omega) (by omega)), nI_clamp (by omega), show σ.1 40 k = nI (D.2.1 k 1) from (hD.2.2.2.1 k (by omega)).2.1, nI_add, nI_1]
    by_cases h : set.testBit k = true
    · rw [if_pos ((px_bitT hs (by omega)).mpr h), if_pos h]
      exact ih _
    · rw [if_neg (fun z => h ((px_bitT hs (by omega)).mp z)), if_neg h]
      exact ih _
theorem pm_mbl {τ : sw_St} {set : Nat} {l : Nat → Nat → Nat} {P : Nat → List Nat} {D : g_D} (hl : pm_ld τ l P) (hD : pm_st τ 37 0 l D) (h6 : l 0 2 ≤ 6) (hs : set < 2 ^ 31) : ∀ (n fuel k acc : Nat), k + n = l 0 2 → n < fuel → L_X11_milesBy_4 fuel τ (nI set) (nI acc) (nI k) = some (nI (g_mb (fun s => D.2.1 s 1) set n k acc), τ)
  | 0, fuel + 1, k, acc, hk, hf => by
    show S_X11_milesBy_4 _ τ (nI set) (nI acc) (nI k) = _
    unfold S_X11_milesBy_4 F_X11_sheepMany
    dsimp only [Option.bind]
    rw [hl.2.2.1, if_pos (nI_le (by omega) (by omega))]
    rfl
  | n + 1, fuel + 1, k, acc, hk, hf => by
    have ih := fun acc => pm_mbl hl hD h6 hs n fuel (k + 1) acc (by omega) (by omega)
    have e := hD.2.2.2.1 k 1 (by omega) (by omega)
    rw [show 0 + (12 + 12 * k + 1) = 13 + 12 * k by omega] at e
    show S_X11_milesBy_4 _ τ (nI set) (nI acc) (nI k) = _
    unfold S_X11_milesBy_4 S_X11_milesBy_29 F_X11_sheepMany g_mb
    dsimp only [Option.bind]
    rw [hl.2.2.1, if_neg (nI_ge (by omega) (by omega)), pm_woolOf (by omega)]
    dsimp only
    rw [e, nI_add, nI_1]
    by_cases h : set.testBit k = true
    · rw [if_pos ((px_bitT hs (by omega)).mpr h), if_pos h]
      exact ih _
    · rw [if_neg (fun z => h ((px_bitT hs (by omega)).mp z)), if_neg h]
      exact ih _
def g_cst (mb : Nat → Nat) (n : Nat) (b : Option Nat) (k : Nat) : Option Nat := if mb k < n then b else match b with
  | none => some k
  | some j => if g_pc k < g_pc j ∨ (g_pc k = g_pc j ∧ mb k < mb j) then some k else some j
def g_cl (mb : Nat → Nat) (n : Nat) : Nat → Nat → Option Nat → Option Nat
  | 0, _, b => b
  | c + 1, k, b => g_cl mb n c (k + 1) (g_cst mb n b k)
theorem px_cl {σ : sw_St} {w n : Nat} {l : Nat → Nat → Nat} {P : Nat → List Nat} {mb : Nat → Nat} (hl : px_ld σ w l P) (h6 : l 0 2 ≤ 6) (hn : n ≤ 9999) (hmb : ∀ k, k < 64 → F_X1_milesOf σ (nI k) = some (nI (mb k), σ) ∧ mb k < 2 ^ 20) : ∀ (c fuel k : Nat) (b : Option Nat) (x3 : Int32), k + c = 2 ^ l 0 2 → c < fuel → (∀ j, b = some j → j < 64 ∧ x3 = nI (mb j)) → L_X1_leastCoat_7 fuel σ (nI n) (oI b) x3 (nI k) = some (oI (g_cl mb n c k b), σ)
  | 0, fuel + 1, k, b, x3, hk, hf, hb => by
    have hp : 2 ^ l 0 2 ≤ 2 ^ 6 := Nat.pow_le_pow_right (by omega) h6
    show S_X1_leastCoat_7 _ σ (nI n) (oI b) x3 (nI k) = _
    unfold S_X1_leastCoat_7
    rw [hl.2.1]
    dsimp only [Option.bind]
    rw [if_pos (ld_O hl.1), hl.2.2.2.2.1, pz_shl (by omega), if_pos (nI_le (by omega) (by omega))]
    rfl
  | c + 1, fuel + 1, k, b, x3, hk, hf, hb => by
    have hp : 2 ^ l 0 2 ≤ 2 ^ 6 := Nat.pow_le_pow_right (by omega) h6
    obtain ⟨m1, m2⟩ := hmb k (by omega)
    show S_X1_leastCoat_7 _ σ (nI n) (oI b) x3 (nI k) = _
    unfold S_X1_leastCoat_7 S_X1_leastCoat_60 S_X1_leastCoat_78 S_X1_leastCoat_84 g_cl g_cst
    rw [hl.2.1]
    dsimp only [Option.bind]
    rw [if_pos (ld_O hl.1), hl.2.2.2.2.1, pz_shl (by omega), if_neg (nI_ge (by omega) (by omega)), m1]
    dsimp only
    rw [nI_1]
    by_cases h : mb k < n
    · rw [if_neg (nI_ge h (by omega)), if_pos h]
      exact px_cl hl h6 hn hmb c fuel (k + 1) b x3 (by omega) (by omega) hb
    · rw [if_pos (nI_le (by omega) (by omega)), if_neg h]
      cases b with
      | none =>
        rw [if_pos (by rfl), if_pos (by decide)]
        exact px_cl hl h6 hn hmb c fuel (k + 1) (some k) (nI (mb k)) (by omega) (by omega) (fun j hj => by cases hj; exact ⟨by omega, rfl⟩)
      | some j =>
        obtain ⟨j64, hx3⟩ := hb j rfl
        obtain ⟨m3, m4⟩ := hmb j j64
        have p1 : g_pc k ≤ 10 := by unfold g_pc; exact Nat.le_trans (List.length_filter_le _ _) (by simp)
        have p2 : g_pc j ≤ 10 := by unfold g_pc; exact Nat.le_trans (List.length_filter_le _ _) (by simp)
        rw [if_neg (by exact pz_nm1 (by omega)), px_bc (by omega)]
        dsimp only
        rw [show oI (some j) = nI j from rfl, px_bc (by omega)]
        dsimp only
        have es : (nI (g_pc k) - nI (g_pc j)).toInt = (g_pc k : Int) - g_pc j := pk_sub_toInt (by omega) (by omega)
        have l0 : (0 : Int32).toInt = 0 := by decide
        simp only [fa_lt, fa_eq, es, l0]
        by_cases h1 : g_pc k < g_pc j
        · rw [if_pos (show (g_pc k : Int) - g_pc j < 0 by omega), if_pos (Or.inl h1)]
          exact px_cl hl h6 hn hmb c fuel (k + 1) (some k) (nI (mb k)) (by omega) (by omega) (fun i hi => by cases hi; exact ⟨by omega, rfl⟩)
        · rw [if_neg (show ¬ (g_pc k : Int) - g_pc j < 0 by omega)]
          by_cases h2 : g_pc k = g_pc j
          · rw [if_pos (show (g_pc k : Int) - g_pc j = 0 by omega), hx3]
            by_cases h3 : mb k < mb j
            · rw [if_neg (nI_ge h3 (by omega)), if_pos (Or.inr ⟨h2, h3⟩)]
              exact px_cl hl h6 hn hmb c fuel (k + 1) (some k) (nI (mb k)) (by omega) (by omega) (fun i hi => by cases hi; exact ⟨by omega, rfl⟩)
            · rw [if_pos (nI_le (by omega) (by omega)), if_neg (by omega)]
              exact px_cl hl h6 hn hmb c fuel (k + 1) (some j) (nI (mb j)) (by omega) (by omega) (fun i hi => by cases hi; exact ⟨j64, rfl⟩)
          · rw [if_neg (show ¬ (g_pc k : Int) - g_pc j = 0 by omega), if_neg (by omega)]
            exact px_cl hl h6 hn hmb c fuel (k + 1) (some j) x3 (by omega) (by omega) hb
theorem pm_cl {τ : sw_St} {n : Nat} {l : Nat → Nat → Nat} {P : Nat → List Nat} {mb : Nat → Nat} (hl : pm_ld τ l P) (h6 : l 0 2 ≤ 6) (hn : n ≤ 9999) (hmb : ∀ k, k < 64 → F_X11_milesBy τ (nI k) = some (nI (mb k), τ) ∧ mb k < 2 ^ 20) : ∀ (c fuel k : Nat) (b : Option Nat), k + c = 2 ^ l 0 2 → c < fuel → (∀ j, b = some j → j < 64) → L_X11_coat_18 fuel τ (nI n) (oI b) (nI k) = some (oI (g_cl mb n c k b), τ)
  | 0, fuel + 1, k, b, hk, hf, hb => by
    have hp : 2 ^ l 0 2 ≤ 2 ^ 6 := Nat.pow_le_pow_right (by omega) h6
    show S_X11_coat_18 _ τ (nI n) (oI b) (nI k) = _
    unfold S_X11_coat_18 F_X11_sheepMany
    dsimp only [Option.bind]
    rw [hl.2.2.1, pz_shl (by omega), if_pos (nI_le (by omega) (by omega))]
    rfl
  | c + 1, fuel + 1, k, b, hk, hf, hb => by
    have hp : 2 ^ l 0 2 ≤ 2 ^ 6 := Nat.pow_le_pow_right (by omega) h6
    obtain ⟨m1, m2⟩ := hmb k (by omega)
    show S_X11_coat_18 _ τ (nI n) (oI b) (nI k) = _
    unfold S_X11_coat_18 S_X11_coat_80 S_X11_coat_84 S_X11_coat_85 S_X11_coat_94 F_X11_sheepMany g_cl g_cst
    dsimp only [Option.bind]
    rw [hl.2.2.1, pz_shl (by omega), if_neg (nI_ge (by omega) (by omega)), m1]
    dsimp only
    rw [nI_1]
    by_cases h : mb k < n
    · rw [if_neg (nI_ge h (by omega)), if_pos h]
      exact pm_cl hl h6 hn hmb c fuel (k + 1) b (by omega) (by omega) hb
    · rw [if_pos (nI_le (by omega) (by omega)), if_neg h]
      cases b with
      | none =>
        rw [if_pos (by rfl), if_neg pz_10]
        exact pm_cl hl h6 hn hmb c fuel (k + 1) (some k) (by omega) (by omega) (fun j hj => by cases hj; omega)
      | some j =>
        have j64 := hb j rfl
        obtain ⟨m3, m4⟩ := hmb j j64
        have p1 : g_pc k ≤ 10 := by unfold g_pc; exact Nat.le_trans (List.length_filter_le _ _) (by simp)
        have p2 : g_pc j ≤ 10 := by unfold g_pc; exact Nat.le_trans (List.length_filter_le _ _) (by simp)
        rw [if_neg (by exact pz_nm1 (by omega)), show oI (some j) = nI j from rfl, pm_bits (by omega)]
        dsimp only
        rw [pm_bits (by omega)]
        dsimp only
        rw [pm_bits (by omega)]
        dsimp only
        rw [pm_bits (by omega)]
        dsimp only
        rw [m1]
        dsimp only
        rw [m3]
        dsimp only
        by_cases h1 : g_pc k < g_pc j
        · rw [if_pos (nI_lt h1 (by omega)), if_neg pz_10, if_pos (Or.inl h1)]
          exact pm_cl hl h6 hn hmb c fuel (k + 1) (some k) (by omega) (by omega) (fun i hi => by cases hi; omega)
        · rw [if_neg (nI_nlt (by omega) (by omega))]
          by_cases h2 : g_pc k = g_pc j
          · rw [if_pos (by rw [h2])]
            by_cases h3 : mb k < mb j
            · rw [if_neg (nI_ge h3 (by omega)), if_neg pz_10, if_pos (Or.inr ⟨h2, h3⟩)]
              exact pm_cl hl h6 hn hmb c fuel (k + 1) (some k) (by omega) (by omega) (fun i hi => by cases hi; omega)
            · rw [if_pos (nI_le (by omega) (by omega)), if_pos rfl, if_neg (by omega)]
              exact pm_cl hl h6 hn hmb c fuel (k + 1) (some j) (by omega) (by omega) hb
          · rw [if_neg (by rw [nI_eq (by omega) (by omega)]; exact h2), if_pos rfl, if_neg (by omega)]
            exact pm_cl hl h6 hn hmb c fuel (k + 1) (some j) (by omega) (by omega) hb
theorem op_19 : ll_19 RR := by
  intro x m hR a
  obtain ⟨w, l, P, nm, D, U, F, T, sd, rf, ft, im, hG, hX, hM⟩ := hR
  have hR : RR x m := ⟨w, l, P, nm, D, U, F, T, sd, rf, ft, im, hG, hX, hM⟩
  have g2 := hG.1.2.2.1
  have hv : ∀ i, 0 ≤ i → i < 0 + l 0 2 → (fun s => D.2.1 s 1) i ≤ 999 := fun i _ hi => (hG.2.2.1.2.2.2.1 i (by omega)).1.2.2.1
  have hb : ∀ k, g_mb (fun s => D.2.1 s 1) k (l 0 2) 0 0 < 2 ^ 20 := fun k => by
    have := g_mb_le (v := fun s => D.2.1 s 1) (set := k) (l 0 2) 0 0 hv
    have h2 : l 0 2 * 999 ≤ 6 * 999 := Nat.mul_le_mul_right _ g2
    omega
  have hp : 2 ^ l 0 2 ≤ 2 ^ 6 := Nat.pow_le_pow_right (by omega) g2
  have hp0 : 0 < 2 ^ l 0 2 := Nat.pow_pos (by omega)
  have ex : ∀ n, n ≤ 9999 → F_X1_leastCoat x (nI n) = some (oI (g_cl (fun k => g_mb (fun s => D.2.1 s 1) k (l 0 2) 0 0) n (2 ^ l 0 2 - 1) 1 none), x) := fun n hn => by
    have := px_cl (mb := fun k => g_mb (fun s => D.2.1 s 1) k (l 0 2) 0 0) hX.1 g2 hn (fun k hk => ⟨px_mbl hX.1 hX.2.2.2.1 g2 (by omega) (l 0 2) sw_fuel 0 0 (by omega) (by have := sw_fuel_ge; omega), hb k⟩) (2 ^ l 0 2 - 1) sw_fuel 1 none 0 (by omega) (by have := sw_fuel_ge; omega) (fun j hj => by cases hj)
    exact this
  have em : ∀ n, 1 ≤ n → n ≤ 9999 → L_X11_coat_18 sw_fuel m (nI n) (-1) 0 = some (oI (g_cl (fun k => g_mb (fun s => D.2.1 s 1) k (l 0 2) 0 0) n (2 ^ l 0 2 - 1) 1 none), m) := fun n hn1 hn => by
    have := pm_cl (mb := fun k => g_mb (fun s => D.2.1 s 1) k (l 0 2) 0 0) hM.1 g2 hn (fun k hk => ⟨pm_mbl hM.1 hM.2.2.1 g2 (by omega) (l 0 2) sw_fuel 0 0 (by omega) (by have := sw_fuel_ge; omega), hb k⟩) (2 ^ l 0 2) sw_fuel 0 none (by omega) (by have := sw_fuel_ge; omega) (fun j hj => by cases hj)
    rw [show 2 ^ l 0 2 = (2 ^ l 0 2 - 1) + 1 by omega] at this
    unfold g_cl g_cst at this
    rw [if_pos (by show g_mb (fun s => D.2.1 s 1) 0 (l 0 2) 0 0 < n; rw [g_mb_0]; omega)] at this
    exact this
  unfold F_X10_coat F_X11_coat S_X10_coat_12 S_X10_coat_24
  rw [pm_isIn, px_wide, show (1 : Int64).toInt = 1 from by decide, show (9999 : Int64).toInt = 9999 from by decide]
  dsimp only [Option.bind]
  have l1 : (1 : Int32).toInt = 1 := by decide
  have l9 : (9999 : Int32).toInt = 9999 := by decide
  by_cases h1 : a < 1
  · have h1' := h1
    rw [fa_lt, l1] at h1'
    rw [if_pos h1, if_neg (show ¬ ((1 : Int) ≤ a.toInt ∧ a.toInt ≤ 9999) by omega), if_pos rfl]
    exact ⟨-1, x, m, rfl, rfl, hR⟩
  · have h1' := h1
    rw [fa_lt, l1] at h1'
    rw [if_neg h1]
    by_cases h2 : a ≤ 9999
    · have h2' := h2
      rw [fa_le, l9] at h2'
      rw [if_pos h2, if_pos (show (1 : Int) ≤ a.toInt ∧ a.toInt ≤ 9999 by omega), if_neg pz_10]
      obtain ⟨n, hn, rfl⟩ := nI_of (x := a) (by rw [fa_lt, show (0 : Int32).toInt = 0 from by decide]; omega)
      rw [nI_toInt hn] at h1' h2'
      rw [ex n (by omega), em n (by omega) (by omega)]
      exact ⟨_, x, m, rfl, rfl, hR⟩
    · have h2' := h2
      rw [fa_le, l9] at h2'
      rw [if_neg h2, if_neg (show ¬ ((1 : Int) ≤ a.toInt ∧ a.toInt ≤ 9999) by omega), if_pos rfl]
      exact ⟨-1, x, m, rfl, rfl, hR⟩

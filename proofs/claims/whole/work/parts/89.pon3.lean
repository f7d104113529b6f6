/-! An image comes in: the reference looks at it. -/
theorem pm_two {τ : sw_St} {t : Nat → Nat} {Ln p : Nat} (hL : Ln ≤ 1600) (hb : ∀ i, i < Ln → τ.1 1 i = nI (t i)) (hp : p + 1 < Ln) : F_X11_twoAt τ (nI p) = some (nI (256 * t p + t (p + 1)), τ) := by
  unfold F_X11_twoAt
  rw [nI_1, if_pos (pz_inb (by omega) (by omega)), if_pos (pz_inb (by omega) (by omega)), nI_clamp (by omega), nI_clamp (by omega), hb p (by omega), hb (p + 1) hp, show (256 : Int32) = nI 256 from rfl, pk_mul, nI_add]
theorem pm_i56 {τ : sw_St} {t : Nat → Nat} {Ln B : Nat} {l : Nat → Nat → Nat} {P : Nat → List Nat} (ht : ∀ i, t i < 256) (hL : Ln ≤ 1600) (hg : g_ld l P) (hl : pm_ld τ l P) (hb : ∀ i, i < Ln → τ.1 1 i = nI (t i)) (hB : B + 5 + l 0 0 ≤ Ln) : ∀ (n fuel j : Nat), j + n = l 0 0 → n < fuel → L_X11_isSheepTold_56 fuel τ (nI B) (nI j) = some (g_ok1 (g_all (fun i => decide (t (B + 5 + i) ≤ 99)) n j), τ)
  | 0, fuel + 1, j, hj, hf => by
    have h8 := hg.1
    show S_X11_isSheepTold_56 _ τ (nI B) (nI j) = _
    unfold S_X11_isSheepTold_56 F_X11_fieldMany
    dsimp only [Option.bind]
    rw [hl.1, if_pos (nI_le (by omega) (by omega))]
    rfl
  | n + 1, fuel + 1, j, hj, hf => by
    have h8 := hg.1
    have h1 := ht (B + 5 + j)
    show S_X11_isSheepTold_56 _ τ (nI B) (nI j) = _
    unfold S_X11_isSheepTold_56 F_X11_fieldMany
    dsimp only [Option.bind]
    rw [hl.1, if_neg (nI_ge (by omega) (by omega)), show nI B + 5 + nI j = nI (B + 5 + j) from by rw [show (5 : Int32) = nI 5 from rfl, nI_add, nI_add], if_pos (pz_inb (show B + 5 + j < 1600 by omega) (by omega)), nI_clamp (show B + 5 + j < 2 ^ 31 by omega), hb _ (by omega), g_all_s, nI_1]
    (try dsimp only)
    by_cases e : t (B + 5 + j) ≤ 99
    · rw [if_pos (show nI (t (B + 5 + j)) ≤ (99 : Int32) from nI_le (b := 99) e (by omega)), decide_eq_true e, Bool.true_and]
      exact pm_i56 ht hL hg hl hb hB n fuel (j + 1) (by omega) (by omega)
    · rw [if_neg (show ¬ nI (t (B + 5 + j)) ≤ (99 : Int32) from nI_ge (a := 99) (by omega) (by omega)), decide_eq_false e, Bool.false_and]
      rfl
theorem g_inN {b n : Nat} (hb : b < 2 ^ 31) : g_in (nI b) n = decide (b < n) := by
  unfold g_in
  rw [nI_toInt hb]
  by_cases h : b < n
  · rw [decide_eq_true h]
    exact decide_eq_true (by omega)
  · rw [decide_eq_false h]
    exact decide_eq_false (by omega)
theorem pm_shTold {τ : sw_St} {t : Nat → Nat} {Ln B : Nat} {l : Nat → Nat → Nat} {P : Nat → List Nat} (ht : ∀ i, t i < 256) (hL : Ln ≤ 1600) (hg : g_ld l P) (hl : pm_ld τ l P) (hb : ∀ i, i < Ln → τ.1 1 i = nI (t i)) (hB : B + 5 + l 0 0 ≤ Ln) (hf0 : 0 < l 0 0) : F_X11_isSheepTold τ (nI B) = some (g_ok1 (g_sok l t B), τ) := by
  have h8 := hg.1
  have hfu := sw_fuel_ge
  have b0 := ht B
  have b1 := ht (B + 1)
  have b2 := ht (B + 2)
  have b3 := ht (B + 3)
  have b4 := ht (B + 4)
  unfold F_X11_isSheepTold S_X11_isSheepTold_52
  rw [if_pos (pz_inb (by omega) (by omega)), nI_clamp (by omega), hb B (by omega), pm_isField hg hl, g_inN (by omega)]
  dsimp only [Option.bind]
  unfold g_sok
  by_cases e0 : t B < l 0 0
  · rw [if_pos (decide_eq_true e0), if_neg pz_10, nI_1, pm_two hL hb (by omega), decide_eq_true (show t B ≤ l 0 0 - 1 by omega), Bool.true_and]
    dsimp only
    by_cases e1 : 256 * t (B + 1) + t (B + 2) ≤ 999
    · rw [if_neg (show ¬ (999 : Int32) < nI (256 * t (B + 1) + t (B + 1 + 1)) from by rw [fa_lt, nI_toInt (show 256 * t (B + 1) + t (B + 2) < 2 ^ 31 by omega), show (999 : Int32).toInt = 999 from by decide]; omega), decide_eq_true e1, Bool.true_and, show nI B + 3 = nI (B + 3) from nI_add B 3, show nI B + 4 = nI (B + 4) from nI_add B 4, if_pos (pz_inb (show B + 3 < 1600 by omega) (by omega)), nI_clamp (show B + 3 < 2 ^ 31 by omega), hb _ (by omega)]
      by_cases e2 : t (B + 3) ≤ 63
      · rw [if_neg (show ¬ (64 : Int32) ≤ nI (t (B + 3)) from nI_ge (b := 64) (by omega) (by omega)), decide_eq_true e2, Bool.true_and, if_pos (pz_inb (show B + 4 < 1600 by omega) (by omega)), nI_clamp (show B + 4 < 2 ^ 31 by omega), hb _ (by omega)]
        by_cases e3 : t (B + 4) ≤ 1
        · rw [if_pos (show nI (t (B + 4)) ≤ (1 : Int32) from nI_le (b := 1) e3 (by omega)), decide_eq_true e3, Bool.true_and]
          exact pm_i56 ht hL hg hl hb hB (l 0 0) sw_fuel 0 (by omega) (by omega)
        · rw [if_neg (show ¬ nI (t (B + 4)) ≤ (1 : Int32) from nI_ge (a := 1) (by omega) (by omega)), decide_eq_false e3, Bool.false_and]
          rfl
      · rw [if_pos (show (64 : Int32) ≤ nI (t (B + 3)) from nI_le (a := 64) (by omega) (by omega)), decide_eq_false e2, Bool.false_and, Bool.false_and]
        rfl
    · rw [if_pos (show (999 : Int32) < nI (256 * t (B + 1) + t (B + 1 + 1)) from by rw [fa_lt, nI_toInt (show 256 * t (B + 1) + t (B + 2) < 2 ^ 31 by omega), show (999 : Int32).toInt = 999 from by decide]; omega), decide_eq_false e1, Bool.false_and, Bool.false_and, Bool.false_and]
      rfl
  · rw [if_pos (show (if decide (t B < l 0 0) = true then (1 : Int32) else 0) = 0 from by rw [decide_eq_false e0]; rfl), decide_eq_false (show ¬ t B ≤ l 0 0 - 1 by omega), Bool.false_and, Bool.false_and, Bool.false_and, Bool.false_and]
    rfl
theorem pm_i115 {τ : sw_St} {t : Nat → Nat} {Ln : Nat} {l : Nat → Nat → Nat} {P : Nat → List Nat} (ht : ∀ i, t i < 256) (hL : Ln ≤ 1600) (hg : g_ld l P) (hl : pm_ld τ l P) (hb : ∀ i, i < Ln → τ.1 1 i = nI (t i)) (hpL : g_bs l (l 0 2) ≤ Ln) : ∀ (n fuel s : Nat), s + n = l 0 2 → n < fuel → L_X11_isImage_115 fuel τ (nI (5 + l 0 1)) (nI (5 + l 0 0)) (nI s) = some (g_ok1 (g_all (fun u => g_sok l t (g_bs l u)) n s), τ)
  | 0, fuel + 1, s, hs, hf => by
    have h6 := hg.2.2.1
    show S_X11_isImage_115 _ τ (nI (5 + l 0 1)) (nI (5 + l 0 0)) (nI s) = _
    unfold S_X11_isImage_115 F_X11_sheepMany
    dsimp only [Option.bind]
    rw [hl.2.2.1, if_pos (nI_le (by omega) (by omega))]
    rfl
  | n + 1, fuel + 1, s, hs, hf => by
    have h6 := hg.2.2.1
    have hs2 : s < l 0 2 := by omega
    have hf0 : 0 < l 0 0 := by have := (hg.2.2.2.2.2.2.1 s hs2).1; omega
    have hBn : g_bs l s + (5 + l 0 0) = g_bs l (s + 1) := by unfold g_bs; rw [Nat.succ_mul]; omega
    have hB2 : g_bs l (s + 1) ≤ g_bs l (l 0 2) := by unfold g_bs; have := Nat.mul_le_mul_right (5 + l 0 0) (show s + 1 ≤ l 0 2 by omega); omega
    show S_X11_isImage_115 _ τ (nI (5 + l 0 1)) (nI (5 + l 0 0)) (nI s) = _
    unfold S_X11_isImage_115 F_X11_sheepMany
    dsimp only [Option.bind]
    rw [hl.2.2.1, if_neg (nI_ge hs2 (by omega)), show nI (5 + l 0 1) + nI (5 + l 0 0) * nI s = nI (g_bs l s) from by rw [pk_mul, nI_add, Nat.mul_comm]; rfl, pm_shTold ht hL hg hl hb (by omega) hf0, g_all_s, nI_1]
    dsimp only
    cases hk : g_sok l t (g_bs l s)
    · rw [Bool.false_and, if_pos (show g_ok1 false = 0 from rfl)]
      rfl
    · rw [Bool.true_and, if_neg (show ¬ g_ok1 true = 0 from pz_10)]
      exact pm_i115 ht hL hg hl hb hpL n fuel (s + 1) (by omega) (by omega)
theorem pm_i87 {τ : sw_St} {t : Nat → Nat} {Ln : Nat} {l : Nat → Nat → Nat} {P : Nat → List Nat} {x3 : Int32} (ht : ∀ i, t i < 256) (hL : Ln ≤ 1600) (hg : g_ld l P) (hb : ∀ i, i < Ln → τ.1 1 i = nI (t i)) (hpL : 5 + l 0 1 ≤ Ln) : ∀ (n fuel k : Nat), k + n = l 0 1 → n < fuel → L_X11_isImage_87 fuel τ (nI (5 + l 0 1)) x3 (nI (5 + k)) = if g_gok t n k = true then L_X11_isImage_115 sw_fuel τ (nI (5 + l 0 1)) x3 (nI 0) else some (0, τ)
  | 0, fuel + 1, k, hk, hf => by
    have h10 := hg.2.1
    show S_X11_isImage_87 _ τ (nI (5 + l 0 1)) x3 (nI (5 + k)) = _
    unfold S_X11_isImage_87
    rw [if_pos (nI_le (by omega) (by omega)), if_pos (show g_gok t 0 k = true from rfl)]
    rfl
  | n + 1, fuel + 1, k, hk, hf => by
    have h10 := hg.2.1
    have h1 := ht (5 + k)
    have es : g_gok t (n + 1) k = (decide (t (5 + k) ≤ 1) && g_gok t n (k + 1)) := rfl
    show S_X11_isImage_87 _ τ (nI (5 + l 0 1)) x3 (nI (5 + k)) = _
    unfold S_X11_isImage_87
    rw [if_neg (nI_ge (show 5 + k < 5 + l 0 1 by omega) (by omega)), if_pos (pz_inb (show 5 + k < 1600 by omega) (by omega)), nI_clamp (show 5 + k < 2 ^ 31 by omega), hb _ (by omega), nI_1, es]
    by_cases e : t (5 + k) ≤ 1
    · rw [if_pos (show nI (t (5 + k)) ≤ (1 : Int32) from nI_le (b := 1) e (by omega)), decide_eq_true e, Bool.true_and]
      exact pm_i87 ht hL hg hb hpL n fuel (k + 1) (by omega) (by omega)
    · rw [if_neg (show ¬ nI (t (5 + k)) ≤ (1 : Int32) from nI_ge (a := 1) (by omega) (by omega)), decide_eq_false e, Bool.false_and, if_neg (by decide)]

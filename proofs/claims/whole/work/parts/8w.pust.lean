/-! The upland stands: the reference. -/
theorem pm_cy28 : ∀ (k fuel i : Nat) (τ : sw_St), i + k = 4 → k < fuel → ∃ τ', L_X11_stands_2 fuel τ (nI i) = L_X11_stands_29 sw_fuel τ' 0 ∧ (∀ x, i ≤ x → x < 4 → τ'.1 28 (4 + x) = τ.1 28 x) ∧ (∀ y, (y < 4 + i ∨ 4 + 4 ≤ y) → τ'.1 28 y = τ.1 28 y) ∧ pm_sm [28] [] τ τ'
  | 0, fuel + 1, i, τ, hi, hf => by
    refine ⟨τ, ?_, fun x h1 h2 => by omega, fun y _ => rfl, pm_sm.refl _ _ _⟩
    show S_X11_stands_2 _ τ (nI i) = _
    unfold S_X11_stands_2
    rw [if_pos (show (4 : Int32) ≤ nI i from nI_le (a := 4) (by omega) (by omega))]
  | k + 1, fuel + 1, i, τ, hi, hf => by
    obtain ⟨τ', p1, p2, p3, p4⟩ := pm_cy28 k fuel (i + 1) (sw_uI τ 28 (4 + i) (τ.1 28 i)) (by omega) (by omega)
    refine ⟨τ', ?_, fun x h1 h2 => ?_, fun y hy => ?_, ((pm_sm.refl _ _ τ).I (by decide) (by decide) _ _).trans p4⟩
    · show S_X11_stands_2 _ τ (nI i) = _
      unfold S_X11_stands_2
      rw [if_neg (show ¬ (4 : Int32) ≤ nI i from nI_ge (b := 4) (by omega) (by omega)), if_pos (pz_inb (n := i) (N := 8) (by omega) (by omega)), show (4 : Int32) + nI i = nI (4 + i) from nI_add 4 _, if_pos (pz_inb (n := 4 + i) (N := 8) (by omega) (by omega)), nI_clamp (show 4 + i < 2 ^ 31 by omega), nI_clamp (show i < 2 ^ 31 by omega), nI_1]
      exact p1
    · by_cases d : x = i
      · rw [d, p3 (4 + i) (by omega), pz_Ie rfl rfl]
      · rw [p2 x (by omega) h2, pz_Ik (by omega)]
    · rw [p3 y (by omega), pz_Ik (by omega)]
theorem pm_cy30 : ∀ (k fuel i : Nat) (τ : sw_St), i + k = 8 → k < fuel → ∃ τ', L_X11_stands_99 fuel τ (nI i) = L_X11_stands_128 sw_fuel τ' 0 ∧ (∀ x, i ≤ x → x < 8 → τ'.1 30 (8 + x) = τ.1 30 x) ∧ (∀ y, (y < 8 + i ∨ 8 + 8 ≤ y) → τ'.1 30 y = τ.1 30 y) ∧ pm_sm [30] [] τ τ'
  | 0, fuel + 1, i, τ, hi, hf => by
    refine ⟨τ, ?_, fun x h1 h2 => by omega, fun y _ => rfl, pm_sm.refl _ _ _⟩
    show S_X11_stands_99 _ τ (nI i) = _
    unfold S_X11_stands_99
    rw [if_pos (show (8 : Int32) ≤ nI i from nI_le (a := 8) (by omega) (by omega))]
  | k + 1, fuel + 1, i, τ, hi, hf => by
    obtain ⟨τ', p1, p2, p3, p4⟩ := pm_cy30 k fuel (i + 1) (sw_uI τ 30 (8 + i) (τ.1 30 i)) (by omega) (by omega)
    refine ⟨τ', ?_, fun x h1 h2 => ?_, fun y hy => ?_, ((pm_sm.refl _ _ τ).I (by decide) (by decide) _ _).trans p4⟩
    · show S_X11_stands_99 _ τ (nI i) = _
      unfold S_X11_stands_99
      rw [if_neg (show ¬ (8 : Int32) ≤ nI i from nI_ge (b := 8) (by omega) (by omega)), if_pos (pz_inb (n := i) (N := 16) (by omega) (by omega)), show (8 : Int32) + nI i = nI (8 + i) from nI_add 8 _, if_pos (pz_inb (n := 8 + i) (N := 16) (by omega) (by omega)), nI_clamp (show 8 + i < 2 ^ 31 by omega), nI_clamp (show i < 2 ^ 31 by omega), nI_1]
      exact p1
    · by_cases d : x = i
      · rw [d, p3 (8 + i) (by omega), pz_Ie rfl rfl]
      · rw [p2 x (by omega) h2, pz_Ik (by omega)]
    · rw [p3 y (by omega), pz_Ik (by omega)]
theorem pm_cy31 : ∀ (k fuel i : Nat) (τ : sw_St), i + k = 30 → k < fuel → ∃ τ', L_X11_stands_128 fuel τ (nI i) = L_X11_stands_157 sw_fuel τ' 0 ∧ (∀ x, i ≤ x → x < 30 → τ'.1 31 (30 + x) = τ.1 31 x) ∧ (∀ y, (y < 30 + i ∨ 30 + 30 ≤ y) → τ'.1 31 y = τ.1 31 y) ∧ pm_sm [31] [] τ τ'
  | 0, fuel + 1, i, τ, hi, hf => by
    refine ⟨τ, ?_, fun x h1 h2 => by omega, fun y _ => rfl, pm_sm.refl _ _ _⟩
    show S_X11_stands_128 _ τ (nI i) = _
    unfold S_X11_stands_128
    rw [if_pos (show (30 : Int32) ≤ nI i from nI_le (a := 30) (by omega) (by omega))]
  | k + 1, fuel + 1, i, τ, hi, hf => by
    obtain ⟨τ', p1, p2, p3, p4⟩ := pm_cy31 k fuel (i + 1) (sw_uI τ 31 (30 + i) (τ.1 31 i)) (by omega) (by omega)
    refine ⟨τ', ?_, fun x h1 h2 => ?_, fun y hy => ?_, ((pm_sm.refl _ _ τ).I (by decide) (by decide) _ _).trans p4⟩
    · show S_X11_stands_128 _ τ (nI i) = _
      unfold S_X11_stands_128
      rw [if_neg (show ¬ (30 : Int32) ≤ nI i from nI_ge (b := 30) (by omega) (by omega)), if_pos (pz_inb (n := i) (N := 60) (by omega) (by omega)), show (30 : Int32) + nI i = nI (30 + i) from nI_add 30 _, if_pos (pz_inb (n := 30 + i) (N := 60) (by omega) (by omega)), nI_clamp (show 30 + i < 2 ^ 31 by omega), nI_clamp (show i < 2 ^ 31 by omega), nI_1]
      exact p1
    · by_cases d : x = i
      · rw [d, p3 (30 + i) (by omega), pz_Ie rfl rfl]
      · rw [p2 x (by omega) h2, pz_Ik (by omega)]
    · rw [p3 y (by omega), pz_Ik (by omega)]
theorem pm_cy33 : ∀ (k fuel i : Nat) (τ : sw_St), i + k = 12 → k < fuel → ∃ τ', L_X11_stands_157 fuel τ (nI i) = L_X11_stands_186 sw_fuel τ' 0 ∧ (∀ x, i ≤ x → x < 12 → τ'.1 33 (12 + x) = τ.1 33 x) ∧ (∀ y, (y < 12 + i ∨ 12 + 12 ≤ y) → τ'.1 33 y = τ.1 33 y) ∧ pm_sm [33] [] τ τ'
  | 0, fuel + 1, i, τ, hi, hf => by
    refine ⟨τ, ?_, fun x h1 h2 => by omega, fun y _ => rfl, pm_sm.refl _ _ _⟩
    show S_X11_stands_157 _ τ (nI i) = _
    unfold S_X11_stands_157
    rw [if_pos (show (12 : Int32) ≤ nI i from nI_le (a := 12) (by omega) (by omega))]
  | k + 1, fuel + 1, i, τ, hi, hf => by
    obtain ⟨τ', p1, p2, p3, p4⟩ := pm_cy33 k fuel (i + 1) (sw_uI τ 33 (12 + i) (τ.1 33 i)) (by omega) (by omega)
    refine ⟨τ', ?_, fun x h1 h2 => ?_, fun y hy => ?_, ((pm_sm.refl _ _ τ).I (by decide) (by decide) _ _).trans p4⟩
    · show S_X11_stands_157 _ τ (nI i) = _
      unfold S_X11_stands_157
      rw [if_neg (show ¬ (12 : Int32) ≤ nI i from nI_ge (b := 12) (by omega) (by omega)), if_pos (pz_inb (n := i) (N := 24) (by omega) (by omega)), show (12 : Int32) + nI i = nI (12 + i) from nI_add 12 _, if_pos (pz_inb (n := 12 + i) (N := 24) (by omega) (by omega)), nI_clamp (show 12 + i < 2 ^ 31 by omega), nI_clamp (show i < 2 ^ 31 by omega), nI_1]
      exact p1
    · by_cases d : x = i
      · rw [d, p3 (12 + i) (by omega), pz_Ie rfl rfl]
      · rw [p2 x (by omega) h2, pz_Ik (by omega)]
    · rw [p3 y (by omega), pz_Ik (by omega)]
theorem pm_cy34 : ∀ (k fuel i : Nat) (τ : sw_St), i + k = 3 → k < fuel → ∃ τ', L_X11_stands_29 fuel τ (nI i) = L_X11_stands_70 sw_fuel τ' 0 ∧ (∀ x, i ≤ x → x < 3 → τ'.1 34 (3 + x) = τ.1 34 x ∧ τ'.1 35 (3 + x) = τ.1 35 x) ∧ (∀ y, (y < 3 + i ∨ 6 ≤ y) → τ'.1 34 y = τ.1 34 y ∧ τ'.1 35 y = τ.1 35 y) ∧ pm_sm [34, 35] [] τ τ'
  | 0, fuel + 1, i, τ, hi, hf => by
    refine ⟨τ, ?_, fun x h1 h2 => by omega, fun y _ => ⟨rfl, rfl⟩, pm_sm.refl _ _ _⟩
    show S_X11_stands_29 _ τ (nI i) = _
    unfold S_X11_stands_29
    rw [if_pos (show (3 : Int32) ≤ nI i from nI_le (a := 3) (by omega) (by omega))]
  | k + 1, fuel + 1, i, τ, hi, hf => by
    obtain ⟨τ', p1, p2, p3, p4⟩ := pm_cy34 k fuel (i + 1) (sw_uI (sw_uI τ 34 (3 + i) (τ.1 34 i)) 35 (3 + i) (τ.1 35 i)) (by omega) (by omega)
    refine ⟨τ', ?_, fun x h1 h2 => ?_, fun y hy => ?_, (((pm_sm.refl _ _ τ).I (by decide) (by decide) _ _).I (by decide) (by decide) _ _).trans p4⟩
    · show S_X11_stands_29 _ τ (nI i) = _
      unfold S_X11_stands_29
      rw [if_neg (show ¬ (3 : Int32) ≤ nI i from nI_ge (b := 3) (by omega) (by omega)), if_pos (pz_inb (n := i) (N := 6) (by omega) (by omega)), show (3 : Int32) + nI i = nI (3 + i) from nI_add 3 _, if_pos (pz_inb (n := 3 + i) (N := 6) (by omega) (by omega)), if_pos (pz_inb (n := i) (N := 6) (by omega) (by omega)), if_pos (pz_inb (n := 3 + i) (N := 6) (by omega) (by omega)), nI_clamp (show 3 + i < 2 ^ 31 by omega), nI_clamp (show i < 2 ^ 31 by omega), nI_1]
      exact p1
    · by_cases d : x = i
      · have := p3 (3 + i) (by omega)
        rw [d, this.1, this.2, pz_Io (by decide), pz_Ie rfl rfl, pz_Ie rfl rfl]
        exact ⟨rfl, rfl⟩
      · have := p2 x (by omega) h2
        rw [this.1, this.2, pz_Io (by decide), pz_Ik (by omega), pz_Ik (by omega), pz_Io (by decide)]
        exact ⟨rfl, rfl⟩
    · have := p3 y (by omega)
      rw [this.1, this.2, pz_Io (by decide), pz_Ik (by omega), pz_Ik (by omega), pz_Io (by decide)]
      exact ⟨rfl, rfl⟩
theorem pm_cy29 : ∀ (k fuel i : Nat) (τ : sw_St), i + k = 16 → k < fuel → ∃ τ', L_X11_stands_70 fuel τ (nI i) = L_X11_stands_99 sw_fuel τ' 0 ∧ (∀ x, i ≤ x → x < 16 → τ'.2.1 29 (16 + x) = τ.2.1 29 x) ∧ (∀ y, (y < 16 + i ∨ 32 ≤ y) → τ'.2.1 29 y = τ.2.1 29 y) ∧ pm_sm [29] [] τ τ' ∧ τ'.1 = τ.1
  | 0, fuel + 1, i, τ, hi, hf => by
    refine ⟨τ, ?_, fun x h1 h2 => by omega, fun y _ => rfl, pm_sm.refl _ _ _, rfl⟩
    show S_X11_stands_70 _ τ (nI i) = _
    unfold S_X11_stands_70
    rw [if_pos (show (16 : Int32) ≤ nI i from nI_le (a := 16) (by omega) (by omega))]
  | k + 1, fuel + 1, i, τ, hi, hf => by
    obtain ⟨τ', p1, p2, p3, p4, p5⟩ := pm_cy29 k fuel (i + 1) (sw_uL τ 29 (16 + i) (τ.2.1 29 i)) (by omega) (by omega)
    refine ⟨τ', ?_, fun x h1 h2 => ?_, fun y hy => ?_, ((pm_sm.refl _ _ τ).L (by decide) (by decide) _ _).trans p4, p5⟩
    · show S_X11_stands_70 _ τ (nI i) = _
      unfold S_X11_stands_70
      rw [if_neg (show ¬ (16 : Int32) ≤ nI i from nI_ge (b := 16) (by omega) (by omega)), if_pos (pz_inb (n := i) (N := 32) (by omega) (by omega)), show (16 : Int32) + nI i = nI (16 + i) from nI_add 16 _, if_pos (pz_inb (n := 16 + i) (N := 32) (by omega) (by omega)), nI_clamp (show 16 + i < 2 ^ 31 by omega), nI_clamp (show i < 2 ^ 31 by omega), nI_1]
      exact p1
    · by_cases d : x = i
      · rw [d, p3 (16 + i) (by omega), pz_Le rfl rfl]
      · rw [p2 x (by omega) h2, pz_Lk (by omega)]
    · rw [p3 y (by omega), pz_Lk (by omega)]
theorem pm_cy36 {n : Nat} (hn : n ≤ 1600) : ∀ (k fuel i : Nat) (τ : sw_St), τ.1 0 46 = nI n → i + k = n → k < fuel → ∃ τ', L_X11_stands_186 fuel τ (nI i) = L_X11_stands_218 sw_fuel τ' 0 ∧ (∀ x, i ≤ x → x < n → τ'.1 36 (1600 + x) = τ.1 36 x) ∧ (∀ y, (y < 1600 + i ∨ 1600 + n ≤ y) → τ'.1 36 y = τ.1 36 y) ∧ pm_sm [36] [] τ τ'
  | 0, fuel + 1, i, τ, h46, hi, hf => by
    refine ⟨τ, ?_, fun x h1 h2 => by omega, fun y _ => rfl, pm_sm.refl _ _ _⟩
    show S_X11_stands_186 _ τ (nI i) = _
    unfold S_X11_stands_186
    rw [h46, if_pos (nI_le (by omega) (by omega))]
  | k + 1, fuel + 1, i, τ, h46, hi, hf => by
    obtain ⟨τ', p1, p2, p3, p4⟩ := pm_cy36 hn k fuel (i + 1) (sw_uI τ 36 (1600 + i) (τ.1 36 i)) (by rw [pz_Io (by decide)]; exact h46) (by omega) (by omega)
    refine ⟨τ', ?_, fun x h1 h2 => ?_, fun y hy => ?_, ((pm_sm.refl _ _ τ).I (by decide) (by decide) _ _).trans p4⟩
    · show S_X11_stands_186 _ τ (nI i) = _
      unfold S_X11_stands_186
      rw [h46, if_neg (nI_ge (by omega) (by omega)), if_pos (pz_inb (n := i) (N := 3200) (by omega) (by omega)), show (1600 : Int32) + nI i = nI (1600 + i) from nI_add 1600 _, if_pos (pz_inb (n := 1600 + i) (N := 3200) (by omega) (by omega)), nI_clamp (show 1600 + i < 2 ^ 31 by omega), nI_clamp (show i < 2 ^ 31 by omega), nI_1]
      exact p1
    · by_cases d : x = i
      · rw [d, p3 (1600 + i) (by omega), pz_Ie rfl rfl]
      · rw [p2 x (by omega) h2, pz_Ik (by omega)]
    · rw [p3 y (by omega), pz_Ik (by omega)]
theorem pm_z37 : ∀ (k fuel i : Nat) (τ : sw_St), i + k = 245 → k < fuel → ∃ τ', L_X11_stands_218 fuel τ (nI i) = L_X11_stands_240 sw_fuel τ' 0 ∧ (∀ x, i ≤ x → x < 245 → τ'.1 37 x = 0) ∧ (∀ x, x < i → τ'.1 37 x = τ.1 37 x) ∧ pm_sm [37] [] τ τ'
  | 0, fuel + 1, i, τ, hi, hf => by
    refine ⟨τ, ?_, fun x h1 h2 => by omega, fun x _ => rfl, pm_sm.refl _ _ _⟩
    show S_X11_stands_218 _ τ (nI i) = _
    unfold S_X11_stands_218
    rw [if_pos (show (245 : Int32) ≤ nI i from nI_le (a := 245) (by omega) (by omega))]
  | k + 1, fuel + 1, i, τ, hi, hf => by
    obtain ⟨τ', p1, p2, p3, p4⟩ := pm_z37 k fuel (i + 1) (sw_uI τ 37 i 0) (by omega) (by omega)
    refine ⟨τ', ?_, fun x h1 h2 => ?_, fun x hx => ?_, ((pm_sm.refl _ _ τ).I (by decide) (by decide) _ _).trans p4⟩
    · show S_X11_stands_218 _ τ (nI i) = _
      unfold S_X11_stands_218
      rw [if_neg (show ¬ (245 : Int32) ≤ nI i from nI_ge (b := 245) (by omega) (by omega)), if_pos (pz_inb (n := i) (N := 245) (by omega) (by omega)), nI_clamp (show i < 2 ^ 31 by omega), nI_1]
      exact p1
    · by_cases d : x = i
      · rw [d, p3 i (by omega), pz_Ie rfl rfl]
      · exact p2 x (by omega) h2
    · rw [p3 x (by omega), pz_Ik (by omega)]
theorem pm_o37 {n : Nat} (hn : n ≤ 10) : ∀ (k fuel i : Nat) (τ : sw_St), τ.1 28 2 = nI n → i + k = n → k < fuel → ∃ τ', L_X11_stands_240 fuel τ (nI i) = L_X11_stands_272 sw_fuel τ' 0 ∧ (∀ x, i ≤ x → x < n → τ'.1 37 (2 + x) = τ.1 32 x) ∧ (∀ y, (y < 2 + i ∨ 2 + n ≤ y) → τ'.1 37 y = τ.1 37 y) ∧ pm_sm [37] [] τ τ'
  | 0, fuel + 1, i, τ, h28, hi, hf => by
    refine ⟨τ, ?_, fun x h1 h2 => by omega, fun y _ => rfl, pm_sm.refl _ _ _⟩
    show S_X11_stands_240 _ τ (nI i) = _
    unfold S_X11_stands_240
    rw [h28, if_pos (nI_le (by omega) (by omega))]
  | k + 1, fuel + 1, i, τ, h28, hi, hf => by
    obtain ⟨τ', p1, p2, p3, p4⟩ := pm_o37 hn k fuel (i + 1) (sw_uI τ 37 (2 + i) (τ.1 32 i)) (by rw [pz_Io (by decide)]; exact h28) (by omega) (by omega)
    refine ⟨τ', ?_, fun x h1 h2 => ?_, fun y hy => ?_, ((pm_sm.refl _ _ τ).I (by decide) (by decide) _ _).trans p4⟩
    · show S_X11_stands_240 _ τ (nI i) = _
      unfold S_X11_stands_240
      rw [h28, if_neg (nI_ge (by omega) (by omega)), if_pos (pz_inb (n := i) (N := 10) (by omega) (by omega)), show (2 : Int32) + nI i = nI (2 + i) from nI_add 2 _, if_pos (pz_inb (n := 2 + i) (N := 245) (by omega) (by omega)), nI_clamp (show 2 + i < 2 ^ 31 by omega), nI_clamp (show i < 2 ^ 31 by omega), nI_1]
      exact p1
    · by_cases d : x = i
      · rw [d, p3 (2 + i) (by omega), pz_Ie rfl rfl]
      · rw [p2 x (by omega) h2, pz_Io (by decide)]
    · rw [p3 y (by omega), pz_Ik (by omega)]
/-- a sheep's first row -/
def u_r (h j : Nat) : Nat := if j = 0 then h else if j = 4 + h then 1 else 0
/-- an upland's first state -/
def u_D (u : g_U) : g_D := (fun j => if j = 2 then u.2.2.2.1 else 0, fun s => u_r (u.1 3 (2 * s)), [])
theorem pm_s37 {n : Nat} {h : Nat → Nat} (hn : n ≤ 6) (hh : ∀ s, s < n → h s < 8) : ∀ (k fuel i : Nat) (τ : sw_St), τ.1 28 1 = nI n → (∀ s, s < n → τ.1 33 (2 * s) = nI (h s)) → (∀ s j, s < i → j < 12 → τ.1 37 (12 + 12 * s + j) = nI (u_r (h s) j)) → (∀ x, 12 + 12 * i ≤ x → x < 84 → τ.1 37 x = 0) → i + k = n → k < fuel → ∃ τ', L_X11_stands_272 fuel τ (nI i) = some ((), sw_uI (sw_uI τ' 0 67 0) 0 63 0) ∧ (∀ s j, s < n → j < 12 → τ'.1 37 (12 + 12 * s + j) = nI (u_r (h s) j)) ∧ (∀ y, (y < 12 ∨ 84 ≤ y) → τ'.1 37 y = τ.1 37 y) ∧ pm_sm [37] [] τ τ'
  | 0, fuel + 1, i, τ, h28, h33, hd, hz, hi, hf => by
    refine ⟨τ, ?_, fun s j h1 h2 => hd s j (by omega) h2, fun y _ => rfl, pm_sm.refl _ _ _⟩
    show S_X11_stands_272 _ τ (nI i) = _
    unfold S_X11_stands_272
    rw [h28, if_pos (nI_le (by omega) (by omega))]
  | k + 1, fuel + 1, i, τ, h28, h33, hd, hz, hi, hf => by
    have hhi := hh i (by omega)
    obtain ⟨τ', p1, p2, p3, p4⟩ := pm_s37 hn hh k fuel (i + 1) (sw_uI (sw_uI τ 37 (12 + 12 * i) (nI (h i))) 37 (16 + 12 * i + h i) 1) (by rw [pz_Io (by decide), pz_Io (by decide)]; exact h28) (fun s hs => by rw [pz_Io (by decide), pz_Io (by decide)]; exact h33 s hs) (fun s j h1 h2 => by
      by_cases d : s = i
      · rw [d]
        unfold u_r
        by_cases d1 : j = 0
        · rw [if_pos d1, pz_Ik (by omega), pz_Ie rfl (by omega)]
        · rw [if_neg d1]
          by_cases d2 : j = 4 + h i
          · rw [if_pos d2, pz_Ie rfl (by omega)]
            rfl
          · rw [if_neg d2, pz_Ik (by omega), pz_Ik (by omega), hz _ (by omega) (by omega)]
            rfl
      · rw [pz_Ik (by omega), pz_Ik (by omega)]
        exact hd s j (by omega) h2) (fun x h1 h2 => by rw [pz_Ik (by omega), pz_Ik (by omega)]; exact hz x (by omega) h2) (by omega) (by omega)
    refine ⟨τ', ?_, p2, fun y hy => ?_, (((pm_sm.refl _ _ τ).I (by decide) (by decide) _ _).I (by decide) (by decide) _ _).trans p4⟩
    · show S_X11_stands_272 _ τ (nI i) = _
      unfold S_X11_stands_272
      rw [h28, if_neg (nI_ge (by omega) (by omega)), show (2 : Int32) * nI i = nI (2 * i) from pk_mul 2 _, show (12 : Int32) * nI i = nI (12 * i) from pk_mul 12 _, if_pos (pz_inb (n := 2 * i) (N := 24) (by omega) (by omega)), show (12 : Int32) + nI (12 * i) = nI (12 + 12 * i) from nI_add 12 _, if_pos (pz_inb (n := 12 + 12 * i) (N := 245) (by omega) (by omega)), if_pos (pz_inb (n := 2 * i) (N := 24) (by omega) (by omega)), nI_clamp (show 2 * i < 2 ^ 31 by omega), h33 i (by omega), show (16 : Int32) + nI (12 * i) = nI (16 + 12 * i) from nI_add 16 _, nI_add, if_pos (pz_inb (n := 16 + 12 * i + h i) (N := 245) (by omega) (by omega)), nI_clamp (show 12 + 12 * i < 2 ^ 31 by omega), nI_clamp (show 16 + 12 * i + h i < 2 ^ 31 by omega), nI_1]
      exact p1
    · rw [p3 y hy, pz_Ik (by omega), pz_Ik (by omega)]
theorem pm_stands {τ : sw_St} {u : g_U} {N : Nat} (hu : pu_ok u) (hM : pu_M τ u N) (hN : N ≤ 1600) : ∃ τ', F_X11_stands τ = some ((), τ') ∧ pm_ld τ' u.1 u.2.1 ∧ MN τ' u.1 u.2.2.1 ∧ pm_st τ' 37 0 u.1 (u_D u) ∧ τ'.1 0 67 = nI 0 ∧ τ'.1 0 63 = nI 0 ∧ pm_sm [28, 29, 30, 31, 33, 34, 35, 36, 37] [63, 67] τ τ' := by
  have hfu := sw_fuel_ge
  have l8 := hu.1.1
  have l10 := hu.1.2.1
  have l6 := hu.1.2.2.1
  obtain ⟨⟨a1, a2, a3, a4⟩, b1, b2, b3, b4, b5, b6, n, c1, c2, c3⟩ := hM
  obtain ⟨τ1, p1, p2, p3, p4⟩ := pm_cy28 4 sw_fuel 0 τ (by omega) (by omega)
  obtain ⟨τ2, q1, q2, q3, q4⟩ := pm_cy34 3 sw_fuel 0 τ1 (by omega) (by omega)
  obtain ⟨τ3, r1, r2, r3, r4, r5⟩ := pm_cy29 16 sw_fuel 0 τ2 (by omega) (by omega)
  obtain ⟨τ4, s1, s2, s3, s4⟩ := pm_cy30 8 sw_fuel 0 τ3 (by omega) (by omega)
  obtain ⟨τ5, t1, t2, t3, t4⟩ := pm_cy31 30 sw_fuel 0 τ4 (by omega) (by omega)
  obtain ⟨τ6, v1, v2, v3, v4⟩ := pm_cy33 12 sw_fuel 0 τ5 (by omega) (by omega)
  have m06 : pm_sm [28, 29, 30, 31, 33, 34, 35, 36, 37] [63, 67] τ τ6 := (((((p4.mono (by decide) (by decide)).trans (q4.mono (by decide) (by decide))).trans (r4.mono (by decide) (by decide))).trans (s4.mono (by decide) (by decide))).trans (t4.mono (by decide) (by decide))).trans (v4.mono (by decide) (by decide))
  obtain ⟨τ7, w1, w2, w3, w4⟩ := pm_cy36 (n := n) (by omega) n sw_fuel 0 τ6 (by rw [m06.2.1 46 (by decide)]; exact c1) (by omega) (by omega)
  obtain ⟨τ8, x1, x2, x3, x4⟩ := pm_z37 245 sw_fuel 0 τ7 (by omega) (by omega)
  have e28 : ∀ k, τ8.1 28 k = τ1.1 28 k := fun k => by rw [x4.r (by decide) (by decide), w4.r (by decide) (by decide), v4.r (by decide) (by decide), t4.r (by decide) (by decide), s4.r (by decide) (by decide), r4.r (by decide) (by decide), q4.r (by decide) (by decide)]
  obtain ⟨τ9, y1, y2, y3, y4⟩ := pm_o37 (n := u.1 0 1) l10 (u.1 0 1) sw_fuel 0 τ8 (by rw [e28, p3 2 (by omega)]; exact b1) (by omega) (by omega)
  have e33 : ∀ k, τ9.1 33 k = τ6.1 33 k := fun k => by rw [y4.r (by decide) (by decide), x4.r (by decide) (by decide), w4.r (by decide) (by decide)]
  have f33 : ∀ k, τ5.1 33 k = τ.1 33 k := fun k => by rw [t4.r (by decide) (by decide), s4.r (by decide) (by decide), r4.r (by decide) (by decide), q4.r (by decide) (by decide), p4.r (by decide) (by decide)]
  obtain ⟨τA, z1, z2, z3, z4⟩ := pm_s37 (n := u.1 0 2) (h := fun s => u.1 3 (2 * s)) l6 (fun s hs => by have := (hu.1.2.2.2.2.2.2.1 s hs).1; omega) (u.1 0 2) sw_fuel 0 τ9 (by rw [y4.r (by decide) (by decide), e28, p3 1 (by omega)]; exact a2) (fun s hs => by rw [e33, v3 _ (by omega), f33]; exact b5 _ (by omega)) (fun s j h1 => by omega) (fun x h1 h2 => by rw [y3 x (by omega), x2 x (by omega) (by omega)]) (by omega) (by omega)
  have mA : pm_sm [28, 29, 30, 31, 33, 34, 35, 36, 37] [63, 67] τ τA := (((m06.trans (w4.mono (by decide) (by decide))).trans (x4.mono (by decide) (by decide))).trans (y4.mono (by decide) (by decide))).trans (z4.mono (by decide) (by decide))
  have mB : pm_sm [] [63, 67] τA (sw_uI (sw_uI τA 0 67 0) 0 63 0) := ((pm_sm.refl _ _ τA).K (by decide) _).K (by decide) _
  have rB : ∀ o, o ≠ 0 → ∀ k, (sw_uI (sw_uI τA 0 67 0) 0 63 0).1 o k = τA.1 o k := fun o h0 k => mB.r h0 (by simp) k
  refine ⟨sw_uI (sw_uI τA 0 67 0) 0 63 0, ?_, ?_, ?_, ?_, by rw [pz_Ik (by decide), pz_Ie rfl rfl]; rfl, pz_Ie rfl rfl, mA.trans (mB.mono (by decide) (by decide))⟩
  · unfold F_X11_stands
    rw [show L_X11_stands_2 sw_fuel τ 0 = _ from p1, show L_X11_stands_29 sw_fuel τ1 0 = _ from q1, show L_X11_stands_70 sw_fuel τ2 0 = _ from r1, show L_X11_stands_99 sw_fuel τ3 0 = _ from s1, show L_X11_stands_128 sw_fuel τ4 0 = _ from t1, show L_X11_stands_157 sw_fuel τ5 0 = _ from v1, show L_X11_stands_186 sw_fuel τ6 0 = _ from w1, show L_X11_stands_218 sw_fuel τ7 0 = _ from x1, show L_X11_stands_240 sw_fuel τ8 0 = _ from y1]
    exact z1
  · have g28 : ∀ k, τA.1 28 k = τ1.1 28 k := fun k => by rw [z4.r (by decide) (by decide), y4.r (by decide) (by decide), e28]
    have h28 : ∀ x, x < 4 → τA.1 28 (4 + x) = τ.1 28 x := fun x hx => by rw [g28]; exact p2 x (by omega) hx
    have h30 : ∀ x, x < 8 → τA.1 30 (8 + x) = τ.1 30 x := fun x hx => by rw [z4.r (by decide) (by decide), y4.r (by decide) (by decide), x4.r (by decide) (by decide), w4.r (by decide) (by decide), v4.r (by decide) (by decide), t4.r (by decide) (by decide), s2 x (by omega) hx, r4.r (by decide) (by decide), q4.r (by decide) (by decide), p4.r (by decide) (by decide)]
    have h31 : ∀ x, x < 30 → τA.1 31 (30 + x) = τ.1 31 x := fun x hx => by rw [z4.r (by decide) (by decide), y4.r (by decide) (by decide), x4.r (by decide) (by decide), w4.r (by decide) (by decide), v4.r (by decide) (by decide), t2 x (by omega) hx, s4.r (by decide) (by decide), r4.r (by decide) (by decide), q4.r (by decide) (by decide), p4.r (by decide) (by decide)]
    have h33 : ∀ x, x < 12 → τA.1 33 (12 + x) = τ.1 33 x := fun x hx => by rw [z4.r (by decide) (by decide), e33, v2 x (by omega) hx, f33]
    have h34 : ∀ x, x < 3 → τA.1 34 (3 + x) = τ.1 34 x ∧ τA.1 35 (3 + x) = τ.1 35 x := fun x hx => by
      have := q2 x (by omega) hx
      refine ⟨?_, ?_⟩
      · rw [z4.r (by decide) (by decide), y4.r (by decide) (by decide), x4.r (by decide) (by decide), w4.r (by decide) (by decide), v4.r (by decide) (by decide), t4.r (by decide) (by decide), s4.r (by decide) (by decide), r4.r (by decide) (by decide), this.1, p4.r (by decide) (by decide)]
      · rw [z4.r (by decide) (by decide), y4.r (by decide) (by decide), x4.r (by decide) (by decide), w4.r (by decide) (by decide), v4.r (by decide) (by decide), t4.r (by decide) (by decide), s4.r (by decide) (by decide), r4.r (by decide) (by decide), this.2, p4.r (by decide) (by decide)]
    have h36 : ∀ x, x < n → τA.1 36 (1600 + x) = τ.1 36 x := fun x hx => by rw [z4.r (by decide) (by decide), y4.r (by decide) (by decide), x4.r (by decide) (by decide), w2 x (by omega) hx, v4.r (by decide) (by decide), t4.r (by decide) (by decide), s4.r (by decide) (by decide), r4.r (by decide) (by decide), q4.r (by decide) (by decide), p4.r (by decide) (by decide)]
    refine ⟨by rw [rB _ (by decide), h28 0 (by omega)]; exact a1, by rw [rB _ (by decide), h28 2 (by omega)]; exact b1, by rw [rB _ (by decide), h28 1 (by omega)]; exact a2, by rw [rB _ (by decide), h28 3 (by omega)]; exact b2, fun f hf => by rw [rB _ (by decide), h30 f (by omega)]; exact b3 f hf, fun j hj => by rw [rB _ (by decide), h31 j (by omega)]; exact b4 j hj, fun j hj => by rw [rB _ (by decide), h33 j (by omega)]; exact b5 j hj, fun i hi => ?_⟩
    rw [rB _ (by decide), rB _ (by decide), (h34 i hi).1, (h34 i hi).2]
    rcases c3 i hi with ⟨y1, y2, y3⟩ | ⟨y1, a, y2, y3, y4, y5⟩
    · exact Or.inl ⟨y1, y2⟩
    · refine Or.inr ⟨a, by omega, y3, y4, fun x hx => ?_, fun e => hu.2.2.2.2.2 (by rw [← e]; exact y1)⟩
      rw [rB _ (by decide), Nat.add_assoc, h36 _ (by omega)]
      exact y5 x hx
  · have h29 : ∀ x, x < 16 → τA.2.1 29 (16 + x) = τ.2.1 29 x := fun x hx => by
      have g : τA.2.1 29 = τ3.2.1 29 := by rw [(z4.1 29 (by decide) (by decide)).2, (y4.1 29 (by decide) (by decide)).2, (x4.1 29 (by decide) (by decide)).2, (w4.1 29 (by decide) (by decide)).2, (v4.1 29 (by decide) (by decide)).2, (t4.1 29 (by decide) (by decide)).2, (s4.1 29 (by decide) (by decide)).2]
      rw [g, r2 x (by omega) hx, (q4.1 29 (by decide) (by decide)).2, (p4.1 29 (by decide) (by decide)).2]
    refine ⟨fun f hf => ?_, fun s hs => ?_⟩
    · show τA.2.1 29 (16 + f) = _
      rw [h29 f (by omega)]
      exact a3 f hf
    · show τA.2.1 29 (24 + s) = _
      rw [show 24 + s = 16 + (8 + s) by omega, h29 _ (by omega)]
      exact a4 s hs
  · refine ⟨?_, ?_, fun k hk => ?_, fun s j hs hj => ?_, ?_, fun i hi => (by cases hi)⟩
    · rw [rB _ (by decide), z3 _ (by omega), y3 _ (by omega), x2 _ (by omega) (by omega)]
      rfl
    · rw [rB _ (by decide), z3 _ (by omega), y3 _ (by omega), x2 _ (by omega) (by omega)]
      rfl
    · rw [rB _ (by decide), Nat.zero_add, z3 _ (by omega), y2 k (by omega) hk, x4.r (by decide) (by decide), w4.r (by decide) (by decide), m06.r (by decide) (by decide)]
      exact b6 k hk
    · rw [rB _ (by decide), Nat.zero_add]
      exact z2 s j hs hj
    · rw [rB _ (by decide), z3 _ (by omega), y3 _ (by omega), x2 _ (by omega) (by omega)]
      rfl

/-! In how many ways: the reference. -/
theorem pm_tgI {k b r : Nat} (hk : k < 10) (hb : b < 8) (hr : r < 64) : 64 * nI b + ((3 * nI r + nI k + 1) - (3 * nI r + nI k + 1) / 64 * 64) = nI (g_tg k b r) := by
  rw [show (3 : Int32) = nI 3 from rfl, show (64 : Int32) = nI 64 from rfl, pk_mul, pk_mul, nI_add, nI_1, pk_rem (by omega) (by omega) (by omega), nI_add]
  rfl
theorem pm_sm.rL {S K : List Nat} {τ τ' : sw_St} (h : pm_sm S K τ τ') {o : Nat} (h0 : o ≠ 0) (ho : o ∉ S) (k : Nat) : τ'.2.1 o k = τ.2.1 o k := by rw [(h.1 o h0 ho).2]
theorem pm_g60 {f b k : Nat} {old base : Nat → Int64} {c24 : sw_St → Int32 → Option (Unit × sw_St)} {c34 : sw_St → Int32 → Int32 → Option (Unit × sw_St)} (hk : k < 10) (hf8 : f < 8) (hb : b < 8) : ∀ (n fuel r : Nat) (τ : sw_St), (∀ i, i < 512 → τ.2.1 42 i = old i) → (∀ i, i < 512 → τ.2.1 43 i = base i + g_sL (g_tm old k f b i) r) → r + n = 64 → n < fuel →
    ∃ τ', L_X11_waysGo_60 c24 c34 fuel τ (nI f) (nI k) (nI b) (nI r) = c34 τ' (nI f) (nI (k + 1)) ∧ pm_sm [43] [] τ τ' ∧ ∀ i, i < 512 → τ'.2.1 43 i = base i + g_cnt old k f b i
  | 0, fuel + 1, r, τ, ho, hv, hr, hf => by
    refine ⟨τ, ?_, pm_sm.refl _ _ _, fun i hi => by rw [hv i hi, show r = 64 by omega]; rfl⟩
    show S_X11_waysGo_60 c24 c34 _ τ (nI f) (nI k) (nI b) (nI r) = _
    unfold S_X11_waysGo_60 S_X11_waysGo_109
    rw [if_pos (show (64 : Int32) ≤ nI r from nI_le (a := 64) (by omega) (by omega)), nI_1]
  | n + 1, fuel + 1, r, τ, ho, hv, hr, hf => by
    have ht := g_tg_lt (k := k) (r := r) hb
    have m1 : pm_sm [43] [] τ (sw_uL τ 43 (g_tg k b r) (τ.2.1 43 (g_tg k b r) + τ.2.1 42 (64 * f + r))) := (pm_sm.refl _ _ τ).L (by decide) (by decide) _ _
    obtain ⟨τ', p1, p2, p3⟩ := pm_g60 (old := old) (base := base) (c24 := c24) (c34 := c34) hk hf8 hb n fuel (r + 1) _ (fun i hi => by rw [m1.rL (by decide) (by decide)]; exact ho i hi) (fun i hi => by
      show _ = base i + (g_sL (g_tm old k f b i) r + g_tm old k f b i r)
      by_cases e : i = g_tg k b r
      · rw [pz_Le rfl e, ← e, hv i hi, ho _ (by omega), Int64.add_assoc]
        congr 2
        unfold g_tm
        rw [if_pos e]
      · rw [pz_Lk e, hv i hi]
        unfold g_tm
        rw [if_neg e, Int64.add_zero]) (by omega) (by omega)
    refine ⟨τ', ?_, m1.trans p2, p3⟩
    show S_X11_waysGo_60 c24 c34 _ τ (nI f) (nI k) (nI b) (nI r) = _
    unfold S_X11_waysGo_60
    rw [if_neg (show ¬ (64 : Int32) ≤ nI r from nI_ge (b := 64) (by omega) (by omega)), pm_tgI hk hb (by omega), if_pos (pz_inb ht (by omega)), show 64 * nI f + nI r = nI (64 * f + r) from by rw [show (64 : Int32) = nI 64 from rfl, pk_mul, nI_add], if_pos (pz_inb (show 64 * f + r < 512 by omega) (by omega)), if_pos (pz_inb ht (by omega)), nI_clamp (show g_tg k b r < 2 ^ 31 by omega), nI_clamp (show 64 * f + r < 2 ^ 31 by omega), nI_1]
    exact p1
theorem pm_g34 {l : Nat → Nat → Nat} {P : Nat → List Nat} {opn f : Nat} {old base : Nat → Int64} {c24 : sw_St → Int32 → Option (Unit × sw_St)} (hg : g_ld l P) (hf8 : f < 8) : ∀ (n fuel k : Nat) (τ : sw_St), pm_ld τ l P → pm_op τ l (fun i => opn.testBit i) → (∀ i, i < 512 → τ.2.1 42 i = old i) → (∀ i, i < 512 → τ.2.1 43 i = base i + g_sL (g_H l opn old i f) k) → k + n = l 0 1 → n < fuel →
    ∃ τ', L_X11_waysGo_34 c24 fuel τ (nI f) (nI k) = c24 τ' (nI (f + 1)) ∧ pm_sm [43] [] τ τ' ∧ ∀ i, i < 512 → τ'.2.1 43 i = base i + g_sL (g_H l opn old i f) (l 0 1)
  | 0, fuel + 1, k, τ, hl, hop, ho, hv, hk, hf => by
    have h10 := hg.2.1
    refine ⟨τ, ?_, pm_sm.refl _ _ _, fun i hi => by rw [hv i hi, show k = l 0 1 by omega]⟩
    show S_X11_waysGo_34 c24 _ τ (nI f) (nI k) = _
    unfold S_X11_waysGo_34 F_X11_gapMany
    dsimp only [Option.bind]
    rw [hl.2.1, if_pos (nI_le (by omega) (by omega)), nI_1]
  | n + 1, fuel + 1, k, τ, hl, hop, ho, hv, hk, hf => by
    have h10 := hg.2.1
    have hk1 : k < l 0 1 := by omega
    have hfu := sw_fuel_ge
    have e34 : L_X11_waysGo_34 c24 (fuel + 1) τ (nI f) (nI k) = (if oI (if opn.testBit k = true then g_bey l k f else none) = -1 then L_X11_waysGo_34 c24 fuel τ (nI f) (nI (k + 1)) else L_X11_waysGo_60 c24 (fun σ x1 x2 => L_X11_waysGo_34 c24 fuel σ x1 x2) sw_fuel τ (nI f) (nI k) (oI (if opn.testBit k = true then g_bey l k f else none)) (nI 0)) := by
      show S_X11_waysGo_34 c24 _ τ (nI f) (nI k) = _
      unfold S_X11_waysGo_34 S_X11_waysGo_109 F_X11_gapMany
      dsimp only [Option.bind]
      rw [hl.2.1, if_neg (nI_ge (by omega) (by omega)), pm_across hg hl hop hk1 hf8]
      dsimp only
      rw [nI_1]
      rfl
    cases hb : (if opn.testBit k = true then g_bey l k f else none) with
    | none =>
      obtain ⟨τ', p1, p2, p3⟩ := pm_g34 (c24 := c24) (base := base) (old := old) hg hf8 n fuel (k + 1) τ hl hop ho (fun i hi => by
        rw [hv i hi]
        show _ = base i + (g_sL (g_H l opn old i f) k + g_H l opn old i f k)
        rw [show g_H l opn old i f k = 0 from by unfold g_H; rw [hb], Int64.add_zero]) (by omega) (by omega)
      refine ⟨τ', ?_, p2, p3⟩
      rw [e34, hb, if_pos (show oI none = -1 from rfl)]
      exact p1
    | some b =>
      have hb8 : b < 8 := by
        by_cases h : opn.testBit k = true
        · rw [if_pos h] at hb
          exact (g_bey_lt hg hk1 hb).2
        · rw [if_neg h] at hb
          cases hb
      obtain ⟨τ1, q1, q2, q3⟩ := pm_g60 (k := k) (f := f) (b := b) (old := old) (base := fun i => base i + g_sL (g_H l opn old i f) k) (c24 := c24) (c34 := fun σ x1 x2 => L_X11_waysGo_34 c24 fuel σ x1 x2) (by omega) hf8 hb8 64 sw_fuel 0 τ ho (fun i hi => by rw [hv i hi]; exact (Int64.add_zero _).symm) (by omega) (by omega)
      obtain ⟨τ', p1, p2, p3⟩ := pm_g34 (c24 := c24) (base := base) (old := old) hg hf8 n fuel (k + 1) τ1 (hl.mv q2 (by unfold pm_LS; decide)) (fun i hi => by rw [q2.r (by decide) (by decide)]; exact hop i hi) (fun i hi => by rw [q2.rL (by decide) (by decide)]; exact ho i hi) (fun i hi => by
        rw [q3 i hi]
        show _ = base i + (g_sL (g_H l opn old i f) k + g_H l opn old i f k)
        rw [show g_H l opn old i f k = g_cnt old k f b i from by unfold g_H; rw [hb], Int64.add_assoc]) (by omega) (by omega)
      refine ⟨τ', ?_, q2.trans p2, p3⟩
      rw [e34, hb, if_neg (show ¬ oI (some b) = -1 from pz_nm1 (by omega)), show oI (some b) = nI b from rfl, q1]
      exact p1
theorem pm_g24 {l : Nat → Nat → Nat} {P : Nat → List Nat} {opn : Nat} {old : Nat → Int64} (hg : g_ld l P) : ∀ (n fuel f : Nat) (τ : sw_St), pm_ld τ l P → pm_op τ l (fun i => opn.testBit i) → (∀ i, i < 512 → τ.2.1 42 i = old i) → (∀ i, i < 512 → τ.2.1 43 i = g_sL (fun f => g_sL (g_H l opn old i f) (l 0 1)) f) → f + n = l 0 0 → n < fuel →
    ∃ τ', L_X11_waysGo_24 fuel τ (nI f) = L_X11_waysGo_123 sw_fuel τ' (nI 0) ∧ pm_sm [43] [] τ τ' ∧ ∀ i, i < 512 → τ'.2.1 43 i = g_wn l opn old i
  | 0, fuel + 1, f, τ, hl, hop, ho, hv, hk, hf => by
    have h8 := hg.1
    refine ⟨τ, ?_, pm_sm.refl _ _ _, fun i hi => by rw [hv i hi, show f = l 0 0 by omega, g_wn_H hg]⟩
    show S_X11_waysGo_24 _ τ (nI f) = _
    unfold S_X11_waysGo_24 F_X11_fieldMany
    dsimp only [Option.bind]
    rw [hl.1, if_pos (nI_le (by omega) (by omega))]
    rfl
  | n + 1, fuel + 1, f, τ, hl, hop, ho, hv, hk, hf => by
    have h8 := hg.1
    obtain ⟨τ1, q1, q2, q3⟩ := pm_g34 (opn := opn) (old := old) (base := fun i => g_sL (fun f => g_sL (g_H l opn old i f) (l 0 1)) f) (f := f) (c24 := fun σ x1 => L_X11_waysGo_24 fuel σ x1) hg (by omega) (l 0 1) sw_fuel 0 τ hl hop ho (fun i hi => by rw [hv i hi]; exact (Int64.add_zero _).symm) (by omega) (by have := sw_fuel_ge; have := hg.2.1; omega)
    obtain ⟨τ', p1, p2, p3⟩ := pm_g24 (opn := opn) (old := old) hg n fuel (f + 1) τ1 (hl.mv q2 (by unfold pm_LS; decide)) (fun i hi => by rw [q2.r (by decide) (by decide)]; exact hop i hi) (fun i hi => by rw [q2.rL (by decide) (by decide)]; exact ho i hi) (fun i hi => q3 i hi) (by omega) (by omega)
    refine ⟨τ', ?_, q2.trans p2, p3⟩
    show S_X11_waysGo_24 _ τ (nI f) = _
    unfold S_X11_waysGo_24 F_X11_fieldMany
    dsimp only [Option.bind]
    rw [hl.1, if_neg (nI_ge (by omega) (by omega)), show (0 : Int32) = nI 0 from rfl, q1]
    exact p1
theorem pm_g123 {tb : Nat → Int64} : ∀ (n fuel k : Nat) (τ : sw_St), (∀ i, i < 512 → τ.2.1 43 i = tb i) → (∀ i, i < k → τ.2.1 42 i = tb i) → k + n = 512 → n < fuel →
    ∃ τ', L_X11_waysGo_123 fuel τ (nI k) = some ((), τ') ∧ pm_sm [42] [] τ τ' ∧ ∀ i, i < 512 → τ'.2.1 42 i = tb i
  | 0, fuel + 1, k, τ, h3, h2, hk, hf => by
    refine ⟨τ, ?_, pm_sm.refl _ _ _, fun i hi => h2 i (by omega)⟩
    show S_X11_waysGo_123 _ τ (nI k) = _
    unfold S_X11_waysGo_123
    rw [if_pos (show (512 : Int32) ≤ nI k from nI_le (a := 512) (by omega) (by omega))]
  | n + 1, fuel + 1, k, τ, h3, h2, hk, hf => by
    have m1 : pm_sm [42] [] τ (sw_uL τ 42 k (τ.2.1 43 k)) := (pm_sm.refl _ _ τ).L (by decide) (by decide) _ _
    obtain ⟨τ', p1, p2, p3⟩ := pm_g123 (tb := tb) n fuel (k + 1) _ (fun i hi => by rw [m1.rL (by decide) (by decide)]; exact h3 i hi) (fun i hi => by
      by_cases e : i = k
      · rw [pz_Le rfl e, h3 k (by omega), e]
      · rw [pz_Lk e]
        exact h2 i (by omega)) (by omega) (by omega)
    refine ⟨τ', ?_, m1.trans p2, p3⟩
    show S_X11_waysGo_123 _ τ (nI k) = _
    unfold S_X11_waysGo_123
    rw [if_neg (show ¬ (512 : Int32) ≤ nI k from nI_ge (b := 512) (by omega) (by omega)), if_pos (pz_inb (by omega) (by omega)), if_pos (pz_inb (by omega) (by omega)), nI_clamp (by omega), nI_1]
    exact p1
theorem pm_g2 : ∀ (n fuel k : Nat) (τ : sw_St), (∀ i, i < k → τ.2.1 43 i = 0) → k + n = 512 → n < fuel →
    ∃ τ', L_X11_waysGo_2 fuel τ (nI k) = L_X11_waysGo_24 sw_fuel τ' (nI 0) ∧ pm_sm [43] [] τ τ' ∧ ∀ i, i < 512 → τ'.2.1 43 i = 0
  | 0, fuel + 1, k, τ, h2, hk, hf => by
    refine ⟨τ, ?_, pm_sm.refl _ _ _, fun i hi => h2 i (by omega)⟩
    show S_X11_waysGo_2 _ τ (nI k) = _
    unfold S_X11_waysGo_2
    rw [if_pos (show (512 : Int32) ≤ nI k from nI_le (a := 512) (by omega) (by omega))]
    rfl
  | n + 1, fuel + 1, k, τ, h2, hk, hf => by
    have m1 : pm_sm [43] [] τ (sw_uL τ 43 k 0) := (pm_sm.refl _ _ τ).L (by decide) (by decide) _ _
    obtain ⟨τ', p1, p2, p3⟩ := pm_g2 n fuel (k + 1) (sw_uL τ 43 k 0) (fun i hi => by
      by_cases e : i = k
      · rw [pz_Le rfl e]
      · rw [pz_Lk e]
        exact h2 i (by omega)) (by omega) (by omega)
    refine ⟨τ', ?_, m1.trans p2, p3⟩
    show S_X11_waysGo_2 _ τ (nI k) = _
    unfold S_X11_waysGo_2
    rw [if_neg (show ¬ (512 : Int32) ≤ nI k from nI_ge (b := 512) (by omega) (by omega)), if_pos (pz_inb (by omega) (by omega)), nI_clamp (by omega), nI_1]
    exact p1
theorem pm_waysGo {τ : sw_St} {l : Nat → Nat → Nat} {P : Nat → List Nat} {opn : Nat} {old : Nat → Int64} (hg : g_ld l P) (hl : pm_ld τ l P) (hop : pm_op τ l (fun i => opn.testBit i)) (ho : ∀ i, i < 512 → τ.2.1 42 i = old i) : ∃ τ', F_X11_waysGo τ = some ((), τ') ∧ pm_sm [42, 43] [] τ τ' ∧ ∀ i, i < 512 → τ'.2.1 42 i = g_wn l opn old i := by
  have hfu := sw_fuel_ge
  have h8 := hg.1
  obtain ⟨τ1, p1, p2, p3⟩ := pm_g2 512 sw_fuel 0 τ (fun i hi => by omega) (by omega) (by omega)
  obtain ⟨τ2, q1, q2, q3⟩ := pm_g24 (opn := opn) (old := old) hg (l 0 0) sw_fuel 0 τ1 (hl.mv p2 (by unfold pm_LS; decide)) (fun i hi => by rw [p2.r (by decide) (by decide)]; exact hop i hi) (fun i hi => by rw [p2.rL (by decide) (by decide)]; exact ho i hi) (fun i hi => p3 i hi) (by omega) (by omega)
  obtain ⟨τ3, r1, r2, r3⟩ := pm_g123 (tb := g_wn l opn old) 512 sw_fuel 0 τ2 q3 (fun i hi => by omega) (by omega) (by omega)
  refine ⟨τ3, ?_, ((p2.trans q2).mono (by decide) (by decide)).trans (r2.mono (by decide) (by decide)), r3⟩
  unfold F_X11_waysGo
  rw [show (0 : Int32) = nI 0 from rfl, p1, q1]
  exact r1
theorem pm_y100 {τ : sw_St} {l : Nat → Nat → Nat} {P : Nat → List Nat} {tb : Nat → Int64} {j : Nat} (hg : g_ld l P) (hl : pm_ld τ l P) (ht : ∀ i, i < 512 → τ.2.1 42 i = tb i) (hj : j < 64) : ∀ (n fuel f : Nat), f + n = l 0 0 → n < fuel → L_X11_ways_100 fuel τ (nI j) (g_sL (fun f => tb (64 * f + j)) f) (nI f) = some (g_sL (fun f => tb (64 * f + j)) (l 0 0), τ)
  | 0, fuel + 1, f, hf, hfu => by
    have h8 := hg.1
    show S_X11_ways_100 _ τ (nI j) _ (nI f) = _
    unfold S_X11_ways_100 F_X11_fieldMany
    dsimp only [Option.bind]
    rw [hl.1, if_pos (nI_le (by omega) (by omega)), show f = l 0 0 by omega]
  | n + 1, fuel + 1, f, hf, hfu => by
    have h8 := hg.1
    show S_X11_ways_100 _ τ (nI j) _ (nI f) = _
    unfold S_X11_ways_100 F_X11_fieldMany
    dsimp only [Option.bind]
    rw [hl.1, if_neg (nI_ge (by omega) (by omega)), show 64 * nI f + nI j = nI (64 * f + j) from by rw [show (64 : Int32) = nI 64 from rfl, pk_mul, nI_add], if_pos (pz_inb (show 64 * f + j < 512 by omega) (by omega)), nI_clamp (show 64 * f + j < 2 ^ 31 by omega), ht _ (by omega), nI_1]
    exact pm_y100 hg hl ht hj n fuel (f + 1) (by omega) (by omega)
theorem pm_y78 {l : Nat → Nat → Nat} {P : Nat → List Nat} {opn N j : Nat} (hg : g_ld l P) (hj : j < 64) (hN : N ≤ 12) : ∀ (n fuel k : Nat) (tb : Nat → Int64) (τ : sw_St), pm_ld τ l P → pm_op τ l (fun i => opn.testBit i) → (∀ i, i < 512 → τ.2.1 42 i = tb i) → k + n = N → n < fuel →
    ∃ τ', L_X11_ways_78 fuel τ (nI N) (nI j) (nI k) = some (g_sL (fun f => g_wk l opn n tb (64 * f + j)) (l 0 0), τ') ∧ pm_sm [42, 43] [] τ τ'
  | 0, fuel + 1, k, tb, τ, hl, hop, ht, hk, hf => by
    refine ⟨τ, ?_, pm_sm.refl _ _ _⟩
    show S_X11_ways_78 _ τ (nI N) (nI j) (nI k) = _
    unfold S_X11_ways_78
    rw [if_pos (nI_le (by omega) (by omega))]
    exact pm_y100 hg hl ht hj (l 0 0) sw_fuel 0 (by omega) (by have := sw_fuel_ge; have := hg.1; omega)
  | n + 1, fuel + 1, k, tb, τ, hl, hop, ht, hk, hf => by
    obtain ⟨τ1, p1, p2, p3⟩ := pm_waysGo hg hl hop ht
    obtain ⟨τ2, q1, q2⟩ := pm_y78 (opn := opn) hg hj hN n fuel (k + 1) (g_wn l opn tb) τ1 (hl.mv p2 (by unfold pm_LS; decide)) (fun i hi => by rw [p2.r (by decide) (by decide)]; exact hop i hi) p3 (by omega) (by omega)
    refine ⟨τ2, ?_, p2.trans q2⟩
    show S_X11_ways_78 _ τ (nI N) (nI j) (nI k) = _
    unfold S_X11_ways_78
    rw [if_neg (nI_ge (by omega) (by omega)), p1]
    dsimp only [Option.bind]
    rw [nI_1]
    exact q1
theorem pm_y40 {a : Nat} {x2 x3 : Int32} (ha : a < 8) : ∀ (n fuel k : Nat) (τ : sw_St), (∀ i, i < k → τ.2.1 42 i = if i = 64 * a then 1 else 0) → k + n = 512 → n < fuel →
    ∃ τ', L_X11_ways_40 fuel τ (nI a) x2 x3 (nI k) = L_X11_ways_78 sw_fuel τ' x2 x3 (nI 0) ∧ pm_sm [42, 43] [] τ τ' ∧ ∀ i, i < 512 → τ'.2.1 42 i = if i = 64 * a then 1 else 0
  | 0, fuel + 1, k, τ, h2, hk, hf => by
    refine ⟨τ, ?_, pm_sm.refl _ _ _, fun i hi => h2 i (by omega)⟩
    show S_X11_ways_40 _ τ (nI a) x2 x3 (nI k) = _
    unfold S_X11_ways_40
    rw [if_pos (show (512 : Int32) ≤ nI k from nI_le (a := 512) (by omega) (by omega))]
    rfl
  | n + 1, fuel + 1, k, τ, h2, hk, hf => by
    have m1 : pm_sm [42, 43] [] τ (sw_uL τ 42 k (if k = 64 * a then 1 else 0)) := (pm_sm.refl _ _ τ).L (by decide) (by decide) _ _
    obtain ⟨τ', p1, p2, p3⟩ := pm_y40 (x2 := x2) (x3 := x3) ha n fuel (k + 1) (sw_uL τ 42 k (if k = 64 * a then 1 else 0)) (fun i hi => by
      by_cases e : i = k
      · rw [pz_Le rfl e, e]
      · rw [pz_Lk e]
        exact h2 i (by omega)) (by omega) (by omega)
    refine ⟨τ', ?_, m1.trans p2, p3⟩
    show S_X11_ways_40 _ τ (nI a) x2 x3 (nI k) = _
    unfold S_X11_ways_40 S_X11_ways_68
    rw [if_neg (show ¬ (512 : Int32) ≤ nI k from nI_ge (b := 512) (by omega) (by omega)), show 64 * nI a = nI (64 * a) from by rw [show (64 : Int32) = nI 64 from rfl, pk_mul], if_pos (pz_inb (by omega) (by omega)), nI_clamp (by omega), nI_1]
    by_cases e : k = 64 * a
    · rw [if_pos (show nI k = nI (64 * a) from by rw [e])]
      rw [if_pos e] at p1
      exact p1
    · rw [if_neg (show ¬ nI k = nI (64 * a) from fun z => e (by rw [fa_eq, nI_toInt (by omega), nI_toInt (by omega)] at z; omega)), if_pos (pz_inb (by omega) (by omega))]
      rw [if_neg e] at p1
      exact p1
theorem op_21 : ll_21 RR := by
  intro x m hR a b c
  obtain ⟨w, l, P, nm, D, U, F, T, sd, rf, ft, im, hG, hX, hM⟩ := hR
  have hR : RR x m := ⟨w, l, P, nm, D, U, F, T, sd, rf, ft, im, hG, hX, hM⟩
  have hfu := sw_fuel_ge
  have h8 := hG.1.1
  unfold F_X10_ways F_X11_ways S_X10_ways_28 S_X11_ways_33
  rw [px_isField hG.1 hX.1, pm_isField hG.1 hM.1]
  dsimp only [Option.bind]
  by_cases h : g_in a (l 0 0) = true
  · obtain ⟨f, hf, rfl⟩ := g_in_of h
    rw [if_pos h, if_neg pz_10, if_neg pz_10, pm_inL m b 12 (by decide)]
    dsimp only
    by_cases hb : g_in b 13 = true
    · obtain ⟨N, hN, rfl⟩ := g_in_of hb
      rw [if_pos hb, if_neg pz_10, if_neg (nI_pos (by omega)), if_neg (show ¬ (12 : Int32) < nI N from by rw [fa_lt, nI_toInt (by omega), show (12 : Int32).toInt = 12 from by decide]; omega), pm_inL m c 63 (by decide)]
      dsimp only
      by_cases hc : g_in c 64 = true
      · obtain ⟨j, hj, rfl⟩ := g_in_of hc
        rw [if_pos hc, if_neg pz_10, if_neg (nI_pos (by omega)), if_pos (show nI j < (64 : Int32) from by rw [fa_lt, nI_toInt (by omega), show (64 : Int32).toInt = 64 from by decide]; omega)]
        obtain ⟨σ1, p1, p2⟩ := px_countWays hG.1 hG.2.2.1 hX (show f < 8 by omega) hj (show N ≤ 12 by omega)
        obtain ⟨τ1, q1, q2, q3⟩ := pm_y40 (a := f) (x2 := nI N) (x3 := nI j) (by omega) 512 sw_fuel 0 m (fun i hi => by omega) (by omega) (by omega)
        obtain ⟨τ2, r1, r2⟩ := pm_y78 (opn := D.1 2) (N := N) hG.1 hj (by omega) N sw_fuel 0 (fun i => if i = 64 * f then 1 else 0) τ1 (hM.1.mv q2 (by unfold pm_LS; decide)) (fun i hi => by rw [q2.r (by decide) (by decide)]; exact hM.2.2.1.op i hi) q3 (by omega) (by omega)
        rw [p1, show (0 : Int32) = nI 0 from rfl, q1, r1]
        exact ⟨_, σ1, τ2, rfl, rfl, w, l, P, nm, D, U, F, T, sd, rf, ft, im, hG, p2, hM.mv ((q2.trans r2).mono (by decide) (by decide))⟩
      · rw [if_neg hc, if_pos rfl]
        refine ⟨-1000000000000000, x, m, ?_, rfl, hR⟩
        rcases g_in_no hc (by omega) with q | ⟨q1, q2, q3⟩
        · rw [if_pos q]
        · rw [if_neg q1, if_neg (show ¬ c < (64 : Int32) from by rw [fa_lt, show (64 : Int32).toInt = 64 from by decide]; rw [fa_le, nI_toInt (by omega)] at q2; omega)]
    · rw [if_neg hb, if_pos rfl]
      refine ⟨-1000000000000000, x, m, ?_, rfl, hR⟩
      rcases g_in_no hb (by omega) with q | ⟨q1, q2, q3⟩
      · rw [if_pos q]
      · rw [if_neg q1, if_pos (show (12 : Int32) < b from by rw [fa_lt, show (12 : Int32).toInt = 12 from by decide]; rw [fa_le, nI_toInt (by omega)] at q2; omega)]
  · rw [if_neg h, if_pos rfl, if_pos rfl]
    exact ⟨_, x, m, rfl, rfl, hR⟩

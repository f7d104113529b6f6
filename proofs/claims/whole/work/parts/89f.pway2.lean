/-! The least way: both programs. -/
def g_ye (c : Nat → Nat) (v : Nat) : Int32 := if c v = 100000 then -1 else nI (c v)
def g_yb (c : Nat → Nat) (X : Nat) : Prop := ∀ v, c v = 100000 ∨ c v ≤ X
theorem g_yb_rx {c : Nat → Nat} {a b w X : Nat} (h : g_yb c X) (hw : w ≤ 9) (hX : X + 9 < 100000) : g_yb (g_rx c a b w) (X + 9) := fun v => by
  unfold g_rx
  have h1 := h a
  have h2 := h b
  have h3 := h v
  by_cases e : v = b
  · rw [if_pos e]; omega
  · rw [if_neg e]; omega
theorem g_yb_mono {c : Nat → Nat} {X Y : Nat} (h : g_yb c X) (hX : X ≤ Y) : g_yb c Y := fun v => by
  have := h v
  omega
theorem g_yb_wk {l : Nat → Nat → Nat} {P : Nat → List Nat} {op : Nat → Bool} {c : Nat → Nat} {k X : Nat} (hg : g_ld l P) (hk : k < l 0 1) (h : g_yb c X) (hX : X + 18 < 100000) : g_yb (g_yk l op k c) (X + 18) := by
  have g2 := hg.2.2.2.2.2.1 k hk
  unfold g_yk
  by_cases ho : op k = true
  · rw [if_pos ho]
    exact g_yb_rx (g_yb_rx h (by omega) (by omega)) (by omega) (by omega)
  · rw [if_neg ho]
    exact g_yb_mono h (by omega)
def g_yd (σ : sw_St) (o : Nat) (c : Nat → Nat) : Prop := ∀ v, v < 8 → σ.1 o v = g_ye c v
theorem g_ye_no {c : Nat → Nat} {v X : Nat} (h : g_yb c X) (hX : X < 100000) : g_ye c v = -1 ↔ c v = 100000 := by
  unfold g_ye
  by_cases e : c v = 100000
  · rw [if_pos e]
    exact ⟨fun _ => e, fun _ => rfl⟩
  · rw [if_neg e]
    have := h v
    exact ⟨fun z => absurd z (pz_nm1 (by omega)), fun z => absurd z e⟩
theorem g_ye_yes {c : Nat → Nat} {v : Nat} (h : ¬ c v = 100000) : g_ye c v = nI (c v) := if_neg h
theorem g_rx_id {c : Nat → Nat} {a b w : Nat} (h : c b ≤ c a + w) : g_rx c a b w = c := by
  funext v
  unfold g_rx
  by_cases e : v = b
  · rw [if_pos e, e]; omega
  · rw [if_neg e]
theorem g_yd_set {σ : sw_St} {o a b w X : Nat} {c : Nat → Nat} (hb : b < 8) (hd : g_yd σ o c) (hB : g_yb c X) (hX : X + 9 < 100000) (ha : ¬ c a = 100000) (hw : w ≤ 9) (h : c a + w < c b) : g_yd (sw_uI σ o b (nI (c a + w))) o (g_rx c a b w) := fun v hv => by
  have h1 := hB a
  unfold g_ye g_rx
  by_cases e : v = b
  · rw [pz_Ie rfl e]
    simp only [if_pos e]
    rw [show min (c b) (c a + w) = c a + w by omega, if_neg (by omega)]
  · rw [pz_Ik e, hd v hv]
    simp only [if_neg e]
    rfl
theorem px_short {σ : sw_St} {a b w X : Nat} {c : Nat → Nat} (ha : a < 8) (hb : b < 8) (hd : g_yd σ 58 c) (hB : g_yb c X) (hX : X + 9 < 100000) (hw : w ≤ 9) : ∃ σ', F_X1_shorten σ (nI a) (nI b) (nI w) = some ((), σ') ∧ pz_sm [58] σ σ' ∧ g_yd σ' 58 (g_rx c a b w) := by
  have h1 := hB a
  have h2 := hB b
  unfold F_X1_shorten S_X1_shorten_42 S_X1_shorten_50
  rw [if_pos (pz_inb ha (by omega)), nI_clamp (by omega), nI_clamp (by omega), hd a ha, hd b hb]
  by_cases e1 : c a = 100000
  · rw [if_pos ((g_ye_no hB (by omega)).mpr e1), g_rx_id (by omega)]
    exact ⟨σ, rfl, pz_sm.refl _ _, hd⟩
  · rw [if_neg (fun z => e1 ((g_ye_no hB (by omega)).mp z)), if_pos (pz_inb ha (by omega)), if_pos (pz_inb hb (by omega)), g_ye_yes e1, nI_add]
    by_cases e2 : c b = 100000
    · rw [if_pos ((g_ye_no hB (by omega)).mpr e2), if_pos (pz_inb hb (by omega))]
      exact ⟨_, rfl, (pz_sm.refl _ σ).I (by decide) _ _, g_yd_set hb hd hB hX e1 hw (by omega)⟩
    · rw [if_neg (fun z => e2 ((g_ye_no hB (by omega)).mp z)), g_ye_yes e2, if_pos (pz_inb hb (by omega))]
      by_cases e3 : c b ≤ c a + w
      · rw [if_pos (nI_le e3 (by omega)), g_rx_id e3]
        exact ⟨σ, rfl, pz_sm.refl _ _, hd⟩
      · rw [if_neg (nI_ge (by omega) (by omega)), if_pos (pz_inb hb (by omega))]
        exact ⟨_, rfl, (pz_sm.refl _ σ).I (by decide) _ _, g_yd_set hb hd hB hX e1 hw (by omega)⟩
theorem pm_cheap {τ : sw_St} {a b w X : Nat} {c : Nat → Nat} (ha : a < 8) (hb : b < 8) (hd : g_yd τ 41 c) (hB : g_yb c X) (hX : X + 9 < 100000) (hw : w ≤ 9) : ∃ τ', F_X11_isCheaper τ (nI a) (nI b) (nI w) = some (g_ok1 (decide (g_rx c a b w b < c b)), τ') ∧ pm_sm [41] [] τ τ' ∧ g_yd τ' 41 (g_rx c a b w) := by
  have h1 := hB a
  have h2 := hB b
  have eb : g_rx c a b w b = min (c b) (c a + w) := if_pos rfl
  unfold F_X11_isCheaper S_X11_isCheaper_37 S_X11_isCheaper_39
  rw [if_pos (pz_inb ha (by omega)), nI_clamp (by omega), nI_clamp (by omega), hd a ha, hd b hb]
  by_cases e1 : c a = 100000
  · rw [if_pos ((g_ye_no hB (by omega)).mpr e1), decide_eq_false (by omega), g_rx_id (by omega)]
    exact ⟨τ, rfl, pm_sm.refl _ _ _, hd⟩
  · rw [if_neg (fun z => e1 ((g_ye_no hB (by omega)).mp z)), if_pos (pz_inb hb (by omega)), g_ye_yes e1, nI_add]
    by_cases e2 : c b = 100000
    · rw [if_pos ((g_ye_no hB (by omega)).mpr e2), if_pos (pz_inb ha (by omega)), if_pos (pz_inb hb (by omega)), decide_eq_true (by omega)]
      exact ⟨_, rfl, (pm_sm.refl _ _ τ).I (by decide) (by decide) _ _, g_yd_set hb hd hB hX e1 hw (by omega)⟩
    · rw [if_neg (fun z => e2 ((g_ye_no hB (by omega)).mp z)), g_ye_yes e2, if_pos (pz_inb hb (by omega)), if_pos (pz_inb ha (by omega))]
      by_cases e3 : c a + w < c b
      · rw [if_pos (nI_lt e3 (by omega)), if_pos (pz_inb ha (by omega)), if_pos (pz_inb hb (by omega)), decide_eq_true (by omega)]
        exact ⟨_, rfl, (pm_sm.refl _ _ τ).I (by decide) (by decide) _ _, g_yd_set hb hd hB hX e1 hw e3⟩
      · rw [if_neg (nI_nlt (by omega) (by omega)), decide_eq_false (by omega), g_rx_id (by omega)]
        exact ⟨τ, rfl, pm_sm.refl _ _ _, hd⟩
theorem px_w38 {x2 x4 : Int32} {c26 : sw_St → Int32 → Nat → Int32 → Option (Int32 × sw_St)} {w : Nat} {l : Nat → Nat → Nat} {P : Nat → List Nat} {nm : g_N} {D : g_D} {U : List g_D} {F : List (Nat × Nat × Nat)} {T : List Nat} {sd : Nat} {rf : Nat → Int32} {ft : Int32 × Int32} {im : List Nat} (hg : g_ld l P) (hdk : g_dk l D) : ∀ (n fuel k X : Nat) (c : Nat → Nat) (σ : sw_St), RX σ w l P nm D U F T sd rf ft im → g_yd σ 58 c → g_yb c X → X + 18 * n < 100000 → k + n = l 0 1 → n < fuel →
    ∃ σ', L_X1_fewestMiles_38 c26 fuel σ x2 w x4 (nI k) = c26 σ' x2 w (x4 + 1) ∧ RX σ' w l P nm D U F T sd rf ft im ∧ g_yd σ' 58 (g_yr l (fun j => (D.1 2).testBit j) n k c) ∧ g_yb (g_yr l (fun j => (D.1 2).testBit j) n k c) (X + 18 * n)
  | 0, fuel + 1, k, X, c, σ, h, hd, hB, hX, hk, hf => by
    have h10 := hg.2.1
    refine ⟨σ, ?_, h, hd, hB⟩
    show S_X1_fewestMiles_38 c26 _ σ x2 w x4 (nI k) = _
    unfold S_X1_fewestMiles_38
    rw [if_pos (ld_O h.1.1), h.1.2.2.2.1, if_pos (nI_le (by omega) (by omega))]
  | n + 1, fuel + 1, k, X, c, σ, h, hd, hB, hX, hk, hf => by
    have h10 := hg.2.1
    have h8 := hg.1
    have hw := h.1.1
    have hkl : k < l 0 1 := by omega
    have g2 := hg.2.2.2.2.2.1 k hkl
    have h2p : 2 ^ l 0 1 ≤ 2 ^ 10 := Nat.pow_le_pow_right (by omega) h10
    have hoL := hdk.2.2.1
    obtain ⟨d1, d2, d3⟩ := h.1.2.2.2.2.2.2.2.1 k hkl
    by_cases ho : (D.1 2).testBit k = true
    · obtain ⟨σ1, p1, p2, p3⟩ := px_short (show l 2 (3 * k) < 8 by omega) (show l 2 (3 * k + 1) < 8 by omega) hd hB (by omega) (show l 2 (3 * k + 2) ≤ 9 by omega)
      have hR1 := h.mv (p2.mono (by decide)) (by rw [p2.r (by decide)]; exact h.2.2.2.2.2.2.2.2.2.2.2.1)
      have B1 : g_yb (g_rx c (l 2 (3 * k)) (l 2 (3 * k + 1)) (l 2 (3 * k + 2))) (X + 9) := g_yb_rx hB (by omega) (by omega)
      obtain ⟨σ2, q1, q2, q3⟩ := px_short (show l 2 (3 * k + 1) < 8 by omega) (show l 2 (3 * k) < 8 by omega) p3 B1 (by omega) (show l 2 (3 * k + 2) ≤ 9 by omega)
      have hR2 := hR1.mv (q2.mono (by decide)) (by rw [q2.r (by decide)]; exact hR1.2.2.2.2.2.2.2.2.2.2.2.1)
      have ek : g_yk l (fun j => (D.1 2).testBit j) k c = g_rx (g_rx c (l 2 (3 * k)) (l 2 (3 * k + 1)) (l 2 (3 * k + 2))) (l 2 (3 * k + 1)) (l 2 (3 * k)) (l 2 (3 * k + 2)) := if_pos ho
      rw [← ek] at q3
      obtain ⟨σ3, r1, r2, r3, r4⟩ := px_w38 (x2 := x2) (x4 := x4) (c26 := c26) hg hdk n fuel (k + 1) (X + 18) _ σ2 hR2 q3 (g_yb_wk hg hkl hB (by omega)) (by omega) (by omega) (by omega)
      refine ⟨σ3, ?_, r2, r3, g_yb_mono r4 (by omega)⟩
      obtain ⟨f1, f2, f3⟩ := hR1.1.2.2.2.2.2.2.2.1 k hkl
      show S_X1_fewestMiles_38 c26 _ σ x2 w x4 (nI k) = _
      unfold S_X1_fewestMiles_38 S_X1_fewestMiles_113
      simp only [if_pos (ld_O hw), if_pos (ld_A3 hw), if_pos (ld_A4 hw), if_pos (ld_A5 hw), ld_n3 hw, ld_n4 hw, ld_n5 hw, if_pos (pz_inb (show k < 10 by omega) (by omega)), nI_clamp (show k < 2 ^ 31 by omega)]
      rw [h.1.2.2.2.1, if_neg (nI_ge hkl (by omega)), h.2.2.2.1.2.2.1, if_pos ((px_bitT (by omega) (by omega)).mpr ho), d1, d2, d3, p1]
      dsimp only [Option.bind_some]
      rw [f1, f2, f3, q1]
      dsimp only [Option.bind_some]
      rw [nI_1]
      exact r1
    · have ek : g_yk l (fun j => (D.1 2).testBit j) k c = c := if_neg ho
      obtain ⟨σ3, r1, r2, r3, r4⟩ := px_w38 (x2 := x2) (x4 := x4) (c26 := c26) hg hdk n fuel (k + 1) X c σ h hd hB (by omega) (by omega) (by omega)
      rw [show g_yr l (fun j => (D.1 2).testBit j) (n + 1) k c = g_yr l (fun j => (D.1 2).testBit j) n (k + 1) (g_yk l (fun j => (D.1 2).testBit j) k c) from rfl, ek]
      refine ⟨σ3, ?_, r2, r3, g_yb_mono r4 (by omega)⟩
      show S_X1_fewestMiles_38 c26 _ σ x2 w x4 (nI k) = _
      unfold S_X1_fewestMiles_38 S_X1_fewestMiles_113
      rw [if_pos (ld_O hw), h.1.2.2.2.1, if_neg (nI_ge hkl (by omega)), h.2.2.2.1.2.2.1, if_neg (fun z => ho ((px_bitT (by omega) (by omega)).mp z)), nI_1]
      exact r1
def g_y0 (f : Nat) : Nat → Nat := fun v => if v = f then 0 else 100000
theorem px_w26 {t f : Nat} {w : Nat} {l : Nat → Nat → Nat} {P : Nat → List Nat} {nm : g_N} {D : g_D} {U : List g_D} {F : List (Nat × Nat × Nat)} {T : List Nat} {sd : Nat} {rf : Nat → Int32} {ft : Int32 × Int32} {im : List Nat} (hg : g_ld l P) (hdk : g_dk l D) (ht : t < l 0 0) : ∀ (n fuel r : Nat) (σ : sw_St), RX σ w l P nm D U F T sd rf ft im → g_yd σ 58 (g_yi l (fun j => (D.1 2).testBit j) (g_y0 f) (r - 1)) → g_yb (g_yi l (fun j => (D.1 2).testBit j) (g_y0 f) (r - 1)) (180 * (r - 1)) → 1 ≤ r → r + n = l 0 0 → n < fuel →
    ∃ σ', L_X1_fewestMiles_26 fuel σ (nI t) w (nI r) = some (g_ye (g_yi l (fun j => (D.1 2).testBit j) (g_y0 f) (l 0 0 - 1)) t, σ') ∧ RX σ' w l P nm D U F T sd rf ft im
  | 0, fuel + 1, r, σ, h, hd, hB, h1, hr, hf => by
    have h8 := hg.1
    refine ⟨σ, ?_, h⟩
    show S_X1_fewestMiles_26 _ σ (nI t) w (nI r) = _
    unfold S_X1_fewestMiles_26
    rw [if_pos (ld_O h.1.1), h.1.2.2.1, if_pos (nI_le (by omega) (by omega)), if_pos (pz_inb (by omega) (by omega)), nI_clamp (by omega), hd t (by omega), show r = l 0 0 by omega]
  | n + 1, fuel + 1, r, σ, h, hd, hB, h1, hr, hf => by
    have h8 := hg.1
    have h10 := hg.2.1
    obtain ⟨σ1, p1, p2, p3, p4⟩ := px_w38 (x2 := nI t) (x4 := nI r) (c26 := fun σ x2 o3 x4 => L_X1_fewestMiles_26 fuel σ x2 o3 x4) hg hdk (l 0 1) sw_fuel 0 (180 * (r - 1)) _ σ h hd hB (by omega) (by omega) (by have := sw_fuel_ge; omega)
    obtain ⟨σ2, q1, q2⟩ := px_w26 (f := f) hg hdk ht n fuel (r + 1) σ1 p2 (by
      rw [show r + 1 - 1 = r - 1 + 1 by omega]
      exact p3) (by
      rw [show r + 1 - 1 = r - 1 + 1 by omega]
      exact g_yb_mono p4 (by omega)) (by omega) (by omega) (by omega)
    refine ⟨σ2, ?_, q2⟩
    show S_X1_fewestMiles_26 _ σ (nI t) w (nI r) = _
    unfold S_X1_fewestMiles_26
    rw [if_pos (ld_O h.1.1), h.1.2.2.1, if_neg (nI_ge (by omega) (by omega)), show (0 : Int32) = nI 0 from rfl, p1, nI_1]
    exact q1
theorem px_fillM {q N : Nat} {x : Int32} (hA : sw_isA sw_gX q 0 = true) (hn : sw_ln sw_gX q = N) (hN : N < 2 ^ 30) : ∀ (n fuel k : Nat) (σ : sw_St), (∀ i, i < k → σ.1 q i = x) → k + n = N → n < fuel → ∃ σ', L_J7_fill_53178_5 fuel σ q x (nI k) (nI N) = some ((), σ') ∧ (∀ i, i < N → σ'.1 q i = x) ∧ pz_sm [q] σ σ'
  | 0, fuel + 1, k, σ, h, hk, hf => by
    refine ⟨σ, ?_, fun i hi => h i (by omega), pz_sm.refl _ _⟩
    show S_J7_fill_53178_5 _ σ q x (nI k) (nI N) = _
    unfold S_J7_fill_53178_5
    rw [if_pos (nI_le (by omega) (by omega))]
  | n + 1, fuel + 1, k, σ, h, hk, hf => by
    have m1 : pz_sm [q] σ (sw_uI σ q k x) := (pz_sm.refl _ σ).I (by simp) _ _
    obtain ⟨σ', p1, p2, p3⟩ := px_fillM hA hn hN n fuel (k + 1) (sw_uI σ q k x) (fun i hi => by
      by_cases e : i = k
      · rw [pz_Ie rfl e]
      · rw [pz_Ik e]
        exact h i (by omega)) (by omega) (by omega)
    refine ⟨σ', ?_, p2, m1.trans p3⟩
    show S_J7_fill_53178_5 _ σ q x (nI k) (nI N) = _
    unfold S_J7_fill_53178_5
    rw [if_neg (nI_ge (by omega) (by omega)), if_pos hA, hn, if_pos (pz_inb (by omega) (by omega)), nI_clamp (by omega), nI_1]
    exact p1
theorem px_way {σ : sw_St} {f t : Nat} {w : Nat} {l : Nat → Nat → Nat} {P : Nat → List Nat} {nm : g_N} {D : g_D} {U : List g_D} {F : List (Nat × Nat × Nat)} {T : List Nat} {sd : Nat} {rf : Nat → Int32} {ft : Int32 × Int32} {im : List Nat} (hg : g_ld l P) (hdk : g_dk l D) (hf : f < l 0 0) (ht : t < l 0 0) (h : RX σ w l P nm D U F T sd rf ft im) : ∃ σ', F_X1_fewestMiles σ (nI f) (nI t) = some (g_ye (g_yi l (fun j => (D.1 2).testBit j) (g_y0 f) (l 0 0 - 1)) t, σ') ∧ RX σ' w l P nm D U F T sd rf ft im := by
  have h8 := hg.1
  have hfu := sw_fuel_ge
  have hA : sw_isA sw_gX 58 0 = true := by decide +kernel
  have hN : sw_ln sw_gX 58 = 8 := by decide +kernel
  have hL : (sw_isA sw_gX 58 0 || sw_isA sw_gX 58 1 || sw_isA sw_gX 58 2 || sw_isA sw_gX 58 3) = true := by decide +kernel
  obtain ⟨σ1, p1, p2, p3⟩ := px_fillM (x := -1) hA hN (by omega) 8 sw_fuel 0 σ (fun i hi => by omega) (by omega) (by omega)
  have m2 : pz_sm [58] σ (sw_uI σ1 58 f 0) := p3.I (by decide) _ _
  have hR := h.mv (m2.mono (by decide)) (by rw [m2.r (by decide)]; exact h.2.2.2.2.2.2.2.2.2.2.2.1)
  obtain ⟨σ2, q1, q2⟩ := px_w26 (f := f) hg hdk ht (l 0 0 - 1) sw_fuel 1 _ hR (fun v hv => by
    show _ = g_ye (g_y0 f) v
    unfold g_ye g_y0
    by_cases e : v = f
    · rw [pz_Ie rfl e]
      simp only [if_pos e]
      rfl
    · rw [pz_Ik e, p2 v hv]
      simp only [if_neg e, if_true]) (fun v => by
    show g_y0 f v = 100000 ∨ g_y0 f v ≤ 0
    unfold g_y0
    by_cases e : v = f
    · rw [if_pos e]; exact Or.inr (Nat.le_refl _)
    · rw [if_neg e]; exact Or.inl rfl) (by omega) (by omega) (by omega)
  refine ⟨σ2, ?_, q2⟩
  unfold F_X1_fewestMiles F_J7_fill_53178
  rw [h.1.2.1]
  dsimp only [Option.bind_some]
  rw [if_pos hL, hN, show L_J7_fill_53178_5 sw_fuel σ 58 (-1) 0 (nI 8) = _ from p1]
  dsimp only [Option.bind_some]
  rw [if_pos (pz_inb (by omega) (by omega)), nI_clamp (by omega)]
  exact q1
theorem g_rx_ch {c : Nat → Nat} {a b w v : Nat} (h : g_rx c a b w v < c v) : v = b ∧ g_rx c a b w b < c b := by
  by_cases e : v = b
  · rw [e] at h
    exact ⟨e, h⟩
  · unfold g_rx at h
    rw [if_neg e] at h
    omega
theorem pm_w61 {x2 : Int32} {c52 : sw_St → Int32 → Int32 → Option (Int32 × sw_St)} {l : Nat → Nat → Nat} {P : Nat → List Nat} {op : Nat → Bool} (hg : g_ld l P) : ∀ (n fuel k X : Nat) (c : Nat → Nat) (b : Bool) (τ : sw_St), pm_ld τ l P → pm_op τ l op → g_yd τ 41 c → g_yb c X → X + 18 * n < 100000 → k + n = l 0 1 → n < fuel →
    ∃ τ' b', L_X11_way_61 c52 fuel τ x2 (g_ok1 b) (nI k) = c52 τ' x2 (g_ok1 b') ∧ pm_sm [41] [] τ τ' ∧ g_yd τ' 41 (g_yr l op n k c) ∧ g_yb (g_yr l op n k c) (X + 18 * n) ∧ (b' = true ↔ (b = true ∨ ∃ v, g_yr l op n k c v < c v))
  | 0, fuel + 1, k, X, c, b, τ, hl, ho, hd, hB, hX, hk, hf => by
    have h10 := hg.2.1
    refine ⟨τ, b, ?_, pm_sm.refl _ _ _, hd, hB, fun z => Or.inl z, fun z => ?_⟩
    · show S_X11_way_61 c52 _ τ x2 (g_ok1 b) (nI k) = _
      unfold S_X11_way_61 F_X11_gapMany
      dsimp only [Option.bind_some]
      rw [hl.2.1, if_pos (nI_le (by omega) (by omega))]
    · rcases z with z | ⟨v, z⟩
      · exact z
      · exact absurd z (Nat.lt_irrefl _)
  | n + 1, fuel + 1, k, X, c, b, τ, hl, ho, hd, hB, hX, hk, hf => by
    have h10 := hg.2.1
    have h8 := hg.1
    have hkl : k < l 0 1 := by omega
    have g2 := hg.2.2.2.2.2.1 k hkl
    have e1 : τ.1 31 (30 + 3 * k) = nI (l 2 (3 * k)) := hl.2.2.2.2.2.1 _ (by omega)
    have e2 : τ.1 31 (31 + 3 * k) = nI (l 2 (3 * k + 1)) := by
      rw [show 31 + 3 * k = 30 + (3 * k + 1) by omega]
      exact hl.2.2.2.2.2.1 _ (by omega)
    have eM : ∀ τ2, pm_ld τ2 l P → F_X11_milesOf τ2 (nI k) = some (nI (l 2 (3 * k + 2)), τ2) := fun τ2 h2 => by
      have e3 : τ2.1 31 (32 + 3 * k) = nI (l 2 (3 * k + 2)) := by
        rw [show 32 + 3 * k = 30 + (3 * k + 2) by omega]
        exact h2.2.2.2.2.2.1 _ (by omega)
      unfold F_X11_milesOf
      rw [show (32 : Int32) + 3 * nI k = nI (32 + 3 * k) from by rw [show (32 : Int32) = nI 32 from rfl, show (3 : Int32) = nI 3 from rfl, pk_mul, nI_add], if_pos (pz_inb (by omega) (by omega)), nI_clamp (by omega), e3]
    by_cases hop : op k = true
    · obtain ⟨τ1, p1, p2, p3⟩ := pm_cheap (show l 2 (3 * k) < 8 by omega) (show l 2 (3 * k + 1) < 8 by omega) hd hB (by omega) (show l 2 (3 * k + 2) ≤ 9 by omega)
      have B1 : g_yb (g_rx c (l 2 (3 * k)) (l 2 (3 * k + 1)) (l 2 (3 * k + 2))) (X + 9) := g_yb_rx hB (by omega) (by omega)
      obtain ⟨τ2, q1, q2, q3⟩ := pm_cheap (show l 2 (3 * k + 1) < 8 by omega) (show l 2 (3 * k) < 8 by omega) p3 B1 (by omega) (show l 2 (3 * k + 2) ≤ 9 by omega)
      have ek : g_yk l op k c = g_rx (g_rx c (l 2 (3 * k)) (l 2 (3 * k + 1)) (l 2 (3 * k + 2))) (l 2 (3 * k + 1)) (l 2 (3 * k)) (l 2 (3 * k + 2)) := if_pos hop
      have m2 := p2.trans q2
      have hl1 := hl.mv p2 (by unfold pm_LS; decide)
      rw [← ek] at q3
      obtain ⟨τ3, b', r1, r2, r3, r4, r5⟩ := pm_w61 (x2 := x2) (c52 := c52) hg n fuel (k + 1) (X + 18) _ (b || decide (g_rx c (l 2 (3 * k)) (l 2 (3 * k + 1)) (l 2 (3 * k + 2)) (l 2 (3 * k + 1)) < c (l 2 (3 * k + 1))) || decide (g_rx (g_rx c (l 2 (3 * k)) (l 2 (3 * k + 1)) (l 2 (3 * k + 2))) (l 2 (3 * k + 1)) (l 2 (3 * k)) (l 2 (3 * k + 2)) (l 2 (3 * k)) < g_rx c (l 2 (3 * k)) (l 2 (3 * k + 1)) (l 2 (3 * k + 2)) (l 2 (3 * k)))) τ2 (hl.mv m2 (by unfold pm_LS; decide)) (fun j hj => by rw [m2.r (by decide) (by decide)]; exact ho j hj) q3 (g_yb_wk hg hkl hB (by omega)) (by omega) (by omega) (by omega)
      refine ⟨τ3, b', ?_, m2.trans r2, r3, g_yb_mono r4 (by omega), ?_⟩
      · rw [← r1]
        show S_X11_way_61 c52 _ τ x2 (g_ok1 b) (nI k) = _
        unfold S_X11_way_61 S_X11_way_129 S_X11_way_148 F_X11_gapMany
        dsimp only [Option.bind_some]
        rw [hl.2.1, if_neg (nI_ge hkl (by omega)), pm_isOpen ho hkl h10, if_pos hop]
        dsimp only [Option.bind_some]
        rw [if_neg pz_10, show (30 : Int32) + 3 * nI k = nI (30 + 3 * k) from by rw [show (30 : Int32) = nI 30 from rfl, show (3 : Int32) = nI 3 from rfl, pk_mul, nI_add], show (31 : Int32) + 3 * nI k = nI (31 + 3 * k) from by rw [show (31 : Int32) = nI 31 from rfl, show (3 : Int32) = nI 3 from rfl, pk_mul, nI_add], if_pos (pz_inb (by omega) (by omega)), if_pos (pz_inb (by omega) (by omega)), nI_clamp (show 30 + 3 * k < 2 ^ 31 by omega), nI_clamp (show 31 + 3 * k < 2 ^ 31 by omega), e1, e2, eM τ hl]
        dsimp only [Option.bind_some]
        rw [p1]
        dsimp only [Option.bind_some]
        rw [eM τ1 hl1]
        dsimp only [Option.bind_some]
        rw [q1]
        dsimp only [Option.bind_some]
        rw [nI_1]
        cases b <;> cases decide (g_rx c (l 2 (3 * k)) (l 2 (3 * k + 1)) (l 2 (3 * k + 2)) (l 2 (3 * k + 1)) < c (l 2 (3 * k + 1))) <;> cases decide (g_rx (g_rx c (l 2 (3 * k)) (l 2 (3 * k + 1)) (l 2 (3 * k + 2))) (l 2 (3 * k + 1)) (l 2 (3 * k)) (l 2 (3 * k + 2)) (l 2 (3 * k)) < g_rx c (l 2 (3 * k)) (l 2 (3 * k + 1)) (l 2 (3 * k + 2)) (l 2 (3 * k))) <;> rfl
      · rw [r5]
        have i1 : ∀ v, g_yk l op k c v ≤ g_rx c (l 2 (3 * k)) (l 2 (3 * k + 1)) (l 2 (3 * k + 2)) v := fun v => by rw [ek]; exact g_rx_le _ _ _ _ _
        have i2 : ∀ v, g_rx c (l 2 (3 * k)) (l 2 (3 * k + 1)) (l 2 (3 * k + 2)) v ≤ c v := fun v => g_rx_le _ _ _ _ _
        have i3 : ∀ v, g_yr l op n (k + 1) (g_yk l op k c) v ≤ g_yk l op k c v := fun v => g_yr_le _ _ _ _ _ _
        have j1 : ∀ v, g_rx c (l 2 (3 * k)) (l 2 (3 * k + 1)) (l 2 (3 * k + 2)) v < c v → g_rx c (l 2 (3 * k)) (l 2 (3 * k + 1)) (l 2 (3 * k + 2)) (l 2 (3 * k + 1)) < c (l 2 (3 * k + 1)) := fun v hv => (g_rx_ch hv).2
        have j2 : ∀ v, g_yk l op k c v < g_rx c (l 2 (3 * k)) (l 2 (3 * k + 1)) (l 2 (3 * k + 2)) v → g_yk l op k c (l 2 (3 * k)) < g_rx c (l 2 (3 * k)) (l 2 (3 * k + 1)) (l 2 (3 * k + 2)) (l 2 (3 * k)) := fun v hv => by rw [ek] at hv ⊢; exact (g_rx_ch hv).2
        rw [← ek]
        show _ ↔ (b = true ∨ ∃ v, g_yr l op n (k + 1) (g_yk l op k c) v < c v)
        simp only [Bool.or_eq_true, decide_eq_true_eq]
        constructor
        · rintro (((z | z) | z) | ⟨v, z⟩)
          · exact Or.inl z
          · exact Or.inr ⟨l 2 (3 * k + 1), by have := i1 (l 2 (3 * k + 1)); have := i3 (l 2 (3 * k + 1)); omega⟩
          · exact Or.inr ⟨l 2 (3 * k), by have := i2 (l 2 (3 * k)); have := i3 (l 2 (3 * k)); omega⟩
          · exact Or.inr ⟨v, by have := i1 v; have := i2 v; omega⟩
        · rintro (z | ⟨v, z⟩)
          · exact Or.inl (Or.inl (Or.inl z))
          · have a1 := i1 v
            have a2 := i2 v
            have a3 := i3 v
            by_cases y1 : g_rx c (l 2 (3 * k)) (l 2 (3 * k + 1)) (l 2 (3 * k + 2)) v < c v
            · exact Or.inl (Or.inl (Or.inr (j1 v y1)))
            · by_cases y2 : g_yk l op k c v < g_rx c (l 2 (3 * k)) (l 2 (3 * k + 1)) (l 2 (3 * k + 2)) v
              · exact Or.inl (Or.inr (j2 v y2))
              · exact Or.inr ⟨v, by omega⟩
    · have ek : g_yk l op k c = c := if_neg hop
      obtain ⟨τ3, b', r1, r2, r3, r4, r5⟩ := pm_w61 (x2 := x2) (c52 := c52) hg n fuel (k + 1) X c b τ hl ho hd hB (by omega) (by omega) (by omega)
      rw [show g_yr l op (n + 1) k c = g_yr l op n (k + 1) (g_yk l op k c) from rfl, ek]
      refine ⟨τ3, b', ?_, r2, r3, g_yb_mono r4 (by omega), r5⟩
      show S_X11_way_61 c52 _ τ x2 (g_ok1 b) (nI k) = _
      unfold S_X11_way_61 S_X11_way_148 F_X11_gapMany
      dsimp only [Option.bind_some]
      rw [hl.2.1, if_neg (nI_ge hkl (by omega)), pm_isOpen ho hkl h10, if_neg hop]
      dsimp only [Option.bind_some]
      rw [if_pos rfl, nI_1]
      exact r1
theorem pm_w52 {t f : Nat} {l : Nat → Nat → Nat} {P : Nat → List Nat} {op : Nat → Bool} (hg : g_ld l P) (hf : f < l 0 0) (ht : t < l 0 0) : ∀ (n fuel i : Nat) (τ : sw_St), pm_ld τ l P → pm_op τ l op → g_yd τ 41 (g_yi l op (g_y0 f) i) → g_yb (g_yi l op (g_y0 f) i) (180 * i) → i + n = l 0 0 - 1 → n + 2 < fuel →
    ∃ τ', L_X11_way_52 fuel τ (nI t) (nI 1) = some (g_ye (g_yi l op (g_y0 f) (l 0 0 - 1)) t, τ') ∧ pm_sm [41] [] τ τ'
  | n, fuel + 2, i, τ, hl, ho, hd, hB, hi, hfu => by
    have h8 := hg.1
    have h10 := hg.2.1
    obtain ⟨τ1, b', p1, p2, p3, p4, p5⟩ := pm_w61 (x2 := nI t) (c52 := fun σ x2 x3 => L_X11_way_52 (fuel + 1) σ x2 x3) hg (l 0 1) sw_fuel 0 (180 * i) _ false τ hl ho hd hB (by omega) (by omega) (by have := sw_fuel_ge; omega)
    have e0 : L_X11_way_52 (fuel + 2) τ (nI t) (nI 1) = L_X11_way_52 (fuel + 1) τ1 (nI t) (g_ok1 b') := by
      show S_X11_way_52 _ τ (nI t) (nI 1) = _
      unfold S_X11_way_52
      rw [if_neg (show ¬ nI 1 = 0 from pz_10)]
      exact p1
    have hmono := g_yi_mono l op (g_y0 f) i 1
    cases b' with
    | false =>
      have heq : g_yi l op (g_y0 f) (i + 1) = g_yi l op (g_y0 f) i := by
        funext v
        have h1 := hmono v
        by_cases z : g_yi l op (g_y0 f) (i + 1) v < g_yi l op (g_y0 f) i v
        · have := p5.mpr (Or.inr ⟨v, z⟩)
          cases this
        · omega
      have hfin := g_yi_fix heq n
      rw [hi] at hfin
      refine ⟨τ1, ?_, p2⟩
      rw [e0]
      show S_X11_way_52 _ τ1 (nI t) 0 = _
      unfold S_X11_way_52
      rw [if_pos rfl, if_pos (pz_inb (by omega) (by omega)), nI_clamp (by omega), p3 t (by omega), hfin]
      show some (g_ye (g_yi l op (g_y0 f) (i + 1)) t, τ1) = _
      rw [heq]
    | true =>
      match n with
      | 0 =>
        have hfx := g_yay (op := op) (c := g_y0 f) hg hf (if_pos rfl)
        rcases p5.mp rfl with z | ⟨v, z⟩
        · cases z
        · rw [show l 0 0 - 1 = i by omega] at hfx
          have : g_yi l op (g_y0 f) (i + 1) v < g_yi l op (g_y0 f) i v := z
          rw [hfx] at this
          omega
      | n + 1 =>
        obtain ⟨τ2, q1, q2⟩ := pm_w52 hg hf ht n (fuel + 1) (i + 1) τ1 (hl.mv p2 (by unfold pm_LS; decide)) (fun j hj => by rw [p2.r (by decide) (by decide)]; exact ho j hj) p3 (g_yb_mono p4 (by omega)) (by omega) (by omega)
        exact ⟨τ2, by rw [e0]; exact q1, p2.trans q2⟩
theorem pm_w22 {f : Nat} {x2 : Int32} (hf : f < 8) : ∀ (n fuel k : Nat) (τ : sw_St), (∀ v, v < k → τ.1 41 v = g_ye (g_y0 f) v) → k + n = 8 → n < fuel → ∃ τ', L_X11_way_22 fuel τ (nI f) x2 (nI k) = L_X11_way_52 sw_fuel τ' x2 1 ∧ pm_sm [41] [] τ τ' ∧ g_yd τ' 41 (g_y0 f)
  | 0, fuel + 1, k, τ, h, hk, hfu => by
    refine ⟨τ, ?_, pm_sm.refl _ _ _, fun v hv => h v (by omega)⟩
    show S_X11_way_22 _ τ (nI f) x2 (nI k) = _
    unfold S_X11_way_22
    rw [if_pos (show (8 : Int32) ≤ nI k from nI_le (a := 8) (by omega) (by omega))]
  | n + 1, fuel + 1, k, τ, h, hk, hfu => by
    obtain ⟨τ', p1, p2, p3⟩ := pm_w22 (x2 := x2) hf n fuel (k + 1) (sw_uI τ 41 k (g_ye (g_y0 f) k)) (fun v hv => by
      by_cases e : v = k
      · rw [pz_Ie rfl e, e]
      · rw [pz_Ik e]
        exact h v (by omega)) (by omega) (by omega)
    refine ⟨τ', ?_, ((pm_sm.refl _ _ τ).I (by decide) (by decide) _ _).trans p2, p3⟩
    rw [← p1]
    show S_X11_way_22 _ τ (nI f) x2 (nI k) = _
    unfold S_X11_way_22 S_X11_way_43
    rw [if_neg (show ¬ (8 : Int32) ≤ nI k from nI_ge (b := 8) (by omega) (by omega)), if_pos (pz_inb (by omega) (by omega)), nI_clamp (by omega), nI_1]
    unfold g_ye g_y0
    by_cases e : k = f
    · rw [if_pos (by rw [e])]
      simp only [if_pos e]
      rfl
    · rw [if_neg (fun z => e (by rw [nI_eq (by omega) (by omega)] at z; exact z)), if_pos (pz_inb (by omega) (by omega))]
      simp only [if_neg e, if_true]
theorem op_17 : ll_17 RR := by
  intro x m hR a b
  obtain ⟨w, l, P, nm, D, U, F, T, sd, rf, ft, im, hG, hX, hM⟩ := hR
  have hR : RR x m := ⟨w, l, P, nm, D, U, F, T, sd, rf, ft, im, hG, hX, hM⟩
  have hg := hG.1
  have h8 := hg.1
  have hfu := sw_fuel_ge
  unfold F_X10_way F_X11_way S_X10_way_28 S_X10_way_29 S_X11_way_18
  rw [px_isField hG.1 hX.1, pm_isField hG.1 hM.1]
  dsimp only [Option.bind_some]
  by_cases h : g_in a (l 0 0) = true
  · obtain ⟨f, hf, rfl⟩ := g_in_of h
    rw [if_pos h, if_neg pz_10, if_neg pz_10, px_isField hG.1 hX.1, pm_isField hG.1 hM.1]
    dsimp only [Option.bind_some]
    by_cases h' : g_in b (l 0 0) = true
    · obtain ⟨t, ht, rfl⟩ := g_in_of h'
      rw [if_pos h', if_neg pz_10, if_neg pz_10]
      obtain ⟨σ1, p1, p2⟩ := px_way hg hG.2.2.1 hf ht hX
      obtain ⟨τ1, q1, q2, q3⟩ := pm_w22 (x2 := nI t) (show f < 8 by omega) 8 sw_fuel 0 m (fun v hv => by omega) (by omega) (by omega)
      obtain ⟨τ2, r1, r2⟩ := pm_w52 (op := fun j => (D.1 2).testBit j) hg hf ht (l 0 0 - 1) sw_fuel 0 τ1 (hM.1.mv q2 (by unfold pm_LS; decide)) (fun j hj => by rw [q2.r (by decide) (by decide)]; exact hM.2.2.1.op j hj) q3 (fun v => by
        show g_y0 f v = 100000 ∨ g_y0 f v ≤ 0
        unfold g_y0
        by_cases e : v = f
        · rw [if_pos e]; exact Or.inr (Nat.le_refl _)
        · rw [if_neg e]; exact Or.inl rfl) (by omega) (by omega)
      rw [p1, show L_X11_way_22 sw_fuel m (nI f) (nI t) 0 = _ from q1]
      exact ⟨_, σ1, τ2, rfl, r1, w, l, P, nm, D, U, F, T, sd, rf, ft, im, hG, p2, hM.mv ((q2.trans r2).mono (by decide) (by decide))⟩
    · rw [if_neg h', if_pos rfl, if_pos rfl]
      exact ⟨-1, x, m, rfl, rfl, hR⟩
  · rw [if_neg h, if_pos rfl, if_pos rfl]
    exact ⟨-1, x, m, rfl, rfl, hR⟩

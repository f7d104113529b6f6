/-! An image comes in: the class. -/
def g_gok (t : Nat → Nat) (n k : Nat) : Bool := g_all (fun i => decide (t (5 + i) ≤ 1)) n k
def g_gb (t : Nat → Nat) (k : Nat) : Bool := decide (g_c (t (5 + k)) 1 = 1)
theorem px_r94 {t : Nat → Nat} {Ln w : Nat} {l : Nat → Nat → Nat} {P : Nat → List Nat} (ht : ∀ i, t i < 256) (hL : Ln ≤ 1600) (hg : g_ld l P) (hpL : 5 + l 0 1 ≤ Ln) : ∀ (n fuel k : Nat) (ok : Bool) (σ : sw_St), px_ld σ w l P → px_rd σ t Ln (5 + k) ok → σ.1 46 2 = nI (g_bits (g_gb t) k) → k + n = l 0 1 → n < fuel →
    ∃ σ', L_X5_read_94 fuel σ 1 w 46 (nI k) = L_X5_read_132 sw_fuel σ' 1 w 46 (nI 0) ∧ pz_sm [46, 224] σ σ' ∧ σ'.1 224 1 = σ.1 224 1 ∧ px_rd σ' t Ln (5 + l 0 1) (ok && g_gok t n k) ∧ σ'.1 46 2 = nI (g_bits (g_gb t) (l 0 1)) ∧ ∀ j, j ≠ 2 → σ'.1 46 j = σ.1 46 j
  | 0, fuel + 1, k, ok, σ, hl, h, hb, hk, hf => by
    have h10 := hg.2.1
    refine ⟨σ, ?_, pz_sm.refl _ _, rfl, ?_, by rw [show l 0 1 = k by omega]; exact hb, fun _ _ => rfl⟩
    · show S_X5_read_94 _ σ 1 w 46 (nI k) = _
      unfold S_X5_read_94
      rw [if_pos (ld_O hl.1), hl.2.2.2.1, if_pos (nI_le (by omega) (by omega))]
      rfl
    · rw [show l 0 1 = k by omega]
      show px_rd σ t Ln (5 + k) (ok && true)
      rw [Bool.and_true]
      exact h
  | n + 1, fuel + 1, k, ok, σ, hl, h, hb, hk, hf => by
    have h10 := hg.2.1
    have hq : (46 : Nat) = 38 ∨ 46 = 46 := Or.inr rfl
    obtain ⟨σ1, p1, p2, p3, p4⟩ := px_take1 (mx := 1) ht hL h (by omega) (by omega)
    have hc : g_c (t (5 + k)) 1 = 0 ∨ g_c (t (5 + k)) 1 = 1 := by
      unfold g_c
      split <;> omega
    have eor : nI (g_bits (g_gb t) k) ||| (nI (g_c (t (5 + k)) 1) <<< (nI k &&& 31)) = nI (g_bits (g_gb t) (k + 1)) := by
      show _ = nI (if g_gb t k = true then 2 ^ k + g_bits (g_gb t) k else g_bits (g_gb t) k)
      rcases hc with e | e
      · rw [e, if_neg (by unfold g_gb; rw [e]; decide)]
        have z : ∀ k, k < 31 → nI 0 <<< (nI k &&& 31) = nI 0 := by decide
        rw [z k (by omega), fa_or, Nat.or_zero]
      · rw [e, if_pos (by unfold g_gb; rw [e]; decide), show nI 1 <<< (nI k &&& 31) = nI (2 ^ k) from pz_shl (by omega), px_or (by omega)]
    have m2 : pz_sm [46, 224] σ (sw_uI σ1 46 2 (nI (g_bits (g_gb t) (k + 1)))) := (p2.mono (by decide)).I (by decide) _ _
    have p3' : px_rd (sw_uI σ1 46 2 (nI (g_bits (g_gb t) (k + 1)))) t Ln (5 + (k + 1)) (ok && decide (t (5 + k) ≤ 1)) := p3.mv (S := [46]) ((pz_sm.refl _ _).I (by decide) _ _) (by decide) (by decide)
    obtain ⟨σ2, q1, q2, q3, q4, q5, q6⟩ := px_r94 ht hL hg hpL n fuel (k + 1) _ _ (hl.mv m2 (by decide)) p3' (pz_Ie rfl rfl) (by omega) (by omega)
    refine ⟨σ2, ?_, m2.trans q2, by rw [q3, pz_Io (by decide), p4], ?_, q5, fun j hj => by rw [q6 j hj, pz_Ik hj, p2.r (by decide)]⟩
    · show S_X5_read_94 _ σ 1 w 46 (nI k) = _
      unfold S_X5_read_94
      rw [if_pos (ld_O hl.1), hl.2.2.2.1, if_neg (nI_ge (by omega) (by omega)), if_pos (st_O hq), show F_X5_take σ 1 1 1 = _ from p1]
      dsimp only [Option.bind]
      rw [if_pos (st_O hq), hb, eor, nI_1]
      exact q1
    · unfold g_gok
      rw [g_all_s, ← Bool.and_assoc]
      exact q4
/-- the state begins anew -/
theorem px_fillIL {q N : Nat} (hA : sw_isA sw_gX q 0 = true) (hn : sw_ln sw_gX q = N) (hN : N < 2 ^ 30) : ∀ (n fuel k : Nat) (σ : sw_St), (∀ i, i < k → σ.1 q i = 0) → k + n = N → n < fuel → ∃ σ', L_J7_fill_53178_5 fuel σ q 0 (nI k) (nI N) = some ((), σ') ∧ (∀ i, i < N → σ'.1 q i = 0) ∧ pz_sm [q] σ σ'
  | 0, fuel + 1, k, σ, h, hk, hf => by
    refine ⟨σ, ?_, fun i hi => h i (by omega), pz_sm.refl _ _⟩
    show S_J7_fill_53178_5 _ σ q 0 (nI k) (nI N) = _
    unfold S_J7_fill_53178_5
    rw [if_pos (nI_le (by omega) (by omega))]
  | n + 1, fuel + 1, k, σ, h, hk, hf => by
    have m1 : pz_sm [q] σ (sw_uI σ q k 0) := (pz_sm.refl _ σ).I (by simp) _ _
    obtain ⟨σ', p1, p2, p3⟩ := px_fillIL hA hn hN n fuel (k + 1) (sw_uI σ q k 0) (fun i hi => by
      by_cases e : i = k
      · rw [pz_Ie rfl e]
      · rw [pz_Ik e]
        exact h i (by omega)) (by omega) (by omega)
    refine ⟨σ', ?_, p2, m1.trans p3⟩
    show S_J7_fill_53178_5 _ σ q 0 (nI k) (nI N) = _
    unfold S_J7_fill_53178_5
    rw [if_neg (nI_ge (by omega) (by omega)), if_pos hA, hn, if_pos (pz_inb (by omega) (by omega)), nI_clamp (by omega), nI_1]
    exact p1
theorem px_bgloop {w : Nat} {l : Nat → Nat → Nat} {P : Nat → List Nat} (hg : g_ld l P) : ∀ (n fuel s : Nat) (σ : sw_St), px_ld σ w l P → (∀ u, u < s → σ.1 51 u = nI (l 3 (2 * u + 1))) → (∀ u j, l 0 0 ≤ j → j < 8 → u < 6 → σ.1 52 (8 * u + j) = 0) → s + n = l 0 2 → n < fuel →
    ∃ σ', L_X8_begin_38 fuel σ 46 w (nI s) = some ((), σ') ∧ pz_sm [47, 48, 49, 50, 51, 52] σ σ' ∧ (∀ u, u < l 0 2 → σ'.1 51 u = nI (l 3 (2 * u + 1))) ∧ ∀ u j, l 0 0 ≤ j → j < 8 → u < 6 → σ'.1 52 (8 * u + j) = 0
  | 0, fuel + 1, s, σ, hl, h1, h2, hs, hf => by
    have h6 := hg.2.2.1
    refine ⟨σ, ?_, pz_sm.refl _ _, fun u hu => h1 u (by omega), h2⟩
    show S_X8_begin_38 _ σ 46 w (nI s) = _
    unfold S_X8_begin_38
    rw [if_pos (ld_O hl.1), hl.2.2.2.2.1, if_pos (nI_le (by omega) (by omega))]
  | n + 1, fuel + 1, s, σ, hl, h1, h2, hs, hf => by
    have h6 := hg.2.2.1
    have h8 := hg.1
    have hw := hl.1
    have hq : (46 : Nat) = 38 ∨ 46 = 46 := Or.inr rfl
    have hs2 : s < l 0 2 := by omega
    obtain ⟨b1, b2⟩ := hg.2.2.2.2.2.2.1 s hs2
    obtain ⟨c1, c2⟩ := hl.2.2.2.2.2.2.2.2.1 s hs2
    have mm : pz_sm [47, 48, 49, 50, 51, 52] σ (sw_uI (sw_uI (sw_uI (sw_uI (sw_uI (sw_uI σ (46 + 1) s (nI (l 3 (2 * s)))) (46 + 2) s 0) (46 + 3) s 0) (46 + 4) s 0) (46 + 5) s (nI (l 3 (2 * s + 1)))) (46 + 6) (8 * s + l 3 (2 * s)) 1) := ((((((pz_sm.refl _ σ).I (by decide) _ _).I (by decide) _ _).I (by decide) _ _).I (by decide) _ _).I (by decide) _ _).I (by decide) _ _
    obtain ⟨σ', p1, p2, p3, p4⟩ := px_bgloop hg n fuel (s + 1) _ (hl.mv mm (by decide)) (fun u hu => by
      rw [pz_Io (by decide)]
      by_cases e : u = s
      · rw [e, pz_Ie rfl rfl]
      · rw [pz_Ik e, pz_Io (by decide), pz_Io (by decide), pz_Io (by decide), pz_Io (by decide)]
        exact h1 u (by omega)) (fun u j y1 y2 y3 => by
      rw [pz_Ik (by omega), pz_Io (by decide), pz_Io (by decide), pz_Io (by decide), pz_Io (by decide), pz_Io (by decide)]
      exact h2 u j y1 y2 y3) (by omega) (by omega)
    refine ⟨σ', ?_, mm.trans p2, p3, p4⟩
    have hi : sw_inb (nI s) 6 = true := pz_inb (by omega) (by omega)
    have nw : ∀ i j, i ≤ 12 → w + i ≠ 46 + j := fun i j hi => by omega
    show S_X8_begin_38 _ σ 46 w (nI s) = _
    unfold S_X8_begin_38
    rw [if_pos (ld_O hw), hl.2.2.2.2.1, if_neg (nI_ge hs2 (by omega))]
    simp only [ld_O hw, st_O hq, ld_A7 hw, ld_n7 hw, ld_A8 hw, ld_n8 hw, st_A1 hq, st_A2 hq, st_A3 hq, st_A4 hq, st_A5 hq, st_A6 hq, st_n1 hq, st_n2 hq, st_n3 hq, st_n4 hq, st_n5 hq, st_n6 hq, hi, if_true, nI_clamp (show s < 2 ^ 31 by omega), c1, pz_Io (nw 8 4 (by omega)), pz_Io (nw 8 3 (by omega)), pz_Io (nw 8 2 (by omega)), pz_Io (nw 8 1 (by omega)), c2]
    rw [pz_Io (show (46 + 1 : Nat) ≠ 46 + 5 by decide), pz_Io (show (46 + 1 : Nat) ≠ 46 + 4 by decide), pz_Io (show (46 + 1 : Nat) ≠ 46 + 3 by decide), pz_Io (show (46 + 1 : Nat) ≠ 46 + 2 by decide), pz_Ie rfl rfl, px_ix8, if_pos (pz_inb (show 8 * s + l 3 (2 * s) < 48 by omega) (by omega)), nI_clamp (show 8 * s + l 3 (2 * s) < 2 ^ 31 by omega), nI_1]
    exact p1
theorem px_begin {σ : sw_St} {w : Nat} {l : Nat → Nat → Nat} {P : Nat → List Nat} (hg : g_ld l P) (hl : px_ld σ w l P) : ∃ σ', F_X8_begin σ 46 w = some ((), σ') ∧ pz_sm [46, 47, 48, 49, 50, 51, 52] σ σ' ∧ σ'.1 46 10 = 0 ∧ σ'.1 46 11 = 0 ∧ (∀ u, u < l 0 2 → σ'.1 51 u = nI (l 3 (2 * u + 1))) ∧ ∀ u j, l 0 0 ≤ j → j < 8 → u < 6 → σ'.1 52 (8 * u + j) = 0 := by
  have hq : (46 : Nat) = 38 ∨ 46 = 46 := Or.inr rfl
  have hfu := sw_fuel_ge
  have h6 := hg.2.2.1
  have m0 : pz_sm [46, 47, 48, 49, 50, 51, 52] σ (sw_uI (sw_uI (sw_uI (sw_uI (sw_uI σ 46 0 0) 46 1 0) 46 2 ((sw_uI (sw_uI σ 46 0 0) 46 1 0).1 w 5)) 46 10 0) 46 11 0) := (((((pz_sm.refl _ σ).I (by decide) _ _).I (by decide) _ _).I (by decide) _ _).I (by decide) _ _).I (by decide) _ _
  obtain ⟨σ1, p1, p2, p3⟩ := px_fillIL (q := 46 + 6) (st_A6 hq) (st_n6 hq) (by omega) 48 sw_fuel 0 (sw_uI (sw_uI (sw_uI (sw_uI (sw_uI σ 46 0 0) 46 1 0) 46 2 ((sw_uI (sw_uI σ 46 0 0) 46 1 0).1 w 5)) 46 10 0) 46 11 0) (fun i hi => by omega) (by omega) (by omega)
  obtain ⟨σ2, q1, q2, q3, q4⟩ := px_bgloop hg (l 0 2) sw_fuel 0 σ1 (hl.mv (m0.trans (p3.mono (by decide))) (by decide)) (fun u hu => by omega) (fun u j _ h2 h3 => p2 _ (by omega)) (by omega) (by omega)
  refine ⟨σ2, ?_, (m0.trans (p3.mono (by decide))).trans (q2.mono (by decide)), ?_, ?_, q3, q4⟩
  · have eF : F_J7_fill_53178 (sw_uI (sw_uI (sw_uI (sw_uI (sw_uI σ 46 0 0) 46 1 0) 46 2 ((sw_uI (sw_uI σ 46 0 0) 46 1 0).1 w 5)) 46 10 0) 46 11 0) (46 + 6) 0 = some ((), σ1) := by
      unfold F_J7_fill_53178
      rw [st_A6 hq, Bool.true_or, Bool.true_or, Bool.true_or, if_pos rfl, st_n6 hq]
      exact p1
    unfold F_X8_begin
    rw [if_pos (st_O hq), if_pos (st_O hq), if_pos (ld_O hl.1), if_pos (st_O hq), if_pos (st_O hq), if_pos (st_O hq), if_pos (st_O hq), eF]
    exact q1
  · rw [q2.r (by decide), p3.r (by decide), pz_Ik (by decide), pz_Ie rfl rfl]
  · rw [q2.r (by decide), p3.r (by decide), pz_Ie rfl rfl]

/-! Tests of arguments; calls that only look. -/
def g_in (a : Int32) (n : Nat) : Bool := decide (0 ≤ a.toInt ∧ a.toInt < n)
theorem g_in_of {a : Int32} {n : Nat} (h : g_in a n = true) : ∃ j, j < n ∧ a = nI j := by
  have h1 := of_decide_eq_true h
  have h2 := fb_rng a
  refine ⟨a.toInt.toNat, by omega, ?_⟩
  rw [fa_eq, nI_toInt (by omega)]
  omega
theorem g_in_nI {j n : Nat} (h : j < n) (hn : n < 2 ^ 31) : g_in (nI j) n = true := by
  unfold g_in
  rw [nI_toInt (by omega)]
  exact decide_eq_true ⟨by omega, by omega⟩
theorem pm_isIn (τ : sw_St) (y a b : Int64) : F_X11_isIn τ y a b = some (if a.toInt ≤ y.toInt ∧ y.toInt ≤ b.toInt then 1 else 0, τ) := by
  unfold F_X11_isIn S_X11_isIn_17 S_X11_isIn_18
  simp only [lg_cmp_lt, lg_cmp_gt, fa_lt64, eq_self, true_or, or_true, if_true]
  by_cases h1 : y.toInt < a.toInt
  · rw [if_pos h1, if_neg (show ¬ (a.toInt ≤ y.toInt ∧ y.toInt ≤ b.toInt) by omega)]
  · rw [if_neg h1]
    by_cases h2 : b.toInt < y.toInt
    · rw [if_pos h2, if_neg (show ¬ (a.toInt ≤ y.toInt ∧ y.toInt ≤ b.toInt) by omega)]
    · rw [if_neg h2, if_pos (show a.toInt ≤ y.toInt ∧ y.toInt ≤ b.toInt by omega)]
theorem pm_in0 (τ : sw_St) (a : Int32) {x : Int32} {n : Nat} (hn : n < 2 ^ 30) (hx : x = nI n) : F_X11_isIn τ a.toInt64 0 ((x - 1).toInt64) = some (if g_in a n = true then 1 else 0, τ) := by
  have e : (nI n - 1).toInt = (n : Int) - 1 := by
    have := pk_sub_toInt (a := n) (b := 1) hn (by omega)
    exact this
  rw [pm_isIn, px_wide, px_wide, hx, e, show (0 : Int64).toInt = 0 from by decide]
  unfold g_in
  congr 2
  by_cases h : 0 ≤ a.toInt ∧ a.toInt < n
  · rw [if_pos (show 0 ≤ a.toInt ∧ a.toInt ≤ (n : Int) - 1 by omega), if_pos (decide_eq_true h)]
  · rw [if_neg (show ¬ (0 ≤ a.toInt ∧ a.toInt ≤ (n : Int) - 1) by omega), if_neg (by simp; omega)]
/-- a number in a range that is written down -/
theorem pm_inL (τ : sw_St) (a : Int32) (n : Nat) {y : Int64} (hy : y.toInt = n) : F_X11_isIn τ a.toInt64 0 y = some (if g_in a (n + 1) = true then 1 else 0, τ) := by
  rw [pm_isIn, px_wide, hy, show (0 : Int64).toInt = 0 from by decide]
  unfold g_in
  congr 2
  by_cases h : 0 ≤ a.toInt ∧ a.toInt < ((n + 1 : Nat) : Int)
  · rw [if_pos (show 0 ≤ a.toInt ∧ a.toInt ≤ (n : Int) by omega), if_pos (decide_eq_true h)]
  · rw [if_neg (show ¬ (0 ≤ a.toInt ∧ a.toInt ≤ (n : Int)) by omega), if_neg (by simp; omega)]
theorem g_in_if (b : Bool) : (if b = true then (1 : Int32) else 0) = 0 ∨ (if b = true then (1 : Int32) else 0) = 1 := by
  cases b
  · exact Or.inl rfl
  · exact Or.inr rfl
theorem px_isField {σ : sw_St} {w : Nat} {l : Nat → Nat → Nat} {P : Nat → List Nat} {a : Int32} (hg : g_ld l P) (hl : px_ld σ w l P) : F_X10_isField σ a = some (if g_in a (l 0 0) = true then 1 else 0, σ) := by
  have hb := hg.1
  unfold F_X10_isField S_X10_isField_22 S_X10_isField_23 g_in
  rw [hl.2.1]
  dsimp only [Option.bind]
  have l0 : (0 : Int32).toInt = 0 := by decide
  rw [if_pos (ld_O hl.1), hl.2.2.1]
  simp only [fa_lt, fa_le, nI_toInt (show l 0 0 < 2 ^ 31 by omega), l0, eq_self, true_or, or_true, if_true]
  by_cases h : 0 ≤ a.toInt ∧ a.toInt < (l 0 0 : Int)
  · rw [if_neg (show ¬ a.toInt < 0 by omega), if_neg (show ¬ (l 0 0 : Int) ≤ a.toInt by omega), if_pos (decide_eq_true h)]
  · rw [if_neg (show ¬ decide (0 ≤ a.toInt ∧ a.toInt < (l 0 0 : Int)) = true by simp; omega)]
    by_cases h2 : a.toInt < 0
    · rw [if_pos h2]
    · rw [if_neg h2, if_pos (show (l 0 0 : Int) ≤ a.toInt by omega)]
theorem pm_isField {τ : sw_St} {l : Nat → Nat → Nat} {P : Nat → List Nat} {a : Int32} (hg : g_ld l P) (hl : pm_ld τ l P) : F_X11_isField τ a.toInt64 = some (if g_in a (l 0 0) = true then 1 else 0, τ) := by
  have hb := hg.1
  unfold F_X11_isField F_X11_fieldMany
  dsimp only [Option.bind]
  rw [pm_in0 τ a (n := l 0 0) (by omega) hl.1]
  dsimp only
  rw [if_pos (g_in_if _)]
theorem px_isSheep {σ : sw_St} {w : Nat} {l : Nat → Nat → Nat} {P : Nat → List Nat} {a : Int32} (hg : g_ld l P) (hl : px_ld σ w l P) : F_X10_isSheep σ a = some (if g_in a (l 0 2) = true then 1 else 0, σ) := by
  have hb := hg.2.2.1
  unfold F_X10_isSheep S_X10_isSheep_22 S_X10_isSheep_23 g_in
  rw [hl.2.1]
  dsimp only [Option.bind]
  have l0 : (0 : Int32).toInt = 0 := by decide
  rw [if_pos (ld_O hl.1), hl.2.2.2.2.1]
  simp only [fa_lt, fa_le, nI_toInt (show l 0 2 < 2 ^ 31 by omega), l0, eq_self, true_or, or_true, if_true]
  by_cases h : 0 ≤ a.toInt ∧ a.toInt < (l 0 2 : Int)
  · rw [if_neg (show ¬ a.toInt < 0 by omega), if_neg (show ¬ (l 0 2 : Int) ≤ a.toInt by omega), if_pos (decide_eq_true h)]
  · rw [if_neg (show ¬ decide (0 ≤ a.toInt ∧ a.toInt < (l 0 2 : Int)) = true by simp; omega)]
    by_cases h2 : a.toInt < 0
    · rw [if_pos h2]
    · rw [if_neg h2, if_pos (show (l 0 2 : Int) ≤ a.toInt by omega)]
theorem pm_isSheep {τ : sw_St} {l : Nat → Nat → Nat} {P : Nat → List Nat} {a : Int32} (hg : g_ld l P) (hl : pm_ld τ l P) : F_X11_isSheep τ a = some (if g_in a (l 0 2) = true then 1 else 0, τ) := by
  have hb := hg.2.2.1
  unfold F_X11_isSheep F_X11_sheepMany
  dsimp only [Option.bind]
  rw [pm_in0 τ a (n := l 0 2) (by omega) hl.2.2.1]
  dsimp only
  rw [if_pos (g_in_if _)]
theorem px_isGap {σ : sw_St} {w : Nat} {l : Nat → Nat → Nat} {P : Nat → List Nat} {a : Int32} (hg : g_ld l P) (hl : px_ld σ w l P) : F_X10_isGap σ a = some (if g_in a (l 0 1) = true then 1 else 0, σ) := by
  have hb := hg.2.1
  unfold F_X10_isGap S_X10_isGap_22 S_X10_isGap_23 g_in
  rw [hl.2.1]
  dsimp only [Option.bind]
  have l0 : (0 : Int32).toInt = 0 := by decide
  rw [if_pos (ld_O hl.1), hl.2.2.2.1]
  simp only [fa_lt, fa_le, nI_toInt (show l 0 1 < 2 ^ 31 by omega), l0, eq_self, true_or, or_true, if_true]
  by_cases h : 0 ≤ a.toInt ∧ a.toInt < (l 0 1 : Int)
  · rw [if_neg (show ¬ a.toInt < 0 by omega), if_neg (show ¬ (l 0 1 : Int) ≤ a.toInt by omega), if_pos (decide_eq_true h)]
  · rw [if_neg (show ¬ decide (0 ≤ a.toInt ∧ a.toInt < (l 0 1 : Int)) = true by simp; omega)]
    by_cases h2 : a.toInt < 0
    · rw [if_pos h2]
    · rw [if_neg h2, if_pos (show (l 0 1 : Int) ≤ a.toInt by omega)]
theorem pm_isGap {τ : sw_St} {l : Nat → Nat → Nat} {P : Nat → List Nat} {a : Int32} (hg : g_ld l P) (hl : pm_ld τ l P) : F_X11_isGap τ a.toInt64 = some (if g_in a (l 0 1) = true then 1 else 0, τ) := by
  have hb := hg.2.1
  unfold F_X11_isGap F_X11_gapMany
  dsimp only [Option.bind]
  rw [pm_in0 τ a (n := l 0 1) (by omega) hl.2.1]
  dsimp only
  rw [if_pos (g_in_if _)]
theorem pz_10 : ¬ (1 : Int32) = 0 := by decide

theorem op_3 : ll_3 RR := by
  intro x m hR a
  obtain ⟨w, l, P, nm, D, U, F, T, sd, rf, ft, im, hG, hX, hM⟩ := hR
  have hR : RR x m := ⟨w, l, P, nm, D, U, F, T, sd, rf, ft, im, hG, hX, hM⟩
  obtain ⟨x1, x2⟩ := hX.2.2.2.2.2.2.2.2.2.1
  obtain ⟨m1, m2⟩ := hM.2.2.2.2.2.2.2.2.1
  unfold F_X10_fault F_X11_fault S_X11_fault_24
  by_cases h0 : a = 0
  · exact ⟨ft.1, x, m, by rw [if_pos h0, x1], by rw [if_pos h0, m1], hR⟩
  · by_cases h1 : a = 1
    · exact ⟨ft.2, x, m, by rw [if_neg h0, if_pos h1, x2], by rw [if_neg h0, if_pos h1, m2], hR⟩
    · exact ⟨-1, x, m, by rw [if_neg h0, if_neg h1], by rw [if_neg h0, if_neg h1], hR⟩
theorem op_6 : ll_6 RR := by
  intro x m hR a
  obtain ⟨w, l, P, nm, D, U, F, T, sd, rf, ft, im, hG, hX, hM⟩ := hR
  have hR : RR x m := ⟨w, l, P, nm, D, U, F, T, sd, rf, ft, im, hG, hX, hM⟩
  have hw := hX.1.1
  have g0 := hG.1.1
  unfold F_X10_lure F_X11_lure S_X10_lure_24 S_X11_lure_22
  rw [px_isField hG.1 hX.1, pm_isField hG.1 hM.1]
  dsimp only [Option.bind]
  by_cases h : g_in a (l 0 0) = true
  · obtain ⟨j, hj, rfl⟩ := g_in_of h
    rw [if_pos h, if_neg pz_10, if_neg pz_10]
    refine ⟨nI (l 1 j), x, m, ?_, ?_, hR⟩
    · rw [hX.1.2.1]
      dsimp only
      rw [if_pos (ld_O hw), if_pos (ld_A2 hw), ld_n2 hw, if_pos (pz_inb (by omega) (by omega)), nI_clamp (by omega), hX.1.2.2.2.2.2.2.1 j hj]
    · rw [pm_ad, if_pos (pz_inb (by omega) (by omega)), nI_clamp (by omega), hM.1.2.2.2.2.1 j hj]
  · rw [if_neg h, if_pos rfl, if_pos rfl]
    exact ⟨-1, x, m, rfl, rfl, hR⟩
theorem op_9 : ll_9 RR := by
  intro x m hR a b
  obtain ⟨w, l, P, nm, D, U, F, T, sd, rf, ft, im, hG, hX, hM⟩ := hR
  have hR : RR x m := ⟨w, l, P, nm, D, U, F, T, sd, rf, ft, im, hG, hX, hM⟩
  have g0 := hG.1.1
  have g2 := hG.1.2.2.1
  unfold F_X10_seen F_X11_seen S_X10_seen_33 S_X10_seen_34 S_X11_seen_26 S_X11_seen_27
  rw [px_isSheep hG.1 hX.1, pm_isSheep hG.1 hM.1]
  dsimp only [Option.bind]
  by_cases h : g_in a (l 0 2) = true
  · obtain ⟨s, hs, rfl⟩ := g_in_of h
    rw [if_pos h, if_neg pz_10, if_neg pz_10, px_isField hG.1 hX.1, pm_isField hG.1 hM.1]
    dsimp only
    by_cases h' : g_in b (l 0 0) = true
    · obtain ⟨f, hf, rfl⟩ := g_in_of h'
      rw [if_pos h', if_neg pz_10, if_neg pz_10]
      refine ⟨nI (D.2.1 s (4 + f)), x, m, ?_, ?_, hR⟩
      · rw [px_ix8, if_pos (pz_inb (by omega) (by omega)), nI_clamp (by omega), (hX.2.2.2.1.2.2.2.1 s hs).2.2.2.2.2 f (by omega)]
      · rw [pm_seenOf (by omega) (by omega)]
        dsimp only
        have := hM.2.2.1.2.2.2.1 s (4 + f) hs (by omega)
        rw [show 16 + 12 * s + f = 0 + (12 + 12 * s + (4 + f)) by omega, this]
    · rw [if_neg h', if_pos rfl, if_pos rfl]
      exact ⟨-1, x, m, rfl, rfl, hR⟩
  · rw [if_neg h, if_pos rfl, if_pos rfl]
    exact ⟨-1, x, m, rfl, rfl, hR⟩
theorem op_10 : ll_10 RR := by
  intro x m hR a
  obtain ⟨w, l, P, nm, D, U, F, T, sd, rf, ft, im, hG, hX, hM⟩ := hR
  have g2 := hG.1.2.2.1
  have g1 := hG.1.2.1
  unfold F_X10_strays F_X11_strays S_X10_strays_24 S_X11_strays_17
  rw [px_isSheep hG.1 hX.1, pm_isSheep hG.1 hM.1]
  dsimp only [Option.bind]
  by_cases h : g_in a (l 0 2) = true
  · obtain ⟨s, hs, rfl⟩ := g_in_of h
    obtain ⟨hr, hf⟩ := hG.2.2.1.2.2.2.1 s hs
    have hd : D.1 0 ≤ 100000 := by have := hG.2.2.1.1; omega
    have ho : D.1 2 < 1024 := by
      have h1 := hG.2.2.1.2.2.1
      have h2 : 2 ^ l 0 1 ≤ 2 ^ 10 := Nat.pow_le_pow_right (by omega) g1
      omega
    have hxv := hX.2.2.2.1.vw (Or.inl rfl) hs g2
    have hmv := hM.2.2.1.vw hM.1 hs g2 hM.2.2.2.2.2.2.2.2.2.2.1.1
    obtain ⟨Bt, σ1, σ2, c1, c2, c3, c4, c5⟩ := px_choice (B := []) hG.1 hX.1 hxv hr hd hf ho (by simp) trivial hX.2.2.2.2.2.2.2.2.2.2.2.1
    obtain ⟨τ1, p1, p2⟩ := pm_gapFor hG.1 hM.1 hM.2.2.1.op hmv hr hd hf
    rw [if_pos h, if_neg pz_10, if_neg pz_10, p1]
    refine ⟨_, σ2, τ1, ?_, rfl, w, l, P, nm, D, U, F, T, sd, rf, ft, im, hG, hX.mv (c3.mono (by decide)) c5, hM.mv (p2.mono (by decide) (by decide))⟩
    unfold F_X2_choice
    rw [if_pos (st_O (Or.inl rfl)), hxv.2.2.2.1, show (0 : Int32) = nI 0 from rfl, c1]
    dsimp only [Option.bind]
    rw [c2]
  · rw [if_neg h, if_pos rfl, if_pos rfl]
    exact ⟨-1, x, m, rfl, rfl, w, l, P, nm, D, U, F, T, sd, rf, ft, im, hG, hX, hM⟩
theorem op_11 : ll_11 RR := by
  intro x m hR a
  obtain ⟨w, l, P, nm, D, U, F, T, sd, rf, ft, im, hG, hX, hM⟩ := hR
  have g2 := hG.1.2.2.1
  unfold F_X10_brings F_X11_brings S_X10_brings_24 S_X11_brings_17
  rw [px_isSheep hG.1 hX.1, pm_isSheep hG.1 hM.1]
  dsimp only [Option.bind]
  by_cases h : g_in a (l 0 2) = true
  · obtain ⟨s, hs, rfl⟩ := g_in_of h
    obtain ⟨hr, hf⟩ := hG.2.2.1.2.2.2.1 s hs
    have hd : D.1 0 ≤ 100000 := by have := hG.2.2.1.1; omega
    have hxv := hX.2.2.2.1.vw (Or.inl rfl) hs g2
    have hmv := hM.2.2.1.vw hM.1 hs g2 hM.2.2.2.2.2.2.2.2.2.2.1.1
    obtain ⟨σ1, c1, c2, c3, c4⟩ := px_worth (B := []) hG.1 hX.1 hxv hr hd (by simp) trivial hX.2.2.2.2.2.2.2.2.2.2.2.1
    obtain ⟨τ1, p1, p2⟩ := pm_worth hG.1 hM.1 hmv hr hd
    rw [if_pos h, if_neg pz_10, if_neg pz_10, c1, p1]
    exact ⟨_, σ1, τ1, rfl, rfl, w, l, P, nm, D, U, F, T, sd, rf, ft, im, hG, hX.mv (c2.mono (by decide)) c4, hM.mv (p2.mono (by decide) (by decide))⟩
  · rw [if_neg h, if_pos rfl, if_pos rfl]
    exact ⟨-1, x, m, rfl, rfl, w, l, P, nm, D, U, F, T, sd, rf, ft, im, hG, hX, hM⟩

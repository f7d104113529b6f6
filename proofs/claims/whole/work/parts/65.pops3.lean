/-! States copied, remembered, taken back. -/
theorem pz_cp (σ : sw_St) (a b n : Nat) (hn : n < 2 ^ 31) (o k : Nat) : (sw_cp σ a b 0 0 (nI n)).1 o k = if o = b ∧ k < n then σ.1 a k else σ.1 o k := by
  unfold sw_cp va_cpy
  dsimp only
  rw [nI_clamp hn, show (0 : Int32).toNatClampNeg = 0 from by decide]
  by_cases h : o = b
  · rw [if_pos h]
    by_cases h2 : k < n
    · rw [if_pos ⟨by omega, by omega⟩, if_pos ⟨h, h2⟩]
      congr 1
      omega
    · rw [if_neg (by omega), if_neg (fun z => h2 z.2), h]
  · rw [if_neg h, if_neg (fun z => h z.1)]
theorem pz_sm.cp {S : List Nat} {σ σ' : sw_St} (h : pz_sm S σ σ') {b : Nat} (hb : b ∈ S) (a : Nat) (sp dp n : Int32) : pz_sm S σ (sw_cp σ' a b sp dp n) := fun o ho => by
  obtain ⟨a1, b1, c1⟩ := h o ho
  refine ⟨?_, b1, c1⟩
  have : o ≠ b := fun z => ho (z ▸ hb)
  rw [← a1]
  funext k
  unfold sw_cp
  dsimp only
  rw [if_neg this]
def isSt (q : Nat) : Prop := q = 38 ∨ q = 46 ∨ ∃ i, i < 20 ∧ q = 64 + 8 * i
theorem sx_all : ∀ q ∈ [38, 46] ++ (List.range 20).map (fun i => 64 + 8 * i), (sw_isO sw_gX q 8 && sw_isA sw_gX (q + 1) 0 && sw_isA sw_gX (q + 2) 0 && sw_isA sw_gX (q + 3) 0 && sw_isA sw_gX (q + 4) 0 && sw_isA sw_gX (q + 5) 0 && sw_isA sw_gX (q + 6) 0 && sw_isA sw_gX (q + 7) 0 && decide (sw_ln sw_gX (q + 1) = 6) && decide (sw_ln sw_gX (q + 2) = 6) && decide (sw_ln sw_gX (q + 3) = 6) && decide (sw_ln sw_gX (q + 4) = 6) && decide (sw_ln sw_gX (q + 5) = 6) && decide (sw_ln sw_gX (q + 6) = 48) && decide (sw_ln sw_gX (q + 7) = 40)) = true := by decide +kernel
theorem sx_of {q : Nat} (h : isSt q) : sw_isO sw_gX q 8 = true ∧ sw_isA sw_gX (q + 1) 0 = true ∧ sw_isA sw_gX (q + 2) 0 = true ∧ sw_isA sw_gX (q + 3) 0 = true ∧ sw_isA sw_gX (q + 4) 0 = true ∧ sw_isA sw_gX (q + 5) 0 = true ∧ sw_isA sw_gX (q + 6) 0 = true ∧ sw_isA sw_gX (q + 7) 0 = true ∧ sw_ln sw_gX (q + 1) = 6 ∧ sw_ln sw_gX (q + 2) = 6 ∧ sw_ln sw_gX (q + 3) = 6 ∧ sw_ln sw_gX (q + 4) = 6 ∧ sw_ln sw_gX (q + 5) = 6 ∧ sw_ln sw_gX (q + 6) = 48 ∧ sw_ln sw_gX (q + 7) = 40 := by
  have hm : q ∈ [38, 46] ++ (List.range 20).map (fun i => 64 + 8 * i) := by
    rcases h with rfl | rfl | ⟨i, hi, rfl⟩
    · simp
    · simp
    · exact List.mem_append_right _ (List.mem_map.mpr ⟨i, List.mem_range.mpr hi, rfl⟩)
  have := sx_all q hm
  simp only [Bool.and_eq_true, decide_eq_true_eq, and_assoc] at this
  exact this
theorem px_cpk {a b n : Nat} (ha : sw_isA sw_gX a 0 = true) (hb : sw_isA sw_gX b 0 = true) (la : n ≤ sw_ln sw_gX a) (lb : n ≤ sw_ln sw_gX b) (hn : n < 2 ^ 31) : sw_cpk sw_gX a b 0 0 (nI n) = true := by
  unfold sw_cpk
  rw [ha, hb, nI_clamp hn, show (0 : Int32).toNatClampNeg = 0 from by decide]
  simp only [Bool.and_eq_true, decide_eq_true_eq]
  refine ⟨⟨⟨⟨⟨⟨trivial, trivial⟩, by decide⟩, by decide⟩, nI_pos hn⟩, by omega⟩, by omega⟩
theorem px_copyFrom {σ : sw_St} {q0 q1 : Nat} (h0 : isSt q0) (h1 : isSt q1) (hne : ∀ i j, i ≤ 7 → j ≤ 7 → q0 + i ≠ q1 + j) : ∃ σ', F_X8_copyFrom σ q0 q1 = some ((), σ') ∧ pz_sm [q0, q0 + 1, q0 + 2, q0 + 3, q0 + 4, q0 + 5, q0 + 6, q0 + 7] σ σ' ∧ ∀ l D, l 0 2 ≤ 6 → px_st σ q1 l D → px_st σ' q0 l D := by
  obtain ⟨a0, a1, a2, a3, a4, a5, a6, a7, n1, n2, n3, n4, n5, n6, n7⟩ := sx_of h0
  obtain ⟨b0, b1, b2, b3, b4, b5, b6, b7, m1, m2, m3, m4, m5, m6, m7⟩ := sx_of h1
  have hq : q1 ≠ q0 := fun z => hne 0 0 (by omega) (by omega) (by omega)
  have k1 : sw_cpk sw_gX (q1 + 1) (q0 + 1) 0 0 6 = true := px_cpk (n := 6) b1 a1 (by omega) (by omega) (by omega)
  have k2 : sw_cpk sw_gX (q1 + 2) (q0 + 2) 0 0 6 = true := px_cpk (n := 6) b2 a2 (by omega) (by omega) (by omega)
  have k3 : sw_cpk sw_gX (q1 + 3) (q0 + 3) 0 0 6 = true := px_cpk (n := 6) b3 a3 (by omega) (by omega) (by omega)
  have k4 : sw_cpk sw_gX (q1 + 4) (q0 + 4) 0 0 6 = true := px_cpk (n := 6) b4 a4 (by omega) (by omega) (by omega)
  have k5 : sw_cpk sw_gX (q1 + 5) (q0 + 5) 0 0 6 = true := px_cpk (n := 6) b5 a5 (by omega) (by omega) (by omega)
  have k6 : sw_cpk sw_gX (q1 + 6) (q0 + 6) 0 0 (nI 48) = true := px_cpk (n := 48) b6 a6 (by omega) (by omega) (by omega)
  have k7 : sw_cpk sw_gX (q1 + 7) (q0 + 7) 0 0 (nI 40) = true := px_cpk (n := 40) b7 a7 (by omega) (by omega) (by omega)
  refine ⟨sw_cp (sw_cp (sw_cp (sw_cp (sw_cp (sw_cp (sw_cp (sw_uI (sw_uI (sw_uI (sw_uI (sw_uI σ q0 0 (σ.1 q1 0)) q0 1 (σ.1 q1 1)) q0 2 (σ.1 q1 2)) q0 10 (σ.1 q1 10)) q0 11 (σ.1 q1 11)) (q1 + 1) (q0 + 1) 0 0 (nI 6)) (q1 + 2) (q0 + 2) 0 0 (nI 6)) (q1 + 3) (q0 + 3) 0 0 (nI 6)) (q1 + 4) (q0 + 4) 0 0 (nI 6)) (q1 + 5) (q0 + 5) 0 0 (nI 6)) (q1 + 6) (q0 + 6) 0 0 (nI 48)) (q1 + 7) (q0 + 7) 0 0 (nI 40), ?_, ?_, ?_⟩
  · unfold F_X8_copyFrom S_X8_copyFrom_55 S_X8_copyFrom_70 S_X8_copyFrom_85 S_X8_copyFrom_100 S_X8_copyFrom_115 S_X8_copyFrom_133 S_X8_copyFrom_151
    simp only [a0, b0, a6, a7, n6, n7, k1, k2, k3, k4, k5, k6, k7, if_true, Bool.true_or, pz_Io hq]
    rfl
  · exact (((((((((((((pz_sm.refl _ σ).I (by simp) _ _).I (by simp) _ _).I (by simp) _ _).I (by simp) _ _).I (by simp) _ _).cp (by simp) _ _ _ _).cp (by simp) _ _ _ _).cp (by simp) _ _ _ _).cp (by simp) _ _ _ _).cp (by simp) _ _ _ _).cp (by simp) _ _ _ _).cp (by simp) _ _ _ _)
  · intro l D h6 hst
    obtain ⟨c1, c2, c3, c4, kf, d1, d2, d3, d4⟩ := hst
    have e : ∀ j k, j = 1 ∨ j = 2 ∨ j = 3 ∨ j = 4 ∨ j = 5 → k < 6 → (sw_cp (sw_cp (sw_cp (sw_cp (sw_cp (sw_cp (sw_cp (sw_uI (sw_uI (sw_uI (sw_uI (sw_uI σ q0 0 (σ.1 q1 0)) q0 1 (σ.1 q1 1)) q0 2 (σ.1 q1 2)) q0 10 (σ.1 q1 10)) q0 11 (σ.1 q1 11)) (q1 + 1) (q0 + 1) 0 0 (nI 6)) (q1 + 2) (q0 + 2) 0 0 (nI 6)) (q1 + 3) (q0 + 3) 0 0 (nI 6)) (q1 + 4) (q0 + 4) 0 0 (nI 6)) (q1 + 5) (q0 + 5) 0 0 (nI 6)) (q1 + 6) (q0 + 6) 0 0 (nI 48)) (q1 + 7) (q0 + 7) 0 0 (nI 40)).1 (q0 + j) k = σ.1 (q1 + j) k := fun j k hj hk => by
      have w1 : ∀ i, i ≤ 7 → ∀ i', i' ≤ 7 → q1 + i ≠ q0 + i' := fun i hi i' hi' z => hne i' i hi' hi z.symm
      have w0 : ∀ i, i ≤ 7 → q1 + i ≠ q0 := fun i hi => w1 i hi 0 (by omega)
      rcases hj with rfl | rfl | rfl | rfl | rfl
      all_goals
        simp only [pz_cp _ _ _ 6 (by omega), pz_cp _ _ _ 48 (by omega), pz_cp _ _ _ 40 (by omega), pz_I]
        simp only [w1 1 (by omega) 1 (by omega), w1 1 (by omega) 2 (by omega), w1 1 (by omega) 3 (by omega), w1 1 (by omega) 4 (by omega), w1 2 (by omega) 1 (by omega), w1 3 (by omega) 1 (by omega), w1 3 (by omega) 2 (by omega), w1 4 (by omega) 1 (by omega), w1 4 (by omega) 2 (by omega), w1 4 (by omega) 3 (by omega), w1 5 (by omega) 1 (by omega), w1 5 (by omega) 2 (by omega), w1 5 (by omega) 3 (by omega), w1 5 (by omega) 4 (by omega), w0 1 (by omega), w0 2 (by omega), w0 3 (by omega), w0 4 (by omega), w0 5 (by omega), Nat.add_left_cancel_iff, hk, false_and, true_and, and_true, if_true, if_false]
        simp
    sorry

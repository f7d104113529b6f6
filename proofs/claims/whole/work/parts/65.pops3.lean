/-! States copied, remembered, taken back. -/
theorem pz_cp (σ : sw_St) (a b n : Nat) (hn : n < 2 ^ 31) (o k : Nat) : (sw_cp σ a b 0 0 (nI n)).1 o k = if o = b ∧ k < n then σ.1 a k else σ.1 o k := by
  unfold sw_cp va_cpy
  dsimp only
  rw [nI_clamp hn, show (0 : Int32).toNatClampNeg = 0 from by decide]
  by_cases h : o = b
  · rw [if_pos h]
    by_cases h2 : k < n
    · rw [if_pos ⟨by omega, by omega⟩, if_pos ⟨h, h2⟩]
      rw [Nat.zero_add, Nat.sub_zero]
    · rw [if_neg (by omega), if_neg (fun z => h2 z.2), h]
  · rw [if_neg h, if_neg (fun z => h z.1)]
theorem pz_sm.cp {S : List Nat} {σ σ' : sw_St} (h : pz_sm S σ σ') {b : Nat} (hb : b ∈ S) (a : Nat) (sp dp n : Int32) : pz_sm S σ (sw_cp σ' a b sp dp n) := fun o ho => by
  obtain ⟨a1, b1, c1⟩ := h o ho
  refine ⟨?_, b1, c1⟩
  have : o ≠ b := fun z => ho (z ▸ hb)
  rw [← a1]
  funext k
  unfold sw_cp
  dsimp only
  rw [if_neg this]
def isSt (q : Nat) : Prop := q = 38 ∨ q = 46 ∨ ∃ i, i < 20 ∧ q = 64 + 8 * i
theorem sx_all : ∀ q ∈ [38, 46] ++ (List.range 20).map (fun i => 64 + 8 * i), (sw_isO sw_gX q 8 && sw_isA sw_gX (q + 1) 0 && sw_isA sw_gX (q + 2) 0 && sw_isA sw_gX (q + 3) 0 && sw_isA sw_gX (q + 4) 0 && sw_isA sw_gX (q + 5) 0 && sw_isA sw_gX (q + 6) 0 && sw_isA sw_gX (q + 7) 0 && decide (sw_ln sw_gX (q + 1) = 6) && decide (sw_ln sw_gX (q + 2) = 6) && decide (sw_ln sw_gX (q + 3) = 6) && decide (sw_ln sw_gX (q + 4) = 6) && decide (sw_ln sw_gX (q + 5) = 6) && decide (sw_ln sw_gX (q + 6) = 48) && decide (sw_ln sw_gX (q + 7) = 40)) = true := by decide +kernel
theorem sx_of {q : Nat} (h : isSt q) : sw_isO sw_gX q 8 = true ∧ sw_isA sw_gX (q + 1) 0 = true ∧ sw_isA sw_gX (q + 2) 0 = true ∧ sw_isA sw_gX (q + 3) 0 = true ∧ sw_isA sw_gX (q + 4) 0 = true ∧ sw_isA sw_gX (q + 5) 0 = true ∧ sw_isA sw_gX (q + 6) 0 = true ∧ sw_isA sw_gX (q + 7) 0 = true ∧ sw_ln sw_gX (q + 1) = 6 ∧ sw_ln sw_gX (q + 2) = 6 ∧ sw_ln sw_gX (q + 3) = 6 ∧ sw_ln sw_gX (q + 4) = 6 ∧ sw_ln sw_gX (q + 5) = 6 ∧ sw_ln sw_gX (q + 6) = 48 ∧ sw_ln sw_gX (q + 7) = 40 := by
  have hm : q ∈ [38, 46] ++ (List.range 20).map (fun i => 64 + 8 * i) := by
    rcases h with rfl | rfl | ⟨i, hi, rfl⟩
    · simp
    · simp
    · exact List.mem_append_right _ (List.mem_map.mpr ⟨i, List.mem_range.mpr hi, rfl⟩)
  have := sx_all q hm
  simp only [Bool.and_eq_true, decide_eq_true_eq, and_assoc] at this
  exact this
theorem px_cpk {a b n : Nat} (ha : sw_isA sw_gX a 0 = true) (hb : sw_isA sw_gX b 0 = true) (la : n ≤ sw_ln sw_gX a) (lb : n ≤ sw_ln sw_gX b) (hn : n < 2 ^ 31) : sw_cpk sw_gX a b 0 0 (nI n) = true := by
  unfold sw_cpk
  rw [ha, hb, nI_clamp hn, show (0 : Int32).toNatClampNeg = 0 from by decide]
  simp only [Bool.and_eq_true, decide_eq_true_eq]
  refine ⟨⟨⟨⟨⟨⟨trivial, trivial⟩, by decide⟩, by decide⟩, nI_pos hn⟩, by omega⟩, by omega⟩
theorem px_copyFrom {σ : sw_St} {q0 q1 : Nat} (h0 : isSt q0) (h1 : isSt q1) (hne : ∀ i j, i ≤ 7 → j ≤ 7 → q0 + i ≠ q1 + j) : ∃ σ', F_X8_copyFrom σ q0 q1 = some ((), σ') ∧ pz_sm [q0, q0 + 1, q0 + 2, q0 + 3, q0 + 4, q0 + 5, q0 + 6, q0 + 7] σ σ' ∧ ∀ l D, l 0 2 ≤ 6 → px_st σ q1 l D → px_st σ' q0 l D := by
  obtain ⟨a0, a1, a2, a3, a4, a5, a6, a7, n1, n2, n3, n4, n5, n6, n7⟩ := sx_of h0
  obtain ⟨b0, b1, b2, b3, b4, b5, b6, b7, m1, m2, m3, m4, m5, m6, m7⟩ := sx_of h1
  have hq : q1 ≠ q0 := fun z => hne 0 0 (by omega) (by omega) (by omega)
  have k1 : sw_cpk sw_gX (q1 + 1) (q0 + 1) 0 0 6 = true := px_cpk (n := 6) b1 a1 (by omega) (by omega) (by omega)
  have k2 : sw_cpk sw_gX (q1 + 2) (q0 + 2) 0 0 6 = true := px_cpk (n := 6) b2 a2 (by omega) (by omega) (by omega)
  have k3 : sw_cpk sw_gX (q1 + 3) (q0 + 3) 0 0 6 = true := px_cpk (n := 6) b3 a3 (by omega) (by omega) (by omega)
  have k4 : sw_cpk sw_gX (q1 + 4) (q0 + 4) 0 0 6 = true := px_cpk (n := 6) b4 a4 (by omega) (by omega) (by omega)
  have k5 : sw_cpk sw_gX (q1 + 5) (q0 + 5) 0 0 6 = true := px_cpk (n := 6) b5 a5 (by omega) (by omega) (by omega)
  have k6 : sw_cpk sw_gX (q1 + 6) (q0 + 6) 0 0 (nI 48) = true := px_cpk (n := 48) b6 a6 (by omega) (by omega) (by omega)
  have k7 : sw_cpk sw_gX (q1 + 7) (q0 + 7) 0 0 (nI 40) = true := px_cpk (n := 40) b7 a7 (by omega) (by omega) (by omega)
  refine ⟨sw_cp (sw_cp (sw_cp (sw_cp (sw_cp (sw_cp (sw_cp (sw_uI (sw_uI (sw_uI (sw_uI (sw_uI σ q0 0 (σ.1 q1 0)) q0 1 (σ.1 q1 1)) q0 2 (σ.1 q1 2)) q0 10 (σ.1 q1 10)) q0 11 (σ.1 q1 11)) (q1 + 1) (q0 + 1) 0 0 (nI 6)) (q1 + 2) (q0 + 2) 0 0 (nI 6)) (q1 + 3) (q0 + 3) 0 0 (nI 6)) (q1 + 4) (q0 + 4) 0 0 (nI 6)) (q1 + 5) (q0 + 5) 0 0 (nI 6)) (q1 + 6) (q0 + 6) 0 0 (nI 48)) (q1 + 7) (q0 + 7) 0 0 (nI 40), ?_, ?_, ?_⟩
  · unfold F_X8_copyFrom S_X8_copyFrom_55 S_X8_copyFrom_70 S_X8_copyFrom_85 S_X8_copyFrom_100 S_X8_copyFrom_115 S_X8_copyFrom_133 S_X8_copyFrom_151
    simp only [a0, b0, a6, a7, n6, n7, k1, k2, k3, k4, k5, k6, k7, if_true, Bool.true_or, pz_Io hq]
    rfl
  · exact (((((((((((((pz_sm.refl _ σ).I (by simp) _ _).I (by simp) _ _).I (by simp) _ _).I (by simp) _ _).I (by simp) _ _).cp (by simp) _ _ _ _).cp (by simp) _ _ _ _).cp (by simp) _ _ _ _).cp (by simp) _ _ _ _).cp (by simp) _ _ _ _).cp (by simp) _ _ _ _).cp (by simp) _ _ _ _)
  · intro l D h6 hst
    obtain ⟨c1, c2, c3, c4, kf, d1, d2, d3, d4⟩ := hst
    have w1 : ∀ i, i ≤ 7 → ∀ i', i' ≤ 7 → q1 + i ≠ q0 + i' := fun i hi i' hi' z => hne i' i hi' hi z.symm
    have w0 : ∀ i, i ≤ 7 → q1 + i ≠ q0 := fun i hi => w1 i hi 0 (by omega)
    have z0 : ∀ i, 1 ≤ i → q0 ≠ q0 + i := fun i hi => by omega
    have e : ∀ j k, j = 1 ∨ j = 2 ∨ j = 3 ∨ j = 4 ∨ j = 5 → k < 6 → (sw_cp (sw_cp (sw_cp (sw_cp (sw_cp (sw_cp (sw_cp (sw_uI (sw_uI (sw_uI (sw_uI (sw_uI σ q0 0 (σ.1 q1 0)) q0 1 (σ.1 q1 1)) q0 2 (σ.1 q1 2)) q0 10 (σ.1 q1 10)) q0 11 (σ.1 q1 11)) (q1 + 1) (q0 + 1) 0 0 (nI 6)) (q1 + 2) (q0 + 2) 0 0 (nI 6)) (q1 + 3) (q0 + 3) 0 0 (nI 6)) (q1 + 4) (q0 + 4) 0 0 (nI 6)) (q1 + 5) (q0 + 5) 0 0 (nI 6)) (q1 + 6) (q0 + 6) 0 0 (nI 48)) (q1 + 7) (q0 + 7) 0 0 (nI 40)).1 (q0 + j) k = σ.1 (q1 + j) k := fun j k hj hk => by
      have hk2 : k < 48 := by omega
      have hk3 : k < 40 := by omega
      rcases hj with rfl | rfl | rfl | rfl | rfl
      all_goals
        simp only [pz_cp _ _ _ 6 (by omega), pz_cp _ _ _ 48 (by omega), pz_cp _ _ _ 40 (by omega), pz_I]
        simp only [w1 1 (by omega) 1 (by omega), w1 1 (by omega) 2 (by omega), w1 1 (by omega) 3 (by omega), w1 1 (by omega) 4 (by omega), w1 1 (by omega) 5 (by omega), w1 1 (by omega) 6 (by omega), w1 1 (by omega) 7 (by omega), w1 2 (by omega) 1 (by omega), w1 2 (by omega) 2 (by omega), w1 2 (by omega) 3 (by omega), w1 2 (by omega) 4 (by omega), w1 2 (by omega) 5 (by omega), w1 2 (by omega) 6 (by omega), w1 2 (by omega) 7 (by omega), w1 3 (by omega) 1 (by omega), w1 3 (by omega) 2 (by omega), w1 3 (by omega) 3 (by omega), w1 3 (by omega) 4 (by omega), w1 3 (by omega) 5 (by omega), w1 3 (by omega) 6 (by omega), w1 3 (by omega) 7 (by omega), w1 4 (by omega) 1 (by omega), w1 4 (by omega) 2 (by omega), w1 4 (by omega) 3 (by omega), w1 4 (by omega) 4 (by omega), w1 4 (by omega) 5 (by omega), w1 4 (by omega) 6 (by omega), w1 4 (by omega) 7 (by omega), w1 5 (by omega) 1 (by omega), w1 5 (by omega) 2 (by omega), w1 5 (by omega) 3 (by omega), w1 5 (by omega) 4 (by omega), w1 5 (by omega) 5 (by omega), w1 5 (by omega) 6 (by omega), w1 5 (by omega) 7 (by omega), w1 6 (by omega) 1 (by omega), w1 6 (by omega) 2 (by omega), w1 6 (by omega) 3 (by omega), w1 6 (by omega) 4 (by omega), w1 6 (by omega) 5 (by omega), w1 6 (by omega) 6 (by omega), w1 6 (by omega) 7 (by omega), w1 7 (by omega) 1 (by omega), w1 7 (by omega) 2 (by omega), w1 7 (by omega) 3 (by omega), w1 7 (by omega) 4 (by omega), w1 7 (by omega) 5 (by omega), w1 7 (by omega) 6 (by omega), w1 7 (by omega) 7 (by omega), w0 1 (by omega), w0 2 (by omega), w0 3 (by omega), w0 4 (by omega), w0 5 (by omega), w0 6 (by omega), w0 7 (by omega), Nat.add_left_cancel_iff, hk, false_and, true_and, and_true, if_true, if_false]
        simp
    have e6 : ∀ k, k < 48 → (sw_cp (sw_cp (sw_cp (sw_cp (sw_cp (sw_cp (sw_cp (sw_uI (sw_uI (sw_uI (sw_uI (sw_uI σ q0 0 (σ.1 q1 0)) q0 1 (σ.1 q1 1)) q0 2 (σ.1 q1 2)) q0 10 (σ.1 q1 10)) q0 11 (σ.1 q1 11)) (q1 + 1) (q0 + 1) 0 0 (nI 6)) (q1 + 2) (q0 + 2) 0 0 (nI 6)) (q1 + 3) (q0 + 3) 0 0 (nI 6)) (q1 + 4) (q0 + 4) 0 0 (nI 6)) (q1 + 5) (q0 + 5) 0 0 (nI 6)) (q1 + 6) (q0 + 6) 0 0 (nI 48)) (q1 + 7) (q0 + 7) 0 0 (nI 40)).1 (q0 + 6) k = σ.1 (q1 + 6) k := fun k hk => by
      simp only [pz_cp _ _ _ 6 (by omega), pz_cp _ _ _ 48 (by omega), pz_cp _ _ _ 40 (by omega), pz_I]
      simp only [w1 1 (by omega) 1 (by omega), w1 1 (by omega) 2 (by omega), w1 1 (by omega) 3 (by omega), w1 1 (by omega) 4 (by omega), w1 1 (by omega) 5 (by omega), w1 1 (by omega) 6 (by omega), w1 1 (by omega) 7 (by omega), w1 2 (by omega) 1 (by omega), w1 2 (by omega) 2 (by omega), w1 2 (by omega) 3 (by omega), w1 2 (by omega) 4 (by omega), w1 2 (by omega) 5 (by omega), w1 2 (by omega) 6 (by omega), w1 2 (by omega) 7 (by omega), w1 3 (by omega) 1 (by omega), w1 3 (by omega) 2 (by omega), w1 3 (by omega) 3 (by omega), w1 3 (by omega) 4 (by omega), w1 3 (by omega) 5 (by omega), w1 3 (by omega) 6 (by omega), w1 3 (by omega) 7 (by omega), w1 4 (by omega) 1 (by omega), w1 4 (by omega) 2 (by omega), w1 4 (by omega) 3 (by omega), w1 4 (by omega) 4 (by omega), w1 4 (by omega) 5 (by omega), w1 4 (by omega) 6 (by omega), w1 4 (by omega) 7 (by omega), w1 5 (by omega) 1 (by omega), w1 5 (by omega) 2 (by omega), w1 5 (by omega) 3 (by omega), w1 5 (by omega) 4 (by omega), w1 5 (by omega) 5 (by omega), w1 5 (by omega) 6 (by omega), w1 5 (by omega) 7 (by omega), w1 6 (by omega) 1 (by omega), w1 6 (by omega) 2 (by omega), w1 6 (by omega) 3 (by omega), w1 6 (by omega) 4 (by omega), w1 6 (by omega) 5 (by omega), w1 6 (by omega) 6 (by omega), w1 6 (by omega) 7 (by omega), w1 7 (by omega) 1 (by omega), w1 7 (by omega) 2 (by omega), w1 7 (by omega) 3 (by omega), w1 7 (by omega) 4 (by omega), w1 7 (by omega) 5 (by omega), w1 7 (by omega) 6 (by omega), w1 7 (by omega) 7 (by omega), w0 1 (by omega), w0 2 (by omega), w0 3 (by omega), w0 4 (by omega), w0 5 (by omega), w0 6 (by omega), w0 7 (by omega), Nat.add_left_cancel_iff, hk, false_and, true_and, and_true, if_true, if_false]
      simp
    have e7 : ∀ k, k < 40 → (sw_cp (sw_cp (sw_cp (sw_cp (sw_cp (sw_cp (sw_cp (sw_uI (sw_uI (sw_uI (sw_uI (sw_uI σ q0 0 (σ.1 q1 0)) q0 1 (σ.1 q1 1)) q0 2 (σ.1 q1 2)) q0 10 (σ.1 q1 10)) q0 11 (σ.1 q1 11)) (q1 + 1) (q0 + 1) 0 0 (nI 6)) (q1 + 2) (q0 + 2) 0 0 (nI 6)) (q1 + 3) (q0 + 3) 0 0 (nI 6)) (q1 + 4) (q0 + 4) 0 0 (nI 6)) (q1 + 5) (q0 + 5) 0 0 (nI 6)) (q1 + 6) (q0 + 6) 0 0 (nI 48)) (q1 + 7) (q0 + 7) 0 0 (nI 40)).1 (q0 + 7) k = σ.1 (q1 + 7) k := fun k hk => by
      simp only [pz_cp _ _ _ 6 (by omega), pz_cp _ _ _ 48 (by omega), pz_cp _ _ _ 40 (by omega), pz_I]
      simp only [w1 1 (by omega) 1 (by omega), w1 1 (by omega) 2 (by omega), w1 1 (by omega) 3 (by omega), w1 1 (by omega) 4 (by omega), w1 1 (by omega) 5 (by omega), w1 1 (by omega) 6 (by omega), w1 1 (by omega) 7 (by omega), w1 2 (by omega) 1 (by omega), w1 2 (by omega) 2 (by omega), w1 2 (by omega) 3 (by omega), w1 2 (by omega) 4 (by omega), w1 2 (by omega) 5 (by omega), w1 2 (by omega) 6 (by omega), w1 2 (by omega) 7 (by omega), w1 3 (by omega) 1 (by omega), w1 3 (by omega) 2 (by omega), w1 3 (by omega) 3 (by omega), w1 3 (by omega) 4 (by omega), w1 3 (by omega) 5 (by omega), w1 3 (by omega) 6 (by omega), w1 3 (by omega) 7 (by omega), w1 4 (by omega) 1 (by omega), w1 4 (by omega) 2 (by omega), w1 4 (by omega) 3 (by omega), w1 4 (by omega) 4 (by omega), w1 4 (by omega) 5 (by omega), w1 4 (by omega) 6 (by omega), w1 4 (by omega) 7 (by omega), w1 5 (by omega) 1 (by omega), w1 5 (by omega) 2 (by omega), w1 5 (by omega) 3 (by omega), w1 5 (by omega) 4 (by omega), w1 5 (by omega) 5 (by omega), w1 5 (by omega) 6 (by omega), w1 5 (by omega) 7 (by omega), w1 6 (by omega) 1 (by omega), w1 6 (by omega) 2 (by omega), w1 6 (by omega) 3 (by omega), w1 6 (by omega) 4 (by omega), w1 6 (by omega) 5 (by omega), w1 6 (by omega) 6 (by omega), w1 6 (by omega) 7 (by omega), w1 7 (by omega) 1 (by omega), w1 7 (by omega) 2 (by omega), w1 7 (by omega) 3 (by omega), w1 7 (by omega) 4 (by omega), w1 7 (by omega) 5 (by omega), w1 7 (by omega) 6 (by omega), w1 7 (by omega) 7 (by omega), w0 1 (by omega), w0 2 (by omega), w0 3 (by omega), w0 4 (by omega), w0 5 (by omega), w0 6 (by omega), w0 7 (by omega), Nat.add_left_cancel_iff, hk, false_and, true_and, and_true, if_true, if_false]
    have e0 : ∀ k, k = 0 ∨ k = 1 ∨ k = 2 ∨ k = 10 ∨ k = 11 → (sw_cp (sw_cp (sw_cp (sw_cp (sw_cp (sw_cp (sw_cp (sw_uI (sw_uI (sw_uI (sw_uI (sw_uI σ q0 0 (σ.1 q1 0)) q0 1 (σ.1 q1 1)) q0 2 (σ.1 q1 2)) q0 10 (σ.1 q1 10)) q0 11 (σ.1 q1 11)) (q1 + 1) (q0 + 1) 0 0 (nI 6)) (q1 + 2) (q0 + 2) 0 0 (nI 6)) (q1 + 3) (q0 + 3) 0 0 (nI 6)) (q1 + 4) (q0 + 4) 0 0 (nI 6)) (q1 + 5) (q0 + 5) 0 0 (nI 6)) (q1 + 6) (q0 + 6) 0 0 (nI 48)) (q1 + 7) (q0 + 7) 0 0 (nI 40)).1 q0 k = σ.1 q1 k := fun k hk => by
      rcases hk with rfl | rfl | rfl | rfl | rfl
      all_goals
        simp only [pz_cp _ _ _ 6 (by omega), pz_cp _ _ _ 48 (by omega), pz_cp _ _ _ 40 (by omega), pz_I]
        simp only [z0 1 (by omega), z0 2 (by omega), z0 3 (by omega), z0 4 (by omega), z0 5 (by omega), z0 6 (by omega), z0 7 (by omega), false_and, if_false]
        simp
    refine ⟨by rw [e0 0 (by simp)]; exact c1, by rw [e0 1 (by simp)]; exact c2, by rw [e0 2 (by simp)]; exact c3, fun s hs => ?_, kf, d1, by rw [e0 10 (by simp)]; exact d2, by rw [e0 11 (by simp)]; exact d3, fun i hi => by rw [e7 _ (Nat.mod_lt _ (by omega))]; exact d4 i hi⟩
    obtain ⟨s1, s2, s3, s4, s5, s6⟩ := c4 s hs
    exact ⟨by rw [e 1 s (by simp) (by omega)]; exact s1, by rw [e 2 s (by simp) (by omega)]; exact s2, by rw [e 3 s (by simp) (by omega)]; exact s3, by rw [e 4 s (by simp) (by omega)]; exact s4, by rw [e 5 s (by simp) (by omega)]; exact s5, fun f hf => by rw [e6 _ (by omega)]; exact s6 f hf⟩
/-- the state now is remembered -/
theorem px_remember {σ : sw_St} {l : Nat → Nat → Nat} {D : g_D} {U : List g_D} (h6 : l 0 2 ≤ 6) (hD : px_st σ 38 l D) (hU : XU σ l U) (hU20 : U.length ≤ 20) : ∃ σ', F_X4_remember σ 38 = some ((), σ') ∧ XU σ' l ((D :: U).take 20) ∧ ∃ S, pz_sm S σ σ' ∧ ∀ o ∈ S, 62 ≤ o ∧ o ≤ 223 := by
  obtain ⟨nx, b1, b2, b3, b4, b5⟩ := hU
  have hs0 : isSt (64 + 8 * nx) := Or.inr (Or.inr ⟨nx, b1, rfl⟩)
  obtain ⟨σ1, p1, p2, p3⟩ := px_copyFrom (σ := σ) hs0 (Or.inl rfl) (fun i j hi hj => by omega)
  have n62 : 62 ∉ [64 + 8 * nx, 64 + 8 * nx + 1, 64 + 8 * nx + 2, 64 + 8 * nx + 3, 64 + 8 * nx + 4, 64 + 8 * nx + 5, 64 + 8 * nx + 6, 64 + 8 * nx + 7] := by simp; omega
  have n63 : 63 ∉ [64 + 8 * nx, 64 + 8 * nx + 1, 64 + 8 * nx + 2, 64 + 8 * nx + 3, 64 + 8 * nx + 4, 64 + 8 * nx + 5, 64 + 8 * nx + 6, 64 + 8 * nx + 7] := by simp; omega
  have f1 : σ1.1 62 1 = nI nx := by rw [p2.r n62]; exact b2
  have f2 : σ1.1 62 2 = nI U.length := by rw [p2.r n62]; exact b3
  have hrem : nI nx + 1 - (nI nx + 1) / 20 * 20 = nI ((nx + 1) % 20) := by
    rw [nI_1, show (20 : Int32) = nI 20 from rfl, pk_rem (by omega) (by omega) (by omega)]
  have hmin : ∀ τ : sw_St, F_J9_min_7cf53 τ 20 (nI U.length + 1) = some (nI (min 20 (U.length + 1)), τ) := fun τ => by
    rw [nI_1]
    exact px_min (a := 20) (by omega) (by omega)
  have mS : pz_sm (62 :: [64 + 8 * nx, 64 + 8 * nx + 1, 64 + 8 * nx + 2, 64 + 8 * nx + 3, 64 + 8 * nx + 4, 64 + 8 * nx + 5, 64 + 8 * nx + 6, 64 + 8 * nx + 7]) σ (sw_uI (sw_uI σ1 62 1 (nI ((nx + 1) % 20))) 62 2 (nI (min 20 (U.length + 1)))) := ((p2.mono (fun x hx => List.mem_cons_of_mem _ hx)).I List.mem_cons_self _ _).I List.mem_cons_self _ _
  refine ⟨_, ?_, ?_, _, mS, ?_⟩
  · unfold F_X4_remember
    rw [b2, if_pos (pz_inb b1 (by omega)), nI_clamp (by omega), b4 nx b1]
    dsimp only [Option.bind]
    rw [if_pos (sx_of hs0).1, p1]
    dsimp only
    rw [f1, f2, hrem, hmin]
  · refine ⟨(nx + 1) % 20, Nat.mod_lt _ (by omega), ?_, ?_, fun j hj => ?_, fun i E hE => ?_⟩
    · rw [pz_Ik (by decide), pz_Ie rfl rfl]
    · rw [pz_Ie rfl rfl, List.length_take, List.length_cons]
    · show σ1.2.2 63 j = _
      rw [p2.rR n63]
      exact b4 j hj
    · rw [List.getElem?_take] at hE
      by_cases hi : i < 20
      · rw [if_pos hi] at hE
        have mv : ∀ x, x < 20 → ∀ E, px_st σ1 (64 + 8 * x) l E → px_st (sw_uI (sw_uI σ1 62 1 (nI ((nx + 1) % 20))) 62 2 (nI (min 20 (U.length + 1)))) (64 + 8 * x) l E := fun x hx E h => h.mv (fun j hj => by
          funext k
          rw [pz_Io (by omega), pz_Io (by omega)])
        cases i with
        | zero =>
          simp at hE
          subst hE
          rw [show ((nx + 1) % 20 + 19 - 0) % 20 = nx by omega]
          exact mv nx b1 _ (p3 l D h6 hD)
        | succ i =>
          simp at hE
          have hlt : i < U.length := (List.getElem?_eq_some_iff.mp hE).1
          have e : ((nx + 1) % 20 + 19 - (i + 1)) % 20 = (nx + 19 - i) % 20 := by omega
          rw [e]
          refine mv _ (Nat.mod_lt _ (by omega)) _ ((b5 i E hE).mv (fun j hj => (p2 _ ?_).1))
          have hne : (nx + 19 - i) % 20 ≠ nx := by omega
          simp
          omega
      · rw [if_neg hi] at hE
        cases hE
  · intro o ho
    simp at ho
    omega

/-! The class: one sheep, what lures it. -/
def px_ld (σ : sw_St) (w : Nat) (l : Nat → Nat → Nat) (P : Nat → List Nat) : Prop :=
  (w = 6 ∨ w = 19) ∧ σ.2.2 33 0 = some w ∧ σ.1 w 1 = nI (l 0 0) ∧ σ.1 w 2 = nI (l 0 1) ∧ σ.1 w 3 = nI (l 0 2) ∧ σ.1 w 4 = nI (l 0 3) ∧ (∀ f, f < l 0 0 → σ.1 (w + 2) f = nI (l 1 f)) ∧ (∀ k, k < l 0 1 → σ.1 (w + 3) k = nI (l 2 (3 * k)) ∧ σ.1 (w + 4) k = nI (l 2 (3 * k + 1)) ∧ σ.1 (w + 5) k = nI (l 2 (3 * k + 2))) ∧ (∀ s, s < l 0 2 → σ.1 (w + 7) s = nI (l 3 (2 * s)) ∧ σ.1 (w + 8) s = nI (l 3 (2 * s + 1))) ∧
  ∀ j, j < 3 → ∃ a, σ.1 (w + 11) j = nI a ∧ σ.1 (w + 12) j = nI (a + (P j).length) ∧ px_cd σ (w + 10) a (P j)
theorem px_ld.mv {σ σ' : sw_St} {w : Nat} {l : Nat → Nat → Nat} {P : Nat → List Nat} {S : List Nat} (h : px_ld σ w l P) (m : pz_sm S σ σ') (hS : ∀ o ∈ S, 32 ≤ o ∧ o ≠ 33) : px_ld σ' w l P := by
  obtain ⟨hw, a1, a2, a3, a4, a5, a6, a7, a8, a9⟩ := h
  have r : ∀ j, j ≤ 12 → σ'.1 (w + j) = σ.1 (w + j) := fun j hj => (m _ (fun z => by have := hS _ z; omega)).1
  have r0 : σ'.1 w = σ.1 w := r 0 (by omega)
  unfold px_ld
  rw [m.rR (fun z => (hS _ z).2 rfl), r0, r 2 (by omega), r 3 (by omega), r 4 (by omega), r 5 (by omega), r 7 (by omega), r 8 (by omega), r 11 (by omega), r 12 (by omega)]
  refine ⟨hw, a1, a2, a3, a4, a5, a6, a7, a8, fun j hj => ?_⟩
  obtain ⟨a, b1, b2, b3⟩ := a9 j hj
  exact ⟨a, b1, b2, b3.mv (r 10 (by omega))⟩
def px_vw (σ : sw_St) (q day opn cur : Nat) (row : Nat → Nat) (s : Nat) : Prop :=
  (q = 38 ∨ q = 46) ∧ s < 6 ∧ σ.1 q 0 = nI day ∧ σ.1 q 2 = nI opn ∧ σ.1 (q + 1) s = nI (row 0) ∧ σ.1 (q + 2) s = nI (row 1) ∧ σ.1 (q + 3) s = nI (row 2) ∧ σ.1 (q + 4) s = nI (row 3) ∧ σ.1 (q + 5) s = nI cur ∧ ∀ f, f < 8 → σ.1 (q + 6) (8 * s + f) = nI (row (4 + f))
theorem px_vw.mv {σ σ' : sw_St} {q day opn cur s : Nat} {row : Nat → Nat} {S : List Nat} (h : px_vw σ q day opn cur row s) (m : pz_sm S σ σ') (hS : ∀ o ∈ S, o < q ∨ q + 6 < o) : px_vw σ' q day opn cur row s := by
  have r : ∀ j, j ≤ 6 → σ'.1 (q + j) = σ.1 (q + j) := fun j hj => (m _ (fun z => by have := hS _ z; omega)).1
  have r0 : σ'.1 q = σ.1 q := r 0 (by omega)
  unfold px_vw
  rw [r0, r 1 (by omega), r 2 (by omega), r 3 (by omega), r 4 (by omega), r 5 (by omega), r 6 (by omega)]
  exact h
theorem px_ix8 (s f : Nat) : nI s * 8 + nI f = nI (8 * s + f) := by
  rw [show (8 : Int32) = nI 8 from rfl, pk_mul, nI_add, Nat.mul_comm]
theorem px_beyond {σ : sw_St} {w : Nat} {l : Nat → Nat → Nat} {P : Nat → List Nat} {k f : Nat} (hg : g_ld l P) (hl : px_ld σ w l P) (hk : k < l 0 1) (hf : f < 8) : F_X9_beyond σ w (nI k) (nI f) = some (oI (g_bey l k f), σ) := by
  obtain ⟨hw, a1, a2, a3, a4, a5, a6, a7, a8, a9⟩ := hl
  have g0 := hg.1
  have g1 := hg.2.1
  have g2 := hg.2.2.2.2.2.1 k hk
  have hi : sw_inb (nI k) 10 = true := pz_inb (by omega) (by omega)
  obtain ⟨e3, e4, e5⟩ := a7 k hk
  unfold F_X9_beyond S_X9_beyond_37 g_bey
  simp only [ld_O hw, ld_A3 hw, ld_A4 hw, ld_n3 hw, ld_n4 hw, hi, nI_clamp (show k < 2 ^ 31 by omega), e3, e4, nI_eq (show l 2 (3 * k) < 2 ^ 31 by omega) (show f < 2 ^ 31 by omega), nI_eq (show l 2 (3 * k + 1) < 2 ^ 31 by omega) (show f < 2 ^ 31 by omega), if_true]
  by_cases q1 : l 2 (3 * k) = f
  · rw [if_pos q1, if_pos q1]
    rfl
  · rw [if_neg q1, if_neg q1]
    by_cases q2 : l 2 (3 * k + 1) = f
    · rw [if_pos q2, if_pos q2]
      rfl
    · rw [if_neg q2, if_neg q2]
      rfl
/-- the values that stand for a sheep alone -/
def px_vs (σ : sw_St) (l : Nat → Nat → Nat) (day cur : Nat) (row : Nat → Nat) (s : Nat) : Prop := ∀ v, v < 10 → v ≠ 3 → v ≠ 4 → v ≠ 5 → σ.1 35 v = nI (g_en l day cur row s 0 0 v)
theorem g_en_alone {l : Nat → Nat → Nat} {day cur s fld mi v : Nat} {row : Nat → Nat} (h3 : v ≠ 3) (h4 : v ≠ 4) (h5 : v ≠ 5) : g_en l day cur row s fld mi v = g_en l day cur row s 0 0 v := by
  unfold g_en
  simp only [h3, h4, h5, if_false]
theorem px_setSheep {σ : sw_St} {q day opn cur s : Nat} {row : Nat → Nat} (l : Nat → Nat → Nat) (h : px_vw σ q day opn cur row s) : ∃ σ', F_X2_setSheep σ q (nI s) = some ((), σ') ∧ pz_sm [35] σ σ' ∧ px_vs σ' l day cur row s := by
  obtain ⟨hq, hs, b1, b2, b3, b4, b5, b6, b7, b8⟩ := h
  have hi : sw_inb (nI s) 6 = true := pz_inb (by omega) (by omega)
  have n1 : ∀ j, q + j ≠ 35 := fun j => by omega
  have n0 : q ≠ 35 := by omega
  refine ⟨sw_uI (sw_uI (sw_uI (sw_uI (sw_uI (sw_uI (sw_uI σ 35 0 (nI cur)) 35 1 (nI (row 1))) 35 2 (nI day)) 35 6 (nI (row 2))) 35 7 (nI (row 3))) 35 8 (nI s)) 35 9 (nI (row 0)), ?_, ?_, ?_⟩
  · unfold F_X2_setSheep
    simp only [st_O hq, st_A1 hq, st_A2 hq, st_A3 hq, st_A4 hq, st_A5 hq, st_n1 hq, st_n2 hq, st_n3 hq, st_n4 hq, st_n5 hq, hi, nI_clamp (show s < 2 ^ 31 by omega), if_true, pz_Io (n1 _), pz_Io n0, b1, b3, b4, b5, b6, b7]
  · exact (((((((pz_sm.refl _ σ).I (by decide) _ _).I (by decide) _ _).I (by decide) _ _).I (by decide) _ _).I (by decide) _ _).I (by decide) _ _).I (by decide) _ _
  · intro v hv h3 h4 h5
    have k1 : v = 0 ∨ v = 1 ∨ v = 2 ∨ v = 6 ∨ v = 7 ∨ v = 8 ∨ v = 9 := by omega
    rcases k1 with rfl | rfl | rfl | rfl | rfl | rfl | rfl
    · rw [pz_Ik (by decide), pz_Ik (by decide), pz_Ik (by decide), pz_Ik (by decide), pz_Ik (by decide), pz_Ik (by decide), pz_Ie rfl rfl]; rfl
    · rw [pz_Ik (by decide), pz_Ik (by decide), pz_Ik (by decide), pz_Ik (by decide), pz_Ik (by decide), pz_Ie rfl rfl]; rfl
    · rw [pz_Ik (by decide), pz_Ik (by decide), pz_Ik (by decide), pz_Ik (by decide), pz_Ie rfl rfl]; rfl
    · rw [pz_Ik (by decide), pz_Ik (by decide), pz_Ik (by decide), pz_Ie rfl rfl]; rfl
    · rw [pz_Ik (by decide), pz_Ik (by decide), pz_Ie rfl rfl]; rfl
    · rw [pz_Ik (by decide), pz_Ie rfl rfl]; rfl
    · rw [pz_Ie rfl rfl]; rfl
theorem px_setField {σ : sw_St} {w q day opn cur s f : Nat} {row : Nat → Nat} {l : Nat → Nat → Nat} {P : Nat → List Nat} (hg : g_ld l P) (hl : px_ld σ w l P) (h : px_vw σ q day opn cur row s) (hf : f < l 0 0) : F_X2_setField σ q (nI s) (nI f) = some ((), sw_uI (sw_uI σ 35 3 (nI (l 1 f))) 35 4 (nI (row (4 + f)))) := by
  obtain ⟨hq, hs, b1, b2, b3, b4, b5, b6, b7, b8⟩ := h
  obtain ⟨hw, a1, a2, a3, a4, a5, a6, a7, a8, a9⟩ := hl
  have g0 := hg.1
  have hi : sw_inb (nI f) 8 = true := pz_inb (by omega) (by omega)
  have hi2 : sw_inb (nI (8 * s + f)) 48 = true := pz_inb (by omega) (by omega)
  have n1 : ∀ j, q + j ≠ 35 := fun j => by omega
  unfold F_X2_setField
  rw [a1]
  dsimp only [Option.bind]
  simp only [ld_O hw, ld_A2 hw, ld_n2 hw, st_O hq, st_A6 hq, st_n6 hq, hi, px_ix8, hi2, nI_clamp (show f < 2 ^ 31 by omega), nI_clamp (show 8 * s + f < 2 ^ 31 by omega), if_true, pz_Io (n1 _), a6 f hf, b8 f (by omega)]
/-- how much a gap lures -/
theorem px_pull {σ : sw_St} {w q day opn cur s k b : Nat} {row : Nat → Nat} {l : Nat → Nat → Nat} {P : Nat → List Nat} {B : List Int} (hg : g_ld l P) (hl : px_ld σ w l P) (h : px_vw σ q day opn cur row s) (hr : g_rk cur row) (hd : day ≤ 100000) (hk : k < l 0 1) (hb : b < l 0 0) (hvs : px_vs σ l day cur row s) (hB : B.length ≤ 100) (hsk : px_sk σ B) (htp : σ.1 34 2 = nI B.length) :
    ∃ x σ', F_X2_pullBy σ q (nI s) (nI k) (nI b) = some (x, σ') ∧ x.toInt = g_lure l P day cur row s k b ∧ pz_sm [34, 35, 36] σ σ' ∧ px_vs σ' l day cur row s ∧ px_sk σ' B ∧ σ'.1 34 2 = nI B.length := by
  have h2 := h
  obtain ⟨hq, hs, b1, b2, b3, b4, b5, b6, b7, b8⟩ := h
  have hl2 := hl
  obtain ⟨hw, a1, a2, a3, a4, a5, a6, a7, a8, a9⟩ := hl
  have g0 := hg.1
  have g1 := hg.2.1
  have hmi := (hg.2.2.2.2.2.1 k hk).2.2.2.1
  have hi : sw_inb (nI k) 10 = true := pz_inb (by omega) (by omega)
  have n1 : ∀ j, j ≤ 12 → w + j ≠ 35 := fun j hj => by omega
  have m1 : pz_sm [34, 35, 36] σ (sw_uI (sw_uI (sw_uI σ 35 3 (nI (l 1 b))) 35 4 (nI (row (4 + b)))) 35 5 (nI (l 2 (3 * k + 2)))) := (((pz_sm.refl _ σ).I (by decide) _ _).I (by decide) _ _).I (by decide) _ _
  have hl3 := hl2.mv m1 (by decide)
  obtain ⟨a, c1, c2, c3⟩ := hl3.2.2.2.2.2.2.2.2.2 0 (by omega)
  have hE : pe_env 0 (g_env l day cur row s b (l 2 (3 * k + 2))) g_of := g_envok hg hr hd hs (fun _ => hb) hmi (by omega)
  have hlb := hg.2.2.2.2.1 b hb
  have hv : ∀ v, pe_al 0 v = true → ((sw_uI (sw_uI (sw_uI σ 35 3 (nI (l 1 b))) 35 4 (nI (row (4 + b)))) 35 5 (nI (l 2 (3 * k + 2)))).1 35 v).toInt = g_env l day cur row s b (l 2 (3 * k + 2)) v := fun v hv => by
    have e : (sw_uI (sw_uI (sw_uI σ 35 3 (nI (l 1 b))) 35 4 (nI (row (4 + b)))) 35 5 (nI (l 2 (3 * k + 2)))).1 35 v = nI (g_en l day cur row s b (l 2 (3 * k + 2)) v) := by
      by_cases q5 : v = 5
      · rw [q5, pz_Ie rfl rfl]; rfl
      rw [pz_Ik q5]
      by_cases q4 : v = 4
      · rw [q4, pz_Ie rfl rfl]; rfl
      rw [pz_Ik q4]
      by_cases q3 : v = 3
      · rw [q3, pz_Ie rfl rfl]; rfl
      rw [pz_Ik q3, g_en_alone q3 q4 q5]
      exact hvs v (pe_al_lt hv) q3 q4 q5
    have hb1 := hE.1 v hv
    unfold g_env at hb1 ⊢
    rw [e, nI_toInt (by omega)]
  obtain ⟨x, σ', p1, p2, p3, p4, p5⟩ := px_run (kind := 0) (which := 0) hw (by omega) (by omega) hE hB c3 c1 c2 hv hg.2.2.2.2.2.2.2.1 (px_sk_cong (fun j _ => by rw [pz_Io (by decide), pz_Io (by decide), pz_Io (by decide)]) hsk) (by rw [pz_Io (by decide), pz_Io (by decide), pz_Io (by decide)]; exact htp)
  refine ⟨x, σ', ?_, ?_, m1.trans (p5.mono (by decide)), ?_, p3, p4⟩
  · unfold F_X2_pullBy
    rw [px_setField hg hl2 h2 hb]
    dsimp only [Option.bind]
    rw [show (sw_uI (sw_uI σ 35 3 (nI (l 1 b))) 35 4 (nI (row (4 + b)))).2.2 33 0 = some w from a1]
    dsimp only
    rw [if_pos (ld_O hw), if_pos (ld_A5 hw), ld_n5 hw, if_pos hi, nI_clamp (by omega), pz_Io (n1 5 (by omega)), pz_Io (n1 5 (by omega)), (a7 k hk).2.2]
    rw [show (0 : Int32) = nI 0 from rfl, p1]
  · unfold g_lure g_val
    rw [p2]
    rfl
  · intro v hv h3 h4 h5
    rw [p5.r (by decide), pz_Ik h5, pz_Ik h4, pz_Ik h3]
    exact hvs v hv h3 h4 h5
/-- bits of those for which something holds -/
def g_bits (p : Nat → Bool) : Nat → Nat
  | 0 => 0
  | n + 1 => if p n = true then 2 ^ n + g_bits p n else g_bits p n
theorem g_bits_lt (p : Nat → Bool) : ∀ n, g_bits p n < 2 ^ n
  | 0 => by simp [g_bits]
  | n + 1 => by
    have h := g_bits_lt p n
    unfold g_bits
    rw [Nat.pow_succ]
    split <;> omega
theorem g_bits_at (p : Nat → Bool) (k : Nat) : ∀ n, (g_bits p n).testBit k = (decide (k < n) && p k)
  | 0 => by simp [g_bits]
  | n + 1 => by
    have ih := g_bits_at p k n
    have hlt := g_bits_lt p n
    unfold g_bits
    by_cases hk : k = n
    · subst hk
      split
      · next hp => rw [Nat.testBit_two_pow_add_eq, Nat.testBit_lt_two_pow hlt, hp]; simp
      · next hp => rw [Nat.testBit_lt_two_pow hlt]; simp [hp]
    · split
      · rcases Nat.lt_or_gt_of_ne hk with g | g
        · rw [Nat.testBit_two_pow_add_gt g, ih]
          simp [g, Nat.lt_succ_of_lt g]
        · rw [Nat.testBit_lt_two_pow]
          · simp; omega
          · have : 2 ^ (n + 1) ≤ 2 ^ k := Nat.pow_le_pow_right (by omega) g
            rw [Nat.pow_succ] at this
            omega
      · rw [ih]
        congr 1
        simp
        omega
theorem px_bitT {n k : Nat} (hn : n < 2 ^ 31) (hk : k < 31) : ((nI n >>> (nI k &&& 31)) &&& 1 = 1 ↔ n.testBit k = true) := by
  have h := Nat.testBit_eq_decide_div_mod_eq (x := n) (i := k)
  rw [pz_bit hn hk, h, decide_eq_true_eq, show (1 : Int32) = nI 1 from rfl, nI_eq (by omega) (by omega)]
theorem px_or {p : Nat → Bool} {n : Nat} (hn : n < 31) : nI (g_bits p n) ||| nI (2 ^ n) = nI (2 ^ n + g_bits p n) := by
  have h := fa_or_sum (a := g_bits p n) (k := n) 1 (g_bits_lt p n)
  rw [Nat.mul_one] at h
  rw [← h, fa_or, fa_or, Nat.or_comm]
theorem px_rowA {o4 N : Nat} (h : o4 = 37 ∧ N = 10 ∨ o4 = 56 ∧ N = 210) : sw_isA sw_gX o4 0 = true ∧ (sw_isA sw_gX o4 0 || sw_isA sw_gX o4 1 || sw_isA sw_gX o4 2 || sw_isA sw_gX o4 3) = true ∧ sw_ln sw_gX o4 = N := by
  rcases h with ⟨rfl, rfl⟩ | ⟨rfl, rfl⟩ <;> refine ⟨?_, ?_, ?_⟩ <;> decide +kernel
theorem px_lloop {w q day opn cur s o4 N fr : Nat} {row : Nat → Nat} {l : Nat → Nat → Nat} {P : Nat → List Nat} {B : List Int} {x3 : Int32} {m : Nat → Bool} (hg : g_ld l P) (hr : g_rk cur row) (hd : day ≤ 100000) (hB : B.length ≤ 100) (ho4 : o4 = 37 ∧ N = 10 ∨ o4 = 56 ∧ N = 210) (hfr : fr + 10 ≤ N) (hm : ∀ k, k < 10 → ((x3 >>> (nI k &&& 31)) &&& 1 = 0 ↔ m k = false)) :
    ∀ (n fuel k : Nat) (σ : sw_St), px_ld σ w l P → px_vw σ q day opn cur row s → px_vs σ l day cur row s → px_sk σ B → σ.1 34 2 = nI B.length → k + n = l 0 1 → n < fuel →
    ∃ σ', L_X2_luring_45 fuel σ q (nI s) x3 o4 (nI fr) (nI (row 0)) (nI (g_bits (fun j => decide (0 < g_pull l P m day cur row s j)) k)) (nI k) = some (nI (g_bits (fun j => decide (0 < g_pull l P m day cur row s j)) (l 0 1)), σ') ∧ (∀ j, k ≤ j → j < l 0 1 → 0 < g_pull l P m day cur row s j → (σ'.1 o4 (fr + j)).toInt = g_pull l P m day cur row s j) ∧ (∀ i, i < fr + k ∨ fr + 10 ≤ i → σ'.1 o4 i = σ.1 o4 i) ∧ pz_sm [34, 35, 36, o4] σ σ' ∧ px_sk σ' B ∧ σ'.1 34 2 = nI B.length
  | 0, fuel + 1, k, σ, hl, hv, hvs, hsk, htp, hk, hf => by
    have g1 := hg.2.1
    refine ⟨σ, ?_, fun j h1 h2 _ => by omega, fun _ _ => rfl, pz_sm.refl _ _, hsk, htp⟩
    show S_X2_luring_45 _ σ q (nI s) x3 o4 (nI fr) (nI (row 0)) _ (nI k) = _
    unfold S_X2_luring_45 S_X2_luring_147
    rw [hl.2.1]
    dsimp only [Option.bind]
    rw [if_pos (ld_O hl.1), hl.2.2.2.1, if_pos (by rw [nI_leI (by omega) (by omega)]; omega), show k = l 0 1 by omega]
  | n + 1, fuel + 1, k, σ, hl, hv, hvs, hsk, htp, hk, hf => by
    have g0 := hg.1
    have g1 := hg.2.1
    have hkl : k < l 0 1 := by omega
    have hN : N ≤ 210 := by omega
    obtain ⟨hA, hAA, hN2⟩ := px_rowA ho4
    have hin : sw_inb (nI (fr + k)) N = true := pz_inb (by omega) (by omega)
    have hrow8 := hr.2.1
    -- the rest of the loop, once this gap is done
    have go : ∀ σ1 : sw_St, pz_sm [34, 35, 36, o4] σ σ1 → px_vs σ1 l day cur row s → px_sk σ1 B → σ1.1 34 2 = nI B.length → (0 < g_pull l P m day cur row s k → (σ1.1 o4 (fr + k)).toInt = g_pull l P m day cur row s k) → (∀ i, i ≠ fr + k → σ1.1 o4 i = σ.1 o4 i) →
        ∃ σ', L_X2_luring_45 fuel σ1 q (nI s) x3 o4 (nI fr) (nI (row 0)) (nI (g_bits (fun j => decide (0 < g_pull l P m day cur row s j)) (k + 1))) (nI (k + 1)) = some (nI (g_bits (fun j => decide (0 < g_pull l P m day cur row s j)) (l 0 1)), σ') ∧ (∀ j, k ≤ j → j < l 0 1 → 0 < g_pull l P m day cur row s j → (σ'.1 o4 (fr + j)).toInt = g_pull l P m day cur row s j) ∧ (∀ i, i < fr + k ∨ fr + 10 ≤ i → σ'.1 o4 i = σ.1 o4 i) ∧ pz_sm [34, 35, 36, o4] σ σ' ∧ px_sk σ' B ∧ σ'.1 34 2 = nI B.length := fun σ1 m1 vs1 sk1 tp1 pl1 ot1 => by
      have hq := hv.1
      obtain ⟨σ', p1, p2, p3, p4, p5, p6⟩ := px_lloop hg hr hd hB ho4 hfr hm n fuel (k + 1) σ1 (hl.mv m1 (by intro o ho; simp at ho; omega)) (hv.mv m1 (by intro o ho; simp at ho; omega)) vs1 sk1 tp1 (by omega) (by omega)
      refine ⟨σ', p1, fun j h1 h2 h3 => ?_, fun i hi => ?_, m1.trans p4, p5, p6⟩
      · by_cases e : j = k
        · rw [e, p3 (fr + k) (by omega)]
          exact pl1 (e ▸ h3)
        · exact p2 j (by omega) h2 h3
      · rw [p3 i (by omega), ot1 i (by omega)]
    have hbits : ∀ z : Bool, decide (0 < g_pull l P m day cur row s k) = z → g_bits (fun j => decide (0 < g_pull l P m day cur row s j)) (k + 1) = if z = true then 2 ^ k + g_bits (fun j => decide (0 < g_pull l P m day cur row s j)) k else g_bits (fun j => decide (0 < g_pull l P m day cur row s j)) k := fun z hz => by
      rw [← hz]
      rfl
    show ∃ σ', S_X2_luring_45 _ σ q (nI s) x3 o4 (nI fr) (nI (row 0)) _ (nI k) = _ ∧ _
    unfold S_X2_luring_45 S_X2_luring_130 S_X2_luring_137 S_X2_luring_138 S_X2_luring_141
    rw [hl.2.1]
    dsimp only [Option.bind]
    rw [if_pos (ld_O hl.1), hl.2.2.2.1, if_neg (by rw [nI_leI (by omega) (by omega)]; omega), if_pos hAA, hN2, nI_add, if_neg (by rw [nI_leI (by omega) (by omega)]; omega), if_pos (ld_O hl.1), px_beyond hg hl hkl hrow8]
    dsimp only
    rw [nI_1]
    cases hb : g_bey l k (row 0) with
    | none =>
      have hp0 : g_pull l P m day cur row s k = 0 := by unfold g_pull; rw [hb]
      rw [if_pos (by rfl)]
      obtain ⟨σ', p⟩ := go σ (pz_sm.refl _ _) hvs hsk htp (fun z => by omega) (fun _ _ => rfl)
      rw [hbits false (by rw [hp0]; rfl), if_neg (by decide)] at p
      exact ⟨σ', p⟩
    | some b =>
      have hb8 := g_bey_lt hg hkl hb
      rw [if_neg (by exact pz_nm1 (by omega))]
      by_cases hmk : m k = true
      · rw [if_neg (fun z => by rw [(hm k (by omega)).mp z] at hmk; cases hmk)]
        obtain ⟨x, σ1, p1, p2, p3, p4, p5, p6⟩ := px_pull hg hl hv hr hd hkl hb8.1 hvs hB hsk htp
        have hpl : g_pull l P m day cur row s k = g_lure l P day cur row s k b := by unfold g_pull; rw [hb]; dsimp only; rw [if_pos hmk]
        rw [show oI (some b) = nI b from rfl, p1]
        dsimp only
        rw [if_pos hA, if_pos hin, if_pos hA, if_pos hin, nI_clamp (by omega), pz_Ie rfl rfl]
        have m2 : pz_sm [34, 35, 36, o4] σ (sw_uI σ1 o4 (fr + k) x) := (p3.mono (by simp)).I (by simp) _ _
        have e35 : ∀ o, o = 34 ∨ o = 35 ∨ o = 36 → o ≠ o4 := fun o ho => by omega
        have r4 : σ1.1 o4 = σ.1 o4 := (p3 o4 (by simp; omega)).1
        obtain ⟨σ', p⟩ := go (sw_uI σ1 o4 (fr + k) x) m2 (fun v a1 a2 a3 a4 => by rw [pz_Io (e35 35 (by omega))]; exact p4 v a1 a2 a3 a4) (px_sk_cong (fun j _ => by rw [pz_Io (e35 36 (by omega))]) p5) (by rw [pz_Io (e35 34 (by omega))]; exact p6) (fun _ => by rw [pz_Ie rfl rfl, p2, hpl]) (fun i hi => by rw [pz_Ik hi, r4])
        by_cases hx : x ≤ 0
        · have hx2 := hx
          rw [fa_le, p2, show (0 : Int32).toInt = 0 from by decide, ← hpl] at hx2
          rw [if_pos hx]
          rw [hbits false (by simp; omega), if_neg (by decide)] at p
          refine ⟨σ', ?_⟩
          rw [show nI (g_bits (fun j => decide (0 < g_pull l P m day cur row s j)) k) ||| (0 : Int32) = nI (g_bits (fun j => decide (0 < g_pull l P m day cur row s j)) k) from by rw [show (0 : Int32) = nI 0 from rfl, fa_or, Nat.or_zero]]
          exact p
        · have hx2 := hx
          rw [fa_le, p2, show (0 : Int32).toInt = 0 from by decide, ← hpl] at hx2
          rw [if_neg hx]
          rw [hbits true (by simp; omega), if_pos rfl] at p
          refine ⟨σ', ?_⟩
          rw [pz_shl (by omega), px_or (by omega)]
          exact p
      · have hmf : m k = false := by cases h : m k; rfl; exact absurd h hmk
        have hp0 : g_pull l P m day cur row s k = 0 := by unfold g_pull; rw [hb]; dsimp only; rw [if_neg hmk]
        rw [if_pos ((hm k (by omega)).mpr hmf)]
        obtain ⟨σ', p⟩ := go σ (pz_sm.refl _ _) hvs hsk htp (fun z => by omega) (fun _ _ => rfl)
        rw [hbits false (by rw [hp0]; rfl), if_neg (by decide)] at p
        exact ⟨σ', p⟩

/-! Refusals; states copied, remembered, taken back. -/
theorem g_in_no {a : Int32} {n : Nat} (h : ¬ g_in a n = true) (hn : n < 2 ^ 31) : a < 0 ∨ (¬ a < 0 ∧ nI n ≤ a ∧ ¬ a < nI n) := by
  have h1 : ¬ (0 ≤ a.toInt ∧ a.toInt < n) := fun z => h (decide_eq_true z)
  rw [fa_lt, fa_le, fa_lt, nI_toInt hn, show (0 : Int32).toInt = 0 from by decide]
  omega
/-- one more is refused -/
def g_rf (rf : Nat → Int32) (j : Nat) : Nat → Int32 := fun i => if i = j then rf j + 1 else rf i
theorem px_refuse {σ : sw_St} {j : Nat} (hj : j < 6) : F_X10_refuse σ (nI j) = some (-1, sw_uI σ 226 j (σ.1 226 j + 1)) := by
  unfold F_X10_refuse
  rw [if_pos (pz_inb hj (by omega)), if_pos (pz_inb hj (by omega)), nI_clamp (by omega)]
theorem RX.ref {σ : sw_St} {w : Nat} {l : Nat → Nat → Nat} {P : Nat → List Nat} {nm : g_N} {D : g_D} {U : List g_D} {F : List (Nat × Nat × Nat)} {T : List Nat} {sd : Nat} {rf : Nat → Int32} {ft : Int32 × Int32} {im : List Nat} {j : Nat} (hj : j < 6) (h : RX σ w l P nm D U F T sd rf ft im) : RX (sw_uI σ 226 j (σ.1 226 j + 1)) w l P nm D U F T sd (g_rf rf j) ft im := by
  have m : pz_sm [226] σ (sw_uI σ 226 j (σ.1 226 j + 1)) := (pz_sm.refl _ σ).I (by decide) _ _
  refine h.gen m (by decide) rfl (h.2.2.2.1.mv (fun i hi => (m _ (by simp; omega)).1)) (h.2.2.2.2.1.mv m (by decide)) (h.2.2.2.2.2.1.mv (m.r (by decide) 4) (m 55 (by decide)).1) (h.2.2.2.2.2.2.1.mv (m.r (by decide) 1) (m 1 (by decide)).1) (by rw [m.r (by decide)]; exact h.2.2.2.2.2.2.2.1) (fun i hi => ?_) (by rw [m.r (by decide), m.r (by decide)]; exact h.2.2.2.2.2.2.2.2.2.1) (h.2.2.2.2.2.2.2.2.2.2.1.mv (m.r (by decide) 1) (m 225 (by decide)).1) (by rw [m.r (by decide)]; exact h.2.2.2.2.2.2.2.2.2.2.2.1) (h.2.2.2.2.2.2.2.2.2.2.2.2.mv (m 54 (by decide)).2.2)
  unfold g_rf
  by_cases e : i = j
  · rw [e, pz_Ie rfl rfl, if_pos rfl, h.2.2.2.2.2.2.2.2.1 j hj]
  · rw [pz_Ik e, if_neg e]
    exact h.2.2.2.2.2.2.2.2.1 i hi
theorem RM.ref {τ : sw_St} {l : Nat → Nat → Nat} {P : Nat → List Nat} {nm : g_N} {D : g_D} {U : List g_D} {F : List (Nat × Nat × Nat)} {T : List Nat} {sd : Nat} {rf : Nat → Int32} {ft : Int32 × Int32} {im : List Nat} {j : Nat} (hj : j < 6) (h : RM τ l P nm D U F T sd rf ft im) : RM (sw_uI τ 2 j (τ.1 2 j + 1)) l P nm D U F T sd (g_rf rf j) ft im := by
  have m : pm_sm [2] [] τ (sw_uI τ 2 j (τ.1 2 j + 1)) := (pm_sm.refl _ _ τ).I (by decide) (by decide) _ _
  have r : ∀ o, o ≠ 0 → o ∉ [2] → (sw_uI τ 2 j (τ.1 2 j + 1)).1 o = τ.1 o := fun o h0 ho => (m.1 o h0 ho).1
  have rk : ∀ k, (sw_uI τ 2 j (τ.1 2 j + 1)).1 0 k = τ.1 0 k := fun k => m.2.1 k (by simp)
  refine h.gen (h.1.mv m (by unfold pm_LS; decide)) rfl (h.2.2.1.mvr (r 37 (by decide) (by decide))) (h.2.2.2.1.mv (rk 68) (rk 67) (r 46 (by decide) (by decide))) (h.2.2.2.2.1.mv (rk 63) (r 44 (by decide) (by decide))) (h.2.2.2.2.2.1.mv (rk 1) (r 1 (by decide) (by decide))) h.2.2.2.2.2.2.1 (fun i hi => ?_) (by rw [rk 7, rk 8]; exact h.2.2.2.2.2.2.2.2.1) (h.2.2.2.2.2.2.2.2.2.1.mv (rk 105) (r 74 (by decide) (by decide))) (by rw [rk 52, rk 58]; exact h.2.2.2.2.2.2.2.2.2.2.1) (h.2.2.2.2.2.2.2.2.2.2.2.mv m (by decide))
  unfold g_rf
  by_cases e : i = j
  · rw [e, pz_Ie rfl rfl, if_pos rfl, h.2.2.2.2.2.2.2.1 j hj]
  · rw [pz_Ik e, if_neg e]
    exact h.2.2.2.2.2.2.2.1 i hi
/-- refused on both sides -/
theorem RR.ref {x m : sw_St} (h : RR x m) {j : Nat} (hj : j < 6) : RR (sw_uI x 226 j (x.1 226 j + 1)) (sw_uI m 2 j (m.1 2 j + 1)) := by
  obtain ⟨w, l, P, nm, D, U, F, T, sd, rf, ft, im, hG, hX, hM⟩ := h
  exact ⟨w, l, P, nm, D, U, F, T, sd, g_rf rf j, ft, im, hG, hX.ref hj, hM.ref hj⟩

theorem op_37 : ll_37 RR := by
  intro x m hR a
  obtain ⟨w, l, P, nm, D, U, F, T, sd, rf, ft, im, hG, hX, hM⟩ := hR
  have hR : RR x m := ⟨w, l, P, nm, D, U, F, T, sd, rf, ft, im, hG, hX, hM⟩
  unfold F_X10_status F_X11_status S_X10_status_10 S_X10_status_20 S_X11_status_22
  rw [pm_inL m a 5 (by decide)]
  dsimp only [Option.bind]
  by_cases h : g_in a 6 = true
  · obtain ⟨j, hj, rfl⟩ := g_in_of h
    rw [if_pos h, if_neg pz_10]
    refine ⟨rf j, x, m, ?_, ?_, hR⟩
    · rw [if_neg (nI_pos (by omega)), if_pos (show nI j < (6 : Int32) from nI_lt (b := 6) hj (by omega)), if_pos (pz_inb hj (by omega)), nI_clamp (by omega), hX.2.2.2.2.2.2.2.2.1 j hj]
    · rw [if_pos (pz_inb hj (by omega)), nI_clamp (by omega), hM.2.2.2.2.2.2.2.1 j hj]
  · rw [if_neg h, if_pos rfl]
    refine ⟨-1, x, m, ?_, rfl, hR⟩
    rcases g_in_no h (by omega) with q | ⟨q1, q2, q3⟩
    · rw [if_pos q]
    · rw [if_neg q1, if_neg (show ¬ a < (6 : Int32) from q3)]
theorem sB_255 {b : Nat} (h : b < 256) : sB b &&& 255 = nI b := sc_k8 b h
theorem op_35 : ll_35 RR := by
  intro x m hR a
  obtain ⟨w, l, P, nm, D, U, F, T, sd, rf, ft, im, hG, hX, hM⟩ := hR
  have hR : RR x m := ⟨w, l, P, nm, D, U, F, T, sd, rf, ft, im, hG, hX, hM⟩
  have h94 := hG.2.2.2.2.2.2.2.1
  obtain ⟨x1, x2⟩ := hX.2.2.2.2.2.2.2.2.2.2.1
  obtain ⟨m1, m2⟩ := hM.2.2.2.2.2.2.2.2.2.1
  unfold F_X10_octet F_X11_octet S_X10_octet_15 S_X10_octet_32 S_X11_octet_21 S_X11_octet_22
  rw [x1, m1]
  by_cases h : g_in a im.length = true
  · obtain ⟨j, hj, rfl⟩ := g_in_of h
    have hb : im.getD j 0 < 256 := hG.2.2.2.2.2.2.2.2 _ (by rw [List.getD_eq_getElem?_getD, List.getElem?_eq_getElem hj]; exact List.getElem_mem hj)
    refine ⟨nI (im.getD j 0), x, m, ?_, ?_, hR⟩
    · rw [if_neg (nI_pos (by omega)), if_pos (nI_lt hj (by omega)), if_pos (pz_inb (by omega) (by omega)), nI_clamp (by omega), x2 j hj, sB_255 hb]
    · rw [if_neg (nI_pos (by omega)), if_neg (nI_ge hj (by omega)), if_pos (pz_inb (by omega) (by omega)), nI_clamp (by omega), m2 j hj]
  · refine ⟨-1, x, m, ?_, ?_, hR⟩
    · rcases g_in_no h (by omega) with q | ⟨q1, q2, q3⟩
      · rw [if_pos q]
      · rw [if_neg q1, if_neg q3]
    · rcases g_in_no h (by omega) with q | ⟨q1, q2, q3⟩
      · rw [if_pos q]
      · rw [if_neg q1, if_pos q2]
theorem op_32 : ll_32 RR := by
  intro x m hR a
  obtain ⟨w, l, P, nm, D, U, F, T, sd, rf, ft, im, hG, hX, hM⟩ := hR
  have hR : RR x m := ⟨w, l, P, nm, D, U, F, T, sd, rf, ft, im, hG, hX, hM⟩
  unfold F_X10_seed F_X11_seed
  by_cases h : 0 ≤ a
  · have h1 := h
    rw [fa_le, show (0 : Int32).toInt = 0 from by decide] at h1
    obtain ⟨j, hj, rfl⟩ := nI_of (x := a) (by rw [fa_lt, show (0 : Int32).toInt = 0 from by decide]; omega)
    rw [if_pos h, if_pos h]
    refine ⟨1, _, _, rfl, rfl, w, l, P, nm, D, U, F, T, j, rf, ft, im, ⟨hG.1, hG.2.1, hG.2.2.1, hG.2.2.2.1, hG.2.2.2.2.1, hG.2.2.2.2.2.1, hj, hG.2.2.2.2.2.2.2⟩, ?_, ?_⟩
    · have ms : pz_sm [0] x (sw_uI x 0 13 (nI j)) := (pz_sm.refl _ x).I (by decide) _ _
      exact hX.gen ms (by decide) rfl (hX.2.2.2.1.mv (fun i hi => (ms _ (by simp)).1)) (hX.2.2.2.2.1.mv ms (by decide)) (hX.2.2.2.2.2.1.mv (ms.r (by decide) 4) (ms 55 (by decide)).1) (hX.2.2.2.2.2.2.1.mv (pz_Ik (by decide) 0) (ms 1 (by decide)).1) (pz_Ie rfl rfl) (fun i hi => by rw [ms.r (by decide)]; exact hX.2.2.2.2.2.2.2.2.1 i hi) (by rw [ms.r (by decide), ms.r (by decide)]; exact hX.2.2.2.2.2.2.2.2.2.1) (hX.2.2.2.2.2.2.2.2.2.2.1.mv (ms.r (by decide) 1) (ms 225 (by decide)).1) (by rw [ms.r (by decide)]; exact hX.2.2.2.2.2.2.2.2.2.2.2.1) (hX.2.2.2.2.2.2.2.2.2.2.2.2.mv (ms 54 (by decide)).2.2)
    · rw [nI_l hj]
      exact hM.gen hM.1 (by funext k; exact pz_Lo (by decide) k) hM.2.2.1 hM.2.2.2.1 hM.2.2.2.2.1 hM.2.2.2.2.2.1 (pz_Le rfl rfl) hM.2.2.2.2.2.2.2.1 hM.2.2.2.2.2.2.2.2.1 hM.2.2.2.2.2.2.2.2.2.1 hM.2.2.2.2.2.2.2.2.2.2.1 hM.2.2.2.2.2.2.2.2.2.2.2
  · rw [if_neg h, if_neg h, show (5 : Int32) = nI 5 from rfl, px_refuse (by omega)]
    exact ⟨0, _, _, rfl, rfl, hR.ref (by omega)⟩
theorem op_1 : ll_1 RR := by
  intro x m hR a
  obtain ⟨w, l, P, nm, D, U, F, T, sd, rf, ft, im, hG, hX, hM⟩ := hR
  have hR : RR x m := ⟨w, l, P, nm, D, U, F, T, sd, rf, ft, im, hG, hX, hM⟩
  have ht := hG.2.2.2.2.2.1.1
  obtain ⟨x1, x2⟩ := hX.2.2.2.2.2.2.1
  obtain ⟨m1, m2⟩ := hM.2.2.2.2.2.1
  have hno : ∀ z : Int32, (F_X10_refuse x 0).bind (fun q1 => some ((0 : Int32), q1.2)) = some (0, sw_uI x 226 0 (x.1 226 0 + 1)) := fun _ => by
    rw [show (0 : Int32) = nI 0 from rfl, px_refuse (by omega)]
    rfl
  unfold F_X10_end F_X11_end S_X10_end_12 S_X11_end_12
  rw [x1, m1, hno 0]
  by_cases h0 : a < 0
  · rw [if_pos h0, if_pos h0]
    exact ⟨0, _, _, rfl, rfl, hR.ref (by omega)⟩
  rw [if_neg h0, if_neg h0]
  obtain ⟨j, hj, rfl⟩ := nI_of h0
  by_cases h1 : nI j ≤ nI T.length
  · rw [if_pos h1, if_pos h1]
    rw [nI_leI hj (by omega)] at h1
    have hlen : (T.take j).length = j := by rw [List.length_take]; omega
    have hget : ∀ i, i < j → (T.take j).getD i 0 = T.getD i 0 := fun i hi => by
      rw [List.getD_eq_getElem?_getD, List.getD_eq_getElem?_getD, List.getElem?_take_of_lt hi]
    refine ⟨1, _, _, rfl, rfl, w, l, P, nm, D, U, F, T.take j, sd, rf, ft, im, ⟨hG.1, hG.2.1, hG.2.2.1, hG.2.2.2.1, hG.2.2.2.2.1, ⟨by omega, fun b hb => hG.2.2.2.2.2.1.2 b (List.mem_of_mem_take hb)⟩, hG.2.2.2.2.2.2⟩, ?_, ?_⟩
    · have ms : pz_sm [0] x (sw_uI x 0 1 (nI j)) := (pz_sm.refl _ x).I (by decide) _ _
      refine hX.gen ms (by decide) rfl (hX.2.2.2.1.mv (fun i hi => (ms _ (by simp)).1)) (hX.2.2.2.2.1.mv ms (by decide)) (hX.2.2.2.2.2.1.mv (ms.r (by decide) 4) (ms 55 (by decide)).1) ⟨by rw [hlen]; exact pz_Ie rfl rfl, fun i hi => ?_⟩ (by rw [pz_Ik (by decide)]; exact hX.2.2.2.2.2.2.2.1) (fun i hi => by rw [ms.r (by decide)]; exact hX.2.2.2.2.2.2.2.2.1 i hi) (by rw [ms.r (by decide), ms.r (by decide)]; exact hX.2.2.2.2.2.2.2.2.2.1) (hX.2.2.2.2.2.2.2.2.2.2.1.mv (ms.r (by decide) 1) (ms 225 (by decide)).1) (by rw [ms.r (by decide)]; exact hX.2.2.2.2.2.2.2.2.2.2.2.1) (hX.2.2.2.2.2.2.2.2.2.2.2.2.mv (ms 54 (by decide)).2.2)
      rw [hlen] at hi
      rw [ms.r (by decide), hget i hi]
      exact x2 i (by omega)
    · have ms : pm_sm [] [1] m (sw_uI m 0 1 (nI j)) := (pm_sm.refl _ _ m).K (by decide) _
      have r : ∀ o, o ≠ 0 → (sw_uI m 0 1 (nI j)).1 o = m.1 o := fun o h0 => (ms.1 o h0 (by simp)).1
      have rk : ∀ k, k ≠ 1 → (sw_uI m 0 1 (nI j)).1 0 k = m.1 0 k := fun k hk => ms.2.1 k (by simpa using hk)
      refine hM.gen (hM.1.mv ms (by unfold pm_LS; decide)) rfl (hM.2.2.1.mvr (r 37 (by decide))) (hM.2.2.2.1.mv (rk 68 (by decide)) (rk 67 (by decide)) (r 46 (by decide))) (hM.2.2.2.2.1.mv (rk 63 (by decide)) (r 44 (by decide))) ⟨by rw [hlen]; exact pz_Ie rfl rfl, fun i hi => ?_⟩ hM.2.2.2.2.2.2.1 (fun i hi => by rw [r 2 (by decide)]; exact hM.2.2.2.2.2.2.2.1 i hi) (by rw [rk 7 (by decide), rk 8 (by decide)]; exact hM.2.2.2.2.2.2.2.2.1) (hM.2.2.2.2.2.2.2.2.2.1.mv (rk 105 (by decide)) (r 74 (by decide))) (by rw [rk 52 (by decide), rk 58 (by decide)]; exact hM.2.2.2.2.2.2.2.2.2.2.1) (hM.2.2.2.2.2.2.2.2.2.2.2.mv ms (by decide))
      rw [hlen] at hi
      rw [r 1 (by decide), hget i hi]
      exact m2 i (by omega)
  · rw [if_neg h1, if_neg h1]
    exact ⟨0, _, _, rfl, rfl, hR.ref (by omega)⟩
theorem op_7 : ll_7 RR := by
  intro x m hR a b
  obtain ⟨w, l, P, nm, D, U, F, T, sd, rf, ft, im, hG, hX, hM⟩ := hR
  have hR : RR x m := ⟨w, l, P, nm, D, U, F, T, sd, rf, ft, im, hG, hX, hM⟩
  have hw := hX.1.1
  have g1 := hG.1.2.1
  unfold F_X10_gap F_X11_gap S_X11_gap_21 S_X11_gap_52
  rw [px_isGap hG.1 hX.1, pm_isGap hG.1 hM.1]
  dsimp only [Option.bind]
  by_cases h : g_in a (l 0 1) = true
  · obtain ⟨k, hk, rfl⟩ := g_in_of h
    obtain ⟨e3, e4, e5⟩ := hX.1.2.2.2.2.2.2.2.1 k hk
    rw [if_pos h, if_neg pz_10, if_neg pz_10, pm_inL m b 3 (by decide), hX.1.2.1]
    dsimp only
    have hi : sw_inb (nI k) 10 = true := pz_inb (by omega) (by omega)
    have ck : k < 2 ^ 31 := by omega
    simp only [hi, if_true, nI_clamp ck, ld_O hw, ld_A3 hw, ld_n3 hw, ld_A4 hw, ld_n4 hw, ld_A5 hw, ld_n5 hw, e3, e4, e5]
    have mg : ∀ j, j < 3 → (if sw_inb (30 + 3 * nI k + nI j) 60 = true then some (m.1 31 (30 + 3 * nI k + nI j).toNatClampNeg, m) else none) = some (nI (l 2 (3 * k + j)), m) := fun j hj => by
      rw [pm_ix, nI_add, if_pos (pz_inb (by omega) (by omega)), nI_clamp (by omega), show 30 + 3 * k + j = 30 + (3 * k + j) by omega, hM.1.2.2.2.2.2.1 _ (by omega)]
    by_cases h4 : g_in b 4 = true
    · obtain ⟨j, hj, rfl⟩ := g_in_of h4
      rw [if_pos h4, if_neg pz_10]
      have k1 : j = 0 ∨ j = 1 ∨ j = 2 ∨ j = 3 := by omega
      rcases k1 with rfl | rfl | rfl | rfl
      · exact ⟨_, x, m, by rw [if_pos (by decide)], by rw [if_neg (by decide)]; exact mg 0 (by omega), hR⟩
      · exact ⟨_, x, m, by rw [if_neg (by decide), if_pos (by decide)], by rw [if_neg (by decide)]; exact mg 1 (by omega), hR⟩
      · exact ⟨_, x, m, by rw [if_neg (by decide), if_neg (by decide), if_pos (by decide)], by rw [if_neg (by decide)]; exact mg 2 (by omega), hR⟩
      · have ho : D.1 2 < 2 ^ 31 := by
          have h1 := hG.2.2.1.2.2.1
          have h2 : 2 ^ l 0 1 ≤ 2 ^ 10 := Nat.pow_le_pow_right (by omega) g1
          omega
        refine ⟨nI (if (D.1 2).testBit k = true then 1 else 0), x, m, ?_, ?_, hR⟩
        · rw [if_neg (by decide), if_neg (by decide), if_neg (by decide), if_pos (by decide), hX.2.2.2.1.2.2.1, pz_bit ho (by omega)]
          have := Nat.testBit_eq_decide_div_mod_eq (x := D.1 2) (i := k)
          congr 3
          rw [this]
          by_cases q : D.1 2 / 2 ^ k % 2 = 1
          · rw [if_pos (decide_eq_true q), q]
          · rw [if_neg (by simp; omega)]
            omega
        · rw [if_pos (by decide), pm_ad, if_pos (pz_inb (by omega) (by omega)), nI_clamp (by omega)]
          have := hM.2.2.1.2.2.1 k hk
          rw [Nat.zero_add] at this
          rw [this]
    · rw [if_neg h4, if_pos rfl]
      have hne : ∀ j, j < 4 → ¬ b = nI j := fun j hj z => h4 (by rw [z]; exact g_in_nI hj (by omega))
      exact ⟨-1, x, m, by rw [if_neg (show ¬ b = 0 from hne 0 (by omega)), if_neg (show ¬ b = 1 from hne 1 (by omega)), if_neg (show ¬ b = 2 from hne 2 (by omega)), if_neg (show ¬ b = 3 from hne 3 (by omega))], rfl, hR⟩
  · rw [if_neg h, if_pos rfl, if_pos rfl]
    exact ⟨-1, x, m, rfl, rfl, hR⟩
theorem op_8 : ll_8 RR := by
  intro x m hR a b
  obtain ⟨w, l, P, nm, D, U, F, T, sd, rf, ft, im, hG, hX, hM⟩ := hR
  have hR : RR x m := ⟨w, l, P, nm, D, U, F, T, sd, rf, ft, im, hG, hX, hM⟩
  have hw := hX.1.1
  have g2 := hG.1.2.2.1
  unfold F_X10_sheep F_X11_sheep
  rw [px_isSheep hG.1 hX.1, pm_isSheep hG.1 hM.1]
  dsimp only [Option.bind]
  by_cases h : g_in a (l 0 2) = true
  · obtain ⟨s, hs, rfl⟩ := g_in_of h
    obtain ⟨s1, s2, s3, s4, s5, s6⟩ := hX.2.2.2.1.2.2.2.1 s hs
    have ms := fun j hj => hM.2.2.1.2.2.2.1 s j hs hj
    have hmv := hM.2.2.1.vw hM.1 hs g2 hM.2.2.2.2.2.2.2.2.2.2.1.1
    have hi : sw_inb (nI s) 6 = true := pz_inb (by omega) (by omega)
    have cs : s < 2 ^ 31 := by omega
    rw [if_pos h, if_neg pz_10, if_neg pz_10, hX.1.2.1]
    dsimp only
    simp only [hi, if_true, nI_clamp cs, s1, s2, s3, s4, s5, ld_O hw, ld_A7 hw, ld_n7 hw, (hX.1.2.2.2.2.2.2.2.2.1 s hs).1]
    rw [pm_fieldOf (by omega), pm_curiousOf (by omega), pm_woolOf (by omega), pm_crimpOf (by omega), pm_ledOf (by omega), hmv.2.2.2.1]
    have e7 : F_X11_homeOf m (nI s) = some (nI (l 3 (2 * s)), m) := by
      unfold F_X11_homeOf
      rw [pm_ix, if_pos (pz_inb (by omega) (by omega)), nI_clamp (by omega), hM.1.2.2.2.2.2.2.1 _ (by omega)]
    rw [e7, show 12 + 12 * s = 0 + (12 + 12 * s + 0) by omega, ms 0 (by omega), show 13 + 12 * s = 0 + (12 + 12 * s + 1) by omega, ms 1 (by omega), show 14 + 12 * s = 0 + (12 + 12 * s + 2) by omega, ms 2 (by omega), show 15 + 12 * s = 0 + (12 + 12 * s + 3) by omega, ms 3 (by omega)]
    dsimp only
    by_cases q0 : b = 0
    · exact ⟨_, x, m, by rw [if_pos q0], by rw [if_pos q0], hR⟩
    by_cases q1 : b = 1
    · exact ⟨_, x, m, by rw [if_neg q0, if_pos q1], by rw [if_neg q0, if_pos q1], hR⟩
    by_cases q2 : b = 2
    · exact ⟨_, x, m, by rw [if_neg q0, if_neg q1, if_pos q2], by rw [if_neg q0, if_neg q1, if_pos q2], hR⟩
    by_cases q3 : b = 3
    · exact ⟨_, x, m, by rw [if_neg q0, if_neg q1, if_neg q2, if_pos q3], by rw [if_neg q0, if_neg q1, if_neg q2, if_pos q3], hR⟩
    by_cases q4 : b = 4
    · exact ⟨_, x, m, by rw [if_neg q0, if_neg q1, if_neg q2, if_neg q3, if_pos q4], by rw [if_neg q0, if_neg q1, if_neg q2, if_neg q3, if_pos q4], hR⟩
    by_cases q5 : b = 5
    · exact ⟨_, x, m, by rw [if_neg q0, if_neg q1, if_neg q2, if_neg q3, if_neg q4, if_pos q5], by rw [if_neg q0, if_neg q1, if_neg q2, if_neg q3, if_neg q4, if_pos q5], hR⟩
    exact ⟨-1, x, m, by rw [if_neg q0, if_neg q1, if_neg q2, if_neg q3, if_neg q4, if_neg q5], by rw [if_neg q0, if_neg q1, if_neg q2, if_neg q3, if_neg q4, if_neg q5], hR⟩
  · rw [if_neg h, if_pos rfl, if_pos rfl]
    exact ⟨-1, x, m, rfl, rfl, hR⟩

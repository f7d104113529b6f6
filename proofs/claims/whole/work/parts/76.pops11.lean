/-! How many; the tape. -/
def g_sw (v : Nat → Nat) : Nat → Nat → Nat → Nat
  | 0, _, a => a
  | n + 1, k, a => g_sw v n (k + 1) (a + v k)
theorem g_sw_ct (p : Nat → Bool) : ∀ n k, g_sw (fun i => if p i = true then 1 else 0) n k (fb_ct p k) = fb_ct p (k + n)
  | 0, _ => rfl
  | n + 1, k => by
    unfold g_sw
    rw [show k + (n + 1) = k + 1 + n by omega]
    exact g_sw_ct p n (k + 1)
theorem px_aloop {σ : sw_St} {l : Nat → Nat → Nat} {D : g_D} (hD : px_st σ 38 l D) (h6 : l 0 2 ≤ 6) : ∀ (n fuel k acc : Nat), k + n = l 0 2 → n < fuel → L_X8_allMiles_4 fuel σ 38 (nI (l 0 2)) (nI acc) (nI k) = some (nI (g_sw (fun s => D.2.1 s 1) n k acc), σ)
  | 0, fuel + 1, k, acc, hk, hf => by
    show S_X8_allMiles_4 _ σ 38 (nI (l 0 2)) (nI acc) (nI k) = _
    unfold S_X8_allMiles_4
    rw [if_pos (nI_le (by omega) (by omega))]
    rfl
  | n + 1, fuel + 1, k, acc, hk, hf => by
    show S_X8_allMiles_4 _ σ 38 (nI (l 0 2)) (nI acc) (nI k) = _
    unfold S_X8_allMiles_4
    rw [if_neg (nI_ge (by omega) (by omega)), if_pos (st_O (Or.inl rfl)), if_pos (st_A2 (Or.inl rfl)), st_n2 (Or.inl rfl), if_pos (pz_inb (by omega) (by omega)), nI_clamp (by omega), (hD.2.2.2.1 k (by omega)).2.1, nI_add, nI_1]
    exact px_aloop hD h6 n fuel (k + 1) _ (by omega) (by omega)
theorem pm_aloop {τ : sw_St} {l : Nat → Nat → Nat} {P : Nat → List Nat} {D : g_D} (hl : pm_ld τ l P) (hD : pm_st τ 37 0 l D) (h6 : l 0 2 ≤ 6) : ∀ (n fuel k acc : Nat), k + n = l 0 2 → n < fuel → L_X11_woolAll_4 fuel τ (nI acc) (nI k) = some (nI (g_sw (fun s => D.2.1 s 1) n k acc), τ)
  | 0, fuel + 1, k, acc, hk, hf => by
    show S_X11_woolAll_4 _ τ (nI acc) (nI k) = _
    unfold S_X11_woolAll_4 F_X11_sheepMany
    dsimp only [Option.bind]
    rw [hl.2.2.1, if_pos (nI_le (by omega) (by omega))]
    rfl
  | n + 1, fuel + 1, k, acc, hk, hf => by
    have e := hD.2.2.2.1 k 1 (by omega) (by omega)
    rw [show 0 + (12 + 12 * k + 1) = 13 + 12 * k by omega] at e
    show S_X11_woolAll_4 _ τ (nI acc) (nI k) = _
    unfold S_X11_woolAll_4 F_X11_sheepMany
    dsimp only [Option.bind]
    rw [hl.2.2.1, if_neg (nI_ge (by omega) (by omega)), pm_woolOf (by omega)]
    dsimp only
    rw [e, nI_add, nI_1]
    exact pm_aloop hl hD h6 n fuel (k + 1) _ (by omega) (by omega)
theorem pm_oloop {τ : sw_St} {l : Nat → Nat → Nat} {P : Nat → List Nat} {op : Nat → Bool} (hl : pm_ld τ l P) (ho : pm_op τ l op) (h10 : l 0 1 ≤ 10) : ∀ (n fuel k acc : Nat), k + n = l 0 1 → n < fuel → L_X11_openMany_4 fuel τ (nI acc) (nI k) = some (nI (g_sw (fun i => if op i = true then 1 else 0) n k acc), τ)
  | 0, fuel + 1, k, acc, hk, hf => by
    show S_X11_openMany_4 _ τ (nI acc) (nI k) = _
    unfold S_X11_openMany_4 F_X11_gapMany
    dsimp only [Option.bind]
    rw [hl.2.1, if_pos (nI_le (by omega) (by omega))]
    rfl
  | n + 1, fuel + 1, k, acc, hk, hf => by
    show S_X11_openMany_4 _ τ (nI acc) (nI k) = _
    unfold S_X11_openMany_4 S_X11_openMany_23 F_X11_gapMany
    dsimp only [Option.bind]
    rw [hl.2.1, if_neg (nI_ge (by omega) (by omega)), pm_isOpen ho (by omega) h10]
    dsimp only
    unfold g_sw
    rw [nI_1, nI_1]
    by_cases h : op k = true
    · simp only [if_pos h]
      rw [if_neg pz_10]
      exact pm_oloop hl ho h10 n fuel (k + 1) _ (by omega) (by omega)
    · simp only [if_neg h, if_true]
      exact pm_oloop hl ho h10 n fuel (k + 1) _ (by omega) (by omega)
theorem op_4 : ll_4 RR := by
  intro x m hR a
  obtain ⟨w, l, P, nm, D, U, F, T, sd, rf, ft, im, hG, hX, hM⟩ := hR
  have hR : RR x m := ⟨w, l, P, nm, D, U, F, T, sd, rf, ft, im, hG, hX, hM⟩
  have g1 := hG.1.2.1
  have g2 := hG.1.2.2.1
  have hw := hX.1.1
  have hoL := hG.2.2.1.2.2.1
  have h2p : 2 ^ l 0 1 ≤ 2 ^ 10 := Nat.pow_le_pow_right (by omega) g1
  have e4x : F_J6_bitCount_0f7a4 x (x.1 38 2) = some (nI (g_pc (D.1 2)), x) := by rw [hX.2.2.2.1.2.2.1]; exact px_bc (by omega)
  have e4m : F_X11_openMany m = some (nI (g_pc (D.1 2)), m) := by
    have := pm_oloop hM.1 hM.2.2.1.op g1 (l 0 1) sw_fuel 0 0 (by omega) (by have := sw_fuel_ge; omega)
    have hct : g_sw (fun i => if (D.1 2).testBit i = true then 1 else 0) (l 0 1) 0 0 = g_pc (D.1 2) := by
      have h1 := g_sw_ct (fun k => (D.1 2).testBit k) (l 0 1) 0
      rw [Nat.zero_add, g_pc_ct (l 0 1) (by omega) _ hoL] at h1
      exact h1
    rw [hct] at this
    exact this
  have e6x : F_X8_allMiles x 38 (x.1 w 3) = some (nI (g_sw (fun s => D.2.1 s 1) (l 0 2) 0 0), x) := by
    rw [hX.1.2.2.2.2.1]
    exact px_aloop hX.2.2.2.1 g2 (l 0 2) sw_fuel 0 0 (by omega) (by have := sw_fuel_ge; omega)
  have e6m : F_X11_woolAll m = some (nI (g_sw (fun s => D.2.1 s 1) (l 0 2) 0 0), m) := pm_aloop hM.1 hM.2.2.1 g2 (l 0 2) sw_fuel 0 0 (by omega) (by have := sw_fuel_ge; omega)
  have e7x : x.1 38 11 = nI D.2.2.length := by
    obtain ⟨kf, d1, d2, d3, d4⟩ := hX.2.2.2.1.2.2.2.2
    exact d3
  have e7m : m.1 37 84 = nI D.2.2.length := by
    have := hM.2.2.1.2.2.2.2.1
    rwa [Nat.zero_add] at this
  have e9x : x.1 62 2 = nI U.length := by
    obtain ⟨nx, b1, b2, b3, b4⟩ := hX.2.2.2.2.1
    exact b3
  have e9m : m.1 0 67 = nI U.length := by
    obtain ⟨nw, b1, b2, b3, b4⟩ := hM.2.2.2.1
    exact b3
  have e5m : m.1 37 1 = nI (D.1 1) := hM.2.2.1.2.1
  unfold F_X10_has F_X11_has F_X11_fieldMany F_X11_gapMany F_X11_sheepMany
  rw [hX.1.2.1]
  dsimp only [Option.bind]
  rw [if_pos (ld_O hw), if_pos (ld_O hw), if_pos (ld_O hw), if_pos (ld_O hw), e4x, e4m, e6x, e6m, e7x, e7m, e9x, e9m, hX.1.2.2.1, hX.1.2.2.2.1, hX.1.2.2.2.2.1, hM.1.1, hM.1.2.1, hM.1.2.2.1, hX.2.2.2.1.1, hM.2.2.1.1, hX.2.2.2.1.2.1, e5m, hX.2.2.2.2.2.1.1, hM.2.2.2.2.1.1]
  dsimp only
  by_cases q0 : a = 0
  · exact ⟨_, x, m, by rw [if_pos q0], by rw [if_pos q0], hR⟩
  by_cases q1 : a = 1
  · exact ⟨_, x, m, by rw [if_neg q0, if_pos q1], by rw [if_neg q0, if_pos q1], hR⟩
  by_cases q2 : a = 2
  · exact ⟨_, x, m, by rw [if_neg q0, if_neg q1, if_pos q2], by rw [if_neg q0, if_neg q1, if_pos q2], hR⟩
  by_cases q3 : a = 3
  · exact ⟨_, x, m, by rw [if_neg q0, if_neg q1, if_neg q2, if_pos q3], by rw [if_neg q0, if_neg q1, if_neg q2, if_pos q3], hR⟩
  by_cases q4 : a = 4
  · exact ⟨_, x, m, by rw [if_neg q0, if_neg q1, if_neg q2, if_neg q3, if_pos q4], by rw [if_neg q0, if_neg q1, if_neg q2, if_neg q3, if_pos q4], hR⟩
  by_cases q5 : a = 5
  · exact ⟨_, x, m, by rw [if_neg q0, if_neg q1, if_neg q2, if_neg q3, if_neg q4, if_pos q5], by rw [if_neg q0, if_neg q1, if_neg q2, if_neg q3, if_neg q4, if_pos q5], hR⟩
  by_cases q6 : a = 6
  · exact ⟨_, x, m, by rw [if_neg q0, if_neg q1, if_neg q2, if_neg q3, if_neg q4, if_neg q5, if_pos q6], by rw [if_neg q0, if_neg q1, if_neg q2, if_neg q3, if_neg q4, if_neg q5, if_pos q6], hR⟩
  by_cases q7 : a = 7
  · exact ⟨_, x, m, by rw [if_neg q0, if_neg q1, if_neg q2, if_neg q3, if_neg q4, if_neg q5, if_neg q6, if_pos q7], by rw [if_neg q0, if_neg q1, if_neg q2, if_neg q3, if_neg q4, if_neg q5, if_neg q6, if_pos q7], hR⟩
  by_cases q8 : a = 8
  · exact ⟨_, x, m, by rw [if_neg q0, if_neg q1, if_neg q2, if_neg q3, if_neg q4, if_neg q5, if_neg q6, if_neg q7, if_pos q8], by rw [if_neg q0, if_neg q1, if_neg q2, if_neg q3, if_neg q4, if_neg q5, if_neg q6, if_neg q7, if_pos q8], hR⟩
  by_cases q9 : a = 9
  · exact ⟨_, x, m, by rw [if_neg q0, if_neg q1, if_neg q2, if_neg q3, if_neg q4, if_neg q5, if_neg q6, if_neg q7, if_neg q8, if_pos q9], by rw [if_neg q0, if_neg q1, if_neg q2, if_neg q3, if_neg q4, if_neg q5, if_neg q6, if_neg q7, if_neg q8, if_pos q9], hR⟩
  exact ⟨-1, x, m, by rw [if_neg q0, if_neg q1, if_neg q2, if_neg q3, if_neg q4, if_neg q5, if_neg q6, if_neg q7, if_neg q8, if_neg q9], by rw [if_neg q0, if_neg q1, if_neg q2, if_neg q3, if_neg q4, if_neg q5, if_neg q6, if_neg q7, if_neg q8, if_neg q9], hR⟩
/-! A byte comes on the tape. -/
theorem RX.byte {σ : sw_St} {w : Nat} {l : Nat → Nat → Nat} {P : Nat → List Nat} {nm : g_N} {D : g_D} {U : List g_D} {F : List (Nat × Nat × Nat)} {T : List Nat} {sd : Nat} {rf : Nat → Int32} {ft : Int32 × Int32} {im : List Nat} (h : RX σ w l P nm D U F T sd rf ft im) (b : Nat) : RX (sw_uI (sw_uI σ 1 T.length (sB b)) 0 1 (nI (T.length + 1))) w l P nm D U F (T ++ [b]) sd rf ft im := by
  have ms : pz_sm [0, 1] σ (sw_uI (sw_uI σ 1 T.length (sB b)) 0 1 (nI (T.length + 1))) := ((pz_sm.refl _ σ).I (by decide) _ _).I (by decide) _ _
  refine h.gen ms (by decide) rfl (h.2.2.2.1.mv (fun i hi => (ms _ (by simp; omega)).1)) (h.2.2.2.2.1.mv ms (by decide)) (h.2.2.2.2.2.1.mv (ms.r (by decide) 4) (ms 55 (by decide)).1) ⟨by rw [pz_Ie rfl rfl]; simp, fun i hi => ?_⟩ (by rw [pz_Ik (by decide), pz_Io (by decide)]; exact h.2.2.2.2.2.2.2.1) (fun i hi => by rw [ms.r (by decide)]; exact h.2.2.2.2.2.2.2.2.1 i hi) (by rw [ms.r (by decide), ms.r (by decide)]; exact h.2.2.2.2.2.2.2.2.2.1) (h.2.2.2.2.2.2.2.2.2.2.1.mv (ms.r (by decide) 1) (ms 225 (by decide)).1) (by rw [ms.r (by decide)]; exact h.2.2.2.2.2.2.2.2.2.2.2.1) (h.2.2.2.2.2.2.2.2.2.2.2.2.mv (ms 54 (by decide)).2.2)
  rw [pz_Io (by decide)]
  simp at hi
  by_cases e : i = T.length
  · rw [e, pz_Ie rfl rfl, List.getD_eq_getElem?_getD, List.getElem?_append_right (Nat.le_refl _)]
    simp
  · rw [pz_Ik e, h.2.2.2.2.2.2.1.2 i (by omega), List.getD_eq_getElem?_getD, List.getD_eq_getElem?_getD, List.getElem?_append_left (by omega)]
theorem RM.byte {τ : sw_St} {l : Nat → Nat → Nat} {P : Nat → List Nat} {nm : g_N} {D : g_D} {U : List g_D} {F : List (Nat × Nat × Nat)} {T : List Nat} {sd : Nat} {rf : Nat → Int32} {ft : Int32 × Int32} {im : List Nat} (h : RM τ l P nm D U F T sd rf ft im) (b : Nat) : RM (sw_uI (sw_uI τ 1 T.length (nI b)) 0 1 (nI (T.length + 1))) l P nm D U F (T ++ [b]) sd rf ft im := by
  have ms : pm_sm [1] [1] τ (sw_uI (sw_uI τ 1 T.length (nI b)) 0 1 (nI (T.length + 1))) := ((pm_sm.refl _ _ τ).I (by decide) (by decide) _ _).K (by decide) _
  have r : ∀ o, o ≠ 0 → o ∉ [1] → (sw_uI (sw_uI τ 1 T.length (nI b)) 0 1 (nI (T.length + 1))).1 o = τ.1 o := fun o h0 ho => (ms.1 o h0 ho).1
  have rk : ∀ k, k ∉ [1] → (sw_uI (sw_uI τ 1 T.length (nI b)) 0 1 (nI (T.length + 1))).1 0 k = τ.1 0 k := fun k hk => ms.2.1 k hk
  refine h.gen (h.1.mv ms (by unfold pm_LS; decide)) (ms.1 29 (by decide) (by decide)).2 (h.2.2.1.mvr (r 37 (by decide) (by decide))) (h.2.2.2.1.mv (rk 68 (by decide)) (rk 67 (by decide)) (r 46 (by decide) (by decide))) (h.2.2.2.2.1.mv (rk 63 (by decide)) (r 44 (by decide) (by decide))) ⟨by rw [pz_Ie rfl rfl]; simp, fun i hi => ?_⟩ (by rw [ms.2.2]; exact h.2.2.2.2.2.2.1) (fun j hj => by rw [r 2 (by decide) (by decide)]; exact h.2.2.2.2.2.2.2.1 j hj) (by rw [rk 7 (by decide), rk 8 (by decide)]; exact h.2.2.2.2.2.2.2.2.1) (h.2.2.2.2.2.2.2.2.2.1.mv (rk 105 (by decide)) (r 74 (by decide) (by decide))) (by rw [rk 52 (by decide), rk 58 (by decide)]; exact h.2.2.2.2.2.2.2.2.2.2.1) (h.2.2.2.2.2.2.2.2.2.2.2.mv ms (by decide))
  rw [pz_Io (by decide)]
  simp at hi
  by_cases e : i = T.length
  · rw [e, pz_Ie rfl rfl, List.getD_eq_getElem?_getD, List.getElem?_append_right (Nat.le_refl _)]
    simp
  · rw [pz_Ik e, h.2.2.2.2.2.1.2 i (by omega), List.getD_eq_getElem?_getD, List.getD_eq_getElem?_getD, List.getElem?_append_left (by omega)]
def g_b (y : Int32) : Nat := (y &&& 255).toNatClampNeg
theorem g_b_sp (y : Int32) : y &&& 255 = nI (g_b y) ∧ g_b y < 256 := by
  obtain ⟨j, hj, e⟩ := pk_andE y (m := 255) 8 (by decide)
  unfold g_b
  rw [e, nI_clamp (by omega)]
  exact ⟨rfl, hj⟩
theorem g_b_sB (y : Int32) : y.toInt8.toInt32.toInt8.toInt32 = sB (g_b y) := by
  rw [fb_byte_twice, ← fa_byte_low, (g_b_sp y).1]
  rfl
/-- the four bytes of a number, the highest first -/
def g_w (v : Int32) : List Nat := [g_b (v >>> 24), g_b (v >>> 16), g_b (v >>> 8), g_b (v >>> 0)]
theorem px_put1 {σ : sw_St} {w : Nat} {l : Nat → Nat → Nat} {P : Nat → List Nat} {nm : g_N} {D : g_D} {U : List g_D} {F : List (Nat × Nat × Nat)} {T : List Nat} {sd : Nat} {rf : Nat → Int32} {ft : Int32 × Int32} {im : List Nat} {fuel : Nat} {v x2 : Int32} (h : RX σ w l P nm D U F T sd rf ft im) (hl : T.length < 1600) (h2 : ¬ x2 < 0) : ∃ σ', L_X10_putBytes_3 (fuel + 1) σ v x2 = L_X10_putBytes_3 fuel σ' v (x2 + (-8)) ∧ RX σ' w l P nm D U F (T ++ [g_b (v >>> (x2 &&& 31))]) sd rf ft im := by
  refine ⟨_, ?_, h.byte _⟩
  show S_X10_putBytes_3 _ σ v x2 = _
  unfold S_X10_putBytes_3
  rw [if_neg h2, h.2.2.2.2.2.2.1.1, if_neg (show ¬ (1600 : Int32) ≤ nI T.length from nI_ge (b := 1600) hl (by omega)), if_pos (pz_inb hl (by omega)), nI_clamp (by omega), nI_1, g_b_sB]
theorem px_putBytes {σ : sw_St} {w : Nat} {l : Nat → Nat → Nat} {P : Nat → List Nat} {nm : g_N} {D : g_D} {U : List g_D} {F : List (Nat × Nat × Nat)} {T : List Nat} {sd : Nat} {rf : Nat → Int32} {ft : Int32 × Int32} {im : List Nat} (v : Int32) (h : RX σ w l P nm D U F T sd rf ft im) (hl : T.length + 4 ≤ 1600) : ∃ σ', F_X10_putBytes σ v = some ((), σ') ∧ RX σ' w l P nm D U F (T ++ g_w v) sd rf ft im := by
  obtain ⟨f, hf⟩ : ∃ f, sw_fuel = f + 5 := ⟨sw_fuel - 5, by have := sw_fuel_ge; omega⟩
  obtain ⟨σ1, p1, p2⟩ := px_put1 (fuel := f + 4) (v := v) (x2 := 24) h (by omega) (by decide)
  obtain ⟨σ2, q1, q2⟩ := px_put1 (fuel := f + 3) (v := v) (x2 := 16) p2 (by simp; omega) (by decide)
  obtain ⟨σ3, r1, r2⟩ := px_put1 (fuel := f + 2) (v := v) (x2 := 8) q2 (by simp; omega) (by decide)
  obtain ⟨σ4, s1, s2⟩ := px_put1 (fuel := f + 1) (v := v) (x2 := 0) r2 (by simp; omega) (by decide)
  refine ⟨σ4, ?_, ?_⟩
  · unfold F_X10_putBytes
    rw [hf, p1, show (24 : Int32) + (-8) = 16 from by decide, q1, show (16 : Int32) + (-8) = 8 from by decide, r1, show (8 : Int32) + (-8) = 0 from by decide, s1]
    show S_X10_putBytes_3 _ σ4 v (0 + (-8)) = _
    unfold S_X10_putBytes_3 S_X10_putBytes_46
    rw [if_pos (by decide)]
  · have e : T ++ g_w v = T ++ [g_b (v >>> (24 &&& 31))] ++ [g_b (v >>> (16 &&& 31))] ++ [g_b (v >>> (8 &&& 31))] ++ [g_b (v >>> (0 &&& 31))] := by
      unfold g_w
      rw [show (24 &&& 31 : Int32) = 24 from by decide, show (16 &&& 31 : Int32) = 16 from by decide, show (8 &&& 31 : Int32) = 8 from by decide, show (0 &&& 31 : Int32) = 0 from by decide]
      simp only [List.append_assoc, List.cons_append, List.nil_append]
    rw [e]
    exact s2
theorem pm_put1 {τ : sw_St} {l : Nat → Nat → Nat} {P : Nat → List Nat} {nm : g_N} {D : g_D} {U : List g_D} {F : List (Nat × Nat × Nat)} {T : List Nat} {sd : Nat} {rf : Nat → Int32} {ft : Int32 × Int32} {im : List Nat} {fuel : Nat} {x1 x2 x3 x4 x5 y sh : Int32} {k : Nat} (h : RM τ l P nm D U F T sd rf ft im) (hl : T.length < 1600) (hy : S_X11_feed_28 (fun σ x1 x2 x3 x4 x5 x6 => L_X11_feed_28 fuel σ x1 x2 x3 x4 x5 x6) τ x1 x2 x3 x4 x5 (nI k) = S_X11_feed_81 (fun σ x1 x2 x3 x4 x5 x6 => L_X11_feed_28 fuel σ x1 x2 x3 x4 x5 x6) τ x1 x2 x3 x4 x5 (nI k) y) (hs : (8 * (3 - (nI k - nI k / 4 * 4))) &&& 31 = sh) : ∃ τ', L_X11_feed_28 (fuel + 1) τ x1 x2 x3 x4 x5 (nI k) = L_X11_feed_28 fuel τ' x1 x2 x3 x4 x5 (nI (k + 1)) ∧ RM τ' l P nm D U F (T ++ [g_b (y >>> sh)]) sd rf ft im := by
  refine ⟨_, ?_, h.byte _⟩
  show S_X11_feed_28 _ τ x1 x2 x3 x4 x5 (nI k) = _
  rw [hy]
  unfold S_X11_feed_81
  rw [h.2.2.2.2.2.1.1, if_pos (pz_inb hl (by omega)), nI_clamp (by omega), hs, (g_b_sp _).1, nI_1, nI_1]
theorem pm_feed20 {τ : sw_St} {l : Nat → Nat → Nat} {P : Nat → List Nat} {nm : g_N} {D : g_D} {U : List g_D} {F : List (Nat × Nat × Nat)} {T : List Nat} {sd : Nat} {rf : Nat → Int32} {ft : Int32 × Int32} {im : List Nat} {x1 x2 x3 x4 x5 : Int32} (h0 : RM τ l P nm D U F T sd rf ft im) (hl : T.length + 20 ≤ 1600) : ∃ τ', L_X11_feed_28 sw_fuel τ x1 x2 x3 x4 x5 0 = some (nI (T.length + 20), τ') ∧ RM τ' l P nm D U F (T ++ (g_w x1 ++ g_w x2 ++ g_w x3 ++ g_w x4 ++ g_w x5)) sd rf ft im := by
  obtain ⟨f, hf⟩ : ∃ f, sw_fuel = f + 21 := ⟨sw_fuel - 21, by have := sw_fuel_ge; omega⟩
  obtain ⟨τ1, e1, h1⟩ := pm_put1 (fuel := f + 20) (x1 := x1) (x2 := x2) (x3 := x3) (x4 := x4) (x5 := x5) (y := x1) (sh := 24) (k := 0) h0 (by omega) (by unfold S_X11_feed_28; rw [if_neg (by decide), if_neg (by decide)]) (by decide)
  obtain ⟨τ2, e2, h2⟩ := pm_put1 (fuel := f + 19) (x1 := x1) (x2 := x2) (x3 := x3) (x4 := x4) (x5 := x5) (y := x1) (sh := 16) (k := 1) h1 (by simp; omega) (by unfold S_X11_feed_28; rw [if_neg (by decide), if_neg (by decide)]) (by decide)
  obtain ⟨τ3, e3, h3⟩ := pm_put1 (fuel := f + 18) (x1 := x1) (x2 := x2) (x3 := x3) (x4 := x4) (x5 := x5) (y := x1) (sh := 8) (k := 2) h2 (by simp; omega) (by unfold S_X11_feed_28; rw [if_neg (by decide), if_neg (by decide)]) (by decide)
  obtain ⟨τ4, e4, h4⟩ := pm_put1 (fuel := f + 17) (x1 := x1) (x2 := x2) (x3 := x3) (x4 := x4) (x5 := x5) (y := x1) (sh := 0) (k := 3) h3 (by simp; omega) (by unfold S_X11_feed_28; rw [if_neg (by decide), if_neg (by decide)]) (by decide)
  obtain ⟨τ5, e5, h5⟩ := pm_put1 (fuel := f + 16) (x1 := x1) (x2 := x2) (x3 := x3) (x4 := x4) (x5 := x5) (y := x2) (sh := 24) (k := 4) h4 (by simp; omega) (by unfold S_X11_feed_28; rw [if_neg (by decide), if_pos (by decide), if_neg (by decide)]) (by decide)
  obtain ⟨τ6, e6, h6⟩ := pm_put1 (fuel := f + 15) (x1 := x1) (x2 := x2) (x3 := x3) (x4 := x4) (x5 := x5) (y := x2) (sh := 16) (k := 5) h5 (by simp; omega) (by unfold S_X11_feed_28; rw [if_neg (by decide), if_pos (by decide), if_neg (by decide)]) (by decide)
  obtain ⟨τ7, e7, h7⟩ := pm_put1 (fuel := f + 14) (x1 := x1) (x2 := x2) (x3 := x3) (x4 := x4) (x5 := x5) (y := x2) (sh := 8) (k := 6) h6 (by simp; omega) (by unfold S_X11_feed_28; rw [if_neg (by decide), if_pos (by decide), if_neg (by decide)]) (by decide)
  obtain ⟨τ8, e8, h8⟩ := pm_put1 (fuel := f + 13) (x1 := x1) (x2 := x2) (x3 := x3) (x4 := x4) (x5 := x5) (y := x2) (sh := 0) (k := 7) h7 (by simp; omega) (by unfold S_X11_feed_28; rw [if_neg (by decide), if_pos (by decide), if_neg (by decide)]) (by decide)
  obtain ⟨τ9, e9, h9⟩ := pm_put1 (fuel := f + 12) (x1 := x1) (x2 := x2) (x3 := x3) (x4 := x4) (x5 := x5) (y := x3) (sh := 24) (k := 8) h8 (by simp; omega) (by unfold S_X11_feed_28; rw [if_neg (by decide), if_pos (by decide), if_pos (by decide), if_neg (by decide)]) (by decide)
  obtain ⟨τ10, e10, h10⟩ := pm_put1 (fuel := f + 11) (x1 := x1) (x2 := x2) (x3 := x3) (x4 := x4) (x5 := x5) (y := x3) (sh := 16) (k := 9) h9 (by simp; omega) (by unfold S_X11_feed_28; rw [if_neg (by decide), if_pos (by decide), if_pos (by decide), if_neg (by decide)]) (by decide)
  obtain ⟨τ11, e11, h11⟩ := pm_put1 (fuel := f + 10) (x1 := x1) (x2 := x2) (x3 := x3) (x4 := x4) (x5 := x5) (y := x3) (sh := 8) (k := 10) h10 (by simp; omega) (by unfold S_X11_feed_28; rw [if_neg (by decide), if_pos (by decide), if_pos (by decide), if_neg (by decide)]) (by decide)
  obtain ⟨τ12, e12, h12⟩ := pm_put1 (fuel := f + 9) (x1 := x1) (x2 := x2) (x3 := x3) (x4 := x4) (x5 := x5) (y := x3) (sh := 0) (k := 11) h11 (by simp; omega) (by unfold S_X11_feed_28; rw [if_neg (by decide), if_pos (by decide), if_pos (by decide), if_neg (by decide)]) (by decide)
  obtain ⟨τ13, e13, h13⟩ := pm_put1 (fuel := f + 8) (x1 := x1) (x2 := x2) (x3 := x3) (x4 := x4) (x5 := x5) (y := x4) (sh := 24) (k := 12) h12 (by simp; omega) (by unfold S_X11_feed_28; rw [if_neg (by decide), if_pos (by decide), if_pos (by decide), if_pos (by decide), if_neg (by decide)]) (by decide)
  obtain ⟨τ14, e14, h14⟩ := pm_put1 (fuel := f + 7) (x1 := x1) (x2 := x2) (x3 := x3) (x4 := x4) (x5 := x5) (y := x4) (sh := 16) (k := 13) h13 (by simp; omega) (by unfold S_X11_feed_28; rw [if_neg (by decide), if_pos (by decide), if_pos (by decide), if_pos (by decide), if_neg (by decide)]) (by decide)
  obtain ⟨τ15, e15, h15⟩ := pm_put1 (fuel := f + 6) (x1 := x1) (x2 := x2) (x3 := x3) (x4 := x4) (x5 := x5) (y := x4) (sh := 8) (k := 14) h14 (by simp; omega) (by unfold S_X11_feed_28; rw [if_neg (by decide), if_pos (by decide), if_pos (by decide), if_pos (by decide), if_neg (by decide)]) (by decide)
  obtain ⟨τ16, e16, h16⟩ := pm_put1 (fuel := f + 5) (x1 := x1) (x2 := x2) (x3 := x3) (x4 := x4) (x5 := x5) (y := x4) (sh := 0) (k := 15) h15 (by simp; omega) (by unfold S_X11_feed_28; rw [if_neg (by decide), if_pos (by decide), if_pos (by decide), if_pos (by decide), if_neg (by decide)]) (by decide)
  obtain ⟨τ17, e17, h17⟩ := pm_put1 (fuel := f + 4) (x1 := x1) (x2 := x2) (x3 := x3) (x4 := x4) (x5 := x5) (y := x5) (sh := 24) (k := 16) h16 (by simp; omega) (by unfold S_X11_feed_28; rw [if_neg (by decide), if_pos (by decide), if_pos (by decide), if_pos (by decide), if_pos (by decide)]) (by decide)
  obtain ⟨τ18, e18, h18⟩ := pm_put1 (fuel := f + 3) (x1 := x1) (x2 := x2) (x3 := x3) (x4 := x4) (x5 := x5) (y := x5) (sh := 16) (k := 17) h17 (by simp; omega) (by unfold S_X11_feed_28; rw [if_neg (by decide), if_pos (by decide), if_pos (by decide), if_pos (by decide), if_pos (by decide)]) (by decide)
  obtain ⟨τ19, e19, h19⟩ := pm_put1 (fuel := f + 2) (x1 := x1) (x2 := x2) (x3 := x3) (x4 := x4) (x5 := x5) (y := x5) (sh := 8) (k := 18) h18 (by simp; omega) (by unfold S_X11_feed_28; rw [if_neg (by decide), if_pos (by decide), if_pos (by decide), if_pos (by decide), if_pos (by decide)]) (by decide)
  obtain ⟨τ20, e20, h20⟩ := pm_put1 (fuel := f + 1) (x1 := x1) (x2 := x2) (x3 := x3) (x4 := x4) (x5 := x5) (y := x5) (sh := 0) (k := 19) h19 (by simp; omega) (by unfold S_X11_feed_28; rw [if_neg (by decide), if_pos (by decide), if_pos (by decide), if_pos (by decide), if_pos (by decide)]) (by decide)
  refine ⟨τ20, ?_, ?_⟩
  · rw [hf, show (0 : Int32) = nI 0 from rfl, e1, e2, e3, e4, e5, e6, e7, e8, e9, e10, e11, e12, e13, e14, e15, e16, e17, e18, e19, e20]
    show S_X11_feed_28 _ τ20 x1 x2 x3 x4 x5 (nI 20) = _
    unfold S_X11_feed_28
    rw [if_pos (by decide), h20.2.2.2.2.2.1.1]
    simp
  · unfold g_w
    simpa using h20
theorem op_0 : ll_0 RR := by
  intro x m hR a b c d e
  obtain ⟨w, l, P, nm, D, U, F, T, sd, rf, ft, im, hG, hX, hM⟩ := hR
  have hR : RR x m := ⟨w, l, P, nm, D, U, F, T, sd, rf, ft, im, hG, hX, hM⟩
  have ht := hG.2.2.2.2.2.1.1
  have e20 : nI T.length + 20 = nI (T.length + 20) := by rw [show (20 : Int32) = nI 20 from rfl, nI_add]
  unfold F_X10_feed F_X11_feed
  rw [hX.2.2.2.2.2.2.1.1, hM.2.2.2.2.2.1.1, e20]
  by_cases h : T.length + 20 ≤ 1600
  · rw [if_pos (show nI (T.length + 20) ≤ (1600 : Int32) from nI_le (b := 1600) h (by omega)), if_pos (show nI (T.length + 20) ≤ (1600 : Int32) from nI_le (b := 1600) h (by omega))]
    have lw : ∀ v, (g_w v).length = 4 := fun _ => rfl
    obtain ⟨σ1, p1, p2⟩ := px_putBytes a hX (by omega)
    obtain ⟨σ2, q1, q2⟩ := px_putBytes b p2 (by simp [lw]; omega)
    obtain ⟨σ3, r1, r2⟩ := px_putBytes c q2 (by simp [lw]; omega)
    obtain ⟨σ4, s1, s2⟩ := px_putBytes d r2 (by simp [lw]; omega)
    obtain ⟨σ5, t1, t2⟩ := px_putBytes e s2 (by simp [lw]; omega)
    obtain ⟨τ1, u1, u2⟩ := pm_feed20 (x1 := a) (x2 := b) (x3 := c) (x4 := d) (x5 := e) hM h
    rw [p1]
    dsimp only [Option.bind]
    rw [q1]
    dsimp only
    rw [r1]
    dsimp only
    rw [s1]
    dsimp only
    rw [t1]
    dsimp only
    have et : T ++ (g_w a ++ g_w b ++ g_w c ++ g_w d ++ g_w e) = T ++ g_w a ++ g_w b ++ g_w c ++ g_w d ++ g_w e := by simp
    rw [et] at u2
    have lt : (T ++ g_w a ++ g_w b ++ g_w c ++ g_w d ++ g_w e).length = T.length + 20 := by simp [lw]
    refine ⟨nI (T.length + 20), σ5, τ1, by rw [t2.2.2.2.2.2.2.1.1, lt], u1, w, l, P, nm, D, U, F, _, sd, rf, ft, im, ⟨hG.1, hG.2.1, hG.2.2.1, hG.2.2.2.1, hG.2.2.2.2.1, ⟨by rw [lt]; exact h, fun z hz => ?_⟩, hG.2.2.2.2.2.2⟩, t2, u2⟩
    have hb : ∀ v, z ∈ g_w v → z < 256 := fun v hv => by
      unfold g_w at hv
      simp only [List.mem_cons, List.not_mem_nil, or_false] at hv
      rcases hv with rfl | rfl | rfl | rfl <;> exact (g_b_sp _).2
    simp only [List.mem_append] at hz
    rcases hz with ((((hz | hz) | hz) | hz) | hz) | hz
    · exact hG.2.2.2.2.2.1.2 z hz
    · exact hb _ hz
    · exact hb _ hz
    · exact hb _ hz
    · exact hb _ hz
    · exact hb _ hz
  · rw [if_neg (show ¬ nI (T.length + 20) ≤ (1600 : Int32) from nI_ge (a := 1600) (by omega) (by omega)), if_neg (show ¬ nI (T.length + 20) ≤ (1600 : Int32) from nI_ge (a := 1600) (by omega) (by omega)), show (0 : Int32) = nI 0 from rfl, px_refuse (by omega)]
    exact ⟨-1, _, _, rfl, rfl, hR.ref (by omega)⟩

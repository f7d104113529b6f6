/-! Days by the seed, shear, undo. -/
theorem RM.storm {τ : sw_St} {l : Nat → Nat → Nat} {P : Nat → List Nat} {nm : g_N} {D : g_D} {U : List g_D} {F : List (Nat × Nat × Nat)} {T : List Nat} {sd : Nat} {rf : Nat → Int32} {ft : Int32 × Int32} {im : List Nat} {c25 : sw_St → Int32 → Int32 → Int32 → Option (Int32 × sw_St)} {x1 x2 x3 : Int32} (hg : g_ld l P) (hk : g_dk l D) (hsd : sd < 2 ^ 31) (hx : ¬ x1 ≤ x3) (h : RM τ l P nm D U F T sd rf ft im) : ∃ τ', S_X11_chance_25 c25 τ x1 x2 x3 = S_X11_chance_75 c25 τ' x1 (x2 + nI (g_storm l D sd).2.2) x3 ∧ RM τ' l P nm (g_storm l D sd).1 U F T (g_storm l D sd).2.1 rf ft im := by
  have g1 := hg.2.1
  have g3 := hg.2.2.2.1
  have hs2 : g_sd sd < 2147483648 := Nat.mod_lt _ (by omega)
  have hlt : g_sd sd / 64 % 100 < 100 := Nat.mod_lt _ (by omega)
  have h1 := h.seed (g_sd sd)
  unfold S_X11_chance_25 F_X11_gapMany g_storm
  rw [if_neg hx, show (100 : Int32) = nI 100 from rfl, pm_draw h.2.2.2.2.2.2.1 hsd (by omega) (by omega)]
  dsimp only [Option.bind]
  rw [h1.1.2.2.2.1, h1.1.2.1]
  have z0 : x2 + nI 0 = x2 := Int32.add_zero x2
  by_cases c1 : l 0 3 ≤ g_sd sd / 64 % 100
  · rw [if_pos (nI_le c1 (by omega)), if_pos (Or.inl c1)]
    exact ⟨_, by rw [z0], h1⟩
  · rw [if_neg (nI_ge (by omega) (by omega))]
    by_cases c2 : l 0 1 = 0
    · rw [if_pos (show nI (l 0 1) ≤ (0 : Int32) from by rw [c2]; decide), if_pos (Or.inr c2)]
      exact ⟨_, by rw [z0], h1⟩
    · rw [if_neg (nI_nle (by omega) (by omega)), if_neg (by omega), pm_draw h1.2.2.2.2.2.2.1 hs2 (by omega) (by omega)]
      dsimp only
      have hmod : g_sd (g_sd sd) / 64 % l 0 1 < l 0 1 := Nat.mod_lt _ (by omega)
      have h2 := h1.seed (g_sd (g_sd sd))
      rw [pm_ad, if_pos (pz_inb (by omega) (by omega)), if_pos (pz_inb (by omega) (by omega)), nI_clamp (by omega)]
      exact ⟨_, rfl, h2.setD (S := [37]) (K := []) ((pm_sm.refl _ _ _).I (by decide) (by decide) _ _) (by decide) (by decide) (h2.2.2.1.opn hmod g1)⟩
def g_cn (l : Nat → Nat → Nat) (P : Nat → List Nat) : Nat → g_D → Nat → Nat → g_D × Nat × Nat
  | 0, D, sd, c => (D, sd, c)
  | n + 1, D, sd, c => g_cn l P n (g_day l P (g_storm l D sd).1) (g_storm l D sd).2.1 (c + (g_storm l D sd).2.2)
theorem g_cn_dk {l : Nat → Nat → Nat} {P : Nat → List Nat} (hg : g_ld l P) : ∀ (n : Nat) (D : g_D) (sd c : Nat), g_dk l D → sd < 2 ^ 31 → D.1 0 + n ≤ 999 → g_dk l (g_cn l P n D sd c).1 ∧ (g_cn l P n D sd c).2.1 < 2 ^ 31
  | 0, _, _, _, h, h2, _ => ⟨h, h2⟩
  | n + 1, D, sd, c, h, h2, hd => by
    obtain ⟨k1, k2, k3, -⟩ := g_storm_dk (sd := sd) h
    exact g_cn_dk hg n _ _ _ (g_day_dk hg k1 (by omega)) k2 (by show ((g_storm l D sd).1.1 0 + 1) + n ≤ 999; omega)
theorem px_cloop {w : Nat} {l : Nat → Nat → Nat} {P : Nat → List Nat} {nm : g_N} {U : List g_D} {F : List (Nat × Nat × Nat)} {T : List Nat} {rf : Nat → Int32} {ft : Int32 × Int32} {im : List Nat} {N : Nat} (hg : g_ld l P) (hN : N ≤ 1000) : ∀ (n fuel k c sd : Nat) (D : g_D) (σ : sw_St), RX σ w l P nm D U F T sd rf ft im → g_dk l D → sd < 2 ^ 31 → k + n = N → n < fuel → D.1 0 + n ≤ 999 → ∃ σ', L_X10_chance_36 fuel σ (nI N) (nI c) (nI k) = some (nI (g_cn l P n D sd c).2.2, σ') ∧ RX σ' w l P nm (g_cn l P n D sd c).1 U F T (g_cn l P n D sd c).2.1 rf ft im
  | 0, fuel + 1, k, c, sd, D, σ, h, hk, hsd, hn, hf, hd => by
    refine ⟨σ, ?_, h⟩
    show S_X10_chance_36 _ σ (nI N) (nI c) (nI k) = _
    unfold S_X10_chance_36
    rw [if_pos (nI_le (by omega) (by omega))]
    rfl
  | n + 1, fuel + 1, k, c, sd, D, σ, h, hk, hsd, hn, hf, hd => by
    obtain ⟨k1, k2, k3, k4⟩ := g_storm_dk (sd := sd) hk
    obtain ⟨σ1, p1, p2⟩ := h.storm hg hk hsd
    obtain ⟨σ2, q1, q2⟩ := p2.day hg k1 (by omega)
    obtain ⟨σ3, r1, r2⟩ := px_cloop hg hN n fuel (k + 1) (c + (g_storm l D sd).2.2) _ _ σ2 q2 (g_day_dk hg k1 (by omega)) k2 (by omega) (by omega) (by show ((g_storm l D sd).1.1 0 + 1) + n ≤ 999; omega)
    refine ⟨σ3, ?_, r2⟩
    show S_X10_chance_36 _ σ (nI N) (nI c) (nI k) = _
    unfold S_X10_chance_36 S_X10_chance_51
    rw [if_neg (nI_ge (by omega) (by omega)), p1]
    dsimp only [Option.bind]
    rw [q1]
    dsimp only
    rw [nI_1, nI_1]
    show _ = some (nI (g_cn l P n (g_day l P (g_storm l D sd).1) (g_storm l D sd).2.1 (c + (g_storm l D sd).2.2)).2.2, σ3)
    rw [← r1]
    rcases (show (g_storm l D sd).2.2 = 0 ∨ (g_storm l D sd).2.2 = 1 by omega) with z | z
    · rw [z, if_pos (by decide)]
      rfl
    · rw [z, if_neg (by decide)]
theorem pm_cloop {l : Nat → Nat → Nat} {P : Nat → List Nat} {nm : g_N} {U : List g_D} {F : List (Nat × Nat × Nat)} {T : List Nat} {rf : Nat → Int32} {ft : Int32 × Int32} {im : List Nat} {N : Nat} (hg : g_ld l P) (hN : N ≤ 1000) : ∀ (n fuel k c sd : Nat) (D : g_D) (τ : sw_St), RM τ l P nm D U F T sd rf ft im → g_dk l D → sd < 2 ^ 31 → k + n = N → n < fuel → D.1 0 + n ≤ 999 → ∃ τ', L_X11_chance_25 fuel τ (nI N) (nI c) (nI k) = some (nI (g_cn l P n D sd c).2.2, τ') ∧ RM τ' l P nm (g_cn l P n D sd c).1 U F T (g_cn l P n D sd c).2.1 rf ft im
  | 0, fuel + 1, k, c, sd, D, τ, h, hk, hsd, hn, hf, hd => by
    refine ⟨τ, ?_, h⟩
    show S_X11_chance_25 _ τ (nI N) (nI c) (nI k) = _
    unfold S_X11_chance_25
    rw [if_pos (nI_le (by omega) (by omega))]
    rfl
  | n + 1, fuel + 1, k, c, sd, D, τ, h, hk, hsd, hn, hf, hd => by
    obtain ⟨k1, k2, k3, k4⟩ := g_storm_dk (sd := sd) hk
    obtain ⟨τ1, p1, p2⟩ := h.storm (c25 := fun σ x1 x2 x3 => L_X11_chance_25 fuel σ x1 x2 x3) (x1 := nI N) (x2 := nI c) (x3 := nI k) hg hk hsd (nI_ge (by omega) (by omega))
    obtain ⟨c0, hc0⟩ := nI_all (τ1.1 0 59)
    obtain ⟨τ2, q1, q2, -⟩ := p2.day hg k1 hc0
    obtain ⟨τ3, r1, r2⟩ := pm_cloop hg hN n fuel (k + 1) (c + (g_storm l D sd).2.2) _ _ τ2 q2 (g_day_dk hg k1 (by omega)) k2 (by omega) (by omega) (by show ((g_storm l D sd).1.1 0 + 1) + n ≤ 999; omega)
    refine ⟨τ3, ?_, r2⟩
    show S_X11_chance_25 _ τ (nI N) (nI c) (nI k) = _
    rw [p1]
    unfold S_X11_chance_75
    rw [q1]
    dsimp only [Option.bind]
    rw [nI_1, nI_add]
    exact r1
theorem op_30 : ll_30 RR := by
  intro x m hR a
  obtain ⟨w, l, P, nm, D, U, F, T, sd, rf, ft, im, hG, hX, hM⟩ := hR
  have hR : RR x m := ⟨w, l, P, nm, D, U, F, T, sd, rf, ft, im, hG, hX, hM⟩
  have hd := hG.2.2.1.1
  have hsd := hG.2.2.2.2.2.2.1
  have hno : RR (sw_uI x 226 3 (x.1 226 3 + 1)) (sw_uI m 2 3 (m.1 2 3 + 1)) := hR.ref (by omega)
  unfold F_X10_chance F_X11_chance S_X10_chance_15
  rw [px_refC, show F_X11_isAhead m a 1 100 = _ from pm_ahead (lo := 1) (most := 100) hd (by omega) (by omega) hM.2.2.1.1, show F_X10_canCome x a 100 = _ from px_can (most := 100) hd (by omega) hX.2.2.2.1.1]
  dsimp only [Option.bind]
  by_cases h1 : a < 1
  · rw [if_pos h1, g_cm0 h1, if_neg (show ¬ false = true by decide), if_pos rfl, show (3 : Int32) = nI 3 from rfl, pm_refuses (by omega)]
    exact ⟨-1, _, _, rfl, rfl, hno⟩
  rw [if_neg h1, g_cm1 h1]
  by_cases h : g_cm a 1 100 (D.1 0) = true
  · obtain ⟨n, hn1, hn2, hn3, rfl⟩ := g_cm_of h
    obtain ⟨σ1, p1, p2⟩ := hX.keep hG
    obtain ⟨τ1, q1, q2⟩ := hM.keep hG
    obtain ⟨σ2, r1, r2⟩ := px_cloop (N := n) hG.1 (by omega) n sw_fuel 0 0 sd D σ1 p2 hG.2.2.1 hsd (by omega) (by have := sw_fuel_ge; omega) hn3
    obtain ⟨τ2, s1, s2⟩ := pm_cloop (N := n) hG.1 (by omega) n sw_fuel 0 0 sd D τ1 q2 hG.2.2.1 hsd (by omega) (by have := sw_fuel_ge; omega) hn3
    obtain ⟨e1, e2⟩ := g_cn_dk hG.1 n D sd 0 hG.2.2.1 hsd hn3
    have hk := hG.keep e1
    rw [if_pos h, if_neg pz_10, if_neg pz_10, p1, q1]
    exact ⟨_, σ2, τ2, r1, s1, w, l, P, nm, (g_cn l P n D sd 0).1, (D :: U).take 20, F, T, (g_cn l P n D sd 0).2.1, rf, ft, im, ⟨hk.1, hk.2.1, hk.2.2.1, hk.2.2.2.1, hk.2.2.2.2.1, hk.2.2.2.2.2.1, e2, hk.2.2.2.2.2.2.2⟩, r2, s2⟩
  · rw [if_neg h, if_pos rfl, if_pos rfl, show (3 : Int32) = nI 3 from rfl, pm_refuses (by omega)]
    exact ⟨-1, _, _, rfl, rfl, hno⟩
/-! Acts are undone. -/
theorem pm_uloop {nw u : Nat} (hnw : nw < 20) (hu : 1 ≤ u ∧ u ≤ 20) : ∀ (n fuel k : Nat) (τ : sw_St), k + n = 245 → n < fuel → τ.1 0 68 = nI nw → τ.1 0 67 = nI u →
    ∃ τ', L_X11_undo_21 fuel τ (nI k) = some (1, τ') ∧ (∀ j, k ≤ j → j < 245 → τ'.1 37 j = τ.1 46 (245 * nw + j)) ∧ (∀ j, j < k → τ'.1 37 j = τ.1 37 j) ∧ pm_sm [37] [67, 68] τ τ' ∧ τ'.1 0 67 = nI (u - 1) ∧ τ'.1 0 68 = nI ((nw + 19) % 20)
  | 0, fuel + 1, k, τ, hk, hf, h68, h67 => by
    have e : nI nw + 20 - 1 - (nI nw + 20 - 1) / 20 * 20 = nI ((nw + 19) % 20) := by
      rw [show nI nw + (20 : Int32) - 1 = nI (nw + 19) from by rw [show (20 : Int32) = nI 20 from rfl, nI_add]; exact nI_pred (nw + 19), show (20 : Int32) = nI 20 from rfl, pk_rem (by omega) (by omega) (by omega)]
    have e2 : nI u - 1 = nI (u - 1) := by
      have := nI_pred (u - 1)
      rwa [show u - 1 + 1 = u by omega] at this
    refine ⟨sw_uI (sw_uI τ 0 68 (nI ((nw + 19) % 20))) 0 67 (nI (u - 1)), ?_, fun j h1 h2 => by omega, fun j hj => by rw [pz_Io (by decide), pz_Io (by decide)], ((pm_sm.refl _ _ τ).K (by decide) _).K (by decide) _, pz_Ie rfl rfl, by rw [pz_Ik (by decide), pz_Ie rfl rfl]⟩
    show S_X11_undo_21 _ τ (nI k) = _
    unfold S_X11_undo_21
    rw [if_pos (show (245 : Int32) ≤ nI k from nI_le (a := 245) (by omega) (by omega)), h68, h67, e, e2]
  | n + 1, fuel + 1, k, τ, hk, hf, h68, h67 => by
    obtain ⟨τ', p1, p2, p3, p4, p5, p6⟩ := pm_uloop hnw hu n fuel (k + 1) (sw_uI τ 37 k (τ.1 46 (245 * nw + k))) (by omega) (by omega) (by rw [pz_Io (by decide)]; exact h68) (by rw [pz_Io (by decide)]; exact h67)
    refine ⟨τ', ?_, fun j h1 h2 => ?_, fun j hj => by rw [p3 j (by omega), pz_Ik (by omega)], ((pm_sm.refl _ _ τ).I (by decide) (by decide) _ _).trans p4, p5, p6⟩
    · show S_X11_undo_21 _ τ (nI k) = _
      unfold S_X11_undo_21
      rw [if_neg (show ¬ (245 : Int32) ≤ nI k from nI_ge (b := 245) (by omega) (by omega)), h68, show (245 : Int32) * nI nw + nI k = nI (245 * nw + k) from by rw [show (245 : Int32) = nI 245 from rfl, pk_mul, nI_add], if_pos (pz_inb (by omega) (by omega)), if_pos (pz_inb (by omega) (by omega)), nI_clamp (by omega), nI_clamp (by omega), nI_1]
      exact p1
    · by_cases e : j = k
      · rw [e, p3 k (by omega), pz_Ie rfl rfl]
      · rw [p2 j (by omega) h2, pz_Io (by decide)]
theorem op_31 : ll_31 RR := by
  intro x m hR
  obtain ⟨w, l, P, nm, D, U, F, T, sd, rf, ft, im, hG, hX, hM⟩ := hR
  have hR : RR x m := ⟨w, l, P, nm, D, U, F, T, sd, rf, ft, im, hG, hX, hM⟩
  obtain ⟨nx, b1, b2, b3, b4, b5⟩ := hX.2.2.2.2.1
  obtain ⟨nw, e1, e2, e3, e4⟩ := hM.2.2.2.1
  have hU20 := hG.2.2.2.1.1
  unfold F_X10_undo F_X11_undo
  rw [b3, e3]
  cases hUU : U with
  | nil =>
    rw [if_pos (by rfl), if_pos (by rfl), show (4 : Int32) = nI 4 from rfl, px_refuse (by omega)]
    exact ⟨0, _, _, rfl, rfl, hR.ref (by omega)⟩
  | cons E U' =>
    rw [hUU] at b5 e4 hU20 b3 e3
    simp at hU20
    have hE : g_dk l E := hG.2.2.2.1.2 E (by rw [hUU]; exact List.mem_cons_self)
    have hlen : (E :: U').length = U'.length + 1 := rfl
    rw [if_neg (by rw [hlen]; exact nI_ne0 (by omega) (by omega)), if_neg (by rw [hlen]; exact nI_ne0 (by omega) (by omega))]
    -- the class
    have hnx : (nx + 19) % 20 < 20 := Nat.mod_lt _ (by omega)
    have hs0 : isSt (64 + 8 * ((nx + 19) % 20)) := Or.inr (Or.inr ⟨_, hnx, rfl⟩)
    have hst := b5 0 E rfl
    rw [show (nx + 19 - 0) % 20 = (nx + 19) % 20 from rfl] at hst
    have ms : pz_sm [62] x (sw_uI (sw_uI x 62 1 (nI ((nx + 19) % 20))) 62 2 (nI U'.length)) := ((pz_sm.refl _ x).I (by decide) _ _).I (by decide) _ _
    obtain ⟨σ1, p1, p2, p3⟩ := px_copyFrom (σ := sw_uI (sw_uI x 62 1 (nI ((nx + 19) % 20))) 62 2 (nI U'.length)) (Or.inl rfl) hs0 (fun i j hi hj => by omega)
    have e : nI nx + 20 - 1 - (nI nx + 20 - 1) / 20 * 20 = nI ((nx + 19) % 20) := by
      rw [show nI nx + (20 : Int32) - 1 = nI (nx + 19) from by rw [show (20 : Int32) = nI 20 from rfl, nI_add]; exact nI_pred (nx + 19), show (20 : Int32) = nI 20 from rfl, pk_rem (by omega) (by omega) (by omega)]
    have eR : F_X4_restore x 38 = some ((), σ1) := by
      unfold F_X4_restore
      rw [b2, e, if_pos (pz_inb hnx (by omega)), nI_clamp (by omega), b4 _ hnx]
      dsimp only [Option.bind]
      rw [if_pos (sx_of (Or.inl rfl)).1, b3, show nI (E :: U').length - 1 = nI U'.length from nI_pred _, p1]
    have mt : pz_sm [38, 39, 40, 41, 42, 43, 44, 45, 62] x σ1 := (ms.mono (by decide)).trans (p2.mono (by decide))
    have hX' : RX σ1 w l P nm E U' F T sd rf ft im := by
      refine hX.gen mt (by decide) (mt.rR (by decide) 4) (p3 l E hG.1.2.2.1 (hst.mv (fun j hj => (ms _ (by simp; omega)).1))) ⟨(nx + 19) % 20, hnx, ?_, ?_, fun j hj => by rw [mt.rR (by decide)]; exact b4 j hj, fun i G hi => ?_⟩ (hX.2.2.2.2.2.1.mv (mt.r (by decide) 4) (mt 55 (by decide)).1) (hX.2.2.2.2.2.2.1.mv (mt.r (by decide) 1) (mt 1 (by decide)).1) (by rw [mt.r (by decide)]; exact hX.2.2.2.2.2.2.2.1) (fun i hi => by rw [mt.r (by decide)]; exact hX.2.2.2.2.2.2.2.2.1 i hi) (by rw [mt.r (by decide), mt.r (by decide)]; exact hX.2.2.2.2.2.2.2.2.2.1) (hX.2.2.2.2.2.2.2.2.2.2.1.mv (mt.r (by decide) 1) (mt 225 (by decide)).1) (by rw [mt.r (by decide)]; exact hX.2.2.2.2.2.2.2.2.2.2.2.1) (hX.2.2.2.2.2.2.2.2.2.2.2.2.mv (mt 54 (by decide)).2.2)
      · rw [p2.r (by decide), pz_Ik (by decide), pz_Ie rfl rfl]
      · rw [p2.r (by decide), pz_Ie rfl rfl]
      · have hlt : i < U'.length := (List.getElem?_eq_some_iff.mp hi).1
        have := b5 (i + 1) G (by simpa using hi)
        rw [show ((nx + 19) % 20 + 19 - i) % 20 = (nx + 19 - (i + 1)) % 20 by omega]
        exact this.mv (fun j hj => (mt _ (by simp; omega)).1)
    -- the reference
    obtain ⟨τ1, q1, q2, q3, q4, q5, q6⟩ := pm_uloop (nw := nw) (u := U'.length + 1) e1 (by omega) 245 sw_fuel 0 m (by omega) (by have := sw_fuel_ge; omega) e2 e3
    have hM' : RM τ1 l P nm E U' F T sd rf ft im := by
      have r : ∀ o, o ≠ 0 → o ∉ [37] → τ1.1 o = m.1 o := fun o h0 ho => (q4.1 o h0 ho).1
      have rk : ∀ k, k ∉ [67, 68] → τ1.1 0 k = m.1 0 k := fun k hk => q4.2.1 k hk
      have h0 := e4 0 E rfl
      rw [show (nw + 20 - 0) % 20 = nw by omega] at h0
      refine hM.gen (hM.1.mv q4 (by unfold pm_LS; decide)) (q4.1 29 (by decide) (by decide)).2 (h0.cp hG.1.2.1 hG.1.2.2.1 hE.2.2.2.2.1 (fun j hj => by rw [Nat.zero_add, q2 j (by omega) hj])) ⟨(nw + 19) % 20, Nat.mod_lt _ (by omega), q6, q5, fun i G hi => ?_⟩ (hM.2.2.2.2.1.mv (rk 63 (by decide)) (r 44 (by decide) (by decide))) (hM.2.2.2.2.2.1.mv (rk 1 (by decide)) (r 1 (by decide) (by decide))) (by rw [q4.2.2]; exact hM.2.2.2.2.2.2.1) (fun j hj => by rw [r 2 (by decide) (by decide)]; exact hM.2.2.2.2.2.2.2.1 j hj) (by rw [rk 7 (by decide), rk 8 (by decide)]; exact hM.2.2.2.2.2.2.2.2.1) (hM.2.2.2.2.2.2.2.2.2.1.mv (rk 105 (by decide)) (r 74 (by decide) (by decide))) (by rw [rk 52 (by decide), rk 58 (by decide)]; exact hM.2.2.2.2.2.2.2.2.2.2.1) (hM.2.2.2.2.2.2.2.2.2.2.2.mv q4 (by decide))
      have hlt : i < U'.length := (List.getElem?_eq_some_iff.mp hi).1
      have := e4 (i + 1) G (by simpa using hi)
      rw [show ((nw + 19) % 20 + 20 - i) % 20 = (nw + 20 - (i + 1)) % 20 by omega]
      exact this.mvr (r 46 (by decide) (by decide))
    rw [eR]
    exact ⟨1, σ1, τ1, rfl, q1, w, l, P, nm, E, U', F, T, sd, rf, ft, im, ⟨hG.1, hG.2.1, hE, ⟨by omega, fun G hg => hG.2.2.2.1.2 G (by rw [hUU]; exact List.mem_cons_of_mem _ hg)⟩, hG.2.2.2.2⟩, hX', hM'⟩
